section
-- ===== PART A: goes FIRST, ahead of the names: the tables' words, and 'selects' of the private methods out of them =====
/-- a private method of a class that the tables say can be made, by its rows of tables_1 -/
def lw_okq (q : MethodName × Nat) : Prop := (q.1.cls ≠ "java/lang/invoke/MethodHandle" ∧ q.1.cls ≠ "java/lang/invoke/VarHandle") ∧ Cond.instantiable q.1.cls q.2 ∈ tables_1 ∧ Cond.privateMethod q.1 ∈ tables_1 ∧ Cond.instanceMethod q.1 ∈ tables_1
theorem lw_p0 : lw_okq (⟨"DrawnPaths", "lostPlaces", "()I"⟩, 6) := ⟨⟨by decide +kernel, by decide +kernel⟩, List.mem_of_getElem? (i := 20) (by decide +kernel), List.mem_of_getElem? (i := 278) (by decide +kernel), List.mem_of_getElem? (i := 279) (by decide +kernel)⟩
theorem lw_p1 : lw_okq (⟨"java/lang/Throwable", "fillInStackTrace", "(I)Ljava/lang/Throwable;"⟩, 6) := ⟨⟨by decide +kernel, by decide +kernel⟩, List.mem_of_getElem? (i := 402) (by decide +kernel), List.mem_of_getElem? (i := 400) (by decide +kernel), List.mem_of_getElem? (i := 401) (by decide +kernel)⟩
theorem lw_p2 : lw_okq (⟨"DrawnPaths", "livingPointer", "(I)LDrawnPaths$Pointer;"⟩, 6) := ⟨⟨by decide +kernel, by decide +kernel⟩, List.mem_of_getElem? (i := 20) (by decide +kernel), List.mem_of_getElem? (i := 657) (by decide +kernel), List.mem_of_getElem? (i := 658) (by decide +kernel)⟩
theorem lw_p3 : lw_okq (⟨"DrawnPathsModel", "blank", "()V"⟩, 31) := ⟨⟨by decide +kernel, by decide +kernel⟩, List.mem_of_getElem? (i := 702) (by decide +kernel), List.mem_of_getElem? (i := 708) (by decide +kernel), List.mem_of_getElem? (i := 709) (by decide +kernel)⟩
theorem lw_p4 : lw_okq (⟨"DrawnPathsModel", "refused", "(I)Z"⟩, 31) := ⟨⟨by decide +kernel, by decide +kernel⟩, List.mem_of_getElem? (i := 702) (by decide +kernel), List.mem_of_getElem? (i := 823) (by decide +kernel), List.mem_of_getElem? (i := 824) (by decide +kernel)⟩
theorem lw_p5 : lw_okq (⟨"DrawnPathsModel", "change", "(II)V"⟩, 31) := ⟨⟨by decide +kernel, by decide +kernel⟩, List.mem_of_getElem? (i := 702) (by decide +kernel), List.mem_of_getElem? (i := 827) (by decide +kernel), List.mem_of_getElem? (i := 828) (by decide +kernel)⟩
theorem lw_p6 : lw_okq (⟨"DrawnPathsModel", "born", "(II)V"⟩, 31) := ⟨⟨by decide +kernel, by decide +kernel⟩, List.mem_of_getElem? (i := 702) (by decide +kernel), List.mem_of_getElem? (i := 855) (by decide +kernel), List.mem_of_getElem? (i := 856) (by decide +kernel)⟩
theorem lw_p7 : lw_okq (⟨"DrawnPathsModel", "stateNow", "()I"⟩, 31) := ⟨⟨by decide +kernel, by decide +kernel⟩, List.mem_of_getElem? (i := 702) (by decide +kernel), List.mem_of_getElem? (i := 863) (by decide +kernel), List.mem_of_getElem? (i := 864) (by decide +kernel)⟩
theorem lw_p8 : lw_okq (⟨"DrawnPathsModel", "living", "()I"⟩, 31) := ⟨⟨by decide +kernel, by decide +kernel⟩, List.mem_of_getElem? (i := 702) (by decide +kernel), List.mem_of_getElem? (i := 867) (by decide +kernel), List.mem_of_getElem? (i := 868) (by decide +kernel)⟩
theorem lw_p9 : lw_okq (⟨"DrawnPathsModel", "stepAll", "()V"⟩, 31) := ⟨⟨by decide +kernel, by decide +kernel⟩, List.mem_of_getElem? (i := 702) (by decide +kernel), List.mem_of_getElem? (i := 871) (by decide +kernel), List.mem_of_getElem? (i := 872) (by decide +kernel)⟩
theorem lw_p10 : lw_okq (⟨"DrawnPathsModel", "fits", "(I)I"⟩, 31) := ⟨⟨by decide +kernel, by decide +kernel⟩, List.mem_of_getElem? (i := 702) (by decide +kernel), List.mem_of_getElem? (i := 875) (by decide +kernel), List.mem_of_getElem? (i := 876) (by decide +kernel)⟩
theorem lw_p11 : lw_okq (⟨"DrawnPathsModel", "topOf", "(I)J"⟩, 31) := ⟨⟨by decide +kernel, by decide +kernel⟩, List.mem_of_getElem? (i := 702) (by decide +kernel), List.mem_of_getElem? (i := 885) (by decide +kernel), List.mem_of_getElem? (i := 886) (by decide +kernel)⟩
theorem lw_p12 : lw_okq (⟨"DrawnPathsModel", "spell", "(J)I"⟩, 31) := ⟨⟨by decide +kernel, by decide +kernel⟩, List.mem_of_getElem? (i := 702) (by decide +kernel), List.mem_of_getElem? (i := 889) (by decide +kernel), List.mem_of_getElem? (i := 890) (by decide +kernel)⟩
theorem lw_p13 : lw_okq (⟨"DrawnPathsModel", "act", "(I)V"⟩, 31) := ⟨⟨by decide +kernel, by decide +kernel⟩, List.mem_of_getElem? (i := 702) (by decide +kernel), List.mem_of_getElem? (i := 894) (by decide +kernel), List.mem_of_getElem? (i := 895) (by decide +kernel)⟩
theorem lw_p14 : lw_okq (⟨"DrawnPathsModel", "push", "(IJ)V"⟩, 31) := ⟨⟨by decide +kernel, by decide +kernel⟩, List.mem_of_getElem? (i := 702) (by decide +kernel), List.mem_of_getElem? (i := 898) (by decide +kernel), List.mem_of_getElem? (i := 899) (by decide +kernel)⟩
theorem lw_p15 : lw_okq (⟨"DrawnPathsModel", "doReckon", "(II)V"⟩, 31) := ⟨⟨by decide +kernel, by decide +kernel⟩, List.mem_of_getElem? (i := 702) (by decide +kernel), List.mem_of_getElem? (i := 905) (by decide +kernel), List.mem_of_getElem? (i := 906) (by decide +kernel)⟩
def lw_privs_1 : List (MethodName × Nat) := [(⟨"DrawnPaths", "lostPlaces", "()I"⟩, 6), (⟨"java/lang/Throwable", "fillInStackTrace", "(I)Ljava/lang/Throwable;"⟩, 6), (⟨"DrawnPaths", "livingPointer", "(I)LDrawnPaths$Pointer;"⟩, 6), (⟨"DrawnPathsModel", "blank", "()V"⟩, 31), (⟨"DrawnPathsModel", "refused", "(I)Z"⟩, 31), (⟨"DrawnPathsModel", "change", "(II)V"⟩, 31), (⟨"DrawnPathsModel", "born", "(II)V"⟩, 31), (⟨"DrawnPathsModel", "stateNow", "()I"⟩, 31), (⟨"DrawnPathsModel", "living", "()I"⟩, 31), (⟨"DrawnPathsModel", "stepAll", "()V"⟩, 31), (⟨"DrawnPathsModel", "fits", "(I)I"⟩, 31), (⟨"DrawnPathsModel", "topOf", "(I)J"⟩, 31), (⟨"DrawnPathsModel", "spell", "(J)I"⟩, 31), (⟨"DrawnPathsModel", "act", "(I)V"⟩, 31), (⟨"DrawnPathsModel", "push", "(IJ)V"⟩, 31), (⟨"DrawnPathsModel", "doReckon", "(II)V"⟩, 31)]
theorem lw_r1 : ∀ q ∈ lw_privs_1, lw_okq q := List.forall_mem_cons.mpr ⟨lw_p0, List.forall_mem_cons.mpr ⟨lw_p1, List.forall_mem_cons.mpr ⟨lw_p2, List.forall_mem_cons.mpr ⟨lw_p3, List.forall_mem_cons.mpr ⟨lw_p4, List.forall_mem_cons.mpr ⟨lw_p5, List.forall_mem_cons.mpr ⟨lw_p6, List.forall_mem_cons.mpr ⟨lw_p7, List.forall_mem_cons.mpr ⟨lw_p8, List.forall_mem_cons.mpr ⟨lw_p9, List.forall_mem_cons.mpr ⟨lw_p10, List.forall_mem_cons.mpr ⟨lw_p11, List.forall_mem_cons.mpr ⟨lw_p12, List.forall_mem_cons.mpr ⟨lw_p13, List.forall_mem_cons.mpr ⟨lw_p14, List.forall_mem_cons.mpr ⟨lw_p15, fun _ h => absurd h List.not_mem_nil⟩⟩⟩⟩⟩⟩⟩⟩⟩⟩⟩⟩⟩⟩⟩⟩
theorem lw_p16 : lw_okq (⟨"DrawnPathsModel", "pop", "(I)J"⟩, 31) := ⟨⟨by decide +kernel, by decide +kernel⟩, List.mem_of_getElem? (i := 702) (by decide +kernel), List.mem_of_getElem? (i := 909) (by decide +kernel), List.mem_of_getElem? (i := 910) (by decide +kernel)⟩
theorem lw_p17 : lw_okq (⟨"DrawnPathsModel", "doOne", "(II)V"⟩, 31) := ⟨⟨by decide +kernel, by decide +kernel⟩, List.mem_of_getElem? (i := 702) (by decide +kernel), List.mem_of_getElem? (i := 919) (by decide +kernel), List.mem_of_getElem? (i := 920) (by decide +kernel)⟩
theorem lw_p18 : lw_okq (⟨"DrawnPathsModel", "show", "(I)V"⟩, 31) := ⟨⟨by decide +kernel, by decide +kernel⟩, List.mem_of_getElem? (i := 702) (by decide +kernel), List.mem_of_getElem? (i := 923) (by decide +kernel), List.mem_of_getElem? (i := 924) (by decide +kernel)⟩
theorem lw_p19 : lw_okq (⟨"DrawnPathsModel", "doWrite", "(I)V"⟩, 31) := ⟨⟨by decide +kernel, by decide +kernel⟩, List.mem_of_getElem? (i := 702) (by decide +kernel), List.mem_of_getElem? (i := 931) (by decide +kernel), List.mem_of_getElem? (i := 932) (by decide +kernel)⟩
theorem lw_p20 : lw_okq (⟨"DrawnPathsModel", "doCall", "(I)V"⟩, 31) := ⟨⟨by decide +kernel, by decide +kernel⟩, List.mem_of_getElem? (i := 702) (by decide +kernel), List.mem_of_getElem? (i := 936) (by decide +kernel), List.mem_of_getElem? (i := 937) (by decide +kernel)⟩
theorem lw_p21 : lw_okq (⟨"DrawnPathsModel", "doReturn", "(I)V"⟩, 31) := ⟨⟨by decide +kernel, by decide +kernel⟩, List.mem_of_getElem? (i := 702) (by decide +kernel), List.mem_of_getElem? (i := 940) (by decide +kernel), List.mem_of_getElem? (i := 941) (by decide +kernel)⟩
theorem lw_p22 : lw_okq (⟨"DrawnPathsModel", "bury", "()V"⟩, 31) := ⟨⟨by decide +kernel, by decide +kernel⟩, List.mem_of_getElem? (i := 702) (by decide +kernel), List.mem_of_getElem? (i := 947) (by decide +kernel), List.mem_of_getElem? (i := 948) (by decide +kernel)⟩
theorem lw_p23 : lw_okq (⟨"DrawnPathsModel", "copyPointer", "(II)V"⟩, 31) := ⟨⟨by decide +kernel, by decide +kernel⟩, List.mem_of_getElem? (i := 702) (by decide +kernel), List.mem_of_getElem? (i := 951) (by decide +kernel), List.mem_of_getElem? (i := 952) (by decide +kernel)⟩
theorem lw_p24 : lw_okq (⟨"DrawnPathsModel", "isActAt", "(I)Z"⟩, 31) := ⟨⟨by decide +kernel, by decide +kernel⟩, List.mem_of_getElem? (i := 702) (by decide +kernel), List.mem_of_getElem? (i := 959) (by decide +kernel), List.mem_of_getElem? (i := 960) (by decide +kernel)⟩
theorem lw_p25 : lw_okq (⟨"DrawnPathsModel", "findBlock", "(I)I"⟩, 31) := ⟨⟨by decide +kernel, by decide +kernel⟩, List.mem_of_getElem? (i := 702) (by decide +kernel), List.mem_of_getElem? (i := 966) (by decide +kernel), List.mem_of_getElem? (i := 967) (by decide +kernel)⟩
theorem lw_p26 : lw_okq (⟨"DrawnPathsModel", "makeBlock", "(I)V"⟩, 31) := ⟨⟨by decide +kernel, by decide +kernel⟩, List.mem_of_getElem? (i := 702) (by decide +kernel), List.mem_of_getElem? (i := 970) (by decide +kernel), List.mem_of_getElem? (i := 971) (by decide +kernel)⟩
theorem lw_p27 : lw_okq (⟨"DrawnPathsModel", "after", "(I)I"⟩, 31) := ⟨⟨by decide +kernel, by decide +kernel⟩, List.mem_of_getElem? (i := 702) (by decide +kernel), List.mem_of_getElem? (i := 974) (by decide +kernel), List.mem_of_getElem? (i := 975) (by decide +kernel)⟩
theorem lw_p28 : lw_okq (⟨"DrawnPathsModel", "lostAll", "()I"⟩, 31) := ⟨⟨by decide +kernel, by decide +kernel⟩, List.mem_of_getElem? (i := 702) (by decide +kernel), List.mem_of_getElem? (i := 990) (by decide +kernel), List.mem_of_getElem? (i := 991) (by decide +kernel)⟩
theorem lw_p29 : lw_okq (⟨"DrawnPathsModel", "findWays", "()V"⟩, 31) := ⟨⟨by decide +kernel, by decide +kernel⟩, List.mem_of_getElem? (i := 702) (by decide +kernel), List.mem_of_getElem? (i := 994) (by decide +kernel), List.mem_of_getElem? (i := 995) (by decide +kernel)⟩
theorem lw_p30 : lw_okq (⟨"DrawnPathsModel", "goOn", "()Z"⟩, 31) := ⟨⟨by decide +kernel, by decide +kernel⟩, List.mem_of_getElem? (i := 702) (by decide +kernel), List.mem_of_getElem? (i := 998) (by decide +kernel), List.mem_of_getElem? (i := 999) (by decide +kernel)⟩
theorem lw_p31 : lw_okq (⟨"DrawnPathsModel", "comeTo", "(I)Z"⟩, 31) := ⟨⟨by decide +kernel, by decide +kernel⟩, List.mem_of_getElem? (i := 702) (by decide +kernel), List.mem_of_getElem? (i := 1002) (by decide +kernel), List.mem_of_getElem? (i := 1003) (by decide +kernel)⟩
def lw_privs_2 : List (MethodName × Nat) := [(⟨"DrawnPathsModel", "pop", "(I)J"⟩, 31), (⟨"DrawnPathsModel", "doOne", "(II)V"⟩, 31), (⟨"DrawnPathsModel", "show", "(I)V"⟩, 31), (⟨"DrawnPathsModel", "doWrite", "(I)V"⟩, 31), (⟨"DrawnPathsModel", "doCall", "(I)V"⟩, 31), (⟨"DrawnPathsModel", "doReturn", "(I)V"⟩, 31), (⟨"DrawnPathsModel", "bury", "()V"⟩, 31), (⟨"DrawnPathsModel", "copyPointer", "(II)V"⟩, 31), (⟨"DrawnPathsModel", "isActAt", "(I)Z"⟩, 31), (⟨"DrawnPathsModel", "findBlock", "(I)I"⟩, 31), (⟨"DrawnPathsModel", "makeBlock", "(I)V"⟩, 31), (⟨"DrawnPathsModel", "after", "(I)I"⟩, 31), (⟨"DrawnPathsModel", "lostAll", "()I"⟩, 31), (⟨"DrawnPathsModel", "findWays", "()V"⟩, 31), (⟨"DrawnPathsModel", "goOn", "()Z"⟩, 31), (⟨"DrawnPathsModel", "comeTo", "(I)Z"⟩, 31)]
theorem lw_r2 : ∀ q ∈ lw_privs_2, lw_okq q := List.forall_mem_cons.mpr ⟨lw_p16, List.forall_mem_cons.mpr ⟨lw_p17, List.forall_mem_cons.mpr ⟨lw_p18, List.forall_mem_cons.mpr ⟨lw_p19, List.forall_mem_cons.mpr ⟨lw_p20, List.forall_mem_cons.mpr ⟨lw_p21, List.forall_mem_cons.mpr ⟨lw_p22, List.forall_mem_cons.mpr ⟨lw_p23, List.forall_mem_cons.mpr ⟨lw_p24, List.forall_mem_cons.mpr ⟨lw_p25, List.forall_mem_cons.mpr ⟨lw_p26, List.forall_mem_cons.mpr ⟨lw_p27, List.forall_mem_cons.mpr ⟨lw_p28, List.forall_mem_cons.mpr ⟨lw_p29, List.forall_mem_cons.mpr ⟨lw_p30, List.forall_mem_cons.mpr ⟨lw_p31, fun _ h => absurd h List.not_mem_nil⟩⟩⟩⟩⟩⟩⟩⟩⟩⟩⟩⟩⟩⟩⟩⟩
theorem lw_p32 : lw_okq (⟨"DrawnPathsModel", "isLost", "(I)Z"⟩, 31) := ⟨⟨by decide +kernel, by decide +kernel⟩, List.mem_of_getElem? (i := 702) (by decide +kernel), List.mem_of_getElem? (i := 1006) (by decide +kernel), List.mem_of_getElem? (i := 1007) (by decide +kernel)⟩
def lw_privs_3 : List (MethodName × Nat) := [(⟨"DrawnPathsModel", "isLost", "(I)Z"⟩, 31)]
theorem lw_r3 : ∀ q ∈ lw_privs_3, lw_okq q := List.forall_mem_cons.mpr ⟨lw_p32, fun _ h => absurd h List.not_mem_nil⟩
def lw_privs : List (MethodName × Nat) := lw_privs_1 ++ (lw_privs_2 ++ (lw_privs_3))
def lw_tbl : List Cond := k2_sels lw_privs ++ tables_1
theorem lw_privs_ok : ∀ q ∈ lw_privs, lw_okq q := by
  show ∀ q ∈ lw_privs_1 ++ (lw_privs_2 ++ (lw_privs_3)), lw_okq q
  exact List.forall_mem_append.mpr ⟨lw_r1, List.forall_mem_append.mpr ⟨lw_r2, lw_r3⟩⟩
end
section
def lw_wd : List Cond := lw_tbl.filter goodWord
def lw_okK : Cond → Bool
  | .methodLinkNest .. => true
  | .declares _ => true
  | .castable .. => true
  | .privateMethod _ => true
  | _ => false
def lw_oth : List Cond := lw_tbl.filter (fun w => !goodWord w && lw_okK w)
theorem lw_oth_ok : ∀ w ∈ lw_oth, lw_okK w = true := fun w h => (Bool.and_eq_true_iff.mp (List.mem_filter.mp h).2).2
def lw_strs : List (Nat × String) := [(225, "no such place"), (63, "no sign"), (100, "the input is full"), (237, "not 1 .. 1000 steps"), (219, "no such pointer"), (157, "no such property of a pointer"), (161, "no such number"), (189, "no such direction or property of a block")]
def NW (U : State) : Prop := (∀ w ∈ lw_oth, va_Nw w U) ∧ ∀ q ∈ lw_strs, ∃ a, vk_R "DrawnPaths" q.1 q.2 a U
theorem nw_1 : (Cond.initialized "DrawnPaths") ∈ lw_wd := List.mem_filter.mpr ⟨List.mem_append_right _ (List.mem_of_getElem? (i := 1) (by decide +kernel)), rfl⟩
theorem nw_2 : (Cond.initialized "DrawnPaths$Blocks") ∈ lw_wd := List.mem_filter.mpr ⟨List.mem_append_right _ (List.mem_of_getElem? (i := 2) (by decide +kernel)), rfl⟩
theorem nw_3 : (Cond.initialized "DrawnPaths$Block") ∈ lw_wd := List.mem_filter.mpr ⟨List.mem_append_right _ (List.mem_of_getElem? (i := 3) (by decide +kernel)), rfl⟩
theorem nw_4 : (Cond.initialized "DrawnPaths$Field") ∈ lw_wd := List.mem_filter.mpr ⟨List.mem_append_right _ (List.mem_of_getElem? (i := 4) (by decide +kernel)), rfl⟩
theorem nw_5 : (Cond.initialized "DrawnPaths$Run") ∈ lw_wd := List.mem_filter.mpr ⟨List.mem_append_right _ (List.mem_of_getElem? (i := 5) (by decide +kernel)), rfl⟩
theorem nw_6 : (Cond.initialized "DrawnPaths$Line") ∈ lw_wd := List.mem_filter.mpr ⟨List.mem_append_right _ (List.mem_of_getElem? (i := 6) (by decide +kernel)), rfl⟩
theorem nw_7 : (Cond.initialized "DrawnPaths$Pointer") ∈ lw_wd := List.mem_filter.mpr ⟨List.mem_append_right _ (List.mem_of_getElem? (i := 7) (by decide +kernel)), rfl⟩
theorem nw_8 : (Cond.initialized "DrawnPaths$Search") ∈ lw_wd := List.mem_filter.mpr ⟨List.mem_append_right _ (List.mem_of_getElem? (i := 8) (by decide +kernel)), rfl⟩
theorem nw_16 : (Cond.initialized "DrawnPaths$Way") ∈ lw_wd := List.mem_filter.mpr ⟨List.mem_append_right _ (List.mem_of_getElem? (i := 16) (by decide +kernel)), rfl⟩
theorem nw_17 : (Cond.initialized "java/lang/Math") ∈ lw_wd := List.mem_filter.mpr ⟨List.mem_append_right _ (List.mem_of_getElem? (i := 17) (by decide +kernel)), rfl⟩
theorem nw_18 : (Cond.initialized "java/lang/System") ∈ lw_wd := List.mem_filter.mpr ⟨List.mem_append_right _ (List.mem_of_getElem? (i := 18) (by decide +kernel)), rfl⟩
theorem nw_40 : (Cond.fieldLink "DrawnPaths$Blocks" 26 "DrawnPaths$Block" "begin" "I") ∈ lw_wd := List.mem_filter.mpr ⟨List.mem_append_right _ (List.mem_of_getElem? (i := 40) (by decide +kernel)), rfl⟩
theorem nw_41 : (Cond.fieldLink "DrawnPaths$Block" 18 "DrawnPaths$Block" "begin" "I") ∈ lw_wd := List.mem_filter.mpr ⟨List.mem_append_right _ (List.mem_of_getElem? (i := 41) (by decide +kernel)), rfl⟩
theorem nw_42 : (Cond.fieldLink "DrawnPaths$Block" 43 "DrawnPaths$Block" "behind" "I") ∈ lw_wd := List.mem_filter.mpr ⟨List.mem_append_right _ (List.mem_of_getElem? (i := 42) (by decide +kernel)), rfl⟩
theorem nw_43 : (Cond.fieldLink "DrawnPaths" 202 "DrawnPaths$Block" "behind" "I") ∈ lw_wd := List.mem_filter.mpr ⟨List.mem_append_right _ (List.mem_of_getElem? (i := 43) (by decide +kernel)), rfl⟩
theorem nw_44 : (Cond.fieldLink "DrawnPaths$Block" 40 "DrawnPaths$Block" "size" "I") ∈ lw_wd := List.mem_filter.mpr ⟨List.mem_append_right _ (List.mem_of_getElem? (i := 44) (by decide +kernel)), rfl⟩
theorem nw_45 : (Cond.fieldLink "DrawnPaths$Run" 97 "DrawnPaths$Block" "size" "I") ∈ lw_wd := List.mem_filter.mpr ⟨List.mem_append_right _ (List.mem_of_getElem? (i := 45) (by decide +kernel)), rfl⟩
theorem nw_46 : (Cond.fieldLink "DrawnPaths" 199 "DrawnPaths$Block" "size" "I") ∈ lw_wd := List.mem_filter.mpr ⟨List.mem_append_right _ (List.mem_of_getElem? (i := 46) (by decide +kernel)), rfl⟩
theorem nw_47 : (Cond.fieldLink "DrawnPaths$Block" 9 "DrawnPaths$Block" "lowPlaces" "J") ∈ lw_wd := List.mem_filter.mpr ⟨List.mem_append_right _ (List.mem_of_getElem? (i := 47) (by decide +kernel)), rfl⟩
theorem nw_48 : (Cond.fieldLink "DrawnPaths$Block" 15 "DrawnPaths$Block" "highPlaces" "J") ∈ lw_wd := List.mem_filter.mpr ⟨List.mem_append_right _ (List.mem_of_getElem? (i := 48) (by decide +kernel)), rfl⟩
theorem nw_61 : (Cond.fieldLink "DrawnPaths$Blocks" 11 "DrawnPaths$Blocks" "row" "[LDrawnPaths$Block;") ∈ lw_wd := List.mem_filter.mpr ⟨List.mem_append_right _ (List.mem_of_getElem? (i := 61) (by decide +kernel)), rfl⟩
theorem nw_62 : (Cond.fieldLink "DrawnPaths$Blocks" 17 "DrawnPaths$Blocks" "marks" "[I") ∈ lw_wd := List.mem_filter.mpr ⟨List.mem_append_right _ (List.mem_of_getElem? (i := 62) (by decide +kernel)), rfl⟩
theorem nw_63 : (Cond.fieldLink "DrawnPaths$Blocks" 22 "DrawnPaths$Blocks" "held" "I") ∈ lw_wd := List.mem_filter.mpr ⟨List.mem_append_right _ (List.mem_of_getElem? (i := 63) (by decide +kernel)), rfl⟩
theorem nw_64 : (Cond.fieldLink "DrawnPaths" 174 "DrawnPaths$Blocks" "held" "I") ∈ lw_wd := List.mem_filter.mpr ⟨List.mem_append_right _ (List.mem_of_getElem? (i := 64) (by decide +kernel)), rfl⟩
theorem nw_65 : (Cond.fieldLink "DrawnPaths$Blocks" 37 "DrawnPaths$Blocks" "dropped" "I") ∈ lw_wd := List.mem_filter.mpr ⟨List.mem_append_right _ (List.mem_of_getElem? (i := 65) (by decide +kernel)), rfl⟩
theorem nw_66 : (Cond.fieldLink "DrawnPaths" 177 "DrawnPaths$Blocks" "dropped" "I") ∈ lw_wd := List.mem_filter.mpr ⟨List.mem_append_right _ (List.mem_of_getElem? (i := 66) (by decide +kernel)), rfl⟩
theorem nw_83 : (Cond.instanceMethod ⟨"DrawnPaths$Field", "wipe", "()V"⟩) ∈ lw_wd := List.mem_filter.mpr ⟨List.mem_append_right _ (List.mem_of_getElem? (i := 83) (by decide +kernel)), rfl⟩
theorem nw_84 : (Cond.selects "DrawnPaths$Field" ⟨"DrawnPaths$Field", "wipe", "()V"⟩ ⟨"DrawnPaths$Field", "wipe", "()V"⟩) ∈ lw_wd := List.mem_filter.mpr ⟨List.mem_append_right _ (List.mem_of_getElem? (i := 84) (by decide +kernel)), rfl⟩
theorem nw_85 : (Cond.code ⟨"DrawnPaths$Field", "wipe", "()V"⟩ prog_4_method_3_code 2 (Option.none : Option FieldType)) ∈ lw_wd := List.mem_filter.mpr ⟨List.mem_append_right _ (List.mem_of_getElem? (i := 85) (by decide +kernel)), rfl⟩
theorem nw_86 : (Cond.fieldLink "DrawnPaths$Field" 9 "DrawnPaths$Field" "signs" "[C") ∈ lw_wd := List.mem_filter.mpr ⟨List.mem_append_right _ (List.mem_of_getElem? (i := 86) (by decide +kernel)), rfl⟩
theorem nw_87 : (Cond.fieldLink "DrawnPaths" 68 "DrawnPaths$Field" "signs" "[C") ∈ lw_wd := List.mem_filter.mpr ⟨List.mem_append_right _ (List.mem_of_getElem? (i := 87) (by decide +kernel)), rfl⟩
theorem nw_88 : (Cond.fieldLink "DrawnPaths$Run" 70 "DrawnPaths$Field" "signs" "[C") ∈ lw_wd := List.mem_filter.mpr ⟨List.mem_append_right _ (List.mem_of_getElem? (i := 88) (by decide +kernel)), rfl⟩
theorem nw_89 : (Cond.fieldLink "DrawnPaths$Field" 15 "DrawnPaths$Field" "blocks" "LDrawnPaths$Blocks;") ∈ lw_wd := List.mem_filter.mpr ⟨List.mem_append_right _ (List.mem_of_getElem? (i := 89) (by decide +kernel)), rfl⟩
theorem nw_90 : (Cond.fieldLink "DrawnPaths$Run" 83 "DrawnPaths$Field" "blocks" "LDrawnPaths$Blocks;") ∈ lw_wd := List.mem_filter.mpr ⟨List.mem_append_right _ (List.mem_of_getElem? (i := 90) (by decide +kernel)), rfl⟩
theorem nw_111 : (Cond.fieldLink "DrawnPaths$Line" 9 "DrawnPaths$Line" "characters" "[C") ∈ lw_wd := List.mem_filter.mpr ⟨List.mem_append_right _ (List.mem_of_getElem? (i := 111) (by decide +kernel)), rfl⟩
theorem nw_112 : (Cond.fieldLink "DrawnPaths$Line" 15 "DrawnPaths$Line" "size" "I") ∈ lw_wd := List.mem_filter.mpr ⟨List.mem_append_right _ (List.mem_of_getElem? (i := 112) (by decide +kernel)), rfl⟩
theorem nw_113 : (Cond.fieldLink "DrawnPaths" 84 "DrawnPaths$Line" "size" "I") ∈ lw_wd := List.mem_filter.mpr ⟨List.mem_append_right _ (List.mem_of_getElem? (i := 113) (by decide +kernel)), rfl⟩
theorem nw_125 : (Cond.fieldLink "DrawnPaths$Pointer" 9 "DrawnPaths$Pointer" "numbers" "[J") ∈ lw_wd := List.mem_filter.mpr ⟨List.mem_append_right _ (List.mem_of_getElem? (i := 125) (by decide +kernel)), rfl⟩
theorem nw_127 : (Cond.fieldLink "DrawnPaths$Run" 221 "DrawnPaths$Pointer" "returns" "[I") ∈ lw_wd := List.mem_filter.mpr ⟨List.mem_append_right _ (List.mem_of_getElem? (i := 127) (by decide +kernel)), rfl⟩
theorem nw_128 : (Cond.fieldLink "DrawnPaths$Pointer" 19 "DrawnPaths$Pointer" "way" "I") ∈ lw_wd := List.mem_filter.mpr ⟨List.mem_append_right _ (List.mem_of_getElem? (i := 128) (by decide +kernel)), rfl⟩
theorem nw_129 : (Cond.fieldLink "DrawnPaths$Run" 67 "DrawnPaths$Pointer" "way" "I") ∈ lw_wd := List.mem_filter.mpr ⟨List.mem_append_right _ (List.mem_of_getElem? (i := 129) (by decide +kernel)), rfl⟩
theorem nw_130 : (Cond.fieldLink "DrawnPaths" 135 "DrawnPaths$Pointer" "way" "I") ∈ lw_wd := List.mem_filter.mpr ⟨List.mem_append_right _ (List.mem_of_getElem? (i := 130) (by decide +kernel)), rfl⟩
theorem nw_131 : (Cond.fieldLink "DrawnPaths$Pointer" 23 "DrawnPaths$Pointer" "depth" "I") ∈ lw_wd := List.mem_filter.mpr ⟨List.mem_append_right _ (List.mem_of_getElem? (i := 131) (by decide +kernel)), rfl⟩
theorem nw_132 : (Cond.fieldLink "DrawnPaths$Run" 102 "DrawnPaths$Pointer" "depth" "I") ∈ lw_wd := List.mem_filter.mpr ⟨List.mem_append_right _ (List.mem_of_getElem? (i := 132) (by decide +kernel)), rfl⟩
theorem nw_133 : (Cond.fieldLink "DrawnPaths" 151 "DrawnPaths$Pointer" "depth" "I") ∈ lw_wd := List.mem_filter.mpr ⟨List.mem_append_right _ (List.mem_of_getElem? (i := 133) (by decide +kernel)), rfl⟩
theorem nw_134 : (Cond.fieldLink "DrawnPaths$Pointer" 26 "DrawnPaths$Pointer" "returning" "I") ∈ lw_wd := List.mem_filter.mpr ⟨List.mem_append_right _ (List.mem_of_getElem? (i := 134) (by decide +kernel)), rfl⟩
theorem nw_135 : (Cond.fieldLink "DrawnPaths" 154 "DrawnPaths$Pointer" "returning" "I") ∈ lw_wd := List.mem_filter.mpr ⟨List.mem_append_right _ (List.mem_of_getElem? (i := 135) (by decide +kernel)), rfl⟩
theorem nw_136 : (Cond.fieldLink "DrawnPaths$Run" 218 "DrawnPaths$Pointer" "returning" "I") ∈ lw_wd := List.mem_filter.mpr ⟨List.mem_append_right _ (List.mem_of_getElem? (i := 136) (by decide +kernel)), rfl⟩
theorem nw_148 : (Cond.fieldLink "DrawnPaths$Run" 34 "DrawnPaths$Run" "field" "LDrawnPaths$Field;") ∈ lw_wd := List.mem_filter.mpr ⟨List.mem_append_right _ (List.mem_of_getElem? (i := 148) (by decide +kernel)), rfl⟩
theorem nw_149 : (Cond.fieldLink "DrawnPaths$Run" 11 "DrawnPaths$Run" "pointers" "[LDrawnPaths$Pointer;") ∈ lw_wd := List.mem_filter.mpr ⟨List.mem_append_right _ (List.mem_of_getElem? (i := 149) (by decide +kernel)), rfl⟩
theorem nw_150 : (Cond.fieldLink "DrawnPaths" 221 "DrawnPaths$Run" "pointers" "[LDrawnPaths$Pointer;") ∈ lw_wd := List.mem_filter.mpr ⟨List.mem_append_right _ (List.mem_of_getElem? (i := 150) (by decide +kernel)), rfl⟩
theorem nw_151 : (Cond.fieldLink "DrawnPaths$Run" 17 "DrawnPaths$Run" "numbers" "[J") ∈ lw_wd := List.mem_filter.mpr ⟨List.mem_append_right _ (List.mem_of_getElem? (i := 151) (by decide +kernel)), rfl⟩
theorem nw_152 : (Cond.fieldLink "DrawnPaths$Run" 21 "DrawnPaths$Run" "digits" "[C") ∈ lw_wd := List.mem_filter.mpr ⟨List.mem_append_right _ (List.mem_of_getElem? (i := 152) (by decide +kernel)), rfl⟩
theorem nw_153 : (Cond.fieldLink "DrawnPaths$Run" 30 "DrawnPaths$Run" "written" "LDrawnPaths$Line;") ∈ lw_wd := List.mem_filter.mpr ⟨List.mem_append_right _ (List.mem_of_getElem? (i := 153) (by decide +kernel)), rfl⟩
theorem nw_154 : (Cond.fieldLink "DrawnPaths" 212 "DrawnPaths$Run" "written" "LDrawnPaths$Line;") ∈ lw_wd := List.mem_filter.mpr ⟨List.mem_append_right _ (List.mem_of_getElem? (i := 154) (by decide +kernel)), rfl⟩
theorem nw_155 : (Cond.fieldLink "DrawnPaths$Run" 43 "DrawnPaths$Run" "living" "I") ∈ lw_wd := List.mem_filter.mpr ⟨List.mem_append_right _ (List.mem_of_getElem? (i := 155) (by decide +kernel)), rfl⟩
theorem nw_156 : (Cond.fieldLink "DrawnPaths" 168 "DrawnPaths$Run" "living" "I") ∈ lw_wd := List.mem_filter.mpr ⟨List.mem_append_right _ (List.mem_of_getElem? (i := 156) (by decide +kernel)), rfl⟩
theorem nw_157 : (Cond.fieldLink "DrawnPaths$Run" 46 "DrawnPaths$Run" "given" "I") ∈ lw_wd := List.mem_filter.mpr ⟨List.mem_append_right _ (List.mem_of_getElem? (i := 157) (by decide +kernel)), rfl⟩
theorem nw_158 : (Cond.fieldLink "DrawnPaths" 95 "DrawnPaths$Run" "given" "I") ∈ lw_wd := List.mem_filter.mpr ⟨List.mem_append_right _ (List.mem_of_getElem? (i := 158) (by decide +kernel)), rfl⟩
theorem nw_159 : (Cond.fieldLink "DrawnPaths$Run" 49 "DrawnPaths$Run" "read" "I") ∈ lw_wd := List.mem_filter.mpr ⟨List.mem_append_right _ (List.mem_of_getElem? (i := 159) (by decide +kernel)), rfl⟩
theorem nw_160 : (Cond.fieldLink "DrawnPaths" 180 "DrawnPaths$Run" "read" "I") ∈ lw_wd := List.mem_filter.mpr ⟨List.mem_append_right _ (List.mem_of_getElem? (i := 160) (by decide +kernel)), rfl⟩
theorem nw_161 : (Cond.fieldLink "DrawnPaths$Run" 52 "DrawnPaths$Run" "steps" "I") ∈ lw_wd := List.mem_filter.mpr ⟨List.mem_append_right _ (List.mem_of_getElem? (i := 161) (by decide +kernel)), rfl⟩
theorem nw_162 : (Cond.fieldLink "DrawnPaths" 171 "DrawnPaths$Run" "steps" "I") ∈ lw_wd := List.mem_filter.mpr ⟨List.mem_append_right _ (List.mem_of_getElem? (i := 162) (by decide +kernel)), rfl⟩
theorem nw_163 : (Cond.fieldLink "DrawnPaths$Run" 39 "DrawnPaths$Run" "stopped" "I") ∈ lw_wd := List.mem_filter.mpr ⟨List.mem_append_right _ (List.mem_of_getElem? (i := 163) (by decide +kernel)), rfl⟩
theorem nw_191 : (Cond.fieldLink "DrawnPaths$Search" 9 "DrawnPaths$Search" "marks" "[I") ∈ lw_wd := List.mem_filter.mpr ⟨List.mem_append_right _ (List.mem_of_getElem? (i := 191) (by decide +kernel)), rfl⟩
theorem nw_192 : (Cond.fieldLink "DrawnPaths$Search" 15 "DrawnPaths$Search" "found" "[I") ∈ lw_wd := List.mem_filter.mpr ⟨List.mem_append_right _ (List.mem_of_getElem? (i := 192) (by decide +kernel)), rfl⟩
theorem nw_193 : (Cond.fieldLink "DrawnPaths$Search" 18 "DrawnPaths$Search" "size" "I") ∈ lw_wd := List.mem_filter.mpr ⟨List.mem_append_right _ (List.mem_of_getElem? (i := 193) (by decide +kernel)), rfl⟩
theorem nw_203 : (Cond.fieldLink "DrawnPaths" 10 "DrawnPaths" "blocks" "LDrawnPaths$Blocks;") ∈ lw_wd := List.mem_filter.mpr ⟨List.mem_append_right _ (List.mem_of_getElem? (i := 203) (by decide +kernel)), rfl⟩
theorem nw_204 : (Cond.fieldLink "DrawnPaths" 21 "DrawnPaths" "field" "LDrawnPaths$Field;") ∈ lw_wd := List.mem_filter.mpr ⟨List.mem_append_right _ (List.mem_of_getElem? (i := 204) (by decide +kernel)), rfl⟩
theorem nw_205 : (Cond.fieldLink "DrawnPaths" 30 "DrawnPaths" "run" "LDrawnPaths$Run;") ∈ lw_wd := List.mem_filter.mpr ⟨List.mem_append_right _ (List.mem_of_getElem? (i := 205) (by decide +kernel)), rfl⟩
theorem nw_206 : (Cond.fieldLink "DrawnPaths" 37 "DrawnPaths" "search" "LDrawnPaths$Search;") ∈ lw_wd := List.mem_filter.mpr ⟨List.mem_append_right _ (List.mem_of_getElem? (i := 206) (by decide +kernel)), rfl⟩
theorem nw_207 : (Cond.fieldLink "DrawnPaths" 46 "DrawnPaths" "text" "LDrawnPaths$Line;") ∈ lw_wd := List.mem_filter.mpr ⟨List.mem_append_right _ (List.mem_of_getElem? (i := 207) (by decide +kernel)), rfl⟩
theorem nw_208 : (Cond.fieldLink "DrawnPaths" 50 "DrawnPaths" "page" "LDrawnPaths$Line;") ∈ lw_wd := List.mem_filter.mpr ⟨List.mem_append_right _ (List.mem_of_getElem? (i := 208) (by decide +kernel)), rfl⟩
theorem nw_223 : (Cond.instanceMethod ⟨"DrawnPaths", "type", "(C)Z"⟩) ∈ lw_wd := List.mem_filter.mpr ⟨List.mem_append_right _ (List.mem_of_getElem? (i := 223) (by decide +kernel)), rfl⟩
theorem nw_224 : (Cond.selects "DrawnPaths" ⟨"DrawnPaths", "type", "(C)Z"⟩ ⟨"DrawnPaths", "type", "(C)Z"⟩) ∈ lw_wd := List.mem_filter.mpr ⟨List.mem_append_right _ (List.mem_of_getElem? (i := 224) (by decide +kernel)), rfl⟩
theorem nw_226 : (Cond.methodLink "DrawnPaths" 57 ⟨"DrawnPaths", "isSign", "(C)Z"⟩) ∈ lw_wd := List.mem_filter.mpr ⟨List.mem_append_right _ (List.mem_of_getElem? (i := 226) (by decide +kernel)), rfl⟩
theorem nw_227 : (Cond.static ⟨"DrawnPaths", "isSign", "(C)Z"⟩) ∈ lw_wd := List.mem_filter.mpr ⟨List.mem_append_right _ (List.mem_of_getElem? (i := 227) (by decide +kernel)), rfl⟩
theorem nw_228 : (Cond.code ⟨"DrawnPaths", "isSign", "(C)Z"⟩ prog_1_method_25_code 1 (Option.some FieldType.boolean)) ∈ lw_wd := List.mem_filter.mpr ⟨List.mem_append_right _ (List.mem_of_getElem? (i := 228) (by decide +kernel)), rfl⟩
theorem nw_229 : (Cond.methodLink "DrawnPaths" 76 ⟨"DrawnPaths$Line", "hasRoom", "(I)Z"⟩) ∈ lw_wd := List.mem_filter.mpr ⟨List.mem_append_right _ (List.mem_of_getElem? (i := 229) (by decide +kernel)), rfl⟩
theorem nw_230 : (Cond.instanceMethod ⟨"DrawnPaths$Line", "hasRoom", "(I)Z"⟩) ∈ lw_wd := List.mem_filter.mpr ⟨List.mem_append_right _ (List.mem_of_getElem? (i := 230) (by decide +kernel)), rfl⟩
theorem nw_231 : (Cond.selects "DrawnPaths$Line" ⟨"DrawnPaths$Line", "hasRoom", "(I)Z"⟩ ⟨"DrawnPaths$Line", "hasRoom", "(I)Z"⟩) ∈ lw_wd := List.mem_filter.mpr ⟨List.mem_append_right _ (List.mem_of_getElem? (i := 231) (by decide +kernel)), rfl⟩
theorem nw_232 : (Cond.code ⟨"DrawnPaths$Line", "hasRoom", "(I)Z"⟩ prog_5_method_2_code 2 (Option.some FieldType.boolean)) ∈ lw_wd := List.mem_filter.mpr ⟨List.mem_append_right _ (List.mem_of_getElem? (i := 232) (by decide +kernel)), rfl⟩
theorem nw_233 : (Cond.methodLink "DrawnPaths" 80 ⟨"DrawnPaths$Line", "add", "(C)V"⟩) ∈ lw_wd := List.mem_filter.mpr ⟨List.mem_append_right _ (List.mem_of_getElem? (i := 233) (by decide +kernel)), rfl⟩
theorem nw_234 : (Cond.instanceMethod ⟨"DrawnPaths$Line", "add", "(C)V"⟩) ∈ lw_wd := List.mem_filter.mpr ⟨List.mem_append_right _ (List.mem_of_getElem? (i := 234) (by decide +kernel)), rfl⟩
theorem nw_235 : (Cond.selects "DrawnPaths$Line" ⟨"DrawnPaths$Line", "add", "(C)V"⟩ ⟨"DrawnPaths$Line", "add", "(C)V"⟩) ∈ lw_wd := List.mem_filter.mpr ⟨List.mem_append_right _ (List.mem_of_getElem? (i := 235) (by decide +kernel)), rfl⟩
theorem nw_236 : (Cond.code ⟨"DrawnPaths$Line", "add", "(C)V"⟩ prog_5_method_3_code 2 (Option.none : Option FieldType)) ∈ lw_wd := List.mem_filter.mpr ⟨List.mem_append_right _ (List.mem_of_getElem? (i := 236) (by decide +kernel)), rfl⟩
theorem nw_238 : (Cond.instanceMethod ⟨"DrawnPaths", "clear", "()V"⟩) ∈ lw_wd := List.mem_filter.mpr ⟨List.mem_append_right _ (List.mem_of_getElem? (i := 238) (by decide +kernel)), rfl⟩
theorem nw_239 : (Cond.selects "DrawnPaths" ⟨"DrawnPaths", "clear", "()V"⟩ ⟨"DrawnPaths", "clear", "()V"⟩) ∈ lw_wd := List.mem_filter.mpr ⟨List.mem_append_right _ (List.mem_of_getElem? (i := 239) (by decide +kernel)), rfl⟩
theorem nw_241 : (Cond.methodLink "DrawnPaths" 107 ⟨"DrawnPaths$Field", "wipe", "()V"⟩) ∈ lw_wd := List.mem_filter.mpr ⟨List.mem_append_right _ (List.mem_of_getElem? (i := 241) (by decide +kernel)), rfl⟩
theorem nw_242 : (Cond.methodLink "DrawnPaths" 110 ⟨"DrawnPaths$Blocks", "forget", "()V"⟩) ∈ lw_wd := List.mem_filter.mpr ⟨List.mem_append_right _ (List.mem_of_getElem? (i := 242) (by decide +kernel)), rfl⟩
theorem nw_243 : (Cond.instanceMethod ⟨"DrawnPaths$Blocks", "forget", "()V"⟩) ∈ lw_wd := List.mem_filter.mpr ⟨List.mem_append_right _ (List.mem_of_getElem? (i := 243) (by decide +kernel)), rfl⟩
theorem nw_244 : (Cond.selects "DrawnPaths$Blocks" ⟨"DrawnPaths$Blocks", "forget", "()V"⟩ ⟨"DrawnPaths$Blocks", "forget", "()V"⟩) ∈ lw_wd := List.mem_filter.mpr ⟨List.mem_append_right _ (List.mem_of_getElem? (i := 244) (by decide +kernel)), rfl⟩
theorem nw_245 : (Cond.code ⟨"DrawnPaths$Blocks", "forget", "()V"⟩ prog_3_method_6_code 1 (Option.none : Option FieldType)) ∈ lw_wd := List.mem_filter.mpr ⟨List.mem_append_right _ (List.mem_of_getElem? (i := 245) (by decide +kernel)), rfl⟩
theorem nw_246 : (Cond.methodLink "DrawnPaths" 113 ⟨"DrawnPaths$Run", "forget", "()V"⟩) ∈ lw_wd := List.mem_filter.mpr ⟨List.mem_append_right _ (List.mem_of_getElem? (i := 246) (by decide +kernel)), rfl⟩
theorem nw_247 : (Cond.instanceMethod ⟨"DrawnPaths$Run", "forget", "()V"⟩) ∈ lw_wd := List.mem_filter.mpr ⟨List.mem_append_right _ (List.mem_of_getElem? (i := 247) (by decide +kernel)), rfl⟩
theorem nw_248 : (Cond.selects "DrawnPaths$Run" ⟨"DrawnPaths$Run", "forget", "()V"⟩ ⟨"DrawnPaths$Run", "forget", "()V"⟩) ∈ lw_wd := List.mem_filter.mpr ⟨List.mem_append_right _ (List.mem_of_getElem? (i := 248) (by decide +kernel)), rfl⟩
theorem nw_249 : (Cond.code ⟨"DrawnPaths$Run", "forget", "()V"⟩ prog_7_method_4_code 1 (Option.none : Option FieldType)) ∈ lw_wd := List.mem_filter.mpr ⟨List.mem_append_right _ (List.mem_of_getElem? (i := 249) (by decide +kernel)), rfl⟩
theorem nw_250 : (Cond.methodLink "DrawnPaths$Run" 55 ⟨"DrawnPaths$Line", "empty", "()V"⟩) ∈ lw_wd := List.mem_filter.mpr ⟨List.mem_append_right _ (List.mem_of_getElem? (i := 250) (by decide +kernel)), rfl⟩
theorem nw_251 : (Cond.instanceMethod ⟨"DrawnPaths$Line", "empty", "()V"⟩) ∈ lw_wd := List.mem_filter.mpr ⟨List.mem_append_right _ (List.mem_of_getElem? (i := 251) (by decide +kernel)), rfl⟩
theorem nw_252 : (Cond.selects "DrawnPaths$Line" ⟨"DrawnPaths$Line", "empty", "()V"⟩ ⟨"DrawnPaths$Line", "empty", "()V"⟩) ∈ lw_wd := List.mem_filter.mpr ⟨List.mem_append_right _ (List.mem_of_getElem? (i := 252) (by decide +kernel)), rfl⟩
theorem nw_253 : (Cond.code ⟨"DrawnPaths$Line", "empty", "()V"⟩ prog_5_method_5_code 1 (Option.none : Option FieldType)) ∈ lw_wd := List.mem_filter.mpr ⟨List.mem_append_right _ (List.mem_of_getElem? (i := 253) (by decide +kernel)), rfl⟩
theorem nw_255 : (Cond.instanceMethod ⟨"DrawnPaths", "start", "()V"⟩) ∈ lw_wd := List.mem_filter.mpr ⟨List.mem_append_right _ (List.mem_of_getElem? (i := 255) (by decide +kernel)), rfl⟩
theorem nw_256 : (Cond.selects "DrawnPaths" ⟨"DrawnPaths", "start", "()V"⟩ ⟨"DrawnPaths", "start", "()V"⟩) ∈ lw_wd := List.mem_filter.mpr ⟨List.mem_append_right _ (List.mem_of_getElem? (i := 256) (by decide +kernel)), rfl⟩
theorem nw_258 : (Cond.methodLink "DrawnPaths" 114 ⟨"DrawnPaths$Run", "begin", "()V"⟩) ∈ lw_wd := List.mem_filter.mpr ⟨List.mem_append_right _ (List.mem_of_getElem? (i := 258) (by decide +kernel)), rfl⟩
theorem nw_259 : (Cond.instanceMethod ⟨"DrawnPaths$Run", "begin", "()V"⟩) ∈ lw_wd := List.mem_filter.mpr ⟨List.mem_append_right _ (List.mem_of_getElem? (i := 259) (by decide +kernel)), rfl⟩
theorem nw_260 : (Cond.selects "DrawnPaths$Run" ⟨"DrawnPaths$Run", "begin", "()V"⟩ ⟨"DrawnPaths$Run", "begin", "()V"⟩) ∈ lw_wd := List.mem_filter.mpr ⟨List.mem_append_right _ (List.mem_of_getElem? (i := 260) (by decide +kernel)), rfl⟩
theorem nw_261 : (Cond.code ⟨"DrawnPaths$Run", "begin", "()V"⟩ prog_7_method_5_code 1 (Option.none : Option FieldType)) ∈ lw_wd := List.mem_filter.mpr ⟨List.mem_append_right _ (List.mem_of_getElem? (i := 261) (by decide +kernel)), rfl⟩
theorem nw_262 : (Cond.methodLink "DrawnPaths$Run" 58 ⟨"DrawnPaths$Way", "of", "(III)I"⟩) ∈ lw_wd := List.mem_filter.mpr ⟨List.mem_append_right _ (List.mem_of_getElem? (i := 262) (by decide +kernel)), rfl⟩
theorem nw_263 : (Cond.static ⟨"DrawnPaths$Way", "of", "(III)I"⟩) ∈ lw_wd := List.mem_filter.mpr ⟨List.mem_append_right _ (List.mem_of_getElem? (i := 263) (by decide +kernel)), rfl⟩
theorem nw_264 : (Cond.code ⟨"DrawnPaths$Way", "of", "(III)I"⟩ prog_9_method_2_code 3 (Option.some FieldType.int)) ∈ lw_wd := List.mem_filter.mpr ⟨List.mem_append_right _ (List.mem_of_getElem? (i := 264) (by decide +kernel)), rfl⟩
theorem nw_265 : (Cond.methodLink "DrawnPaths$Run" 64 ⟨"DrawnPaths$Pointer", "begin", "(I)V"⟩) ∈ lw_wd := List.mem_filter.mpr ⟨List.mem_append_right _ (List.mem_of_getElem? (i := 265) (by decide +kernel)), rfl⟩
theorem nw_266 : (Cond.instanceMethod ⟨"DrawnPaths$Pointer", "begin", "(I)V"⟩) ∈ lw_wd := List.mem_filter.mpr ⟨List.mem_append_right _ (List.mem_of_getElem? (i := 266) (by decide +kernel)), rfl⟩
theorem nw_267 : (Cond.selects "DrawnPaths$Pointer" ⟨"DrawnPaths$Pointer", "begin", "(I)V"⟩ ⟨"DrawnPaths$Pointer", "begin", "(I)V"⟩) ∈ lw_wd := List.mem_filter.mpr ⟨List.mem_append_right _ (List.mem_of_getElem? (i := 267) (by decide +kernel)), rfl⟩
theorem nw_268 : (Cond.code ⟨"DrawnPaths$Pointer", "begin", "(I)V"⟩ prog_6_method_2_code 2 (Option.none : Option FieldType)) ∈ lw_wd := List.mem_filter.mpr ⟨List.mem_append_right _ (List.mem_of_getElem? (i := 268) (by decide +kernel)), rfl⟩
theorem nw_270 : (Cond.instanceMethod ⟨"DrawnPaths", "count", "(I)I"⟩) ∈ lw_wd := List.mem_filter.mpr ⟨List.mem_append_right _ (List.mem_of_getElem? (i := 270) (by decide +kernel)), rfl⟩
theorem nw_271 : (Cond.selects "DrawnPaths" ⟨"DrawnPaths", "count", "(I)I"⟩ ⟨"DrawnPaths", "count", "(I)I"⟩) ∈ lw_wd := List.mem_filter.mpr ⟨List.mem_append_right _ (List.mem_of_getElem? (i := 271) (by decide +kernel)), rfl⟩
theorem nw_273 : (Cond.methodLink "DrawnPaths" 120 ⟨"DrawnPaths$Run", "state", "()I"⟩) ∈ lw_wd := List.mem_filter.mpr ⟨List.mem_append_right _ (List.mem_of_getElem? (i := 273) (by decide +kernel)), rfl⟩
theorem nw_274 : (Cond.instanceMethod ⟨"DrawnPaths$Run", "state", "()I"⟩) ∈ lw_wd := List.mem_filter.mpr ⟨List.mem_append_right _ (List.mem_of_getElem? (i := 274) (by decide +kernel)), rfl⟩
theorem nw_275 : (Cond.selects "DrawnPaths$Run" ⟨"DrawnPaths$Run", "state", "()I"⟩ ⟨"DrawnPaths$Run", "state", "()I"⟩) ∈ lw_wd := List.mem_filter.mpr ⟨List.mem_append_right _ (List.mem_of_getElem? (i := 275) (by decide +kernel)), rfl⟩
theorem nw_276 : (Cond.code ⟨"DrawnPaths$Run", "state", "()I"⟩ prog_7_method_2_code 1 (Option.some FieldType.int)) ∈ lw_wd := List.mem_filter.mpr ⟨List.mem_append_right _ (List.mem_of_getElem? (i := 276) (by decide +kernel)), rfl⟩
theorem nw_277 : (Cond.methodLink "DrawnPaths" 183 ⟨"DrawnPaths", "lostPlaces", "()I"⟩) ∈ lw_wd := List.mem_filter.mpr ⟨List.mem_append_right _ (List.mem_of_getElem? (i := 277) (by decide +kernel)), rfl⟩
theorem nw_279 : (Cond.instanceMethod ⟨"DrawnPaths", "lostPlaces", "()I"⟩) ∈ lw_wd := List.mem_filter.mpr ⟨List.mem_append_right _ (List.mem_of_getElem? (i := 279) (by decide +kernel)), rfl⟩
theorem nw_280 : (Cond.code ⟨"DrawnPaths", "lostPlaces", "()I"⟩ prog_1_method_20_code 3 (Option.some FieldType.int)) ∈ lw_wd := List.mem_filter.mpr ⟨List.mem_append_right _ (List.mem_of_getElem? (i := 280) (by decide +kernel)), rfl⟩
theorem nw_281 : (Cond.methodLink "DrawnPaths" 205 ⟨"DrawnPaths$Search", "explore", "([C)V"⟩) ∈ lw_wd := List.mem_filter.mpr ⟨List.mem_append_right _ (List.mem_of_getElem? (i := 281) (by decide +kernel)), rfl⟩
theorem nw_282 : (Cond.instanceMethod ⟨"DrawnPaths$Search", "explore", "([C)V"⟩) ∈ lw_wd := List.mem_filter.mpr ⟨List.mem_append_right _ (List.mem_of_getElem? (i := 282) (by decide +kernel)), rfl⟩
theorem nw_283 : (Cond.selects "DrawnPaths$Search" ⟨"DrawnPaths$Search", "explore", "([C)V"⟩ ⟨"DrawnPaths$Search", "explore", "([C)V"⟩) ∈ lw_wd := List.mem_filter.mpr ⟨List.mem_append_right _ (List.mem_of_getElem? (i := 283) (by decide +kernel)), rfl⟩
theorem nw_284 : (Cond.code ⟨"DrawnPaths$Search", "explore", "([C)V"⟩ prog_8_method_2_code 3 (Option.none : Option FieldType)) ∈ lw_wd := List.mem_filter.mpr ⟨List.mem_append_right _ (List.mem_of_getElem? (i := 284) (by decide +kernel)), rfl⟩
theorem nw_285 : (Cond.methodLink "DrawnPaths$Search" 22 ⟨"DrawnPaths$Way", "of", "(III)I"⟩) ∈ lw_wd := List.mem_filter.mpr ⟨List.mem_append_right _ (List.mem_of_getElem? (i := 285) (by decide +kernel)), rfl⟩
theorem nw_286 : (Cond.methodLink "DrawnPaths$Search" 28 ⟨"DrawnPaths$Search", "reach", "(I)V"⟩) ∈ lw_wd := List.mem_filter.mpr ⟨List.mem_append_right _ (List.mem_of_getElem? (i := 286) (by decide +kernel)), rfl⟩
theorem nw_287 : (Cond.instanceMethod ⟨"DrawnPaths$Search", "reach", "(I)V"⟩) ∈ lw_wd := List.mem_filter.mpr ⟨List.mem_append_right _ (List.mem_of_getElem? (i := 287) (by decide +kernel)), rfl⟩
theorem nw_288 : (Cond.selects "DrawnPaths$Search" ⟨"DrawnPaths$Search", "reach", "(I)V"⟩ ⟨"DrawnPaths$Search", "reach", "(I)V"⟩) ∈ lw_wd := List.mem_filter.mpr ⟨List.mem_append_right _ (List.mem_of_getElem? (i := 288) (by decide +kernel)), rfl⟩
theorem nw_289 : (Cond.code ⟨"DrawnPaths$Search", "reach", "(I)V"⟩ prog_8_method_4_code 4 (Option.none : Option FieldType)) ∈ lw_wd := List.mem_filter.mpr ⟨List.mem_append_right _ (List.mem_of_getElem? (i := 289) (by decide +kernel)), rfl⟩
theorem nw_290 : (Cond.methodLink "DrawnPaths$Search" 32 ⟨"DrawnPaths$Way", "place", "(I)I"⟩) ∈ lw_wd := List.mem_filter.mpr ⟨List.mem_append_right _ (List.mem_of_getElem? (i := 290) (by decide +kernel)), rfl⟩
theorem nw_291 : (Cond.static ⟨"DrawnPaths$Way", "place", "(I)I"⟩) ∈ lw_wd := List.mem_filter.mpr ⟨List.mem_append_right _ (List.mem_of_getElem? (i := 291) (by decide +kernel)), rfl⟩
theorem nw_292 : (Cond.code ⟨"DrawnPaths$Way", "place", "(I)I"⟩ prog_9_method_3_code 1 (Option.some FieldType.int)) ∈ lw_wd := List.mem_filter.mpr ⟨List.mem_append_right _ (List.mem_of_getElem? (i := 292) (by decide +kernel)), rfl⟩
theorem nw_293 : (Cond.methodLink "DrawnPaths$Search" 36 ⟨"DrawnPaths$Search", "follow", "(IC)V"⟩) ∈ lw_wd := List.mem_filter.mpr ⟨List.mem_append_right _ (List.mem_of_getElem? (i := 293) (by decide +kernel)), rfl⟩
theorem nw_294 : (Cond.instanceMethod ⟨"DrawnPaths$Search", "follow", "(IC)V"⟩) ∈ lw_wd := List.mem_filter.mpr ⟨List.mem_append_right _ (List.mem_of_getElem? (i := 294) (by decide +kernel)), rfl⟩
theorem nw_295 : (Cond.selects "DrawnPaths$Search" ⟨"DrawnPaths$Search", "follow", "(IC)V"⟩ ⟨"DrawnPaths$Search", "follow", "(IC)V"⟩) ∈ lw_wd := List.mem_filter.mpr ⟨List.mem_append_right _ (List.mem_of_getElem? (i := 295) (by decide +kernel)), rfl⟩
theorem nw_296 : (Cond.code ⟨"DrawnPaths$Search", "follow", "(IC)V"⟩ prog_8_method_5_code 4 (Option.none : Option FieldType)) ∈ lw_wd := List.mem_filter.mpr ⟨List.mem_append_right _ (List.mem_of_getElem? (i := 296) (by decide +kernel)), rfl⟩
theorem nw_297 : (Cond.methodLinkNest "DrawnPaths$Search" 40 ⟨"DrawnPaths", "isAct", "(IC)Z"⟩ "DrawnPaths") ∈ lw_oth := List.mem_filter.mpr ⟨List.mem_append_right _ (List.mem_of_getElem? (i := 297) (by decide +kernel)), rfl⟩
theorem nw_298 : (Cond.static ⟨"DrawnPaths", "isAct", "(IC)Z"⟩) ∈ lw_wd := List.mem_filter.mpr ⟨List.mem_append_right _ (List.mem_of_getElem? (i := 298) (by decide +kernel)), rfl⟩
theorem nw_299 : (Cond.code ⟨"DrawnPaths", "isAct", "(IC)Z"⟩ prog_1_method_27_code 2 (Option.some FieldType.boolean)) ∈ lw_wd := List.mem_filter.mpr ⟨List.mem_append_right _ (List.mem_of_getElem? (i := 299) (by decide +kernel)), rfl⟩
theorem nw_300 : (Cond.methodLink "DrawnPaths" 148 ⟨"DrawnPaths$Way", "quotes", "(I)I"⟩) ∈ lw_wd := List.mem_filter.mpr ⟨List.mem_append_right _ (List.mem_of_getElem? (i := 300) (by decide +kernel)), rfl⟩
theorem nw_301 : (Cond.static ⟨"DrawnPaths$Way", "quotes", "(I)I"⟩) ∈ lw_wd := List.mem_filter.mpr ⟨List.mem_append_right _ (List.mem_of_getElem? (i := 301) (by decide +kernel)), rfl⟩
theorem nw_302 : (Cond.code ⟨"DrawnPaths$Way", "quotes", "(I)I"⟩ prog_9_method_5_code 1 (Option.some FieldType.int)) ∈ lw_wd := List.mem_filter.mpr ⟨List.mem_append_right _ (List.mem_of_getElem? (i := 302) (by decide +kernel)), rfl⟩
theorem nw_303 : (Cond.methodLink "DrawnPaths$Search" 44 ⟨"DrawnPaths$Way", "turned", "(II)I"⟩) ∈ lw_wd := List.mem_filter.mpr ⟨List.mem_append_right _ (List.mem_of_getElem? (i := 303) (by decide +kernel)), rfl⟩
theorem nw_304 : (Cond.static ⟨"DrawnPaths$Way", "turned", "(II)I"⟩) ∈ lw_wd := List.mem_filter.mpr ⟨List.mem_append_right _ (List.mem_of_getElem? (i := 304) (by decide +kernel)), rfl⟩
theorem nw_305 : (Cond.code ⟨"DrawnPaths$Way", "turned", "(II)I"⟩ prog_9_method_6_code 2 (Option.some FieldType.int)) ∈ lw_wd := List.mem_filter.mpr ⟨List.mem_append_right _ (List.mem_of_getElem? (i := 305) (by decide +kernel)), rfl⟩
theorem nw_306 : (Cond.methodLink "DrawnPaths$Way" 9 ⟨"DrawnPaths$Way", "direction", "(I)I"⟩) ∈ lw_wd := List.mem_filter.mpr ⟨List.mem_append_right _ (List.mem_of_getElem? (i := 306) (by decide +kernel)), rfl⟩
theorem nw_307 : (Cond.static ⟨"DrawnPaths$Way", "direction", "(I)I"⟩) ∈ lw_wd := List.mem_filter.mpr ⟨List.mem_append_right _ (List.mem_of_getElem? (i := 307) (by decide +kernel)), rfl⟩
theorem nw_308 : (Cond.code ⟨"DrawnPaths$Way", "direction", "(I)I"⟩ prog_9_method_4_code 1 (Option.some FieldType.int)) ∈ lw_wd := List.mem_filter.mpr ⟨List.mem_append_right _ (List.mem_of_getElem? (i := 308) (by decide +kernel)), rfl⟩
theorem nw_309 : (Cond.methodLink "DrawnPaths$Way" 15 ⟨"DrawnPaths$Way", "directed", "(II)I"⟩) ∈ lw_wd := List.mem_filter.mpr ⟨List.mem_append_right _ (List.mem_of_getElem? (i := 309) (by decide +kernel)), rfl⟩
theorem nw_310 : (Cond.static ⟨"DrawnPaths$Way", "directed", "(II)I"⟩) ∈ lw_wd := List.mem_filter.mpr ⟨List.mem_append_right _ (List.mem_of_getElem? (i := 310) (by decide +kernel)), rfl⟩
theorem nw_311 : (Cond.code ⟨"DrawnPaths$Way", "directed", "(II)I"⟩ prog_9_method_7_code 2 (Option.some FieldType.int)) ∈ lw_wd := List.mem_filter.mpr ⟨List.mem_append_right _ (List.mem_of_getElem? (i := 311) (by decide +kernel)), rfl⟩
theorem nw_312 : (Cond.methodLink "DrawnPaths$Search" 48 ⟨"DrawnPaths$Way", "ahead", "(I)I"⟩) ∈ lw_wd := List.mem_filter.mpr ⟨List.mem_append_right _ (List.mem_of_getElem? (i := 312) (by decide +kernel)), rfl⟩
theorem nw_313 : (Cond.static ⟨"DrawnPaths$Way", "ahead", "(I)I"⟩) ∈ lw_wd := List.mem_filter.mpr ⟨List.mem_append_right _ (List.mem_of_getElem? (i := 313) (by decide +kernel)), rfl⟩
theorem nw_314 : (Cond.code ⟨"DrawnPaths$Way", "ahead", "(I)I"⟩ prog_9_method_8_code 3 (Option.some FieldType.int)) ∈ lw_wd := List.mem_filter.mpr ⟨List.mem_append_right _ (List.mem_of_getElem? (i := 314) (by decide +kernel)), rfl⟩
theorem nw_315 : (Cond.methodLink "DrawnPaths$Way" 19 ⟨"DrawnPaths$Way", "place", "(I)I"⟩) ∈ lw_wd := List.mem_filter.mpr ⟨List.mem_append_right _ (List.mem_of_getElem? (i := 315) (by decide +kernel)), rfl⟩
theorem nw_316 : (Cond.methodLink "DrawnPaths$Search" 51 ⟨"DrawnPaths$Way", "behind", "(IC)I"⟩) ∈ lw_wd := List.mem_filter.mpr ⟨List.mem_append_right _ (List.mem_of_getElem? (i := 316) (by decide +kernel)), rfl⟩
theorem nw_317 : (Cond.static ⟨"DrawnPaths$Way", "behind", "(IC)I"⟩) ∈ lw_wd := List.mem_filter.mpr ⟨List.mem_append_right _ (List.mem_of_getElem? (i := 317) (by decide +kernel)), rfl⟩
theorem nw_318 : (Cond.code ⟨"DrawnPaths$Way", "behind", "(IC)I"⟩ prog_9_method_9_code 2 (Option.some FieldType.int)) ∈ lw_wd := List.mem_filter.mpr ⟨List.mem_append_right _ (List.mem_of_getElem? (i := 318) (by decide +kernel)), rfl⟩
theorem nw_319 : (Cond.methodLink "DrawnPaths$Way" 22 ⟨"DrawnPaths$Way", "ahead", "(I)I"⟩) ∈ lw_wd := List.mem_filter.mpr ⟨List.mem_append_right _ (List.mem_of_getElem? (i := 319) (by decide +kernel)), rfl⟩
theorem nw_320 : (Cond.methodLink "DrawnPaths$Way" 25 ⟨"DrawnPaths$Way", "quotes", "(I)I"⟩) ∈ lw_wd := List.mem_filter.mpr ⟨List.mem_append_right _ (List.mem_of_getElem? (i := 320) (by decide +kernel)), rfl⟩
theorem nw_321 : (Cond.methodLink "DrawnPaths" 209 ⟨"DrawnPaths$Search", "cameTo", "(I)Z"⟩) ∈ lw_wd := List.mem_filter.mpr ⟨List.mem_append_right _ (List.mem_of_getElem? (i := 321) (by decide +kernel)), rfl⟩
theorem nw_322 : (Cond.instanceMethod ⟨"DrawnPaths$Search", "cameTo", "(I)Z"⟩) ∈ lw_wd := List.mem_filter.mpr ⟨List.mem_append_right _ (List.mem_of_getElem? (i := 322) (by decide +kernel)), rfl⟩
theorem nw_323 : (Cond.selects "DrawnPaths$Search" ⟨"DrawnPaths$Search", "cameTo", "(I)Z"⟩ ⟨"DrawnPaths$Search", "cameTo", "(I)Z"⟩) ∈ lw_wd := List.mem_filter.mpr ⟨List.mem_append_right _ (List.mem_of_getElem? (i := 323) (by decide +kernel)), rfl⟩
theorem nw_324 : (Cond.code ⟨"DrawnPaths$Search", "cameTo", "(I)Z"⟩ prog_8_method_3_code 2 (Option.some FieldType.boolean)) ∈ lw_wd := List.mem_filter.mpr ⟨List.mem_append_right _ (List.mem_of_getElem? (i := 324) (by decide +kernel)), rfl⟩
theorem nw_326 : (Cond.instanceMethod ⟨"DrawnPaths", "output", "()I"⟩) ∈ lw_wd := List.mem_filter.mpr ⟨List.mem_append_right _ (List.mem_of_getElem? (i := 326) (by decide +kernel)), rfl⟩
theorem nw_327 : (Cond.selects "DrawnPaths" ⟨"DrawnPaths", "output", "()I"⟩ ⟨"DrawnPaths", "output", "()I"⟩) ∈ lw_wd := List.mem_filter.mpr ⟨List.mem_append_right _ (List.mem_of_getElem? (i := 327) (by decide +kernel)), rfl⟩
theorem nw_329 : (Cond.methodLink "DrawnPaths" 215 ⟨"DrawnPaths$Line", "copy", "(LDrawnPaths$Line;)V"⟩) ∈ lw_wd := List.mem_filter.mpr ⟨List.mem_append_right _ (List.mem_of_getElem? (i := 329) (by decide +kernel)), rfl⟩
theorem nw_330 : (Cond.instanceMethod ⟨"DrawnPaths$Line", "copy", "(LDrawnPaths$Line;)V"⟩) ∈ lw_wd := List.mem_filter.mpr ⟨List.mem_append_right _ (List.mem_of_getElem? (i := 330) (by decide +kernel)), rfl⟩
theorem nw_331 : (Cond.selects "DrawnPaths$Line" ⟨"DrawnPaths$Line", "copy", "(LDrawnPaths$Line;)V"⟩ ⟨"DrawnPaths$Line", "copy", "(LDrawnPaths$Line;)V"⟩) ∈ lw_wd := List.mem_filter.mpr ⟨List.mem_append_right _ (List.mem_of_getElem? (i := 331) (by decide +kernel)), rfl⟩
theorem nw_332 : (Cond.code ⟨"DrawnPaths$Line", "copy", "(LDrawnPaths$Line;)V"⟩ prog_5_method_6_code 2 (Option.none : Option FieldType)) ∈ lw_wd := List.mem_filter.mpr ⟨List.mem_append_right _ (List.mem_of_getElem? (i := 332) (by decide +kernel)), rfl⟩
theorem nw_333 : (Cond.methodLink "DrawnPaths$Line" 19 ⟨"java/lang/Math", "min", "(II)I"⟩) ∈ lw_wd := List.mem_filter.mpr ⟨List.mem_append_right _ (List.mem_of_getElem? (i := 333) (by decide +kernel)), rfl⟩
theorem nw_334 : (Cond.static ⟨"java/lang/Math", "min", "(II)I"⟩) ∈ lw_wd := List.mem_filter.mpr ⟨List.mem_append_right _ (List.mem_of_getElem? (i := 334) (by decide +kernel)), rfl⟩
theorem nw_335 : (Cond.code ⟨"java/lang/Math", "min", "(II)I"⟩ prog_16_method_69_code 2 (Option.some FieldType.int)) ∈ lw_wd := List.mem_filter.mpr ⟨List.mem_append_right _ (List.mem_of_getElem? (i := 335) (by decide +kernel)), rfl⟩
theorem nw_336 : (Cond.methodLink "DrawnPaths$Line" 25 ⟨"java/lang/System", "arraycopy", "(Ljava/lang/Object;ILjava/lang/Object;II)V"⟩) ∈ lw_wd := List.mem_filter.mpr ⟨List.mem_append_right _ (List.mem_of_getElem? (i := 336) (by decide +kernel)), rfl⟩
theorem nw_337 : (Cond.static ⟨"java/lang/System", "arraycopy", "(Ljava/lang/Object;ILjava/lang/Object;II)V"⟩) ∈ lw_wd := List.mem_filter.mpr ⟨List.mem_append_right _ (List.mem_of_getElem? (i := 337) (by decide +kernel)), rfl⟩
theorem nw_338 : (Cond.native ⟨"java/lang/System", "arraycopy", "(Ljava/lang/Object;ILjava/lang/Object;II)V"⟩) ∈ lw_wd := List.mem_filter.mpr ⟨List.mem_append_right _ (List.mem_of_getElem? (i := 338) (by decide +kernel)), rfl⟩
theorem nw_340 : (Cond.instanceMethod ⟨"DrawnPaths", "length", "()I"⟩) ∈ lw_wd := List.mem_filter.mpr ⟨List.mem_append_right _ (List.mem_of_getElem? (i := 340) (by decide +kernel)), rfl⟩
theorem nw_341 : (Cond.selects "DrawnPaths" ⟨"DrawnPaths", "length", "()I"⟩ ⟨"DrawnPaths", "length", "()I"⟩) ∈ lw_wd := List.mem_filter.mpr ⟨List.mem_append_right _ (List.mem_of_getElem? (i := 341) (by decide +kernel)), rfl⟩
theorem nw_344 : (Cond.instanceMethod ⟨"DrawnPaths", "charAt", "(I)C"⟩) ∈ lw_wd := List.mem_filter.mpr ⟨List.mem_append_right _ (List.mem_of_getElem? (i := 344) (by decide +kernel)), rfl⟩
theorem nw_345 : (Cond.selects "DrawnPaths" ⟨"DrawnPaths", "charAt", "(I)C"⟩ ⟨"DrawnPaths", "charAt", "(I)C"⟩) ∈ lw_wd := List.mem_filter.mpr ⟨List.mem_append_right _ (List.mem_of_getElem? (i := 345) (by decide +kernel)), rfl⟩
theorem nw_347 : (Cond.methodLink "DrawnPaths" 88 ⟨"DrawnPaths$Line", "at", "(I)C"⟩) ∈ lw_wd := List.mem_filter.mpr ⟨List.mem_append_right _ (List.mem_of_getElem? (i := 347) (by decide +kernel)), rfl⟩
theorem nw_348 : (Cond.instanceMethod ⟨"DrawnPaths$Line", "at", "(I)C"⟩) ∈ lw_wd := List.mem_filter.mpr ⟨List.mem_append_right _ (List.mem_of_getElem? (i := 348) (by decide +kernel)), rfl⟩
theorem nw_349 : (Cond.selects "DrawnPaths$Line" ⟨"DrawnPaths$Line", "at", "(I)C"⟩ ⟨"DrawnPaths$Line", "at", "(I)C"⟩) ∈ lw_wd := List.mem_filter.mpr ⟨List.mem_append_right _ (List.mem_of_getElem? (i := 349) (by decide +kernel)), rfl⟩
theorem nw_350 : (Cond.code ⟨"DrawnPaths$Line", "at", "(I)C"⟩ prog_5_method_4_code 2 (Option.some FieldType.char)) ∈ lw_wd := List.mem_filter.mpr ⟨List.mem_append_right _ (List.mem_of_getElem? (i := 350) (by decide +kernel)), rfl⟩
theorem nw_357 : (Cond.instanceMethod ⟨"DrawnPaths", "put", "(IIC)C"⟩) ∈ lw_wd := List.mem_filter.mpr ⟨List.mem_append_right _ (List.mem_of_getElem? (i := 357) (by decide +kernel)), rfl⟩
theorem nw_358 : (Cond.selects "DrawnPaths" ⟨"DrawnPaths", "put", "(IIC)C"⟩ ⟨"DrawnPaths", "put", "(IIC)C"⟩) ∈ lw_wd := List.mem_filter.mpr ⟨List.mem_append_right _ (List.mem_of_getElem? (i := 358) (by decide +kernel)), rfl⟩
theorem nw_360 : (Cond.methodLink "DrawnPaths" 53 ⟨"DrawnPaths", "placeAt", "(II)I"⟩) ∈ lw_wd := List.mem_filter.mpr ⟨List.mem_append_right _ (List.mem_of_getElem? (i := 360) (by decide +kernel)), rfl⟩
theorem nw_361 : (Cond.static ⟨"DrawnPaths", "placeAt", "(II)I"⟩) ∈ lw_wd := List.mem_filter.mpr ⟨List.mem_append_right _ (List.mem_of_getElem? (i := 361) (by decide +kernel)), rfl⟩
theorem nw_362 : (Cond.code ⟨"DrawnPaths", "placeAt", "(II)I"⟩ prog_1_method_22_code 2 (Option.some FieldType.int)) ∈ lw_wd := List.mem_filter.mpr ⟨List.mem_append_right _ (List.mem_of_getElem? (i := 362) (by decide +kernel)), rfl⟩
theorem nw_447 : (Cond.methodLink "DrawnPaths" 72 ⟨"DrawnPaths$Field", "write", "(IC)V"⟩) ∈ lw_wd := List.mem_filter.mpr ⟨List.mem_append_right _ (List.mem_of_getElem? (i := 447) (by decide +kernel)), rfl⟩
theorem nw_448 : (Cond.instanceMethod ⟨"DrawnPaths$Field", "write", "(IC)V"⟩) ∈ lw_wd := List.mem_filter.mpr ⟨List.mem_append_right _ (List.mem_of_getElem? (i := 448) (by decide +kernel)), rfl⟩
theorem nw_449 : (Cond.selects "DrawnPaths$Field" ⟨"DrawnPaths$Field", "write", "(IC)V"⟩ ⟨"DrawnPaths$Field", "write", "(IC)V"⟩) ∈ lw_wd := List.mem_filter.mpr ⟨List.mem_append_right _ (List.mem_of_getElem? (i := 449) (by decide +kernel)), rfl⟩
theorem nw_450 : (Cond.code ⟨"DrawnPaths$Field", "write", "(IC)V"⟩ prog_4_method_2_code 3 (Option.none : Option FieldType)) ∈ lw_wd := List.mem_filter.mpr ⟨List.mem_append_right _ (List.mem_of_getElem? (i := 450) (by decide +kernel)), rfl⟩
theorem nw_451 : (Cond.methodLink "DrawnPaths$Field" 22 ⟨"DrawnPaths$Blocks", "drop", "(I)V"⟩) ∈ lw_wd := List.mem_filter.mpr ⟨List.mem_append_right _ (List.mem_of_getElem? (i := 451) (by decide +kernel)), rfl⟩
theorem nw_452 : (Cond.instanceMethod ⟨"DrawnPaths$Blocks", "drop", "(I)V"⟩) ∈ lw_wd := List.mem_filter.mpr ⟨List.mem_append_right _ (List.mem_of_getElem? (i := 452) (by decide +kernel)), rfl⟩
theorem nw_453 : (Cond.selects "DrawnPaths$Blocks" ⟨"DrawnPaths$Blocks", "drop", "(I)V"⟩ ⟨"DrawnPaths$Blocks", "drop", "(I)V"⟩) ∈ lw_wd := List.mem_filter.mpr ⟨List.mem_append_right _ (List.mem_of_getElem? (i := 453) (by decide +kernel)), rfl⟩
theorem nw_454 : (Cond.code ⟨"DrawnPaths$Blocks", "drop", "(I)V"⟩ prog_3_method_4_code 6 (Option.none : Option FieldType)) ∈ lw_wd := List.mem_filter.mpr ⟨List.mem_append_right _ (List.mem_of_getElem? (i := 454) (by decide +kernel)), rfl⟩
theorem nw_455 : (Cond.methodLink "DrawnPaths$Blocks" 33 ⟨"DrawnPaths$Block", "isOver", "(I)Z"⟩) ∈ lw_wd := List.mem_filter.mpr ⟨List.mem_append_right _ (List.mem_of_getElem? (i := 455) (by decide +kernel)), rfl⟩
theorem nw_456 : (Cond.instanceMethod ⟨"DrawnPaths$Block", "isOver", "(I)Z"⟩) ∈ lw_wd := List.mem_filter.mpr ⟨List.mem_append_right _ (List.mem_of_getElem? (i := 456) (by decide +kernel)), rfl⟩
theorem nw_457 : (Cond.selects "DrawnPaths$Block" ⟨"DrawnPaths$Block", "isOver", "(I)Z"⟩ ⟨"DrawnPaths$Block", "isOver", "(I)Z"⟩) ∈ lw_wd := List.mem_filter.mpr ⟨List.mem_append_right _ (List.mem_of_getElem? (i := 457) (by decide +kernel)), rfl⟩
theorem nw_458 : (Cond.code ⟨"DrawnPaths$Block", "isOver", "(I)Z"⟩ prog_2_method_2_code 4 (Option.some FieldType.boolean)) ∈ lw_wd := List.mem_filter.mpr ⟨List.mem_append_right _ (List.mem_of_getElem? (i := 458) (by decide +kernel)), rfl⟩
theorem nw_463 : (Cond.instanceMethod ⟨"DrawnPaths", "sign", "(II)C"⟩) ∈ lw_wd := List.mem_filter.mpr ⟨List.mem_append_right _ (List.mem_of_getElem? (i := 463) (by decide +kernel)), rfl⟩
theorem nw_464 : (Cond.selects "DrawnPaths" ⟨"DrawnPaths", "sign", "(II)C"⟩ ⟨"DrawnPaths", "sign", "(II)C"⟩) ∈ lw_wd := List.mem_filter.mpr ⟨List.mem_append_right _ (List.mem_of_getElem? (i := 464) (by decide +kernel)), rfl⟩
theorem nw_470 : (Cond.instanceMethod ⟨"DrawnPaths", "lay", "(I)I"⟩) ∈ lw_wd := List.mem_filter.mpr ⟨List.mem_append_right _ (List.mem_of_getElem? (i := 470) (by decide +kernel)), rfl⟩
theorem nw_471 : (Cond.selects "DrawnPaths" ⟨"DrawnPaths", "lay", "(I)I"⟩ ⟨"DrawnPaths", "lay", "(I)I"⟩) ∈ lw_wd := List.mem_filter.mpr ⟨List.mem_append_right _ (List.mem_of_getElem? (i := 471) (by decide +kernel)), rfl⟩
theorem nw_473 : (Cond.methodLink "DrawnPaths" 92 ⟨"DrawnPaths$Line", "empty", "()V"⟩) ∈ lw_wd := List.mem_filter.mpr ⟨List.mem_append_right _ (List.mem_of_getElem? (i := 473) (by decide +kernel)), rfl⟩
theorem nw_479 : (Cond.instanceMethod ⟨"DrawnPaths", "input", "(J)I"⟩) ∈ lw_wd := List.mem_filter.mpr ⟨List.mem_append_right _ (List.mem_of_getElem? (i := 479) (by decide +kernel)), rfl⟩
theorem nw_480 : (Cond.selects "DrawnPaths" ⟨"DrawnPaths", "input", "(J)I"⟩ ⟨"DrawnPaths", "input", "(J)I"⟩) ∈ lw_wd := List.mem_filter.mpr ⟨List.mem_append_right _ (List.mem_of_getElem? (i := 480) (by decide +kernel)), rfl⟩
theorem nw_498 : (Cond.methodLink "DrawnPaths" 103 ⟨"DrawnPaths$Run", "give", "(J)V"⟩) ∈ lw_wd := List.mem_filter.mpr ⟨List.mem_append_right _ (List.mem_of_getElem? (i := 498) (by decide +kernel)), rfl⟩
theorem nw_499 : (Cond.instanceMethod ⟨"DrawnPaths$Run", "give", "(J)V"⟩) ∈ lw_wd := List.mem_filter.mpr ⟨List.mem_append_right _ (List.mem_of_getElem? (i := 499) (by decide +kernel)), rfl⟩
theorem nw_500 : (Cond.selects "DrawnPaths$Run" ⟨"DrawnPaths$Run", "give", "(J)V"⟩ ⟨"DrawnPaths$Run", "give", "(J)V"⟩) ∈ lw_wd := List.mem_filter.mpr ⟨List.mem_append_right _ (List.mem_of_getElem? (i := 500) (by decide +kernel)), rfl⟩
theorem nw_501 : (Cond.code ⟨"DrawnPaths$Run", "give", "(J)V"⟩ prog_7_method_3_code 3 (Option.none : Option FieldType)) ∈ lw_wd := List.mem_filter.mpr ⟨List.mem_append_right _ (List.mem_of_getElem? (i := 501) (by decide +kernel)), rfl⟩
theorem nw_506 : (Cond.instanceMethod ⟨"DrawnPaths", "step", "(I)I"⟩) ∈ lw_wd := List.mem_filter.mpr ⟨List.mem_append_right _ (List.mem_of_getElem? (i := 506) (by decide +kernel)), rfl⟩
theorem nw_507 : (Cond.selects "DrawnPaths" ⟨"DrawnPaths", "step", "(I)I"⟩ ⟨"DrawnPaths", "step", "(I)I"⟩) ∈ lw_wd := List.mem_filter.mpr ⟨List.mem_append_right _ (List.mem_of_getElem? (i := 507) (by decide +kernel)), rfl⟩
theorem nw_509 : (Cond.methodLink "DrawnPaths" 117 ⟨"DrawnPaths", "checkSteps", "(I)V"⟩) ∈ lw_wd := List.mem_filter.mpr ⟨List.mem_append_right _ (List.mem_of_getElem? (i := 509) (by decide +kernel)), rfl⟩
theorem nw_510 : (Cond.static ⟨"DrawnPaths", "checkSteps", "(I)V"⟩) ∈ lw_wd := List.mem_filter.mpr ⟨List.mem_append_right _ (List.mem_of_getElem? (i := 510) (by decide +kernel)), rfl⟩
theorem nw_511 : (Cond.code ⟨"DrawnPaths", "checkSteps", "(I)V"⟩ prog_1_method_24_code 1 (Option.none : Option FieldType)) ∈ lw_wd := List.mem_filter.mpr ⟨List.mem_append_right _ (List.mem_of_getElem? (i := 511) (by decide +kernel)), rfl⟩
theorem nw_513 : (Cond.methodLink "DrawnPaths" 124 ⟨"DrawnPaths$Run", "advance", "()V"⟩) ∈ lw_wd := List.mem_filter.mpr ⟨List.mem_append_right _ (List.mem_of_getElem? (i := 513) (by decide +kernel)), rfl⟩
theorem nw_514 : (Cond.instanceMethod ⟨"DrawnPaths$Run", "advance", "()V"⟩) ∈ lw_wd := List.mem_filter.mpr ⟨List.mem_append_right _ (List.mem_of_getElem? (i := 514) (by decide +kernel)), rfl⟩
theorem nw_515 : (Cond.selects "DrawnPaths$Run" ⟨"DrawnPaths$Run", "advance", "()V"⟩ ⟨"DrawnPaths$Run", "advance", "()V"⟩) ∈ lw_wd := List.mem_filter.mpr ⟨List.mem_append_right _ (List.mem_of_getElem? (i := 515) (by decide +kernel)), rfl⟩
theorem nw_516 : (Cond.code ⟨"DrawnPaths$Run", "advance", "()V"⟩ prog_7_method_7_code 7 (Option.none : Option FieldType)) ∈ lw_wd := List.mem_filter.mpr ⟨List.mem_append_right _ (List.mem_of_getElem? (i := 516) (by decide +kernel)), rfl⟩
theorem nw_517 : (Cond.methodLink "DrawnPaths$Run" 75 ⟨"DrawnPaths$Way", "place", "(I)I"⟩) ∈ lw_wd := List.mem_filter.mpr ⟨List.mem_append_right _ (List.mem_of_getElem? (i := 517) (by decide +kernel)), rfl⟩
theorem nw_518 : (Cond.methodLinkNest "DrawnPaths$Run" 79 ⟨"DrawnPaths", "isAct", "(IC)Z"⟩ "DrawnPaths") ∈ lw_oth := List.mem_filter.mpr ⟨List.mem_append_right _ (List.mem_of_getElem? (i := 518) (by decide +kernel)), rfl⟩
theorem nw_519 : (Cond.methodLink "DrawnPaths$Run" 105 ⟨"DrawnPaths$Run", "act", "(LDrawnPaths$Pointer;C)I"⟩) ∈ lw_wd := List.mem_filter.mpr ⟨List.mem_append_right _ (List.mem_of_getElem? (i := 519) (by decide +kernel)), rfl⟩
theorem nw_520 : (Cond.instanceMethod ⟨"DrawnPaths$Run", "act", "(LDrawnPaths$Pointer;C)I"⟩) ∈ lw_wd := List.mem_filter.mpr ⟨List.mem_append_right _ (List.mem_of_getElem? (i := 520) (by decide +kernel)), rfl⟩
theorem nw_521 : (Cond.selects "DrawnPaths$Run" ⟨"DrawnPaths$Run", "act", "(LDrawnPaths$Pointer;C)I"⟩ ⟨"DrawnPaths$Run", "act", "(LDrawnPaths$Pointer;C)I"⟩) ∈ lw_wd := List.mem_filter.mpr ⟨List.mem_append_right _ (List.mem_of_getElem? (i := 521) (by decide +kernel)), rfl⟩
theorem nw_522 : (Cond.code ⟨"DrawnPaths$Run", "act", "(LDrawnPaths$Pointer;C)I"⟩ prog_7_method_14_code 3 (Option.some FieldType.int)) ∈ lw_wd := List.mem_filter.mpr ⟨List.mem_append_right _ (List.mem_of_getElem? (i := 522) (by decide +kernel)), rfl⟩
theorem nw_523 : (Cond.methodLink "DrawnPaths$Run" 156 ⟨"DrawnPaths$Run", "turn", "(LDrawnPaths$Pointer;)I"⟩) ∈ lw_wd := List.mem_filter.mpr ⟨List.mem_append_right _ (List.mem_of_getElem? (i := 523) (by decide +kernel)), rfl⟩
theorem nw_524 : (Cond.static ⟨"DrawnPaths$Run", "turn", "(LDrawnPaths$Pointer;)I"⟩) ∈ lw_wd := List.mem_filter.mpr ⟨List.mem_append_right _ (List.mem_of_getElem? (i := 524) (by decide +kernel)), rfl⟩
theorem nw_525 : (Cond.code ⟨"DrawnPaths$Run", "turn", "(LDrawnPaths$Pointer;)I"⟩ prog_7_method_15_code 3 (Option.some FieldType.int)) ∈ lw_wd := List.mem_filter.mpr ⟨List.mem_append_right _ (List.mem_of_getElem? (i := 525) (by decide +kernel)), rfl⟩
theorem nw_526 : (Cond.methodLink "DrawnPaths$Run" 140 ⟨"DrawnPaths$Pointer", "pop", "()J"⟩) ∈ lw_wd := List.mem_filter.mpr ⟨List.mem_append_right _ (List.mem_of_getElem? (i := 526) (by decide +kernel)), rfl⟩
theorem nw_527 : (Cond.instanceMethod ⟨"DrawnPaths$Pointer", "pop", "()J"⟩) ∈ lw_wd := List.mem_filter.mpr ⟨List.mem_append_right _ (List.mem_of_getElem? (i := 527) (by decide +kernel)), rfl⟩
theorem nw_528 : (Cond.selects "DrawnPaths$Pointer" ⟨"DrawnPaths$Pointer", "pop", "()J"⟩ ⟨"DrawnPaths$Pointer", "pop", "()J"⟩) ∈ lw_wd := List.mem_filter.mpr ⟨List.mem_append_right _ (List.mem_of_getElem? (i := 528) (by decide +kernel)), rfl⟩
theorem nw_529 : (Cond.code ⟨"DrawnPaths$Pointer", "pop", "()J"⟩ prog_6_method_5_code 1 (Option.some FieldType.long)) ∈ lw_wd := List.mem_filter.mpr ⟨List.mem_append_right _ (List.mem_of_getElem? (i := 529) (by decide +kernel)), rfl⟩
theorem nw_530 : (Cond.methodLink "DrawnPaths$Run" 180 ⟨"DrawnPaths$Way", "turned", "(II)I"⟩) ∈ lw_wd := List.mem_filter.mpr ⟨List.mem_append_right _ (List.mem_of_getElem? (i := 530) (by decide +kernel)), rfl⟩
theorem nw_531 : (Cond.methodLink "DrawnPaths$Run" 184 ⟨"DrawnPaths$Way", "ahead", "(I)I"⟩) ∈ lw_wd := List.mem_filter.mpr ⟨List.mem_append_right _ (List.mem_of_getElem? (i := 531) (by decide +kernel)), rfl⟩
theorem nw_532 : (Cond.methodLink "DrawnPaths$Run" 159 ⟨"DrawnPaths$Run", "writeNumber", "(LDrawnPaths$Pointer;)I"⟩) ∈ lw_wd := List.mem_filter.mpr ⟨List.mem_append_right _ (List.mem_of_getElem? (i := 532) (by decide +kernel)), rfl⟩
theorem nw_533 : (Cond.instanceMethod ⟨"DrawnPaths$Run", "writeNumber", "(LDrawnPaths$Pointer;)I"⟩) ∈ lw_wd := List.mem_filter.mpr ⟨List.mem_append_right _ (List.mem_of_getElem? (i := 533) (by decide +kernel)), rfl⟩
theorem nw_534 : (Cond.selects "DrawnPaths$Run" ⟨"DrawnPaths$Run", "writeNumber", "(LDrawnPaths$Pointer;)I"⟩ ⟨"DrawnPaths$Run", "writeNumber", "(LDrawnPaths$Pointer;)I"⟩) ∈ lw_wd := List.mem_filter.mpr ⟨List.mem_append_right _ (List.mem_of_getElem? (i := 534) (by decide +kernel)), rfl⟩
theorem nw_535 : (Cond.code ⟨"DrawnPaths$Run", "writeNumber", "(LDrawnPaths$Pointer;)I"⟩ prog_7_method_16_code 4 (Option.some FieldType.int)) ∈ lw_wd := List.mem_filter.mpr ⟨List.mem_append_right _ (List.mem_of_getElem? (i := 535) (by decide +kernel)), rfl⟩
theorem nw_536 : (Cond.methodLink "DrawnPaths$Run" 144 ⟨"DrawnPaths$Pointer", "fromTop", "(J)J"⟩) ∈ lw_wd := List.mem_filter.mpr ⟨List.mem_append_right _ (List.mem_of_getElem? (i := 536) (by decide +kernel)), rfl⟩
theorem nw_537 : (Cond.instanceMethod ⟨"DrawnPaths$Pointer", "fromTop", "(J)J"⟩) ∈ lw_wd := List.mem_filter.mpr ⟨List.mem_append_right _ (List.mem_of_getElem? (i := 537) (by decide +kernel)), rfl⟩
theorem nw_538 : (Cond.selects "DrawnPaths$Pointer" ⟨"DrawnPaths$Pointer", "fromTop", "(J)J"⟩ ⟨"DrawnPaths$Pointer", "fromTop", "(J)J"⟩) ∈ lw_wd := List.mem_filter.mpr ⟨List.mem_append_right _ (List.mem_of_getElem? (i := 538) (by decide +kernel)), rfl⟩
theorem nw_539 : (Cond.code ⟨"DrawnPaths$Pointer", "fromTop", "(J)J"⟩ prog_6_method_6_code 3 (Option.some FieldType.long)) ∈ lw_wd := List.mem_filter.mpr ⟨List.mem_append_right _ (List.mem_of_getElem? (i := 539) (by decide +kernel)), rfl⟩
theorem nw_540 : (Cond.methodLink "DrawnPaths$Run" 187 ⟨"DrawnPaths$Run", "spell", "(J)I"⟩) ∈ lw_wd := List.mem_filter.mpr ⟨List.mem_append_right _ (List.mem_of_getElem? (i := 540) (by decide +kernel)), rfl⟩
theorem nw_541 : (Cond.instanceMethod ⟨"DrawnPaths$Run", "spell", "(J)I"⟩) ∈ lw_wd := List.mem_filter.mpr ⟨List.mem_append_right _ (List.mem_of_getElem? (i := 541) (by decide +kernel)), rfl⟩
theorem nw_542 : (Cond.selects "DrawnPaths$Run" ⟨"DrawnPaths$Run", "spell", "(J)I"⟩ ⟨"DrawnPaths$Run", "spell", "(J)I"⟩) ∈ lw_wd := List.mem_filter.mpr ⟨List.mem_append_right _ (List.mem_of_getElem? (i := 542) (by decide +kernel)), rfl⟩
theorem nw_543 : (Cond.code ⟨"DrawnPaths$Run", "spell", "(J)I"⟩ prog_7_method_17_code 8 (Option.some FieldType.int)) ∈ lw_wd := List.mem_filter.mpr ⟨List.mem_append_right _ (List.mem_of_getElem? (i := 543) (by decide +kernel)), rfl⟩
theorem nw_544 : (Cond.constantLong "DrawnPaths$Run" 199 (10 : Int64)) ∈ lw_wd := List.mem_filter.mpr ⟨List.mem_append_right _ (List.mem_of_getElem? (i := 544) (by decide +kernel)), rfl⟩
theorem nw_545 : (Cond.methodLink "DrawnPaths$Run" 201 ⟨"java/lang/Math", "abs", "(J)J"⟩) ∈ lw_wd := List.mem_filter.mpr ⟨List.mem_append_right _ (List.mem_of_getElem? (i := 545) (by decide +kernel)), rfl⟩
theorem nw_546 : (Cond.static ⟨"java/lang/Math", "abs", "(J)J"⟩) ∈ lw_wd := List.mem_filter.mpr ⟨List.mem_append_right _ (List.mem_of_getElem? (i := 546) (by decide +kernel)), rfl⟩
theorem nw_547 : (Cond.code ⟨"java/lang/Math", "abs", "(J)J"⟩ prog_16_method_61_code 2 (Option.some FieldType.long)) ∈ lw_wd := List.mem_filter.mpr ⟨List.mem_append_right _ (List.mem_of_getElem? (i := 547) (by decide +kernel)), rfl⟩
theorem nw_548 : (Cond.constantLong "DrawnPaths$Run" 206 (48 : Int64)) ∈ lw_wd := List.mem_filter.mpr ⟨List.mem_append_right _ (List.mem_of_getElem? (i := 548) (by decide +kernel)), rfl⟩
theorem nw_549 : (Cond.methodLink "DrawnPaths$Run" 191 ⟨"DrawnPaths$Line", "hasRoom", "(I)Z"⟩) ∈ lw_wd := List.mem_filter.mpr ⟨List.mem_append_right _ (List.mem_of_getElem? (i := 549) (by decide +kernel)), rfl⟩
theorem nw_550 : (Cond.methodLink "DrawnPaths$Run" 195 ⟨"DrawnPaths$Line", "add", "(C)V"⟩) ∈ lw_wd := List.mem_filter.mpr ⟨List.mem_append_right _ (List.mem_of_getElem? (i := 550) (by decide +kernel)), rfl⟩
theorem nw_551 : (Cond.methodLink "DrawnPaths$Run" 162 ⟨"DrawnPaths$Run", "writeCharacter", "(LDrawnPaths$Pointer;)I"⟩) ∈ lw_wd := List.mem_filter.mpr ⟨List.mem_append_right _ (List.mem_of_getElem? (i := 551) (by decide +kernel)), rfl⟩
theorem nw_552 : (Cond.instanceMethod ⟨"DrawnPaths$Run", "writeCharacter", "(LDrawnPaths$Pointer;)I"⟩) ∈ lw_wd := List.mem_filter.mpr ⟨List.mem_append_right _ (List.mem_of_getElem? (i := 552) (by decide +kernel)), rfl⟩
theorem nw_553 : (Cond.selects "DrawnPaths$Run" ⟨"DrawnPaths$Run", "writeCharacter", "(LDrawnPaths$Pointer;)I"⟩ ⟨"DrawnPaths$Run", "writeCharacter", "(LDrawnPaths$Pointer;)I"⟩) ∈ lw_wd := List.mem_filter.mpr ⟨List.mem_append_right _ (List.mem_of_getElem? (i := 553) (by decide +kernel)), rfl⟩
theorem nw_554 : (Cond.code ⟨"DrawnPaths$Run", "writeCharacter", "(LDrawnPaths$Pointer;)I"⟩ prog_7_method_18_code 2 (Option.some FieldType.int)) ∈ lw_wd := List.mem_filter.mpr ⟨List.mem_append_right _ (List.mem_of_getElem? (i := 554) (by decide +kernel)), rfl⟩
theorem nw_555 : (Cond.methodLinkNest "DrawnPaths$Run" 208 ⟨"DrawnPaths", "signOf", "(J)C"⟩ "DrawnPaths") ∈ lw_oth := List.mem_filter.mpr ⟨List.mem_append_right _ (List.mem_of_getElem? (i := 555) (by decide +kernel)), rfl⟩
theorem nw_556 : (Cond.static ⟨"DrawnPaths", "signOf", "(J)C"⟩) ∈ lw_wd := List.mem_filter.mpr ⟨List.mem_append_right _ (List.mem_of_getElem? (i := 556) (by decide +kernel)), rfl⟩
theorem nw_557 : (Cond.code ⟨"DrawnPaths", "signOf", "(J)C"⟩ prog_1_method_26_code 3 (Option.some FieldType.char)) ∈ lw_wd := List.mem_filter.mpr ⟨List.mem_append_right _ (List.mem_of_getElem? (i := 557) (by decide +kernel)), rfl⟩
theorem nw_558 : (Cond.constantLong "DrawnPaths" 239 (127 : Int64)) ∈ lw_wd := List.mem_filter.mpr ⟨List.mem_append_right _ (List.mem_of_getElem? (i := 558) (by decide +kernel)), rfl⟩
theorem nw_559 : (Cond.methodLink "DrawnPaths$Run" 165 ⟨"DrawnPaths$Run", "readNumber", "(LDrawnPaths$Pointer;)I"⟩) ∈ lw_wd := List.mem_filter.mpr ⟨List.mem_append_right _ (List.mem_of_getElem? (i := 559) (by decide +kernel)), rfl⟩
theorem nw_560 : (Cond.instanceMethod ⟨"DrawnPaths$Run", "readNumber", "(LDrawnPaths$Pointer;)I"⟩) ∈ lw_wd := List.mem_filter.mpr ⟨List.mem_append_right _ (List.mem_of_getElem? (i := 560) (by decide +kernel)), rfl⟩
theorem nw_561 : (Cond.selects "DrawnPaths$Run" ⟨"DrawnPaths$Run", "readNumber", "(LDrawnPaths$Pointer;)I"⟩ ⟨"DrawnPaths$Run", "readNumber", "(LDrawnPaths$Pointer;)I"⟩) ∈ lw_wd := List.mem_filter.mpr ⟨List.mem_append_right _ (List.mem_of_getElem? (i := 561) (by decide +kernel)), rfl⟩
theorem nw_562 : (Cond.code ⟨"DrawnPaths$Run", "readNumber", "(LDrawnPaths$Pointer;)I"⟩ prog_7_method_19_code 2 (Option.some FieldType.int)) ∈ lw_wd := List.mem_filter.mpr ⟨List.mem_append_right _ (List.mem_of_getElem? (i := 562) (by decide +kernel)), rfl⟩
theorem nw_563 : (Cond.methodLink "DrawnPaths$Run" 118 ⟨"DrawnPaths$Pointer", "isFull", "()Z"⟩) ∈ lw_wd := List.mem_filter.mpr ⟨List.mem_append_right _ (List.mem_of_getElem? (i := 563) (by decide +kernel)), rfl⟩
theorem nw_564 : (Cond.instanceMethod ⟨"DrawnPaths$Pointer", "isFull", "()Z"⟩) ∈ lw_wd := List.mem_filter.mpr ⟨List.mem_append_right _ (List.mem_of_getElem? (i := 564) (by decide +kernel)), rfl⟩
theorem nw_565 : (Cond.selects "DrawnPaths$Pointer" ⟨"DrawnPaths$Pointer", "isFull", "()Z"⟩ ⟨"DrawnPaths$Pointer", "isFull", "()Z"⟩) ∈ lw_wd := List.mem_filter.mpr ⟨List.mem_append_right _ (List.mem_of_getElem? (i := 565) (by decide +kernel)), rfl⟩
theorem nw_566 : (Cond.code ⟨"DrawnPaths$Pointer", "isFull", "()Z"⟩ prog_6_method_3_code 1 (Option.some FieldType.boolean)) ∈ lw_wd := List.mem_filter.mpr ⟨List.mem_append_right _ (List.mem_of_getElem? (i := 566) (by decide +kernel)), rfl⟩
theorem nw_567 : (Cond.methodLink "DrawnPaths$Run" 129 ⟨"DrawnPaths$Pointer", "push", "(J)V"⟩) ∈ lw_wd := List.mem_filter.mpr ⟨List.mem_append_right _ (List.mem_of_getElem? (i := 567) (by decide +kernel)), rfl⟩
theorem nw_568 : (Cond.instanceMethod ⟨"DrawnPaths$Pointer", "push", "(J)V"⟩) ∈ lw_wd := List.mem_filter.mpr ⟨List.mem_append_right _ (List.mem_of_getElem? (i := 568) (by decide +kernel)), rfl⟩
theorem nw_569 : (Cond.selects "DrawnPaths$Pointer" ⟨"DrawnPaths$Pointer", "push", "(J)V"⟩ ⟨"DrawnPaths$Pointer", "push", "(J)V"⟩) ∈ lw_wd := List.mem_filter.mpr ⟨List.mem_append_right _ (List.mem_of_getElem? (i := 569) (by decide +kernel)), rfl⟩
theorem nw_570 : (Cond.code ⟨"DrawnPaths$Pointer", "push", "(J)V"⟩ prog_6_method_4_code 3 (Option.none : Option FieldType)) ∈ lw_wd := List.mem_filter.mpr ⟨List.mem_append_right _ (List.mem_of_getElem? (i := 570) (by decide +kernel)), rfl⟩
theorem nw_571 : (Cond.constantLong "DrawnPaths$Run" 212 (-1 : Int64)) ∈ lw_wd := List.mem_filter.mpr ⟨List.mem_append_right _ (List.mem_of_getElem? (i := 571) (by decide +kernel)), rfl⟩
theorem nw_572 : (Cond.methodLink "DrawnPaths$Run" 168 ⟨"DrawnPaths$Run", "writeSign", "(LDrawnPaths$Pointer;)I"⟩) ∈ lw_wd := List.mem_filter.mpr ⟨List.mem_append_right _ (List.mem_of_getElem? (i := 572) (by decide +kernel)), rfl⟩
theorem nw_573 : (Cond.instanceMethod ⟨"DrawnPaths$Run", "writeSign", "(LDrawnPaths$Pointer;)I"⟩) ∈ lw_wd := List.mem_filter.mpr ⟨List.mem_append_right _ (List.mem_of_getElem? (i := 573) (by decide +kernel)), rfl⟩
theorem nw_574 : (Cond.selects "DrawnPaths$Run" ⟨"DrawnPaths$Run", "writeSign", "(LDrawnPaths$Pointer;)I"⟩ ⟨"DrawnPaths$Run", "writeSign", "(LDrawnPaths$Pointer;)I"⟩) ∈ lw_wd := List.mem_filter.mpr ⟨List.mem_append_right _ (List.mem_of_getElem? (i := 574) (by decide +kernel)), rfl⟩
theorem nw_575 : (Cond.code ⟨"DrawnPaths$Run", "writeSign", "(LDrawnPaths$Pointer;)I"⟩ prog_7_method_20_code 3 (Option.some FieldType.int)) ∈ lw_wd := List.mem_filter.mpr ⟨List.mem_append_right _ (List.mem_of_getElem? (i := 575) (by decide +kernel)), rfl⟩
theorem nw_576 : (Cond.methodLink "DrawnPaths$Run" 148 ⟨"DrawnPaths$Run", "popPlace", "(LDrawnPaths$Pointer;)I"⟩) ∈ lw_wd := List.mem_filter.mpr ⟨List.mem_append_right _ (List.mem_of_getElem? (i := 576) (by decide +kernel)), rfl⟩
theorem nw_577 : (Cond.static ⟨"DrawnPaths$Run", "popPlace", "(LDrawnPaths$Pointer;)I"⟩) ∈ lw_wd := List.mem_filter.mpr ⟨List.mem_append_right _ (List.mem_of_getElem? (i := 577) (by decide +kernel)), rfl⟩
theorem nw_578 : (Cond.code ⟨"DrawnPaths$Run", "popPlace", "(LDrawnPaths$Pointer;)I"⟩ prog_7_method_13_code 5 (Option.some FieldType.int)) ∈ lw_wd := List.mem_filter.mpr ⟨List.mem_append_right _ (List.mem_of_getElem? (i := 578) (by decide +kernel)), rfl⟩
theorem nw_579 : (Cond.methodLinkNest "DrawnPaths$Run" 152 ⟨"DrawnPaths", "joinedPlace", "(JJ)I"⟩ "DrawnPaths") ∈ lw_oth := List.mem_filter.mpr ⟨List.mem_append_right _ (List.mem_of_getElem? (i := 579) (by decide +kernel)), rfl⟩
theorem nw_580 : (Cond.static ⟨"DrawnPaths", "joinedPlace", "(JJ)I"⟩) ∈ lw_wd := List.mem_filter.mpr ⟨List.mem_append_right _ (List.mem_of_getElem? (i := 580) (by decide +kernel)), rfl⟩
theorem nw_581 : (Cond.code ⟨"DrawnPaths", "joinedPlace", "(JJ)I"⟩ prog_1_method_23_code 6 (Option.some FieldType.int)) ∈ lw_wd := List.mem_filter.mpr ⟨List.mem_append_right _ (List.mem_of_getElem? (i := 581) (by decide +kernel)), rfl⟩
theorem nw_582 : (Cond.constantLong "DrawnPaths" 227 (12 : Int64)) ∈ lw_wd := List.mem_filter.mpr ⟨List.mem_append_right _ (List.mem_of_getElem? (i := 582) (by decide +kernel)), rfl⟩
theorem nw_583 : (Cond.methodLink "DrawnPaths" 229 ⟨"java/lang/Math", "floorMod", "(JJ)J"⟩) ∈ lw_wd := List.mem_filter.mpr ⟨List.mem_append_right _ (List.mem_of_getElem? (i := 583) (by decide +kernel)), rfl⟩
theorem nw_584 : (Cond.static ⟨"java/lang/Math", "floorMod", "(JJ)J"⟩) ∈ lw_wd := List.mem_filter.mpr ⟨List.mem_append_right _ (List.mem_of_getElem? (i := 584) (by decide +kernel)), rfl⟩
theorem nw_585 : (Cond.code ⟨"java/lang/Math", "floorMod", "(JJ)J"⟩ prog_16_method_52_code 6 (Option.some FieldType.long)) ∈ lw_wd := List.mem_filter.mpr ⟨List.mem_append_right _ (List.mem_of_getElem? (i := 585) (by decide +kernel)), rfl⟩
theorem nw_586 : (Cond.constantLong "DrawnPaths" 235 (8 : Int64)) ∈ lw_wd := List.mem_filter.mpr ⟨List.mem_append_right _ (List.mem_of_getElem? (i := 586) (by decide +kernel)), rfl⟩
theorem nw_587 : (Cond.methodLink "DrawnPaths$Run" 214 ⟨"DrawnPaths$Field", "write", "(IC)V"⟩) ∈ lw_wd := List.mem_filter.mpr ⟨List.mem_append_right _ (List.mem_of_getElem? (i := 587) (by decide +kernel)), rfl⟩
theorem nw_588 : (Cond.methodLink "DrawnPaths$Run" 171 ⟨"DrawnPaths$Run", "goAway", "(LDrawnPaths$Pointer;)I"⟩) ∈ lw_wd := List.mem_filter.mpr ⟨List.mem_append_right _ (List.mem_of_getElem? (i := 588) (by decide +kernel)), rfl⟩
theorem nw_589 : (Cond.static ⟨"DrawnPaths$Run", "goAway", "(LDrawnPaths$Pointer;)I"⟩) ∈ lw_wd := List.mem_filter.mpr ⟨List.mem_append_right _ (List.mem_of_getElem? (i := 589) (by decide +kernel)), rfl⟩
theorem nw_590 : (Cond.code ⟨"DrawnPaths$Run", "goAway", "(LDrawnPaths$Pointer;)I"⟩ prog_7_method_21_code 2 (Option.some FieldType.int)) ∈ lw_wd := List.mem_filter.mpr ⟨List.mem_append_right _ (List.mem_of_getElem? (i := 590) (by decide +kernel)), rfl⟩
theorem nw_591 : (Cond.methodLink "DrawnPaths$Run" 225 ⟨"DrawnPaths$Way", "direction", "(I)I"⟩) ∈ lw_wd := List.mem_filter.mpr ⟨List.mem_append_right _ (List.mem_of_getElem? (i := 591) (by decide +kernel)), rfl⟩
theorem nw_592 : (Cond.methodLink "DrawnPaths$Run" 174 ⟨"DrawnPaths$Run", "goBack", "(LDrawnPaths$Pointer;)I"⟩) ∈ lw_wd := List.mem_filter.mpr ⟨List.mem_append_right _ (List.mem_of_getElem? (i := 592) (by decide +kernel)), rfl⟩
theorem nw_593 : (Cond.static ⟨"DrawnPaths$Run", "goBack", "(LDrawnPaths$Pointer;)I"⟩) ∈ lw_wd := List.mem_filter.mpr ⟨List.mem_append_right _ (List.mem_of_getElem? (i := 593) (by decide +kernel)), rfl⟩
theorem nw_594 : (Cond.code ⟨"DrawnPaths$Run", "goBack", "(LDrawnPaths$Pointer;)I"⟩ prog_7_method_22_code 1 (Option.some FieldType.int)) ∈ lw_wd := List.mem_filter.mpr ⟨List.mem_append_right _ (List.mem_of_getElem? (i := 594) (by decide +kernel)), rfl⟩
theorem nw_595 : (Cond.methodLink "DrawnPaths$Run" 177 ⟨"DrawnPaths$Run", "fork", "(LDrawnPaths$Pointer;)I"⟩) ∈ lw_wd := List.mem_filter.mpr ⟨List.mem_append_right _ (List.mem_of_getElem? (i := 595) (by decide +kernel)), rfl⟩
theorem nw_596 : (Cond.instanceMethod ⟨"DrawnPaths$Run", "fork", "(LDrawnPaths$Pointer;)I"⟩) ∈ lw_wd := List.mem_filter.mpr ⟨List.mem_append_right _ (List.mem_of_getElem? (i := 596) (by decide +kernel)), rfl⟩
theorem nw_597 : (Cond.selects "DrawnPaths$Run" ⟨"DrawnPaths$Run", "fork", "(LDrawnPaths$Pointer;)I"⟩ ⟨"DrawnPaths$Run", "fork", "(LDrawnPaths$Pointer;)I"⟩) ∈ lw_wd := List.mem_filter.mpr ⟨List.mem_append_right _ (List.mem_of_getElem? (i := 597) (by decide +kernel)), rfl⟩
theorem nw_598 : (Cond.code ⟨"DrawnPaths$Run", "fork", "(LDrawnPaths$Pointer;)I"⟩ prog_7_method_23_code 5 (Option.some FieldType.int)) ∈ lw_wd := List.mem_filter.mpr ⟨List.mem_append_right _ (List.mem_of_getElem? (i := 598) (by decide +kernel)), rfl⟩
theorem nw_599 : (Cond.methodLink "DrawnPaths$Run" 109 ⟨"DrawnPaths$Run", "pass", "(LDrawnPaths$Pointer;C)I"⟩) ∈ lw_wd := List.mem_filter.mpr ⟨List.mem_append_right _ (List.mem_of_getElem? (i := 599) (by decide +kernel)), rfl⟩
theorem nw_600 : (Cond.instanceMethod ⟨"DrawnPaths$Run", "pass", "(LDrawnPaths$Pointer;C)I"⟩) ∈ lw_wd := List.mem_filter.mpr ⟨List.mem_append_right _ (List.mem_of_getElem? (i := 600) (by decide +kernel)), rfl⟩
theorem nw_601 : (Cond.selects "DrawnPaths$Run" ⟨"DrawnPaths$Run", "pass", "(LDrawnPaths$Pointer;C)I"⟩ ⟨"DrawnPaths$Run", "pass", "(LDrawnPaths$Pointer;C)I"⟩) ∈ lw_wd := List.mem_filter.mpr ⟨List.mem_append_right _ (List.mem_of_getElem? (i := 601) (by decide +kernel)), rfl⟩
theorem nw_602 : (Cond.code ⟨"DrawnPaths$Run", "pass", "(LDrawnPaths$Pointer;C)I"⟩ prog_7_method_9_code 3 (Option.some FieldType.int)) ∈ lw_wd := List.mem_filter.mpr ⟨List.mem_append_right _ (List.mem_of_getElem? (i := 602) (by decide +kernel)), rfl⟩
theorem nw_603 : (Cond.methodLink "DrawnPaths$Run" 115 ⟨"DrawnPaths$Run", "pushesMore", "(IC)Z"⟩) ∈ lw_wd := List.mem_filter.mpr ⟨List.mem_append_right _ (List.mem_of_getElem? (i := 603) (by decide +kernel)), rfl⟩
theorem nw_604 : (Cond.static ⟨"DrawnPaths$Run", "pushesMore", "(IC)Z"⟩) ∈ lw_wd := List.mem_filter.mpr ⟨List.mem_append_right _ (List.mem_of_getElem? (i := 604) (by decide +kernel)), rfl⟩
theorem nw_605 : (Cond.code ⟨"DrawnPaths$Run", "pushesMore", "(IC)Z"⟩ prog_7_method_10_code 2 (Option.some FieldType.boolean)) ∈ lw_wd := List.mem_filter.mpr ⟨List.mem_append_right _ (List.mem_of_getElem? (i := 605) (by decide +kernel)), rfl⟩
theorem nw_606 : (Cond.methodLink "DrawnPaths$Run" 122 ⟨"DrawnPaths$Way", "quotes", "(I)I"⟩) ∈ lw_wd := List.mem_filter.mpr ⟨List.mem_append_right _ (List.mem_of_getElem? (i := 606) (by decide +kernel)), rfl⟩
theorem nw_607 : (Cond.methodLink "DrawnPaths$Run" 125 ⟨"DrawnPaths$Run", "reckon", "(LDrawnPaths$Pointer;C)V"⟩) ∈ lw_wd := List.mem_filter.mpr ⟨List.mem_append_right _ (List.mem_of_getElem? (i := 607) (by decide +kernel)), rfl⟩
theorem nw_608 : (Cond.instanceMethod ⟨"DrawnPaths$Run", "reckon", "(LDrawnPaths$Pointer;C)V"⟩) ∈ lw_wd := List.mem_filter.mpr ⟨List.mem_append_right _ (List.mem_of_getElem? (i := 608) (by decide +kernel)), rfl⟩
theorem nw_609 : (Cond.selects "DrawnPaths$Run" ⟨"DrawnPaths$Run", "reckon", "(LDrawnPaths$Pointer;C)V"⟩ ⟨"DrawnPaths$Run", "reckon", "(LDrawnPaths$Pointer;C)V"⟩) ∈ lw_wd := List.mem_filter.mpr ⟨List.mem_append_right _ (List.mem_of_getElem? (i := 609) (by decide +kernel)), rfl⟩
theorem nw_610 : (Cond.code ⟨"DrawnPaths$Run", "reckon", "(LDrawnPaths$Pointer;C)V"⟩ prog_7_method_11_code 11 (Option.none : Option FieldType)) ∈ lw_wd := List.mem_filter.mpr ⟨List.mem_append_right _ (List.mem_of_getElem? (i := 610) (by decide +kernel)), rfl⟩
theorem nw_611 : (Cond.methodLink "DrawnPaths$Run" 137 ⟨"DrawnPaths$Run", "join", "(LDrawnPaths$Pointer;C)V"⟩) ∈ lw_wd := List.mem_filter.mpr ⟨List.mem_append_right _ (List.mem_of_getElem? (i := 611) (by decide +kernel)), rfl⟩
theorem nw_612 : (Cond.static ⟨"DrawnPaths$Run", "join", "(LDrawnPaths$Pointer;C)V"⟩) ∈ lw_wd := List.mem_filter.mpr ⟨List.mem_append_right _ (List.mem_of_getElem? (i := 612) (by decide +kernel)), rfl⟩
theorem nw_613 : (Cond.code ⟨"DrawnPaths$Run", "join", "(LDrawnPaths$Pointer;C)V"⟩ prog_7_method_12_code 6 (Option.none : Option FieldType)) ∈ lw_wd := List.mem_filter.mpr ⟨List.mem_append_right _ (List.mem_of_getElem? (i := 613) (by decide +kernel)), rfl⟩
theorem nw_614 : (Cond.methodLink "DrawnPaths$Run" 133 ⟨"DrawnPaths$Way", "behind", "(IC)I"⟩) ∈ lw_wd := List.mem_filter.mpr ⟨List.mem_append_right _ (List.mem_of_getElem? (i := 614) (by decide +kernel)), rfl⟩
theorem nw_615 : (Cond.methodLink "DrawnPaths$Run" 112 ⟨"DrawnPaths$Run", "remove", "(I)V"⟩) ∈ lw_wd := List.mem_filter.mpr ⟨List.mem_append_right _ (List.mem_of_getElem? (i := 615) (by decide +kernel)), rfl⟩
theorem nw_616 : (Cond.instanceMethod ⟨"DrawnPaths$Run", "remove", "(I)V"⟩) ∈ lw_wd := List.mem_filter.mpr ⟨List.mem_append_right _ (List.mem_of_getElem? (i := 616) (by decide +kernel)), rfl⟩
theorem nw_617 : (Cond.selects "DrawnPaths$Run" ⟨"DrawnPaths$Run", "remove", "(I)V"⟩ ⟨"DrawnPaths$Run", "remove", "(I)V"⟩) ∈ lw_wd := List.mem_filter.mpr ⟨List.mem_append_right _ (List.mem_of_getElem? (i := 617) (by decide +kernel)), rfl⟩
theorem nw_618 : (Cond.code ⟨"DrawnPaths$Run", "remove", "(I)V"⟩ prog_7_method_8_code 4 (Option.none : Option FieldType)) ∈ lw_wd := List.mem_filter.mpr ⟨List.mem_append_right _ (List.mem_of_getElem? (i := 618) (by decide +kernel)), rfl⟩
theorem nw_623 : (Cond.instanceMethod ⟨"DrawnPaths", "fast", "(I)I"⟩) ∈ lw_wd := List.mem_filter.mpr ⟨List.mem_append_right _ (List.mem_of_getElem? (i := 623) (by decide +kernel)), rfl⟩
theorem nw_624 : (Cond.selects "DrawnPaths" ⟨"DrawnPaths", "fast", "(I)I"⟩ ⟨"DrawnPaths", "fast", "(I)I"⟩) ∈ lw_wd := List.mem_filter.mpr ⟨List.mem_append_right _ (List.mem_of_getElem? (i := 624) (by decide +kernel)), rfl⟩
theorem nw_626 : (Cond.methodLink "DrawnPaths" 127 ⟨"DrawnPaths$Run", "signsTogether", "(I)I"⟩) ∈ lw_wd := List.mem_filter.mpr ⟨List.mem_append_right _ (List.mem_of_getElem? (i := 626) (by decide +kernel)), rfl⟩
theorem nw_627 : (Cond.instanceMethod ⟨"DrawnPaths$Run", "signsTogether", "(I)I"⟩) ∈ lw_wd := List.mem_filter.mpr ⟨List.mem_append_right _ (List.mem_of_getElem? (i := 627) (by decide +kernel)), rfl⟩
theorem nw_628 : (Cond.selects "DrawnPaths$Run" ⟨"DrawnPaths$Run", "signsTogether", "(I)I"⟩ ⟨"DrawnPaths$Run", "signsTogether", "(I)I"⟩) ∈ lw_wd := List.mem_filter.mpr ⟨List.mem_append_right _ (List.mem_of_getElem? (i := 628) (by decide +kernel)), rfl⟩
theorem nw_629 : (Cond.code ⟨"DrawnPaths$Run", "signsTogether", "(I)I"⟩ prog_7_method_6_code 4 (Option.some FieldType.int)) ∈ lw_wd := List.mem_filter.mpr ⟨List.mem_append_right _ (List.mem_of_getElem? (i := 629) (by decide +kernel)), rfl⟩
theorem nw_630 : (Cond.methodLink "DrawnPaths$Run" 87 ⟨"DrawnPaths$Blocks", "find", "(I)LDrawnPaths$Block;"⟩) ∈ lw_wd := List.mem_filter.mpr ⟨List.mem_append_right _ (List.mem_of_getElem? (i := 630) (by decide +kernel)), rfl⟩
theorem nw_631 : (Cond.instanceMethod ⟨"DrawnPaths$Blocks", "find", "(I)LDrawnPaths$Block;"⟩) ∈ lw_wd := List.mem_filter.mpr ⟨List.mem_append_right _ (List.mem_of_getElem? (i := 631) (by decide +kernel)), rfl⟩
theorem nw_632 : (Cond.selects "DrawnPaths$Blocks" ⟨"DrawnPaths$Blocks", "find", "(I)LDrawnPaths$Block;"⟩ ⟨"DrawnPaths$Blocks", "find", "(I)LDrawnPaths$Block;"⟩) ∈ lw_wd := List.mem_filter.mpr ⟨List.mem_append_right _ (List.mem_of_getElem? (i := 632) (by decide +kernel)), rfl⟩
theorem nw_633 : (Cond.code ⟨"DrawnPaths$Blocks", "find", "(I)LDrawnPaths$Block;"⟩ prog_3_method_2_code 3 (Option.some (FieldType.object "DrawnPaths$Block"))) ∈ lw_wd := List.mem_filter.mpr ⟨List.mem_append_right _ (List.mem_of_getElem? (i := 633) (by decide +kernel)), rfl⟩
theorem nw_634 : (Cond.methodLink "DrawnPaths$Run" 93 ⟨"DrawnPaths$Blocks", "make", "(I[C)LDrawnPaths$Block;"⟩) ∈ lw_wd := List.mem_filter.mpr ⟨List.mem_append_right _ (List.mem_of_getElem? (i := 634) (by decide +kernel)), rfl⟩
theorem nw_635 : (Cond.instanceMethod ⟨"DrawnPaths$Blocks", "make", "(I[C)LDrawnPaths$Block;"⟩) ∈ lw_wd := List.mem_filter.mpr ⟨List.mem_append_right _ (List.mem_of_getElem? (i := 635) (by decide +kernel)), rfl⟩
theorem nw_636 : (Cond.selects "DrawnPaths$Blocks" ⟨"DrawnPaths$Blocks", "make", "(I[C)LDrawnPaths$Block;"⟩ ⟨"DrawnPaths$Blocks", "make", "(I[C)LDrawnPaths$Block;"⟩) ∈ lw_wd := List.mem_filter.mpr ⟨List.mem_append_right _ (List.mem_of_getElem? (i := 636) (by decide +kernel)), rfl⟩
theorem nw_637 : (Cond.code ⟨"DrawnPaths$Blocks", "make", "(I[C)LDrawnPaths$Block;"⟩ prog_3_method_3_code 4 (Option.some (FieldType.object "DrawnPaths$Block"))) ∈ lw_wd := List.mem_filter.mpr ⟨List.mem_append_right _ (List.mem_of_getElem? (i := 637) (by decide +kernel)), rfl⟩
theorem nw_638 : (Cond.methodLink "DrawnPaths$Blocks" 29 ⟨"DrawnPaths$Block", "trace", "(I[C[I)V"⟩) ∈ lw_wd := List.mem_filter.mpr ⟨List.mem_append_right _ (List.mem_of_getElem? (i := 638) (by decide +kernel)), rfl⟩
theorem nw_639 : (Cond.instanceMethod ⟨"DrawnPaths$Block", "trace", "(I[C[I)V"⟩) ∈ lw_wd := List.mem_filter.mpr ⟨List.mem_append_right _ (List.mem_of_getElem? (i := 639) (by decide +kernel)), rfl⟩
theorem nw_640 : (Cond.selects "DrawnPaths$Block" ⟨"DrawnPaths$Block", "trace", "(I[C[I)V"⟩ ⟨"DrawnPaths$Block", "trace", "(I[C[I)V"⟩) ∈ lw_wd := List.mem_filter.mpr ⟨List.mem_append_right _ (List.mem_of_getElem? (i := 640) (by decide +kernel)), rfl⟩
theorem nw_641 : (Cond.code ⟨"DrawnPaths$Block", "trace", "(I[C[I)V"⟩ prog_2_method_4_code 8 (Option.none : Option FieldType)) ∈ lw_wd := List.mem_filter.mpr ⟨List.mem_append_right _ (List.mem_of_getElem? (i := 641) (by decide +kernel)), rfl⟩
theorem nw_642 : (Cond.methodLink "DrawnPaths$Block" 22 ⟨"DrawnPaths$Way", "place", "(I)I"⟩) ∈ lw_wd := List.mem_filter.mpr ⟨List.mem_append_right _ (List.mem_of_getElem? (i := 642) (by decide +kernel)), rfl⟩
theorem nw_643 : (Cond.methodLinkNest "DrawnPaths$Block" 28 ⟨"DrawnPaths", "isAct", "(IC)Z"⟩ "DrawnPaths") ∈ lw_oth := List.mem_filter.mpr ⟨List.mem_append_right _ (List.mem_of_getElem? (i := 643) (by decide +kernel)), rfl⟩
theorem nw_644 : (Cond.methodLink "DrawnPaths$Block" 32 ⟨"DrawnPaths$Block", "addPlace", "(I)V"⟩) ∈ lw_wd := List.mem_filter.mpr ⟨List.mem_append_right _ (List.mem_of_getElem? (i := 644) (by decide +kernel)), rfl⟩
theorem nw_645 : (Cond.instanceMethod ⟨"DrawnPaths$Block", "addPlace", "(I)V"⟩) ∈ lw_wd := List.mem_filter.mpr ⟨List.mem_append_right _ (List.mem_of_getElem? (i := 645) (by decide +kernel)), rfl⟩
theorem nw_646 : (Cond.selects "DrawnPaths$Block" ⟨"DrawnPaths$Block", "addPlace", "(I)V"⟩ ⟨"DrawnPaths$Block", "addPlace", "(I)V"⟩) ∈ lw_wd := List.mem_filter.mpr ⟨List.mem_append_right _ (List.mem_of_getElem? (i := 646) (by decide +kernel)), rfl⟩
theorem nw_647 : (Cond.code ⟨"DrawnPaths$Block", "addPlace", "(I)V"⟩ prog_2_method_3_code 2 (Option.none : Option FieldType)) ∈ lw_wd := List.mem_filter.mpr ⟨List.mem_append_right _ (List.mem_of_getElem? (i := 647) (by decide +kernel)), rfl⟩
theorem nw_648 : (Cond.methodLink "DrawnPaths$Block" 36 ⟨"DrawnPaths$Way", "behind", "(IC)I"⟩) ∈ lw_wd := List.mem_filter.mpr ⟨List.mem_append_right _ (List.mem_of_getElem? (i := 648) (by decide +kernel)), rfl⟩
theorem nw_653 : (Cond.instanceMethod ⟨"DrawnPaths", "pointer", "(II)I"⟩) ∈ lw_wd := List.mem_filter.mpr ⟨List.mem_append_right _ (List.mem_of_getElem? (i := 653) (by decide +kernel)), rfl⟩
theorem nw_654 : (Cond.selects "DrawnPaths" ⟨"DrawnPaths", "pointer", "(II)I"⟩ ⟨"DrawnPaths", "pointer", "(II)I"⟩) ∈ lw_wd := List.mem_filter.mpr ⟨List.mem_append_right _ (List.mem_of_getElem? (i := 654) (by decide +kernel)), rfl⟩
theorem nw_656 : (Cond.methodLink "DrawnPaths" 131 ⟨"DrawnPaths", "livingPointer", "(I)LDrawnPaths$Pointer;"⟩) ∈ lw_wd := List.mem_filter.mpr ⟨List.mem_append_right _ (List.mem_of_getElem? (i := 656) (by decide +kernel)), rfl⟩
theorem nw_658 : (Cond.instanceMethod ⟨"DrawnPaths", "livingPointer", "(I)LDrawnPaths$Pointer;"⟩) ∈ lw_wd := List.mem_filter.mpr ⟨List.mem_append_right _ (List.mem_of_getElem? (i := 658) (by decide +kernel)), rfl⟩
theorem nw_659 : (Cond.code ⟨"DrawnPaths", "livingPointer", "(I)LDrawnPaths$Pointer;"⟩ prog_1_method_21_code 2 (Option.some (FieldType.object "DrawnPaths$Pointer"))) ∈ lw_wd := List.mem_filter.mpr ⟨List.mem_append_right _ (List.mem_of_getElem? (i := 659) (by decide +kernel)), rfl⟩
theorem nw_661 : (Cond.methodLink "DrawnPaths" 140 ⟨"DrawnPaths$Way", "place", "(I)I"⟩) ∈ lw_wd := List.mem_filter.mpr ⟨List.mem_append_right _ (List.mem_of_getElem? (i := 661) (by decide +kernel)), rfl⟩
theorem nw_662 : (Cond.methodLink "DrawnPaths" 145 ⟨"DrawnPaths$Way", "direction", "(I)I"⟩) ∈ lw_wd := List.mem_filter.mpr ⟨List.mem_append_right _ (List.mem_of_getElem? (i := 662) (by decide +kernel)), rfl⟩
theorem nw_668 : (Cond.instanceMethod ⟨"DrawnPaths", "value", "(II)J"⟩) ∈ lw_wd := List.mem_filter.mpr ⟨List.mem_append_right _ (List.mem_of_getElem? (i := 668) (by decide +kernel)), rfl⟩
theorem nw_669 : (Cond.selects "DrawnPaths" ⟨"DrawnPaths", "value", "(II)J"⟩ ⟨"DrawnPaths", "value", "(II)J"⟩) ∈ lw_wd := List.mem_filter.mpr ⟨List.mem_append_right _ (List.mem_of_getElem? (i := 669) (by decide +kernel)), rfl⟩
theorem nw_672 : (Cond.methodLink "DrawnPaths" 164 ⟨"DrawnPaths$Pointer", "fromTop", "(J)J"⟩) ∈ lw_wd := List.mem_filter.mpr ⟨List.mem_append_right _ (List.mem_of_getElem? (i := 672) (by decide +kernel)), rfl⟩
theorem nw_677 : (Cond.instanceMethod ⟨"DrawnPaths", "covers", "(II)I"⟩) ∈ lw_wd := List.mem_filter.mpr ⟨List.mem_append_right _ (List.mem_of_getElem? (i := 677) (by decide +kernel)), rfl⟩
theorem nw_678 : (Cond.selects "DrawnPaths" ⟨"DrawnPaths", "covers", "(II)I"⟩ ⟨"DrawnPaths", "covers", "(II)I"⟩) ∈ lw_wd := List.mem_filter.mpr ⟨List.mem_append_right _ (List.mem_of_getElem? (i := 678) (by decide +kernel)), rfl⟩
theorem nw_680 : (Cond.methodLink "DrawnPaths" 186 ⟨"DrawnPaths$Blocks", "over", "(I)I"⟩) ∈ lw_wd := List.mem_filter.mpr ⟨List.mem_append_right _ (List.mem_of_getElem? (i := 680) (by decide +kernel)), rfl⟩
theorem nw_681 : (Cond.instanceMethod ⟨"DrawnPaths$Blocks", "over", "(I)I"⟩) ∈ lw_wd := List.mem_filter.mpr ⟨List.mem_append_right _ (List.mem_of_getElem? (i := 681) (by decide +kernel)), rfl⟩
theorem nw_682 : (Cond.selects "DrawnPaths$Blocks" ⟨"DrawnPaths$Blocks", "over", "(I)I"⟩ ⟨"DrawnPaths$Blocks", "over", "(I)I"⟩) ∈ lw_wd := List.mem_filter.mpr ⟨List.mem_append_right _ (List.mem_of_getElem? (i := 682) (by decide +kernel)), rfl⟩
theorem nw_683 : (Cond.code ⟨"DrawnPaths$Blocks", "over", "(I)I"⟩ prog_3_method_5_code 4 (Option.some FieldType.int)) ∈ lw_wd := List.mem_filter.mpr ⟨List.mem_append_right _ (List.mem_of_getElem? (i := 683) (by decide +kernel)), rfl⟩
theorem nw_688 : (Cond.instanceMethod ⟨"DrawnPaths", "block", "(IIIZI)I"⟩) ∈ lw_wd := List.mem_filter.mpr ⟨List.mem_append_right _ (List.mem_of_getElem? (i := 688) (by decide +kernel)), rfl⟩
theorem nw_689 : (Cond.selects "DrawnPaths" ⟨"DrawnPaths", "block", "(IIIZI)I"⟩ ⟨"DrawnPaths", "block", "(IIIZI)I"⟩) ∈ lw_wd := List.mem_filter.mpr ⟨List.mem_append_right _ (List.mem_of_getElem? (i := 689) (by decide +kernel)), rfl⟩
theorem nw_692 : (Cond.methodLink "DrawnPaths" 191 ⟨"DrawnPaths$Way", "of", "(III)I"⟩) ∈ lw_wd := List.mem_filter.mpr ⟨List.mem_append_right _ (List.mem_of_getElem? (i := 692) (by decide +kernel)), rfl⟩
theorem nw_693 : (Cond.methodLink "DrawnPaths" 195 ⟨"DrawnPaths$Blocks", "find", "(I)LDrawnPaths$Block;"⟩) ∈ lw_wd := List.mem_filter.mpr ⟨List.mem_append_right _ (List.mem_of_getElem? (i := 693) (by decide +kernel)), rfl⟩
theorem nw_698 : (Cond.instanceMethod ⟨"DrawnPaths", "lost", "(II)Z"⟩) ∈ lw_wd := List.mem_filter.mpr ⟨List.mem_append_right _ (List.mem_of_getElem? (i := 698) (by decide +kernel)), rfl⟩
theorem nw_699 : (Cond.selects "DrawnPaths" ⟨"DrawnPaths", "lost", "(II)Z"⟩ ⟨"DrawnPaths", "lost", "(II)Z"⟩) ∈ lw_wd := List.mem_filter.mpr ⟨List.mem_append_right _ (List.mem_of_getElem? (i := 699) (by decide +kernel)), rfl⟩
end
section
theorem goodIn_r {big : List Cond} (ws : List Cond) (ps : List Nat) (hp : ws = ps.filterMap (fun i => big[i]?)) (h : ws.all goodWord = true) : GoodIn big ws := by
  intro w hw
  have h1 := List.all_eq_true.mp h w hw
  rw [hp] at hw
  obtain ⟨i, -, hi⟩ := List.mem_filterMap.mp hw
  have hm : w ∈ big := by first | exact List.mem_of_getElem? hi | exact List.getElem?_mem hi
  exact ⟨hm, good_of_word h1⟩
theorem goodIn_app {big a b : List Cond} (ha : GoodIn big a) (hb : GoodIn big b) : GoodIn big (a ++ b) := fun w h => (List.mem_append.mp h).elim (ha w) (hb w)
theorem goodIn_ca {big a b : List Cond} {c : Cond} (ha : GoodIn big (c :: a)) (hb : GoodIn big b) : GoodIn big (c :: (a ++ b)) := fun w h => (List.mem_cons.mp h).elim (fun e => ha w (List.mem_cons.mpr (Or.inl e))) (fun h => (List.mem_append.mp h).elim (fun h => ha w (List.mem_cons.mpr (Or.inr h))) (hb w))
theorem goodIn_sub {big ws : List Cond} (hm : ∀ w ∈ ws, w ∈ big) (h : ws.all goodWord = true) : GoodIn big ws := fun w hw => ⟨hm w hw, good_of_word (List.all_eq_true.mp h w hw)⟩

/-! guards of the functions: an index within an array, a number that names a cell, a call that may throw -/
def gd (n : Nat) (i : Int32) : Option Nat := if i < 0 ∨ n ≤ i.toNatClampNeg then none else some i.toNatClampNeg
theorem gd_eq {n : Nat} {i : Int32} {j : Nat} (h : gd n i = some j) : vp_in i n ∧ i.toNatClampNeg = j ∧ j < n := by
  unfold gd at h
  by_cases hc : i < 0 ∨ n ≤ i.toNatClampNeg
  · rw [if_pos hc] at h; cases h
  · rw [if_neg hc] at h
    have e := Option.some.inj h
    exact ⟨hc, e, by rw [← e]; exact Nat.not_le.mp fun q => hc (Or.inr q)⟩
def gn (n : Nat) (k : Nat) : Option Nat := if k < n then some k else none
theorem gn_eq {n k j : Nat} (h : gn n k = some j) : k = j ∧ j < n := by
  unfold gn at h
  by_cases hc : k < n
  · rw [if_pos hc] at h
    have e := Option.some.inj h
    exact ⟨e, by rw [← e]; exact hc⟩
  · rw [if_neg hc] at h; cases h
def nc (v : Int32) : Option Int32 := if vp_nar .char v = v then some v else none
theorem nc_eq {v r : Int32} (h : nc v = some r) : v = r ∧ vp_nar .char v = v := by
  unfold nc at h
  by_cases hc : vp_nar .char v = v
  · rw [if_pos hc] at h
    exact ⟨Option.some.inj h, hc⟩
  · rw [if_neg hc] at h; cases h
def obr {α : Type} (o : Option Nat) (A : Option α) (B : Nat → Option α) : Option α := match o with
  | none => A
  | some k => B k
theorem obr_eq {α : Type} {o : Option Nat} {A : Option α} {B : Nat → Option α} {q : α} (h : obr o A B = some q) : (o = none ∧ A = some q) ∨ ∃ k, o = some k ∧ B k = some q := by
  cases o with
  | none => exact Or.inl ⟨rfl, h⟩
  | some k => exact Or.inr ⟨k, rfl, h⟩
def sbd {α β : Type} (o : Nat ⊕ α) (f : α → Option (Nat ⊕ β)) : Option (Nat ⊕ β) := match o with
  | .inl c => some (.inl c)
  | .inr a => f a
theorem sbd_inr {α β : Type} {o : Nat ⊕ α} {f : α → Option (Nat ⊕ β)} {q : β} (h : sbd o f = some (.inr q)) : ∃ a, o = .inr a ∧ f a = some (.inr q) := by
  cases o with
  | inl c => cases h
  | inr a => exact ⟨a, rfl, h⟩
theorem sbd_inl {α β : Type} {o : Nat ⊕ α} {f : α → Option (Nat ⊕ β)} {q : Nat} (h : sbd o f = some (.inl q)) : o = .inl q ∨ ∃ a, o = .inr a ∧ f a = some (.inl q) := by
  cases o with
  | inl c => cases h; exact Or.inl rfl
  | inr a => exact Or.inr ⟨a, rfl, h⟩
def obd {α β : Type} (o : Option (Nat ⊕ α)) (f : α → Option (Nat ⊕ β)) : Option (Nat ⊕ β) := o.bind fun x => sbd x f
theorem obd_inr {α β : Type} {o : Option (Nat ⊕ α)} {f : α → Option (Nat ⊕ β)} {q : β} (h : obd o f = some (.inr q)) : ∃ a, o = some (.inr a) ∧ f a = some (.inr q) := by
  cases o with
  | none => cases h
  | some x =>
    obtain ⟨a, h1, h2⟩ := sbd_inr (o := x) h
    exact ⟨a, by rw [h1], h2⟩
theorem obd_inl {α β : Type} {o : Option (Nat ⊕ α)} {f : α → Option (Nat ⊕ β)} {q : Nat} (h : obd o f = some (.inl q)) : o = some (.inl q) ∨ ∃ a, o = some (.inr a) ∧ f a = some (.inl q) := by
  cases o with
  | none => cases h
  | some x =>
    rcases sbd_inl (o := x) h with h1 | ⟨a, h1, h2⟩
    · exact Or.inl (by rw [h1])
    · exact Or.inr ⟨a, by rw [h1], h2⟩
theorem map_inr {α : Type} {o : Option α} {q : α} (h : o.map (Sum.inr (α := Nat)) = some (Sum.inr q)) : o = some q := by
  cases o with
  | none => cases h
  | some x => cases h; rfl
theorem no_inl {α : Type} (o : Option α) (q : Nat) : ¬ o.map (Sum.inr (α := Nat)) = some (Sum.inl q) := by
  intro h
  cases o with
  | none => cases h
  | some x => cases h
/-! what of the library the functions name -/
def jk_min (x y : Int32) : Int32 := if y < x then y else x
def jk_abs (x : Int64) : Int64 := if 0 < x then x else -x
theorem narrow_c {v : Int32} (h : vp_nar .char v = v) : narrow .char (.int v) = .int v := by
  have e : narrow .char (.int v) = .int (vp_nar .char v) := rfl
  rw [e, h]
theorem nc_nar {v : Int32} (h : vp_nar .char v = v) : narrow .char (.int v) = .int v := narrow_c h
def nz (v : Int32) : Option Int32 := if vp_nar .boolean v = v then some v else none
theorem nz_eq {v r : Int32} (h : nz v = some r) : v = r ∧ vp_nar .boolean v = v := by
  unfold nz at h
  by_cases hc : vp_nar .boolean v = v
  · rw [if_pos hc] at h
    exact ⟨Option.some.inj h, hc⟩
  · rw [if_neg hc] at h; cases h
theorem nz_nar {v : Int32} (h : vp_nar .boolean v = v) : narrow .boolean (.int v) = .int v := by
  have e : narrow .boolean (.int v) = .int (vp_nar .boolean v) := rfl
  rw [e, h]
def orf (ad : Nat → Nat) (b : Nat) (o : Option Nat) : Value := match o with
  | none => .null
  | some k => .ref (ad (k + b))
def gc (n0 n1 : Nat) (f : Nat → Int32) (sp dp n : Int32) : Option (Nat × Nat × Nat) := if sp < 0 ∨ dp < 0 ∨ n < 0 ∨ n0 < sp.toNatClampNeg + n.toNatClampNeg ∨ n1 < dp.toNatClampNeg + n.toNatClampNeg ∨ (List.range n.toNatClampNeg).all (fun i => fits .char (.int (f (sp.toNatClampNeg + i)))) = false then none else some (sp.toNatClampNeg, dp.toNatClampNeg, n.toNatClampNeg)
theorem gc_eq {n0 n1 : Nat} {f : Nat → Int32} {sp dp n : Int32} {j : Nat × Nat × Nat} (h : gc n0 n1 f sp dp n = some j) : ¬ sp < 0 ∧ ¬ dp < 0 ∧ ¬ n < 0 ∧ sp.toNatClampNeg + n.toNatClampNeg ≤ n0 ∧ dp.toNatClampNeg + n.toNatClampNeg ≤ n1 ∧ (∀ i, i < n.toNatClampNeg → fits .char (.int (f (sp.toNatClampNeg + i))) = true) ∧ (sp.toNatClampNeg, dp.toNatClampNeg, n.toNatClampNeg) = j := by
  unfold gc at h
  by_cases hc : sp < 0 ∨ dp < 0 ∨ n < 0 ∨ n0 < sp.toNatClampNeg + n.toNatClampNeg ∨ n1 < dp.toNatClampNeg + n.toNatClampNeg ∨ (List.range n.toNatClampNeg).all (fun i => fits .char (.int (f (sp.toNatClampNeg + i)))) = false
  · rw [if_pos hc] at h; cases h
  · rw [if_neg hc] at h
    refine ⟨fun q => hc (Or.inl q), fun q => hc (Or.inr (Or.inl q)), fun q => hc (Or.inr (Or.inr (Or.inl q))), Nat.not_lt.mp fun q => hc (Or.inr (Or.inr (Or.inr (Or.inl q)))), Nat.not_lt.mp fun q => hc (Or.inr (Or.inr (Or.inr (Or.inr (Or.inl q))))), fun i hi => ?_, Option.some.inj h⟩
    have h9 : (List.range n.toNatClampNeg).all (fun i => fits .char (.int (f (sp.toNatClampNeg + i)))) = true := by
      cases e : (List.range n.toNatClampNeg).all (fun i => fits .char (.int (f (sp.toNatClampNeg + i)))) with
      | true => rfl
      | false => exact absurd (Or.inr (Or.inr (Or.inr (Or.inr (Or.inr e))))) hc
    exact List.all_eq_true.mp h9 i (List.mem_range.mpr hi)
/-! room and words of a contract -/
theorem NW.same {u U : State} (h : u.vm = U.vm) (hN : NW u) : NW U := ⟨fun w hw => by
    have h1 := hN.1 w hw
    have h2 := lw_oth_ok w hw
    cases w <;> first
      | exact va_tabs rfl h h1
      | (simp [lw_okK] at h2; done), fun q hq => by
    obtain ⟨a, ha⟩ := hN.2 q hq
    exact ⟨a, vk_R.same h.symm ha⟩⟩
theorem NW.warm {s U : State} (hW : s.WarmedH U.vm) (hN : NW s) : NW U := ⟨fun w hw => by
    have h1 := hN.1 w hw
    have h2 := lw_oth_ok w hw
    cases w <;> first
      | exact va_Nw.warmM hW h1
      | exact va_Nw.warmD hW h1
      | exact va_Nw.warmC hW h1
      | exact va_tabs rfl (rfl : (s.setVm U.vm).vm = U.vm) (by rw [Cond.privateMethod_setVm hW.alike]; exact h1)
      | (simp [lw_okK] at h2; done), fun q hq => by
    obtain ⟨a, ha⟩ := hN.2 q hq
    exact ⟨a, vk_R.warm hW ha⟩⟩
def rmO (f n : Nat) : Room := { frames := f, cells := 0, slots := 0, locals := n }
def wsO (y : MethodName) (cd : ByteArray) (n : Nat) (r : Option FieldType) : List Cond := Cond.code y cd n r :: lw_wd
theorem lw_allgood : lw_wd.all goodWord = true := List.all_eq_true.mpr fun w h => (List.mem_filter.mp h).2
theorem wsO_good {y : MethodName} {cd : ByteArray} {n : Nat} {r : Option FieldType} (h : Cond.code y cd n r ∈ lw_wd) : GoodIn lw_wd (wsO y cd n r) := fun w hw => by
  have hm : w ∈ lw_wd := (List.mem_cons.mp hw).elim (fun e => e ▸ h) id
  exact ⟨hm, good_of_word (List.all_eq_true.mp lw_allgood w hm)⟩
theorem va_P_eq {D : va_G} {cl : List vw_C} {ws ws' : va_W} {H : Heap} (e : ws = ws') (h : va_P D cl ws H) : va_P D cl ws' H := e ▸ h
theorem ic {α : Type} {c : Prop} [Decidable c] {a a' b b' : α} (h1 : c → a = a') (h2 : ¬ c → b = b') : (if c then a else b) = (if c then a' else b') := by
  by_cases h : c
  · rw [if_pos h, if_pos h, h1 h]
  · rw [if_neg h, if_neg h, h2 h]
theorem up_eq {α : Type} {f : Nat → α} {k : Nat} {v : α} : va_up f k v k = v := if_pos rfl
theorem up_ne {α : Type} {f : Nat → α} {k j : Nat} {v : α} (h : j ≠ k) : va_up f k v j = f j := if_neg h
theorem rf_up (ad f : Nat → Nat) (k v b : Nat) : (fun j => some (ad (va_up f k v j + b))) = va_up (fun j => some (ad (f j + b))) k (some (ad (v + b))) := by
  funext j
  by_cases h : j = k
  · subst h; rw [up_eq, up_eq]
  · rw [up_ne h, up_ne h]
/-! a world of N cells, by their numbers -/
def wdG (N : Nat) (ad : Nat → Nat) (ct : Nat → va_E) : va_W := (List.range N).map (fun i => (ad i, ct i))
theorem wdG_get {N : Nat} {ad : Nat → Nat} {ct : Nat → va_E} {i : Nat} (h : i < N) : (wdG N ad ct)[i]? = some (ad i, ct i) := by
  simp [wdG, h]
theorem wdG_at {N : Nat} {ad : Nat → Nat} {ct : Nat → va_E} {i : Nat} {e : va_E} (h : i < N) (he : ct i = e) : (wdG N ad ct)[i]? = some (ad i, e) := by
  rw [wdG_get h, he]
theorem wdG_set {N : Nat} {ad : Nat → Nat} {ct ct' : Nat → va_E} {i : Nat} {e : va_E} (hi : i < N) (ho : ∀ j, j < N → j ≠ i → ct' j = ct j) (he : ct' i = e) : (wdG N ad ct).set i (ad i, e) = wdG N ad ct' := by
  apply List.ext_getElem?
  intro j
  by_cases hj : j < N
  · rw [wdG_get hj, List.getElem?_set]
    by_cases hij : i = j
    · subst hij
      rw [if_pos rfl, if_pos (by simp [wdG, hi]), he]
    · rw [if_neg hij, wdG_get hj, ho j hj (fun h => hij h.symm)]
  · rw [List.getElem?_eq_none (by simp [wdG]; omega), List.getElem?_eq_none (by simp [wdG]; omega)]
def wdD (N : Nat) (A : Nat → Prop) (ad : Nat → Nat) : Prop := ∀ ct, va_D A (wdG N ad ct)
theorem wdD_of {N : Nat} {A : Nat → Prop} {ad : Nat → Nat} (hi : ∀ i j, i < N → j < N → ad i = ad j → i = j) (hA : ∀ i, i < N → A (ad i)) : wdD N A ad := by
  intro ct
  refine ⟨fun i j p q hp hq e => ?_, fun k q hq => ?_⟩
  · have h1 : i < N := by have := (List.getElem?_eq_some_iff.mp hp).1; simpa [wdG] using this
    have h2 : j < N := by have := (List.getElem?_eq_some_iff.mp hq).1; simpa [wdG] using this
    rw [wdG_get h1] at hp
    rw [wdG_get h2] at hq
    cases hp; cases hq
    exact hi i j h1 h2 e
  · have h1 : k < N := by have := (List.getElem?_eq_some_iff.mp hq).1; simpa [wdG] using this
    rw [wdG_get h1] at hq
    cases hq
    exact hA k h1
/-! a contract: the answer v, the cells before, the cells behind -/
def RetQ (D : va_G) (cl : List vw_C) (tys : List (ClassId × FieldType)) (A : Nat → Prop) (v : Option Value) (post : va_W) : Array Value → State → Outcome → State → Prop := fun _ st oc t =>
  oc = .returned v ∧ va_P D cl post t.heap ∧ va_K D cl tys t ∧ va_F A st t
def CtP (D : va_G) (cl : List vw_C) (tys : List (ClassId × FieldType)) (av : List Value) (pre : va_W) : Array Value → State → Prop := va_Pc av (fun U => va_P D cl pre U.heap ∧ va_K D cl tys U ∧ NW U)
def CT (l : Launch) (D : va_G) (cl : List vw_C) (tys : List (ClassId × FieldType)) (A : Nat → Prop) (y : MethodName) (ws : List Cond) (rm : Room) (av : List Value) (pre post : va_W) (v : Option Value) : Prop :=
  Met l y ws rm (CtP D cl tys av pre) (RetQ D cl tys A v post) 0 0 A
theorem CtP_blind {D : va_G} {cl : List vw_C} {tys : List (ClassId × FieldType)} {av : List Value} {pre : va_W} : FrameBlind (CtP D cl tys av pre) := by
  intro a U g mk q
  exact ⟨q.1, q.2.1, va_K.moved (u := U) (U := U.calling g mk a) (Vm.Alike.refl U.vm) q.2.2.1, NW.same (u := U) (U := U.calling g mk a) rfl q.2.2.2⟩
theorem ofWF {l : Launch} {y : MethodName} {ws ws' : List Cond} {rm : Room} {Pc : Array Value → State → Prop} {Qc : Array Value → State → Outcome → State → Prop} {mc ms : Nat} {free : Addr → Prop} {cc : ByteArray} {maxL : Nat} {ret : Option FieldType}
    (hy : plainFor y = true) (hw : ws = Cond.code y cc maxL ret :: ws')
    (body : ∀ p e s m args below meth c s₁, BodyLoose p l y (headSpec ws rm) cc maxL ret e s m args below meth c s₁ → c.maxLocals = maxL → Pc args s →
      W p l e (headSpec ws rm).room s m args below meth c s.heap [] 0 0 (MQ below Qc args s mc ms free) (entryFrame m args maxL)) : Met l y ws rm Pc Qc mc ms free := by
  refine MetFree.of_bodySF (code := cc) (maxLocals := maxL) (ret := ret) hy (fun args s m h hn => ?_) (fun p e s m args below meth c s₁ B hml hP _ => ?_)
  · obtain ⟨meth, c, h1, h2, h3, h4, h5, h6, -, -⟩ := Cond.code_spec hn (atoms_spec (ws := ws) h _ (by rw [hw]; exact List.mem_cons_self))
    exact ⟨meth, c, h1, h2, h3, h4, h5, h6⟩
  · obtain ⟨t, a1, o, b1, b2, b3⟩ := body p e s m args below meth c s₁ B hml hP s₁ (by rw [B.state]; rfl) (Stand.of_body B)
    exact ⟨t, o, a1, b1, b2, ⟨b3.1, b3.2⟩⟩
section KC
variable {p : Program} {l : Launch} {e : Env} {R : Room} {s : State} {m : MethodId} {args : Array Value} {below : List Frame} {meth : Method} {c : Code} {H : Heap} {locs : List Loc} {cells slots : Nat} {Q : State → Prop}
variable {D : va_G} {cl : List vw_C} {tys : List (ClassId × FieldType)} {A : Nat → Prop} {pre post : va_W} {v : Option Value} {H0 : Heap} {pc : Nat} {ls : Array Slot} {st0 st1 rest As : List Value}
theorem kc_go {a : Array Value} (hr : va_Run p l e R s m args below meth c H locs cells slots 0 0 (F0 m pc ls st0) rest (RetQ D cl tys A v post a) A) (hS : va_S A H0 H locs) (h1 : v.toList ++ rest = st1)
    (kk : ∀ (H1 : Heap) (locs1 : List Loc), va_P D cl post H1 → va_S A H0 H1 locs1 → W p l e R s m args below meth c H1 locs1 cells slots Q (F0 m (pc + 3) ls st1)) : W p l e R s m args below meth c H locs cells slots Q (F0 m pc ls st0) := by
  intro T hT X
  obtain ⟨w, st₀, t, T', L, h0, X', hL, e1, e2, ⟨hv, hP1, hK1, hz, hk⟩, st⟩ := hr T hT X
  cases hv
  subst h1
  rw [h0] at hz hk
  obtain ⟨t2, a1, b1⟩ := kk T'.heap (locs ++ L) (by rw [e1]; exact hP1)
    ⟨Nat.le_trans hS.1 (by rw [e1]; exact hz), fun q h1 h2 => by rw [e1, hk q (Nat.lt_of_lt_of_le h1 hS.1) h2]; exact hS.2.1 q h1 h2, fun q hq => by
      rcases List.mem_append.mp hq with h | h
      · exact hS.2.2 q h
      · exact hL q h⟩ T' rfl X'
  exact ⟨t2, st t2 a1, b1⟩
variable {y : MethodName} {bytes cc : ByteArray} {maxL nL n index : Nat} {ret : Option FieldType} {ws : List Cond} {rm : Room} {Ts : List Cond} {own C host : String} {b : Addr}
theorem kc_S (S : CallFix p m c cc nL s args Ts own) (hM : CT l D cl tys A y ws rm As pre post v) (cw : CallB R s args own index y bytes maxL ret ws rm 0 0 n ∧ (Cond.static y).before args s = true)
    (hK : va_K D cl tys s) (hN : NW s) (hP : va_P D cl pre H) (hS : va_S A H0 H locs) (hn : As.length = n) (hz : ls.size = nL) (h0 : st0 = As.reverse ++ rest) (h1 : v.toList ++ rest = st1) (hro : (rest.map fun v => v.category).sum ≤ 8) (hf : cells ≤ R.cells ∧ slots ≤ R.slots) (hdg : decode cc pc = .ok (.invokestatic index, 3))
    (kk : ∀ (H1 : Heap) (locs1 : List Loc), va_P D cl post H1 → va_S A H0 H1 locs1 → W p l e R s m args below meth c H1 locs1 cells slots Q (F0 m (pc + 3) ls st1)) : W p l e R s m args below meth c H locs cells slots Q (F0 m pc ls st0) :=
  kc_go (va_runS S hM cw ⟨CtP_blind, fun U hU hW => ⟨rfl, by rw [hU]; exact hP, va_K.moved hW.alike hK, NW.warm hW hN⟩⟩ rfl hn hz h0 (lv_room hro) hdg hf) hS h1 kk
theorem kc_V (S : CallFix p m c cc nL s args Ts own) (hM : CT l D cl tys A y ws rm (.ref b :: As) pre post v) (cw : CallW R s args own C index y bytes maxL ret ws rm 0 0 n)
    (hv : ∃ cell : Cell, H[b]? = some cell ∧ cell.vm.isStatics = false ∧ s.vm.findClass C = some cell.cls)
    (hK : va_K D cl tys s) (hN : NW s) (hP : va_P D cl pre H) (hS : va_S A H0 H locs) (hn : As.length = n) (hz : ls.size = nL) (h0 : st0 = As.reverse ++ .ref b :: rest) (h1 : v.toList ++ rest = st1) (hro : (rest.map fun v => v.category).sum ≤ 8) (hf : cells ≤ R.cells ∧ slots ≤ R.slots) (hdg : decode cc pc = .ok (.invokevirtual index, 3))
    (kk : ∀ (H1 : Heap) (locs1 : List Loc), va_P D cl post H1 → va_S A H0 H1 locs1 → W p l e R s m args below meth c H1 locs1 cells slots Q (F0 m (pc + 3) ls st1)) : W p l e R s m args below meth c H locs cells slots Q (F0 m pc ls st0) :=
  kc_go (va_runV S hM cw ⟨CtP_blind, hv, fun U hU hW => ⟨rfl, by rw [hU]; exact hP, va_K.moved hW.alike hK, NW.warm hW hN⟩⟩ rfl hn hz h0 (lv_room hro) hdg hf) hS h1 kk
theorem kc_SN (S : CallFix p m c cc nL s args Ts own) (hM : CT l D cl tys A y ws rm As pre post v) (cw : va_CN R s args own index y host bytes maxL ret ws rm 0 0 n ∧ (Cond.static y).before args s = true ∧ True)
    (hK : va_K D cl tys s) (hN : NW s) (hP : va_P D cl pre H) (hS : va_S A H0 H locs) (hn : As.length = n) (hz : ls.size = nL) (h0 : st0 = As.reverse ++ rest) (h1 : v.toList ++ rest = st1) (hro : (rest.map fun v => v.category).sum ≤ 8) (hf : cells ≤ R.cells ∧ slots ≤ R.slots) (hdg : decode cc pc = .ok (.invokestatic index, 3))
    (kk : ∀ (H1 : Heap) (locs1 : List Loc), va_P D cl post H1 → va_S A H0 H1 locs1 → W p l e R s m args below meth c H1 locs1 cells slots Q (F0 m (pc + 3) ls st1)) : W p l e R s m args below meth c H locs cells slots Q (F0 m pc ls st0) :=
  kc_go (va_runSN S hM cw ⟨CtP_blind, fun U hU hW => ⟨rfl, by rw [hU]; exact hP, va_K.moved hW.alike hK, NW.warm hW hN⟩⟩ rfl hn hz h0 (lv_room hro) hdg hf) hS h1 kk
theorem kc_VN (S : CallFix p m c cc nL s args Ts own) (hM : CT l D cl tys A y ws rm (.ref b :: As) pre post v) (cw : va_CN R s args own index y host bytes maxL ret ws rm 0 0 n ∧ (Cond.instanceMethod y).before args s = true ∧ (Cond.selects C y y).before args s = true)
    (hv : ∃ cell : Cell, H[b]? = some cell ∧ cell.vm.isStatics = false ∧ s.vm.findClass C = some cell.cls)
    (hK : va_K D cl tys s) (hN : NW s) (hP : va_P D cl pre H) (hS : va_S A H0 H locs) (hn : As.length = n) (hz : ls.size = nL) (h0 : st0 = As.reverse ++ .ref b :: rest) (h1 : v.toList ++ rest = st1) (hro : (rest.map fun v => v.category).sum ≤ 8) (hf : cells ≤ R.cells ∧ slots ≤ R.slots) (hdg : decode cc pc = .ok (.invokevirtual index, 3))
    (kk : ∀ (H1 : Heap) (locs1 : List Loc), va_P D cl post H1 → va_S A H0 H1 locs1 → W p l e R s m args below meth c H1 locs1 cells slots Q (F0 m (pc + 3) ls st1)) : W p l e R s m args below meth c H locs cells slots Q (F0 m pc ls st0) :=
  kc_go (va_runVN S hM cw ⟨CtP_blind, hv, fun U hU hW => ⟨rfl, by rw [hU]; exact hP, va_K.moved hW.alike hK, NW.warm hW hN⟩⟩ rfl hn hz h0 (lv_room hro) hdg hf) hS h1 kk
end KC
section JK
variable {p : Program} {l : Launch} {e : Env} {R : Room} {s : State} {m : MethodId} {args : Array Value} {below : List Frame} {meth : Method} {c : Code} {H : Heap} {locs : List Loc} {cells slots : Nat} {Q : State → Prop} {cc : ByteArray} {pc nL : Nat} {ls : Array Slot} {rest : List Value} {own : String} {index : Nat}
theorem jk_minR (hx : p.tables.exec = Jvm.exec) (hb : c.code = cc) (hml : c.maxLocals = nL) (hz : ls.size = nL) (hown : s.vm.findClass own = some m.cls) (hts : ∀ w ∈ lw_wd, w.before args s = true) (hlink : (Cond.methodLink own index Lib.Math.min.name).before args s = true) (hR : 1 ≤ R.frames ∧ 21 ≤ R.locals) (hro : (rest.map fun v => v.category).sum ≤ 8) (hf : cells ≤ R.cells ∧ slots ≤ R.slots) (hdg : decode cc pc = .ok (.invokestatic index, 3)) {x y : Int32}
    (kk : W p l e R s m args below meth c H locs cells slots Q (F0 m (pc + 3) ls (.int (jk_min x y) :: rest))) : W p l e R s m args below meth c H locs cells slots Q (F0 m pc ls (.int y :: .int x :: rest)) :=
  va_mmin hx hb (hml.trans hz.symm) hown hlink (hts _ nw_334) (hts _ nw_17) (hts _ nw_335) hR.1 (Nat.le_trans (Nat.add_le_add_right hro 13) hR.2) hf.1 hf.2 hdg kk
theorem jk_absR (hx : p.tables.exec = Jvm.exec) (hb : c.code = cc) (hml : c.maxLocals = nL) (hz : ls.size = nL) (hown : s.vm.findClass own = some m.cls) (hts : ∀ w ∈ lw_wd, w.before args s = true) (hlink : (Cond.methodLink own index Lib.MathLoose.abs_long.x).before args s = true) (hR : 1 ≤ R.frames ∧ 21 ≤ R.locals) (hro : (rest.map fun v => v.category).sum ≤ 8) (hf : cells ≤ R.cells ∧ slots ≤ R.slots) (hdg : decode cc pc = .ok (.invokestatic index, 3)) {x : Int64}
    (kk : W p l e R s m args below meth c H locs cells slots Q (F0 m (pc + 3) ls (.long (jk_abs x) :: rest))) : W p l e R s m args below meth c H locs cells slots Q (F0 m pc ls (.long x :: rest)) :=
  va_mabs_long hx hb (hml.trans hz.symm) hown hlink (hts _ nw_546) (hts _ nw_17) (hts _ nw_547) hR.1 (Nat.le_trans (Nat.add_le_add_right hro 13) hR.2) hf.1 hf.2 hdg kk
end JK
end
section
def nR_P : String := "DrawnPaths"
def nT_P : u_T := fun k => match k with
  | 0 => ("DrawnPaths", "blocks", "LDrawnPaths$Blocks;", true)
  | 1 => ("DrawnPaths", "field", "LDrawnPaths$Field;", true)
  | 2 => ("DrawnPaths", "run", "LDrawnPaths$Run;", true)
  | 3 => ("DrawnPaths", "search", "LDrawnPaths$Search;", true)
  | 4 => ("DrawnPaths", "text", "LDrawnPaths$Line;", true)
  | _ => ("DrawnPaths", "page", "LDrawnPaths$Line;", true)
def nY_P : Nat → FieldType := fun k => match k with
  | 0 => .object "DrawnPaths$Blocks"
  | 1 => .object "DrawnPaths$Field"
  | 2 => .object "DrawnPaths$Run"
  | 3 => .object "DrawnPaths$Search"
  | 4 => .object "DrawnPaths$Line"
  | _ => .object "DrawnPaths$Line"
theorem nN_P : ∀ a, a < 6 → ∀ b, b < 6 → a ≠ b → (nT_P a).2.1 ≠ (nT_P b).2.1 := by decide +kernel
theorem nY_P_ok : ∀ k, k < 6 → parseFieldDescriptor (nT_P k).2.2.1 = some (nY_P k) := by decide +kernel
theorem nu_P : ∀ w ∈ u_ws nR_P nT_P 6, w ∈ lw_wd := by decide +kernel
def nR_Block : String := "DrawnPaths$Block"
def nT_Block : u_T := fun k => match k with
  | 0 => ("DrawnPaths$Block", "begin", "I", false)
  | 1 => ("DrawnPaths$Block", "behind", "I", false)
  | 2 => ("DrawnPaths$Block", "size", "I", false)
  | 3 => ("DrawnPaths$Block", "lowPlaces", "J", false)
  | _ => ("DrawnPaths$Block", "highPlaces", "J", false)
def nY_Block : Nat → FieldType := fun k => match k with
  | 0 => .int
  | 1 => .int
  | 2 => .int
  | 3 => .long
  | _ => .long
theorem nN_Block : ∀ a, a < 5 → ∀ b, b < 5 → a ≠ b → (nT_Block a).2.1 ≠ (nT_Block b).2.1 := by decide +kernel
theorem nY_Block_ok : ∀ k, k < 5 → parseFieldDescriptor (nT_Block k).2.2.1 = some (nY_Block k) := by decide +kernel
theorem nu_Block : ∀ w ∈ u_ws nR_Block nT_Block 5, w ∈ lw_wd := by decide +kernel
def nR_Blocks : String := "DrawnPaths$Blocks"
def nT_Blocks : u_T := fun k => match k with
  | 0 => ("DrawnPaths$Blocks", "row", "[LDrawnPaths$Block;", true)
  | 1 => ("DrawnPaths$Blocks", "marks", "[I", true)
  | 2 => ("DrawnPaths$Blocks", "held", "I", false)
  | _ => ("DrawnPaths$Blocks", "dropped", "I", false)
def nY_Blocks : Nat → FieldType := fun k => match k with
  | 0 => .array (.object "DrawnPaths$Block")
  | 1 => .array (.int)
  | 2 => .int
  | _ => .int
theorem nN_Blocks : ∀ a, a < 4 → ∀ b, b < 4 → a ≠ b → (nT_Blocks a).2.1 ≠ (nT_Blocks b).2.1 := by decide +kernel
theorem nY_Blocks_ok : ∀ k, k < 4 → parseFieldDescriptor (nT_Blocks k).2.2.1 = some (nY_Blocks k) := by decide +kernel
theorem nu_Blocks : ∀ w ∈ u_ws nR_Blocks nT_Blocks 4, w ∈ lw_wd := by decide +kernel
def nR_Field : String := "DrawnPaths$Field"
def nT_Field : u_T := fun k => match k with
  | 0 => ("DrawnPaths$Field", "signs", "[C", true)
  | _ => ("DrawnPaths$Field", "blocks", "LDrawnPaths$Blocks;", true)
def nY_Field : Nat → FieldType := fun k => match k with
  | 0 => .array (.char)
  | _ => .object "DrawnPaths$Blocks"
theorem nN_Field : ∀ a, a < 2 → ∀ b, b < 2 → a ≠ b → (nT_Field a).2.1 ≠ (nT_Field b).2.1 := by decide +kernel
theorem nY_Field_ok : ∀ k, k < 2 → parseFieldDescriptor (nT_Field k).2.2.1 = some (nY_Field k) := by decide +kernel
theorem nu_Field : ∀ w ∈ u_ws nR_Field nT_Field 2, w ∈ lw_wd := by decide +kernel
def nR_Line : String := "DrawnPaths$Line"
def nT_Line : u_T := fun k => match k with
  | 0 => ("DrawnPaths$Line", "characters", "[C", true)
  | _ => ("DrawnPaths$Line", "size", "I", false)
def nY_Line : Nat → FieldType := fun k => match k with
  | 0 => .array (.char)
  | _ => .int
theorem nN_Line : ∀ a, a < 2 → ∀ b, b < 2 → a ≠ b → (nT_Line a).2.1 ≠ (nT_Line b).2.1 := by decide +kernel
theorem nY_Line_ok : ∀ k, k < 2 → parseFieldDescriptor (nT_Line k).2.2.1 = some (nY_Line k) := by decide +kernel
theorem nu_Line : ∀ w ∈ u_ws nR_Line nT_Line 2, w ∈ lw_wd := by decide +kernel
def nR_Ptr : String := "DrawnPaths$Pointer"
def nT_Ptr : u_T := fun k => match k with
  | 0 => ("DrawnPaths$Pointer", "numbers", "[J", true)
  | 1 => ("DrawnPaths$Pointer", "returns", "[I", true)
  | 2 => ("DrawnPaths$Pointer", "way", "I", false)
  | 3 => ("DrawnPaths$Pointer", "depth", "I", false)
  | _ => ("DrawnPaths$Pointer", "returning", "I", false)
def nY_Ptr : Nat → FieldType := fun k => match k with
  | 0 => .array (.long)
  | 1 => .array (.int)
  | 2 => .int
  | 3 => .int
  | _ => .int
theorem nN_Ptr : ∀ a, a < 5 → ∀ b, b < 5 → a ≠ b → (nT_Ptr a).2.1 ≠ (nT_Ptr b).2.1 := by decide +kernel
theorem nY_Ptr_ok : ∀ k, k < 5 → parseFieldDescriptor (nT_Ptr k).2.2.1 = some (nY_Ptr k) := by decide +kernel
theorem nu_Ptr : ∀ w ∈ u_ws nR_Ptr nT_Ptr 5, w ∈ lw_wd := by decide +kernel
def nR_Run : String := "DrawnPaths$Run"
def nT_Run : u_T := fun k => match k with
  | 0 => ("DrawnPaths$Run", "field", "LDrawnPaths$Field;", true)
  | 1 => ("DrawnPaths$Run", "pointers", "[LDrawnPaths$Pointer;", true)
  | 2 => ("DrawnPaths$Run", "numbers", "[J", true)
  | 3 => ("DrawnPaths$Run", "digits", "[C", true)
  | 4 => ("DrawnPaths$Run", "written", "LDrawnPaths$Line;", true)
  | 5 => ("DrawnPaths$Run", "living", "I", false)
  | 6 => ("DrawnPaths$Run", "given", "I", false)
  | 7 => ("DrawnPaths$Run", "read", "I", false)
  | 8 => ("DrawnPaths$Run", "steps", "I", false)
  | _ => ("DrawnPaths$Run", "stopped", "I", false)
def nY_Run : Nat → FieldType := fun k => match k with
  | 0 => .object "DrawnPaths$Field"
  | 1 => .array (.object "DrawnPaths$Pointer")
  | 2 => .array (.long)
  | 3 => .array (.char)
  | 4 => .object "DrawnPaths$Line"
  | 5 => .int
  | 6 => .int
  | 7 => .int
  | 8 => .int
  | _ => .int
theorem nN_Run : ∀ a, a < 10 → ∀ b, b < 10 → a ≠ b → (nT_Run a).2.1 ≠ (nT_Run b).2.1 := by decide +kernel
theorem nY_Run_ok : ∀ k, k < 10 → parseFieldDescriptor (nT_Run k).2.2.1 = some (nY_Run k) := by decide +kernel
theorem nu_Run : ∀ w ∈ u_ws nR_Run nT_Run 10, w ∈ lw_wd := by decide +kernel
def nR_Search : String := "DrawnPaths$Search"
def nT_Search : u_T := fun k => match k with
  | 0 => ("DrawnPaths$Search", "marks", "[I", true)
  | 1 => ("DrawnPaths$Search", "found", "[I", true)
  | _ => ("DrawnPaths$Search", "size", "I", false)
def nY_Search : Nat → FieldType := fun k => match k with
  | 0 => .array (.int)
  | 1 => .array (.int)
  | _ => .int
theorem nN_Search : ∀ a, a < 3 → ∀ b, b < 3 → a ≠ b → (nT_Search a).2.1 ≠ (nT_Search b).2.1 := by decide +kernel
theorem nY_Search_ok : ∀ k, k < 3 → parseFieldDescriptor (nT_Search k).2.2.1 = some (nY_Search k) := by decide +kernel
theorem nu_Search : ∀ w ∈ u_ws nR_Search nT_Search 3, w ∈ lw_wd := by decide +kernel
abbrev vwCl : List vw_C := [(nR_P, nT_P, 6), (nR_Block, nT_Block, 5), (nR_Blocks, nT_Blocks, 4), (nR_Field, nT_Field, 2), (nR_Line, nT_Line, 2), (nR_Ptr, nT_Ptr, 5), (nR_Run, nT_Run, 10), (nR_Search, nT_Search, 3)]
end
section
def ny_Field_wipe : MethodName := ⟨"DrawnPaths$Field", "wipe", "()V"⟩
theorem nd_Field_wipe_0 : decode prog_4_method_3_code 0 = .ok (.iconst 0, 1) := by decide +kernel
theorem nd_Field_wipe_1 : decode prog_4_method_3_code 1 = .ok (.istore_n 1, 1) := by decide +kernel
theorem nd_Field_wipe_2 : decode prog_4_method_3_code 2 = .ok (.iload_n 1, 1) := by decide +kernel
theorem nd_Field_wipe_3 : decode prog_4_method_3_code 3 = .ok (.bipush 96, 2) := by decide +kernel
theorem nd_Field_wipe_5 : decode prog_4_method_3_code 5 = .ok (.if_icmp .ge 17, 3) := by decide +kernel
theorem nd_Field_wipe_8 : decode prog_4_method_3_code 8 = .ok (.aload_n 0, 1) := by decide +kernel
theorem nd_Field_wipe_9 : decode prog_4_method_3_code 9 = .ok (.getfield 9, 3) := by decide +kernel
theorem nd_Field_wipe_12 : decode prog_4_method_3_code 12 = .ok (.iload_n 1, 1) := by decide +kernel
theorem nd_Field_wipe_13 : decode prog_4_method_3_code 13 = .ok (.bipush 32, 2) := by decide +kernel
theorem nd_Field_wipe_15 : decode prog_4_method_3_code 15 = .ok (.castore, 1) := by decide +kernel
theorem nd_Field_wipe_16 : decode prog_4_method_3_code 16 = .ok (.iinc 1 1, 3) := by decide +kernel
theorem nd_Field_wipe_19 : decode prog_4_method_3_code 19 = .ok (.goto (-17), 3) := by decide +kernel
theorem nd_Field_wipe_22 : decode prog_4_method_3_code 22 = .ok (.return_, 1) := by decide +kernel
def ny_P_placeAt : MethodName := ⟨"DrawnPaths", "placeAt", "(II)I"⟩
theorem nd_P_placeAt_0 : decode prog_1_method_22_code 0 = .ok (.iload_n 0, 1) := by decide +kernel
theorem nd_P_placeAt_1 : decode prog_1_method_22_code 1 = .ok (.ifCond .lt 19, 3) := by decide +kernel
theorem nd_P_placeAt_4 : decode prog_1_method_22_code 4 = .ok (.iload_n 0, 1) := by decide +kernel
theorem nd_P_placeAt_5 : decode prog_1_method_22_code 5 = .ok (.bipush 12, 2) := by decide +kernel
theorem nd_P_placeAt_7 : decode prog_1_method_22_code 7 = .ok (.if_icmp .ge 13, 3) := by decide +kernel
theorem nd_P_placeAt_10 : decode prog_1_method_22_code 10 = .ok (.iload_n 1, 1) := by decide +kernel
theorem nd_P_placeAt_11 : decode prog_1_method_22_code 11 = .ok (.ifCond .lt 9, 3) := by decide +kernel
theorem nd_P_placeAt_14 : decode prog_1_method_22_code 14 = .ok (.iload_n 1, 1) := by decide +kernel
theorem nd_P_placeAt_15 : decode prog_1_method_22_code 15 = .ok (.bipush 8, 2) := by decide +kernel
theorem nd_P_placeAt_17 : decode prog_1_method_22_code 17 = .ok (.if_icmp .lt 13, 3) := by decide +kernel
theorem nd_P_placeAt_20 : decode prog_1_method_22_code 20 = .ok (.new 159, 3) := by decide +kernel
theorem nd_P_placeAt_23 : decode prog_1_method_22_code 23 = .ok (.dup, 1) := by decide +kernel
theorem nd_P_placeAt_24 : decode prog_1_method_22_code 24 = .ok (.ldc 225, 2) := by decide +kernel
theorem nd_P_placeAt_26 : decode prog_1_method_22_code 26 = .ok (.invokespecial 163, 3) := by decide +kernel
theorem nd_P_placeAt_29 : decode prog_1_method_22_code 29 = .ok (.athrow, 1) := by decide +kernel
theorem nd_P_placeAt_30 : decode prog_1_method_22_code 30 = .ok (.iload_n 1, 1) := by decide +kernel
theorem nd_P_placeAt_31 : decode prog_1_method_22_code 31 = .ok (.bipush 12, 2) := by decide +kernel
theorem nd_P_placeAt_33 : decode prog_1_method_22_code 33 = .ok (.imul, 1) := by decide +kernel
theorem nd_P_placeAt_34 : decode prog_1_method_22_code 34 = .ok (.iload_n 0, 1) := by decide +kernel
theorem nd_P_placeAt_35 : decode prog_1_method_22_code 35 = .ok (.iadd, 1) := by decide +kernel
theorem nd_P_placeAt_36 : decode prog_1_method_22_code 36 = .ok (.ireturn, 1) := by decide +kernel
def ny_P_isSign : MethodName := ⟨"DrawnPaths", "isSign", "(C)Z"⟩
theorem nd_P_isSign_0 : decode prog_1_method_25_code 0 = .ok (.iload_n 0, 1) := by decide +kernel
theorem nd_P_isSign_1 : decode prog_1_method_25_code 1 = .ok (.bipush 32, 2) := by decide +kernel
theorem nd_P_isSign_3 : decode prog_1_method_25_code 3 = .ok (.if_icmp .lt 13, 3) := by decide +kernel
theorem nd_P_isSign_6 : decode prog_1_method_25_code 6 = .ok (.iload_n 0, 1) := by decide +kernel
theorem nd_P_isSign_7 : decode prog_1_method_25_code 7 = .ok (.bipush 126, 2) := by decide +kernel
theorem nd_P_isSign_9 : decode prog_1_method_25_code 9 = .ok (.if_icmp .gt 7, 3) := by decide +kernel
theorem nd_P_isSign_12 : decode prog_1_method_25_code 12 = .ok (.iconst 1, 1) := by decide +kernel
theorem nd_P_isSign_13 : decode prog_1_method_25_code 13 = .ok (.goto 4, 3) := by decide +kernel
theorem nd_P_isSign_16 : decode prog_1_method_25_code 16 = .ok (.iconst 0, 1) := by decide +kernel
theorem nd_P_isSign_17 : decode prog_1_method_25_code 17 = .ok (.ireturn, 1) := by decide +kernel
def ny_Block_isOver : MethodName := ⟨"DrawnPaths$Block", "isOver", "(I)Z"⟩
theorem nd_Block_isOver_0 : decode prog_2_method_2_code 0 = .ok (.iload_n 1, 1) := by decide +kernel
theorem nd_Block_isOver_1 : decode prog_2_method_2_code 1 = .ok (.bipush 64, 2) := by decide +kernel
theorem nd_Block_isOver_3 : decode prog_2_method_2_code 3 = .ok (.if_icmp .ge 10, 3) := by decide +kernel
theorem nd_Block_isOver_6 : decode prog_2_method_2_code 6 = .ok (.aload_n 0, 1) := by decide +kernel
theorem nd_Block_isOver_7 : decode prog_2_method_2_code 7 = .ok (.getfield 9, 3) := by decide +kernel
theorem nd_Block_isOver_10 : decode prog_2_method_2_code 10 = .ok (.goto 7, 3) := by decide +kernel
theorem nd_Block_isOver_13 : decode prog_2_method_2_code 13 = .ok (.aload_n 0, 1) := by decide +kernel
theorem nd_Block_isOver_14 : decode prog_2_method_2_code 14 = .ok (.getfield 15, 3) := by decide +kernel
theorem nd_Block_isOver_17 : decode prog_2_method_2_code 17 = .ok (.lstore_n 2, 1) := by decide +kernel
theorem nd_Block_isOver_18 : decode prog_2_method_2_code 18 = .ok (.lload_n 2, 1) := by decide +kernel
theorem nd_Block_isOver_19 : decode prog_2_method_2_code 19 = .ok (.iload_n 1, 1) := by decide +kernel
theorem nd_Block_isOver_20 : decode prog_2_method_2_code 20 = .ok (.bipush 63, 2) := by decide +kernel
theorem nd_Block_isOver_22 : decode prog_2_method_2_code 22 = .ok (.iand, 1) := by decide +kernel
theorem nd_Block_isOver_23 : decode prog_2_method_2_code 23 = .ok (.lushr, 1) := by decide +kernel
theorem nd_Block_isOver_24 : decode prog_2_method_2_code 24 = .ok (.lconst 1, 1) := by decide +kernel
theorem nd_Block_isOver_25 : decode prog_2_method_2_code 25 = .ok (.land, 1) := by decide +kernel
theorem nd_Block_isOver_26 : decode prog_2_method_2_code 26 = .ok (.lconst 1, 1) := by decide +kernel
theorem nd_Block_isOver_27 : decode prog_2_method_2_code 27 = .ok (.lcmp, 1) := by decide +kernel
theorem nd_Block_isOver_28 : decode prog_2_method_2_code 28 = .ok (.ifCond .ne 7, 3) := by decide +kernel
theorem nd_Block_isOver_31 : decode prog_2_method_2_code 31 = .ok (.iconst 1, 1) := by decide +kernel
theorem nd_Block_isOver_32 : decode prog_2_method_2_code 32 = .ok (.goto 4, 3) := by decide +kernel
theorem nd_Block_isOver_35 : decode prog_2_method_2_code 35 = .ok (.iconst 0, 1) := by decide +kernel
theorem nd_Block_isOver_36 : decode prog_2_method_2_code 36 = .ok (.ireturn, 1) := by decide +kernel
def ny_Blocks_drop : MethodName := ⟨"DrawnPaths$Blocks", "drop", "(I)V"⟩
theorem nd_Blocks_drop_0 : decode prog_3_method_4_code 0 = .ok (.iconst 0, 1) := by decide +kernel
theorem nd_Blocks_drop_1 : decode prog_3_method_4_code 1 = .ok (.istore_n 2, 1) := by decide +kernel
theorem nd_Blocks_drop_2 : decode prog_3_method_4_code 2 = .ok (.aload_n 0, 1) := by decide +kernel
theorem nd_Blocks_drop_3 : decode prog_3_method_4_code 3 = .ok (.getfield 22, 3) := by decide +kernel
theorem nd_Blocks_drop_6 : decode prog_3_method_4_code 6 = .ok (.istore_n 3, 1) := by decide +kernel
theorem nd_Blocks_drop_7 : decode prog_3_method_4_code 7 = .ok (.iconst 0, 1) := by decide +kernel
theorem nd_Blocks_drop_8 : decode prog_3_method_4_code 8 = .ok (.istore 4, 2) := by decide +kernel
theorem nd_Blocks_drop_10 : decode prog_3_method_4_code 10 = .ok (.iload 4, 2) := by decide +kernel
theorem nd_Blocks_drop_12 : decode prog_3_method_4_code 12 = .ok (.iload_n 3, 1) := by decide +kernel
theorem nd_Blocks_drop_13 : decode prog_3_method_4_code 13 = .ok (.if_icmp .ge 51, 3) := by decide +kernel
theorem nd_Blocks_drop_16 : decode prog_3_method_4_code 16 = .ok (.aload_n 0, 1) := by decide +kernel
theorem nd_Blocks_drop_17 : decode prog_3_method_4_code 17 = .ok (.getfield 11, 3) := by decide +kernel
theorem nd_Blocks_drop_20 : decode prog_3_method_4_code 20 = .ok (.iload 4, 2) := by decide +kernel
theorem nd_Blocks_drop_22 : decode prog_3_method_4_code 22 = .ok (.aaload, 1) := by decide +kernel
theorem nd_Blocks_drop_23 : decode prog_3_method_4_code 23 = .ok (.astore 5, 2) := by decide +kernel
theorem nd_Blocks_drop_25 : decode prog_3_method_4_code 25 = .ok (.aload 5, 2) := by decide +kernel
theorem nd_Blocks_drop_27 : decode prog_3_method_4_code 27 = .ok (.iload_n 1, 1) := by decide +kernel
theorem nd_Blocks_drop_28 : decode prog_3_method_4_code 28 = .ok (.invokevirtual 33, 3) := by decide +kernel
theorem nd_Blocks_drop_31 : decode prog_3_method_4_code 31 = .ok (.ifCond .ne 27, 3) := by decide +kernel
theorem nd_Blocks_drop_34 : decode prog_3_method_4_code 34 = .ok (.aload_n 0, 1) := by decide +kernel
theorem nd_Blocks_drop_35 : decode prog_3_method_4_code 35 = .ok (.getfield 11, 3) := by decide +kernel
theorem nd_Blocks_drop_38 : decode prog_3_method_4_code 38 = .ok (.iload 4, 2) := by decide +kernel
theorem nd_Blocks_drop_40 : decode prog_3_method_4_code 40 = .ok (.aload_n 0, 1) := by decide +kernel
theorem nd_Blocks_drop_41 : decode prog_3_method_4_code 41 = .ok (.getfield 11, 3) := by decide +kernel
theorem nd_Blocks_drop_44 : decode prog_3_method_4_code 44 = .ok (.iload_n 2, 1) := by decide +kernel
theorem nd_Blocks_drop_45 : decode prog_3_method_4_code 45 = .ok (.aaload, 1) := by decide +kernel
theorem nd_Blocks_drop_46 : decode prog_3_method_4_code 46 = .ok (.aastore, 1) := by decide +kernel
theorem nd_Blocks_drop_47 : decode prog_3_method_4_code 47 = .ok (.aload_n 0, 1) := by decide +kernel
theorem nd_Blocks_drop_48 : decode prog_3_method_4_code 48 = .ok (.getfield 11, 3) := by decide +kernel
theorem nd_Blocks_drop_51 : decode prog_3_method_4_code 51 = .ok (.iload_n 2, 1) := by decide +kernel
theorem nd_Blocks_drop_52 : decode prog_3_method_4_code 52 = .ok (.aload 5, 2) := by decide +kernel
theorem nd_Blocks_drop_54 : decode prog_3_method_4_code 54 = .ok (.aastore, 1) := by decide +kernel
theorem nd_Blocks_drop_55 : decode prog_3_method_4_code 55 = .ok (.iinc 2 1, 3) := by decide +kernel
theorem nd_Blocks_drop_58 : decode prog_3_method_4_code 58 = .ok (.iinc 4 1, 3) := by decide +kernel
theorem nd_Blocks_drop_61 : decode prog_3_method_4_code 61 = .ok (.goto (-51), 3) := by decide +kernel
theorem nd_Blocks_drop_64 : decode prog_3_method_4_code 64 = .ok (.aload_n 0, 1) := by decide +kernel
theorem nd_Blocks_drop_65 : decode prog_3_method_4_code 65 = .ok (.dup, 1) := by decide +kernel
theorem nd_Blocks_drop_66 : decode prog_3_method_4_code 66 = .ok (.getfield 37, 3) := by decide +kernel
theorem nd_Blocks_drop_69 : decode prog_3_method_4_code 69 = .ok (.iload_n 3, 1) := by decide +kernel
theorem nd_Blocks_drop_70 : decode prog_3_method_4_code 70 = .ok (.iload_n 2, 1) := by decide +kernel
theorem nd_Blocks_drop_71 : decode prog_3_method_4_code 71 = .ok (.isub, 1) := by decide +kernel
theorem nd_Blocks_drop_72 : decode prog_3_method_4_code 72 = .ok (.iadd, 1) := by decide +kernel
theorem nd_Blocks_drop_73 : decode prog_3_method_4_code 73 = .ok (.putfield 37, 3) := by decide +kernel
theorem nd_Blocks_drop_76 : decode prog_3_method_4_code 76 = .ok (.aload_n 0, 1) := by decide +kernel
theorem nd_Blocks_drop_77 : decode prog_3_method_4_code 77 = .ok (.iload_n 2, 1) := by decide +kernel
theorem nd_Blocks_drop_78 : decode prog_3_method_4_code 78 = .ok (.putfield 22, 3) := by decide +kernel
theorem nd_Blocks_drop_81 : decode prog_3_method_4_code 81 = .ok (.return_, 1) := by decide +kernel
def ny_Field_write : MethodName := ⟨"DrawnPaths$Field", "write", "(IC)V"⟩
theorem nd_Field_write_0 : decode prog_4_method_2_code 0 = .ok (.aload_n 0, 1) := by decide +kernel
theorem nd_Field_write_1 : decode prog_4_method_2_code 1 = .ok (.getfield 9, 3) := by decide +kernel
theorem nd_Field_write_4 : decode prog_4_method_2_code 4 = .ok (.iload_n 1, 1) := by decide +kernel
theorem nd_Field_write_5 : decode prog_4_method_2_code 5 = .ok (.caload, 1) := by decide +kernel
theorem nd_Field_write_6 : decode prog_4_method_2_code 6 = .ok (.iload_n 2, 1) := by decide +kernel
theorem nd_Field_write_7 : decode prog_4_method_2_code 7 = .ok (.if_icmp .eq 18, 3) := by decide +kernel
theorem nd_Field_write_10 : decode prog_4_method_2_code 10 = .ok (.aload_n 0, 1) := by decide +kernel
theorem nd_Field_write_11 : decode prog_4_method_2_code 11 = .ok (.getfield 9, 3) := by decide +kernel
theorem nd_Field_write_14 : decode prog_4_method_2_code 14 = .ok (.iload_n 1, 1) := by decide +kernel
theorem nd_Field_write_15 : decode prog_4_method_2_code 15 = .ok (.iload_n 2, 1) := by decide +kernel
theorem nd_Field_write_16 : decode prog_4_method_2_code 16 = .ok (.castore, 1) := by decide +kernel
theorem nd_Field_write_17 : decode prog_4_method_2_code 17 = .ok (.aload_n 0, 1) := by decide +kernel
theorem nd_Field_write_18 : decode prog_4_method_2_code 18 = .ok (.getfield 15, 3) := by decide +kernel
theorem nd_Field_write_21 : decode prog_4_method_2_code 21 = .ok (.iload_n 1, 1) := by decide +kernel
theorem nd_Field_write_22 : decode prog_4_method_2_code 22 = .ok (.invokevirtual 22, 3) := by decide +kernel
theorem nd_Field_write_25 : decode prog_4_method_2_code 25 = .ok (.return_, 1) := by decide +kernel
def ny_P_put : MethodName := ⟨"DrawnPaths", "put", "(IIC)C"⟩
theorem nd_P_put_0 : decode prog_1_method_2_code 0 = .ok (.iload_n 1, 1) := by decide +kernel
theorem nd_P_put_1 : decode prog_1_method_2_code 1 = .ok (.iload_n 2, 1) := by decide +kernel
theorem nd_P_put_2 : decode prog_1_method_2_code 2 = .ok (.invokestatic 53, 3) := by decide +kernel
theorem nd_P_put_5 : decode prog_1_method_2_code 5 = .ok (.istore 4, 2) := by decide +kernel
theorem nd_P_put_7 : decode prog_1_method_2_code 7 = .ok (.iload_n 3, 1) := by decide +kernel
theorem nd_P_put_8 : decode prog_1_method_2_code 8 = .ok (.invokestatic 57, 3) := by decide +kernel
theorem nd_P_put_11 : decode prog_1_method_2_code 11 = .ok (.ifCond .ne 13, 3) := by decide +kernel
theorem nd_P_put_14 : decode prog_1_method_2_code 14 = .ok (.new 61, 3) := by decide +kernel
theorem nd_P_put_17 : decode prog_1_method_2_code 17 = .ok (.dup, 1) := by decide +kernel
theorem nd_P_put_18 : decode prog_1_method_2_code 18 = .ok (.ldc 63, 2) := by decide +kernel
theorem nd_P_put_20 : decode prog_1_method_2_code 20 = .ok (.invokespecial 65, 3) := by decide +kernel
theorem nd_P_put_23 : decode prog_1_method_2_code 23 = .ok (.athrow, 1) := by decide +kernel
theorem nd_P_put_24 : decode prog_1_method_2_code 24 = .ok (.aload_n 0, 1) := by decide +kernel
theorem nd_P_put_25 : decode prog_1_method_2_code 25 = .ok (.getfield 21, 3) := by decide +kernel
theorem nd_P_put_28 : decode prog_1_method_2_code 28 = .ok (.getfield 68, 3) := by decide +kernel
theorem nd_P_put_31 : decode prog_1_method_2_code 31 = .ok (.iload 4, 2) := by decide +kernel
theorem nd_P_put_33 : decode prog_1_method_2_code 33 = .ok (.caload, 1) := by decide +kernel
theorem nd_P_put_34 : decode prog_1_method_2_code 34 = .ok (.istore 5, 2) := by decide +kernel
theorem nd_P_put_36 : decode prog_1_method_2_code 36 = .ok (.aload_n 0, 1) := by decide +kernel
theorem nd_P_put_37 : decode prog_1_method_2_code 37 = .ok (.getfield 21, 3) := by decide +kernel
theorem nd_P_put_40 : decode prog_1_method_2_code 40 = .ok (.iload 4, 2) := by decide +kernel
theorem nd_P_put_42 : decode prog_1_method_2_code 42 = .ok (.iload_n 3, 1) := by decide +kernel
theorem nd_P_put_43 : decode prog_1_method_2_code 43 = .ok (.invokevirtual 72, 3) := by decide +kernel
theorem nd_P_put_46 : decode prog_1_method_2_code 46 = .ok (.iload 5, 2) := by decide +kernel
theorem nd_P_put_48 : decode prog_1_method_2_code 48 = .ok (.ireturn, 1) := by decide +kernel
def ny_P_sign : MethodName := ⟨"DrawnPaths", "sign", "(II)C"⟩
theorem nd_P_sign_0 : decode prog_1_method_3_code 0 = .ok (.aload_n 0, 1) := by decide +kernel
theorem nd_P_sign_1 : decode prog_1_method_3_code 1 = .ok (.getfield 21, 3) := by decide +kernel
theorem nd_P_sign_4 : decode prog_1_method_3_code 4 = .ok (.getfield 68, 3) := by decide +kernel
theorem nd_P_sign_7 : decode prog_1_method_3_code 7 = .ok (.iload_n 1, 1) := by decide +kernel
theorem nd_P_sign_8 : decode prog_1_method_3_code 8 = .ok (.iload_n 2, 1) := by decide +kernel
theorem nd_P_sign_9 : decode prog_1_method_3_code 9 = .ok (.invokestatic 53, 3) := by decide +kernel
theorem nd_P_sign_12 : decode prog_1_method_3_code 12 = .ok (.caload, 1) := by decide +kernel
theorem nd_P_sign_13 : decode prog_1_method_3_code 13 = .ok (.ireturn, 1) := by decide +kernel
def ny_Line_hasRoom : MethodName := ⟨"DrawnPaths$Line", "hasRoom", "(I)Z"⟩
theorem nd_Line_hasRoom_0 : decode prog_5_method_2_code 0 = .ok (.iload_n 1, 1) := by decide +kernel
theorem nd_Line_hasRoom_1 : decode prog_5_method_2_code 1 = .ok (.aload_n 0, 1) := by decide +kernel
theorem nd_Line_hasRoom_2 : decode prog_5_method_2_code 2 = .ok (.getfield 9, 3) := by decide +kernel
theorem nd_Line_hasRoom_5 : decode prog_5_method_2_code 5 = .ok (.arraylength, 1) := by decide +kernel
theorem nd_Line_hasRoom_6 : decode prog_5_method_2_code 6 = .ok (.aload_n 0, 1) := by decide +kernel
theorem nd_Line_hasRoom_7 : decode prog_5_method_2_code 7 = .ok (.getfield 15, 3) := by decide +kernel
theorem nd_Line_hasRoom_10 : decode prog_5_method_2_code 10 = .ok (.isub, 1) := by decide +kernel
theorem nd_Line_hasRoom_11 : decode prog_5_method_2_code 11 = .ok (.if_icmp .gt 7, 3) := by decide +kernel
theorem nd_Line_hasRoom_14 : decode prog_5_method_2_code 14 = .ok (.iconst 1, 1) := by decide +kernel
theorem nd_Line_hasRoom_15 : decode prog_5_method_2_code 15 = .ok (.goto 4, 3) := by decide +kernel
theorem nd_Line_hasRoom_18 : decode prog_5_method_2_code 18 = .ok (.iconst 0, 1) := by decide +kernel
theorem nd_Line_hasRoom_19 : decode prog_5_method_2_code 19 = .ok (.ireturn, 1) := by decide +kernel
def ny_Line_add : MethodName := ⟨"DrawnPaths$Line", "add", "(C)V"⟩
theorem nd_Line_add_0 : decode prog_5_method_3_code 0 = .ok (.aload_n 0, 1) := by decide +kernel
theorem nd_Line_add_1 : decode prog_5_method_3_code 1 = .ok (.getfield 15, 3) := by decide +kernel
theorem nd_Line_add_4 : decode prog_5_method_3_code 4 = .ok (.aload_n 0, 1) := by decide +kernel
theorem nd_Line_add_5 : decode prog_5_method_3_code 5 = .ok (.getfield 9, 3) := by decide +kernel
theorem nd_Line_add_8 : decode prog_5_method_3_code 8 = .ok (.arraylength, 1) := by decide +kernel
theorem nd_Line_add_9 : decode prog_5_method_3_code 9 = .ok (.if_icmp .ge 23, 3) := by decide +kernel
theorem nd_Line_add_12 : decode prog_5_method_3_code 12 = .ok (.aload_n 0, 1) := by decide +kernel
theorem nd_Line_add_13 : decode prog_5_method_3_code 13 = .ok (.getfield 9, 3) := by decide +kernel
theorem nd_Line_add_16 : decode prog_5_method_3_code 16 = .ok (.aload_n 0, 1) := by decide +kernel
theorem nd_Line_add_17 : decode prog_5_method_3_code 17 = .ok (.getfield 15, 3) := by decide +kernel
theorem nd_Line_add_20 : decode prog_5_method_3_code 20 = .ok (.iload_n 1, 1) := by decide +kernel
theorem nd_Line_add_21 : decode prog_5_method_3_code 21 = .ok (.castore, 1) := by decide +kernel
theorem nd_Line_add_22 : decode prog_5_method_3_code 22 = .ok (.aload_n 0, 1) := by decide +kernel
theorem nd_Line_add_23 : decode prog_5_method_3_code 23 = .ok (.dup, 1) := by decide +kernel
theorem nd_Line_add_24 : decode prog_5_method_3_code 24 = .ok (.getfield 15, 3) := by decide +kernel
theorem nd_Line_add_27 : decode prog_5_method_3_code 27 = .ok (.iconst 1, 1) := by decide +kernel
theorem nd_Line_add_28 : decode prog_5_method_3_code 28 = .ok (.iadd, 1) := by decide +kernel
theorem nd_Line_add_29 : decode prog_5_method_3_code 29 = .ok (.putfield 15, 3) := by decide +kernel
theorem nd_Line_add_32 : decode prog_5_method_3_code 32 = .ok (.return_, 1) := by decide +kernel
def ny_P_type : MethodName := ⟨"DrawnPaths", "type", "(C)Z"⟩
theorem nd_P_type_0 : decode prog_1_method_4_code 0 = .ok (.iload_n 1, 1) := by decide +kernel
theorem nd_P_type_1 : decode prog_1_method_4_code 1 = .ok (.invokestatic 57, 3) := by decide +kernel
theorem nd_P_type_4 : decode prog_1_method_4_code 4 = .ok (.ifCond .eq 14, 3) := by decide +kernel
theorem nd_P_type_7 : decode prog_1_method_4_code 7 = .ok (.aload_n 0, 1) := by decide +kernel
theorem nd_P_type_8 : decode prog_1_method_4_code 8 = .ok (.getfield 46, 3) := by decide +kernel
theorem nd_P_type_11 : decode prog_1_method_4_code 11 = .ok (.iconst 1, 1) := by decide +kernel
theorem nd_P_type_12 : decode prog_1_method_4_code 12 = .ok (.invokevirtual 76, 3) := by decide +kernel
theorem nd_P_type_15 : decode prog_1_method_4_code 15 = .ok (.ifCond .ne 5, 3) := by decide +kernel
theorem nd_P_type_18 : decode prog_1_method_4_code 18 = .ok (.iconst 0, 1) := by decide +kernel
theorem nd_P_type_19 : decode prog_1_method_4_code 19 = .ok (.ireturn, 1) := by decide +kernel
theorem nd_P_type_20 : decode prog_1_method_4_code 20 = .ok (.aload_n 0, 1) := by decide +kernel
theorem nd_P_type_21 : decode prog_1_method_4_code 21 = .ok (.getfield 46, 3) := by decide +kernel
theorem nd_P_type_24 : decode prog_1_method_4_code 24 = .ok (.iload_n 1, 1) := by decide +kernel
theorem nd_P_type_25 : decode prog_1_method_4_code 25 = .ok (.invokevirtual 80, 3) := by decide +kernel
theorem nd_P_type_28 : decode prog_1_method_4_code 28 = .ok (.iconst 1, 1) := by decide +kernel
theorem nd_P_type_29 : decode prog_1_method_4_code 29 = .ok (.ireturn, 1) := by decide +kernel
def ny_Line_at : MethodName := ⟨"DrawnPaths$Line", "at", "(I)C"⟩
theorem nd_Line_at_0 : decode prog_5_method_4_code 0 = .ok (.iload_n 1, 1) := by decide +kernel
theorem nd_Line_at_1 : decode prog_5_method_4_code 1 = .ok (.ifCond .lt 20, 3) := by decide +kernel
theorem nd_Line_at_4 : decode prog_5_method_4_code 4 = .ok (.iload_n 1, 1) := by decide +kernel
theorem nd_Line_at_5 : decode prog_5_method_4_code 5 = .ok (.aload_n 0, 1) := by decide +kernel
theorem nd_Line_at_6 : decode prog_5_method_4_code 6 = .ok (.getfield 15, 3) := by decide +kernel
theorem nd_Line_at_9 : decode prog_5_method_4_code 9 = .ok (.if_icmp .ge 12, 3) := by decide +kernel
theorem nd_Line_at_12 : decode prog_5_method_4_code 12 = .ok (.aload_n 0, 1) := by decide +kernel
theorem nd_Line_at_13 : decode prog_5_method_4_code 13 = .ok (.getfield 9, 3) := by decide +kernel
theorem nd_Line_at_16 : decode prog_5_method_4_code 16 = .ok (.iload_n 1, 1) := by decide +kernel
theorem nd_Line_at_17 : decode prog_5_method_4_code 17 = .ok (.caload, 1) := by decide +kernel
theorem nd_Line_at_18 : decode prog_5_method_4_code 18 = .ok (.goto 5, 3) := by decide +kernel
theorem nd_Line_at_21 : decode prog_5_method_4_code 21 = .ok (.bipush 32, 2) := by decide +kernel
theorem nd_Line_at_23 : decode prog_5_method_4_code 23 = .ok (.ireturn, 1) := by decide +kernel
def ny_Line_empty : MethodName := ⟨"DrawnPaths$Line", "empty", "()V"⟩
theorem nd_Line_empty_0 : decode prog_5_method_5_code 0 = .ok (.aload_n 0, 1) := by decide +kernel
theorem nd_Line_empty_1 : decode prog_5_method_5_code 1 = .ok (.iconst 0, 1) := by decide +kernel
theorem nd_Line_empty_2 : decode prog_5_method_5_code 2 = .ok (.putfield 15, 3) := by decide +kernel
theorem nd_Line_empty_5 : decode prog_5_method_5_code 5 = .ok (.return_, 1) := by decide +kernel
def ny_P_lay : MethodName := ⟨"DrawnPaths", "lay", "(I)I"⟩
theorem nd_P_lay_0 : decode prog_1_method_5_code 0 = .ok (.iconst 0, 1) := by decide +kernel
theorem nd_P_lay_1 : decode prog_1_method_5_code 1 = .ok (.iload_n 1, 1) := by decide +kernel
theorem nd_P_lay_2 : decode prog_1_method_5_code 2 = .ok (.invokestatic 53, 3) := by decide +kernel
theorem nd_P_lay_5 : decode prog_1_method_5_code 5 = .ok (.istore_n 2, 1) := by decide +kernel
theorem nd_P_lay_6 : decode prog_1_method_5_code 6 = .ok (.aload_n 0, 1) := by decide +kernel
theorem nd_P_lay_7 : decode prog_1_method_5_code 7 = .ok (.getfield 46, 3) := by decide +kernel
theorem nd_P_lay_10 : decode prog_1_method_5_code 10 = .ok (.getfield 84, 3) := by decide +kernel
theorem nd_P_lay_13 : decode prog_1_method_5_code 13 = .ok (.istore_n 3, 1) := by decide +kernel
theorem nd_P_lay_14 : decode prog_1_method_5_code 14 = .ok (.iconst 0, 1) := by decide +kernel
theorem nd_P_lay_15 : decode prog_1_method_5_code 15 = .ok (.istore 4, 2) := by decide +kernel
theorem nd_P_lay_17 : decode prog_1_method_5_code 17 = .ok (.iload 4, 2) := by decide +kernel
theorem nd_P_lay_19 : decode prog_1_method_5_code 19 = .ok (.bipush 12, 2) := by decide +kernel
theorem nd_P_lay_21 : decode prog_1_method_5_code 21 = .ok (.if_icmp .ge 29, 3) := by decide +kernel
theorem nd_P_lay_24 : decode prog_1_method_5_code 24 = .ok (.aload_n 0, 1) := by decide +kernel
theorem nd_P_lay_25 : decode prog_1_method_5_code 25 = .ok (.getfield 21, 3) := by decide +kernel
theorem nd_P_lay_28 : decode prog_1_method_5_code 28 = .ok (.iload_n 2, 1) := by decide +kernel
theorem nd_P_lay_29 : decode prog_1_method_5_code 29 = .ok (.iload 4, 2) := by decide +kernel
theorem nd_P_lay_31 : decode prog_1_method_5_code 31 = .ok (.iadd, 1) := by decide +kernel
theorem nd_P_lay_32 : decode prog_1_method_5_code 32 = .ok (.aload_n 0, 1) := by decide +kernel
theorem nd_P_lay_33 : decode prog_1_method_5_code 33 = .ok (.getfield 46, 3) := by decide +kernel
theorem nd_P_lay_36 : decode prog_1_method_5_code 36 = .ok (.iload 4, 2) := by decide +kernel
theorem nd_P_lay_38 : decode prog_1_method_5_code 38 = .ok (.invokevirtual 88, 3) := by decide +kernel
theorem nd_P_lay_41 : decode prog_1_method_5_code 41 = .ok (.invokevirtual 72, 3) := by decide +kernel
theorem nd_P_lay_44 : decode prog_1_method_5_code 44 = .ok (.iinc 4 1, 3) := by decide +kernel
theorem nd_P_lay_47 : decode prog_1_method_5_code 47 = .ok (.goto (-30), 3) := by decide +kernel
theorem nd_P_lay_50 : decode prog_1_method_5_code 50 = .ok (.aload_n 0, 1) := by decide +kernel
theorem nd_P_lay_51 : decode prog_1_method_5_code 51 = .ok (.getfield 46, 3) := by decide +kernel
theorem nd_P_lay_54 : decode prog_1_method_5_code 54 = .ok (.invokevirtual 92, 3) := by decide +kernel
theorem nd_P_lay_57 : decode prog_1_method_5_code 57 = .ok (.iload_n 3, 1) := by decide +kernel
theorem nd_P_lay_58 : decode prog_1_method_5_code 58 = .ok (.ireturn, 1) := by decide +kernel
def ny_Run_give : MethodName := ⟨"DrawnPaths$Run", "give", "(J)V"⟩
theorem nd_Run_give_0 : decode prog_7_method_3_code 0 = .ok (.aload_n 0, 1) := by decide +kernel
theorem nd_Run_give_1 : decode prog_7_method_3_code 1 = .ok (.getfield 46, 3) := by decide +kernel
theorem nd_Run_give_4 : decode prog_7_method_3_code 4 = .ok (.bipush 40, 2) := by decide +kernel
theorem nd_Run_give_6 : decode prog_7_method_3_code 6 = .ok (.if_icmp .ge 23, 3) := by decide +kernel
theorem nd_Run_give_9 : decode prog_7_method_3_code 9 = .ok (.aload_n 0, 1) := by decide +kernel
theorem nd_Run_give_10 : decode prog_7_method_3_code 10 = .ok (.getfield 17, 3) := by decide +kernel
theorem nd_Run_give_13 : decode prog_7_method_3_code 13 = .ok (.aload_n 0, 1) := by decide +kernel
theorem nd_Run_give_14 : decode prog_7_method_3_code 14 = .ok (.getfield 46, 3) := by decide +kernel
theorem nd_Run_give_17 : decode prog_7_method_3_code 17 = .ok (.lload_n 1, 1) := by decide +kernel
theorem nd_Run_give_18 : decode prog_7_method_3_code 18 = .ok (.lastore, 1) := by decide +kernel
theorem nd_Run_give_19 : decode prog_7_method_3_code 19 = .ok (.aload_n 0, 1) := by decide +kernel
theorem nd_Run_give_20 : decode prog_7_method_3_code 20 = .ok (.dup, 1) := by decide +kernel
theorem nd_Run_give_21 : decode prog_7_method_3_code 21 = .ok (.getfield 46, 3) := by decide +kernel
theorem nd_Run_give_24 : decode prog_7_method_3_code 24 = .ok (.iconst 1, 1) := by decide +kernel
theorem nd_Run_give_25 : decode prog_7_method_3_code 25 = .ok (.iadd, 1) := by decide +kernel
theorem nd_Run_give_26 : decode prog_7_method_3_code 26 = .ok (.putfield 46, 3) := by decide +kernel
theorem nd_Run_give_29 : decode prog_7_method_3_code 29 = .ok (.return_, 1) := by decide +kernel
def ny_P_input : MethodName := ⟨"DrawnPaths", "input", "(J)I"⟩
theorem nd_P_input_0 : decode prog_1_method_6_code 0 = .ok (.aload_n 0, 1) := by decide +kernel
theorem nd_P_input_1 : decode prog_1_method_6_code 1 = .ok (.getfield 30, 3) := by decide +kernel
theorem nd_P_input_4 : decode prog_1_method_6_code 4 = .ok (.getfield 95, 3) := by decide +kernel
theorem nd_P_input_7 : decode prog_1_method_6_code 7 = .ok (.bipush 40, 2) := by decide +kernel
theorem nd_P_input_9 : decode prog_1_method_6_code 9 = .ok (.if_icmp .ne 13, 3) := by decide +kernel
theorem nd_P_input_12 : decode prog_1_method_6_code 12 = .ok (.new 98, 3) := by decide +kernel
theorem nd_P_input_15 : decode prog_1_method_6_code 15 = .ok (.dup, 1) := by decide +kernel
theorem nd_P_input_16 : decode prog_1_method_6_code 16 = .ok (.ldc 100, 2) := by decide +kernel
theorem nd_P_input_18 : decode prog_1_method_6_code 18 = .ok (.invokespecial 102, 3) := by decide +kernel
theorem nd_P_input_21 : decode prog_1_method_6_code 21 = .ok (.athrow, 1) := by decide +kernel
theorem nd_P_input_22 : decode prog_1_method_6_code 22 = .ok (.aload_n 0, 1) := by decide +kernel
theorem nd_P_input_23 : decode prog_1_method_6_code 23 = .ok (.getfield 30, 3) := by decide +kernel
theorem nd_P_input_26 : decode prog_1_method_6_code 26 = .ok (.lload_n 1, 1) := by decide +kernel
theorem nd_P_input_27 : decode prog_1_method_6_code 27 = .ok (.invokevirtual 103, 3) := by decide +kernel
theorem nd_P_input_30 : decode prog_1_method_6_code 30 = .ok (.aload_n 0, 1) := by decide +kernel
theorem nd_P_input_31 : decode prog_1_method_6_code 31 = .ok (.getfield 30, 3) := by decide +kernel
theorem nd_P_input_34 : decode prog_1_method_6_code 34 = .ok (.getfield 95, 3) := by decide +kernel
theorem nd_P_input_37 : decode prog_1_method_6_code 37 = .ok (.ireturn, 1) := by decide +kernel
def ny_Blocks_forget : MethodName := ⟨"DrawnPaths$Blocks", "forget", "()V"⟩
theorem nd_Blocks_forget_0 : decode prog_3_method_6_code 0 = .ok (.aload_n 0, 1) := by decide +kernel
theorem nd_Blocks_forget_1 : decode prog_3_method_6_code 1 = .ok (.iconst 0, 1) := by decide +kernel
theorem nd_Blocks_forget_2 : decode prog_3_method_6_code 2 = .ok (.putfield 22, 3) := by decide +kernel
theorem nd_Blocks_forget_5 : decode prog_3_method_6_code 5 = .ok (.aload_n 0, 1) := by decide +kernel
theorem nd_Blocks_forget_6 : decode prog_3_method_6_code 6 = .ok (.iconst 0, 1) := by decide +kernel
theorem nd_Blocks_forget_7 : decode prog_3_method_6_code 7 = .ok (.putfield 37, 3) := by decide +kernel
theorem nd_Blocks_forget_10 : decode prog_3_method_6_code 10 = .ok (.return_, 1) := by decide +kernel
def ny_Run_forget : MethodName := ⟨"DrawnPaths$Run", "forget", "()V"⟩
theorem nd_Run_forget_0 : decode prog_7_method_4_code 0 = .ok (.aload_n 0, 1) := by decide +kernel
theorem nd_Run_forget_1 : decode prog_7_method_4_code 1 = .ok (.iconst 0, 1) := by decide +kernel
theorem nd_Run_forget_2 : decode prog_7_method_4_code 2 = .ok (.putfield 43, 3) := by decide +kernel
theorem nd_Run_forget_5 : decode prog_7_method_4_code 5 = .ok (.aload_n 0, 1) := by decide +kernel
theorem nd_Run_forget_6 : decode prog_7_method_4_code 6 = .ok (.iconst 0, 1) := by decide +kernel
theorem nd_Run_forget_7 : decode prog_7_method_4_code 7 = .ok (.putfield 46, 3) := by decide +kernel
theorem nd_Run_forget_10 : decode prog_7_method_4_code 10 = .ok (.aload_n 0, 1) := by decide +kernel
theorem nd_Run_forget_11 : decode prog_7_method_4_code 11 = .ok (.iconst 0, 1) := by decide +kernel
theorem nd_Run_forget_12 : decode prog_7_method_4_code 12 = .ok (.putfield 49, 3) := by decide +kernel
theorem nd_Run_forget_15 : decode prog_7_method_4_code 15 = .ok (.aload_n 0, 1) := by decide +kernel
theorem nd_Run_forget_16 : decode prog_7_method_4_code 16 = .ok (.iconst 0, 1) := by decide +kernel
theorem nd_Run_forget_17 : decode prog_7_method_4_code 17 = .ok (.putfield 52, 3) := by decide +kernel
theorem nd_Run_forget_20 : decode prog_7_method_4_code 20 = .ok (.aload_n 0, 1) := by decide +kernel
theorem nd_Run_forget_21 : decode prog_7_method_4_code 21 = .ok (.iconst 0, 1) := by decide +kernel
theorem nd_Run_forget_22 : decode prog_7_method_4_code 22 = .ok (.putfield 39, 3) := by decide +kernel
theorem nd_Run_forget_25 : decode prog_7_method_4_code 25 = .ok (.aload_n 0, 1) := by decide +kernel
theorem nd_Run_forget_26 : decode prog_7_method_4_code 26 = .ok (.getfield 30, 3) := by decide +kernel
theorem nd_Run_forget_29 : decode prog_7_method_4_code 29 = .ok (.invokevirtual 55, 3) := by decide +kernel
theorem nd_Run_forget_32 : decode prog_7_method_4_code 32 = .ok (.return_, 1) := by decide +kernel
def ny_P_clear : MethodName := ⟨"DrawnPaths", "clear", "()V"⟩
theorem nd_P_clear_0 : decode prog_1_method_7_code 0 = .ok (.aload_n 0, 1) := by decide +kernel
theorem nd_P_clear_1 : decode prog_1_method_7_code 1 = .ok (.getfield 21, 3) := by decide +kernel
theorem nd_P_clear_4 : decode prog_1_method_7_code 4 = .ok (.invokevirtual 107, 3) := by decide +kernel
theorem nd_P_clear_7 : decode prog_1_method_7_code 7 = .ok (.aload_n 0, 1) := by decide +kernel
theorem nd_P_clear_8 : decode prog_1_method_7_code 8 = .ok (.getfield 10, 3) := by decide +kernel
theorem nd_P_clear_11 : decode prog_1_method_7_code 11 = .ok (.invokevirtual 110, 3) := by decide +kernel
theorem nd_P_clear_14 : decode prog_1_method_7_code 14 = .ok (.aload_n 0, 1) := by decide +kernel
theorem nd_P_clear_15 : decode prog_1_method_7_code 15 = .ok (.getfield 30, 3) := by decide +kernel
theorem nd_P_clear_18 : decode prog_1_method_7_code 18 = .ok (.invokevirtual 113, 3) := by decide +kernel
theorem nd_P_clear_21 : decode prog_1_method_7_code 21 = .ok (.return_, 1) := by decide +kernel
def ny_Way_of : MethodName := ⟨"DrawnPaths$Way", "of", "(III)I"⟩
theorem nd_Way_of_0 : decode prog_9_method_2_code 0 = .ok (.iload_n 0, 1) := by decide +kernel
theorem nd_Way_of_1 : decode prog_9_method_2_code 1 = .ok (.bipush 8, 2) := by decide +kernel
theorem nd_Way_of_3 : decode prog_9_method_2_code 3 = .ok (.imul, 1) := by decide +kernel
theorem nd_Way_of_4 : decode prog_9_method_2_code 4 = .ok (.iload_n 1, 1) := by decide +kernel
theorem nd_Way_of_5 : decode prog_9_method_2_code 5 = .ok (.iconst 2, 1) := by decide +kernel
theorem nd_Way_of_6 : decode prog_9_method_2_code 6 = .ok (.imul, 1) := by decide +kernel
theorem nd_Way_of_7 : decode prog_9_method_2_code 7 = .ok (.iadd, 1) := by decide +kernel
theorem nd_Way_of_8 : decode prog_9_method_2_code 8 = .ok (.iload_n 2, 1) := by decide +kernel
theorem nd_Way_of_9 : decode prog_9_method_2_code 9 = .ok (.iadd, 1) := by decide +kernel
theorem nd_Way_of_10 : decode prog_9_method_2_code 10 = .ok (.ireturn, 1) := by decide +kernel
def ny_Ptr_begin : MethodName := ⟨"DrawnPaths$Pointer", "begin", "(I)V"⟩
theorem nd_Ptr_begin_0 : decode prog_6_method_2_code 0 = .ok (.aload_n 0, 1) := by decide +kernel
theorem nd_Ptr_begin_1 : decode prog_6_method_2_code 1 = .ok (.iload_n 1, 1) := by decide +kernel
theorem nd_Ptr_begin_2 : decode prog_6_method_2_code 2 = .ok (.putfield 19, 3) := by decide +kernel
theorem nd_Ptr_begin_5 : decode prog_6_method_2_code 5 = .ok (.aload_n 0, 1) := by decide +kernel
theorem nd_Ptr_begin_6 : decode prog_6_method_2_code 6 = .ok (.iconst 0, 1) := by decide +kernel
theorem nd_Ptr_begin_7 : decode prog_6_method_2_code 7 = .ok (.putfield 23, 3) := by decide +kernel
theorem nd_Ptr_begin_10 : decode prog_6_method_2_code 10 = .ok (.aload_n 0, 1) := by decide +kernel
theorem nd_Ptr_begin_11 : decode prog_6_method_2_code 11 = .ok (.iconst 0, 1) := by decide +kernel
theorem nd_Ptr_begin_12 : decode prog_6_method_2_code 12 = .ok (.putfield 26, 3) := by decide +kernel
theorem nd_Ptr_begin_15 : decode prog_6_method_2_code 15 = .ok (.return_, 1) := by decide +kernel
def ny_Run_begin : MethodName := ⟨"DrawnPaths$Run", "begin", "()V"⟩
theorem nd_Run_begin_0 : decode prog_7_method_5_code 0 = .ok (.aload_n 0, 1) := by decide +kernel
theorem nd_Run_begin_1 : decode prog_7_method_5_code 1 = .ok (.getfield 11, 3) := by decide +kernel
theorem nd_Run_begin_4 : decode prog_7_method_5_code 4 = .ok (.iconst 0, 1) := by decide +kernel
theorem nd_Run_begin_5 : decode prog_7_method_5_code 5 = .ok (.aaload, 1) := by decide +kernel
theorem nd_Run_begin_6 : decode prog_7_method_5_code 6 = .ok (.iconst 0, 1) := by decide +kernel
theorem nd_Run_begin_7 : decode prog_7_method_5_code 7 = .ok (.iconst 0, 1) := by decide +kernel
theorem nd_Run_begin_8 : decode prog_7_method_5_code 8 = .ok (.iconst 0, 1) := by decide +kernel
theorem nd_Run_begin_9 : decode prog_7_method_5_code 9 = .ok (.invokestatic 58, 3) := by decide +kernel
theorem nd_Run_begin_12 : decode prog_7_method_5_code 12 = .ok (.invokevirtual 64, 3) := by decide +kernel
theorem nd_Run_begin_15 : decode prog_7_method_5_code 15 = .ok (.aload_n 0, 1) := by decide +kernel
theorem nd_Run_begin_16 : decode prog_7_method_5_code 16 = .ok (.iconst 1, 1) := by decide +kernel
theorem nd_Run_begin_17 : decode prog_7_method_5_code 17 = .ok (.putfield 43, 3) := by decide +kernel
theorem nd_Run_begin_20 : decode prog_7_method_5_code 20 = .ok (.aload_n 0, 1) := by decide +kernel
theorem nd_Run_begin_21 : decode prog_7_method_5_code 21 = .ok (.iconst 0, 1) := by decide +kernel
theorem nd_Run_begin_22 : decode prog_7_method_5_code 22 = .ok (.putfield 49, 3) := by decide +kernel
theorem nd_Run_begin_25 : decode prog_7_method_5_code 25 = .ok (.aload_n 0, 1) := by decide +kernel
theorem nd_Run_begin_26 : decode prog_7_method_5_code 26 = .ok (.iconst 0, 1) := by decide +kernel
theorem nd_Run_begin_27 : decode prog_7_method_5_code 27 = .ok (.putfield 52, 3) := by decide +kernel
theorem nd_Run_begin_30 : decode prog_7_method_5_code 30 = .ok (.aload_n 0, 1) := by decide +kernel
theorem nd_Run_begin_31 : decode prog_7_method_5_code 31 = .ok (.iconst 0, 1) := by decide +kernel
theorem nd_Run_begin_32 : decode prog_7_method_5_code 32 = .ok (.putfield 39, 3) := by decide +kernel
theorem nd_Run_begin_35 : decode prog_7_method_5_code 35 = .ok (.aload_n 0, 1) := by decide +kernel
theorem nd_Run_begin_36 : decode prog_7_method_5_code 36 = .ok (.getfield 30, 3) := by decide +kernel
theorem nd_Run_begin_39 : decode prog_7_method_5_code 39 = .ok (.invokevirtual 55, 3) := by decide +kernel
theorem nd_Run_begin_42 : decode prog_7_method_5_code 42 = .ok (.return_, 1) := by decide +kernel
def ny_P_start : MethodName := ⟨"DrawnPaths", "start", "()V"⟩
theorem nd_P_start_0 : decode prog_1_method_8_code 0 = .ok (.aload_n 0, 1) := by decide +kernel
theorem nd_P_start_1 : decode prog_1_method_8_code 1 = .ok (.getfield 30, 3) := by decide +kernel
theorem nd_P_start_4 : decode prog_1_method_8_code 4 = .ok (.invokevirtual 114, 3) := by decide +kernel
theorem nd_P_start_7 : decode prog_1_method_8_code 7 = .ok (.return_, 1) := by decide +kernel
def ny_P_checkSteps : MethodName := ⟨"DrawnPaths", "checkSteps", "(I)V"⟩
theorem nd_P_checkSteps_0 : decode prog_1_method_24_code 0 = .ok (.iload_n 0, 1) := by decide +kernel
theorem nd_P_checkSteps_1 : decode prog_1_method_24_code 1 = .ok (.iconst 1, 1) := by decide +kernel
theorem nd_P_checkSteps_2 : decode prog_1_method_24_code 2 = .ok (.if_icmp .lt 10, 3) := by decide +kernel
theorem nd_P_checkSteps_5 : decode prog_1_method_24_code 5 = .ok (.iload_n 0, 1) := by decide +kernel
theorem nd_P_checkSteps_6 : decode prog_1_method_24_code 6 = .ok (.sipush 1000, 3) := by decide +kernel
theorem nd_P_checkSteps_9 : decode prog_1_method_24_code 9 = .ok (.if_icmp .le 13, 3) := by decide +kernel
theorem nd_P_checkSteps_12 : decode prog_1_method_24_code 12 = .ok (.new 61, 3) := by decide +kernel
theorem nd_P_checkSteps_15 : decode prog_1_method_24_code 15 = .ok (.dup, 1) := by decide +kernel
theorem nd_P_checkSteps_16 : decode prog_1_method_24_code 16 = .ok (.ldc 237, 2) := by decide +kernel
theorem nd_P_checkSteps_18 : decode prog_1_method_24_code 18 = .ok (.invokespecial 65, 3) := by decide +kernel
theorem nd_P_checkSteps_21 : decode prog_1_method_24_code 21 = .ok (.athrow, 1) := by decide +kernel
theorem nd_P_checkSteps_22 : decode prog_1_method_24_code 22 = .ok (.return_, 1) := by decide +kernel
def ny_Run_state : MethodName := ⟨"DrawnPaths$Run", "state", "()I"⟩
theorem nd_Run_state_0 : decode prog_7_method_2_code 0 = .ok (.aload_n 0, 1) := by decide +kernel
theorem nd_Run_state_1 : decode prog_7_method_2_code 1 = .ok (.getfield 39, 3) := by decide +kernel
theorem nd_Run_state_4 : decode prog_7_method_2_code 4 = .ok (.ifCond .eq 8, 3) := by decide +kernel
theorem nd_Run_state_7 : decode prog_7_method_2_code 7 = .ok (.aload_n 0, 1) := by decide +kernel
theorem nd_Run_state_8 : decode prog_7_method_2_code 8 = .ok (.getfield 39, 3) := by decide +kernel
theorem nd_Run_state_11 : decode prog_7_method_2_code 11 = .ok (.ireturn, 1) := by decide +kernel
theorem nd_Run_state_12 : decode prog_7_method_2_code 12 = .ok (.aload_n 0, 1) := by decide +kernel
theorem nd_Run_state_13 : decode prog_7_method_2_code 13 = .ok (.getfield 43, 3) := by decide +kernel
theorem nd_Run_state_16 : decode prog_7_method_2_code 16 = .ok (.ifCond .le 7, 3) := by decide +kernel
theorem nd_Run_state_19 : decode prog_7_method_2_code 19 = .ok (.iconst 0, 1) := by decide +kernel
theorem nd_Run_state_20 : decode prog_7_method_2_code 20 = .ok (.goto 4, 3) := by decide +kernel
theorem nd_Run_state_23 : decode prog_7_method_2_code 23 = .ok (.iconst 1, 1) := by decide +kernel
theorem nd_Run_state_24 : decode prog_7_method_2_code 24 = .ok (.ireturn, 1) := by decide +kernel
def ny_Way_place : MethodName := ⟨"DrawnPaths$Way", "place", "(I)I"⟩
theorem nd_Way_place_0 : decode prog_9_method_3_code 0 = .ok (.iload_n 0, 1) := by decide +kernel
theorem nd_Way_place_1 : decode prog_9_method_3_code 1 = .ok (.iconst 3, 1) := by decide +kernel
theorem nd_Way_place_2 : decode prog_9_method_3_code 2 = .ok (.ishr, 1) := by decide +kernel
theorem nd_Way_place_3 : decode prog_9_method_3_code 3 = .ok (.ireturn, 1) := by decide +kernel
def ny_Way_quotes : MethodName := ⟨"DrawnPaths$Way", "quotes", "(I)I"⟩
theorem nd_Way_quotes_0 : decode prog_9_method_5_code 0 = .ok (.iload_n 0, 1) := by decide +kernel
theorem nd_Way_quotes_1 : decode prog_9_method_5_code 1 = .ok (.iconst 1, 1) := by decide +kernel
theorem nd_Way_quotes_2 : decode prog_9_method_5_code 2 = .ok (.iand, 1) := by decide +kernel
theorem nd_Way_quotes_3 : decode prog_9_method_5_code 3 = .ok (.ireturn, 1) := by decide +kernel
def ny_P_isAct : MethodName := ⟨"DrawnPaths", "isAct", "(IC)Z"⟩
theorem nd_P_isAct_0 : decode prog_1_method_27_code 0 = .ok (.iload_n 0, 1) := by decide +kernel
theorem nd_P_isAct_1 : decode prog_1_method_27_code 1 = .ok (.invokestatic 148, 3) := by decide +kernel
theorem nd_P_isAct_4 : decode prog_1_method_27_code 4 = .ok (.iconst 1, 1) := by decide +kernel
theorem nd_P_isAct_5 : decode prog_1_method_27_code 5 = .ok (.if_icmp .ne 5, 3) := by decide +kernel
theorem nd_P_isAct_8 : decode prog_1_method_27_code 8 = .ok (.iconst 0, 1) := by decide +kernel
theorem nd_P_isAct_9 : decode prog_1_method_27_code 9 = .ok (.ireturn, 1) := by decide +kernel
theorem nd_P_isAct_10 : decode prog_1_method_27_code 10 = .ok (.iload_n 1, 1) := by decide +kernel
theorem nd_P_isAct_11 : decode prog_1_method_27_code 11 = .ok (.lookupswitch 83 #[(63, 81), (64, 81), (67, 81), (82, 81), (98, 81), (102, 81), (105, 81), (110, 81), (119, 81)], 81) := by decide +kernel
theorem nd_P_isAct_92 : decode prog_1_method_27_code 92 = .ok (.iconst 1, 1) := by decide +kernel
theorem nd_P_isAct_93 : decode prog_1_method_27_code 93 = .ok (.ireturn, 1) := by decide +kernel
theorem nd_P_isAct_94 : decode prog_1_method_27_code 94 = .ok (.iconst 0, 1) := by decide +kernel
theorem nd_P_isAct_95 : decode prog_1_method_27_code 95 = .ok (.ireturn, 1) := by decide +kernel
def ny_Ptr_pop : MethodName := ⟨"DrawnPaths$Pointer", "pop", "()J"⟩
theorem nd_Ptr_pop_0 : decode prog_6_method_5_code 0 = .ok (.aload_n 0, 1) := by decide +kernel
theorem nd_Ptr_pop_1 : decode prog_6_method_5_code 1 = .ok (.getfield 23, 3) := by decide +kernel
theorem nd_Ptr_pop_4 : decode prog_6_method_5_code 4 = .ok (.ifCond .ne 5, 3) := by decide +kernel
theorem nd_Ptr_pop_7 : decode prog_6_method_5_code 7 = .ok (.lconst 0, 1) := by decide +kernel
theorem nd_Ptr_pop_8 : decode prog_6_method_5_code 8 = .ok (.lreturn, 1) := by decide +kernel
theorem nd_Ptr_pop_9 : decode prog_6_method_5_code 9 = .ok (.aload_n 0, 1) := by decide +kernel
theorem nd_Ptr_pop_10 : decode prog_6_method_5_code 10 = .ok (.dup, 1) := by decide +kernel
theorem nd_Ptr_pop_11 : decode prog_6_method_5_code 11 = .ok (.getfield 23, 3) := by decide +kernel
theorem nd_Ptr_pop_14 : decode prog_6_method_5_code 14 = .ok (.iconst 1, 1) := by decide +kernel
theorem nd_Ptr_pop_15 : decode prog_6_method_5_code 15 = .ok (.isub, 1) := by decide +kernel
theorem nd_Ptr_pop_16 : decode prog_6_method_5_code 16 = .ok (.putfield 23, 3) := by decide +kernel
theorem nd_Ptr_pop_19 : decode prog_6_method_5_code 19 = .ok (.aload_n 0, 1) := by decide +kernel
theorem nd_Ptr_pop_20 : decode prog_6_method_5_code 20 = .ok (.getfield 9, 3) := by decide +kernel
theorem nd_Ptr_pop_23 : decode prog_6_method_5_code 23 = .ok (.aload_n 0, 1) := by decide +kernel
theorem nd_Ptr_pop_24 : decode prog_6_method_5_code 24 = .ok (.getfield 23, 3) := by decide +kernel
theorem nd_Ptr_pop_27 : decode prog_6_method_5_code 27 = .ok (.laload, 1) := by decide +kernel
theorem nd_Ptr_pop_28 : decode prog_6_method_5_code 28 = .ok (.lreturn, 1) := by decide +kernel
def ny_Way_direction : MethodName := ⟨"DrawnPaths$Way", "direction", "(I)I"⟩
theorem nd_Way_direction_0 : decode prog_9_method_4_code 0 = .ok (.iload_n 0, 1) := by decide +kernel
theorem nd_Way_direction_1 : decode prog_9_method_4_code 1 = .ok (.iconst 1, 1) := by decide +kernel
theorem nd_Way_direction_2 : decode prog_9_method_4_code 2 = .ok (.ishr, 1) := by decide +kernel
theorem nd_Way_direction_3 : decode prog_9_method_4_code 3 = .ok (.iconst 3, 1) := by decide +kernel
theorem nd_Way_direction_4 : decode prog_9_method_4_code 4 = .ok (.iand, 1) := by decide +kernel
theorem nd_Way_direction_5 : decode prog_9_method_4_code 5 = .ok (.ireturn, 1) := by decide +kernel
def ny_Way_directed : MethodName := ⟨"DrawnPaths$Way", "directed", "(II)I"⟩
theorem nd_Way_directed_0 : decode prog_9_method_7_code 0 = .ok (.iload_n 0, 1) := by decide +kernel
theorem nd_Way_directed_1 : decode prog_9_method_7_code 1 = .ok (.bipush (-7), 2) := by decide +kernel
theorem nd_Way_directed_3 : decode prog_9_method_7_code 3 = .ok (.iand, 1) := by decide +kernel
theorem nd_Way_directed_4 : decode prog_9_method_7_code 4 = .ok (.iload_n 1, 1) := by decide +kernel
theorem nd_Way_directed_5 : decode prog_9_method_7_code 5 = .ok (.iconst 1, 1) := by decide +kernel
theorem nd_Way_directed_6 : decode prog_9_method_7_code 6 = .ok (.ishl, 1) := by decide +kernel
theorem nd_Way_directed_7 : decode prog_9_method_7_code 7 = .ok (.ior, 1) := by decide +kernel
theorem nd_Way_directed_8 : decode prog_9_method_7_code 8 = .ok (.ireturn, 1) := by decide +kernel
def ny_Way_turned : MethodName := ⟨"DrawnPaths$Way", "turned", "(II)I"⟩
theorem nd_Way_turned_0 : decode prog_9_method_6_code 0 = .ok (.iload_n 0, 1) := by decide +kernel
theorem nd_Way_turned_1 : decode prog_9_method_6_code 1 = .ok (.iload_n 0, 1) := by decide +kernel
theorem nd_Way_turned_2 : decode prog_9_method_6_code 2 = .ok (.invokestatic 9, 3) := by decide +kernel
theorem nd_Way_turned_5 : decode prog_9_method_6_code 5 = .ok (.iload_n 1, 1) := by decide +kernel
theorem nd_Way_turned_6 : decode prog_9_method_6_code 6 = .ok (.iadd, 1) := by decide +kernel
theorem nd_Way_turned_7 : decode prog_9_method_6_code 7 = .ok (.iconst 3, 1) := by decide +kernel
theorem nd_Way_turned_8 : decode prog_9_method_6_code 8 = .ok (.iand, 1) := by decide +kernel
theorem nd_Way_turned_9 : decode prog_9_method_6_code 9 = .ok (.invokestatic 15, 3) := by decide +kernel
theorem nd_Way_turned_12 : decode prog_9_method_6_code 12 = .ok (.ireturn, 1) := by decide +kernel
def ny_Way_ahead : MethodName := ⟨"DrawnPaths$Way", "ahead", "(I)I"⟩
theorem nd_Way_ahead_0 : decode prog_9_method_8_code 0 = .ok (.iload_n 0, 1) := by decide +kernel
theorem nd_Way_ahead_1 : decode prog_9_method_8_code 1 = .ok (.invokestatic 19, 3) := by decide +kernel
theorem nd_Way_ahead_4 : decode prog_9_method_8_code 4 = .ok (.bipush 12, 2) := by decide +kernel
theorem nd_Way_ahead_6 : decode prog_9_method_8_code 6 = .ok (.irem, 1) := by decide +kernel
theorem nd_Way_ahead_7 : decode prog_9_method_8_code 7 = .ok (.istore_n 1, 1) := by decide +kernel
theorem nd_Way_ahead_8 : decode prog_9_method_8_code 8 = .ok (.iload_n 0, 1) := by decide +kernel
theorem nd_Way_ahead_9 : decode prog_9_method_8_code 9 = .ok (.invokestatic 19, 3) := by decide +kernel
theorem nd_Way_ahead_12 : decode prog_9_method_8_code 12 = .ok (.bipush 12, 2) := by decide +kernel
theorem nd_Way_ahead_14 : decode prog_9_method_8_code 14 = .ok (.idiv, 1) := by decide +kernel
theorem nd_Way_ahead_15 : decode prog_9_method_8_code 15 = .ok (.istore_n 2, 1) := by decide +kernel
theorem nd_Way_ahead_16 : decode prog_9_method_8_code 16 = .ok (.iload_n 0, 1) := by decide +kernel
theorem nd_Way_ahead_17 : decode prog_9_method_8_code 17 = .ok (.invokestatic 9, 3) := by decide +kernel
theorem nd_Way_ahead_20 : decode prog_9_method_8_code 20 = .ok (.tableswitch 78 0 2 #[28, 45, 62], 28) := by decide +kernel
theorem nd_Way_ahead_48 : decode prog_9_method_8_code 48 = .ok (.iload_n 1, 1) := by decide +kernel
theorem nd_Way_ahead_49 : decode prog_9_method_8_code 49 = .ok (.bipush 11, 2) := by decide +kernel
theorem nd_Way_ahead_51 : decode prog_9_method_8_code 51 = .ok (.if_icmp .ne 7, 3) := by decide +kernel
theorem nd_Way_ahead_54 : decode prog_9_method_8_code 54 = .ok (.iconst 0, 1) := by decide +kernel
theorem nd_Way_ahead_55 : decode prog_9_method_8_code 55 = .ok (.goto 6, 3) := by decide +kernel
theorem nd_Way_ahead_58 : decode prog_9_method_8_code 58 = .ok (.iload_n 1, 1) := by decide +kernel
theorem nd_Way_ahead_59 : decode prog_9_method_8_code 59 = .ok (.iconst 1, 1) := by decide +kernel
theorem nd_Way_ahead_60 : decode prog_9_method_8_code 60 = .ok (.iadd, 1) := by decide +kernel
theorem nd_Way_ahead_61 : decode prog_9_method_8_code 61 = .ok (.istore_n 1, 1) := by decide +kernel
theorem nd_Way_ahead_62 : decode prog_9_method_8_code 62 = .ok (.goto 49, 3) := by decide +kernel
theorem nd_Way_ahead_65 : decode prog_9_method_8_code 65 = .ok (.iload_n 2, 1) := by decide +kernel
theorem nd_Way_ahead_66 : decode prog_9_method_8_code 66 = .ok (.bipush 7, 2) := by decide +kernel
theorem nd_Way_ahead_68 : decode prog_9_method_8_code 68 = .ok (.if_icmp .ne 7, 3) := by decide +kernel
theorem nd_Way_ahead_71 : decode prog_9_method_8_code 71 = .ok (.iconst 0, 1) := by decide +kernel
theorem nd_Way_ahead_72 : decode prog_9_method_8_code 72 = .ok (.goto 6, 3) := by decide +kernel
theorem nd_Way_ahead_75 : decode prog_9_method_8_code 75 = .ok (.iload_n 2, 1) := by decide +kernel
theorem nd_Way_ahead_76 : decode prog_9_method_8_code 76 = .ok (.iconst 1, 1) := by decide +kernel
theorem nd_Way_ahead_77 : decode prog_9_method_8_code 77 = .ok (.iadd, 1) := by decide +kernel
theorem nd_Way_ahead_78 : decode prog_9_method_8_code 78 = .ok (.istore_n 2, 1) := by decide +kernel
theorem nd_Way_ahead_79 : decode prog_9_method_8_code 79 = .ok (.goto 32, 3) := by decide +kernel
theorem nd_Way_ahead_82 : decode prog_9_method_8_code 82 = .ok (.iload_n 1, 1) := by decide +kernel
theorem nd_Way_ahead_83 : decode prog_9_method_8_code 83 = .ok (.ifCond .ne 8, 3) := by decide +kernel
theorem nd_Way_ahead_86 : decode prog_9_method_8_code 86 = .ok (.bipush 11, 2) := by decide +kernel
theorem nd_Way_ahead_88 : decode prog_9_method_8_code 88 = .ok (.goto 6, 3) := by decide +kernel
theorem nd_Way_ahead_91 : decode prog_9_method_8_code 91 = .ok (.iload_n 1, 1) := by decide +kernel
theorem nd_Way_ahead_92 : decode prog_9_method_8_code 92 = .ok (.iconst 1, 1) := by decide +kernel
theorem nd_Way_ahead_93 : decode prog_9_method_8_code 93 = .ok (.isub, 1) := by decide +kernel
theorem nd_Way_ahead_94 : decode prog_9_method_8_code 94 = .ok (.istore_n 1, 1) := by decide +kernel
theorem nd_Way_ahead_95 : decode prog_9_method_8_code 95 = .ok (.goto 16, 3) := by decide +kernel
theorem nd_Way_ahead_98 : decode prog_9_method_8_code 98 = .ok (.iload_n 2, 1) := by decide +kernel
theorem nd_Way_ahead_99 : decode prog_9_method_8_code 99 = .ok (.ifCond .ne 8, 3) := by decide +kernel
theorem nd_Way_ahead_102 : decode prog_9_method_8_code 102 = .ok (.bipush 7, 2) := by decide +kernel
theorem nd_Way_ahead_104 : decode prog_9_method_8_code 104 = .ok (.goto 6, 3) := by decide +kernel
theorem nd_Way_ahead_107 : decode prog_9_method_8_code 107 = .ok (.iload_n 2, 1) := by decide +kernel
theorem nd_Way_ahead_108 : decode prog_9_method_8_code 108 = .ok (.iconst 1, 1) := by decide +kernel
theorem nd_Way_ahead_109 : decode prog_9_method_8_code 109 = .ok (.isub, 1) := by decide +kernel
theorem nd_Way_ahead_110 : decode prog_9_method_8_code 110 = .ok (.istore_n 2, 1) := by decide +kernel
theorem nd_Way_ahead_111 : decode prog_9_method_8_code 111 = .ok (.iload_n 2, 1) := by decide +kernel
theorem nd_Way_ahead_112 : decode prog_9_method_8_code 112 = .ok (.bipush 12, 2) := by decide +kernel
theorem nd_Way_ahead_114 : decode prog_9_method_8_code 114 = .ok (.imul, 1) := by decide +kernel
theorem nd_Way_ahead_115 : decode prog_9_method_8_code 115 = .ok (.iload_n 1, 1) := by decide +kernel
theorem nd_Way_ahead_116 : decode prog_9_method_8_code 116 = .ok (.iadd, 1) := by decide +kernel
theorem nd_Way_ahead_117 : decode prog_9_method_8_code 117 = .ok (.bipush 8, 2) := by decide +kernel
theorem nd_Way_ahead_119 : decode prog_9_method_8_code 119 = .ok (.imul, 1) := by decide +kernel
theorem nd_Way_ahead_120 : decode prog_9_method_8_code 120 = .ok (.iload_n 0, 1) := by decide +kernel
theorem nd_Way_ahead_121 : decode prog_9_method_8_code 121 = .ok (.bipush 7, 2) := by decide +kernel
theorem nd_Way_ahead_123 : decode prog_9_method_8_code 123 = .ok (.iand, 1) := by decide +kernel
theorem nd_Way_ahead_124 : decode prog_9_method_8_code 124 = .ok (.iadd, 1) := by decide +kernel
theorem nd_Way_ahead_125 : decode prog_9_method_8_code 125 = .ok (.ireturn, 1) := by decide +kernel
def ny_Run_turn : MethodName := ⟨"DrawnPaths$Run", "turn", "(LDrawnPaths$Pointer;)I"⟩
theorem nd_Run_turn_0 : decode prog_7_method_15_code 0 = .ok (.aload_n 0, 1) := by decide +kernel
theorem nd_Run_turn_1 : decode prog_7_method_15_code 1 = .ok (.invokevirtual 140, 3) := by decide +kernel
theorem nd_Run_turn_4 : decode prog_7_method_15_code 4 = .ok (.lstore_n 1, 1) := by decide +kernel
theorem nd_Run_turn_5 : decode prog_7_method_15_code 5 = .ok (.lload_n 1, 1) := by decide +kernel
theorem nd_Run_turn_6 : decode prog_7_method_15_code 6 = .ok (.lconst 0, 1) := by decide +kernel
theorem nd_Run_turn_7 : decode prog_7_method_15_code 7 = .ok (.lcmp, 1) := by decide +kernel
theorem nd_Run_turn_8 : decode prog_7_method_15_code 8 = .ok (.ifCond .le 18, 3) := by decide +kernel
theorem nd_Run_turn_11 : decode prog_7_method_15_code 11 = .ok (.aload_n 0, 1) := by decide +kernel
theorem nd_Run_turn_12 : decode prog_7_method_15_code 12 = .ok (.aload_n 0, 1) := by decide +kernel
theorem nd_Run_turn_13 : decode prog_7_method_15_code 13 = .ok (.getfield 67, 3) := by decide +kernel
theorem nd_Run_turn_16 : decode prog_7_method_15_code 16 = .ok (.iconst 1, 1) := by decide +kernel
theorem nd_Run_turn_17 : decode prog_7_method_15_code 17 = .ok (.invokestatic 180, 3) := by decide +kernel
theorem nd_Run_turn_20 : decode prog_7_method_15_code 20 = .ok (.putfield 67, 3) := by decide +kernel
theorem nd_Run_turn_23 : decode prog_7_method_15_code 23 = .ok (.goto 21, 3) := by decide +kernel
theorem nd_Run_turn_26 : decode prog_7_method_15_code 26 = .ok (.lload_n 1, 1) := by decide +kernel
theorem nd_Run_turn_27 : decode prog_7_method_15_code 27 = .ok (.lconst 0, 1) := by decide +kernel
theorem nd_Run_turn_28 : decode prog_7_method_15_code 28 = .ok (.lcmp, 1) := by decide +kernel
theorem nd_Run_turn_29 : decode prog_7_method_15_code 29 = .ok (.ifCond .ge 15, 3) := by decide +kernel
theorem nd_Run_turn_32 : decode prog_7_method_15_code 32 = .ok (.aload_n 0, 1) := by decide +kernel
theorem nd_Run_turn_33 : decode prog_7_method_15_code 33 = .ok (.aload_n 0, 1) := by decide +kernel
theorem nd_Run_turn_34 : decode prog_7_method_15_code 34 = .ok (.getfield 67, 3) := by decide +kernel
theorem nd_Run_turn_37 : decode prog_7_method_15_code 37 = .ok (.iconst 3, 1) := by decide +kernel
theorem nd_Run_turn_38 : decode prog_7_method_15_code 38 = .ok (.invokestatic 180, 3) := by decide +kernel
theorem nd_Run_turn_41 : decode prog_7_method_15_code 41 = .ok (.putfield 67, 3) := by decide +kernel
theorem nd_Run_turn_44 : decode prog_7_method_15_code 44 = .ok (.aload_n 0, 1) := by decide +kernel
theorem nd_Run_turn_45 : decode prog_7_method_15_code 45 = .ok (.aload_n 0, 1) := by decide +kernel
theorem nd_Run_turn_46 : decode prog_7_method_15_code 46 = .ok (.getfield 67, 3) := by decide +kernel
theorem nd_Run_turn_49 : decode prog_7_method_15_code 49 = .ok (.invokestatic 184, 3) := by decide +kernel
theorem nd_Run_turn_52 : decode prog_7_method_15_code 52 = .ok (.putfield 67, 3) := by decide +kernel
theorem nd_Run_turn_55 : decode prog_7_method_15_code 55 = .ok (.iconst 0, 1) := by decide +kernel
theorem nd_Run_turn_56 : decode prog_7_method_15_code 56 = .ok (.ireturn, 1) := by decide +kernel
def ny_Ptr_fromTop : MethodName := ⟨"DrawnPaths$Pointer", "fromTop", "(J)J"⟩
theorem nd_Ptr_fromTop_0 : decode prog_6_method_6_code 0 = .ok (.lload_n 1, 1) := by decide +kernel
theorem nd_Ptr_fromTop_1 : decode prog_6_method_6_code 1 = .ok (.lconst 0, 1) := by decide +kernel
theorem nd_Ptr_fromTop_2 : decode prog_6_method_6_code 2 = .ok (.lcmp, 1) := by decide +kernel
theorem nd_Ptr_fromTop_3 : decode prog_6_method_6_code 3 = .ok (.ifCond .lt 30, 3) := by decide +kernel
theorem nd_Ptr_fromTop_6 : decode prog_6_method_6_code 6 = .ok (.lload_n 1, 1) := by decide +kernel
theorem nd_Ptr_fromTop_7 : decode prog_6_method_6_code 7 = .ok (.aload_n 0, 1) := by decide +kernel
theorem nd_Ptr_fromTop_8 : decode prog_6_method_6_code 8 = .ok (.getfield 23, 3) := by decide +kernel
theorem nd_Ptr_fromTop_11 : decode prog_6_method_6_code 11 = .ok (.i2l, 1) := by decide +kernel
theorem nd_Ptr_fromTop_12 : decode prog_6_method_6_code 12 = .ok (.lcmp, 1) := by decide +kernel
theorem nd_Ptr_fromTop_13 : decode prog_6_method_6_code 13 = .ok (.ifCond .ge 20, 3) := by decide +kernel
theorem nd_Ptr_fromTop_16 : decode prog_6_method_6_code 16 = .ok (.aload_n 0, 1) := by decide +kernel
theorem nd_Ptr_fromTop_17 : decode prog_6_method_6_code 17 = .ok (.getfield 9, 3) := by decide +kernel
theorem nd_Ptr_fromTop_20 : decode prog_6_method_6_code 20 = .ok (.aload_n 0, 1) := by decide +kernel
theorem nd_Ptr_fromTop_21 : decode prog_6_method_6_code 21 = .ok (.getfield 23, 3) := by decide +kernel
theorem nd_Ptr_fromTop_24 : decode prog_6_method_6_code 24 = .ok (.iconst 1, 1) := by decide +kernel
theorem nd_Ptr_fromTop_25 : decode prog_6_method_6_code 25 = .ok (.isub, 1) := by decide +kernel
theorem nd_Ptr_fromTop_26 : decode prog_6_method_6_code 26 = .ok (.lload_n 1, 1) := by decide +kernel
theorem nd_Ptr_fromTop_27 : decode prog_6_method_6_code 27 = .ok (.l2i, 1) := by decide +kernel
theorem nd_Ptr_fromTop_28 : decode prog_6_method_6_code 28 = .ok (.isub, 1) := by decide +kernel
theorem nd_Ptr_fromTop_29 : decode prog_6_method_6_code 29 = .ok (.laload, 1) := by decide +kernel
theorem nd_Ptr_fromTop_30 : decode prog_6_method_6_code 30 = .ok (.goto 4, 3) := by decide +kernel
theorem nd_Ptr_fromTop_33 : decode prog_6_method_6_code 33 = .ok (.lconst 0, 1) := by decide +kernel
theorem nd_Ptr_fromTop_34 : decode prog_6_method_6_code 34 = .ok (.lreturn, 1) := by decide +kernel
def ny_Run_spell : MethodName := ⟨"DrawnPaths$Run", "spell", "(J)I"⟩
theorem nd_Run_spell_0 : decode prog_7_method_17_code 0 = .ok (.bipush 20, 2) := by decide +kernel
theorem nd_Run_spell_2 : decode prog_7_method_17_code 2 = .ok (.istore_n 3, 1) := by decide +kernel
theorem nd_Run_spell_3 : decode prog_7_method_17_code 3 = .ok (.lload_n 1, 1) := by decide +kernel
theorem nd_Run_spell_4 : decode prog_7_method_17_code 4 = .ok (.lstore 4, 2) := by decide +kernel
theorem nd_Run_spell_6 : decode prog_7_method_17_code 6 = .ok (.lload 4, 2) := by decide +kernel
theorem nd_Run_spell_8 : decode prog_7_method_17_code 8 = .ok (.ldc2_w 199, 3) := by decide +kernel
theorem nd_Run_spell_11 : decode prog_7_method_17_code 11 = .ok (.lrem, 1) := by decide +kernel
theorem nd_Run_spell_12 : decode prog_7_method_17_code 12 = .ok (.invokestatic 201, 3) := by decide +kernel
theorem nd_Run_spell_15 : decode prog_7_method_17_code 15 = .ok (.lstore 6, 2) := by decide +kernel
theorem nd_Run_spell_17 : decode prog_7_method_17_code 17 = .ok (.iinc 3 (-1), 3) := by decide +kernel
theorem nd_Run_spell_20 : decode prog_7_method_17_code 20 = .ok (.aload_n 0, 1) := by decide +kernel
theorem nd_Run_spell_21 : decode prog_7_method_17_code 21 = .ok (.getfield 21, 3) := by decide +kernel
theorem nd_Run_spell_24 : decode prog_7_method_17_code 24 = .ok (.iload_n 3, 1) := by decide +kernel
theorem nd_Run_spell_25 : decode prog_7_method_17_code 25 = .ok (.ldc2_w 206, 3) := by decide +kernel
theorem nd_Run_spell_28 : decode prog_7_method_17_code 28 = .ok (.lload 6, 2) := by decide +kernel
theorem nd_Run_spell_30 : decode prog_7_method_17_code 30 = .ok (.ladd, 1) := by decide +kernel
theorem nd_Run_spell_31 : decode prog_7_method_17_code 31 = .ok (.l2i, 1) := by decide +kernel
theorem nd_Run_spell_32 : decode prog_7_method_17_code 32 = .ok (.i2c, 1) := by decide +kernel
theorem nd_Run_spell_33 : decode prog_7_method_17_code 33 = .ok (.castore, 1) := by decide +kernel
theorem nd_Run_spell_34 : decode prog_7_method_17_code 34 = .ok (.lload 4, 2) := by decide +kernel
theorem nd_Run_spell_36 : decode prog_7_method_17_code 36 = .ok (.ldc2_w 199, 3) := by decide +kernel
theorem nd_Run_spell_39 : decode prog_7_method_17_code 39 = .ok (.ldiv, 1) := by decide +kernel
theorem nd_Run_spell_40 : decode prog_7_method_17_code 40 = .ok (.lstore 4, 2) := by decide +kernel
theorem nd_Run_spell_42 : decode prog_7_method_17_code 42 = .ok (.lload 4, 2) := by decide +kernel
theorem nd_Run_spell_44 : decode prog_7_method_17_code 44 = .ok (.lconst 0, 1) := by decide +kernel
theorem nd_Run_spell_45 : decode prog_7_method_17_code 45 = .ok (.lcmp, 1) := by decide +kernel
theorem nd_Run_spell_46 : decode prog_7_method_17_code 46 = .ok (.ifCond .eq 8, 3) := by decide +kernel
theorem nd_Run_spell_49 : decode prog_7_method_17_code 49 = .ok (.iload_n 3, 1) := by decide +kernel
theorem nd_Run_spell_50 : decode prog_7_method_17_code 50 = .ok (.iconst 1, 1) := by decide +kernel
theorem nd_Run_spell_51 : decode prog_7_method_17_code 51 = .ok (.if_icmp .gt (-45), 3) := by decide +kernel
theorem nd_Run_spell_54 : decode prog_7_method_17_code 54 = .ok (.lload_n 1, 1) := by decide +kernel
theorem nd_Run_spell_55 : decode prog_7_method_17_code 55 = .ok (.lconst 0, 1) := by decide +kernel
theorem nd_Run_spell_56 : decode prog_7_method_17_code 56 = .ok (.lcmp, 1) := by decide +kernel
theorem nd_Run_spell_57 : decode prog_7_method_17_code 57 = .ok (.ifCond .ge 14, 3) := by decide +kernel
theorem nd_Run_spell_60 : decode prog_7_method_17_code 60 = .ok (.iinc 3 (-1), 3) := by decide +kernel
theorem nd_Run_spell_63 : decode prog_7_method_17_code 63 = .ok (.aload_n 0, 1) := by decide +kernel
theorem nd_Run_spell_64 : decode prog_7_method_17_code 64 = .ok (.getfield 21, 3) := by decide +kernel
theorem nd_Run_spell_67 : decode prog_7_method_17_code 67 = .ok (.iload_n 3, 1) := by decide +kernel
theorem nd_Run_spell_68 : decode prog_7_method_17_code 68 = .ok (.bipush 45, 2) := by decide +kernel
theorem nd_Run_spell_70 : decode prog_7_method_17_code 70 = .ok (.castore, 1) := by decide +kernel
theorem nd_Run_spell_71 : decode prog_7_method_17_code 71 = .ok (.iload_n 3, 1) := by decide +kernel
theorem nd_Run_spell_72 : decode prog_7_method_17_code 72 = .ok (.ireturn, 1) := by decide +kernel
def ny_Run_writeNumber : MethodName := ⟨"DrawnPaths$Run", "writeNumber", "(LDrawnPaths$Pointer;)I"⟩
theorem nd_Run_writeNumber_0 : decode prog_7_method_16_code 0 = .ok (.aload_n 0, 1) := by decide +kernel
theorem nd_Run_writeNumber_1 : decode prog_7_method_16_code 1 = .ok (.aload_n 1, 1) := by decide +kernel
theorem nd_Run_writeNumber_2 : decode prog_7_method_16_code 2 = .ok (.lconst 0, 1) := by decide +kernel
theorem nd_Run_writeNumber_3 : decode prog_7_method_16_code 3 = .ok (.invokevirtual 144, 3) := by decide +kernel
theorem nd_Run_writeNumber_6 : decode prog_7_method_16_code 6 = .ok (.invokevirtual 187, 3) := by decide +kernel
theorem nd_Run_writeNumber_9 : decode prog_7_method_16_code 9 = .ok (.istore_n 2, 1) := by decide +kernel
theorem nd_Run_writeNumber_10 : decode prog_7_method_16_code 10 = .ok (.aload_n 0, 1) := by decide +kernel
theorem nd_Run_writeNumber_11 : decode prog_7_method_16_code 11 = .ok (.getfield 30, 3) := by decide +kernel
theorem nd_Run_writeNumber_14 : decode prog_7_method_16_code 14 = .ok (.bipush 20, 2) := by decide +kernel
theorem nd_Run_writeNumber_16 : decode prog_7_method_16_code 16 = .ok (.iload_n 2, 1) := by decide +kernel
theorem nd_Run_writeNumber_17 : decode prog_7_method_16_code 17 = .ok (.isub, 1) := by decide +kernel
theorem nd_Run_writeNumber_18 : decode prog_7_method_16_code 18 = .ok (.iconst 1, 1) := by decide +kernel
theorem nd_Run_writeNumber_19 : decode prog_7_method_16_code 19 = .ok (.iadd, 1) := by decide +kernel
theorem nd_Run_writeNumber_20 : decode prog_7_method_16_code 20 = .ok (.invokevirtual 191, 3) := by decide +kernel
theorem nd_Run_writeNumber_23 : decode prog_7_method_16_code 23 = .ok (.ifCond .ne 5, 3) := by decide +kernel
theorem nd_Run_writeNumber_26 : decode prog_7_method_16_code 26 = .ok (.iconst 3, 1) := by decide +kernel
theorem nd_Run_writeNumber_27 : decode prog_7_method_16_code 27 = .ok (.ireturn, 1) := by decide +kernel
theorem nd_Run_writeNumber_28 : decode prog_7_method_16_code 28 = .ok (.aload_n 1, 1) := by decide +kernel
theorem nd_Run_writeNumber_29 : decode prog_7_method_16_code 29 = .ok (.invokevirtual 140, 3) := by decide +kernel
theorem nd_Run_writeNumber_32 : decode prog_7_method_16_code 32 = .ok (.pop2, 1) := by decide +kernel
theorem nd_Run_writeNumber_33 : decode prog_7_method_16_code 33 = .ok (.iload_n 2, 1) := by decide +kernel
theorem nd_Run_writeNumber_34 : decode prog_7_method_16_code 34 = .ok (.istore_n 3, 1) := by decide +kernel
theorem nd_Run_writeNumber_35 : decode prog_7_method_16_code 35 = .ok (.iload_n 3, 1) := by decide +kernel
theorem nd_Run_writeNumber_36 : decode prog_7_method_16_code 36 = .ok (.bipush 20, 2) := by decide +kernel
theorem nd_Run_writeNumber_38 : decode prog_7_method_16_code 38 = .ok (.if_icmp .ge 22, 3) := by decide +kernel
theorem nd_Run_writeNumber_41 : decode prog_7_method_16_code 41 = .ok (.aload_n 0, 1) := by decide +kernel
theorem nd_Run_writeNumber_42 : decode prog_7_method_16_code 42 = .ok (.getfield 30, 3) := by decide +kernel
theorem nd_Run_writeNumber_45 : decode prog_7_method_16_code 45 = .ok (.aload_n 0, 1) := by decide +kernel
theorem nd_Run_writeNumber_46 : decode prog_7_method_16_code 46 = .ok (.getfield 21, 3) := by decide +kernel
theorem nd_Run_writeNumber_49 : decode prog_7_method_16_code 49 = .ok (.iload_n 3, 1) := by decide +kernel
theorem nd_Run_writeNumber_50 : decode prog_7_method_16_code 50 = .ok (.caload, 1) := by decide +kernel
theorem nd_Run_writeNumber_51 : decode prog_7_method_16_code 51 = .ok (.invokevirtual 195, 3) := by decide +kernel
theorem nd_Run_writeNumber_54 : decode prog_7_method_16_code 54 = .ok (.iinc 3 1, 3) := by decide +kernel
theorem nd_Run_writeNumber_57 : decode prog_7_method_16_code 57 = .ok (.goto (-22), 3) := by decide +kernel
theorem nd_Run_writeNumber_60 : decode prog_7_method_16_code 60 = .ok (.aload_n 0, 1) := by decide +kernel
theorem nd_Run_writeNumber_61 : decode prog_7_method_16_code 61 = .ok (.getfield 30, 3) := by decide +kernel
theorem nd_Run_writeNumber_64 : decode prog_7_method_16_code 64 = .ok (.bipush 32, 2) := by decide +kernel
theorem nd_Run_writeNumber_66 : decode prog_7_method_16_code 66 = .ok (.invokevirtual 195, 3) := by decide +kernel
theorem nd_Run_writeNumber_69 : decode prog_7_method_16_code 69 = .ok (.aload_n 1, 1) := by decide +kernel
theorem nd_Run_writeNumber_70 : decode prog_7_method_16_code 70 = .ok (.aload_n 1, 1) := by decide +kernel
theorem nd_Run_writeNumber_71 : decode prog_7_method_16_code 71 = .ok (.getfield 67, 3) := by decide +kernel
theorem nd_Run_writeNumber_74 : decode prog_7_method_16_code 74 = .ok (.invokestatic 184, 3) := by decide +kernel
theorem nd_Run_writeNumber_77 : decode prog_7_method_16_code 77 = .ok (.putfield 67, 3) := by decide +kernel
end
section
theorem nd_Run_writeNumber_80 : decode prog_7_method_16_code 80 = .ok (.iconst 0, 1) := by decide +kernel
theorem nd_Run_writeNumber_81 : decode prog_7_method_16_code 81 = .ok (.ireturn, 1) := by decide +kernel
def ny_P_signOf : MethodName := ⟨"DrawnPaths", "signOf", "(J)C"⟩
theorem nd_P_signOf_0 : decode prog_1_method_26_code 0 = .ok (.lload_n 0, 1) := by decide +kernel
theorem nd_P_signOf_1 : decode prog_1_method_26_code 1 = .ok (.ldc2_w 239, 3) := by decide +kernel
theorem nd_P_signOf_4 : decode prog_1_method_26_code 4 = .ok (.land, 1) := by decide +kernel
theorem nd_P_signOf_5 : decode prog_1_method_26_code 5 = .ok (.l2i, 1) := by decide +kernel
theorem nd_P_signOf_6 : decode prog_1_method_26_code 6 = .ok (.i2c, 1) := by decide +kernel
theorem nd_P_signOf_7 : decode prog_1_method_26_code 7 = .ok (.istore_n 2, 1) := by decide +kernel
theorem nd_P_signOf_8 : decode prog_1_method_26_code 8 = .ok (.iload_n 2, 1) := by decide +kernel
theorem nd_P_signOf_9 : decode prog_1_method_26_code 9 = .ok (.invokestatic 57, 3) := by decide +kernel
theorem nd_P_signOf_12 : decode prog_1_method_26_code 12 = .ok (.ifCond .eq 7, 3) := by decide +kernel
theorem nd_P_signOf_15 : decode prog_1_method_26_code 15 = .ok (.iload_n 2, 1) := by decide +kernel
theorem nd_P_signOf_16 : decode prog_1_method_26_code 16 = .ok (.goto 5, 3) := by decide +kernel
theorem nd_P_signOf_19 : decode prog_1_method_26_code 19 = .ok (.bipush 32, 2) := by decide +kernel
theorem nd_P_signOf_21 : decode prog_1_method_26_code 21 = .ok (.ireturn, 1) := by decide +kernel
def ny_Run_writeCharacter : MethodName := ⟨"DrawnPaths$Run", "writeCharacter", "(LDrawnPaths$Pointer;)I"⟩
theorem nd_Run_writeCharacter_0 : decode prog_7_method_18_code 0 = .ok (.aload_n 0, 1) := by decide +kernel
theorem nd_Run_writeCharacter_1 : decode prog_7_method_18_code 1 = .ok (.getfield 30, 3) := by decide +kernel
theorem nd_Run_writeCharacter_4 : decode prog_7_method_18_code 4 = .ok (.iconst 1, 1) := by decide +kernel
theorem nd_Run_writeCharacter_5 : decode prog_7_method_18_code 5 = .ok (.invokevirtual 191, 3) := by decide +kernel
theorem nd_Run_writeCharacter_8 : decode prog_7_method_18_code 8 = .ok (.ifCond .ne 5, 3) := by decide +kernel
theorem nd_Run_writeCharacter_11 : decode prog_7_method_18_code 11 = .ok (.iconst 3, 1) := by decide +kernel
theorem nd_Run_writeCharacter_12 : decode prog_7_method_18_code 12 = .ok (.ireturn, 1) := by decide +kernel
theorem nd_Run_writeCharacter_13 : decode prog_7_method_18_code 13 = .ok (.aload_n 0, 1) := by decide +kernel
theorem nd_Run_writeCharacter_14 : decode prog_7_method_18_code 14 = .ok (.getfield 30, 3) := by decide +kernel
theorem nd_Run_writeCharacter_17 : decode prog_7_method_18_code 17 = .ok (.aload_n 1, 1) := by decide +kernel
theorem nd_Run_writeCharacter_18 : decode prog_7_method_18_code 18 = .ok (.invokevirtual 140, 3) := by decide +kernel
theorem nd_Run_writeCharacter_21 : decode prog_7_method_18_code 21 = .ok (.invokestatic 208, 3) := by decide +kernel
theorem nd_Run_writeCharacter_24 : decode prog_7_method_18_code 24 = .ok (.invokevirtual 195, 3) := by decide +kernel
theorem nd_Run_writeCharacter_27 : decode prog_7_method_18_code 27 = .ok (.aload_n 1, 1) := by decide +kernel
theorem nd_Run_writeCharacter_28 : decode prog_7_method_18_code 28 = .ok (.aload_n 1, 1) := by decide +kernel
theorem nd_Run_writeCharacter_29 : decode prog_7_method_18_code 29 = .ok (.getfield 67, 3) := by decide +kernel
theorem nd_Run_writeCharacter_32 : decode prog_7_method_18_code 32 = .ok (.invokestatic 184, 3) := by decide +kernel
theorem nd_Run_writeCharacter_35 : decode prog_7_method_18_code 35 = .ok (.putfield 67, 3) := by decide +kernel
theorem nd_Run_writeCharacter_38 : decode prog_7_method_18_code 38 = .ok (.iconst 0, 1) := by decide +kernel
theorem nd_Run_writeCharacter_39 : decode prog_7_method_18_code 39 = .ok (.ireturn, 1) := by decide +kernel
def ny_Ptr_isFull : MethodName := ⟨"DrawnPaths$Pointer", "isFull", "()Z"⟩
theorem nd_Ptr_isFull_0 : decode prog_6_method_3_code 0 = .ok (.aload_n 0, 1) := by decide +kernel
theorem nd_Ptr_isFull_1 : decode prog_6_method_3_code 1 = .ok (.getfield 23, 3) := by decide +kernel
theorem nd_Ptr_isFull_4 : decode prog_6_method_3_code 4 = .ok (.bipush 24, 2) := by decide +kernel
theorem nd_Ptr_isFull_6 : decode prog_6_method_3_code 6 = .ok (.if_icmp .ne 7, 3) := by decide +kernel
theorem nd_Ptr_isFull_9 : decode prog_6_method_3_code 9 = .ok (.iconst 1, 1) := by decide +kernel
theorem nd_Ptr_isFull_10 : decode prog_6_method_3_code 10 = .ok (.goto 4, 3) := by decide +kernel
theorem nd_Ptr_isFull_13 : decode prog_6_method_3_code 13 = .ok (.iconst 0, 1) := by decide +kernel
theorem nd_Ptr_isFull_14 : decode prog_6_method_3_code 14 = .ok (.ireturn, 1) := by decide +kernel
def ny_Ptr_push : MethodName := ⟨"DrawnPaths$Pointer", "push", "(J)V"⟩
theorem nd_Ptr_push_0 : decode prog_6_method_4_code 0 = .ok (.aload_n 0, 1) := by decide +kernel
theorem nd_Ptr_push_1 : decode prog_6_method_4_code 1 = .ok (.getfield 23, 3) := by decide +kernel
theorem nd_Ptr_push_4 : decode prog_6_method_4_code 4 = .ok (.bipush 24, 2) := by decide +kernel
theorem nd_Ptr_push_6 : decode prog_6_method_4_code 6 = .ok (.if_icmp .ge 23, 3) := by decide +kernel
theorem nd_Ptr_push_9 : decode prog_6_method_4_code 9 = .ok (.aload_n 0, 1) := by decide +kernel
theorem nd_Ptr_push_10 : decode prog_6_method_4_code 10 = .ok (.getfield 9, 3) := by decide +kernel
theorem nd_Ptr_push_13 : decode prog_6_method_4_code 13 = .ok (.aload_n 0, 1) := by decide +kernel
theorem nd_Ptr_push_14 : decode prog_6_method_4_code 14 = .ok (.getfield 23, 3) := by decide +kernel
theorem nd_Ptr_push_17 : decode prog_6_method_4_code 17 = .ok (.lload_n 1, 1) := by decide +kernel
theorem nd_Ptr_push_18 : decode prog_6_method_4_code 18 = .ok (.lastore, 1) := by decide +kernel
theorem nd_Ptr_push_19 : decode prog_6_method_4_code 19 = .ok (.aload_n 0, 1) := by decide +kernel
theorem nd_Ptr_push_20 : decode prog_6_method_4_code 20 = .ok (.dup, 1) := by decide +kernel
theorem nd_Ptr_push_21 : decode prog_6_method_4_code 21 = .ok (.getfield 23, 3) := by decide +kernel
theorem nd_Ptr_push_24 : decode prog_6_method_4_code 24 = .ok (.iconst 1, 1) := by decide +kernel
theorem nd_Ptr_push_25 : decode prog_6_method_4_code 25 = .ok (.iadd, 1) := by decide +kernel
theorem nd_Ptr_push_26 : decode prog_6_method_4_code 26 = .ok (.putfield 23, 3) := by decide +kernel
theorem nd_Ptr_push_29 : decode prog_6_method_4_code 29 = .ok (.return_, 1) := by decide +kernel
def ny_Run_readNumber : MethodName := ⟨"DrawnPaths$Run", "readNumber", "(LDrawnPaths$Pointer;)I"⟩
theorem nd_Run_readNumber_0 : decode prog_7_method_19_code 0 = .ok (.aload_n 1, 1) := by decide +kernel
theorem nd_Run_readNumber_1 : decode prog_7_method_19_code 1 = .ok (.invokevirtual 118, 3) := by decide +kernel
theorem nd_Run_readNumber_4 : decode prog_7_method_19_code 4 = .ok (.ifCond .eq 5, 3) := by decide +kernel
theorem nd_Run_readNumber_7 : decode prog_7_method_19_code 7 = .ok (.iconst 2, 1) := by decide +kernel
theorem nd_Run_readNumber_8 : decode prog_7_method_19_code 8 = .ok (.ireturn, 1) := by decide +kernel
theorem nd_Run_readNumber_9 : decode prog_7_method_19_code 9 = .ok (.aload_n 0, 1) := by decide +kernel
theorem nd_Run_readNumber_10 : decode prog_7_method_19_code 10 = .ok (.getfield 49, 3) := by decide +kernel
theorem nd_Run_readNumber_13 : decode prog_7_method_19_code 13 = .ok (.aload_n 0, 1) := by decide +kernel
theorem nd_Run_readNumber_14 : decode prog_7_method_19_code 14 = .ok (.getfield 46, 3) := by decide +kernel
theorem nd_Run_readNumber_17 : decode prog_7_method_19_code 17 = .ok (.if_icmp .ge 29, 3) := by decide +kernel
theorem nd_Run_readNumber_20 : decode prog_7_method_19_code 20 = .ok (.aload_n 1, 1) := by decide +kernel
theorem nd_Run_readNumber_21 : decode prog_7_method_19_code 21 = .ok (.aload_n 0, 1) := by decide +kernel
theorem nd_Run_readNumber_22 : decode prog_7_method_19_code 22 = .ok (.getfield 17, 3) := by decide +kernel
theorem nd_Run_readNumber_25 : decode prog_7_method_19_code 25 = .ok (.aload_n 0, 1) := by decide +kernel
theorem nd_Run_readNumber_26 : decode prog_7_method_19_code 26 = .ok (.getfield 49, 3) := by decide +kernel
theorem nd_Run_readNumber_29 : decode prog_7_method_19_code 29 = .ok (.laload, 1) := by decide +kernel
theorem nd_Run_readNumber_30 : decode prog_7_method_19_code 30 = .ok (.invokevirtual 129, 3) := by decide +kernel
theorem nd_Run_readNumber_33 : decode prog_7_method_19_code 33 = .ok (.aload_n 0, 1) := by decide +kernel
theorem nd_Run_readNumber_34 : decode prog_7_method_19_code 34 = .ok (.dup, 1) := by decide +kernel
theorem nd_Run_readNumber_35 : decode prog_7_method_19_code 35 = .ok (.getfield 49, 3) := by decide +kernel
theorem nd_Run_readNumber_38 : decode prog_7_method_19_code 38 = .ok (.iconst 1, 1) := by decide +kernel
theorem nd_Run_readNumber_39 : decode prog_7_method_19_code 39 = .ok (.iadd, 1) := by decide +kernel
theorem nd_Run_readNumber_40 : decode prog_7_method_19_code 40 = .ok (.putfield 49, 3) := by decide +kernel
theorem nd_Run_readNumber_43 : decode prog_7_method_19_code 43 = .ok (.goto 10, 3) := by decide +kernel
theorem nd_Run_readNumber_46 : decode prog_7_method_19_code 46 = .ok (.aload_n 1, 1) := by decide +kernel
theorem nd_Run_readNumber_47 : decode prog_7_method_19_code 47 = .ok (.ldc2_w 212, 3) := by decide +kernel
theorem nd_Run_readNumber_50 : decode prog_7_method_19_code 50 = .ok (.invokevirtual 129, 3) := by decide +kernel
theorem nd_Run_readNumber_53 : decode prog_7_method_19_code 53 = .ok (.aload_n 1, 1) := by decide +kernel
theorem nd_Run_readNumber_54 : decode prog_7_method_19_code 54 = .ok (.aload_n 1, 1) := by decide +kernel
theorem nd_Run_readNumber_55 : decode prog_7_method_19_code 55 = .ok (.getfield 67, 3) := by decide +kernel
theorem nd_Run_readNumber_58 : decode prog_7_method_19_code 58 = .ok (.invokestatic 184, 3) := by decide +kernel
theorem nd_Run_readNumber_61 : decode prog_7_method_19_code 61 = .ok (.putfield 67, 3) := by decide +kernel
theorem nd_Run_readNumber_64 : decode prog_7_method_19_code 64 = .ok (.iconst 0, 1) := by decide +kernel
theorem nd_Run_readNumber_65 : decode prog_7_method_19_code 65 = .ok (.ireturn, 1) := by decide +kernel
def ny_Math_floorMod : MethodName := ⟨"java/lang/Math", "floorMod", "(JJ)J"⟩
theorem nd_Math_floorMod_0 : decode prog_16_method_52_code 0 = .ok (.lload_n 0, 1) := by decide +kernel
theorem nd_Math_floorMod_1 : decode prog_16_method_52_code 1 = .ok (.lload_n 2, 1) := by decide +kernel
theorem nd_Math_floorMod_2 : decode prog_16_method_52_code 2 = .ok (.lrem, 1) := by decide +kernel
theorem nd_Math_floorMod_3 : decode prog_16_method_52_code 3 = .ok (.lstore 4, 2) := by decide +kernel
theorem nd_Math_floorMod_5 : decode prog_16_method_52_code 5 = .ok (.lload_n 0, 1) := by decide +kernel
theorem nd_Math_floorMod_6 : decode prog_16_method_52_code 6 = .ok (.lload_n 2, 1) := by decide +kernel
theorem nd_Math_floorMod_7 : decode prog_16_method_52_code 7 = .ok (.lxor, 1) := by decide +kernel
theorem nd_Math_floorMod_8 : decode prog_16_method_52_code 8 = .ok (.lconst 0, 1) := by decide +kernel
theorem nd_Math_floorMod_9 : decode prog_16_method_52_code 9 = .ok (.lcmp, 1) := by decide +kernel
theorem nd_Math_floorMod_10 : decode prog_16_method_52_code 10 = .ok (.ifCond .ge 15, 3) := by decide +kernel
theorem nd_Math_floorMod_13 : decode prog_16_method_52_code 13 = .ok (.lload 4, 2) := by decide +kernel
theorem nd_Math_floorMod_15 : decode prog_16_method_52_code 15 = .ok (.lconst 0, 1) := by decide +kernel
theorem nd_Math_floorMod_16 : decode prog_16_method_52_code 16 = .ok (.lcmp, 1) := by decide +kernel
theorem nd_Math_floorMod_17 : decode prog_16_method_52_code 17 = .ok (.ifCond .eq 8, 3) := by decide +kernel
theorem nd_Math_floorMod_20 : decode prog_16_method_52_code 20 = .ok (.lload 4, 2) := by decide +kernel
theorem nd_Math_floorMod_22 : decode prog_16_method_52_code 22 = .ok (.lload_n 2, 1) := by decide +kernel
theorem nd_Math_floorMod_23 : decode prog_16_method_52_code 23 = .ok (.ladd, 1) := by decide +kernel
theorem nd_Math_floorMod_24 : decode prog_16_method_52_code 24 = .ok (.lreturn, 1) := by decide +kernel
theorem nd_Math_floorMod_25 : decode prog_16_method_52_code 25 = .ok (.lload 4, 2) := by decide +kernel
theorem nd_Math_floorMod_27 : decode prog_16_method_52_code 27 = .ok (.lreturn, 1) := by decide +kernel
def ny_P_joinedPlace : MethodName := ⟨"DrawnPaths", "joinedPlace", "(JJ)I"⟩
theorem nd_P_joinedPlace_0 : decode prog_1_method_23_code 0 = .ok (.lload_n 0, 1) := by decide +kernel
theorem nd_P_joinedPlace_1 : decode prog_1_method_23_code 1 = .ok (.ldc2_w 227, 3) := by decide +kernel
theorem nd_P_joinedPlace_4 : decode prog_1_method_23_code 4 = .ok (.invokestatic 229, 3) := by decide +kernel
theorem nd_P_joinedPlace_7 : decode prog_1_method_23_code 7 = .ok (.l2i, 1) := by decide +kernel
theorem nd_P_joinedPlace_8 : decode prog_1_method_23_code 8 = .ok (.istore 4, 2) := by decide +kernel
theorem nd_P_joinedPlace_10 : decode prog_1_method_23_code 10 = .ok (.lload_n 2, 1) := by decide +kernel
theorem nd_P_joinedPlace_11 : decode prog_1_method_23_code 11 = .ok (.ldc2_w 235, 3) := by decide +kernel
theorem nd_P_joinedPlace_14 : decode prog_1_method_23_code 14 = .ok (.invokestatic 229, 3) := by decide +kernel
theorem nd_P_joinedPlace_17 : decode prog_1_method_23_code 17 = .ok (.l2i, 1) := by decide +kernel
theorem nd_P_joinedPlace_18 : decode prog_1_method_23_code 18 = .ok (.istore 5, 2) := by decide +kernel
theorem nd_P_joinedPlace_20 : decode prog_1_method_23_code 20 = .ok (.iload 5, 2) := by decide +kernel
theorem nd_P_joinedPlace_22 : decode prog_1_method_23_code 22 = .ok (.bipush 12, 2) := by decide +kernel
theorem nd_P_joinedPlace_24 : decode prog_1_method_23_code 24 = .ok (.imul, 1) := by decide +kernel
theorem nd_P_joinedPlace_25 : decode prog_1_method_23_code 25 = .ok (.iload 4, 2) := by decide +kernel
theorem nd_P_joinedPlace_27 : decode prog_1_method_23_code 27 = .ok (.iadd, 1) := by decide +kernel
theorem nd_P_joinedPlace_28 : decode prog_1_method_23_code 28 = .ok (.ireturn, 1) := by decide +kernel
def ny_Run_popPlace : MethodName := ⟨"DrawnPaths$Run", "popPlace", "(LDrawnPaths$Pointer;)I"⟩
theorem nd_Run_popPlace_0 : decode prog_7_method_13_code 0 = .ok (.aload_n 0, 1) := by decide +kernel
theorem nd_Run_popPlace_1 : decode prog_7_method_13_code 1 = .ok (.invokevirtual 140, 3) := by decide +kernel
theorem nd_Run_popPlace_4 : decode prog_7_method_13_code 4 = .ok (.lstore_n 1, 1) := by decide +kernel
theorem nd_Run_popPlace_5 : decode prog_7_method_13_code 5 = .ok (.aload_n 0, 1) := by decide +kernel
theorem nd_Run_popPlace_6 : decode prog_7_method_13_code 6 = .ok (.invokevirtual 140, 3) := by decide +kernel
theorem nd_Run_popPlace_9 : decode prog_7_method_13_code 9 = .ok (.lstore_n 3, 1) := by decide +kernel
theorem nd_Run_popPlace_10 : decode prog_7_method_13_code 10 = .ok (.lload_n 3, 1) := by decide +kernel
theorem nd_Run_popPlace_11 : decode prog_7_method_13_code 11 = .ok (.lload_n 1, 1) := by decide +kernel
theorem nd_Run_popPlace_12 : decode prog_7_method_13_code 12 = .ok (.invokestatic 152, 3) := by decide +kernel
theorem nd_Run_popPlace_15 : decode prog_7_method_13_code 15 = .ok (.ireturn, 1) := by decide +kernel
def ny_Run_writeSign : MethodName := ⟨"DrawnPaths$Run", "writeSign", "(LDrawnPaths$Pointer;)I"⟩
theorem nd_Run_writeSign_0 : decode prog_7_method_20_code 0 = .ok (.aload_n 1, 1) := by decide +kernel
theorem nd_Run_writeSign_1 : decode prog_7_method_20_code 1 = .ok (.invokestatic 148, 3) := by decide +kernel
theorem nd_Run_writeSign_4 : decode prog_7_method_20_code 4 = .ok (.istore_n 2, 1) := by decide +kernel
theorem nd_Run_writeSign_5 : decode prog_7_method_20_code 5 = .ok (.aload_n 0, 1) := by decide +kernel
theorem nd_Run_writeSign_6 : decode prog_7_method_20_code 6 = .ok (.getfield 34, 3) := by decide +kernel
theorem nd_Run_writeSign_9 : decode prog_7_method_20_code 9 = .ok (.iload_n 2, 1) := by decide +kernel
theorem nd_Run_writeSign_10 : decode prog_7_method_20_code 10 = .ok (.aload_n 1, 1) := by decide +kernel
theorem nd_Run_writeSign_11 : decode prog_7_method_20_code 11 = .ok (.invokevirtual 140, 3) := by decide +kernel
theorem nd_Run_writeSign_14 : decode prog_7_method_20_code 14 = .ok (.invokestatic 208, 3) := by decide +kernel
theorem nd_Run_writeSign_17 : decode prog_7_method_20_code 17 = .ok (.invokevirtual 214, 3) := by decide +kernel
theorem nd_Run_writeSign_20 : decode prog_7_method_20_code 20 = .ok (.aload_n 1, 1) := by decide +kernel
theorem nd_Run_writeSign_21 : decode prog_7_method_20_code 21 = .ok (.aload_n 1, 1) := by decide +kernel
theorem nd_Run_writeSign_22 : decode prog_7_method_20_code 22 = .ok (.getfield 67, 3) := by decide +kernel
theorem nd_Run_writeSign_25 : decode prog_7_method_20_code 25 = .ok (.invokestatic 184, 3) := by decide +kernel
theorem nd_Run_writeSign_28 : decode prog_7_method_20_code 28 = .ok (.putfield 67, 3) := by decide +kernel
theorem nd_Run_writeSign_31 : decode prog_7_method_20_code 31 = .ok (.iconst 0, 1) := by decide +kernel
theorem nd_Run_writeSign_32 : decode prog_7_method_20_code 32 = .ok (.ireturn, 1) := by decide +kernel
def ny_Run_goAway : MethodName := ⟨"DrawnPaths$Run", "goAway", "(LDrawnPaths$Pointer;)I"⟩
theorem nd_Run_goAway_0 : decode prog_7_method_21_code 0 = .ok (.aload_n 0, 1) := by decide +kernel
theorem nd_Run_goAway_1 : decode prog_7_method_21_code 1 = .ok (.getfield 218, 3) := by decide +kernel
theorem nd_Run_goAway_4 : decode prog_7_method_21_code 4 = .ok (.bipush 8, 2) := by decide +kernel
theorem nd_Run_goAway_6 : decode prog_7_method_21_code 6 = .ok (.if_icmp .ne 5, 3) := by decide +kernel
theorem nd_Run_goAway_9 : decode prog_7_method_21_code 9 = .ok (.iconst 2, 1) := by decide +kernel
theorem nd_Run_goAway_10 : decode prog_7_method_21_code 10 = .ok (.ireturn, 1) := by decide +kernel
theorem nd_Run_goAway_11 : decode prog_7_method_21_code 11 = .ok (.aload_n 0, 1) := by decide +kernel
theorem nd_Run_goAway_12 : decode prog_7_method_21_code 12 = .ok (.invokestatic 148, 3) := by decide +kernel
theorem nd_Run_goAway_15 : decode prog_7_method_21_code 15 = .ok (.istore_n 1, 1) := by decide +kernel
theorem nd_Run_goAway_16 : decode prog_7_method_21_code 16 = .ok (.aload_n 0, 1) := by decide +kernel
theorem nd_Run_goAway_17 : decode prog_7_method_21_code 17 = .ok (.getfield 221, 3) := by decide +kernel
theorem nd_Run_goAway_20 : decode prog_7_method_21_code 20 = .ok (.aload_n 0, 1) := by decide +kernel
theorem nd_Run_goAway_21 : decode prog_7_method_21_code 21 = .ok (.getfield 218, 3) := by decide +kernel
theorem nd_Run_goAway_24 : decode prog_7_method_21_code 24 = .ok (.aload_n 0, 1) := by decide +kernel
theorem nd_Run_goAway_25 : decode prog_7_method_21_code 25 = .ok (.getfield 67, 3) := by decide +kernel
theorem nd_Run_goAway_28 : decode prog_7_method_21_code 28 = .ok (.invokestatic 184, 3) := by decide +kernel
theorem nd_Run_goAway_31 : decode prog_7_method_21_code 31 = .ok (.iastore, 1) := by decide +kernel
theorem nd_Run_goAway_32 : decode prog_7_method_21_code 32 = .ok (.aload_n 0, 1) := by decide +kernel
theorem nd_Run_goAway_33 : decode prog_7_method_21_code 33 = .ok (.dup, 1) := by decide +kernel
theorem nd_Run_goAway_34 : decode prog_7_method_21_code 34 = .ok (.getfield 218, 3) := by decide +kernel
theorem nd_Run_goAway_37 : decode prog_7_method_21_code 37 = .ok (.iconst 1, 1) := by decide +kernel
theorem nd_Run_goAway_38 : decode prog_7_method_21_code 38 = .ok (.iadd, 1) := by decide +kernel
theorem nd_Run_goAway_39 : decode prog_7_method_21_code 39 = .ok (.putfield 218, 3) := by decide +kernel
theorem nd_Run_goAway_42 : decode prog_7_method_21_code 42 = .ok (.aload_n 0, 1) := by decide +kernel
theorem nd_Run_goAway_43 : decode prog_7_method_21_code 43 = .ok (.iload_n 1, 1) := by decide +kernel
theorem nd_Run_goAway_44 : decode prog_7_method_21_code 44 = .ok (.aload_n 0, 1) := by decide +kernel
theorem nd_Run_goAway_45 : decode prog_7_method_21_code 45 = .ok (.getfield 67, 3) := by decide +kernel
theorem nd_Run_goAway_48 : decode prog_7_method_21_code 48 = .ok (.invokestatic 225, 3) := by decide +kernel
theorem nd_Run_goAway_51 : decode prog_7_method_21_code 51 = .ok (.iconst 0, 1) := by decide +kernel
theorem nd_Run_goAway_52 : decode prog_7_method_21_code 52 = .ok (.invokestatic 58, 3) := by decide +kernel
theorem nd_Run_goAway_55 : decode prog_7_method_21_code 55 = .ok (.putfield 67, 3) := by decide +kernel
theorem nd_Run_goAway_58 : decode prog_7_method_21_code 58 = .ok (.iconst 0, 1) := by decide +kernel
theorem nd_Run_goAway_59 : decode prog_7_method_21_code 59 = .ok (.ireturn, 1) := by decide +kernel
def ny_Run_goBack : MethodName := ⟨"DrawnPaths$Run", "goBack", "(LDrawnPaths$Pointer;)I"⟩
theorem nd_Run_goBack_0 : decode prog_7_method_22_code 0 = .ok (.aload_n 0, 1) := by decide +kernel
theorem nd_Run_goBack_1 : decode prog_7_method_22_code 1 = .ok (.getfield 218, 3) := by decide +kernel
theorem nd_Run_goBack_4 : decode prog_7_method_22_code 4 = .ok (.ifCond .ne 5, 3) := by decide +kernel
theorem nd_Run_goBack_7 : decode prog_7_method_22_code 7 = .ok (.iconst 1, 1) := by decide +kernel
theorem nd_Run_goBack_8 : decode prog_7_method_22_code 8 = .ok (.ireturn, 1) := by decide +kernel
theorem nd_Run_goBack_9 : decode prog_7_method_22_code 9 = .ok (.aload_n 0, 1) := by decide +kernel
theorem nd_Run_goBack_10 : decode prog_7_method_22_code 10 = .ok (.dup, 1) := by decide +kernel
theorem nd_Run_goBack_11 : decode prog_7_method_22_code 11 = .ok (.getfield 218, 3) := by decide +kernel
theorem nd_Run_goBack_14 : decode prog_7_method_22_code 14 = .ok (.iconst 1, 1) := by decide +kernel
theorem nd_Run_goBack_15 : decode prog_7_method_22_code 15 = .ok (.isub, 1) := by decide +kernel
theorem nd_Run_goBack_16 : decode prog_7_method_22_code 16 = .ok (.putfield 218, 3) := by decide +kernel
theorem nd_Run_goBack_19 : decode prog_7_method_22_code 19 = .ok (.aload_n 0, 1) := by decide +kernel
theorem nd_Run_goBack_20 : decode prog_7_method_22_code 20 = .ok (.aload_n 0, 1) := by decide +kernel
theorem nd_Run_goBack_21 : decode prog_7_method_22_code 21 = .ok (.getfield 221, 3) := by decide +kernel
theorem nd_Run_goBack_24 : decode prog_7_method_22_code 24 = .ok (.aload_n 0, 1) := by decide +kernel
theorem nd_Run_goBack_25 : decode prog_7_method_22_code 25 = .ok (.getfield 218, 3) := by decide +kernel
theorem nd_Run_goBack_28 : decode prog_7_method_22_code 28 = .ok (.iaload, 1) := by decide +kernel
theorem nd_Run_goBack_29 : decode prog_7_method_22_code 29 = .ok (.putfield 67, 3) := by decide +kernel
theorem nd_Run_goBack_32 : decode prog_7_method_22_code 32 = .ok (.iconst 0, 1) := by decide +kernel
theorem nd_Run_goBack_33 : decode prog_7_method_22_code 33 = .ok (.ireturn, 1) := by decide +kernel
def ny_Run_fork : MethodName := ⟨"DrawnPaths$Run", "fork", "(LDrawnPaths$Pointer;)I"⟩
theorem nd_Run_fork_0 : decode prog_7_method_23_code 0 = .ok (.aload_n 1, 1) := by decide +kernel
theorem nd_Run_fork_1 : decode prog_7_method_23_code 1 = .ok (.invokevirtual 140, 3) := by decide +kernel
theorem nd_Run_fork_4 : decode prog_7_method_23_code 4 = .ok (.lstore_n 2, 1) := by decide +kernel
theorem nd_Run_fork_5 : decode prog_7_method_23_code 5 = .ok (.aload_n 0, 1) := by decide +kernel
theorem nd_Run_fork_6 : decode prog_7_method_23_code 6 = .ok (.getfield 43, 3) := by decide +kernel
theorem nd_Run_fork_9 : decode prog_7_method_23_code 9 = .ok (.iconst 4, 1) := by decide +kernel
theorem nd_Run_fork_10 : decode prog_7_method_23_code 10 = .ok (.if_icmp .ge 46, 3) := by decide +kernel
theorem nd_Run_fork_13 : decode prog_7_method_23_code 13 = .ok (.aload_n 0, 1) := by decide +kernel
theorem nd_Run_fork_14 : decode prog_7_method_23_code 14 = .ok (.getfield 11, 3) := by decide +kernel
theorem nd_Run_fork_17 : decode prog_7_method_23_code 17 = .ok (.aload_n 0, 1) := by decide +kernel
theorem nd_Run_fork_18 : decode prog_7_method_23_code 18 = .ok (.getfield 43, 3) := by decide +kernel
theorem nd_Run_fork_21 : decode prog_7_method_23_code 21 = .ok (.aaload, 1) := by decide +kernel
theorem nd_Run_fork_22 : decode prog_7_method_23_code 22 = .ok (.astore 4, 2) := by decide +kernel
theorem nd_Run_fork_24 : decode prog_7_method_23_code 24 = .ok (.aload_n 0, 1) := by decide +kernel
theorem nd_Run_fork_25 : decode prog_7_method_23_code 25 = .ok (.dup, 1) := by decide +kernel
theorem nd_Run_fork_26 : decode prog_7_method_23_code 26 = .ok (.getfield 43, 3) := by decide +kernel
theorem nd_Run_fork_29 : decode prog_7_method_23_code 29 = .ok (.iconst 1, 1) := by decide +kernel
theorem nd_Run_fork_30 : decode prog_7_method_23_code 30 = .ok (.iadd, 1) := by decide +kernel
theorem nd_Run_fork_31 : decode prog_7_method_23_code 31 = .ok (.putfield 43, 3) := by decide +kernel
theorem nd_Run_fork_34 : decode prog_7_method_23_code 34 = .ok (.aload 4, 2) := by decide +kernel
theorem nd_Run_fork_36 : decode prog_7_method_23_code 36 = .ok (.aload_n 1, 1) := by decide +kernel
theorem nd_Run_fork_37 : decode prog_7_method_23_code 37 = .ok (.getfield 67, 3) := by decide +kernel
theorem nd_Run_fork_40 : decode prog_7_method_23_code 40 = .ok (.iconst 3, 1) := by decide +kernel
theorem nd_Run_fork_41 : decode prog_7_method_23_code 41 = .ok (.invokestatic 180, 3) := by decide +kernel
theorem nd_Run_fork_44 : decode prog_7_method_23_code 44 = .ok (.invokestatic 184, 3) := by decide +kernel
theorem nd_Run_fork_47 : decode prog_7_method_23_code 47 = .ok (.invokevirtual 64, 3) := by decide +kernel
theorem nd_Run_fork_50 : decode prog_7_method_23_code 50 = .ok (.aload 4, 2) := by decide +kernel
theorem nd_Run_fork_52 : decode prog_7_method_23_code 52 = .ok (.lload_n 2, 1) := by decide +kernel
theorem nd_Run_fork_53 : decode prog_7_method_23_code 53 = .ok (.invokevirtual 129, 3) := by decide +kernel
theorem nd_Run_fork_56 : decode prog_7_method_23_code 56 = .ok (.aload_n 1, 1) := by decide +kernel
theorem nd_Run_fork_57 : decode prog_7_method_23_code 57 = .ok (.aload_n 1, 1) := by decide +kernel
theorem nd_Run_fork_58 : decode prog_7_method_23_code 58 = .ok (.getfield 67, 3) := by decide +kernel
theorem nd_Run_fork_61 : decode prog_7_method_23_code 61 = .ok (.invokestatic 184, 3) := by decide +kernel
theorem nd_Run_fork_64 : decode prog_7_method_23_code 64 = .ok (.putfield 67, 3) := by decide +kernel
theorem nd_Run_fork_67 : decode prog_7_method_23_code 67 = .ok (.iconst 0, 1) := by decide +kernel
theorem nd_Run_fork_68 : decode prog_7_method_23_code 68 = .ok (.ireturn, 1) := by decide +kernel
def ny_Run_act : MethodName := ⟨"DrawnPaths$Run", "act", "(LDrawnPaths$Pointer;C)I"⟩
theorem nd_Run_act_0 : decode prog_7_method_14_code 0 = .ok (.iload_n 2, 1) := by decide +kernel
theorem nd_Run_act_1 : decode prog_7_method_14_code 1 = .ok (.lookupswitch 120 #[(63, 75), (67, 104), (82, 109), (98, 86), (102, 114), (105, 92), (110, 80), (119, 98)], 75) := by decide +kernel
theorem nd_Run_act_76 : decode prog_7_method_14_code 76 = .ok (.aload_n 1, 1) := by decide +kernel
theorem nd_Run_act_77 : decode prog_7_method_14_code 77 = .ok (.invokestatic 156, 3) := by decide +kernel
theorem nd_Run_act_80 : decode prog_7_method_14_code 80 = .ok (.ireturn, 1) := by decide +kernel
theorem nd_Run_act_81 : decode prog_7_method_14_code 81 = .ok (.aload_n 0, 1) := by decide +kernel
theorem nd_Run_act_82 : decode prog_7_method_14_code 82 = .ok (.aload_n 1, 1) := by decide +kernel
theorem nd_Run_act_83 : decode prog_7_method_14_code 83 = .ok (.invokevirtual 159, 3) := by decide +kernel
theorem nd_Run_act_86 : decode prog_7_method_14_code 86 = .ok (.ireturn, 1) := by decide +kernel
theorem nd_Run_act_87 : decode prog_7_method_14_code 87 = .ok (.aload_n 0, 1) := by decide +kernel
theorem nd_Run_act_88 : decode prog_7_method_14_code 88 = .ok (.aload_n 1, 1) := by decide +kernel
theorem nd_Run_act_89 : decode prog_7_method_14_code 89 = .ok (.invokevirtual 162, 3) := by decide +kernel
theorem nd_Run_act_92 : decode prog_7_method_14_code 92 = .ok (.ireturn, 1) := by decide +kernel
theorem nd_Run_act_93 : decode prog_7_method_14_code 93 = .ok (.aload_n 0, 1) := by decide +kernel
theorem nd_Run_act_94 : decode prog_7_method_14_code 94 = .ok (.aload_n 1, 1) := by decide +kernel
theorem nd_Run_act_95 : decode prog_7_method_14_code 95 = .ok (.invokevirtual 165, 3) := by decide +kernel
theorem nd_Run_act_98 : decode prog_7_method_14_code 98 = .ok (.ireturn, 1) := by decide +kernel
theorem nd_Run_act_99 : decode prog_7_method_14_code 99 = .ok (.aload_n 0, 1) := by decide +kernel
theorem nd_Run_act_100 : decode prog_7_method_14_code 100 = .ok (.aload_n 1, 1) := by decide +kernel
theorem nd_Run_act_101 : decode prog_7_method_14_code 101 = .ok (.invokevirtual 168, 3) := by decide +kernel
theorem nd_Run_act_104 : decode prog_7_method_14_code 104 = .ok (.ireturn, 1) := by decide +kernel
theorem nd_Run_act_105 : decode prog_7_method_14_code 105 = .ok (.aload_n 1, 1) := by decide +kernel
theorem nd_Run_act_106 : decode prog_7_method_14_code 106 = .ok (.invokestatic 171, 3) := by decide +kernel
theorem nd_Run_act_109 : decode prog_7_method_14_code 109 = .ok (.ireturn, 1) := by decide +kernel
theorem nd_Run_act_110 : decode prog_7_method_14_code 110 = .ok (.aload_n 1, 1) := by decide +kernel
theorem nd_Run_act_111 : decode prog_7_method_14_code 111 = .ok (.invokestatic 174, 3) := by decide +kernel
theorem nd_Run_act_114 : decode prog_7_method_14_code 114 = .ok (.ireturn, 1) := by decide +kernel
theorem nd_Run_act_115 : decode prog_7_method_14_code 115 = .ok (.aload_n 0, 1) := by decide +kernel
theorem nd_Run_act_116 : decode prog_7_method_14_code 116 = .ok (.aload_n 1, 1) := by decide +kernel
theorem nd_Run_act_117 : decode prog_7_method_14_code 117 = .ok (.invokevirtual 177, 3) := by decide +kernel
theorem nd_Run_act_120 : decode prog_7_method_14_code 120 = .ok (.ireturn, 1) := by decide +kernel
theorem nd_Run_act_121 : decode prog_7_method_14_code 121 = .ok (.iconst 1, 1) := by decide +kernel
theorem nd_Run_act_122 : decode prog_7_method_14_code 122 = .ok (.ireturn, 1) := by decide +kernel
def ny_Run_pushesMore : MethodName := ⟨"DrawnPaths$Run", "pushesMore", "(IC)Z"⟩
theorem nd_Run_pushesMore_0 : decode prog_7_method_10_code 0 = .ok (.iload_n 0, 1) := by decide +kernel
theorem nd_Run_pushesMore_1 : decode prog_7_method_10_code 1 = .ok (.invokestatic 122, 3) := by decide +kernel
theorem nd_Run_pushesMore_4 : decode prog_7_method_10_code 4 = .ok (.iconst 1, 1) := by decide +kernel
theorem nd_Run_pushesMore_5 : decode prog_7_method_10_code 5 = .ok (.if_icmp .ne 15, 3) := by decide +kernel
theorem nd_Run_pushesMore_8 : decode prog_7_method_10_code 8 = .ok (.iload_n 1, 1) := by decide +kernel
theorem nd_Run_pushesMore_9 : decode prog_7_method_10_code 9 = .ok (.bipush 34, 2) := by decide +kernel
theorem nd_Run_pushesMore_11 : decode prog_7_method_10_code 11 = .ok (.if_icmp .eq 7, 3) := by decide +kernel
theorem nd_Run_pushesMore_14 : decode prog_7_method_10_code 14 = .ok (.iconst 1, 1) := by decide +kernel
theorem nd_Run_pushesMore_15 : decode prog_7_method_10_code 15 = .ok (.goto 4, 3) := by decide +kernel
theorem nd_Run_pushesMore_18 : decode prog_7_method_10_code 18 = .ok (.iconst 0, 1) := by decide +kernel
theorem nd_Run_pushesMore_19 : decode prog_7_method_10_code 19 = .ok (.ireturn, 1) := by decide +kernel
theorem nd_Run_pushesMore_20 : decode prog_7_method_10_code 20 = .ok (.iload_n 1, 1) := by decide +kernel
theorem nd_Run_pushesMore_21 : decode prog_7_method_10_code 21 = .ok (.bipush 48, 2) := by decide +kernel
theorem nd_Run_pushesMore_23 : decode prog_7_method_10_code 23 = .ok (.if_icmp .lt 9, 3) := by decide +kernel
theorem nd_Run_pushesMore_26 : decode prog_7_method_10_code 26 = .ok (.iload_n 1, 1) := by decide +kernel
theorem nd_Run_pushesMore_27 : decode prog_7_method_10_code 27 = .ok (.bipush 57, 2) := by decide +kernel
theorem nd_Run_pushesMore_29 : decode prog_7_method_10_code 29 = .ok (.if_icmp .le 9, 3) := by decide +kernel
theorem nd_Run_pushesMore_32 : decode prog_7_method_10_code 32 = .ok (.iload_n 1, 1) := by decide +kernel
theorem nd_Run_pushesMore_33 : decode prog_7_method_10_code 33 = .ok (.bipush 99, 2) := by decide +kernel
theorem nd_Run_pushesMore_35 : decode prog_7_method_10_code 35 = .ok (.if_icmp .ne 7, 3) := by decide +kernel
theorem nd_Run_pushesMore_38 : decode prog_7_method_10_code 38 = .ok (.iconst 1, 1) := by decide +kernel
theorem nd_Run_pushesMore_39 : decode prog_7_method_10_code 39 = .ok (.goto 4, 3) := by decide +kernel
theorem nd_Run_pushesMore_42 : decode prog_7_method_10_code 42 = .ok (.iconst 0, 1) := by decide +kernel
theorem nd_Run_pushesMore_43 : decode prog_7_method_10_code 43 = .ok (.ireturn, 1) := by decide +kernel
def ny_Run_join : MethodName := ⟨"DrawnPaths$Run", "join", "(LDrawnPaths$Pointer;C)V"⟩
theorem nd_Run_join_0 : decode prog_7_method_12_code 0 = .ok (.aload_n 0, 1) := by decide +kernel
theorem nd_Run_join_1 : decode prog_7_method_12_code 1 = .ok (.invokevirtual 140, 3) := by decide +kernel
theorem nd_Run_join_4 : decode prog_7_method_12_code 4 = .ok (.lstore_n 2, 1) := by decide +kernel
theorem nd_Run_join_5 : decode prog_7_method_12_code 5 = .ok (.aload_n 0, 1) := by decide +kernel
theorem nd_Run_join_6 : decode prog_7_method_12_code 6 = .ok (.invokevirtual 140, 3) := by decide +kernel
theorem nd_Run_join_9 : decode prog_7_method_12_code 9 = .ok (.lstore 4, 2) := by decide +kernel
theorem nd_Run_join_11 : decode prog_7_method_12_code 11 = .ok (.iload_n 1, 1) := by decide +kernel
theorem nd_Run_join_12 : decode prog_7_method_12_code 12 = .ok (.lookupswitch 98 #[(42, 66), (43, 44), (45, 55), (100, 77)], 44) := by decide +kernel
theorem nd_Run_join_56 : decode prog_7_method_12_code 56 = .ok (.aload_n 0, 1) := by decide +kernel
theorem nd_Run_join_57 : decode prog_7_method_12_code 57 = .ok (.lload 4, 2) := by decide +kernel
theorem nd_Run_join_59 : decode prog_7_method_12_code 59 = .ok (.lload_n 2, 1) := by decide +kernel
theorem nd_Run_join_60 : decode prog_7_method_12_code 60 = .ok (.ladd, 1) := by decide +kernel
theorem nd_Run_join_61 : decode prog_7_method_12_code 61 = .ok (.invokevirtual 129, 3) := by decide +kernel
theorem nd_Run_join_64 : decode prog_7_method_12_code 64 = .ok (.goto 64, 3) := by decide +kernel
theorem nd_Run_join_67 : decode prog_7_method_12_code 67 = .ok (.aload_n 0, 1) := by decide +kernel
theorem nd_Run_join_68 : decode prog_7_method_12_code 68 = .ok (.lload 4, 2) := by decide +kernel
theorem nd_Run_join_70 : decode prog_7_method_12_code 70 = .ok (.lload_n 2, 1) := by decide +kernel
theorem nd_Run_join_71 : decode prog_7_method_12_code 71 = .ok (.lsub, 1) := by decide +kernel
theorem nd_Run_join_72 : decode prog_7_method_12_code 72 = .ok (.invokevirtual 129, 3) := by decide +kernel
theorem nd_Run_join_75 : decode prog_7_method_12_code 75 = .ok (.goto 53, 3) := by decide +kernel
theorem nd_Run_join_78 : decode prog_7_method_12_code 78 = .ok (.aload_n 0, 1) := by decide +kernel
theorem nd_Run_join_79 : decode prog_7_method_12_code 79 = .ok (.lload 4, 2) := by decide +kernel
theorem nd_Run_join_81 : decode prog_7_method_12_code 81 = .ok (.lload_n 2, 1) := by decide +kernel
theorem nd_Run_join_82 : decode prog_7_method_12_code 82 = .ok (.lmul, 1) := by decide +kernel
theorem nd_Run_join_83 : decode prog_7_method_12_code 83 = .ok (.invokevirtual 129, 3) := by decide +kernel
theorem nd_Run_join_86 : decode prog_7_method_12_code 86 = .ok (.goto 42, 3) := by decide +kernel
theorem nd_Run_join_89 : decode prog_7_method_12_code 89 = .ok (.aload_n 0, 1) := by decide +kernel
theorem nd_Run_join_90 : decode prog_7_method_12_code 90 = .ok (.lload_n 2, 1) := by decide +kernel
theorem nd_Run_join_91 : decode prog_7_method_12_code 91 = .ok (.lconst 0, 1) := by decide +kernel
theorem nd_Run_join_92 : decode prog_7_method_12_code 92 = .ok (.lcmp, 1) := by decide +kernel
theorem nd_Run_join_93 : decode prog_7_method_12_code 93 = .ok (.ifCond .ne 7, 3) := by decide +kernel
theorem nd_Run_join_96 : decode prog_7_method_12_code 96 = .ok (.lconst 0, 1) := by decide +kernel
theorem nd_Run_join_97 : decode prog_7_method_12_code 97 = .ok (.goto 7, 3) := by decide +kernel
theorem nd_Run_join_100 : decode prog_7_method_12_code 100 = .ok (.lload 4, 2) := by decide +kernel
theorem nd_Run_join_102 : decode prog_7_method_12_code 102 = .ok (.lload_n 2, 1) := by decide +kernel
theorem nd_Run_join_103 : decode prog_7_method_12_code 103 = .ok (.ldiv, 1) := by decide +kernel
theorem nd_Run_join_104 : decode prog_7_method_12_code 104 = .ok (.invokevirtual 129, 3) := by decide +kernel
theorem nd_Run_join_107 : decode prog_7_method_12_code 107 = .ok (.goto 21, 3) := by decide +kernel
theorem nd_Run_join_110 : decode prog_7_method_12_code 110 = .ok (.aload_n 0, 1) := by decide +kernel
theorem nd_Run_join_111 : decode prog_7_method_12_code 111 = .ok (.lload_n 2, 1) := by decide +kernel
theorem nd_Run_join_112 : decode prog_7_method_12_code 112 = .ok (.lconst 0, 1) := by decide +kernel
theorem nd_Run_join_113 : decode prog_7_method_12_code 113 = .ok (.lcmp, 1) := by decide +kernel
theorem nd_Run_join_114 : decode prog_7_method_12_code 114 = .ok (.ifCond .ne 7, 3) := by decide +kernel
theorem nd_Run_join_117 : decode prog_7_method_12_code 117 = .ok (.lconst 0, 1) := by decide +kernel
theorem nd_Run_join_118 : decode prog_7_method_12_code 118 = .ok (.goto 7, 3) := by decide +kernel
theorem nd_Run_join_121 : decode prog_7_method_12_code 121 = .ok (.lload 4, 2) := by decide +kernel
theorem nd_Run_join_123 : decode prog_7_method_12_code 123 = .ok (.lload_n 2, 1) := by decide +kernel
theorem nd_Run_join_124 : decode prog_7_method_12_code 124 = .ok (.lrem, 1) := by decide +kernel
theorem nd_Run_join_125 : decode prog_7_method_12_code 125 = .ok (.invokevirtual 129, 3) := by decide +kernel
theorem nd_Run_join_128 : decode prog_7_method_12_code 128 = .ok (.return_, 1) := by decide +kernel
def ny_Run_reckon : MethodName := ⟨"DrawnPaths$Run", "reckon", "(LDrawnPaths$Pointer;C)V"⟩
theorem nd_Run_reckon_0 : decode prog_7_method_11_code 0 = .ok (.iload_n 2, 1) := by decide +kernel
theorem nd_Run_reckon_1 : decode prog_7_method_11_code 1 = .ok (.bipush 48, 2) := by decide +kernel
theorem nd_Run_reckon_3 : decode prog_7_method_11_code 3 = .ok (.if_icmp .lt 19, 3) := by decide +kernel
theorem nd_Run_reckon_6 : decode prog_7_method_11_code 6 = .ok (.iload_n 2, 1) := by decide +kernel
theorem nd_Run_reckon_7 : decode prog_7_method_11_code 7 = .ok (.bipush 57, 2) := by decide +kernel
theorem nd_Run_reckon_9 : decode prog_7_method_11_code 9 = .ok (.if_icmp .gt 13, 3) := by decide +kernel
theorem nd_Run_reckon_12 : decode prog_7_method_11_code 12 = .ok (.aload_n 1, 1) := by decide +kernel
theorem nd_Run_reckon_13 : decode prog_7_method_11_code 13 = .ok (.iload_n 2, 1) := by decide +kernel
theorem nd_Run_reckon_14 : decode prog_7_method_11_code 14 = .ok (.bipush 48, 2) := by decide +kernel
theorem nd_Run_reckon_16 : decode prog_7_method_11_code 16 = .ok (.isub, 1) := by decide +kernel
theorem nd_Run_reckon_17 : decode prog_7_method_11_code 17 = .ok (.i2l, 1) := by decide +kernel
theorem nd_Run_reckon_18 : decode prog_7_method_11_code 18 = .ok (.invokevirtual 129, 3) := by decide +kernel
theorem nd_Run_reckon_21 : decode prog_7_method_11_code 21 = .ok (.return_, 1) := by decide +kernel
theorem nd_Run_reckon_22 : decode prog_7_method_11_code 22 = .ok (.iload_n 2, 1) := by decide +kernel
theorem nd_Run_reckon_23 : decode prog_7_method_11_code 23 = .ok (.lookupswitch 189 #[(42, 89), (43, 89), (45, 89), (99, 97), (100, 89), (103, 169), (109, 89), (114, 150), (115, 115), (120, 142)], 89) := by decide +kernel
theorem nd_Run_reckon_112 : decode prog_7_method_11_code 112 = .ok (.aload_n 1, 1) := by decide +kernel
theorem nd_Run_reckon_113 : decode prog_7_method_11_code 113 = .ok (.iload_n 2, 1) := by decide +kernel
theorem nd_Run_reckon_114 : decode prog_7_method_11_code 114 = .ok (.invokestatic 137, 3) := by decide +kernel
theorem nd_Run_reckon_117 : decode prog_7_method_11_code 117 = .ok (.goto 95, 3) := by decide +kernel
theorem nd_Run_reckon_120 : decode prog_7_method_11_code 120 = .ok (.aload_n 1, 1) := by decide +kernel
theorem nd_Run_reckon_121 : decode prog_7_method_11_code 121 = .ok (.invokevirtual 140, 3) := by decide +kernel
theorem nd_Run_reckon_124 : decode prog_7_method_11_code 124 = .ok (.lstore_n 3, 1) := by decide +kernel
theorem nd_Run_reckon_125 : decode prog_7_method_11_code 125 = .ok (.aload_n 1, 1) := by decide +kernel
theorem nd_Run_reckon_126 : decode prog_7_method_11_code 126 = .ok (.lload_n 3, 1) := by decide +kernel
theorem nd_Run_reckon_127 : decode prog_7_method_11_code 127 = .ok (.invokevirtual 129, 3) := by decide +kernel
theorem nd_Run_reckon_130 : decode prog_7_method_11_code 130 = .ok (.aload_n 1, 1) := by decide +kernel
theorem nd_Run_reckon_131 : decode prog_7_method_11_code 131 = .ok (.lload_n 3, 1) := by decide +kernel
theorem nd_Run_reckon_132 : decode prog_7_method_11_code 132 = .ok (.invokevirtual 129, 3) := by decide +kernel
theorem nd_Run_reckon_135 : decode prog_7_method_11_code 135 = .ok (.goto 77, 3) := by decide +kernel
theorem nd_Run_reckon_138 : decode prog_7_method_11_code 138 = .ok (.aload_n 1, 1) := by decide +kernel
theorem nd_Run_reckon_139 : decode prog_7_method_11_code 139 = .ok (.invokevirtual 140, 3) := by decide +kernel
theorem nd_Run_reckon_142 : decode prog_7_method_11_code 142 = .ok (.lstore 5, 2) := by decide +kernel
theorem nd_Run_reckon_144 : decode prog_7_method_11_code 144 = .ok (.aload_n 1, 1) := by decide +kernel
theorem nd_Run_reckon_145 : decode prog_7_method_11_code 145 = .ok (.invokevirtual 140, 3) := by decide +kernel
theorem nd_Run_reckon_148 : decode prog_7_method_11_code 148 = .ok (.lstore 7, 2) := by decide +kernel
theorem nd_Run_reckon_150 : decode prog_7_method_11_code 150 = .ok (.aload_n 1, 1) := by decide +kernel
theorem nd_Run_reckon_151 : decode prog_7_method_11_code 151 = .ok (.lload 5, 2) := by decide +kernel
theorem nd_Run_reckon_153 : decode prog_7_method_11_code 153 = .ok (.invokevirtual 129, 3) := by decide +kernel
theorem nd_Run_reckon_156 : decode prog_7_method_11_code 156 = .ok (.aload_n 1, 1) := by decide +kernel
theorem nd_Run_reckon_157 : decode prog_7_method_11_code 157 = .ok (.lload 7, 2) := by decide +kernel
theorem nd_Run_reckon_159 : decode prog_7_method_11_code 159 = .ok (.invokevirtual 129, 3) := by decide +kernel
theorem nd_Run_reckon_162 : decode prog_7_method_11_code 162 = .ok (.goto 50, 3) := by decide +kernel
theorem nd_Run_reckon_165 : decode prog_7_method_11_code 165 = .ok (.aload_n 1, 1) := by decide +kernel
theorem nd_Run_reckon_166 : decode prog_7_method_11_code 166 = .ok (.invokevirtual 140, 3) := by decide +kernel
theorem nd_Run_reckon_169 : decode prog_7_method_11_code 169 = .ok (.pop2, 1) := by decide +kernel
theorem nd_Run_reckon_170 : decode prog_7_method_11_code 170 = .ok (.goto 42, 3) := by decide +kernel
theorem nd_Run_reckon_173 : decode prog_7_method_11_code 173 = .ok (.aload_n 1, 1) := by decide +kernel
theorem nd_Run_reckon_174 : decode prog_7_method_11_code 174 = .ok (.invokevirtual 140, 3) := by decide +kernel
theorem nd_Run_reckon_177 : decode prog_7_method_11_code 177 = .ok (.lstore 9, 2) := by decide +kernel
theorem nd_Run_reckon_179 : decode prog_7_method_11_code 179 = .ok (.aload_n 1, 1) := by decide +kernel
theorem nd_Run_reckon_180 : decode prog_7_method_11_code 180 = .ok (.aload_n 1, 1) := by decide +kernel
theorem nd_Run_reckon_181 : decode prog_7_method_11_code 181 = .ok (.lload 9, 2) := by decide +kernel
theorem nd_Run_reckon_183 : decode prog_7_method_11_code 183 = .ok (.invokevirtual 144, 3) := by decide +kernel
theorem nd_Run_reckon_186 : decode prog_7_method_11_code 186 = .ok (.invokevirtual 129, 3) := by decide +kernel
theorem nd_Run_reckon_189 : decode prog_7_method_11_code 189 = .ok (.goto 23, 3) := by decide +kernel
theorem nd_Run_reckon_192 : decode prog_7_method_11_code 192 = .ok (.aload_n 1, 1) := by decide +kernel
theorem nd_Run_reckon_193 : decode prog_7_method_11_code 193 = .ok (.aload_n 0, 1) := by decide +kernel
theorem nd_Run_reckon_194 : decode prog_7_method_11_code 194 = .ok (.getfield 34, 3) := by decide +kernel
theorem nd_Run_reckon_197 : decode prog_7_method_11_code 197 = .ok (.getfield 70, 3) := by decide +kernel
theorem nd_Run_reckon_200 : decode prog_7_method_11_code 200 = .ok (.aload_n 1, 1) := by decide +kernel
theorem nd_Run_reckon_201 : decode prog_7_method_11_code 201 = .ok (.invokestatic 148, 3) := by decide +kernel
theorem nd_Run_reckon_204 : decode prog_7_method_11_code 204 = .ok (.caload, 1) := by decide +kernel
theorem nd_Run_reckon_205 : decode prog_7_method_11_code 205 = .ok (.i2l, 1) := by decide +kernel
theorem nd_Run_reckon_206 : decode prog_7_method_11_code 206 = .ok (.invokevirtual 129, 3) := by decide +kernel
theorem nd_Run_reckon_209 : decode prog_7_method_11_code 209 = .ok (.goto 3, 3) := by decide +kernel
theorem nd_Run_reckon_212 : decode prog_7_method_11_code 212 = .ok (.return_, 1) := by decide +kernel
def ny_Way_behind : MethodName := ⟨"DrawnPaths$Way", "behind", "(IC)I"⟩
theorem nd_Way_behind_0 : decode prog_9_method_9_code 0 = .ok (.iload_n 1, 1) := by decide +kernel
theorem nd_Way_behind_1 : decode prog_9_method_9_code 1 = .ok (.bipush 34, 2) := by decide +kernel
theorem nd_Way_behind_3 : decode prog_9_method_9_code 3 = .ok (.if_icmp .ne 10, 3) := by decide +kernel
theorem nd_Way_behind_6 : decode prog_9_method_9_code 6 = .ok (.iload_n 0, 1) := by decide +kernel
theorem nd_Way_behind_7 : decode prog_9_method_9_code 7 = .ok (.iconst 1, 1) := by decide +kernel
theorem nd_Way_behind_8 : decode prog_9_method_9_code 8 = .ok (.ixor, 1) := by decide +kernel
theorem nd_Way_behind_9 : decode prog_9_method_9_code 9 = .ok (.invokestatic 22, 3) := by decide +kernel
theorem nd_Way_behind_12 : decode prog_9_method_9_code 12 = .ok (.ireturn, 1) := by decide +kernel
theorem nd_Way_behind_13 : decode prog_9_method_9_code 13 = .ok (.iload_n 0, 1) := by decide +kernel
theorem nd_Way_behind_14 : decode prog_9_method_9_code 14 = .ok (.invokestatic 25, 3) := by decide +kernel
theorem nd_Way_behind_17 : decode prog_9_method_9_code 17 = .ok (.iconst 1, 1) := by decide +kernel
theorem nd_Way_behind_18 : decode prog_9_method_9_code 18 = .ok (.if_icmp .ne 8, 3) := by decide +kernel
theorem nd_Way_behind_21 : decode prog_9_method_9_code 21 = .ok (.iload_n 0, 1) := by decide +kernel
theorem nd_Way_behind_22 : decode prog_9_method_9_code 22 = .ok (.invokestatic 22, 3) := by decide +kernel
theorem nd_Way_behind_25 : decode prog_9_method_9_code 25 = .ok (.ireturn, 1) := by decide +kernel
theorem nd_Way_behind_26 : decode prog_9_method_9_code 26 = .ok (.iload_n 1, 1) := by decide +kernel
theorem nd_Way_behind_27 : decode prog_9_method_9_code 27 = .ok (.lookupswitch 137 #[(35, 129), (47, 101), (60, 83), (62, 65), (92, 115), (94, 92), (118, 74)], 65) := by decide +kernel
theorem nd_Way_behind_92 : decode prog_9_method_9_code 92 = .ok (.iload_n 0, 1) := by decide +kernel
theorem nd_Way_behind_93 : decode prog_9_method_9_code 93 = .ok (.iconst 0, 1) := by decide +kernel
theorem nd_Way_behind_94 : decode prog_9_method_9_code 94 = .ok (.invokestatic 15, 3) := by decide +kernel
theorem nd_Way_behind_97 : decode prog_9_method_9_code 97 = .ok (.invokestatic 22, 3) := by decide +kernel
theorem nd_Way_behind_100 : decode prog_9_method_9_code 100 = .ok (.ireturn, 1) := by decide +kernel
theorem nd_Way_behind_101 : decode prog_9_method_9_code 101 = .ok (.iload_n 0, 1) := by decide +kernel
theorem nd_Way_behind_102 : decode prog_9_method_9_code 102 = .ok (.iconst 1, 1) := by decide +kernel
theorem nd_Way_behind_103 : decode prog_9_method_9_code 103 = .ok (.invokestatic 15, 3) := by decide +kernel
theorem nd_Way_behind_106 : decode prog_9_method_9_code 106 = .ok (.invokestatic 22, 3) := by decide +kernel
theorem nd_Way_behind_109 : decode prog_9_method_9_code 109 = .ok (.ireturn, 1) := by decide +kernel
theorem nd_Way_behind_110 : decode prog_9_method_9_code 110 = .ok (.iload_n 0, 1) := by decide +kernel
theorem nd_Way_behind_111 : decode prog_9_method_9_code 111 = .ok (.iconst 2, 1) := by decide +kernel
theorem nd_Way_behind_112 : decode prog_9_method_9_code 112 = .ok (.invokestatic 15, 3) := by decide +kernel
theorem nd_Way_behind_115 : decode prog_9_method_9_code 115 = .ok (.invokestatic 22, 3) := by decide +kernel
theorem nd_Way_behind_118 : decode prog_9_method_9_code 118 = .ok (.ireturn, 1) := by decide +kernel
theorem nd_Way_behind_119 : decode prog_9_method_9_code 119 = .ok (.iload_n 0, 1) := by decide +kernel
theorem nd_Way_behind_120 : decode prog_9_method_9_code 120 = .ok (.iconst 3, 1) := by decide +kernel
theorem nd_Way_behind_121 : decode prog_9_method_9_code 121 = .ok (.invokestatic 15, 3) := by decide +kernel
theorem nd_Way_behind_124 : decode prog_9_method_9_code 124 = .ok (.invokestatic 22, 3) := by decide +kernel
theorem nd_Way_behind_127 : decode prog_9_method_9_code 127 = .ok (.ireturn, 1) := by decide +kernel
theorem nd_Way_behind_128 : decode prog_9_method_9_code 128 = .ok (.iload_n 0, 1) := by decide +kernel
theorem nd_Way_behind_129 : decode prog_9_method_9_code 129 = .ok (.iconst 3, 1) := by decide +kernel
theorem nd_Way_behind_130 : decode prog_9_method_9_code 130 = .ok (.iload_n 0, 1) := by decide +kernel
theorem nd_Way_behind_131 : decode prog_9_method_9_code 131 = .ok (.invokestatic 9, 3) := by decide +kernel
theorem nd_Way_behind_134 : decode prog_9_method_9_code 134 = .ok (.isub, 1) := by decide +kernel
theorem nd_Way_behind_135 : decode prog_9_method_9_code 135 = .ok (.invokestatic 15, 3) := by decide +kernel
theorem nd_Way_behind_138 : decode prog_9_method_9_code 138 = .ok (.invokestatic 22, 3) := by decide +kernel
theorem nd_Way_behind_141 : decode prog_9_method_9_code 141 = .ok (.ireturn, 1) := by decide +kernel
theorem nd_Way_behind_142 : decode prog_9_method_9_code 142 = .ok (.iload_n 0, 1) := by decide +kernel
theorem nd_Way_behind_143 : decode prog_9_method_9_code 143 = .ok (.iload_n 0, 1) := by decide +kernel
theorem nd_Way_behind_144 : decode prog_9_method_9_code 144 = .ok (.invokestatic 9, 3) := by decide +kernel
theorem nd_Way_behind_147 : decode prog_9_method_9_code 147 = .ok (.iconst 1, 1) := by decide +kernel
theorem nd_Way_behind_148 : decode prog_9_method_9_code 148 = .ok (.ixor, 1) := by decide +kernel
theorem nd_Way_behind_149 : decode prog_9_method_9_code 149 = .ok (.invokestatic 15, 3) := by decide +kernel
theorem nd_Way_behind_152 : decode prog_9_method_9_code 152 = .ok (.invokestatic 22, 3) := by decide +kernel
theorem nd_Way_behind_155 : decode prog_9_method_9_code 155 = .ok (.ireturn, 1) := by decide +kernel
theorem nd_Way_behind_156 : decode prog_9_method_9_code 156 = .ok (.iload_n 0, 1) := by decide +kernel
theorem nd_Way_behind_157 : decode prog_9_method_9_code 157 = .ok (.invokestatic 22, 3) := by decide +kernel
theorem nd_Way_behind_160 : decode prog_9_method_9_code 160 = .ok (.invokestatic 22, 3) := by decide +kernel
theorem nd_Way_behind_163 : decode prog_9_method_9_code 163 = .ok (.ireturn, 1) := by decide +kernel
theorem nd_Way_behind_164 : decode prog_9_method_9_code 164 = .ok (.iload_n 0, 1) := by decide +kernel
theorem nd_Way_behind_165 : decode prog_9_method_9_code 165 = .ok (.invokestatic 22, 3) := by decide +kernel
theorem nd_Way_behind_168 : decode prog_9_method_9_code 168 = .ok (.ireturn, 1) := by decide +kernel
def ny_Run_pass : MethodName := ⟨"DrawnPaths$Run", "pass", "(LDrawnPaths$Pointer;C)I"⟩
theorem nd_Run_pass_0 : decode prog_7_method_9_code 0 = .ok (.aload_n 1, 1) := by decide +kernel
theorem nd_Run_pass_1 : decode prog_7_method_9_code 1 = .ok (.getfield 67, 3) := by decide +kernel
theorem nd_Run_pass_4 : decode prog_7_method_9_code 4 = .ok (.iload_n 2, 1) := by decide +kernel
theorem nd_Run_pass_5 : decode prog_7_method_9_code 5 = .ok (.invokestatic 115, 3) := by decide +kernel
theorem nd_Run_pass_8 : decode prog_7_method_9_code 8 = .ok (.ifCond .eq 12, 3) := by decide +kernel
theorem nd_Run_pass_11 : decode prog_7_method_9_code 11 = .ok (.aload_n 1, 1) := by decide +kernel
theorem nd_Run_pass_12 : decode prog_7_method_9_code 12 = .ok (.invokevirtual 118, 3) := by decide +kernel
theorem nd_Run_pass_15 : decode prog_7_method_9_code 15 = .ok (.ifCond .eq 5, 3) := by decide +kernel
theorem nd_Run_pass_18 : decode prog_7_method_9_code 18 = .ok (.iconst 2, 1) := by decide +kernel
theorem nd_Run_pass_19 : decode prog_7_method_9_code 19 = .ok (.ireturn, 1) := by decide +kernel
theorem nd_Run_pass_20 : decode prog_7_method_9_code 20 = .ok (.aload_n 1, 1) := by decide +kernel
theorem nd_Run_pass_21 : decode prog_7_method_9_code 21 = .ok (.getfield 67, 3) := by decide +kernel
theorem nd_Run_pass_24 : decode prog_7_method_9_code 24 = .ok (.invokestatic 122, 3) := by decide +kernel
theorem nd_Run_pass_27 : decode prog_7_method_9_code 27 = .ok (.ifCond .ne 12, 3) := by decide +kernel
theorem nd_Run_pass_30 : decode prog_7_method_9_code 30 = .ok (.aload_n 0, 1) := by decide +kernel
theorem nd_Run_pass_31 : decode prog_7_method_9_code 31 = .ok (.aload_n 1, 1) := by decide +kernel
theorem nd_Run_pass_32 : decode prog_7_method_9_code 32 = .ok (.iload_n 2, 1) := by decide +kernel
theorem nd_Run_pass_33 : decode prog_7_method_9_code 33 = .ok (.invokevirtual 125, 3) := by decide +kernel
theorem nd_Run_pass_36 : decode prog_7_method_9_code 36 = .ok (.goto 15, 3) := by decide +kernel
theorem nd_Run_pass_39 : decode prog_7_method_9_code 39 = .ok (.iload_n 2, 1) := by decide +kernel
theorem nd_Run_pass_40 : decode prog_7_method_9_code 40 = .ok (.bipush 34, 2) := by decide +kernel
theorem nd_Run_pass_42 : decode prog_7_method_9_code 42 = .ok (.if_icmp .eq 9, 3) := by decide +kernel
theorem nd_Run_pass_45 : decode prog_7_method_9_code 45 = .ok (.aload_n 1, 1) := by decide +kernel
theorem nd_Run_pass_46 : decode prog_7_method_9_code 46 = .ok (.iload_n 2, 1) := by decide +kernel
theorem nd_Run_pass_47 : decode prog_7_method_9_code 47 = .ok (.i2l, 1) := by decide +kernel
theorem nd_Run_pass_48 : decode prog_7_method_9_code 48 = .ok (.invokevirtual 129, 3) := by decide +kernel
theorem nd_Run_pass_51 : decode prog_7_method_9_code 51 = .ok (.aload_n 1, 1) := by decide +kernel
theorem nd_Run_pass_52 : decode prog_7_method_9_code 52 = .ok (.aload_n 1, 1) := by decide +kernel
theorem nd_Run_pass_53 : decode prog_7_method_9_code 53 = .ok (.getfield 67, 3) := by decide +kernel
theorem nd_Run_pass_56 : decode prog_7_method_9_code 56 = .ok (.iload_n 2, 1) := by decide +kernel
theorem nd_Run_pass_57 : decode prog_7_method_9_code 57 = .ok (.invokestatic 133, 3) := by decide +kernel
theorem nd_Run_pass_60 : decode prog_7_method_9_code 60 = .ok (.putfield 67, 3) := by decide +kernel
theorem nd_Run_pass_63 : decode prog_7_method_9_code 63 = .ok (.iconst 0, 1) := by decide +kernel
theorem nd_Run_pass_64 : decode prog_7_method_9_code 64 = .ok (.ireturn, 1) := by decide +kernel
def ny_Run_remove : MethodName := ⟨"DrawnPaths$Run", "remove", "(I)V"⟩
theorem nd_Run_remove_0 : decode prog_7_method_8_code 0 = .ok (.aload_n 0, 1) := by decide +kernel
theorem nd_Run_remove_1 : decode prog_7_method_8_code 1 = .ok (.getfield 11, 3) := by decide +kernel
theorem nd_Run_remove_4 : decode prog_7_method_8_code 4 = .ok (.iload_n 1, 1) := by decide +kernel
theorem nd_Run_remove_5 : decode prog_7_method_8_code 5 = .ok (.aaload, 1) := by decide +kernel
theorem nd_Run_remove_6 : decode prog_7_method_8_code 6 = .ok (.astore_n 2, 1) := by decide +kernel
theorem nd_Run_remove_7 : decode prog_7_method_8_code 7 = .ok (.iload_n 1, 1) := by decide +kernel
theorem nd_Run_remove_8 : decode prog_7_method_8_code 8 = .ok (.iconst 1, 1) := by decide +kernel
theorem nd_Run_remove_9 : decode prog_7_method_8_code 9 = .ok (.iadd, 1) := by decide +kernel
theorem nd_Run_remove_10 : decode prog_7_method_8_code 10 = .ok (.istore_n 3, 1) := by decide +kernel
theorem nd_Run_remove_11 : decode prog_7_method_8_code 11 = .ok (.iload_n 3, 1) := by decide +kernel
theorem nd_Run_remove_12 : decode prog_7_method_8_code 12 = .ok (.aload_n 0, 1) := by decide +kernel
theorem nd_Run_remove_13 : decode prog_7_method_8_code 13 = .ok (.getfield 43, 3) := by decide +kernel
theorem nd_Run_remove_16 : decode prog_7_method_8_code 16 = .ok (.if_icmp .ge 23, 3) := by decide +kernel
theorem nd_Run_remove_19 : decode prog_7_method_8_code 19 = .ok (.aload_n 0, 1) := by decide +kernel
theorem nd_Run_remove_20 : decode prog_7_method_8_code 20 = .ok (.getfield 11, 3) := by decide +kernel
theorem nd_Run_remove_23 : decode prog_7_method_8_code 23 = .ok (.iload_n 3, 1) := by decide +kernel
theorem nd_Run_remove_24 : decode prog_7_method_8_code 24 = .ok (.iconst 1, 1) := by decide +kernel
theorem nd_Run_remove_25 : decode prog_7_method_8_code 25 = .ok (.isub, 1) := by decide +kernel
theorem nd_Run_remove_26 : decode prog_7_method_8_code 26 = .ok (.aload_n 0, 1) := by decide +kernel
theorem nd_Run_remove_27 : decode prog_7_method_8_code 27 = .ok (.getfield 11, 3) := by decide +kernel
theorem nd_Run_remove_30 : decode prog_7_method_8_code 30 = .ok (.iload_n 3, 1) := by decide +kernel
theorem nd_Run_remove_31 : decode prog_7_method_8_code 31 = .ok (.aaload, 1) := by decide +kernel
theorem nd_Run_remove_32 : decode prog_7_method_8_code 32 = .ok (.aastore, 1) := by decide +kernel
theorem nd_Run_remove_33 : decode prog_7_method_8_code 33 = .ok (.iinc 3 1, 3) := by decide +kernel
theorem nd_Run_remove_36 : decode prog_7_method_8_code 36 = .ok (.goto (-25), 3) := by decide +kernel
theorem nd_Run_remove_39 : decode prog_7_method_8_code 39 = .ok (.aload_n 0, 1) := by decide +kernel
theorem nd_Run_remove_40 : decode prog_7_method_8_code 40 = .ok (.dup, 1) := by decide +kernel
theorem nd_Run_remove_41 : decode prog_7_method_8_code 41 = .ok (.getfield 43, 3) := by decide +kernel
theorem nd_Run_remove_44 : decode prog_7_method_8_code 44 = .ok (.iconst 1, 1) := by decide +kernel
theorem nd_Run_remove_45 : decode prog_7_method_8_code 45 = .ok (.isub, 1) := by decide +kernel
theorem nd_Run_remove_46 : decode prog_7_method_8_code 46 = .ok (.putfield 43, 3) := by decide +kernel
theorem nd_Run_remove_49 : decode prog_7_method_8_code 49 = .ok (.aload_n 0, 1) := by decide +kernel
theorem nd_Run_remove_50 : decode prog_7_method_8_code 50 = .ok (.getfield 11, 3) := by decide +kernel
theorem nd_Run_remove_53 : decode prog_7_method_8_code 53 = .ok (.aload_n 0, 1) := by decide +kernel
theorem nd_Run_remove_54 : decode prog_7_method_8_code 54 = .ok (.getfield 43, 3) := by decide +kernel
theorem nd_Run_remove_57 : decode prog_7_method_8_code 57 = .ok (.aload_n 2, 1) := by decide +kernel
theorem nd_Run_remove_58 : decode prog_7_method_8_code 58 = .ok (.aastore, 1) := by decide +kernel
theorem nd_Run_remove_59 : decode prog_7_method_8_code 59 = .ok (.return_, 1) := by decide +kernel
def ny_Run_advance : MethodName := ⟨"DrawnPaths$Run", "advance", "()V"⟩
theorem nd_Run_advance_0 : decode prog_7_method_7_code 0 = .ok (.aload_n 0, 1) := by decide +kernel
theorem nd_Run_advance_1 : decode prog_7_method_7_code 1 = .ok (.getfield 43, 3) := by decide +kernel
theorem nd_Run_advance_4 : decode prog_7_method_7_code 4 = .ok (.istore_n 1, 1) := by decide +kernel
theorem nd_Run_advance_5 : decode prog_7_method_7_code 5 = .ok (.iconst 0, 1) := by decide +kernel
theorem nd_Run_advance_6 : decode prog_7_method_7_code 6 = .ok (.istore_n 2, 1) := by decide +kernel
theorem nd_Run_advance_7 : decode prog_7_method_7_code 7 = .ok (.iconst 0, 1) := by decide +kernel
theorem nd_Run_advance_8 : decode prog_7_method_7_code 8 = .ok (.istore_n 3, 1) := by decide +kernel
theorem nd_Run_advance_9 : decode prog_7_method_7_code 9 = .ok (.iload_n 3, 1) := by decide +kernel
theorem nd_Run_advance_10 : decode prog_7_method_7_code 10 = .ok (.iload_n 1, 1) := by decide +kernel
theorem nd_Run_advance_11 : decode prog_7_method_7_code 11 = .ok (.if_icmp .ge 101, 3) := by decide +kernel
theorem nd_Run_advance_14 : decode prog_7_method_7_code 14 = .ok (.aload_n 0, 1) := by decide +kernel
theorem nd_Run_advance_15 : decode prog_7_method_7_code 15 = .ok (.getfield 11, 3) := by decide +kernel
theorem nd_Run_advance_18 : decode prog_7_method_7_code 18 = .ok (.iload_n 2, 1) := by decide +kernel
theorem nd_Run_advance_19 : decode prog_7_method_7_code 19 = .ok (.aaload, 1) := by decide +kernel
theorem nd_Run_advance_20 : decode prog_7_method_7_code 20 = .ok (.astore 4, 2) := by decide +kernel
theorem nd_Run_advance_22 : decode prog_7_method_7_code 22 = .ok (.aload_n 0, 1) := by decide +kernel
theorem nd_Run_advance_23 : decode prog_7_method_7_code 23 = .ok (.getfield 34, 3) := by decide +kernel
theorem nd_Run_advance_26 : decode prog_7_method_7_code 26 = .ok (.getfield 70, 3) := by decide +kernel
theorem nd_Run_advance_29 : decode prog_7_method_7_code 29 = .ok (.aload 4, 2) := by decide +kernel
theorem nd_Run_advance_31 : decode prog_7_method_7_code 31 = .ok (.getfield 67, 3) := by decide +kernel
theorem nd_Run_advance_34 : decode prog_7_method_7_code 34 = .ok (.invokestatic 75, 3) := by decide +kernel
theorem nd_Run_advance_37 : decode prog_7_method_7_code 37 = .ok (.caload, 1) := by decide +kernel
theorem nd_Run_advance_38 : decode prog_7_method_7_code 38 = .ok (.istore 5, 2) := by decide +kernel
theorem nd_Run_advance_40 : decode prog_7_method_7_code 40 = .ok (.aload 4, 2) := by decide +kernel
theorem nd_Run_advance_42 : decode prog_7_method_7_code 42 = .ok (.getfield 67, 3) := by decide +kernel
theorem nd_Run_advance_45 : decode prog_7_method_7_code 45 = .ok (.iload 5, 2) := by decide +kernel
theorem nd_Run_advance_47 : decode prog_7_method_7_code 47 = .ok (.invokestatic 79, 3) := by decide +kernel
theorem nd_Run_advance_50 : decode prog_7_method_7_code 50 = .ok (.ifCond .eq 14, 3) := by decide +kernel
theorem nd_Run_advance_53 : decode prog_7_method_7_code 53 = .ok (.aload_n 0, 1) := by decide +kernel
theorem nd_Run_advance_54 : decode prog_7_method_7_code 54 = .ok (.aload 4, 2) := by decide +kernel
theorem nd_Run_advance_56 : decode prog_7_method_7_code 56 = .ok (.iload 5, 2) := by decide +kernel
theorem nd_Run_advance_58 : decode prog_7_method_7_code 58 = .ok (.invokevirtual 105, 3) := by decide +kernel
theorem nd_Run_advance_61 : decode prog_7_method_7_code 61 = .ok (.goto 11, 3) := by decide +kernel
theorem nd_Run_advance_64 : decode prog_7_method_7_code 64 = .ok (.aload_n 0, 1) := by decide +kernel
theorem nd_Run_advance_65 : decode prog_7_method_7_code 65 = .ok (.aload 4, 2) := by decide +kernel
theorem nd_Run_advance_67 : decode prog_7_method_7_code 67 = .ok (.iload 5, 2) := by decide +kernel
theorem nd_Run_advance_69 : decode prog_7_method_7_code 69 = .ok (.invokevirtual 109, 3) := by decide +kernel
theorem nd_Run_advance_72 : decode prog_7_method_7_code 72 = .ok (.istore 6, 2) := by decide +kernel
theorem nd_Run_advance_74 : decode prog_7_method_7_code 74 = .ok (.iload 6, 2) := by decide +kernel
theorem nd_Run_advance_76 : decode prog_7_method_7_code 76 = .ok (.ifCond .ne 9, 3) := by decide +kernel
theorem nd_Run_advance_79 : decode prog_7_method_7_code 79 = .ok (.iinc 2 1, 3) := by decide +kernel
theorem nd_Run_advance_82 : decode prog_7_method_7_code 82 = .ok (.goto 24, 3) := by decide +kernel
theorem nd_Run_advance_85 : decode prog_7_method_7_code 85 = .ok (.iload 6, 2) := by decide +kernel
theorem nd_Run_advance_87 : decode prog_7_method_7_code 87 = .ok (.iconst 1, 1) := by decide +kernel
theorem nd_Run_advance_88 : decode prog_7_method_7_code 88 = .ok (.if_icmp .ne 11, 3) := by decide +kernel
theorem nd_Run_advance_91 : decode prog_7_method_7_code 91 = .ok (.aload_n 0, 1) := by decide +kernel
theorem nd_Run_advance_92 : decode prog_7_method_7_code 92 = .ok (.iload_n 2, 1) := by decide +kernel
theorem nd_Run_advance_93 : decode prog_7_method_7_code 93 = .ok (.invokevirtual 112, 3) := by decide +kernel
theorem nd_Run_advance_96 : decode prog_7_method_7_code 96 = .ok (.goto 10, 3) := by decide +kernel
theorem nd_Run_advance_99 : decode prog_7_method_7_code 99 = .ok (.aload_n 0, 1) := by decide +kernel
theorem nd_Run_advance_100 : decode prog_7_method_7_code 100 = .ok (.iload 6, 2) := by decide +kernel
theorem nd_Run_advance_102 : decode prog_7_method_7_code 102 = .ok (.putfield 39, 3) := by decide +kernel
theorem nd_Run_advance_105 : decode prog_7_method_7_code 105 = .ok (.return_, 1) := by decide +kernel
theorem nd_Run_advance_106 : decode prog_7_method_7_code 106 = .ok (.iinc 3 1, 3) := by decide +kernel
theorem nd_Run_advance_109 : decode prog_7_method_7_code 109 = .ok (.goto (-100), 3) := by decide +kernel
theorem nd_Run_advance_112 : decode prog_7_method_7_code 112 = .ok (.aload_n 0, 1) := by decide +kernel
theorem nd_Run_advance_113 : decode prog_7_method_7_code 113 = .ok (.dup, 1) := by decide +kernel
theorem nd_Run_advance_114 : decode prog_7_method_7_code 114 = .ok (.getfield 52, 3) := by decide +kernel
theorem nd_Run_advance_117 : decode prog_7_method_7_code 117 = .ok (.iconst 1, 1) := by decide +kernel
theorem nd_Run_advance_118 : decode prog_7_method_7_code 118 = .ok (.iadd, 1) := by decide +kernel
theorem nd_Run_advance_119 : decode prog_7_method_7_code 119 = .ok (.putfield 52, 3) := by decide +kernel
theorem nd_Run_advance_122 : decode prog_7_method_7_code 122 = .ok (.return_, 1) := by decide +kernel
def ny_P_step : MethodName := ⟨"DrawnPaths", "step", "(I)I"⟩
theorem nd_P_step_0 : decode prog_1_method_9_code 0 = .ok (.iload_n 1, 1) := by decide +kernel
theorem nd_P_step_1 : decode prog_1_method_9_code 1 = .ok (.invokestatic 117, 3) := by decide +kernel
theorem nd_P_step_4 : decode prog_1_method_9_code 4 = .ok (.iconst 0, 1) := by decide +kernel
theorem nd_P_step_5 : decode prog_1_method_9_code 5 = .ok (.istore_n 2, 1) := by decide +kernel
theorem nd_P_step_6 : decode prog_1_method_9_code 6 = .ok (.iload_n 2, 1) := by decide +kernel
theorem nd_P_step_7 : decode prog_1_method_9_code 7 = .ok (.iload_n 1, 1) := by decide +kernel
theorem nd_P_step_8 : decode prog_1_method_9_code 8 = .ok (.if_icmp .ge 26, 3) := by decide +kernel
theorem nd_P_step_11 : decode prog_1_method_9_code 11 = .ok (.aload_n 0, 1) := by decide +kernel
theorem nd_P_step_12 : decode prog_1_method_9_code 12 = .ok (.getfield 30, 3) := by decide +kernel
theorem nd_P_step_15 : decode prog_1_method_9_code 15 = .ok (.invokevirtual 120, 3) := by decide +kernel
theorem nd_P_step_18 : decode prog_1_method_9_code 18 = .ok (.ifCond .ne 16, 3) := by decide +kernel
theorem nd_P_step_21 : decode prog_1_method_9_code 21 = .ok (.aload_n 0, 1) := by decide +kernel
theorem nd_P_step_22 : decode prog_1_method_9_code 22 = .ok (.getfield 30, 3) := by decide +kernel
theorem nd_P_step_25 : decode prog_1_method_9_code 25 = .ok (.invokevirtual 124, 3) := by decide +kernel
theorem nd_P_step_28 : decode prog_1_method_9_code 28 = .ok (.iinc 2 1, 3) := by decide +kernel
theorem nd_P_step_31 : decode prog_1_method_9_code 31 = .ok (.goto (-25), 3) := by decide +kernel
theorem nd_P_step_34 : decode prog_1_method_9_code 34 = .ok (.aload_n 0, 1) := by decide +kernel
theorem nd_P_step_35 : decode prog_1_method_9_code 35 = .ok (.getfield 30, 3) := by decide +kernel
theorem nd_P_step_38 : decode prog_1_method_9_code 38 = .ok (.invokevirtual 120, 3) := by decide +kernel
theorem nd_P_step_41 : decode prog_1_method_9_code 41 = .ok (.ireturn, 1) := by decide +kernel
def ny_Blocks_find : MethodName := ⟨"DrawnPaths$Blocks", "find", "(I)LDrawnPaths$Block;"⟩
theorem nd_Blocks_find_0 : decode prog_3_method_2_code 0 = .ok (.iconst 0, 1) := by decide +kernel
theorem nd_Blocks_find_1 : decode prog_3_method_2_code 1 = .ok (.istore_n 2, 1) := by decide +kernel
theorem nd_Blocks_find_2 : decode prog_3_method_2_code 2 = .ok (.iload_n 2, 1) := by decide +kernel
theorem nd_Blocks_find_3 : decode prog_3_method_2_code 3 = .ok (.aload_n 0, 1) := by decide +kernel
theorem nd_Blocks_find_4 : decode prog_3_method_2_code 4 = .ok (.getfield 22, 3) := by decide +kernel
theorem nd_Blocks_find_7 : decode prog_3_method_2_code 7 = .ok (.if_icmp .ge 29, 3) := by decide +kernel
theorem nd_Blocks_find_10 : decode prog_3_method_2_code 10 = .ok (.aload_n 0, 1) := by decide +kernel
theorem nd_Blocks_find_11 : decode prog_3_method_2_code 11 = .ok (.getfield 11, 3) := by decide +kernel
theorem nd_Blocks_find_14 : decode prog_3_method_2_code 14 = .ok (.iload_n 2, 1) := by decide +kernel
theorem nd_Blocks_find_15 : decode prog_3_method_2_code 15 = .ok (.aaload, 1) := by decide +kernel
theorem nd_Blocks_find_16 : decode prog_3_method_2_code 16 = .ok (.getfield 26, 3) := by decide +kernel
theorem nd_Blocks_find_19 : decode prog_3_method_2_code 19 = .ok (.iload_n 1, 1) := by decide +kernel
theorem nd_Blocks_find_20 : decode prog_3_method_2_code 20 = .ok (.if_icmp .ne 10, 3) := by decide +kernel
theorem nd_Blocks_find_23 : decode prog_3_method_2_code 23 = .ok (.aload_n 0, 1) := by decide +kernel
theorem nd_Blocks_find_24 : decode prog_3_method_2_code 24 = .ok (.getfield 11, 3) := by decide +kernel
theorem nd_Blocks_find_27 : decode prog_3_method_2_code 27 = .ok (.iload_n 2, 1) := by decide +kernel
theorem nd_Blocks_find_28 : decode prog_3_method_2_code 28 = .ok (.aaload, 1) := by decide +kernel
theorem nd_Blocks_find_29 : decode prog_3_method_2_code 29 = .ok (.areturn, 1) := by decide +kernel
theorem nd_Blocks_find_30 : decode prog_3_method_2_code 30 = .ok (.iinc 2 1, 3) := by decide +kernel
theorem nd_Blocks_find_33 : decode prog_3_method_2_code 33 = .ok (.goto (-31), 3) := by decide +kernel
theorem nd_Blocks_find_36 : decode prog_3_method_2_code 36 = .ok (.aconst_null, 1) := by decide +kernel
theorem nd_Blocks_find_37 : decode prog_3_method_2_code 37 = .ok (.areturn, 1) := by decide +kernel
def ny_Block_addPlace : MethodName := ⟨"DrawnPaths$Block", "addPlace", "(I)V"⟩
theorem nd_Block_addPlace_0 : decode prog_2_method_3_code 0 = .ok (.iload_n 1, 1) := by decide +kernel
theorem nd_Block_addPlace_1 : decode prog_2_method_3_code 1 = .ok (.bipush 64, 2) := by decide +kernel
theorem nd_Block_addPlace_3 : decode prog_2_method_3_code 3 = .ok (.if_icmp .ge 18, 3) := by decide +kernel
theorem nd_Block_addPlace_6 : decode prog_2_method_3_code 6 = .ok (.aload_n 0, 1) := by decide +kernel
theorem nd_Block_addPlace_7 : decode prog_2_method_3_code 7 = .ok (.dup, 1) := by decide +kernel
theorem nd_Block_addPlace_8 : decode prog_2_method_3_code 8 = .ok (.getfield 9, 3) := by decide +kernel
theorem nd_Block_addPlace_11 : decode prog_2_method_3_code 11 = .ok (.lconst 1, 1) := by decide +kernel
theorem nd_Block_addPlace_12 : decode prog_2_method_3_code 12 = .ok (.iload_n 1, 1) := by decide +kernel
theorem nd_Block_addPlace_13 : decode prog_2_method_3_code 13 = .ok (.lshl, 1) := by decide +kernel
theorem nd_Block_addPlace_14 : decode prog_2_method_3_code 14 = .ok (.lor, 1) := by decide +kernel
theorem nd_Block_addPlace_15 : decode prog_2_method_3_code 15 = .ok (.putfield 9, 3) := by decide +kernel
theorem nd_Block_addPlace_18 : decode prog_2_method_3_code 18 = .ok (.goto 18, 3) := by decide +kernel
theorem nd_Block_addPlace_21 : decode prog_2_method_3_code 21 = .ok (.aload_n 0, 1) := by decide +kernel
theorem nd_Block_addPlace_22 : decode prog_2_method_3_code 22 = .ok (.dup, 1) := by decide +kernel
theorem nd_Block_addPlace_23 : decode prog_2_method_3_code 23 = .ok (.getfield 15, 3) := by decide +kernel
theorem nd_Block_addPlace_26 : decode prog_2_method_3_code 26 = .ok (.lconst 1, 1) := by decide +kernel
theorem nd_Block_addPlace_27 : decode prog_2_method_3_code 27 = .ok (.iload_n 1, 1) := by decide +kernel
theorem nd_Block_addPlace_28 : decode prog_2_method_3_code 28 = .ok (.bipush 64, 2) := by decide +kernel
theorem nd_Block_addPlace_30 : decode prog_2_method_3_code 30 = .ok (.isub, 1) := by decide +kernel
theorem nd_Block_addPlace_31 : decode prog_2_method_3_code 31 = .ok (.lshl, 1) := by decide +kernel
theorem nd_Block_addPlace_32 : decode prog_2_method_3_code 32 = .ok (.lor, 1) := by decide +kernel
theorem nd_Block_addPlace_33 : decode prog_2_method_3_code 33 = .ok (.putfield 15, 3) := by decide +kernel
end
section
theorem nd_Block_addPlace_36 : decode prog_2_method_3_code 36 = .ok (.return_, 1) := by decide +kernel
def ny_Block_trace : MethodName := ⟨"DrawnPaths$Block", "trace", "(I[C[I)V"⟩
theorem nd_Block_trace_0 : decode prog_2_method_4_code 0 = .ok (.aload_n 0, 1) := by decide +kernel
theorem nd_Block_trace_1 : decode prog_2_method_4_code 1 = .ok (.iload_n 1, 1) := by decide +kernel
theorem nd_Block_trace_2 : decode prog_2_method_4_code 2 = .ok (.putfield 18, 3) := by decide +kernel
theorem nd_Block_trace_5 : decode prog_2_method_4_code 5 = .ok (.aload_n 0, 1) := by decide +kernel
theorem nd_Block_trace_6 : decode prog_2_method_4_code 6 = .ok (.lconst 0, 1) := by decide +kernel
theorem nd_Block_trace_7 : decode prog_2_method_4_code 7 = .ok (.putfield 9, 3) := by decide +kernel
theorem nd_Block_trace_10 : decode prog_2_method_4_code 10 = .ok (.aload_n 0, 1) := by decide +kernel
theorem nd_Block_trace_11 : decode prog_2_method_4_code 11 = .ok (.lconst 0, 1) := by decide +kernel
theorem nd_Block_trace_12 : decode prog_2_method_4_code 12 = .ok (.putfield 15, 3) := by decide +kernel
theorem nd_Block_trace_15 : decode prog_2_method_4_code 15 = .ok (.iload_n 1, 1) := by decide +kernel
theorem nd_Block_trace_16 : decode prog_2_method_4_code 16 = .ok (.istore 4, 2) := by decide +kernel
theorem nd_Block_trace_18 : decode prog_2_method_4_code 18 = .ok (.iconst 0, 1) := by decide +kernel
theorem nd_Block_trace_19 : decode prog_2_method_4_code 19 = .ok (.istore 5, 2) := by decide +kernel
theorem nd_Block_trace_21 : decode prog_2_method_4_code 21 = .ok (.iload 5, 2) := by decide +kernel
theorem nd_Block_trace_23 : decode prog_2_method_4_code 23 = .ok (.bipush 32, 2) := by decide +kernel
theorem nd_Block_trace_25 : decode prog_2_method_4_code 25 = .ok (.if_icmp .ge 76, 3) := by decide +kernel
theorem nd_Block_trace_28 : decode prog_2_method_4_code 28 = .ok (.iload 4, 2) := by decide +kernel
theorem nd_Block_trace_30 : decode prog_2_method_4_code 30 = .ok (.invokestatic 22, 3) := by decide +kernel
theorem nd_Block_trace_33 : decode prog_2_method_4_code 33 = .ok (.istore 6, 2) := by decide +kernel
theorem nd_Block_trace_35 : decode prog_2_method_4_code 35 = .ok (.iconst 1, 1) := by decide +kernel
theorem nd_Block_trace_36 : decode prog_2_method_4_code 36 = .ok (.iload 4, 2) := by decide +kernel
theorem nd_Block_trace_38 : decode prog_2_method_4_code 38 = .ok (.bipush 7, 2) := by decide +kernel
theorem nd_Block_trace_40 : decode prog_2_method_4_code 40 = .ok (.iand, 1) := by decide +kernel
theorem nd_Block_trace_41 : decode prog_2_method_4_code 41 = .ok (.ishl, 1) := by decide +kernel
theorem nd_Block_trace_42 : decode prog_2_method_4_code 42 = .ok (.istore 7, 2) := by decide +kernel
theorem nd_Block_trace_44 : decode prog_2_method_4_code 44 = .ok (.aload_n 3, 1) := by decide +kernel
theorem nd_Block_trace_45 : decode prog_2_method_4_code 45 = .ok (.iload 6, 2) := by decide +kernel
theorem nd_Block_trace_47 : decode prog_2_method_4_code 47 = .ok (.iaload, 1) := by decide +kernel
theorem nd_Block_trace_48 : decode prog_2_method_4_code 48 = .ok (.iload 7, 2) := by decide +kernel
theorem nd_Block_trace_50 : decode prog_2_method_4_code 50 = .ok (.iand, 1) := by decide +kernel
theorem nd_Block_trace_51 : decode prog_2_method_4_code 51 = .ok (.ifCond .ne 50, 3) := by decide +kernel
theorem nd_Block_trace_54 : decode prog_2_method_4_code 54 = .ok (.iload 4, 2) := by decide +kernel
theorem nd_Block_trace_56 : decode prog_2_method_4_code 56 = .ok (.aload_n 2, 1) := by decide +kernel
theorem nd_Block_trace_57 : decode prog_2_method_4_code 57 = .ok (.iload 6, 2) := by decide +kernel
theorem nd_Block_trace_59 : decode prog_2_method_4_code 59 = .ok (.caload, 1) := by decide +kernel
theorem nd_Block_trace_60 : decode prog_2_method_4_code 60 = .ok (.invokestatic 28, 3) := by decide +kernel
theorem nd_Block_trace_63 : decode prog_2_method_4_code 63 = .ok (.ifCond .eq 6, 3) := by decide +kernel
theorem nd_Block_trace_66 : decode prog_2_method_4_code 66 = .ok (.goto 35, 3) := by decide +kernel
theorem nd_Block_trace_69 : decode prog_2_method_4_code 69 = .ok (.aload_n 3, 1) := by decide +kernel
theorem nd_Block_trace_70 : decode prog_2_method_4_code 70 = .ok (.iload 6, 2) := by decide +kernel
theorem nd_Block_trace_72 : decode prog_2_method_4_code 72 = .ok (.dup2, 1) := by decide +kernel
theorem nd_Block_trace_73 : decode prog_2_method_4_code 73 = .ok (.iaload, 1) := by decide +kernel
theorem nd_Block_trace_74 : decode prog_2_method_4_code 74 = .ok (.iload 7, 2) := by decide +kernel
theorem nd_Block_trace_76 : decode prog_2_method_4_code 76 = .ok (.ior, 1) := by decide +kernel
theorem nd_Block_trace_77 : decode prog_2_method_4_code 77 = .ok (.iastore, 1) := by decide +kernel
theorem nd_Block_trace_78 : decode prog_2_method_4_code 78 = .ok (.aload_n 0, 1) := by decide +kernel
theorem nd_Block_trace_79 : decode prog_2_method_4_code 79 = .ok (.iload 6, 2) := by decide +kernel
theorem nd_Block_trace_81 : decode prog_2_method_4_code 81 = .ok (.invokevirtual 32, 3) := by decide +kernel
theorem nd_Block_trace_84 : decode prog_2_method_4_code 84 = .ok (.iload 4, 2) := by decide +kernel
theorem nd_Block_trace_86 : decode prog_2_method_4_code 86 = .ok (.aload_n 2, 1) := by decide +kernel
theorem nd_Block_trace_87 : decode prog_2_method_4_code 87 = .ok (.iload 6, 2) := by decide +kernel
theorem nd_Block_trace_89 : decode prog_2_method_4_code 89 = .ok (.caload, 1) := by decide +kernel
theorem nd_Block_trace_90 : decode prog_2_method_4_code 90 = .ok (.invokestatic 36, 3) := by decide +kernel
theorem nd_Block_trace_93 : decode prog_2_method_4_code 93 = .ok (.istore 4, 2) := by decide +kernel
theorem nd_Block_trace_95 : decode prog_2_method_4_code 95 = .ok (.iinc 5 1, 3) := by decide +kernel
theorem nd_Block_trace_98 : decode prog_2_method_4_code 98 = .ok (.goto (-77), 3) := by decide +kernel
theorem nd_Block_trace_101 : decode prog_2_method_4_code 101 = .ok (.aload_n 0, 1) := by decide +kernel
theorem nd_Block_trace_102 : decode prog_2_method_4_code 102 = .ok (.iload 5, 2) := by decide +kernel
theorem nd_Block_trace_104 : decode prog_2_method_4_code 104 = .ok (.putfield 40, 3) := by decide +kernel
theorem nd_Block_trace_107 : decode prog_2_method_4_code 107 = .ok (.aload_n 0, 1) := by decide +kernel
theorem nd_Block_trace_108 : decode prog_2_method_4_code 108 = .ok (.iload 4, 2) := by decide +kernel
theorem nd_Block_trace_110 : decode prog_2_method_4_code 110 = .ok (.putfield 43, 3) := by decide +kernel
theorem nd_Block_trace_113 : decode prog_2_method_4_code 113 = .ok (.return_, 1) := by decide +kernel
def ny_Blocks_make : MethodName := ⟨"DrawnPaths$Blocks", "make", "(I[C)LDrawnPaths$Block;"⟩
theorem nd_Blocks_make_0 : decode prog_3_method_3_code 0 = .ok (.aload_n 0, 1) := by decide +kernel
theorem nd_Blocks_make_1 : decode prog_3_method_3_code 1 = .ok (.getfield 22, 3) := by decide +kernel
theorem nd_Blocks_make_4 : decode prog_3_method_3_code 4 = .ok (.bipush 30, 2) := by decide +kernel
theorem nd_Blocks_make_6 : decode prog_3_method_3_code 6 = .ok (.if_icmp .ne 5, 3) := by decide +kernel
theorem nd_Blocks_make_9 : decode prog_3_method_3_code 9 = .ok (.aconst_null, 1) := by decide +kernel
theorem nd_Blocks_make_10 : decode prog_3_method_3_code 10 = .ok (.areturn, 1) := by decide +kernel
theorem nd_Blocks_make_11 : decode prog_3_method_3_code 11 = .ok (.iconst 0, 1) := by decide +kernel
theorem nd_Blocks_make_12 : decode prog_3_method_3_code 12 = .ok (.istore_n 3, 1) := by decide +kernel
theorem nd_Blocks_make_13 : decode prog_3_method_3_code 13 = .ok (.iload_n 3, 1) := by decide +kernel
theorem nd_Blocks_make_14 : decode prog_3_method_3_code 14 = .ok (.bipush 96, 2) := by decide +kernel
theorem nd_Blocks_make_16 : decode prog_3_method_3_code 16 = .ok (.if_icmp .ge 16, 3) := by decide +kernel
theorem nd_Blocks_make_19 : decode prog_3_method_3_code 19 = .ok (.aload_n 0, 1) := by decide +kernel
theorem nd_Blocks_make_20 : decode prog_3_method_3_code 20 = .ok (.getfield 17, 3) := by decide +kernel
theorem nd_Blocks_make_23 : decode prog_3_method_3_code 23 = .ok (.iload_n 3, 1) := by decide +kernel
theorem nd_Blocks_make_24 : decode prog_3_method_3_code 24 = .ok (.iconst 0, 1) := by decide +kernel
theorem nd_Blocks_make_25 : decode prog_3_method_3_code 25 = .ok (.iastore, 1) := by decide +kernel
theorem nd_Blocks_make_26 : decode prog_3_method_3_code 26 = .ok (.iinc 3 1, 3) := by decide +kernel
theorem nd_Blocks_make_29 : decode prog_3_method_3_code 29 = .ok (.goto (-16), 3) := by decide +kernel
theorem nd_Blocks_make_32 : decode prog_3_method_3_code 32 = .ok (.aload_n 0, 1) := by decide +kernel
theorem nd_Blocks_make_33 : decode prog_3_method_3_code 33 = .ok (.getfield 11, 3) := by decide +kernel
theorem nd_Blocks_make_36 : decode prog_3_method_3_code 36 = .ok (.aload_n 0, 1) := by decide +kernel
theorem nd_Blocks_make_37 : decode prog_3_method_3_code 37 = .ok (.getfield 22, 3) := by decide +kernel
theorem nd_Blocks_make_40 : decode prog_3_method_3_code 40 = .ok (.aaload, 1) := by decide +kernel
theorem nd_Blocks_make_41 : decode prog_3_method_3_code 41 = .ok (.astore_n 3, 1) := by decide +kernel
theorem nd_Blocks_make_42 : decode prog_3_method_3_code 42 = .ok (.aload_n 0, 1) := by decide +kernel
theorem nd_Blocks_make_43 : decode prog_3_method_3_code 43 = .ok (.dup, 1) := by decide +kernel
theorem nd_Blocks_make_44 : decode prog_3_method_3_code 44 = .ok (.getfield 22, 3) := by decide +kernel
theorem nd_Blocks_make_47 : decode prog_3_method_3_code 47 = .ok (.iconst 1, 1) := by decide +kernel
theorem nd_Blocks_make_48 : decode prog_3_method_3_code 48 = .ok (.iadd, 1) := by decide +kernel
theorem nd_Blocks_make_49 : decode prog_3_method_3_code 49 = .ok (.putfield 22, 3) := by decide +kernel
theorem nd_Blocks_make_52 : decode prog_3_method_3_code 52 = .ok (.aload_n 3, 1) := by decide +kernel
theorem nd_Blocks_make_53 : decode prog_3_method_3_code 53 = .ok (.iload_n 1, 1) := by decide +kernel
theorem nd_Blocks_make_54 : decode prog_3_method_3_code 54 = .ok (.aload_n 2, 1) := by decide +kernel
theorem nd_Blocks_make_55 : decode prog_3_method_3_code 55 = .ok (.aload_n 0, 1) := by decide +kernel
theorem nd_Blocks_make_56 : decode prog_3_method_3_code 56 = .ok (.getfield 17, 3) := by decide +kernel
theorem nd_Blocks_make_59 : decode prog_3_method_3_code 59 = .ok (.invokevirtual 29, 3) := by decide +kernel
theorem nd_Blocks_make_62 : decode prog_3_method_3_code 62 = .ok (.aload_n 3, 1) := by decide +kernel
theorem nd_Blocks_make_63 : decode prog_3_method_3_code 63 = .ok (.areturn, 1) := by decide +kernel
def ny_Run_signsTogether : MethodName := ⟨"DrawnPaths$Run", "signsTogether", "(I)I"⟩
theorem nd_Run_signsTogether_0 : decode prog_7_method_6_code 0 = .ok (.aload_n 0, 1) := by decide +kernel
theorem nd_Run_signsTogether_1 : decode prog_7_method_6_code 1 = .ok (.getfield 11, 3) := by decide +kernel
theorem nd_Run_signsTogether_4 : decode prog_7_method_6_code 4 = .ok (.iconst 0, 1) := by decide +kernel
theorem nd_Run_signsTogether_5 : decode prog_7_method_6_code 5 = .ok (.aaload, 1) := by decide +kernel
theorem nd_Run_signsTogether_6 : decode prog_7_method_6_code 6 = .ok (.astore_n 2, 1) := by decide +kernel
theorem nd_Run_signsTogether_7 : decode prog_7_method_6_code 7 = .ok (.aload_n 0, 1) := by decide +kernel
theorem nd_Run_signsTogether_8 : decode prog_7_method_6_code 8 = .ok (.getfield 43, 3) := by decide +kernel
theorem nd_Run_signsTogether_11 : decode prog_7_method_6_code 11 = .ok (.iconst 1, 1) := by decide +kernel
theorem nd_Run_signsTogether_12 : decode prog_7_method_6_code 12 = .ok (.if_icmp .ne 28, 3) := by decide +kernel
theorem nd_Run_signsTogether_15 : decode prog_7_method_6_code 15 = .ok (.aload_n 2, 1) := by decide +kernel
theorem nd_Run_signsTogether_16 : decode prog_7_method_6_code 16 = .ok (.getfield 67, 3) := by decide +kernel
theorem nd_Run_signsTogether_19 : decode prog_7_method_6_code 19 = .ok (.aload_n 0, 1) := by decide +kernel
theorem nd_Run_signsTogether_20 : decode prog_7_method_6_code 20 = .ok (.getfield 34, 3) := by decide +kernel
theorem nd_Run_signsTogether_23 : decode prog_7_method_6_code 23 = .ok (.getfield 70, 3) := by decide +kernel
theorem nd_Run_signsTogether_26 : decode prog_7_method_6_code 26 = .ok (.aload_n 2, 1) := by decide +kernel
theorem nd_Run_signsTogether_27 : decode prog_7_method_6_code 27 = .ok (.getfield 67, 3) := by decide +kernel
theorem nd_Run_signsTogether_30 : decode prog_7_method_6_code 30 = .ok (.invokestatic 75, 3) := by decide +kernel
theorem nd_Run_signsTogether_33 : decode prog_7_method_6_code 33 = .ok (.caload, 1) := by decide +kernel
theorem nd_Run_signsTogether_34 : decode prog_7_method_6_code 34 = .ok (.invokestatic 79, 3) := by decide +kernel
theorem nd_Run_signsTogether_37 : decode prog_7_method_6_code 37 = .ok (.ifCond .eq 5, 3) := by decide +kernel
theorem nd_Run_signsTogether_40 : decode prog_7_method_6_code 40 = .ok (.iconst 1, 1) := by decide +kernel
theorem nd_Run_signsTogether_41 : decode prog_7_method_6_code 41 = .ok (.ireturn, 1) := by decide +kernel
theorem nd_Run_signsTogether_42 : decode prog_7_method_6_code 42 = .ok (.aload_n 0, 1) := by decide +kernel
theorem nd_Run_signsTogether_43 : decode prog_7_method_6_code 43 = .ok (.getfield 34, 3) := by decide +kernel
theorem nd_Run_signsTogether_46 : decode prog_7_method_6_code 46 = .ok (.getfield 83, 3) := by decide +kernel
theorem nd_Run_signsTogether_49 : decode prog_7_method_6_code 49 = .ok (.aload_n 2, 1) := by decide +kernel
theorem nd_Run_signsTogether_50 : decode prog_7_method_6_code 50 = .ok (.getfield 67, 3) := by decide +kernel
theorem nd_Run_signsTogether_53 : decode prog_7_method_6_code 53 = .ok (.invokevirtual 87, 3) := by decide +kernel
theorem nd_Run_signsTogether_56 : decode prog_7_method_6_code 56 = .ok (.astore_n 3, 1) := by decide +kernel
theorem nd_Run_signsTogether_57 : decode prog_7_method_6_code 57 = .ok (.aload_n 3, 1) := by decide +kernel
theorem nd_Run_signsTogether_58 : decode prog_7_method_6_code 58 = .ok (.ifnonnull 25, 3) := by decide +kernel
theorem nd_Run_signsTogether_61 : decode prog_7_method_6_code 61 = .ok (.aload_n 0, 1) := by decide +kernel
theorem nd_Run_signsTogether_62 : decode prog_7_method_6_code 62 = .ok (.getfield 34, 3) := by decide +kernel
theorem nd_Run_signsTogether_65 : decode prog_7_method_6_code 65 = .ok (.getfield 83, 3) := by decide +kernel
theorem nd_Run_signsTogether_68 : decode prog_7_method_6_code 68 = .ok (.aload_n 2, 1) := by decide +kernel
theorem nd_Run_signsTogether_69 : decode prog_7_method_6_code 69 = .ok (.getfield 67, 3) := by decide +kernel
theorem nd_Run_signsTogether_72 : decode prog_7_method_6_code 72 = .ok (.aload_n 0, 1) := by decide +kernel
theorem nd_Run_signsTogether_73 : decode prog_7_method_6_code 73 = .ok (.getfield 34, 3) := by decide +kernel
theorem nd_Run_signsTogether_76 : decode prog_7_method_6_code 76 = .ok (.getfield 70, 3) := by decide +kernel
theorem nd_Run_signsTogether_79 : decode prog_7_method_6_code 79 = .ok (.invokevirtual 93, 3) := by decide +kernel
theorem nd_Run_signsTogether_82 : decode prog_7_method_6_code 82 = .ok (.astore_n 3, 1) := by decide +kernel
theorem nd_Run_signsTogether_83 : decode prog_7_method_6_code 83 = .ok (.aload_n 3, 1) := by decide +kernel
theorem nd_Run_signsTogether_84 : decode prog_7_method_6_code 84 = .ok (.ifnull 25, 3) := by decide +kernel
theorem nd_Run_signsTogether_87 : decode prog_7_method_6_code 87 = .ok (.aload_n 3, 1) := by decide +kernel
theorem nd_Run_signsTogether_88 : decode prog_7_method_6_code 88 = .ok (.getfield 97, 3) := by decide +kernel
theorem nd_Run_signsTogether_91 : decode prog_7_method_6_code 91 = .ok (.iload_n 1, 1) := by decide +kernel
theorem nd_Run_signsTogether_92 : decode prog_7_method_6_code 92 = .ok (.if_icmp .gt 17, 3) := by decide +kernel
theorem nd_Run_signsTogether_95 : decode prog_7_method_6_code 95 = .ok (.aload_n 3, 1) := by decide +kernel
theorem nd_Run_signsTogether_96 : decode prog_7_method_6_code 96 = .ok (.getfield 97, 3) := by decide +kernel
theorem nd_Run_signsTogether_99 : decode prog_7_method_6_code 99 = .ok (.aload_n 2, 1) := by decide +kernel
theorem nd_Run_signsTogether_100 : decode prog_7_method_6_code 100 = .ok (.getfield 102, 3) := by decide +kernel
theorem nd_Run_signsTogether_103 : decode prog_7_method_6_code 103 = .ok (.iadd, 1) := by decide +kernel
theorem nd_Run_signsTogether_104 : decode prog_7_method_6_code 104 = .ok (.bipush 24, 2) := by decide +kernel
theorem nd_Run_signsTogether_106 : decode prog_7_method_6_code 106 = .ok (.if_icmp .lt 5, 3) := by decide +kernel
theorem nd_Run_signsTogether_109 : decode prog_7_method_6_code 109 = .ok (.iconst 1, 1) := by decide +kernel
theorem nd_Run_signsTogether_110 : decode prog_7_method_6_code 110 = .ok (.ireturn, 1) := by decide +kernel
theorem nd_Run_signsTogether_111 : decode prog_7_method_6_code 111 = .ok (.aload_n 3, 1) := by decide +kernel
theorem nd_Run_signsTogether_112 : decode prog_7_method_6_code 112 = .ok (.getfield 97, 3) := by decide +kernel
theorem nd_Run_signsTogether_115 : decode prog_7_method_6_code 115 = .ok (.ireturn, 1) := by decide +kernel
def ny_P_fast : MethodName := ⟨"DrawnPaths", "fast", "(I)I"⟩
theorem nd_P_fast_0 : decode prog_1_method_10_code 0 = .ok (.iload_n 1, 1) := by decide +kernel
theorem nd_P_fast_1 : decode prog_1_method_10_code 1 = .ok (.invokestatic 117, 3) := by decide +kernel
theorem nd_P_fast_4 : decode prog_1_method_10_code 4 = .ok (.iconst 0, 1) := by decide +kernel
theorem nd_P_fast_5 : decode prog_1_method_10_code 5 = .ok (.istore_n 2, 1) := by decide +kernel
theorem nd_P_fast_6 : decode prog_1_method_10_code 6 = .ok (.iconst 0, 1) := by decide +kernel
theorem nd_P_fast_7 : decode prog_1_method_10_code 7 = .ok (.istore_n 3, 1) := by decide +kernel
theorem nd_P_fast_8 : decode prog_1_method_10_code 8 = .ok (.iload_n 3, 1) := by decide +kernel
theorem nd_P_fast_9 : decode prog_1_method_10_code 9 = .ok (.iload_n 1, 1) := by decide +kernel
theorem nd_P_fast_10 : decode prog_1_method_10_code 10 = .ok (.if_icmp .ge 44, 3) := by decide +kernel
theorem nd_P_fast_13 : decode prog_1_method_10_code 13 = .ok (.aload_n 0, 1) := by decide +kernel
theorem nd_P_fast_14 : decode prog_1_method_10_code 14 = .ok (.getfield 30, 3) := by decide +kernel
theorem nd_P_fast_17 : decode prog_1_method_10_code 17 = .ok (.invokevirtual 120, 3) := by decide +kernel
theorem nd_P_fast_20 : decode prog_1_method_10_code 20 = .ok (.ifCond .ne 34, 3) := by decide +kernel
theorem nd_P_fast_23 : decode prog_1_method_10_code 23 = .ok (.iload_n 2, 1) := by decide +kernel
theorem nd_P_fast_24 : decode prog_1_method_10_code 24 = .ok (.ifCond .ne 14, 3) := by decide +kernel
theorem nd_P_fast_27 : decode prog_1_method_10_code 27 = .ok (.aload_n 0, 1) := by decide +kernel
theorem nd_P_fast_28 : decode prog_1_method_10_code 28 = .ok (.getfield 30, 3) := by decide +kernel
theorem nd_P_fast_31 : decode prog_1_method_10_code 31 = .ok (.iload_n 1, 1) := by decide +kernel
theorem nd_P_fast_32 : decode prog_1_method_10_code 32 = .ok (.iload_n 3, 1) := by decide +kernel
theorem nd_P_fast_33 : decode prog_1_method_10_code 33 = .ok (.isub, 1) := by decide +kernel
theorem nd_P_fast_34 : decode prog_1_method_10_code 34 = .ok (.invokevirtual 127, 3) := by decide +kernel
theorem nd_P_fast_37 : decode prog_1_method_10_code 37 = .ok (.istore_n 2, 1) := by decide +kernel
theorem nd_P_fast_38 : decode prog_1_method_10_code 38 = .ok (.aload_n 0, 1) := by decide +kernel
theorem nd_P_fast_39 : decode prog_1_method_10_code 39 = .ok (.getfield 30, 3) := by decide +kernel
theorem nd_P_fast_42 : decode prog_1_method_10_code 42 = .ok (.invokevirtual 124, 3) := by decide +kernel
theorem nd_P_fast_45 : decode prog_1_method_10_code 45 = .ok (.iinc 2 (-1), 3) := by decide +kernel
theorem nd_P_fast_48 : decode prog_1_method_10_code 48 = .ok (.iinc 3 1, 3) := by decide +kernel
theorem nd_P_fast_51 : decode prog_1_method_10_code 51 = .ok (.goto (-43), 3) := by decide +kernel
theorem nd_P_fast_54 : decode prog_1_method_10_code 54 = .ok (.aload_n 0, 1) := by decide +kernel
theorem nd_P_fast_55 : decode prog_1_method_10_code 55 = .ok (.getfield 30, 3) := by decide +kernel
theorem nd_P_fast_58 : decode prog_1_method_10_code 58 = .ok (.invokevirtual 120, 3) := by decide +kernel
theorem nd_P_fast_61 : decode prog_1_method_10_code 61 = .ok (.ireturn, 1) := by decide +kernel
def ny_P_livingPointer : MethodName := ⟨"DrawnPaths", "livingPointer", "(I)LDrawnPaths$Pointer;"⟩
theorem nd_P_livingPointer_0 : decode prog_1_method_21_code 0 = .ok (.iload_n 1, 1) := by decide +kernel
theorem nd_P_livingPointer_1 : decode prog_1_method_21_code 1 = .ok (.ifCond .lt 14, 3) := by decide +kernel
theorem nd_P_livingPointer_4 : decode prog_1_method_21_code 4 = .ok (.iload_n 1, 1) := by decide +kernel
theorem nd_P_livingPointer_5 : decode prog_1_method_21_code 5 = .ok (.aload_n 0, 1) := by decide +kernel
theorem nd_P_livingPointer_6 : decode prog_1_method_21_code 6 = .ok (.getfield 30, 3) := by decide +kernel
theorem nd_P_livingPointer_9 : decode prog_1_method_21_code 9 = .ok (.getfield 168, 3) := by decide +kernel
theorem nd_P_livingPointer_12 : decode prog_1_method_21_code 12 = .ok (.if_icmp .lt 13, 3) := by decide +kernel
theorem nd_P_livingPointer_15 : decode prog_1_method_21_code 15 = .ok (.new 159, 3) := by decide +kernel
theorem nd_P_livingPointer_18 : decode prog_1_method_21_code 18 = .ok (.dup, 1) := by decide +kernel
theorem nd_P_livingPointer_19 : decode prog_1_method_21_code 19 = .ok (.ldc 219, 2) := by decide +kernel
theorem nd_P_livingPointer_21 : decode prog_1_method_21_code 21 = .ok (.invokespecial 163, 3) := by decide +kernel
theorem nd_P_livingPointer_24 : decode prog_1_method_21_code 24 = .ok (.athrow, 1) := by decide +kernel
theorem nd_P_livingPointer_25 : decode prog_1_method_21_code 25 = .ok (.aload_n 0, 1) := by decide +kernel
theorem nd_P_livingPointer_26 : decode prog_1_method_21_code 26 = .ok (.getfield 30, 3) := by decide +kernel
theorem nd_P_livingPointer_29 : decode prog_1_method_21_code 29 = .ok (.getfield 221, 3) := by decide +kernel
theorem nd_P_livingPointer_32 : decode prog_1_method_21_code 32 = .ok (.iload_n 1, 1) := by decide +kernel
theorem nd_P_livingPointer_33 : decode prog_1_method_21_code 33 = .ok (.aaload, 1) := by decide +kernel
theorem nd_P_livingPointer_34 : decode prog_1_method_21_code 34 = .ok (.areturn, 1) := by decide +kernel
def ny_P_pointer : MethodName := ⟨"DrawnPaths", "pointer", "(II)I"⟩
theorem nd_P_pointer_0 : decode prog_1_method_11_code 0 = .ok (.aload_n 0, 1) := by decide +kernel
theorem nd_P_pointer_1 : decode prog_1_method_11_code 1 = .ok (.iload_n 1, 1) := by decide +kernel
theorem nd_P_pointer_2 : decode prog_1_method_11_code 2 = .ok (.invokevirtual 131, 3) := by decide +kernel
theorem nd_P_pointer_5 : decode prog_1_method_11_code 5 = .ok (.astore_n 3, 1) := by decide +kernel
theorem nd_P_pointer_6 : decode prog_1_method_11_code 6 = .ok (.iload_n 2, 1) := by decide +kernel
theorem nd_P_pointer_7 : decode prog_1_method_11_code 7 = .ok (.tableswitch 85 0 5 #[37, 48, 59, 67, 75, 80], 37) := by decide +kernel
theorem nd_P_pointer_44 : decode prog_1_method_11_code 44 = .ok (.aload_n 3, 1) := by decide +kernel
theorem nd_P_pointer_45 : decode prog_1_method_11_code 45 = .ok (.getfield 135, 3) := by decide +kernel
theorem nd_P_pointer_48 : decode prog_1_method_11_code 48 = .ok (.invokestatic 140, 3) := by decide +kernel
theorem nd_P_pointer_51 : decode prog_1_method_11_code 51 = .ok (.bipush 12, 2) := by decide +kernel
theorem nd_P_pointer_53 : decode prog_1_method_11_code 53 = .ok (.irem, 1) := by decide +kernel
theorem nd_P_pointer_54 : decode prog_1_method_11_code 54 = .ok (.ireturn, 1) := by decide +kernel
theorem nd_P_pointer_55 : decode prog_1_method_11_code 55 = .ok (.aload_n 3, 1) := by decide +kernel
theorem nd_P_pointer_56 : decode prog_1_method_11_code 56 = .ok (.getfield 135, 3) := by decide +kernel
theorem nd_P_pointer_59 : decode prog_1_method_11_code 59 = .ok (.invokestatic 140, 3) := by decide +kernel
theorem nd_P_pointer_62 : decode prog_1_method_11_code 62 = .ok (.bipush 12, 2) := by decide +kernel
theorem nd_P_pointer_64 : decode prog_1_method_11_code 64 = .ok (.idiv, 1) := by decide +kernel
theorem nd_P_pointer_65 : decode prog_1_method_11_code 65 = .ok (.ireturn, 1) := by decide +kernel
theorem nd_P_pointer_66 : decode prog_1_method_11_code 66 = .ok (.aload_n 3, 1) := by decide +kernel
theorem nd_P_pointer_67 : decode prog_1_method_11_code 67 = .ok (.getfield 135, 3) := by decide +kernel
theorem nd_P_pointer_70 : decode prog_1_method_11_code 70 = .ok (.invokestatic 145, 3) := by decide +kernel
theorem nd_P_pointer_73 : decode prog_1_method_11_code 73 = .ok (.ireturn, 1) := by decide +kernel
theorem nd_P_pointer_74 : decode prog_1_method_11_code 74 = .ok (.aload_n 3, 1) := by decide +kernel
theorem nd_P_pointer_75 : decode prog_1_method_11_code 75 = .ok (.getfield 135, 3) := by decide +kernel
theorem nd_P_pointer_78 : decode prog_1_method_11_code 78 = .ok (.invokestatic 148, 3) := by decide +kernel
theorem nd_P_pointer_81 : decode prog_1_method_11_code 81 = .ok (.ireturn, 1) := by decide +kernel
theorem nd_P_pointer_82 : decode prog_1_method_11_code 82 = .ok (.aload_n 3, 1) := by decide +kernel
theorem nd_P_pointer_83 : decode prog_1_method_11_code 83 = .ok (.getfield 151, 3) := by decide +kernel
theorem nd_P_pointer_86 : decode prog_1_method_11_code 86 = .ok (.ireturn, 1) := by decide +kernel
theorem nd_P_pointer_87 : decode prog_1_method_11_code 87 = .ok (.aload_n 3, 1) := by decide +kernel
theorem nd_P_pointer_88 : decode prog_1_method_11_code 88 = .ok (.getfield 154, 3) := by decide +kernel
theorem nd_P_pointer_91 : decode prog_1_method_11_code 91 = .ok (.ireturn, 1) := by decide +kernel
theorem nd_P_pointer_92 : decode prog_1_method_11_code 92 = .ok (.new 61, 3) := by decide +kernel
theorem nd_P_pointer_95 : decode prog_1_method_11_code 95 = .ok (.dup, 1) := by decide +kernel
theorem nd_P_pointer_96 : decode prog_1_method_11_code 96 = .ok (.ldc 157, 2) := by decide +kernel
theorem nd_P_pointer_98 : decode prog_1_method_11_code 98 = .ok (.invokespecial 65, 3) := by decide +kernel
theorem nd_P_pointer_101 : decode prog_1_method_11_code 101 = .ok (.athrow, 1) := by decide +kernel
def ny_P_value : MethodName := ⟨"DrawnPaths", "value", "(II)J"⟩
theorem nd_P_value_0 : decode prog_1_method_12_code 0 = .ok (.aload_n 0, 1) := by decide +kernel
theorem nd_P_value_1 : decode prog_1_method_12_code 1 = .ok (.iload_n 1, 1) := by decide +kernel
theorem nd_P_value_2 : decode prog_1_method_12_code 2 = .ok (.invokevirtual 131, 3) := by decide +kernel
theorem nd_P_value_5 : decode prog_1_method_12_code 5 = .ok (.astore_n 3, 1) := by decide +kernel
theorem nd_P_value_6 : decode prog_1_method_12_code 6 = .ok (.iload_n 2, 1) := by decide +kernel
theorem nd_P_value_7 : decode prog_1_method_12_code 7 = .ok (.ifCond .lt 11, 3) := by decide +kernel
theorem nd_P_value_10 : decode prog_1_method_12_code 10 = .ok (.iload_n 2, 1) := by decide +kernel
theorem nd_P_value_11 : decode prog_1_method_12_code 11 = .ok (.aload_n 3, 1) := by decide +kernel
theorem nd_P_value_12 : decode prog_1_method_12_code 12 = .ok (.getfield 151, 3) := by decide +kernel
theorem nd_P_value_15 : decode prog_1_method_12_code 15 = .ok (.if_icmp .lt 13, 3) := by decide +kernel
theorem nd_P_value_18 : decode prog_1_method_12_code 18 = .ok (.new 159, 3) := by decide +kernel
theorem nd_P_value_21 : decode prog_1_method_12_code 21 = .ok (.dup, 1) := by decide +kernel
theorem nd_P_value_22 : decode prog_1_method_12_code 22 = .ok (.ldc 161, 2) := by decide +kernel
theorem nd_P_value_24 : decode prog_1_method_12_code 24 = .ok (.invokespecial 163, 3) := by decide +kernel
theorem nd_P_value_27 : decode prog_1_method_12_code 27 = .ok (.athrow, 1) := by decide +kernel
theorem nd_P_value_28 : decode prog_1_method_12_code 28 = .ok (.aload_n 3, 1) := by decide +kernel
theorem nd_P_value_29 : decode prog_1_method_12_code 29 = .ok (.iload_n 2, 1) := by decide +kernel
theorem nd_P_value_30 : decode prog_1_method_12_code 30 = .ok (.i2l, 1) := by decide +kernel
theorem nd_P_value_31 : decode prog_1_method_12_code 31 = .ok (.invokevirtual 164, 3) := by decide +kernel
theorem nd_P_value_34 : decode prog_1_method_12_code 34 = .ok (.lreturn, 1) := by decide +kernel
def ny_Search_reach : MethodName := ⟨"DrawnPaths$Search", "reach", "(I)V"⟩
theorem nd_Search_reach_0 : decode prog_8_method_4_code 0 = .ok (.iload_n 1, 1) := by decide +kernel
theorem nd_Search_reach_1 : decode prog_8_method_4_code 1 = .ok (.invokestatic 32, 3) := by decide +kernel
theorem nd_Search_reach_4 : decode prog_8_method_4_code 4 = .ok (.istore_n 2, 1) := by decide +kernel
theorem nd_Search_reach_5 : decode prog_8_method_4_code 5 = .ok (.iconst 1, 1) := by decide +kernel
theorem nd_Search_reach_6 : decode prog_8_method_4_code 6 = .ok (.iload_n 1, 1) := by decide +kernel
theorem nd_Search_reach_7 : decode prog_8_method_4_code 7 = .ok (.bipush 7, 2) := by decide +kernel
theorem nd_Search_reach_9 : decode prog_8_method_4_code 9 = .ok (.iand, 1) := by decide +kernel
theorem nd_Search_reach_10 : decode prog_8_method_4_code 10 = .ok (.ishl, 1) := by decide +kernel
theorem nd_Search_reach_11 : decode prog_8_method_4_code 11 = .ok (.istore_n 3, 1) := by decide +kernel
theorem nd_Search_reach_12 : decode prog_8_method_4_code 12 = .ok (.aload_n 0, 1) := by decide +kernel
theorem nd_Search_reach_13 : decode prog_8_method_4_code 13 = .ok (.getfield 9, 3) := by decide +kernel
theorem nd_Search_reach_16 : decode prog_8_method_4_code 16 = .ok (.iload_n 2, 1) := by decide +kernel
theorem nd_Search_reach_17 : decode prog_8_method_4_code 17 = .ok (.iaload, 1) := by decide +kernel
theorem nd_Search_reach_18 : decode prog_8_method_4_code 18 = .ok (.iload_n 3, 1) := by decide +kernel
theorem nd_Search_reach_19 : decode prog_8_method_4_code 19 = .ok (.iand, 1) := by decide +kernel
theorem nd_Search_reach_20 : decode prog_8_method_4_code 20 = .ok (.ifCond .ne 43, 3) := by decide +kernel
theorem nd_Search_reach_23 : decode prog_8_method_4_code 23 = .ok (.aload_n 0, 1) := by decide +kernel
theorem nd_Search_reach_24 : decode prog_8_method_4_code 24 = .ok (.getfield 18, 3) := by decide +kernel
theorem nd_Search_reach_27 : decode prog_8_method_4_code 27 = .ok (.sipush 768, 3) := by decide +kernel
theorem nd_Search_reach_30 : decode prog_8_method_4_code 30 = .ok (.if_icmp .ge 33, 3) := by decide +kernel
theorem nd_Search_reach_33 : decode prog_8_method_4_code 33 = .ok (.aload_n 0, 1) := by decide +kernel
theorem nd_Search_reach_34 : decode prog_8_method_4_code 34 = .ok (.getfield 9, 3) := by decide +kernel
theorem nd_Search_reach_37 : decode prog_8_method_4_code 37 = .ok (.iload_n 2, 1) := by decide +kernel
theorem nd_Search_reach_38 : decode prog_8_method_4_code 38 = .ok (.dup2, 1) := by decide +kernel
theorem nd_Search_reach_39 : decode prog_8_method_4_code 39 = .ok (.iaload, 1) := by decide +kernel
theorem nd_Search_reach_40 : decode prog_8_method_4_code 40 = .ok (.iload_n 3, 1) := by decide +kernel
theorem nd_Search_reach_41 : decode prog_8_method_4_code 41 = .ok (.ior, 1) := by decide +kernel
theorem nd_Search_reach_42 : decode prog_8_method_4_code 42 = .ok (.iastore, 1) := by decide +kernel
theorem nd_Search_reach_43 : decode prog_8_method_4_code 43 = .ok (.aload_n 0, 1) := by decide +kernel
theorem nd_Search_reach_44 : decode prog_8_method_4_code 44 = .ok (.getfield 15, 3) := by decide +kernel
theorem nd_Search_reach_47 : decode prog_8_method_4_code 47 = .ok (.aload_n 0, 1) := by decide +kernel
theorem nd_Search_reach_48 : decode prog_8_method_4_code 48 = .ok (.getfield 18, 3) := by decide +kernel
theorem nd_Search_reach_51 : decode prog_8_method_4_code 51 = .ok (.iload_n 1, 1) := by decide +kernel
theorem nd_Search_reach_52 : decode prog_8_method_4_code 52 = .ok (.iastore, 1) := by decide +kernel
theorem nd_Search_reach_53 : decode prog_8_method_4_code 53 = .ok (.aload_n 0, 1) := by decide +kernel
theorem nd_Search_reach_54 : decode prog_8_method_4_code 54 = .ok (.dup, 1) := by decide +kernel
theorem nd_Search_reach_55 : decode prog_8_method_4_code 55 = .ok (.getfield 18, 3) := by decide +kernel
theorem nd_Search_reach_58 : decode prog_8_method_4_code 58 = .ok (.iconst 1, 1) := by decide +kernel
theorem nd_Search_reach_59 : decode prog_8_method_4_code 59 = .ok (.iadd, 1) := by decide +kernel
theorem nd_Search_reach_60 : decode prog_8_method_4_code 60 = .ok (.putfield 18, 3) := by decide +kernel
theorem nd_Search_reach_63 : decode prog_8_method_4_code 63 = .ok (.return_, 1) := by decide +kernel
def ny_Search_follow : MethodName := ⟨"DrawnPaths$Search", "follow", "(IC)V"⟩
theorem nd_Search_follow_0 : decode prog_8_method_5_code 0 = .ok (.iload_n 1, 1) := by decide +kernel
theorem nd_Search_follow_1 : decode prog_8_method_5_code 1 = .ok (.iload_n 2, 1) := by decide +kernel
theorem nd_Search_follow_2 : decode prog_8_method_5_code 2 = .ok (.invokestatic 40, 3) := by decide +kernel
theorem nd_Search_follow_5 : decode prog_8_method_5_code 5 = .ok (.istore_n 3, 1) := by decide +kernel
theorem nd_Search_follow_6 : decode prog_8_method_5_code 6 = .ok (.iload_n 3, 1) := by decide +kernel
theorem nd_Search_follow_7 : decode prog_8_method_5_code 7 = .ok (.ifCond .eq 16, 3) := by decide +kernel
theorem nd_Search_follow_10 : decode prog_8_method_5_code 10 = .ok (.iload_n 2, 1) := by decide +kernel
theorem nd_Search_follow_11 : decode prog_8_method_5_code 11 = .ok (.bipush 82, 2) := by decide +kernel
theorem nd_Search_follow_13 : decode prog_8_method_5_code 13 = .ok (.if_icmp .eq 9, 3) := by decide +kernel
theorem nd_Search_follow_16 : decode prog_8_method_5_code 16 = .ok (.iload_n 2, 1) := by decide +kernel
theorem nd_Search_follow_17 : decode prog_8_method_5_code 17 = .ok (.bipush 64, 2) := by decide +kernel
theorem nd_Search_follow_19 : decode prog_8_method_5_code 19 = .ok (.if_icmp .ne 4, 3) := by decide +kernel
theorem nd_Search_follow_22 : decode prog_8_method_5_code 22 = .ok (.return_, 1) := by decide +kernel
theorem nd_Search_follow_23 : decode prog_8_method_5_code 23 = .ok (.iload_n 3, 1) := by decide +kernel
theorem nd_Search_follow_24 : decode prog_8_method_5_code 24 = .ok (.ifCond .eq 27, 3) := by decide +kernel
theorem nd_Search_follow_27 : decode prog_8_method_5_code 27 = .ok (.iload_n 2, 1) := by decide +kernel
theorem nd_Search_follow_28 : decode prog_8_method_5_code 28 = .ok (.bipush 63, 2) := by decide +kernel
theorem nd_Search_follow_30 : decode prog_8_method_5_code 30 = .ok (.if_icmp .eq 9, 3) := by decide +kernel
theorem nd_Search_follow_33 : decode prog_8_method_5_code 33 = .ok (.iload_n 2, 1) := by decide +kernel
theorem nd_Search_follow_34 : decode prog_8_method_5_code 34 = .ok (.bipush 102, 2) := by decide +kernel
theorem nd_Search_follow_36 : decode prog_8_method_5_code 36 = .ok (.if_icmp .ne 15, 3) := by decide +kernel
theorem nd_Search_follow_39 : decode prog_8_method_5_code 39 = .ok (.aload_n 0, 1) := by decide +kernel
theorem nd_Search_follow_40 : decode prog_8_method_5_code 40 = .ok (.iload_n 1, 1) := by decide +kernel
theorem nd_Search_follow_41 : decode prog_8_method_5_code 41 = .ok (.iconst 3, 1) := by decide +kernel
theorem nd_Search_follow_42 : decode prog_8_method_5_code 42 = .ok (.invokestatic 44, 3) := by decide +kernel
theorem nd_Search_follow_45 : decode prog_8_method_5_code 45 = .ok (.invokestatic 48, 3) := by decide +kernel
theorem nd_Search_follow_48 : decode prog_8_method_5_code 48 = .ok (.invokevirtual 28, 3) := by decide +kernel
theorem nd_Search_follow_51 : decode prog_8_method_5_code 51 = .ok (.iload_n 3, 1) := by decide +kernel
theorem nd_Search_follow_52 : decode prog_8_method_5_code 52 = .ok (.ifCond .eq 21, 3) := by decide +kernel
theorem nd_Search_follow_55 : decode prog_8_method_5_code 55 = .ok (.iload_n 2, 1) := by decide +kernel
theorem nd_Search_follow_56 : decode prog_8_method_5_code 56 = .ok (.bipush 63, 2) := by decide +kernel
theorem nd_Search_follow_58 : decode prog_8_method_5_code 58 = .ok (.if_icmp .ne 15, 3) := by decide +kernel
theorem nd_Search_follow_61 : decode prog_8_method_5_code 61 = .ok (.aload_n 0, 1) := by decide +kernel
theorem nd_Search_follow_62 : decode prog_8_method_5_code 62 = .ok (.iload_n 1, 1) := by decide +kernel
theorem nd_Search_follow_63 : decode prog_8_method_5_code 63 = .ok (.iconst 1, 1) := by decide +kernel
theorem nd_Search_follow_64 : decode prog_8_method_5_code 64 = .ok (.invokestatic 44, 3) := by decide +kernel
theorem nd_Search_follow_67 : decode prog_8_method_5_code 67 = .ok (.invokestatic 48, 3) := by decide +kernel
theorem nd_Search_follow_70 : decode prog_8_method_5_code 70 = .ok (.invokevirtual 28, 3) := by decide +kernel
theorem nd_Search_follow_73 : decode prog_8_method_5_code 73 = .ok (.aload_n 0, 1) := by decide +kernel
theorem nd_Search_follow_74 : decode prog_8_method_5_code 74 = .ok (.iload_n 1, 1) := by decide +kernel
theorem nd_Search_follow_75 : decode prog_8_method_5_code 75 = .ok (.iload_n 2, 1) := by decide +kernel
theorem nd_Search_follow_76 : decode prog_8_method_5_code 76 = .ok (.invokestatic 51, 3) := by decide +kernel
theorem nd_Search_follow_79 : decode prog_8_method_5_code 79 = .ok (.invokevirtual 28, 3) := by decide +kernel
theorem nd_Search_follow_82 : decode prog_8_method_5_code 82 = .ok (.return_, 1) := by decide +kernel
def ny_Search_explore : MethodName := ⟨"DrawnPaths$Search", "explore", "([C)V"⟩
theorem nd_Search_explore_0 : decode prog_8_method_2_code 0 = .ok (.iconst 0, 1) := by decide +kernel
theorem nd_Search_explore_1 : decode prog_8_method_2_code 1 = .ok (.istore_n 2, 1) := by decide +kernel
theorem nd_Search_explore_2 : decode prog_8_method_2_code 2 = .ok (.iload_n 2, 1) := by decide +kernel
theorem nd_Search_explore_3 : decode prog_8_method_2_code 3 = .ok (.bipush 96, 2) := by decide +kernel
theorem nd_Search_explore_5 : decode prog_8_method_2_code 5 = .ok (.if_icmp .ge 16, 3) := by decide +kernel
theorem nd_Search_explore_8 : decode prog_8_method_2_code 8 = .ok (.aload_n 0, 1) := by decide +kernel
theorem nd_Search_explore_9 : decode prog_8_method_2_code 9 = .ok (.getfield 9, 3) := by decide +kernel
theorem nd_Search_explore_12 : decode prog_8_method_2_code 12 = .ok (.iload_n 2, 1) := by decide +kernel
theorem nd_Search_explore_13 : decode prog_8_method_2_code 13 = .ok (.iconst 0, 1) := by decide +kernel
theorem nd_Search_explore_14 : decode prog_8_method_2_code 14 = .ok (.iastore, 1) := by decide +kernel
theorem nd_Search_explore_15 : decode prog_8_method_2_code 15 = .ok (.iinc 2 1, 3) := by decide +kernel
theorem nd_Search_explore_18 : decode prog_8_method_2_code 18 = .ok (.goto (-16), 3) := by decide +kernel
theorem nd_Search_explore_21 : decode prog_8_method_2_code 21 = .ok (.aload_n 0, 1) := by decide +kernel
theorem nd_Search_explore_22 : decode prog_8_method_2_code 22 = .ok (.iconst 0, 1) := by decide +kernel
theorem nd_Search_explore_23 : decode prog_8_method_2_code 23 = .ok (.putfield 18, 3) := by decide +kernel
theorem nd_Search_explore_26 : decode prog_8_method_2_code 26 = .ok (.aload_n 0, 1) := by decide +kernel
theorem nd_Search_explore_27 : decode prog_8_method_2_code 27 = .ok (.iconst 0, 1) := by decide +kernel
theorem nd_Search_explore_28 : decode prog_8_method_2_code 28 = .ok (.iconst 0, 1) := by decide +kernel
theorem nd_Search_explore_29 : decode prog_8_method_2_code 29 = .ok (.iconst 0, 1) := by decide +kernel
theorem nd_Search_explore_30 : decode prog_8_method_2_code 30 = .ok (.invokestatic 22, 3) := by decide +kernel
theorem nd_Search_explore_33 : decode prog_8_method_2_code 33 = .ok (.invokevirtual 28, 3) := by decide +kernel
theorem nd_Search_explore_36 : decode prog_8_method_2_code 36 = .ok (.iconst 0, 1) := by decide +kernel
theorem nd_Search_explore_37 : decode prog_8_method_2_code 37 = .ok (.istore_n 2, 1) := by decide +kernel
theorem nd_Search_explore_38 : decode prog_8_method_2_code 38 = .ok (.iload_n 2, 1) := by decide +kernel
theorem nd_Search_explore_39 : decode prog_8_method_2_code 39 = .ok (.sipush 768, 3) := by decide +kernel
theorem nd_Search_explore_42 : decode prog_8_method_2_code 42 = .ok (.if_icmp .ge 38, 3) := by decide +kernel
theorem nd_Search_explore_45 : decode prog_8_method_2_code 45 = .ok (.iload_n 2, 1) := by decide +kernel
theorem nd_Search_explore_46 : decode prog_8_method_2_code 46 = .ok (.aload_n 0, 1) := by decide +kernel
theorem nd_Search_explore_47 : decode prog_8_method_2_code 47 = .ok (.getfield 18, 3) := by decide +kernel
theorem nd_Search_explore_50 : decode prog_8_method_2_code 50 = .ok (.if_icmp .ge 30, 3) := by decide +kernel
theorem nd_Search_explore_53 : decode prog_8_method_2_code 53 = .ok (.aload_n 0, 1) := by decide +kernel
theorem nd_Search_explore_54 : decode prog_8_method_2_code 54 = .ok (.aload_n 0, 1) := by decide +kernel
theorem nd_Search_explore_55 : decode prog_8_method_2_code 55 = .ok (.getfield 15, 3) := by decide +kernel
theorem nd_Search_explore_58 : decode prog_8_method_2_code 58 = .ok (.iload_n 2, 1) := by decide +kernel
theorem nd_Search_explore_59 : decode prog_8_method_2_code 59 = .ok (.iaload, 1) := by decide +kernel
theorem nd_Search_explore_60 : decode prog_8_method_2_code 60 = .ok (.aload_n 1, 1) := by decide +kernel
theorem nd_Search_explore_61 : decode prog_8_method_2_code 61 = .ok (.aload_n 0, 1) := by decide +kernel
theorem nd_Search_explore_62 : decode prog_8_method_2_code 62 = .ok (.getfield 15, 3) := by decide +kernel
theorem nd_Search_explore_65 : decode prog_8_method_2_code 65 = .ok (.iload_n 2, 1) := by decide +kernel
theorem nd_Search_explore_66 : decode prog_8_method_2_code 66 = .ok (.iaload, 1) := by decide +kernel
theorem nd_Search_explore_67 : decode prog_8_method_2_code 67 = .ok (.invokestatic 32, 3) := by decide +kernel
theorem nd_Search_explore_70 : decode prog_8_method_2_code 70 = .ok (.caload, 1) := by decide +kernel
theorem nd_Search_explore_71 : decode prog_8_method_2_code 71 = .ok (.invokevirtual 36, 3) := by decide +kernel
theorem nd_Search_explore_74 : decode prog_8_method_2_code 74 = .ok (.iinc 2 1, 3) := by decide +kernel
theorem nd_Search_explore_77 : decode prog_8_method_2_code 77 = .ok (.goto (-39), 3) := by decide +kernel
theorem nd_Search_explore_80 : decode prog_8_method_2_code 80 = .ok (.return_, 1) := by decide +kernel
def ny_Search_cameTo : MethodName := ⟨"DrawnPaths$Search", "cameTo", "(I)Z"⟩
theorem nd_Search_cameTo_0 : decode prog_8_method_3_code 0 = .ok (.aload_n 0, 1) := by decide +kernel
theorem nd_Search_cameTo_1 : decode prog_8_method_3_code 1 = .ok (.getfield 9, 3) := by decide +kernel
theorem nd_Search_cameTo_4 : decode prog_8_method_3_code 4 = .ok (.iload_n 1, 1) := by decide +kernel
theorem nd_Search_cameTo_5 : decode prog_8_method_3_code 5 = .ok (.iaload, 1) := by decide +kernel
theorem nd_Search_cameTo_6 : decode prog_8_method_3_code 6 = .ok (.ifCond .eq 7, 3) := by decide +kernel
theorem nd_Search_cameTo_9 : decode prog_8_method_3_code 9 = .ok (.iconst 1, 1) := by decide +kernel
theorem nd_Search_cameTo_10 : decode prog_8_method_3_code 10 = .ok (.goto 4, 3) := by decide +kernel
theorem nd_Search_cameTo_13 : decode prog_8_method_3_code 13 = .ok (.iconst 0, 1) := by decide +kernel
theorem nd_Search_cameTo_14 : decode prog_8_method_3_code 14 = .ok (.ireturn, 1) := by decide +kernel
def ny_P_lostPlaces : MethodName := ⟨"DrawnPaths", "lostPlaces", "()I"⟩
theorem nd_P_lostPlaces_0 : decode prog_1_method_20_code 0 = .ok (.aload_n 0, 1) := by decide +kernel
theorem nd_P_lostPlaces_1 : decode prog_1_method_20_code 1 = .ok (.getfield 37, 3) := by decide +kernel
theorem nd_P_lostPlaces_4 : decode prog_1_method_20_code 4 = .ok (.aload_n 0, 1) := by decide +kernel
theorem nd_P_lostPlaces_5 : decode prog_1_method_20_code 5 = .ok (.getfield 21, 3) := by decide +kernel
theorem nd_P_lostPlaces_8 : decode prog_1_method_20_code 8 = .ok (.getfield 68, 3) := by decide +kernel
theorem nd_P_lostPlaces_11 : decode prog_1_method_20_code 11 = .ok (.invokevirtual 205, 3) := by decide +kernel
theorem nd_P_lostPlaces_14 : decode prog_1_method_20_code 14 = .ok (.iconst 0, 1) := by decide +kernel
theorem nd_P_lostPlaces_15 : decode prog_1_method_20_code 15 = .ok (.istore_n 1, 1) := by decide +kernel
theorem nd_P_lostPlaces_16 : decode prog_1_method_20_code 16 = .ok (.iconst 0, 1) := by decide +kernel
theorem nd_P_lostPlaces_17 : decode prog_1_method_20_code 17 = .ok (.istore_n 2, 1) := by decide +kernel
theorem nd_P_lostPlaces_18 : decode prog_1_method_20_code 18 = .ok (.iload_n 2, 1) := by decide +kernel
theorem nd_P_lostPlaces_19 : decode prog_1_method_20_code 19 = .ok (.bipush 96, 2) := by decide +kernel
theorem nd_P_lostPlaces_21 : decode prog_1_method_20_code 21 = .ok (.if_icmp .ge 37, 3) := by decide +kernel
theorem nd_P_lostPlaces_24 : decode prog_1_method_20_code 24 = .ok (.aload_n 0, 1) := by decide +kernel
theorem nd_P_lostPlaces_25 : decode prog_1_method_20_code 25 = .ok (.getfield 21, 3) := by decide +kernel
theorem nd_P_lostPlaces_28 : decode prog_1_method_20_code 28 = .ok (.getfield 68, 3) := by decide +kernel
theorem nd_P_lostPlaces_31 : decode prog_1_method_20_code 31 = .ok (.iload_n 2, 1) := by decide +kernel
theorem nd_P_lostPlaces_32 : decode prog_1_method_20_code 32 = .ok (.caload, 1) := by decide +kernel
theorem nd_P_lostPlaces_33 : decode prog_1_method_20_code 33 = .ok (.bipush 32, 2) := by decide +kernel
theorem nd_P_lostPlaces_35 : decode prog_1_method_20_code 35 = .ok (.if_icmp .eq 17, 3) := by decide +kernel
theorem nd_P_lostPlaces_38 : decode prog_1_method_20_code 38 = .ok (.aload_n 0, 1) := by decide +kernel
theorem nd_P_lostPlaces_39 : decode prog_1_method_20_code 39 = .ok (.getfield 37, 3) := by decide +kernel
theorem nd_P_lostPlaces_42 : decode prog_1_method_20_code 42 = .ok (.iload_n 2, 1) := by decide +kernel
theorem nd_P_lostPlaces_43 : decode prog_1_method_20_code 43 = .ok (.invokevirtual 209, 3) := by decide +kernel
theorem nd_P_lostPlaces_46 : decode prog_1_method_20_code 46 = .ok (.ifCond .ne 6, 3) := by decide +kernel
theorem nd_P_lostPlaces_49 : decode prog_1_method_20_code 49 = .ok (.iinc 1 1, 3) := by decide +kernel
theorem nd_P_lostPlaces_52 : decode prog_1_method_20_code 52 = .ok (.iinc 2 1, 3) := by decide +kernel
theorem nd_P_lostPlaces_55 : decode prog_1_method_20_code 55 = .ok (.goto (-37), 3) := by decide +kernel
theorem nd_P_lostPlaces_58 : decode prog_1_method_20_code 58 = .ok (.iload_n 1, 1) := by decide +kernel
theorem nd_P_lostPlaces_59 : decode prog_1_method_20_code 59 = .ok (.ireturn, 1) := by decide +kernel
def ny_P_count : MethodName := ⟨"DrawnPaths", "count", "(I)I"⟩
theorem nd_P_count_0 : decode prog_1_method_13_code 0 = .ok (.iload_n 1, 1) := by decide +kernel
theorem nd_P_count_1 : decode prog_1_method_13_code 1 = .ok (.tableswitch 104 0 6 #[43, 51, 59, 67, 75, 91, 99], 43) := by decide +kernel
theorem nd_P_count_44 : decode prog_1_method_13_code 44 = .ok (.aload_n 0, 1) := by decide +kernel
theorem nd_P_count_45 : decode prog_1_method_13_code 45 = .ok (.getfield 30, 3) := by decide +kernel
theorem nd_P_count_48 : decode prog_1_method_13_code 48 = .ok (.getfield 168, 3) := by decide +kernel
theorem nd_P_count_51 : decode prog_1_method_13_code 51 = .ok (.ireturn, 1) := by decide +kernel
theorem nd_P_count_52 : decode prog_1_method_13_code 52 = .ok (.aload_n 0, 1) := by decide +kernel
theorem nd_P_count_53 : decode prog_1_method_13_code 53 = .ok (.getfield 30, 3) := by decide +kernel
theorem nd_P_count_56 : decode prog_1_method_13_code 56 = .ok (.getfield 171, 3) := by decide +kernel
theorem nd_P_count_59 : decode prog_1_method_13_code 59 = .ok (.ireturn, 1) := by decide +kernel
theorem nd_P_count_60 : decode prog_1_method_13_code 60 = .ok (.aload_n 0, 1) := by decide +kernel
theorem nd_P_count_61 : decode prog_1_method_13_code 61 = .ok (.getfield 10, 3) := by decide +kernel
theorem nd_P_count_64 : decode prog_1_method_13_code 64 = .ok (.getfield 174, 3) := by decide +kernel
theorem nd_P_count_67 : decode prog_1_method_13_code 67 = .ok (.ireturn, 1) := by decide +kernel
theorem nd_P_count_68 : decode prog_1_method_13_code 68 = .ok (.aload_n 0, 1) := by decide +kernel
theorem nd_P_count_69 : decode prog_1_method_13_code 69 = .ok (.getfield 10, 3) := by decide +kernel
theorem nd_P_count_72 : decode prog_1_method_13_code 72 = .ok (.getfield 177, 3) := by decide +kernel
theorem nd_P_count_75 : decode prog_1_method_13_code 75 = .ok (.ireturn, 1) := by decide +kernel
theorem nd_P_count_76 : decode prog_1_method_13_code 76 = .ok (.aload_n 0, 1) := by decide +kernel
theorem nd_P_count_77 : decode prog_1_method_13_code 77 = .ok (.getfield 30, 3) := by decide +kernel
theorem nd_P_count_80 : decode prog_1_method_13_code 80 = .ok (.getfield 95, 3) := by decide +kernel
theorem nd_P_count_83 : decode prog_1_method_13_code 83 = .ok (.aload_n 0, 1) := by decide +kernel
theorem nd_P_count_84 : decode prog_1_method_13_code 84 = .ok (.getfield 30, 3) := by decide +kernel
theorem nd_P_count_87 : decode prog_1_method_13_code 87 = .ok (.getfield 180, 3) := by decide +kernel
theorem nd_P_count_90 : decode prog_1_method_13_code 90 = .ok (.isub, 1) := by decide +kernel
theorem nd_P_count_91 : decode prog_1_method_13_code 91 = .ok (.ireturn, 1) := by decide +kernel
theorem nd_P_count_92 : decode prog_1_method_13_code 92 = .ok (.aload_n 0, 1) := by decide +kernel
theorem nd_P_count_93 : decode prog_1_method_13_code 93 = .ok (.getfield 30, 3) := by decide +kernel
theorem nd_P_count_96 : decode prog_1_method_13_code 96 = .ok (.invokevirtual 120, 3) := by decide +kernel
theorem nd_P_count_99 : decode prog_1_method_13_code 99 = .ok (.ireturn, 1) := by decide +kernel
theorem nd_P_count_100 : decode prog_1_method_13_code 100 = .ok (.aload_n 0, 1) := by decide +kernel
theorem nd_P_count_101 : decode prog_1_method_13_code 101 = .ok (.invokevirtual 183, 3) := by decide +kernel
theorem nd_P_count_104 : decode prog_1_method_13_code 104 = .ok (.ireturn, 1) := by decide +kernel
theorem nd_P_count_105 : decode prog_1_method_13_code 105 = .ok (.iconst (-1), 1) := by decide +kernel
theorem nd_P_count_106 : decode prog_1_method_13_code 106 = .ok (.ireturn, 1) := by decide +kernel
def ny_Blocks_over : MethodName := ⟨"DrawnPaths$Blocks", "over", "(I)I"⟩
theorem nd_Blocks_over_0 : decode prog_3_method_5_code 0 = .ok (.iconst 0, 1) := by decide +kernel
theorem nd_Blocks_over_1 : decode prog_3_method_5_code 1 = .ok (.istore_n 2, 1) := by decide +kernel
theorem nd_Blocks_over_2 : decode prog_3_method_5_code 2 = .ok (.iconst 0, 1) := by decide +kernel
theorem nd_Blocks_over_3 : decode prog_3_method_5_code 3 = .ok (.istore_n 3, 1) := by decide +kernel
theorem nd_Blocks_over_4 : decode prog_3_method_5_code 4 = .ok (.iload_n 3, 1) := by decide +kernel
theorem nd_Blocks_over_5 : decode prog_3_method_5_code 5 = .ok (.aload_n 0, 1) := by decide +kernel
theorem nd_Blocks_over_6 : decode prog_3_method_5_code 6 = .ok (.getfield 22, 3) := by decide +kernel
theorem nd_Blocks_over_9 : decode prog_3_method_5_code 9 = .ok (.if_icmp .ge 25, 3) := by decide +kernel
theorem nd_Blocks_over_12 : decode prog_3_method_5_code 12 = .ok (.aload_n 0, 1) := by decide +kernel
theorem nd_Blocks_over_13 : decode prog_3_method_5_code 13 = .ok (.getfield 11, 3) := by decide +kernel
theorem nd_Blocks_over_16 : decode prog_3_method_5_code 16 = .ok (.iload_n 3, 1) := by decide +kernel
theorem nd_Blocks_over_17 : decode prog_3_method_5_code 17 = .ok (.aaload, 1) := by decide +kernel
theorem nd_Blocks_over_18 : decode prog_3_method_5_code 18 = .ok (.iload_n 1, 1) := by decide +kernel
theorem nd_Blocks_over_19 : decode prog_3_method_5_code 19 = .ok (.invokevirtual 33, 3) := by decide +kernel
theorem nd_Blocks_over_22 : decode prog_3_method_5_code 22 = .ok (.ifCond .eq 6, 3) := by decide +kernel
theorem nd_Blocks_over_25 : decode prog_3_method_5_code 25 = .ok (.iinc 2 1, 3) := by decide +kernel
theorem nd_Blocks_over_28 : decode prog_3_method_5_code 28 = .ok (.iinc 3 1, 3) := by decide +kernel
theorem nd_Blocks_over_31 : decode prog_3_method_5_code 31 = .ok (.goto (-27), 3) := by decide +kernel
theorem nd_Blocks_over_34 : decode prog_3_method_5_code 34 = .ok (.iload_n 2, 1) := by decide +kernel
theorem nd_Blocks_over_35 : decode prog_3_method_5_code 35 = .ok (.ireturn, 1) := by decide +kernel
def ny_P_covers : MethodName := ⟨"DrawnPaths", "covers", "(II)I"⟩
theorem nd_P_covers_0 : decode prog_1_method_14_code 0 = .ok (.aload_n 0, 1) := by decide +kernel
theorem nd_P_covers_1 : decode prog_1_method_14_code 1 = .ok (.getfield 10, 3) := by decide +kernel
theorem nd_P_covers_4 : decode prog_1_method_14_code 4 = .ok (.iload_n 1, 1) := by decide +kernel
theorem nd_P_covers_5 : decode prog_1_method_14_code 5 = .ok (.iload_n 2, 1) := by decide +kernel
theorem nd_P_covers_6 : decode prog_1_method_14_code 6 = .ok (.invokestatic 53, 3) := by decide +kernel
theorem nd_P_covers_9 : decode prog_1_method_14_code 9 = .ok (.invokevirtual 186, 3) := by decide +kernel
theorem nd_P_covers_12 : decode prog_1_method_14_code 12 = .ok (.ireturn, 1) := by decide +kernel
def ny_P_block : MethodName := ⟨"DrawnPaths", "block", "(IIIZI)I"⟩
theorem nd_P_block_0 : decode prog_1_method_15_code 0 = .ok (.iload_n 1, 1) := by decide +kernel
theorem nd_P_block_1 : decode prog_1_method_15_code 1 = .ok (.iload_n 2, 1) := by decide +kernel
theorem nd_P_block_2 : decode prog_1_method_15_code 2 = .ok (.invokestatic 53, 3) := by decide +kernel
theorem nd_P_block_5 : decode prog_1_method_15_code 5 = .ok (.istore 6, 2) := by decide +kernel
theorem nd_P_block_7 : decode prog_1_method_15_code 7 = .ok (.iload_n 3, 1) := by decide +kernel
theorem nd_P_block_8 : decode prog_1_method_15_code 8 = .ok (.ifCond .lt 19, 3) := by decide +kernel
theorem nd_P_block_11 : decode prog_1_method_15_code 11 = .ok (.iload_n 3, 1) := by decide +kernel
theorem nd_P_block_12 : decode prog_1_method_15_code 12 = .ok (.iconst 4, 1) := by decide +kernel
theorem nd_P_block_13 : decode prog_1_method_15_code 13 = .ok (.if_icmp .ge 14, 3) := by decide +kernel
theorem nd_P_block_16 : decode prog_1_method_15_code 16 = .ok (.iload 5, 2) := by decide +kernel
theorem nd_P_block_18 : decode prog_1_method_15_code 18 = .ok (.ifCond .lt 9, 3) := by decide +kernel
theorem nd_P_block_21 : decode prog_1_method_15_code 21 = .ok (.iload 5, 2) := by decide +kernel
theorem nd_P_block_23 : decode prog_1_method_15_code 23 = .ok (.iconst 4, 1) := by decide +kernel
theorem nd_P_block_24 : decode prog_1_method_15_code 24 = .ok (.if_icmp .le 13, 3) := by decide +kernel
theorem nd_P_block_27 : decode prog_1_method_15_code 27 = .ok (.new 61, 3) := by decide +kernel
theorem nd_P_block_30 : decode prog_1_method_15_code 30 = .ok (.dup, 1) := by decide +kernel
theorem nd_P_block_31 : decode prog_1_method_15_code 31 = .ok (.ldc 189, 2) := by decide +kernel
theorem nd_P_block_33 : decode prog_1_method_15_code 33 = .ok (.invokespecial 65, 3) := by decide +kernel
theorem nd_P_block_36 : decode prog_1_method_15_code 36 = .ok (.athrow, 1) := by decide +kernel
theorem nd_P_block_37 : decode prog_1_method_15_code 37 = .ok (.aload_n 0, 1) := by decide +kernel
theorem nd_P_block_38 : decode prog_1_method_15_code 38 = .ok (.getfield 10, 3) := by decide +kernel
theorem nd_P_block_41 : decode prog_1_method_15_code 41 = .ok (.iload 6, 2) := by decide +kernel
theorem nd_P_block_43 : decode prog_1_method_15_code 43 = .ok (.iload_n 3, 1) := by decide +kernel
theorem nd_P_block_44 : decode prog_1_method_15_code 44 = .ok (.iload 4, 2) := by decide +kernel
theorem nd_P_block_46 : decode prog_1_method_15_code 46 = .ok (.ifCond .eq 7, 3) := by decide +kernel
theorem nd_P_block_49 : decode prog_1_method_15_code 49 = .ok (.iconst 1, 1) := by decide +kernel
theorem nd_P_block_50 : decode prog_1_method_15_code 50 = .ok (.goto 4, 3) := by decide +kernel
theorem nd_P_block_53 : decode prog_1_method_15_code 53 = .ok (.iconst 0, 1) := by decide +kernel
theorem nd_P_block_54 : decode prog_1_method_15_code 54 = .ok (.invokestatic 191, 3) := by decide +kernel
theorem nd_P_block_57 : decode prog_1_method_15_code 57 = .ok (.invokevirtual 195, 3) := by decide +kernel
theorem nd_P_block_60 : decode prog_1_method_15_code 60 = .ok (.astore 7, 2) := by decide +kernel
theorem nd_P_block_62 : decode prog_1_method_15_code 62 = .ok (.aload 7, 2) := by decide +kernel
theorem nd_P_block_64 : decode prog_1_method_15_code 64 = .ok (.ifnonnull 5, 3) := by decide +kernel
theorem nd_P_block_67 : decode prog_1_method_15_code 67 = .ok (.iconst (-1), 1) := by decide +kernel
theorem nd_P_block_68 : decode prog_1_method_15_code 68 = .ok (.ireturn, 1) := by decide +kernel
theorem nd_P_block_69 : decode prog_1_method_15_code 69 = .ok (.iload 5, 2) := by decide +kernel
theorem nd_P_block_71 : decode prog_1_method_15_code 71 = .ok (.tableswitch 68 0 3 #[29, 35, 47, 59], 29) := by decide +kernel
theorem nd_P_block_100 : decode prog_1_method_15_code 100 = .ok (.aload 7, 2) := by decide +kernel
theorem nd_P_block_102 : decode prog_1_method_15_code 102 = .ok (.getfield 199, 3) := by decide +kernel
theorem nd_P_block_105 : decode prog_1_method_15_code 105 = .ok (.ireturn, 1) := by decide +kernel
theorem nd_P_block_106 : decode prog_1_method_15_code 106 = .ok (.aload 7, 2) := by decide +kernel
theorem nd_P_block_108 : decode prog_1_method_15_code 108 = .ok (.getfield 202, 3) := by decide +kernel
theorem nd_P_block_111 : decode prog_1_method_15_code 111 = .ok (.invokestatic 140, 3) := by decide +kernel
theorem nd_P_block_114 : decode prog_1_method_15_code 114 = .ok (.bipush 12, 2) := by decide +kernel
theorem nd_P_block_116 : decode prog_1_method_15_code 116 = .ok (.irem, 1) := by decide +kernel
theorem nd_P_block_117 : decode prog_1_method_15_code 117 = .ok (.ireturn, 1) := by decide +kernel
theorem nd_P_block_118 : decode prog_1_method_15_code 118 = .ok (.aload 7, 2) := by decide +kernel
theorem nd_P_block_120 : decode prog_1_method_15_code 120 = .ok (.getfield 202, 3) := by decide +kernel
theorem nd_P_block_123 : decode prog_1_method_15_code 123 = .ok (.invokestatic 140, 3) := by decide +kernel
theorem nd_P_block_126 : decode prog_1_method_15_code 126 = .ok (.bipush 12, 2) := by decide +kernel
theorem nd_P_block_128 : decode prog_1_method_15_code 128 = .ok (.idiv, 1) := by decide +kernel
theorem nd_P_block_129 : decode prog_1_method_15_code 129 = .ok (.ireturn, 1) := by decide +kernel
theorem nd_P_block_130 : decode prog_1_method_15_code 130 = .ok (.aload 7, 2) := by decide +kernel
theorem nd_P_block_132 : decode prog_1_method_15_code 132 = .ok (.getfield 202, 3) := by decide +kernel
theorem nd_P_block_135 : decode prog_1_method_15_code 135 = .ok (.invokestatic 145, 3) := by decide +kernel
theorem nd_P_block_138 : decode prog_1_method_15_code 138 = .ok (.ireturn, 1) := by decide +kernel
theorem nd_P_block_139 : decode prog_1_method_15_code 139 = .ok (.aload 7, 2) := by decide +kernel
theorem nd_P_block_141 : decode prog_1_method_15_code 141 = .ok (.getfield 202, 3) := by decide +kernel
theorem nd_P_block_144 : decode prog_1_method_15_code 144 = .ok (.invokestatic 148, 3) := by decide +kernel
theorem nd_P_block_147 : decode prog_1_method_15_code 147 = .ok (.ireturn, 1) := by decide +kernel
def ny_P_lost : MethodName := ⟨"DrawnPaths", "lost", "(II)Z"⟩
theorem nd_P_lost_0 : decode prog_1_method_16_code 0 = .ok (.iload_n 1, 1) := by decide +kernel
theorem nd_P_lost_1 : decode prog_1_method_16_code 1 = .ok (.iload_n 2, 1) := by decide +kernel
theorem nd_P_lost_2 : decode prog_1_method_16_code 2 = .ok (.invokestatic 53, 3) := by decide +kernel
theorem nd_P_lost_5 : decode prog_1_method_16_code 5 = .ok (.istore_n 3, 1) := by decide +kernel
theorem nd_P_lost_6 : decode prog_1_method_16_code 6 = .ok (.aload_n 0, 1) := by decide +kernel
theorem nd_P_lost_7 : decode prog_1_method_16_code 7 = .ok (.getfield 21, 3) := by decide +kernel
theorem nd_P_lost_10 : decode prog_1_method_16_code 10 = .ok (.getfield 68, 3) := by decide +kernel
theorem nd_P_lost_13 : decode prog_1_method_16_code 13 = .ok (.iload_n 3, 1) := by decide +kernel
theorem nd_P_lost_14 : decode prog_1_method_16_code 14 = .ok (.caload, 1) := by decide +kernel
theorem nd_P_lost_15 : decode prog_1_method_16_code 15 = .ok (.bipush 32, 2) := by decide +kernel
theorem nd_P_lost_17 : decode prog_1_method_16_code 17 = .ok (.if_icmp .ne 5, 3) := by decide +kernel
theorem nd_P_lost_20 : decode prog_1_method_16_code 20 = .ok (.iconst 0, 1) := by decide +kernel
theorem nd_P_lost_21 : decode prog_1_method_16_code 21 = .ok (.ireturn, 1) := by decide +kernel
theorem nd_P_lost_22 : decode prog_1_method_16_code 22 = .ok (.aload_n 0, 1) := by decide +kernel
theorem nd_P_lost_23 : decode prog_1_method_16_code 23 = .ok (.getfield 37, 3) := by decide +kernel
theorem nd_P_lost_26 : decode prog_1_method_16_code 26 = .ok (.aload_n 0, 1) := by decide +kernel
theorem nd_P_lost_27 : decode prog_1_method_16_code 27 = .ok (.getfield 21, 3) := by decide +kernel
theorem nd_P_lost_30 : decode prog_1_method_16_code 30 = .ok (.getfield 68, 3) := by decide +kernel
theorem nd_P_lost_33 : decode prog_1_method_16_code 33 = .ok (.invokevirtual 205, 3) := by decide +kernel
theorem nd_P_lost_36 : decode prog_1_method_16_code 36 = .ok (.aload_n 0, 1) := by decide +kernel
theorem nd_P_lost_37 : decode prog_1_method_16_code 37 = .ok (.getfield 37, 3) := by decide +kernel
theorem nd_P_lost_40 : decode prog_1_method_16_code 40 = .ok (.iload_n 3, 1) := by decide +kernel
theorem nd_P_lost_41 : decode prog_1_method_16_code 41 = .ok (.invokevirtual 209, 3) := by decide +kernel
theorem nd_P_lost_44 : decode prog_1_method_16_code 44 = .ok (.ifCond .ne 7, 3) := by decide +kernel
theorem nd_P_lost_47 : decode prog_1_method_16_code 47 = .ok (.iconst 1, 1) := by decide +kernel
theorem nd_P_lost_48 : decode prog_1_method_16_code 48 = .ok (.goto 4, 3) := by decide +kernel
theorem nd_P_lost_51 : decode prog_1_method_16_code 51 = .ok (.iconst 0, 1) := by decide +kernel
theorem nd_P_lost_52 : decode prog_1_method_16_code 52 = .ok (.ireturn, 1) := by decide +kernel
def ny_Line_copy : MethodName := ⟨"DrawnPaths$Line", "copy", "(LDrawnPaths$Line;)V"⟩
theorem nd_Line_copy_0 : decode prog_5_method_6_code 0 = .ok (.aload_n 0, 1) := by decide +kernel
theorem nd_Line_copy_1 : decode prog_5_method_6_code 1 = .ok (.aload_n 1, 1) := by decide +kernel
theorem nd_Line_copy_2 : decode prog_5_method_6_code 2 = .ok (.getfield 15, 3) := by decide +kernel
theorem nd_Line_copy_5 : decode prog_5_method_6_code 5 = .ok (.aload_n 0, 1) := by decide +kernel
theorem nd_Line_copy_6 : decode prog_5_method_6_code 6 = .ok (.getfield 9, 3) := by decide +kernel
theorem nd_Line_copy_9 : decode prog_5_method_6_code 9 = .ok (.arraylength, 1) := by decide +kernel
theorem nd_Line_copy_10 : decode prog_5_method_6_code 10 = .ok (.invokestatic 19, 3) := by decide +kernel
theorem nd_Line_copy_13 : decode prog_5_method_6_code 13 = .ok (.putfield 15, 3) := by decide +kernel
theorem nd_Line_copy_16 : decode prog_5_method_6_code 16 = .ok (.aload_n 1, 1) := by decide +kernel
theorem nd_Line_copy_17 : decode prog_5_method_6_code 17 = .ok (.getfield 9, 3) := by decide +kernel
theorem nd_Line_copy_20 : decode prog_5_method_6_code 20 = .ok (.iconst 0, 1) := by decide +kernel
theorem nd_Line_copy_21 : decode prog_5_method_6_code 21 = .ok (.aload_n 0, 1) := by decide +kernel
theorem nd_Line_copy_22 : decode prog_5_method_6_code 22 = .ok (.getfield 9, 3) := by decide +kernel
theorem nd_Line_copy_25 : decode prog_5_method_6_code 25 = .ok (.iconst 0, 1) := by decide +kernel
theorem nd_Line_copy_26 : decode prog_5_method_6_code 26 = .ok (.aload_n 0, 1) := by decide +kernel
theorem nd_Line_copy_27 : decode prog_5_method_6_code 27 = .ok (.getfield 15, 3) := by decide +kernel
theorem nd_Line_copy_30 : decode prog_5_method_6_code 30 = .ok (.invokestatic 25, 3) := by decide +kernel
theorem nd_Line_copy_33 : decode prog_5_method_6_code 33 = .ok (.return_, 1) := by decide +kernel
def ny_P_output : MethodName := ⟨"DrawnPaths", "output", "()I"⟩
theorem nd_P_output_0 : decode prog_1_method_17_code 0 = .ok (.aload_n 0, 1) := by decide +kernel
theorem nd_P_output_1 : decode prog_1_method_17_code 1 = .ok (.getfield 50, 3) := by decide +kernel
theorem nd_P_output_4 : decode prog_1_method_17_code 4 = .ok (.aload_n 0, 1) := by decide +kernel
theorem nd_P_output_5 : decode prog_1_method_17_code 5 = .ok (.getfield 30, 3) := by decide +kernel
theorem nd_P_output_8 : decode prog_1_method_17_code 8 = .ok (.getfield 212, 3) := by decide +kernel
theorem nd_P_output_11 : decode prog_1_method_17_code 11 = .ok (.invokevirtual 215, 3) := by decide +kernel
theorem nd_P_output_14 : decode prog_1_method_17_code 14 = .ok (.aload_n 0, 1) := by decide +kernel
theorem nd_P_output_15 : decode prog_1_method_17_code 15 = .ok (.getfield 50, 3) := by decide +kernel
theorem nd_P_output_18 : decode prog_1_method_17_code 18 = .ok (.getfield 84, 3) := by decide +kernel
theorem nd_P_output_21 : decode prog_1_method_17_code 21 = .ok (.ireturn, 1) := by decide +kernel
def ny_P_length : MethodName := ⟨"DrawnPaths", "length", "()I"⟩
theorem nd_P_length_0 : decode prog_1_method_18_code 0 = .ok (.aload_n 0, 1) := by decide +kernel
theorem nd_P_length_1 : decode prog_1_method_18_code 1 = .ok (.getfield 50, 3) := by decide +kernel
theorem nd_P_length_4 : decode prog_1_method_18_code 4 = .ok (.getfield 84, 3) := by decide +kernel
theorem nd_P_length_7 : decode prog_1_method_18_code 7 = .ok (.ireturn, 1) := by decide +kernel
def ny_P_charAt : MethodName := ⟨"DrawnPaths", "charAt", "(I)C"⟩
theorem nd_P_charAt_0 : decode prog_1_method_19_code 0 = .ok (.aload_n 0, 1) := by decide +kernel
theorem nd_P_charAt_1 : decode prog_1_method_19_code 1 = .ok (.getfield 50, 3) := by decide +kernel
theorem nd_P_charAt_4 : decode prog_1_method_19_code 4 = .ok (.iload_n 1, 1) := by decide +kernel
theorem nd_P_charAt_5 : decode prog_1_method_19_code 5 = .ok (.invokevirtual 88, 3) := by decide +kernel
theorem nd_P_charAt_8 : decode prog_1_method_19_code 8 = .ok (.ireturn, 1) := by decide +kernel
end
section
abbrev XH : Type := Int32 × Int32 × (Nat → Nat) × (Nat → Int32) × (Nat → Int32) × Int32 × Int32 × Int32 × Int32 × Int32 × (Nat → Nat) × (Nat → Int64) × (Nat → Int32) × Int32 × (Nat → Int32) × (Nat → Int32) × (Nat → Int32) × (Nat → Nat → Int32) × (Nat → Int32) × (Nat → Int32) × (Nat → Int32) × (Nat → Nat → Int64) × (Nat → Nat → Int32) × (Nat → Int32) × (Nat → Int32) × (Nat → Int32) × (Nat → Int64) × (Nat → Int64)
def xh_cap (k : Nat) : Nat := if k = 1 then 12 else 80
def xh_held (h : XH) : Int32 := h.1
def xh_dropped (h : XH) : Int32 := h.2.1
def xh_row (h : XH) : Nat → Nat := h.2.2.1
def xh_bmarks (h : XH) : Nat → Int32 := h.2.2.2.1
def xh_signs (h : XH) : Nat → Int32 := h.2.2.2.2.1
def xh_living (h : XH) : Int32 := h.2.2.2.2.2.1
def xh_given (h : XH) : Int32 := h.2.2.2.2.2.2.1
def xh_read (h : XH) : Int32 := h.2.2.2.2.2.2.2.1
def xh_steps (h : XH) : Int32 := h.2.2.2.2.2.2.2.2.1
def xh_stopped (h : XH) : Int32 := h.2.2.2.2.2.2.2.2.2.1
def xh_ptrs (h : XH) : Nat → Nat := h.2.2.2.2.2.2.2.2.2.2.1
def xh_innums (h : XH) : Nat → Int64 := h.2.2.2.2.2.2.2.2.2.2.2.1
def xh_digits (h : XH) : Nat → Int32 := h.2.2.2.2.2.2.2.2.2.2.2.2.1
def xh_ssize (h : XH) : Int32 := h.2.2.2.2.2.2.2.2.2.2.2.2.2.1
def xh_smarks (h : XH) : Nat → Int32 := h.2.2.2.2.2.2.2.2.2.2.2.2.2.2.1
def xh_sfound (h : XH) : Nat → Int32 := h.2.2.2.2.2.2.2.2.2.2.2.2.2.2.2.1
def xh_lsize (h : XH) : Nat → Int32 := h.2.2.2.2.2.2.2.2.2.2.2.2.2.2.2.2.1
def xh_lchars (h : XH) : Nat → Nat → Int32 := h.2.2.2.2.2.2.2.2.2.2.2.2.2.2.2.2.2.1
def xh_pway (h : XH) : Nat → Int32 := h.2.2.2.2.2.2.2.2.2.2.2.2.2.2.2.2.2.2.1
def xh_pdepth (h : XH) : Nat → Int32 := h.2.2.2.2.2.2.2.2.2.2.2.2.2.2.2.2.2.2.2.1
def xh_pret (h : XH) : Nat → Int32 := h.2.2.2.2.2.2.2.2.2.2.2.2.2.2.2.2.2.2.2.2.1
def xh_pnums (h : XH) : Nat → Nat → Int64 := h.2.2.2.2.2.2.2.2.2.2.2.2.2.2.2.2.2.2.2.2.2.1
def xh_prets (h : XH) : Nat → Nat → Int32 := h.2.2.2.2.2.2.2.2.2.2.2.2.2.2.2.2.2.2.2.2.2.2.1
def xh_bbegin (h : XH) : Nat → Int32 := h.2.2.2.2.2.2.2.2.2.2.2.2.2.2.2.2.2.2.2.2.2.2.2.1
def xh_bbehind (h : XH) : Nat → Int32 := h.2.2.2.2.2.2.2.2.2.2.2.2.2.2.2.2.2.2.2.2.2.2.2.2.1
def xh_bsize (h : XH) : Nat → Int32 := h.2.2.2.2.2.2.2.2.2.2.2.2.2.2.2.2.2.2.2.2.2.2.2.2.2.1
def xh_blow (h : XH) : Nat → Int64 := h.2.2.2.2.2.2.2.2.2.2.2.2.2.2.2.2.2.2.2.2.2.2.2.2.2.2.1
def xh_bhigh (h : XH) : Nat → Int64 := h.2.2.2.2.2.2.2.2.2.2.2.2.2.2.2.2.2.2.2.2.2.2.2.2.2.2.2
def xz_held (h : XH) (v : Int32) : XH := (v, h.2)
def xs_held (h : XH) (v : Int32) : XH := xz_held h v
def xz_dropped (h : XH) (v : Int32) : XH := (h.1, v, h.2.2)
def xs_dropped (h : XH) (v : Int32) : XH := xz_dropped h v
def xz_row (h : XH) (v : Nat → Nat) : XH := (h.1, h.2.1, v, h.2.2.2)
def xs_row (h : XH) (j : Nat) (v : Nat) : XH := xz_row h (va_up (xh_row h) j v)
def xc_row (h : XH) (f : Nat → Nat) : XH := xz_row h f
def xz_bmarks (h : XH) (v : Nat → Int32) : XH := (h.1, h.2.1, h.2.2.1, v, h.2.2.2.2)
def xs_bmarks (h : XH) (j : Nat) (v : Int32) : XH := xz_bmarks h (va_up (xh_bmarks h) j v)
def xc_bmarks (h : XH) (f : Nat → Int32) : XH := xz_bmarks h f
def xz_signs (h : XH) (v : Nat → Int32) : XH := (h.1, h.2.1, h.2.2.1, h.2.2.2.1, v, h.2.2.2.2.2)
def xs_signs (h : XH) (j : Nat) (v : Int32) : XH := xz_signs h (va_up (xh_signs h) j v)
def xc_signs (h : XH) (f : Nat → Int32) : XH := xz_signs h f
def xz_living (h : XH) (v : Int32) : XH := (h.1, h.2.1, h.2.2.1, h.2.2.2.1, h.2.2.2.2.1, v, h.2.2.2.2.2.2)
def xs_living (h : XH) (v : Int32) : XH := xz_living h v
def xz_given (h : XH) (v : Int32) : XH := (h.1, h.2.1, h.2.2.1, h.2.2.2.1, h.2.2.2.2.1, h.2.2.2.2.2.1, v, h.2.2.2.2.2.2.2)
def xs_given (h : XH) (v : Int32) : XH := xz_given h v
def xz_read (h : XH) (v : Int32) : XH := (h.1, h.2.1, h.2.2.1, h.2.2.2.1, h.2.2.2.2.1, h.2.2.2.2.2.1, h.2.2.2.2.2.2.1, v, h.2.2.2.2.2.2.2.2)
def xs_read (h : XH) (v : Int32) : XH := xz_read h v
def xz_steps (h : XH) (v : Int32) : XH := (h.1, h.2.1, h.2.2.1, h.2.2.2.1, h.2.2.2.2.1, h.2.2.2.2.2.1, h.2.2.2.2.2.2.1, h.2.2.2.2.2.2.2.1, v, h.2.2.2.2.2.2.2.2.2)
def xs_steps (h : XH) (v : Int32) : XH := xz_steps h v
def xz_stopped (h : XH) (v : Int32) : XH := (h.1, h.2.1, h.2.2.1, h.2.2.2.1, h.2.2.2.2.1, h.2.2.2.2.2.1, h.2.2.2.2.2.2.1, h.2.2.2.2.2.2.2.1, h.2.2.2.2.2.2.2.2.1, v, h.2.2.2.2.2.2.2.2.2.2)
def xs_stopped (h : XH) (v : Int32) : XH := xz_stopped h v
def xz_ptrs (h : XH) (v : Nat → Nat) : XH := (h.1, h.2.1, h.2.2.1, h.2.2.2.1, h.2.2.2.2.1, h.2.2.2.2.2.1, h.2.2.2.2.2.2.1, h.2.2.2.2.2.2.2.1, h.2.2.2.2.2.2.2.2.1, h.2.2.2.2.2.2.2.2.2.1, v, h.2.2.2.2.2.2.2.2.2.2.2)
def xs_ptrs (h : XH) (j : Nat) (v : Nat) : XH := xz_ptrs h (va_up (xh_ptrs h) j v)
def xc_ptrs (h : XH) (f : Nat → Nat) : XH := xz_ptrs h f
def xz_innums (h : XH) (v : Nat → Int64) : XH := (h.1, h.2.1, h.2.2.1, h.2.2.2.1, h.2.2.2.2.1, h.2.2.2.2.2.1, h.2.2.2.2.2.2.1, h.2.2.2.2.2.2.2.1, h.2.2.2.2.2.2.2.2.1, h.2.2.2.2.2.2.2.2.2.1, h.2.2.2.2.2.2.2.2.2.2.1, v, h.2.2.2.2.2.2.2.2.2.2.2.2)
def xs_innums (h : XH) (j : Nat) (v : Int64) : XH := xz_innums h (va_up (xh_innums h) j v)
def xc_innums (h : XH) (f : Nat → Int64) : XH := xz_innums h f
def xz_digits (h : XH) (v : Nat → Int32) : XH := (h.1, h.2.1, h.2.2.1, h.2.2.2.1, h.2.2.2.2.1, h.2.2.2.2.2.1, h.2.2.2.2.2.2.1, h.2.2.2.2.2.2.2.1, h.2.2.2.2.2.2.2.2.1, h.2.2.2.2.2.2.2.2.2.1, h.2.2.2.2.2.2.2.2.2.2.1, h.2.2.2.2.2.2.2.2.2.2.2.1, v, h.2.2.2.2.2.2.2.2.2.2.2.2.2)
def xs_digits (h : XH) (j : Nat) (v : Int32) : XH := xz_digits h (va_up (xh_digits h) j v)
def xc_digits (h : XH) (f : Nat → Int32) : XH := xz_digits h f
def xz_ssize (h : XH) (v : Int32) : XH := (h.1, h.2.1, h.2.2.1, h.2.2.2.1, h.2.2.2.2.1, h.2.2.2.2.2.1, h.2.2.2.2.2.2.1, h.2.2.2.2.2.2.2.1, h.2.2.2.2.2.2.2.2.1, h.2.2.2.2.2.2.2.2.2.1, h.2.2.2.2.2.2.2.2.2.2.1, h.2.2.2.2.2.2.2.2.2.2.2.1, h.2.2.2.2.2.2.2.2.2.2.2.2.1, v, h.2.2.2.2.2.2.2.2.2.2.2.2.2.2)
def xs_ssize (h : XH) (v : Int32) : XH := xz_ssize h v
def xz_smarks (h : XH) (v : Nat → Int32) : XH := (h.1, h.2.1, h.2.2.1, h.2.2.2.1, h.2.2.2.2.1, h.2.2.2.2.2.1, h.2.2.2.2.2.2.1, h.2.2.2.2.2.2.2.1, h.2.2.2.2.2.2.2.2.1, h.2.2.2.2.2.2.2.2.2.1, h.2.2.2.2.2.2.2.2.2.2.1, h.2.2.2.2.2.2.2.2.2.2.2.1, h.2.2.2.2.2.2.2.2.2.2.2.2.1, h.2.2.2.2.2.2.2.2.2.2.2.2.2.1, v, h.2.2.2.2.2.2.2.2.2.2.2.2.2.2.2)
def xs_smarks (h : XH) (j : Nat) (v : Int32) : XH := xz_smarks h (va_up (xh_smarks h) j v)
def xc_smarks (h : XH) (f : Nat → Int32) : XH := xz_smarks h f
def xz_sfound (h : XH) (v : Nat → Int32) : XH := (h.1, h.2.1, h.2.2.1, h.2.2.2.1, h.2.2.2.2.1, h.2.2.2.2.2.1, h.2.2.2.2.2.2.1, h.2.2.2.2.2.2.2.1, h.2.2.2.2.2.2.2.2.1, h.2.2.2.2.2.2.2.2.2.1, h.2.2.2.2.2.2.2.2.2.2.1, h.2.2.2.2.2.2.2.2.2.2.2.1, h.2.2.2.2.2.2.2.2.2.2.2.2.1, h.2.2.2.2.2.2.2.2.2.2.2.2.2.1, h.2.2.2.2.2.2.2.2.2.2.2.2.2.2.1, v, h.2.2.2.2.2.2.2.2.2.2.2.2.2.2.2.2)
def xs_sfound (h : XH) (j : Nat) (v : Int32) : XH := xz_sfound h (va_up (xh_sfound h) j v)
def xc_sfound (h : XH) (f : Nat → Int32) : XH := xz_sfound h f
def xz_lsize (h : XH) (v : Nat → Int32) : XH := (h.1, h.2.1, h.2.2.1, h.2.2.2.1, h.2.2.2.2.1, h.2.2.2.2.2.1, h.2.2.2.2.2.2.1, h.2.2.2.2.2.2.2.1, h.2.2.2.2.2.2.2.2.1, h.2.2.2.2.2.2.2.2.2.1, h.2.2.2.2.2.2.2.2.2.2.1, h.2.2.2.2.2.2.2.2.2.2.2.1, h.2.2.2.2.2.2.2.2.2.2.2.2.1, h.2.2.2.2.2.2.2.2.2.2.2.2.2.1, h.2.2.2.2.2.2.2.2.2.2.2.2.2.2.1, h.2.2.2.2.2.2.2.2.2.2.2.2.2.2.2.1, v, h.2.2.2.2.2.2.2.2.2.2.2.2.2.2.2.2.2)
def xs_lsize (h : XH) (k : Nat) (v : Int32) : XH := xz_lsize h (va_up (xh_lsize h) k v)
def xz_lchars (h : XH) (v : Nat → Nat → Int32) : XH := (h.1, h.2.1, h.2.2.1, h.2.2.2.1, h.2.2.2.2.1, h.2.2.2.2.2.1, h.2.2.2.2.2.2.1, h.2.2.2.2.2.2.2.1, h.2.2.2.2.2.2.2.2.1, h.2.2.2.2.2.2.2.2.2.1, h.2.2.2.2.2.2.2.2.2.2.1, h.2.2.2.2.2.2.2.2.2.2.2.1, h.2.2.2.2.2.2.2.2.2.2.2.2.1, h.2.2.2.2.2.2.2.2.2.2.2.2.2.1, h.2.2.2.2.2.2.2.2.2.2.2.2.2.2.1, h.2.2.2.2.2.2.2.2.2.2.2.2.2.2.2.1, h.2.2.2.2.2.2.2.2.2.2.2.2.2.2.2.2.1, v, h.2.2.2.2.2.2.2.2.2.2.2.2.2.2.2.2.2.2)
def xs_lchars (h : XH) (k j : Nat) (v : Int32) : XH := xz_lchars h (va_up (xh_lchars h) k (va_up (xh_lchars h k) j v))
def xc_lchars (h : XH) (k : Nat) (f : Nat → Int32) : XH := xz_lchars h (va_up (xh_lchars h) k f)
def xz_pway (h : XH) (v : Nat → Int32) : XH := (h.1, h.2.1, h.2.2.1, h.2.2.2.1, h.2.2.2.2.1, h.2.2.2.2.2.1, h.2.2.2.2.2.2.1, h.2.2.2.2.2.2.2.1, h.2.2.2.2.2.2.2.2.1, h.2.2.2.2.2.2.2.2.2.1, h.2.2.2.2.2.2.2.2.2.2.1, h.2.2.2.2.2.2.2.2.2.2.2.1, h.2.2.2.2.2.2.2.2.2.2.2.2.1, h.2.2.2.2.2.2.2.2.2.2.2.2.2.1, h.2.2.2.2.2.2.2.2.2.2.2.2.2.2.1, h.2.2.2.2.2.2.2.2.2.2.2.2.2.2.2.1, h.2.2.2.2.2.2.2.2.2.2.2.2.2.2.2.2.1, h.2.2.2.2.2.2.2.2.2.2.2.2.2.2.2.2.2.1, v, h.2.2.2.2.2.2.2.2.2.2.2.2.2.2.2.2.2.2.2)
def xs_pway (h : XH) (k : Nat) (v : Int32) : XH := xz_pway h (va_up (xh_pway h) k v)
def xz_pdepth (h : XH) (v : Nat → Int32) : XH := (h.1, h.2.1, h.2.2.1, h.2.2.2.1, h.2.2.2.2.1, h.2.2.2.2.2.1, h.2.2.2.2.2.2.1, h.2.2.2.2.2.2.2.1, h.2.2.2.2.2.2.2.2.1, h.2.2.2.2.2.2.2.2.2.1, h.2.2.2.2.2.2.2.2.2.2.1, h.2.2.2.2.2.2.2.2.2.2.2.1, h.2.2.2.2.2.2.2.2.2.2.2.2.1, h.2.2.2.2.2.2.2.2.2.2.2.2.2.1, h.2.2.2.2.2.2.2.2.2.2.2.2.2.2.1, h.2.2.2.2.2.2.2.2.2.2.2.2.2.2.2.1, h.2.2.2.2.2.2.2.2.2.2.2.2.2.2.2.2.1, h.2.2.2.2.2.2.2.2.2.2.2.2.2.2.2.2.2.1, h.2.2.2.2.2.2.2.2.2.2.2.2.2.2.2.2.2.2.1, v, h.2.2.2.2.2.2.2.2.2.2.2.2.2.2.2.2.2.2.2.2)
def xs_pdepth (h : XH) (k : Nat) (v : Int32) : XH := xz_pdepth h (va_up (xh_pdepth h) k v)
def xz_pret (h : XH) (v : Nat → Int32) : XH := (h.1, h.2.1, h.2.2.1, h.2.2.2.1, h.2.2.2.2.1, h.2.2.2.2.2.1, h.2.2.2.2.2.2.1, h.2.2.2.2.2.2.2.1, h.2.2.2.2.2.2.2.2.1, h.2.2.2.2.2.2.2.2.2.1, h.2.2.2.2.2.2.2.2.2.2.1, h.2.2.2.2.2.2.2.2.2.2.2.1, h.2.2.2.2.2.2.2.2.2.2.2.2.1, h.2.2.2.2.2.2.2.2.2.2.2.2.2.1, h.2.2.2.2.2.2.2.2.2.2.2.2.2.2.1, h.2.2.2.2.2.2.2.2.2.2.2.2.2.2.2.1, h.2.2.2.2.2.2.2.2.2.2.2.2.2.2.2.2.1, h.2.2.2.2.2.2.2.2.2.2.2.2.2.2.2.2.2.1, h.2.2.2.2.2.2.2.2.2.2.2.2.2.2.2.2.2.2.1, h.2.2.2.2.2.2.2.2.2.2.2.2.2.2.2.2.2.2.2.1, v, h.2.2.2.2.2.2.2.2.2.2.2.2.2.2.2.2.2.2.2.2.2)
def xs_pret (h : XH) (k : Nat) (v : Int32) : XH := xz_pret h (va_up (xh_pret h) k v)
def xz_pnums (h : XH) (v : Nat → Nat → Int64) : XH := (h.1, h.2.1, h.2.2.1, h.2.2.2.1, h.2.2.2.2.1, h.2.2.2.2.2.1, h.2.2.2.2.2.2.1, h.2.2.2.2.2.2.2.1, h.2.2.2.2.2.2.2.2.1, h.2.2.2.2.2.2.2.2.2.1, h.2.2.2.2.2.2.2.2.2.2.1, h.2.2.2.2.2.2.2.2.2.2.2.1, h.2.2.2.2.2.2.2.2.2.2.2.2.1, h.2.2.2.2.2.2.2.2.2.2.2.2.2.1, h.2.2.2.2.2.2.2.2.2.2.2.2.2.2.1, h.2.2.2.2.2.2.2.2.2.2.2.2.2.2.2.1, h.2.2.2.2.2.2.2.2.2.2.2.2.2.2.2.2.1, h.2.2.2.2.2.2.2.2.2.2.2.2.2.2.2.2.2.1, h.2.2.2.2.2.2.2.2.2.2.2.2.2.2.2.2.2.2.1, h.2.2.2.2.2.2.2.2.2.2.2.2.2.2.2.2.2.2.2.1, h.2.2.2.2.2.2.2.2.2.2.2.2.2.2.2.2.2.2.2.2.1, v, h.2.2.2.2.2.2.2.2.2.2.2.2.2.2.2.2.2.2.2.2.2.2)
def xs_pnums (h : XH) (k j : Nat) (v : Int64) : XH := xz_pnums h (va_up (xh_pnums h) k (va_up (xh_pnums h k) j v))
def xc_pnums (h : XH) (k : Nat) (f : Nat → Int64) : XH := xz_pnums h (va_up (xh_pnums h) k f)
def xz_prets (h : XH) (v : Nat → Nat → Int32) : XH := (h.1, h.2.1, h.2.2.1, h.2.2.2.1, h.2.2.2.2.1, h.2.2.2.2.2.1, h.2.2.2.2.2.2.1, h.2.2.2.2.2.2.2.1, h.2.2.2.2.2.2.2.2.1, h.2.2.2.2.2.2.2.2.2.1, h.2.2.2.2.2.2.2.2.2.2.1, h.2.2.2.2.2.2.2.2.2.2.2.1, h.2.2.2.2.2.2.2.2.2.2.2.2.1, h.2.2.2.2.2.2.2.2.2.2.2.2.2.1, h.2.2.2.2.2.2.2.2.2.2.2.2.2.2.1, h.2.2.2.2.2.2.2.2.2.2.2.2.2.2.2.1, h.2.2.2.2.2.2.2.2.2.2.2.2.2.2.2.2.1, h.2.2.2.2.2.2.2.2.2.2.2.2.2.2.2.2.2.1, h.2.2.2.2.2.2.2.2.2.2.2.2.2.2.2.2.2.2.1, h.2.2.2.2.2.2.2.2.2.2.2.2.2.2.2.2.2.2.2.1, h.2.2.2.2.2.2.2.2.2.2.2.2.2.2.2.2.2.2.2.2.1, h.2.2.2.2.2.2.2.2.2.2.2.2.2.2.2.2.2.2.2.2.2.1, v, h.2.2.2.2.2.2.2.2.2.2.2.2.2.2.2.2.2.2.2.2.2.2.2)
def xs_prets (h : XH) (k j : Nat) (v : Int32) : XH := xz_prets h (va_up (xh_prets h) k (va_up (xh_prets h k) j v))
def xc_prets (h : XH) (k : Nat) (f : Nat → Int32) : XH := xz_prets h (va_up (xh_prets h) k f)
def xz_bbegin (h : XH) (v : Nat → Int32) : XH := (h.1, h.2.1, h.2.2.1, h.2.2.2.1, h.2.2.2.2.1, h.2.2.2.2.2.1, h.2.2.2.2.2.2.1, h.2.2.2.2.2.2.2.1, h.2.2.2.2.2.2.2.2.1, h.2.2.2.2.2.2.2.2.2.1, h.2.2.2.2.2.2.2.2.2.2.1, h.2.2.2.2.2.2.2.2.2.2.2.1, h.2.2.2.2.2.2.2.2.2.2.2.2.1, h.2.2.2.2.2.2.2.2.2.2.2.2.2.1, h.2.2.2.2.2.2.2.2.2.2.2.2.2.2.1, h.2.2.2.2.2.2.2.2.2.2.2.2.2.2.2.1, h.2.2.2.2.2.2.2.2.2.2.2.2.2.2.2.2.1, h.2.2.2.2.2.2.2.2.2.2.2.2.2.2.2.2.2.1, h.2.2.2.2.2.2.2.2.2.2.2.2.2.2.2.2.2.2.1, h.2.2.2.2.2.2.2.2.2.2.2.2.2.2.2.2.2.2.2.1, h.2.2.2.2.2.2.2.2.2.2.2.2.2.2.2.2.2.2.2.2.1, h.2.2.2.2.2.2.2.2.2.2.2.2.2.2.2.2.2.2.2.2.2.1, h.2.2.2.2.2.2.2.2.2.2.2.2.2.2.2.2.2.2.2.2.2.2.1, v, h.2.2.2.2.2.2.2.2.2.2.2.2.2.2.2.2.2.2.2.2.2.2.2.2)
def xs_bbegin (h : XH) (k : Nat) (v : Int32) : XH := xz_bbegin h (va_up (xh_bbegin h) k v)
def xz_bbehind (h : XH) (v : Nat → Int32) : XH := (h.1, h.2.1, h.2.2.1, h.2.2.2.1, h.2.2.2.2.1, h.2.2.2.2.2.1, h.2.2.2.2.2.2.1, h.2.2.2.2.2.2.2.1, h.2.2.2.2.2.2.2.2.1, h.2.2.2.2.2.2.2.2.2.1, h.2.2.2.2.2.2.2.2.2.2.1, h.2.2.2.2.2.2.2.2.2.2.2.1, h.2.2.2.2.2.2.2.2.2.2.2.2.1, h.2.2.2.2.2.2.2.2.2.2.2.2.2.1, h.2.2.2.2.2.2.2.2.2.2.2.2.2.2.1, h.2.2.2.2.2.2.2.2.2.2.2.2.2.2.2.1, h.2.2.2.2.2.2.2.2.2.2.2.2.2.2.2.2.1, h.2.2.2.2.2.2.2.2.2.2.2.2.2.2.2.2.2.1, h.2.2.2.2.2.2.2.2.2.2.2.2.2.2.2.2.2.2.1, h.2.2.2.2.2.2.2.2.2.2.2.2.2.2.2.2.2.2.2.1, h.2.2.2.2.2.2.2.2.2.2.2.2.2.2.2.2.2.2.2.2.1, h.2.2.2.2.2.2.2.2.2.2.2.2.2.2.2.2.2.2.2.2.2.1, h.2.2.2.2.2.2.2.2.2.2.2.2.2.2.2.2.2.2.2.2.2.2.1, h.2.2.2.2.2.2.2.2.2.2.2.2.2.2.2.2.2.2.2.2.2.2.2.1, v, h.2.2.2.2.2.2.2.2.2.2.2.2.2.2.2.2.2.2.2.2.2.2.2.2.2)
def xs_bbehind (h : XH) (k : Nat) (v : Int32) : XH := xz_bbehind h (va_up (xh_bbehind h) k v)
def xz_bsize (h : XH) (v : Nat → Int32) : XH := (h.1, h.2.1, h.2.2.1, h.2.2.2.1, h.2.2.2.2.1, h.2.2.2.2.2.1, h.2.2.2.2.2.2.1, h.2.2.2.2.2.2.2.1, h.2.2.2.2.2.2.2.2.1, h.2.2.2.2.2.2.2.2.2.1, h.2.2.2.2.2.2.2.2.2.2.1, h.2.2.2.2.2.2.2.2.2.2.2.1, h.2.2.2.2.2.2.2.2.2.2.2.2.1, h.2.2.2.2.2.2.2.2.2.2.2.2.2.1, h.2.2.2.2.2.2.2.2.2.2.2.2.2.2.1, h.2.2.2.2.2.2.2.2.2.2.2.2.2.2.2.1, h.2.2.2.2.2.2.2.2.2.2.2.2.2.2.2.2.1, h.2.2.2.2.2.2.2.2.2.2.2.2.2.2.2.2.2.1, h.2.2.2.2.2.2.2.2.2.2.2.2.2.2.2.2.2.2.1, h.2.2.2.2.2.2.2.2.2.2.2.2.2.2.2.2.2.2.2.1, h.2.2.2.2.2.2.2.2.2.2.2.2.2.2.2.2.2.2.2.2.1, h.2.2.2.2.2.2.2.2.2.2.2.2.2.2.2.2.2.2.2.2.2.1, h.2.2.2.2.2.2.2.2.2.2.2.2.2.2.2.2.2.2.2.2.2.2.1, h.2.2.2.2.2.2.2.2.2.2.2.2.2.2.2.2.2.2.2.2.2.2.2.1, h.2.2.2.2.2.2.2.2.2.2.2.2.2.2.2.2.2.2.2.2.2.2.2.2.1, v, h.2.2.2.2.2.2.2.2.2.2.2.2.2.2.2.2.2.2.2.2.2.2.2.2.2.2)
def xs_bsize (h : XH) (k : Nat) (v : Int32) : XH := xz_bsize h (va_up (xh_bsize h) k v)
def xz_blow (h : XH) (v : Nat → Int64) : XH := (h.1, h.2.1, h.2.2.1, h.2.2.2.1, h.2.2.2.2.1, h.2.2.2.2.2.1, h.2.2.2.2.2.2.1, h.2.2.2.2.2.2.2.1, h.2.2.2.2.2.2.2.2.1, h.2.2.2.2.2.2.2.2.2.1, h.2.2.2.2.2.2.2.2.2.2.1, h.2.2.2.2.2.2.2.2.2.2.2.1, h.2.2.2.2.2.2.2.2.2.2.2.2.1, h.2.2.2.2.2.2.2.2.2.2.2.2.2.1, h.2.2.2.2.2.2.2.2.2.2.2.2.2.2.1, h.2.2.2.2.2.2.2.2.2.2.2.2.2.2.2.1, h.2.2.2.2.2.2.2.2.2.2.2.2.2.2.2.2.1, h.2.2.2.2.2.2.2.2.2.2.2.2.2.2.2.2.2.1, h.2.2.2.2.2.2.2.2.2.2.2.2.2.2.2.2.2.2.1, h.2.2.2.2.2.2.2.2.2.2.2.2.2.2.2.2.2.2.2.1, h.2.2.2.2.2.2.2.2.2.2.2.2.2.2.2.2.2.2.2.2.1, h.2.2.2.2.2.2.2.2.2.2.2.2.2.2.2.2.2.2.2.2.2.1, h.2.2.2.2.2.2.2.2.2.2.2.2.2.2.2.2.2.2.2.2.2.2.1, h.2.2.2.2.2.2.2.2.2.2.2.2.2.2.2.2.2.2.2.2.2.2.2.1, h.2.2.2.2.2.2.2.2.2.2.2.2.2.2.2.2.2.2.2.2.2.2.2.2.1, h.2.2.2.2.2.2.2.2.2.2.2.2.2.2.2.2.2.2.2.2.2.2.2.2.2.1, v, h.2.2.2.2.2.2.2.2.2.2.2.2.2.2.2.2.2.2.2.2.2.2.2.2.2.2.2)
def xs_blow (h : XH) (k : Nat) (v : Int64) : XH := xz_blow h (va_up (xh_blow h) k v)
def xz_bhigh (h : XH) (v : Nat → Int64) : XH := (h.1, h.2.1, h.2.2.1, h.2.2.2.1, h.2.2.2.2.1, h.2.2.2.2.2.1, h.2.2.2.2.2.2.1, h.2.2.2.2.2.2.2.1, h.2.2.2.2.2.2.2.2.1, h.2.2.2.2.2.2.2.2.2.1, h.2.2.2.2.2.2.2.2.2.2.1, h.2.2.2.2.2.2.2.2.2.2.2.1, h.2.2.2.2.2.2.2.2.2.2.2.2.1, h.2.2.2.2.2.2.2.2.2.2.2.2.2.1, h.2.2.2.2.2.2.2.2.2.2.2.2.2.2.1, h.2.2.2.2.2.2.2.2.2.2.2.2.2.2.2.1, h.2.2.2.2.2.2.2.2.2.2.2.2.2.2.2.2.1, h.2.2.2.2.2.2.2.2.2.2.2.2.2.2.2.2.2.1, h.2.2.2.2.2.2.2.2.2.2.2.2.2.2.2.2.2.2.1, h.2.2.2.2.2.2.2.2.2.2.2.2.2.2.2.2.2.2.2.1, h.2.2.2.2.2.2.2.2.2.2.2.2.2.2.2.2.2.2.2.2.1, h.2.2.2.2.2.2.2.2.2.2.2.2.2.2.2.2.2.2.2.2.2.1, h.2.2.2.2.2.2.2.2.2.2.2.2.2.2.2.2.2.2.2.2.2.2.1, h.2.2.2.2.2.2.2.2.2.2.2.2.2.2.2.2.2.2.2.2.2.2.2.1, h.2.2.2.2.2.2.2.2.2.2.2.2.2.2.2.2.2.2.2.2.2.2.2.2.1, h.2.2.2.2.2.2.2.2.2.2.2.2.2.2.2.2.2.2.2.2.2.2.2.2.2.1, h.2.2.2.2.2.2.2.2.2.2.2.2.2.2.2.2.2.2.2.2.2.2.2.2.2.2.1, v)
def xs_bhigh (h : XH) (k : Nat) (v : Int64) : XH := xz_bhigh h (va_up (xh_bhigh h) k v)
def xf_Field_wipe_L2 (fuel : Nat) : Nat → Int32 → XH → Option (XH)
  | 0, _, _ => none
  | n + 1, v1, h => if (96 : Int32) ≤ v1 then some (h) else (gd 96 v1).bind fun j1 => (some (xs_signs h j1 (vp_nar .char (32 : Int32)))).bind fun g2 => (xf_Field_wipe_L2 fuel n) (v1 + (1 : Int32)) g2
def xf_Field_wipe (fuel : Nat) (h : XH) : Option (XH) :=
  xf_Field_wipe_L2 fuel fuel (0 : Int32) h
def xf_P_placeAt (a0 : Int32) (a1 : Int32) : Nat ⊕ (Int32) :=
  if a0 < 0 then Sum.inl 1 else if (12 : Int32) ≤ a0 then Sum.inl 1 else if a1 < 0 then Sum.inl 1 else if a1 < (8 : Int32) then Sum.inr (((a1 * (12 : Int32)) + a0)) else Sum.inl 1
def xf_P_isSign (a0 : Int32) : Int32 :=
  if a0 < (32 : Int32) then (0 : Int32) else if (126 : Int32) < a0 then (0 : Int32) else (1 : Int32)
def xf_Block_isOver_J17 (v1 : Int32) (w0 : Int64) (h : XH) : Int32 :=
  if (lg_cmp ((w0.toUInt64 >>> ((v1 &&& (63 : Int32)).toInt64.toUInt64 &&& Int64.toUInt64 63)).toInt64 &&& (1 : Int64)) (1 : Int64)) = 0 then (1 : Int32) else (0 : Int32)
def xf_Block_isOver (k0 : Nat) (a1 : Int32) (h : XH) : Int32 :=
  if (64 : Int32) ≤ a1 then xf_Block_isOver_J17 a1 (xh_bhigh h k0) h else xf_Block_isOver_J17 a1 (xh_blow h k0) h
def xf_Blocks_drop_J58 (fuel : Nat) (recL10 : Int32 → Int32 → Int32 → Int32 → XH → Option (XH)) (v1 : Int32) (v2 : Int32) (v3 : Int32) (v4 : Int32) (h : XH) : Option (XH) :=
  recL10 v1 v2 v3 (v4 + (1 : Int32)) h
def xf_Blocks_drop_L10 (fuel : Nat) : Nat → Int32 → Int32 → Int32 → Int32 → XH → Option (XH)
  | 0, _, _, _, _, _ => none
  | n + 1, v1, v2, v3, v4, h => if v3 ≤ v4 then (some (xs_dropped h ((xh_dropped h) + (v3 - v2)))).bind fun g1 => (some (xs_held g1 v2)).bind fun g2 => some (g2) else (gd 30 v4).bind fun j3 => (gn 30 (xh_row h j3)).bind fun k4 => if (xf_Block_isOver k4 v1 h) = 0 then (gd 30 v2).bind fun j5 => (gn 30 (xh_row h j5)).bind fun k6 => (gd 30 v4).bind fun j7 => (some (xs_row h j7 k6)).bind fun g8 => (gd 30 v2).bind fun j9 => (some (xs_row g8 j9 k4)).bind fun g10 => xf_Blocks_drop_J58 fuel (xf_Blocks_drop_L10 fuel n) v1 (v2 + (1 : Int32)) v3 v4 g10 else xf_Blocks_drop_J58 fuel (xf_Blocks_drop_L10 fuel n) v1 v2 v3 v4 h
def xf_Blocks_drop (fuel : Nat) (a1 : Int32) (h : XH) : Option (XH) :=
  xf_Blocks_drop_L10 fuel fuel a1 (0 : Int32) (xh_held h) (0 : Int32) h
def xf_Field_write (fuel : Nat) (a1 : Int32) (a2 : Int32) (h : XH) : Option (XH) :=
  (gd 96 a1).bind fun j1 => if (xh_signs h j1) = a2 then some (h) else (gd 96 a1).bind fun j2 => (some (xs_signs h j2 (vp_nar .char a2))).bind fun g3 => (xf_Blocks_drop fuel a1 g3).bind fun q4 => some (q4)
def xf_P_put (fuel : Nat) (a1 : Int32) (a2 : Int32) (a3 : Int32) (h : XH) : Option (Nat ⊕ (Int32 × XH)) :=
  sbd (xf_P_placeAt a1 a2) fun q1 => if (xf_P_isSign a3) = 0 then some (Sum.inl 2) else ((gd 96 q1).bind fun j2 => (xf_Field_write fuel q1 a3 h).bind fun q3 => (nc (xh_signs h j2)).bind fun r4 => some ((r4, q3))).map Sum.inr
def xf_P_sign (a1 : Int32) (a2 : Int32) (h : XH) : Option (Nat ⊕ (Int32)) :=
  sbd (xf_P_placeAt a1 a2) fun q1 => ((gd 96 q1).bind fun j2 => (nc (xh_signs h j2)).bind fun r3 => some (r3)).map Sum.inr
def xf_Line_hasRoom (k0 : Nat) (a1 : Int32) (h : XH) : Int32 :=
  if ((nI (xh_cap k0)) - (xh_lsize h k0)) < a1 then (0 : Int32) else (1 : Int32)
def xf_Line_add (k0 : Nat) (a1 : Int32) (h : XH) : Option (XH) :=
  if (nI (xh_cap k0)) ≤ (xh_lsize h k0) then some (h) else (gd (xh_cap k0) (xh_lsize h k0)).bind fun j1 => (some (xs_lchars h k0 j1 (vp_nar .char a1))).bind fun g2 => (some (xs_lsize g2 k0 ((xh_lsize g2 k0) + (1 : Int32)))).bind fun g3 => some (g3)
def xf_P_type (a1 : Int32) (h : XH) : Option (Int32 × XH) :=
  if (xf_P_isSign a1) = 0 then some (((0 : Int32), h)) else if (xf_Line_hasRoom 1 (1 : Int32) h) = 0 then some (((0 : Int32), h)) else (xf_Line_add 1 a1 h).bind fun q1 => some (((1 : Int32), q1))
def xf_Line_at (k0 : Nat) (a1 : Int32) (h : XH) : Option (Int32) :=
  if a1 < 0 then some ((32 : Int32)) else if (xh_lsize h k0) ≤ a1 then some ((32 : Int32)) else (gd (xh_cap k0) a1).bind fun j1 => (nc (xh_lchars h k0 j1)).bind fun r2 => some (r2)
def xf_Line_empty (k0 : Nat) (h : XH) : XH :=
  (xs_lsize h k0 (0 : Int32))
def xf_P_lay_L17 (fuel : Nat) : Nat → Int32 → Int32 → Int32 → XH → Option (Int32 × XH)
  | 0, _, _, _, _ => none
  | n + 1, v2, v3, v4, h => if (12 : Int32) ≤ v4 then some ((v3, (xf_Line_empty 1 h))) else (xf_Line_at 1 v4 h).bind fun q2 => (xf_Field_write fuel (v2 + v4) q2 h).bind fun q3 => (xf_P_lay_L17 fuel n) v2 v3 (v4 + (1 : Int32)) q3
def xf_P_lay (fuel : Nat) (a1 : Int32) (h : XH) : Option (Nat ⊕ (Int32 × XH)) :=
  sbd (xf_P_placeAt (0 : Int32) a1) fun q1 => (xf_P_lay_L17 fuel fuel q1 (xh_lsize h 1) (0 : Int32) h).map Sum.inr
def xf_Run_give (a1 : Int64) (h : XH) : Option (XH) :=
  if (40 : Int32) ≤ (xh_given h) then some (h) else (gd 40 (xh_given h)).bind fun j1 => (some (xs_innums h j1 a1)).bind fun g2 => (some (xs_given g2 ((xh_given g2) + (1 : Int32)))).bind fun g3 => some (g3)
def xf_P_input (a1 : Int64) (h : XH) : Option (Nat ⊕ (Int32 × XH)) :=
  if (xh_given h) = (40 : Int32) then some (Sum.inl 3) else ((xf_Run_give a1 h).bind fun q1 => some (((xh_given q1), q1))).map Sum.inr
def xf_Blocks_forget (h : XH) : XH :=
  (xs_dropped (xs_held h (0 : Int32)) (0 : Int32))
def xf_Run_forget (h : XH) : XH :=
  (xf_Line_empty 0 (xs_stopped (xs_steps (xs_read (xs_given (xs_living h (0 : Int32)) (0 : Int32)) (0 : Int32)) (0 : Int32)) (0 : Int32)))
def xf_P_clear (fuel : Nat) (h : XH) : Option (XH) :=
  (xf_Field_wipe fuel h).bind fun q1 => some ((xf_Run_forget (xf_Blocks_forget q1)))
def xf_Way_of (a0 : Int32) (a1 : Int32) (a2 : Int32) : Int32 :=
  (((a0 * (8 : Int32)) + (a1 * (2 : Int32))) + a2)
def xf_Ptr_begin (k0 : Nat) (a1 : Int32) (h : XH) : XH :=
  (xs_pret (xs_pdepth (xs_pway h k0 a1) k0 (0 : Int32)) k0 (0 : Int32))
def xf_Run_begin (h : XH) : Option (XH) :=
  (gd 4 (0 : Int32)).bind fun j1 => (gn 4 (xh_ptrs h j1)).bind fun k2 => (some (xs_living (xf_Ptr_begin k2 (xf_Way_of (0 : Int32) (0 : Int32) (0 : Int32)) h) (1 : Int32))).bind fun g3 => (some (xs_read g3 (0 : Int32))).bind fun g4 => (some (xs_steps g4 (0 : Int32))).bind fun g5 => (some (xs_stopped g5 (0 : Int32))).bind fun g6 => some ((xf_Line_empty 0 g6))
def xf_P_start (h : XH) : Option (XH) :=
  (xf_Run_begin h).bind fun q1 => some (q1)
def xf_P_checkSteps (a0 : Int32) : Nat ⊕ (Unit) :=
  if a0 < (1 : Int32) then Sum.inl 2 else if a0 ≤ (1000 : Int32) then Sum.inr (()) else Sum.inl 2
def xf_Run_state (h : XH) : Int32 :=
  if (xh_stopped h) = 0 then if (xh_living h) ≤ 0 then (1 : Int32) else (0 : Int32) else (xh_stopped h)
def xf_Way_place (a0 : Int32) : Int32 :=
  (a0 >>> ((3 : Int32) &&& 31))
def xf_Way_quotes (a0 : Int32) : Int32 :=
  (a0 &&& (1 : Int32))
def xf_P_isAct (a0 : Int32) (a1 : Int32) : Int32 :=
  if (xf_Way_quotes a0) = (1 : Int32) then (0 : Int32) else if a1 = (63 : Int32) then (1 : Int32) else if a1 = (64 : Int32) then (1 : Int32) else if a1 = (67 : Int32) then (1 : Int32) else if a1 = (82 : Int32) then (1 : Int32) else if a1 = (98 : Int32) then (1 : Int32) else if a1 = (102 : Int32) then (1 : Int32) else if a1 = (105 : Int32) then (1 : Int32) else if a1 = (110 : Int32) then (1 : Int32) else if a1 = (119 : Int32) then (1 : Int32) else (0 : Int32)
def xf_Ptr_pop (k0 : Nat) (h : XH) : Option (Int64 × XH) :=
  if (xh_pdepth h k0) = 0 then some (((0 : Int64), h)) else (some (xs_pdepth h k0 ((xh_pdepth h k0) - (1 : Int32)))).bind fun g1 => (gd 24 (xh_pdepth g1 k0)).bind fun j2 => some (((xh_pnums g1 k0 j2), g1))
def xf_Way_direction (a0 : Int32) : Int32 :=
  ((a0 >>> ((1 : Int32) &&& 31)) &&& (3 : Int32))
def xf_Way_directed (a0 : Int32) (a1 : Int32) : Int32 :=
  ((a0 &&& (-7 : Int32)) ||| (a1 <<< ((1 : Int32) &&& 31)))
def xf_Way_turned (a0 : Int32) (a1 : Int32) : Int32 :=
  (xf_Way_directed a0 (((xf_Way_direction a0) + a1) &&& (3 : Int32)))
def xf_Way_ahead_J111 (v0 : Int32) (v1 : Int32) (v2 : Int32) : Int32 :=
  ((((v2 * (12 : Int32)) + v1) * (8 : Int32)) + (v0 &&& (7 : Int32)))
def xf_Way_ahead_J61 (v0 : Int32) (v2 : Int32) (w0 : Int32) : Int32 :=
  xf_Way_ahead_J111 v0 w0 v2
def xf_Way_ahead_J78 (v0 : Int32) (v1 : Int32) (w0 : Int32) : Int32 :=
  xf_Way_ahead_J111 v0 v1 w0
def xf_Way_ahead_J94 (v0 : Int32) (v2 : Int32) (w0 : Int32) : Int32 :=
  xf_Way_ahead_J111 v0 w0 v2
def xf_Way_ahead_J110 (v0 : Int32) (v1 : Int32) (w0 : Int32) : Int32 :=
  xf_Way_ahead_J111 v0 v1 w0
def xf_Way_ahead (a0 : Int32) : Int32 :=
  if (xf_Way_direction a0) = (0 : Int32) then if ((xf_Way_place a0) - (xf_Way_place a0) / (12 : Int32) * (12 : Int32)) = (11 : Int32) then xf_Way_ahead_J61 a0 ((xf_Way_place a0) / (12 : Int32)) (0 : Int32) else xf_Way_ahead_J61 a0 ((xf_Way_place a0) / (12 : Int32)) (((xf_Way_place a0) - (xf_Way_place a0) / (12 : Int32) * (12 : Int32)) + (1 : Int32)) else if (xf_Way_direction a0) = (1 : Int32) then if ((xf_Way_place a0) / (12 : Int32)) = (7 : Int32) then xf_Way_ahead_J78 a0 ((xf_Way_place a0) - (xf_Way_place a0) / (12 : Int32) * (12 : Int32)) (0 : Int32) else xf_Way_ahead_J78 a0 ((xf_Way_place a0) - (xf_Way_place a0) / (12 : Int32) * (12 : Int32)) (((xf_Way_place a0) / (12 : Int32)) + (1 : Int32)) else if (xf_Way_direction a0) = (2 : Int32) then if ((xf_Way_place a0) - (xf_Way_place a0) / (12 : Int32) * (12 : Int32)) = 0 then xf_Way_ahead_J94 a0 ((xf_Way_place a0) / (12 : Int32)) (11 : Int32) else xf_Way_ahead_J94 a0 ((xf_Way_place a0) / (12 : Int32)) (((xf_Way_place a0) - (xf_Way_place a0) / (12 : Int32) * (12 : Int32)) - (1 : Int32)) else if ((xf_Way_place a0) / (12 : Int32)) = 0 then xf_Way_ahead_J110 a0 ((xf_Way_place a0) - (xf_Way_place a0) / (12 : Int32) * (12 : Int32)) (7 : Int32) else xf_Way_ahead_J110 a0 ((xf_Way_place a0) - (xf_Way_place a0) / (12 : Int32) * (12 : Int32)) (((xf_Way_place a0) / (12 : Int32)) - (1 : Int32))
def xf_Run_turn (k0 : Nat) (h : XH) : Option (Int32 × XH) :=
  (xf_Ptr_pop k0 h).bind fun q1 => if (lg_cmp q1.1 (0 : Int64)) ≤ 0 then if 0 ≤ (lg_cmp q1.1 (0 : Int64)) then (some (xs_pway q1.2 k0 (xf_Way_ahead (xh_pway q1.2 k0)))).bind fun g2 => some (((0 : Int32), g2)) else (some (xs_pway q1.2 k0 (xf_Way_turned (xh_pway q1.2 k0) (3 : Int32)))).bind fun g3 => (some (xs_pway g3 k0 (xf_Way_ahead (xh_pway g3 k0)))).bind fun g4 => some (((0 : Int32), g4)) else (some (xs_pway q1.2 k0 (xf_Way_turned (xh_pway q1.2 k0) (1 : Int32)))).bind fun g5 => (some (xs_pway g5 k0 (xf_Way_ahead (xh_pway g5 k0)))).bind fun g6 => some (((0 : Int32), g6))
def xf_Ptr_fromTop (k0 : Nat) (a1 : Int64) (h : XH) : Option (Int64) :=
  if (lg_cmp a1 (0 : Int64)) < 0 then some ((0 : Int64)) else if 0 ≤ (lg_cmp a1 ((xh_pdepth h k0).toInt64)) then some ((0 : Int64)) else (gd 24 (((xh_pdepth h k0) - (1 : Int32)) - a1.toInt32)).bind fun j1 => some ((xh_pnums h k0 j1))
def xf_Run_spell_J54 (fuel : Nat) (v1 : Int64) (v3 : Int32) (h : XH) : Option (Int32 × XH) :=
  if 0 ≤ (lg_cmp v1 (0 : Int64)) then some ((v3, h)) else (gd 20 (v3 + (-1 : Int32))).bind fun j3 => (some (xs_digits h j3 (vp_nar .char (45 : Int32)))).bind fun g4 => some (((v3 + (-1 : Int32)), g4))
def xf_Run_spell_L6 (fuel : Nat) : Nat → Int64 → Int32 → Int64 → XH → Option (Int32 × XH)
  | 0, _, _, _, _ => none
  | n + 1, v1, v3, v4, h => (gd 20 (v3 + (-1 : Int32))).bind fun j1 => (some (xs_digits h j1 (vp_nar .char (((((48 : Int64) + (jk_abs (v4 - v4 / (10 : Int64) * (10 : Int64)))).toInt32).toUInt32 % 65536).toInt32)))).bind fun g2 => if (lg_cmp (v4 / (10 : Int64)) (0 : Int64)) = 0 then xf_Run_spell_J54 fuel v1 (v3 + (-1 : Int32)) g2 else if (1 : Int32) < (v3 + (-1 : Int32)) then (xf_Run_spell_L6 fuel n) v1 (v3 + (-1 : Int32)) (v4 / (10 : Int64)) g2 else xf_Run_spell_J54 fuel v1 (v3 + (-1 : Int32)) g2
def xf_Run_spell (fuel : Nat) (a1 : Int64) (h : XH) : Option (Int32 × XH) :=
  xf_Run_spell_L6 fuel fuel a1 (20 : Int32) a1 h
def xf_Run_writeNumber_L35 (fuel : Nat) : Nat → Nat → Int32 → XH → Option (Int32 × XH)
  | 0, _, _, _ => none
  | n + 1, v1, v3, h => if (20 : Int32) ≤ v3 then (xf_Line_add 0 (32 : Int32) h).bind fun q4 => (some (xs_pway q4 v1 (xf_Way_ahead (xh_pway q4 v1)))).bind fun g5 => some (((0 : Int32), g5)) else (gd 20 v3).bind fun j6 => (xf_Line_add 0 (xh_digits h j6) h).bind fun q7 => (xf_Run_writeNumber_L35 fuel n) v1 (v3 + (1 : Int32)) q7
def xf_Run_writeNumber (fuel : Nat) (k1 : Nat) (h : XH) : Option (Int32 × XH) :=
  (xf_Ptr_fromTop k1 (0 : Int64) h).bind fun q1 => (xf_Run_spell fuel q1 h).bind fun q2 => if (xf_Line_hasRoom 0 (((20 : Int32) - q2.1) + (1 : Int32)) q2.2) = 0 then some (((3 : Int32), q2.2)) else (xf_Ptr_pop k1 q2.2).bind fun q3 => xf_Run_writeNumber_L35 fuel fuel k1 q2.1 q3.2
def xf_P_signOf (a0 : Int64) : Int32 :=
  if (xf_P_isSign ((((a0 &&& (127 : Int64)).toInt32).toUInt32 % 65536).toInt32)) = 0 then (32 : Int32) else (((a0 &&& (127 : Int64)).toInt32).toUInt32 % 65536).toInt32
def xf_Run_writeCharacter (k1 : Nat) (h : XH) : Option (Int32 × XH) :=
  if (xf_Line_hasRoom 0 (1 : Int32) h) = 0 then some (((3 : Int32), h)) else (xf_Ptr_pop k1 h).bind fun q1 => (xf_Line_add 0 (xf_P_signOf q1.1) q1.2).bind fun q2 => (some (xs_pway q2 k1 (xf_Way_ahead (xh_pway q2 k1)))).bind fun g3 => some (((0 : Int32), g3))
def xf_Ptr_isFull (k0 : Nat) (h : XH) : Int32 :=
  if (xh_pdepth h k0) = (24 : Int32) then (1 : Int32) else (0 : Int32)
def xf_Ptr_push (k0 : Nat) (a1 : Int64) (h : XH) : Option (XH) :=
  if (24 : Int32) ≤ (xh_pdepth h k0) then some (h) else (gd 24 (xh_pdepth h k0)).bind fun j1 => (some (xs_pnums h k0 j1 a1)).bind fun g2 => (some (xs_pdepth g2 k0 ((xh_pdepth g2 k0) + (1 : Int32)))).bind fun g3 => some (g3)
def xf_Run_readNumber (k1 : Nat) (h : XH) : Option (Int32 × XH) :=
  if (xf_Ptr_isFull k1 h) = 0 then if (xh_given h) ≤ (xh_read h) then (xf_Ptr_push k1 (-1 : Int64) h).bind fun q1 => (some (xs_pway q1 k1 (xf_Way_ahead (xh_pway q1 k1)))).bind fun g2 => some (((0 : Int32), g2)) else (gd 40 (xh_read h)).bind fun j3 => (xf_Ptr_push k1 (xh_innums h j3) h).bind fun q4 => (some (xs_read q4 ((xh_read q4) + (1 : Int32)))).bind fun g5 => (some (xs_pway g5 k1 (xf_Way_ahead (xh_pway g5 k1)))).bind fun g6 => some (((0 : Int32), g6)) else some (((2 : Int32), h))
def xf_Math_floorMod (a0 : Int64) (a2 : Int64) : Option (Int64) :=
  if a2 = 0 then none else if 0 ≤ (lg_cmp (a0 ^^^ a2) (0 : Int64)) then some ((a0 - a0 / a2 * a2)) else if (lg_cmp (a0 - a0 / a2 * a2) (0 : Int64)) = 0 then some ((a0 - a0 / a2 * a2)) else some (((a0 - a0 / a2 * a2) + a2))
def xf_P_joinedPlace (a0 : Int64) (a2 : Int64) : Option (Int32) :=
  (xf_Math_floorMod a0 (12 : Int64)).bind fun q1 => (xf_Math_floorMod a2 (8 : Int64)).bind fun q2 => some (((q2.toInt32 * (12 : Int32)) + q1.toInt32))
def xf_Run_popPlace (k0 : Nat) (h : XH) : Option (Int32 × XH) :=
  (xf_Ptr_pop k0 h).bind fun q1 => (xf_Ptr_pop k0 q1.2).bind fun q2 => (xf_P_joinedPlace q2.1 q1.1).bind fun q3 => some ((q3, q2.2))
def xf_Run_writeSign (fuel : Nat) (k1 : Nat) (h : XH) : Option (Int32 × XH) :=
  (xf_Run_popPlace k1 h).bind fun q1 => (xf_Ptr_pop k1 q1.2).bind fun q2 => (xf_Field_write fuel q1.1 (xf_P_signOf q2.1) q2.2).bind fun q3 => (some (xs_pway q3 k1 (xf_Way_ahead (xh_pway q3 k1)))).bind fun g4 => some (((0 : Int32), g4))
def xf_Run_goAway (k0 : Nat) (h : XH) : Option (Int32 × XH) :=
  if (xh_pret h k0) = (8 : Int32) then some (((2 : Int32), h)) else (xf_Run_popPlace k0 h).bind fun q1 => (gd 8 (xh_pret q1.2 k0)).bind fun j2 => (some (xs_prets q1.2 k0 j2 (xf_Way_ahead (xh_pway q1.2 k0)))).bind fun g3 => (some (xs_pret g3 k0 ((xh_pret g3 k0) + (1 : Int32)))).bind fun g4 => (some (xs_pway g4 k0 (xf_Way_of q1.1 (xf_Way_direction (xh_pway g4 k0)) (0 : Int32)))).bind fun g5 => some (((0 : Int32), g5))
def xf_Run_goBack (k0 : Nat) (h : XH) : Option (Int32 × XH) :=
  if (xh_pret h k0) = 0 then some (((1 : Int32), h)) else (some (xs_pret h k0 ((xh_pret h k0) - (1 : Int32)))).bind fun g1 => (gd 8 (xh_pret g1 k0)).bind fun j2 => (some (xs_pway g1 k0 (xh_prets g1 k0 j2))).bind fun g3 => some (((0 : Int32), g3))
def xf_Run_fork (k1 : Nat) (h : XH) : Option (Int32 × XH) :=
  (xf_Ptr_pop k1 h).bind fun q1 => if (4 : Int32) ≤ (xh_living q1.2) then (some (xs_pway q1.2 k1 (xf_Way_ahead (xh_pway q1.2 k1)))).bind fun g2 => some (((0 : Int32), g2)) else (gd 4 (xh_living q1.2)).bind fun j3 => (gn 4 (xh_ptrs q1.2 j3)).bind fun k4 => (some (xs_living q1.2 ((xh_living q1.2) + (1 : Int32)))).bind fun g5 => (xf_Ptr_push k4 q1.1 (xf_Ptr_begin k4 (xf_Way_ahead (xf_Way_turned (xh_pway g5 k1) (3 : Int32))) g5)).bind fun q6 => (some (xs_pway q6 k1 (xf_Way_ahead (xh_pway q6 k1)))).bind fun g7 => some (((0 : Int32), g7))
def xf_Run_act (fuel : Nat) (k1 : Nat) (a2 : Int32) (h : XH) : Option (Int32 × XH) :=
  if a2 = (63 : Int32) then (xf_Run_turn k1 h).bind fun q1 => some ((q1.1, q1.2)) else if a2 = (67 : Int32) then (xf_Run_goAway k1 h).bind fun q2 => some ((q2.1, q2.2)) else if a2 = (82 : Int32) then (xf_Run_goBack k1 h).bind fun q3 => some ((q3.1, q3.2)) else if a2 = (98 : Int32) then (xf_Run_writeCharacter k1 h).bind fun q4 => some ((q4.1, q4.2)) else if a2 = (102 : Int32) then (xf_Run_fork k1 h).bind fun q5 => some ((q5.1, q5.2)) else if a2 = (105 : Int32) then (xf_Run_readNumber k1 h).bind fun q6 => some ((q6.1, q6.2)) else if a2 = (110 : Int32) then (xf_Run_writeNumber fuel k1 h).bind fun q7 => some ((q7.1, q7.2)) else if a2 = (119 : Int32) then (xf_Run_writeSign fuel k1 h).bind fun q8 => some ((q8.1, q8.2)) else some (((1 : Int32), h))
def xf_Run_pushesMore (a0 : Int32) (a1 : Int32) : Int32 :=
  if (xf_Way_quotes a0) = (1 : Int32) then if a1 = (34 : Int32) then (0 : Int32) else (1 : Int32) else if a1 < (48 : Int32) then if a1 = (99 : Int32) then (1 : Int32) else (0 : Int32) else if a1 ≤ (57 : Int32) then (1 : Int32) else if a1 = (99 : Int32) then (1 : Int32) else (0 : Int32)
def xf_Run_join (k0 : Nat) (a1 : Int32) (h : XH) : Option (XH) :=
  (xf_Ptr_pop k0 h).bind fun q1 => (xf_Ptr_pop k0 q1.2).bind fun q2 => if a1 = (42 : Int32) then (xf_Ptr_push k0 (q2.1 * q1.1) q2.2).bind fun q3 => some (q3) else if a1 = (43 : Int32) then (xf_Ptr_push k0 (q2.1 + q1.1) q2.2).bind fun q4 => some (q4) else if a1 = (45 : Int32) then (xf_Ptr_push k0 (q2.1 - q1.1) q2.2).bind fun q5 => some (q5) else if a1 = (100 : Int32) then if (lg_cmp q1.1 (0 : Int64)) = 0 then (xf_Ptr_push k0 (0 : Int64) q2.2).bind fun q7 => some (q7) else if q1.1 = 0 then none else (xf_Ptr_push k0 (q2.1 / q1.1) q2.2).bind fun q6 => some (q6) else if (lg_cmp q1.1 (0 : Int64)) = 0 then (xf_Ptr_push k0 (0 : Int64) q2.2).bind fun q9 => some (q9) else if q1.1 = 0 then none else (xf_Ptr_push k0 (q2.1 - q2.1 / q1.1 * q1.1) q2.2).bind fun q8 => some (q8)
def xf_Run_reckon_J22 (v1 : Nat) (v2 : Int32) (h : XH) : Option (XH) :=
  if v2 = (42 : Int32) then (xf_Run_join v1 v2 h).bind fun q1 => some (q1) else if v2 = (43 : Int32) then (xf_Run_join v1 v2 h).bind fun q2 => some (q2) else if v2 = (45 : Int32) then (xf_Run_join v1 v2 h).bind fun q3 => some (q3) else if v2 = (99 : Int32) then (xf_Ptr_pop v1 h).bind fun q4 => (xf_Ptr_push v1 q4.1 q4.2).bind fun q5 => (xf_Ptr_push v1 q4.1 q5).bind fun q6 => some (q6) else if v2 = (100 : Int32) then (xf_Run_join v1 v2 h).bind fun q7 => some (q7) else if v2 = (103 : Int32) then (xf_Run_popPlace v1 h).bind fun q8 => (gd 96 q8.1).bind fun j9 => (xf_Ptr_push v1 ((xh_signs q8.2 j9).toInt64) q8.2).bind fun q10 => some (q10) else if v2 = (109 : Int32) then (xf_Run_join v1 v2 h).bind fun q11 => some (q11) else if v2 = (114 : Int32) then (xf_Ptr_pop v1 h).bind fun q12 => (xf_Ptr_fromTop v1 q12.1 q12.2).bind fun q13 => (xf_Ptr_push v1 q13 q12.2).bind fun q14 => some (q14) else if v2 = (115 : Int32) then (xf_Ptr_pop v1 h).bind fun q15 => (xf_Ptr_pop v1 q15.2).bind fun q16 => (xf_Ptr_push v1 q15.1 q16.2).bind fun q17 => (xf_Ptr_push v1 q16.1 q17).bind fun q18 => some (q18) else if v2 = (120 : Int32) then (xf_Ptr_pop v1 h).bind fun q19 => some (q19.2) else some (h)
def xf_Run_reckon (k1 : Nat) (a2 : Int32) (h : XH) : Option (XH) :=
  if a2 < (48 : Int32) then xf_Run_reckon_J22 k1 a2 h else if (57 : Int32) < a2 then xf_Run_reckon_J22 k1 a2 h else (xf_Ptr_push k1 ((a2 - (48 : Int32)).toInt64) h).bind fun q20 => some (q20)
def xf_Way_behind (a0 : Int32) (a1 : Int32) : Int32 :=
  if a1 = (34 : Int32) then (xf_Way_ahead (a0 ^^^ (1 : Int32))) else if (xf_Way_quotes a0) = (1 : Int32) then (xf_Way_ahead a0) else if a1 = (35 : Int32) then (xf_Way_ahead (xf_Way_ahead a0)) else if a1 = (47 : Int32) then (xf_Way_ahead (xf_Way_directed a0 ((3 : Int32) - (xf_Way_direction a0)))) else if a1 = (60 : Int32) then (xf_Way_ahead (xf_Way_directed a0 (2 : Int32))) else if a1 = (62 : Int32) then (xf_Way_ahead (xf_Way_directed a0 (0 : Int32))) else if a1 = (92 : Int32) then (xf_Way_ahead (xf_Way_directed a0 ((xf_Way_direction a0) ^^^ (1 : Int32)))) else if a1 = (94 : Int32) then (xf_Way_ahead (xf_Way_directed a0 (3 : Int32))) else if a1 = (118 : Int32) then (xf_Way_ahead (xf_Way_directed a0 (1 : Int32))) else (xf_Way_ahead a0)
def xf_Run_pass_J20 (v1 : Nat) (v2 : Int32) (h : XH) : Option (Int32 × XH) :=
  if (xf_Way_quotes (xh_pway h v1)) = 0 then (xf_Run_reckon v1 v2 h).bind fun q4 => (some (xs_pway q4 v1 (xf_Way_behind (xh_pway q4 v1) v2))).bind fun g5 => some (((0 : Int32), g5)) else if v2 = (34 : Int32) then (some (xs_pway h v1 (xf_Way_behind (xh_pway h v1) v2))).bind fun g1 => some (((0 : Int32), g1)) else (xf_Ptr_push v1 v2.toInt64 h).bind fun q2 => (some (xs_pway q2 v1 (xf_Way_behind (xh_pway q2 v1) v2))).bind fun g3 => some (((0 : Int32), g3))
def xf_Run_pass (k1 : Nat) (a2 : Int32) (h : XH) : Option (Int32 × XH) :=
  if (xf_Run_pushesMore (xh_pway h k1) a2) = 0 then xf_Run_pass_J20 k1 a2 h else if (xf_Ptr_isFull k1 h) = 0 then xf_Run_pass_J20 k1 a2 h else some (((2 : Int32), h))
def xf_Run_remove_L11 (fuel : Nat) : Nat → Nat → Int32 → XH → Option (XH)
  | 0, _, _, _ => none
  | n + 1, v2, v3, h => if (xh_living h) ≤ v3 then (some (xs_living h ((xh_living h) - (1 : Int32)))).bind fun g3 => (gd 4 (xh_living g3)).bind fun j4 => (some (xs_ptrs g3 j4 v2)).bind fun g5 => some (g5) else (gd 4 v3).bind fun j6 => (gn 4 (xh_ptrs h j6)).bind fun k7 => (gd 4 (v3 - (1 : Int32))).bind fun j8 => (some (xs_ptrs h j8 k7)).bind fun g9 => (xf_Run_remove_L11 fuel n) v2 (v3 + (1 : Int32)) g9
def xf_Run_remove (fuel : Nat) (a1 : Int32) (h : XH) : Option (XH) :=
  (gd 4 a1).bind fun j1 => (gn 4 (xh_ptrs h j1)).bind fun k2 => xf_Run_remove_L11 fuel fuel k2 (a1 + (1 : Int32)) h
def xf_Run_advance_J106 (fuel : Nat) (recL9 : Int32 → Int32 → Int32 → XH → Option (XH)) (v1 : Int32) (v2 : Int32) (v3 : Int32) (h : XH) : Option (XH) :=
  recL9 v1 v2 (v3 + (1 : Int32)) h
def xf_Run_advance_J72 (fuel : Nat) (recL9 : Int32 → Int32 → Int32 → XH → Option (XH)) (v1 : Int32) (v2 : Int32) (v3 : Int32) (w0 : Int32) (h : XH) : Option (XH) :=
  if w0 = 0 then xf_Run_advance_J106 fuel recL9 v1 (v2 + (1 : Int32)) v3 h else if w0 = (1 : Int32) then (xf_Run_remove fuel v2 h).bind fun q7 => xf_Run_advance_J106 fuel recL9 v1 v2 v3 q7 else (some (xs_stopped h w0)).bind fun g6 => some (g6)
def xf_Run_advance_L9 (fuel : Nat) : Nat → Int32 → Int32 → Int32 → XH → Option (XH)
  | 0, _, _, _, _ => none
  | n + 1, v1, v2, v3, h => if v1 ≤ v3 then (some (xs_steps h ((xh_steps h) + (1 : Int32)))).bind fun g1 => some (g1) else (gd 4 v2).bind fun j2 => (gn 4 (xh_ptrs h j2)).bind fun k3 => (gd 96 (xf_Way_place (xh_pway h k3))).bind fun j4 => if (xf_P_isAct (xh_pway h k3) (xh_signs h j4)) = 0 then (xf_Run_pass k3 (xh_signs h j4) h).bind fun q5 => xf_Run_advance_J72 fuel (xf_Run_advance_L9 fuel n) v1 v2 v3 q5.1 q5.2 else (xf_Run_act fuel k3 (xh_signs h j4) h).bind fun q8 => xf_Run_advance_J72 fuel (xf_Run_advance_L9 fuel n) v1 v2 v3 q8.1 q8.2
def xf_Run_advance (fuel : Nat) (h : XH) : Option (XH) :=
  xf_Run_advance_L9 fuel fuel (xh_living h) (0 : Int32) (0 : Int32) h
def xf_P_step_L6 (fuel : Nat) : Nat → Int32 → Int32 → XH → Option (Int32 × XH)
  | 0, _, _, _ => none
  | n + 1, v1, v2, h => if v1 ≤ v2 then some (((xf_Run_state h), h)) else if (xf_Run_state h) = 0 then (xf_Run_advance fuel h).bind fun q2 => (xf_P_step_L6 fuel n) v1 (v2 + (1 : Int32)) q2 else some (((xf_Run_state h), h))
def xf_P_step (fuel : Nat) (a1 : Int32) (h : XH) : Option (Nat ⊕ (Int32 × XH)) :=
  sbd (xf_P_checkSteps a1) fun q1 => (xf_P_step_L6 fuel fuel a1 (0 : Int32) h).map Sum.inr
def xf_Blocks_find_L2 (fuel : Nat) : Nat → Int32 → Int32 → XH → Option (Option Nat)
  | 0, _, _, _ => none
  | n + 1, v1, v2, h => if (xh_held h) ≤ v2 then some (none) else (gd 30 v2).bind fun j1 => (gn 30 (xh_row h j1)).bind fun k2 => if (xh_bbegin h k2) = v1 then (gd 30 v2).bind fun j3 => (gn 30 (xh_row h j3)).bind fun k4 => some (some (k4)) else (xf_Blocks_find_L2 fuel n) v1 (v2 + (1 : Int32)) h
def xf_Blocks_find (fuel : Nat) (a1 : Int32) (h : XH) : Option (Option Nat) :=
  xf_Blocks_find_L2 fuel fuel a1 (0 : Int32) h
def xf_Block_addPlace (k0 : Nat) (a1 : Int32) (h : XH) : XH :=
  if (64 : Int32) ≤ a1 then (xs_bhigh h k0 ((xh_bhigh h k0) ||| ((1 : Int64) <<< ((a1 - (64 : Int32)).toInt64 &&& 63)))) else (xs_blow h k0 ((xh_blow h k0) ||| ((1 : Int64) <<< (a1.toInt64 &&& 63))))
def xf_Block_trace_L21 (fuel : Nat) : Nat → Nat → Int32 → Int32 → XH → Option (XH)
  | 0, _, _, _, _ => none
  | n + 1, v0, v4, v5, h => if (32 : Int32) ≤ v5 then (some (xs_bsize h v0 v5)).bind fun g4 => (some (xs_bbehind g4 v0 v4)).bind fun g5 => some (g5) else (gd 96 (xf_Way_place v4)).bind fun j6 => if ((xh_bmarks h j6) &&& ((1 : Int32) <<< ((v4 &&& (7 : Int32)) &&& 31))) = 0 then (gd 96 (xf_Way_place v4)).bind fun j9 => if (xf_P_isAct v4 (xh_signs h j9)) = 0 then (gd 96 (xf_Way_place v4)).bind fun j10 => (gd 96 (xf_Way_place v4)).bind fun j11 => (some (xs_bmarks h j11 ((xh_bmarks h j10) ||| ((1 : Int32) <<< ((v4 &&& (7 : Int32)) &&& 31))))).bind fun g12 => (gd 96 (xf_Way_place v4)).bind fun j13 => (xf_Block_trace_L21 fuel n) v0 (xf_Way_behind v4 (xh_signs (xf_Block_addPlace v0 (xf_Way_place v4) g12) j13)) (v5 + (1 : Int32)) (xf_Block_addPlace v0 (xf_Way_place v4) g12) else (some (xs_bsize h v0 v5)).bind fun g14 => (some (xs_bbehind g14 v0 v4)).bind fun g15 => some (g15) else (some (xs_bsize h v0 v5)).bind fun g7 => (some (xs_bbehind g7 v0 v4)).bind fun g8 => some (g8)
def xf_Block_trace (fuel : Nat) (k0 : Nat) (a1 : Int32) (h : XH) : Option (XH) :=
  (some (xs_bbegin h k0 a1)).bind fun g1 => (some (xs_blow g1 k0 (0 : Int64))).bind fun g2 => (some (xs_bhigh g2 k0 (0 : Int64))).bind fun g3 => xf_Block_trace_L21 fuel fuel k0 a1 (0 : Int32) g3
def xf_Blocks_make_L13 (fuel : Nat) : Nat → Int32 → Int32 → XH → Option (Option Nat × XH)
  | 0, _, _, _ => none
  | n + 1, v1, v3, h => if (96 : Int32) ≤ v3 then (gd 30 (xh_held h)).bind fun j1 => (gn 30 (xh_row h j1)).bind fun k2 => (some (xs_held h ((xh_held h) + (1 : Int32)))).bind fun g3 => (xf_Block_trace fuel k2 v1 g3).bind fun q4 => some ((some (k2), q4)) else (gd 96 v3).bind fun j5 => (some (xs_bmarks h j5 (0 : Int32))).bind fun g6 => (xf_Blocks_make_L13 fuel n) v1 (v3 + (1 : Int32)) g6
def xf_Blocks_make (fuel : Nat) (a1 : Int32) (h : XH) : Option (Option Nat × XH) :=
  if (xh_held h) = (30 : Int32) then some ((none, h)) else xf_Blocks_make_L13 fuel fuel a1 (0 : Int32) h
def xf_Run_signsTogether_J83 (fuel : Nat) (v1 : Int32) (v2 : Nat) (h : XH) : Option (Int32 × XH) :=
  some (((1 : Int32), h))
def xf_Run_signsTogether_J83a (fuel : Nat) (v1 : Int32) (v2 : Nat) (v3 : Nat) (h : XH) : Option (Int32 × XH) :=
  if v1 < (xh_bsize h v3) then some (((1 : Int32), h)) else if ((xh_bsize h v3) + (xh_pdepth h v2)) < (24 : Int32) then some (((xh_bsize h v3), h)) else some (((1 : Int32), h))
def xf_Run_signsTogether (fuel : Nat) (a1 : Int32) (h : XH) : Option (Int32 × XH) :=
  (gd 4 (0 : Int32)).bind fun j1 => (gn 4 (xh_ptrs h j1)).bind fun k2 => if (xh_living h) = (1 : Int32) then (gd 96 (xf_Way_place (xh_pway h k2))).bind fun j3 => if (xf_P_isAct (xh_pway h k2) (xh_signs h j3)) = 0 then (xf_Blocks_find fuel (xh_pway h k2) h).bind fun q4 => obr q4 ((xf_Blocks_make fuel (xh_pway h k2) h).bind fun q6 => obr q6.1 (xf_Run_signsTogether_J83 fuel a1 k2 q6.2) (fun o8 => (gn 30 o8).bind fun k7 => xf_Run_signsTogether_J83a fuel a1 k2 k7 q6.2)) (fun o9 => (gn 30 o9).bind fun k5 => xf_Run_signsTogether_J83a fuel a1 k2 k5 h) else some (((1 : Int32), h)) else some (((1 : Int32), h))
def xf_P_fast_J38 (fuel : Nat) (recL8 : Int32 → Int32 → Int32 → XH → Option (Int32 × XH)) (v1 : Int32) (v2 : Int32) (v3 : Int32) (h : XH) : Option (Int32 × XH) :=
  (xf_Run_advance fuel h).bind fun q2 => recL8 v1 (v2 + (-1 : Int32)) (v3 + (1 : Int32)) q2
def xf_P_fast_L8 (fuel : Nat) : Nat → Int32 → Int32 → Int32 → XH → Option (Int32 × XH)
  | 0, _, _, _, _ => none
  | n + 1, v1, v2, v3, h => if v1 ≤ v3 then some (((xf_Run_state h), h)) else if (xf_Run_state h) = 0 then if v2 = 0 then (xf_Run_signsTogether fuel (v1 - v3) h).bind fun q3 => xf_P_fast_J38 fuel (xf_P_fast_L8 fuel n) v1 q3.1 v3 q3.2 else xf_P_fast_J38 fuel (xf_P_fast_L8 fuel n) v1 v2 v3 h else some (((xf_Run_state h), h))
def xf_P_fast (fuel : Nat) (a1 : Int32) (h : XH) : Option (Nat ⊕ (Int32 × XH)) :=
  sbd (xf_P_checkSteps a1) fun q1 => (xf_P_fast_L8 fuel fuel a1 (0 : Int32) (0 : Int32) h).map Sum.inr
def xf_P_livingPointer (a1 : Int32) (h : XH) : Option (Nat ⊕ (Nat)) :=
  if a1 < 0 then some (Sum.inl 1) else if a1 < (xh_living h) then ((gd 4 a1).bind fun j1 => (gn 4 (xh_ptrs h j1)).bind fun k2 => some (k2)).map Sum.inr else some (Sum.inl 1)
def xf_P_pointer (a1 : Int32) (a2 : Int32) (h : XH) : Option (Nat ⊕ (Int32)) :=
  obd (xf_P_livingPointer a1 h) fun q1 => (gn 4 q1).bind fun k2 => if a2 = (0 : Int32) then (some (((xf_Way_place (xh_pway h q1)) - (xf_Way_place (xh_pway h q1)) / (12 : Int32) * (12 : Int32)))).map Sum.inr else if a2 = (1 : Int32) then (some (((xf_Way_place (xh_pway h q1)) / (12 : Int32)))).map Sum.inr else if a2 = (2 : Int32) then (some ((xf_Way_direction (xh_pway h q1)))).map Sum.inr else if a2 = (3 : Int32) then (some ((xf_Way_quotes (xh_pway h q1)))).map Sum.inr else if a2 = (4 : Int32) then (some ((xh_pdepth h q1))).map Sum.inr else if a2 = (5 : Int32) then (some ((xh_pret h q1))).map Sum.inr else some (Sum.inl 2)
def xf_P_value (a1 : Int32) (a2 : Int32) (h : XH) : Option (Nat ⊕ (Int64)) :=
  obd (xf_P_livingPointer a1 h) fun q1 => (gn 4 q1).bind fun k2 => if a2 < 0 then some (Sum.inl 1) else if a2 < (xh_pdepth h q1) then ((xf_Ptr_fromTop q1 a2.toInt64 h).bind fun q3 => some (q3)).map Sum.inr else some (Sum.inl 1)
def xf_Search_reach (a1 : Int32) (h : XH) : Option (XH) :=
  (gd 96 (xf_Way_place a1)).bind fun j1 => if ((xh_smarks h j1) &&& ((1 : Int32) <<< ((a1 &&& (7 : Int32)) &&& 31))) = 0 then if (768 : Int32) ≤ (xh_ssize h) then some (h) else (gd 96 (xf_Way_place a1)).bind fun j2 => (gd 96 (xf_Way_place a1)).bind fun j3 => (some (xs_smarks h j3 ((xh_smarks h j2) ||| ((1 : Int32) <<< ((a1 &&& (7 : Int32)) &&& 31))))).bind fun g4 => (gd 768 (xh_ssize g4)).bind fun j5 => (some (xs_sfound g4 j5 a1)).bind fun g6 => (some (xs_ssize g6 ((xh_ssize g6) + (1 : Int32)))).bind fun g7 => some (g7) else some (h)
def xf_Search_follow_J51 (v1 : Int32) (v2 : Int32) (v3 : Int32) (h : XH) : Option (XH) :=
  if v3 = 0 then (xf_Search_reach (xf_Way_behind v1 v2) h).bind fun q1 => some (q1) else if v2 = (63 : Int32) then (xf_Search_reach (xf_Way_ahead (xf_Way_turned v1 (1 : Int32))) h).bind fun q3 => (xf_Search_reach (xf_Way_behind v1 v2) q3).bind fun q4 => some (q4) else (xf_Search_reach (xf_Way_behind v1 v2) h).bind fun q2 => some (q2)
def xf_Search_follow_J39 (v1 : Int32) (v2 : Int32) (v3 : Int32) (h : XH) : Option (XH) :=
  (xf_Search_reach (xf_Way_ahead (xf_Way_turned v1 (3 : Int32))) h).bind fun q5 => xf_Search_follow_J51 v1 v2 v3 q5
def xf_Search_follow_J23 (v1 : Int32) (v2 : Int32) (v3 : Int32) (h : XH) : Option (XH) :=
  if v3 = 0 then xf_Search_follow_J51 v1 v2 v3 h else if v2 = (63 : Int32) then xf_Search_follow_J39 v1 v2 v3 h else if v2 = (102 : Int32) then xf_Search_follow_J39 v1 v2 v3 h else xf_Search_follow_J51 v1 v2 v3 h
def xf_Search_follow (a1 : Int32) (a2 : Int32) (h : XH) : Option (XH) :=
  if (xf_P_isAct a1 a2) = 0 then xf_Search_follow_J23 a1 a2 (xf_P_isAct a1 a2) h else if a2 = (82 : Int32) then some (h) else if a2 = (64 : Int32) then some (h) else xf_Search_follow_J23 a1 a2 (xf_P_isAct a1 a2) h
def xf_Search_explore_L38 (fuel : Nat) : Nat → Int32 → XH → Option (XH)
  | 0, _, _ => none
  | n + 1, v2, h => if (768 : Int32) ≤ v2 then some (h) else if (xh_ssize h) ≤ v2 then some (h) else (gd 768 v2).bind fun j3 => (gd 768 v2).bind fun j4 => (gd 96 (xf_Way_place (xh_sfound h j4))).bind fun j5 => (xf_Search_follow (xh_sfound h j3) (xh_signs h j5) h).bind fun q6 => (xf_Search_explore_L38 fuel n) (v2 + (1 : Int32)) q6
def xf_Search_explore_L2 (fuel : Nat) : Nat → Int32 → XH → Option (XH)
  | 0, _, _ => none
  | n + 1, v2, h => if (96 : Int32) ≤ v2 then (some (xs_ssize h (0 : Int32))).bind fun g1 => (xf_Search_reach (xf_Way_of (0 : Int32) (0 : Int32) (0 : Int32)) g1).bind fun q2 => xf_Search_explore_L38 fuel fuel (0 : Int32) q2 else (gd 96 v2).bind fun j7 => (some (xs_smarks h j7 (0 : Int32))).bind fun g8 => (xf_Search_explore_L2 fuel n) (v2 + (1 : Int32)) g8
def xf_Search_explore (fuel : Nat) (h : XH) : Option (XH) :=
  xf_Search_explore_L2 fuel fuel (0 : Int32) h
def xf_Search_cameTo (a1 : Int32) (h : XH) : Option (Int32) :=
  (gd 96 a1).bind fun j1 => if (xh_smarks h j1) = 0 then some ((0 : Int32)) else some ((1 : Int32))
def xf_P_lostPlaces_J52 (fuel : Nat) (recL18 : Int32 → Int32 → XH → Option (Int32 × XH)) (v1 : Int32) (v2 : Int32) (h : XH) : Option (Int32 × XH) :=
  recL18 v1 (v2 + (1 : Int32)) h
def xf_P_lostPlaces_L18 (fuel : Nat) : Nat → Int32 → Int32 → XH → Option (Int32 × XH)
  | 0, _, _, _ => none
  | n + 1, v1, v2, h => if (96 : Int32) ≤ v2 then some ((v1, h)) else (gd 96 v2).bind fun j2 => if (xh_signs h j2) = (32 : Int32) then xf_P_lostPlaces_J52 fuel (xf_P_lostPlaces_L18 fuel n) v1 v2 h else (xf_Search_cameTo v2 h).bind fun q3 => if q3 = 0 then xf_P_lostPlaces_J52 fuel (xf_P_lostPlaces_L18 fuel n) (v1 + (1 : Int32)) v2 h else xf_P_lostPlaces_J52 fuel (xf_P_lostPlaces_L18 fuel n) v1 v2 h
def xf_P_lostPlaces (fuel : Nat) (h : XH) : Option (Int32 × XH) :=
  (xf_Search_explore fuel h).bind fun q1 => xf_P_lostPlaces_L18 fuel fuel (0 : Int32) (0 : Int32) q1
def xf_P_count (fuel : Nat) (a1 : Int32) (h : XH) : Option (Int32 × XH) :=
  if a1 = (0 : Int32) then some (((xh_living h), h)) else if a1 = (1 : Int32) then some (((xh_steps h), h)) else if a1 = (2 : Int32) then some (((xh_held h), h)) else if a1 = (3 : Int32) then some (((xh_dropped h), h)) else if a1 = (4 : Int32) then some ((((xh_given h) - (xh_read h)), h)) else if a1 = (5 : Int32) then some (((xf_Run_state h), h)) else if a1 = (6 : Int32) then (xf_P_lostPlaces fuel h).bind fun q1 => some ((q1.1, q1.2)) else some (((-1 : Int32), h))
def xf_Blocks_over_J28 (fuel : Nat) (recL4 : Int32 → Int32 → Int32 → XH → Option (Int32)) (v1 : Int32) (v2 : Int32) (v3 : Int32) (h : XH) : Option (Int32) :=
  recL4 v1 v2 (v3 + (1 : Int32)) h
def xf_Blocks_over_L4 (fuel : Nat) : Nat → Int32 → Int32 → Int32 → XH → Option (Int32)
  | 0, _, _, _, _ => none
  | n + 1, v1, v2, v3, h => if (xh_held h) ≤ v3 then some (v2) else (gd 30 v3).bind fun j1 => (gn 30 (xh_row h j1)).bind fun k2 => if (xf_Block_isOver k2 v1 h) = 0 then xf_Blocks_over_J28 fuel (xf_Blocks_over_L4 fuel n) v1 v2 v3 h else xf_Blocks_over_J28 fuel (xf_Blocks_over_L4 fuel n) v1 (v2 + (1 : Int32)) v3 h
def xf_Blocks_over (fuel : Nat) (a1 : Int32) (h : XH) : Option (Int32) :=
  xf_Blocks_over_L4 fuel fuel a1 (0 : Int32) (0 : Int32) h
def xf_P_covers (fuel : Nat) (a1 : Int32) (a2 : Int32) (h : XH) : Option (Nat ⊕ (Int32)) :=
  sbd (xf_P_placeAt a1 a2) fun q1 => ((xf_Blocks_over fuel q1 h).bind fun q2 => some (q2)).map Sum.inr
def xf_P_block_J54 (fuel : Nat) (v5 : Int32) (w1 : Int32) (w2 : Int32) (w3 : Int32) (h : XH) : Option (Int32) :=
  (xf_Blocks_find fuel (xf_Way_of w1 w2 w3) h).bind fun q2 => obr q2 (some ((-1 : Int32))) (fun o4 => (gn 30 o4).bind fun k3 => if v5 = (0 : Int32) then some ((xh_bsize h k3)) else if v5 = (1 : Int32) then some (((xf_Way_place (xh_bbehind h k3)) - (xf_Way_place (xh_bbehind h k3)) / (12 : Int32) * (12 : Int32))) else if v5 = (2 : Int32) then some (((xf_Way_place (xh_bbehind h k3)) / (12 : Int32))) else if v5 = (3 : Int32) then some ((xf_Way_direction (xh_bbehind h k3))) else some ((xf_Way_quotes (xh_bbehind h k3))))
def xf_P_block (fuel : Nat) (a1 : Int32) (a2 : Int32) (a3 : Int32) (a4 : Int32) (a5 : Int32) (h : XH) : Option (Nat ⊕ (Int32)) :=
  sbd (xf_P_placeAt a1 a2) fun q1 => if a3 < 0 then some (Sum.inl 2) else if (4 : Int32) ≤ a3 then some (Sum.inl 2) else if a5 < 0 then some (Sum.inl 2) else if a5 ≤ (4 : Int32) then (if a4 = 0 then xf_P_block_J54 fuel a5 q1 a3 (0 : Int32) h else xf_P_block_J54 fuel a5 q1 a3 (1 : Int32) h).map Sum.inr else some (Sum.inl 2)
def xf_P_lost (fuel : Nat) (a1 : Int32) (a2 : Int32) (h : XH) : Option (Nat ⊕ (Int32 × XH)) :=
  sbd (xf_P_placeAt a1 a2) fun q1 => ((gd 96 q1).bind fun j2 => if (xh_signs h j2) = (32 : Int32) then some (((0 : Int32), h)) else (xf_Search_explore fuel h).bind fun q3 => (xf_Search_cameTo q1 q3).bind fun q4 => if q4 = 0 then some (((1 : Int32), q3)) else some (((0 : Int32), q3))).map Sum.inr
def xf_Line_copy (k0 : Nat) (k1 : Nat) (h : XH) : Option (XH) :=
  (some (xs_lsize h k0 (jk_min (xh_lsize h k1) (nI (xh_cap k0))))).bind fun g1 => (gc (xh_cap k1) (xh_cap k0) (xh_lchars g1 k1) (0 : Int32) (0 : Int32) (xh_lsize g1 k0)).bind fun j2 => (some (xc_lchars g1 k0 (va_cpy (xh_lchars g1 k1) (xh_lchars g1 k0) j2.1 j2.2.1 j2.2.2))).bind fun g3 => some (g3)
def xf_P_output (h : XH) : Option (Int32 × XH) :=
  (xf_Line_copy 2 0 h).bind fun q1 => some (((xh_lsize q1 2), q1))
def xf_P_length (h : XH) : Int32 :=
  (xh_lsize h 2)
def xf_P_charAt (a1 : Int32) (h : XH) : Option (Int32) :=
  (xf_Line_at 2 a1 h).bind fun q1 => (nc q1).bind fun r2 => some (r2)
end
section
def xtys (cA : Nat → ClassId) : List (ClassId × FieldType) := [(cA 0, .int), (cA 1, .char), (cA 2, .long), (cA 3, .object "DrawnPaths$Block"), (cA 4, .object "DrawnPaths$Pointer")]
def xct (cA : Nat → ClassId) (ad : Nat → Nat) (h : XH) (i : Nat) : va_E :=
  if i = 0 then .inr (0, [.ref (ad 1), .ref (ad 4), .ref (ad 6), .ref (ad 10), .ref (ad (1 + 13)), .ref (ad (2 + 13))]) else
  if i = 1 then .inr (2, [.ref (ad 2), .ref (ad 3), .int (xh_held h), .int (xh_dropped h)]) else
  if i = 2 then .inl (cA 3, 30, .inr (.inr (.inr (.inr (fun j => some (ad (xh_row h j + 31))))))) else
  if i = 3 then .inl (cA 0, 96, .inl (xh_bmarks h)) else
  if i = 4 then .inr (3, [.ref (ad 5), .ref (ad 1)]) else
  if i = 5 then .inl (cA 1, 96, .inl (xh_signs h)) else
  if i = 6 then .inr (6, [.ref (ad 4), .ref (ad 7), .ref (ad 8), .ref (ad 9), .ref (ad (0 + 13)), .int (xh_living h), .int (xh_given h), .int (xh_read h), .int (xh_steps h), .int (xh_stopped h)]) else
  if i = 7 then .inl (cA 4, 4, .inr (.inr (.inr (.inr (fun j => some (ad (xh_ptrs h j + 19))))))) else
  if i = 8 then .inl (cA 2, 40, .inr (.inl (xh_innums h))) else
  if i = 9 then .inl (cA 1, 20, .inl (xh_digits h)) else
  if i = 10 then .inr (7, [.ref (ad 11), .ref (ad 12), .int (xh_ssize h)]) else
  if i = 11 then .inl (cA 0, 96, .inl (xh_smarks h)) else
  if i = 12 then .inl (cA 0, 768, .inl (xh_sfound h)) else
  if i < 16 then .inr (4, [.ref (ad ((i - 13) + 16)), .int (xh_lsize h (i - 13))]) else
  if i < 19 then .inl (cA 1, (xh_cap (i - 16)), .inl (xh_lchars h (i - 16))) else
  if i < 23 then .inr (5, [.ref (ad ((i - 19) + 23)), .ref (ad ((i - 19) + 27)), .int (xh_pway h (i - 19)), .int (xh_pdepth h (i - 19)), .int (xh_pret h (i - 19))]) else
  if i < 27 then .inl (cA 2, 24, .inr (.inl (xh_pnums h (i - 23)))) else
  if i < 31 then .inl (cA 0, 8, .inl (xh_prets h (i - 27))) else
  if i < 61 then .inr (1, [.int (xh_bbegin h (i - 31)), .int (xh_bbehind h (i - 31)), .int (xh_bsize h (i - 31)), .long (xh_blow h (i - 31)), .long (xh_bhigh h (i - 31))]) else .inr (0, [])
def xW (cA : Nat → ClassId) (ad : Nat → Nat) (h : XH) : va_W := wdG 61 ad (xct cA ad h)
theorem xw_DP {cA : Nat → ClassId} {ad : Nat → Nat} {h : XH} : (xW cA ad h)[0]? = some (ad 0, .inr (0, [.ref (ad 1), .ref (ad 4), .ref (ad 6), .ref (ad 10), .ref (ad (1 + 13)), .ref (ad (2 + 13))])) := wdG_at (by decide) (by simp [xct])
theorem xw_Blocks {cA : Nat → ClassId} {ad : Nat → Nat} {h : XH} : (xW cA ad h)[1]? = some (ad 1, .inr (2, [.ref (ad 2), .ref (ad 3), .int (xh_held h), .int (xh_dropped h)])) := wdG_at (by decide) (by simp [xct])
theorem xw_Row {cA : Nat → ClassId} {ad : Nat → Nat} {h : XH} : (xW cA ad h)[2]? = some (ad 2, .inl (cA 3, 30, .inr (.inr (.inr (.inr (fun j => some (ad (xh_row h j + 31)))))))) := wdG_at (by decide) (by simp [xct])
theorem xw_BMarks {cA : Nat → ClassId} {ad : Nat → Nat} {h : XH} : (xW cA ad h)[3]? = some (ad 3, .inl (cA 0, 96, .inl (xh_bmarks h))) := wdG_at (by decide) (by simp [xct])
theorem xw_Field {cA : Nat → ClassId} {ad : Nat → Nat} {h : XH} : (xW cA ad h)[4]? = some (ad 4, .inr (3, [.ref (ad 5), .ref (ad 1)])) := wdG_at (by decide) (by simp [xct])
theorem xw_Signs {cA : Nat → ClassId} {ad : Nat → Nat} {h : XH} : (xW cA ad h)[5]? = some (ad 5, .inl (cA 1, 96, .inl (xh_signs h))) := wdG_at (by decide) (by simp [xct])
theorem xw_Run {cA : Nat → ClassId} {ad : Nat → Nat} {h : XH} : (xW cA ad h)[6]? = some (ad 6, .inr (6, [.ref (ad 4), .ref (ad 7), .ref (ad 8), .ref (ad 9), .ref (ad (0 + 13)), .int (xh_living h), .int (xh_given h), .int (xh_read h), .int (xh_steps h), .int (xh_stopped h)])) := wdG_at (by decide) (by simp [xct])
theorem xw_PArr {cA : Nat → ClassId} {ad : Nat → Nat} {h : XH} : (xW cA ad h)[7]? = some (ad 7, .inl (cA 4, 4, .inr (.inr (.inr (.inr (fun j => some (ad (xh_ptrs h j + 19)))))))) := wdG_at (by decide) (by simp [xct])
theorem xw_InNums {cA : Nat → ClassId} {ad : Nat → Nat} {h : XH} : (xW cA ad h)[8]? = some (ad 8, .inl (cA 2, 40, .inr (.inl (xh_innums h)))) := wdG_at (by decide) (by simp [xct])
theorem xw_Digits {cA : Nat → ClassId} {ad : Nat → Nat} {h : XH} : (xW cA ad h)[9]? = some (ad 9, .inl (cA 1, 20, .inl (xh_digits h))) := wdG_at (by decide) (by simp [xct])
theorem xw_Search {cA : Nat → ClassId} {ad : Nat → Nat} {h : XH} : (xW cA ad h)[10]? = some (ad 10, .inr (7, [.ref (ad 11), .ref (ad 12), .int (xh_ssize h)])) := wdG_at (by decide) (by simp [xct])
theorem xw_SMarks {cA : Nat → ClassId} {ad : Nat → Nat} {h : XH} : (xW cA ad h)[11]? = some (ad 11, .inl (cA 0, 96, .inl (xh_smarks h))) := wdG_at (by decide) (by simp [xct])
theorem xw_SFound {cA : Nat → ClassId} {ad : Nat → Nat} {h : XH} : (xW cA ad h)[12]? = some (ad 12, .inl (cA 0, 768, .inl (xh_sfound h))) := wdG_at (by decide) (by simp [xct])
theorem xw_Line {cA : Nat → ClassId} {ad : Nat → Nat} {h : XH} {k : Nat} (hk : k < 3) : (xW cA ad h)[k + 13]? = some (ad (k + 13), .inr (4, [.ref (ad (k + 16)), .int (xh_lsize h k)])) := wdG_at (by omega) (by
  unfold xct
  rw [if_neg (by omega)]
  rw [if_neg (by omega)]
  rw [if_neg (by omega)]
  rw [if_neg (by omega)]
  rw [if_neg (by omega)]
  rw [if_neg (by omega)]
  rw [if_neg (by omega)]
  rw [if_neg (by omega)]
  rw [if_neg (by omega)]
  rw [if_neg (by omega)]
  rw [if_neg (by omega)]
  rw [if_neg (by omega)]
  rw [if_neg (by omega)]
  rw [if_pos (by omega), Nat.add_sub_cancel])
theorem xw_LineCh {cA : Nat → ClassId} {ad : Nat → Nat} {h : XH} {k : Nat} (hk : k < 3) : (xW cA ad h)[k + 16]? = some (ad (k + 16), .inl (cA 1, (xh_cap k), .inl (xh_lchars h k))) := wdG_at (by omega) (by
  unfold xct
  rw [if_neg (by omega)]
  rw [if_neg (by omega)]
  rw [if_neg (by omega)]
  rw [if_neg (by omega)]
  rw [if_neg (by omega)]
  rw [if_neg (by omega)]
  rw [if_neg (by omega)]
  rw [if_neg (by omega)]
  rw [if_neg (by omega)]
  rw [if_neg (by omega)]
  rw [if_neg (by omega)]
  rw [if_neg (by omega)]
  rw [if_neg (by omega)]
  rw [if_neg (by omega)]
  rw [if_pos (by omega), Nat.add_sub_cancel])
theorem xw_Pointer {cA : Nat → ClassId} {ad : Nat → Nat} {h : XH} {k : Nat} (hk : k < 4) : (xW cA ad h)[k + 19]? = some (ad (k + 19), .inr (5, [.ref (ad (k + 23)), .ref (ad (k + 27)), .int (xh_pway h k), .int (xh_pdepth h k), .int (xh_pret h k)])) := wdG_at (by omega) (by
  unfold xct
  rw [if_neg (by omega)]
  rw [if_neg (by omega)]
  rw [if_neg (by omega)]
  rw [if_neg (by omega)]
  rw [if_neg (by omega)]
  rw [if_neg (by omega)]
  rw [if_neg (by omega)]
  rw [if_neg (by omega)]
  rw [if_neg (by omega)]
  rw [if_neg (by omega)]
  rw [if_neg (by omega)]
  rw [if_neg (by omega)]
  rw [if_neg (by omega)]
  rw [if_neg (by omega)]
  rw [if_neg (by omega)]
  rw [if_pos (by omega), Nat.add_sub_cancel])
theorem xw_PNums {cA : Nat → ClassId} {ad : Nat → Nat} {h : XH} {k : Nat} (hk : k < 4) : (xW cA ad h)[k + 23]? = some (ad (k + 23), .inl (cA 2, 24, .inr (.inl (xh_pnums h k)))) := wdG_at (by omega) (by
  unfold xct
  rw [if_neg (by omega)]
  rw [if_neg (by omega)]
  rw [if_neg (by omega)]
  rw [if_neg (by omega)]
  rw [if_neg (by omega)]
  rw [if_neg (by omega)]
  rw [if_neg (by omega)]
  rw [if_neg (by omega)]
  rw [if_neg (by omega)]
  rw [if_neg (by omega)]
  rw [if_neg (by omega)]
  rw [if_neg (by omega)]
  rw [if_neg (by omega)]
  rw [if_neg (by omega)]
  rw [if_neg (by omega)]
  rw [if_neg (by omega)]
  rw [if_pos (by omega), Nat.add_sub_cancel])
theorem xw_PRets {cA : Nat → ClassId} {ad : Nat → Nat} {h : XH} {k : Nat} (hk : k < 4) : (xW cA ad h)[k + 27]? = some (ad (k + 27), .inl (cA 0, 8, .inl (xh_prets h k))) := wdG_at (by omega) (by
  unfold xct
  rw [if_neg (by omega)]
  rw [if_neg (by omega)]
  rw [if_neg (by omega)]
  rw [if_neg (by omega)]
  rw [if_neg (by omega)]
  rw [if_neg (by omega)]
  rw [if_neg (by omega)]
  rw [if_neg (by omega)]
  rw [if_neg (by omega)]
  rw [if_neg (by omega)]
  rw [if_neg (by omega)]
  rw [if_neg (by omega)]
  rw [if_neg (by omega)]
  rw [if_neg (by omega)]
  rw [if_neg (by omega)]
  rw [if_neg (by omega)]
  rw [if_neg (by omega)]
  rw [if_pos (by omega), Nat.add_sub_cancel])
theorem xw_Block {cA : Nat → ClassId} {ad : Nat → Nat} {h : XH} {k : Nat} (hk : k < 30) : (xW cA ad h)[k + 31]? = some (ad (k + 31), .inr (1, [.int (xh_bbegin h k), .int (xh_bbehind h k), .int (xh_bsize h k), .long (xh_blow h k), .long (xh_bhigh h k)])) := wdG_at (by omega) (by
  unfold xct
  rw [if_neg (by omega)]
  rw [if_neg (by omega)]
  rw [if_neg (by omega)]
  rw [if_neg (by omega)]
  rw [if_neg (by omega)]
  rw [if_neg (by omega)]
  rw [if_neg (by omega)]
  rw [if_neg (by omega)]
  rw [if_neg (by omega)]
  rw [if_neg (by omega)]
  rw [if_neg (by omega)]
  rw [if_neg (by omega)]
  rw [if_neg (by omega)]
  rw [if_neg (by omega)]
  rw [if_neg (by omega)]
  rw [if_neg (by omega)]
  rw [if_neg (by omega)]
  rw [if_neg (by omega)]
  rw [if_pos (by omega), Nat.add_sub_cancel])
theorem xo_held {cA : Nat → ClassId} {ad : Nat → Nat} {h : XH} {v : Int32} {j : Nat} (hne : j ≠ 1) : xct cA ad (xs_held h v) j = xct cA ad h j := ic (fun _ => rfl) (fun h0_ => ic (fun hc => absurd hc hne) (fun _ => rfl))
theorem xe_held {cA : Nat → ClassId} {ad : Nat → Nat} {h : XH} {v : Int32} : xct cA ad (xs_held h v) (1) = .inr (2, [.ref (ad 2), .ref (ad 3), .int v, .int (xh_dropped h)]) := by
  unfold xct
  rw [if_neg (by omega)]
  rw [if_pos (by omega)]
  try rfl
theorem xo_dropped {cA : Nat → ClassId} {ad : Nat → Nat} {h : XH} {v : Int32} {j : Nat} (hne : j ≠ 1) : xct cA ad (xs_dropped h v) j = xct cA ad h j := ic (fun _ => rfl) (fun h0_ => ic (fun hc => absurd hc hne) (fun _ => rfl))
theorem xe_dropped {cA : Nat → ClassId} {ad : Nat → Nat} {h : XH} {v : Int32} : xct cA ad (xs_dropped h v) (1) = .inr (2, [.ref (ad 2), .ref (ad 3), .int (xh_held h), .int v]) := by
  unfold xct
  rw [if_neg (by omega)]
  rw [if_pos (by omega)]
  try rfl
theorem xo_row {cA : Nat → ClassId} {ad : Nat → Nat} {h : XH} {j0 : Nat} {v : Nat} {j : Nat} (hne : j ≠ 2) : xct cA ad (xs_row h j0 v) j = xct cA ad h j := ic (fun _ => rfl) (fun h0_ => ic (fun _ => rfl) (fun h1_ => ic (fun hc => absurd hc hne) (fun _ => rfl)))
theorem xe_row {cA : Nat → ClassId} {ad : Nat → Nat} {h : XH} {j0 : Nat} {v : Nat} : xct cA ad (xs_row h j0 v) (2) = .inl (cA 3, 30, .inr (.inr (.inr (.inr (va_up (fun j => some (ad (xh_row h j + 31))) j0 (some (ad (v + 31)))))))) := by
  unfold xct
  rw [if_neg (by omega)]
  rw [if_neg (by omega)]
  rw [if_pos (by omega)]
  exact congrArg (fun f9 => (Sum.inl (cA 3, 30, Sum.inr (Sum.inr (Sum.inr (Sum.inr f9)))) : va_E)) (rf_up ad (xh_row h) j0 v 31)
theorem xo_bmarks {cA : Nat → ClassId} {ad : Nat → Nat} {h : XH} {j0 : Nat} {v : Int32} {j : Nat} (hne : j ≠ 3) : xct cA ad (xs_bmarks h j0 v) j = xct cA ad h j := ic (fun _ => rfl) (fun h0_ => ic (fun _ => rfl) (fun h1_ => ic (fun _ => rfl) (fun h2_ => ic (fun hc => absurd hc hne) (fun _ => rfl))))
theorem xe_bmarks {cA : Nat → ClassId} {ad : Nat → Nat} {h : XH} {j0 : Nat} {v : Int32} : xct cA ad (xs_bmarks h j0 v) (3) = .inl (cA 0, 96, .inl (va_up (xh_bmarks h) j0 v)) := by
  unfold xct
  rw [if_neg (by omega)]
  rw [if_neg (by omega)]
  rw [if_neg (by omega)]
  rw [if_pos (by omega)]
  try rfl
theorem xo_signs {cA : Nat → ClassId} {ad : Nat → Nat} {h : XH} {j0 : Nat} {v : Int32} {j : Nat} (hne : j ≠ 5) : xct cA ad (xs_signs h j0 v) j = xct cA ad h j := ic (fun _ => rfl) (fun h0_ => ic (fun _ => rfl) (fun h1_ => ic (fun _ => rfl) (fun h2_ => ic (fun _ => rfl) (fun h3_ => ic (fun _ => rfl) (fun h4_ => ic (fun hc => absurd hc hne) (fun _ => rfl))))))
theorem xe_signs {cA : Nat → ClassId} {ad : Nat → Nat} {h : XH} {j0 : Nat} {v : Int32} : xct cA ad (xs_signs h j0 v) (5) = .inl (cA 1, 96, .inl (va_up (xh_signs h) j0 v)) := by
  unfold xct
  rw [if_neg (by omega)]
  rw [if_neg (by omega)]
  rw [if_neg (by omega)]
  rw [if_neg (by omega)]
  rw [if_neg (by omega)]
  rw [if_pos (by omega)]
  try rfl
theorem xoc_signs {cA : Nat → ClassId} {ad : Nat → Nat} {h : XH} {f0 : Nat → Int32} {j : Nat} (hne : j ≠ 5) : xct cA ad (xc_signs h f0) j = xct cA ad h j := ic (fun _ => rfl) (fun h0_ => ic (fun _ => rfl) (fun h1_ => ic (fun _ => rfl) (fun h2_ => ic (fun _ => rfl) (fun h3_ => ic (fun _ => rfl) (fun h4_ => ic (fun hc => absurd hc hne) (fun _ => rfl))))))
theorem xec_signs {cA : Nat → ClassId} {ad : Nat → Nat} {h : XH} {f0 : Nat → Int32} : xct cA ad (xc_signs h f0) (5) = .inl (cA 1, 96, .inl f0) := by
  unfold xct
  rw [if_neg (by omega)]
  rw [if_neg (by omega)]
  rw [if_neg (by omega)]
  rw [if_neg (by omega)]
  rw [if_neg (by omega)]
  rw [if_pos (by omega)]
  try rfl
theorem xo_living {cA : Nat → ClassId} {ad : Nat → Nat} {h : XH} {v : Int32} {j : Nat} (hne : j ≠ 6) : xct cA ad (xs_living h v) j = xct cA ad h j := ic (fun _ => rfl) (fun h0_ => ic (fun _ => rfl) (fun h1_ => ic (fun _ => rfl) (fun h2_ => ic (fun _ => rfl) (fun h3_ => ic (fun _ => rfl) (fun h4_ => ic (fun _ => rfl) (fun h5_ => ic (fun hc => absurd hc hne) (fun _ => rfl)))))))
theorem xe_living {cA : Nat → ClassId} {ad : Nat → Nat} {h : XH} {v : Int32} : xct cA ad (xs_living h v) (6) = .inr (6, [.ref (ad 4), .ref (ad 7), .ref (ad 8), .ref (ad 9), .ref (ad (0 + 13)), .int v, .int (xh_given h), .int (xh_read h), .int (xh_steps h), .int (xh_stopped h)]) := by
  unfold xct
  rw [if_neg (by omega)]
  rw [if_neg (by omega)]
  rw [if_neg (by omega)]
  rw [if_neg (by omega)]
  rw [if_neg (by omega)]
  rw [if_neg (by omega)]
  rw [if_pos (by omega)]
  try rfl
theorem xo_given {cA : Nat → ClassId} {ad : Nat → Nat} {h : XH} {v : Int32} {j : Nat} (hne : j ≠ 6) : xct cA ad (xs_given h v) j = xct cA ad h j := ic (fun _ => rfl) (fun h0_ => ic (fun _ => rfl) (fun h1_ => ic (fun _ => rfl) (fun h2_ => ic (fun _ => rfl) (fun h3_ => ic (fun _ => rfl) (fun h4_ => ic (fun _ => rfl) (fun h5_ => ic (fun hc => absurd hc hne) (fun _ => rfl)))))))
theorem xe_given {cA : Nat → ClassId} {ad : Nat → Nat} {h : XH} {v : Int32} : xct cA ad (xs_given h v) (6) = .inr (6, [.ref (ad 4), .ref (ad 7), .ref (ad 8), .ref (ad 9), .ref (ad (0 + 13)), .int (xh_living h), .int v, .int (xh_read h), .int (xh_steps h), .int (xh_stopped h)]) := by
  unfold xct
  rw [if_neg (by omega)]
  rw [if_neg (by omega)]
  rw [if_neg (by omega)]
  rw [if_neg (by omega)]
  rw [if_neg (by omega)]
  rw [if_neg (by omega)]
  rw [if_pos (by omega)]
  try rfl
theorem xo_read {cA : Nat → ClassId} {ad : Nat → Nat} {h : XH} {v : Int32} {j : Nat} (hne : j ≠ 6) : xct cA ad (xs_read h v) j = xct cA ad h j := ic (fun _ => rfl) (fun h0_ => ic (fun _ => rfl) (fun h1_ => ic (fun _ => rfl) (fun h2_ => ic (fun _ => rfl) (fun h3_ => ic (fun _ => rfl) (fun h4_ => ic (fun _ => rfl) (fun h5_ => ic (fun hc => absurd hc hne) (fun _ => rfl)))))))
theorem xe_read {cA : Nat → ClassId} {ad : Nat → Nat} {h : XH} {v : Int32} : xct cA ad (xs_read h v) (6) = .inr (6, [.ref (ad 4), .ref (ad 7), .ref (ad 8), .ref (ad 9), .ref (ad (0 + 13)), .int (xh_living h), .int (xh_given h), .int v, .int (xh_steps h), .int (xh_stopped h)]) := by
  unfold xct
  rw [if_neg (by omega)]
  rw [if_neg (by omega)]
  rw [if_neg (by omega)]
  rw [if_neg (by omega)]
  rw [if_neg (by omega)]
  rw [if_neg (by omega)]
  rw [if_pos (by omega)]
  try rfl
theorem xo_steps {cA : Nat → ClassId} {ad : Nat → Nat} {h : XH} {v : Int32} {j : Nat} (hne : j ≠ 6) : xct cA ad (xs_steps h v) j = xct cA ad h j := ic (fun _ => rfl) (fun h0_ => ic (fun _ => rfl) (fun h1_ => ic (fun _ => rfl) (fun h2_ => ic (fun _ => rfl) (fun h3_ => ic (fun _ => rfl) (fun h4_ => ic (fun _ => rfl) (fun h5_ => ic (fun hc => absurd hc hne) (fun _ => rfl)))))))
theorem xe_steps {cA : Nat → ClassId} {ad : Nat → Nat} {h : XH} {v : Int32} : xct cA ad (xs_steps h v) (6) = .inr (6, [.ref (ad 4), .ref (ad 7), .ref (ad 8), .ref (ad 9), .ref (ad (0 + 13)), .int (xh_living h), .int (xh_given h), .int (xh_read h), .int v, .int (xh_stopped h)]) := by
  unfold xct
  rw [if_neg (by omega)]
  rw [if_neg (by omega)]
  rw [if_neg (by omega)]
  rw [if_neg (by omega)]
  rw [if_neg (by omega)]
  rw [if_neg (by omega)]
  rw [if_pos (by omega)]
  try rfl
theorem xo_stopped {cA : Nat → ClassId} {ad : Nat → Nat} {h : XH} {v : Int32} {j : Nat} (hne : j ≠ 6) : xct cA ad (xs_stopped h v) j = xct cA ad h j := ic (fun _ => rfl) (fun h0_ => ic (fun _ => rfl) (fun h1_ => ic (fun _ => rfl) (fun h2_ => ic (fun _ => rfl) (fun h3_ => ic (fun _ => rfl) (fun h4_ => ic (fun _ => rfl) (fun h5_ => ic (fun hc => absurd hc hne) (fun _ => rfl)))))))
theorem xe_stopped {cA : Nat → ClassId} {ad : Nat → Nat} {h : XH} {v : Int32} : xct cA ad (xs_stopped h v) (6) = .inr (6, [.ref (ad 4), .ref (ad 7), .ref (ad 8), .ref (ad 9), .ref (ad (0 + 13)), .int (xh_living h), .int (xh_given h), .int (xh_read h), .int (xh_steps h), .int v]) := by
  unfold xct
  rw [if_neg (by omega)]
  rw [if_neg (by omega)]
  rw [if_neg (by omega)]
  rw [if_neg (by omega)]
  rw [if_neg (by omega)]
  rw [if_neg (by omega)]
  rw [if_pos (by omega)]
  try rfl
theorem xo_ptrs {cA : Nat → ClassId} {ad : Nat → Nat} {h : XH} {j0 : Nat} {v : Nat} {j : Nat} (hne : j ≠ 7) : xct cA ad (xs_ptrs h j0 v) j = xct cA ad h j := ic (fun _ => rfl) (fun h0_ => ic (fun _ => rfl) (fun h1_ => ic (fun _ => rfl) (fun h2_ => ic (fun _ => rfl) (fun h3_ => ic (fun _ => rfl) (fun h4_ => ic (fun _ => rfl) (fun h5_ => ic (fun _ => rfl) (fun h6_ => ic (fun hc => absurd hc hne) (fun _ => rfl))))))))
theorem xe_ptrs {cA : Nat → ClassId} {ad : Nat → Nat} {h : XH} {j0 : Nat} {v : Nat} : xct cA ad (xs_ptrs h j0 v) (7) = .inl (cA 4, 4, .inr (.inr (.inr (.inr (va_up (fun j => some (ad (xh_ptrs h j + 19))) j0 (some (ad (v + 19)))))))) := by
  unfold xct
  rw [if_neg (by omega)]
  rw [if_neg (by omega)]
  rw [if_neg (by omega)]
  rw [if_neg (by omega)]
  rw [if_neg (by omega)]
  rw [if_neg (by omega)]
  rw [if_neg (by omega)]
  rw [if_pos (by omega)]
  exact congrArg (fun f9 => (Sum.inl (cA 4, 4, Sum.inr (Sum.inr (Sum.inr (Sum.inr f9)))) : va_E)) (rf_up ad (xh_ptrs h) j0 v 19)
theorem xo_innums {cA : Nat → ClassId} {ad : Nat → Nat} {h : XH} {j0 : Nat} {v : Int64} {j : Nat} (hne : j ≠ 8) : xct cA ad (xs_innums h j0 v) j = xct cA ad h j := ic (fun _ => rfl) (fun h0_ => ic (fun _ => rfl) (fun h1_ => ic (fun _ => rfl) (fun h2_ => ic (fun _ => rfl) (fun h3_ => ic (fun _ => rfl) (fun h4_ => ic (fun _ => rfl) (fun h5_ => ic (fun _ => rfl) (fun h6_ => ic (fun _ => rfl) (fun h7_ => ic (fun hc => absurd hc hne) (fun _ => rfl)))))))))
theorem xe_innums {cA : Nat → ClassId} {ad : Nat → Nat} {h : XH} {j0 : Nat} {v : Int64} : xct cA ad (xs_innums h j0 v) (8) = .inl (cA 2, 40, .inr (.inl (va_up (xh_innums h) j0 v))) := by
  unfold xct
  rw [if_neg (by omega)]
  rw [if_neg (by omega)]
  rw [if_neg (by omega)]
  rw [if_neg (by omega)]
  rw [if_neg (by omega)]
  rw [if_neg (by omega)]
  rw [if_neg (by omega)]
  rw [if_neg (by omega)]
  rw [if_pos (by omega)]
  try rfl
theorem xo_digits {cA : Nat → ClassId} {ad : Nat → Nat} {h : XH} {j0 : Nat} {v : Int32} {j : Nat} (hne : j ≠ 9) : xct cA ad (xs_digits h j0 v) j = xct cA ad h j := ic (fun _ => rfl) (fun h0_ => ic (fun _ => rfl) (fun h1_ => ic (fun _ => rfl) (fun h2_ => ic (fun _ => rfl) (fun h3_ => ic (fun _ => rfl) (fun h4_ => ic (fun _ => rfl) (fun h5_ => ic (fun _ => rfl) (fun h6_ => ic (fun _ => rfl) (fun h7_ => ic (fun _ => rfl) (fun h8_ => ic (fun hc => absurd hc hne) (fun _ => rfl))))))))))
theorem xe_digits {cA : Nat → ClassId} {ad : Nat → Nat} {h : XH} {j0 : Nat} {v : Int32} : xct cA ad (xs_digits h j0 v) (9) = .inl (cA 1, 20, .inl (va_up (xh_digits h) j0 v)) := by
  unfold xct
  rw [if_neg (by omega)]
  rw [if_neg (by omega)]
  rw [if_neg (by omega)]
  rw [if_neg (by omega)]
  rw [if_neg (by omega)]
  rw [if_neg (by omega)]
  rw [if_neg (by omega)]
  rw [if_neg (by omega)]
  rw [if_neg (by omega)]
  rw [if_pos (by omega)]
  try rfl
theorem xoc_digits {cA : Nat → ClassId} {ad : Nat → Nat} {h : XH} {f0 : Nat → Int32} {j : Nat} (hne : j ≠ 9) : xct cA ad (xc_digits h f0) j = xct cA ad h j := ic (fun _ => rfl) (fun h0_ => ic (fun _ => rfl) (fun h1_ => ic (fun _ => rfl) (fun h2_ => ic (fun _ => rfl) (fun h3_ => ic (fun _ => rfl) (fun h4_ => ic (fun _ => rfl) (fun h5_ => ic (fun _ => rfl) (fun h6_ => ic (fun _ => rfl) (fun h7_ => ic (fun _ => rfl) (fun h8_ => ic (fun hc => absurd hc hne) (fun _ => rfl))))))))))
theorem xec_digits {cA : Nat → ClassId} {ad : Nat → Nat} {h : XH} {f0 : Nat → Int32} : xct cA ad (xc_digits h f0) (9) = .inl (cA 1, 20, .inl f0) := by
  unfold xct
  rw [if_neg (by omega)]
  rw [if_neg (by omega)]
  rw [if_neg (by omega)]
  rw [if_neg (by omega)]
  rw [if_neg (by omega)]
  rw [if_neg (by omega)]
  rw [if_neg (by omega)]
  rw [if_neg (by omega)]
  rw [if_neg (by omega)]
  rw [if_pos (by omega)]
  try rfl
theorem xo_ssize {cA : Nat → ClassId} {ad : Nat → Nat} {h : XH} {v : Int32} {j : Nat} (hne : j ≠ 10) : xct cA ad (xs_ssize h v) j = xct cA ad h j := ic (fun _ => rfl) (fun h0_ => ic (fun _ => rfl) (fun h1_ => ic (fun _ => rfl) (fun h2_ => ic (fun _ => rfl) (fun h3_ => ic (fun _ => rfl) (fun h4_ => ic (fun _ => rfl) (fun h5_ => ic (fun _ => rfl) (fun h6_ => ic (fun _ => rfl) (fun h7_ => ic (fun _ => rfl) (fun h8_ => ic (fun _ => rfl) (fun h9_ => ic (fun hc => absurd hc hne) (fun _ => rfl)))))))))))
theorem xe_ssize {cA : Nat → ClassId} {ad : Nat → Nat} {h : XH} {v : Int32} : xct cA ad (xs_ssize h v) (10) = .inr (7, [.ref (ad 11), .ref (ad 12), .int v]) := by
  unfold xct
  rw [if_neg (by omega)]
  rw [if_neg (by omega)]
  rw [if_neg (by omega)]
  rw [if_neg (by omega)]
  rw [if_neg (by omega)]
  rw [if_neg (by omega)]
  rw [if_neg (by omega)]
  rw [if_neg (by omega)]
  rw [if_neg (by omega)]
  rw [if_neg (by omega)]
  rw [if_pos (by omega)]
  try rfl
theorem xo_smarks {cA : Nat → ClassId} {ad : Nat → Nat} {h : XH} {j0 : Nat} {v : Int32} {j : Nat} (hne : j ≠ 11) : xct cA ad (xs_smarks h j0 v) j = xct cA ad h j := ic (fun _ => rfl) (fun h0_ => ic (fun _ => rfl) (fun h1_ => ic (fun _ => rfl) (fun h2_ => ic (fun _ => rfl) (fun h3_ => ic (fun _ => rfl) (fun h4_ => ic (fun _ => rfl) (fun h5_ => ic (fun _ => rfl) (fun h6_ => ic (fun _ => rfl) (fun h7_ => ic (fun _ => rfl) (fun h8_ => ic (fun _ => rfl) (fun h9_ => ic (fun _ => rfl) (fun h10_ => ic (fun hc => absurd hc hne) (fun _ => rfl))))))))))))
theorem xe_smarks {cA : Nat → ClassId} {ad : Nat → Nat} {h : XH} {j0 : Nat} {v : Int32} : xct cA ad (xs_smarks h j0 v) (11) = .inl (cA 0, 96, .inl (va_up (xh_smarks h) j0 v)) := by
  unfold xct
  rw [if_neg (by omega)]
  rw [if_neg (by omega)]
  rw [if_neg (by omega)]
  rw [if_neg (by omega)]
  rw [if_neg (by omega)]
  rw [if_neg (by omega)]
  rw [if_neg (by omega)]
  rw [if_neg (by omega)]
  rw [if_neg (by omega)]
  rw [if_neg (by omega)]
  rw [if_neg (by omega)]
  rw [if_pos (by omega)]
  try rfl
theorem xo_sfound {cA : Nat → ClassId} {ad : Nat → Nat} {h : XH} {j0 : Nat} {v : Int32} {j : Nat} (hne : j ≠ 12) : xct cA ad (xs_sfound h j0 v) j = xct cA ad h j := ic (fun _ => rfl) (fun h0_ => ic (fun _ => rfl) (fun h1_ => ic (fun _ => rfl) (fun h2_ => ic (fun _ => rfl) (fun h3_ => ic (fun _ => rfl) (fun h4_ => ic (fun _ => rfl) (fun h5_ => ic (fun _ => rfl) (fun h6_ => ic (fun _ => rfl) (fun h7_ => ic (fun _ => rfl) (fun h8_ => ic (fun _ => rfl) (fun h9_ => ic (fun _ => rfl) (fun h10_ => ic (fun _ => rfl) (fun h11_ => ic (fun hc => absurd hc hne) (fun _ => rfl)))))))))))))
theorem xe_sfound {cA : Nat → ClassId} {ad : Nat → Nat} {h : XH} {j0 : Nat} {v : Int32} : xct cA ad (xs_sfound h j0 v) (12) = .inl (cA 0, 768, .inl (va_up (xh_sfound h) j0 v)) := by
  unfold xct
  rw [if_neg (by omega)]
  rw [if_neg (by omega)]
  rw [if_neg (by omega)]
  rw [if_neg (by omega)]
  rw [if_neg (by omega)]
  rw [if_neg (by omega)]
  rw [if_neg (by omega)]
  rw [if_neg (by omega)]
  rw [if_neg (by omega)]
  rw [if_neg (by omega)]
  rw [if_neg (by omega)]
  rw [if_neg (by omega)]
  rw [if_pos (by omega)]
  try rfl
theorem xo_lsize {cA : Nat → ClassId} {ad : Nat → Nat} {h : XH} {k : Nat} {v : Int32} {j : Nat} (hne : j ≠ k + 13) : xct cA ad (xs_lsize h k v) j = xct cA ad h j := ic (fun _ => rfl) (fun h0_ => ic (fun _ => rfl) (fun h1_ => ic (fun _ => rfl) (fun h2_ => ic (fun _ => rfl) (fun h3_ => ic (fun _ => rfl) (fun h4_ => ic (fun _ => rfl) (fun h5_ => ic (fun _ => rfl) (fun h6_ => ic (fun _ => rfl) (fun h7_ => ic (fun _ => rfl) (fun h8_ => ic (fun _ => rfl) (fun h9_ => ic (fun _ => rfl) (fun h10_ => ic (fun _ => rfl) (fun h11_ => ic (fun _ => rfl) (fun h12_ => ic (fun hc => by rw [show xh_lsize (xs_lsize h k v) (j - 13) = xh_lsize h (j - 13) from up_ne (by omega)]; try rfl) (fun _ => rfl))))))))))))))
theorem xe_lsize {cA : Nat → ClassId} {ad : Nat → Nat} {h : XH} {k : Nat} (hk : k < 3) {v : Int32} : xct cA ad (xs_lsize h k v) (k + 13) = .inr (4, [.ref (ad (k + 16)), .int v]) := by
  unfold xct
  rw [if_neg (by omega)]
  rw [if_neg (by omega)]
  rw [if_neg (by omega)]
  rw [if_neg (by omega)]
  rw [if_neg (by omega)]
  rw [if_neg (by omega)]
  rw [if_neg (by omega)]
  rw [if_neg (by omega)]
  rw [if_neg (by omega)]
  rw [if_neg (by omega)]
  rw [if_neg (by omega)]
  rw [if_neg (by omega)]
  rw [if_neg (by omega)]
  rw [if_pos (by omega), Nat.add_sub_cancel]
  rw [show xh_lsize (xs_lsize h k v) k = v from up_eq]
  try rfl
theorem xo_lchars {cA : Nat → ClassId} {ad : Nat → Nat} {h : XH} {k : Nat} {j0 : Nat} {v : Int32} {j : Nat} (hne : j ≠ k + 16) : xct cA ad (xs_lchars h k j0 v) j = xct cA ad h j := ic (fun _ => rfl) (fun h0_ => ic (fun _ => rfl) (fun h1_ => ic (fun _ => rfl) (fun h2_ => ic (fun _ => rfl) (fun h3_ => ic (fun _ => rfl) (fun h4_ => ic (fun _ => rfl) (fun h5_ => ic (fun _ => rfl) (fun h6_ => ic (fun _ => rfl) (fun h7_ => ic (fun _ => rfl) (fun h8_ => ic (fun _ => rfl) (fun h9_ => ic (fun _ => rfl) (fun h10_ => ic (fun _ => rfl) (fun h11_ => ic (fun _ => rfl) (fun h12_ => ic (fun _ => rfl) (fun h13_ => ic (fun hc => by rw [show xh_lchars (xs_lchars h k j0 v) (j - 16) = xh_lchars h (j - 16) from up_ne (by omega)]; try rfl) (fun _ => rfl)))))))))))))))
theorem xe_lchars {cA : Nat → ClassId} {ad : Nat → Nat} {h : XH} {k : Nat} (hk : k < 3) {j0 : Nat} {v : Int32} : xct cA ad (xs_lchars h k j0 v) (k + 16) = .inl (cA 1, (xh_cap k), .inl (va_up (xh_lchars h k) j0 v)) := by
  unfold xct
  rw [if_neg (by omega)]
  rw [if_neg (by omega)]
  rw [if_neg (by omega)]
  rw [if_neg (by omega)]
  rw [if_neg (by omega)]
  rw [if_neg (by omega)]
  rw [if_neg (by omega)]
  rw [if_neg (by omega)]
  rw [if_neg (by omega)]
  rw [if_neg (by omega)]
  rw [if_neg (by omega)]
  rw [if_neg (by omega)]
  rw [if_neg (by omega)]
  rw [if_neg (by omega)]
  rw [if_pos (by omega), Nat.add_sub_cancel]
  rw [show xh_lchars (xs_lchars h k j0 v) k = (va_up (xh_lchars h k) j0 v) from up_eq]
  try rfl
theorem xoc_lchars {cA : Nat → ClassId} {ad : Nat → Nat} {h : XH} {k : Nat} {f0 : Nat → Int32} {j : Nat} (hne : j ≠ k + 16) : xct cA ad (xc_lchars h k f0) j = xct cA ad h j := ic (fun _ => rfl) (fun h0_ => ic (fun _ => rfl) (fun h1_ => ic (fun _ => rfl) (fun h2_ => ic (fun _ => rfl) (fun h3_ => ic (fun _ => rfl) (fun h4_ => ic (fun _ => rfl) (fun h5_ => ic (fun _ => rfl) (fun h6_ => ic (fun _ => rfl) (fun h7_ => ic (fun _ => rfl) (fun h8_ => ic (fun _ => rfl) (fun h9_ => ic (fun _ => rfl) (fun h10_ => ic (fun _ => rfl) (fun h11_ => ic (fun _ => rfl) (fun h12_ => ic (fun _ => rfl) (fun h13_ => ic (fun hc => by rw [show xh_lchars (xc_lchars h k f0) (j - 16) = xh_lchars h (j - 16) from up_ne (by omega)]; try rfl) (fun _ => rfl)))))))))))))))
theorem xec_lchars {cA : Nat → ClassId} {ad : Nat → Nat} {h : XH} {k : Nat} (hk : k < 3) {f0 : Nat → Int32} : xct cA ad (xc_lchars h k f0) (k + 16) = .inl (cA 1, (xh_cap k), .inl f0) := by
  unfold xct
  rw [if_neg (by omega)]
  rw [if_neg (by omega)]
  rw [if_neg (by omega)]
  rw [if_neg (by omega)]
  rw [if_neg (by omega)]
  rw [if_neg (by omega)]
  rw [if_neg (by omega)]
  rw [if_neg (by omega)]
  rw [if_neg (by omega)]
  rw [if_neg (by omega)]
  rw [if_neg (by omega)]
  rw [if_neg (by omega)]
  rw [if_neg (by omega)]
  rw [if_neg (by omega)]
  rw [if_pos (by omega), Nat.add_sub_cancel]
  rw [show xh_lchars (xc_lchars h k f0) k = f0 from up_eq]
  try rfl
theorem xo_pway {cA : Nat → ClassId} {ad : Nat → Nat} {h : XH} {k : Nat} {v : Int32} {j : Nat} (hne : j ≠ k + 19) : xct cA ad (xs_pway h k v) j = xct cA ad h j := ic (fun _ => rfl) (fun h0_ => ic (fun _ => rfl) (fun h1_ => ic (fun _ => rfl) (fun h2_ => ic (fun _ => rfl) (fun h3_ => ic (fun _ => rfl) (fun h4_ => ic (fun _ => rfl) (fun h5_ => ic (fun _ => rfl) (fun h6_ => ic (fun _ => rfl) (fun h7_ => ic (fun _ => rfl) (fun h8_ => ic (fun _ => rfl) (fun h9_ => ic (fun _ => rfl) (fun h10_ => ic (fun _ => rfl) (fun h11_ => ic (fun _ => rfl) (fun h12_ => ic (fun _ => rfl) (fun h13_ => ic (fun _ => rfl) (fun h14_ => ic (fun hc => by rw [show xh_pway (xs_pway h k v) (j - 19) = xh_pway h (j - 19) from up_ne (by omega)]; try rfl) (fun _ => rfl))))))))))))))))
theorem xe_pway {cA : Nat → ClassId} {ad : Nat → Nat} {h : XH} {k : Nat} (hk : k < 4) {v : Int32} : xct cA ad (xs_pway h k v) (k + 19) = .inr (5, [.ref (ad (k + 23)), .ref (ad (k + 27)), .int v, .int (xh_pdepth h k), .int (xh_pret h k)]) := by
  unfold xct
  rw [if_neg (by omega)]
  rw [if_neg (by omega)]
  rw [if_neg (by omega)]
  rw [if_neg (by omega)]
  rw [if_neg (by omega)]
  rw [if_neg (by omega)]
  rw [if_neg (by omega)]
  rw [if_neg (by omega)]
  rw [if_neg (by omega)]
  rw [if_neg (by omega)]
  rw [if_neg (by omega)]
  rw [if_neg (by omega)]
  rw [if_neg (by omega)]
  rw [if_neg (by omega)]
  rw [if_neg (by omega)]
  rw [if_pos (by omega), Nat.add_sub_cancel]
  rw [show xh_pway (xs_pway h k v) k = v from up_eq]
  try rfl
theorem xo_pdepth {cA : Nat → ClassId} {ad : Nat → Nat} {h : XH} {k : Nat} {v : Int32} {j : Nat} (hne : j ≠ k + 19) : xct cA ad (xs_pdepth h k v) j = xct cA ad h j := ic (fun _ => rfl) (fun h0_ => ic (fun _ => rfl) (fun h1_ => ic (fun _ => rfl) (fun h2_ => ic (fun _ => rfl) (fun h3_ => ic (fun _ => rfl) (fun h4_ => ic (fun _ => rfl) (fun h5_ => ic (fun _ => rfl) (fun h6_ => ic (fun _ => rfl) (fun h7_ => ic (fun _ => rfl) (fun h8_ => ic (fun _ => rfl) (fun h9_ => ic (fun _ => rfl) (fun h10_ => ic (fun _ => rfl) (fun h11_ => ic (fun _ => rfl) (fun h12_ => ic (fun _ => rfl) (fun h13_ => ic (fun _ => rfl) (fun h14_ => ic (fun hc => by rw [show xh_pdepth (xs_pdepth h k v) (j - 19) = xh_pdepth h (j - 19) from up_ne (by omega)]; try rfl) (fun _ => rfl))))))))))))))))
theorem xe_pdepth {cA : Nat → ClassId} {ad : Nat → Nat} {h : XH} {k : Nat} (hk : k < 4) {v : Int32} : xct cA ad (xs_pdepth h k v) (k + 19) = .inr (5, [.ref (ad (k + 23)), .ref (ad (k + 27)), .int (xh_pway h k), .int v, .int (xh_pret h k)]) := by
  unfold xct
  rw [if_neg (by omega)]
  rw [if_neg (by omega)]
  rw [if_neg (by omega)]
  rw [if_neg (by omega)]
  rw [if_neg (by omega)]
  rw [if_neg (by omega)]
  rw [if_neg (by omega)]
  rw [if_neg (by omega)]
  rw [if_neg (by omega)]
  rw [if_neg (by omega)]
  rw [if_neg (by omega)]
  rw [if_neg (by omega)]
  rw [if_neg (by omega)]
  rw [if_neg (by omega)]
  rw [if_neg (by omega)]
  rw [if_pos (by omega), Nat.add_sub_cancel]
  rw [show xh_pdepth (xs_pdepth h k v) k = v from up_eq]
  try rfl
theorem xo_pret {cA : Nat → ClassId} {ad : Nat → Nat} {h : XH} {k : Nat} {v : Int32} {j : Nat} (hne : j ≠ k + 19) : xct cA ad (xs_pret h k v) j = xct cA ad h j := ic (fun _ => rfl) (fun h0_ => ic (fun _ => rfl) (fun h1_ => ic (fun _ => rfl) (fun h2_ => ic (fun _ => rfl) (fun h3_ => ic (fun _ => rfl) (fun h4_ => ic (fun _ => rfl) (fun h5_ => ic (fun _ => rfl) (fun h6_ => ic (fun _ => rfl) (fun h7_ => ic (fun _ => rfl) (fun h8_ => ic (fun _ => rfl) (fun h9_ => ic (fun _ => rfl) (fun h10_ => ic (fun _ => rfl) (fun h11_ => ic (fun _ => rfl) (fun h12_ => ic (fun _ => rfl) (fun h13_ => ic (fun _ => rfl) (fun h14_ => ic (fun hc => by rw [show xh_pret (xs_pret h k v) (j - 19) = xh_pret h (j - 19) from up_ne (by omega)]; try rfl) (fun _ => rfl))))))))))))))))
theorem xe_pret {cA : Nat → ClassId} {ad : Nat → Nat} {h : XH} {k : Nat} (hk : k < 4) {v : Int32} : xct cA ad (xs_pret h k v) (k + 19) = .inr (5, [.ref (ad (k + 23)), .ref (ad (k + 27)), .int (xh_pway h k), .int (xh_pdepth h k), .int v]) := by
  unfold xct
  rw [if_neg (by omega)]
  rw [if_neg (by omega)]
  rw [if_neg (by omega)]
  rw [if_neg (by omega)]
  rw [if_neg (by omega)]
  rw [if_neg (by omega)]
  rw [if_neg (by omega)]
  rw [if_neg (by omega)]
  rw [if_neg (by omega)]
  rw [if_neg (by omega)]
  rw [if_neg (by omega)]
  rw [if_neg (by omega)]
  rw [if_neg (by omega)]
  rw [if_neg (by omega)]
  rw [if_neg (by omega)]
  rw [if_pos (by omega), Nat.add_sub_cancel]
  rw [show xh_pret (xs_pret h k v) k = v from up_eq]
  try rfl
theorem xo_pnums {cA : Nat → ClassId} {ad : Nat → Nat} {h : XH} {k : Nat} {j0 : Nat} {v : Int64} {j : Nat} (hne : j ≠ k + 23) : xct cA ad (xs_pnums h k j0 v) j = xct cA ad h j := ic (fun _ => rfl) (fun h0_ => ic (fun _ => rfl) (fun h1_ => ic (fun _ => rfl) (fun h2_ => ic (fun _ => rfl) (fun h3_ => ic (fun _ => rfl) (fun h4_ => ic (fun _ => rfl) (fun h5_ => ic (fun _ => rfl) (fun h6_ => ic (fun _ => rfl) (fun h7_ => ic (fun _ => rfl) (fun h8_ => ic (fun _ => rfl) (fun h9_ => ic (fun _ => rfl) (fun h10_ => ic (fun _ => rfl) (fun h11_ => ic (fun _ => rfl) (fun h12_ => ic (fun _ => rfl) (fun h13_ => ic (fun _ => rfl) (fun h14_ => ic (fun _ => rfl) (fun h15_ => ic (fun hc => by rw [show xh_pnums (xs_pnums h k j0 v) (j - 23) = xh_pnums h (j - 23) from up_ne (by omega)]; try rfl) (fun _ => rfl)))))))))))))))))
theorem xe_pnums {cA : Nat → ClassId} {ad : Nat → Nat} {h : XH} {k : Nat} (hk : k < 4) {j0 : Nat} {v : Int64} : xct cA ad (xs_pnums h k j0 v) (k + 23) = .inl (cA 2, 24, .inr (.inl (va_up (xh_pnums h k) j0 v))) := by
  unfold xct
  rw [if_neg (by omega)]
  rw [if_neg (by omega)]
  rw [if_neg (by omega)]
  rw [if_neg (by omega)]
  rw [if_neg (by omega)]
  rw [if_neg (by omega)]
  rw [if_neg (by omega)]
  rw [if_neg (by omega)]
  rw [if_neg (by omega)]
  rw [if_neg (by omega)]
  rw [if_neg (by omega)]
  rw [if_neg (by omega)]
  rw [if_neg (by omega)]
  rw [if_neg (by omega)]
  rw [if_neg (by omega)]
  rw [if_neg (by omega)]
  rw [if_pos (by omega), Nat.add_sub_cancel]
  rw [show xh_pnums (xs_pnums h k j0 v) k = (va_up (xh_pnums h k) j0 v) from up_eq]
  try rfl
theorem xo_prets {cA : Nat → ClassId} {ad : Nat → Nat} {h : XH} {k : Nat} {j0 : Nat} {v : Int32} {j : Nat} (hne : j ≠ k + 27) : xct cA ad (xs_prets h k j0 v) j = xct cA ad h j := ic (fun _ => rfl) (fun h0_ => ic (fun _ => rfl) (fun h1_ => ic (fun _ => rfl) (fun h2_ => ic (fun _ => rfl) (fun h3_ => ic (fun _ => rfl) (fun h4_ => ic (fun _ => rfl) (fun h5_ => ic (fun _ => rfl) (fun h6_ => ic (fun _ => rfl) (fun h7_ => ic (fun _ => rfl) (fun h8_ => ic (fun _ => rfl) (fun h9_ => ic (fun _ => rfl) (fun h10_ => ic (fun _ => rfl) (fun h11_ => ic (fun _ => rfl) (fun h12_ => ic (fun _ => rfl) (fun h13_ => ic (fun _ => rfl) (fun h14_ => ic (fun _ => rfl) (fun h15_ => ic (fun _ => rfl) (fun h16_ => ic (fun hc => by rw [show xh_prets (xs_prets h k j0 v) (j - 27) = xh_prets h (j - 27) from up_ne (by omega)]; try rfl) (fun _ => rfl))))))))))))))))))
theorem xe_prets {cA : Nat → ClassId} {ad : Nat → Nat} {h : XH} {k : Nat} (hk : k < 4) {j0 : Nat} {v : Int32} : xct cA ad (xs_prets h k j0 v) (k + 27) = .inl (cA 0, 8, .inl (va_up (xh_prets h k) j0 v)) := by
  unfold xct
  rw [if_neg (by omega)]
  rw [if_neg (by omega)]
  rw [if_neg (by omega)]
  rw [if_neg (by omega)]
  rw [if_neg (by omega)]
  rw [if_neg (by omega)]
  rw [if_neg (by omega)]
  rw [if_neg (by omega)]
  rw [if_neg (by omega)]
  rw [if_neg (by omega)]
  rw [if_neg (by omega)]
  rw [if_neg (by omega)]
  rw [if_neg (by omega)]
  rw [if_neg (by omega)]
  rw [if_neg (by omega)]
  rw [if_neg (by omega)]
  rw [if_neg (by omega)]
  rw [if_pos (by omega), Nat.add_sub_cancel]
  rw [show xh_prets (xs_prets h k j0 v) k = (va_up (xh_prets h k) j0 v) from up_eq]
  try rfl
theorem xo_bbegin {cA : Nat → ClassId} {ad : Nat → Nat} {h : XH} {k : Nat} {v : Int32} {j : Nat} (hne : j ≠ k + 31) : xct cA ad (xs_bbegin h k v) j = xct cA ad h j := ic (fun _ => rfl) (fun h0_ => ic (fun _ => rfl) (fun h1_ => ic (fun _ => rfl) (fun h2_ => ic (fun _ => rfl) (fun h3_ => ic (fun _ => rfl) (fun h4_ => ic (fun _ => rfl) (fun h5_ => ic (fun _ => rfl) (fun h6_ => ic (fun _ => rfl) (fun h7_ => ic (fun _ => rfl) (fun h8_ => ic (fun _ => rfl) (fun h9_ => ic (fun _ => rfl) (fun h10_ => ic (fun _ => rfl) (fun h11_ => ic (fun _ => rfl) (fun h12_ => ic (fun _ => rfl) (fun h13_ => ic (fun _ => rfl) (fun h14_ => ic (fun _ => rfl) (fun h15_ => ic (fun _ => rfl) (fun h16_ => ic (fun _ => rfl) (fun h17_ => ic (fun hc => by rw [show xh_bbegin (xs_bbegin h k v) (j - 31) = xh_bbegin h (j - 31) from up_ne (by omega)]; try rfl) (fun _ => rfl)))))))))))))))))))
theorem xe_bbegin {cA : Nat → ClassId} {ad : Nat → Nat} {h : XH} {k : Nat} (hk : k < 30) {v : Int32} : xct cA ad (xs_bbegin h k v) (k + 31) = .inr (1, [.int v, .int (xh_bbehind h k), .int (xh_bsize h k), .long (xh_blow h k), .long (xh_bhigh h k)]) := by
  unfold xct
  rw [if_neg (by omega)]
  rw [if_neg (by omega)]
  rw [if_neg (by omega)]
  rw [if_neg (by omega)]
  rw [if_neg (by omega)]
  rw [if_neg (by omega)]
  rw [if_neg (by omega)]
  rw [if_neg (by omega)]
  rw [if_neg (by omega)]
  rw [if_neg (by omega)]
  rw [if_neg (by omega)]
  rw [if_neg (by omega)]
  rw [if_neg (by omega)]
  rw [if_neg (by omega)]
  rw [if_neg (by omega)]
  rw [if_neg (by omega)]
  rw [if_neg (by omega)]
  rw [if_neg (by omega)]
  rw [if_pos (by omega), Nat.add_sub_cancel]
  rw [show xh_bbegin (xs_bbegin h k v) k = v from up_eq]
  try rfl
theorem xo_bbehind {cA : Nat → ClassId} {ad : Nat → Nat} {h : XH} {k : Nat} {v : Int32} {j : Nat} (hne : j ≠ k + 31) : xct cA ad (xs_bbehind h k v) j = xct cA ad h j := ic (fun _ => rfl) (fun h0_ => ic (fun _ => rfl) (fun h1_ => ic (fun _ => rfl) (fun h2_ => ic (fun _ => rfl) (fun h3_ => ic (fun _ => rfl) (fun h4_ => ic (fun _ => rfl) (fun h5_ => ic (fun _ => rfl) (fun h6_ => ic (fun _ => rfl) (fun h7_ => ic (fun _ => rfl) (fun h8_ => ic (fun _ => rfl) (fun h9_ => ic (fun _ => rfl) (fun h10_ => ic (fun _ => rfl) (fun h11_ => ic (fun _ => rfl) (fun h12_ => ic (fun _ => rfl) (fun h13_ => ic (fun _ => rfl) (fun h14_ => ic (fun _ => rfl) (fun h15_ => ic (fun _ => rfl) (fun h16_ => ic (fun _ => rfl) (fun h17_ => ic (fun hc => by rw [show xh_bbehind (xs_bbehind h k v) (j - 31) = xh_bbehind h (j - 31) from up_ne (by omega)]; try rfl) (fun _ => rfl)))))))))))))))))))
theorem xe_bbehind {cA : Nat → ClassId} {ad : Nat → Nat} {h : XH} {k : Nat} (hk : k < 30) {v : Int32} : xct cA ad (xs_bbehind h k v) (k + 31) = .inr (1, [.int (xh_bbegin h k), .int v, .int (xh_bsize h k), .long (xh_blow h k), .long (xh_bhigh h k)]) := by
  unfold xct
  rw [if_neg (by omega)]
  rw [if_neg (by omega)]
  rw [if_neg (by omega)]
  rw [if_neg (by omega)]
  rw [if_neg (by omega)]
  rw [if_neg (by omega)]
  rw [if_neg (by omega)]
  rw [if_neg (by omega)]
  rw [if_neg (by omega)]
  rw [if_neg (by omega)]
  rw [if_neg (by omega)]
  rw [if_neg (by omega)]
  rw [if_neg (by omega)]
  rw [if_neg (by omega)]
  rw [if_neg (by omega)]
  rw [if_neg (by omega)]
  rw [if_neg (by omega)]
  rw [if_neg (by omega)]
  rw [if_pos (by omega), Nat.add_sub_cancel]
  rw [show xh_bbehind (xs_bbehind h k v) k = v from up_eq]
  try rfl
theorem xo_bsize {cA : Nat → ClassId} {ad : Nat → Nat} {h : XH} {k : Nat} {v : Int32} {j : Nat} (hne : j ≠ k + 31) : xct cA ad (xs_bsize h k v) j = xct cA ad h j := ic (fun _ => rfl) (fun h0_ => ic (fun _ => rfl) (fun h1_ => ic (fun _ => rfl) (fun h2_ => ic (fun _ => rfl) (fun h3_ => ic (fun _ => rfl) (fun h4_ => ic (fun _ => rfl) (fun h5_ => ic (fun _ => rfl) (fun h6_ => ic (fun _ => rfl) (fun h7_ => ic (fun _ => rfl) (fun h8_ => ic (fun _ => rfl) (fun h9_ => ic (fun _ => rfl) (fun h10_ => ic (fun _ => rfl) (fun h11_ => ic (fun _ => rfl) (fun h12_ => ic (fun _ => rfl) (fun h13_ => ic (fun _ => rfl) (fun h14_ => ic (fun _ => rfl) (fun h15_ => ic (fun _ => rfl) (fun h16_ => ic (fun _ => rfl) (fun h17_ => ic (fun hc => by rw [show xh_bsize (xs_bsize h k v) (j - 31) = xh_bsize h (j - 31) from up_ne (by omega)]; try rfl) (fun _ => rfl)))))))))))))))))))
theorem xe_bsize {cA : Nat → ClassId} {ad : Nat → Nat} {h : XH} {k : Nat} (hk : k < 30) {v : Int32} : xct cA ad (xs_bsize h k v) (k + 31) = .inr (1, [.int (xh_bbegin h k), .int (xh_bbehind h k), .int v, .long (xh_blow h k), .long (xh_bhigh h k)]) := by
  unfold xct
  rw [if_neg (by omega)]
  rw [if_neg (by omega)]
  rw [if_neg (by omega)]
  rw [if_neg (by omega)]
  rw [if_neg (by omega)]
  rw [if_neg (by omega)]
  rw [if_neg (by omega)]
  rw [if_neg (by omega)]
  rw [if_neg (by omega)]
  rw [if_neg (by omega)]
  rw [if_neg (by omega)]
  rw [if_neg (by omega)]
  rw [if_neg (by omega)]
  rw [if_neg (by omega)]
  rw [if_neg (by omega)]
  rw [if_neg (by omega)]
  rw [if_neg (by omega)]
  rw [if_neg (by omega)]
  rw [if_pos (by omega), Nat.add_sub_cancel]
  rw [show xh_bsize (xs_bsize h k v) k = v from up_eq]
  try rfl
theorem xo_blow {cA : Nat → ClassId} {ad : Nat → Nat} {h : XH} {k : Nat} {v : Int64} {j : Nat} (hne : j ≠ k + 31) : xct cA ad (xs_blow h k v) j = xct cA ad h j := ic (fun _ => rfl) (fun h0_ => ic (fun _ => rfl) (fun h1_ => ic (fun _ => rfl) (fun h2_ => ic (fun _ => rfl) (fun h3_ => ic (fun _ => rfl) (fun h4_ => ic (fun _ => rfl) (fun h5_ => ic (fun _ => rfl) (fun h6_ => ic (fun _ => rfl) (fun h7_ => ic (fun _ => rfl) (fun h8_ => ic (fun _ => rfl) (fun h9_ => ic (fun _ => rfl) (fun h10_ => ic (fun _ => rfl) (fun h11_ => ic (fun _ => rfl) (fun h12_ => ic (fun _ => rfl) (fun h13_ => ic (fun _ => rfl) (fun h14_ => ic (fun _ => rfl) (fun h15_ => ic (fun _ => rfl) (fun h16_ => ic (fun _ => rfl) (fun h17_ => ic (fun hc => by rw [show xh_blow (xs_blow h k v) (j - 31) = xh_blow h (j - 31) from up_ne (by omega)]; try rfl) (fun _ => rfl)))))))))))))))))))
theorem xe_blow {cA : Nat → ClassId} {ad : Nat → Nat} {h : XH} {k : Nat} (hk : k < 30) {v : Int64} : xct cA ad (xs_blow h k v) (k + 31) = .inr (1, [.int (xh_bbegin h k), .int (xh_bbehind h k), .int (xh_bsize h k), .long v, .long (xh_bhigh h k)]) := by
  unfold xct
  rw [if_neg (by omega)]
  rw [if_neg (by omega)]
  rw [if_neg (by omega)]
  rw [if_neg (by omega)]
  rw [if_neg (by omega)]
  rw [if_neg (by omega)]
  rw [if_neg (by omega)]
  rw [if_neg (by omega)]
  rw [if_neg (by omega)]
  rw [if_neg (by omega)]
  rw [if_neg (by omega)]
  rw [if_neg (by omega)]
  rw [if_neg (by omega)]
  rw [if_neg (by omega)]
  rw [if_neg (by omega)]
  rw [if_neg (by omega)]
  rw [if_neg (by omega)]
  rw [if_neg (by omega)]
  rw [if_pos (by omega), Nat.add_sub_cancel]
  rw [show xh_blow (xs_blow h k v) k = v from up_eq]
  try rfl
theorem xo_bhigh {cA : Nat → ClassId} {ad : Nat → Nat} {h : XH} {k : Nat} {v : Int64} {j : Nat} (hne : j ≠ k + 31) : xct cA ad (xs_bhigh h k v) j = xct cA ad h j := ic (fun _ => rfl) (fun h0_ => ic (fun _ => rfl) (fun h1_ => ic (fun _ => rfl) (fun h2_ => ic (fun _ => rfl) (fun h3_ => ic (fun _ => rfl) (fun h4_ => ic (fun _ => rfl) (fun h5_ => ic (fun _ => rfl) (fun h6_ => ic (fun _ => rfl) (fun h7_ => ic (fun _ => rfl) (fun h8_ => ic (fun _ => rfl) (fun h9_ => ic (fun _ => rfl) (fun h10_ => ic (fun _ => rfl) (fun h11_ => ic (fun _ => rfl) (fun h12_ => ic (fun _ => rfl) (fun h13_ => ic (fun _ => rfl) (fun h14_ => ic (fun _ => rfl) (fun h15_ => ic (fun _ => rfl) (fun h16_ => ic (fun _ => rfl) (fun h17_ => ic (fun hc => by rw [show xh_bhigh (xs_bhigh h k v) (j - 31) = xh_bhigh h (j - 31) from up_ne (by omega)]; try rfl) (fun _ => rfl)))))))))))))))))))
theorem xe_bhigh {cA : Nat → ClassId} {ad : Nat → Nat} {h : XH} {k : Nat} (hk : k < 30) {v : Int64} : xct cA ad (xs_bhigh h k v) (k + 31) = .inr (1, [.int (xh_bbegin h k), .int (xh_bbehind h k), .int (xh_bsize h k), .long (xh_blow h k), .long v]) := by
  unfold xct
  rw [if_neg (by omega)]
  rw [if_neg (by omega)]
  rw [if_neg (by omega)]
  rw [if_neg (by omega)]
  rw [if_neg (by omega)]
  rw [if_neg (by omega)]
  rw [if_neg (by omega)]
  rw [if_neg (by omega)]
  rw [if_neg (by omega)]
  rw [if_neg (by omega)]
  rw [if_neg (by omega)]
  rw [if_neg (by omega)]
  rw [if_neg (by omega)]
  rw [if_neg (by omega)]
  rw [if_neg (by omega)]
  rw [if_neg (by omega)]
  rw [if_neg (by omega)]
  rw [if_neg (by omega)]
  rw [if_pos (by omega), Nat.add_sub_cancel]
  rw [show xh_bhigh (xs_bhigh h k v) k = v from up_eq]
  try rfl
section XR
variable {p : Program} {l : Launch} {e : Env} {R : Room} {s : State} {m : MethodId} {args : Array Value} {below : List Frame} {meth : Method} {c : Code} {H : Heap} {locs : List Loc} {cells slots : Nat} {Q : State → Prop}
variable {cc : ByteArray} {pc : Nat} {ls : Array Slot} {rest : List Value} {D : va_G} {A : Nat → Prop} {H0 : Heap} {cA : Nat → ClassId} {ad : Nat → Nat} {h : XH} {own : String} {index : Nat}
theorem xr_DP (hK : va_K D vwCl (xtys cA) s) (hP : va_P D vwCl (xW cA ad h) H) : ∃ cell : Cell, H[(ad 0)]? = some cell ∧ cell.vm.isStatics = false ∧ s.vm.findClass nR_P = some cell.cls := va_recv (q := (nR_P, nT_P, 6)) hK hP rfl xw_DP
theorem xg_P_blocks (hx : p.tables.exec = Jvm.exec) (hb : c.code = cc) (hts : ∀ w ∈ lw_wd, w.before args s = true) (hown : s.vm.findClass own = some m.cls) (hK : va_K D vwCl (xtys cA) s) (hP : va_P D vwCl (xW cA ad h) H) (hlink : (Cond.fieldLink own index "DrawnPaths" "blocks" "LDrawnPaths$Blocks;").before args s = true) (hdg : decode cc pc = .ok (.getfield index, 3)) (kk : W p l e R s m args below meth c H locs cells slots Q (F0 m (pc + 3) ls (.ref (ad 1) :: rest))) : W p l e R s m args below meth c H locs cells slots Q (F0 m pc ls (.ref (ad 0) :: rest)) :=
  va_get (ci := 0) (v := .ref (ad 1)) (C := nR_P) (T := nT_P) (N := 6) hx hb hts nu_P hown hK hP 0 xw_DP rfl 0 (by decide) hlink (fun _ h9 => h9) rfl hdg kk
theorem xg_P_field (hx : p.tables.exec = Jvm.exec) (hb : c.code = cc) (hts : ∀ w ∈ lw_wd, w.before args s = true) (hown : s.vm.findClass own = some m.cls) (hK : va_K D vwCl (xtys cA) s) (hP : va_P D vwCl (xW cA ad h) H) (hlink : (Cond.fieldLink own index "DrawnPaths" "field" "LDrawnPaths$Field;").before args s = true) (hdg : decode cc pc = .ok (.getfield index, 3)) (kk : W p l e R s m args below meth c H locs cells slots Q (F0 m (pc + 3) ls (.ref (ad 4) :: rest))) : W p l e R s m args below meth c H locs cells slots Q (F0 m pc ls (.ref (ad 0) :: rest)) :=
  va_get (ci := 0) (v := .ref (ad 4)) (C := nR_P) (T := nT_P) (N := 6) hx hb hts nu_P hown hK hP 0 xw_DP rfl 1 (by decide) hlink (fun _ h9 => h9) rfl hdg kk
theorem xg_P_run (hx : p.tables.exec = Jvm.exec) (hb : c.code = cc) (hts : ∀ w ∈ lw_wd, w.before args s = true) (hown : s.vm.findClass own = some m.cls) (hK : va_K D vwCl (xtys cA) s) (hP : va_P D vwCl (xW cA ad h) H) (hlink : (Cond.fieldLink own index "DrawnPaths" "run" "LDrawnPaths$Run;").before args s = true) (hdg : decode cc pc = .ok (.getfield index, 3)) (kk : W p l e R s m args below meth c H locs cells slots Q (F0 m (pc + 3) ls (.ref (ad 6) :: rest))) : W p l e R s m args below meth c H locs cells slots Q (F0 m pc ls (.ref (ad 0) :: rest)) :=
  va_get (ci := 0) (v := .ref (ad 6)) (C := nR_P) (T := nT_P) (N := 6) hx hb hts nu_P hown hK hP 0 xw_DP rfl 2 (by decide) hlink (fun _ h9 => h9) rfl hdg kk
theorem xg_P_search (hx : p.tables.exec = Jvm.exec) (hb : c.code = cc) (hts : ∀ w ∈ lw_wd, w.before args s = true) (hown : s.vm.findClass own = some m.cls) (hK : va_K D vwCl (xtys cA) s) (hP : va_P D vwCl (xW cA ad h) H) (hlink : (Cond.fieldLink own index "DrawnPaths" "search" "LDrawnPaths$Search;").before args s = true) (hdg : decode cc pc = .ok (.getfield index, 3)) (kk : W p l e R s m args below meth c H locs cells slots Q (F0 m (pc + 3) ls (.ref (ad 10) :: rest))) : W p l e R s m args below meth c H locs cells slots Q (F0 m pc ls (.ref (ad 0) :: rest)) :=
  va_get (ci := 0) (v := .ref (ad 10)) (C := nR_P) (T := nT_P) (N := 6) hx hb hts nu_P hown hK hP 0 xw_DP rfl 3 (by decide) hlink (fun _ h9 => h9) rfl hdg kk
theorem xg_P_text (hx : p.tables.exec = Jvm.exec) (hb : c.code = cc) (hts : ∀ w ∈ lw_wd, w.before args s = true) (hown : s.vm.findClass own = some m.cls) (hK : va_K D vwCl (xtys cA) s) (hP : va_P D vwCl (xW cA ad h) H) (hlink : (Cond.fieldLink own index "DrawnPaths" "text" "LDrawnPaths$Line;").before args s = true) (hdg : decode cc pc = .ok (.getfield index, 3)) (kk : W p l e R s m args below meth c H locs cells slots Q (F0 m (pc + 3) ls (.ref (ad (1 + 13)) :: rest))) : W p l e R s m args below meth c H locs cells slots Q (F0 m pc ls (.ref (ad 0) :: rest)) :=
  va_get (ci := 0) (v := .ref (ad (1 + 13))) (C := nR_P) (T := nT_P) (N := 6) hx hb hts nu_P hown hK hP 0 xw_DP rfl 4 (by decide) hlink (fun _ h9 => h9) rfl hdg kk
theorem xg_P_page (hx : p.tables.exec = Jvm.exec) (hb : c.code = cc) (hts : ∀ w ∈ lw_wd, w.before args s = true) (hown : s.vm.findClass own = some m.cls) (hK : va_K D vwCl (xtys cA) s) (hP : va_P D vwCl (xW cA ad h) H) (hlink : (Cond.fieldLink own index "DrawnPaths" "page" "LDrawnPaths$Line;").before args s = true) (hdg : decode cc pc = .ok (.getfield index, 3)) (kk : W p l e R s m args below meth c H locs cells slots Q (F0 m (pc + 3) ls (.ref (ad (2 + 13)) :: rest))) : W p l e R s m args below meth c H locs cells slots Q (F0 m pc ls (.ref (ad 0) :: rest)) :=
  va_get (ci := 0) (v := .ref (ad (2 + 13))) (C := nR_P) (T := nT_P) (N := 6) hx hb hts nu_P hown hK hP 0 xw_DP rfl 5 (by decide) hlink (fun _ h9 => h9) rfl hdg kk
theorem xr_Block (hK : va_K D vwCl (xtys cA) s) (hP : va_P D vwCl (xW cA ad h) H) {k : Nat} (hk : k < 30) : ∃ cell : Cell, H[(ad (k + 31))]? = some cell ∧ cell.vm.isStatics = false ∧ s.vm.findClass nR_Block = some cell.cls := va_recv (q := (nR_Block, nT_Block, 5)) hK hP rfl (xw_Block hk)
theorem xg_Block_begin (hx : p.tables.exec = Jvm.exec) (hb : c.code = cc) (hts : ∀ w ∈ lw_wd, w.before args s = true) (hown : s.vm.findClass own = some m.cls) (hK : va_K D vwCl (xtys cA) s) (hP : va_P D vwCl (xW cA ad h) H) {k : Nat} (hk : k < 30) (hlink : (Cond.fieldLink own index "DrawnPaths$Block" "begin" "I").before args s = true) (hdg : decode cc pc = .ok (.getfield index, 3)) (kk : W p l e R s m args below meth c H locs cells slots Q (F0 m (pc + 3) ls (.int (xh_bbegin h k) :: rest))) : W p l e R s m args below meth c H locs cells slots Q (F0 m pc ls (.ref (ad (k + 31)) :: rest)) :=
  va_get (ci := 1) (v := .int (xh_bbegin h k)) (C := nR_Block) (T := nT_Block) (N := 5) hx hb hts nu_Block hown hK hP (k + 31) (xw_Block hk) rfl 0 (by decide) hlink (fun _ h9 => h9) rfl hdg kk
theorem xp_Block_begin (hx : p.tables.exec = Jvm.exec) (hb : c.code = cc) (hts : ∀ w ∈ lw_wd, w.before args s = true) (hown : s.vm.findClass own = some m.cls) (hK : va_K D vwCl (xtys cA) s) (hD : wdD 61 A ad) (hP : va_P D vwCl (xW cA ad h) H) (hS : va_S A H0 H locs) {k : Nat} (hk : k < 30) (hlink : (Cond.fieldLink own index "DrawnPaths$Block" "begin" "I").before args s = true) (hdg : decode cc pc = .ok (.putfield index, 3)) {v : Int32} (kk : ∀ (H1 : Heap) (locs1 : List Loc), va_P D vwCl (xW cA ad (xs_bbegin h k v)) H1 → va_S A H0 H1 locs1 → W p l e R s m args below meth c H1 locs1 cells slots Q (F0 m (pc + 3) ls rest)) : W p l e R s m args below meth c H locs cells slots Q (F0 m pc ls (.int v :: .ref (ad (k + 31)) :: rest)) :=
  va_put (ci := 1) (v := .int v) (ty := .int) (C := nR_Block) (T := nT_Block) (N := 5) hx hb hts nu_Block nY_Block nY_Block_ok nN_Block hown hK hP (hD _) hS (k + 31) (xw_Block hk) rfl 0 (by decide) hlink (fun _ h9 => h9) rfl (by decide +kernel) rfl rfl (Nat.le_of_ble_eq_true rfl) hdg (fun H1 locs1 hP1 _ hS1 => kk H1 locs1 (va_P_eq (wdG_set (ct' := xct cA ad (xs_bbegin h k v)) (by first | decide | omega) (by intro j9 hj9 hne; exact xo_bbegin hne) (by exact xe_bbegin hk)) hP1) hS1)
theorem xg_Block_behind (hx : p.tables.exec = Jvm.exec) (hb : c.code = cc) (hts : ∀ w ∈ lw_wd, w.before args s = true) (hown : s.vm.findClass own = some m.cls) (hK : va_K D vwCl (xtys cA) s) (hP : va_P D vwCl (xW cA ad h) H) {k : Nat} (hk : k < 30) (hlink : (Cond.fieldLink own index "DrawnPaths$Block" "behind" "I").before args s = true) (hdg : decode cc pc = .ok (.getfield index, 3)) (kk : W p l e R s m args below meth c H locs cells slots Q (F0 m (pc + 3) ls (.int (xh_bbehind h k) :: rest))) : W p l e R s m args below meth c H locs cells slots Q (F0 m pc ls (.ref (ad (k + 31)) :: rest)) :=
  va_get (ci := 1) (v := .int (xh_bbehind h k)) (C := nR_Block) (T := nT_Block) (N := 5) hx hb hts nu_Block hown hK hP (k + 31) (xw_Block hk) rfl 1 (by decide) hlink (fun _ h9 => h9) rfl hdg kk
theorem xp_Block_behind (hx : p.tables.exec = Jvm.exec) (hb : c.code = cc) (hts : ∀ w ∈ lw_wd, w.before args s = true) (hown : s.vm.findClass own = some m.cls) (hK : va_K D vwCl (xtys cA) s) (hD : wdD 61 A ad) (hP : va_P D vwCl (xW cA ad h) H) (hS : va_S A H0 H locs) {k : Nat} (hk : k < 30) (hlink : (Cond.fieldLink own index "DrawnPaths$Block" "behind" "I").before args s = true) (hdg : decode cc pc = .ok (.putfield index, 3)) {v : Int32} (kk : ∀ (H1 : Heap) (locs1 : List Loc), va_P D vwCl (xW cA ad (xs_bbehind h k v)) H1 → va_S A H0 H1 locs1 → W p l e R s m args below meth c H1 locs1 cells slots Q (F0 m (pc + 3) ls rest)) : W p l e R s m args below meth c H locs cells slots Q (F0 m pc ls (.int v :: .ref (ad (k + 31)) :: rest)) :=
  va_put (ci := 1) (v := .int v) (ty := .int) (C := nR_Block) (T := nT_Block) (N := 5) hx hb hts nu_Block nY_Block nY_Block_ok nN_Block hown hK hP (hD _) hS (k + 31) (xw_Block hk) rfl 1 (by decide) hlink (fun _ h9 => h9) rfl (by decide +kernel) rfl rfl (Nat.le_of_ble_eq_true rfl) hdg (fun H1 locs1 hP1 _ hS1 => kk H1 locs1 (va_P_eq (wdG_set (ct' := xct cA ad (xs_bbehind h k v)) (by first | decide | omega) (by intro j9 hj9 hne; exact xo_bbehind hne) (by exact xe_bbehind hk)) hP1) hS1)
theorem xg_Block_size (hx : p.tables.exec = Jvm.exec) (hb : c.code = cc) (hts : ∀ w ∈ lw_wd, w.before args s = true) (hown : s.vm.findClass own = some m.cls) (hK : va_K D vwCl (xtys cA) s) (hP : va_P D vwCl (xW cA ad h) H) {k : Nat} (hk : k < 30) (hlink : (Cond.fieldLink own index "DrawnPaths$Block" "size" "I").before args s = true) (hdg : decode cc pc = .ok (.getfield index, 3)) (kk : W p l e R s m args below meth c H locs cells slots Q (F0 m (pc + 3) ls (.int (xh_bsize h k) :: rest))) : W p l e R s m args below meth c H locs cells slots Q (F0 m pc ls (.ref (ad (k + 31)) :: rest)) :=
  va_get (ci := 1) (v := .int (xh_bsize h k)) (C := nR_Block) (T := nT_Block) (N := 5) hx hb hts nu_Block hown hK hP (k + 31) (xw_Block hk) rfl 2 (by decide) hlink (fun _ h9 => h9) rfl hdg kk
theorem xp_Block_size (hx : p.tables.exec = Jvm.exec) (hb : c.code = cc) (hts : ∀ w ∈ lw_wd, w.before args s = true) (hown : s.vm.findClass own = some m.cls) (hK : va_K D vwCl (xtys cA) s) (hD : wdD 61 A ad) (hP : va_P D vwCl (xW cA ad h) H) (hS : va_S A H0 H locs) {k : Nat} (hk : k < 30) (hlink : (Cond.fieldLink own index "DrawnPaths$Block" "size" "I").before args s = true) (hdg : decode cc pc = .ok (.putfield index, 3)) {v : Int32} (kk : ∀ (H1 : Heap) (locs1 : List Loc), va_P D vwCl (xW cA ad (xs_bsize h k v)) H1 → va_S A H0 H1 locs1 → W p l e R s m args below meth c H1 locs1 cells slots Q (F0 m (pc + 3) ls rest)) : W p l e R s m args below meth c H locs cells slots Q (F0 m pc ls (.int v :: .ref (ad (k + 31)) :: rest)) :=
  va_put (ci := 1) (v := .int v) (ty := .int) (C := nR_Block) (T := nT_Block) (N := 5) hx hb hts nu_Block nY_Block nY_Block_ok nN_Block hown hK hP (hD _) hS (k + 31) (xw_Block hk) rfl 2 (by decide) hlink (fun _ h9 => h9) rfl (by decide +kernel) rfl rfl (Nat.le_of_ble_eq_true rfl) hdg (fun H1 locs1 hP1 _ hS1 => kk H1 locs1 (va_P_eq (wdG_set (ct' := xct cA ad (xs_bsize h k v)) (by first | decide | omega) (by intro j9 hj9 hne; exact xo_bsize hne) (by exact xe_bsize hk)) hP1) hS1)
theorem xg_Block_lowPlaces (hx : p.tables.exec = Jvm.exec) (hb : c.code = cc) (hts : ∀ w ∈ lw_wd, w.before args s = true) (hown : s.vm.findClass own = some m.cls) (hK : va_K D vwCl (xtys cA) s) (hP : va_P D vwCl (xW cA ad h) H) {k : Nat} (hk : k < 30) (hlink : (Cond.fieldLink own index "DrawnPaths$Block" "lowPlaces" "J").before args s = true) (hdg : decode cc pc = .ok (.getfield index, 3)) (kk : W p l e R s m args below meth c H locs cells slots Q (F0 m (pc + 3) ls (.long (xh_blow h k) :: rest))) : W p l e R s m args below meth c H locs cells slots Q (F0 m pc ls (.ref (ad (k + 31)) :: rest)) :=
  va_get (ci := 1) (v := .long (xh_blow h k)) (C := nR_Block) (T := nT_Block) (N := 5) hx hb hts nu_Block hown hK hP (k + 31) (xw_Block hk) rfl 3 (by decide) hlink (fun _ h9 => h9) rfl hdg kk
theorem xp_Block_lowPlaces (hx : p.tables.exec = Jvm.exec) (hb : c.code = cc) (hts : ∀ w ∈ lw_wd, w.before args s = true) (hown : s.vm.findClass own = some m.cls) (hK : va_K D vwCl (xtys cA) s) (hD : wdD 61 A ad) (hP : va_P D vwCl (xW cA ad h) H) (hS : va_S A H0 H locs) {k : Nat} (hk : k < 30) (hlink : (Cond.fieldLink own index "DrawnPaths$Block" "lowPlaces" "J").before args s = true) (hdg : decode cc pc = .ok (.putfield index, 3)) {v : Int64} (kk : ∀ (H1 : Heap) (locs1 : List Loc), va_P D vwCl (xW cA ad (xs_blow h k v)) H1 → va_S A H0 H1 locs1 → W p l e R s m args below meth c H1 locs1 cells slots Q (F0 m (pc + 3) ls rest)) : W p l e R s m args below meth c H locs cells slots Q (F0 m pc ls (.long v :: .ref (ad (k + 31)) :: rest)) :=
  va_put (ci := 1) (v := .long v) (ty := .long) (C := nR_Block) (T := nT_Block) (N := 5) hx hb hts nu_Block nY_Block nY_Block_ok nN_Block hown hK hP (hD _) hS (k + 31) (xw_Block hk) rfl 3 (by decide) hlink (fun _ h9 => h9) rfl (by decide +kernel) rfl rfl (Nat.le_of_ble_eq_true rfl) hdg (fun H1 locs1 hP1 _ hS1 => kk H1 locs1 (va_P_eq (wdG_set (ct' := xct cA ad (xs_blow h k v)) (by first | decide | omega) (by intro j9 hj9 hne; exact xo_blow hne) (by exact xe_blow hk)) hP1) hS1)
theorem xg_Block_highPlaces (hx : p.tables.exec = Jvm.exec) (hb : c.code = cc) (hts : ∀ w ∈ lw_wd, w.before args s = true) (hown : s.vm.findClass own = some m.cls) (hK : va_K D vwCl (xtys cA) s) (hP : va_P D vwCl (xW cA ad h) H) {k : Nat} (hk : k < 30) (hlink : (Cond.fieldLink own index "DrawnPaths$Block" "highPlaces" "J").before args s = true) (hdg : decode cc pc = .ok (.getfield index, 3)) (kk : W p l e R s m args below meth c H locs cells slots Q (F0 m (pc + 3) ls (.long (xh_bhigh h k) :: rest))) : W p l e R s m args below meth c H locs cells slots Q (F0 m pc ls (.ref (ad (k + 31)) :: rest)) :=
  va_get (ci := 1) (v := .long (xh_bhigh h k)) (C := nR_Block) (T := nT_Block) (N := 5) hx hb hts nu_Block hown hK hP (k + 31) (xw_Block hk) rfl 4 (by decide) hlink (fun _ h9 => h9) rfl hdg kk
theorem xp_Block_highPlaces (hx : p.tables.exec = Jvm.exec) (hb : c.code = cc) (hts : ∀ w ∈ lw_wd, w.before args s = true) (hown : s.vm.findClass own = some m.cls) (hK : va_K D vwCl (xtys cA) s) (hD : wdD 61 A ad) (hP : va_P D vwCl (xW cA ad h) H) (hS : va_S A H0 H locs) {k : Nat} (hk : k < 30) (hlink : (Cond.fieldLink own index "DrawnPaths$Block" "highPlaces" "J").before args s = true) (hdg : decode cc pc = .ok (.putfield index, 3)) {v : Int64} (kk : ∀ (H1 : Heap) (locs1 : List Loc), va_P D vwCl (xW cA ad (xs_bhigh h k v)) H1 → va_S A H0 H1 locs1 → W p l e R s m args below meth c H1 locs1 cells slots Q (F0 m (pc + 3) ls rest)) : W p l e R s m args below meth c H locs cells slots Q (F0 m pc ls (.long v :: .ref (ad (k + 31)) :: rest)) :=
  va_put (ci := 1) (v := .long v) (ty := .long) (C := nR_Block) (T := nT_Block) (N := 5) hx hb hts nu_Block nY_Block nY_Block_ok nN_Block hown hK hP (hD _) hS (k + 31) (xw_Block hk) rfl 4 (by decide) hlink (fun _ h9 => h9) rfl (by decide +kernel) rfl rfl (Nat.le_of_ble_eq_true rfl) hdg (fun H1 locs1 hP1 _ hS1 => kk H1 locs1 (va_P_eq (wdG_set (ct' := xct cA ad (xs_bhigh h k v)) (by first | decide | omega) (by intro j9 hj9 hne; exact xo_bhigh hne) (by exact xe_bhigh hk)) hP1) hS1)
theorem xr_Blocks (hK : va_K D vwCl (xtys cA) s) (hP : va_P D vwCl (xW cA ad h) H) : ∃ cell : Cell, H[(ad 1)]? = some cell ∧ cell.vm.isStatics = false ∧ s.vm.findClass nR_Blocks = some cell.cls := va_recv (q := (nR_Blocks, nT_Blocks, 4)) hK hP rfl xw_Blocks
theorem xg_Blocks_row (hx : p.tables.exec = Jvm.exec) (hb : c.code = cc) (hts : ∀ w ∈ lw_wd, w.before args s = true) (hown : s.vm.findClass own = some m.cls) (hK : va_K D vwCl (xtys cA) s) (hP : va_P D vwCl (xW cA ad h) H) (hlink : (Cond.fieldLink own index "DrawnPaths$Blocks" "row" "[LDrawnPaths$Block;").before args s = true) (hdg : decode cc pc = .ok (.getfield index, 3)) (kk : W p l e R s m args below meth c H locs cells slots Q (F0 m (pc + 3) ls (.ref (ad 2) :: rest))) : W p l e R s m args below meth c H locs cells slots Q (F0 m pc ls (.ref (ad 1) :: rest)) :=
  va_get (ci := 2) (v := .ref (ad 2)) (C := nR_Blocks) (T := nT_Blocks) (N := 4) hx hb hts nu_Blocks hown hK hP 1 xw_Blocks rfl 0 (by decide) hlink (fun _ h9 => h9) rfl hdg kk
theorem xg_Blocks_marks (hx : p.tables.exec = Jvm.exec) (hb : c.code = cc) (hts : ∀ w ∈ lw_wd, w.before args s = true) (hown : s.vm.findClass own = some m.cls) (hK : va_K D vwCl (xtys cA) s) (hP : va_P D vwCl (xW cA ad h) H) (hlink : (Cond.fieldLink own index "DrawnPaths$Blocks" "marks" "[I").before args s = true) (hdg : decode cc pc = .ok (.getfield index, 3)) (kk : W p l e R s m args below meth c H locs cells slots Q (F0 m (pc + 3) ls (.ref (ad 3) :: rest))) : W p l e R s m args below meth c H locs cells slots Q (F0 m pc ls (.ref (ad 1) :: rest)) :=
  va_get (ci := 2) (v := .ref (ad 3)) (C := nR_Blocks) (T := nT_Blocks) (N := 4) hx hb hts nu_Blocks hown hK hP 1 xw_Blocks rfl 1 (by decide) hlink (fun _ h9 => h9) rfl hdg kk
theorem xg_Blocks_held (hx : p.tables.exec = Jvm.exec) (hb : c.code = cc) (hts : ∀ w ∈ lw_wd, w.before args s = true) (hown : s.vm.findClass own = some m.cls) (hK : va_K D vwCl (xtys cA) s) (hP : va_P D vwCl (xW cA ad h) H) (hlink : (Cond.fieldLink own index "DrawnPaths$Blocks" "held" "I").before args s = true) (hdg : decode cc pc = .ok (.getfield index, 3)) (kk : W p l e R s m args below meth c H locs cells slots Q (F0 m (pc + 3) ls (.int (xh_held h) :: rest))) : W p l e R s m args below meth c H locs cells slots Q (F0 m pc ls (.ref (ad 1) :: rest)) :=
  va_get (ci := 2) (v := .int (xh_held h)) (C := nR_Blocks) (T := nT_Blocks) (N := 4) hx hb hts nu_Blocks hown hK hP 1 xw_Blocks rfl 2 (by decide) hlink (fun _ h9 => h9) rfl hdg kk
theorem xp_Blocks_held (hx : p.tables.exec = Jvm.exec) (hb : c.code = cc) (hts : ∀ w ∈ lw_wd, w.before args s = true) (hown : s.vm.findClass own = some m.cls) (hK : va_K D vwCl (xtys cA) s) (hD : wdD 61 A ad) (hP : va_P D vwCl (xW cA ad h) H) (hS : va_S A H0 H locs) (hlink : (Cond.fieldLink own index "DrawnPaths$Blocks" "held" "I").before args s = true) (hdg : decode cc pc = .ok (.putfield index, 3)) {v : Int32} (kk : ∀ (H1 : Heap) (locs1 : List Loc), va_P D vwCl (xW cA ad (xs_held h v)) H1 → va_S A H0 H1 locs1 → W p l e R s m args below meth c H1 locs1 cells slots Q (F0 m (pc + 3) ls rest)) : W p l e R s m args below meth c H locs cells slots Q (F0 m pc ls (.int v :: .ref (ad 1) :: rest)) :=
  va_put (ci := 2) (v := .int v) (ty := .int) (C := nR_Blocks) (T := nT_Blocks) (N := 4) hx hb hts nu_Blocks nY_Blocks nY_Blocks_ok nN_Blocks hown hK hP (hD _) hS 1 xw_Blocks rfl 2 (by decide) hlink (fun _ h9 => h9) rfl (by decide +kernel) rfl rfl (Nat.le_of_ble_eq_true rfl) hdg (fun H1 locs1 hP1 _ hS1 => kk H1 locs1 (va_P_eq (wdG_set (ct' := xct cA ad (xs_held h v)) (by first | decide | omega) (by intro j9 hj9 hne; exact xo_held hne) (by exact xe_held)) hP1) hS1)
theorem xg_Blocks_dropped (hx : p.tables.exec = Jvm.exec) (hb : c.code = cc) (hts : ∀ w ∈ lw_wd, w.before args s = true) (hown : s.vm.findClass own = some m.cls) (hK : va_K D vwCl (xtys cA) s) (hP : va_P D vwCl (xW cA ad h) H) (hlink : (Cond.fieldLink own index "DrawnPaths$Blocks" "dropped" "I").before args s = true) (hdg : decode cc pc = .ok (.getfield index, 3)) (kk : W p l e R s m args below meth c H locs cells slots Q (F0 m (pc + 3) ls (.int (xh_dropped h) :: rest))) : W p l e R s m args below meth c H locs cells slots Q (F0 m pc ls (.ref (ad 1) :: rest)) :=
  va_get (ci := 2) (v := .int (xh_dropped h)) (C := nR_Blocks) (T := nT_Blocks) (N := 4) hx hb hts nu_Blocks hown hK hP 1 xw_Blocks rfl 3 (by decide) hlink (fun _ h9 => h9) rfl hdg kk
theorem xp_Blocks_dropped (hx : p.tables.exec = Jvm.exec) (hb : c.code = cc) (hts : ∀ w ∈ lw_wd, w.before args s = true) (hown : s.vm.findClass own = some m.cls) (hK : va_K D vwCl (xtys cA) s) (hD : wdD 61 A ad) (hP : va_P D vwCl (xW cA ad h) H) (hS : va_S A H0 H locs) (hlink : (Cond.fieldLink own index "DrawnPaths$Blocks" "dropped" "I").before args s = true) (hdg : decode cc pc = .ok (.putfield index, 3)) {v : Int32} (kk : ∀ (H1 : Heap) (locs1 : List Loc), va_P D vwCl (xW cA ad (xs_dropped h v)) H1 → va_S A H0 H1 locs1 → W p l e R s m args below meth c H1 locs1 cells slots Q (F0 m (pc + 3) ls rest)) : W p l e R s m args below meth c H locs cells slots Q (F0 m pc ls (.int v :: .ref (ad 1) :: rest)) :=
  va_put (ci := 2) (v := .int v) (ty := .int) (C := nR_Blocks) (T := nT_Blocks) (N := 4) hx hb hts nu_Blocks nY_Blocks nY_Blocks_ok nN_Blocks hown hK hP (hD _) hS 1 xw_Blocks rfl 3 (by decide) hlink (fun _ h9 => h9) rfl (by decide +kernel) rfl rfl (Nat.le_of_ble_eq_true rfl) hdg (fun H1 locs1 hP1 _ hS1 => kk H1 locs1 (va_P_eq (wdG_set (ct' := xct cA ad (xs_dropped h v)) (by first | decide | omega) (by intro j9 hj9 hne; exact xo_dropped hne) (by exact xe_dropped)) hP1) hS1)
theorem xr_Field (hK : va_K D vwCl (xtys cA) s) (hP : va_P D vwCl (xW cA ad h) H) : ∃ cell : Cell, H[(ad 4)]? = some cell ∧ cell.vm.isStatics = false ∧ s.vm.findClass nR_Field = some cell.cls := va_recv (q := (nR_Field, nT_Field, 2)) hK hP rfl xw_Field
theorem xg_Field_signs (hx : p.tables.exec = Jvm.exec) (hb : c.code = cc) (hts : ∀ w ∈ lw_wd, w.before args s = true) (hown : s.vm.findClass own = some m.cls) (hK : va_K D vwCl (xtys cA) s) (hP : va_P D vwCl (xW cA ad h) H) (hlink : (Cond.fieldLink own index "DrawnPaths$Field" "signs" "[C").before args s = true) (hdg : decode cc pc = .ok (.getfield index, 3)) (kk : W p l e R s m args below meth c H locs cells slots Q (F0 m (pc + 3) ls (.ref (ad 5) :: rest))) : W p l e R s m args below meth c H locs cells slots Q (F0 m pc ls (.ref (ad 4) :: rest)) :=
  va_get (ci := 3) (v := .ref (ad 5)) (C := nR_Field) (T := nT_Field) (N := 2) hx hb hts nu_Field hown hK hP 4 xw_Field rfl 0 (by decide) hlink (fun _ h9 => h9) rfl hdg kk
theorem xg_Field_blocks (hx : p.tables.exec = Jvm.exec) (hb : c.code = cc) (hts : ∀ w ∈ lw_wd, w.before args s = true) (hown : s.vm.findClass own = some m.cls) (hK : va_K D vwCl (xtys cA) s) (hP : va_P D vwCl (xW cA ad h) H) (hlink : (Cond.fieldLink own index "DrawnPaths$Field" "blocks" "LDrawnPaths$Blocks;").before args s = true) (hdg : decode cc pc = .ok (.getfield index, 3)) (kk : W p l e R s m args below meth c H locs cells slots Q (F0 m (pc + 3) ls (.ref (ad 1) :: rest))) : W p l e R s m args below meth c H locs cells slots Q (F0 m pc ls (.ref (ad 4) :: rest)) :=
  va_get (ci := 3) (v := .ref (ad 1)) (C := nR_Field) (T := nT_Field) (N := 2) hx hb hts nu_Field hown hK hP 4 xw_Field rfl 1 (by decide) hlink (fun _ h9 => h9) rfl hdg kk
theorem xr_Line (hK : va_K D vwCl (xtys cA) s) (hP : va_P D vwCl (xW cA ad h) H) {k : Nat} (hk : k < 3) : ∃ cell : Cell, H[(ad (k + 13))]? = some cell ∧ cell.vm.isStatics = false ∧ s.vm.findClass nR_Line = some cell.cls := va_recv (q := (nR_Line, nT_Line, 2)) hK hP rfl (xw_Line hk)
theorem xg_Line_characters (hx : p.tables.exec = Jvm.exec) (hb : c.code = cc) (hts : ∀ w ∈ lw_wd, w.before args s = true) (hown : s.vm.findClass own = some m.cls) (hK : va_K D vwCl (xtys cA) s) (hP : va_P D vwCl (xW cA ad h) H) {k : Nat} (hk : k < 3) (hlink : (Cond.fieldLink own index "DrawnPaths$Line" "characters" "[C").before args s = true) (hdg : decode cc pc = .ok (.getfield index, 3)) (kk : W p l e R s m args below meth c H locs cells slots Q (F0 m (pc + 3) ls (.ref (ad (k + 16)) :: rest))) : W p l e R s m args below meth c H locs cells slots Q (F0 m pc ls (.ref (ad (k + 13)) :: rest)) :=
  va_get (ci := 4) (v := .ref (ad (k + 16))) (C := nR_Line) (T := nT_Line) (N := 2) hx hb hts nu_Line hown hK hP (k + 13) (xw_Line hk) rfl 0 (by decide) hlink (fun _ h9 => h9) rfl hdg kk
theorem xg_Line_size (hx : p.tables.exec = Jvm.exec) (hb : c.code = cc) (hts : ∀ w ∈ lw_wd, w.before args s = true) (hown : s.vm.findClass own = some m.cls) (hK : va_K D vwCl (xtys cA) s) (hP : va_P D vwCl (xW cA ad h) H) {k : Nat} (hk : k < 3) (hlink : (Cond.fieldLink own index "DrawnPaths$Line" "size" "I").before args s = true) (hdg : decode cc pc = .ok (.getfield index, 3)) (kk : W p l e R s m args below meth c H locs cells slots Q (F0 m (pc + 3) ls (.int (xh_lsize h k) :: rest))) : W p l e R s m args below meth c H locs cells slots Q (F0 m pc ls (.ref (ad (k + 13)) :: rest)) :=
  va_get (ci := 4) (v := .int (xh_lsize h k)) (C := nR_Line) (T := nT_Line) (N := 2) hx hb hts nu_Line hown hK hP (k + 13) (xw_Line hk) rfl 1 (by decide) hlink (fun _ h9 => h9) rfl hdg kk
theorem xp_Line_size (hx : p.tables.exec = Jvm.exec) (hb : c.code = cc) (hts : ∀ w ∈ lw_wd, w.before args s = true) (hown : s.vm.findClass own = some m.cls) (hK : va_K D vwCl (xtys cA) s) (hD : wdD 61 A ad) (hP : va_P D vwCl (xW cA ad h) H) (hS : va_S A H0 H locs) {k : Nat} (hk : k < 3) (hlink : (Cond.fieldLink own index "DrawnPaths$Line" "size" "I").before args s = true) (hdg : decode cc pc = .ok (.putfield index, 3)) {v : Int32} (kk : ∀ (H1 : Heap) (locs1 : List Loc), va_P D vwCl (xW cA ad (xs_lsize h k v)) H1 → va_S A H0 H1 locs1 → W p l e R s m args below meth c H1 locs1 cells slots Q (F0 m (pc + 3) ls rest)) : W p l e R s m args below meth c H locs cells slots Q (F0 m pc ls (.int v :: .ref (ad (k + 13)) :: rest)) :=
  va_put (ci := 4) (v := .int v) (ty := .int) (C := nR_Line) (T := nT_Line) (N := 2) hx hb hts nu_Line nY_Line nY_Line_ok nN_Line hown hK hP (hD _) hS (k + 13) (xw_Line hk) rfl 1 (by decide) hlink (fun _ h9 => h9) rfl (by decide +kernel) rfl rfl (Nat.le_of_ble_eq_true rfl) hdg (fun H1 locs1 hP1 _ hS1 => kk H1 locs1 (va_P_eq (wdG_set (ct' := xct cA ad (xs_lsize h k v)) (by first | decide | omega) (by intro j9 hj9 hne; exact xo_lsize hne) (by exact xe_lsize hk)) hP1) hS1)
theorem xr_Pointer (hK : va_K D vwCl (xtys cA) s) (hP : va_P D vwCl (xW cA ad h) H) {k : Nat} (hk : k < 4) : ∃ cell : Cell, H[(ad (k + 19))]? = some cell ∧ cell.vm.isStatics = false ∧ s.vm.findClass nR_Ptr = some cell.cls := va_recv (q := (nR_Ptr, nT_Ptr, 5)) hK hP rfl (xw_Pointer hk)
theorem xg_Ptr_numbers (hx : p.tables.exec = Jvm.exec) (hb : c.code = cc) (hts : ∀ w ∈ lw_wd, w.before args s = true) (hown : s.vm.findClass own = some m.cls) (hK : va_K D vwCl (xtys cA) s) (hP : va_P D vwCl (xW cA ad h) H) {k : Nat} (hk : k < 4) (hlink : (Cond.fieldLink own index "DrawnPaths$Pointer" "numbers" "[J").before args s = true) (hdg : decode cc pc = .ok (.getfield index, 3)) (kk : W p l e R s m args below meth c H locs cells slots Q (F0 m (pc + 3) ls (.ref (ad (k + 23)) :: rest))) : W p l e R s m args below meth c H locs cells slots Q (F0 m pc ls (.ref (ad (k + 19)) :: rest)) :=
  va_get (ci := 5) (v := .ref (ad (k + 23))) (C := nR_Ptr) (T := nT_Ptr) (N := 5) hx hb hts nu_Ptr hown hK hP (k + 19) (xw_Pointer hk) rfl 0 (by decide) hlink (fun _ h9 => h9) rfl hdg kk
theorem xg_Ptr_returns (hx : p.tables.exec = Jvm.exec) (hb : c.code = cc) (hts : ∀ w ∈ lw_wd, w.before args s = true) (hown : s.vm.findClass own = some m.cls) (hK : va_K D vwCl (xtys cA) s) (hP : va_P D vwCl (xW cA ad h) H) {k : Nat} (hk : k < 4) (hlink : (Cond.fieldLink own index "DrawnPaths$Pointer" "returns" "[I").before args s = true) (hdg : decode cc pc = .ok (.getfield index, 3)) (kk : W p l e R s m args below meth c H locs cells slots Q (F0 m (pc + 3) ls (.ref (ad (k + 27)) :: rest))) : W p l e R s m args below meth c H locs cells slots Q (F0 m pc ls (.ref (ad (k + 19)) :: rest)) :=
  va_get (ci := 5) (v := .ref (ad (k + 27))) (C := nR_Ptr) (T := nT_Ptr) (N := 5) hx hb hts nu_Ptr hown hK hP (k + 19) (xw_Pointer hk) rfl 1 (by decide) hlink (fun _ h9 => h9) rfl hdg kk
theorem xg_Ptr_way (hx : p.tables.exec = Jvm.exec) (hb : c.code = cc) (hts : ∀ w ∈ lw_wd, w.before args s = true) (hown : s.vm.findClass own = some m.cls) (hK : va_K D vwCl (xtys cA) s) (hP : va_P D vwCl (xW cA ad h) H) {k : Nat} (hk : k < 4) (hlink : (Cond.fieldLink own index "DrawnPaths$Pointer" "way" "I").before args s = true) (hdg : decode cc pc = .ok (.getfield index, 3)) (kk : W p l e R s m args below meth c H locs cells slots Q (F0 m (pc + 3) ls (.int (xh_pway h k) :: rest))) : W p l e R s m args below meth c H locs cells slots Q (F0 m pc ls (.ref (ad (k + 19)) :: rest)) :=
  va_get (ci := 5) (v := .int (xh_pway h k)) (C := nR_Ptr) (T := nT_Ptr) (N := 5) hx hb hts nu_Ptr hown hK hP (k + 19) (xw_Pointer hk) rfl 2 (by decide) hlink (fun _ h9 => h9) rfl hdg kk
theorem xp_Ptr_way (hx : p.tables.exec = Jvm.exec) (hb : c.code = cc) (hts : ∀ w ∈ lw_wd, w.before args s = true) (hown : s.vm.findClass own = some m.cls) (hK : va_K D vwCl (xtys cA) s) (hD : wdD 61 A ad) (hP : va_P D vwCl (xW cA ad h) H) (hS : va_S A H0 H locs) {k : Nat} (hk : k < 4) (hlink : (Cond.fieldLink own index "DrawnPaths$Pointer" "way" "I").before args s = true) (hdg : decode cc pc = .ok (.putfield index, 3)) {v : Int32} (kk : ∀ (H1 : Heap) (locs1 : List Loc), va_P D vwCl (xW cA ad (xs_pway h k v)) H1 → va_S A H0 H1 locs1 → W p l e R s m args below meth c H1 locs1 cells slots Q (F0 m (pc + 3) ls rest)) : W p l e R s m args below meth c H locs cells slots Q (F0 m pc ls (.int v :: .ref (ad (k + 19)) :: rest)) :=
  va_put (ci := 5) (v := .int v) (ty := .int) (C := nR_Ptr) (T := nT_Ptr) (N := 5) hx hb hts nu_Ptr nY_Ptr nY_Ptr_ok nN_Ptr hown hK hP (hD _) hS (k + 19) (xw_Pointer hk) rfl 2 (by decide) hlink (fun _ h9 => h9) rfl (by decide +kernel) rfl rfl (Nat.le_of_ble_eq_true rfl) hdg (fun H1 locs1 hP1 _ hS1 => kk H1 locs1 (va_P_eq (wdG_set (ct' := xct cA ad (xs_pway h k v)) (by first | decide | omega) (by intro j9 hj9 hne; exact xo_pway hne) (by exact xe_pway hk)) hP1) hS1)
theorem xg_Ptr_depth (hx : p.tables.exec = Jvm.exec) (hb : c.code = cc) (hts : ∀ w ∈ lw_wd, w.before args s = true) (hown : s.vm.findClass own = some m.cls) (hK : va_K D vwCl (xtys cA) s) (hP : va_P D vwCl (xW cA ad h) H) {k : Nat} (hk : k < 4) (hlink : (Cond.fieldLink own index "DrawnPaths$Pointer" "depth" "I").before args s = true) (hdg : decode cc pc = .ok (.getfield index, 3)) (kk : W p l e R s m args below meth c H locs cells slots Q (F0 m (pc + 3) ls (.int (xh_pdepth h k) :: rest))) : W p l e R s m args below meth c H locs cells slots Q (F0 m pc ls (.ref (ad (k + 19)) :: rest)) :=
  va_get (ci := 5) (v := .int (xh_pdepth h k)) (C := nR_Ptr) (T := nT_Ptr) (N := 5) hx hb hts nu_Ptr hown hK hP (k + 19) (xw_Pointer hk) rfl 3 (by decide) hlink (fun _ h9 => h9) rfl hdg kk
theorem xp_Ptr_depth (hx : p.tables.exec = Jvm.exec) (hb : c.code = cc) (hts : ∀ w ∈ lw_wd, w.before args s = true) (hown : s.vm.findClass own = some m.cls) (hK : va_K D vwCl (xtys cA) s) (hD : wdD 61 A ad) (hP : va_P D vwCl (xW cA ad h) H) (hS : va_S A H0 H locs) {k : Nat} (hk : k < 4) (hlink : (Cond.fieldLink own index "DrawnPaths$Pointer" "depth" "I").before args s = true) (hdg : decode cc pc = .ok (.putfield index, 3)) {v : Int32} (kk : ∀ (H1 : Heap) (locs1 : List Loc), va_P D vwCl (xW cA ad (xs_pdepth h k v)) H1 → va_S A H0 H1 locs1 → W p l e R s m args below meth c H1 locs1 cells slots Q (F0 m (pc + 3) ls rest)) : W p l e R s m args below meth c H locs cells slots Q (F0 m pc ls (.int v :: .ref (ad (k + 19)) :: rest)) :=
  va_put (ci := 5) (v := .int v) (ty := .int) (C := nR_Ptr) (T := nT_Ptr) (N := 5) hx hb hts nu_Ptr nY_Ptr nY_Ptr_ok nN_Ptr hown hK hP (hD _) hS (k + 19) (xw_Pointer hk) rfl 3 (by decide) hlink (fun _ h9 => h9) rfl (by decide +kernel) rfl rfl (Nat.le_of_ble_eq_true rfl) hdg (fun H1 locs1 hP1 _ hS1 => kk H1 locs1 (va_P_eq (wdG_set (ct' := xct cA ad (xs_pdepth h k v)) (by first | decide | omega) (by intro j9 hj9 hne; exact xo_pdepth hne) (by exact xe_pdepth hk)) hP1) hS1)
theorem xg_Ptr_returning (hx : p.tables.exec = Jvm.exec) (hb : c.code = cc) (hts : ∀ w ∈ lw_wd, w.before args s = true) (hown : s.vm.findClass own = some m.cls) (hK : va_K D vwCl (xtys cA) s) (hP : va_P D vwCl (xW cA ad h) H) {k : Nat} (hk : k < 4) (hlink : (Cond.fieldLink own index "DrawnPaths$Pointer" "returning" "I").before args s = true) (hdg : decode cc pc = .ok (.getfield index, 3)) (kk : W p l e R s m args below meth c H locs cells slots Q (F0 m (pc + 3) ls (.int (xh_pret h k) :: rest))) : W p l e R s m args below meth c H locs cells slots Q (F0 m pc ls (.ref (ad (k + 19)) :: rest)) :=
  va_get (ci := 5) (v := .int (xh_pret h k)) (C := nR_Ptr) (T := nT_Ptr) (N := 5) hx hb hts nu_Ptr hown hK hP (k + 19) (xw_Pointer hk) rfl 4 (by decide) hlink (fun _ h9 => h9) rfl hdg kk
theorem xp_Ptr_returning (hx : p.tables.exec = Jvm.exec) (hb : c.code = cc) (hts : ∀ w ∈ lw_wd, w.before args s = true) (hown : s.vm.findClass own = some m.cls) (hK : va_K D vwCl (xtys cA) s) (hD : wdD 61 A ad) (hP : va_P D vwCl (xW cA ad h) H) (hS : va_S A H0 H locs) {k : Nat} (hk : k < 4) (hlink : (Cond.fieldLink own index "DrawnPaths$Pointer" "returning" "I").before args s = true) (hdg : decode cc pc = .ok (.putfield index, 3)) {v : Int32} (kk : ∀ (H1 : Heap) (locs1 : List Loc), va_P D vwCl (xW cA ad (xs_pret h k v)) H1 → va_S A H0 H1 locs1 → W p l e R s m args below meth c H1 locs1 cells slots Q (F0 m (pc + 3) ls rest)) : W p l e R s m args below meth c H locs cells slots Q (F0 m pc ls (.int v :: .ref (ad (k + 19)) :: rest)) :=
  va_put (ci := 5) (v := .int v) (ty := .int) (C := nR_Ptr) (T := nT_Ptr) (N := 5) hx hb hts nu_Ptr nY_Ptr nY_Ptr_ok nN_Ptr hown hK hP (hD _) hS (k + 19) (xw_Pointer hk) rfl 4 (by decide) hlink (fun _ h9 => h9) rfl (by decide +kernel) rfl rfl (Nat.le_of_ble_eq_true rfl) hdg (fun H1 locs1 hP1 _ hS1 => kk H1 locs1 (va_P_eq (wdG_set (ct' := xct cA ad (xs_pret h k v)) (by first | decide | omega) (by intro j9 hj9 hne; exact xo_pret hne) (by exact xe_pret hk)) hP1) hS1)
theorem xr_Run (hK : va_K D vwCl (xtys cA) s) (hP : va_P D vwCl (xW cA ad h) H) : ∃ cell : Cell, H[(ad 6)]? = some cell ∧ cell.vm.isStatics = false ∧ s.vm.findClass nR_Run = some cell.cls := va_recv (q := (nR_Run, nT_Run, 10)) hK hP rfl xw_Run
theorem xg_Run_field (hx : p.tables.exec = Jvm.exec) (hb : c.code = cc) (hts : ∀ w ∈ lw_wd, w.before args s = true) (hown : s.vm.findClass own = some m.cls) (hK : va_K D vwCl (xtys cA) s) (hP : va_P D vwCl (xW cA ad h) H) (hlink : (Cond.fieldLink own index "DrawnPaths$Run" "field" "LDrawnPaths$Field;").before args s = true) (hdg : decode cc pc = .ok (.getfield index, 3)) (kk : W p l e R s m args below meth c H locs cells slots Q (F0 m (pc + 3) ls (.ref (ad 4) :: rest))) : W p l e R s m args below meth c H locs cells slots Q (F0 m pc ls (.ref (ad 6) :: rest)) :=
  va_get (ci := 6) (v := .ref (ad 4)) (C := nR_Run) (T := nT_Run) (N := 10) hx hb hts nu_Run hown hK hP 6 xw_Run rfl 0 (by decide) hlink (fun _ h9 => h9) rfl hdg kk
theorem xg_Run_pointers (hx : p.tables.exec = Jvm.exec) (hb : c.code = cc) (hts : ∀ w ∈ lw_wd, w.before args s = true) (hown : s.vm.findClass own = some m.cls) (hK : va_K D vwCl (xtys cA) s) (hP : va_P D vwCl (xW cA ad h) H) (hlink : (Cond.fieldLink own index "DrawnPaths$Run" "pointers" "[LDrawnPaths$Pointer;").before args s = true) (hdg : decode cc pc = .ok (.getfield index, 3)) (kk : W p l e R s m args below meth c H locs cells slots Q (F0 m (pc + 3) ls (.ref (ad 7) :: rest))) : W p l e R s m args below meth c H locs cells slots Q (F0 m pc ls (.ref (ad 6) :: rest)) :=
  va_get (ci := 6) (v := .ref (ad 7)) (C := nR_Run) (T := nT_Run) (N := 10) hx hb hts nu_Run hown hK hP 6 xw_Run rfl 1 (by decide) hlink (fun _ h9 => h9) rfl hdg kk
theorem xg_Run_numbers (hx : p.tables.exec = Jvm.exec) (hb : c.code = cc) (hts : ∀ w ∈ lw_wd, w.before args s = true) (hown : s.vm.findClass own = some m.cls) (hK : va_K D vwCl (xtys cA) s) (hP : va_P D vwCl (xW cA ad h) H) (hlink : (Cond.fieldLink own index "DrawnPaths$Run" "numbers" "[J").before args s = true) (hdg : decode cc pc = .ok (.getfield index, 3)) (kk : W p l e R s m args below meth c H locs cells slots Q (F0 m (pc + 3) ls (.ref (ad 8) :: rest))) : W p l e R s m args below meth c H locs cells slots Q (F0 m pc ls (.ref (ad 6) :: rest)) :=
  va_get (ci := 6) (v := .ref (ad 8)) (C := nR_Run) (T := nT_Run) (N := 10) hx hb hts nu_Run hown hK hP 6 xw_Run rfl 2 (by decide) hlink (fun _ h9 => h9) rfl hdg kk
theorem xg_Run_digits (hx : p.tables.exec = Jvm.exec) (hb : c.code = cc) (hts : ∀ w ∈ lw_wd, w.before args s = true) (hown : s.vm.findClass own = some m.cls) (hK : va_K D vwCl (xtys cA) s) (hP : va_P D vwCl (xW cA ad h) H) (hlink : (Cond.fieldLink own index "DrawnPaths$Run" "digits" "[C").before args s = true) (hdg : decode cc pc = .ok (.getfield index, 3)) (kk : W p l e R s m args below meth c H locs cells slots Q (F0 m (pc + 3) ls (.ref (ad 9) :: rest))) : W p l e R s m args below meth c H locs cells slots Q (F0 m pc ls (.ref (ad 6) :: rest)) :=
  va_get (ci := 6) (v := .ref (ad 9)) (C := nR_Run) (T := nT_Run) (N := 10) hx hb hts nu_Run hown hK hP 6 xw_Run rfl 3 (by decide) hlink (fun _ h9 => h9) rfl hdg kk
theorem xg_Run_written (hx : p.tables.exec = Jvm.exec) (hb : c.code = cc) (hts : ∀ w ∈ lw_wd, w.before args s = true) (hown : s.vm.findClass own = some m.cls) (hK : va_K D vwCl (xtys cA) s) (hP : va_P D vwCl (xW cA ad h) H) (hlink : (Cond.fieldLink own index "DrawnPaths$Run" "written" "LDrawnPaths$Line;").before args s = true) (hdg : decode cc pc = .ok (.getfield index, 3)) (kk : W p l e R s m args below meth c H locs cells slots Q (F0 m (pc + 3) ls (.ref (ad (0 + 13)) :: rest))) : W p l e R s m args below meth c H locs cells slots Q (F0 m pc ls (.ref (ad 6) :: rest)) :=
  va_get (ci := 6) (v := .ref (ad (0 + 13))) (C := nR_Run) (T := nT_Run) (N := 10) hx hb hts nu_Run hown hK hP 6 xw_Run rfl 4 (by decide) hlink (fun _ h9 => h9) rfl hdg kk
theorem xg_Run_living (hx : p.tables.exec = Jvm.exec) (hb : c.code = cc) (hts : ∀ w ∈ lw_wd, w.before args s = true) (hown : s.vm.findClass own = some m.cls) (hK : va_K D vwCl (xtys cA) s) (hP : va_P D vwCl (xW cA ad h) H) (hlink : (Cond.fieldLink own index "DrawnPaths$Run" "living" "I").before args s = true) (hdg : decode cc pc = .ok (.getfield index, 3)) (kk : W p l e R s m args below meth c H locs cells slots Q (F0 m (pc + 3) ls (.int (xh_living h) :: rest))) : W p l e R s m args below meth c H locs cells slots Q (F0 m pc ls (.ref (ad 6) :: rest)) :=
  va_get (ci := 6) (v := .int (xh_living h)) (C := nR_Run) (T := nT_Run) (N := 10) hx hb hts nu_Run hown hK hP 6 xw_Run rfl 5 (by decide) hlink (fun _ h9 => h9) rfl hdg kk
theorem xp_Run_living (hx : p.tables.exec = Jvm.exec) (hb : c.code = cc) (hts : ∀ w ∈ lw_wd, w.before args s = true) (hown : s.vm.findClass own = some m.cls) (hK : va_K D vwCl (xtys cA) s) (hD : wdD 61 A ad) (hP : va_P D vwCl (xW cA ad h) H) (hS : va_S A H0 H locs) (hlink : (Cond.fieldLink own index "DrawnPaths$Run" "living" "I").before args s = true) (hdg : decode cc pc = .ok (.putfield index, 3)) {v : Int32} (kk : ∀ (H1 : Heap) (locs1 : List Loc), va_P D vwCl (xW cA ad (xs_living h v)) H1 → va_S A H0 H1 locs1 → W p l e R s m args below meth c H1 locs1 cells slots Q (F0 m (pc + 3) ls rest)) : W p l e R s m args below meth c H locs cells slots Q (F0 m pc ls (.int v :: .ref (ad 6) :: rest)) :=
  va_put (ci := 6) (v := .int v) (ty := .int) (C := nR_Run) (T := nT_Run) (N := 10) hx hb hts nu_Run nY_Run nY_Run_ok nN_Run hown hK hP (hD _) hS 6 xw_Run rfl 5 (by decide) hlink (fun _ h9 => h9) rfl (by decide +kernel) rfl rfl (Nat.le_of_ble_eq_true rfl) hdg (fun H1 locs1 hP1 _ hS1 => kk H1 locs1 (va_P_eq (wdG_set (ct' := xct cA ad (xs_living h v)) (by first | decide | omega) (by intro j9 hj9 hne; exact xo_living hne) (by exact xe_living)) hP1) hS1)
theorem xg_Run_given (hx : p.tables.exec = Jvm.exec) (hb : c.code = cc) (hts : ∀ w ∈ lw_wd, w.before args s = true) (hown : s.vm.findClass own = some m.cls) (hK : va_K D vwCl (xtys cA) s) (hP : va_P D vwCl (xW cA ad h) H) (hlink : (Cond.fieldLink own index "DrawnPaths$Run" "given" "I").before args s = true) (hdg : decode cc pc = .ok (.getfield index, 3)) (kk : W p l e R s m args below meth c H locs cells slots Q (F0 m (pc + 3) ls (.int (xh_given h) :: rest))) : W p l e R s m args below meth c H locs cells slots Q (F0 m pc ls (.ref (ad 6) :: rest)) :=
  va_get (ci := 6) (v := .int (xh_given h)) (C := nR_Run) (T := nT_Run) (N := 10) hx hb hts nu_Run hown hK hP 6 xw_Run rfl 6 (by decide) hlink (fun _ h9 => h9) rfl hdg kk
theorem xp_Run_given (hx : p.tables.exec = Jvm.exec) (hb : c.code = cc) (hts : ∀ w ∈ lw_wd, w.before args s = true) (hown : s.vm.findClass own = some m.cls) (hK : va_K D vwCl (xtys cA) s) (hD : wdD 61 A ad) (hP : va_P D vwCl (xW cA ad h) H) (hS : va_S A H0 H locs) (hlink : (Cond.fieldLink own index "DrawnPaths$Run" "given" "I").before args s = true) (hdg : decode cc pc = .ok (.putfield index, 3)) {v : Int32} (kk : ∀ (H1 : Heap) (locs1 : List Loc), va_P D vwCl (xW cA ad (xs_given h v)) H1 → va_S A H0 H1 locs1 → W p l e R s m args below meth c H1 locs1 cells slots Q (F0 m (pc + 3) ls rest)) : W p l e R s m args below meth c H locs cells slots Q (F0 m pc ls (.int v :: .ref (ad 6) :: rest)) :=
  va_put (ci := 6) (v := .int v) (ty := .int) (C := nR_Run) (T := nT_Run) (N := 10) hx hb hts nu_Run nY_Run nY_Run_ok nN_Run hown hK hP (hD _) hS 6 xw_Run rfl 6 (by decide) hlink (fun _ h9 => h9) rfl (by decide +kernel) rfl rfl (Nat.le_of_ble_eq_true rfl) hdg (fun H1 locs1 hP1 _ hS1 => kk H1 locs1 (va_P_eq (wdG_set (ct' := xct cA ad (xs_given h v)) (by first | decide | omega) (by intro j9 hj9 hne; exact xo_given hne) (by exact xe_given)) hP1) hS1)
theorem xg_Run_read (hx : p.tables.exec = Jvm.exec) (hb : c.code = cc) (hts : ∀ w ∈ lw_wd, w.before args s = true) (hown : s.vm.findClass own = some m.cls) (hK : va_K D vwCl (xtys cA) s) (hP : va_P D vwCl (xW cA ad h) H) (hlink : (Cond.fieldLink own index "DrawnPaths$Run" "read" "I").before args s = true) (hdg : decode cc pc = .ok (.getfield index, 3)) (kk : W p l e R s m args below meth c H locs cells slots Q (F0 m (pc + 3) ls (.int (xh_read h) :: rest))) : W p l e R s m args below meth c H locs cells slots Q (F0 m pc ls (.ref (ad 6) :: rest)) :=
  va_get (ci := 6) (v := .int (xh_read h)) (C := nR_Run) (T := nT_Run) (N := 10) hx hb hts nu_Run hown hK hP 6 xw_Run rfl 7 (by decide) hlink (fun _ h9 => h9) rfl hdg kk
theorem xp_Run_read (hx : p.tables.exec = Jvm.exec) (hb : c.code = cc) (hts : ∀ w ∈ lw_wd, w.before args s = true) (hown : s.vm.findClass own = some m.cls) (hK : va_K D vwCl (xtys cA) s) (hD : wdD 61 A ad) (hP : va_P D vwCl (xW cA ad h) H) (hS : va_S A H0 H locs) (hlink : (Cond.fieldLink own index "DrawnPaths$Run" "read" "I").before args s = true) (hdg : decode cc pc = .ok (.putfield index, 3)) {v : Int32} (kk : ∀ (H1 : Heap) (locs1 : List Loc), va_P D vwCl (xW cA ad (xs_read h v)) H1 → va_S A H0 H1 locs1 → W p l e R s m args below meth c H1 locs1 cells slots Q (F0 m (pc + 3) ls rest)) : W p l e R s m args below meth c H locs cells slots Q (F0 m pc ls (.int v :: .ref (ad 6) :: rest)) :=
  va_put (ci := 6) (v := .int v) (ty := .int) (C := nR_Run) (T := nT_Run) (N := 10) hx hb hts nu_Run nY_Run nY_Run_ok nN_Run hown hK hP (hD _) hS 6 xw_Run rfl 7 (by decide) hlink (fun _ h9 => h9) rfl (by decide +kernel) rfl rfl (Nat.le_of_ble_eq_true rfl) hdg (fun H1 locs1 hP1 _ hS1 => kk H1 locs1 (va_P_eq (wdG_set (ct' := xct cA ad (xs_read h v)) (by first | decide | omega) (by intro j9 hj9 hne; exact xo_read hne) (by exact xe_read)) hP1) hS1)
theorem xg_Run_steps (hx : p.tables.exec = Jvm.exec) (hb : c.code = cc) (hts : ∀ w ∈ lw_wd, w.before args s = true) (hown : s.vm.findClass own = some m.cls) (hK : va_K D vwCl (xtys cA) s) (hP : va_P D vwCl (xW cA ad h) H) (hlink : (Cond.fieldLink own index "DrawnPaths$Run" "steps" "I").before args s = true) (hdg : decode cc pc = .ok (.getfield index, 3)) (kk : W p l e R s m args below meth c H locs cells slots Q (F0 m (pc + 3) ls (.int (xh_steps h) :: rest))) : W p l e R s m args below meth c H locs cells slots Q (F0 m pc ls (.ref (ad 6) :: rest)) :=
  va_get (ci := 6) (v := .int (xh_steps h)) (C := nR_Run) (T := nT_Run) (N := 10) hx hb hts nu_Run hown hK hP 6 xw_Run rfl 8 (by decide) hlink (fun _ h9 => h9) rfl hdg kk
theorem xp_Run_steps (hx : p.tables.exec = Jvm.exec) (hb : c.code = cc) (hts : ∀ w ∈ lw_wd, w.before args s = true) (hown : s.vm.findClass own = some m.cls) (hK : va_K D vwCl (xtys cA) s) (hD : wdD 61 A ad) (hP : va_P D vwCl (xW cA ad h) H) (hS : va_S A H0 H locs) (hlink : (Cond.fieldLink own index "DrawnPaths$Run" "steps" "I").before args s = true) (hdg : decode cc pc = .ok (.putfield index, 3)) {v : Int32} (kk : ∀ (H1 : Heap) (locs1 : List Loc), va_P D vwCl (xW cA ad (xs_steps h v)) H1 → va_S A H0 H1 locs1 → W p l e R s m args below meth c H1 locs1 cells slots Q (F0 m (pc + 3) ls rest)) : W p l e R s m args below meth c H locs cells slots Q (F0 m pc ls (.int v :: .ref (ad 6) :: rest)) :=
  va_put (ci := 6) (v := .int v) (ty := .int) (C := nR_Run) (T := nT_Run) (N := 10) hx hb hts nu_Run nY_Run nY_Run_ok nN_Run hown hK hP (hD _) hS 6 xw_Run rfl 8 (by decide) hlink (fun _ h9 => h9) rfl (by decide +kernel) rfl rfl (Nat.le_of_ble_eq_true rfl) hdg (fun H1 locs1 hP1 _ hS1 => kk H1 locs1 (va_P_eq (wdG_set (ct' := xct cA ad (xs_steps h v)) (by first | decide | omega) (by intro j9 hj9 hne; exact xo_steps hne) (by exact xe_steps)) hP1) hS1)
theorem xg_Run_stopped (hx : p.tables.exec = Jvm.exec) (hb : c.code = cc) (hts : ∀ w ∈ lw_wd, w.before args s = true) (hown : s.vm.findClass own = some m.cls) (hK : va_K D vwCl (xtys cA) s) (hP : va_P D vwCl (xW cA ad h) H) (hlink : (Cond.fieldLink own index "DrawnPaths$Run" "stopped" "I").before args s = true) (hdg : decode cc pc = .ok (.getfield index, 3)) (kk : W p l e R s m args below meth c H locs cells slots Q (F0 m (pc + 3) ls (.int (xh_stopped h) :: rest))) : W p l e R s m args below meth c H locs cells slots Q (F0 m pc ls (.ref (ad 6) :: rest)) :=
  va_get (ci := 6) (v := .int (xh_stopped h)) (C := nR_Run) (T := nT_Run) (N := 10) hx hb hts nu_Run hown hK hP 6 xw_Run rfl 9 (by decide) hlink (fun _ h9 => h9) rfl hdg kk
theorem xp_Run_stopped (hx : p.tables.exec = Jvm.exec) (hb : c.code = cc) (hts : ∀ w ∈ lw_wd, w.before args s = true) (hown : s.vm.findClass own = some m.cls) (hK : va_K D vwCl (xtys cA) s) (hD : wdD 61 A ad) (hP : va_P D vwCl (xW cA ad h) H) (hS : va_S A H0 H locs) (hlink : (Cond.fieldLink own index "DrawnPaths$Run" "stopped" "I").before args s = true) (hdg : decode cc pc = .ok (.putfield index, 3)) {v : Int32} (kk : ∀ (H1 : Heap) (locs1 : List Loc), va_P D vwCl (xW cA ad (xs_stopped h v)) H1 → va_S A H0 H1 locs1 → W p l e R s m args below meth c H1 locs1 cells slots Q (F0 m (pc + 3) ls rest)) : W p l e R s m args below meth c H locs cells slots Q (F0 m pc ls (.int v :: .ref (ad 6) :: rest)) :=
  va_put (ci := 6) (v := .int v) (ty := .int) (C := nR_Run) (T := nT_Run) (N := 10) hx hb hts nu_Run nY_Run nY_Run_ok nN_Run hown hK hP (hD _) hS 6 xw_Run rfl 9 (by decide) hlink (fun _ h9 => h9) rfl (by decide +kernel) rfl rfl (Nat.le_of_ble_eq_true rfl) hdg (fun H1 locs1 hP1 _ hS1 => kk H1 locs1 (va_P_eq (wdG_set (ct' := xct cA ad (xs_stopped h v)) (by first | decide | omega) (by intro j9 hj9 hne; exact xo_stopped hne) (by exact xe_stopped)) hP1) hS1)
theorem xr_Search (hK : va_K D vwCl (xtys cA) s) (hP : va_P D vwCl (xW cA ad h) H) : ∃ cell : Cell, H[(ad 10)]? = some cell ∧ cell.vm.isStatics = false ∧ s.vm.findClass nR_Search = some cell.cls := va_recv (q := (nR_Search, nT_Search, 3)) hK hP rfl xw_Search
theorem xg_Search_marks (hx : p.tables.exec = Jvm.exec) (hb : c.code = cc) (hts : ∀ w ∈ lw_wd, w.before args s = true) (hown : s.vm.findClass own = some m.cls) (hK : va_K D vwCl (xtys cA) s) (hP : va_P D vwCl (xW cA ad h) H) (hlink : (Cond.fieldLink own index "DrawnPaths$Search" "marks" "[I").before args s = true) (hdg : decode cc pc = .ok (.getfield index, 3)) (kk : W p l e R s m args below meth c H locs cells slots Q (F0 m (pc + 3) ls (.ref (ad 11) :: rest))) : W p l e R s m args below meth c H locs cells slots Q (F0 m pc ls (.ref (ad 10) :: rest)) :=
  va_get (ci := 7) (v := .ref (ad 11)) (C := nR_Search) (T := nT_Search) (N := 3) hx hb hts nu_Search hown hK hP 10 xw_Search rfl 0 (by decide) hlink (fun _ h9 => h9) rfl hdg kk
theorem xg_Search_found (hx : p.tables.exec = Jvm.exec) (hb : c.code = cc) (hts : ∀ w ∈ lw_wd, w.before args s = true) (hown : s.vm.findClass own = some m.cls) (hK : va_K D vwCl (xtys cA) s) (hP : va_P D vwCl (xW cA ad h) H) (hlink : (Cond.fieldLink own index "DrawnPaths$Search" "found" "[I").before args s = true) (hdg : decode cc pc = .ok (.getfield index, 3)) (kk : W p l e R s m args below meth c H locs cells slots Q (F0 m (pc + 3) ls (.ref (ad 12) :: rest))) : W p l e R s m args below meth c H locs cells slots Q (F0 m pc ls (.ref (ad 10) :: rest)) :=
  va_get (ci := 7) (v := .ref (ad 12)) (C := nR_Search) (T := nT_Search) (N := 3) hx hb hts nu_Search hown hK hP 10 xw_Search rfl 1 (by decide) hlink (fun _ h9 => h9) rfl hdg kk
theorem xg_Search_size (hx : p.tables.exec = Jvm.exec) (hb : c.code = cc) (hts : ∀ w ∈ lw_wd, w.before args s = true) (hown : s.vm.findClass own = some m.cls) (hK : va_K D vwCl (xtys cA) s) (hP : va_P D vwCl (xW cA ad h) H) (hlink : (Cond.fieldLink own index "DrawnPaths$Search" "size" "I").before args s = true) (hdg : decode cc pc = .ok (.getfield index, 3)) (kk : W p l e R s m args below meth c H locs cells slots Q (F0 m (pc + 3) ls (.int (xh_ssize h) :: rest))) : W p l e R s m args below meth c H locs cells slots Q (F0 m pc ls (.ref (ad 10) :: rest)) :=
  va_get (ci := 7) (v := .int (xh_ssize h)) (C := nR_Search) (T := nT_Search) (N := 3) hx hb hts nu_Search hown hK hP 10 xw_Search rfl 2 (by decide) hlink (fun _ h9 => h9) rfl hdg kk
theorem xp_Search_size (hx : p.tables.exec = Jvm.exec) (hb : c.code = cc) (hts : ∀ w ∈ lw_wd, w.before args s = true) (hown : s.vm.findClass own = some m.cls) (hK : va_K D vwCl (xtys cA) s) (hD : wdD 61 A ad) (hP : va_P D vwCl (xW cA ad h) H) (hS : va_S A H0 H locs) (hlink : (Cond.fieldLink own index "DrawnPaths$Search" "size" "I").before args s = true) (hdg : decode cc pc = .ok (.putfield index, 3)) {v : Int32} (kk : ∀ (H1 : Heap) (locs1 : List Loc), va_P D vwCl (xW cA ad (xs_ssize h v)) H1 → va_S A H0 H1 locs1 → W p l e R s m args below meth c H1 locs1 cells slots Q (F0 m (pc + 3) ls rest)) : W p l e R s m args below meth c H locs cells slots Q (F0 m pc ls (.int v :: .ref (ad 10) :: rest)) :=
  va_put (ci := 7) (v := .int v) (ty := .int) (C := nR_Search) (T := nT_Search) (N := 3) hx hb hts nu_Search nY_Search nY_Search_ok nN_Search hown hK hP (hD _) hS 10 xw_Search rfl 2 (by decide) hlink (fun _ h9 => h9) rfl (by decide +kernel) rfl rfl (Nat.le_of_ble_eq_true rfl) hdg (fun H1 locs1 hP1 _ hS1 => kk H1 locs1 (va_P_eq (wdG_set (ct' := xct cA ad (xs_ssize h v)) (by first | decide | omega) (by intro j9 hj9 hne; exact xo_ssize hne) (by exact xe_ssize)) hP1) hS1)
theorem xal_row (hx : p.tables.exec = Jvm.exec) (hb : c.code = cc) (hK : va_K D vwCl (xtys cA) s) (hP : va_P D vwCl (xW cA ad h) H) {i : Int32} {j z : Nat} (hj : gd 30 i = some j) (hz : xh_row h j = z) (hdg : decode cc pc = .ok (.aaload, 1)) (kk : W p l e R s m args below meth c H locs cells slots Q (F0 m (pc + 1) ls (.ref (ad (z + 31)) :: rest))) : W p l e R s m args below meth c H locs cells slots Q (F0 m pc ls (.int i :: .ref (ad 2) :: rest)) := by
  obtain ⟨h1, h2, -⟩ := gd_eq hj
  exact va_aldq hx hb hK hP 2 3 xw_Row rfl h1 hdg (by rw [h2]; show W p l e R s m args below meth c H locs cells slots Q (F0 m (pc + 1) ls (.ref (ad (xh_row h j + 31)) :: rest)); rw [hz]; exact kk)
theorem xas_row (hx : p.tables.exec = Jvm.exec) (hb : c.code = cc) (hK : va_K D vwCl (xtys cA) s) (hD : wdD 61 A ad) (hP : va_P D vwCl (xW cA ad h) H) (hS : va_S A H0 H locs) {i : Int32} {j : Nat} {v : Nat} (hj : gd 30 i = some j) (hv : v < 30) (hdg : decode cc pc = .ok (.aastore, 1)) (kk : ∀ (H1 : Heap) (locs1 : List Loc), va_P D vwCl (xW cA ad (xs_row h j v)) H1 → va_S A H0 H1 locs1 → W p l e R s m args below meth c H1 locs1 cells slots Q (F0 m (pc + 1) ls rest)) : W p l e R s m args below meth c H locs cells slots Q (F0 m pc ls (.ref (ad (v + 31)) :: .int i :: .ref (ad 2) :: rest)) := by
  obtain ⟨h1, h2, -⟩ := gd_eq hj
  subst h2
  exact va_astq hx hb hK hP (hD _) hS 2 3 (v + 31) 1 xw_Row rfl (xw_Block hv) rfl h1 hdg (fun H1 locs1 hP1 _ hS1 => kk H1 locs1 (va_P_eq (wdG_set (ct' := xct cA ad (xs_row h i.toNatClampNeg v)) (by first | decide | omega) (by intro j9 hj9 hne; exact xo_row hne) (by exact xe_row)) hP1) hS1)
theorem xln_row (hx : p.tables.exec = Jvm.exec) (hb : c.code = cc) (hK : va_K D vwCl (xtys cA) s) (hP : va_P D vwCl (xW cA ad h) H) (hdg : decode cc pc = .ok (.arraylength, 1)) (kk : W p l e R s m args below meth c H locs cells slots Q (F0 m (pc + 1) ls (.int (nI 30) :: rest))) : W p l e R s m args below meth c H locs cells slots Q (F0 m pc ls (.ref (ad 2) :: rest)) := va_alen hx hb hK hP 2 3 xw_Row rfl rfl hdg kk
theorem xal_ptrs (hx : p.tables.exec = Jvm.exec) (hb : c.code = cc) (hK : va_K D vwCl (xtys cA) s) (hP : va_P D vwCl (xW cA ad h) H) {i : Int32} {j z : Nat} (hj : gd 4 i = some j) (hz : xh_ptrs h j = z) (hdg : decode cc pc = .ok (.aaload, 1)) (kk : W p l e R s m args below meth c H locs cells slots Q (F0 m (pc + 1) ls (.ref (ad (z + 19)) :: rest))) : W p l e R s m args below meth c H locs cells slots Q (F0 m pc ls (.int i :: .ref (ad 7) :: rest)) := by
  obtain ⟨h1, h2, -⟩ := gd_eq hj
  exact va_aldq hx hb hK hP 7 4 xw_PArr rfl h1 hdg (by rw [h2]; show W p l e R s m args below meth c H locs cells slots Q (F0 m (pc + 1) ls (.ref (ad (xh_ptrs h j + 19)) :: rest)); rw [hz]; exact kk)
theorem xas_ptrs (hx : p.tables.exec = Jvm.exec) (hb : c.code = cc) (hK : va_K D vwCl (xtys cA) s) (hD : wdD 61 A ad) (hP : va_P D vwCl (xW cA ad h) H) (hS : va_S A H0 H locs) {i : Int32} {j : Nat} {v : Nat} (hj : gd 4 i = some j) (hv : v < 4) (hdg : decode cc pc = .ok (.aastore, 1)) (kk : ∀ (H1 : Heap) (locs1 : List Loc), va_P D vwCl (xW cA ad (xs_ptrs h j v)) H1 → va_S A H0 H1 locs1 → W p l e R s m args below meth c H1 locs1 cells slots Q (F0 m (pc + 1) ls rest)) : W p l e R s m args below meth c H locs cells slots Q (F0 m pc ls (.ref (ad (v + 19)) :: .int i :: .ref (ad 7) :: rest)) := by
  obtain ⟨h1, h2, -⟩ := gd_eq hj
  subst h2
  exact va_astq hx hb hK hP (hD _) hS 7 4 (v + 19) 5 xw_PArr rfl (xw_Pointer hv) rfl h1 hdg (fun H1 locs1 hP1 _ hS1 => kk H1 locs1 (va_P_eq (wdG_set (ct' := xct cA ad (xs_ptrs h i.toNatClampNeg v)) (by first | decide | omega) (by intro j9 hj9 hne; exact xo_ptrs hne) (by exact xe_ptrs)) hP1) hS1)
theorem xln_ptrs (hx : p.tables.exec = Jvm.exec) (hb : c.code = cc) (hK : va_K D vwCl (xtys cA) s) (hP : va_P D vwCl (xW cA ad h) H) (hdg : decode cc pc = .ok (.arraylength, 1)) (kk : W p l e R s m args below meth c H locs cells slots Q (F0 m (pc + 1) ls (.int (nI 4) :: rest))) : W p l e R s m args below meth c H locs cells slots Q (F0 m pc ls (.ref (ad 7) :: rest)) := va_alen hx hb hK hP 7 4 xw_PArr rfl rfl hdg kk
theorem xal_bmarks (hx : p.tables.exec = Jvm.exec) (hb : c.code = cc) (hK : va_K D vwCl (xtys cA) s) (hP : va_P D vwCl (xW cA ad h) H) {i : Int32} {j : Nat} (hj : gd 96 i = some j) (hdg : decode cc pc = .ok (.iaload, 1)) (kk : W p l e R s m args below meth c H locs cells slots Q (F0 m (pc + 1) ls (.int (xh_bmarks h j) :: rest))) : W p l e R s m args below meth c H locs cells slots Q (F0 m pc ls (.int i :: .ref (ad 3) :: rest)) := by
  obtain ⟨h1, h2, -⟩ := gd_eq hj
  exact va_iald hx hb hK hP 3 0 xw_BMarks rfl h1 hdg (by rw [h2]; exact kk)
theorem xas_bmarks (hx : p.tables.exec = Jvm.exec) (hb : c.code = cc) (hK : va_K D vwCl (xtys cA) s) (hD : wdD 61 A ad) (hP : va_P D vwCl (xW cA ad h) H) (hS : va_S A H0 H locs) {i : Int32} {j : Nat} {v : Int32} (hj : gd 96 i = some j) (hdg : decode cc pc = .ok (.iastore, 1)) (kk : ∀ (H1 : Heap) (locs1 : List Loc), va_P D vwCl (xW cA ad (xs_bmarks h j v)) H1 → va_S A H0 H1 locs1 → W p l e R s m args below meth c H1 locs1 cells slots Q (F0 m (pc + 1) ls rest)) : W p l e R s m args below meth c H locs cells slots Q (F0 m pc ls (.int v :: .int i :: .ref (ad 3) :: rest)) := by
  obtain ⟨h1, h2, -⟩ := gd_eq hj
  subst h2
  exact va_iast hx hb hK hP (hD _) hS 3 0 xw_BMarks rfl h1 hdg (fun H1 locs1 hP1 _ hS1 => kk H1 locs1 (va_P_eq (wdG_set (ct' := xct cA ad (xs_bmarks h i.toNatClampNeg v)) (by first | decide | omega) (by intro j9 hj9 hne; exact xo_bmarks hne) (by exact xe_bmarks)) hP1) hS1)
theorem xln_bmarks (hx : p.tables.exec = Jvm.exec) (hb : c.code = cc) (hK : va_K D vwCl (xtys cA) s) (hP : va_P D vwCl (xW cA ad h) H) (hdg : decode cc pc = .ok (.arraylength, 1)) (kk : W p l e R s m args below meth c H locs cells slots Q (F0 m (pc + 1) ls (.int (nI 96) :: rest))) : W p l e R s m args below meth c H locs cells slots Q (F0 m pc ls (.ref (ad 3) :: rest)) := va_alen hx hb hK hP 3 0 xw_BMarks rfl rfl hdg kk
theorem xal_signs (hx : p.tables.exec = Jvm.exec) (hb : c.code = cc) (hK : va_K D vwCl (xtys cA) s) (hP : va_P D vwCl (xW cA ad h) H) {i : Int32} {j : Nat} (hj : gd 96 i = some j) (hdg : decode cc pc = .ok (.caload, 1)) (kk : W p l e R s m args below meth c H locs cells slots Q (F0 m (pc + 1) ls (.int (xh_signs h j) :: rest))) : W p l e R s m args below meth c H locs cells slots Q (F0 m pc ls (.int i :: .ref (ad 5) :: rest)) := by
  obtain ⟨h1, h2, -⟩ := gd_eq hj
  exact va_cald hx hb hK hP 5 1 xw_Signs rfl h1 hdg (by rw [h2]; exact kk)
theorem xas_signs (hx : p.tables.exec = Jvm.exec) (hb : c.code = cc) (hK : va_K D vwCl (xtys cA) s) (hD : wdD 61 A ad) (hP : va_P D vwCl (xW cA ad h) H) (hS : va_S A H0 H locs) {i : Int32} {j : Nat} {v : Int32} (hj : gd 96 i = some j) (hdg : decode cc pc = .ok (.castore, 1)) (kk : ∀ (H1 : Heap) (locs1 : List Loc), va_P D vwCl (xW cA ad (xs_signs h j (vp_nar .char v))) H1 → va_S A H0 H1 locs1 → W p l e R s m args below meth c H1 locs1 cells slots Q (F0 m (pc + 1) ls rest)) : W p l e R s m args below meth c H locs cells slots Q (F0 m pc ls (.int v :: .int i :: .ref (ad 5) :: rest)) := by
  obtain ⟨h1, h2, -⟩ := gd_eq hj
  subst h2
  exact va_cast hx hb hK hP (hD _) hS 5 1 xw_Signs rfl h1 hdg (fun H1 locs1 hP1 _ hS1 => kk H1 locs1 (va_P_eq (wdG_set (ct' := xct cA ad (xs_signs h i.toNatClampNeg (vp_nar .char v))) (by first | decide | omega) (by intro j9 hj9 hne; exact xo_signs hne) (by exact xe_signs)) hP1) hS1)
theorem xln_signs (hx : p.tables.exec = Jvm.exec) (hb : c.code = cc) (hK : va_K D vwCl (xtys cA) s) (hP : va_P D vwCl (xW cA ad h) H) (hdg : decode cc pc = .ok (.arraylength, 1)) (kk : W p l e R s m args below meth c H locs cells slots Q (F0 m (pc + 1) ls (.int (nI 96) :: rest))) : W p l e R s m args below meth c H locs cells slots Q (F0 m pc ls (.ref (ad 5) :: rest)) := va_alen hx hb hK hP 5 1 xw_Signs rfl rfl hdg kk
theorem xal_innums (hx : p.tables.exec = Jvm.exec) (hb : c.code = cc) (hK : va_K D vwCl (xtys cA) s) (hP : va_P D vwCl (xW cA ad h) H) {i : Int32} {j : Nat} (hj : gd 40 i = some j) (hdg : decode cc pc = .ok (.laload, 1)) (kk : W p l e R s m args below meth c H locs cells slots Q (F0 m (pc + 1) ls (.long (xh_innums h j) :: rest))) : W p l e R s m args below meth c H locs cells slots Q (F0 m pc ls (.int i :: .ref (ad 8) :: rest)) := by
  obtain ⟨h1, h2, -⟩ := gd_eq hj
  exact va_lald hx hb hK hP 8 2 xw_InNums rfl h1 hdg (by rw [h2]; exact kk)
theorem xas_innums (hx : p.tables.exec = Jvm.exec) (hb : c.code = cc) (hK : va_K D vwCl (xtys cA) s) (hD : wdD 61 A ad) (hP : va_P D vwCl (xW cA ad h) H) (hS : va_S A H0 H locs) {i : Int32} {j : Nat} {v : Int64} (hj : gd 40 i = some j) (hdg : decode cc pc = .ok (.lastore, 1)) (kk : ∀ (H1 : Heap) (locs1 : List Loc), va_P D vwCl (xW cA ad (xs_innums h j v)) H1 → va_S A H0 H1 locs1 → W p l e R s m args below meth c H1 locs1 cells slots Q (F0 m (pc + 1) ls rest)) : W p l e R s m args below meth c H locs cells slots Q (F0 m pc ls (.long v :: .int i :: .ref (ad 8) :: rest)) := by
  obtain ⟨h1, h2, -⟩ := gd_eq hj
  subst h2
  exact va_last hx hb hK hP (hD _) hS 8 2 xw_InNums rfl h1 hdg (fun H1 locs1 hP1 _ hS1 => kk H1 locs1 (va_P_eq (wdG_set (ct' := xct cA ad (xs_innums h i.toNatClampNeg v)) (by first | decide | omega) (by intro j9 hj9 hne; exact xo_innums hne) (by exact xe_innums)) hP1) hS1)
theorem xln_innums (hx : p.tables.exec = Jvm.exec) (hb : c.code = cc) (hK : va_K D vwCl (xtys cA) s) (hP : va_P D vwCl (xW cA ad h) H) (hdg : decode cc pc = .ok (.arraylength, 1)) (kk : W p l e R s m args below meth c H locs cells slots Q (F0 m (pc + 1) ls (.int (nI 40) :: rest))) : W p l e R s m args below meth c H locs cells slots Q (F0 m pc ls (.ref (ad 8) :: rest)) := va_alen hx hb hK hP 8 2 xw_InNums rfl rfl hdg kk
theorem xal_digits (hx : p.tables.exec = Jvm.exec) (hb : c.code = cc) (hK : va_K D vwCl (xtys cA) s) (hP : va_P D vwCl (xW cA ad h) H) {i : Int32} {j : Nat} (hj : gd 20 i = some j) (hdg : decode cc pc = .ok (.caload, 1)) (kk : W p l e R s m args below meth c H locs cells slots Q (F0 m (pc + 1) ls (.int (xh_digits h j) :: rest))) : W p l e R s m args below meth c H locs cells slots Q (F0 m pc ls (.int i :: .ref (ad 9) :: rest)) := by
  obtain ⟨h1, h2, -⟩ := gd_eq hj
  exact va_cald hx hb hK hP 9 1 xw_Digits rfl h1 hdg (by rw [h2]; exact kk)
theorem xas_digits (hx : p.tables.exec = Jvm.exec) (hb : c.code = cc) (hK : va_K D vwCl (xtys cA) s) (hD : wdD 61 A ad) (hP : va_P D vwCl (xW cA ad h) H) (hS : va_S A H0 H locs) {i : Int32} {j : Nat} {v : Int32} (hj : gd 20 i = some j) (hdg : decode cc pc = .ok (.castore, 1)) (kk : ∀ (H1 : Heap) (locs1 : List Loc), va_P D vwCl (xW cA ad (xs_digits h j (vp_nar .char v))) H1 → va_S A H0 H1 locs1 → W p l e R s m args below meth c H1 locs1 cells slots Q (F0 m (pc + 1) ls rest)) : W p l e R s m args below meth c H locs cells slots Q (F0 m pc ls (.int v :: .int i :: .ref (ad 9) :: rest)) := by
  obtain ⟨h1, h2, -⟩ := gd_eq hj
  subst h2
  exact va_cast hx hb hK hP (hD _) hS 9 1 xw_Digits rfl h1 hdg (fun H1 locs1 hP1 _ hS1 => kk H1 locs1 (va_P_eq (wdG_set (ct' := xct cA ad (xs_digits h i.toNatClampNeg (vp_nar .char v))) (by first | decide | omega) (by intro j9 hj9 hne; exact xo_digits hne) (by exact xe_digits)) hP1) hS1)
theorem xln_digits (hx : p.tables.exec = Jvm.exec) (hb : c.code = cc) (hK : va_K D vwCl (xtys cA) s) (hP : va_P D vwCl (xW cA ad h) H) (hdg : decode cc pc = .ok (.arraylength, 1)) (kk : W p l e R s m args below meth c H locs cells slots Q (F0 m (pc + 1) ls (.int (nI 20) :: rest))) : W p l e R s m args below meth c H locs cells slots Q (F0 m pc ls (.ref (ad 9) :: rest)) := va_alen hx hb hK hP 9 1 xw_Digits rfl rfl hdg kk
theorem xal_smarks (hx : p.tables.exec = Jvm.exec) (hb : c.code = cc) (hK : va_K D vwCl (xtys cA) s) (hP : va_P D vwCl (xW cA ad h) H) {i : Int32} {j : Nat} (hj : gd 96 i = some j) (hdg : decode cc pc = .ok (.iaload, 1)) (kk : W p l e R s m args below meth c H locs cells slots Q (F0 m (pc + 1) ls (.int (xh_smarks h j) :: rest))) : W p l e R s m args below meth c H locs cells slots Q (F0 m pc ls (.int i :: .ref (ad 11) :: rest)) := by
  obtain ⟨h1, h2, -⟩ := gd_eq hj
  exact va_iald hx hb hK hP 11 0 xw_SMarks rfl h1 hdg (by rw [h2]; exact kk)
theorem xas_smarks (hx : p.tables.exec = Jvm.exec) (hb : c.code = cc) (hK : va_K D vwCl (xtys cA) s) (hD : wdD 61 A ad) (hP : va_P D vwCl (xW cA ad h) H) (hS : va_S A H0 H locs) {i : Int32} {j : Nat} {v : Int32} (hj : gd 96 i = some j) (hdg : decode cc pc = .ok (.iastore, 1)) (kk : ∀ (H1 : Heap) (locs1 : List Loc), va_P D vwCl (xW cA ad (xs_smarks h j v)) H1 → va_S A H0 H1 locs1 → W p l e R s m args below meth c H1 locs1 cells slots Q (F0 m (pc + 1) ls rest)) : W p l e R s m args below meth c H locs cells slots Q (F0 m pc ls (.int v :: .int i :: .ref (ad 11) :: rest)) := by
  obtain ⟨h1, h2, -⟩ := gd_eq hj
  subst h2
  exact va_iast hx hb hK hP (hD _) hS 11 0 xw_SMarks rfl h1 hdg (fun H1 locs1 hP1 _ hS1 => kk H1 locs1 (va_P_eq (wdG_set (ct' := xct cA ad (xs_smarks h i.toNatClampNeg v)) (by first | decide | omega) (by intro j9 hj9 hne; exact xo_smarks hne) (by exact xe_smarks)) hP1) hS1)
theorem xln_smarks (hx : p.tables.exec = Jvm.exec) (hb : c.code = cc) (hK : va_K D vwCl (xtys cA) s) (hP : va_P D vwCl (xW cA ad h) H) (hdg : decode cc pc = .ok (.arraylength, 1)) (kk : W p l e R s m args below meth c H locs cells slots Q (F0 m (pc + 1) ls (.int (nI 96) :: rest))) : W p l e R s m args below meth c H locs cells slots Q (F0 m pc ls (.ref (ad 11) :: rest)) := va_alen hx hb hK hP 11 0 xw_SMarks rfl rfl hdg kk
theorem xal_sfound (hx : p.tables.exec = Jvm.exec) (hb : c.code = cc) (hK : va_K D vwCl (xtys cA) s) (hP : va_P D vwCl (xW cA ad h) H) {i : Int32} {j : Nat} (hj : gd 768 i = some j) (hdg : decode cc pc = .ok (.iaload, 1)) (kk : W p l e R s m args below meth c H locs cells slots Q (F0 m (pc + 1) ls (.int (xh_sfound h j) :: rest))) : W p l e R s m args below meth c H locs cells slots Q (F0 m pc ls (.int i :: .ref (ad 12) :: rest)) := by
  obtain ⟨h1, h2, -⟩ := gd_eq hj
  exact va_iald hx hb hK hP 12 0 xw_SFound rfl h1 hdg (by rw [h2]; exact kk)
theorem xas_sfound (hx : p.tables.exec = Jvm.exec) (hb : c.code = cc) (hK : va_K D vwCl (xtys cA) s) (hD : wdD 61 A ad) (hP : va_P D vwCl (xW cA ad h) H) (hS : va_S A H0 H locs) {i : Int32} {j : Nat} {v : Int32} (hj : gd 768 i = some j) (hdg : decode cc pc = .ok (.iastore, 1)) (kk : ∀ (H1 : Heap) (locs1 : List Loc), va_P D vwCl (xW cA ad (xs_sfound h j v)) H1 → va_S A H0 H1 locs1 → W p l e R s m args below meth c H1 locs1 cells slots Q (F0 m (pc + 1) ls rest)) : W p l e R s m args below meth c H locs cells slots Q (F0 m pc ls (.int v :: .int i :: .ref (ad 12) :: rest)) := by
  obtain ⟨h1, h2, -⟩ := gd_eq hj
  subst h2
  exact va_iast hx hb hK hP (hD _) hS 12 0 xw_SFound rfl h1 hdg (fun H1 locs1 hP1 _ hS1 => kk H1 locs1 (va_P_eq (wdG_set (ct' := xct cA ad (xs_sfound h i.toNatClampNeg v)) (by first | decide | omega) (by intro j9 hj9 hne; exact xo_sfound hne) (by exact xe_sfound)) hP1) hS1)
theorem xln_sfound (hx : p.tables.exec = Jvm.exec) (hb : c.code = cc) (hK : va_K D vwCl (xtys cA) s) (hP : va_P D vwCl (xW cA ad h) H) (hdg : decode cc pc = .ok (.arraylength, 1)) (kk : W p l e R s m args below meth c H locs cells slots Q (F0 m (pc + 1) ls (.int (nI 768) :: rest))) : W p l e R s m args below meth c H locs cells slots Q (F0 m pc ls (.ref (ad 12) :: rest)) := va_alen hx hb hK hP 12 0 xw_SFound rfl rfl hdg kk
theorem xal_lchars (hx : p.tables.exec = Jvm.exec) (hb : c.code = cc) (hK : va_K D vwCl (xtys cA) s) (hP : va_P D vwCl (xW cA ad h) H) {k : Nat} (hk : k < 3) {i : Int32} {j : Nat} (hj : gd (xh_cap k) i = some j) (hdg : decode cc pc = .ok (.caload, 1)) (kk : W p l e R s m args below meth c H locs cells slots Q (F0 m (pc + 1) ls (.int (xh_lchars h k j) :: rest))) : W p l e R s m args below meth c H locs cells slots Q (F0 m pc ls (.int i :: .ref (ad (k + 16)) :: rest)) := by
  obtain ⟨h1, h2, -⟩ := gd_eq hj
  exact va_cald hx hb hK hP (k + 16) 1 (xw_LineCh hk) rfl h1 hdg (by rw [h2]; exact kk)
theorem xas_lchars (hx : p.tables.exec = Jvm.exec) (hb : c.code = cc) (hK : va_K D vwCl (xtys cA) s) (hD : wdD 61 A ad) (hP : va_P D vwCl (xW cA ad h) H) (hS : va_S A H0 H locs) {k : Nat} (hk : k < 3) {i : Int32} {j : Nat} {v : Int32} (hj : gd (xh_cap k) i = some j) (hdg : decode cc pc = .ok (.castore, 1)) (kk : ∀ (H1 : Heap) (locs1 : List Loc), va_P D vwCl (xW cA ad (xs_lchars h k j (vp_nar .char v))) H1 → va_S A H0 H1 locs1 → W p l e R s m args below meth c H1 locs1 cells slots Q (F0 m (pc + 1) ls rest)) : W p l e R s m args below meth c H locs cells slots Q (F0 m pc ls (.int v :: .int i :: .ref (ad (k + 16)) :: rest)) := by
  obtain ⟨h1, h2, -⟩ := gd_eq hj
  subst h2
  exact va_cast hx hb hK hP (hD _) hS (k + 16) 1 (xw_LineCh hk) rfl h1 hdg (fun H1 locs1 hP1 _ hS1 => kk H1 locs1 (va_P_eq (wdG_set (ct' := xct cA ad (xs_lchars h k i.toNatClampNeg (vp_nar .char v))) (by first | decide | omega) (by intro j9 hj9 hne; exact xo_lchars hne) (by exact xe_lchars hk)) hP1) hS1)
theorem xcp_lchars {nL : Nat} (hx : p.tables.exec = Jvm.exec) (hb : c.code = cc) (hml : c.maxLocals = nL) (hz : ls.size = nL) (hown : s.vm.findClass own = some m.cls) (hts : ∀ w ∈ lw_wd, w.before args s = true) (hlink : (Cond.methodLink own index arraycopyName).before args s = true) (hK : va_K D vwCl (xtys cA) s) (hD : wdD 61 A ad) (hP : va_P D vwCl (xW cA ad h) H) (hS : va_S A H0 H locs) {k1 k : Nat} (hk1 : k1 < 3) (hk : k < 3) {sp dp n : Int32} {j : Nat × Nat × Nat} (hj : gc (xh_cap k1) (xh_cap k) (xh_lchars h k1) sp dp n = some j) (hR : 1 ≤ R.frames ∧ 60 ≤ R.locals) (hro : (rest.map fun v => v.category).sum ≤ 8) (hdg : decode cc pc = .ok (.invokestatic index, 3)) (kk : ∀ (H1 : Heap) (locs1 : List Loc), va_P D vwCl (xW cA ad (xc_lchars h k (va_cpy (xh_lchars h k1) (xh_lchars h k) j.1 j.2.1 j.2.2))) H1 → va_S A H0 H1 locs1 → W p l e R s m args below meth c H1 locs1 cells slots Q (F0 m (pc + 3) ls rest)) : W p l e R s m args below meth c H locs cells slots Q (F0 m pc ls (.int n :: .int dp :: .ref (ad (k + 16)) :: .int sp :: .ref (ad (k1 + 16)) :: rest)) := by
  obtain ⟨h1, h2, h3, h4, h5, h6, rfl⟩ := gc_eq hj
  have hw : nativeFrameWords "java/lang/System" "arraycopy" 5 = 7 := by decide
  exact va_copyi hx hb (hml.trans hz.symm) hown hlink (hts _ nw_338) (hts _ nw_337) (hts _ nw_18) hK hP (hD _) hS (k1 + 16) (k + 16) 1 1 (xw_LineCh hk1) (xw_LineCh hk) rfl rfl rfl h1 h2 h3 h4 h5 h6 hR.1 (by rw [hw]; omega) hdg (fun H1 locs1 hP1 _ hS1 => kk H1 locs1 (va_P_eq (wdG_set (ct' := xct cA ad (xc_lchars h k (va_cpy (xh_lchars h k1) (xh_lchars h k) sp.toNatClampNeg dp.toNatClampNeg n.toNatClampNeg))) (by omega) (by intro j9 hj9 hne; exact xoc_lchars hne) (by exact xec_lchars hk)) hP1) hS1)
theorem xln_lchars (hx : p.tables.exec = Jvm.exec) (hb : c.code = cc) (hK : va_K D vwCl (xtys cA) s) (hP : va_P D vwCl (xW cA ad h) H) {k : Nat} (hk : k < 3) (hdg : decode cc pc = .ok (.arraylength, 1)) (kk : W p l e R s m args below meth c H locs cells slots Q (F0 m (pc + 1) ls (.int (nI (xh_cap k)) :: rest))) : W p l e R s m args below meth c H locs cells slots Q (F0 m pc ls (.ref (ad (k + 16)) :: rest)) := va_alen hx hb hK hP (k + 16) 1 (xw_LineCh hk) rfl rfl hdg kk
theorem xal_pnums (hx : p.tables.exec = Jvm.exec) (hb : c.code = cc) (hK : va_K D vwCl (xtys cA) s) (hP : va_P D vwCl (xW cA ad h) H) {k : Nat} (hk : k < 4) {i : Int32} {j : Nat} (hj : gd 24 i = some j) (hdg : decode cc pc = .ok (.laload, 1)) (kk : W p l e R s m args below meth c H locs cells slots Q (F0 m (pc + 1) ls (.long (xh_pnums h k j) :: rest))) : W p l e R s m args below meth c H locs cells slots Q (F0 m pc ls (.int i :: .ref (ad (k + 23)) :: rest)) := by
  obtain ⟨h1, h2, -⟩ := gd_eq hj
  exact va_lald hx hb hK hP (k + 23) 2 (xw_PNums hk) rfl h1 hdg (by rw [h2]; exact kk)
theorem xas_pnums (hx : p.tables.exec = Jvm.exec) (hb : c.code = cc) (hK : va_K D vwCl (xtys cA) s) (hD : wdD 61 A ad) (hP : va_P D vwCl (xW cA ad h) H) (hS : va_S A H0 H locs) {k : Nat} (hk : k < 4) {i : Int32} {j : Nat} {v : Int64} (hj : gd 24 i = some j) (hdg : decode cc pc = .ok (.lastore, 1)) (kk : ∀ (H1 : Heap) (locs1 : List Loc), va_P D vwCl (xW cA ad (xs_pnums h k j v)) H1 → va_S A H0 H1 locs1 → W p l e R s m args below meth c H1 locs1 cells slots Q (F0 m (pc + 1) ls rest)) : W p l e R s m args below meth c H locs cells slots Q (F0 m pc ls (.long v :: .int i :: .ref (ad (k + 23)) :: rest)) := by
  obtain ⟨h1, h2, -⟩ := gd_eq hj
  subst h2
  exact va_last hx hb hK hP (hD _) hS (k + 23) 2 (xw_PNums hk) rfl h1 hdg (fun H1 locs1 hP1 _ hS1 => kk H1 locs1 (va_P_eq (wdG_set (ct' := xct cA ad (xs_pnums h k i.toNatClampNeg v)) (by first | decide | omega) (by intro j9 hj9 hne; exact xo_pnums hne) (by exact xe_pnums hk)) hP1) hS1)
theorem xln_pnums (hx : p.tables.exec = Jvm.exec) (hb : c.code = cc) (hK : va_K D vwCl (xtys cA) s) (hP : va_P D vwCl (xW cA ad h) H) {k : Nat} (hk : k < 4) (hdg : decode cc pc = .ok (.arraylength, 1)) (kk : W p l e R s m args below meth c H locs cells slots Q (F0 m (pc + 1) ls (.int (nI 24) :: rest))) : W p l e R s m args below meth c H locs cells slots Q (F0 m pc ls (.ref (ad (k + 23)) :: rest)) := va_alen hx hb hK hP (k + 23) 2 (xw_PNums hk) rfl rfl hdg kk
theorem xal_prets (hx : p.tables.exec = Jvm.exec) (hb : c.code = cc) (hK : va_K D vwCl (xtys cA) s) (hP : va_P D vwCl (xW cA ad h) H) {k : Nat} (hk : k < 4) {i : Int32} {j : Nat} (hj : gd 8 i = some j) (hdg : decode cc pc = .ok (.iaload, 1)) (kk : W p l e R s m args below meth c H locs cells slots Q (F0 m (pc + 1) ls (.int (xh_prets h k j) :: rest))) : W p l e R s m args below meth c H locs cells slots Q (F0 m pc ls (.int i :: .ref (ad (k + 27)) :: rest)) := by
  obtain ⟨h1, h2, -⟩ := gd_eq hj
  exact va_iald hx hb hK hP (k + 27) 0 (xw_PRets hk) rfl h1 hdg (by rw [h2]; exact kk)
theorem xas_prets (hx : p.tables.exec = Jvm.exec) (hb : c.code = cc) (hK : va_K D vwCl (xtys cA) s) (hD : wdD 61 A ad) (hP : va_P D vwCl (xW cA ad h) H) (hS : va_S A H0 H locs) {k : Nat} (hk : k < 4) {i : Int32} {j : Nat} {v : Int32} (hj : gd 8 i = some j) (hdg : decode cc pc = .ok (.iastore, 1)) (kk : ∀ (H1 : Heap) (locs1 : List Loc), va_P D vwCl (xW cA ad (xs_prets h k j v)) H1 → va_S A H0 H1 locs1 → W p l e R s m args below meth c H1 locs1 cells slots Q (F0 m (pc + 1) ls rest)) : W p l e R s m args below meth c H locs cells slots Q (F0 m pc ls (.int v :: .int i :: .ref (ad (k + 27)) :: rest)) := by
  obtain ⟨h1, h2, -⟩ := gd_eq hj
  subst h2
  exact va_iast hx hb hK hP (hD _) hS (k + 27) 0 (xw_PRets hk) rfl h1 hdg (fun H1 locs1 hP1 _ hS1 => kk H1 locs1 (va_P_eq (wdG_set (ct' := xct cA ad (xs_prets h k i.toNatClampNeg v)) (by first | decide | omega) (by intro j9 hj9 hne; exact xo_prets hne) (by exact xe_prets hk)) hP1) hS1)
theorem xln_prets (hx : p.tables.exec = Jvm.exec) (hb : c.code = cc) (hK : va_K D vwCl (xtys cA) s) (hP : va_P D vwCl (xW cA ad h) H) {k : Nat} (hk : k < 4) (hdg : decode cc pc = .ok (.arraylength, 1)) (kk : W p l e R s m args below meth c H locs cells slots Q (F0 m (pc + 1) ls (.int (nI 8) :: rest))) : W p l e R s m args below meth c H locs cells slots Q (F0 m pc ls (.ref (ad (k + 27)) :: rest)) := va_alen hx hb hK hP (k + 27) 0 (xw_PRets hk) rfl rfl hdg kk
end XR
end
section
theorem kb_Field_wipe {R : Room} {s : State} {args : Array Value} (hts : ∀ w ∈ lw_wd, w.before args s = true) {own : String} {index : Nat} (hl : (Cond.methodLink own index ny_Field_wipe).before args s = true) (hR : 0 + 1 ≤ R.frames ∧ 8 + (2 + 11) + 0 ≤ R.locals) : CallW R s args own "DrawnPaths$Field" index ny_Field_wipe prog_4_method_3_code 2 none (wsO ny_Field_wipe prog_4_method_3_code 2 none) (rmO 0 0) 0 0 0 := ⟨callB_of 0 hts (wsO_good nw_85) rfl rfl rfl (hts _ nw_4) hl (by decide +kernel) hR, hts _ nw_83, hts _ nw_84⟩
theorem kb_P_placeAt {R : Room} {s : State} {args : Array Value} (hts : ∀ w ∈ lw_wd, w.before args s = true) {own : String} {index : Nat} (hl : (Cond.methodLink own index ny_P_placeAt).before args s = true) (hR : 6 + 1 ≤ R.frames ∧ 8 + (2 + 11) + 100 ≤ R.locals) : CallB R s args own index ny_P_placeAt prog_1_method_22_code 2 (some .int) (wsO ny_P_placeAt prog_1_method_22_code 2 (some .int)) (rmO 6 100) 0 0 2 ∧ (Cond.static ny_P_placeAt).before args s = true := ⟨callB_of 2 hts (wsO_good nw_362) rfl rfl rfl (hts _ nw_1) hl (by decide +kernel) hR, hts _ nw_361⟩
theorem kb_P_isSign {R : Room} {s : State} {args : Array Value} (hts : ∀ w ∈ lw_wd, w.before args s = true) {own : String} {index : Nat} (hl : (Cond.methodLink own index ny_P_isSign).before args s = true) (hR : 0 + 1 ≤ R.frames ∧ 8 + (1 + 11) + 0 ≤ R.locals) : CallB R s args own index ny_P_isSign prog_1_method_25_code 1 (some .boolean) (wsO ny_P_isSign prog_1_method_25_code 1 (some .boolean)) (rmO 0 0) 0 0 1 ∧ (Cond.static ny_P_isSign).before args s = true := ⟨callB_of 1 hts (wsO_good nw_228) rfl rfl rfl (hts _ nw_1) hl (by decide +kernel) hR, hts _ nw_227⟩
theorem kb_Block_isOver {R : Room} {s : State} {args : Array Value} (hts : ∀ w ∈ lw_wd, w.before args s = true) {own : String} {index : Nat} (hl : (Cond.methodLink own index ny_Block_isOver).before args s = true) (hR : 0 + 1 ≤ R.frames ∧ 8 + (4 + 11) + 0 ≤ R.locals) : CallW R s args own "DrawnPaths$Block" index ny_Block_isOver prog_2_method_2_code 4 (some .boolean) (wsO ny_Block_isOver prog_2_method_2_code 4 (some .boolean)) (rmO 0 0) 0 0 1 := ⟨callB_of 1 hts (wsO_good nw_458) rfl rfl rfl (hts _ nw_3) hl (by decide +kernel) hR, hts _ nw_456, hts _ nw_457⟩
theorem kb_Blocks_drop {R : Room} {s : State} {args : Array Value} (hts : ∀ w ∈ lw_wd, w.before args s = true) {own : String} {index : Nat} (hl : (Cond.methodLink own index ny_Blocks_drop).before args s = true) (hR : 1 + 1 ≤ R.frames ∧ 8 + (6 + 11) + 23 ≤ R.locals) : CallW R s args own "DrawnPaths$Blocks" index ny_Blocks_drop prog_3_method_4_code 6 none (wsO ny_Blocks_drop prog_3_method_4_code 6 none) (rmO 1 23) 0 0 1 := ⟨callB_of 1 hts (wsO_good nw_454) rfl rfl rfl (hts _ nw_2) hl (by decide +kernel) hR, hts _ nw_452, hts _ nw_453⟩
theorem kb_Field_write {R : Room} {s : State} {args : Array Value} (hts : ∀ w ∈ lw_wd, w.before args s = true) {own : String} {index : Nat} (hl : (Cond.methodLink own index ny_Field_write).before args s = true) (hR : 2 + 1 ≤ R.frames ∧ 8 + (3 + 11) + 48 ≤ R.locals) : CallW R s args own "DrawnPaths$Field" index ny_Field_write prog_4_method_2_code 3 none (wsO ny_Field_write prog_4_method_2_code 3 none) (rmO 2 48) 0 0 2 := ⟨callB_of 2 hts (wsO_good nw_450) rfl rfl rfl (hts _ nw_4) hl (by decide +kernel) hR, hts _ nw_448, hts _ nw_449⟩
theorem kb_Line_hasRoom {R : Room} {s : State} {args : Array Value} (hts : ∀ w ∈ lw_wd, w.before args s = true) {own : String} {index : Nat} (hl : (Cond.methodLink own index ny_Line_hasRoom).before args s = true) (hR : 0 + 1 ≤ R.frames ∧ 8 + (2 + 11) + 0 ≤ R.locals) : CallW R s args own "DrawnPaths$Line" index ny_Line_hasRoom prog_5_method_2_code 2 (some .boolean) (wsO ny_Line_hasRoom prog_5_method_2_code 2 (some .boolean)) (rmO 0 0) 0 0 1 := ⟨callB_of 1 hts (wsO_good nw_232) rfl rfl rfl (hts _ nw_6) hl (by decide +kernel) hR, hts _ nw_230, hts _ nw_231⟩
theorem kb_Line_add {R : Room} {s : State} {args : Array Value} (hts : ∀ w ∈ lw_wd, w.before args s = true) {own : String} {index : Nat} (hl : (Cond.methodLink own index ny_Line_add).before args s = true) (hR : 0 + 1 ≤ R.frames ∧ 8 + (2 + 11) + 0 ≤ R.locals) : CallW R s args own "DrawnPaths$Line" index ny_Line_add prog_5_method_3_code 2 none (wsO ny_Line_add prog_5_method_3_code 2 none) (rmO 0 0) 0 0 1 := ⟨callB_of 1 hts (wsO_good nw_236) rfl rfl rfl (hts _ nw_6) hl (by decide +kernel) hR, hts _ nw_234, hts _ nw_235⟩
theorem kb_Line_at {R : Room} {s : State} {args : Array Value} (hts : ∀ w ∈ lw_wd, w.before args s = true) {own : String} {index : Nat} (hl : (Cond.methodLink own index ny_Line_at).before args s = true) (hR : 0 + 1 ≤ R.frames ∧ 8 + (2 + 11) + 0 ≤ R.locals) : CallW R s args own "DrawnPaths$Line" index ny_Line_at prog_5_method_4_code 2 (some .char) (wsO ny_Line_at prog_5_method_4_code 2 (some .char)) (rmO 0 0) 0 0 1 := ⟨callB_of 1 hts (wsO_good nw_350) rfl rfl rfl (hts _ nw_6) hl (by decide +kernel) hR, hts _ nw_348, hts _ nw_349⟩
theorem kb_Line_empty {R : Room} {s : State} {args : Array Value} (hts : ∀ w ∈ lw_wd, w.before args s = true) {own : String} {index : Nat} (hl : (Cond.methodLink own index ny_Line_empty).before args s = true) (hR : 0 + 1 ≤ R.frames ∧ 8 + (1 + 11) + 0 ≤ R.locals) : CallW R s args own "DrawnPaths$Line" index ny_Line_empty prog_5_method_5_code 1 none (wsO ny_Line_empty prog_5_method_5_code 1 none) (rmO 0 0) 0 0 0 := ⟨callB_of 0 hts (wsO_good nw_253) rfl rfl rfl (hts _ nw_6) hl (by decide +kernel) hR, hts _ nw_251, hts _ nw_252⟩
theorem kb_Run_give {R : Room} {s : State} {args : Array Value} (hts : ∀ w ∈ lw_wd, w.before args s = true) {own : String} {index : Nat} (hl : (Cond.methodLink own index ny_Run_give).before args s = true) (hR : 0 + 1 ≤ R.frames ∧ 8 + (3 + 11) + 0 ≤ R.locals) : CallW R s args own "DrawnPaths$Run" index ny_Run_give prog_7_method_3_code 3 none (wsO ny_Run_give prog_7_method_3_code 3 none) (rmO 0 0) 0 0 1 := ⟨callB_of 1 hts (wsO_good nw_501) rfl rfl rfl (hts _ nw_5) hl (by decide +kernel) hR, hts _ nw_499, hts _ nw_500⟩
theorem kb_Blocks_forget {R : Room} {s : State} {args : Array Value} (hts : ∀ w ∈ lw_wd, w.before args s = true) {own : String} {index : Nat} (hl : (Cond.methodLink own index ny_Blocks_forget).before args s = true) (hR : 0 + 1 ≤ R.frames ∧ 8 + (1 + 11) + 0 ≤ R.locals) : CallW R s args own "DrawnPaths$Blocks" index ny_Blocks_forget prog_3_method_6_code 1 none (wsO ny_Blocks_forget prog_3_method_6_code 1 none) (rmO 0 0) 0 0 0 := ⟨callB_of 0 hts (wsO_good nw_245) rfl rfl rfl (hts _ nw_2) hl (by decide +kernel) hR, hts _ nw_243, hts _ nw_244⟩
theorem kb_Run_forget {R : Room} {s : State} {args : Array Value} (hts : ∀ w ∈ lw_wd, w.before args s = true) {own : String} {index : Nat} (hl : (Cond.methodLink own index ny_Run_forget).before args s = true) (hR : 1 + 1 ≤ R.frames ∧ 8 + (1 + 11) + 20 ≤ R.locals) : CallW R s args own "DrawnPaths$Run" index ny_Run_forget prog_7_method_4_code 1 none (wsO ny_Run_forget prog_7_method_4_code 1 none) (rmO 1 20) 0 0 0 := ⟨callB_of 0 hts (wsO_good nw_249) rfl rfl rfl (hts _ nw_5) hl (by decide +kernel) hR, hts _ nw_247, hts _ nw_248⟩
theorem kb_Way_of {R : Room} {s : State} {args : Array Value} (hts : ∀ w ∈ lw_wd, w.before args s = true) {own : String} {index : Nat} (hl : (Cond.methodLink own index ny_Way_of).before args s = true) (hR : 0 + 1 ≤ R.frames ∧ 8 + (3 + 11) + 0 ≤ R.locals) : CallB R s args own index ny_Way_of prog_9_method_2_code 3 (some .int) (wsO ny_Way_of prog_9_method_2_code 3 (some .int)) (rmO 0 0) 0 0 3 ∧ (Cond.static ny_Way_of).before args s = true := ⟨callB_of 3 hts (wsO_good nw_264) rfl rfl rfl (hts _ nw_16) hl (by decide +kernel) hR, hts _ nw_263⟩
theorem kb_Ptr_begin {R : Room} {s : State} {args : Array Value} (hts : ∀ w ∈ lw_wd, w.before args s = true) {own : String} {index : Nat} (hl : (Cond.methodLink own index ny_Ptr_begin).before args s = true) (hR : 0 + 1 ≤ R.frames ∧ 8 + (2 + 11) + 0 ≤ R.locals) : CallW R s args own "DrawnPaths$Pointer" index ny_Ptr_begin prog_6_method_2_code 2 none (wsO ny_Ptr_begin prog_6_method_2_code 2 none) (rmO 0 0) 0 0 1 := ⟨callB_of 1 hts (wsO_good nw_268) rfl rfl rfl (hts _ nw_7) hl (by decide +kernel) hR, hts _ nw_266, hts _ nw_267⟩
theorem kb_Run_begin {R : Room} {s : State} {args : Array Value} (hts : ∀ w ∈ lw_wd, w.before args s = true) {own : String} {index : Nat} (hl : (Cond.methodLink own index ny_Run_begin).before args s = true) (hR : 1 + 1 ≤ R.frames ∧ 8 + (1 + 11) + 22 ≤ R.locals) : CallW R s args own "DrawnPaths$Run" index ny_Run_begin prog_7_method_5_code 1 none (wsO ny_Run_begin prog_7_method_5_code 1 none) (rmO 1 22) 0 0 0 := ⟨callB_of 0 hts (wsO_good nw_261) rfl rfl rfl (hts _ nw_5) hl (by decide +kernel) hR, hts _ nw_259, hts _ nw_260⟩
theorem kb_P_checkSteps {R : Room} {s : State} {args : Array Value} (hts : ∀ w ∈ lw_wd, w.before args s = true) {own : String} {index : Nat} (hl : (Cond.methodLink own index ny_P_checkSteps).before args s = true) (hR : 6 + 1 ≤ R.frames ∧ 8 + (1 + 11) + 100 ≤ R.locals) : CallB R s args own index ny_P_checkSteps prog_1_method_24_code 1 none (wsO ny_P_checkSteps prog_1_method_24_code 1 none) (rmO 6 100) 0 0 1 ∧ (Cond.static ny_P_checkSteps).before args s = true := ⟨callB_of 1 hts (wsO_good nw_511) rfl rfl rfl (hts _ nw_1) hl (by decide +kernel) hR, hts _ nw_510⟩
theorem kb_Run_state {R : Room} {s : State} {args : Array Value} (hts : ∀ w ∈ lw_wd, w.before args s = true) {own : String} {index : Nat} (hl : (Cond.methodLink own index ny_Run_state).before args s = true) (hR : 0 + 1 ≤ R.frames ∧ 8 + (1 + 11) + 0 ≤ R.locals) : CallW R s args own "DrawnPaths$Run" index ny_Run_state prog_7_method_2_code 1 (some .int) (wsO ny_Run_state prog_7_method_2_code 1 (some .int)) (rmO 0 0) 0 0 0 := ⟨callB_of 0 hts (wsO_good nw_276) rfl rfl rfl (hts _ nw_5) hl (by decide +kernel) hR, hts _ nw_274, hts _ nw_275⟩
theorem kb_Way_place {R : Room} {s : State} {args : Array Value} (hts : ∀ w ∈ lw_wd, w.before args s = true) {own : String} {index : Nat} (hl : (Cond.methodLink own index ny_Way_place).before args s = true) (hR : 0 + 1 ≤ R.frames ∧ 8 + (1 + 11) + 0 ≤ R.locals) : CallB R s args own index ny_Way_place prog_9_method_3_code 1 (some .int) (wsO ny_Way_place prog_9_method_3_code 1 (some .int)) (rmO 0 0) 0 0 1 ∧ (Cond.static ny_Way_place).before args s = true := ⟨callB_of 1 hts (wsO_good nw_292) rfl rfl rfl (hts _ nw_16) hl (by decide +kernel) hR, hts _ nw_291⟩
theorem kb_Way_quotes {R : Room} {s : State} {args : Array Value} (hts : ∀ w ∈ lw_wd, w.before args s = true) {own : String} {index : Nat} (hl : (Cond.methodLink own index ny_Way_quotes).before args s = true) (hR : 0 + 1 ≤ R.frames ∧ 8 + (1 + 11) + 0 ≤ R.locals) : CallB R s args own index ny_Way_quotes prog_9_method_5_code 1 (some .int) (wsO ny_Way_quotes prog_9_method_5_code 1 (some .int)) (rmO 0 0) 0 0 1 ∧ (Cond.static ny_Way_quotes).before args s = true := ⟨callB_of 1 hts (wsO_good nw_302) rfl rfl rfl (hts _ nw_16) hl (by decide +kernel) hR, hts _ nw_301⟩
theorem kb_P_isAct {R : Room} {s : State} {args : Array Value} (hts : ∀ w ∈ lw_wd, w.before args s = true) {own : String} {index : Nat} (hl : (Cond.methodLink own index ny_P_isAct).before args s = true) (hR : 1 + 1 ≤ R.frames ∧ 8 + (2 + 11) + 20 ≤ R.locals) : CallB R s args own index ny_P_isAct prog_1_method_27_code 2 (some .boolean) (wsO ny_P_isAct prog_1_method_27_code 2 (some .boolean)) (rmO 1 20) 0 0 2 ∧ (Cond.static ny_P_isAct).before args s = true := ⟨callB_of 2 hts (wsO_good nw_299) rfl rfl rfl (hts _ nw_1) hl (by decide +kernel) hR, hts _ nw_298⟩
theorem kb_P_isActN {R : Room} {s : State} {args : Array Value} (hts : ∀ w ∈ lw_wd, w.before args s = true) {own : String} {index : Nat} {host : String} (hl : va_Nw (.methodLinkNest own index ny_P_isAct host) s) (hR : 1 + 1 ≤ R.frames ∧ 8 + (2 + 11) + 20 ≤ R.locals) : va_CN R s args own index ny_P_isAct host prog_1_method_27_code 2 (some .boolean) (wsO ny_P_isAct prog_1_method_27_code 2 (some .boolean)) (rmO 1 20) 0 0 2 ∧ (Cond.static ny_P_isAct).before args s = true ∧ True := ⟨va_cnB 2 hts (wsO_good nw_299) rfl rfl rfl hl (hts _ nw_1) (by decide +kernel) hR, hts _ nw_298, trivial⟩
theorem kb_Ptr_pop {R : Room} {s : State} {args : Array Value} (hts : ∀ w ∈ lw_wd, w.before args s = true) {own : String} {index : Nat} (hl : (Cond.methodLink own index ny_Ptr_pop).before args s = true) (hR : 0 + 1 ≤ R.frames ∧ 8 + (1 + 11) + 0 ≤ R.locals) : CallW R s args own "DrawnPaths$Pointer" index ny_Ptr_pop prog_6_method_5_code 1 (some .long) (wsO ny_Ptr_pop prog_6_method_5_code 1 (some .long)) (rmO 0 0) 0 0 0 := ⟨callB_of 0 hts (wsO_good nw_529) rfl rfl rfl (hts _ nw_7) hl (by decide +kernel) hR, hts _ nw_527, hts _ nw_528⟩
theorem kb_Way_direction {R : Room} {s : State} {args : Array Value} (hts : ∀ w ∈ lw_wd, w.before args s = true) {own : String} {index : Nat} (hl : (Cond.methodLink own index ny_Way_direction).before args s = true) (hR : 0 + 1 ≤ R.frames ∧ 8 + (1 + 11) + 0 ≤ R.locals) : CallB R s args own index ny_Way_direction prog_9_method_4_code 1 (some .int) (wsO ny_Way_direction prog_9_method_4_code 1 (some .int)) (rmO 0 0) 0 0 1 ∧ (Cond.static ny_Way_direction).before args s = true := ⟨callB_of 1 hts (wsO_good nw_308) rfl rfl rfl (hts _ nw_16) hl (by decide +kernel) hR, hts _ nw_307⟩
theorem kb_Way_directed {R : Room} {s : State} {args : Array Value} (hts : ∀ w ∈ lw_wd, w.before args s = true) {own : String} {index : Nat} (hl : (Cond.methodLink own index ny_Way_directed).before args s = true) (hR : 0 + 1 ≤ R.frames ∧ 8 + (2 + 11) + 0 ≤ R.locals) : CallB R s args own index ny_Way_directed prog_9_method_7_code 2 (some .int) (wsO ny_Way_directed prog_9_method_7_code 2 (some .int)) (rmO 0 0) 0 0 2 ∧ (Cond.static ny_Way_directed).before args s = true := ⟨callB_of 2 hts (wsO_good nw_311) rfl rfl rfl (hts _ nw_16) hl (by decide +kernel) hR, hts _ nw_310⟩
theorem kb_Way_turned {R : Room} {s : State} {args : Array Value} (hts : ∀ w ∈ lw_wd, w.before args s = true) {own : String} {index : Nat} (hl : (Cond.methodLink own index ny_Way_turned).before args s = true) (hR : 1 + 1 ≤ R.frames ∧ 8 + (2 + 11) + 21 ≤ R.locals) : CallB R s args own index ny_Way_turned prog_9_method_6_code 2 (some .int) (wsO ny_Way_turned prog_9_method_6_code 2 (some .int)) (rmO 1 21) 0 0 2 ∧ (Cond.static ny_Way_turned).before args s = true := ⟨callB_of 2 hts (wsO_good nw_305) rfl rfl rfl (hts _ nw_16) hl (by decide +kernel) hR, hts _ nw_304⟩
theorem kb_Way_ahead {R : Room} {s : State} {args : Array Value} (hts : ∀ w ∈ lw_wd, w.before args s = true) {own : String} {index : Nat} (hl : (Cond.methodLink own index ny_Way_ahead).before args s = true) (hR : 1 + 1 ≤ R.frames ∧ 8 + (3 + 11) + 20 ≤ R.locals) : CallB R s args own index ny_Way_ahead prog_9_method_8_code 3 (some .int) (wsO ny_Way_ahead prog_9_method_8_code 3 (some .int)) (rmO 1 20) 0 0 1 ∧ (Cond.static ny_Way_ahead).before args s = true := ⟨callB_of 1 hts (wsO_good nw_314) rfl rfl rfl (hts _ nw_16) hl (by decide +kernel) hR, hts _ nw_313⟩
theorem kb_Run_turn {R : Room} {s : State} {args : Array Value} (hts : ∀ w ∈ lw_wd, w.before args s = true) {own : String} {index : Nat} (hl : (Cond.methodLink own index ny_Run_turn).before args s = true) (hR : 2 + 1 ≤ R.frames ∧ 8 + (3 + 11) + 42 ≤ R.locals) : CallB R s args own index ny_Run_turn prog_7_method_15_code 3 (some .int) (wsO ny_Run_turn prog_7_method_15_code 3 (some .int)) (rmO 2 42) 0 0 1 ∧ (Cond.static ny_Run_turn).before args s = true := ⟨callB_of 1 hts (wsO_good nw_525) rfl rfl rfl (hts _ nw_5) hl (by decide +kernel) hR, hts _ nw_524⟩
theorem kb_Ptr_fromTop {R : Room} {s : State} {args : Array Value} (hts : ∀ w ∈ lw_wd, w.before args s = true) {own : String} {index : Nat} (hl : (Cond.methodLink own index ny_Ptr_fromTop).before args s = true) (hR : 0 + 1 ≤ R.frames ∧ 8 + (3 + 11) + 0 ≤ R.locals) : CallW R s args own "DrawnPaths$Pointer" index ny_Ptr_fromTop prog_6_method_6_code 3 (some .long) (wsO ny_Ptr_fromTop prog_6_method_6_code 3 (some .long)) (rmO 0 0) 0 0 1 := ⟨callB_of 1 hts (wsO_good nw_539) rfl rfl rfl (hts _ nw_7) hl (by decide +kernel) hR, hts _ nw_537, hts _ nw_538⟩
theorem kb_Run_spell {R : Room} {s : State} {args : Array Value} (hts : ∀ w ∈ lw_wd, w.before args s = true) {own : String} {index : Nat} (hl : (Cond.methodLink own index ny_Run_spell).before args s = true) (hR : 1 + 1 ≤ R.frames ∧ 8 + (8 + 11) + 21 ≤ R.locals) : CallW R s args own "DrawnPaths$Run" index ny_Run_spell prog_7_method_17_code 8 (some .int) (wsO ny_Run_spell prog_7_method_17_code 8 (some .int)) (rmO 1 21) 0 0 1 := ⟨callB_of 1 hts (wsO_good nw_543) rfl rfl rfl (hts _ nw_5) hl (by decide +kernel) hR, hts _ nw_541, hts _ nw_542⟩
theorem kb_Run_writeNumber {R : Room} {s : State} {args : Array Value} (hts : ∀ w ∈ lw_wd, w.before args s = true) {own : String} {index : Nat} (hl : (Cond.methodLink own index ny_Run_writeNumber).before args s = true) (hR : 2 + 1 ≤ R.frames ∧ 8 + (4 + 11) + 48 ≤ R.locals) : CallW R s args own "DrawnPaths$Run" index ny_Run_writeNumber prog_7_method_16_code 4 (some .int) (wsO ny_Run_writeNumber prog_7_method_16_code 4 (some .int)) (rmO 2 48) 0 0 1 := ⟨callB_of 1 hts (wsO_good nw_535) rfl rfl rfl (hts _ nw_5) hl (by decide +kernel) hR, hts _ nw_533, hts _ nw_534⟩
theorem kb_P_signOf {R : Room} {s : State} {args : Array Value} (hts : ∀ w ∈ lw_wd, w.before args s = true) {own : String} {index : Nat} (hl : (Cond.methodLink own index ny_P_signOf).before args s = true) (hR : 1 + 1 ≤ R.frames ∧ 8 + (3 + 11) + 20 ≤ R.locals) : CallB R s args own index ny_P_signOf prog_1_method_26_code 3 (some .char) (wsO ny_P_signOf prog_1_method_26_code 3 (some .char)) (rmO 1 20) 0 0 1 ∧ (Cond.static ny_P_signOf).before args s = true := ⟨callB_of 1 hts (wsO_good nw_557) rfl rfl rfl (hts _ nw_1) hl (by decide +kernel) hR, hts _ nw_556⟩
theorem kb_P_signOfN {R : Room} {s : State} {args : Array Value} (hts : ∀ w ∈ lw_wd, w.before args s = true) {own : String} {index : Nat} {host : String} (hl : va_Nw (.methodLinkNest own index ny_P_signOf host) s) (hR : 1 + 1 ≤ R.frames ∧ 8 + (3 + 11) + 20 ≤ R.locals) : va_CN R s args own index ny_P_signOf host prog_1_method_26_code 3 (some .char) (wsO ny_P_signOf prog_1_method_26_code 3 (some .char)) (rmO 1 20) 0 0 1 ∧ (Cond.static ny_P_signOf).before args s = true ∧ True := ⟨va_cnB 1 hts (wsO_good nw_557) rfl rfl rfl hl (hts _ nw_1) (by decide +kernel) hR, hts _ nw_556, trivial⟩
theorem kb_Run_writeCharacter {R : Room} {s : State} {args : Array Value} (hts : ∀ w ∈ lw_wd, w.before args s = true) {own : String} {index : Nat} (hl : (Cond.methodLink own index ny_Run_writeCharacter).before args s = true) (hR : 2 + 1 ≤ R.frames ∧ 8 + (2 + 11) + 42 ≤ R.locals) : CallW R s args own "DrawnPaths$Run" index ny_Run_writeCharacter prog_7_method_18_code 2 (some .int) (wsO ny_Run_writeCharacter prog_7_method_18_code 2 (some .int)) (rmO 2 42) 0 0 1 := ⟨callB_of 1 hts (wsO_good nw_554) rfl rfl rfl (hts _ nw_5) hl (by decide +kernel) hR, hts _ nw_552, hts _ nw_553⟩
theorem kb_Ptr_isFull {R : Room} {s : State} {args : Array Value} (hts : ∀ w ∈ lw_wd, w.before args s = true) {own : String} {index : Nat} (hl : (Cond.methodLink own index ny_Ptr_isFull).before args s = true) (hR : 0 + 1 ≤ R.frames ∧ 8 + (1 + 11) + 0 ≤ R.locals) : CallW R s args own "DrawnPaths$Pointer" index ny_Ptr_isFull prog_6_method_3_code 1 (some .boolean) (wsO ny_Ptr_isFull prog_6_method_3_code 1 (some .boolean)) (rmO 0 0) 0 0 0 := ⟨callB_of 0 hts (wsO_good nw_566) rfl rfl rfl (hts _ nw_7) hl (by decide +kernel) hR, hts _ nw_564, hts _ nw_565⟩
theorem kb_Ptr_push {R : Room} {s : State} {args : Array Value} (hts : ∀ w ∈ lw_wd, w.before args s = true) {own : String} {index : Nat} (hl : (Cond.methodLink own index ny_Ptr_push).before args s = true) (hR : 0 + 1 ≤ R.frames ∧ 8 + (3 + 11) + 0 ≤ R.locals) : CallW R s args own "DrawnPaths$Pointer" index ny_Ptr_push prog_6_method_4_code 3 none (wsO ny_Ptr_push prog_6_method_4_code 3 none) (rmO 0 0) 0 0 1 := ⟨callB_of 1 hts (wsO_good nw_570) rfl rfl rfl (hts _ nw_7) hl (by decide +kernel) hR, hts _ nw_568, hts _ nw_569⟩
theorem kb_Run_readNumber {R : Room} {s : State} {args : Array Value} (hts : ∀ w ∈ lw_wd, w.before args s = true) {own : String} {index : Nat} (hl : (Cond.methodLink own index ny_Run_readNumber).before args s = true) (hR : 2 + 1 ≤ R.frames ∧ 8 + (2 + 11) + 42 ≤ R.locals) : CallW R s args own "DrawnPaths$Run" index ny_Run_readNumber prog_7_method_19_code 2 (some .int) (wsO ny_Run_readNumber prog_7_method_19_code 2 (some .int)) (rmO 2 42) 0 0 1 := ⟨callB_of 1 hts (wsO_good nw_562) rfl rfl rfl (hts _ nw_5) hl (by decide +kernel) hR, hts _ nw_560, hts _ nw_561⟩
theorem kb_Math_floorMod {R : Room} {s : State} {args : Array Value} (hts : ∀ w ∈ lw_wd, w.before args s = true) {own : String} {index : Nat} (hl : (Cond.methodLink own index ny_Math_floorMod).before args s = true) (hR : 0 + 1 ≤ R.frames ∧ 8 + (6 + 11) + 0 ≤ R.locals) : CallB R s args own index ny_Math_floorMod prog_16_method_52_code 6 (some .long) (wsO ny_Math_floorMod prog_16_method_52_code 6 (some .long)) (rmO 0 0) 0 0 2 ∧ (Cond.static ny_Math_floorMod).before args s = true := ⟨callB_of 2 hts (wsO_good nw_585) rfl rfl rfl (hts _ nw_17) hl (by decide +kernel) hR, hts _ nw_584⟩
theorem kb_P_joinedPlace {R : Room} {s : State} {args : Array Value} (hts : ∀ w ∈ lw_wd, w.before args s = true) {own : String} {index : Nat} (hl : (Cond.methodLink own index ny_P_joinedPlace).before args s = true) (hR : 1 + 1 ≤ R.frames ∧ 8 + (6 + 11) + 25 ≤ R.locals) : CallB R s args own index ny_P_joinedPlace prog_1_method_23_code 6 (some .int) (wsO ny_P_joinedPlace prog_1_method_23_code 6 (some .int)) (rmO 1 25) 0 0 2 ∧ (Cond.static ny_P_joinedPlace).before args s = true := ⟨callB_of 2 hts (wsO_good nw_581) rfl rfl rfl (hts _ nw_1) hl (by decide +kernel) hR, hts _ nw_580⟩
theorem kb_P_joinedPlaceN {R : Room} {s : State} {args : Array Value} (hts : ∀ w ∈ lw_wd, w.before args s = true) {own : String} {index : Nat} {host : String} (hl : va_Nw (.methodLinkNest own index ny_P_joinedPlace host) s) (hR : 1 + 1 ≤ R.frames ∧ 8 + (6 + 11) + 25 ≤ R.locals) : va_CN R s args own index ny_P_joinedPlace host prog_1_method_23_code 6 (some .int) (wsO ny_P_joinedPlace prog_1_method_23_code 6 (some .int)) (rmO 1 25) 0 0 2 ∧ (Cond.static ny_P_joinedPlace).before args s = true ∧ True := ⟨va_cnB 2 hts (wsO_good nw_581) rfl rfl rfl hl (hts _ nw_1) (by decide +kernel) hR, hts _ nw_580, trivial⟩
theorem kb_Run_popPlace {R : Room} {s : State} {args : Array Value} (hts : ∀ w ∈ lw_wd, w.before args s = true) {own : String} {index : Nat} (hl : (Cond.methodLink own index ny_Run_popPlace).before args s = true) (hR : 2 + 1 ≤ R.frames ∧ 8 + (5 + 11) + 50 ≤ R.locals) : CallB R s args own index ny_Run_popPlace prog_7_method_13_code 5 (some .int) (wsO ny_Run_popPlace prog_7_method_13_code 5 (some .int)) (rmO 2 50) 0 0 1 ∧ (Cond.static ny_Run_popPlace).before args s = true := ⟨callB_of 1 hts (wsO_good nw_578) rfl rfl rfl (hts _ nw_5) hl (by decide +kernel) hR, hts _ nw_577⟩
theorem kb_Run_writeSign {R : Room} {s : State} {args : Array Value} (hts : ∀ w ∈ lw_wd, w.before args s = true) {own : String} {index : Nat} (hl : (Cond.methodLink own index ny_Run_writeSign).before args s = true) (hR : 3 + 1 ≤ R.frames ∧ 8 + (3 + 11) + 74 ≤ R.locals) : CallW R s args own "DrawnPaths$Run" index ny_Run_writeSign prog_7_method_20_code 3 (some .int) (wsO ny_Run_writeSign prog_7_method_20_code 3 (some .int)) (rmO 3 74) 0 0 1 := ⟨callB_of 1 hts (wsO_good nw_575) rfl rfl rfl (hts _ nw_5) hl (by decide +kernel) hR, hts _ nw_573, hts _ nw_574⟩
theorem kb_Run_goAway {R : Room} {s : State} {args : Array Value} (hts : ∀ w ∈ lw_wd, w.before args s = true) {own : String} {index : Nat} (hl : (Cond.methodLink own index ny_Run_goAway).before args s = true) (hR : 3 + 1 ≤ R.frames ∧ 8 + (2 + 11) + 74 ≤ R.locals) : CallB R s args own index ny_Run_goAway prog_7_method_21_code 2 (some .int) (wsO ny_Run_goAway prog_7_method_21_code 2 (some .int)) (rmO 3 74) 0 0 1 ∧ (Cond.static ny_Run_goAway).before args s = true := ⟨callB_of 1 hts (wsO_good nw_590) rfl rfl rfl (hts _ nw_5) hl (by decide +kernel) hR, hts _ nw_589⟩
theorem kb_Run_goBack {R : Room} {s : State} {args : Array Value} (hts : ∀ w ∈ lw_wd, w.before args s = true) {own : String} {index : Nat} (hl : (Cond.methodLink own index ny_Run_goBack).before args s = true) (hR : 0 + 1 ≤ R.frames ∧ 8 + (1 + 11) + 0 ≤ R.locals) : CallB R s args own index ny_Run_goBack prog_7_method_22_code 1 (some .int) (wsO ny_Run_goBack prog_7_method_22_code 1 (some .int)) (rmO 0 0) 0 0 1 ∧ (Cond.static ny_Run_goBack).before args s = true := ⟨callB_of 1 hts (wsO_good nw_594) rfl rfl rfl (hts _ nw_5) hl (by decide +kernel) hR, hts _ nw_593⟩
theorem kb_Run_fork {R : Room} {s : State} {args : Array Value} (hts : ∀ w ∈ lw_wd, w.before args s = true) {own : String} {index : Nat} (hl : (Cond.methodLink own index ny_Run_fork).before args s = true) (hR : 2 + 1 ≤ R.frames ∧ 8 + (5 + 11) + 42 ≤ R.locals) : CallW R s args own "DrawnPaths$Run" index ny_Run_fork prog_7_method_23_code 5 (some .int) (wsO ny_Run_fork prog_7_method_23_code 5 (some .int)) (rmO 2 42) 0 0 1 := ⟨callB_of 1 hts (wsO_good nw_598) rfl rfl rfl (hts _ nw_5) hl (by decide +kernel) hR, hts _ nw_596, hts _ nw_597⟩
theorem kb_Run_act {R : Room} {s : State} {args : Array Value} (hts : ∀ w ∈ lw_wd, w.before args s = true) {own : String} {index : Nat} (hl : (Cond.methodLink own index ny_Run_act).before args s = true) (hR : 4 + 1 ≤ R.frames ∧ 8 + (3 + 11) + 96 ≤ R.locals) : CallW R s args own "DrawnPaths$Run" index ny_Run_act prog_7_method_14_code 3 (some .int) (wsO ny_Run_act prog_7_method_14_code 3 (some .int)) (rmO 4 96) 0 0 2 := ⟨callB_of 2 hts (wsO_good nw_522) rfl rfl rfl (hts _ nw_5) hl (by decide +kernel) hR, hts _ nw_520, hts _ nw_521⟩
theorem kb_Run_pushesMore {R : Room} {s : State} {args : Array Value} (hts : ∀ w ∈ lw_wd, w.before args s = true) {own : String} {index : Nat} (hl : (Cond.methodLink own index ny_Run_pushesMore).before args s = true) (hR : 1 + 1 ≤ R.frames ∧ 8 + (2 + 11) + 20 ≤ R.locals) : CallB R s args own index ny_Run_pushesMore prog_7_method_10_code 2 (some .boolean) (wsO ny_Run_pushesMore prog_7_method_10_code 2 (some .boolean)) (rmO 1 20) 0 0 2 ∧ (Cond.static ny_Run_pushesMore).before args s = true := ⟨callB_of 2 hts (wsO_good nw_605) rfl rfl rfl (hts _ nw_5) hl (by decide +kernel) hR, hts _ nw_604⟩
theorem kb_Run_join {R : Room} {s : State} {args : Array Value} (hts : ∀ w ∈ lw_wd, w.before args s = true) {own : String} {index : Nat} (hl : (Cond.methodLink own index ny_Run_join).before args s = true) (hR : 1 + 1 ≤ R.frames ∧ 8 + (6 + 11) + 22 ≤ R.locals) : CallB R s args own index ny_Run_join prog_7_method_12_code 6 none (wsO ny_Run_join prog_7_method_12_code 6 none) (rmO 1 22) 0 0 2 ∧ (Cond.static ny_Run_join).before args s = true := ⟨callB_of 2 hts (wsO_good nw_613) rfl rfl rfl (hts _ nw_5) hl (by decide +kernel) hR, hts _ nw_612⟩
theorem kb_Run_reckon {R : Room} {s : State} {args : Array Value} (hts : ∀ w ∈ lw_wd, w.before args s = true) {own : String} {index : Nat} (hl : (Cond.methodLink own index ny_Run_reckon).before args s = true) (hR : 3 + 1 ≤ R.frames ∧ 8 + (11 + 11) + 74 ≤ R.locals) : CallW R s args own "DrawnPaths$Run" index ny_Run_reckon prog_7_method_11_code 11 none (wsO ny_Run_reckon prog_7_method_11_code 11 none) (rmO 3 74) 0 0 2 := ⟨callB_of 2 hts (wsO_good nw_610) rfl rfl rfl (hts _ nw_5) hl (by decide +kernel) hR, hts _ nw_608, hts _ nw_609⟩
theorem kb_Way_behind {R : Room} {s : State} {args : Array Value} (hts : ∀ w ∈ lw_wd, w.before args s = true) {own : String} {index : Nat} (hl : (Cond.methodLink own index ny_Way_behind).before args s = true) (hR : 2 + 1 ≤ R.frames ∧ 8 + (2 + 11) + 42 ≤ R.locals) : CallB R s args own index ny_Way_behind prog_9_method_9_code 2 (some .int) (wsO ny_Way_behind prog_9_method_9_code 2 (some .int)) (rmO 2 42) 0 0 2 ∧ (Cond.static ny_Way_behind).before args s = true := ⟨callB_of 2 hts (wsO_good nw_318) rfl rfl rfl (hts _ nw_16) hl (by decide +kernel) hR, hts _ nw_317⟩
theorem kb_Run_pass {R : Room} {s : State} {args : Array Value} (hts : ∀ w ∈ lw_wd, w.before args s = true) {own : String} {index : Nat} (hl : (Cond.methodLink own index ny_Run_pass).before args s = true) (hR : 4 + 1 ≤ R.frames ∧ 8 + (3 + 11) + 104 ≤ R.locals) : CallW R s args own "DrawnPaths$Run" index ny_Run_pass prog_7_method_9_code 3 (some .int) (wsO ny_Run_pass prog_7_method_9_code 3 (some .int)) (rmO 4 104) 0 0 2 := ⟨callB_of 2 hts (wsO_good nw_602) rfl rfl rfl (hts _ nw_5) hl (by decide +kernel) hR, hts _ nw_600, hts _ nw_601⟩
theorem kb_Run_remove {R : Room} {s : State} {args : Array Value} (hts : ∀ w ∈ lw_wd, w.before args s = true) {own : String} {index : Nat} (hl : (Cond.methodLink own index ny_Run_remove).before args s = true) (hR : 0 + 1 ≤ R.frames ∧ 8 + (4 + 11) + 0 ≤ R.locals) : CallW R s args own "DrawnPaths$Run" index ny_Run_remove prog_7_method_8_code 4 none (wsO ny_Run_remove prog_7_method_8_code 4 none) (rmO 0 0) 0 0 1 := ⟨callB_of 1 hts (wsO_good nw_618) rfl rfl rfl (hts _ nw_5) hl (by decide +kernel) hR, hts _ nw_616, hts _ nw_617⟩
theorem kb_Run_advance {R : Room} {s : State} {args : Array Value} (hts : ∀ w ∈ lw_wd, w.before args s = true) {own : String} {index : Nat} (hl : (Cond.methodLink own index ny_Run_advance).before args s = true) (hR : 5 + 1 ≤ R.frames ∧ 8 + (7 + 11) + 126 ≤ R.locals) : CallW R s args own "DrawnPaths$Run" index ny_Run_advance prog_7_method_7_code 7 none (wsO ny_Run_advance prog_7_method_7_code 7 none) (rmO 5 126) 0 0 0 := ⟨callB_of 0 hts (wsO_good nw_516) rfl rfl rfl (hts _ nw_5) hl (by decide +kernel) hR, hts _ nw_514, hts _ nw_515⟩
theorem kb_Blocks_find {R : Room} {s : State} {args : Array Value} (hts : ∀ w ∈ lw_wd, w.before args s = true) {own : String} {index : Nat} (hl : (Cond.methodLink own index ny_Blocks_find).before args s = true) (hR : 0 + 1 ≤ R.frames ∧ 8 + (3 + 11) + 0 ≤ R.locals) : CallW R s args own "DrawnPaths$Blocks" index ny_Blocks_find prog_3_method_2_code 3 (some (.object "DrawnPaths$Block")) (wsO ny_Blocks_find prog_3_method_2_code 3 (some (.object "DrawnPaths$Block"))) (rmO 0 0) 0 0 1 := ⟨callB_of 1 hts (wsO_good nw_633) rfl rfl rfl (hts _ nw_2) hl (by decide +kernel) hR, hts _ nw_631, hts _ nw_632⟩
theorem kb_Block_addPlace {R : Room} {s : State} {args : Array Value} (hts : ∀ w ∈ lw_wd, w.before args s = true) {own : String} {index : Nat} (hl : (Cond.methodLink own index ny_Block_addPlace).before args s = true) (hR : 0 + 1 ≤ R.frames ∧ 8 + (2 + 11) + 0 ≤ R.locals) : CallW R s args own "DrawnPaths$Block" index ny_Block_addPlace prog_2_method_3_code 2 none (wsO ny_Block_addPlace prog_2_method_3_code 2 none) (rmO 0 0) 0 0 1 := ⟨callB_of 1 hts (wsO_good nw_647) rfl rfl rfl (hts _ nw_3) hl (by decide +kernel) hR, hts _ nw_645, hts _ nw_646⟩
theorem kb_Block_trace {R : Room} {s : State} {args : Array Value} (hts : ∀ w ∈ lw_wd, w.before args s = true) {own : String} {index : Nat} (hl : (Cond.methodLink own index ny_Block_trace).before args s = true) (hR : 3 + 1 ≤ R.frames ∧ 8 + (8 + 11) + 63 ≤ R.locals) : CallW R s args own "DrawnPaths$Block" index ny_Block_trace prog_2_method_4_code 8 none (wsO ny_Block_trace prog_2_method_4_code 8 none) (rmO 3 63) 0 0 3 := ⟨callB_of 3 hts (wsO_good nw_641) rfl rfl rfl (hts _ nw_3) hl (by decide +kernel) hR, hts _ nw_639, hts _ nw_640⟩
theorem kb_Blocks_make {R : Room} {s : State} {args : Array Value} (hts : ∀ w ∈ lw_wd, w.before args s = true) {own : String} {index : Nat} (hl : (Cond.methodLink own index ny_Blocks_make).before args s = true) (hR : 4 + 1 ≤ R.frames ∧ 8 + (4 + 11) + 90 ≤ R.locals) : CallW R s args own "DrawnPaths$Blocks" index ny_Blocks_make prog_3_method_3_code 4 (some (.object "DrawnPaths$Block")) (wsO ny_Blocks_make prog_3_method_3_code 4 (some (.object "DrawnPaths$Block"))) (rmO 4 90) 0 0 2 := ⟨callB_of 2 hts (wsO_good nw_637) rfl rfl rfl (hts _ nw_2) hl (by decide +kernel) hR, hts _ nw_635, hts _ nw_636⟩
theorem kb_Run_signsTogether {R : Room} {s : State} {args : Array Value} (hts : ∀ w ∈ lw_wd, w.before args s = true) {own : String} {index : Nat} (hl : (Cond.methodLink own index ny_Run_signsTogether).before args s = true) (hR : 5 + 1 ≤ R.frames ∧ 8 + (4 + 11) + 113 ≤ R.locals) : CallW R s args own "DrawnPaths$Run" index ny_Run_signsTogether prog_7_method_6_code 4 (some .int) (wsO ny_Run_signsTogether prog_7_method_6_code 4 (some .int)) (rmO 5 113) 0 0 1 := ⟨callB_of 1 hts (wsO_good nw_629) rfl rfl rfl (hts _ nw_5) hl (by decide +kernel) hR, hts _ nw_627, hts _ nw_628⟩
theorem kb_P_livingPointer {R : Room} {s : State} {args : Array Value} (hts : ∀ w ∈ lw_wd, w.before args s = true) {own : String} {index : Nat} (hl : (Cond.methodLink own index ny_P_livingPointer).before args s = true) (hR : 6 + 1 ≤ R.frames ∧ 8 + (2 + 11) + 100 ≤ R.locals) : CallW R s args own "DrawnPaths" index ny_P_livingPointer prog_1_method_21_code 2 (some (.object "DrawnPaths$Pointer")) (wsO ny_P_livingPointer prog_1_method_21_code 2 (some (.object "DrawnPaths$Pointer"))) (rmO 6 100) 0 0 1 := ⟨callB_of 1 hts (wsO_good nw_659) rfl rfl rfl (hts _ nw_1) hl (by decide +kernel) hR, hts _ nw_658, hts _ (List.mem_filter.mpr ⟨List.mem_append_left _ (by decide +kernel), rfl⟩)⟩
theorem kb_Search_reach {R : Room} {s : State} {args : Array Value} (hts : ∀ w ∈ lw_wd, w.before args s = true) {own : String} {index : Nat} (hl : (Cond.methodLink own index ny_Search_reach).before args s = true) (hR : 1 + 1 ≤ R.frames ∧ 8 + (4 + 11) + 20 ≤ R.locals) : CallW R s args own "DrawnPaths$Search" index ny_Search_reach prog_8_method_4_code 4 none (wsO ny_Search_reach prog_8_method_4_code 4 none) (rmO 1 20) 0 0 1 := ⟨callB_of 1 hts (wsO_good nw_289) rfl rfl rfl (hts _ nw_8) hl (by decide +kernel) hR, hts _ nw_287, hts _ nw_288⟩
theorem kb_Search_follow {R : Room} {s : State} {args : Array Value} (hts : ∀ w ∈ lw_wd, w.before args s = true) {own : String} {index : Nat} (hl : (Cond.methodLink own index ny_Search_follow).before args s = true) (hR : 3 + 1 ≤ R.frames ∧ 8 + (4 + 11) + 63 ≤ R.locals) : CallW R s args own "DrawnPaths$Search" index ny_Search_follow prog_8_method_5_code 4 none (wsO ny_Search_follow prog_8_method_5_code 4 none) (rmO 3 63) 0 0 2 := ⟨callB_of 2 hts (wsO_good nw_296) rfl rfl rfl (hts _ nw_8) hl (by decide +kernel) hR, hts _ nw_294, hts _ nw_295⟩
theorem kb_Search_explore {R : Room} {s : State} {args : Array Value} (hts : ∀ w ∈ lw_wd, w.before args s = true) {own : String} {index : Nat} (hl : (Cond.methodLink own index ny_Search_explore).before args s = true) (hR : 4 + 1 ≤ R.frames ∧ 8 + (3 + 11) + 86 ≤ R.locals) : CallW R s args own "DrawnPaths$Search" index ny_Search_explore prog_8_method_2_code 3 none (wsO ny_Search_explore prog_8_method_2_code 3 none) (rmO 4 86) 0 0 1 := ⟨callB_of 1 hts (wsO_good nw_284) rfl rfl rfl (hts _ nw_8) hl (by decide +kernel) hR, hts _ nw_282, hts _ nw_283⟩
theorem kb_Search_cameTo {R : Room} {s : State} {args : Array Value} (hts : ∀ w ∈ lw_wd, w.before args s = true) {own : String} {index : Nat} (hl : (Cond.methodLink own index ny_Search_cameTo).before args s = true) (hR : 0 + 1 ≤ R.frames ∧ 8 + (2 + 11) + 0 ≤ R.locals) : CallW R s args own "DrawnPaths$Search" index ny_Search_cameTo prog_8_method_3_code 2 (some .boolean) (wsO ny_Search_cameTo prog_8_method_3_code 2 (some .boolean)) (rmO 0 0) 0 0 1 := ⟨callB_of 1 hts (wsO_good nw_324) rfl rfl rfl (hts _ nw_8) hl (by decide +kernel) hR, hts _ nw_322, hts _ nw_323⟩
theorem kb_P_lostPlaces {R : Room} {s : State} {args : Array Value} (hts : ∀ w ∈ lw_wd, w.before args s = true) {own : String} {index : Nat} (hl : (Cond.methodLink own index ny_P_lostPlaces).before args s = true) (hR : 5 + 1 ≤ R.frames ∧ 8 + (3 + 11) + 108 ≤ R.locals) : CallW R s args own "DrawnPaths" index ny_P_lostPlaces prog_1_method_20_code 3 (some .int) (wsO ny_P_lostPlaces prog_1_method_20_code 3 (some .int)) (rmO 5 108) 0 0 0 := ⟨callB_of 0 hts (wsO_good nw_280) rfl rfl rfl (hts _ nw_1) hl (by decide +kernel) hR, hts _ nw_279, hts _ (List.mem_filter.mpr ⟨List.mem_append_left _ (by decide +kernel), rfl⟩)⟩
theorem kb_Blocks_over {R : Room} {s : State} {args : Array Value} (hts : ∀ w ∈ lw_wd, w.before args s = true) {own : String} {index : Nat} (hl : (Cond.methodLink own index ny_Blocks_over).before args s = true) (hR : 1 + 1 ≤ R.frames ∧ 8 + (4 + 11) + 23 ≤ R.locals) : CallW R s args own "DrawnPaths$Blocks" index ny_Blocks_over prog_3_method_5_code 4 (some .int) (wsO ny_Blocks_over prog_3_method_5_code 4 (some .int)) (rmO 1 23) 0 0 1 := ⟨callB_of 1 hts (wsO_good nw_683) rfl rfl rfl (hts _ nw_2) hl (by decide +kernel) hR, hts _ nw_681, hts _ nw_682⟩
theorem kb_Line_copy {R : Room} {s : State} {args : Array Value} (hts : ∀ w ∈ lw_wd, w.before args s = true) {own : String} {index : Nat} (hl : (Cond.methodLink own index ny_Line_copy).before args s = true) (hR : 1 + 1 ≤ R.frames ∧ 8 + (2 + 11) + 60 ≤ R.locals) : CallW R s args own "DrawnPaths$Line" index ny_Line_copy prog_5_method_6_code 2 none (wsO ny_Line_copy prog_5_method_6_code 2 none) (rmO 1 60) 0 0 1 := ⟨callB_of 1 hts (wsO_good nw_332) rfl rfl rfl (hts _ nw_6) hl (by decide +kernel) hR, hts _ nw_330, hts _ nw_331⟩
end
section
set_option maxHeartbeats 4000000 in
set_option maxRecDepth 100000 in
theorem xc_Field_wipe {l : Launch} {D : va_G} {A : Nat → Prop} {cA : Nat → ClassId} {ad : Nat → Nat} (hD : wdD 61 A ad) (fuel : Nat) (h : XH) (q : XH) (hf : xf_Field_wipe fuel h = some q) : CT l D vwCl (xtys cA) A ny_Field_wipe (wsO ny_Field_wipe prog_4_method_3_code 2 none) (rmO 0 0) [.ref (ad 4)] (xW cA ad h) (xW cA ad q) none := by
  refine Met.ofW (cc := prog_4_method_3_code) (maxL := 2) (ret := none) (by decide +kernel) rfl ?_
  intro p e s m args below meth c s₁ B hml hv
  obtain ⟨hav, hP, hK, hN⟩ := hv
  have hx := B.exec
  have hb := B.bytes
  have hr := B.returns
  have hts : ∀ w ∈ lw_wd, w.before args s = true := fun w hw => atoms_spec (ws := (wsO ny_Field_wipe prog_4_method_3_code 2 none)) B.pre w (List.mem_cons_of_mem _ hw)
  have hown : s.vm.findClass "DrawnPaths$Field" = some m.cls := findClass_of_methodNamed B.named
  have hlocks := B.notSynchronized
  have hS : va_S A s.heap s.heap [] := va_S.rf
  have hl := lv_entry ([.ref (ad 4)]) (n := 2) (Nat.le_of_ble_eq_true rfl)
  have hE : entryFrame m args 2 = entryFrame m ([.ref (ad 4)] : List Value).toArray 2 := by rw [hav]
  rw [hE, lg_entry_eq]
  generalize (lg_sl ([.ref (ad 4)]) ++ List.replicate (2 - (lg_sl ([.ref (ad 4)])).length) Slot.unset).toArray = ls at hl ⊢
  have hl : lv_has ls 2 [(0, .ref (ad 4))] := hl
  have L2 : ∀ (n : Nat) (H : Heap) (locs : List Loc) (ls : Array Slot) (h : XH) (hP : va_P D vwCl (xW cA ad h) H) (v1 : Int32) (hS : va_S A s.heap H locs) (hl : lv_has ls 2 [(0, .ref (ad 4)), (1, .int v1)]) (hf : xf_Field_wipe_L2 fuel n v1 h = some q), W p l e (headSpec (wsO ny_Field_wipe prog_4_method_3_code 2 none) (rmO 0 0)).room s m args below meth c H locs 0 0 (MQ below (RetQ D vwCl (xtys cA) A none (xW cA ad q)) args s 0 0 A) (F0 m 2 ls []) := by
    intro n
    induction n with
    | zero =>
      intro H locs ls h hP v1 hS hl hf
      rw [xf_Field_wipe_L2] at hf
      cases hf
    | succ nL2 ihL2 =>
      intro H locs ls h hP v1 hS hl hf
      rw [xf_Field_wipe_L2] at hf
      refine lv_iload_n hx hb nd_Field_wipe_2 rfl (lv_at hl 1 rfl) ?_
      refine lv_bipush (v := 96) hx hb nd_Field_wipe_3 (by decide) ?_
      refine lv_icmp_ge (tgt := 22) hx hb nd_Field_wipe_5 rfl (fun hc => ?_) (fun hc => ?_)
      · replace hf := (if_pos hc).symm.trans hf
        obtain rfl := (Option.some.inj hf)
        exact W.vret hx hb hr (fun t ht hW => ⟨rfl, by rw [ht]; exact hP, va_K.moved hW.alike hK, hS.F ht⟩) hS.2.2 nd_Field_wipe_22
      · replace hf := (if_neg hc).symm.trans hf
        refine lv_aload_n hx hb nd_Field_wipe_8 rfl (lv_at hl 0 rfl) ?_
        refine xg_Field_signs hx hb hts hown hK hP (hts _ nw_86) nd_Field_wipe_9 ?_
        refine lv_iload_n hx hb nd_Field_wipe_12 rfl (lv_at hl 1 rfl) ?_
        refine lv_bipush (v := 32) hx hb nd_Field_wipe_13 (by decide) ?_
        obtain ⟨j1, hj1, hf⟩ := Option.bind_eq_some_iff.mp hf
        refine xas_signs hx hb hK hD hP hS hj1 nd_Field_wipe_15 (fun H locs hP hS => ?_)
        obtain ⟨g2, hg2, hf⟩ := Option.bind_eq_some_iff.mp hf
        rw [Option.some.inj hg2] at hP
        refine lv_iinc (v := (v1 + (1 : Int32))) (lv' := [(1, .int (v1 + (1 : Int32))), (0, .ref (ad 4))]) hx hb nd_Field_wipe_16 hl (k := 1) rfl rfl (by decide) rfl (fun ls hl => ?_)
        refine lv_goto hx hb nd_Field_wipe_19 (tgt := 2) rfl ?_
        exact ihL2 _ _ _ g2 hP (v1 + (1 : Int32)) hS (lv_sub hl [1, 0] rfl) hf
  unfold xf_Field_wipe at hf
  refine lv_iconst (v := 0) hx hb nd_Field_wipe_0 (by decide) ?_
  refine lv_istore_n (lv' := [(1, .int (0 : Int32)), (0, .ref (ad 4))]) hx hb nd_Field_wipe_1 rfl hl (by decide) rfl (fun ls hl => ?_)
  exact L2 fuel _ _ _ h hP (0 : Int32) hS (lv_sub hl [1, 0] rfl) hf
set_option maxHeartbeats 4000000 in
set_option maxRecDepth 100000 in
theorem xc_P_placeAt {l : Launch} {D : va_G} {A : Nat → Prop} {cA : Nat → ClassId} {ad : Nat → Nat} (hD : wdD 61 A ad) (a0 : Int32) (a1 : Int32) (h : XH) (q : Int32) (hf : xf_P_placeAt a0 a1 = Sum.inr q) : CT l D vwCl (xtys cA) A ny_P_placeAt (wsO ny_P_placeAt prog_1_method_22_code 2 (some .int)) (rmO 6 100) [.int a0, .int a1] (xW cA ad h) (xW cA ad h) (some (.int q)) := by
  refine Met.ofW (cc := prog_1_method_22_code) (maxL := 2) (ret := (some .int)) (by decide +kernel) rfl ?_
  intro p e s m args below meth c s₁ B hml hv
  obtain ⟨hav, hP, hK, hN⟩ := hv
  have hx := B.exec
  have hb := B.bytes
  have hr := B.returns
  have hts : ∀ w ∈ lw_wd, w.before args s = true := fun w hw => atoms_spec (ws := (wsO ny_P_placeAt prog_1_method_22_code 2 (some .int))) B.pre w (List.mem_cons_of_mem _ hw)
  have hown : s.vm.findClass "DrawnPaths" = some m.cls := findClass_of_methodNamed B.named
  have hlocks := B.notSynchronized
  have hS : va_S A s.heap s.heap [] := va_S.rf
  have hl := lv_entry ([.int a0, .int a1]) (n := 2) (Nat.le_of_ble_eq_true rfl)
  have hE : entryFrame m args 2 = entryFrame m ([.int a0, .int a1] : List Value).toArray 2 := by rw [hav]
  rw [hE, lg_entry_eq]
  generalize (lg_sl ([.int a0, .int a1]) ++ List.replicate (2 - (lg_sl ([.int a0, .int a1])).length) Slot.unset).toArray = ls at hl ⊢
  have hl : lv_has ls 2 [(0, .int a0), (1, .int a1)] := hl
  unfold xf_P_placeAt at hf
  refine lv_iload_n hx hb nd_P_placeAt_0 rfl (lv_at hl 0 rfl) ?_
  refine lv_if_lt (tgt := 20) hx hb nd_P_placeAt_1 rfl (fun hc => ?_) (fun hc => ?_)
  · replace hf := (if_pos hc).symm.trans hf
    exact absurd hf (by simp)
  · replace hf := (if_neg hc).symm.trans hf
    refine lv_iload_n hx hb nd_P_placeAt_4 rfl (lv_at hl 0 rfl) ?_
    refine lv_bipush (v := 12) hx hb nd_P_placeAt_5 (by decide) ?_
    refine lv_icmp_ge (tgt := 20) hx hb nd_P_placeAt_7 rfl (fun hc => ?_) (fun hc => ?_)
    · replace hf := (if_pos hc).symm.trans hf
      exact absurd hf (by simp)
    · replace hf := (if_neg hc).symm.trans hf
      refine lv_iload_n hx hb nd_P_placeAt_10 rfl (lv_at hl 1 rfl) ?_
      refine lv_if_lt (tgt := 20) hx hb nd_P_placeAt_11 rfl (fun hc => ?_) (fun hc => ?_)
      · replace hf := (if_pos hc).symm.trans hf
        exact absurd hf (by simp)
      · replace hf := (if_neg hc).symm.trans hf
        refine lv_iload_n hx hb nd_P_placeAt_14 rfl (lv_at hl 1 rfl) ?_
        refine lv_bipush (v := 8) hx hb nd_P_placeAt_15 (by decide) ?_
        refine lv_icmp_lt (tgt := 30) hx hb nd_P_placeAt_17 rfl (fun hc => ?_) (fun hc => ?_)
        · replace hf := (if_pos hc).symm.trans hf
          replace hf := Sum.inr.inj hf
          refine lv_iload_n hx hb nd_P_placeAt_30 rfl (lv_at hl 1 rfl) ?_
          refine lv_bipush (v := 12) hx hb nd_P_placeAt_31 (by decide) ?_
          refine lv_imul hx hb nd_P_placeAt_33 ?_
          refine lv_iload_n hx hb nd_P_placeAt_34 rfl (lv_at hl 0 rfl) ?_
          refine lv_iadd hx hb nd_P_placeAt_35 ?_
          obtain rfl := hf
          exact W.iret hx hb hr (fun t ht hW => ⟨rfl, by rw [ht]; exact hP, va_K.moved hW.alike hK, hS.F ht⟩) hS.2.2 nd_P_placeAt_36
        · replace hf := (if_neg hc).symm.trans hf
          exact absurd hf (by simp)
set_option maxHeartbeats 4000000 in
set_option maxRecDepth 100000 in
theorem xc_P_isSign {l : Launch} {D : va_G} {A : Nat → Prop} {cA : Nat → ClassId} {ad : Nat → Nat} (hD : wdD 61 A ad) (a0 : Int32) (h : XH) (q : Int32) (hf : xf_P_isSign a0 = q) : CT l D vwCl (xtys cA) A ny_P_isSign (wsO ny_P_isSign prog_1_method_25_code 1 (some .boolean)) (rmO 0 0) [.int a0] (xW cA ad h) (xW cA ad h) (some (.int q)) := by
  refine Met.ofW (cc := prog_1_method_25_code) (maxL := 1) (ret := (some .boolean)) (by decide +kernel) rfl ?_
  intro p e s m args below meth c s₁ B hml hv
  obtain ⟨hav, hP, hK, hN⟩ := hv
  have hx := B.exec
  have hb := B.bytes
  have hr := B.returns
  have hts : ∀ w ∈ lw_wd, w.before args s = true := fun w hw => atoms_spec (ws := (wsO ny_P_isSign prog_1_method_25_code 1 (some .boolean))) B.pre w (List.mem_cons_of_mem _ hw)
  have hown : s.vm.findClass "DrawnPaths" = some m.cls := findClass_of_methodNamed B.named
  have hlocks := B.notSynchronized
  have hS : va_S A s.heap s.heap [] := va_S.rf
  have hl := lv_entry ([.int a0]) (n := 1) (Nat.le_of_ble_eq_true rfl)
  have hE : entryFrame m args 1 = entryFrame m ([.int a0] : List Value).toArray 1 := by rw [hav]
  rw [hE, lg_entry_eq]
  generalize (lg_sl ([.int a0]) ++ List.replicate (1 - (lg_sl ([.int a0])).length) Slot.unset).toArray = ls at hl ⊢
  have hl : lv_has ls 1 [(0, .int a0)] := hl
  unfold xf_P_isSign at hf
  refine lv_iload_n hx hb nd_P_isSign_0 rfl (lv_at hl 0 rfl) ?_
  refine lv_bipush (v := 32) hx hb nd_P_isSign_1 (by decide) ?_
  refine lv_icmp_lt (tgt := 16) hx hb nd_P_isSign_3 rfl (fun hc => ?_) (fun hc => ?_)
  · replace hf := (if_pos hc).symm.trans hf
    refine lv_iconst (v := 0) hx hb nd_P_isSign_16 (by decide) ?_
    obtain rfl := hf
    exact W.zret hx hb hr (by decide) (fun t ht hW => ⟨rfl, by rw [ht]; exact hP, va_K.moved hW.alike hK, hS.F ht⟩) hS.2.2 nd_P_isSign_17
  · replace hf := (if_neg hc).symm.trans hf
    refine lv_iload_n hx hb nd_P_isSign_6 rfl (lv_at hl 0 rfl) ?_
    refine lv_bipush (v := 126) hx hb nd_P_isSign_7 (by decide) ?_
    refine lv_icmp_gt (tgt := 16) hx hb nd_P_isSign_9 rfl (fun hc => ?_) (fun hc => ?_)
    · replace hf := (if_pos hc).symm.trans hf
      refine lv_iconst (v := 0) hx hb nd_P_isSign_16 (by decide) ?_
      obtain rfl := hf
      exact W.zret hx hb hr (by decide) (fun t ht hW => ⟨rfl, by rw [ht]; exact hP, va_K.moved hW.alike hK, hS.F ht⟩) hS.2.2 nd_P_isSign_17
    · replace hf := (if_neg hc).symm.trans hf
      refine lv_iconst (v := 1) hx hb nd_P_isSign_12 (by decide) ?_
      refine lv_goto hx hb nd_P_isSign_13 (tgt := 17) rfl ?_
      obtain rfl := hf
      exact W.zret hx hb hr (by decide) (fun t ht hW => ⟨rfl, by rw [ht]; exact hP, va_K.moved hW.alike hK, hS.F ht⟩) hS.2.2 nd_P_isSign_17
set_option maxHeartbeats 4000000 in
set_option maxRecDepth 100000 in
theorem xc_Block_isOver {l : Launch} {D : va_G} {A : Nat → Prop} {cA : Nat → ClassId} {ad : Nat → Nat} (hD : wdD 61 A ad) (k0 : Nat) (a1 : Int32) (h : XH) (q : Int32) (hk0 : k0 < 30) (hf : xf_Block_isOver k0 a1 h = q) : CT l D vwCl (xtys cA) A ny_Block_isOver (wsO ny_Block_isOver prog_2_method_2_code 4 (some .boolean)) (rmO 0 0) [.ref (ad (k0 + 31)), .int a1] (xW cA ad h) (xW cA ad h) (some (.int q)) := by
  refine Met.ofW (cc := prog_2_method_2_code) (maxL := 4) (ret := (some .boolean)) (by decide +kernel) rfl ?_
  intro p e s m args below meth c s₁ B hml hv
  obtain ⟨hav, hP, hK, hN⟩ := hv
  have hx := B.exec
  have hb := B.bytes
  have hr := B.returns
  have hts : ∀ w ∈ lw_wd, w.before args s = true := fun w hw => atoms_spec (ws := (wsO ny_Block_isOver prog_2_method_2_code 4 (some .boolean))) B.pre w (List.mem_cons_of_mem _ hw)
  have hown : s.vm.findClass "DrawnPaths$Block" = some m.cls := findClass_of_methodNamed B.named
  have hlocks := B.notSynchronized
  have hS : va_S A s.heap s.heap [] := va_S.rf
  have hl := lv_entry ([.ref (ad (k0 + 31)), .int a1]) (n := 4) (Nat.le_of_ble_eq_true rfl)
  have hE : entryFrame m args 4 = entryFrame m ([.ref (ad (k0 + 31)), .int a1] : List Value).toArray 4 := by rw [hav]
  rw [hE, lg_entry_eq]
  generalize (lg_sl ([.ref (ad (k0 + 31)), .int a1]) ++ List.replicate (4 - (lg_sl ([.ref (ad (k0 + 31)), .int a1])).length) Slot.unset).toArray = ls at hl ⊢
  have hl : lv_has ls 4 [(0, .ref (ad (k0 + 31))), (1, .int a1)] := hl
  have J17 : ∀ (H : Heap) (locs : List Loc) (ls : Array Slot) (h : XH) (hP : va_P D vwCl (xW cA ad h) H) (v1 : Int32) (w0 : Int64) (hS : va_S A s.heap H locs) (hl : lv_has ls 4 [(1, .int v1)]) (hf : xf_Block_isOver_J17 v1 w0 h = q), W p l e (headSpec (wsO ny_Block_isOver prog_2_method_2_code 4 (some .boolean)) (rmO 0 0)).room s m args below meth c H locs 0 0 (MQ below (RetQ D vwCl (xtys cA) A (some (.int q)) (xW cA ad h)) args s 0 0 A) (F0 m 17 ls [.long w0]) := by
    intro H locs ls h hP v1 w0 hS hl hf
    unfold xf_Block_isOver_J17 at hf
    refine lv_lstore_n (lv' := [(2, .long w0), (1, .int v1)]) hx hb nd_Block_isOver_17 rfl hl (by decide) rfl (fun ls hl => ?_)
    refine lv_lload_n hx hb nd_Block_isOver_18 rfl (lv_at hl 0 rfl) ?_
    refine lv_iload_n hx hb nd_Block_isOver_19 rfl (lv_at hl 1 rfl) ?_
    refine lv_bipush (v := 63) hx hb nd_Block_isOver_20 (by decide) ?_
    refine lv_iand hx hb nd_Block_isOver_22 ?_
    refine lv_lushr hx hb nd_Block_isOver_23 rfl ?_
    refine lv_lconst (v := 1) hx hb nd_Block_isOver_24 (by decide) ?_
    refine lv_land hx hb nd_Block_isOver_25 ?_
    refine lv_lconst (v := 1) hx hb nd_Block_isOver_26 (by decide) ?_
    refine W.lcmp hx hb nd_Block_isOver_27 ?_
    refine lv_if_ne (tgt := 35) hx hb nd_Block_isOver_28 rfl (fun hc => ?_) (fun hc => ?_)
    · replace hf := (if_neg hc).symm.trans hf
      refine lv_iconst (v := 0) hx hb nd_Block_isOver_35 (by decide) ?_
      obtain rfl := hf
      exact W.zret hx hb hr (by decide) (fun t ht hW => ⟨rfl, by rw [ht]; exact hP, va_K.moved hW.alike hK, hS.F ht⟩) hS.2.2 nd_Block_isOver_36
    · replace hf := (if_pos hc).symm.trans hf
      refine lv_iconst (v := 1) hx hb nd_Block_isOver_31 (by decide) ?_
      refine lv_goto hx hb nd_Block_isOver_32 (tgt := 36) rfl ?_
      obtain rfl := hf
      exact W.zret hx hb hr (by decide) (fun t ht hW => ⟨rfl, by rw [ht]; exact hP, va_K.moved hW.alike hK, hS.F ht⟩) hS.2.2 nd_Block_isOver_36
  unfold xf_Block_isOver at hf
  refine lv_iload_n hx hb nd_Block_isOver_0 rfl (lv_at hl 1 rfl) ?_
  refine lv_bipush (v := 64) hx hb nd_Block_isOver_1 (by decide) ?_
  refine lv_icmp_ge (tgt := 13) hx hb nd_Block_isOver_3 rfl (fun hc => ?_) (fun hc => ?_)
  · replace hf := (if_pos hc).symm.trans hf
    refine lv_aload_n hx hb nd_Block_isOver_13 rfl (lv_at hl 0 rfl) ?_
    refine xg_Block_highPlaces hx hb hts hown hK hP hk0 (hts _ nw_48) nd_Block_isOver_14 ?_
    exact J17 _ _ _ h hP a1 (xh_bhigh h k0) hS (lv_sub hl [1] rfl) hf
  · replace hf := (if_neg hc).symm.trans hf
    refine lv_aload_n hx hb nd_Block_isOver_6 rfl (lv_at hl 0 rfl) ?_
    refine xg_Block_lowPlaces hx hb hts hown hK hP hk0 (hts _ nw_47) nd_Block_isOver_7 ?_
    refine lv_goto hx hb nd_Block_isOver_10 (tgt := 17) rfl ?_
    exact J17 _ _ _ h hP a1 (xh_blow h k0) hS (lv_sub hl [1] rfl) hf
set_option maxHeartbeats 4000000 in
set_option maxRecDepth 100000 in
theorem xc_Blocks_drop {l : Launch} {D : va_G} {A : Nat → Prop} {cA : Nat → ClassId} {ad : Nat → Nat} (hD : wdD 61 A ad) (fuel : Nat) (a1 : Int32) (h : XH) (q : XH) (hf : xf_Blocks_drop fuel a1 h = some q) : CT l D vwCl (xtys cA) A ny_Blocks_drop (wsO ny_Blocks_drop prog_3_method_4_code 6 none) (rmO 1 23) [.ref (ad 1), .int a1] (xW cA ad h) (xW cA ad q) none := by
  refine Met.ofW (cc := prog_3_method_4_code) (maxL := 6) (ret := none) (by decide +kernel) rfl ?_
  intro p e s m args below meth c s₁ B hml hv
  obtain ⟨hav, hP, hK, hN⟩ := hv
  have hx := B.exec
  have hb := B.bytes
  have hr := B.returns
  have hts : ∀ w ∈ lw_wd, w.before args s = true := fun w hw => atoms_spec (ws := (wsO ny_Blocks_drop prog_3_method_4_code 6 none)) B.pre w (List.mem_cons_of_mem _ hw)
  have hown : s.vm.findClass "DrawnPaths$Blocks" = some m.cls := findClass_of_methodNamed B.named
  have hlocks := B.notSynchronized
  have hS : va_S A s.heap s.heap [] := va_S.rf
  have hl := lv_entry ([.ref (ad 1), .int a1]) (n := 6) (Nat.le_of_ble_eq_true rfl)
  have hE : entryFrame m args 6 = entryFrame m ([.ref (ad 1), .int a1] : List Value).toArray 6 := by rw [hav]
  rw [hE, lg_entry_eq]
  generalize (lg_sl ([.ref (ad 1), .int a1]) ++ List.replicate (6 - (lg_sl ([.ref (ad 1), .int a1])).length) Slot.unset).toArray = ls at hl ⊢
  have hl : lv_has ls 6 [(0, .ref (ad 1)), (1, .int a1)] := hl
  have L10 : ∀ (n : Nat) (H : Heap) (locs : List Loc) (ls : Array Slot) (h : XH) (hP : va_P D vwCl (xW cA ad h) H) (v1 : Int32) (v2 : Int32) (v3 : Int32) (v4 : Int32) (hS : va_S A s.heap H locs) (hl : lv_has ls 6 [(0, .ref (ad 1)), (1, .int v1), (2, .int v2), (3, .int v3), (4, .int v4)]) (hf : xf_Blocks_drop_L10 fuel n v1 v2 v3 v4 h = some q), W p l e (headSpec (wsO ny_Blocks_drop prog_3_method_4_code 6 none) (rmO 1 23)).room s m args below meth c H locs 0 0 (MQ below (RetQ D vwCl (xtys cA) A none (xW cA ad q)) args s 0 0 A) (F0 m 10 ls []) := by
    intro n
    induction n with
    | zero =>
      intro H locs ls h hP v1 v2 v3 v4 hS hl hf
      rw [xf_Blocks_drop_L10] at hf
      cases hf
    | succ nL10 ihL10 =>
      have J58 : ∀ (H : Heap) (locs : List Loc) (ls : Array Slot) (h : XH) (hP : va_P D vwCl (xW cA ad h) H) (v1 : Int32) (v2 : Int32) (v3 : Int32) (v4 : Int32) (hS : va_S A s.heap H locs) (hl : lv_has ls 6 [(0, .ref (ad 1)), (1, .int v1), (2, .int v2), (3, .int v3), (4, .int v4)]) (hf : xf_Blocks_drop_J58 fuel (xf_Blocks_drop_L10 fuel nL10) v1 v2 v3 v4 h = some q), W p l e (headSpec (wsO ny_Blocks_drop prog_3_method_4_code 6 none) (rmO 1 23)).room s m args below meth c H locs 0 0 (MQ below (RetQ D vwCl (xtys cA) A none (xW cA ad q)) args s 0 0 A) (F0 m 58 ls []) := by
        intro H locs ls h hP v1 v2 v3 v4 hS hl hf
        unfold xf_Blocks_drop_J58 at hf
        refine lv_iinc (v := (v4 + (1 : Int32))) (lv' := [(4, .int (v4 + (1 : Int32))), (0, .ref (ad 1)), (1, .int v1), (2, .int v2), (3, .int v3)]) hx hb nd_Blocks_drop_58 hl (k := 4) rfl rfl (by decide) rfl (fun ls hl => ?_)
        refine lv_goto hx hb nd_Blocks_drop_61 (tgt := 10) rfl ?_
        exact ihL10 _ _ _ h hP v1 v2 v3 (v4 + (1 : Int32)) hS (lv_sub hl [1, 2, 3, 4, 0] rfl) hf
      intro H locs ls h hP v1 v2 v3 v4 hS hl hf
      rw [xf_Blocks_drop_L10] at hf
      refine lv_iload hx hb nd_Blocks_drop_10 (lv_at hl 4 rfl) ?_
      refine lv_iload_n hx hb nd_Blocks_drop_12 rfl (lv_at hl 3 rfl) ?_
      refine lv_icmp_ge (tgt := 64) hx hb nd_Blocks_drop_13 rfl (fun hc => ?_) (fun hc => ?_)
      · replace hf := (if_pos hc).symm.trans hf
        refine lv_aload_n hx hb nd_Blocks_drop_64 rfl (lv_at hl 0 rfl) ?_
        refine lv_dup hx hb nd_Blocks_drop_65 rfl ?_
        refine xg_Blocks_dropped hx hb hts hown hK hP (hts _ nw_65) nd_Blocks_drop_66 ?_
        refine lv_iload_n hx hb nd_Blocks_drop_69 rfl (lv_at hl 3 rfl) ?_
        refine lv_iload_n hx hb nd_Blocks_drop_70 rfl (lv_at hl 2 rfl) ?_
        refine lv_isub hx hb nd_Blocks_drop_71 ?_
        refine lv_iadd hx hb nd_Blocks_drop_72 ?_
        refine xp_Blocks_dropped hx hb hts hown hK hD hP hS (hts _ nw_65) nd_Blocks_drop_73 (fun H locs hP hS => ?_)
        obtain ⟨g1, hg1, hf⟩ := Option.bind_eq_some_iff.mp hf
        rw [Option.some.inj hg1] at hP
        refine lv_aload_n hx hb nd_Blocks_drop_76 rfl (lv_at hl 0 rfl) ?_
        refine lv_iload_n hx hb nd_Blocks_drop_77 rfl (lv_at hl 2 rfl) ?_
        refine xp_Blocks_held hx hb hts hown hK hD hP hS (hts _ nw_63) nd_Blocks_drop_78 (fun H locs hP hS => ?_)
        obtain ⟨g2, hg2, hf⟩ := Option.bind_eq_some_iff.mp hf
        rw [Option.some.inj hg2] at hP
        obtain rfl := (Option.some.inj hf)
        exact W.vret hx hb hr (fun t ht hW => ⟨rfl, by rw [ht]; exact hP, va_K.moved hW.alike hK, hS.F ht⟩) hS.2.2 nd_Blocks_drop_81
      · replace hf := (if_neg hc).symm.trans hf
        refine lv_aload_n hx hb nd_Blocks_drop_16 rfl (lv_at hl 0 rfl) ?_
        refine xg_Blocks_row hx hb hts hown hK hP (hts _ nw_61) nd_Blocks_drop_17 ?_
        refine lv_iload hx hb nd_Blocks_drop_20 (lv_at hl 4 rfl) ?_
        obtain ⟨j3, hj3, hf⟩ := Option.bind_eq_some_iff.mp hf
        obtain ⟨k4, hk4, hf⟩ := Option.bind_eq_some_iff.mp hf
        obtain ⟨ek4, hk4⟩ := gn_eq hk4
        refine xal_row hx hb hK hP hj3 ek4 nd_Blocks_drop_22 ?_
        refine lv_astore (lv' := [(5, .ref (ad (k4 + 31))), (0, .ref (ad 1)), (1, .int v1), (2, .int v2), (3, .int v3), (4, .int v4)]) hx hb nd_Blocks_drop_23 hl (by decide) rfl (fun ls hl => ?_)
        refine lv_aload hx hb nd_Blocks_drop_25 (lv_at hl 0 rfl) ?_
        refine lv_iload_n hx hb nd_Blocks_drop_27 rfl (lv_at hl 2 rfl) ?_
        refine kc_V (As := [.int v1]) (rest := []) (st1 := [.int (xf_Block_isOver k4 v1 h)]) ⟨hx, hb, hml, hown, hts⟩ (xc_Block_isOver hD k4 v1 h _ hk4 rfl) (kb_Block_isOver hts (hts _ nw_455) ⟨Nat.le_of_ble_eq_true rfl, Nat.le_of_ble_eq_true rfl⟩) (xr_Block hK hP hk4) hK hN hP hS rfl hl.1 rfl rfl (Nat.le_of_ble_eq_true rfl) ⟨Nat.zero_le _, Nat.zero_le _⟩ nd_Blocks_drop_28 (fun H locs hP hS => ?_)
        refine lv_if_ne (tgt := 58) hx hb nd_Blocks_drop_31 rfl (fun hc => ?_) (fun hc => ?_)
        · replace hf := (if_neg hc).symm.trans hf
          exact J58 _ _ _ h hP v1 v2 v3 v4 hS (lv_sub hl [1, 2, 3, 4, 5] rfl) hf
        · replace hf := (if_pos hc).symm.trans hf
          refine lv_aload_n hx hb nd_Blocks_drop_34 rfl (lv_at hl 1 rfl) ?_
          refine xg_Blocks_row hx hb hts hown hK hP (hts _ nw_61) nd_Blocks_drop_35 ?_
          refine lv_iload hx hb nd_Blocks_drop_38 (lv_at hl 5 rfl) ?_
          refine lv_aload_n hx hb nd_Blocks_drop_40 rfl (lv_at hl 1 rfl) ?_
          refine xg_Blocks_row hx hb hts hown hK hP (hts _ nw_61) nd_Blocks_drop_41 ?_
          refine lv_iload_n hx hb nd_Blocks_drop_44 rfl (lv_at hl 3 rfl) ?_
          obtain ⟨j5, hj5, hf⟩ := Option.bind_eq_some_iff.mp hf
          obtain ⟨k6, hk6, hf⟩ := Option.bind_eq_some_iff.mp hf
          obtain ⟨ek6, hk6⟩ := gn_eq hk6
          refine xal_row hx hb hK hP hj5 ek6 nd_Blocks_drop_45 ?_
          obtain ⟨j7, hj7, hf⟩ := Option.bind_eq_some_iff.mp hf
          refine xas_row hx hb hK hD hP hS hj7 hk6 nd_Blocks_drop_46 (fun H locs hP hS => ?_)
          obtain ⟨g8, hg8, hf⟩ := Option.bind_eq_some_iff.mp hf
          rw [Option.some.inj hg8] at hP
          refine lv_aload_n hx hb nd_Blocks_drop_47 rfl (lv_at hl 1 rfl) ?_
          refine xg_Blocks_row hx hb hts hown hK hP (hts _ nw_61) nd_Blocks_drop_48 ?_
          refine lv_iload_n hx hb nd_Blocks_drop_51 rfl (lv_at hl 3 rfl) ?_
          refine lv_aload hx hb nd_Blocks_drop_52 (lv_at hl 0 rfl) ?_
          obtain ⟨j9, hj9, hf⟩ := Option.bind_eq_some_iff.mp hf
          refine xas_row hx hb hK hD hP hS hj9 hk4 nd_Blocks_drop_54 (fun H locs hP hS => ?_)
          obtain ⟨g10, hg10, hf⟩ := Option.bind_eq_some_iff.mp hf
          rw [Option.some.inj hg10] at hP
          refine lv_iinc (v := (v2 + (1 : Int32))) (lv' := [(2, .int (v2 + (1 : Int32))), (5, .ref (ad (k4 + 31))), (0, .ref (ad 1)), (1, .int v1), (3, .int v3), (4, .int v4)]) hx hb nd_Blocks_drop_55 hl (k := 3) rfl rfl (by decide) rfl (fun ls hl => ?_)
          exact J58 _ _ _ g10 hP v1 (v2 + (1 : Int32)) v3 v4 hS (lv_sub hl [2, 3, 0, 4, 5] rfl) hf
  unfold xf_Blocks_drop at hf
  refine lv_iconst (v := 0) hx hb nd_Blocks_drop_0 (by decide) ?_
  refine lv_istore_n (lv' := [(2, .int (0 : Int32)), (0, .ref (ad 1)), (1, .int a1)]) hx hb nd_Blocks_drop_1 rfl hl (by decide) rfl (fun ls hl => ?_)
  refine lv_aload_n hx hb nd_Blocks_drop_2 rfl (lv_at hl 1 rfl) ?_
  refine xg_Blocks_held hx hb hts hown hK hP (hts _ nw_63) nd_Blocks_drop_3 ?_
  refine lv_istore_n (lv' := [(3, .int (xh_held h)), (2, .int (0 : Int32)), (0, .ref (ad 1)), (1, .int a1)]) hx hb nd_Blocks_drop_6 rfl hl (by decide) rfl (fun ls hl => ?_)
  refine lv_iconst (v := 0) hx hb nd_Blocks_drop_7 (by decide) ?_
  refine lv_istore (lv' := [(4, .int (0 : Int32)), (3, .int (xh_held h)), (2, .int (0 : Int32)), (0, .ref (ad 1)), (1, .int a1)]) hx hb nd_Blocks_drop_8 hl (by decide) rfl (fun ls hl => ?_)
  exact L10 fuel _ _ _ h hP a1 (0 : Int32) (xh_held h) (0 : Int32) hS (lv_sub hl [3, 4, 2, 1, 0] rfl) hf
set_option maxHeartbeats 4000000 in
set_option maxRecDepth 100000 in
theorem xc_Field_write {l : Launch} {D : va_G} {A : Nat → Prop} {cA : Nat → ClassId} {ad : Nat → Nat} (hD : wdD 61 A ad) (fuel : Nat) (a1 : Int32) (a2 : Int32) (h : XH) (q : XH) (hf : xf_Field_write fuel a1 a2 h = some q) : CT l D vwCl (xtys cA) A ny_Field_write (wsO ny_Field_write prog_4_method_2_code 3 none) (rmO 2 48) [.ref (ad 4), .int a1, .int a2] (xW cA ad h) (xW cA ad q) none := by
  refine Met.ofW (cc := prog_4_method_2_code) (maxL := 3) (ret := none) (by decide +kernel) rfl ?_
  intro p e s m args below meth c s₁ B hml hv
  obtain ⟨hav, hP, hK, hN⟩ := hv
  have hx := B.exec
  have hb := B.bytes
  have hr := B.returns
  have hts : ∀ w ∈ lw_wd, w.before args s = true := fun w hw => atoms_spec (ws := (wsO ny_Field_write prog_4_method_2_code 3 none)) B.pre w (List.mem_cons_of_mem _ hw)
  have hown : s.vm.findClass "DrawnPaths$Field" = some m.cls := findClass_of_methodNamed B.named
  have hlocks := B.notSynchronized
  have hS : va_S A s.heap s.heap [] := va_S.rf
  have hl := lv_entry ([.ref (ad 4), .int a1, .int a2]) (n := 3) (Nat.le_of_ble_eq_true rfl)
  have hE : entryFrame m args 3 = entryFrame m ([.ref (ad 4), .int a1, .int a2] : List Value).toArray 3 := by rw [hav]
  rw [hE, lg_entry_eq]
  generalize (lg_sl ([.ref (ad 4), .int a1, .int a2]) ++ List.replicate (3 - (lg_sl ([.ref (ad 4), .int a1, .int a2])).length) Slot.unset).toArray = ls at hl ⊢
  have hl : lv_has ls 3 [(0, .ref (ad 4)), (1, .int a1), (2, .int a2)] := hl
  unfold xf_Field_write at hf
  refine lv_aload_n hx hb nd_Field_write_0 rfl (lv_at hl 0 rfl) ?_
  refine xg_Field_signs hx hb hts hown hK hP (hts _ nw_86) nd_Field_write_1 ?_
  refine lv_iload_n hx hb nd_Field_write_4 rfl (lv_at hl 1 rfl) ?_
  obtain ⟨j1, hj1, hf⟩ := Option.bind_eq_some_iff.mp hf
  refine xal_signs hx hb hK hP hj1 nd_Field_write_5 ?_
  refine lv_iload_n hx hb nd_Field_write_6 rfl (lv_at hl 2 rfl) ?_
  refine lv_icmp_eq (tgt := 25) hx hb nd_Field_write_7 rfl (fun hc => ?_) (fun hc => ?_)
  · replace hf := (if_pos hc).symm.trans hf
    obtain rfl := (Option.some.inj hf)
    exact W.vret hx hb hr (fun t ht hW => ⟨rfl, by rw [ht]; exact hP, va_K.moved hW.alike hK, hS.F ht⟩) hS.2.2 nd_Field_write_25
  · replace hf := (if_neg hc).symm.trans hf
    refine lv_aload_n hx hb nd_Field_write_10 rfl (lv_at hl 0 rfl) ?_
    refine xg_Field_signs hx hb hts hown hK hP (hts _ nw_86) nd_Field_write_11 ?_
    refine lv_iload_n hx hb nd_Field_write_14 rfl (lv_at hl 1 rfl) ?_
    refine lv_iload_n hx hb nd_Field_write_15 rfl (lv_at hl 2 rfl) ?_
    obtain ⟨j2, hj2, hf⟩ := Option.bind_eq_some_iff.mp hf
    refine xas_signs hx hb hK hD hP hS hj2 nd_Field_write_16 (fun H locs hP hS => ?_)
    obtain ⟨g3, hg3, hf⟩ := Option.bind_eq_some_iff.mp hf
    rw [Option.some.inj hg3] at hP
    refine lv_aload_n hx hb nd_Field_write_17 rfl (lv_at hl 0 rfl) ?_
    refine xg_Field_blocks hx hb hts hown hK hP (hts _ nw_89) nd_Field_write_18 ?_
    refine lv_iload_n hx hb nd_Field_write_21 rfl (lv_at hl 1 rfl) ?_
    obtain ⟨q4, hq4, hf⟩ := Option.bind_eq_some_iff.mp hf
    refine kc_V (As := [.int a1]) (rest := []) (st1 := []) ⟨hx, hb, hml, hown, hts⟩ (xc_Blocks_drop hD fuel a1 g3 _ hq4) (kb_Blocks_drop hts (hts _ nw_451) ⟨Nat.le_of_ble_eq_true rfl, Nat.le_of_ble_eq_true rfl⟩) (xr_Blocks hK hP) hK hN hP hS rfl hl.1 rfl rfl (Nat.le_of_ble_eq_true rfl) ⟨Nat.zero_le _, Nat.zero_le _⟩ nd_Field_write_22 (fun H locs hP hS => ?_)
    obtain rfl := (Option.some.inj hf)
    exact W.vret hx hb hr (fun t ht hW => ⟨rfl, by rw [ht]; exact hP, va_K.moved hW.alike hK, hS.F ht⟩) hS.2.2 nd_Field_write_25
set_option maxHeartbeats 4000000 in
set_option maxRecDepth 100000 in
theorem xc_P_put {l : Launch} {D : va_G} {A : Nat → Prop} {cA : Nat → ClassId} {ad : Nat → Nat} (hD : wdD 61 A ad) (fuel : Nat) (a1 : Int32) (a2 : Int32) (a3 : Int32) (h : XH) (q : Int32 × XH) (hf : xf_P_put fuel a1 a2 a3 h = some (Sum.inr q)) : CT l D vwCl (xtys cA) A ny_P_put (wsO ny_P_put prog_1_method_2_code 6 (some .char)) (rmO 7 121) [.ref (ad 0), .int a1, .int a2, .int a3] (xW cA ad h) (xW cA ad q.2) (some (.int q.1)) := by
  refine Met.ofW (cc := prog_1_method_2_code) (maxL := 6) (ret := (some .char)) (by decide +kernel) rfl ?_
  intro p e s m args below meth c s₁ B hml hv
  obtain ⟨hav, hP, hK, hN⟩ := hv
  have hx := B.exec
  have hb := B.bytes
  have hr := B.returns
  have hts : ∀ w ∈ lw_wd, w.before args s = true := fun w hw => atoms_spec (ws := (wsO ny_P_put prog_1_method_2_code 6 (some .char))) B.pre w (List.mem_cons_of_mem _ hw)
  have hown : s.vm.findClass "DrawnPaths" = some m.cls := findClass_of_methodNamed B.named
  have hlocks := B.notSynchronized
  have hS : va_S A s.heap s.heap [] := va_S.rf
  have hl := lv_entry ([.ref (ad 0), .int a1, .int a2, .int a3]) (n := 6) (Nat.le_of_ble_eq_true rfl)
  have hE : entryFrame m args 6 = entryFrame m ([.ref (ad 0), .int a1, .int a2, .int a3] : List Value).toArray 6 := by rw [hav]
  rw [hE, lg_entry_eq]
  generalize (lg_sl ([.ref (ad 0), .int a1, .int a2, .int a3]) ++ List.replicate (6 - (lg_sl ([.ref (ad 0), .int a1, .int a2, .int a3])).length) Slot.unset).toArray = ls at hl ⊢
  have hl : lv_has ls 6 [(0, .ref (ad 0)), (1, .int a1), (2, .int a2), (3, .int a3)] := hl
  unfold xf_P_put at hf
  refine lv_iload_n hx hb nd_P_put_0 rfl (lv_at hl 1 rfl) ?_
  refine lv_iload_n hx hb nd_P_put_1 rfl (lv_at hl 2 rfl) ?_
  obtain ⟨q1, hq1, hf⟩ := sbd_inr hf
  refine kc_S (As := [.int a1, .int a2]) (rest := []) (st1 := [.int q1]) ⟨hx, hb, hml, hown, hts⟩ (xc_P_placeAt hD a1 a2 h _ hq1) (kb_P_placeAt hts (hts _ nw_360) ⟨Nat.le_of_ble_eq_true rfl, Nat.le_of_ble_eq_true rfl⟩) hK hN hP hS rfl hl.1 rfl rfl (Nat.le_of_ble_eq_true rfl) ⟨Nat.zero_le _, Nat.zero_le _⟩ nd_P_put_2 (fun H locs hP hS => ?_)
  refine lv_istore (lv' := [(4, .int q1), (0, .ref (ad 0)), (1, .int a1), (2, .int a2), (3, .int a3)]) hx hb nd_P_put_5 hl (by decide) rfl (fun ls hl => ?_)
  refine lv_iload_n hx hb nd_P_put_7 rfl (lv_at hl 4 rfl) ?_
  refine kc_S (As := [.int a3]) (rest := []) (st1 := [.int (xf_P_isSign a3)]) ⟨hx, hb, hml, hown, hts⟩ (xc_P_isSign hD a3 h _ rfl) (kb_P_isSign hts (hts _ nw_226) ⟨Nat.le_of_ble_eq_true rfl, Nat.le_of_ble_eq_true rfl⟩) hK hN hP hS rfl hl.1 rfl rfl (Nat.le_of_ble_eq_true rfl) ⟨Nat.zero_le _, Nat.zero_le _⟩ nd_P_put_8 (fun H locs hP hS => ?_)
  refine lv_if_ne (tgt := 24) hx hb nd_P_put_11 rfl (fun hc => ?_) (fun hc => ?_)
  · replace hf := (if_neg hc).symm.trans hf
    replace hf := map_inr hf
    refine lv_aload_n hx hb nd_P_put_24 rfl (lv_at hl 1 rfl) ?_
    refine xg_P_field hx hb hts hown hK hP (hts _ nw_204) nd_P_put_25 ?_
    refine xg_Field_signs hx hb hts hown hK hP (hts _ nw_87) nd_P_put_28 ?_
    refine lv_iload hx hb nd_P_put_31 (lv_at hl 0 rfl) ?_
    obtain ⟨j2, hj2, hf⟩ := Option.bind_eq_some_iff.mp hf
    refine xal_signs hx hb hK hP hj2 nd_P_put_33 ?_
    refine lv_istore (lv' := [(5, .int (xh_signs h j2)), (4, .int q1), (0, .ref (ad 0)), (1, .int a1), (2, .int a2), (3, .int a3)]) hx hb nd_P_put_34 hl (by decide) rfl (fun ls hl => ?_)
    refine lv_aload_n hx hb nd_P_put_36 rfl (lv_at hl 2 rfl) ?_
    refine xg_P_field hx hb hts hown hK hP (hts _ nw_204) nd_P_put_37 ?_
    refine lv_iload hx hb nd_P_put_40 (lv_at hl 1 rfl) ?_
    refine lv_iload_n hx hb nd_P_put_42 rfl (lv_at hl 5 rfl) ?_
    obtain ⟨q3, hq3, hf⟩ := Option.bind_eq_some_iff.mp hf
    refine kc_V (As := [.int q1, .int a3]) (rest := []) (st1 := []) ⟨hx, hb, hml, hown, hts⟩ (xc_Field_write hD fuel q1 a3 h _ hq3) (kb_Field_write hts (hts _ nw_447) ⟨Nat.le_of_ble_eq_true rfl, Nat.le_of_ble_eq_true rfl⟩) (xr_Field hK hP) hK hN hP hS rfl hl.1 rfl rfl (Nat.le_of_ble_eq_true rfl) ⟨Nat.zero_le _, Nat.zero_le _⟩ nd_P_put_43 (fun H locs hP hS => ?_)
    refine lv_iload hx hb nd_P_put_46 (lv_at hl 0 rfl) ?_
    obtain ⟨r4, hr4, hf⟩ := Option.bind_eq_some_iff.mp hf
    obtain ⟨er4, ur4⟩ := nc_eq hr4
    subst er4
    obtain rfl := (Option.some.inj hf)
    exact W.zret hx hb hr (nc_nar ur4) (fun t ht hW => ⟨rfl, by rw [ht]; exact hP, va_K.moved hW.alike hK, hS.F ht⟩) hS.2.2 nd_P_put_48
  · replace hf := (if_pos hc).symm.trans hf
    exact absurd hf (by simp)
set_option maxHeartbeats 4000000 in
set_option maxRecDepth 100000 in
theorem xc_P_sign {l : Launch} {D : va_G} {A : Nat → Prop} {cA : Nat → ClassId} {ad : Nat → Nat} (hD : wdD 61 A ad) (a1 : Int32) (a2 : Int32) (h : XH) (q : Int32) (hf : xf_P_sign a1 a2 h = some (Sum.inr q)) : CT l D vwCl (xtys cA) A ny_P_sign (wsO ny_P_sign prog_1_method_3_code 3 (some .char)) (rmO 7 121) [.ref (ad 0), .int a1, .int a2] (xW cA ad h) (xW cA ad h) (some (.int q)) := by
  refine Met.ofW (cc := prog_1_method_3_code) (maxL := 3) (ret := (some .char)) (by decide +kernel) rfl ?_
  intro p e s m args below meth c s₁ B hml hv
  obtain ⟨hav, hP, hK, hN⟩ := hv
  have hx := B.exec
  have hb := B.bytes
  have hr := B.returns
  have hts : ∀ w ∈ lw_wd, w.before args s = true := fun w hw => atoms_spec (ws := (wsO ny_P_sign prog_1_method_3_code 3 (some .char))) B.pre w (List.mem_cons_of_mem _ hw)
  have hown : s.vm.findClass "DrawnPaths" = some m.cls := findClass_of_methodNamed B.named
  have hlocks := B.notSynchronized
  have hS : va_S A s.heap s.heap [] := va_S.rf
  have hl := lv_entry ([.ref (ad 0), .int a1, .int a2]) (n := 3) (Nat.le_of_ble_eq_true rfl)
  have hE : entryFrame m args 3 = entryFrame m ([.ref (ad 0), .int a1, .int a2] : List Value).toArray 3 := by rw [hav]
  rw [hE, lg_entry_eq]
  generalize (lg_sl ([.ref (ad 0), .int a1, .int a2]) ++ List.replicate (3 - (lg_sl ([.ref (ad 0), .int a1, .int a2])).length) Slot.unset).toArray = ls at hl ⊢
  have hl : lv_has ls 3 [(0, .ref (ad 0)), (1, .int a1), (2, .int a2)] := hl
  unfold xf_P_sign at hf
  refine lv_aload_n hx hb nd_P_sign_0 rfl (lv_at hl 0 rfl) ?_
  refine xg_P_field hx hb hts hown hK hP (hts _ nw_204) nd_P_sign_1 ?_
  refine xg_Field_signs hx hb hts hown hK hP (hts _ nw_87) nd_P_sign_4 ?_
  refine lv_iload_n hx hb nd_P_sign_7 rfl (lv_at hl 1 rfl) ?_
  refine lv_iload_n hx hb nd_P_sign_8 rfl (lv_at hl 2 rfl) ?_
  obtain ⟨q1, hq1, hf⟩ := sbd_inr hf
  refine kc_S (As := [.int a1, .int a2]) (rest := [.ref (ad 5)]) (st1 := [.int q1, .ref (ad 5)]) ⟨hx, hb, hml, hown, hts⟩ (xc_P_placeAt hD a1 a2 h _ hq1) (kb_P_placeAt hts (hts _ nw_360) ⟨Nat.le_of_ble_eq_true rfl, Nat.le_of_ble_eq_true rfl⟩) hK hN hP hS rfl hl.1 rfl rfl (Nat.le_of_ble_eq_true rfl) ⟨Nat.zero_le _, Nat.zero_le _⟩ nd_P_sign_9 (fun H locs hP hS => ?_)
  replace hf := map_inr hf
  obtain ⟨j2, hj2, hf⟩ := Option.bind_eq_some_iff.mp hf
  refine xal_signs hx hb hK hP hj2 nd_P_sign_12 ?_
  obtain ⟨r3, hr3, hf⟩ := Option.bind_eq_some_iff.mp hf
  obtain ⟨er3, ur3⟩ := nc_eq hr3
  subst er3
  obtain rfl := (Option.some.inj hf)
  exact W.zret hx hb hr (nc_nar ur3) (fun t ht hW => ⟨rfl, by rw [ht]; exact hP, va_K.moved hW.alike hK, hS.F ht⟩) hS.2.2 nd_P_sign_13
set_option maxHeartbeats 4000000 in
set_option maxRecDepth 100000 in
theorem xc_Line_hasRoom {l : Launch} {D : va_G} {A : Nat → Prop} {cA : Nat → ClassId} {ad : Nat → Nat} (hD : wdD 61 A ad) (k0 : Nat) (a1 : Int32) (h : XH) (q : Int32) (hk0 : k0 < 3) (hf : xf_Line_hasRoom k0 a1 h = q) : CT l D vwCl (xtys cA) A ny_Line_hasRoom (wsO ny_Line_hasRoom prog_5_method_2_code 2 (some .boolean)) (rmO 0 0) [.ref (ad (k0 + 13)), .int a1] (xW cA ad h) (xW cA ad h) (some (.int q)) := by
  refine Met.ofW (cc := prog_5_method_2_code) (maxL := 2) (ret := (some .boolean)) (by decide +kernel) rfl ?_
  intro p e s m args below meth c s₁ B hml hv
  obtain ⟨hav, hP, hK, hN⟩ := hv
  have hx := B.exec
  have hb := B.bytes
  have hr := B.returns
  have hts : ∀ w ∈ lw_wd, w.before args s = true := fun w hw => atoms_spec (ws := (wsO ny_Line_hasRoom prog_5_method_2_code 2 (some .boolean))) B.pre w (List.mem_cons_of_mem _ hw)
  have hown : s.vm.findClass "DrawnPaths$Line" = some m.cls := findClass_of_methodNamed B.named
  have hlocks := B.notSynchronized
  have hS : va_S A s.heap s.heap [] := va_S.rf
  have hl := lv_entry ([.ref (ad (k0 + 13)), .int a1]) (n := 2) (Nat.le_of_ble_eq_true rfl)
  have hE : entryFrame m args 2 = entryFrame m ([.ref (ad (k0 + 13)), .int a1] : List Value).toArray 2 := by rw [hav]
  rw [hE, lg_entry_eq]
  generalize (lg_sl ([.ref (ad (k0 + 13)), .int a1]) ++ List.replicate (2 - (lg_sl ([.ref (ad (k0 + 13)), .int a1])).length) Slot.unset).toArray = ls at hl ⊢
  have hl : lv_has ls 2 [(0, .ref (ad (k0 + 13))), (1, .int a1)] := hl
  unfold xf_Line_hasRoom at hf
  refine lv_iload_n hx hb nd_Line_hasRoom_0 rfl (lv_at hl 1 rfl) ?_
  refine lv_aload_n hx hb nd_Line_hasRoom_1 rfl (lv_at hl 0 rfl) ?_
  refine xg_Line_characters hx hb hts hown hK hP hk0 (hts _ nw_111) nd_Line_hasRoom_2 ?_
  refine xln_lchars hx hb hK hP hk0 nd_Line_hasRoom_5 ?_
  refine lv_aload_n hx hb nd_Line_hasRoom_6 rfl (lv_at hl 0 rfl) ?_
  refine xg_Line_size hx hb hts hown hK hP hk0 (hts _ nw_112) nd_Line_hasRoom_7 ?_
  refine lv_isub hx hb nd_Line_hasRoom_10 ?_
  refine lv_icmp_gt (tgt := 18) hx hb nd_Line_hasRoom_11 rfl (fun hc => ?_) (fun hc => ?_)
  · replace hf := (if_pos hc).symm.trans hf
    refine lv_iconst (v := 0) hx hb nd_Line_hasRoom_18 (by decide) ?_
    obtain rfl := hf
    exact W.zret hx hb hr (by decide) (fun t ht hW => ⟨rfl, by rw [ht]; exact hP, va_K.moved hW.alike hK, hS.F ht⟩) hS.2.2 nd_Line_hasRoom_19
  · replace hf := (if_neg hc).symm.trans hf
    refine lv_iconst (v := 1) hx hb nd_Line_hasRoom_14 (by decide) ?_
    refine lv_goto hx hb nd_Line_hasRoom_15 (tgt := 19) rfl ?_
    obtain rfl := hf
    exact W.zret hx hb hr (by decide) (fun t ht hW => ⟨rfl, by rw [ht]; exact hP, va_K.moved hW.alike hK, hS.F ht⟩) hS.2.2 nd_Line_hasRoom_19
set_option maxHeartbeats 4000000 in
set_option maxRecDepth 100000 in
theorem xc_Line_add {l : Launch} {D : va_G} {A : Nat → Prop} {cA : Nat → ClassId} {ad : Nat → Nat} (hD : wdD 61 A ad) (k0 : Nat) (a1 : Int32) (h : XH) (q : XH) (hk0 : k0 < 3) (hf : xf_Line_add k0 a1 h = some q) : CT l D vwCl (xtys cA) A ny_Line_add (wsO ny_Line_add prog_5_method_3_code 2 none) (rmO 0 0) [.ref (ad (k0 + 13)), .int a1] (xW cA ad h) (xW cA ad q) none := by
  refine Met.ofW (cc := prog_5_method_3_code) (maxL := 2) (ret := none) (by decide +kernel) rfl ?_
  intro p e s m args below meth c s₁ B hml hv
  obtain ⟨hav, hP, hK, hN⟩ := hv
  have hx := B.exec
  have hb := B.bytes
  have hr := B.returns
  have hts : ∀ w ∈ lw_wd, w.before args s = true := fun w hw => atoms_spec (ws := (wsO ny_Line_add prog_5_method_3_code 2 none)) B.pre w (List.mem_cons_of_mem _ hw)
  have hown : s.vm.findClass "DrawnPaths$Line" = some m.cls := findClass_of_methodNamed B.named
  have hlocks := B.notSynchronized
  have hS : va_S A s.heap s.heap [] := va_S.rf
  have hl := lv_entry ([.ref (ad (k0 + 13)), .int a1]) (n := 2) (Nat.le_of_ble_eq_true rfl)
  have hE : entryFrame m args 2 = entryFrame m ([.ref (ad (k0 + 13)), .int a1] : List Value).toArray 2 := by rw [hav]
  rw [hE, lg_entry_eq]
  generalize (lg_sl ([.ref (ad (k0 + 13)), .int a1]) ++ List.replicate (2 - (lg_sl ([.ref (ad (k0 + 13)), .int a1])).length) Slot.unset).toArray = ls at hl ⊢
  have hl : lv_has ls 2 [(0, .ref (ad (k0 + 13))), (1, .int a1)] := hl
  unfold xf_Line_add at hf
  refine lv_aload_n hx hb nd_Line_add_0 rfl (lv_at hl 0 rfl) ?_
  refine xg_Line_size hx hb hts hown hK hP hk0 (hts _ nw_112) nd_Line_add_1 ?_
  refine lv_aload_n hx hb nd_Line_add_4 rfl (lv_at hl 0 rfl) ?_
  refine xg_Line_characters hx hb hts hown hK hP hk0 (hts _ nw_111) nd_Line_add_5 ?_
  refine xln_lchars hx hb hK hP hk0 nd_Line_add_8 ?_
  refine lv_icmp_ge (tgt := 32) hx hb nd_Line_add_9 rfl (fun hc => ?_) (fun hc => ?_)
  · replace hf := (if_pos hc).symm.trans hf
    obtain rfl := (Option.some.inj hf)
    exact W.vret hx hb hr (fun t ht hW => ⟨rfl, by rw [ht]; exact hP, va_K.moved hW.alike hK, hS.F ht⟩) hS.2.2 nd_Line_add_32
  · replace hf := (if_neg hc).symm.trans hf
    refine lv_aload_n hx hb nd_Line_add_12 rfl (lv_at hl 0 rfl) ?_
    refine xg_Line_characters hx hb hts hown hK hP hk0 (hts _ nw_111) nd_Line_add_13 ?_
    refine lv_aload_n hx hb nd_Line_add_16 rfl (lv_at hl 0 rfl) ?_
    refine xg_Line_size hx hb hts hown hK hP hk0 (hts _ nw_112) nd_Line_add_17 ?_
    refine lv_iload_n hx hb nd_Line_add_20 rfl (lv_at hl 1 rfl) ?_
    obtain ⟨j1, hj1, hf⟩ := Option.bind_eq_some_iff.mp hf
    refine xas_lchars hx hb hK hD hP hS hk0 hj1 nd_Line_add_21 (fun H locs hP hS => ?_)
    obtain ⟨g2, hg2, hf⟩ := Option.bind_eq_some_iff.mp hf
    rw [Option.some.inj hg2] at hP
    refine lv_aload_n hx hb nd_Line_add_22 rfl (lv_at hl 0 rfl) ?_
    refine lv_dup hx hb nd_Line_add_23 rfl ?_
    refine xg_Line_size hx hb hts hown hK hP hk0 (hts _ nw_112) nd_Line_add_24 ?_
    refine lv_iconst (v := 1) hx hb nd_Line_add_27 (by decide) ?_
    refine lv_iadd hx hb nd_Line_add_28 ?_
    refine xp_Line_size hx hb hts hown hK hD hP hS hk0 (hts _ nw_112) nd_Line_add_29 (fun H locs hP hS => ?_)
    obtain ⟨g3, hg3, hf⟩ := Option.bind_eq_some_iff.mp hf
    rw [Option.some.inj hg3] at hP
    obtain rfl := (Option.some.inj hf)
    exact W.vret hx hb hr (fun t ht hW => ⟨rfl, by rw [ht]; exact hP, va_K.moved hW.alike hK, hS.F ht⟩) hS.2.2 nd_Line_add_32
set_option maxHeartbeats 4000000 in
set_option maxRecDepth 100000 in
theorem xc_P_type {l : Launch} {D : va_G} {A : Nat → Prop} {cA : Nat → ClassId} {ad : Nat → Nat} (hD : wdD 61 A ad) (a1 : Int32) (h : XH) (q : Int32 × XH) (hf : xf_P_type a1 h = some q) : CT l D vwCl (xtys cA) A ny_P_type (wsO ny_P_type prog_1_method_4_code 2 (some .boolean)) (rmO 1 21) [.ref (ad 0), .int a1] (xW cA ad h) (xW cA ad q.2) (some (.int q.1)) := by
  refine Met.ofW (cc := prog_1_method_4_code) (maxL := 2) (ret := (some .boolean)) (by decide +kernel) rfl ?_
  intro p e s m args below meth c s₁ B hml hv
  obtain ⟨hav, hP, hK, hN⟩ := hv
  have hx := B.exec
  have hb := B.bytes
  have hr := B.returns
  have hts : ∀ w ∈ lw_wd, w.before args s = true := fun w hw => atoms_spec (ws := (wsO ny_P_type prog_1_method_4_code 2 (some .boolean))) B.pre w (List.mem_cons_of_mem _ hw)
  have hown : s.vm.findClass "DrawnPaths" = some m.cls := findClass_of_methodNamed B.named
  have hlocks := B.notSynchronized
  have hS : va_S A s.heap s.heap [] := va_S.rf
  have hl := lv_entry ([.ref (ad 0), .int a1]) (n := 2) (Nat.le_of_ble_eq_true rfl)
  have hE : entryFrame m args 2 = entryFrame m ([.ref (ad 0), .int a1] : List Value).toArray 2 := by rw [hav]
  rw [hE, lg_entry_eq]
  generalize (lg_sl ([.ref (ad 0), .int a1]) ++ List.replicate (2 - (lg_sl ([.ref (ad 0), .int a1])).length) Slot.unset).toArray = ls at hl ⊢
  have hl : lv_has ls 2 [(0, .ref (ad 0)), (1, .int a1)] := hl
  unfold xf_P_type at hf
  refine lv_iload_n hx hb nd_P_type_0 rfl (lv_at hl 1 rfl) ?_
  refine kc_S (As := [.int a1]) (rest := []) (st1 := [.int (xf_P_isSign a1)]) ⟨hx, hb, hml, hown, hts⟩ (xc_P_isSign hD a1 h _ rfl) (kb_P_isSign hts (hts _ nw_226) ⟨Nat.le_of_ble_eq_true rfl, Nat.le_of_ble_eq_true rfl⟩) hK hN hP hS rfl hl.1 rfl rfl (Nat.le_of_ble_eq_true rfl) ⟨Nat.zero_le _, Nat.zero_le _⟩ nd_P_type_1 (fun H locs hP hS => ?_)
  refine lv_if_eq (tgt := 18) hx hb nd_P_type_4 rfl (fun hc => ?_) (fun hc => ?_)
  · replace hf := (if_pos hc).symm.trans hf
    refine lv_iconst (v := 0) hx hb nd_P_type_18 (by decide) ?_
    obtain rfl := (Option.some.inj hf)
    exact W.zret hx hb hr (by decide) (fun t ht hW => ⟨rfl, by rw [ht]; exact hP, va_K.moved hW.alike hK, hS.F ht⟩) hS.2.2 nd_P_type_19
  · replace hf := (if_neg hc).symm.trans hf
    refine lv_aload_n hx hb nd_P_type_7 rfl (lv_at hl 0 rfl) ?_
    refine xg_P_text hx hb hts hown hK hP (hts _ nw_207) nd_P_type_8 ?_
    refine lv_iconst (v := 1) hx hb nd_P_type_11 (by decide) ?_
    refine kc_V (As := [.int (1 : Int32)]) (rest := []) (st1 := [.int (xf_Line_hasRoom 1 (1 : Int32) h)]) ⟨hx, hb, hml, hown, hts⟩ (xc_Line_hasRoom hD 1 (1 : Int32) h _ (by decide) rfl) (kb_Line_hasRoom hts (hts _ nw_229) ⟨Nat.le_of_ble_eq_true rfl, Nat.le_of_ble_eq_true rfl⟩) (xr_Line hK hP (by decide)) hK hN hP hS rfl hl.1 rfl rfl (Nat.le_of_ble_eq_true rfl) ⟨Nat.zero_le _, Nat.zero_le _⟩ nd_P_type_12 (fun H locs hP hS => ?_)
    refine lv_if_ne (tgt := 20) hx hb nd_P_type_15 rfl (fun hc => ?_) (fun hc => ?_)
    · replace hf := (if_neg hc).symm.trans hf
      refine lv_aload_n hx hb nd_P_type_20 rfl (lv_at hl 0 rfl) ?_
      refine xg_P_text hx hb hts hown hK hP (hts _ nw_207) nd_P_type_21 ?_
      refine lv_iload_n hx hb nd_P_type_24 rfl (lv_at hl 1 rfl) ?_
      obtain ⟨q1, hq1, hf⟩ := Option.bind_eq_some_iff.mp hf
      refine kc_V (As := [.int a1]) (rest := []) (st1 := []) ⟨hx, hb, hml, hown, hts⟩ (xc_Line_add hD 1 a1 h _ (by decide) hq1) (kb_Line_add hts (hts _ nw_233) ⟨Nat.le_of_ble_eq_true rfl, Nat.le_of_ble_eq_true rfl⟩) (xr_Line hK hP (by decide)) hK hN hP hS rfl hl.1 rfl rfl (Nat.le_of_ble_eq_true rfl) ⟨Nat.zero_le _, Nat.zero_le _⟩ nd_P_type_25 (fun H locs hP hS => ?_)
      refine lv_iconst (v := 1) hx hb nd_P_type_28 (by decide) ?_
      obtain rfl := (Option.some.inj hf)
      exact W.zret hx hb hr (by decide) (fun t ht hW => ⟨rfl, by rw [ht]; exact hP, va_K.moved hW.alike hK, hS.F ht⟩) hS.2.2 nd_P_type_29
    · replace hf := (if_pos hc).symm.trans hf
      refine lv_iconst (v := 0) hx hb nd_P_type_18 (by decide) ?_
      obtain rfl := (Option.some.inj hf)
      exact W.zret hx hb hr (by decide) (fun t ht hW => ⟨rfl, by rw [ht]; exact hP, va_K.moved hW.alike hK, hS.F ht⟩) hS.2.2 nd_P_type_19
set_option maxHeartbeats 4000000 in
set_option maxRecDepth 100000 in
theorem xc_Line_at {l : Launch} {D : va_G} {A : Nat → Prop} {cA : Nat → ClassId} {ad : Nat → Nat} (hD : wdD 61 A ad) (k0 : Nat) (a1 : Int32) (h : XH) (q : Int32) (hk0 : k0 < 3) (hf : xf_Line_at k0 a1 h = some q) : CT l D vwCl (xtys cA) A ny_Line_at (wsO ny_Line_at prog_5_method_4_code 2 (some .char)) (rmO 0 0) [.ref (ad (k0 + 13)), .int a1] (xW cA ad h) (xW cA ad h) (some (.int q)) := by
  refine Met.ofW (cc := prog_5_method_4_code) (maxL := 2) (ret := (some .char)) (by decide +kernel) rfl ?_
  intro p e s m args below meth c s₁ B hml hv
  obtain ⟨hav, hP, hK, hN⟩ := hv
  have hx := B.exec
  have hb := B.bytes
  have hr := B.returns
  have hts : ∀ w ∈ lw_wd, w.before args s = true := fun w hw => atoms_spec (ws := (wsO ny_Line_at prog_5_method_4_code 2 (some .char))) B.pre w (List.mem_cons_of_mem _ hw)
  have hown : s.vm.findClass "DrawnPaths$Line" = some m.cls := findClass_of_methodNamed B.named
  have hlocks := B.notSynchronized
  have hS : va_S A s.heap s.heap [] := va_S.rf
  have hl := lv_entry ([.ref (ad (k0 + 13)), .int a1]) (n := 2) (Nat.le_of_ble_eq_true rfl)
  have hE : entryFrame m args 2 = entryFrame m ([.ref (ad (k0 + 13)), .int a1] : List Value).toArray 2 := by rw [hav]
  rw [hE, lg_entry_eq]
  generalize (lg_sl ([.ref (ad (k0 + 13)), .int a1]) ++ List.replicate (2 - (lg_sl ([.ref (ad (k0 + 13)), .int a1])).length) Slot.unset).toArray = ls at hl ⊢
  have hl : lv_has ls 2 [(0, .ref (ad (k0 + 13))), (1, .int a1)] := hl
  unfold xf_Line_at at hf
  refine lv_iload_n hx hb nd_Line_at_0 rfl (lv_at hl 1 rfl) ?_
  refine lv_if_lt (tgt := 21) hx hb nd_Line_at_1 rfl (fun hc => ?_) (fun hc => ?_)
  · replace hf := (if_pos hc).symm.trans hf
    refine lv_bipush (v := 32) hx hb nd_Line_at_21 (by decide) ?_
    obtain rfl := (Option.some.inj hf)
    exact W.zret hx hb hr (by decide) (fun t ht hW => ⟨rfl, by rw [ht]; exact hP, va_K.moved hW.alike hK, hS.F ht⟩) hS.2.2 nd_Line_at_23
  · replace hf := (if_neg hc).symm.trans hf
    refine lv_iload_n hx hb nd_Line_at_4 rfl (lv_at hl 1 rfl) ?_
    refine lv_aload_n hx hb nd_Line_at_5 rfl (lv_at hl 0 rfl) ?_
    refine xg_Line_size hx hb hts hown hK hP hk0 (hts _ nw_112) nd_Line_at_6 ?_
    refine lv_icmp_ge (tgt := 21) hx hb nd_Line_at_9 rfl (fun hc => ?_) (fun hc => ?_)
    · replace hf := (if_pos hc).symm.trans hf
      refine lv_bipush (v := 32) hx hb nd_Line_at_21 (by decide) ?_
      obtain rfl := (Option.some.inj hf)
      exact W.zret hx hb hr (by decide) (fun t ht hW => ⟨rfl, by rw [ht]; exact hP, va_K.moved hW.alike hK, hS.F ht⟩) hS.2.2 nd_Line_at_23
    · replace hf := (if_neg hc).symm.trans hf
      refine lv_aload_n hx hb nd_Line_at_12 rfl (lv_at hl 0 rfl) ?_
      refine xg_Line_characters hx hb hts hown hK hP hk0 (hts _ nw_111) nd_Line_at_13 ?_
      refine lv_iload_n hx hb nd_Line_at_16 rfl (lv_at hl 1 rfl) ?_
      obtain ⟨j1, hj1, hf⟩ := Option.bind_eq_some_iff.mp hf
      refine xal_lchars hx hb hK hP hk0 hj1 nd_Line_at_17 ?_
      refine lv_goto hx hb nd_Line_at_18 (tgt := 23) rfl ?_
      obtain ⟨r2, hr2, hf⟩ := Option.bind_eq_some_iff.mp hf
      obtain ⟨er2, ur2⟩ := nc_eq hr2
      subst er2
      obtain rfl := (Option.some.inj hf)
      exact W.zret hx hb hr (nc_nar ur2) (fun t ht hW => ⟨rfl, by rw [ht]; exact hP, va_K.moved hW.alike hK, hS.F ht⟩) hS.2.2 nd_Line_at_23
end
section
set_option maxHeartbeats 4000000 in
set_option maxRecDepth 100000 in
theorem xc_Line_empty {l : Launch} {D : va_G} {A : Nat → Prop} {cA : Nat → ClassId} {ad : Nat → Nat} (hD : wdD 61 A ad) (k0 : Nat) (h : XH) (q : XH) (hk0 : k0 < 3) (hf : xf_Line_empty k0 h = q) : CT l D vwCl (xtys cA) A ny_Line_empty (wsO ny_Line_empty prog_5_method_5_code 1 none) (rmO 0 0) [.ref (ad (k0 + 13))] (xW cA ad h) (xW cA ad q) none := by
  refine Met.ofW (cc := prog_5_method_5_code) (maxL := 1) (ret := none) (by decide +kernel) rfl ?_
  intro p e s m args below meth c s₁ B hml hv
  obtain ⟨hav, hP, hK, hN⟩ := hv
  have hx := B.exec
  have hb := B.bytes
  have hr := B.returns
  have hts : ∀ w ∈ lw_wd, w.before args s = true := fun w hw => atoms_spec (ws := (wsO ny_Line_empty prog_5_method_5_code 1 none)) B.pre w (List.mem_cons_of_mem _ hw)
  have hown : s.vm.findClass "DrawnPaths$Line" = some m.cls := findClass_of_methodNamed B.named
  have hlocks := B.notSynchronized
  have hS : va_S A s.heap s.heap [] := va_S.rf
  have hl := lv_entry ([.ref (ad (k0 + 13))]) (n := 1) (Nat.le_of_ble_eq_true rfl)
  have hE : entryFrame m args 1 = entryFrame m ([.ref (ad (k0 + 13))] : List Value).toArray 1 := by rw [hav]
  rw [hE, lg_entry_eq]
  generalize (lg_sl ([.ref (ad (k0 + 13))]) ++ List.replicate (1 - (lg_sl ([.ref (ad (k0 + 13))])).length) Slot.unset).toArray = ls at hl ⊢
  have hl : lv_has ls 1 [(0, .ref (ad (k0 + 13)))] := hl
  unfold xf_Line_empty at hf
  refine lv_aload_n hx hb nd_Line_empty_0 rfl (lv_at hl 0 rfl) ?_
  refine lv_iconst (v := 0) hx hb nd_Line_empty_1 (by decide) ?_
  refine xp_Line_size hx hb hts hown hK hD hP hS hk0 (hts _ nw_112) nd_Line_empty_2 (fun H locs hP hS => ?_)
  obtain rfl := hf
  exact W.vret hx hb hr (fun t ht hW => ⟨rfl, by rw [ht]; exact hP, va_K.moved hW.alike hK, hS.F ht⟩) hS.2.2 nd_Line_empty_5
set_option maxHeartbeats 4000000 in
set_option maxRecDepth 100000 in
theorem xc_P_lay {l : Launch} {D : va_G} {A : Nat → Prop} {cA : Nat → ClassId} {ad : Nat → Nat} (hD : wdD 61 A ad) (fuel : Nat) (a1 : Int32) (h : XH) (q : Int32 × XH) (hf : xf_P_lay fuel a1 h = some (Sum.inr q)) : CT l D vwCl (xtys cA) A ny_P_lay (wsO ny_P_lay prog_1_method_5_code 5 (some .int)) (rmO 7 121) [.ref (ad 0), .int a1] (xW cA ad h) (xW cA ad q.2) (some (.int q.1)) := by
  refine Met.ofW (cc := prog_1_method_5_code) (maxL := 5) (ret := (some .int)) (by decide +kernel) rfl ?_
  intro p e s m args below meth c s₁ B hml hv
  obtain ⟨hav, hP, hK, hN⟩ := hv
  have hx := B.exec
  have hb := B.bytes
  have hr := B.returns
  have hts : ∀ w ∈ lw_wd, w.before args s = true := fun w hw => atoms_spec (ws := (wsO ny_P_lay prog_1_method_5_code 5 (some .int))) B.pre w (List.mem_cons_of_mem _ hw)
  have hown : s.vm.findClass "DrawnPaths" = some m.cls := findClass_of_methodNamed B.named
  have hlocks := B.notSynchronized
  have hS : va_S A s.heap s.heap [] := va_S.rf
  have hl := lv_entry ([.ref (ad 0), .int a1]) (n := 5) (Nat.le_of_ble_eq_true rfl)
  have hE : entryFrame m args 5 = entryFrame m ([.ref (ad 0), .int a1] : List Value).toArray 5 := by rw [hav]
  rw [hE, lg_entry_eq]
  generalize (lg_sl ([.ref (ad 0), .int a1]) ++ List.replicate (5 - (lg_sl ([.ref (ad 0), .int a1])).length) Slot.unset).toArray = ls at hl ⊢
  have hl : lv_has ls 5 [(0, .ref (ad 0)), (1, .int a1)] := hl
  have L17 : ∀ (n : Nat) (H : Heap) (locs : List Loc) (ls : Array Slot) (h : XH) (hP : va_P D vwCl (xW cA ad h) H) (v2 : Int32) (v3 : Int32) (v4 : Int32) (hS : va_S A s.heap H locs) (hl : lv_has ls 5 [(0, .ref (ad 0)), (2, .int v2), (3, .int v3), (4, .int v4)]) (hf : xf_P_lay_L17 fuel n v2 v3 v4 h = some q), W p l e (headSpec (wsO ny_P_lay prog_1_method_5_code 5 (some .int)) (rmO 7 121)).room s m args below meth c H locs 0 0 (MQ below (RetQ D vwCl (xtys cA) A (some (.int q.1)) (xW cA ad q.2)) args s 0 0 A) (F0 m 17 ls []) := by
    intro n
    induction n with
    | zero =>
      intro H locs ls h hP v2 v3 v4 hS hl hf
      rw [xf_P_lay_L17] at hf
      cases hf
    | succ nL17 ihL17 =>
      intro H locs ls h hP v2 v3 v4 hS hl hf
      rw [xf_P_lay_L17] at hf
      refine lv_iload hx hb nd_P_lay_17 (lv_at hl 3 rfl) ?_
      refine lv_bipush (v := 12) hx hb nd_P_lay_19 (by decide) ?_
      refine lv_icmp_ge (tgt := 50) hx hb nd_P_lay_21 rfl (fun hc => ?_) (fun hc => ?_)
      · replace hf := (if_pos hc).symm.trans hf
        refine lv_aload_n hx hb nd_P_lay_50 rfl (lv_at hl 0 rfl) ?_
        refine xg_P_text hx hb hts hown hK hP (hts _ nw_207) nd_P_lay_51 ?_
        refine kc_V (As := []) (rest := []) (st1 := []) ⟨hx, hb, hml, hown, hts⟩ (xc_Line_empty hD 1 h _ (by decide) rfl) (kb_Line_empty hts (hts _ nw_473) ⟨Nat.le_of_ble_eq_true rfl, Nat.le_of_ble_eq_true rfl⟩) (xr_Line hK hP (by decide)) hK hN hP hS rfl hl.1 rfl rfl (Nat.le_of_ble_eq_true rfl) ⟨Nat.zero_le _, Nat.zero_le _⟩ nd_P_lay_54 (fun H locs hP hS => ?_)
        refine lv_iload_n hx hb nd_P_lay_57 rfl (lv_at hl 2 rfl) ?_
        obtain rfl := (Option.some.inj hf)
        exact W.iret hx hb hr (fun t ht hW => ⟨rfl, by rw [ht]; exact hP, va_K.moved hW.alike hK, hS.F ht⟩) hS.2.2 nd_P_lay_58
      · replace hf := (if_neg hc).symm.trans hf
        refine lv_aload_n hx hb nd_P_lay_24 rfl (lv_at hl 0 rfl) ?_
        refine xg_P_field hx hb hts hown hK hP (hts _ nw_204) nd_P_lay_25 ?_
        refine lv_iload_n hx hb nd_P_lay_28 rfl (lv_at hl 1 rfl) ?_
        refine lv_iload hx hb nd_P_lay_29 (lv_at hl 3 rfl) ?_
        refine lv_iadd hx hb nd_P_lay_31 ?_
        refine lv_aload_n hx hb nd_P_lay_32 rfl (lv_at hl 0 rfl) ?_
        refine xg_P_text hx hb hts hown hK hP (hts _ nw_207) nd_P_lay_33 ?_
        refine lv_iload hx hb nd_P_lay_36 (lv_at hl 3 rfl) ?_
        obtain ⟨q2, hq2, hf⟩ := Option.bind_eq_some_iff.mp hf
        refine kc_V (As := [.int v4]) (rest := [.int (v2 + v4), .ref (ad 4)]) (st1 := [.int q2, .int (v2 + v4), .ref (ad 4)]) ⟨hx, hb, hml, hown, hts⟩ (xc_Line_at hD 1 v4 h _ (by decide) hq2) (kb_Line_at hts (hts _ nw_347) ⟨Nat.le_of_ble_eq_true rfl, Nat.le_of_ble_eq_true rfl⟩) (xr_Line hK hP (by decide)) hK hN hP hS rfl hl.1 rfl rfl (Nat.le_of_ble_eq_true rfl) ⟨Nat.zero_le _, Nat.zero_le _⟩ nd_P_lay_38 (fun H locs hP hS => ?_)
        obtain ⟨q3, hq3, hf⟩ := Option.bind_eq_some_iff.mp hf
        refine kc_V (As := [.int (v2 + v4), .int q2]) (rest := []) (st1 := []) ⟨hx, hb, hml, hown, hts⟩ (xc_Field_write hD fuel (v2 + v4) q2 h _ hq3) (kb_Field_write hts (hts _ nw_447) ⟨Nat.le_of_ble_eq_true rfl, Nat.le_of_ble_eq_true rfl⟩) (xr_Field hK hP) hK hN hP hS rfl hl.1 rfl rfl (Nat.le_of_ble_eq_true rfl) ⟨Nat.zero_le _, Nat.zero_le _⟩ nd_P_lay_41 (fun H locs hP hS => ?_)
        refine lv_iinc (v := (v4 + (1 : Int32))) (lv' := [(4, .int (v4 + (1 : Int32))), (0, .ref (ad 0)), (2, .int v2), (3, .int v3)]) hx hb nd_P_lay_44 hl (k := 3) rfl rfl (by decide) rfl (fun ls hl => ?_)
        refine lv_goto hx hb nd_P_lay_47 (tgt := 17) rfl ?_
        exact ihL17 _ _ _ q3 hP v2 v3 (v4 + (1 : Int32)) hS (lv_sub hl [1, 2, 3, 0] rfl) hf
  unfold xf_P_lay at hf
  refine lv_iconst (v := 0) hx hb nd_P_lay_0 (by decide) ?_
  refine lv_iload_n hx hb nd_P_lay_1 rfl (lv_at hl 1 rfl) ?_
  obtain ⟨q1, hq1, hf⟩ := sbd_inr hf
  refine kc_S (As := [.int (0 : Int32), .int a1]) (rest := []) (st1 := [.int q1]) ⟨hx, hb, hml, hown, hts⟩ (xc_P_placeAt hD (0 : Int32) a1 h _ hq1) (kb_P_placeAt hts (hts _ nw_360) ⟨Nat.le_of_ble_eq_true rfl, Nat.le_of_ble_eq_true rfl⟩) hK hN hP hS rfl hl.1 rfl rfl (Nat.le_of_ble_eq_true rfl) ⟨Nat.zero_le _, Nat.zero_le _⟩ nd_P_lay_2 (fun H locs hP hS => ?_)
  replace hf := map_inr hf
  refine lv_istore_n (lv' := [(2, .int q1), (0, .ref (ad 0)), (1, .int a1)]) hx hb nd_P_lay_5 rfl hl (by decide) rfl (fun ls hl => ?_)
  refine lv_aload_n hx hb nd_P_lay_6 rfl (lv_at hl 1 rfl) ?_
  refine xg_P_text hx hb hts hown hK hP (hts _ nw_207) nd_P_lay_7 ?_
  refine xg_Line_size hx hb hts hown hK hP (by decide) (hts _ nw_113) nd_P_lay_10 ?_
  refine lv_istore_n (lv' := [(3, .int (xh_lsize h 1)), (2, .int q1), (0, .ref (ad 0)), (1, .int a1)]) hx hb nd_P_lay_13 rfl hl (by decide) rfl (fun ls hl => ?_)
  refine lv_iconst (v := 0) hx hb nd_P_lay_14 (by decide) ?_
  refine lv_istore (lv' := [(4, .int (0 : Int32)), (3, .int (xh_lsize h 1)), (2, .int q1), (0, .ref (ad 0)), (1, .int a1)]) hx hb nd_P_lay_15 hl (by decide) rfl (fun ls hl => ?_)
  exact L17 fuel _ _ _ h hP q1 (xh_lsize h 1) (0 : Int32) hS (lv_sub hl [3, 2, 1, 0] rfl) hf
set_option maxHeartbeats 4000000 in
set_option maxRecDepth 100000 in
theorem xc_Run_give {l : Launch} {D : va_G} {A : Nat → Prop} {cA : Nat → ClassId} {ad : Nat → Nat} (hD : wdD 61 A ad) (a1 : Int64) (h : XH) (q : XH) (hf : xf_Run_give a1 h = some q) : CT l D vwCl (xtys cA) A ny_Run_give (wsO ny_Run_give prog_7_method_3_code 3 none) (rmO 0 0) [.ref (ad 6), .long a1] (xW cA ad h) (xW cA ad q) none := by
  refine Met.ofW (cc := prog_7_method_3_code) (maxL := 3) (ret := none) (by decide +kernel) rfl ?_
  intro p e s m args below meth c s₁ B hml hv
  obtain ⟨hav, hP, hK, hN⟩ := hv
  have hx := B.exec
  have hb := B.bytes
  have hr := B.returns
  have hts : ∀ w ∈ lw_wd, w.before args s = true := fun w hw => atoms_spec (ws := (wsO ny_Run_give prog_7_method_3_code 3 none)) B.pre w (List.mem_cons_of_mem _ hw)
  have hown : s.vm.findClass "DrawnPaths$Run" = some m.cls := findClass_of_methodNamed B.named
  have hlocks := B.notSynchronized
  have hS : va_S A s.heap s.heap [] := va_S.rf
  have hl := lv_entry ([.ref (ad 6), .long a1]) (n := 3) (Nat.le_of_ble_eq_true rfl)
  have hE : entryFrame m args 3 = entryFrame m ([.ref (ad 6), .long a1] : List Value).toArray 3 := by rw [hav]
  rw [hE, lg_entry_eq]
  generalize (lg_sl ([.ref (ad 6), .long a1]) ++ List.replicate (3 - (lg_sl ([.ref (ad 6), .long a1])).length) Slot.unset).toArray = ls at hl ⊢
  have hl : lv_has ls 3 [(0, .ref (ad 6)), (1, .long a1)] := hl
  unfold xf_Run_give at hf
  refine lv_aload_n hx hb nd_Run_give_0 rfl (lv_at hl 0 rfl) ?_
  refine xg_Run_given hx hb hts hown hK hP (hts _ nw_157) nd_Run_give_1 ?_
  refine lv_bipush (v := 40) hx hb nd_Run_give_4 (by decide) ?_
  refine lv_icmp_ge (tgt := 29) hx hb nd_Run_give_6 rfl (fun hc => ?_) (fun hc => ?_)
  · replace hf := (if_pos hc).symm.trans hf
    obtain rfl := (Option.some.inj hf)
    exact W.vret hx hb hr (fun t ht hW => ⟨rfl, by rw [ht]; exact hP, va_K.moved hW.alike hK, hS.F ht⟩) hS.2.2 nd_Run_give_29
  · replace hf := (if_neg hc).symm.trans hf
    refine lv_aload_n hx hb nd_Run_give_9 rfl (lv_at hl 0 rfl) ?_
    refine xg_Run_numbers hx hb hts hown hK hP (hts _ nw_151) nd_Run_give_10 ?_
    refine lv_aload_n hx hb nd_Run_give_13 rfl (lv_at hl 0 rfl) ?_
    refine xg_Run_given hx hb hts hown hK hP (hts _ nw_157) nd_Run_give_14 ?_
    refine lv_lload_n hx hb nd_Run_give_17 rfl (lv_at hl 1 rfl) ?_
    obtain ⟨j1, hj1, hf⟩ := Option.bind_eq_some_iff.mp hf
    refine xas_innums hx hb hK hD hP hS hj1 nd_Run_give_18 (fun H locs hP hS => ?_)
    obtain ⟨g2, hg2, hf⟩ := Option.bind_eq_some_iff.mp hf
    rw [Option.some.inj hg2] at hP
    refine lv_aload_n hx hb nd_Run_give_19 rfl (lv_at hl 0 rfl) ?_
    refine lv_dup hx hb nd_Run_give_20 rfl ?_
    refine xg_Run_given hx hb hts hown hK hP (hts _ nw_157) nd_Run_give_21 ?_
    refine lv_iconst (v := 1) hx hb nd_Run_give_24 (by decide) ?_
    refine lv_iadd hx hb nd_Run_give_25 ?_
    refine xp_Run_given hx hb hts hown hK hD hP hS (hts _ nw_157) nd_Run_give_26 (fun H locs hP hS => ?_)
    obtain ⟨g3, hg3, hf⟩ := Option.bind_eq_some_iff.mp hf
    rw [Option.some.inj hg3] at hP
    obtain rfl := (Option.some.inj hf)
    exact W.vret hx hb hr (fun t ht hW => ⟨rfl, by rw [ht]; exact hP, va_K.moved hW.alike hK, hS.F ht⟩) hS.2.2 nd_Run_give_29
set_option maxHeartbeats 4000000 in
set_option maxRecDepth 100000 in
theorem xc_P_input {l : Launch} {D : va_G} {A : Nat → Prop} {cA : Nat → ClassId} {ad : Nat → Nat} (hD : wdD 61 A ad) (a1 : Int64) (h : XH) (q : Int32 × XH) (hf : xf_P_input a1 h = some (Sum.inr q)) : CT l D vwCl (xtys cA) A ny_P_input (wsO ny_P_input prog_1_method_6_code 3 (some .int)) (rmO 6 100) [.ref (ad 0), .long a1] (xW cA ad h) (xW cA ad q.2) (some (.int q.1)) := by
  refine Met.ofW (cc := prog_1_method_6_code) (maxL := 3) (ret := (some .int)) (by decide +kernel) rfl ?_
  intro p e s m args below meth c s₁ B hml hv
  obtain ⟨hav, hP, hK, hN⟩ := hv
  have hx := B.exec
  have hb := B.bytes
  have hr := B.returns
  have hts : ∀ w ∈ lw_wd, w.before args s = true := fun w hw => atoms_spec (ws := (wsO ny_P_input prog_1_method_6_code 3 (some .int))) B.pre w (List.mem_cons_of_mem _ hw)
  have hown : s.vm.findClass "DrawnPaths" = some m.cls := findClass_of_methodNamed B.named
  have hlocks := B.notSynchronized
  have hS : va_S A s.heap s.heap [] := va_S.rf
  have hl := lv_entry ([.ref (ad 0), .long a1]) (n := 3) (Nat.le_of_ble_eq_true rfl)
  have hE : entryFrame m args 3 = entryFrame m ([.ref (ad 0), .long a1] : List Value).toArray 3 := by rw [hav]
  rw [hE, lg_entry_eq]
  generalize (lg_sl ([.ref (ad 0), .long a1]) ++ List.replicate (3 - (lg_sl ([.ref (ad 0), .long a1])).length) Slot.unset).toArray = ls at hl ⊢
  have hl : lv_has ls 3 [(0, .ref (ad 0)), (1, .long a1)] := hl
  unfold xf_P_input at hf
  refine lv_aload_n hx hb nd_P_input_0 rfl (lv_at hl 0 rfl) ?_
  refine xg_P_run hx hb hts hown hK hP (hts _ nw_205) nd_P_input_1 ?_
  refine xg_Run_given hx hb hts hown hK hP (hts _ nw_158) nd_P_input_4 ?_
  refine lv_bipush (v := 40) hx hb nd_P_input_7 (by decide) ?_
  refine lv_icmp_ne (tgt := 22) hx hb nd_P_input_9 rfl (fun hc => ?_) (fun hc => ?_)
  · replace hf := (if_neg hc).symm.trans hf
    replace hf := map_inr hf
    refine lv_aload_n hx hb nd_P_input_22 rfl (lv_at hl 0 rfl) ?_
    refine xg_P_run hx hb hts hown hK hP (hts _ nw_205) nd_P_input_23 ?_
    refine lv_lload_n hx hb nd_P_input_26 rfl (lv_at hl 1 rfl) ?_
    obtain ⟨q1, hq1, hf⟩ := Option.bind_eq_some_iff.mp hf
    refine kc_V (As := [.long a1]) (rest := []) (st1 := []) ⟨hx, hb, hml, hown, hts⟩ (xc_Run_give hD a1 h _ hq1) (kb_Run_give hts (hts _ nw_498) ⟨Nat.le_of_ble_eq_true rfl, Nat.le_of_ble_eq_true rfl⟩) (xr_Run hK hP) hK hN hP hS rfl hl.1 rfl rfl (Nat.le_of_ble_eq_true rfl) ⟨Nat.zero_le _, Nat.zero_le _⟩ nd_P_input_27 (fun H locs hP hS => ?_)
    refine lv_aload_n hx hb nd_P_input_30 rfl (lv_at hl 0 rfl) ?_
    refine xg_P_run hx hb hts hown hK hP (hts _ nw_205) nd_P_input_31 ?_
    refine xg_Run_given hx hb hts hown hK hP (hts _ nw_158) nd_P_input_34 ?_
    obtain rfl := (Option.some.inj hf)
    exact W.iret hx hb hr (fun t ht hW => ⟨rfl, by rw [ht]; exact hP, va_K.moved hW.alike hK, hS.F ht⟩) hS.2.2 nd_P_input_37
  · replace hf := (if_pos hc).symm.trans hf
    exact absurd hf (by simp)
set_option maxHeartbeats 4000000 in
set_option maxRecDepth 100000 in
theorem xc_Blocks_forget {l : Launch} {D : va_G} {A : Nat → Prop} {cA : Nat → ClassId} {ad : Nat → Nat} (hD : wdD 61 A ad) (h : XH) (q : XH) (hf : xf_Blocks_forget h = q) : CT l D vwCl (xtys cA) A ny_Blocks_forget (wsO ny_Blocks_forget prog_3_method_6_code 1 none) (rmO 0 0) [.ref (ad 1)] (xW cA ad h) (xW cA ad q) none := by
  refine Met.ofW (cc := prog_3_method_6_code) (maxL := 1) (ret := none) (by decide +kernel) rfl ?_
  intro p e s m args below meth c s₁ B hml hv
  obtain ⟨hav, hP, hK, hN⟩ := hv
  have hx := B.exec
  have hb := B.bytes
  have hr := B.returns
  have hts : ∀ w ∈ lw_wd, w.before args s = true := fun w hw => atoms_spec (ws := (wsO ny_Blocks_forget prog_3_method_6_code 1 none)) B.pre w (List.mem_cons_of_mem _ hw)
  have hown : s.vm.findClass "DrawnPaths$Blocks" = some m.cls := findClass_of_methodNamed B.named
  have hlocks := B.notSynchronized
  have hS : va_S A s.heap s.heap [] := va_S.rf
  have hl := lv_entry ([.ref (ad 1)]) (n := 1) (Nat.le_of_ble_eq_true rfl)
  have hE : entryFrame m args 1 = entryFrame m ([.ref (ad 1)] : List Value).toArray 1 := by rw [hav]
  rw [hE, lg_entry_eq]
  generalize (lg_sl ([.ref (ad 1)]) ++ List.replicate (1 - (lg_sl ([.ref (ad 1)])).length) Slot.unset).toArray = ls at hl ⊢
  have hl : lv_has ls 1 [(0, .ref (ad 1))] := hl
  unfold xf_Blocks_forget at hf
  refine lv_aload_n hx hb nd_Blocks_forget_0 rfl (lv_at hl 0 rfl) ?_
  refine lv_iconst (v := 0) hx hb nd_Blocks_forget_1 (by decide) ?_
  refine xp_Blocks_held hx hb hts hown hK hD hP hS (hts _ nw_63) nd_Blocks_forget_2 (fun H locs hP hS => ?_)
  refine lv_aload_n hx hb nd_Blocks_forget_5 rfl (lv_at hl 0 rfl) ?_
  refine lv_iconst (v := 0) hx hb nd_Blocks_forget_6 (by decide) ?_
  refine xp_Blocks_dropped hx hb hts hown hK hD hP hS (hts _ nw_65) nd_Blocks_forget_7 (fun H locs hP hS => ?_)
  obtain rfl := hf
  exact W.vret hx hb hr (fun t ht hW => ⟨rfl, by rw [ht]; exact hP, va_K.moved hW.alike hK, hS.F ht⟩) hS.2.2 nd_Blocks_forget_10
set_option maxHeartbeats 4000000 in
set_option maxRecDepth 100000 in
theorem xc_Run_forget {l : Launch} {D : va_G} {A : Nat → Prop} {cA : Nat → ClassId} {ad : Nat → Nat} (hD : wdD 61 A ad) (h : XH) (q : XH) (hf : xf_Run_forget h = q) : CT l D vwCl (xtys cA) A ny_Run_forget (wsO ny_Run_forget prog_7_method_4_code 1 none) (rmO 1 20) [.ref (ad 6)] (xW cA ad h) (xW cA ad q) none := by
  refine Met.ofW (cc := prog_7_method_4_code) (maxL := 1) (ret := none) (by decide +kernel) rfl ?_
  intro p e s m args below meth c s₁ B hml hv
  obtain ⟨hav, hP, hK, hN⟩ := hv
  have hx := B.exec
  have hb := B.bytes
  have hr := B.returns
  have hts : ∀ w ∈ lw_wd, w.before args s = true := fun w hw => atoms_spec (ws := (wsO ny_Run_forget prog_7_method_4_code 1 none)) B.pre w (List.mem_cons_of_mem _ hw)
  have hown : s.vm.findClass "DrawnPaths$Run" = some m.cls := findClass_of_methodNamed B.named
  have hlocks := B.notSynchronized
  have hS : va_S A s.heap s.heap [] := va_S.rf
  have hl := lv_entry ([.ref (ad 6)]) (n := 1) (Nat.le_of_ble_eq_true rfl)
  have hE : entryFrame m args 1 = entryFrame m ([.ref (ad 6)] : List Value).toArray 1 := by rw [hav]
  rw [hE, lg_entry_eq]
  generalize (lg_sl ([.ref (ad 6)]) ++ List.replicate (1 - (lg_sl ([.ref (ad 6)])).length) Slot.unset).toArray = ls at hl ⊢
  have hl : lv_has ls 1 [(0, .ref (ad 6))] := hl
  unfold xf_Run_forget at hf
  refine lv_aload_n hx hb nd_Run_forget_0 rfl (lv_at hl 0 rfl) ?_
  refine lv_iconst (v := 0) hx hb nd_Run_forget_1 (by decide) ?_
  refine xp_Run_living hx hb hts hown hK hD hP hS (hts _ nw_155) nd_Run_forget_2 (fun H locs hP hS => ?_)
  refine lv_aload_n hx hb nd_Run_forget_5 rfl (lv_at hl 0 rfl) ?_
  refine lv_iconst (v := 0) hx hb nd_Run_forget_6 (by decide) ?_
  refine xp_Run_given hx hb hts hown hK hD hP hS (hts _ nw_157) nd_Run_forget_7 (fun H locs hP hS => ?_)
  refine lv_aload_n hx hb nd_Run_forget_10 rfl (lv_at hl 0 rfl) ?_
  refine lv_iconst (v := 0) hx hb nd_Run_forget_11 (by decide) ?_
  refine xp_Run_read hx hb hts hown hK hD hP hS (hts _ nw_159) nd_Run_forget_12 (fun H locs hP hS => ?_)
  refine lv_aload_n hx hb nd_Run_forget_15 rfl (lv_at hl 0 rfl) ?_
  refine lv_iconst (v := 0) hx hb nd_Run_forget_16 (by decide) ?_
  refine xp_Run_steps hx hb hts hown hK hD hP hS (hts _ nw_161) nd_Run_forget_17 (fun H locs hP hS => ?_)
  refine lv_aload_n hx hb nd_Run_forget_20 rfl (lv_at hl 0 rfl) ?_
  refine lv_iconst (v := 0) hx hb nd_Run_forget_21 (by decide) ?_
  refine xp_Run_stopped hx hb hts hown hK hD hP hS (hts _ nw_163) nd_Run_forget_22 (fun H locs hP hS => ?_)
  refine lv_aload_n hx hb nd_Run_forget_25 rfl (lv_at hl 0 rfl) ?_
  refine xg_Run_written hx hb hts hown hK hP (hts _ nw_153) nd_Run_forget_26 ?_
  refine kc_V (As := []) (rest := []) (st1 := []) ⟨hx, hb, hml, hown, hts⟩ (xc_Line_empty hD 0 (xs_stopped (xs_steps (xs_read (xs_given (xs_living h (0 : Int32)) (0 : Int32)) (0 : Int32)) (0 : Int32)) (0 : Int32)) _ (by decide) rfl) (kb_Line_empty hts (hts _ nw_250) ⟨Nat.le_of_ble_eq_true rfl, Nat.le_of_ble_eq_true rfl⟩) (xr_Line hK hP (by decide)) hK hN hP hS rfl hl.1 rfl rfl (Nat.le_of_ble_eq_true rfl) ⟨Nat.zero_le _, Nat.zero_le _⟩ nd_Run_forget_29 (fun H locs hP hS => ?_)
  obtain rfl := hf
  exact W.vret hx hb hr (fun t ht hW => ⟨rfl, by rw [ht]; exact hP, va_K.moved hW.alike hK, hS.F ht⟩) hS.2.2 nd_Run_forget_32
set_option maxHeartbeats 4000000 in
set_option maxRecDepth 100000 in
theorem xc_P_clear {l : Launch} {D : va_G} {A : Nat → Prop} {cA : Nat → ClassId} {ad : Nat → Nat} (hD : wdD 61 A ad) (fuel : Nat) (h : XH) (q : XH) (hf : xf_P_clear fuel h = some q) : CT l D vwCl (xtys cA) A ny_P_clear (wsO ny_P_clear prog_1_method_7_code 1 none) (rmO 2 40) [.ref (ad 0)] (xW cA ad h) (xW cA ad q) none := by
  refine Met.ofW (cc := prog_1_method_7_code) (maxL := 1) (ret := none) (by decide +kernel) rfl ?_
  intro p e s m args below meth c s₁ B hml hv
  obtain ⟨hav, hP, hK, hN⟩ := hv
  have hx := B.exec
  have hb := B.bytes
  have hr := B.returns
  have hts : ∀ w ∈ lw_wd, w.before args s = true := fun w hw => atoms_spec (ws := (wsO ny_P_clear prog_1_method_7_code 1 none)) B.pre w (List.mem_cons_of_mem _ hw)
  have hown : s.vm.findClass "DrawnPaths" = some m.cls := findClass_of_methodNamed B.named
  have hlocks := B.notSynchronized
  have hS : va_S A s.heap s.heap [] := va_S.rf
  have hl := lv_entry ([.ref (ad 0)]) (n := 1) (Nat.le_of_ble_eq_true rfl)
  have hE : entryFrame m args 1 = entryFrame m ([.ref (ad 0)] : List Value).toArray 1 := by rw [hav]
  rw [hE, lg_entry_eq]
  generalize (lg_sl ([.ref (ad 0)]) ++ List.replicate (1 - (lg_sl ([.ref (ad 0)])).length) Slot.unset).toArray = ls at hl ⊢
  have hl : lv_has ls 1 [(0, .ref (ad 0))] := hl
  unfold xf_P_clear at hf
  refine lv_aload_n hx hb nd_P_clear_0 rfl (lv_at hl 0 rfl) ?_
  refine xg_P_field hx hb hts hown hK hP (hts _ nw_204) nd_P_clear_1 ?_
  obtain ⟨q1, hq1, hf⟩ := Option.bind_eq_some_iff.mp hf
  refine kc_V (As := []) (rest := []) (st1 := []) ⟨hx, hb, hml, hown, hts⟩ (xc_Field_wipe hD fuel h _ hq1) (kb_Field_wipe hts (hts _ nw_241) ⟨Nat.le_of_ble_eq_true rfl, Nat.le_of_ble_eq_true rfl⟩) (xr_Field hK hP) hK hN hP hS rfl hl.1 rfl rfl (Nat.le_of_ble_eq_true rfl) ⟨Nat.zero_le _, Nat.zero_le _⟩ nd_P_clear_4 (fun H locs hP hS => ?_)
  refine lv_aload_n hx hb nd_P_clear_7 rfl (lv_at hl 0 rfl) ?_
  refine xg_P_blocks hx hb hts hown hK hP (hts _ nw_203) nd_P_clear_8 ?_
  refine kc_V (As := []) (rest := []) (st1 := []) ⟨hx, hb, hml, hown, hts⟩ (xc_Blocks_forget hD q1 _ rfl) (kb_Blocks_forget hts (hts _ nw_242) ⟨Nat.le_of_ble_eq_true rfl, Nat.le_of_ble_eq_true rfl⟩) (xr_Blocks hK hP) hK hN hP hS rfl hl.1 rfl rfl (Nat.le_of_ble_eq_true rfl) ⟨Nat.zero_le _, Nat.zero_le _⟩ nd_P_clear_11 (fun H locs hP hS => ?_)
  refine lv_aload_n hx hb nd_P_clear_14 rfl (lv_at hl 0 rfl) ?_
  refine xg_P_run hx hb hts hown hK hP (hts _ nw_205) nd_P_clear_15 ?_
  refine kc_V (As := []) (rest := []) (st1 := []) ⟨hx, hb, hml, hown, hts⟩ (xc_Run_forget hD (xf_Blocks_forget q1) _ rfl) (kb_Run_forget hts (hts _ nw_246) ⟨Nat.le_of_ble_eq_true rfl, Nat.le_of_ble_eq_true rfl⟩) (xr_Run hK hP) hK hN hP hS rfl hl.1 rfl rfl (Nat.le_of_ble_eq_true rfl) ⟨Nat.zero_le _, Nat.zero_le _⟩ nd_P_clear_18 (fun H locs hP hS => ?_)
  obtain rfl := (Option.some.inj hf)
  exact W.vret hx hb hr (fun t ht hW => ⟨rfl, by rw [ht]; exact hP, va_K.moved hW.alike hK, hS.F ht⟩) hS.2.2 nd_P_clear_21
set_option maxHeartbeats 4000000 in
set_option maxRecDepth 100000 in
theorem xc_Way_of {l : Launch} {D : va_G} {A : Nat → Prop} {cA : Nat → ClassId} {ad : Nat → Nat} (hD : wdD 61 A ad) (a0 : Int32) (a1 : Int32) (a2 : Int32) (h : XH) (q : Int32) (hf : xf_Way_of a0 a1 a2 = q) : CT l D vwCl (xtys cA) A ny_Way_of (wsO ny_Way_of prog_9_method_2_code 3 (some .int)) (rmO 0 0) [.int a0, .int a1, .int a2] (xW cA ad h) (xW cA ad h) (some (.int q)) := by
  refine Met.ofW (cc := prog_9_method_2_code) (maxL := 3) (ret := (some .int)) (by decide +kernel) rfl ?_
  intro p e s m args below meth c s₁ B hml hv
  obtain ⟨hav, hP, hK, hN⟩ := hv
  have hx := B.exec
  have hb := B.bytes
  have hr := B.returns
  have hts : ∀ w ∈ lw_wd, w.before args s = true := fun w hw => atoms_spec (ws := (wsO ny_Way_of prog_9_method_2_code 3 (some .int))) B.pre w (List.mem_cons_of_mem _ hw)
  have hown : s.vm.findClass "DrawnPaths$Way" = some m.cls := findClass_of_methodNamed B.named
  have hlocks := B.notSynchronized
  have hS : va_S A s.heap s.heap [] := va_S.rf
  have hl := lv_entry ([.int a0, .int a1, .int a2]) (n := 3) (Nat.le_of_ble_eq_true rfl)
  have hE : entryFrame m args 3 = entryFrame m ([.int a0, .int a1, .int a2] : List Value).toArray 3 := by rw [hav]
  rw [hE, lg_entry_eq]
  generalize (lg_sl ([.int a0, .int a1, .int a2]) ++ List.replicate (3 - (lg_sl ([.int a0, .int a1, .int a2])).length) Slot.unset).toArray = ls at hl ⊢
  have hl : lv_has ls 3 [(0, .int a0), (1, .int a1), (2, .int a2)] := hl
  unfold xf_Way_of at hf
  refine lv_iload_n hx hb nd_Way_of_0 rfl (lv_at hl 0 rfl) ?_
  refine lv_bipush (v := 8) hx hb nd_Way_of_1 (by decide) ?_
  refine lv_imul hx hb nd_Way_of_3 ?_
  refine lv_iload_n hx hb nd_Way_of_4 rfl (lv_at hl 1 rfl) ?_
  refine lv_iconst (v := 2) hx hb nd_Way_of_5 (by decide) ?_
  refine lv_imul hx hb nd_Way_of_6 ?_
  refine lv_iadd hx hb nd_Way_of_7 ?_
  refine lv_iload_n hx hb nd_Way_of_8 rfl (lv_at hl 2 rfl) ?_
  refine lv_iadd hx hb nd_Way_of_9 ?_
  obtain rfl := hf
  exact W.iret hx hb hr (fun t ht hW => ⟨rfl, by rw [ht]; exact hP, va_K.moved hW.alike hK, hS.F ht⟩) hS.2.2 nd_Way_of_10
set_option maxHeartbeats 4000000 in
set_option maxRecDepth 100000 in
theorem xc_Ptr_begin {l : Launch} {D : va_G} {A : Nat → Prop} {cA : Nat → ClassId} {ad : Nat → Nat} (hD : wdD 61 A ad) (k0 : Nat) (a1 : Int32) (h : XH) (q : XH) (hk0 : k0 < 4) (hf : xf_Ptr_begin k0 a1 h = q) : CT l D vwCl (xtys cA) A ny_Ptr_begin (wsO ny_Ptr_begin prog_6_method_2_code 2 none) (rmO 0 0) [.ref (ad (k0 + 19)), .int a1] (xW cA ad h) (xW cA ad q) none := by
  refine Met.ofW (cc := prog_6_method_2_code) (maxL := 2) (ret := none) (by decide +kernel) rfl ?_
  intro p e s m args below meth c s₁ B hml hv
  obtain ⟨hav, hP, hK, hN⟩ := hv
  have hx := B.exec
  have hb := B.bytes
  have hr := B.returns
  have hts : ∀ w ∈ lw_wd, w.before args s = true := fun w hw => atoms_spec (ws := (wsO ny_Ptr_begin prog_6_method_2_code 2 none)) B.pre w (List.mem_cons_of_mem _ hw)
  have hown : s.vm.findClass "DrawnPaths$Pointer" = some m.cls := findClass_of_methodNamed B.named
  have hlocks := B.notSynchronized
  have hS : va_S A s.heap s.heap [] := va_S.rf
  have hl := lv_entry ([.ref (ad (k0 + 19)), .int a1]) (n := 2) (Nat.le_of_ble_eq_true rfl)
  have hE : entryFrame m args 2 = entryFrame m ([.ref (ad (k0 + 19)), .int a1] : List Value).toArray 2 := by rw [hav]
  rw [hE, lg_entry_eq]
  generalize (lg_sl ([.ref (ad (k0 + 19)), .int a1]) ++ List.replicate (2 - (lg_sl ([.ref (ad (k0 + 19)), .int a1])).length) Slot.unset).toArray = ls at hl ⊢
  have hl : lv_has ls 2 [(0, .ref (ad (k0 + 19))), (1, .int a1)] := hl
  unfold xf_Ptr_begin at hf
  refine lv_aload_n hx hb nd_Ptr_begin_0 rfl (lv_at hl 0 rfl) ?_
  refine lv_iload_n hx hb nd_Ptr_begin_1 rfl (lv_at hl 1 rfl) ?_
  refine xp_Ptr_way hx hb hts hown hK hD hP hS hk0 (hts _ nw_128) nd_Ptr_begin_2 (fun H locs hP hS => ?_)
  refine lv_aload_n hx hb nd_Ptr_begin_5 rfl (lv_at hl 0 rfl) ?_
  refine lv_iconst (v := 0) hx hb nd_Ptr_begin_6 (by decide) ?_
  refine xp_Ptr_depth hx hb hts hown hK hD hP hS hk0 (hts _ nw_131) nd_Ptr_begin_7 (fun H locs hP hS => ?_)
  refine lv_aload_n hx hb nd_Ptr_begin_10 rfl (lv_at hl 0 rfl) ?_
  refine lv_iconst (v := 0) hx hb nd_Ptr_begin_11 (by decide) ?_
  refine xp_Ptr_returning hx hb hts hown hK hD hP hS hk0 (hts _ nw_134) nd_Ptr_begin_12 (fun H locs hP hS => ?_)
  obtain rfl := hf
  exact W.vret hx hb hr (fun t ht hW => ⟨rfl, by rw [ht]; exact hP, va_K.moved hW.alike hK, hS.F ht⟩) hS.2.2 nd_Ptr_begin_15
set_option maxHeartbeats 4000000 in
set_option maxRecDepth 100000 in
theorem xc_Run_begin {l : Launch} {D : va_G} {A : Nat → Prop} {cA : Nat → ClassId} {ad : Nat → Nat} (hD : wdD 61 A ad) (h : XH) (q : XH) (hf : xf_Run_begin h = some q) : CT l D vwCl (xtys cA) A ny_Run_begin (wsO ny_Run_begin prog_7_method_5_code 1 none) (rmO 1 22) [.ref (ad 6)] (xW cA ad h) (xW cA ad q) none := by
  refine Met.ofW (cc := prog_7_method_5_code) (maxL := 1) (ret := none) (by decide +kernel) rfl ?_
  intro p e s m args below meth c s₁ B hml hv
  obtain ⟨hav, hP, hK, hN⟩ := hv
  have hx := B.exec
  have hb := B.bytes
  have hr := B.returns
  have hts : ∀ w ∈ lw_wd, w.before args s = true := fun w hw => atoms_spec (ws := (wsO ny_Run_begin prog_7_method_5_code 1 none)) B.pre w (List.mem_cons_of_mem _ hw)
  have hown : s.vm.findClass "DrawnPaths$Run" = some m.cls := findClass_of_methodNamed B.named
  have hlocks := B.notSynchronized
  have hS : va_S A s.heap s.heap [] := va_S.rf
  have hl := lv_entry ([.ref (ad 6)]) (n := 1) (Nat.le_of_ble_eq_true rfl)
  have hE : entryFrame m args 1 = entryFrame m ([.ref (ad 6)] : List Value).toArray 1 := by rw [hav]
  rw [hE, lg_entry_eq]
  generalize (lg_sl ([.ref (ad 6)]) ++ List.replicate (1 - (lg_sl ([.ref (ad 6)])).length) Slot.unset).toArray = ls at hl ⊢
  have hl : lv_has ls 1 [(0, .ref (ad 6))] := hl
  unfold xf_Run_begin at hf
  refine lv_aload_n hx hb nd_Run_begin_0 rfl (lv_at hl 0 rfl) ?_
  refine xg_Run_pointers hx hb hts hown hK hP (hts _ nw_149) nd_Run_begin_1 ?_
  refine lv_iconst (v := 0) hx hb nd_Run_begin_4 (by decide) ?_
  obtain ⟨j1, hj1, hf⟩ := Option.bind_eq_some_iff.mp hf
  obtain ⟨k2, hk2, hf⟩ := Option.bind_eq_some_iff.mp hf
  obtain ⟨ek2, hk2⟩ := gn_eq hk2
  refine xal_ptrs hx hb hK hP hj1 ek2 nd_Run_begin_5 ?_
  refine lv_iconst (v := 0) hx hb nd_Run_begin_6 (by decide) ?_
  refine lv_iconst (v := 0) hx hb nd_Run_begin_7 (by decide) ?_
  refine lv_iconst (v := 0) hx hb nd_Run_begin_8 (by decide) ?_
  refine kc_S (As := [.int (0 : Int32), .int (0 : Int32), .int (0 : Int32)]) (rest := [.ref (ad (k2 + 19))]) (st1 := [.int (xf_Way_of (0 : Int32) (0 : Int32) (0 : Int32)), .ref (ad (k2 + 19))]) ⟨hx, hb, hml, hown, hts⟩ (xc_Way_of hD (0 : Int32) (0 : Int32) (0 : Int32) h _ rfl) (kb_Way_of hts (hts _ nw_262) ⟨Nat.le_of_ble_eq_true rfl, Nat.le_of_ble_eq_true rfl⟩) hK hN hP hS rfl hl.1 rfl rfl (Nat.le_of_ble_eq_true rfl) ⟨Nat.zero_le _, Nat.zero_le _⟩ nd_Run_begin_9 (fun H locs hP hS => ?_)
  refine kc_V (As := [.int (xf_Way_of (0 : Int32) (0 : Int32) (0 : Int32))]) (rest := []) (st1 := []) ⟨hx, hb, hml, hown, hts⟩ (xc_Ptr_begin hD k2 (xf_Way_of (0 : Int32) (0 : Int32) (0 : Int32)) h _ hk2 rfl) (kb_Ptr_begin hts (hts _ nw_265) ⟨Nat.le_of_ble_eq_true rfl, Nat.le_of_ble_eq_true rfl⟩) (xr_Pointer hK hP hk2) hK hN hP hS rfl hl.1 rfl rfl (Nat.le_of_ble_eq_true rfl) ⟨Nat.zero_le _, Nat.zero_le _⟩ nd_Run_begin_12 (fun H locs hP hS => ?_)
  refine lv_aload_n hx hb nd_Run_begin_15 rfl (lv_at hl 0 rfl) ?_
  refine lv_iconst (v := 1) hx hb nd_Run_begin_16 (by decide) ?_
  refine xp_Run_living hx hb hts hown hK hD hP hS (hts _ nw_155) nd_Run_begin_17 (fun H locs hP hS => ?_)
  obtain ⟨g3, hg3, hf⟩ := Option.bind_eq_some_iff.mp hf
  rw [Option.some.inj hg3] at hP
  refine lv_aload_n hx hb nd_Run_begin_20 rfl (lv_at hl 0 rfl) ?_
  refine lv_iconst (v := 0) hx hb nd_Run_begin_21 (by decide) ?_
  refine xp_Run_read hx hb hts hown hK hD hP hS (hts _ nw_159) nd_Run_begin_22 (fun H locs hP hS => ?_)
  obtain ⟨g4, hg4, hf⟩ := Option.bind_eq_some_iff.mp hf
  rw [Option.some.inj hg4] at hP
  refine lv_aload_n hx hb nd_Run_begin_25 rfl (lv_at hl 0 rfl) ?_
  refine lv_iconst (v := 0) hx hb nd_Run_begin_26 (by decide) ?_
  refine xp_Run_steps hx hb hts hown hK hD hP hS (hts _ nw_161) nd_Run_begin_27 (fun H locs hP hS => ?_)
  obtain ⟨g5, hg5, hf⟩ := Option.bind_eq_some_iff.mp hf
  rw [Option.some.inj hg5] at hP
  refine lv_aload_n hx hb nd_Run_begin_30 rfl (lv_at hl 0 rfl) ?_
  refine lv_iconst (v := 0) hx hb nd_Run_begin_31 (by decide) ?_
  refine xp_Run_stopped hx hb hts hown hK hD hP hS (hts _ nw_163) nd_Run_begin_32 (fun H locs hP hS => ?_)
  obtain ⟨g6, hg6, hf⟩ := Option.bind_eq_some_iff.mp hf
  rw [Option.some.inj hg6] at hP
  refine lv_aload_n hx hb nd_Run_begin_35 rfl (lv_at hl 0 rfl) ?_
  refine xg_Run_written hx hb hts hown hK hP (hts _ nw_153) nd_Run_begin_36 ?_
  refine kc_V (As := []) (rest := []) (st1 := []) ⟨hx, hb, hml, hown, hts⟩ (xc_Line_empty hD 0 g6 _ (by decide) rfl) (kb_Line_empty hts (hts _ nw_250) ⟨Nat.le_of_ble_eq_true rfl, Nat.le_of_ble_eq_true rfl⟩) (xr_Line hK hP (by decide)) hK hN hP hS rfl hl.1 rfl rfl (Nat.le_of_ble_eq_true rfl) ⟨Nat.zero_le _, Nat.zero_le _⟩ nd_Run_begin_39 (fun H locs hP hS => ?_)
  obtain rfl := (Option.some.inj hf)
  exact W.vret hx hb hr (fun t ht hW => ⟨rfl, by rw [ht]; exact hP, va_K.moved hW.alike hK, hS.F ht⟩) hS.2.2 nd_Run_begin_42
set_option maxHeartbeats 4000000 in
set_option maxRecDepth 100000 in
theorem xc_P_start {l : Launch} {D : va_G} {A : Nat → Prop} {cA : Nat → ClassId} {ad : Nat → Nat} (hD : wdD 61 A ad) (h : XH) (q : XH) (hf : xf_P_start h = some q) : CT l D vwCl (xtys cA) A ny_P_start (wsO ny_P_start prog_1_method_8_code 1 none) (rmO 2 42) [.ref (ad 0)] (xW cA ad h) (xW cA ad q) none := by
  refine Met.ofW (cc := prog_1_method_8_code) (maxL := 1) (ret := none) (by decide +kernel) rfl ?_
  intro p e s m args below meth c s₁ B hml hv
  obtain ⟨hav, hP, hK, hN⟩ := hv
  have hx := B.exec
  have hb := B.bytes
  have hr := B.returns
  have hts : ∀ w ∈ lw_wd, w.before args s = true := fun w hw => atoms_spec (ws := (wsO ny_P_start prog_1_method_8_code 1 none)) B.pre w (List.mem_cons_of_mem _ hw)
  have hown : s.vm.findClass "DrawnPaths" = some m.cls := findClass_of_methodNamed B.named
  have hlocks := B.notSynchronized
  have hS : va_S A s.heap s.heap [] := va_S.rf
  have hl := lv_entry ([.ref (ad 0)]) (n := 1) (Nat.le_of_ble_eq_true rfl)
  have hE : entryFrame m args 1 = entryFrame m ([.ref (ad 0)] : List Value).toArray 1 := by rw [hav]
  rw [hE, lg_entry_eq]
  generalize (lg_sl ([.ref (ad 0)]) ++ List.replicate (1 - (lg_sl ([.ref (ad 0)])).length) Slot.unset).toArray = ls at hl ⊢
  have hl : lv_has ls 1 [(0, .ref (ad 0))] := hl
  unfold xf_P_start at hf
  refine lv_aload_n hx hb nd_P_start_0 rfl (lv_at hl 0 rfl) ?_
  refine xg_P_run hx hb hts hown hK hP (hts _ nw_205) nd_P_start_1 ?_
  obtain ⟨q1, hq1, hf⟩ := Option.bind_eq_some_iff.mp hf
  refine kc_V (As := []) (rest := []) (st1 := []) ⟨hx, hb, hml, hown, hts⟩ (xc_Run_begin hD h _ hq1) (kb_Run_begin hts (hts _ nw_258) ⟨Nat.le_of_ble_eq_true rfl, Nat.le_of_ble_eq_true rfl⟩) (xr_Run hK hP) hK hN hP hS rfl hl.1 rfl rfl (Nat.le_of_ble_eq_true rfl) ⟨Nat.zero_le _, Nat.zero_le _⟩ nd_P_start_4 (fun H locs hP hS => ?_)
  obtain rfl := (Option.some.inj hf)
  exact W.vret hx hb hr (fun t ht hW => ⟨rfl, by rw [ht]; exact hP, va_K.moved hW.alike hK, hS.F ht⟩) hS.2.2 nd_P_start_7
set_option maxHeartbeats 4000000 in
set_option maxRecDepth 100000 in
theorem xc_P_checkSteps {l : Launch} {D : va_G} {A : Nat → Prop} {cA : Nat → ClassId} {ad : Nat → Nat} (hD : wdD 61 A ad) (a0 : Int32) (h : XH) (q : Unit) (hf : xf_P_checkSteps a0 = Sum.inr q) : CT l D vwCl (xtys cA) A ny_P_checkSteps (wsO ny_P_checkSteps prog_1_method_24_code 1 none) (rmO 6 100) [.int a0] (xW cA ad h) (xW cA ad h) none := by
  refine Met.ofW (cc := prog_1_method_24_code) (maxL := 1) (ret := none) (by decide +kernel) rfl ?_
  intro p e s m args below meth c s₁ B hml hv
  obtain ⟨hav, hP, hK, hN⟩ := hv
  have hx := B.exec
  have hb := B.bytes
  have hr := B.returns
  have hts : ∀ w ∈ lw_wd, w.before args s = true := fun w hw => atoms_spec (ws := (wsO ny_P_checkSteps prog_1_method_24_code 1 none)) B.pre w (List.mem_cons_of_mem _ hw)
  have hown : s.vm.findClass "DrawnPaths" = some m.cls := findClass_of_methodNamed B.named
  have hlocks := B.notSynchronized
  have hS : va_S A s.heap s.heap [] := va_S.rf
  have hl := lv_entry ([.int a0]) (n := 1) (Nat.le_of_ble_eq_true rfl)
  have hE : entryFrame m args 1 = entryFrame m ([.int a0] : List Value).toArray 1 := by rw [hav]
  rw [hE, lg_entry_eq]
  generalize (lg_sl ([.int a0]) ++ List.replicate (1 - (lg_sl ([.int a0])).length) Slot.unset).toArray = ls at hl ⊢
  have hl : lv_has ls 1 [(0, .int a0)] := hl
  unfold xf_P_checkSteps at hf
  refine lv_iload_n hx hb nd_P_checkSteps_0 rfl (lv_at hl 0 rfl) ?_
  refine lv_iconst (v := 1) hx hb nd_P_checkSteps_1 (by decide) ?_
  refine lv_icmp_lt (tgt := 12) hx hb nd_P_checkSteps_2 rfl (fun hc => ?_) (fun hc => ?_)
  · replace hf := (if_pos hc).symm.trans hf
    exact absurd hf (by simp)
  · replace hf := (if_neg hc).symm.trans hf
    refine lv_iload_n hx hb nd_P_checkSteps_5 rfl (lv_at hl 0 rfl) ?_
    refine lv_sipush (v := 1000) hx hb nd_P_checkSteps_6 (by decide) ?_
    refine lv_icmp_le (tgt := 22) hx hb nd_P_checkSteps_9 rfl (fun hc => ?_) (fun hc => ?_)
    · replace hf := (if_pos hc).symm.trans hf
      replace hf := Sum.inr.inj hf
      obtain rfl := hf
      exact W.vret hx hb hr (fun t ht hW => ⟨rfl, by rw [ht]; exact hP, va_K.moved hW.alike hK, hS.F ht⟩) hS.2.2 nd_P_checkSteps_22
    · replace hf := (if_neg hc).symm.trans hf
      exact absurd hf (by simp)
set_option maxHeartbeats 4000000 in
set_option maxRecDepth 100000 in
theorem xc_Run_state {l : Launch} {D : va_G} {A : Nat → Prop} {cA : Nat → ClassId} {ad : Nat → Nat} (hD : wdD 61 A ad) (h : XH) (q : Int32) (hf : xf_Run_state h = q) : CT l D vwCl (xtys cA) A ny_Run_state (wsO ny_Run_state prog_7_method_2_code 1 (some .int)) (rmO 0 0) [.ref (ad 6)] (xW cA ad h) (xW cA ad h) (some (.int q)) := by
  refine Met.ofW (cc := prog_7_method_2_code) (maxL := 1) (ret := (some .int)) (by decide +kernel) rfl ?_
  intro p e s m args below meth c s₁ B hml hv
  obtain ⟨hav, hP, hK, hN⟩ := hv
  have hx := B.exec
  have hb := B.bytes
  have hr := B.returns
  have hts : ∀ w ∈ lw_wd, w.before args s = true := fun w hw => atoms_spec (ws := (wsO ny_Run_state prog_7_method_2_code 1 (some .int))) B.pre w (List.mem_cons_of_mem _ hw)
  have hown : s.vm.findClass "DrawnPaths$Run" = some m.cls := findClass_of_methodNamed B.named
  have hlocks := B.notSynchronized
  have hS : va_S A s.heap s.heap [] := va_S.rf
  have hl := lv_entry ([.ref (ad 6)]) (n := 1) (Nat.le_of_ble_eq_true rfl)
  have hE : entryFrame m args 1 = entryFrame m ([.ref (ad 6)] : List Value).toArray 1 := by rw [hav]
  rw [hE, lg_entry_eq]
  generalize (lg_sl ([.ref (ad 6)]) ++ List.replicate (1 - (lg_sl ([.ref (ad 6)])).length) Slot.unset).toArray = ls at hl ⊢
  have hl : lv_has ls 1 [(0, .ref (ad 6))] := hl
  unfold xf_Run_state at hf
  refine lv_aload_n hx hb nd_Run_state_0 rfl (lv_at hl 0 rfl) ?_
  refine xg_Run_stopped hx hb hts hown hK hP (hts _ nw_163) nd_Run_state_1 ?_
  refine lv_if_eq (tgt := 12) hx hb nd_Run_state_4 rfl (fun hc => ?_) (fun hc => ?_)
  · replace hf := (if_pos hc).symm.trans hf
    refine lv_aload_n hx hb nd_Run_state_12 rfl (lv_at hl 0 rfl) ?_
    refine xg_Run_living hx hb hts hown hK hP (hts _ nw_155) nd_Run_state_13 ?_
    refine lv_if_le (tgt := 23) hx hb nd_Run_state_16 rfl (fun hc => ?_) (fun hc => ?_)
    · replace hf := (if_pos hc).symm.trans hf
      refine lv_iconst (v := 1) hx hb nd_Run_state_23 (by decide) ?_
      obtain rfl := hf
      exact W.iret hx hb hr (fun t ht hW => ⟨rfl, by rw [ht]; exact hP, va_K.moved hW.alike hK, hS.F ht⟩) hS.2.2 nd_Run_state_24
    · replace hf := (if_neg hc).symm.trans hf
      refine lv_iconst (v := 0) hx hb nd_Run_state_19 (by decide) ?_
      refine lv_goto hx hb nd_Run_state_20 (tgt := 24) rfl ?_
      obtain rfl := hf
      exact W.iret hx hb hr (fun t ht hW => ⟨rfl, by rw [ht]; exact hP, va_K.moved hW.alike hK, hS.F ht⟩) hS.2.2 nd_Run_state_24
  · replace hf := (if_neg hc).symm.trans hf
    refine lv_aload_n hx hb nd_Run_state_7 rfl (lv_at hl 0 rfl) ?_
    refine xg_Run_stopped hx hb hts hown hK hP (hts _ nw_163) nd_Run_state_8 ?_
    obtain rfl := hf
    exact W.iret hx hb hr (fun t ht hW => ⟨rfl, by rw [ht]; exact hP, va_K.moved hW.alike hK, hS.F ht⟩) hS.2.2 nd_Run_state_11
set_option maxHeartbeats 4000000 in
set_option maxRecDepth 100000 in
theorem xc_Way_place {l : Launch} {D : va_G} {A : Nat → Prop} {cA : Nat → ClassId} {ad : Nat → Nat} (hD : wdD 61 A ad) (a0 : Int32) (h : XH) (q : Int32) (hf : xf_Way_place a0 = q) : CT l D vwCl (xtys cA) A ny_Way_place (wsO ny_Way_place prog_9_method_3_code 1 (some .int)) (rmO 0 0) [.int a0] (xW cA ad h) (xW cA ad h) (some (.int q)) := by
  refine Met.ofW (cc := prog_9_method_3_code) (maxL := 1) (ret := (some .int)) (by decide +kernel) rfl ?_
  intro p e s m args below meth c s₁ B hml hv
  obtain ⟨hav, hP, hK, hN⟩ := hv
  have hx := B.exec
  have hb := B.bytes
  have hr := B.returns
  have hts : ∀ w ∈ lw_wd, w.before args s = true := fun w hw => atoms_spec (ws := (wsO ny_Way_place prog_9_method_3_code 1 (some .int))) B.pre w (List.mem_cons_of_mem _ hw)
  have hown : s.vm.findClass "DrawnPaths$Way" = some m.cls := findClass_of_methodNamed B.named
  have hlocks := B.notSynchronized
  have hS : va_S A s.heap s.heap [] := va_S.rf
  have hl := lv_entry ([.int a0]) (n := 1) (Nat.le_of_ble_eq_true rfl)
  have hE : entryFrame m args 1 = entryFrame m ([.int a0] : List Value).toArray 1 := by rw [hav]
  rw [hE, lg_entry_eq]
  generalize (lg_sl ([.int a0]) ++ List.replicate (1 - (lg_sl ([.int a0])).length) Slot.unset).toArray = ls at hl ⊢
  have hl : lv_has ls 1 [(0, .int a0)] := hl
  unfold xf_Way_place at hf
  refine lv_iload_n hx hb nd_Way_place_0 rfl (lv_at hl 0 rfl) ?_
  refine lv_iconst (v := 3) hx hb nd_Way_place_1 (by decide) ?_
  refine lv_ishr hx hb nd_Way_place_2 ?_
  obtain rfl := hf
  exact W.iret hx hb hr (fun t ht hW => ⟨rfl, by rw [ht]; exact hP, va_K.moved hW.alike hK, hS.F ht⟩) hS.2.2 nd_Way_place_3
set_option maxHeartbeats 4000000 in
set_option maxRecDepth 100000 in
theorem xc_Way_quotes {l : Launch} {D : va_G} {A : Nat → Prop} {cA : Nat → ClassId} {ad : Nat → Nat} (hD : wdD 61 A ad) (a0 : Int32) (h : XH) (q : Int32) (hf : xf_Way_quotes a0 = q) : CT l D vwCl (xtys cA) A ny_Way_quotes (wsO ny_Way_quotes prog_9_method_5_code 1 (some .int)) (rmO 0 0) [.int a0] (xW cA ad h) (xW cA ad h) (some (.int q)) := by
  refine Met.ofW (cc := prog_9_method_5_code) (maxL := 1) (ret := (some .int)) (by decide +kernel) rfl ?_
  intro p e s m args below meth c s₁ B hml hv
  obtain ⟨hav, hP, hK, hN⟩ := hv
  have hx := B.exec
  have hb := B.bytes
  have hr := B.returns
  have hts : ∀ w ∈ lw_wd, w.before args s = true := fun w hw => atoms_spec (ws := (wsO ny_Way_quotes prog_9_method_5_code 1 (some .int))) B.pre w (List.mem_cons_of_mem _ hw)
  have hown : s.vm.findClass "DrawnPaths$Way" = some m.cls := findClass_of_methodNamed B.named
  have hlocks := B.notSynchronized
  have hS : va_S A s.heap s.heap [] := va_S.rf
  have hl := lv_entry ([.int a0]) (n := 1) (Nat.le_of_ble_eq_true rfl)
  have hE : entryFrame m args 1 = entryFrame m ([.int a0] : List Value).toArray 1 := by rw [hav]
  rw [hE, lg_entry_eq]
  generalize (lg_sl ([.int a0]) ++ List.replicate (1 - (lg_sl ([.int a0])).length) Slot.unset).toArray = ls at hl ⊢
  have hl : lv_has ls 1 [(0, .int a0)] := hl
  unfold xf_Way_quotes at hf
  refine lv_iload_n hx hb nd_Way_quotes_0 rfl (lv_at hl 0 rfl) ?_
  refine lv_iconst (v := 1) hx hb nd_Way_quotes_1 (by decide) ?_
  refine lv_iand hx hb nd_Way_quotes_2 ?_
  obtain rfl := hf
  exact W.iret hx hb hr (fun t ht hW => ⟨rfl, by rw [ht]; exact hP, va_K.moved hW.alike hK, hS.F ht⟩) hS.2.2 nd_Way_quotes_3
set_option maxHeartbeats 4000000 in
set_option maxRecDepth 100000 in
theorem xc_P_isAct {l : Launch} {D : va_G} {A : Nat → Prop} {cA : Nat → ClassId} {ad : Nat → Nat} (hD : wdD 61 A ad) (a0 : Int32) (a1 : Int32) (h : XH) (q : Int32) (hf : xf_P_isAct a0 a1 = q) : CT l D vwCl (xtys cA) A ny_P_isAct (wsO ny_P_isAct prog_1_method_27_code 2 (some .boolean)) (rmO 1 20) [.int a0, .int a1] (xW cA ad h) (xW cA ad h) (some (.int q)) := by
  refine Met.ofW (cc := prog_1_method_27_code) (maxL := 2) (ret := (some .boolean)) (by decide +kernel) rfl ?_
  intro p e s m args below meth c s₁ B hml hv
  obtain ⟨hav, hP, hK, hN⟩ := hv
  have hx := B.exec
  have hb := B.bytes
  have hr := B.returns
  have hts : ∀ w ∈ lw_wd, w.before args s = true := fun w hw => atoms_spec (ws := (wsO ny_P_isAct prog_1_method_27_code 2 (some .boolean))) B.pre w (List.mem_cons_of_mem _ hw)
  have hown : s.vm.findClass "DrawnPaths" = some m.cls := findClass_of_methodNamed B.named
  have hlocks := B.notSynchronized
  have hS : va_S A s.heap s.heap [] := va_S.rf
  have hl := lv_entry ([.int a0, .int a1]) (n := 2) (Nat.le_of_ble_eq_true rfl)
  have hE : entryFrame m args 2 = entryFrame m ([.int a0, .int a1] : List Value).toArray 2 := by rw [hav]
  rw [hE, lg_entry_eq]
  generalize (lg_sl ([.int a0, .int a1]) ++ List.replicate (2 - (lg_sl ([.int a0, .int a1])).length) Slot.unset).toArray = ls at hl ⊢
  have hl : lv_has ls 2 [(0, .int a0), (1, .int a1)] := hl
  unfold xf_P_isAct at hf
  refine lv_iload_n hx hb nd_P_isAct_0 rfl (lv_at hl 0 rfl) ?_
  refine kc_S (As := [.int a0]) (rest := []) (st1 := [.int (xf_Way_quotes a0)]) ⟨hx, hb, hml, hown, hts⟩ (xc_Way_quotes hD a0 h _ rfl) (kb_Way_quotes hts (hts _ nw_300) ⟨Nat.le_of_ble_eq_true rfl, Nat.le_of_ble_eq_true rfl⟩) hK hN hP hS rfl hl.1 rfl rfl (Nat.le_of_ble_eq_true rfl) ⟨Nat.zero_le _, Nat.zero_le _⟩ nd_P_isAct_1 (fun H locs hP hS => ?_)
  refine lv_iconst (v := 1) hx hb nd_P_isAct_4 (by decide) ?_
  refine lv_icmp_ne (tgt := 10) hx hb nd_P_isAct_5 rfl (fun hc => ?_) (fun hc => ?_)
  · replace hf := (if_neg hc).symm.trans hf
    refine lv_iload_n hx hb nd_P_isAct_10 rfl (lv_at hl 1 rfl) ?_
    by_cases hc0 : a1 = 63
    · replace hf := (if_pos hc0).symm.trans hf
      refine lv_lookup (tgt := 92) hx hb nd_P_isAct_11 (by decide) (by rw [hc0]; try rfl) rfl ?_
      refine lv_iconst (v := 1) hx hb nd_P_isAct_92 (by decide) ?_
      obtain rfl := hf
      exact W.zret hx hb hr (by decide) (fun t ht hW => ⟨rfl, by rw [ht]; exact hP, va_K.moved hW.alike hK, hS.F ht⟩) hS.2.2 nd_P_isAct_93
    replace hf := (if_neg hc0).symm.trans hf
    by_cases hc1 : a1 = 64
    · replace hf := (if_pos hc1).symm.trans hf
      refine lv_lookup (tgt := 92) hx hb nd_P_isAct_11 (by decide) (by rw [hc1]; try rfl) rfl ?_
      refine lv_iconst (v := 1) hx hb nd_P_isAct_92 (by decide) ?_
      obtain rfl := hf
      exact W.zret hx hb hr (by decide) (fun t ht hW => ⟨rfl, by rw [ht]; exact hP, va_K.moved hW.alike hK, hS.F ht⟩) hS.2.2 nd_P_isAct_93
    replace hf := (if_neg hc1).symm.trans hf
    by_cases hc2 : a1 = 67
    · replace hf := (if_pos hc2).symm.trans hf
      refine lv_lookup (tgt := 92) hx hb nd_P_isAct_11 (by decide) (by rw [hc2]; try rfl) rfl ?_
      refine lv_iconst (v := 1) hx hb nd_P_isAct_92 (by decide) ?_
      obtain rfl := hf
      exact W.zret hx hb hr (by decide) (fun t ht hW => ⟨rfl, by rw [ht]; exact hP, va_K.moved hW.alike hK, hS.F ht⟩) hS.2.2 nd_P_isAct_93
    replace hf := (if_neg hc2).symm.trans hf
    by_cases hc3 : a1 = 82
    · replace hf := (if_pos hc3).symm.trans hf
      refine lv_lookup (tgt := 92) hx hb nd_P_isAct_11 (by decide) (by rw [hc3]; try rfl) rfl ?_
      refine lv_iconst (v := 1) hx hb nd_P_isAct_92 (by decide) ?_
      obtain rfl := hf
      exact W.zret hx hb hr (by decide) (fun t ht hW => ⟨rfl, by rw [ht]; exact hP, va_K.moved hW.alike hK, hS.F ht⟩) hS.2.2 nd_P_isAct_93
    replace hf := (if_neg hc3).symm.trans hf
    by_cases hc4 : a1 = 98
    · replace hf := (if_pos hc4).symm.trans hf
      refine lv_lookup (tgt := 92) hx hb nd_P_isAct_11 (by decide) (by rw [hc4]; try rfl) rfl ?_
      refine lv_iconst (v := 1) hx hb nd_P_isAct_92 (by decide) ?_
      obtain rfl := hf
      exact W.zret hx hb hr (by decide) (fun t ht hW => ⟨rfl, by rw [ht]; exact hP, va_K.moved hW.alike hK, hS.F ht⟩) hS.2.2 nd_P_isAct_93
    replace hf := (if_neg hc4).symm.trans hf
    by_cases hc5 : a1 = 102
    · replace hf := (if_pos hc5).symm.trans hf
      refine lv_lookup (tgt := 92) hx hb nd_P_isAct_11 (by decide) (by rw [hc5]; try rfl) rfl ?_
      refine lv_iconst (v := 1) hx hb nd_P_isAct_92 (by decide) ?_
      obtain rfl := hf
      exact W.zret hx hb hr (by decide) (fun t ht hW => ⟨rfl, by rw [ht]; exact hP, va_K.moved hW.alike hK, hS.F ht⟩) hS.2.2 nd_P_isAct_93
    replace hf := (if_neg hc5).symm.trans hf
    by_cases hc6 : a1 = 105
    · replace hf := (if_pos hc6).symm.trans hf
      refine lv_lookup (tgt := 92) hx hb nd_P_isAct_11 (by decide) (by rw [hc6]; try rfl) rfl ?_
      refine lv_iconst (v := 1) hx hb nd_P_isAct_92 (by decide) ?_
      obtain rfl := hf
      exact W.zret hx hb hr (by decide) (fun t ht hW => ⟨rfl, by rw [ht]; exact hP, va_K.moved hW.alike hK, hS.F ht⟩) hS.2.2 nd_P_isAct_93
    replace hf := (if_neg hc6).symm.trans hf
    by_cases hc7 : a1 = 110
    · replace hf := (if_pos hc7).symm.trans hf
      refine lv_lookup (tgt := 92) hx hb nd_P_isAct_11 (by decide) (by rw [hc7]; try rfl) rfl ?_
      refine lv_iconst (v := 1) hx hb nd_P_isAct_92 (by decide) ?_
      obtain rfl := hf
      exact W.zret hx hb hr (by decide) (fun t ht hW => ⟨rfl, by rw [ht]; exact hP, va_K.moved hW.alike hK, hS.F ht⟩) hS.2.2 nd_P_isAct_93
    replace hf := (if_neg hc7).symm.trans hf
    by_cases hc8 : a1 = 119
    · replace hf := (if_pos hc8).symm.trans hf
      refine lv_lookup (tgt := 92) hx hb nd_P_isAct_11 (by decide) (by rw [hc8]; try rfl) rfl ?_
      refine lv_iconst (v := 1) hx hb nd_P_isAct_92 (by decide) ?_
      obtain rfl := hf
      exact W.zret hx hb hr (by decide) (fun t ht hW => ⟨rfl, by rw [ht]; exact hP, va_K.moved hW.alike hK, hS.F ht⟩) hS.2.2 nd_P_isAct_93
    replace hf := (if_neg hc8).symm.trans hf
    refine lv_lookup (tgt := 94) hx hb nd_P_isAct_11 (by decide) ((lv_osw (a := 63) hc0 (by decide)).trans ((lv_osw (a := 64) hc1 (by decide)).trans ((lv_osw (a := 67) hc2 (by decide)).trans ((lv_osw (a := 82) hc3 (by decide)).trans ((lv_osw (a := 98) hc4 (by decide)).trans ((lv_osw (a := 102) hc5 (by decide)).trans ((lv_osw (a := 105) hc6 (by decide)).trans ((lv_osw (a := 110) hc7 (by decide)).trans ((lv_osw (a := 119) hc8 (by decide)).trans (rfl)))))))))) rfl ?_
    refine lv_iconst (v := 0) hx hb nd_P_isAct_94 (by decide) ?_
    obtain rfl := hf
    exact W.zret hx hb hr (by decide) (fun t ht hW => ⟨rfl, by rw [ht]; exact hP, va_K.moved hW.alike hK, hS.F ht⟩) hS.2.2 nd_P_isAct_95
  · replace hf := (if_pos hc).symm.trans hf
    refine lv_iconst (v := 0) hx hb nd_P_isAct_8 (by decide) ?_
    obtain rfl := hf
    exact W.zret hx hb hr (by decide) (fun t ht hW => ⟨rfl, by rw [ht]; exact hP, va_K.moved hW.alike hK, hS.F ht⟩) hS.2.2 nd_P_isAct_9
end
section
set_option maxHeartbeats 4000000 in
set_option maxRecDepth 100000 in
theorem xc_Ptr_pop {l : Launch} {D : va_G} {A : Nat → Prop} {cA : Nat → ClassId} {ad : Nat → Nat} (hD : wdD 61 A ad) (k0 : Nat) (h : XH) (q : Int64 × XH) (hk0 : k0 < 4) (hf : xf_Ptr_pop k0 h = some q) : CT l D vwCl (xtys cA) A ny_Ptr_pop (wsO ny_Ptr_pop prog_6_method_5_code 1 (some .long)) (rmO 0 0) [.ref (ad (k0 + 19))] (xW cA ad h) (xW cA ad q.2) (some (.long q.1)) := by
  refine Met.ofW (cc := prog_6_method_5_code) (maxL := 1) (ret := (some .long)) (by decide +kernel) rfl ?_
  intro p e s m args below meth c s₁ B hml hv
  obtain ⟨hav, hP, hK, hN⟩ := hv
  have hx := B.exec
  have hb := B.bytes
  have hr := B.returns
  have hts : ∀ w ∈ lw_wd, w.before args s = true := fun w hw => atoms_spec (ws := (wsO ny_Ptr_pop prog_6_method_5_code 1 (some .long))) B.pre w (List.mem_cons_of_mem _ hw)
  have hown : s.vm.findClass "DrawnPaths$Pointer" = some m.cls := findClass_of_methodNamed B.named
  have hlocks := B.notSynchronized
  have hS : va_S A s.heap s.heap [] := va_S.rf
  have hl := lv_entry ([.ref (ad (k0 + 19))]) (n := 1) (Nat.le_of_ble_eq_true rfl)
  have hE : entryFrame m args 1 = entryFrame m ([.ref (ad (k0 + 19))] : List Value).toArray 1 := by rw [hav]
  rw [hE, lg_entry_eq]
  generalize (lg_sl ([.ref (ad (k0 + 19))]) ++ List.replicate (1 - (lg_sl ([.ref (ad (k0 + 19))])).length) Slot.unset).toArray = ls at hl ⊢
  have hl : lv_has ls 1 [(0, .ref (ad (k0 + 19)))] := hl
  unfold xf_Ptr_pop at hf
  refine lv_aload_n hx hb nd_Ptr_pop_0 rfl (lv_at hl 0 rfl) ?_
  refine xg_Ptr_depth hx hb hts hown hK hP hk0 (hts _ nw_131) nd_Ptr_pop_1 ?_
  refine lv_if_ne (tgt := 9) hx hb nd_Ptr_pop_4 rfl (fun hc => ?_) (fun hc => ?_)
  · replace hf := (if_neg hc).symm.trans hf
    refine lv_aload_n hx hb nd_Ptr_pop_9 rfl (lv_at hl 0 rfl) ?_
    refine lv_dup hx hb nd_Ptr_pop_10 rfl ?_
    refine xg_Ptr_depth hx hb hts hown hK hP hk0 (hts _ nw_131) nd_Ptr_pop_11 ?_
    refine lv_iconst (v := 1) hx hb nd_Ptr_pop_14 (by decide) ?_
    refine lv_isub hx hb nd_Ptr_pop_15 ?_
    refine xp_Ptr_depth hx hb hts hown hK hD hP hS hk0 (hts _ nw_131) nd_Ptr_pop_16 (fun H locs hP hS => ?_)
    obtain ⟨g1, hg1, hf⟩ := Option.bind_eq_some_iff.mp hf
    rw [Option.some.inj hg1] at hP
    refine lv_aload_n hx hb nd_Ptr_pop_19 rfl (lv_at hl 0 rfl) ?_
    refine xg_Ptr_numbers hx hb hts hown hK hP hk0 (hts _ nw_125) nd_Ptr_pop_20 ?_
    refine lv_aload_n hx hb nd_Ptr_pop_23 rfl (lv_at hl 0 rfl) ?_
    refine xg_Ptr_depth hx hb hts hown hK hP hk0 (hts _ nw_131) nd_Ptr_pop_24 ?_
    obtain ⟨j2, hj2, hf⟩ := Option.bind_eq_some_iff.mp hf
    refine xal_pnums hx hb hK hP hk0 hj2 nd_Ptr_pop_27 ?_
    obtain rfl := (Option.some.inj hf)
    exact W.lret hx hb hr (fun t ht hW => ⟨rfl, by rw [ht]; exact hP, va_K.moved hW.alike hK, hS.F ht⟩) hS.2.2 nd_Ptr_pop_28
  · replace hf := (if_pos hc).symm.trans hf
    refine lv_lconst (v := 0) hx hb nd_Ptr_pop_7 (by decide) ?_
    obtain rfl := (Option.some.inj hf)
    exact W.lret hx hb hr (fun t ht hW => ⟨rfl, by rw [ht]; exact hP, va_K.moved hW.alike hK, hS.F ht⟩) hS.2.2 nd_Ptr_pop_8
set_option maxHeartbeats 4000000 in
set_option maxRecDepth 100000 in
theorem xc_Way_direction {l : Launch} {D : va_G} {A : Nat → Prop} {cA : Nat → ClassId} {ad : Nat → Nat} (hD : wdD 61 A ad) (a0 : Int32) (h : XH) (q : Int32) (hf : xf_Way_direction a0 = q) : CT l D vwCl (xtys cA) A ny_Way_direction (wsO ny_Way_direction prog_9_method_4_code 1 (some .int)) (rmO 0 0) [.int a0] (xW cA ad h) (xW cA ad h) (some (.int q)) := by
  refine Met.ofW (cc := prog_9_method_4_code) (maxL := 1) (ret := (some .int)) (by decide +kernel) rfl ?_
  intro p e s m args below meth c s₁ B hml hv
  obtain ⟨hav, hP, hK, hN⟩ := hv
  have hx := B.exec
  have hb := B.bytes
  have hr := B.returns
  have hts : ∀ w ∈ lw_wd, w.before args s = true := fun w hw => atoms_spec (ws := (wsO ny_Way_direction prog_9_method_4_code 1 (some .int))) B.pre w (List.mem_cons_of_mem _ hw)
  have hown : s.vm.findClass "DrawnPaths$Way" = some m.cls := findClass_of_methodNamed B.named
  have hlocks := B.notSynchronized
  have hS : va_S A s.heap s.heap [] := va_S.rf
  have hl := lv_entry ([.int a0]) (n := 1) (Nat.le_of_ble_eq_true rfl)
  have hE : entryFrame m args 1 = entryFrame m ([.int a0] : List Value).toArray 1 := by rw [hav]
  rw [hE, lg_entry_eq]
  generalize (lg_sl ([.int a0]) ++ List.replicate (1 - (lg_sl ([.int a0])).length) Slot.unset).toArray = ls at hl ⊢
  have hl : lv_has ls 1 [(0, .int a0)] := hl
  unfold xf_Way_direction at hf
  refine lv_iload_n hx hb nd_Way_direction_0 rfl (lv_at hl 0 rfl) ?_
  refine lv_iconst (v := 1) hx hb nd_Way_direction_1 (by decide) ?_
  refine lv_ishr hx hb nd_Way_direction_2 ?_
  refine lv_iconst (v := 3) hx hb nd_Way_direction_3 (by decide) ?_
  refine lv_iand hx hb nd_Way_direction_4 ?_
  obtain rfl := hf
  exact W.iret hx hb hr (fun t ht hW => ⟨rfl, by rw [ht]; exact hP, va_K.moved hW.alike hK, hS.F ht⟩) hS.2.2 nd_Way_direction_5
set_option maxHeartbeats 4000000 in
set_option maxRecDepth 100000 in
theorem xc_Way_directed {l : Launch} {D : va_G} {A : Nat → Prop} {cA : Nat → ClassId} {ad : Nat → Nat} (hD : wdD 61 A ad) (a0 : Int32) (a1 : Int32) (h : XH) (q : Int32) (hf : xf_Way_directed a0 a1 = q) : CT l D vwCl (xtys cA) A ny_Way_directed (wsO ny_Way_directed prog_9_method_7_code 2 (some .int)) (rmO 0 0) [.int a0, .int a1] (xW cA ad h) (xW cA ad h) (some (.int q)) := by
  refine Met.ofW (cc := prog_9_method_7_code) (maxL := 2) (ret := (some .int)) (by decide +kernel) rfl ?_
  intro p e s m args below meth c s₁ B hml hv
  obtain ⟨hav, hP, hK, hN⟩ := hv
  have hx := B.exec
  have hb := B.bytes
  have hr := B.returns
  have hts : ∀ w ∈ lw_wd, w.before args s = true := fun w hw => atoms_spec (ws := (wsO ny_Way_directed prog_9_method_7_code 2 (some .int))) B.pre w (List.mem_cons_of_mem _ hw)
  have hown : s.vm.findClass "DrawnPaths$Way" = some m.cls := findClass_of_methodNamed B.named
  have hlocks := B.notSynchronized
  have hS : va_S A s.heap s.heap [] := va_S.rf
  have hl := lv_entry ([.int a0, .int a1]) (n := 2) (Nat.le_of_ble_eq_true rfl)
  have hE : entryFrame m args 2 = entryFrame m ([.int a0, .int a1] : List Value).toArray 2 := by rw [hav]
  rw [hE, lg_entry_eq]
  generalize (lg_sl ([.int a0, .int a1]) ++ List.replicate (2 - (lg_sl ([.int a0, .int a1])).length) Slot.unset).toArray = ls at hl ⊢
  have hl : lv_has ls 2 [(0, .int a0), (1, .int a1)] := hl
  unfold xf_Way_directed at hf
  refine lv_iload_n hx hb nd_Way_directed_0 rfl (lv_at hl 0 rfl) ?_
  refine lv_bipush (v := -7) hx hb nd_Way_directed_1 (by decide) ?_
  refine lv_iand hx hb nd_Way_directed_3 ?_
  refine lv_iload_n hx hb nd_Way_directed_4 rfl (lv_at hl 1 rfl) ?_
  refine lv_iconst (v := 1) hx hb nd_Way_directed_5 (by decide) ?_
  refine lv_ishl hx hb nd_Way_directed_6 ?_
  refine lv_ior hx hb nd_Way_directed_7 ?_
  obtain rfl := hf
  exact W.iret hx hb hr (fun t ht hW => ⟨rfl, by rw [ht]; exact hP, va_K.moved hW.alike hK, hS.F ht⟩) hS.2.2 nd_Way_directed_8
set_option maxHeartbeats 4000000 in
set_option maxRecDepth 100000 in
theorem xc_Way_turned {l : Launch} {D : va_G} {A : Nat → Prop} {cA : Nat → ClassId} {ad : Nat → Nat} (hD : wdD 61 A ad) (a0 : Int32) (a1 : Int32) (h : XH) (q : Int32) (hf : xf_Way_turned a0 a1 = q) : CT l D vwCl (xtys cA) A ny_Way_turned (wsO ny_Way_turned prog_9_method_6_code 2 (some .int)) (rmO 1 21) [.int a0, .int a1] (xW cA ad h) (xW cA ad h) (some (.int q)) := by
  refine Met.ofW (cc := prog_9_method_6_code) (maxL := 2) (ret := (some .int)) (by decide +kernel) rfl ?_
  intro p e s m args below meth c s₁ B hml hv
  obtain ⟨hav, hP, hK, hN⟩ := hv
  have hx := B.exec
  have hb := B.bytes
  have hr := B.returns
  have hts : ∀ w ∈ lw_wd, w.before args s = true := fun w hw => atoms_spec (ws := (wsO ny_Way_turned prog_9_method_6_code 2 (some .int))) B.pre w (List.mem_cons_of_mem _ hw)
  have hown : s.vm.findClass "DrawnPaths$Way" = some m.cls := findClass_of_methodNamed B.named
  have hlocks := B.notSynchronized
  have hS : va_S A s.heap s.heap [] := va_S.rf
  have hl := lv_entry ([.int a0, .int a1]) (n := 2) (Nat.le_of_ble_eq_true rfl)
  have hE : entryFrame m args 2 = entryFrame m ([.int a0, .int a1] : List Value).toArray 2 := by rw [hav]
  rw [hE, lg_entry_eq]
  generalize (lg_sl ([.int a0, .int a1]) ++ List.replicate (2 - (lg_sl ([.int a0, .int a1])).length) Slot.unset).toArray = ls at hl ⊢
  have hl : lv_has ls 2 [(0, .int a0), (1, .int a1)] := hl
  unfold xf_Way_turned at hf
  refine lv_iload_n hx hb nd_Way_turned_0 rfl (lv_at hl 0 rfl) ?_
  refine lv_iload_n hx hb nd_Way_turned_1 rfl (lv_at hl 0 rfl) ?_
  refine kc_S (As := [.int a0]) (rest := [.int a0]) (st1 := [.int (xf_Way_direction a0), .int a0]) ⟨hx, hb, hml, hown, hts⟩ (xc_Way_direction hD a0 h _ rfl) (kb_Way_direction hts (hts _ nw_306) ⟨Nat.le_of_ble_eq_true rfl, Nat.le_of_ble_eq_true rfl⟩) hK hN hP hS rfl hl.1 rfl rfl (Nat.le_of_ble_eq_true rfl) ⟨Nat.zero_le _, Nat.zero_le _⟩ nd_Way_turned_2 (fun H locs hP hS => ?_)
  refine lv_iload_n hx hb nd_Way_turned_5 rfl (lv_at hl 1 rfl) ?_
  refine lv_iadd hx hb nd_Way_turned_6 ?_
  refine lv_iconst (v := 3) hx hb nd_Way_turned_7 (by decide) ?_
  refine lv_iand hx hb nd_Way_turned_8 ?_
  refine kc_S (As := [.int a0, .int (((xf_Way_direction a0) + a1) &&& (3 : Int32))]) (rest := []) (st1 := [.int (xf_Way_directed a0 (((xf_Way_direction a0) + a1) &&& (3 : Int32)))]) ⟨hx, hb, hml, hown, hts⟩ (xc_Way_directed hD a0 (((xf_Way_direction a0) + a1) &&& (3 : Int32)) h _ rfl) (kb_Way_directed hts (hts _ nw_309) ⟨Nat.le_of_ble_eq_true rfl, Nat.le_of_ble_eq_true rfl⟩) hK hN hP hS rfl hl.1 rfl rfl (Nat.le_of_ble_eq_true rfl) ⟨Nat.zero_le _, Nat.zero_le _⟩ nd_Way_turned_9 (fun H locs hP hS => ?_)
  obtain rfl := hf
  exact W.iret hx hb hr (fun t ht hW => ⟨rfl, by rw [ht]; exact hP, va_K.moved hW.alike hK, hS.F ht⟩) hS.2.2 nd_Way_turned_12
set_option maxHeartbeats 4000000 in
set_option maxRecDepth 100000 in
theorem xc_Way_ahead {l : Launch} {D : va_G} {A : Nat → Prop} {cA : Nat → ClassId} {ad : Nat → Nat} (hD : wdD 61 A ad) (a0 : Int32) (h : XH) (q : Int32) (hf : xf_Way_ahead a0 = q) : CT l D vwCl (xtys cA) A ny_Way_ahead (wsO ny_Way_ahead prog_9_method_8_code 3 (some .int)) (rmO 1 20) [.int a0] (xW cA ad h) (xW cA ad h) (some (.int q)) := by
  refine Met.ofW (cc := prog_9_method_8_code) (maxL := 3) (ret := (some .int)) (by decide +kernel) rfl ?_
  intro p e s m args below meth c s₁ B hml hv
  obtain ⟨hav, hP, hK, hN⟩ := hv
  have hx := B.exec
  have hb := B.bytes
  have hr := B.returns
  have hts : ∀ w ∈ lw_wd, w.before args s = true := fun w hw => atoms_spec (ws := (wsO ny_Way_ahead prog_9_method_8_code 3 (some .int))) B.pre w (List.mem_cons_of_mem _ hw)
  have hown : s.vm.findClass "DrawnPaths$Way" = some m.cls := findClass_of_methodNamed B.named
  have hlocks := B.notSynchronized
  have hS : va_S A s.heap s.heap [] := va_S.rf
  have hl := lv_entry ([.int a0]) (n := 3) (Nat.le_of_ble_eq_true rfl)
  have hE : entryFrame m args 3 = entryFrame m ([.int a0] : List Value).toArray 3 := by rw [hav]
  rw [hE, lg_entry_eq]
  generalize (lg_sl ([.int a0]) ++ List.replicate (3 - (lg_sl ([.int a0])).length) Slot.unset).toArray = ls at hl ⊢
  have hl : lv_has ls 3 [(0, .int a0)] := hl
  have J111 : ∀ (H : Heap) (locs : List Loc) (ls : Array Slot) (h : XH) (hP : va_P D vwCl (xW cA ad h) H) (v0 : Int32) (v1 : Int32) (v2 : Int32) (hS : va_S A s.heap H locs) (hl : lv_has ls 3 [(0, .int v0), (1, .int v1), (2, .int v2)]) (hf : xf_Way_ahead_J111 v0 v1 v2 = q), W p l e (headSpec (wsO ny_Way_ahead prog_9_method_8_code 3 (some .int)) (rmO 1 20)).room s m args below meth c H locs 0 0 (MQ below (RetQ D vwCl (xtys cA) A (some (.int q)) (xW cA ad h)) args s 0 0 A) (F0 m 111 ls []) := by
    intro H locs ls h hP v0 v1 v2 hS hl hf
    unfold xf_Way_ahead_J111 at hf
    refine lv_iload_n hx hb nd_Way_ahead_111 rfl (lv_at hl 2 rfl) ?_
    refine lv_bipush (v := 12) hx hb nd_Way_ahead_112 (by decide) ?_
    refine lv_imul hx hb nd_Way_ahead_114 ?_
    refine lv_iload_n hx hb nd_Way_ahead_115 rfl (lv_at hl 1 rfl) ?_
    refine lv_iadd hx hb nd_Way_ahead_116 ?_
    refine lv_bipush (v := 8) hx hb nd_Way_ahead_117 (by decide) ?_
    refine lv_imul hx hb nd_Way_ahead_119 ?_
    refine lv_iload_n hx hb nd_Way_ahead_120 rfl (lv_at hl 0 rfl) ?_
    refine lv_bipush (v := 7) hx hb nd_Way_ahead_121 (by decide) ?_
    refine lv_iand hx hb nd_Way_ahead_123 ?_
    refine lv_iadd hx hb nd_Way_ahead_124 ?_
    obtain rfl := hf
    exact W.iret hx hb hr (fun t ht hW => ⟨rfl, by rw [ht]; exact hP, va_K.moved hW.alike hK, hS.F ht⟩) hS.2.2 nd_Way_ahead_125
  have J61 : ∀ (H : Heap) (locs : List Loc) (ls : Array Slot) (h : XH) (hP : va_P D vwCl (xW cA ad h) H) (v0 : Int32) (v2 : Int32) (w0 : Int32) (hS : va_S A s.heap H locs) (hl : lv_has ls 3 [(0, .int v0), (2, .int v2)]) (hf : xf_Way_ahead_J61 v0 v2 w0 = q), W p l e (headSpec (wsO ny_Way_ahead prog_9_method_8_code 3 (some .int)) (rmO 1 20)).room s m args below meth c H locs 0 0 (MQ below (RetQ D vwCl (xtys cA) A (some (.int q)) (xW cA ad h)) args s 0 0 A) (F0 m 61 ls [.int w0]) := by
    intro H locs ls h hP v0 v2 w0 hS hl hf
    unfold xf_Way_ahead_J61 at hf
    refine lv_istore_n (lv' := [(1, .int w0), (0, .int v0), (2, .int v2)]) hx hb nd_Way_ahead_61 rfl hl (by decide) rfl (fun ls hl => ?_)
    refine lv_goto hx hb nd_Way_ahead_62 (tgt := 111) rfl ?_
    exact J111 _ _ _ _ hP v0 w0 v2 hS (lv_sub hl [1, 0, 2] rfl) hf
  have J78 : ∀ (H : Heap) (locs : List Loc) (ls : Array Slot) (h : XH) (hP : va_P D vwCl (xW cA ad h) H) (v0 : Int32) (v1 : Int32) (w0 : Int32) (hS : va_S A s.heap H locs) (hl : lv_has ls 3 [(0, .int v0), (1, .int v1)]) (hf : xf_Way_ahead_J78 v0 v1 w0 = q), W p l e (headSpec (wsO ny_Way_ahead prog_9_method_8_code 3 (some .int)) (rmO 1 20)).room s m args below meth c H locs 0 0 (MQ below (RetQ D vwCl (xtys cA) A (some (.int q)) (xW cA ad h)) args s 0 0 A) (F0 m 78 ls [.int w0]) := by
    intro H locs ls h hP v0 v1 w0 hS hl hf
    unfold xf_Way_ahead_J78 at hf
    refine lv_istore_n (lv' := [(2, .int w0), (0, .int v0), (1, .int v1)]) hx hb nd_Way_ahead_78 rfl hl (by decide) rfl (fun ls hl => ?_)
    refine lv_goto hx hb nd_Way_ahead_79 (tgt := 111) rfl ?_
    exact J111 _ _ _ _ hP v0 v1 w0 hS (lv_sub hl [1, 2, 0] rfl) hf
  have J94 : ∀ (H : Heap) (locs : List Loc) (ls : Array Slot) (h : XH) (hP : va_P D vwCl (xW cA ad h) H) (v0 : Int32) (v2 : Int32) (w0 : Int32) (hS : va_S A s.heap H locs) (hl : lv_has ls 3 [(0, .int v0), (2, .int v2)]) (hf : xf_Way_ahead_J94 v0 v2 w0 = q), W p l e (headSpec (wsO ny_Way_ahead prog_9_method_8_code 3 (some .int)) (rmO 1 20)).room s m args below meth c H locs 0 0 (MQ below (RetQ D vwCl (xtys cA) A (some (.int q)) (xW cA ad h)) args s 0 0 A) (F0 m 94 ls [.int w0]) := by
    intro H locs ls h hP v0 v2 w0 hS hl hf
    unfold xf_Way_ahead_J94 at hf
    refine lv_istore_n (lv' := [(1, .int w0), (0, .int v0), (2, .int v2)]) hx hb nd_Way_ahead_94 rfl hl (by decide) rfl (fun ls hl => ?_)
    refine lv_goto hx hb nd_Way_ahead_95 (tgt := 111) rfl ?_
    exact J111 _ _ _ _ hP v0 w0 v2 hS (lv_sub hl [1, 0, 2] rfl) hf
  have J110 : ∀ (H : Heap) (locs : List Loc) (ls : Array Slot) (h : XH) (hP : va_P D vwCl (xW cA ad h) H) (v0 : Int32) (v1 : Int32) (w0 : Int32) (hS : va_S A s.heap H locs) (hl : lv_has ls 3 [(0, .int v0), (1, .int v1)]) (hf : xf_Way_ahead_J110 v0 v1 w0 = q), W p l e (headSpec (wsO ny_Way_ahead prog_9_method_8_code 3 (some .int)) (rmO 1 20)).room s m args below meth c H locs 0 0 (MQ below (RetQ D vwCl (xtys cA) A (some (.int q)) (xW cA ad h)) args s 0 0 A) (F0 m 110 ls [.int w0]) := by
    intro H locs ls h hP v0 v1 w0 hS hl hf
    unfold xf_Way_ahead_J110 at hf
    refine lv_istore_n (lv' := [(2, .int w0), (0, .int v0), (1, .int v1)]) hx hb nd_Way_ahead_110 rfl hl (by decide) rfl (fun ls hl => ?_)
    exact J111 _ _ _ _ hP v0 v1 w0 hS (lv_sub hl [1, 2, 0] rfl) hf
  unfold xf_Way_ahead at hf
  refine lv_iload_n hx hb nd_Way_ahead_0 rfl (lv_at hl 0 rfl) ?_
  refine kc_S (As := [.int a0]) (rest := []) (st1 := [.int (xf_Way_place a0)]) ⟨hx, hb, hml, hown, hts⟩ (xc_Way_place hD a0 h _ rfl) (kb_Way_place hts (hts _ nw_315) ⟨Nat.le_of_ble_eq_true rfl, Nat.le_of_ble_eq_true rfl⟩) hK hN hP hS rfl hl.1 rfl rfl (Nat.le_of_ble_eq_true rfl) ⟨Nat.zero_le _, Nat.zero_le _⟩ nd_Way_ahead_1 (fun H locs hP hS => ?_)
  refine lv_bipush (v := 12) hx hb nd_Way_ahead_4 (by decide) ?_
  refine lv_irem hx hb nd_Way_ahead_6 (by decide) ?_
  refine lv_istore_n (lv' := [(1, .int ((xf_Way_place a0) - (xf_Way_place a0) / (12 : Int32) * (12 : Int32))), (0, .int a0)]) hx hb nd_Way_ahead_7 rfl hl (by decide) rfl (fun ls hl => ?_)
  refine lv_iload_n hx hb nd_Way_ahead_8 rfl (lv_at hl 1 rfl) ?_
  refine kc_S (As := [.int a0]) (rest := []) (st1 := [.int (xf_Way_place a0)]) ⟨hx, hb, hml, hown, hts⟩ (xc_Way_place hD a0 h _ rfl) (kb_Way_place hts (hts _ nw_315) ⟨Nat.le_of_ble_eq_true rfl, Nat.le_of_ble_eq_true rfl⟩) hK hN hP hS rfl hl.1 rfl rfl (Nat.le_of_ble_eq_true rfl) ⟨Nat.zero_le _, Nat.zero_le _⟩ nd_Way_ahead_9 (fun H locs hP hS => ?_)
  refine lv_bipush (v := 12) hx hb nd_Way_ahead_12 (by decide) ?_
  refine lv_idiv hx hb nd_Way_ahead_14 (by decide) ?_
  refine lv_istore_n (lv' := [(2, .int ((xf_Way_place a0) / (12 : Int32))), (1, .int ((xf_Way_place a0) - (xf_Way_place a0) / (12 : Int32) * (12 : Int32))), (0, .int a0)]) hx hb nd_Way_ahead_15 rfl hl (by decide) rfl (fun ls hl => ?_)
  refine lv_iload_n hx hb nd_Way_ahead_16 rfl (lv_at hl 2 rfl) ?_
  refine kc_S (As := [.int a0]) (rest := []) (st1 := [.int (xf_Way_direction a0)]) ⟨hx, hb, hml, hown, hts⟩ (xc_Way_direction hD a0 h _ rfl) (kb_Way_direction hts (hts _ nw_306) ⟨Nat.le_of_ble_eq_true rfl, Nat.le_of_ble_eq_true rfl⟩) hK hN hP hS rfl hl.1 rfl rfl (Nat.le_of_ble_eq_true rfl) ⟨Nat.zero_le _, Nat.zero_le _⟩ nd_Way_ahead_17 (fun H locs hP hS => ?_)
  by_cases hc0 : (xf_Way_direction a0) = 0
  · replace hf := (if_pos hc0).symm.trans hf
    refine lv_tableIn (tgt := 48) hx hb nd_Way_ahead_20 (by rw [hc0]; decide) (by rw [hc0]; decide) (by rw [hc0]; try rfl) rfl ?_
    refine lv_iload_n hx hb nd_Way_ahead_48 rfl (lv_at hl 1 rfl) ?_
    refine lv_bipush (v := 11) hx hb nd_Way_ahead_49 (by decide) ?_
    refine lv_icmp_ne (tgt := 58) hx hb nd_Way_ahead_51 rfl (fun hc => ?_) (fun hc => ?_)
    · replace hf := (if_neg hc).symm.trans hf
      refine lv_iload_n hx hb nd_Way_ahead_58 rfl (lv_at hl 1 rfl) ?_
      refine lv_iconst (v := 1) hx hb nd_Way_ahead_59 (by decide) ?_
      refine lv_iadd hx hb nd_Way_ahead_60 ?_
      exact J61 _ _ _ _ hP a0 ((xf_Way_place a0) / (12 : Int32)) (((xf_Way_place a0) - (xf_Way_place a0) / (12 : Int32) * (12 : Int32)) + (1 : Int32)) hS (lv_sub hl [2, 0] rfl) hf
    · replace hf := (if_pos hc).symm.trans hf
      refine lv_iconst (v := 0) hx hb nd_Way_ahead_54 (by decide) ?_
      refine lv_goto hx hb nd_Way_ahead_55 (tgt := 61) rfl ?_
      exact J61 _ _ _ _ hP a0 ((xf_Way_place a0) / (12 : Int32)) (0 : Int32) hS (lv_sub hl [2, 0] rfl) hf
  replace hf := (if_neg hc0).symm.trans hf
  by_cases hc1 : (xf_Way_direction a0) = 1
  · replace hf := (if_pos hc1).symm.trans hf
    refine lv_tableIn (tgt := 65) hx hb nd_Way_ahead_20 (by rw [hc1]; decide) (by rw [hc1]; decide) (by rw [hc1]; try rfl) rfl ?_
    refine lv_iload_n hx hb nd_Way_ahead_65 rfl (lv_at hl 0 rfl) ?_
    refine lv_bipush (v := 7) hx hb nd_Way_ahead_66 (by decide) ?_
    refine lv_icmp_ne (tgt := 75) hx hb nd_Way_ahead_68 rfl (fun hc => ?_) (fun hc => ?_)
    · replace hf := (if_neg hc).symm.trans hf
      refine lv_iload_n hx hb nd_Way_ahead_75 rfl (lv_at hl 0 rfl) ?_
      refine lv_iconst (v := 1) hx hb nd_Way_ahead_76 (by decide) ?_
      refine lv_iadd hx hb nd_Way_ahead_77 ?_
      exact J78 _ _ _ _ hP a0 ((xf_Way_place a0) - (xf_Way_place a0) / (12 : Int32) * (12 : Int32)) (((xf_Way_place a0) / (12 : Int32)) + (1 : Int32)) hS (lv_sub hl [2, 1] rfl) hf
    · replace hf := (if_pos hc).symm.trans hf
      refine lv_iconst (v := 0) hx hb nd_Way_ahead_71 (by decide) ?_
      refine lv_goto hx hb nd_Way_ahead_72 (tgt := 78) rfl ?_
      exact J78 _ _ _ _ hP a0 ((xf_Way_place a0) - (xf_Way_place a0) / (12 : Int32) * (12 : Int32)) (0 : Int32) hS (lv_sub hl [2, 1] rfl) hf
  replace hf := (if_neg hc1).symm.trans hf
  by_cases hc2 : (xf_Way_direction a0) = 2
  · replace hf := (if_pos hc2).symm.trans hf
    refine lv_tableIn (tgt := 82) hx hb nd_Way_ahead_20 (by rw [hc2]; decide) (by rw [hc2]; decide) (by rw [hc2]; try rfl) rfl ?_
    refine lv_iload_n hx hb nd_Way_ahead_82 rfl (lv_at hl 1 rfl) ?_
    refine lv_if_ne (tgt := 91) hx hb nd_Way_ahead_83 rfl (fun hc => ?_) (fun hc => ?_)
    · replace hf := (if_neg hc).symm.trans hf
      refine lv_iload_n hx hb nd_Way_ahead_91 rfl (lv_at hl 1 rfl) ?_
      refine lv_iconst (v := 1) hx hb nd_Way_ahead_92 (by decide) ?_
      refine lv_isub hx hb nd_Way_ahead_93 ?_
      exact J94 _ _ _ _ hP a0 ((xf_Way_place a0) / (12 : Int32)) (((xf_Way_place a0) - (xf_Way_place a0) / (12 : Int32) * (12 : Int32)) - (1 : Int32)) hS (lv_sub hl [2, 0] rfl) hf
    · replace hf := (if_pos hc).symm.trans hf
      refine lv_bipush (v := 11) hx hb nd_Way_ahead_86 (by decide) ?_
      refine lv_goto hx hb nd_Way_ahead_88 (tgt := 94) rfl ?_
      exact J94 _ _ _ _ hP a0 ((xf_Way_place a0) / (12 : Int32)) (11 : Int32) hS (lv_sub hl [2, 0] rfl) hf
  replace hf := (if_neg hc2).symm.trans hf
  refine lv_tableOut (tgt := 98) hx hb nd_Way_ahead_20 (by have := lv_neT hc0 (by decide : Int32.toInt 0 = 0); have := lv_neT hc1 (by decide : Int32.toInt 1 = 1); have := lv_neT hc2 (by decide : Int32.toInt 2 = 2); omega) rfl ?_
  refine lv_iload_n hx hb nd_Way_ahead_98 rfl (lv_at hl 0 rfl) ?_
  refine lv_if_ne (tgt := 107) hx hb nd_Way_ahead_99 rfl (fun hc => ?_) (fun hc => ?_)
  · replace hf := (if_neg hc).symm.trans hf
    refine lv_iload_n hx hb nd_Way_ahead_107 rfl (lv_at hl 0 rfl) ?_
    refine lv_iconst (v := 1) hx hb nd_Way_ahead_108 (by decide) ?_
    refine lv_isub hx hb nd_Way_ahead_109 ?_
    exact J110 _ _ _ _ hP a0 ((xf_Way_place a0) - (xf_Way_place a0) / (12 : Int32) * (12 : Int32)) (((xf_Way_place a0) / (12 : Int32)) - (1 : Int32)) hS (lv_sub hl [2, 1] rfl) hf
  · replace hf := (if_pos hc).symm.trans hf
    refine lv_bipush (v := 7) hx hb nd_Way_ahead_102 (by decide) ?_
    refine lv_goto hx hb nd_Way_ahead_104 (tgt := 110) rfl ?_
    exact J110 _ _ _ _ hP a0 ((xf_Way_place a0) - (xf_Way_place a0) / (12 : Int32) * (12 : Int32)) (7 : Int32) hS (lv_sub hl [2, 1] rfl) hf
set_option maxHeartbeats 4000000 in
set_option maxRecDepth 100000 in
theorem xc_Run_turn {l : Launch} {D : va_G} {A : Nat → Prop} {cA : Nat → ClassId} {ad : Nat → Nat} (hD : wdD 61 A ad) (k0 : Nat) (h : XH) (q : Int32 × XH) (hk0 : k0 < 4) (hf : xf_Run_turn k0 h = some q) : CT l D vwCl (xtys cA) A ny_Run_turn (wsO ny_Run_turn prog_7_method_15_code 3 (some .int)) (rmO 2 42) [.ref (ad (k0 + 19))] (xW cA ad h) (xW cA ad q.2) (some (.int q.1)) := by
  refine Met.ofW (cc := prog_7_method_15_code) (maxL := 3) (ret := (some .int)) (by decide +kernel) rfl ?_
  intro p e s m args below meth c s₁ B hml hv
  obtain ⟨hav, hP, hK, hN⟩ := hv
  have hx := B.exec
  have hb := B.bytes
  have hr := B.returns
  have hts : ∀ w ∈ lw_wd, w.before args s = true := fun w hw => atoms_spec (ws := (wsO ny_Run_turn prog_7_method_15_code 3 (some .int))) B.pre w (List.mem_cons_of_mem _ hw)
  have hown : s.vm.findClass "DrawnPaths$Run" = some m.cls := findClass_of_methodNamed B.named
  have hlocks := B.notSynchronized
  have hS : va_S A s.heap s.heap [] := va_S.rf
  have hl := lv_entry ([.ref (ad (k0 + 19))]) (n := 3) (Nat.le_of_ble_eq_true rfl)
  have hE : entryFrame m args 3 = entryFrame m ([.ref (ad (k0 + 19))] : List Value).toArray 3 := by rw [hav]
  rw [hE, lg_entry_eq]
  generalize (lg_sl ([.ref (ad (k0 + 19))]) ++ List.replicate (3 - (lg_sl ([.ref (ad (k0 + 19))])).length) Slot.unset).toArray = ls at hl ⊢
  have hl : lv_has ls 3 [(0, .ref (ad (k0 + 19)))] := hl
  unfold xf_Run_turn at hf
  refine lv_aload_n hx hb nd_Run_turn_0 rfl (lv_at hl 0 rfl) ?_
  obtain ⟨q1, hq1, hf⟩ := Option.bind_eq_some_iff.mp hf
  refine kc_V (As := []) (rest := []) (st1 := [.long q1.1]) ⟨hx, hb, hml, hown, hts⟩ (xc_Ptr_pop hD k0 h _ hk0 hq1) (kb_Ptr_pop hts (hts _ nw_526) ⟨Nat.le_of_ble_eq_true rfl, Nat.le_of_ble_eq_true rfl⟩) (xr_Pointer hK hP hk0) hK hN hP hS rfl hl.1 rfl rfl (Nat.le_of_ble_eq_true rfl) ⟨Nat.zero_le _, Nat.zero_le _⟩ nd_Run_turn_1 (fun H locs hP hS => ?_)
  refine lv_lstore_n (lv' := [(1, .long q1.1), (0, .ref (ad (k0 + 19)))]) hx hb nd_Run_turn_4 rfl hl (by decide) rfl (fun ls hl => ?_)
  refine lv_lload_n hx hb nd_Run_turn_5 rfl (lv_at hl 0 rfl) ?_
  refine lv_lconst (v := 0) hx hb nd_Run_turn_6 (by decide) ?_
  refine W.lcmp hx hb nd_Run_turn_7 ?_
  refine lv_if_le (tgt := 26) hx hb nd_Run_turn_8 rfl (fun hc => ?_) (fun hc => ?_)
  · replace hf := (if_pos hc).symm.trans hf
    refine lv_lload_n hx hb nd_Run_turn_26 rfl (lv_at hl 0 rfl) ?_
    refine lv_lconst (v := 0) hx hb nd_Run_turn_27 (by decide) ?_
    refine W.lcmp hx hb nd_Run_turn_28 ?_
    refine lv_if_ge (tgt := 44) hx hb nd_Run_turn_29 rfl (fun hc => ?_) (fun hc => ?_)
    · replace hf := (if_pos hc).symm.trans hf
      refine lv_aload_n hx hb nd_Run_turn_44 rfl (lv_at hl 1 rfl) ?_
      refine lv_aload_n hx hb nd_Run_turn_45 rfl (lv_at hl 1 rfl) ?_
      refine xg_Ptr_way hx hb hts hown hK hP hk0 (hts _ nw_129) nd_Run_turn_46 ?_
      refine kc_S (As := [.int (xh_pway q1.2 k0)]) (rest := [.ref (ad (k0 + 19))]) (st1 := [.int (xf_Way_ahead (xh_pway q1.2 k0)), .ref (ad (k0 + 19))]) ⟨hx, hb, hml, hown, hts⟩ (xc_Way_ahead hD (xh_pway q1.2 k0) q1.2 _ rfl) (kb_Way_ahead hts (hts _ nw_531) ⟨Nat.le_of_ble_eq_true rfl, Nat.le_of_ble_eq_true rfl⟩) hK hN hP hS rfl hl.1 rfl rfl (Nat.le_of_ble_eq_true rfl) ⟨Nat.zero_le _, Nat.zero_le _⟩ nd_Run_turn_49 (fun H locs hP hS => ?_)
      refine xp_Ptr_way hx hb hts hown hK hD hP hS hk0 (hts _ nw_129) nd_Run_turn_52 (fun H locs hP hS => ?_)
      obtain ⟨g2, hg2, hf⟩ := Option.bind_eq_some_iff.mp hf
      rw [Option.some.inj hg2] at hP
      refine lv_iconst (v := 0) hx hb nd_Run_turn_55 (by decide) ?_
      obtain rfl := (Option.some.inj hf)
      exact W.iret hx hb hr (fun t ht hW => ⟨rfl, by rw [ht]; exact hP, va_K.moved hW.alike hK, hS.F ht⟩) hS.2.2 nd_Run_turn_56
    · replace hf := (if_neg hc).symm.trans hf
      refine lv_aload_n hx hb nd_Run_turn_32 rfl (lv_at hl 1 rfl) ?_
      refine lv_aload_n hx hb nd_Run_turn_33 rfl (lv_at hl 1 rfl) ?_
      refine xg_Ptr_way hx hb hts hown hK hP hk0 (hts _ nw_129) nd_Run_turn_34 ?_
      refine lv_iconst (v := 3) hx hb nd_Run_turn_37 (by decide) ?_
      refine kc_S (As := [.int (xh_pway q1.2 k0), .int (3 : Int32)]) (rest := [.ref (ad (k0 + 19))]) (st1 := [.int (xf_Way_turned (xh_pway q1.2 k0) (3 : Int32)), .ref (ad (k0 + 19))]) ⟨hx, hb, hml, hown, hts⟩ (xc_Way_turned hD (xh_pway q1.2 k0) (3 : Int32) q1.2 _ rfl) (kb_Way_turned hts (hts _ nw_530) ⟨Nat.le_of_ble_eq_true rfl, Nat.le_of_ble_eq_true rfl⟩) hK hN hP hS rfl hl.1 rfl rfl (Nat.le_of_ble_eq_true rfl) ⟨Nat.zero_le _, Nat.zero_le _⟩ nd_Run_turn_38 (fun H locs hP hS => ?_)
      refine xp_Ptr_way hx hb hts hown hK hD hP hS hk0 (hts _ nw_129) nd_Run_turn_41 (fun H locs hP hS => ?_)
      obtain ⟨g3, hg3, hf⟩ := Option.bind_eq_some_iff.mp hf
      rw [Option.some.inj hg3] at hP
      refine lv_aload_n hx hb nd_Run_turn_44 rfl (lv_at hl 1 rfl) ?_
      refine lv_aload_n hx hb nd_Run_turn_45 rfl (lv_at hl 1 rfl) ?_
      refine xg_Ptr_way hx hb hts hown hK hP hk0 (hts _ nw_129) nd_Run_turn_46 ?_
      refine kc_S (As := [.int (xh_pway g3 k0)]) (rest := [.ref (ad (k0 + 19))]) (st1 := [.int (xf_Way_ahead (xh_pway g3 k0)), .ref (ad (k0 + 19))]) ⟨hx, hb, hml, hown, hts⟩ (xc_Way_ahead hD (xh_pway g3 k0) g3 _ rfl) (kb_Way_ahead hts (hts _ nw_531) ⟨Nat.le_of_ble_eq_true rfl, Nat.le_of_ble_eq_true rfl⟩) hK hN hP hS rfl hl.1 rfl rfl (Nat.le_of_ble_eq_true rfl) ⟨Nat.zero_le _, Nat.zero_le _⟩ nd_Run_turn_49 (fun H locs hP hS => ?_)
      refine xp_Ptr_way hx hb hts hown hK hD hP hS hk0 (hts _ nw_129) nd_Run_turn_52 (fun H locs hP hS => ?_)
      obtain ⟨g4, hg4, hf⟩ := Option.bind_eq_some_iff.mp hf
      rw [Option.some.inj hg4] at hP
      refine lv_iconst (v := 0) hx hb nd_Run_turn_55 (by decide) ?_
      obtain rfl := (Option.some.inj hf)
      exact W.iret hx hb hr (fun t ht hW => ⟨rfl, by rw [ht]; exact hP, va_K.moved hW.alike hK, hS.F ht⟩) hS.2.2 nd_Run_turn_56
  · replace hf := (if_neg hc).symm.trans hf
    refine lv_aload_n hx hb nd_Run_turn_11 rfl (lv_at hl 1 rfl) ?_
    refine lv_aload_n hx hb nd_Run_turn_12 rfl (lv_at hl 1 rfl) ?_
    refine xg_Ptr_way hx hb hts hown hK hP hk0 (hts _ nw_129) nd_Run_turn_13 ?_
    refine lv_iconst (v := 1) hx hb nd_Run_turn_16 (by decide) ?_
    refine kc_S (As := [.int (xh_pway q1.2 k0), .int (1 : Int32)]) (rest := [.ref (ad (k0 + 19))]) (st1 := [.int (xf_Way_turned (xh_pway q1.2 k0) (1 : Int32)), .ref (ad (k0 + 19))]) ⟨hx, hb, hml, hown, hts⟩ (xc_Way_turned hD (xh_pway q1.2 k0) (1 : Int32) q1.2 _ rfl) (kb_Way_turned hts (hts _ nw_530) ⟨Nat.le_of_ble_eq_true rfl, Nat.le_of_ble_eq_true rfl⟩) hK hN hP hS rfl hl.1 rfl rfl (Nat.le_of_ble_eq_true rfl) ⟨Nat.zero_le _, Nat.zero_le _⟩ nd_Run_turn_17 (fun H locs hP hS => ?_)
    refine xp_Ptr_way hx hb hts hown hK hD hP hS hk0 (hts _ nw_129) nd_Run_turn_20 (fun H locs hP hS => ?_)
    obtain ⟨g5, hg5, hf⟩ := Option.bind_eq_some_iff.mp hf
    rw [Option.some.inj hg5] at hP
    refine lv_goto hx hb nd_Run_turn_23 (tgt := 44) rfl ?_
    refine lv_aload_n hx hb nd_Run_turn_44 rfl (lv_at hl 1 rfl) ?_
    refine lv_aload_n hx hb nd_Run_turn_45 rfl (lv_at hl 1 rfl) ?_
    refine xg_Ptr_way hx hb hts hown hK hP hk0 (hts _ nw_129) nd_Run_turn_46 ?_
    refine kc_S (As := [.int (xh_pway g5 k0)]) (rest := [.ref (ad (k0 + 19))]) (st1 := [.int (xf_Way_ahead (xh_pway g5 k0)), .ref (ad (k0 + 19))]) ⟨hx, hb, hml, hown, hts⟩ (xc_Way_ahead hD (xh_pway g5 k0) g5 _ rfl) (kb_Way_ahead hts (hts _ nw_531) ⟨Nat.le_of_ble_eq_true rfl, Nat.le_of_ble_eq_true rfl⟩) hK hN hP hS rfl hl.1 rfl rfl (Nat.le_of_ble_eq_true rfl) ⟨Nat.zero_le _, Nat.zero_le _⟩ nd_Run_turn_49 (fun H locs hP hS => ?_)
    refine xp_Ptr_way hx hb hts hown hK hD hP hS hk0 (hts _ nw_129) nd_Run_turn_52 (fun H locs hP hS => ?_)
    obtain ⟨g6, hg6, hf⟩ := Option.bind_eq_some_iff.mp hf
    rw [Option.some.inj hg6] at hP
    refine lv_iconst (v := 0) hx hb nd_Run_turn_55 (by decide) ?_
    obtain rfl := (Option.some.inj hf)
    exact W.iret hx hb hr (fun t ht hW => ⟨rfl, by rw [ht]; exact hP, va_K.moved hW.alike hK, hS.F ht⟩) hS.2.2 nd_Run_turn_56
set_option maxHeartbeats 4000000 in
set_option maxRecDepth 100000 in
theorem xc_Ptr_fromTop {l : Launch} {D : va_G} {A : Nat → Prop} {cA : Nat → ClassId} {ad : Nat → Nat} (hD : wdD 61 A ad) (k0 : Nat) (a1 : Int64) (h : XH) (q : Int64) (hk0 : k0 < 4) (hf : xf_Ptr_fromTop k0 a1 h = some q) : CT l D vwCl (xtys cA) A ny_Ptr_fromTop (wsO ny_Ptr_fromTop prog_6_method_6_code 3 (some .long)) (rmO 0 0) [.ref (ad (k0 + 19)), .long a1] (xW cA ad h) (xW cA ad h) (some (.long q)) := by
  refine Met.ofW (cc := prog_6_method_6_code) (maxL := 3) (ret := (some .long)) (by decide +kernel) rfl ?_
  intro p e s m args below meth c s₁ B hml hv
  obtain ⟨hav, hP, hK, hN⟩ := hv
  have hx := B.exec
  have hb := B.bytes
  have hr := B.returns
  have hts : ∀ w ∈ lw_wd, w.before args s = true := fun w hw => atoms_spec (ws := (wsO ny_Ptr_fromTop prog_6_method_6_code 3 (some .long))) B.pre w (List.mem_cons_of_mem _ hw)
  have hown : s.vm.findClass "DrawnPaths$Pointer" = some m.cls := findClass_of_methodNamed B.named
  have hlocks := B.notSynchronized
  have hS : va_S A s.heap s.heap [] := va_S.rf
  have hl := lv_entry ([.ref (ad (k0 + 19)), .long a1]) (n := 3) (Nat.le_of_ble_eq_true rfl)
  have hE : entryFrame m args 3 = entryFrame m ([.ref (ad (k0 + 19)), .long a1] : List Value).toArray 3 := by rw [hav]
  rw [hE, lg_entry_eq]
  generalize (lg_sl ([.ref (ad (k0 + 19)), .long a1]) ++ List.replicate (3 - (lg_sl ([.ref (ad (k0 + 19)), .long a1])).length) Slot.unset).toArray = ls at hl ⊢
  have hl : lv_has ls 3 [(0, .ref (ad (k0 + 19))), (1, .long a1)] := hl
  unfold xf_Ptr_fromTop at hf
  refine lv_lload_n hx hb nd_Ptr_fromTop_0 rfl (lv_at hl 1 rfl) ?_
  refine lv_lconst (v := 0) hx hb nd_Ptr_fromTop_1 (by decide) ?_
  refine W.lcmp hx hb nd_Ptr_fromTop_2 ?_
  refine lv_if_lt (tgt := 33) hx hb nd_Ptr_fromTop_3 rfl (fun hc => ?_) (fun hc => ?_)
  · replace hf := (if_pos hc).symm.trans hf
    refine lv_lconst (v := 0) hx hb nd_Ptr_fromTop_33 (by decide) ?_
    obtain rfl := (Option.some.inj hf)
    exact W.lret hx hb hr (fun t ht hW => ⟨rfl, by rw [ht]; exact hP, va_K.moved hW.alike hK, hS.F ht⟩) hS.2.2 nd_Ptr_fromTop_34
  · replace hf := (if_neg hc).symm.trans hf
    refine lv_lload_n hx hb nd_Ptr_fromTop_6 rfl (lv_at hl 1 rfl) ?_
    refine lv_aload_n hx hb nd_Ptr_fromTop_7 rfl (lv_at hl 0 rfl) ?_
    refine xg_Ptr_depth hx hb hts hown hK hP hk0 (hts _ nw_131) nd_Ptr_fromTop_8 ?_
    refine lv_i2l hx hb nd_Ptr_fromTop_11 rfl ?_
    refine W.lcmp hx hb nd_Ptr_fromTop_12 ?_
    refine lv_if_ge (tgt := 33) hx hb nd_Ptr_fromTop_13 rfl (fun hc => ?_) (fun hc => ?_)
    · replace hf := (if_pos hc).symm.trans hf
      refine lv_lconst (v := 0) hx hb nd_Ptr_fromTop_33 (by decide) ?_
      obtain rfl := (Option.some.inj hf)
      exact W.lret hx hb hr (fun t ht hW => ⟨rfl, by rw [ht]; exact hP, va_K.moved hW.alike hK, hS.F ht⟩) hS.2.2 nd_Ptr_fromTop_34
    · replace hf := (if_neg hc).symm.trans hf
      refine lv_aload_n hx hb nd_Ptr_fromTop_16 rfl (lv_at hl 0 rfl) ?_
      refine xg_Ptr_numbers hx hb hts hown hK hP hk0 (hts _ nw_125) nd_Ptr_fromTop_17 ?_
      refine lv_aload_n hx hb nd_Ptr_fromTop_20 rfl (lv_at hl 0 rfl) ?_
      refine xg_Ptr_depth hx hb hts hown hK hP hk0 (hts _ nw_131) nd_Ptr_fromTop_21 ?_
      refine lv_iconst (v := 1) hx hb nd_Ptr_fromTop_24 (by decide) ?_
      refine lv_isub hx hb nd_Ptr_fromTop_25 ?_
      refine lv_lload_n hx hb nd_Ptr_fromTop_26 rfl (lv_at hl 1 rfl) ?_
      refine lv_l2i hx hb nd_Ptr_fromTop_27 rfl ?_
      refine lv_isub hx hb nd_Ptr_fromTop_28 ?_
      obtain ⟨j1, hj1, hf⟩ := Option.bind_eq_some_iff.mp hf
      refine xal_pnums hx hb hK hP hk0 hj1 nd_Ptr_fromTop_29 ?_
      refine lv_goto hx hb nd_Ptr_fromTop_30 (tgt := 34) rfl ?_
      obtain rfl := (Option.some.inj hf)
      exact W.lret hx hb hr (fun t ht hW => ⟨rfl, by rw [ht]; exact hP, va_K.moved hW.alike hK, hS.F ht⟩) hS.2.2 nd_Ptr_fromTop_34
set_option maxHeartbeats 4000000 in
set_option maxRecDepth 100000 in
theorem xc_Run_spell {l : Launch} {D : va_G} {A : Nat → Prop} {cA : Nat → ClassId} {ad : Nat → Nat} (hD : wdD 61 A ad) (fuel : Nat) (a1 : Int64) (h : XH) (q : Int32 × XH) (hf : xf_Run_spell fuel a1 h = some q) : CT l D vwCl (xtys cA) A ny_Run_spell (wsO ny_Run_spell prog_7_method_17_code 8 (some .int)) (rmO 1 21) [.ref (ad 6), .long a1] (xW cA ad h) (xW cA ad q.2) (some (.int q.1)) := by
  refine Met.ofW (cc := prog_7_method_17_code) (maxL := 8) (ret := (some .int)) (by decide +kernel) rfl ?_
  intro p e s m args below meth c s₁ B hml hv
  obtain ⟨hav, hP, hK, hN⟩ := hv
  have hx := B.exec
  have hb := B.bytes
  have hr := B.returns
  have hts : ∀ w ∈ lw_wd, w.before args s = true := fun w hw => atoms_spec (ws := (wsO ny_Run_spell prog_7_method_17_code 8 (some .int))) B.pre w (List.mem_cons_of_mem _ hw)
  have hown : s.vm.findClass "DrawnPaths$Run" = some m.cls := findClass_of_methodNamed B.named
  have hlocks := B.notSynchronized
  have hS : va_S A s.heap s.heap [] := va_S.rf
  have hl := lv_entry ([.ref (ad 6), .long a1]) (n := 8) (Nat.le_of_ble_eq_true rfl)
  have hE : entryFrame m args 8 = entryFrame m ([.ref (ad 6), .long a1] : List Value).toArray 8 := by rw [hav]
  rw [hE, lg_entry_eq]
  generalize (lg_sl ([.ref (ad 6), .long a1]) ++ List.replicate (8 - (lg_sl ([.ref (ad 6), .long a1])).length) Slot.unset).toArray = ls at hl ⊢
  have hl : lv_has ls 8 [(0, .ref (ad 6)), (1, .long a1)] := hl
  have J54 : ∀ (H : Heap) (locs : List Loc) (ls : Array Slot) (h : XH) (hP : va_P D vwCl (xW cA ad h) H) (v1 : Int64) (v3 : Int32) (hS : va_S A s.heap H locs) (hl : lv_has ls 8 [(0, .ref (ad 6)), (1, .long v1), (3, .int v3)]) (hf : xf_Run_spell_J54 fuel v1 v3 h = some q), W p l e (headSpec (wsO ny_Run_spell prog_7_method_17_code 8 (some .int)) (rmO 1 21)).room s m args below meth c H locs 0 0 (MQ below (RetQ D vwCl (xtys cA) A (some (.int q.1)) (xW cA ad q.2)) args s 0 0 A) (F0 m 54 ls []) := by
    intro H locs ls h hP v1 v3 hS hl hf
    unfold xf_Run_spell_J54 at hf
    refine lv_lload_n hx hb nd_Run_spell_54 rfl (lv_at hl 1 rfl) ?_
    refine lv_lconst (v := 0) hx hb nd_Run_spell_55 (by decide) ?_
    refine W.lcmp hx hb nd_Run_spell_56 ?_
    refine lv_if_ge (tgt := 71) hx hb nd_Run_spell_57 rfl (fun hc => ?_) (fun hc => ?_)
    · replace hf := (if_pos hc).symm.trans hf
      refine lv_iload_n hx hb nd_Run_spell_71 rfl (lv_at hl 2 rfl) ?_
      obtain rfl := (Option.some.inj hf)
      exact W.iret hx hb hr (fun t ht hW => ⟨rfl, by rw [ht]; exact hP, va_K.moved hW.alike hK, hS.F ht⟩) hS.2.2 nd_Run_spell_72
    · replace hf := (if_neg hc).symm.trans hf
      refine lv_iinc (v := (v3 + (-1 : Int32))) (lv' := [(3, .int (v3 + (-1 : Int32))), (0, .ref (ad 6)), (1, .long v1)]) hx hb nd_Run_spell_60 hl (k := 2) rfl rfl (by decide) rfl (fun ls hl => ?_)
      refine lv_aload_n hx hb nd_Run_spell_63 rfl (lv_at hl 1 rfl) ?_
      refine xg_Run_digits hx hb hts hown hK hP (hts _ nw_152) nd_Run_spell_64 ?_
      refine lv_iload_n hx hb nd_Run_spell_67 rfl (lv_at hl 0 rfl) ?_
      refine lv_bipush (v := 45) hx hb nd_Run_spell_68 (by decide) ?_
      obtain ⟨j3, hj3, hf⟩ := Option.bind_eq_some_iff.mp hf
      refine xas_digits hx hb hK hD hP hS hj3 nd_Run_spell_70 (fun H locs hP hS => ?_)
      obtain ⟨g4, hg4, hf⟩ := Option.bind_eq_some_iff.mp hf
      rw [Option.some.inj hg4] at hP
      refine lv_iload_n hx hb nd_Run_spell_71 rfl (lv_at hl 0 rfl) ?_
      obtain rfl := (Option.some.inj hf)
      exact W.iret hx hb hr (fun t ht hW => ⟨rfl, by rw [ht]; exact hP, va_K.moved hW.alike hK, hS.F ht⟩) hS.2.2 nd_Run_spell_72
  have L6 : ∀ (n : Nat) (H : Heap) (locs : List Loc) (ls : Array Slot) (h : XH) (hP : va_P D vwCl (xW cA ad h) H) (v1 : Int64) (v3 : Int32) (v4 : Int64) (hS : va_S A s.heap H locs) (hl : lv_has ls 8 [(0, .ref (ad 6)), (1, .long v1), (3, .int v3), (4, .long v4)]) (hf : xf_Run_spell_L6 fuel n v1 v3 v4 h = some q), W p l e (headSpec (wsO ny_Run_spell prog_7_method_17_code 8 (some .int)) (rmO 1 21)).room s m args below meth c H locs 0 0 (MQ below (RetQ D vwCl (xtys cA) A (some (.int q.1)) (xW cA ad q.2)) args s 0 0 A) (F0 m 6 ls []) := by
    intro n
    induction n with
    | zero =>
      intro H locs ls h hP v1 v3 v4 hS hl hf
      rw [xf_Run_spell_L6] at hf
      cases hf
    | succ nL6 ihL6 =>
      intro H locs ls h hP v1 v3 v4 hS hl hf
      rw [xf_Run_spell_L6] at hf
      refine lv_lload hx hb nd_Run_spell_6 (lv_at hl 3 rfl) ?_
      refine lv_ldc2 (v := 10) hx hb hown (hts _ nw_544) nd_Run_spell_8 ?_
      refine lv_lrem hx hb nd_Run_spell_11 (by decide) ?_
      refine jk_absR hx hb hml hl.1 hown hts (hts _ nw_545) ⟨Nat.le_of_ble_eq_true rfl, Nat.le_of_ble_eq_true rfl⟩ (Nat.le_of_ble_eq_true rfl) ⟨Nat.zero_le _, Nat.zero_le _⟩ nd_Run_spell_12 ?_
      refine lv_lstore (lv' := [(6, .long (jk_abs (v4 - v4 / (10 : Int64) * (10 : Int64)))), (0, .ref (ad 6)), (1, .long v1), (3, .int v3), (4, .long v4)]) hx hb nd_Run_spell_15 hl (by decide) rfl (fun ls hl => ?_)
      refine lv_iinc (v := (v3 + (-1 : Int32))) (lv' := [(3, .int (v3 + (-1 : Int32))), (6, .long (jk_abs (v4 - v4 / (10 : Int64) * (10 : Int64)))), (0, .ref (ad 6)), (1, .long v1), (4, .long v4)]) hx hb nd_Run_spell_17 hl (k := 3) rfl rfl (by decide) rfl (fun ls hl => ?_)
      refine lv_aload_n hx hb nd_Run_spell_20 rfl (lv_at hl 2 rfl) ?_
      refine xg_Run_digits hx hb hts hown hK hP (hts _ nw_152) nd_Run_spell_21 ?_
      refine lv_iload_n hx hb nd_Run_spell_24 rfl (lv_at hl 0 rfl) ?_
      refine lv_ldc2 (v := 48) hx hb hown (hts _ nw_548) nd_Run_spell_25 ?_
      refine lv_lload hx hb nd_Run_spell_28 (lv_at hl 1 rfl) ?_
      refine lv_ladd hx hb nd_Run_spell_30 ?_
      refine lv_l2i hx hb nd_Run_spell_31 rfl ?_
      refine lv_i2c hx hb nd_Run_spell_32 rfl ?_
      obtain ⟨j1, hj1, hf⟩ := Option.bind_eq_some_iff.mp hf
      refine xas_digits hx hb hK hD hP hS hj1 nd_Run_spell_33 (fun H locs hP hS => ?_)
      obtain ⟨g2, hg2, hf⟩ := Option.bind_eq_some_iff.mp hf
      rw [Option.some.inj hg2] at hP
      refine lv_lload hx hb nd_Run_spell_34 (lv_at hl 4 rfl) ?_
      refine lv_ldc2 (v := 10) hx hb hown (hts _ nw_544) nd_Run_spell_36 ?_
      refine lv_ldiv hx hb nd_Run_spell_39 (by decide) ?_
      refine lv_lstore (lv' := [(4, .long (v4 / (10 : Int64))), (3, .int (v3 + (-1 : Int32))), (6, .long (jk_abs (v4 - v4 / (10 : Int64) * (10 : Int64)))), (0, .ref (ad 6)), (1, .long v1)]) hx hb nd_Run_spell_40 hl (by decide) rfl (fun ls hl => ?_)
      refine lv_lload hx hb nd_Run_spell_42 (lv_at hl 0 rfl) ?_
      refine lv_lconst (v := 0) hx hb nd_Run_spell_44 (by decide) ?_
      refine W.lcmp hx hb nd_Run_spell_45 ?_
      refine lv_if_eq (tgt := 54) hx hb nd_Run_spell_46 rfl (fun hc => ?_) (fun hc => ?_)
      · replace hf := (if_pos hc).symm.trans hf
        exact J54 _ _ _ g2 hP v1 (v3 + (-1 : Int32)) hS (lv_sub hl [3, 4, 1] rfl) hf
      · replace hf := (if_neg hc).symm.trans hf
        refine lv_iload_n hx hb nd_Run_spell_49 rfl (lv_at hl 1 rfl) ?_
        refine lv_iconst (v := 1) hx hb nd_Run_spell_50 (by decide) ?_
        refine lv_icmp_gt (tgt := 6) hx hb nd_Run_spell_51 rfl (fun hc => ?_) (fun hc => ?_)
        · replace hf := (if_pos hc).symm.trans hf
          exact ihL6 _ _ _ g2 hP v1 (v3 + (-1 : Int32)) (v4 / (10 : Int64)) hS (lv_sub hl [3, 4, 1, 0] rfl) hf
        · replace hf := (if_neg hc).symm.trans hf
          exact J54 _ _ _ g2 hP v1 (v3 + (-1 : Int32)) hS (lv_sub hl [3, 4, 1] rfl) hf
  unfold xf_Run_spell at hf
  refine lv_bipush (v := 20) hx hb nd_Run_spell_0 (by decide) ?_
  refine lv_istore_n (lv' := [(3, .int (20 : Int32)), (0, .ref (ad 6)), (1, .long a1)]) hx hb nd_Run_spell_2 rfl hl (by decide) rfl (fun ls hl => ?_)
  refine lv_lload_n hx hb nd_Run_spell_3 rfl (lv_at hl 2 rfl) ?_
  refine lv_lstore (lv' := [(4, .long a1), (3, .int (20 : Int32)), (0, .ref (ad 6)), (1, .long a1)]) hx hb nd_Run_spell_4 hl (by decide) rfl (fun ls hl => ?_)
  exact L6 fuel _ _ _ h hP a1 (20 : Int32) a1 hS (lv_sub hl [2, 3, 1, 0] rfl) hf
set_option maxHeartbeats 4000000 in
set_option maxRecDepth 100000 in
theorem xc_Run_writeNumber {l : Launch} {D : va_G} {A : Nat → Prop} {cA : Nat → ClassId} {ad : Nat → Nat} (hD : wdD 61 A ad) (fuel : Nat) (k1 : Nat) (h : XH) (q : Int32 × XH) (hk1 : k1 < 4) (hf : xf_Run_writeNumber fuel k1 h = some q) : CT l D vwCl (xtys cA) A ny_Run_writeNumber (wsO ny_Run_writeNumber prog_7_method_16_code 4 (some .int)) (rmO 2 48) [.ref (ad 6), .ref (ad (k1 + 19))] (xW cA ad h) (xW cA ad q.2) (some (.int q.1)) := by
  refine Met.ofW (cc := prog_7_method_16_code) (maxL := 4) (ret := (some .int)) (by decide +kernel) rfl ?_
  intro p e s m args below meth c s₁ B hml hv
  obtain ⟨hav, hP, hK, hN⟩ := hv
  have hx := B.exec
  have hb := B.bytes
  have hr := B.returns
  have hts : ∀ w ∈ lw_wd, w.before args s = true := fun w hw => atoms_spec (ws := (wsO ny_Run_writeNumber prog_7_method_16_code 4 (some .int))) B.pre w (List.mem_cons_of_mem _ hw)
  have hown : s.vm.findClass "DrawnPaths$Run" = some m.cls := findClass_of_methodNamed B.named
  have hlocks := B.notSynchronized
  have hS : va_S A s.heap s.heap [] := va_S.rf
  have hl := lv_entry ([.ref (ad 6), .ref (ad (k1 + 19))]) (n := 4) (Nat.le_of_ble_eq_true rfl)
  have hE : entryFrame m args 4 = entryFrame m ([.ref (ad 6), .ref (ad (k1 + 19))] : List Value).toArray 4 := by rw [hav]
  rw [hE, lg_entry_eq]
  generalize (lg_sl ([.ref (ad 6), .ref (ad (k1 + 19))]) ++ List.replicate (4 - (lg_sl ([.ref (ad 6), .ref (ad (k1 + 19))])).length) Slot.unset).toArray = ls at hl ⊢
  have hl : lv_has ls 4 [(0, .ref (ad 6)), (1, .ref (ad (k1 + 19)))] := hl
  have L35 : ∀ (n : Nat) (H : Heap) (locs : List Loc) (ls : Array Slot) (h : XH) (hP : va_P D vwCl (xW cA ad h) H) (v1 : Nat) (v3 : Int32) (hv1 : v1 < 4) (hS : va_S A s.heap H locs) (hl : lv_has ls 4 [(0, .ref (ad 6)), (1, .ref (ad (v1 + 19))), (3, .int v3)]) (hf : xf_Run_writeNumber_L35 fuel n v1 v3 h = some q), W p l e (headSpec (wsO ny_Run_writeNumber prog_7_method_16_code 4 (some .int)) (rmO 2 48)).room s m args below meth c H locs 0 0 (MQ below (RetQ D vwCl (xtys cA) A (some (.int q.1)) (xW cA ad q.2)) args s 0 0 A) (F0 m 35 ls []) := by
    intro n
    induction n with
    | zero =>
      intro H locs ls h hP v1 v3 hv1 hS hl hf
      rw [xf_Run_writeNumber_L35] at hf
      cases hf
    | succ nL35 ihL35 =>
      intro H locs ls h hP v1 v3 hv1 hS hl hf
      rw [xf_Run_writeNumber_L35] at hf
      refine lv_iload_n hx hb nd_Run_writeNumber_35 rfl (lv_at hl 2 rfl) ?_
      refine lv_bipush (v := 20) hx hb nd_Run_writeNumber_36 (by decide) ?_
      refine lv_icmp_ge (tgt := 60) hx hb nd_Run_writeNumber_38 rfl (fun hc => ?_) (fun hc => ?_)
      · replace hf := (if_pos hc).symm.trans hf
        refine lv_aload_n hx hb nd_Run_writeNumber_60 rfl (lv_at hl 0 rfl) ?_
        refine xg_Run_written hx hb hts hown hK hP (hts _ nw_153) nd_Run_writeNumber_61 ?_
        refine lv_bipush (v := 32) hx hb nd_Run_writeNumber_64 (by decide) ?_
        obtain ⟨q4, hq4, hf⟩ := Option.bind_eq_some_iff.mp hf
        refine kc_V (As := [.int (32 : Int32)]) (rest := []) (st1 := []) ⟨hx, hb, hml, hown, hts⟩ (xc_Line_add hD 0 (32 : Int32) h _ (by decide) hq4) (kb_Line_add hts (hts _ nw_550) ⟨Nat.le_of_ble_eq_true rfl, Nat.le_of_ble_eq_true rfl⟩) (xr_Line hK hP (by decide)) hK hN hP hS rfl hl.1 rfl rfl (Nat.le_of_ble_eq_true rfl) ⟨Nat.zero_le _, Nat.zero_le _⟩ nd_Run_writeNumber_66 (fun H locs hP hS => ?_)
        refine lv_aload_n hx hb nd_Run_writeNumber_69 rfl (lv_at hl 1 rfl) ?_
        refine lv_aload_n hx hb nd_Run_writeNumber_70 rfl (lv_at hl 1 rfl) ?_
        refine xg_Ptr_way hx hb hts hown hK hP hv1 (hts _ nw_129) nd_Run_writeNumber_71 ?_
        refine kc_S (As := [.int (xh_pway q4 v1)]) (rest := [.ref (ad (v1 + 19))]) (st1 := [.int (xf_Way_ahead (xh_pway q4 v1)), .ref (ad (v1 + 19))]) ⟨hx, hb, hml, hown, hts⟩ (xc_Way_ahead hD (xh_pway q4 v1) q4 _ rfl) (kb_Way_ahead hts (hts _ nw_531) ⟨Nat.le_of_ble_eq_true rfl, Nat.le_of_ble_eq_true rfl⟩) hK hN hP hS rfl hl.1 rfl rfl (Nat.le_of_ble_eq_true rfl) ⟨Nat.zero_le _, Nat.zero_le _⟩ nd_Run_writeNumber_74 (fun H locs hP hS => ?_)
        refine xp_Ptr_way hx hb hts hown hK hD hP hS hv1 (hts _ nw_129) nd_Run_writeNumber_77 (fun H locs hP hS => ?_)
        obtain ⟨g5, hg5, hf⟩ := Option.bind_eq_some_iff.mp hf
        rw [Option.some.inj hg5] at hP
        refine lv_iconst (v := 0) hx hb nd_Run_writeNumber_80 (by decide) ?_
        obtain rfl := (Option.some.inj hf)
        exact W.iret hx hb hr (fun t ht hW => ⟨rfl, by rw [ht]; exact hP, va_K.moved hW.alike hK, hS.F ht⟩) hS.2.2 nd_Run_writeNumber_81
      · replace hf := (if_neg hc).symm.trans hf
        refine lv_aload_n hx hb nd_Run_writeNumber_41 rfl (lv_at hl 0 rfl) ?_
        refine xg_Run_written hx hb hts hown hK hP (hts _ nw_153) nd_Run_writeNumber_42 ?_
        refine lv_aload_n hx hb nd_Run_writeNumber_45 rfl (lv_at hl 0 rfl) ?_
        refine xg_Run_digits hx hb hts hown hK hP (hts _ nw_152) nd_Run_writeNumber_46 ?_
        refine lv_iload_n hx hb nd_Run_writeNumber_49 rfl (lv_at hl 2 rfl) ?_
        obtain ⟨j6, hj6, hf⟩ := Option.bind_eq_some_iff.mp hf
        refine xal_digits hx hb hK hP hj6 nd_Run_writeNumber_50 ?_
        obtain ⟨q7, hq7, hf⟩ := Option.bind_eq_some_iff.mp hf
        refine kc_V (As := [.int (xh_digits h j6)]) (rest := []) (st1 := []) ⟨hx, hb, hml, hown, hts⟩ (xc_Line_add hD 0 (xh_digits h j6) h _ (by decide) hq7) (kb_Line_add hts (hts _ nw_550) ⟨Nat.le_of_ble_eq_true rfl, Nat.le_of_ble_eq_true rfl⟩) (xr_Line hK hP (by decide)) hK hN hP hS rfl hl.1 rfl rfl (Nat.le_of_ble_eq_true rfl) ⟨Nat.zero_le _, Nat.zero_le _⟩ nd_Run_writeNumber_51 (fun H locs hP hS => ?_)
        refine lv_iinc (v := (v3 + (1 : Int32))) (lv' := [(3, .int (v3 + (1 : Int32))), (0, .ref (ad 6)), (1, .ref (ad (v1 + 19)))]) hx hb nd_Run_writeNumber_54 hl (k := 2) rfl rfl (by decide) rfl (fun ls hl => ?_)
        refine lv_goto hx hb nd_Run_writeNumber_57 (tgt := 35) rfl ?_
        exact ihL35 _ _ _ q7 hP v1 (v3 + (1 : Int32)) hv1 hS (lv_sub hl [1, 2, 0] rfl) hf
  unfold xf_Run_writeNumber at hf
  refine lv_aload_n hx hb nd_Run_writeNumber_0 rfl (lv_at hl 0 rfl) ?_
  refine lv_aload_n hx hb nd_Run_writeNumber_1 rfl (lv_at hl 1 rfl) ?_
  refine lv_lconst (v := 0) hx hb nd_Run_writeNumber_2 (by decide) ?_
  obtain ⟨q1, hq1, hf⟩ := Option.bind_eq_some_iff.mp hf
  refine kc_V (As := [.long (0 : Int64)]) (rest := [.ref (ad 6)]) (st1 := [.long q1, .ref (ad 6)]) ⟨hx, hb, hml, hown, hts⟩ (xc_Ptr_fromTop hD k1 (0 : Int64) h _ hk1 hq1) (kb_Ptr_fromTop hts (hts _ nw_536) ⟨Nat.le_of_ble_eq_true rfl, Nat.le_of_ble_eq_true rfl⟩) (xr_Pointer hK hP hk1) hK hN hP hS rfl hl.1 rfl rfl (Nat.le_of_ble_eq_true rfl) ⟨Nat.zero_le _, Nat.zero_le _⟩ nd_Run_writeNumber_3 (fun H locs hP hS => ?_)
  obtain ⟨q2, hq2, hf⟩ := Option.bind_eq_some_iff.mp hf
  refine kc_V (As := [.long q1]) (rest := []) (st1 := [.int q2.1]) ⟨hx, hb, hml, hown, hts⟩ (xc_Run_spell hD fuel q1 h _ hq2) (kb_Run_spell hts (hts _ nw_540) ⟨Nat.le_of_ble_eq_true rfl, Nat.le_of_ble_eq_true rfl⟩) (xr_Run hK hP) hK hN hP hS rfl hl.1 rfl rfl (Nat.le_of_ble_eq_true rfl) ⟨Nat.zero_le _, Nat.zero_le _⟩ nd_Run_writeNumber_6 (fun H locs hP hS => ?_)
  refine lv_istore_n (lv' := [(2, .int q2.1), (0, .ref (ad 6)), (1, .ref (ad (k1 + 19)))]) hx hb nd_Run_writeNumber_9 rfl hl (by decide) rfl (fun ls hl => ?_)
  refine lv_aload_n hx hb nd_Run_writeNumber_10 rfl (lv_at hl 1 rfl) ?_
  refine xg_Run_written hx hb hts hown hK hP (hts _ nw_153) nd_Run_writeNumber_11 ?_
  refine lv_bipush (v := 20) hx hb nd_Run_writeNumber_14 (by decide) ?_
  refine lv_iload_n hx hb nd_Run_writeNumber_16 rfl (lv_at hl 0 rfl) ?_
  refine lv_isub hx hb nd_Run_writeNumber_17 ?_
  refine lv_iconst (v := 1) hx hb nd_Run_writeNumber_18 (by decide) ?_
  refine lv_iadd hx hb nd_Run_writeNumber_19 ?_
  refine kc_V (As := [.int (((20 : Int32) - q2.1) + (1 : Int32))]) (rest := []) (st1 := [.int (xf_Line_hasRoom 0 (((20 : Int32) - q2.1) + (1 : Int32)) q2.2)]) ⟨hx, hb, hml, hown, hts⟩ (xc_Line_hasRoom hD 0 (((20 : Int32) - q2.1) + (1 : Int32)) q2.2 _ (by decide) rfl) (kb_Line_hasRoom hts (hts _ nw_549) ⟨Nat.le_of_ble_eq_true rfl, Nat.le_of_ble_eq_true rfl⟩) (xr_Line hK hP (by decide)) hK hN hP hS rfl hl.1 rfl rfl (Nat.le_of_ble_eq_true rfl) ⟨Nat.zero_le _, Nat.zero_le _⟩ nd_Run_writeNumber_20 (fun H locs hP hS => ?_)
  refine lv_if_ne (tgt := 28) hx hb nd_Run_writeNumber_23 rfl (fun hc => ?_) (fun hc => ?_)
  · replace hf := (if_neg hc).symm.trans hf
    refine lv_aload_n hx hb nd_Run_writeNumber_28 rfl (lv_at hl 2 rfl) ?_
    obtain ⟨q3, hq3, hf⟩ := Option.bind_eq_some_iff.mp hf
    refine kc_V (As := []) (rest := []) (st1 := [.long q3.1]) ⟨hx, hb, hml, hown, hts⟩ (xc_Ptr_pop hD k1 q2.2 _ hk1 hq3) (kb_Ptr_pop hts (hts _ nw_526) ⟨Nat.le_of_ble_eq_true rfl, Nat.le_of_ble_eq_true rfl⟩) (xr_Pointer hK hP hk1) hK hN hP hS rfl hl.1 rfl rfl (Nat.le_of_ble_eq_true rfl) ⟨Nat.zero_le _, Nat.zero_le _⟩ nd_Run_writeNumber_29 (fun H locs hP hS => ?_)
    refine lv_pop2_2 hx hb nd_Run_writeNumber_32 rfl ?_
    refine lv_iload_n hx hb nd_Run_writeNumber_33 rfl (lv_at hl 0 rfl) ?_
    refine lv_istore_n (lv' := [(3, .int q2.1), (2, .int q2.1), (0, .ref (ad 6)), (1, .ref (ad (k1 + 19)))]) hx hb nd_Run_writeNumber_34 rfl hl (by decide) rfl (fun ls hl => ?_)
    exact L35 fuel _ _ _ q3.2 hP k1 q2.1 hk1 hS (lv_sub hl [2, 3, 0] rfl) hf
  · replace hf := (if_pos hc).symm.trans hf
    refine lv_iconst (v := 3) hx hb nd_Run_writeNumber_26 (by decide) ?_
    obtain rfl := (Option.some.inj hf)
    exact W.iret hx hb hr (fun t ht hW => ⟨rfl, by rw [ht]; exact hP, va_K.moved hW.alike hK, hS.F ht⟩) hS.2.2 nd_Run_writeNumber_27
end
section
set_option maxHeartbeats 4000000 in
set_option maxRecDepth 100000 in
theorem xc_P_signOf {l : Launch} {D : va_G} {A : Nat → Prop} {cA : Nat → ClassId} {ad : Nat → Nat} (hD : wdD 61 A ad) (a0 : Int64) (h : XH) (q : Int32) (hf : xf_P_signOf a0 = q) : CT l D vwCl (xtys cA) A ny_P_signOf (wsO ny_P_signOf prog_1_method_26_code 3 (some .char)) (rmO 1 20) [.long a0] (xW cA ad h) (xW cA ad h) (some (.int q)) := by
  refine Met.ofW (cc := prog_1_method_26_code) (maxL := 3) (ret := (some .char)) (by decide +kernel) rfl ?_
  intro p e s m args below meth c s₁ B hml hv
  obtain ⟨hav, hP, hK, hN⟩ := hv
  have hx := B.exec
  have hb := B.bytes
  have hr := B.returns
  have hts : ∀ w ∈ lw_wd, w.before args s = true := fun w hw => atoms_spec (ws := (wsO ny_P_signOf prog_1_method_26_code 3 (some .char))) B.pre w (List.mem_cons_of_mem _ hw)
  have hown : s.vm.findClass "DrawnPaths" = some m.cls := findClass_of_methodNamed B.named
  have hlocks := B.notSynchronized
  have hS : va_S A s.heap s.heap [] := va_S.rf
  have hl := lv_entry ([.long a0]) (n := 3) (Nat.le_of_ble_eq_true rfl)
  have hE : entryFrame m args 3 = entryFrame m ([.long a0] : List Value).toArray 3 := by rw [hav]
  rw [hE, lg_entry_eq]
  generalize (lg_sl ([.long a0]) ++ List.replicate (3 - (lg_sl ([.long a0])).length) Slot.unset).toArray = ls at hl ⊢
  have hl : lv_has ls 3 [(0, .long a0)] := hl
  unfold xf_P_signOf at hf
  refine lv_lload_n hx hb nd_P_signOf_0 rfl (lv_at hl 0 rfl) ?_
  refine lv_ldc2 (v := 127) hx hb hown (hts _ nw_558) nd_P_signOf_1 ?_
  refine lv_land hx hb nd_P_signOf_4 ?_
  refine lv_l2i hx hb nd_P_signOf_5 rfl ?_
  refine lv_i2c hx hb nd_P_signOf_6 rfl ?_
  refine lv_istore_n (lv' := [(2, .int ((((a0 &&& (127 : Int64)).toInt32).toUInt32 % 65536).toInt32)), (0, .long a0)]) hx hb nd_P_signOf_7 rfl hl (by decide) rfl (fun ls hl => ?_)
  refine lv_iload_n hx hb nd_P_signOf_8 rfl (lv_at hl 0 rfl) ?_
  refine kc_S (As := [.int ((((a0 &&& (127 : Int64)).toInt32).toUInt32 % 65536).toInt32)]) (rest := []) (st1 := [.int (xf_P_isSign ((((a0 &&& (127 : Int64)).toInt32).toUInt32 % 65536).toInt32))]) ⟨hx, hb, hml, hown, hts⟩ (xc_P_isSign hD ((((a0 &&& (127 : Int64)).toInt32).toUInt32 % 65536).toInt32) h _ rfl) (kb_P_isSign hts (hts _ nw_226) ⟨Nat.le_of_ble_eq_true rfl, Nat.le_of_ble_eq_true rfl⟩) hK hN hP hS rfl hl.1 rfl rfl (Nat.le_of_ble_eq_true rfl) ⟨Nat.zero_le _, Nat.zero_le _⟩ nd_P_signOf_9 (fun H locs hP hS => ?_)
  refine lv_if_eq (tgt := 19) hx hb nd_P_signOf_12 rfl (fun hc => ?_) (fun hc => ?_)
  · replace hf := (if_pos hc).symm.trans hf
    refine lv_bipush (v := 32) hx hb nd_P_signOf_19 (by decide) ?_
    obtain rfl := hf
    exact W.zret hx hb hr (by decide) (fun t ht hW => ⟨rfl, by rw [ht]; exact hP, va_K.moved hW.alike hK, hS.F ht⟩) hS.2.2 nd_P_signOf_21
  · replace hf := (if_neg hc).symm.trans hf
    refine lv_iload_n hx hb nd_P_signOf_15 rfl (lv_at hl 0 rfl) ?_
    refine lv_goto hx hb nd_P_signOf_16 (tgt := 21) rfl ?_
    obtain rfl := hf
    exact W.zret hx hb hr (pk_nc _) (fun t ht hW => ⟨rfl, by rw [ht]; exact hP, va_K.moved hW.alike hK, hS.F ht⟩) hS.2.2 nd_P_signOf_21
set_option maxHeartbeats 4000000 in
set_option maxRecDepth 100000 in
theorem xc_Run_writeCharacter {l : Launch} {D : va_G} {A : Nat → Prop} {cA : Nat → ClassId} {ad : Nat → Nat} (hD : wdD 61 A ad) (k1 : Nat) (h : XH) (q : Int32 × XH) (hk1 : k1 < 4) (hf : xf_Run_writeCharacter k1 h = some q) : CT l D vwCl (xtys cA) A ny_Run_writeCharacter (wsO ny_Run_writeCharacter prog_7_method_18_code 2 (some .int)) (rmO 2 42) [.ref (ad 6), .ref (ad (k1 + 19))] (xW cA ad h) (xW cA ad q.2) (some (.int q.1)) := by
  refine Met.ofW (cc := prog_7_method_18_code) (maxL := 2) (ret := (some .int)) (by decide +kernel) rfl ?_
  intro p e s m args below meth c s₁ B hml hv
  obtain ⟨hav, hP, hK, hN⟩ := hv
  have hx := B.exec
  have hb := B.bytes
  have hr := B.returns
  have hts : ∀ w ∈ lw_wd, w.before args s = true := fun w hw => atoms_spec (ws := (wsO ny_Run_writeCharacter prog_7_method_18_code 2 (some .int))) B.pre w (List.mem_cons_of_mem _ hw)
  have hown : s.vm.findClass "DrawnPaths$Run" = some m.cls := findClass_of_methodNamed B.named
  have hlocks := B.notSynchronized
  have hS : va_S A s.heap s.heap [] := va_S.rf
  have hl := lv_entry ([.ref (ad 6), .ref (ad (k1 + 19))]) (n := 2) (Nat.le_of_ble_eq_true rfl)
  have hE : entryFrame m args 2 = entryFrame m ([.ref (ad 6), .ref (ad (k1 + 19))] : List Value).toArray 2 := by rw [hav]
  rw [hE, lg_entry_eq]
  generalize (lg_sl ([.ref (ad 6), .ref (ad (k1 + 19))]) ++ List.replicate (2 - (lg_sl ([.ref (ad 6), .ref (ad (k1 + 19))])).length) Slot.unset).toArray = ls at hl ⊢
  have hl : lv_has ls 2 [(0, .ref (ad 6)), (1, .ref (ad (k1 + 19)))] := hl
  unfold xf_Run_writeCharacter at hf
  refine lv_aload_n hx hb nd_Run_writeCharacter_0 rfl (lv_at hl 0 rfl) ?_
  refine xg_Run_written hx hb hts hown hK hP (hts _ nw_153) nd_Run_writeCharacter_1 ?_
  refine lv_iconst (v := 1) hx hb nd_Run_writeCharacter_4 (by decide) ?_
  refine kc_V (As := [.int (1 : Int32)]) (rest := []) (st1 := [.int (xf_Line_hasRoom 0 (1 : Int32) h)]) ⟨hx, hb, hml, hown, hts⟩ (xc_Line_hasRoom hD 0 (1 : Int32) h _ (by decide) rfl) (kb_Line_hasRoom hts (hts _ nw_549) ⟨Nat.le_of_ble_eq_true rfl, Nat.le_of_ble_eq_true rfl⟩) (xr_Line hK hP (by decide)) hK hN hP hS rfl hl.1 rfl rfl (Nat.le_of_ble_eq_true rfl) ⟨Nat.zero_le _, Nat.zero_le _⟩ nd_Run_writeCharacter_5 (fun H locs hP hS => ?_)
  refine lv_if_ne (tgt := 13) hx hb nd_Run_writeCharacter_8 rfl (fun hc => ?_) (fun hc => ?_)
  · replace hf := (if_neg hc).symm.trans hf
    refine lv_aload_n hx hb nd_Run_writeCharacter_13 rfl (lv_at hl 0 rfl) ?_
    refine xg_Run_written hx hb hts hown hK hP (hts _ nw_153) nd_Run_writeCharacter_14 ?_
    refine lv_aload_n hx hb nd_Run_writeCharacter_17 rfl (lv_at hl 1 rfl) ?_
    obtain ⟨q1, hq1, hf⟩ := Option.bind_eq_some_iff.mp hf
    refine kc_V (As := []) (rest := [.ref (ad (0 + 13))]) (st1 := [.long q1.1, .ref (ad (0 + 13))]) ⟨hx, hb, hml, hown, hts⟩ (xc_Ptr_pop hD k1 h _ hk1 hq1) (kb_Ptr_pop hts (hts _ nw_526) ⟨Nat.le_of_ble_eq_true rfl, Nat.le_of_ble_eq_true rfl⟩) (xr_Pointer hK hP hk1) hK hN hP hS rfl hl.1 rfl rfl (Nat.le_of_ble_eq_true rfl) ⟨Nat.zero_le _, Nat.zero_le _⟩ nd_Run_writeCharacter_18 (fun H locs hP hS => ?_)
    refine kc_SN (As := [.long q1.1]) (rest := [.ref (ad (0 + 13))]) (st1 := [.int (xf_P_signOf q1.1), .ref (ad (0 + 13))]) ⟨hx, hb, hml, hown, hts⟩ (xc_P_signOf hD q1.1 q1.2 _ rfl) (kb_P_signOfN hts (hN.1 _ nw_555) ⟨Nat.le_of_ble_eq_true rfl, Nat.le_of_ble_eq_true rfl⟩) hK hN hP hS rfl hl.1 rfl rfl (Nat.le_of_ble_eq_true rfl) ⟨Nat.zero_le _, Nat.zero_le _⟩ nd_Run_writeCharacter_21 (fun H locs hP hS => ?_)
    obtain ⟨q2, hq2, hf⟩ := Option.bind_eq_some_iff.mp hf
    refine kc_V (As := [.int (xf_P_signOf q1.1)]) (rest := []) (st1 := []) ⟨hx, hb, hml, hown, hts⟩ (xc_Line_add hD 0 (xf_P_signOf q1.1) q1.2 _ (by decide) hq2) (kb_Line_add hts (hts _ nw_550) ⟨Nat.le_of_ble_eq_true rfl, Nat.le_of_ble_eq_true rfl⟩) (xr_Line hK hP (by decide)) hK hN hP hS rfl hl.1 rfl rfl (Nat.le_of_ble_eq_true rfl) ⟨Nat.zero_le _, Nat.zero_le _⟩ nd_Run_writeCharacter_24 (fun H locs hP hS => ?_)
    refine lv_aload_n hx hb nd_Run_writeCharacter_27 rfl (lv_at hl 1 rfl) ?_
    refine lv_aload_n hx hb nd_Run_writeCharacter_28 rfl (lv_at hl 1 rfl) ?_
    refine xg_Ptr_way hx hb hts hown hK hP hk1 (hts _ nw_129) nd_Run_writeCharacter_29 ?_
    refine kc_S (As := [.int (xh_pway q2 k1)]) (rest := [.ref (ad (k1 + 19))]) (st1 := [.int (xf_Way_ahead (xh_pway q2 k1)), .ref (ad (k1 + 19))]) ⟨hx, hb, hml, hown, hts⟩ (xc_Way_ahead hD (xh_pway q2 k1) q2 _ rfl) (kb_Way_ahead hts (hts _ nw_531) ⟨Nat.le_of_ble_eq_true rfl, Nat.le_of_ble_eq_true rfl⟩) hK hN hP hS rfl hl.1 rfl rfl (Nat.le_of_ble_eq_true rfl) ⟨Nat.zero_le _, Nat.zero_le _⟩ nd_Run_writeCharacter_32 (fun H locs hP hS => ?_)
    refine xp_Ptr_way hx hb hts hown hK hD hP hS hk1 (hts _ nw_129) nd_Run_writeCharacter_35 (fun H locs hP hS => ?_)
    obtain ⟨g3, hg3, hf⟩ := Option.bind_eq_some_iff.mp hf
    rw [Option.some.inj hg3] at hP
    refine lv_iconst (v := 0) hx hb nd_Run_writeCharacter_38 (by decide) ?_
    obtain rfl := (Option.some.inj hf)
    exact W.iret hx hb hr (fun t ht hW => ⟨rfl, by rw [ht]; exact hP, va_K.moved hW.alike hK, hS.F ht⟩) hS.2.2 nd_Run_writeCharacter_39
  · replace hf := (if_pos hc).symm.trans hf
    refine lv_iconst (v := 3) hx hb nd_Run_writeCharacter_11 (by decide) ?_
    obtain rfl := (Option.some.inj hf)
    exact W.iret hx hb hr (fun t ht hW => ⟨rfl, by rw [ht]; exact hP, va_K.moved hW.alike hK, hS.F ht⟩) hS.2.2 nd_Run_writeCharacter_12
set_option maxHeartbeats 4000000 in
set_option maxRecDepth 100000 in
theorem xc_Ptr_isFull {l : Launch} {D : va_G} {A : Nat → Prop} {cA : Nat → ClassId} {ad : Nat → Nat} (hD : wdD 61 A ad) (k0 : Nat) (h : XH) (q : Int32) (hk0 : k0 < 4) (hf : xf_Ptr_isFull k0 h = q) : CT l D vwCl (xtys cA) A ny_Ptr_isFull (wsO ny_Ptr_isFull prog_6_method_3_code 1 (some .boolean)) (rmO 0 0) [.ref (ad (k0 + 19))] (xW cA ad h) (xW cA ad h) (some (.int q)) := by
  refine Met.ofW (cc := prog_6_method_3_code) (maxL := 1) (ret := (some .boolean)) (by decide +kernel) rfl ?_
  intro p e s m args below meth c s₁ B hml hv
  obtain ⟨hav, hP, hK, hN⟩ := hv
  have hx := B.exec
  have hb := B.bytes
  have hr := B.returns
  have hts : ∀ w ∈ lw_wd, w.before args s = true := fun w hw => atoms_spec (ws := (wsO ny_Ptr_isFull prog_6_method_3_code 1 (some .boolean))) B.pre w (List.mem_cons_of_mem _ hw)
  have hown : s.vm.findClass "DrawnPaths$Pointer" = some m.cls := findClass_of_methodNamed B.named
  have hlocks := B.notSynchronized
  have hS : va_S A s.heap s.heap [] := va_S.rf
  have hl := lv_entry ([.ref (ad (k0 + 19))]) (n := 1) (Nat.le_of_ble_eq_true rfl)
  have hE : entryFrame m args 1 = entryFrame m ([.ref (ad (k0 + 19))] : List Value).toArray 1 := by rw [hav]
  rw [hE, lg_entry_eq]
  generalize (lg_sl ([.ref (ad (k0 + 19))]) ++ List.replicate (1 - (lg_sl ([.ref (ad (k0 + 19))])).length) Slot.unset).toArray = ls at hl ⊢
  have hl : lv_has ls 1 [(0, .ref (ad (k0 + 19)))] := hl
  unfold xf_Ptr_isFull at hf
  refine lv_aload_n hx hb nd_Ptr_isFull_0 rfl (lv_at hl 0 rfl) ?_
  refine xg_Ptr_depth hx hb hts hown hK hP hk0 (hts _ nw_131) nd_Ptr_isFull_1 ?_
  refine lv_bipush (v := 24) hx hb nd_Ptr_isFull_4 (by decide) ?_
  refine lv_icmp_ne (tgt := 13) hx hb nd_Ptr_isFull_6 rfl (fun hc => ?_) (fun hc => ?_)
  · replace hf := (if_neg hc).symm.trans hf
    refine lv_iconst (v := 0) hx hb nd_Ptr_isFull_13 (by decide) ?_
    obtain rfl := hf
    exact W.zret hx hb hr (by decide) (fun t ht hW => ⟨rfl, by rw [ht]; exact hP, va_K.moved hW.alike hK, hS.F ht⟩) hS.2.2 nd_Ptr_isFull_14
  · replace hf := (if_pos hc).symm.trans hf
    refine lv_iconst (v := 1) hx hb nd_Ptr_isFull_9 (by decide) ?_
    refine lv_goto hx hb nd_Ptr_isFull_10 (tgt := 14) rfl ?_
    obtain rfl := hf
    exact W.zret hx hb hr (by decide) (fun t ht hW => ⟨rfl, by rw [ht]; exact hP, va_K.moved hW.alike hK, hS.F ht⟩) hS.2.2 nd_Ptr_isFull_14
set_option maxHeartbeats 4000000 in
set_option maxRecDepth 100000 in
theorem xc_Ptr_push {l : Launch} {D : va_G} {A : Nat → Prop} {cA : Nat → ClassId} {ad : Nat → Nat} (hD : wdD 61 A ad) (k0 : Nat) (a1 : Int64) (h : XH) (q : XH) (hk0 : k0 < 4) (hf : xf_Ptr_push k0 a1 h = some q) : CT l D vwCl (xtys cA) A ny_Ptr_push (wsO ny_Ptr_push prog_6_method_4_code 3 none) (rmO 0 0) [.ref (ad (k0 + 19)), .long a1] (xW cA ad h) (xW cA ad q) none := by
  refine Met.ofW (cc := prog_6_method_4_code) (maxL := 3) (ret := none) (by decide +kernel) rfl ?_
  intro p e s m args below meth c s₁ B hml hv
  obtain ⟨hav, hP, hK, hN⟩ := hv
  have hx := B.exec
  have hb := B.bytes
  have hr := B.returns
  have hts : ∀ w ∈ lw_wd, w.before args s = true := fun w hw => atoms_spec (ws := (wsO ny_Ptr_push prog_6_method_4_code 3 none)) B.pre w (List.mem_cons_of_mem _ hw)
  have hown : s.vm.findClass "DrawnPaths$Pointer" = some m.cls := findClass_of_methodNamed B.named
  have hlocks := B.notSynchronized
  have hS : va_S A s.heap s.heap [] := va_S.rf
  have hl := lv_entry ([.ref (ad (k0 + 19)), .long a1]) (n := 3) (Nat.le_of_ble_eq_true rfl)
  have hE : entryFrame m args 3 = entryFrame m ([.ref (ad (k0 + 19)), .long a1] : List Value).toArray 3 := by rw [hav]
  rw [hE, lg_entry_eq]
  generalize (lg_sl ([.ref (ad (k0 + 19)), .long a1]) ++ List.replicate (3 - (lg_sl ([.ref (ad (k0 + 19)), .long a1])).length) Slot.unset).toArray = ls at hl ⊢
  have hl : lv_has ls 3 [(0, .ref (ad (k0 + 19))), (1, .long a1)] := hl
  unfold xf_Ptr_push at hf
  refine lv_aload_n hx hb nd_Ptr_push_0 rfl (lv_at hl 0 rfl) ?_
  refine xg_Ptr_depth hx hb hts hown hK hP hk0 (hts _ nw_131) nd_Ptr_push_1 ?_
  refine lv_bipush (v := 24) hx hb nd_Ptr_push_4 (by decide) ?_
  refine lv_icmp_ge (tgt := 29) hx hb nd_Ptr_push_6 rfl (fun hc => ?_) (fun hc => ?_)
  · replace hf := (if_pos hc).symm.trans hf
    obtain rfl := (Option.some.inj hf)
    exact W.vret hx hb hr (fun t ht hW => ⟨rfl, by rw [ht]; exact hP, va_K.moved hW.alike hK, hS.F ht⟩) hS.2.2 nd_Ptr_push_29
  · replace hf := (if_neg hc).symm.trans hf
    refine lv_aload_n hx hb nd_Ptr_push_9 rfl (lv_at hl 0 rfl) ?_
    refine xg_Ptr_numbers hx hb hts hown hK hP hk0 (hts _ nw_125) nd_Ptr_push_10 ?_
    refine lv_aload_n hx hb nd_Ptr_push_13 rfl (lv_at hl 0 rfl) ?_
    refine xg_Ptr_depth hx hb hts hown hK hP hk0 (hts _ nw_131) nd_Ptr_push_14 ?_
    refine lv_lload_n hx hb nd_Ptr_push_17 rfl (lv_at hl 1 rfl) ?_
    obtain ⟨j1, hj1, hf⟩ := Option.bind_eq_some_iff.mp hf
    refine xas_pnums hx hb hK hD hP hS hk0 hj1 nd_Ptr_push_18 (fun H locs hP hS => ?_)
    obtain ⟨g2, hg2, hf⟩ := Option.bind_eq_some_iff.mp hf
    rw [Option.some.inj hg2] at hP
    refine lv_aload_n hx hb nd_Ptr_push_19 rfl (lv_at hl 0 rfl) ?_
    refine lv_dup hx hb nd_Ptr_push_20 rfl ?_
    refine xg_Ptr_depth hx hb hts hown hK hP hk0 (hts _ nw_131) nd_Ptr_push_21 ?_
    refine lv_iconst (v := 1) hx hb nd_Ptr_push_24 (by decide) ?_
    refine lv_iadd hx hb nd_Ptr_push_25 ?_
    refine xp_Ptr_depth hx hb hts hown hK hD hP hS hk0 (hts _ nw_131) nd_Ptr_push_26 (fun H locs hP hS => ?_)
    obtain ⟨g3, hg3, hf⟩ := Option.bind_eq_some_iff.mp hf
    rw [Option.some.inj hg3] at hP
    obtain rfl := (Option.some.inj hf)
    exact W.vret hx hb hr (fun t ht hW => ⟨rfl, by rw [ht]; exact hP, va_K.moved hW.alike hK, hS.F ht⟩) hS.2.2 nd_Ptr_push_29
set_option maxHeartbeats 4000000 in
set_option maxRecDepth 100000 in
theorem xc_Run_readNumber {l : Launch} {D : va_G} {A : Nat → Prop} {cA : Nat → ClassId} {ad : Nat → Nat} (hD : wdD 61 A ad) (k1 : Nat) (h : XH) (q : Int32 × XH) (hk1 : k1 < 4) (hf : xf_Run_readNumber k1 h = some q) : CT l D vwCl (xtys cA) A ny_Run_readNumber (wsO ny_Run_readNumber prog_7_method_19_code 2 (some .int)) (rmO 2 42) [.ref (ad 6), .ref (ad (k1 + 19))] (xW cA ad h) (xW cA ad q.2) (some (.int q.1)) := by
  refine Met.ofW (cc := prog_7_method_19_code) (maxL := 2) (ret := (some .int)) (by decide +kernel) rfl ?_
  intro p e s m args below meth c s₁ B hml hv
  obtain ⟨hav, hP, hK, hN⟩ := hv
  have hx := B.exec
  have hb := B.bytes
  have hr := B.returns
  have hts : ∀ w ∈ lw_wd, w.before args s = true := fun w hw => atoms_spec (ws := (wsO ny_Run_readNumber prog_7_method_19_code 2 (some .int))) B.pre w (List.mem_cons_of_mem _ hw)
  have hown : s.vm.findClass "DrawnPaths$Run" = some m.cls := findClass_of_methodNamed B.named
  have hlocks := B.notSynchronized
  have hS : va_S A s.heap s.heap [] := va_S.rf
  have hl := lv_entry ([.ref (ad 6), .ref (ad (k1 + 19))]) (n := 2) (Nat.le_of_ble_eq_true rfl)
  have hE : entryFrame m args 2 = entryFrame m ([.ref (ad 6), .ref (ad (k1 + 19))] : List Value).toArray 2 := by rw [hav]
  rw [hE, lg_entry_eq]
  generalize (lg_sl ([.ref (ad 6), .ref (ad (k1 + 19))]) ++ List.replicate (2 - (lg_sl ([.ref (ad 6), .ref (ad (k1 + 19))])).length) Slot.unset).toArray = ls at hl ⊢
  have hl : lv_has ls 2 [(0, .ref (ad 6)), (1, .ref (ad (k1 + 19)))] := hl
  unfold xf_Run_readNumber at hf
  refine lv_aload_n hx hb nd_Run_readNumber_0 rfl (lv_at hl 1 rfl) ?_
  refine kc_V (As := []) (rest := []) (st1 := [.int (xf_Ptr_isFull k1 h)]) ⟨hx, hb, hml, hown, hts⟩ (xc_Ptr_isFull hD k1 h _ hk1 rfl) (kb_Ptr_isFull hts (hts _ nw_563) ⟨Nat.le_of_ble_eq_true rfl, Nat.le_of_ble_eq_true rfl⟩) (xr_Pointer hK hP hk1) hK hN hP hS rfl hl.1 rfl rfl (Nat.le_of_ble_eq_true rfl) ⟨Nat.zero_le _, Nat.zero_le _⟩ nd_Run_readNumber_1 (fun H locs hP hS => ?_)
  refine lv_if_eq (tgt := 9) hx hb nd_Run_readNumber_4 rfl (fun hc => ?_) (fun hc => ?_)
  · replace hf := (if_pos hc).symm.trans hf
    refine lv_aload_n hx hb nd_Run_readNumber_9 rfl (lv_at hl 0 rfl) ?_
    refine xg_Run_read hx hb hts hown hK hP (hts _ nw_159) nd_Run_readNumber_10 ?_
    refine lv_aload_n hx hb nd_Run_readNumber_13 rfl (lv_at hl 0 rfl) ?_
    refine xg_Run_given hx hb hts hown hK hP (hts _ nw_157) nd_Run_readNumber_14 ?_
    refine lv_icmp_ge (tgt := 46) hx hb nd_Run_readNumber_17 rfl (fun hc => ?_) (fun hc => ?_)
    · replace hf := (if_pos hc).symm.trans hf
      refine lv_aload_n hx hb nd_Run_readNumber_46 rfl (lv_at hl 1 rfl) ?_
      refine lv_ldc2 (v := -1) hx hb hown (hts _ nw_571) nd_Run_readNumber_47 ?_
      obtain ⟨q1, hq1, hf⟩ := Option.bind_eq_some_iff.mp hf
      refine kc_V (As := [.long (-1 : Int64)]) (rest := []) (st1 := []) ⟨hx, hb, hml, hown, hts⟩ (xc_Ptr_push hD k1 (-1 : Int64) h _ hk1 hq1) (kb_Ptr_push hts (hts _ nw_567) ⟨Nat.le_of_ble_eq_true rfl, Nat.le_of_ble_eq_true rfl⟩) (xr_Pointer hK hP hk1) hK hN hP hS rfl hl.1 rfl rfl (Nat.le_of_ble_eq_true rfl) ⟨Nat.zero_le _, Nat.zero_le _⟩ nd_Run_readNumber_50 (fun H locs hP hS => ?_)
      refine lv_aload_n hx hb nd_Run_readNumber_53 rfl (lv_at hl 1 rfl) ?_
      refine lv_aload_n hx hb nd_Run_readNumber_54 rfl (lv_at hl 1 rfl) ?_
      refine xg_Ptr_way hx hb hts hown hK hP hk1 (hts _ nw_129) nd_Run_readNumber_55 ?_
      refine kc_S (As := [.int (xh_pway q1 k1)]) (rest := [.ref (ad (k1 + 19))]) (st1 := [.int (xf_Way_ahead (xh_pway q1 k1)), .ref (ad (k1 + 19))]) ⟨hx, hb, hml, hown, hts⟩ (xc_Way_ahead hD (xh_pway q1 k1) q1 _ rfl) (kb_Way_ahead hts (hts _ nw_531) ⟨Nat.le_of_ble_eq_true rfl, Nat.le_of_ble_eq_true rfl⟩) hK hN hP hS rfl hl.1 rfl rfl (Nat.le_of_ble_eq_true rfl) ⟨Nat.zero_le _, Nat.zero_le _⟩ nd_Run_readNumber_58 (fun H locs hP hS => ?_)
      refine xp_Ptr_way hx hb hts hown hK hD hP hS hk1 (hts _ nw_129) nd_Run_readNumber_61 (fun H locs hP hS => ?_)
      obtain ⟨g2, hg2, hf⟩ := Option.bind_eq_some_iff.mp hf
      rw [Option.some.inj hg2] at hP
      refine lv_iconst (v := 0) hx hb nd_Run_readNumber_64 (by decide) ?_
      obtain rfl := (Option.some.inj hf)
      exact W.iret hx hb hr (fun t ht hW => ⟨rfl, by rw [ht]; exact hP, va_K.moved hW.alike hK, hS.F ht⟩) hS.2.2 nd_Run_readNumber_65
    · replace hf := (if_neg hc).symm.trans hf
      refine lv_aload_n hx hb nd_Run_readNumber_20 rfl (lv_at hl 1 rfl) ?_
      refine lv_aload_n hx hb nd_Run_readNumber_21 rfl (lv_at hl 0 rfl) ?_
      refine xg_Run_numbers hx hb hts hown hK hP (hts _ nw_151) nd_Run_readNumber_22 ?_
      refine lv_aload_n hx hb nd_Run_readNumber_25 rfl (lv_at hl 0 rfl) ?_
      refine xg_Run_read hx hb hts hown hK hP (hts _ nw_159) nd_Run_readNumber_26 ?_
      obtain ⟨j3, hj3, hf⟩ := Option.bind_eq_some_iff.mp hf
      refine xal_innums hx hb hK hP hj3 nd_Run_readNumber_29 ?_
      obtain ⟨q4, hq4, hf⟩ := Option.bind_eq_some_iff.mp hf
      refine kc_V (As := [.long (xh_innums h j3)]) (rest := []) (st1 := []) ⟨hx, hb, hml, hown, hts⟩ (xc_Ptr_push hD k1 (xh_innums h j3) h _ hk1 hq4) (kb_Ptr_push hts (hts _ nw_567) ⟨Nat.le_of_ble_eq_true rfl, Nat.le_of_ble_eq_true rfl⟩) (xr_Pointer hK hP hk1) hK hN hP hS rfl hl.1 rfl rfl (Nat.le_of_ble_eq_true rfl) ⟨Nat.zero_le _, Nat.zero_le _⟩ nd_Run_readNumber_30 (fun H locs hP hS => ?_)
      refine lv_aload_n hx hb nd_Run_readNumber_33 rfl (lv_at hl 0 rfl) ?_
      refine lv_dup hx hb nd_Run_readNumber_34 rfl ?_
      refine xg_Run_read hx hb hts hown hK hP (hts _ nw_159) nd_Run_readNumber_35 ?_
      refine lv_iconst (v := 1) hx hb nd_Run_readNumber_38 (by decide) ?_
      refine lv_iadd hx hb nd_Run_readNumber_39 ?_
      refine xp_Run_read hx hb hts hown hK hD hP hS (hts _ nw_159) nd_Run_readNumber_40 (fun H locs hP hS => ?_)
      obtain ⟨g5, hg5, hf⟩ := Option.bind_eq_some_iff.mp hf
      rw [Option.some.inj hg5] at hP
      refine lv_goto hx hb nd_Run_readNumber_43 (tgt := 53) rfl ?_
      refine lv_aload_n hx hb nd_Run_readNumber_53 rfl (lv_at hl 1 rfl) ?_
      refine lv_aload_n hx hb nd_Run_readNumber_54 rfl (lv_at hl 1 rfl) ?_
      refine xg_Ptr_way hx hb hts hown hK hP hk1 (hts _ nw_129) nd_Run_readNumber_55 ?_
      refine kc_S (As := [.int (xh_pway g5 k1)]) (rest := [.ref (ad (k1 + 19))]) (st1 := [.int (xf_Way_ahead (xh_pway g5 k1)), .ref (ad (k1 + 19))]) ⟨hx, hb, hml, hown, hts⟩ (xc_Way_ahead hD (xh_pway g5 k1) g5 _ rfl) (kb_Way_ahead hts (hts _ nw_531) ⟨Nat.le_of_ble_eq_true rfl, Nat.le_of_ble_eq_true rfl⟩) hK hN hP hS rfl hl.1 rfl rfl (Nat.le_of_ble_eq_true rfl) ⟨Nat.zero_le _, Nat.zero_le _⟩ nd_Run_readNumber_58 (fun H locs hP hS => ?_)
      refine xp_Ptr_way hx hb hts hown hK hD hP hS hk1 (hts _ nw_129) nd_Run_readNumber_61 (fun H locs hP hS => ?_)
      obtain ⟨g6, hg6, hf⟩ := Option.bind_eq_some_iff.mp hf
      rw [Option.some.inj hg6] at hP
      refine lv_iconst (v := 0) hx hb nd_Run_readNumber_64 (by decide) ?_
      obtain rfl := (Option.some.inj hf)
      exact W.iret hx hb hr (fun t ht hW => ⟨rfl, by rw [ht]; exact hP, va_K.moved hW.alike hK, hS.F ht⟩) hS.2.2 nd_Run_readNumber_65
  · replace hf := (if_neg hc).symm.trans hf
    refine lv_iconst (v := 2) hx hb nd_Run_readNumber_7 (by decide) ?_
    obtain rfl := (Option.some.inj hf)
    exact W.iret hx hb hr (fun t ht hW => ⟨rfl, by rw [ht]; exact hP, va_K.moved hW.alike hK, hS.F ht⟩) hS.2.2 nd_Run_readNumber_8
set_option maxHeartbeats 4000000 in
set_option maxRecDepth 100000 in
theorem xc_Math_floorMod {l : Launch} {D : va_G} {A : Nat → Prop} {cA : Nat → ClassId} {ad : Nat → Nat} (hD : wdD 61 A ad) (a0 : Int64) (a2 : Int64) (h : XH) (q : Int64) (hf : xf_Math_floorMod a0 a2 = some q) : CT l D vwCl (xtys cA) A ny_Math_floorMod (wsO ny_Math_floorMod prog_16_method_52_code 6 (some .long)) (rmO 0 0) [.long a0, .long a2] (xW cA ad h) (xW cA ad h) (some (.long q)) := by
  refine ofWF (cc := prog_16_method_52_code) (maxL := 6) (ret := (some .long)) (by decide +kernel) rfl ?_
  intro p e s m args below meth c s₁ B hml hv
  obtain ⟨hav, hP, hK, hN⟩ := hv
  have hx := B.exec
  have hb := B.bytes
  have hr := B.returns
  have hts : ∀ w ∈ lw_wd, w.before args s = true := fun w hw => atoms_spec (ws := (wsO ny_Math_floorMod prog_16_method_52_code 6 (some .long))) B.pre w (List.mem_cons_of_mem _ hw)
  have hown : s.vm.findClass "java/lang/Math" = some m.cls := findClass_of_methodNamed B.named
  have hlocks := B.notSynchronized
  have hS : va_S A s.heap s.heap [] := va_S.rf
  have hl := lv_entry ([.long a0, .long a2]) (n := 6) (Nat.le_of_ble_eq_true rfl)
  have hE : entryFrame m args 6 = entryFrame m ([.long a0, .long a2] : List Value).toArray 6 := by rw [hav]
  rw [hE, lg_entry_eq]
  generalize (lg_sl ([.long a0, .long a2]) ++ List.replicate (6 - (lg_sl ([.long a0, .long a2])).length) Slot.unset).toArray = ls at hl ⊢
  have hl : lv_has ls 6 [(0, .long a0), (2, .long a2)] := hl
  unfold xf_Math_floorMod at hf
  refine lv_lload_n hx hb nd_Math_floorMod_0 rfl (lv_at hl 0 rfl) ?_
  refine lv_lload_n hx hb nd_Math_floorMod_1 rfl (lv_at hl 1 rfl) ?_
  by_cases hz : a2 = 0
  · exact absurd ((if_pos hz).symm.trans hf) (by simp)
  replace hf := (if_neg hz).symm.trans hf
  refine lv_lrem hx hb nd_Math_floorMod_2 hz ?_
  refine lv_lstore (lv' := [(4, .long (a0 - a0 / a2 * a2)), (0, .long a0), (2, .long a2)]) hx hb nd_Math_floorMod_3 hl (by decide) rfl (fun ls hl => ?_)
  refine lv_lload_n hx hb nd_Math_floorMod_5 rfl (lv_at hl 1 rfl) ?_
  refine lv_lload_n hx hb nd_Math_floorMod_6 rfl (lv_at hl 2 rfl) ?_
  refine lv_lxor hx hb nd_Math_floorMod_7 ?_
  refine lv_lconst (v := 0) hx hb nd_Math_floorMod_8 (by decide) ?_
  refine W.lcmp hx hb nd_Math_floorMod_9 ?_
  refine lv_if_ge (tgt := 25) hx hb nd_Math_floorMod_10 rfl (fun hc => ?_) (fun hc => ?_)
  · replace hf := (if_pos hc).symm.trans hf
    refine lv_lload hx hb nd_Math_floorMod_25 (lv_at hl 0 rfl) ?_
    obtain rfl := (Option.some.inj hf)
    exact W.lret hx hb hr (fun t ht hW => ⟨rfl, by rw [ht]; exact hP, va_K.moved hW.alike hK, hS.F ht⟩) hS.2.2 nd_Math_floorMod_27
  · replace hf := (if_neg hc).symm.trans hf
    refine lv_lload hx hb nd_Math_floorMod_13 (lv_at hl 0 rfl) ?_
    refine lv_lconst (v := 0) hx hb nd_Math_floorMod_15 (by decide) ?_
    refine W.lcmp hx hb nd_Math_floorMod_16 ?_
    refine lv_if_eq (tgt := 25) hx hb nd_Math_floorMod_17 rfl (fun hc => ?_) (fun hc => ?_)
    · replace hf := (if_pos hc).symm.trans hf
      refine lv_lload hx hb nd_Math_floorMod_25 (lv_at hl 0 rfl) ?_
      obtain rfl := (Option.some.inj hf)
      exact W.lret hx hb hr (fun t ht hW => ⟨rfl, by rw [ht]; exact hP, va_K.moved hW.alike hK, hS.F ht⟩) hS.2.2 nd_Math_floorMod_27
    · replace hf := (if_neg hc).symm.trans hf
      refine lv_lload hx hb nd_Math_floorMod_20 (lv_at hl 0 rfl) ?_
      refine lv_lload_n hx hb nd_Math_floorMod_22 rfl (lv_at hl 2 rfl) ?_
      refine lv_ladd hx hb nd_Math_floorMod_23 ?_
      obtain rfl := (Option.some.inj hf)
      exact W.lret hx hb hr (fun t ht hW => ⟨rfl, by rw [ht]; exact hP, va_K.moved hW.alike hK, hS.F ht⟩) hS.2.2 nd_Math_floorMod_24
set_option maxHeartbeats 4000000 in
set_option maxRecDepth 100000 in
theorem xc_P_joinedPlace {l : Launch} {D : va_G} {A : Nat → Prop} {cA : Nat → ClassId} {ad : Nat → Nat} (hD : wdD 61 A ad) (a0 : Int64) (a2 : Int64) (h : XH) (q : Int32) (hf : xf_P_joinedPlace a0 a2 = some q) : CT l D vwCl (xtys cA) A ny_P_joinedPlace (wsO ny_P_joinedPlace prog_1_method_23_code 6 (some .int)) (rmO 1 25) [.long a0, .long a2] (xW cA ad h) (xW cA ad h) (some (.int q)) := by
  refine Met.ofW (cc := prog_1_method_23_code) (maxL := 6) (ret := (some .int)) (by decide +kernel) rfl ?_
  intro p e s m args below meth c s₁ B hml hv
  obtain ⟨hav, hP, hK, hN⟩ := hv
  have hx := B.exec
  have hb := B.bytes
  have hr := B.returns
  have hts : ∀ w ∈ lw_wd, w.before args s = true := fun w hw => atoms_spec (ws := (wsO ny_P_joinedPlace prog_1_method_23_code 6 (some .int))) B.pre w (List.mem_cons_of_mem _ hw)
  have hown : s.vm.findClass "DrawnPaths" = some m.cls := findClass_of_methodNamed B.named
  have hlocks := B.notSynchronized
  have hS : va_S A s.heap s.heap [] := va_S.rf
  have hl := lv_entry ([.long a0, .long a2]) (n := 6) (Nat.le_of_ble_eq_true rfl)
  have hE : entryFrame m args 6 = entryFrame m ([.long a0, .long a2] : List Value).toArray 6 := by rw [hav]
  rw [hE, lg_entry_eq]
  generalize (lg_sl ([.long a0, .long a2]) ++ List.replicate (6 - (lg_sl ([.long a0, .long a2])).length) Slot.unset).toArray = ls at hl ⊢
  have hl : lv_has ls 6 [(0, .long a0), (2, .long a2)] := hl
  unfold xf_P_joinedPlace at hf
  refine lv_lload_n hx hb nd_P_joinedPlace_0 rfl (lv_at hl 0 rfl) ?_
  refine lv_ldc2 (v := 12) hx hb hown (hts _ nw_582) nd_P_joinedPlace_1 ?_
  obtain ⟨q1, hq1, hf⟩ := Option.bind_eq_some_iff.mp hf
  refine kc_S (As := [.long a0, .long (12 : Int64)]) (rest := []) (st1 := [.long q1]) ⟨hx, hb, hml, hown, hts⟩ (xc_Math_floorMod hD a0 (12 : Int64) h _ hq1) (kb_Math_floorMod hts (hts _ nw_583) ⟨Nat.le_of_ble_eq_true rfl, Nat.le_of_ble_eq_true rfl⟩) hK hN hP hS rfl hl.1 rfl rfl (Nat.le_of_ble_eq_true rfl) ⟨Nat.zero_le _, Nat.zero_le _⟩ nd_P_joinedPlace_4 (fun H locs hP hS => ?_)
  refine lv_l2i hx hb nd_P_joinedPlace_7 rfl ?_
  refine lv_istore (lv' := [(4, .int q1.toInt32), (0, .long a0), (2, .long a2)]) hx hb nd_P_joinedPlace_8 hl (by decide) rfl (fun ls hl => ?_)
  refine lv_lload_n hx hb nd_P_joinedPlace_10 rfl (lv_at hl 2 rfl) ?_
  refine lv_ldc2 (v := 8) hx hb hown (hts _ nw_586) nd_P_joinedPlace_11 ?_
  obtain ⟨q2, hq2, hf⟩ := Option.bind_eq_some_iff.mp hf
  refine kc_S (As := [.long a2, .long (8 : Int64)]) (rest := []) (st1 := [.long q2]) ⟨hx, hb, hml, hown, hts⟩ (xc_Math_floorMod hD a2 (8 : Int64) h _ hq2) (kb_Math_floorMod hts (hts _ nw_583) ⟨Nat.le_of_ble_eq_true rfl, Nat.le_of_ble_eq_true rfl⟩) hK hN hP hS rfl hl.1 rfl rfl (Nat.le_of_ble_eq_true rfl) ⟨Nat.zero_le _, Nat.zero_le _⟩ nd_P_joinedPlace_14 (fun H locs hP hS => ?_)
  refine lv_l2i hx hb nd_P_joinedPlace_17 rfl ?_
  refine lv_istore (lv' := [(5, .int q2.toInt32), (4, .int q1.toInt32), (0, .long a0), (2, .long a2)]) hx hb nd_P_joinedPlace_18 hl (by decide) rfl (fun ls hl => ?_)
  refine lv_iload hx hb nd_P_joinedPlace_20 (lv_at hl 0 rfl) ?_
  refine lv_bipush (v := 12) hx hb nd_P_joinedPlace_22 (by decide) ?_
  refine lv_imul hx hb nd_P_joinedPlace_24 ?_
  refine lv_iload hx hb nd_P_joinedPlace_25 (lv_at hl 1 rfl) ?_
  refine lv_iadd hx hb nd_P_joinedPlace_27 ?_
  obtain rfl := (Option.some.inj hf)
  exact W.iret hx hb hr (fun t ht hW => ⟨rfl, by rw [ht]; exact hP, va_K.moved hW.alike hK, hS.F ht⟩) hS.2.2 nd_P_joinedPlace_28
set_option maxHeartbeats 4000000 in
set_option maxRecDepth 100000 in
theorem xc_Run_popPlace {l : Launch} {D : va_G} {A : Nat → Prop} {cA : Nat → ClassId} {ad : Nat → Nat} (hD : wdD 61 A ad) (k0 : Nat) (h : XH) (q : Int32 × XH) (hk0 : k0 < 4) (hf : xf_Run_popPlace k0 h = some q) : CT l D vwCl (xtys cA) A ny_Run_popPlace (wsO ny_Run_popPlace prog_7_method_13_code 5 (some .int)) (rmO 2 50) [.ref (ad (k0 + 19))] (xW cA ad h) (xW cA ad q.2) (some (.int q.1)) := by
  refine Met.ofW (cc := prog_7_method_13_code) (maxL := 5) (ret := (some .int)) (by decide +kernel) rfl ?_
  intro p e s m args below meth c s₁ B hml hv
  obtain ⟨hav, hP, hK, hN⟩ := hv
  have hx := B.exec
  have hb := B.bytes
  have hr := B.returns
  have hts : ∀ w ∈ lw_wd, w.before args s = true := fun w hw => atoms_spec (ws := (wsO ny_Run_popPlace prog_7_method_13_code 5 (some .int))) B.pre w (List.mem_cons_of_mem _ hw)
  have hown : s.vm.findClass "DrawnPaths$Run" = some m.cls := findClass_of_methodNamed B.named
  have hlocks := B.notSynchronized
  have hS : va_S A s.heap s.heap [] := va_S.rf
  have hl := lv_entry ([.ref (ad (k0 + 19))]) (n := 5) (Nat.le_of_ble_eq_true rfl)
  have hE : entryFrame m args 5 = entryFrame m ([.ref (ad (k0 + 19))] : List Value).toArray 5 := by rw [hav]
  rw [hE, lg_entry_eq]
  generalize (lg_sl ([.ref (ad (k0 + 19))]) ++ List.replicate (5 - (lg_sl ([.ref (ad (k0 + 19))])).length) Slot.unset).toArray = ls at hl ⊢
  have hl : lv_has ls 5 [(0, .ref (ad (k0 + 19)))] := hl
  unfold xf_Run_popPlace at hf
  refine lv_aload_n hx hb nd_Run_popPlace_0 rfl (lv_at hl 0 rfl) ?_
  obtain ⟨q1, hq1, hf⟩ := Option.bind_eq_some_iff.mp hf
  refine kc_V (As := []) (rest := []) (st1 := [.long q1.1]) ⟨hx, hb, hml, hown, hts⟩ (xc_Ptr_pop hD k0 h _ hk0 hq1) (kb_Ptr_pop hts (hts _ nw_526) ⟨Nat.le_of_ble_eq_true rfl, Nat.le_of_ble_eq_true rfl⟩) (xr_Pointer hK hP hk0) hK hN hP hS rfl hl.1 rfl rfl (Nat.le_of_ble_eq_true rfl) ⟨Nat.zero_le _, Nat.zero_le _⟩ nd_Run_popPlace_1 (fun H locs hP hS => ?_)
  refine lv_lstore_n (lv' := [(1, .long q1.1), (0, .ref (ad (k0 + 19)))]) hx hb nd_Run_popPlace_4 rfl hl (by decide) rfl (fun ls hl => ?_)
  refine lv_aload_n hx hb nd_Run_popPlace_5 rfl (lv_at hl 1 rfl) ?_
  obtain ⟨q2, hq2, hf⟩ := Option.bind_eq_some_iff.mp hf
  refine kc_V (As := []) (rest := []) (st1 := [.long q2.1]) ⟨hx, hb, hml, hown, hts⟩ (xc_Ptr_pop hD k0 q1.2 _ hk0 hq2) (kb_Ptr_pop hts (hts _ nw_526) ⟨Nat.le_of_ble_eq_true rfl, Nat.le_of_ble_eq_true rfl⟩) (xr_Pointer hK hP hk0) hK hN hP hS rfl hl.1 rfl rfl (Nat.le_of_ble_eq_true rfl) ⟨Nat.zero_le _, Nat.zero_le _⟩ nd_Run_popPlace_6 (fun H locs hP hS => ?_)
  refine lv_lstore_n (lv' := [(3, .long q2.1), (1, .long q1.1), (0, .ref (ad (k0 + 19)))]) hx hb nd_Run_popPlace_9 rfl hl (by decide) rfl (fun ls hl => ?_)
  refine lv_lload_n hx hb nd_Run_popPlace_10 rfl (lv_at hl 0 rfl) ?_
  refine lv_lload_n hx hb nd_Run_popPlace_11 rfl (lv_at hl 1 rfl) ?_
  obtain ⟨q3, hq3, hf⟩ := Option.bind_eq_some_iff.mp hf
  refine kc_SN (As := [.long q2.1, .long q1.1]) (rest := []) (st1 := [.int q3]) ⟨hx, hb, hml, hown, hts⟩ (xc_P_joinedPlace hD q2.1 q1.1 q2.2 _ hq3) (kb_P_joinedPlaceN hts (hN.1 _ nw_579) ⟨Nat.le_of_ble_eq_true rfl, Nat.le_of_ble_eq_true rfl⟩) hK hN hP hS rfl hl.1 rfl rfl (Nat.le_of_ble_eq_true rfl) ⟨Nat.zero_le _, Nat.zero_le _⟩ nd_Run_popPlace_12 (fun H locs hP hS => ?_)
  obtain rfl := (Option.some.inj hf)
  exact W.iret hx hb hr (fun t ht hW => ⟨rfl, by rw [ht]; exact hP, va_K.moved hW.alike hK, hS.F ht⟩) hS.2.2 nd_Run_popPlace_15
set_option maxHeartbeats 4000000 in
set_option maxRecDepth 100000 in
theorem xc_Run_writeSign {l : Launch} {D : va_G} {A : Nat → Prop} {cA : Nat → ClassId} {ad : Nat → Nat} (hD : wdD 61 A ad) (fuel : Nat) (k1 : Nat) (h : XH) (q : Int32 × XH) (hk1 : k1 < 4) (hf : xf_Run_writeSign fuel k1 h = some q) : CT l D vwCl (xtys cA) A ny_Run_writeSign (wsO ny_Run_writeSign prog_7_method_20_code 3 (some .int)) (rmO 3 74) [.ref (ad 6), .ref (ad (k1 + 19))] (xW cA ad h) (xW cA ad q.2) (some (.int q.1)) := by
  refine Met.ofW (cc := prog_7_method_20_code) (maxL := 3) (ret := (some .int)) (by decide +kernel) rfl ?_
  intro p e s m args below meth c s₁ B hml hv
  obtain ⟨hav, hP, hK, hN⟩ := hv
  have hx := B.exec
  have hb := B.bytes
  have hr := B.returns
  have hts : ∀ w ∈ lw_wd, w.before args s = true := fun w hw => atoms_spec (ws := (wsO ny_Run_writeSign prog_7_method_20_code 3 (some .int))) B.pre w (List.mem_cons_of_mem _ hw)
  have hown : s.vm.findClass "DrawnPaths$Run" = some m.cls := findClass_of_methodNamed B.named
  have hlocks := B.notSynchronized
  have hS : va_S A s.heap s.heap [] := va_S.rf
  have hl := lv_entry ([.ref (ad 6), .ref (ad (k1 + 19))]) (n := 3) (Nat.le_of_ble_eq_true rfl)
  have hE : entryFrame m args 3 = entryFrame m ([.ref (ad 6), .ref (ad (k1 + 19))] : List Value).toArray 3 := by rw [hav]
  rw [hE, lg_entry_eq]
  generalize (lg_sl ([.ref (ad 6), .ref (ad (k1 + 19))]) ++ List.replicate (3 - (lg_sl ([.ref (ad 6), .ref (ad (k1 + 19))])).length) Slot.unset).toArray = ls at hl ⊢
  have hl : lv_has ls 3 [(0, .ref (ad 6)), (1, .ref (ad (k1 + 19)))] := hl
  unfold xf_Run_writeSign at hf
  refine lv_aload_n hx hb nd_Run_writeSign_0 rfl (lv_at hl 1 rfl) ?_
  obtain ⟨q1, hq1, hf⟩ := Option.bind_eq_some_iff.mp hf
  refine kc_S (As := [.ref (ad (k1 + 19))]) (rest := []) (st1 := [.int q1.1]) ⟨hx, hb, hml, hown, hts⟩ (xc_Run_popPlace hD k1 h _ hk1 hq1) (kb_Run_popPlace hts (hts _ nw_576) ⟨Nat.le_of_ble_eq_true rfl, Nat.le_of_ble_eq_true rfl⟩) hK hN hP hS rfl hl.1 rfl rfl (Nat.le_of_ble_eq_true rfl) ⟨Nat.zero_le _, Nat.zero_le _⟩ nd_Run_writeSign_1 (fun H locs hP hS => ?_)
  refine lv_istore_n (lv' := [(2, .int q1.1), (0, .ref (ad 6)), (1, .ref (ad (k1 + 19)))]) hx hb nd_Run_writeSign_4 rfl hl (by decide) rfl (fun ls hl => ?_)
  refine lv_aload_n hx hb nd_Run_writeSign_5 rfl (lv_at hl 1 rfl) ?_
  refine xg_Run_field hx hb hts hown hK hP (hts _ nw_148) nd_Run_writeSign_6 ?_
  refine lv_iload_n hx hb nd_Run_writeSign_9 rfl (lv_at hl 0 rfl) ?_
  refine lv_aload_n hx hb nd_Run_writeSign_10 rfl (lv_at hl 2 rfl) ?_
  obtain ⟨q2, hq2, hf⟩ := Option.bind_eq_some_iff.mp hf
  refine kc_V (As := []) (rest := [.int q1.1, .ref (ad 4)]) (st1 := [.long q2.1, .int q1.1, .ref (ad 4)]) ⟨hx, hb, hml, hown, hts⟩ (xc_Ptr_pop hD k1 q1.2 _ hk1 hq2) (kb_Ptr_pop hts (hts _ nw_526) ⟨Nat.le_of_ble_eq_true rfl, Nat.le_of_ble_eq_true rfl⟩) (xr_Pointer hK hP hk1) hK hN hP hS rfl hl.1 rfl rfl (Nat.le_of_ble_eq_true rfl) ⟨Nat.zero_le _, Nat.zero_le _⟩ nd_Run_writeSign_11 (fun H locs hP hS => ?_)
  refine kc_SN (As := [.long q2.1]) (rest := [.int q1.1, .ref (ad 4)]) (st1 := [.int (xf_P_signOf q2.1), .int q1.1, .ref (ad 4)]) ⟨hx, hb, hml, hown, hts⟩ (xc_P_signOf hD q2.1 q2.2 _ rfl) (kb_P_signOfN hts (hN.1 _ nw_555) ⟨Nat.le_of_ble_eq_true rfl, Nat.le_of_ble_eq_true rfl⟩) hK hN hP hS rfl hl.1 rfl rfl (Nat.le_of_ble_eq_true rfl) ⟨Nat.zero_le _, Nat.zero_le _⟩ nd_Run_writeSign_14 (fun H locs hP hS => ?_)
  obtain ⟨q3, hq3, hf⟩ := Option.bind_eq_some_iff.mp hf
  refine kc_V (As := [.int q1.1, .int (xf_P_signOf q2.1)]) (rest := []) (st1 := []) ⟨hx, hb, hml, hown, hts⟩ (xc_Field_write hD fuel q1.1 (xf_P_signOf q2.1) q2.2 _ hq3) (kb_Field_write hts (hts _ nw_587) ⟨Nat.le_of_ble_eq_true rfl, Nat.le_of_ble_eq_true rfl⟩) (xr_Field hK hP) hK hN hP hS rfl hl.1 rfl rfl (Nat.le_of_ble_eq_true rfl) ⟨Nat.zero_le _, Nat.zero_le _⟩ nd_Run_writeSign_17 (fun H locs hP hS => ?_)
  refine lv_aload_n hx hb nd_Run_writeSign_20 rfl (lv_at hl 2 rfl) ?_
  refine lv_aload_n hx hb nd_Run_writeSign_21 rfl (lv_at hl 2 rfl) ?_
  refine xg_Ptr_way hx hb hts hown hK hP hk1 (hts _ nw_129) nd_Run_writeSign_22 ?_
  refine kc_S (As := [.int (xh_pway q3 k1)]) (rest := [.ref (ad (k1 + 19))]) (st1 := [.int (xf_Way_ahead (xh_pway q3 k1)), .ref (ad (k1 + 19))]) ⟨hx, hb, hml, hown, hts⟩ (xc_Way_ahead hD (xh_pway q3 k1) q3 _ rfl) (kb_Way_ahead hts (hts _ nw_531) ⟨Nat.le_of_ble_eq_true rfl, Nat.le_of_ble_eq_true rfl⟩) hK hN hP hS rfl hl.1 rfl rfl (Nat.le_of_ble_eq_true rfl) ⟨Nat.zero_le _, Nat.zero_le _⟩ nd_Run_writeSign_25 (fun H locs hP hS => ?_)
  refine xp_Ptr_way hx hb hts hown hK hD hP hS hk1 (hts _ nw_129) nd_Run_writeSign_28 (fun H locs hP hS => ?_)
  obtain ⟨g4, hg4, hf⟩ := Option.bind_eq_some_iff.mp hf
  rw [Option.some.inj hg4] at hP
  refine lv_iconst (v := 0) hx hb nd_Run_writeSign_31 (by decide) ?_
  obtain rfl := (Option.some.inj hf)
  exact W.iret hx hb hr (fun t ht hW => ⟨rfl, by rw [ht]; exact hP, va_K.moved hW.alike hK, hS.F ht⟩) hS.2.2 nd_Run_writeSign_32
set_option maxHeartbeats 4000000 in
set_option maxRecDepth 100000 in
theorem xc_Run_goAway {l : Launch} {D : va_G} {A : Nat → Prop} {cA : Nat → ClassId} {ad : Nat → Nat} (hD : wdD 61 A ad) (k0 : Nat) (h : XH) (q : Int32 × XH) (hk0 : k0 < 4) (hf : xf_Run_goAway k0 h = some q) : CT l D vwCl (xtys cA) A ny_Run_goAway (wsO ny_Run_goAway prog_7_method_21_code 2 (some .int)) (rmO 3 74) [.ref (ad (k0 + 19))] (xW cA ad h) (xW cA ad q.2) (some (.int q.1)) := by
  refine Met.ofW (cc := prog_7_method_21_code) (maxL := 2) (ret := (some .int)) (by decide +kernel) rfl ?_
  intro p e s m args below meth c s₁ B hml hv
  obtain ⟨hav, hP, hK, hN⟩ := hv
  have hx := B.exec
  have hb := B.bytes
  have hr := B.returns
  have hts : ∀ w ∈ lw_wd, w.before args s = true := fun w hw => atoms_spec (ws := (wsO ny_Run_goAway prog_7_method_21_code 2 (some .int))) B.pre w (List.mem_cons_of_mem _ hw)
  have hown : s.vm.findClass "DrawnPaths$Run" = some m.cls := findClass_of_methodNamed B.named
  have hlocks := B.notSynchronized
  have hS : va_S A s.heap s.heap [] := va_S.rf
  have hl := lv_entry ([.ref (ad (k0 + 19))]) (n := 2) (Nat.le_of_ble_eq_true rfl)
  have hE : entryFrame m args 2 = entryFrame m ([.ref (ad (k0 + 19))] : List Value).toArray 2 := by rw [hav]
  rw [hE, lg_entry_eq]
  generalize (lg_sl ([.ref (ad (k0 + 19))]) ++ List.replicate (2 - (lg_sl ([.ref (ad (k0 + 19))])).length) Slot.unset).toArray = ls at hl ⊢
  have hl : lv_has ls 2 [(0, .ref (ad (k0 + 19)))] := hl
  unfold xf_Run_goAway at hf
  refine lv_aload_n hx hb nd_Run_goAway_0 rfl (lv_at hl 0 rfl) ?_
  refine xg_Ptr_returning hx hb hts hown hK hP hk0 (hts _ nw_136) nd_Run_goAway_1 ?_
  refine lv_bipush (v := 8) hx hb nd_Run_goAway_4 (by decide) ?_
  refine lv_icmp_ne (tgt := 11) hx hb nd_Run_goAway_6 rfl (fun hc => ?_) (fun hc => ?_)
  · replace hf := (if_neg hc).symm.trans hf
    refine lv_aload_n hx hb nd_Run_goAway_11 rfl (lv_at hl 0 rfl) ?_
    obtain ⟨q1, hq1, hf⟩ := Option.bind_eq_some_iff.mp hf
    refine kc_S (As := [.ref (ad (k0 + 19))]) (rest := []) (st1 := [.int q1.1]) ⟨hx, hb, hml, hown, hts⟩ (xc_Run_popPlace hD k0 h _ hk0 hq1) (kb_Run_popPlace hts (hts _ nw_576) ⟨Nat.le_of_ble_eq_true rfl, Nat.le_of_ble_eq_true rfl⟩) hK hN hP hS rfl hl.1 rfl rfl (Nat.le_of_ble_eq_true rfl) ⟨Nat.zero_le _, Nat.zero_le _⟩ nd_Run_goAway_12 (fun H locs hP hS => ?_)
    refine lv_istore_n (lv' := [(1, .int q1.1), (0, .ref (ad (k0 + 19)))]) hx hb nd_Run_goAway_15 rfl hl (by decide) rfl (fun ls hl => ?_)
    refine lv_aload_n hx hb nd_Run_goAway_16 rfl (lv_at hl 1 rfl) ?_
    refine xg_Ptr_returns hx hb hts hown hK hP hk0 (hts _ nw_127) nd_Run_goAway_17 ?_
    refine lv_aload_n hx hb nd_Run_goAway_20 rfl (lv_at hl 1 rfl) ?_
    refine xg_Ptr_returning hx hb hts hown hK hP hk0 (hts _ nw_136) nd_Run_goAway_21 ?_
    refine lv_aload_n hx hb nd_Run_goAway_24 rfl (lv_at hl 1 rfl) ?_
    refine xg_Ptr_way hx hb hts hown hK hP hk0 (hts _ nw_129) nd_Run_goAway_25 ?_
    refine kc_S (As := [.int (xh_pway q1.2 k0)]) (rest := [.int (xh_pret q1.2 k0), .ref (ad (k0 + 27))]) (st1 := [.int (xf_Way_ahead (xh_pway q1.2 k0)), .int (xh_pret q1.2 k0), .ref (ad (k0 + 27))]) ⟨hx, hb, hml, hown, hts⟩ (xc_Way_ahead hD (xh_pway q1.2 k0) q1.2 _ rfl) (kb_Way_ahead hts (hts _ nw_531) ⟨Nat.le_of_ble_eq_true rfl, Nat.le_of_ble_eq_true rfl⟩) hK hN hP hS rfl hl.1 rfl rfl (Nat.le_of_ble_eq_true rfl) ⟨Nat.zero_le _, Nat.zero_le _⟩ nd_Run_goAway_28 (fun H locs hP hS => ?_)
    obtain ⟨j2, hj2, hf⟩ := Option.bind_eq_some_iff.mp hf
    refine xas_prets hx hb hK hD hP hS hk0 hj2 nd_Run_goAway_31 (fun H locs hP hS => ?_)
    obtain ⟨g3, hg3, hf⟩ := Option.bind_eq_some_iff.mp hf
    rw [Option.some.inj hg3] at hP
    refine lv_aload_n hx hb nd_Run_goAway_32 rfl (lv_at hl 1 rfl) ?_
    refine lv_dup hx hb nd_Run_goAway_33 rfl ?_
    refine xg_Ptr_returning hx hb hts hown hK hP hk0 (hts _ nw_136) nd_Run_goAway_34 ?_
    refine lv_iconst (v := 1) hx hb nd_Run_goAway_37 (by decide) ?_
    refine lv_iadd hx hb nd_Run_goAway_38 ?_
    refine xp_Ptr_returning hx hb hts hown hK hD hP hS hk0 (hts _ nw_136) nd_Run_goAway_39 (fun H locs hP hS => ?_)
    obtain ⟨g4, hg4, hf⟩ := Option.bind_eq_some_iff.mp hf
    rw [Option.some.inj hg4] at hP
    refine lv_aload_n hx hb nd_Run_goAway_42 rfl (lv_at hl 1 rfl) ?_
    refine lv_iload_n hx hb nd_Run_goAway_43 rfl (lv_at hl 0 rfl) ?_
    refine lv_aload_n hx hb nd_Run_goAway_44 rfl (lv_at hl 1 rfl) ?_
    refine xg_Ptr_way hx hb hts hown hK hP hk0 (hts _ nw_129) nd_Run_goAway_45 ?_
    refine kc_S (As := [.int (xh_pway g4 k0)]) (rest := [.int q1.1, .ref (ad (k0 + 19))]) (st1 := [.int (xf_Way_direction (xh_pway g4 k0)), .int q1.1, .ref (ad (k0 + 19))]) ⟨hx, hb, hml, hown, hts⟩ (xc_Way_direction hD (xh_pway g4 k0) g4 _ rfl) (kb_Way_direction hts (hts _ nw_591) ⟨Nat.le_of_ble_eq_true rfl, Nat.le_of_ble_eq_true rfl⟩) hK hN hP hS rfl hl.1 rfl rfl (Nat.le_of_ble_eq_true rfl) ⟨Nat.zero_le _, Nat.zero_le _⟩ nd_Run_goAway_48 (fun H locs hP hS => ?_)
    refine lv_iconst (v := 0) hx hb nd_Run_goAway_51 (by decide) ?_
    refine kc_S (As := [.int q1.1, .int (xf_Way_direction (xh_pway g4 k0)), .int (0 : Int32)]) (rest := [.ref (ad (k0 + 19))]) (st1 := [.int (xf_Way_of q1.1 (xf_Way_direction (xh_pway g4 k0)) (0 : Int32)), .ref (ad (k0 + 19))]) ⟨hx, hb, hml, hown, hts⟩ (xc_Way_of hD q1.1 (xf_Way_direction (xh_pway g4 k0)) (0 : Int32) g4 _ rfl) (kb_Way_of hts (hts _ nw_262) ⟨Nat.le_of_ble_eq_true rfl, Nat.le_of_ble_eq_true rfl⟩) hK hN hP hS rfl hl.1 rfl rfl (Nat.le_of_ble_eq_true rfl) ⟨Nat.zero_le _, Nat.zero_le _⟩ nd_Run_goAway_52 (fun H locs hP hS => ?_)
    refine xp_Ptr_way hx hb hts hown hK hD hP hS hk0 (hts _ nw_129) nd_Run_goAway_55 (fun H locs hP hS => ?_)
    obtain ⟨g5, hg5, hf⟩ := Option.bind_eq_some_iff.mp hf
    rw [Option.some.inj hg5] at hP
    refine lv_iconst (v := 0) hx hb nd_Run_goAway_58 (by decide) ?_
    obtain rfl := (Option.some.inj hf)
    exact W.iret hx hb hr (fun t ht hW => ⟨rfl, by rw [ht]; exact hP, va_K.moved hW.alike hK, hS.F ht⟩) hS.2.2 nd_Run_goAway_59
  · replace hf := (if_pos hc).symm.trans hf
    refine lv_iconst (v := 2) hx hb nd_Run_goAway_9 (by decide) ?_
    obtain rfl := (Option.some.inj hf)
    exact W.iret hx hb hr (fun t ht hW => ⟨rfl, by rw [ht]; exact hP, va_K.moved hW.alike hK, hS.F ht⟩) hS.2.2 nd_Run_goAway_10
set_option maxHeartbeats 4000000 in
set_option maxRecDepth 100000 in
theorem xc_Run_goBack {l : Launch} {D : va_G} {A : Nat → Prop} {cA : Nat → ClassId} {ad : Nat → Nat} (hD : wdD 61 A ad) (k0 : Nat) (h : XH) (q : Int32 × XH) (hk0 : k0 < 4) (hf : xf_Run_goBack k0 h = some q) : CT l D vwCl (xtys cA) A ny_Run_goBack (wsO ny_Run_goBack prog_7_method_22_code 1 (some .int)) (rmO 0 0) [.ref (ad (k0 + 19))] (xW cA ad h) (xW cA ad q.2) (some (.int q.1)) := by
  refine Met.ofW (cc := prog_7_method_22_code) (maxL := 1) (ret := (some .int)) (by decide +kernel) rfl ?_
  intro p e s m args below meth c s₁ B hml hv
  obtain ⟨hav, hP, hK, hN⟩ := hv
  have hx := B.exec
  have hb := B.bytes
  have hr := B.returns
  have hts : ∀ w ∈ lw_wd, w.before args s = true := fun w hw => atoms_spec (ws := (wsO ny_Run_goBack prog_7_method_22_code 1 (some .int))) B.pre w (List.mem_cons_of_mem _ hw)
  have hown : s.vm.findClass "DrawnPaths$Run" = some m.cls := findClass_of_methodNamed B.named
  have hlocks := B.notSynchronized
  have hS : va_S A s.heap s.heap [] := va_S.rf
  have hl := lv_entry ([.ref (ad (k0 + 19))]) (n := 1) (Nat.le_of_ble_eq_true rfl)
  have hE : entryFrame m args 1 = entryFrame m ([.ref (ad (k0 + 19))] : List Value).toArray 1 := by rw [hav]
  rw [hE, lg_entry_eq]
  generalize (lg_sl ([.ref (ad (k0 + 19))]) ++ List.replicate (1 - (lg_sl ([.ref (ad (k0 + 19))])).length) Slot.unset).toArray = ls at hl ⊢
  have hl : lv_has ls 1 [(0, .ref (ad (k0 + 19)))] := hl
  unfold xf_Run_goBack at hf
  refine lv_aload_n hx hb nd_Run_goBack_0 rfl (lv_at hl 0 rfl) ?_
  refine xg_Ptr_returning hx hb hts hown hK hP hk0 (hts _ nw_136) nd_Run_goBack_1 ?_
  refine lv_if_ne (tgt := 9) hx hb nd_Run_goBack_4 rfl (fun hc => ?_) (fun hc => ?_)
  · replace hf := (if_neg hc).symm.trans hf
    refine lv_aload_n hx hb nd_Run_goBack_9 rfl (lv_at hl 0 rfl) ?_
    refine lv_dup hx hb nd_Run_goBack_10 rfl ?_
    refine xg_Ptr_returning hx hb hts hown hK hP hk0 (hts _ nw_136) nd_Run_goBack_11 ?_
    refine lv_iconst (v := 1) hx hb nd_Run_goBack_14 (by decide) ?_
    refine lv_isub hx hb nd_Run_goBack_15 ?_
    refine xp_Ptr_returning hx hb hts hown hK hD hP hS hk0 (hts _ nw_136) nd_Run_goBack_16 (fun H locs hP hS => ?_)
    obtain ⟨g1, hg1, hf⟩ := Option.bind_eq_some_iff.mp hf
    rw [Option.some.inj hg1] at hP
    refine lv_aload_n hx hb nd_Run_goBack_19 rfl (lv_at hl 0 rfl) ?_
    refine lv_aload_n hx hb nd_Run_goBack_20 rfl (lv_at hl 0 rfl) ?_
    refine xg_Ptr_returns hx hb hts hown hK hP hk0 (hts _ nw_127) nd_Run_goBack_21 ?_
    refine lv_aload_n hx hb nd_Run_goBack_24 rfl (lv_at hl 0 rfl) ?_
    refine xg_Ptr_returning hx hb hts hown hK hP hk0 (hts _ nw_136) nd_Run_goBack_25 ?_
    obtain ⟨j2, hj2, hf⟩ := Option.bind_eq_some_iff.mp hf
    refine xal_prets hx hb hK hP hk0 hj2 nd_Run_goBack_28 ?_
    refine xp_Ptr_way hx hb hts hown hK hD hP hS hk0 (hts _ nw_129) nd_Run_goBack_29 (fun H locs hP hS => ?_)
    obtain ⟨g3, hg3, hf⟩ := Option.bind_eq_some_iff.mp hf
    rw [Option.some.inj hg3] at hP
    refine lv_iconst (v := 0) hx hb nd_Run_goBack_32 (by decide) ?_
    obtain rfl := (Option.some.inj hf)
    exact W.iret hx hb hr (fun t ht hW => ⟨rfl, by rw [ht]; exact hP, va_K.moved hW.alike hK, hS.F ht⟩) hS.2.2 nd_Run_goBack_33
  · replace hf := (if_pos hc).symm.trans hf
    refine lv_iconst (v := 1) hx hb nd_Run_goBack_7 (by decide) ?_
    obtain rfl := (Option.some.inj hf)
    exact W.iret hx hb hr (fun t ht hW => ⟨rfl, by rw [ht]; exact hP, va_K.moved hW.alike hK, hS.F ht⟩) hS.2.2 nd_Run_goBack_8
end
section
set_option maxHeartbeats 4000000 in
set_option maxRecDepth 100000 in
theorem xc_Run_fork {l : Launch} {D : va_G} {A : Nat → Prop} {cA : Nat → ClassId} {ad : Nat → Nat} (hD : wdD 61 A ad) (k1 : Nat) (h : XH) (q : Int32 × XH) (hk1 : k1 < 4) (hf : xf_Run_fork k1 h = some q) : CT l D vwCl (xtys cA) A ny_Run_fork (wsO ny_Run_fork prog_7_method_23_code 5 (some .int)) (rmO 2 42) [.ref (ad 6), .ref (ad (k1 + 19))] (xW cA ad h) (xW cA ad q.2) (some (.int q.1)) := by
  refine Met.ofW (cc := prog_7_method_23_code) (maxL := 5) (ret := (some .int)) (by decide +kernel) rfl ?_
  intro p e s m args below meth c s₁ B hml hv
  obtain ⟨hav, hP, hK, hN⟩ := hv
  have hx := B.exec
  have hb := B.bytes
  have hr := B.returns
  have hts : ∀ w ∈ lw_wd, w.before args s = true := fun w hw => atoms_spec (ws := (wsO ny_Run_fork prog_7_method_23_code 5 (some .int))) B.pre w (List.mem_cons_of_mem _ hw)
  have hown : s.vm.findClass "DrawnPaths$Run" = some m.cls := findClass_of_methodNamed B.named
  have hlocks := B.notSynchronized
  have hS : va_S A s.heap s.heap [] := va_S.rf
  have hl := lv_entry ([.ref (ad 6), .ref (ad (k1 + 19))]) (n := 5) (Nat.le_of_ble_eq_true rfl)
  have hE : entryFrame m args 5 = entryFrame m ([.ref (ad 6), .ref (ad (k1 + 19))] : List Value).toArray 5 := by rw [hav]
  rw [hE, lg_entry_eq]
  generalize (lg_sl ([.ref (ad 6), .ref (ad (k1 + 19))]) ++ List.replicate (5 - (lg_sl ([.ref (ad 6), .ref (ad (k1 + 19))])).length) Slot.unset).toArray = ls at hl ⊢
  have hl : lv_has ls 5 [(0, .ref (ad 6)), (1, .ref (ad (k1 + 19)))] := hl
  unfold xf_Run_fork at hf
  refine lv_aload_n hx hb nd_Run_fork_0 rfl (lv_at hl 1 rfl) ?_
  obtain ⟨q1, hq1, hf⟩ := Option.bind_eq_some_iff.mp hf
  refine kc_V (As := []) (rest := []) (st1 := [.long q1.1]) ⟨hx, hb, hml, hown, hts⟩ (xc_Ptr_pop hD k1 h _ hk1 hq1) (kb_Ptr_pop hts (hts _ nw_526) ⟨Nat.le_of_ble_eq_true rfl, Nat.le_of_ble_eq_true rfl⟩) (xr_Pointer hK hP hk1) hK hN hP hS rfl hl.1 rfl rfl (Nat.le_of_ble_eq_true rfl) ⟨Nat.zero_le _, Nat.zero_le _⟩ nd_Run_fork_1 (fun H locs hP hS => ?_)
  refine lv_lstore_n (lv' := [(2, .long q1.1), (0, .ref (ad 6)), (1, .ref (ad (k1 + 19)))]) hx hb nd_Run_fork_4 rfl hl (by decide) rfl (fun ls hl => ?_)
  refine lv_aload_n hx hb nd_Run_fork_5 rfl (lv_at hl 1 rfl) ?_
  refine xg_Run_living hx hb hts hown hK hP (hts _ nw_155) nd_Run_fork_6 ?_
  refine lv_iconst (v := 4) hx hb nd_Run_fork_9 (by decide) ?_
  refine lv_icmp_ge (tgt := 56) hx hb nd_Run_fork_10 rfl (fun hc => ?_) (fun hc => ?_)
  · replace hf := (if_pos hc).symm.trans hf
    refine lv_aload_n hx hb nd_Run_fork_56 rfl (lv_at hl 2 rfl) ?_
    refine lv_aload_n hx hb nd_Run_fork_57 rfl (lv_at hl 2 rfl) ?_
    refine xg_Ptr_way hx hb hts hown hK hP hk1 (hts _ nw_129) nd_Run_fork_58 ?_
    refine kc_S (As := [.int (xh_pway q1.2 k1)]) (rest := [.ref (ad (k1 + 19))]) (st1 := [.int (xf_Way_ahead (xh_pway q1.2 k1)), .ref (ad (k1 + 19))]) ⟨hx, hb, hml, hown, hts⟩ (xc_Way_ahead hD (xh_pway q1.2 k1) q1.2 _ rfl) (kb_Way_ahead hts (hts _ nw_531) ⟨Nat.le_of_ble_eq_true rfl, Nat.le_of_ble_eq_true rfl⟩) hK hN hP hS rfl hl.1 rfl rfl (Nat.le_of_ble_eq_true rfl) ⟨Nat.zero_le _, Nat.zero_le _⟩ nd_Run_fork_61 (fun H locs hP hS => ?_)
    refine xp_Ptr_way hx hb hts hown hK hD hP hS hk1 (hts _ nw_129) nd_Run_fork_64 (fun H locs hP hS => ?_)
    obtain ⟨g2, hg2, hf⟩ := Option.bind_eq_some_iff.mp hf
    rw [Option.some.inj hg2] at hP
    refine lv_iconst (v := 0) hx hb nd_Run_fork_67 (by decide) ?_
    obtain rfl := (Option.some.inj hf)
    exact W.iret hx hb hr (fun t ht hW => ⟨rfl, by rw [ht]; exact hP, va_K.moved hW.alike hK, hS.F ht⟩) hS.2.2 nd_Run_fork_68
  · replace hf := (if_neg hc).symm.trans hf
    refine lv_aload_n hx hb nd_Run_fork_13 rfl (lv_at hl 1 rfl) ?_
    refine xg_Run_pointers hx hb hts hown hK hP (hts _ nw_149) nd_Run_fork_14 ?_
    refine lv_aload_n hx hb nd_Run_fork_17 rfl (lv_at hl 1 rfl) ?_
    refine xg_Run_living hx hb hts hown hK hP (hts _ nw_155) nd_Run_fork_18 ?_
    obtain ⟨j3, hj3, hf⟩ := Option.bind_eq_some_iff.mp hf
    obtain ⟨k4, hk4, hf⟩ := Option.bind_eq_some_iff.mp hf
    obtain ⟨ek4, hk4⟩ := gn_eq hk4
    refine xal_ptrs hx hb hK hP hj3 ek4 nd_Run_fork_21 ?_
    refine lv_astore (lv' := [(4, .ref (ad (k4 + 19))), (2, .long q1.1), (0, .ref (ad 6)), (1, .ref (ad (k1 + 19)))]) hx hb nd_Run_fork_22 hl (by decide) rfl (fun ls hl => ?_)
    refine lv_aload_n hx hb nd_Run_fork_24 rfl (lv_at hl 2 rfl) ?_
    refine lv_dup hx hb nd_Run_fork_25 rfl ?_
    refine xg_Run_living hx hb hts hown hK hP (hts _ nw_155) nd_Run_fork_26 ?_
    refine lv_iconst (v := 1) hx hb nd_Run_fork_29 (by decide) ?_
    refine lv_iadd hx hb nd_Run_fork_30 ?_
    refine xp_Run_living hx hb hts hown hK hD hP hS (hts _ nw_155) nd_Run_fork_31 (fun H locs hP hS => ?_)
    obtain ⟨g5, hg5, hf⟩ := Option.bind_eq_some_iff.mp hf
    rw [Option.some.inj hg5] at hP
    refine lv_aload hx hb nd_Run_fork_34 (lv_at hl 0 rfl) ?_
    refine lv_aload_n hx hb nd_Run_fork_36 rfl (lv_at hl 3 rfl) ?_
    refine xg_Ptr_way hx hb hts hown hK hP hk1 (hts _ nw_129) nd_Run_fork_37 ?_
    refine lv_iconst (v := 3) hx hb nd_Run_fork_40 (by decide) ?_
    refine kc_S (As := [.int (xh_pway g5 k1), .int (3 : Int32)]) (rest := [.ref (ad (k4 + 19))]) (st1 := [.int (xf_Way_turned (xh_pway g5 k1) (3 : Int32)), .ref (ad (k4 + 19))]) ⟨hx, hb, hml, hown, hts⟩ (xc_Way_turned hD (xh_pway g5 k1) (3 : Int32) g5 _ rfl) (kb_Way_turned hts (hts _ nw_530) ⟨Nat.le_of_ble_eq_true rfl, Nat.le_of_ble_eq_true rfl⟩) hK hN hP hS rfl hl.1 rfl rfl (Nat.le_of_ble_eq_true rfl) ⟨Nat.zero_le _, Nat.zero_le _⟩ nd_Run_fork_41 (fun H locs hP hS => ?_)
    refine kc_S (As := [.int (xf_Way_turned (xh_pway g5 k1) (3 : Int32))]) (rest := [.ref (ad (k4 + 19))]) (st1 := [.int (xf_Way_ahead (xf_Way_turned (xh_pway g5 k1) (3 : Int32))), .ref (ad (k4 + 19))]) ⟨hx, hb, hml, hown, hts⟩ (xc_Way_ahead hD (xf_Way_turned (xh_pway g5 k1) (3 : Int32)) g5 _ rfl) (kb_Way_ahead hts (hts _ nw_531) ⟨Nat.le_of_ble_eq_true rfl, Nat.le_of_ble_eq_true rfl⟩) hK hN hP hS rfl hl.1 rfl rfl (Nat.le_of_ble_eq_true rfl) ⟨Nat.zero_le _, Nat.zero_le _⟩ nd_Run_fork_44 (fun H locs hP hS => ?_)
    refine kc_V (As := [.int (xf_Way_ahead (xf_Way_turned (xh_pway g5 k1) (3 : Int32)))]) (rest := []) (st1 := []) ⟨hx, hb, hml, hown, hts⟩ (xc_Ptr_begin hD k4 (xf_Way_ahead (xf_Way_turned (xh_pway g5 k1) (3 : Int32))) g5 _ hk4 rfl) (kb_Ptr_begin hts (hts _ nw_265) ⟨Nat.le_of_ble_eq_true rfl, Nat.le_of_ble_eq_true rfl⟩) (xr_Pointer hK hP hk4) hK hN hP hS rfl hl.1 rfl rfl (Nat.le_of_ble_eq_true rfl) ⟨Nat.zero_le _, Nat.zero_le _⟩ nd_Run_fork_47 (fun H locs hP hS => ?_)
    refine lv_aload hx hb nd_Run_fork_50 (lv_at hl 0 rfl) ?_
    refine lv_lload_n hx hb nd_Run_fork_52 rfl (lv_at hl 1 rfl) ?_
    obtain ⟨q6, hq6, hf⟩ := Option.bind_eq_some_iff.mp hf
    refine kc_V (As := [.long q1.1]) (rest := []) (st1 := []) ⟨hx, hb, hml, hown, hts⟩ (xc_Ptr_push hD k4 q1.1 (xf_Ptr_begin k4 (xf_Way_ahead (xf_Way_turned (xh_pway g5 k1) (3 : Int32))) g5) _ hk4 hq6) (kb_Ptr_push hts (hts _ nw_567) ⟨Nat.le_of_ble_eq_true rfl, Nat.le_of_ble_eq_true rfl⟩) (xr_Pointer hK hP hk4) hK hN hP hS rfl hl.1 rfl rfl (Nat.le_of_ble_eq_true rfl) ⟨Nat.zero_le _, Nat.zero_le _⟩ nd_Run_fork_53 (fun H locs hP hS => ?_)
    refine lv_aload_n hx hb nd_Run_fork_56 rfl (lv_at hl 3 rfl) ?_
    refine lv_aload_n hx hb nd_Run_fork_57 rfl (lv_at hl 3 rfl) ?_
    refine xg_Ptr_way hx hb hts hown hK hP hk1 (hts _ nw_129) nd_Run_fork_58 ?_
    refine kc_S (As := [.int (xh_pway q6 k1)]) (rest := [.ref (ad (k1 + 19))]) (st1 := [.int (xf_Way_ahead (xh_pway q6 k1)), .ref (ad (k1 + 19))]) ⟨hx, hb, hml, hown, hts⟩ (xc_Way_ahead hD (xh_pway q6 k1) q6 _ rfl) (kb_Way_ahead hts (hts _ nw_531) ⟨Nat.le_of_ble_eq_true rfl, Nat.le_of_ble_eq_true rfl⟩) hK hN hP hS rfl hl.1 rfl rfl (Nat.le_of_ble_eq_true rfl) ⟨Nat.zero_le _, Nat.zero_le _⟩ nd_Run_fork_61 (fun H locs hP hS => ?_)
    refine xp_Ptr_way hx hb hts hown hK hD hP hS hk1 (hts _ nw_129) nd_Run_fork_64 (fun H locs hP hS => ?_)
    obtain ⟨g7, hg7, hf⟩ := Option.bind_eq_some_iff.mp hf
    rw [Option.some.inj hg7] at hP
    refine lv_iconst (v := 0) hx hb nd_Run_fork_67 (by decide) ?_
    obtain rfl := (Option.some.inj hf)
    exact W.iret hx hb hr (fun t ht hW => ⟨rfl, by rw [ht]; exact hP, va_K.moved hW.alike hK, hS.F ht⟩) hS.2.2 nd_Run_fork_68
set_option maxHeartbeats 4000000 in
set_option maxRecDepth 100000 in
theorem xc_Run_act {l : Launch} {D : va_G} {A : Nat → Prop} {cA : Nat → ClassId} {ad : Nat → Nat} (hD : wdD 61 A ad) (fuel : Nat) (k1 : Nat) (a2 : Int32) (h : XH) (q : Int32 × XH) (hk1 : k1 < 4) (hf : xf_Run_act fuel k1 a2 h = some q) : CT l D vwCl (xtys cA) A ny_Run_act (wsO ny_Run_act prog_7_method_14_code 3 (some .int)) (rmO 4 96) [.ref (ad 6), .ref (ad (k1 + 19)), .int a2] (xW cA ad h) (xW cA ad q.2) (some (.int q.1)) := by
  refine Met.ofW (cc := prog_7_method_14_code) (maxL := 3) (ret := (some .int)) (by decide +kernel) rfl ?_
  intro p e s m args below meth c s₁ B hml hv
  obtain ⟨hav, hP, hK, hN⟩ := hv
  have hx := B.exec
  have hb := B.bytes
  have hr := B.returns
  have hts : ∀ w ∈ lw_wd, w.before args s = true := fun w hw => atoms_spec (ws := (wsO ny_Run_act prog_7_method_14_code 3 (some .int))) B.pre w (List.mem_cons_of_mem _ hw)
  have hown : s.vm.findClass "DrawnPaths$Run" = some m.cls := findClass_of_methodNamed B.named
  have hlocks := B.notSynchronized
  have hS : va_S A s.heap s.heap [] := va_S.rf
  have hl := lv_entry ([.ref (ad 6), .ref (ad (k1 + 19)), .int a2]) (n := 3) (Nat.le_of_ble_eq_true rfl)
  have hE : entryFrame m args 3 = entryFrame m ([.ref (ad 6), .ref (ad (k1 + 19)), .int a2] : List Value).toArray 3 := by rw [hav]
  rw [hE, lg_entry_eq]
  generalize (lg_sl ([.ref (ad 6), .ref (ad (k1 + 19)), .int a2]) ++ List.replicate (3 - (lg_sl ([.ref (ad 6), .ref (ad (k1 + 19)), .int a2])).length) Slot.unset).toArray = ls at hl ⊢
  have hl : lv_has ls 3 [(0, .ref (ad 6)), (1, .ref (ad (k1 + 19))), (2, .int a2)] := hl
  unfold xf_Run_act at hf
  refine lv_iload_n hx hb nd_Run_act_0 rfl (lv_at hl 2 rfl) ?_
  by_cases hc0 : a2 = 63
  · replace hf := (if_pos hc0).symm.trans hf
    refine lv_lookup (tgt := 76) hx hb nd_Run_act_1 (by decide) (by rw [hc0]; try rfl) rfl ?_
    refine lv_aload_n hx hb nd_Run_act_76 rfl (lv_at hl 1 rfl) ?_
    obtain ⟨q1, hq1, hf⟩ := Option.bind_eq_some_iff.mp hf
    refine kc_S (As := [.ref (ad (k1 + 19))]) (rest := []) (st1 := [.int q1.1]) ⟨hx, hb, hml, hown, hts⟩ (xc_Run_turn hD k1 h _ hk1 hq1) (kb_Run_turn hts (hts _ nw_523) ⟨Nat.le_of_ble_eq_true rfl, Nat.le_of_ble_eq_true rfl⟩) hK hN hP hS rfl hl.1 rfl rfl (Nat.le_of_ble_eq_true rfl) ⟨Nat.zero_le _, Nat.zero_le _⟩ nd_Run_act_77 (fun H locs hP hS => ?_)
    obtain rfl := (Option.some.inj hf)
    exact W.iret hx hb hr (fun t ht hW => ⟨rfl, by rw [ht]; exact hP, va_K.moved hW.alike hK, hS.F ht⟩) hS.2.2 nd_Run_act_80
  replace hf := (if_neg hc0).symm.trans hf
  by_cases hc1 : a2 = 67
  · replace hf := (if_pos hc1).symm.trans hf
    refine lv_lookup (tgt := 105) hx hb nd_Run_act_1 (by decide) (by rw [hc1]; try rfl) rfl ?_
    refine lv_aload_n hx hb nd_Run_act_105 rfl (lv_at hl 1 rfl) ?_
    obtain ⟨q2, hq2, hf⟩ := Option.bind_eq_some_iff.mp hf
    refine kc_S (As := [.ref (ad (k1 + 19))]) (rest := []) (st1 := [.int q2.1]) ⟨hx, hb, hml, hown, hts⟩ (xc_Run_goAway hD k1 h _ hk1 hq2) (kb_Run_goAway hts (hts _ nw_588) ⟨Nat.le_of_ble_eq_true rfl, Nat.le_of_ble_eq_true rfl⟩) hK hN hP hS rfl hl.1 rfl rfl (Nat.le_of_ble_eq_true rfl) ⟨Nat.zero_le _, Nat.zero_le _⟩ nd_Run_act_106 (fun H locs hP hS => ?_)
    obtain rfl := (Option.some.inj hf)
    exact W.iret hx hb hr (fun t ht hW => ⟨rfl, by rw [ht]; exact hP, va_K.moved hW.alike hK, hS.F ht⟩) hS.2.2 nd_Run_act_109
  replace hf := (if_neg hc1).symm.trans hf
  by_cases hc2 : a2 = 82
  · replace hf := (if_pos hc2).symm.trans hf
    refine lv_lookup (tgt := 110) hx hb nd_Run_act_1 (by decide) (by rw [hc2]; try rfl) rfl ?_
    refine lv_aload_n hx hb nd_Run_act_110 rfl (lv_at hl 1 rfl) ?_
    obtain ⟨q3, hq3, hf⟩ := Option.bind_eq_some_iff.mp hf
    refine kc_S (As := [.ref (ad (k1 + 19))]) (rest := []) (st1 := [.int q3.1]) ⟨hx, hb, hml, hown, hts⟩ (xc_Run_goBack hD k1 h _ hk1 hq3) (kb_Run_goBack hts (hts _ nw_592) ⟨Nat.le_of_ble_eq_true rfl, Nat.le_of_ble_eq_true rfl⟩) hK hN hP hS rfl hl.1 rfl rfl (Nat.le_of_ble_eq_true rfl) ⟨Nat.zero_le _, Nat.zero_le _⟩ nd_Run_act_111 (fun H locs hP hS => ?_)
    obtain rfl := (Option.some.inj hf)
    exact W.iret hx hb hr (fun t ht hW => ⟨rfl, by rw [ht]; exact hP, va_K.moved hW.alike hK, hS.F ht⟩) hS.2.2 nd_Run_act_114
  replace hf := (if_neg hc2).symm.trans hf
  by_cases hc3 : a2 = 98
  · replace hf := (if_pos hc3).symm.trans hf
    refine lv_lookup (tgt := 87) hx hb nd_Run_act_1 (by decide) (by rw [hc3]; try rfl) rfl ?_
    refine lv_aload_n hx hb nd_Run_act_87 rfl (lv_at hl 0 rfl) ?_
    refine lv_aload_n hx hb nd_Run_act_88 rfl (lv_at hl 1 rfl) ?_
    obtain ⟨q4, hq4, hf⟩ := Option.bind_eq_some_iff.mp hf
    refine kc_V (As := [.ref (ad (k1 + 19))]) (rest := []) (st1 := [.int q4.1]) ⟨hx, hb, hml, hown, hts⟩ (xc_Run_writeCharacter hD k1 h _ hk1 hq4) (kb_Run_writeCharacter hts (hts _ nw_551) ⟨Nat.le_of_ble_eq_true rfl, Nat.le_of_ble_eq_true rfl⟩) (xr_Run hK hP) hK hN hP hS rfl hl.1 rfl rfl (Nat.le_of_ble_eq_true rfl) ⟨Nat.zero_le _, Nat.zero_le _⟩ nd_Run_act_89 (fun H locs hP hS => ?_)
    obtain rfl := (Option.some.inj hf)
    exact W.iret hx hb hr (fun t ht hW => ⟨rfl, by rw [ht]; exact hP, va_K.moved hW.alike hK, hS.F ht⟩) hS.2.2 nd_Run_act_92
  replace hf := (if_neg hc3).symm.trans hf
  by_cases hc4 : a2 = 102
  · replace hf := (if_pos hc4).symm.trans hf
    refine lv_lookup (tgt := 115) hx hb nd_Run_act_1 (by decide) (by rw [hc4]; try rfl) rfl ?_
    refine lv_aload_n hx hb nd_Run_act_115 rfl (lv_at hl 0 rfl) ?_
    refine lv_aload_n hx hb nd_Run_act_116 rfl (lv_at hl 1 rfl) ?_
    obtain ⟨q5, hq5, hf⟩ := Option.bind_eq_some_iff.mp hf
    refine kc_V (As := [.ref (ad (k1 + 19))]) (rest := []) (st1 := [.int q5.1]) ⟨hx, hb, hml, hown, hts⟩ (xc_Run_fork hD k1 h _ hk1 hq5) (kb_Run_fork hts (hts _ nw_595) ⟨Nat.le_of_ble_eq_true rfl, Nat.le_of_ble_eq_true rfl⟩) (xr_Run hK hP) hK hN hP hS rfl hl.1 rfl rfl (Nat.le_of_ble_eq_true rfl) ⟨Nat.zero_le _, Nat.zero_le _⟩ nd_Run_act_117 (fun H locs hP hS => ?_)
    obtain rfl := (Option.some.inj hf)
    exact W.iret hx hb hr (fun t ht hW => ⟨rfl, by rw [ht]; exact hP, va_K.moved hW.alike hK, hS.F ht⟩) hS.2.2 nd_Run_act_120
  replace hf := (if_neg hc4).symm.trans hf
  by_cases hc5 : a2 = 105
  · replace hf := (if_pos hc5).symm.trans hf
    refine lv_lookup (tgt := 93) hx hb nd_Run_act_1 (by decide) (by rw [hc5]; try rfl) rfl ?_
    refine lv_aload_n hx hb nd_Run_act_93 rfl (lv_at hl 0 rfl) ?_
    refine lv_aload_n hx hb nd_Run_act_94 rfl (lv_at hl 1 rfl) ?_
    obtain ⟨q6, hq6, hf⟩ := Option.bind_eq_some_iff.mp hf
    refine kc_V (As := [.ref (ad (k1 + 19))]) (rest := []) (st1 := [.int q6.1]) ⟨hx, hb, hml, hown, hts⟩ (xc_Run_readNumber hD k1 h _ hk1 hq6) (kb_Run_readNumber hts (hts _ nw_559) ⟨Nat.le_of_ble_eq_true rfl, Nat.le_of_ble_eq_true rfl⟩) (xr_Run hK hP) hK hN hP hS rfl hl.1 rfl rfl (Nat.le_of_ble_eq_true rfl) ⟨Nat.zero_le _, Nat.zero_le _⟩ nd_Run_act_95 (fun H locs hP hS => ?_)
    obtain rfl := (Option.some.inj hf)
    exact W.iret hx hb hr (fun t ht hW => ⟨rfl, by rw [ht]; exact hP, va_K.moved hW.alike hK, hS.F ht⟩) hS.2.2 nd_Run_act_98
  replace hf := (if_neg hc5).symm.trans hf
  by_cases hc6 : a2 = 110
  · replace hf := (if_pos hc6).symm.trans hf
    refine lv_lookup (tgt := 81) hx hb nd_Run_act_1 (by decide) (by rw [hc6]; try rfl) rfl ?_
    refine lv_aload_n hx hb nd_Run_act_81 rfl (lv_at hl 0 rfl) ?_
    refine lv_aload_n hx hb nd_Run_act_82 rfl (lv_at hl 1 rfl) ?_
    obtain ⟨q7, hq7, hf⟩ := Option.bind_eq_some_iff.mp hf
    refine kc_V (As := [.ref (ad (k1 + 19))]) (rest := []) (st1 := [.int q7.1]) ⟨hx, hb, hml, hown, hts⟩ (xc_Run_writeNumber hD fuel k1 h _ hk1 hq7) (kb_Run_writeNumber hts (hts _ nw_532) ⟨Nat.le_of_ble_eq_true rfl, Nat.le_of_ble_eq_true rfl⟩) (xr_Run hK hP) hK hN hP hS rfl hl.1 rfl rfl (Nat.le_of_ble_eq_true rfl) ⟨Nat.zero_le _, Nat.zero_le _⟩ nd_Run_act_83 (fun H locs hP hS => ?_)
    obtain rfl := (Option.some.inj hf)
    exact W.iret hx hb hr (fun t ht hW => ⟨rfl, by rw [ht]; exact hP, va_K.moved hW.alike hK, hS.F ht⟩) hS.2.2 nd_Run_act_86
  replace hf := (if_neg hc6).symm.trans hf
  by_cases hc7 : a2 = 119
  · replace hf := (if_pos hc7).symm.trans hf
    refine lv_lookup (tgt := 99) hx hb nd_Run_act_1 (by decide) (by rw [hc7]; try rfl) rfl ?_
    refine lv_aload_n hx hb nd_Run_act_99 rfl (lv_at hl 0 rfl) ?_
    refine lv_aload_n hx hb nd_Run_act_100 rfl (lv_at hl 1 rfl) ?_
    obtain ⟨q8, hq8, hf⟩ := Option.bind_eq_some_iff.mp hf
    refine kc_V (As := [.ref (ad (k1 + 19))]) (rest := []) (st1 := [.int q8.1]) ⟨hx, hb, hml, hown, hts⟩ (xc_Run_writeSign hD fuel k1 h _ hk1 hq8) (kb_Run_writeSign hts (hts _ nw_572) ⟨Nat.le_of_ble_eq_true rfl, Nat.le_of_ble_eq_true rfl⟩) (xr_Run hK hP) hK hN hP hS rfl hl.1 rfl rfl (Nat.le_of_ble_eq_true rfl) ⟨Nat.zero_le _, Nat.zero_le _⟩ nd_Run_act_101 (fun H locs hP hS => ?_)
    obtain rfl := (Option.some.inj hf)
    exact W.iret hx hb hr (fun t ht hW => ⟨rfl, by rw [ht]; exact hP, va_K.moved hW.alike hK, hS.F ht⟩) hS.2.2 nd_Run_act_104
  replace hf := (if_neg hc7).symm.trans hf
  refine lv_lookup (tgt := 121) hx hb nd_Run_act_1 (by decide) ((lv_osw (a := 63) hc0 (by decide)).trans ((lv_osw (a := 67) hc1 (by decide)).trans ((lv_osw (a := 82) hc2 (by decide)).trans ((lv_osw (a := 98) hc3 (by decide)).trans ((lv_osw (a := 102) hc4 (by decide)).trans ((lv_osw (a := 105) hc5 (by decide)).trans ((lv_osw (a := 110) hc6 (by decide)).trans ((lv_osw (a := 119) hc7 (by decide)).trans (rfl))))))))) rfl ?_
  refine lv_iconst (v := 1) hx hb nd_Run_act_121 (by decide) ?_
  obtain rfl := (Option.some.inj hf)
  exact W.iret hx hb hr (fun t ht hW => ⟨rfl, by rw [ht]; exact hP, va_K.moved hW.alike hK, hS.F ht⟩) hS.2.2 nd_Run_act_122
set_option maxHeartbeats 4000000 in
set_option maxRecDepth 100000 in
theorem xc_Run_pushesMore {l : Launch} {D : va_G} {A : Nat → Prop} {cA : Nat → ClassId} {ad : Nat → Nat} (hD : wdD 61 A ad) (a0 : Int32) (a1 : Int32) (h : XH) (q : Int32) (hf : xf_Run_pushesMore a0 a1 = q) : CT l D vwCl (xtys cA) A ny_Run_pushesMore (wsO ny_Run_pushesMore prog_7_method_10_code 2 (some .boolean)) (rmO 1 20) [.int a0, .int a1] (xW cA ad h) (xW cA ad h) (some (.int q)) := by
  refine Met.ofW (cc := prog_7_method_10_code) (maxL := 2) (ret := (some .boolean)) (by decide +kernel) rfl ?_
  intro p e s m args below meth c s₁ B hml hv
  obtain ⟨hav, hP, hK, hN⟩ := hv
  have hx := B.exec
  have hb := B.bytes
  have hr := B.returns
  have hts : ∀ w ∈ lw_wd, w.before args s = true := fun w hw => atoms_spec (ws := (wsO ny_Run_pushesMore prog_7_method_10_code 2 (some .boolean))) B.pre w (List.mem_cons_of_mem _ hw)
  have hown : s.vm.findClass "DrawnPaths$Run" = some m.cls := findClass_of_methodNamed B.named
  have hlocks := B.notSynchronized
  have hS : va_S A s.heap s.heap [] := va_S.rf
  have hl := lv_entry ([.int a0, .int a1]) (n := 2) (Nat.le_of_ble_eq_true rfl)
  have hE : entryFrame m args 2 = entryFrame m ([.int a0, .int a1] : List Value).toArray 2 := by rw [hav]
  rw [hE, lg_entry_eq]
  generalize (lg_sl ([.int a0, .int a1]) ++ List.replicate (2 - (lg_sl ([.int a0, .int a1])).length) Slot.unset).toArray = ls at hl ⊢
  have hl : lv_has ls 2 [(0, .int a0), (1, .int a1)] := hl
  unfold xf_Run_pushesMore at hf
  refine lv_iload_n hx hb nd_Run_pushesMore_0 rfl (lv_at hl 0 rfl) ?_
  refine kc_S (As := [.int a0]) (rest := []) (st1 := [.int (xf_Way_quotes a0)]) ⟨hx, hb, hml, hown, hts⟩ (xc_Way_quotes hD a0 h _ rfl) (kb_Way_quotes hts (hts _ nw_606) ⟨Nat.le_of_ble_eq_true rfl, Nat.le_of_ble_eq_true rfl⟩) hK hN hP hS rfl hl.1 rfl rfl (Nat.le_of_ble_eq_true rfl) ⟨Nat.zero_le _, Nat.zero_le _⟩ nd_Run_pushesMore_1 (fun H locs hP hS => ?_)
  refine lv_iconst (v := 1) hx hb nd_Run_pushesMore_4 (by decide) ?_
  refine lv_icmp_ne (tgt := 20) hx hb nd_Run_pushesMore_5 rfl (fun hc => ?_) (fun hc => ?_)
  · replace hf := (if_neg hc).symm.trans hf
    refine lv_iload_n hx hb nd_Run_pushesMore_20 rfl (lv_at hl 1 rfl) ?_
    refine lv_bipush (v := 48) hx hb nd_Run_pushesMore_21 (by decide) ?_
    refine lv_icmp_lt (tgt := 32) hx hb nd_Run_pushesMore_23 rfl (fun hc => ?_) (fun hc => ?_)
    · replace hf := (if_pos hc).symm.trans hf
      refine lv_iload_n hx hb nd_Run_pushesMore_32 rfl (lv_at hl 1 rfl) ?_
      refine lv_bipush (v := 99) hx hb nd_Run_pushesMore_33 (by decide) ?_
      refine lv_icmp_ne (tgt := 42) hx hb nd_Run_pushesMore_35 rfl (fun hc => ?_) (fun hc => ?_)
      · replace hf := (if_neg hc).symm.trans hf
        refine lv_iconst (v := 0) hx hb nd_Run_pushesMore_42 (by decide) ?_
        obtain rfl := hf
        exact W.zret hx hb hr (by decide) (fun t ht hW => ⟨rfl, by rw [ht]; exact hP, va_K.moved hW.alike hK, hS.F ht⟩) hS.2.2 nd_Run_pushesMore_43
      · replace hf := (if_pos hc).symm.trans hf
        refine lv_iconst (v := 1) hx hb nd_Run_pushesMore_38 (by decide) ?_
        refine lv_goto hx hb nd_Run_pushesMore_39 (tgt := 43) rfl ?_
        obtain rfl := hf
        exact W.zret hx hb hr (by decide) (fun t ht hW => ⟨rfl, by rw [ht]; exact hP, va_K.moved hW.alike hK, hS.F ht⟩) hS.2.2 nd_Run_pushesMore_43
    · replace hf := (if_neg hc).symm.trans hf
      refine lv_iload_n hx hb nd_Run_pushesMore_26 rfl (lv_at hl 1 rfl) ?_
      refine lv_bipush (v := 57) hx hb nd_Run_pushesMore_27 (by decide) ?_
      refine lv_icmp_le (tgt := 38) hx hb nd_Run_pushesMore_29 rfl (fun hc => ?_) (fun hc => ?_)
      · replace hf := (if_pos hc).symm.trans hf
        refine lv_iconst (v := 1) hx hb nd_Run_pushesMore_38 (by decide) ?_
        refine lv_goto hx hb nd_Run_pushesMore_39 (tgt := 43) rfl ?_
        obtain rfl := hf
        exact W.zret hx hb hr (by decide) (fun t ht hW => ⟨rfl, by rw [ht]; exact hP, va_K.moved hW.alike hK, hS.F ht⟩) hS.2.2 nd_Run_pushesMore_43
      · replace hf := (if_neg hc).symm.trans hf
        refine lv_iload_n hx hb nd_Run_pushesMore_32 rfl (lv_at hl 1 rfl) ?_
        refine lv_bipush (v := 99) hx hb nd_Run_pushesMore_33 (by decide) ?_
        refine lv_icmp_ne (tgt := 42) hx hb nd_Run_pushesMore_35 rfl (fun hc => ?_) (fun hc => ?_)
        · replace hf := (if_neg hc).symm.trans hf
          refine lv_iconst (v := 0) hx hb nd_Run_pushesMore_42 (by decide) ?_
          obtain rfl := hf
          exact W.zret hx hb hr (by decide) (fun t ht hW => ⟨rfl, by rw [ht]; exact hP, va_K.moved hW.alike hK, hS.F ht⟩) hS.2.2 nd_Run_pushesMore_43
        · replace hf := (if_pos hc).symm.trans hf
          refine lv_iconst (v := 1) hx hb nd_Run_pushesMore_38 (by decide) ?_
          refine lv_goto hx hb nd_Run_pushesMore_39 (tgt := 43) rfl ?_
          obtain rfl := hf
          exact W.zret hx hb hr (by decide) (fun t ht hW => ⟨rfl, by rw [ht]; exact hP, va_K.moved hW.alike hK, hS.F ht⟩) hS.2.2 nd_Run_pushesMore_43
  · replace hf := (if_pos hc).symm.trans hf
    refine lv_iload_n hx hb nd_Run_pushesMore_8 rfl (lv_at hl 1 rfl) ?_
    refine lv_bipush (v := 34) hx hb nd_Run_pushesMore_9 (by decide) ?_
    refine lv_icmp_eq (tgt := 18) hx hb nd_Run_pushesMore_11 rfl (fun hc => ?_) (fun hc => ?_)
    · replace hf := (if_pos hc).symm.trans hf
      refine lv_iconst (v := 0) hx hb nd_Run_pushesMore_18 (by decide) ?_
      obtain rfl := hf
      exact W.zret hx hb hr (by decide) (fun t ht hW => ⟨rfl, by rw [ht]; exact hP, va_K.moved hW.alike hK, hS.F ht⟩) hS.2.2 nd_Run_pushesMore_19
    · replace hf := (if_neg hc).symm.trans hf
      refine lv_iconst (v := 1) hx hb nd_Run_pushesMore_14 (by decide) ?_
      refine lv_goto hx hb nd_Run_pushesMore_15 (tgt := 19) rfl ?_
      obtain rfl := hf
      exact W.zret hx hb hr (by decide) (fun t ht hW => ⟨rfl, by rw [ht]; exact hP, va_K.moved hW.alike hK, hS.F ht⟩) hS.2.2 nd_Run_pushesMore_19
set_option maxHeartbeats 4000000 in
set_option maxRecDepth 100000 in
theorem xc_Run_join {l : Launch} {D : va_G} {A : Nat → Prop} {cA : Nat → ClassId} {ad : Nat → Nat} (hD : wdD 61 A ad) (k0 : Nat) (a1 : Int32) (h : XH) (q : XH) (hk0 : k0 < 4) (hf : xf_Run_join k0 a1 h = some q) : CT l D vwCl (xtys cA) A ny_Run_join (wsO ny_Run_join prog_7_method_12_code 6 none) (rmO 1 22) [.ref (ad (k0 + 19)), .int a1] (xW cA ad h) (xW cA ad q) none := by
  refine Met.ofW (cc := prog_7_method_12_code) (maxL := 6) (ret := none) (by decide +kernel) rfl ?_
  intro p e s m args below meth c s₁ B hml hv
  obtain ⟨hav, hP, hK, hN⟩ := hv
  have hx := B.exec
  have hb := B.bytes
  have hr := B.returns
  have hts : ∀ w ∈ lw_wd, w.before args s = true := fun w hw => atoms_spec (ws := (wsO ny_Run_join prog_7_method_12_code 6 none)) B.pre w (List.mem_cons_of_mem _ hw)
  have hown : s.vm.findClass "DrawnPaths$Run" = some m.cls := findClass_of_methodNamed B.named
  have hlocks := B.notSynchronized
  have hS : va_S A s.heap s.heap [] := va_S.rf
  have hl := lv_entry ([.ref (ad (k0 + 19)), .int a1]) (n := 6) (Nat.le_of_ble_eq_true rfl)
  have hE : entryFrame m args 6 = entryFrame m ([.ref (ad (k0 + 19)), .int a1] : List Value).toArray 6 := by rw [hav]
  rw [hE, lg_entry_eq]
  generalize (lg_sl ([.ref (ad (k0 + 19)), .int a1]) ++ List.replicate (6 - (lg_sl ([.ref (ad (k0 + 19)), .int a1])).length) Slot.unset).toArray = ls at hl ⊢
  have hl : lv_has ls 6 [(0, .ref (ad (k0 + 19))), (1, .int a1)] := hl
  unfold xf_Run_join at hf
  refine lv_aload_n hx hb nd_Run_join_0 rfl (lv_at hl 0 rfl) ?_
  obtain ⟨q1, hq1, hf⟩ := Option.bind_eq_some_iff.mp hf
  refine kc_V (As := []) (rest := []) (st1 := [.long q1.1]) ⟨hx, hb, hml, hown, hts⟩ (xc_Ptr_pop hD k0 h _ hk0 hq1) (kb_Ptr_pop hts (hts _ nw_526) ⟨Nat.le_of_ble_eq_true rfl, Nat.le_of_ble_eq_true rfl⟩) (xr_Pointer hK hP hk0) hK hN hP hS rfl hl.1 rfl rfl (Nat.le_of_ble_eq_true rfl) ⟨Nat.zero_le _, Nat.zero_le _⟩ nd_Run_join_1 (fun H locs hP hS => ?_)
  refine lv_lstore_n (lv' := [(2, .long q1.1), (0, .ref (ad (k0 + 19))), (1, .int a1)]) hx hb nd_Run_join_4 rfl hl (by decide) rfl (fun ls hl => ?_)
  refine lv_aload_n hx hb nd_Run_join_5 rfl (lv_at hl 1 rfl) ?_
  obtain ⟨q2, hq2, hf⟩ := Option.bind_eq_some_iff.mp hf
  refine kc_V (As := []) (rest := []) (st1 := [.long q2.1]) ⟨hx, hb, hml, hown, hts⟩ (xc_Ptr_pop hD k0 q1.2 _ hk0 hq2) (kb_Ptr_pop hts (hts _ nw_526) ⟨Nat.le_of_ble_eq_true rfl, Nat.le_of_ble_eq_true rfl⟩) (xr_Pointer hK hP hk0) hK hN hP hS rfl hl.1 rfl rfl (Nat.le_of_ble_eq_true rfl) ⟨Nat.zero_le _, Nat.zero_le _⟩ nd_Run_join_6 (fun H locs hP hS => ?_)
  refine lv_lstore (lv' := [(4, .long q2.1), (2, .long q1.1), (0, .ref (ad (k0 + 19))), (1, .int a1)]) hx hb nd_Run_join_9 hl (by decide) rfl (fun ls hl => ?_)
  refine lv_iload_n hx hb nd_Run_join_11 rfl (lv_at hl 3 rfl) ?_
  by_cases hc0 : a1 = 42
  · replace hf := (if_pos hc0).symm.trans hf
    refine lv_lookup (tgt := 78) hx hb nd_Run_join_12 (by decide) (by rw [hc0]; try rfl) rfl ?_
    refine lv_aload_n hx hb nd_Run_join_78 rfl (lv_at hl 2 rfl) ?_
    refine lv_lload hx hb nd_Run_join_79 (lv_at hl 0 rfl) ?_
    refine lv_lload_n hx hb nd_Run_join_81 rfl (lv_at hl 1 rfl) ?_
    refine lv_lmul hx hb nd_Run_join_82 ?_
    obtain ⟨q3, hq3, hf⟩ := Option.bind_eq_some_iff.mp hf
    refine kc_V (As := [.long (q2.1 * q1.1)]) (rest := []) (st1 := []) ⟨hx, hb, hml, hown, hts⟩ (xc_Ptr_push hD k0 (q2.1 * q1.1) q2.2 _ hk0 hq3) (kb_Ptr_push hts (hts _ nw_567) ⟨Nat.le_of_ble_eq_true rfl, Nat.le_of_ble_eq_true rfl⟩) (xr_Pointer hK hP hk0) hK hN hP hS rfl hl.1 rfl rfl (Nat.le_of_ble_eq_true rfl) ⟨Nat.zero_le _, Nat.zero_le _⟩ nd_Run_join_83 (fun H locs hP hS => ?_)
    refine lv_goto hx hb nd_Run_join_86 (tgt := 128) rfl ?_
    obtain rfl := (Option.some.inj hf)
    exact W.vret hx hb hr (fun t ht hW => ⟨rfl, by rw [ht]; exact hP, va_K.moved hW.alike hK, hS.F ht⟩) hS.2.2 nd_Run_join_128
  replace hf := (if_neg hc0).symm.trans hf
  by_cases hc1 : a1 = 43
  · replace hf := (if_pos hc1).symm.trans hf
    refine lv_lookup (tgt := 56) hx hb nd_Run_join_12 (by decide) (by rw [hc1]; try rfl) rfl ?_
    refine lv_aload_n hx hb nd_Run_join_56 rfl (lv_at hl 2 rfl) ?_
    refine lv_lload hx hb nd_Run_join_57 (lv_at hl 0 rfl) ?_
    refine lv_lload_n hx hb nd_Run_join_59 rfl (lv_at hl 1 rfl) ?_
    refine lv_ladd hx hb nd_Run_join_60 ?_
    obtain ⟨q4, hq4, hf⟩ := Option.bind_eq_some_iff.mp hf
    refine kc_V (As := [.long (q2.1 + q1.1)]) (rest := []) (st1 := []) ⟨hx, hb, hml, hown, hts⟩ (xc_Ptr_push hD k0 (q2.1 + q1.1) q2.2 _ hk0 hq4) (kb_Ptr_push hts (hts _ nw_567) ⟨Nat.le_of_ble_eq_true rfl, Nat.le_of_ble_eq_true rfl⟩) (xr_Pointer hK hP hk0) hK hN hP hS rfl hl.1 rfl rfl (Nat.le_of_ble_eq_true rfl) ⟨Nat.zero_le _, Nat.zero_le _⟩ nd_Run_join_61 (fun H locs hP hS => ?_)
    refine lv_goto hx hb nd_Run_join_64 (tgt := 128) rfl ?_
    obtain rfl := (Option.some.inj hf)
    exact W.vret hx hb hr (fun t ht hW => ⟨rfl, by rw [ht]; exact hP, va_K.moved hW.alike hK, hS.F ht⟩) hS.2.2 nd_Run_join_128
  replace hf := (if_neg hc1).symm.trans hf
  by_cases hc2 : a1 = 45
  · replace hf := (if_pos hc2).symm.trans hf
    refine lv_lookup (tgt := 67) hx hb nd_Run_join_12 (by decide) (by rw [hc2]; try rfl) rfl ?_
    refine lv_aload_n hx hb nd_Run_join_67 rfl (lv_at hl 2 rfl) ?_
    refine lv_lload hx hb nd_Run_join_68 (lv_at hl 0 rfl) ?_
    refine lv_lload_n hx hb nd_Run_join_70 rfl (lv_at hl 1 rfl) ?_
    refine lv_lsub hx hb nd_Run_join_71 ?_
    obtain ⟨q5, hq5, hf⟩ := Option.bind_eq_some_iff.mp hf
    refine kc_V (As := [.long (q2.1 - q1.1)]) (rest := []) (st1 := []) ⟨hx, hb, hml, hown, hts⟩ (xc_Ptr_push hD k0 (q2.1 - q1.1) q2.2 _ hk0 hq5) (kb_Ptr_push hts (hts _ nw_567) ⟨Nat.le_of_ble_eq_true rfl, Nat.le_of_ble_eq_true rfl⟩) (xr_Pointer hK hP hk0) hK hN hP hS rfl hl.1 rfl rfl (Nat.le_of_ble_eq_true rfl) ⟨Nat.zero_le _, Nat.zero_le _⟩ nd_Run_join_72 (fun H locs hP hS => ?_)
    refine lv_goto hx hb nd_Run_join_75 (tgt := 128) rfl ?_
    obtain rfl := (Option.some.inj hf)
    exact W.vret hx hb hr (fun t ht hW => ⟨rfl, by rw [ht]; exact hP, va_K.moved hW.alike hK, hS.F ht⟩) hS.2.2 nd_Run_join_128
  replace hf := (if_neg hc2).symm.trans hf
  by_cases hc3 : a1 = 100
  · replace hf := (if_pos hc3).symm.trans hf
    refine lv_lookup (tgt := 89) hx hb nd_Run_join_12 (by decide) (by rw [hc3]; try rfl) rfl ?_
    refine lv_aload_n hx hb nd_Run_join_89 rfl (lv_at hl 2 rfl) ?_
    refine lv_lload_n hx hb nd_Run_join_90 rfl (lv_at hl 1 rfl) ?_
    refine lv_lconst (v := 0) hx hb nd_Run_join_91 (by decide) ?_
    refine W.lcmp hx hb nd_Run_join_92 ?_
    refine lv_if_ne (tgt := 100) hx hb nd_Run_join_93 rfl (fun hc => ?_) (fun hc => ?_)
    · replace hf := (if_neg hc).symm.trans hf
      refine lv_lload hx hb nd_Run_join_100 (lv_at hl 0 rfl) ?_
      refine lv_lload_n hx hb nd_Run_join_102 rfl (lv_at hl 1 rfl) ?_
      by_cases hz : q1.1 = 0
      · exact absurd ((if_pos hz).symm.trans hf) (by simp)
      replace hf := (if_neg hz).symm.trans hf
      refine lv_ldiv hx hb nd_Run_join_103 hz ?_
      obtain ⟨q6, hq6, hf⟩ := Option.bind_eq_some_iff.mp hf
      refine kc_V (As := [.long (q2.1 / q1.1)]) (rest := []) (st1 := []) ⟨hx, hb, hml, hown, hts⟩ (xc_Ptr_push hD k0 (q2.1 / q1.1) q2.2 _ hk0 hq6) (kb_Ptr_push hts (hts _ nw_567) ⟨Nat.le_of_ble_eq_true rfl, Nat.le_of_ble_eq_true rfl⟩) (xr_Pointer hK hP hk0) hK hN hP hS rfl hl.1 rfl rfl (Nat.le_of_ble_eq_true rfl) ⟨Nat.zero_le _, Nat.zero_le _⟩ nd_Run_join_104 (fun H locs hP hS => ?_)
      refine lv_goto hx hb nd_Run_join_107 (tgt := 128) rfl ?_
      obtain rfl := (Option.some.inj hf)
      exact W.vret hx hb hr (fun t ht hW => ⟨rfl, by rw [ht]; exact hP, va_K.moved hW.alike hK, hS.F ht⟩) hS.2.2 nd_Run_join_128
    · replace hf := (if_pos hc).symm.trans hf
      refine lv_lconst (v := 0) hx hb nd_Run_join_96 (by decide) ?_
      refine lv_goto hx hb nd_Run_join_97 (tgt := 104) rfl ?_
      obtain ⟨q7, hq7, hf⟩ := Option.bind_eq_some_iff.mp hf
      refine kc_V (As := [.long (0 : Int64)]) (rest := []) (st1 := []) ⟨hx, hb, hml, hown, hts⟩ (xc_Ptr_push hD k0 (0 : Int64) q2.2 _ hk0 hq7) (kb_Ptr_push hts (hts _ nw_567) ⟨Nat.le_of_ble_eq_true rfl, Nat.le_of_ble_eq_true rfl⟩) (xr_Pointer hK hP hk0) hK hN hP hS rfl hl.1 rfl rfl (Nat.le_of_ble_eq_true rfl) ⟨Nat.zero_le _, Nat.zero_le _⟩ nd_Run_join_104 (fun H locs hP hS => ?_)
      refine lv_goto hx hb nd_Run_join_107 (tgt := 128) rfl ?_
      obtain rfl := (Option.some.inj hf)
      exact W.vret hx hb hr (fun t ht hW => ⟨rfl, by rw [ht]; exact hP, va_K.moved hW.alike hK, hS.F ht⟩) hS.2.2 nd_Run_join_128
  replace hf := (if_neg hc3).symm.trans hf
  refine lv_lookup (tgt := 110) hx hb nd_Run_join_12 (by decide) ((lv_osw (a := 42) hc0 (by decide)).trans ((lv_osw (a := 43) hc1 (by decide)).trans ((lv_osw (a := 45) hc2 (by decide)).trans ((lv_osw (a := 100) hc3 (by decide)).trans (rfl))))) rfl ?_
  refine lv_aload_n hx hb nd_Run_join_110 rfl (lv_at hl 2 rfl) ?_
  refine lv_lload_n hx hb nd_Run_join_111 rfl (lv_at hl 1 rfl) ?_
  refine lv_lconst (v := 0) hx hb nd_Run_join_112 (by decide) ?_
  refine W.lcmp hx hb nd_Run_join_113 ?_
  refine lv_if_ne (tgt := 121) hx hb nd_Run_join_114 rfl (fun hc => ?_) (fun hc => ?_)
  · replace hf := (if_neg hc).symm.trans hf
    refine lv_lload hx hb nd_Run_join_121 (lv_at hl 0 rfl) ?_
    refine lv_lload_n hx hb nd_Run_join_123 rfl (lv_at hl 1 rfl) ?_
    by_cases hz : q1.1 = 0
    · exact absurd ((if_pos hz).symm.trans hf) (by simp)
    replace hf := (if_neg hz).symm.trans hf
    refine lv_lrem hx hb nd_Run_join_124 hz ?_
    obtain ⟨q8, hq8, hf⟩ := Option.bind_eq_some_iff.mp hf
    refine kc_V (As := [.long (q2.1 - q2.1 / q1.1 * q1.1)]) (rest := []) (st1 := []) ⟨hx, hb, hml, hown, hts⟩ (xc_Ptr_push hD k0 (q2.1 - q2.1 / q1.1 * q1.1) q2.2 _ hk0 hq8) (kb_Ptr_push hts (hts _ nw_567) ⟨Nat.le_of_ble_eq_true rfl, Nat.le_of_ble_eq_true rfl⟩) (xr_Pointer hK hP hk0) hK hN hP hS rfl hl.1 rfl rfl (Nat.le_of_ble_eq_true rfl) ⟨Nat.zero_le _, Nat.zero_le _⟩ nd_Run_join_125 (fun H locs hP hS => ?_)
    obtain rfl := (Option.some.inj hf)
    exact W.vret hx hb hr (fun t ht hW => ⟨rfl, by rw [ht]; exact hP, va_K.moved hW.alike hK, hS.F ht⟩) hS.2.2 nd_Run_join_128
  · replace hf := (if_pos hc).symm.trans hf
    refine lv_lconst (v := 0) hx hb nd_Run_join_117 (by decide) ?_
    refine lv_goto hx hb nd_Run_join_118 (tgt := 125) rfl ?_
    obtain ⟨q9, hq9, hf⟩ := Option.bind_eq_some_iff.mp hf
    refine kc_V (As := [.long (0 : Int64)]) (rest := []) (st1 := []) ⟨hx, hb, hml, hown, hts⟩ (xc_Ptr_push hD k0 (0 : Int64) q2.2 _ hk0 hq9) (kb_Ptr_push hts (hts _ nw_567) ⟨Nat.le_of_ble_eq_true rfl, Nat.le_of_ble_eq_true rfl⟩) (xr_Pointer hK hP hk0) hK hN hP hS rfl hl.1 rfl rfl (Nat.le_of_ble_eq_true rfl) ⟨Nat.zero_le _, Nat.zero_le _⟩ nd_Run_join_125 (fun H locs hP hS => ?_)
    obtain rfl := (Option.some.inj hf)
    exact W.vret hx hb hr (fun t ht hW => ⟨rfl, by rw [ht]; exact hP, va_K.moved hW.alike hK, hS.F ht⟩) hS.2.2 nd_Run_join_128
set_option maxHeartbeats 4000000 in
set_option maxRecDepth 100000 in
theorem xc_Run_reckon {l : Launch} {D : va_G} {A : Nat → Prop} {cA : Nat → ClassId} {ad : Nat → Nat} (hD : wdD 61 A ad) (k1 : Nat) (a2 : Int32) (h : XH) (q : XH) (hk1 : k1 < 4) (hf : xf_Run_reckon k1 a2 h = some q) : CT l D vwCl (xtys cA) A ny_Run_reckon (wsO ny_Run_reckon prog_7_method_11_code 11 none) (rmO 3 74) [.ref (ad 6), .ref (ad (k1 + 19)), .int a2] (xW cA ad h) (xW cA ad q) none := by
  refine Met.ofW (cc := prog_7_method_11_code) (maxL := 11) (ret := none) (by decide +kernel) rfl ?_
  intro p e s m args below meth c s₁ B hml hv
  obtain ⟨hav, hP, hK, hN⟩ := hv
  have hx := B.exec
  have hb := B.bytes
  have hr := B.returns
  have hts : ∀ w ∈ lw_wd, w.before args s = true := fun w hw => atoms_spec (ws := (wsO ny_Run_reckon prog_7_method_11_code 11 none)) B.pre w (List.mem_cons_of_mem _ hw)
  have hown : s.vm.findClass "DrawnPaths$Run" = some m.cls := findClass_of_methodNamed B.named
  have hlocks := B.notSynchronized
  have hS : va_S A s.heap s.heap [] := va_S.rf
  have hl := lv_entry ([.ref (ad 6), .ref (ad (k1 + 19)), .int a2]) (n := 11) (Nat.le_of_ble_eq_true rfl)
  have hE : entryFrame m args 11 = entryFrame m ([.ref (ad 6), .ref (ad (k1 + 19)), .int a2] : List Value).toArray 11 := by rw [hav]
  rw [hE, lg_entry_eq]
  generalize (lg_sl ([.ref (ad 6), .ref (ad (k1 + 19)), .int a2]) ++ List.replicate (11 - (lg_sl ([.ref (ad 6), .ref (ad (k1 + 19)), .int a2])).length) Slot.unset).toArray = ls at hl ⊢
  have hl : lv_has ls 11 [(0, .ref (ad 6)), (1, .ref (ad (k1 + 19))), (2, .int a2)] := hl
  have J22 : ∀ (H : Heap) (locs : List Loc) (ls : Array Slot) (h : XH) (hP : va_P D vwCl (xW cA ad h) H) (v1 : Nat) (v2 : Int32) (hv1 : v1 < 4) (hS : va_S A s.heap H locs) (hl : lv_has ls 11 [(0, .ref (ad 6)), (1, .ref (ad (v1 + 19))), (2, .int v2)]) (hf : xf_Run_reckon_J22 v1 v2 h = some q), W p l e (headSpec (wsO ny_Run_reckon prog_7_method_11_code 11 none) (rmO 3 74)).room s m args below meth c H locs 0 0 (MQ below (RetQ D vwCl (xtys cA) A none (xW cA ad q)) args s 0 0 A) (F0 m 22 ls []) := by
    intro H locs ls h hP v1 v2 hv1 hS hl hf
    unfold xf_Run_reckon_J22 at hf
    refine lv_iload_n hx hb nd_Run_reckon_22 rfl (lv_at hl 2 rfl) ?_
    by_cases hc0 : v2 = 42
    · replace hf := (if_pos hc0).symm.trans hf
      refine lv_lookup (tgt := 112) hx hb nd_Run_reckon_23 (by decide) (by rw [hc0]; try rfl) rfl ?_
      refine lv_aload_n hx hb nd_Run_reckon_112 rfl (lv_at hl 1 rfl) ?_
      refine lv_iload_n hx hb nd_Run_reckon_113 rfl (lv_at hl 2 rfl) ?_
      obtain ⟨q1, hq1, hf⟩ := Option.bind_eq_some_iff.mp hf
      refine kc_S (As := [.ref (ad (v1 + 19)), .int v2]) (rest := []) (st1 := []) ⟨hx, hb, hml, hown, hts⟩ (xc_Run_join hD v1 v2 h _ hv1 hq1) (kb_Run_join hts (hts _ nw_611) ⟨Nat.le_of_ble_eq_true rfl, Nat.le_of_ble_eq_true rfl⟩) hK hN hP hS rfl hl.1 rfl rfl (Nat.le_of_ble_eq_true rfl) ⟨Nat.zero_le _, Nat.zero_le _⟩ nd_Run_reckon_114 (fun H locs hP hS => ?_)
      refine lv_goto hx hb nd_Run_reckon_117 (tgt := 212) rfl ?_
      obtain rfl := (Option.some.inj hf)
      exact W.vret hx hb hr (fun t ht hW => ⟨rfl, by rw [ht]; exact hP, va_K.moved hW.alike hK, hS.F ht⟩) hS.2.2 nd_Run_reckon_212
    replace hf := (if_neg hc0).symm.trans hf
    by_cases hc1 : v2 = 43
    · replace hf := (if_pos hc1).symm.trans hf
      refine lv_lookup (tgt := 112) hx hb nd_Run_reckon_23 (by decide) (by rw [hc1]; try rfl) rfl ?_
      refine lv_aload_n hx hb nd_Run_reckon_112 rfl (lv_at hl 1 rfl) ?_
      refine lv_iload_n hx hb nd_Run_reckon_113 rfl (lv_at hl 2 rfl) ?_
      obtain ⟨q2, hq2, hf⟩ := Option.bind_eq_some_iff.mp hf
      refine kc_S (As := [.ref (ad (v1 + 19)), .int v2]) (rest := []) (st1 := []) ⟨hx, hb, hml, hown, hts⟩ (xc_Run_join hD v1 v2 h _ hv1 hq2) (kb_Run_join hts (hts _ nw_611) ⟨Nat.le_of_ble_eq_true rfl, Nat.le_of_ble_eq_true rfl⟩) hK hN hP hS rfl hl.1 rfl rfl (Nat.le_of_ble_eq_true rfl) ⟨Nat.zero_le _, Nat.zero_le _⟩ nd_Run_reckon_114 (fun H locs hP hS => ?_)
      refine lv_goto hx hb nd_Run_reckon_117 (tgt := 212) rfl ?_
      obtain rfl := (Option.some.inj hf)
      exact W.vret hx hb hr (fun t ht hW => ⟨rfl, by rw [ht]; exact hP, va_K.moved hW.alike hK, hS.F ht⟩) hS.2.2 nd_Run_reckon_212
    replace hf := (if_neg hc1).symm.trans hf
    by_cases hc2 : v2 = 45
    · replace hf := (if_pos hc2).symm.trans hf
      refine lv_lookup (tgt := 112) hx hb nd_Run_reckon_23 (by decide) (by rw [hc2]; try rfl) rfl ?_
      refine lv_aload_n hx hb nd_Run_reckon_112 rfl (lv_at hl 1 rfl) ?_
      refine lv_iload_n hx hb nd_Run_reckon_113 rfl (lv_at hl 2 rfl) ?_
      obtain ⟨q3, hq3, hf⟩ := Option.bind_eq_some_iff.mp hf
      refine kc_S (As := [.ref (ad (v1 + 19)), .int v2]) (rest := []) (st1 := []) ⟨hx, hb, hml, hown, hts⟩ (xc_Run_join hD v1 v2 h _ hv1 hq3) (kb_Run_join hts (hts _ nw_611) ⟨Nat.le_of_ble_eq_true rfl, Nat.le_of_ble_eq_true rfl⟩) hK hN hP hS rfl hl.1 rfl rfl (Nat.le_of_ble_eq_true rfl) ⟨Nat.zero_le _, Nat.zero_le _⟩ nd_Run_reckon_114 (fun H locs hP hS => ?_)
      refine lv_goto hx hb nd_Run_reckon_117 (tgt := 212) rfl ?_
      obtain rfl := (Option.some.inj hf)
      exact W.vret hx hb hr (fun t ht hW => ⟨rfl, by rw [ht]; exact hP, va_K.moved hW.alike hK, hS.F ht⟩) hS.2.2 nd_Run_reckon_212
    replace hf := (if_neg hc2).symm.trans hf
    by_cases hc3 : v2 = 99
    · replace hf := (if_pos hc3).symm.trans hf
      refine lv_lookup (tgt := 120) hx hb nd_Run_reckon_23 (by decide) (by rw [hc3]; try rfl) rfl ?_
      refine lv_aload_n hx hb nd_Run_reckon_120 rfl (lv_at hl 1 rfl) ?_
      obtain ⟨q4, hq4, hf⟩ := Option.bind_eq_some_iff.mp hf
      refine kc_V (As := []) (rest := []) (st1 := [.long q4.1]) ⟨hx, hb, hml, hown, hts⟩ (xc_Ptr_pop hD v1 h _ hv1 hq4) (kb_Ptr_pop hts (hts _ nw_526) ⟨Nat.le_of_ble_eq_true rfl, Nat.le_of_ble_eq_true rfl⟩) (xr_Pointer hK hP hv1) hK hN hP hS rfl hl.1 rfl rfl (Nat.le_of_ble_eq_true rfl) ⟨Nat.zero_le _, Nat.zero_le _⟩ nd_Run_reckon_121 (fun H locs hP hS => ?_)
      refine lv_lstore_n (lv' := [(3, .long q4.1), (0, .ref (ad 6)), (1, .ref (ad (v1 + 19))), (2, .int v2)]) hx hb nd_Run_reckon_124 rfl hl (by decide) rfl (fun ls hl => ?_)
      refine lv_aload_n hx hb nd_Run_reckon_125 rfl (lv_at hl 2 rfl) ?_
      refine lv_lload_n hx hb nd_Run_reckon_126 rfl (lv_at hl 0 rfl) ?_
      obtain ⟨q5, hq5, hf⟩ := Option.bind_eq_some_iff.mp hf
      refine kc_V (As := [.long q4.1]) (rest := []) (st1 := []) ⟨hx, hb, hml, hown, hts⟩ (xc_Ptr_push hD v1 q4.1 q4.2 _ hv1 hq5) (kb_Ptr_push hts (hts _ nw_567) ⟨Nat.le_of_ble_eq_true rfl, Nat.le_of_ble_eq_true rfl⟩) (xr_Pointer hK hP hv1) hK hN hP hS rfl hl.1 rfl rfl (Nat.le_of_ble_eq_true rfl) ⟨Nat.zero_le _, Nat.zero_le _⟩ nd_Run_reckon_127 (fun H locs hP hS => ?_)
      refine lv_aload_n hx hb nd_Run_reckon_130 rfl (lv_at hl 2 rfl) ?_
      refine lv_lload_n hx hb nd_Run_reckon_131 rfl (lv_at hl 0 rfl) ?_
      obtain ⟨q6, hq6, hf⟩ := Option.bind_eq_some_iff.mp hf
      refine kc_V (As := [.long q4.1]) (rest := []) (st1 := []) ⟨hx, hb, hml, hown, hts⟩ (xc_Ptr_push hD v1 q4.1 q5 _ hv1 hq6) (kb_Ptr_push hts (hts _ nw_567) ⟨Nat.le_of_ble_eq_true rfl, Nat.le_of_ble_eq_true rfl⟩) (xr_Pointer hK hP hv1) hK hN hP hS rfl hl.1 rfl rfl (Nat.le_of_ble_eq_true rfl) ⟨Nat.zero_le _, Nat.zero_le _⟩ nd_Run_reckon_132 (fun H locs hP hS => ?_)
      refine lv_goto hx hb nd_Run_reckon_135 (tgt := 212) rfl ?_
      obtain rfl := (Option.some.inj hf)
      exact W.vret hx hb hr (fun t ht hW => ⟨rfl, by rw [ht]; exact hP, va_K.moved hW.alike hK, hS.F ht⟩) hS.2.2 nd_Run_reckon_212
    replace hf := (if_neg hc3).symm.trans hf
    by_cases hc4 : v2 = 100
    · replace hf := (if_pos hc4).symm.trans hf
      refine lv_lookup (tgt := 112) hx hb nd_Run_reckon_23 (by decide) (by rw [hc4]; try rfl) rfl ?_
      refine lv_aload_n hx hb nd_Run_reckon_112 rfl (lv_at hl 1 rfl) ?_
      refine lv_iload_n hx hb nd_Run_reckon_113 rfl (lv_at hl 2 rfl) ?_
      obtain ⟨q7, hq7, hf⟩ := Option.bind_eq_some_iff.mp hf
      refine kc_S (As := [.ref (ad (v1 + 19)), .int v2]) (rest := []) (st1 := []) ⟨hx, hb, hml, hown, hts⟩ (xc_Run_join hD v1 v2 h _ hv1 hq7) (kb_Run_join hts (hts _ nw_611) ⟨Nat.le_of_ble_eq_true rfl, Nat.le_of_ble_eq_true rfl⟩) hK hN hP hS rfl hl.1 rfl rfl (Nat.le_of_ble_eq_true rfl) ⟨Nat.zero_le _, Nat.zero_le _⟩ nd_Run_reckon_114 (fun H locs hP hS => ?_)
      refine lv_goto hx hb nd_Run_reckon_117 (tgt := 212) rfl ?_
      obtain rfl := (Option.some.inj hf)
      exact W.vret hx hb hr (fun t ht hW => ⟨rfl, by rw [ht]; exact hP, va_K.moved hW.alike hK, hS.F ht⟩) hS.2.2 nd_Run_reckon_212
    replace hf := (if_neg hc4).symm.trans hf
    by_cases hc5 : v2 = 103
    · replace hf := (if_pos hc5).symm.trans hf
      refine lv_lookup (tgt := 192) hx hb nd_Run_reckon_23 (by decide) (by rw [hc5]; try rfl) rfl ?_
      refine lv_aload_n hx hb nd_Run_reckon_192 rfl (lv_at hl 1 rfl) ?_
      refine lv_aload_n hx hb nd_Run_reckon_193 rfl (lv_at hl 0 rfl) ?_
      refine xg_Run_field hx hb hts hown hK hP (hts _ nw_148) nd_Run_reckon_194 ?_
      refine xg_Field_signs hx hb hts hown hK hP (hts _ nw_88) nd_Run_reckon_197 ?_
      refine lv_aload_n hx hb nd_Run_reckon_200 rfl (lv_at hl 1 rfl) ?_
      obtain ⟨q8, hq8, hf⟩ := Option.bind_eq_some_iff.mp hf
      refine kc_S (As := [.ref (ad (v1 + 19))]) (rest := [.ref (ad 5), .ref (ad (v1 + 19))]) (st1 := [.int q8.1, .ref (ad 5), .ref (ad (v1 + 19))]) ⟨hx, hb, hml, hown, hts⟩ (xc_Run_popPlace hD v1 h _ hv1 hq8) (kb_Run_popPlace hts (hts _ nw_576) ⟨Nat.le_of_ble_eq_true rfl, Nat.le_of_ble_eq_true rfl⟩) hK hN hP hS rfl hl.1 rfl rfl (Nat.le_of_ble_eq_true rfl) ⟨Nat.zero_le _, Nat.zero_le _⟩ nd_Run_reckon_201 (fun H locs hP hS => ?_)
      obtain ⟨j9, hj9, hf⟩ := Option.bind_eq_some_iff.mp hf
      refine xal_signs hx hb hK hP hj9 nd_Run_reckon_204 ?_
      refine lv_i2l hx hb nd_Run_reckon_205 rfl ?_
      obtain ⟨q10, hq10, hf⟩ := Option.bind_eq_some_iff.mp hf
      refine kc_V (As := [.long ((xh_signs q8.2 j9).toInt64)]) (rest := []) (st1 := []) ⟨hx, hb, hml, hown, hts⟩ (xc_Ptr_push hD v1 ((xh_signs q8.2 j9).toInt64) q8.2 _ hv1 hq10) (kb_Ptr_push hts (hts _ nw_567) ⟨Nat.le_of_ble_eq_true rfl, Nat.le_of_ble_eq_true rfl⟩) (xr_Pointer hK hP hv1) hK hN hP hS rfl hl.1 rfl rfl (Nat.le_of_ble_eq_true rfl) ⟨Nat.zero_le _, Nat.zero_le _⟩ nd_Run_reckon_206 (fun H locs hP hS => ?_)
      refine lv_goto hx hb nd_Run_reckon_209 (tgt := 212) rfl ?_
      obtain rfl := (Option.some.inj hf)
      exact W.vret hx hb hr (fun t ht hW => ⟨rfl, by rw [ht]; exact hP, va_K.moved hW.alike hK, hS.F ht⟩) hS.2.2 nd_Run_reckon_212
    replace hf := (if_neg hc5).symm.trans hf
    by_cases hc6 : v2 = 109
    · replace hf := (if_pos hc6).symm.trans hf
      refine lv_lookup (tgt := 112) hx hb nd_Run_reckon_23 (by decide) (by rw [hc6]; try rfl) rfl ?_
      refine lv_aload_n hx hb nd_Run_reckon_112 rfl (lv_at hl 1 rfl) ?_
      refine lv_iload_n hx hb nd_Run_reckon_113 rfl (lv_at hl 2 rfl) ?_
      obtain ⟨q11, hq11, hf⟩ := Option.bind_eq_some_iff.mp hf
      refine kc_S (As := [.ref (ad (v1 + 19)), .int v2]) (rest := []) (st1 := []) ⟨hx, hb, hml, hown, hts⟩ (xc_Run_join hD v1 v2 h _ hv1 hq11) (kb_Run_join hts (hts _ nw_611) ⟨Nat.le_of_ble_eq_true rfl, Nat.le_of_ble_eq_true rfl⟩) hK hN hP hS rfl hl.1 rfl rfl (Nat.le_of_ble_eq_true rfl) ⟨Nat.zero_le _, Nat.zero_le _⟩ nd_Run_reckon_114 (fun H locs hP hS => ?_)
      refine lv_goto hx hb nd_Run_reckon_117 (tgt := 212) rfl ?_
      obtain rfl := (Option.some.inj hf)
      exact W.vret hx hb hr (fun t ht hW => ⟨rfl, by rw [ht]; exact hP, va_K.moved hW.alike hK, hS.F ht⟩) hS.2.2 nd_Run_reckon_212
    replace hf := (if_neg hc6).symm.trans hf
    by_cases hc7 : v2 = 114
    · replace hf := (if_pos hc7).symm.trans hf
      refine lv_lookup (tgt := 173) hx hb nd_Run_reckon_23 (by decide) (by rw [hc7]; try rfl) rfl ?_
      refine lv_aload_n hx hb nd_Run_reckon_173 rfl (lv_at hl 1 rfl) ?_
      obtain ⟨q12, hq12, hf⟩ := Option.bind_eq_some_iff.mp hf
      refine kc_V (As := []) (rest := []) (st1 := [.long q12.1]) ⟨hx, hb, hml, hown, hts⟩ (xc_Ptr_pop hD v1 h _ hv1 hq12) (kb_Ptr_pop hts (hts _ nw_526) ⟨Nat.le_of_ble_eq_true rfl, Nat.le_of_ble_eq_true rfl⟩) (xr_Pointer hK hP hv1) hK hN hP hS rfl hl.1 rfl rfl (Nat.le_of_ble_eq_true rfl) ⟨Nat.zero_le _, Nat.zero_le _⟩ nd_Run_reckon_174 (fun H locs hP hS => ?_)
      refine lv_lstore (lv' := [(9, .long q12.1), (0, .ref (ad 6)), (1, .ref (ad (v1 + 19))), (2, .int v2)]) hx hb nd_Run_reckon_177 hl (by decide) rfl (fun ls hl => ?_)
      refine lv_aload_n hx hb nd_Run_reckon_179 rfl (lv_at hl 2 rfl) ?_
      refine lv_aload_n hx hb nd_Run_reckon_180 rfl (lv_at hl 2 rfl) ?_
      refine lv_lload hx hb nd_Run_reckon_181 (lv_at hl 0 rfl) ?_
      obtain ⟨q13, hq13, hf⟩ := Option.bind_eq_some_iff.mp hf
      refine kc_V (As := [.long q12.1]) (rest := [.ref (ad (v1 + 19))]) (st1 := [.long q13, .ref (ad (v1 + 19))]) ⟨hx, hb, hml, hown, hts⟩ (xc_Ptr_fromTop hD v1 q12.1 q12.2 _ hv1 hq13) (kb_Ptr_fromTop hts (hts _ nw_536) ⟨Nat.le_of_ble_eq_true rfl, Nat.le_of_ble_eq_true rfl⟩) (xr_Pointer hK hP hv1) hK hN hP hS rfl hl.1 rfl rfl (Nat.le_of_ble_eq_true rfl) ⟨Nat.zero_le _, Nat.zero_le _⟩ nd_Run_reckon_183 (fun H locs hP hS => ?_)
      obtain ⟨q14, hq14, hf⟩ := Option.bind_eq_some_iff.mp hf
      refine kc_V (As := [.long q13]) (rest := []) (st1 := []) ⟨hx, hb, hml, hown, hts⟩ (xc_Ptr_push hD v1 q13 q12.2 _ hv1 hq14) (kb_Ptr_push hts (hts _ nw_567) ⟨Nat.le_of_ble_eq_true rfl, Nat.le_of_ble_eq_true rfl⟩) (xr_Pointer hK hP hv1) hK hN hP hS rfl hl.1 rfl rfl (Nat.le_of_ble_eq_true rfl) ⟨Nat.zero_le _, Nat.zero_le _⟩ nd_Run_reckon_186 (fun H locs hP hS => ?_)
      refine lv_goto hx hb nd_Run_reckon_189 (tgt := 212) rfl ?_
      obtain rfl := (Option.some.inj hf)
      exact W.vret hx hb hr (fun t ht hW => ⟨rfl, by rw [ht]; exact hP, va_K.moved hW.alike hK, hS.F ht⟩) hS.2.2 nd_Run_reckon_212
    replace hf := (if_neg hc7).symm.trans hf
    by_cases hc8 : v2 = 115
    · replace hf := (if_pos hc8).symm.trans hf
      refine lv_lookup (tgt := 138) hx hb nd_Run_reckon_23 (by decide) (by rw [hc8]; try rfl) rfl ?_
      refine lv_aload_n hx hb nd_Run_reckon_138 rfl (lv_at hl 1 rfl) ?_
      obtain ⟨q15, hq15, hf⟩ := Option.bind_eq_some_iff.mp hf
      refine kc_V (As := []) (rest := []) (st1 := [.long q15.1]) ⟨hx, hb, hml, hown, hts⟩ (xc_Ptr_pop hD v1 h _ hv1 hq15) (kb_Ptr_pop hts (hts _ nw_526) ⟨Nat.le_of_ble_eq_true rfl, Nat.le_of_ble_eq_true rfl⟩) (xr_Pointer hK hP hv1) hK hN hP hS rfl hl.1 rfl rfl (Nat.le_of_ble_eq_true rfl) ⟨Nat.zero_le _, Nat.zero_le _⟩ nd_Run_reckon_139 (fun H locs hP hS => ?_)
      refine lv_lstore (lv' := [(5, .long q15.1), (0, .ref (ad 6)), (1, .ref (ad (v1 + 19))), (2, .int v2)]) hx hb nd_Run_reckon_142 hl (by decide) rfl (fun ls hl => ?_)
      refine lv_aload_n hx hb nd_Run_reckon_144 rfl (lv_at hl 2 rfl) ?_
      obtain ⟨q16, hq16, hf⟩ := Option.bind_eq_some_iff.mp hf
      refine kc_V (As := []) (rest := []) (st1 := [.long q16.1]) ⟨hx, hb, hml, hown, hts⟩ (xc_Ptr_pop hD v1 q15.2 _ hv1 hq16) (kb_Ptr_pop hts (hts _ nw_526) ⟨Nat.le_of_ble_eq_true rfl, Nat.le_of_ble_eq_true rfl⟩) (xr_Pointer hK hP hv1) hK hN hP hS rfl hl.1 rfl rfl (Nat.le_of_ble_eq_true rfl) ⟨Nat.zero_le _, Nat.zero_le _⟩ nd_Run_reckon_145 (fun H locs hP hS => ?_)
      refine lv_lstore (lv' := [(7, .long q16.1), (5, .long q15.1), (0, .ref (ad 6)), (1, .ref (ad (v1 + 19))), (2, .int v2)]) hx hb nd_Run_reckon_148 hl (by decide) rfl (fun ls hl => ?_)
      refine lv_aload_n hx hb nd_Run_reckon_150 rfl (lv_at hl 3 rfl) ?_
      refine lv_lload hx hb nd_Run_reckon_151 (lv_at hl 1 rfl) ?_
      obtain ⟨q17, hq17, hf⟩ := Option.bind_eq_some_iff.mp hf
      refine kc_V (As := [.long q15.1]) (rest := []) (st1 := []) ⟨hx, hb, hml, hown, hts⟩ (xc_Ptr_push hD v1 q15.1 q16.2 _ hv1 hq17) (kb_Ptr_push hts (hts _ nw_567) ⟨Nat.le_of_ble_eq_true rfl, Nat.le_of_ble_eq_true rfl⟩) (xr_Pointer hK hP hv1) hK hN hP hS rfl hl.1 rfl rfl (Nat.le_of_ble_eq_true rfl) ⟨Nat.zero_le _, Nat.zero_le _⟩ nd_Run_reckon_153 (fun H locs hP hS => ?_)
      refine lv_aload_n hx hb nd_Run_reckon_156 rfl (lv_at hl 3 rfl) ?_
      refine lv_lload hx hb nd_Run_reckon_157 (lv_at hl 0 rfl) ?_
      obtain ⟨q18, hq18, hf⟩ := Option.bind_eq_some_iff.mp hf
      refine kc_V (As := [.long q16.1]) (rest := []) (st1 := []) ⟨hx, hb, hml, hown, hts⟩ (xc_Ptr_push hD v1 q16.1 q17 _ hv1 hq18) (kb_Ptr_push hts (hts _ nw_567) ⟨Nat.le_of_ble_eq_true rfl, Nat.le_of_ble_eq_true rfl⟩) (xr_Pointer hK hP hv1) hK hN hP hS rfl hl.1 rfl rfl (Nat.le_of_ble_eq_true rfl) ⟨Nat.zero_le _, Nat.zero_le _⟩ nd_Run_reckon_159 (fun H locs hP hS => ?_)
      refine lv_goto hx hb nd_Run_reckon_162 (tgt := 212) rfl ?_
      obtain rfl := (Option.some.inj hf)
      exact W.vret hx hb hr (fun t ht hW => ⟨rfl, by rw [ht]; exact hP, va_K.moved hW.alike hK, hS.F ht⟩) hS.2.2 nd_Run_reckon_212
    replace hf := (if_neg hc8).symm.trans hf
    by_cases hc9 : v2 = 120
    · replace hf := (if_pos hc9).symm.trans hf
      refine lv_lookup (tgt := 165) hx hb nd_Run_reckon_23 (by decide) (by rw [hc9]; try rfl) rfl ?_
      refine lv_aload_n hx hb nd_Run_reckon_165 rfl (lv_at hl 1 rfl) ?_
      obtain ⟨q19, hq19, hf⟩ := Option.bind_eq_some_iff.mp hf
      refine kc_V (As := []) (rest := []) (st1 := [.long q19.1]) ⟨hx, hb, hml, hown, hts⟩ (xc_Ptr_pop hD v1 h _ hv1 hq19) (kb_Ptr_pop hts (hts _ nw_526) ⟨Nat.le_of_ble_eq_true rfl, Nat.le_of_ble_eq_true rfl⟩) (xr_Pointer hK hP hv1) hK hN hP hS rfl hl.1 rfl rfl (Nat.le_of_ble_eq_true rfl) ⟨Nat.zero_le _, Nat.zero_le _⟩ nd_Run_reckon_166 (fun H locs hP hS => ?_)
      refine lv_pop2_2 hx hb nd_Run_reckon_169 rfl ?_
      refine lv_goto hx hb nd_Run_reckon_170 (tgt := 212) rfl ?_
      obtain rfl := (Option.some.inj hf)
      exact W.vret hx hb hr (fun t ht hW => ⟨rfl, by rw [ht]; exact hP, va_K.moved hW.alike hK, hS.F ht⟩) hS.2.2 nd_Run_reckon_212
    replace hf := (if_neg hc9).symm.trans hf
    refine lv_lookup (tgt := 212) hx hb nd_Run_reckon_23 (by decide) ((lv_osw (a := 42) hc0 (by decide)).trans ((lv_osw (a := 43) hc1 (by decide)).trans ((lv_osw (a := 45) hc2 (by decide)).trans ((lv_osw (a := 99) hc3 (by decide)).trans ((lv_osw (a := 100) hc4 (by decide)).trans ((lv_osw (a := 103) hc5 (by decide)).trans ((lv_osw (a := 109) hc6 (by decide)).trans ((lv_osw (a := 114) hc7 (by decide)).trans ((lv_osw (a := 115) hc8 (by decide)).trans ((lv_osw (a := 120) hc9 (by decide)).trans (rfl))))))))))) rfl ?_
    obtain rfl := (Option.some.inj hf)
    exact W.vret hx hb hr (fun t ht hW => ⟨rfl, by rw [ht]; exact hP, va_K.moved hW.alike hK, hS.F ht⟩) hS.2.2 nd_Run_reckon_212
  unfold xf_Run_reckon at hf
  refine lv_iload_n hx hb nd_Run_reckon_0 rfl (lv_at hl 2 rfl) ?_
  refine lv_bipush (v := 48) hx hb nd_Run_reckon_1 (by decide) ?_
  refine lv_icmp_lt (tgt := 22) hx hb nd_Run_reckon_3 rfl (fun hc => ?_) (fun hc => ?_)
  · replace hf := (if_pos hc).symm.trans hf
    exact J22 _ _ _ h hP k1 a2 hk1 hS (lv_sub hl [0, 1, 2] rfl) hf
  · replace hf := (if_neg hc).symm.trans hf
    refine lv_iload_n hx hb nd_Run_reckon_6 rfl (lv_at hl 2 rfl) ?_
    refine lv_bipush (v := 57) hx hb nd_Run_reckon_7 (by decide) ?_
    refine lv_icmp_gt (tgt := 22) hx hb nd_Run_reckon_9 rfl (fun hc => ?_) (fun hc => ?_)
    · replace hf := (if_pos hc).symm.trans hf
      exact J22 _ _ _ h hP k1 a2 hk1 hS (lv_sub hl [0, 1, 2] rfl) hf
    · replace hf := (if_neg hc).symm.trans hf
      refine lv_aload_n hx hb nd_Run_reckon_12 rfl (lv_at hl 1 rfl) ?_
      refine lv_iload_n hx hb nd_Run_reckon_13 rfl (lv_at hl 2 rfl) ?_
      refine lv_bipush (v := 48) hx hb nd_Run_reckon_14 (by decide) ?_
      refine lv_isub hx hb nd_Run_reckon_16 ?_
      refine lv_i2l hx hb nd_Run_reckon_17 rfl ?_
      obtain ⟨q20, hq20, hf⟩ := Option.bind_eq_some_iff.mp hf
      refine kc_V (As := [.long ((a2 - (48 : Int32)).toInt64)]) (rest := []) (st1 := []) ⟨hx, hb, hml, hown, hts⟩ (xc_Ptr_push hD k1 ((a2 - (48 : Int32)).toInt64) h _ hk1 hq20) (kb_Ptr_push hts (hts _ nw_567) ⟨Nat.le_of_ble_eq_true rfl, Nat.le_of_ble_eq_true rfl⟩) (xr_Pointer hK hP hk1) hK hN hP hS rfl hl.1 rfl rfl (Nat.le_of_ble_eq_true rfl) ⟨Nat.zero_le _, Nat.zero_le _⟩ nd_Run_reckon_18 (fun H locs hP hS => ?_)
      obtain rfl := (Option.some.inj hf)
      exact W.vret hx hb hr (fun t ht hW => ⟨rfl, by rw [ht]; exact hP, va_K.moved hW.alike hK, hS.F ht⟩) hS.2.2 nd_Run_reckon_21
end
section
set_option maxHeartbeats 4000000 in
set_option maxRecDepth 100000 in
theorem xc_Way_behind {l : Launch} {D : va_G} {A : Nat → Prop} {cA : Nat → ClassId} {ad : Nat → Nat} (hD : wdD 61 A ad) (a0 : Int32) (a1 : Int32) (h : XH) (q : Int32) (hf : xf_Way_behind a0 a1 = q) : CT l D vwCl (xtys cA) A ny_Way_behind (wsO ny_Way_behind prog_9_method_9_code 2 (some .int)) (rmO 2 42) [.int a0, .int a1] (xW cA ad h) (xW cA ad h) (some (.int q)) := by
  refine Met.ofW (cc := prog_9_method_9_code) (maxL := 2) (ret := (some .int)) (by decide +kernel) rfl ?_
  intro p e s m args below meth c s₁ B hml hv
  obtain ⟨hav, hP, hK, hN⟩ := hv
  have hx := B.exec
  have hb := B.bytes
  have hr := B.returns
  have hts : ∀ w ∈ lw_wd, w.before args s = true := fun w hw => atoms_spec (ws := (wsO ny_Way_behind prog_9_method_9_code 2 (some .int))) B.pre w (List.mem_cons_of_mem _ hw)
  have hown : s.vm.findClass "DrawnPaths$Way" = some m.cls := findClass_of_methodNamed B.named
  have hlocks := B.notSynchronized
  have hS : va_S A s.heap s.heap [] := va_S.rf
  have hl := lv_entry ([.int a0, .int a1]) (n := 2) (Nat.le_of_ble_eq_true rfl)
  have hE : entryFrame m args 2 = entryFrame m ([.int a0, .int a1] : List Value).toArray 2 := by rw [hav]
  rw [hE, lg_entry_eq]
  generalize (lg_sl ([.int a0, .int a1]) ++ List.replicate (2 - (lg_sl ([.int a0, .int a1])).length) Slot.unset).toArray = ls at hl ⊢
  have hl : lv_has ls 2 [(0, .int a0), (1, .int a1)] := hl
  unfold xf_Way_behind at hf
  refine lv_iload_n hx hb nd_Way_behind_0 rfl (lv_at hl 1 rfl) ?_
  refine lv_bipush (v := 34) hx hb nd_Way_behind_1 (by decide) ?_
  refine lv_icmp_ne (tgt := 13) hx hb nd_Way_behind_3 rfl (fun hc => ?_) (fun hc => ?_)
  · replace hf := (if_neg hc).symm.trans hf
    refine lv_iload_n hx hb nd_Way_behind_13 rfl (lv_at hl 0 rfl) ?_
    refine kc_S (As := [.int a0]) (rest := []) (st1 := [.int (xf_Way_quotes a0)]) ⟨hx, hb, hml, hown, hts⟩ (xc_Way_quotes hD a0 h _ rfl) (kb_Way_quotes hts (hts _ nw_320) ⟨Nat.le_of_ble_eq_true rfl, Nat.le_of_ble_eq_true rfl⟩) hK hN hP hS rfl hl.1 rfl rfl (Nat.le_of_ble_eq_true rfl) ⟨Nat.zero_le _, Nat.zero_le _⟩ nd_Way_behind_14 (fun H locs hP hS => ?_)
    refine lv_iconst (v := 1) hx hb nd_Way_behind_17 (by decide) ?_
    refine lv_icmp_ne (tgt := 26) hx hb nd_Way_behind_18 rfl (fun hc => ?_) (fun hc => ?_)
    · replace hf := (if_neg hc).symm.trans hf
      refine lv_iload_n hx hb nd_Way_behind_26 rfl (lv_at hl 1 rfl) ?_
      by_cases hc0 : a1 = 35
      · replace hf := (if_pos hc0).symm.trans hf
        refine lv_lookup (tgt := 156) hx hb nd_Way_behind_27 (by decide) (by rw [hc0]; try rfl) rfl ?_
        refine lv_iload_n hx hb nd_Way_behind_156 rfl (lv_at hl 0 rfl) ?_
        refine kc_S (As := [.int a0]) (rest := []) (st1 := [.int (xf_Way_ahead a0)]) ⟨hx, hb, hml, hown, hts⟩ (xc_Way_ahead hD a0 h _ rfl) (kb_Way_ahead hts (hts _ nw_319) ⟨Nat.le_of_ble_eq_true rfl, Nat.le_of_ble_eq_true rfl⟩) hK hN hP hS rfl hl.1 rfl rfl (Nat.le_of_ble_eq_true rfl) ⟨Nat.zero_le _, Nat.zero_le _⟩ nd_Way_behind_157 (fun H locs hP hS => ?_)
        refine kc_S (As := [.int (xf_Way_ahead a0)]) (rest := []) (st1 := [.int (xf_Way_ahead (xf_Way_ahead a0))]) ⟨hx, hb, hml, hown, hts⟩ (xc_Way_ahead hD (xf_Way_ahead a0) h _ rfl) (kb_Way_ahead hts (hts _ nw_319) ⟨Nat.le_of_ble_eq_true rfl, Nat.le_of_ble_eq_true rfl⟩) hK hN hP hS rfl hl.1 rfl rfl (Nat.le_of_ble_eq_true rfl) ⟨Nat.zero_le _, Nat.zero_le _⟩ nd_Way_behind_160 (fun H locs hP hS => ?_)
        obtain rfl := hf
        exact W.iret hx hb hr (fun t ht hW => ⟨rfl, by rw [ht]; exact hP, va_K.moved hW.alike hK, hS.F ht⟩) hS.2.2 nd_Way_behind_163
      replace hf := (if_neg hc0).symm.trans hf
      by_cases hc1 : a1 = 47
      · replace hf := (if_pos hc1).symm.trans hf
        refine lv_lookup (tgt := 128) hx hb nd_Way_behind_27 (by decide) (by rw [hc1]; try rfl) rfl ?_
        refine lv_iload_n hx hb nd_Way_behind_128 rfl (lv_at hl 0 rfl) ?_
        refine lv_iconst (v := 3) hx hb nd_Way_behind_129 (by decide) ?_
        refine lv_iload_n hx hb nd_Way_behind_130 rfl (lv_at hl 0 rfl) ?_
        refine kc_S (As := [.int a0]) (rest := [.int (3 : Int32), .int a0]) (st1 := [.int (xf_Way_direction a0), .int (3 : Int32), .int a0]) ⟨hx, hb, hml, hown, hts⟩ (xc_Way_direction hD a0 h _ rfl) (kb_Way_direction hts (hts _ nw_306) ⟨Nat.le_of_ble_eq_true rfl, Nat.le_of_ble_eq_true rfl⟩) hK hN hP hS rfl hl.1 rfl rfl (Nat.le_of_ble_eq_true rfl) ⟨Nat.zero_le _, Nat.zero_le _⟩ nd_Way_behind_131 (fun H locs hP hS => ?_)
        refine lv_isub hx hb nd_Way_behind_134 ?_
        refine kc_S (As := [.int a0, .int ((3 : Int32) - (xf_Way_direction a0))]) (rest := []) (st1 := [.int (xf_Way_directed a0 ((3 : Int32) - (xf_Way_direction a0)))]) ⟨hx, hb, hml, hown, hts⟩ (xc_Way_directed hD a0 ((3 : Int32) - (xf_Way_direction a0)) h _ rfl) (kb_Way_directed hts (hts _ nw_309) ⟨Nat.le_of_ble_eq_true rfl, Nat.le_of_ble_eq_true rfl⟩) hK hN hP hS rfl hl.1 rfl rfl (Nat.le_of_ble_eq_true rfl) ⟨Nat.zero_le _, Nat.zero_le _⟩ nd_Way_behind_135 (fun H locs hP hS => ?_)
        refine kc_S (As := [.int (xf_Way_directed a0 ((3 : Int32) - (xf_Way_direction a0)))]) (rest := []) (st1 := [.int (xf_Way_ahead (xf_Way_directed a0 ((3 : Int32) - (xf_Way_direction a0))))]) ⟨hx, hb, hml, hown, hts⟩ (xc_Way_ahead hD (xf_Way_directed a0 ((3 : Int32) - (xf_Way_direction a0))) h _ rfl) (kb_Way_ahead hts (hts _ nw_319) ⟨Nat.le_of_ble_eq_true rfl, Nat.le_of_ble_eq_true rfl⟩) hK hN hP hS rfl hl.1 rfl rfl (Nat.le_of_ble_eq_true rfl) ⟨Nat.zero_le _, Nat.zero_le _⟩ nd_Way_behind_138 (fun H locs hP hS => ?_)
        obtain rfl := hf
        exact W.iret hx hb hr (fun t ht hW => ⟨rfl, by rw [ht]; exact hP, va_K.moved hW.alike hK, hS.F ht⟩) hS.2.2 nd_Way_behind_141
      replace hf := (if_neg hc1).symm.trans hf
      by_cases hc2 : a1 = 60
      · replace hf := (if_pos hc2).symm.trans hf
        refine lv_lookup (tgt := 110) hx hb nd_Way_behind_27 (by decide) (by rw [hc2]; try rfl) rfl ?_
        refine lv_iload_n hx hb nd_Way_behind_110 rfl (lv_at hl 0 rfl) ?_
        refine lv_iconst (v := 2) hx hb nd_Way_behind_111 (by decide) ?_
        refine kc_S (As := [.int a0, .int (2 : Int32)]) (rest := []) (st1 := [.int (xf_Way_directed a0 (2 : Int32))]) ⟨hx, hb, hml, hown, hts⟩ (xc_Way_directed hD a0 (2 : Int32) h _ rfl) (kb_Way_directed hts (hts _ nw_309) ⟨Nat.le_of_ble_eq_true rfl, Nat.le_of_ble_eq_true rfl⟩) hK hN hP hS rfl hl.1 rfl rfl (Nat.le_of_ble_eq_true rfl) ⟨Nat.zero_le _, Nat.zero_le _⟩ nd_Way_behind_112 (fun H locs hP hS => ?_)
        refine kc_S (As := [.int (xf_Way_directed a0 (2 : Int32))]) (rest := []) (st1 := [.int (xf_Way_ahead (xf_Way_directed a0 (2 : Int32)))]) ⟨hx, hb, hml, hown, hts⟩ (xc_Way_ahead hD (xf_Way_directed a0 (2 : Int32)) h _ rfl) (kb_Way_ahead hts (hts _ nw_319) ⟨Nat.le_of_ble_eq_true rfl, Nat.le_of_ble_eq_true rfl⟩) hK hN hP hS rfl hl.1 rfl rfl (Nat.le_of_ble_eq_true rfl) ⟨Nat.zero_le _, Nat.zero_le _⟩ nd_Way_behind_115 (fun H locs hP hS => ?_)
        obtain rfl := hf
        exact W.iret hx hb hr (fun t ht hW => ⟨rfl, by rw [ht]; exact hP, va_K.moved hW.alike hK, hS.F ht⟩) hS.2.2 nd_Way_behind_118
      replace hf := (if_neg hc2).symm.trans hf
      by_cases hc3 : a1 = 62
      · replace hf := (if_pos hc3).symm.trans hf
        refine lv_lookup (tgt := 92) hx hb nd_Way_behind_27 (by decide) (by rw [hc3]; try rfl) rfl ?_
        refine lv_iload_n hx hb nd_Way_behind_92 rfl (lv_at hl 0 rfl) ?_
        refine lv_iconst (v := 0) hx hb nd_Way_behind_93 (by decide) ?_
        refine kc_S (As := [.int a0, .int (0 : Int32)]) (rest := []) (st1 := [.int (xf_Way_directed a0 (0 : Int32))]) ⟨hx, hb, hml, hown, hts⟩ (xc_Way_directed hD a0 (0 : Int32) h _ rfl) (kb_Way_directed hts (hts _ nw_309) ⟨Nat.le_of_ble_eq_true rfl, Nat.le_of_ble_eq_true rfl⟩) hK hN hP hS rfl hl.1 rfl rfl (Nat.le_of_ble_eq_true rfl) ⟨Nat.zero_le _, Nat.zero_le _⟩ nd_Way_behind_94 (fun H locs hP hS => ?_)
        refine kc_S (As := [.int (xf_Way_directed a0 (0 : Int32))]) (rest := []) (st1 := [.int (xf_Way_ahead (xf_Way_directed a0 (0 : Int32)))]) ⟨hx, hb, hml, hown, hts⟩ (xc_Way_ahead hD (xf_Way_directed a0 (0 : Int32)) h _ rfl) (kb_Way_ahead hts (hts _ nw_319) ⟨Nat.le_of_ble_eq_true rfl, Nat.le_of_ble_eq_true rfl⟩) hK hN hP hS rfl hl.1 rfl rfl (Nat.le_of_ble_eq_true rfl) ⟨Nat.zero_le _, Nat.zero_le _⟩ nd_Way_behind_97 (fun H locs hP hS => ?_)
        obtain rfl := hf
        exact W.iret hx hb hr (fun t ht hW => ⟨rfl, by rw [ht]; exact hP, va_K.moved hW.alike hK, hS.F ht⟩) hS.2.2 nd_Way_behind_100
      replace hf := (if_neg hc3).symm.trans hf
      by_cases hc4 : a1 = 92
      · replace hf := (if_pos hc4).symm.trans hf
        refine lv_lookup (tgt := 142) hx hb nd_Way_behind_27 (by decide) (by rw [hc4]; try rfl) rfl ?_
        refine lv_iload_n hx hb nd_Way_behind_142 rfl (lv_at hl 0 rfl) ?_
        refine lv_iload_n hx hb nd_Way_behind_143 rfl (lv_at hl 0 rfl) ?_
        refine kc_S (As := [.int a0]) (rest := [.int a0]) (st1 := [.int (xf_Way_direction a0), .int a0]) ⟨hx, hb, hml, hown, hts⟩ (xc_Way_direction hD a0 h _ rfl) (kb_Way_direction hts (hts _ nw_306) ⟨Nat.le_of_ble_eq_true rfl, Nat.le_of_ble_eq_true rfl⟩) hK hN hP hS rfl hl.1 rfl rfl (Nat.le_of_ble_eq_true rfl) ⟨Nat.zero_le _, Nat.zero_le _⟩ nd_Way_behind_144 (fun H locs hP hS => ?_)
        refine lv_iconst (v := 1) hx hb nd_Way_behind_147 (by decide) ?_
        refine lv_ixor hx hb nd_Way_behind_148 ?_
        refine kc_S (As := [.int a0, .int ((xf_Way_direction a0) ^^^ (1 : Int32))]) (rest := []) (st1 := [.int (xf_Way_directed a0 ((xf_Way_direction a0) ^^^ (1 : Int32)))]) ⟨hx, hb, hml, hown, hts⟩ (xc_Way_directed hD a0 ((xf_Way_direction a0) ^^^ (1 : Int32)) h _ rfl) (kb_Way_directed hts (hts _ nw_309) ⟨Nat.le_of_ble_eq_true rfl, Nat.le_of_ble_eq_true rfl⟩) hK hN hP hS rfl hl.1 rfl rfl (Nat.le_of_ble_eq_true rfl) ⟨Nat.zero_le _, Nat.zero_le _⟩ nd_Way_behind_149 (fun H locs hP hS => ?_)
        refine kc_S (As := [.int (xf_Way_directed a0 ((xf_Way_direction a0) ^^^ (1 : Int32)))]) (rest := []) (st1 := [.int (xf_Way_ahead (xf_Way_directed a0 ((xf_Way_direction a0) ^^^ (1 : Int32))))]) ⟨hx, hb, hml, hown, hts⟩ (xc_Way_ahead hD (xf_Way_directed a0 ((xf_Way_direction a0) ^^^ (1 : Int32))) h _ rfl) (kb_Way_ahead hts (hts _ nw_319) ⟨Nat.le_of_ble_eq_true rfl, Nat.le_of_ble_eq_true rfl⟩) hK hN hP hS rfl hl.1 rfl rfl (Nat.le_of_ble_eq_true rfl) ⟨Nat.zero_le _, Nat.zero_le _⟩ nd_Way_behind_152 (fun H locs hP hS => ?_)
        obtain rfl := hf
        exact W.iret hx hb hr (fun t ht hW => ⟨rfl, by rw [ht]; exact hP, va_K.moved hW.alike hK, hS.F ht⟩) hS.2.2 nd_Way_behind_155
      replace hf := (if_neg hc4).symm.trans hf
      by_cases hc5 : a1 = 94
      · replace hf := (if_pos hc5).symm.trans hf
        refine lv_lookup (tgt := 119) hx hb nd_Way_behind_27 (by decide) (by rw [hc5]; try rfl) rfl ?_
        refine lv_iload_n hx hb nd_Way_behind_119 rfl (lv_at hl 0 rfl) ?_
        refine lv_iconst (v := 3) hx hb nd_Way_behind_120 (by decide) ?_
        refine kc_S (As := [.int a0, .int (3 : Int32)]) (rest := []) (st1 := [.int (xf_Way_directed a0 (3 : Int32))]) ⟨hx, hb, hml, hown, hts⟩ (xc_Way_directed hD a0 (3 : Int32) h _ rfl) (kb_Way_directed hts (hts _ nw_309) ⟨Nat.le_of_ble_eq_true rfl, Nat.le_of_ble_eq_true rfl⟩) hK hN hP hS rfl hl.1 rfl rfl (Nat.le_of_ble_eq_true rfl) ⟨Nat.zero_le _, Nat.zero_le _⟩ nd_Way_behind_121 (fun H locs hP hS => ?_)
        refine kc_S (As := [.int (xf_Way_directed a0 (3 : Int32))]) (rest := []) (st1 := [.int (xf_Way_ahead (xf_Way_directed a0 (3 : Int32)))]) ⟨hx, hb, hml, hown, hts⟩ (xc_Way_ahead hD (xf_Way_directed a0 (3 : Int32)) h _ rfl) (kb_Way_ahead hts (hts _ nw_319) ⟨Nat.le_of_ble_eq_true rfl, Nat.le_of_ble_eq_true rfl⟩) hK hN hP hS rfl hl.1 rfl rfl (Nat.le_of_ble_eq_true rfl) ⟨Nat.zero_le _, Nat.zero_le _⟩ nd_Way_behind_124 (fun H locs hP hS => ?_)
        obtain rfl := hf
        exact W.iret hx hb hr (fun t ht hW => ⟨rfl, by rw [ht]; exact hP, va_K.moved hW.alike hK, hS.F ht⟩) hS.2.2 nd_Way_behind_127
      replace hf := (if_neg hc5).symm.trans hf
      by_cases hc6 : a1 = 118
      · replace hf := (if_pos hc6).symm.trans hf
        refine lv_lookup (tgt := 101) hx hb nd_Way_behind_27 (by decide) (by rw [hc6]; try rfl) rfl ?_
        refine lv_iload_n hx hb nd_Way_behind_101 rfl (lv_at hl 0 rfl) ?_
        refine lv_iconst (v := 1) hx hb nd_Way_behind_102 (by decide) ?_
        refine kc_S (As := [.int a0, .int (1 : Int32)]) (rest := []) (st1 := [.int (xf_Way_directed a0 (1 : Int32))]) ⟨hx, hb, hml, hown, hts⟩ (xc_Way_directed hD a0 (1 : Int32) h _ rfl) (kb_Way_directed hts (hts _ nw_309) ⟨Nat.le_of_ble_eq_true rfl, Nat.le_of_ble_eq_true rfl⟩) hK hN hP hS rfl hl.1 rfl rfl (Nat.le_of_ble_eq_true rfl) ⟨Nat.zero_le _, Nat.zero_le _⟩ nd_Way_behind_103 (fun H locs hP hS => ?_)
        refine kc_S (As := [.int (xf_Way_directed a0 (1 : Int32))]) (rest := []) (st1 := [.int (xf_Way_ahead (xf_Way_directed a0 (1 : Int32)))]) ⟨hx, hb, hml, hown, hts⟩ (xc_Way_ahead hD (xf_Way_directed a0 (1 : Int32)) h _ rfl) (kb_Way_ahead hts (hts _ nw_319) ⟨Nat.le_of_ble_eq_true rfl, Nat.le_of_ble_eq_true rfl⟩) hK hN hP hS rfl hl.1 rfl rfl (Nat.le_of_ble_eq_true rfl) ⟨Nat.zero_le _, Nat.zero_le _⟩ nd_Way_behind_106 (fun H locs hP hS => ?_)
        obtain rfl := hf
        exact W.iret hx hb hr (fun t ht hW => ⟨rfl, by rw [ht]; exact hP, va_K.moved hW.alike hK, hS.F ht⟩) hS.2.2 nd_Way_behind_109
      replace hf := (if_neg hc6).symm.trans hf
      refine lv_lookup (tgt := 164) hx hb nd_Way_behind_27 (by decide) ((lv_osw (a := 35) hc0 (by decide)).trans ((lv_osw (a := 47) hc1 (by decide)).trans ((lv_osw (a := 60) hc2 (by decide)).trans ((lv_osw (a := 62) hc3 (by decide)).trans ((lv_osw (a := 92) hc4 (by decide)).trans ((lv_osw (a := 94) hc5 (by decide)).trans ((lv_osw (a := 118) hc6 (by decide)).trans (rfl)))))))) rfl ?_
      refine lv_iload_n hx hb nd_Way_behind_164 rfl (lv_at hl 0 rfl) ?_
      refine kc_S (As := [.int a0]) (rest := []) (st1 := [.int (xf_Way_ahead a0)]) ⟨hx, hb, hml, hown, hts⟩ (xc_Way_ahead hD a0 h _ rfl) (kb_Way_ahead hts (hts _ nw_319) ⟨Nat.le_of_ble_eq_true rfl, Nat.le_of_ble_eq_true rfl⟩) hK hN hP hS rfl hl.1 rfl rfl (Nat.le_of_ble_eq_true rfl) ⟨Nat.zero_le _, Nat.zero_le _⟩ nd_Way_behind_165 (fun H locs hP hS => ?_)
      obtain rfl := hf
      exact W.iret hx hb hr (fun t ht hW => ⟨rfl, by rw [ht]; exact hP, va_K.moved hW.alike hK, hS.F ht⟩) hS.2.2 nd_Way_behind_168
    · replace hf := (if_pos hc).symm.trans hf
      refine lv_iload_n hx hb nd_Way_behind_21 rfl (lv_at hl 0 rfl) ?_
      refine kc_S (As := [.int a0]) (rest := []) (st1 := [.int (xf_Way_ahead a0)]) ⟨hx, hb, hml, hown, hts⟩ (xc_Way_ahead hD a0 h _ rfl) (kb_Way_ahead hts (hts _ nw_319) ⟨Nat.le_of_ble_eq_true rfl, Nat.le_of_ble_eq_true rfl⟩) hK hN hP hS rfl hl.1 rfl rfl (Nat.le_of_ble_eq_true rfl) ⟨Nat.zero_le _, Nat.zero_le _⟩ nd_Way_behind_22 (fun H locs hP hS => ?_)
      obtain rfl := hf
      exact W.iret hx hb hr (fun t ht hW => ⟨rfl, by rw [ht]; exact hP, va_K.moved hW.alike hK, hS.F ht⟩) hS.2.2 nd_Way_behind_25
  · replace hf := (if_pos hc).symm.trans hf
    refine lv_iload_n hx hb nd_Way_behind_6 rfl (lv_at hl 0 rfl) ?_
    refine lv_iconst (v := 1) hx hb nd_Way_behind_7 (by decide) ?_
    refine lv_ixor hx hb nd_Way_behind_8 ?_
    refine kc_S (As := [.int (a0 ^^^ (1 : Int32))]) (rest := []) (st1 := [.int (xf_Way_ahead (a0 ^^^ (1 : Int32)))]) ⟨hx, hb, hml, hown, hts⟩ (xc_Way_ahead hD (a0 ^^^ (1 : Int32)) h _ rfl) (kb_Way_ahead hts (hts _ nw_319) ⟨Nat.le_of_ble_eq_true rfl, Nat.le_of_ble_eq_true rfl⟩) hK hN hP hS rfl hl.1 rfl rfl (Nat.le_of_ble_eq_true rfl) ⟨Nat.zero_le _, Nat.zero_le _⟩ nd_Way_behind_9 (fun H locs hP hS => ?_)
    obtain rfl := hf
    exact W.iret hx hb hr (fun t ht hW => ⟨rfl, by rw [ht]; exact hP, va_K.moved hW.alike hK, hS.F ht⟩) hS.2.2 nd_Way_behind_12
set_option maxHeartbeats 4000000 in
set_option maxRecDepth 100000 in
theorem xc_Run_pass {l : Launch} {D : va_G} {A : Nat → Prop} {cA : Nat → ClassId} {ad : Nat → Nat} (hD : wdD 61 A ad) (k1 : Nat) (a2 : Int32) (h : XH) (q : Int32 × XH) (hk1 : k1 < 4) (hf : xf_Run_pass k1 a2 h = some q) : CT l D vwCl (xtys cA) A ny_Run_pass (wsO ny_Run_pass prog_7_method_9_code 3 (some .int)) (rmO 4 104) [.ref (ad 6), .ref (ad (k1 + 19)), .int a2] (xW cA ad h) (xW cA ad q.2) (some (.int q.1)) := by
  refine Met.ofW (cc := prog_7_method_9_code) (maxL := 3) (ret := (some .int)) (by decide +kernel) rfl ?_
  intro p e s m args below meth c s₁ B hml hv
  obtain ⟨hav, hP, hK, hN⟩ := hv
  have hx := B.exec
  have hb := B.bytes
  have hr := B.returns
  have hts : ∀ w ∈ lw_wd, w.before args s = true := fun w hw => atoms_spec (ws := (wsO ny_Run_pass prog_7_method_9_code 3 (some .int))) B.pre w (List.mem_cons_of_mem _ hw)
  have hown : s.vm.findClass "DrawnPaths$Run" = some m.cls := findClass_of_methodNamed B.named
  have hlocks := B.notSynchronized
  have hS : va_S A s.heap s.heap [] := va_S.rf
  have hl := lv_entry ([.ref (ad 6), .ref (ad (k1 + 19)), .int a2]) (n := 3) (Nat.le_of_ble_eq_true rfl)
  have hE : entryFrame m args 3 = entryFrame m ([.ref (ad 6), .ref (ad (k1 + 19)), .int a2] : List Value).toArray 3 := by rw [hav]
  rw [hE, lg_entry_eq]
  generalize (lg_sl ([.ref (ad 6), .ref (ad (k1 + 19)), .int a2]) ++ List.replicate (3 - (lg_sl ([.ref (ad 6), .ref (ad (k1 + 19)), .int a2])).length) Slot.unset).toArray = ls at hl ⊢
  have hl : lv_has ls 3 [(0, .ref (ad 6)), (1, .ref (ad (k1 + 19))), (2, .int a2)] := hl
  have J20 : ∀ (H : Heap) (locs : List Loc) (ls : Array Slot) (h : XH) (hP : va_P D vwCl (xW cA ad h) H) (v1 : Nat) (v2 : Int32) (hv1 : v1 < 4) (hS : va_S A s.heap H locs) (hl : lv_has ls 3 [(0, .ref (ad 6)), (1, .ref (ad (v1 + 19))), (2, .int v2)]) (hf : xf_Run_pass_J20 v1 v2 h = some q), W p l e (headSpec (wsO ny_Run_pass prog_7_method_9_code 3 (some .int)) (rmO 4 104)).room s m args below meth c H locs 0 0 (MQ below (RetQ D vwCl (xtys cA) A (some (.int q.1)) (xW cA ad q.2)) args s 0 0 A) (F0 m 20 ls []) := by
    intro H locs ls h hP v1 v2 hv1 hS hl hf
    unfold xf_Run_pass_J20 at hf
    refine lv_aload_n hx hb nd_Run_pass_20 rfl (lv_at hl 1 rfl) ?_
    refine xg_Ptr_way hx hb hts hown hK hP hv1 (hts _ nw_129) nd_Run_pass_21 ?_
    refine kc_S (As := [.int (xh_pway h v1)]) (rest := []) (st1 := [.int (xf_Way_quotes (xh_pway h v1))]) ⟨hx, hb, hml, hown, hts⟩ (xc_Way_quotes hD (xh_pway h v1) h _ rfl) (kb_Way_quotes hts (hts _ nw_606) ⟨Nat.le_of_ble_eq_true rfl, Nat.le_of_ble_eq_true rfl⟩) hK hN hP hS rfl hl.1 rfl rfl (Nat.le_of_ble_eq_true rfl) ⟨Nat.zero_le _, Nat.zero_le _⟩ nd_Run_pass_24 (fun H locs hP hS => ?_)
    refine lv_if_ne (tgt := 39) hx hb nd_Run_pass_27 rfl (fun hc => ?_) (fun hc => ?_)
    · replace hf := (if_neg hc).symm.trans hf
      refine lv_iload_n hx hb nd_Run_pass_39 rfl (lv_at hl 2 rfl) ?_
      refine lv_bipush (v := 34) hx hb nd_Run_pass_40 (by decide) ?_
      refine lv_icmp_eq (tgt := 51) hx hb nd_Run_pass_42 rfl (fun hc => ?_) (fun hc => ?_)
      · replace hf := (if_pos hc).symm.trans hf
        refine lv_aload_n hx hb nd_Run_pass_51 rfl (lv_at hl 1 rfl) ?_
        refine lv_aload_n hx hb nd_Run_pass_52 rfl (lv_at hl 1 rfl) ?_
        refine xg_Ptr_way hx hb hts hown hK hP hv1 (hts _ nw_129) nd_Run_pass_53 ?_
        refine lv_iload_n hx hb nd_Run_pass_56 rfl (lv_at hl 2 rfl) ?_
        refine kc_S (As := [.int (xh_pway h v1), .int v2]) (rest := [.ref (ad (v1 + 19))]) (st1 := [.int (xf_Way_behind (xh_pway h v1) v2), .ref (ad (v1 + 19))]) ⟨hx, hb, hml, hown, hts⟩ (xc_Way_behind hD (xh_pway h v1) v2 h _ rfl) (kb_Way_behind hts (hts _ nw_614) ⟨Nat.le_of_ble_eq_true rfl, Nat.le_of_ble_eq_true rfl⟩) hK hN hP hS rfl hl.1 rfl rfl (Nat.le_of_ble_eq_true rfl) ⟨Nat.zero_le _, Nat.zero_le _⟩ nd_Run_pass_57 (fun H locs hP hS => ?_)
        refine xp_Ptr_way hx hb hts hown hK hD hP hS hv1 (hts _ nw_129) nd_Run_pass_60 (fun H locs hP hS => ?_)
        obtain ⟨g1, hg1, hf⟩ := Option.bind_eq_some_iff.mp hf
        rw [Option.some.inj hg1] at hP
        refine lv_iconst (v := 0) hx hb nd_Run_pass_63 (by decide) ?_
        obtain rfl := (Option.some.inj hf)
        exact W.iret hx hb hr (fun t ht hW => ⟨rfl, by rw [ht]; exact hP, va_K.moved hW.alike hK, hS.F ht⟩) hS.2.2 nd_Run_pass_64
      · replace hf := (if_neg hc).symm.trans hf
        refine lv_aload_n hx hb nd_Run_pass_45 rfl (lv_at hl 1 rfl) ?_
        refine lv_iload_n hx hb nd_Run_pass_46 rfl (lv_at hl 2 rfl) ?_
        refine lv_i2l hx hb nd_Run_pass_47 rfl ?_
        obtain ⟨q2, hq2, hf⟩ := Option.bind_eq_some_iff.mp hf
        refine kc_V (As := [.long v2.toInt64]) (rest := []) (st1 := []) ⟨hx, hb, hml, hown, hts⟩ (xc_Ptr_push hD v1 v2.toInt64 h _ hv1 hq2) (kb_Ptr_push hts (hts _ nw_567) ⟨Nat.le_of_ble_eq_true rfl, Nat.le_of_ble_eq_true rfl⟩) (xr_Pointer hK hP hv1) hK hN hP hS rfl hl.1 rfl rfl (Nat.le_of_ble_eq_true rfl) ⟨Nat.zero_le _, Nat.zero_le _⟩ nd_Run_pass_48 (fun H locs hP hS => ?_)
        refine lv_aload_n hx hb nd_Run_pass_51 rfl (lv_at hl 1 rfl) ?_
        refine lv_aload_n hx hb nd_Run_pass_52 rfl (lv_at hl 1 rfl) ?_
        refine xg_Ptr_way hx hb hts hown hK hP hv1 (hts _ nw_129) nd_Run_pass_53 ?_
        refine lv_iload_n hx hb nd_Run_pass_56 rfl (lv_at hl 2 rfl) ?_
        refine kc_S (As := [.int (xh_pway q2 v1), .int v2]) (rest := [.ref (ad (v1 + 19))]) (st1 := [.int (xf_Way_behind (xh_pway q2 v1) v2), .ref (ad (v1 + 19))]) ⟨hx, hb, hml, hown, hts⟩ (xc_Way_behind hD (xh_pway q2 v1) v2 q2 _ rfl) (kb_Way_behind hts (hts _ nw_614) ⟨Nat.le_of_ble_eq_true rfl, Nat.le_of_ble_eq_true rfl⟩) hK hN hP hS rfl hl.1 rfl rfl (Nat.le_of_ble_eq_true rfl) ⟨Nat.zero_le _, Nat.zero_le _⟩ nd_Run_pass_57 (fun H locs hP hS => ?_)
        refine xp_Ptr_way hx hb hts hown hK hD hP hS hv1 (hts _ nw_129) nd_Run_pass_60 (fun H locs hP hS => ?_)
        obtain ⟨g3, hg3, hf⟩ := Option.bind_eq_some_iff.mp hf
        rw [Option.some.inj hg3] at hP
        refine lv_iconst (v := 0) hx hb nd_Run_pass_63 (by decide) ?_
        obtain rfl := (Option.some.inj hf)
        exact W.iret hx hb hr (fun t ht hW => ⟨rfl, by rw [ht]; exact hP, va_K.moved hW.alike hK, hS.F ht⟩) hS.2.2 nd_Run_pass_64
    · replace hf := (if_pos hc).symm.trans hf
      refine lv_aload_n hx hb nd_Run_pass_30 rfl (lv_at hl 0 rfl) ?_
      refine lv_aload_n hx hb nd_Run_pass_31 rfl (lv_at hl 1 rfl) ?_
      refine lv_iload_n hx hb nd_Run_pass_32 rfl (lv_at hl 2 rfl) ?_
      obtain ⟨q4, hq4, hf⟩ := Option.bind_eq_some_iff.mp hf
      refine kc_V (As := [.ref (ad (v1 + 19)), .int v2]) (rest := []) (st1 := []) ⟨hx, hb, hml, hown, hts⟩ (xc_Run_reckon hD v1 v2 h _ hv1 hq4) (kb_Run_reckon hts (hts _ nw_607) ⟨Nat.le_of_ble_eq_true rfl, Nat.le_of_ble_eq_true rfl⟩) (xr_Run hK hP) hK hN hP hS rfl hl.1 rfl rfl (Nat.le_of_ble_eq_true rfl) ⟨Nat.zero_le _, Nat.zero_le _⟩ nd_Run_pass_33 (fun H locs hP hS => ?_)
      refine lv_goto hx hb nd_Run_pass_36 (tgt := 51) rfl ?_
      refine lv_aload_n hx hb nd_Run_pass_51 rfl (lv_at hl 1 rfl) ?_
      refine lv_aload_n hx hb nd_Run_pass_52 rfl (lv_at hl 1 rfl) ?_
      refine xg_Ptr_way hx hb hts hown hK hP hv1 (hts _ nw_129) nd_Run_pass_53 ?_
      refine lv_iload_n hx hb nd_Run_pass_56 rfl (lv_at hl 2 rfl) ?_
      refine kc_S (As := [.int (xh_pway q4 v1), .int v2]) (rest := [.ref (ad (v1 + 19))]) (st1 := [.int (xf_Way_behind (xh_pway q4 v1) v2), .ref (ad (v1 + 19))]) ⟨hx, hb, hml, hown, hts⟩ (xc_Way_behind hD (xh_pway q4 v1) v2 q4 _ rfl) (kb_Way_behind hts (hts _ nw_614) ⟨Nat.le_of_ble_eq_true rfl, Nat.le_of_ble_eq_true rfl⟩) hK hN hP hS rfl hl.1 rfl rfl (Nat.le_of_ble_eq_true rfl) ⟨Nat.zero_le _, Nat.zero_le _⟩ nd_Run_pass_57 (fun H locs hP hS => ?_)
      refine xp_Ptr_way hx hb hts hown hK hD hP hS hv1 (hts _ nw_129) nd_Run_pass_60 (fun H locs hP hS => ?_)
      obtain ⟨g5, hg5, hf⟩ := Option.bind_eq_some_iff.mp hf
      rw [Option.some.inj hg5] at hP
      refine lv_iconst (v := 0) hx hb nd_Run_pass_63 (by decide) ?_
      obtain rfl := (Option.some.inj hf)
      exact W.iret hx hb hr (fun t ht hW => ⟨rfl, by rw [ht]; exact hP, va_K.moved hW.alike hK, hS.F ht⟩) hS.2.2 nd_Run_pass_64
  unfold xf_Run_pass at hf
  refine lv_aload_n hx hb nd_Run_pass_0 rfl (lv_at hl 1 rfl) ?_
  refine xg_Ptr_way hx hb hts hown hK hP hk1 (hts _ nw_129) nd_Run_pass_1 ?_
  refine lv_iload_n hx hb nd_Run_pass_4 rfl (lv_at hl 2 rfl) ?_
  refine kc_S (As := [.int (xh_pway h k1), .int a2]) (rest := []) (st1 := [.int (xf_Run_pushesMore (xh_pway h k1) a2)]) ⟨hx, hb, hml, hown, hts⟩ (xc_Run_pushesMore hD (xh_pway h k1) a2 h _ rfl) (kb_Run_pushesMore hts (hts _ nw_603) ⟨Nat.le_of_ble_eq_true rfl, Nat.le_of_ble_eq_true rfl⟩) hK hN hP hS rfl hl.1 rfl rfl (Nat.le_of_ble_eq_true rfl) ⟨Nat.zero_le _, Nat.zero_le _⟩ nd_Run_pass_5 (fun H locs hP hS => ?_)
  refine lv_if_eq (tgt := 20) hx hb nd_Run_pass_8 rfl (fun hc => ?_) (fun hc => ?_)
  · replace hf := (if_pos hc).symm.trans hf
    exact J20 _ _ _ h hP k1 a2 hk1 hS (lv_sub hl [0, 1, 2] rfl) hf
  · replace hf := (if_neg hc).symm.trans hf
    refine lv_aload_n hx hb nd_Run_pass_11 rfl (lv_at hl 1 rfl) ?_
    refine kc_V (As := []) (rest := []) (st1 := [.int (xf_Ptr_isFull k1 h)]) ⟨hx, hb, hml, hown, hts⟩ (xc_Ptr_isFull hD k1 h _ hk1 rfl) (kb_Ptr_isFull hts (hts _ nw_563) ⟨Nat.le_of_ble_eq_true rfl, Nat.le_of_ble_eq_true rfl⟩) (xr_Pointer hK hP hk1) hK hN hP hS rfl hl.1 rfl rfl (Nat.le_of_ble_eq_true rfl) ⟨Nat.zero_le _, Nat.zero_le _⟩ nd_Run_pass_12 (fun H locs hP hS => ?_)
    refine lv_if_eq (tgt := 20) hx hb nd_Run_pass_15 rfl (fun hc => ?_) (fun hc => ?_)
    · replace hf := (if_pos hc).symm.trans hf
      exact J20 _ _ _ h hP k1 a2 hk1 hS (lv_sub hl [0, 1, 2] rfl) hf
    · replace hf := (if_neg hc).symm.trans hf
      refine lv_iconst (v := 2) hx hb nd_Run_pass_18 (by decide) ?_
      obtain rfl := (Option.some.inj hf)
      exact W.iret hx hb hr (fun t ht hW => ⟨rfl, by rw [ht]; exact hP, va_K.moved hW.alike hK, hS.F ht⟩) hS.2.2 nd_Run_pass_19
set_option maxHeartbeats 4000000 in
set_option maxRecDepth 100000 in
theorem xc_Run_remove {l : Launch} {D : va_G} {A : Nat → Prop} {cA : Nat → ClassId} {ad : Nat → Nat} (hD : wdD 61 A ad) (fuel : Nat) (a1 : Int32) (h : XH) (q : XH) (hf : xf_Run_remove fuel a1 h = some q) : CT l D vwCl (xtys cA) A ny_Run_remove (wsO ny_Run_remove prog_7_method_8_code 4 none) (rmO 0 0) [.ref (ad 6), .int a1] (xW cA ad h) (xW cA ad q) none := by
  refine Met.ofW (cc := prog_7_method_8_code) (maxL := 4) (ret := none) (by decide +kernel) rfl ?_
  intro p e s m args below meth c s₁ B hml hv
  obtain ⟨hav, hP, hK, hN⟩ := hv
  have hx := B.exec
  have hb := B.bytes
  have hr := B.returns
  have hts : ∀ w ∈ lw_wd, w.before args s = true := fun w hw => atoms_spec (ws := (wsO ny_Run_remove prog_7_method_8_code 4 none)) B.pre w (List.mem_cons_of_mem _ hw)
  have hown : s.vm.findClass "DrawnPaths$Run" = some m.cls := findClass_of_methodNamed B.named
  have hlocks := B.notSynchronized
  have hS : va_S A s.heap s.heap [] := va_S.rf
  have hl := lv_entry ([.ref (ad 6), .int a1]) (n := 4) (Nat.le_of_ble_eq_true rfl)
  have hE : entryFrame m args 4 = entryFrame m ([.ref (ad 6), .int a1] : List Value).toArray 4 := by rw [hav]
  rw [hE, lg_entry_eq]
  generalize (lg_sl ([.ref (ad 6), .int a1]) ++ List.replicate (4 - (lg_sl ([.ref (ad 6), .int a1])).length) Slot.unset).toArray = ls at hl ⊢
  have hl : lv_has ls 4 [(0, .ref (ad 6)), (1, .int a1)] := hl
  have L11 : ∀ (n : Nat) (H : Heap) (locs : List Loc) (ls : Array Slot) (h : XH) (hP : va_P D vwCl (xW cA ad h) H) (v2 : Nat) (v3 : Int32) (hv2 : v2 < 4) (hS : va_S A s.heap H locs) (hl : lv_has ls 4 [(0, .ref (ad 6)), (2, .ref (ad (v2 + 19))), (3, .int v3)]) (hf : xf_Run_remove_L11 fuel n v2 v3 h = some q), W p l e (headSpec (wsO ny_Run_remove prog_7_method_8_code 4 none) (rmO 0 0)).room s m args below meth c H locs 0 0 (MQ below (RetQ D vwCl (xtys cA) A none (xW cA ad q)) args s 0 0 A) (F0 m 11 ls []) := by
    intro n
    induction n with
    | zero =>
      intro H locs ls h hP v2 v3 hv2 hS hl hf
      rw [xf_Run_remove_L11] at hf
      cases hf
    | succ nL11 ihL11 =>
      intro H locs ls h hP v2 v3 hv2 hS hl hf
      rw [xf_Run_remove_L11] at hf
      refine lv_iload_n hx hb nd_Run_remove_11 rfl (lv_at hl 2 rfl) ?_
      refine lv_aload_n hx hb nd_Run_remove_12 rfl (lv_at hl 0 rfl) ?_
      refine xg_Run_living hx hb hts hown hK hP (hts _ nw_155) nd_Run_remove_13 ?_
      refine lv_icmp_ge (tgt := 39) hx hb nd_Run_remove_16 rfl (fun hc => ?_) (fun hc => ?_)
      · replace hf := (if_pos hc).symm.trans hf
        refine lv_aload_n hx hb nd_Run_remove_39 rfl (lv_at hl 0 rfl) ?_
        refine lv_dup hx hb nd_Run_remove_40 rfl ?_
        refine xg_Run_living hx hb hts hown hK hP (hts _ nw_155) nd_Run_remove_41 ?_
        refine lv_iconst (v := 1) hx hb nd_Run_remove_44 (by decide) ?_
        refine lv_isub hx hb nd_Run_remove_45 ?_
        refine xp_Run_living hx hb hts hown hK hD hP hS (hts _ nw_155) nd_Run_remove_46 (fun H locs hP hS => ?_)
        obtain ⟨g3, hg3, hf⟩ := Option.bind_eq_some_iff.mp hf
        rw [Option.some.inj hg3] at hP
        refine lv_aload_n hx hb nd_Run_remove_49 rfl (lv_at hl 0 rfl) ?_
        refine xg_Run_pointers hx hb hts hown hK hP (hts _ nw_149) nd_Run_remove_50 ?_
        refine lv_aload_n hx hb nd_Run_remove_53 rfl (lv_at hl 0 rfl) ?_
        refine xg_Run_living hx hb hts hown hK hP (hts _ nw_155) nd_Run_remove_54 ?_
        refine lv_aload_n hx hb nd_Run_remove_57 rfl (lv_at hl 1 rfl) ?_
        obtain ⟨j4, hj4, hf⟩ := Option.bind_eq_some_iff.mp hf
        refine xas_ptrs hx hb hK hD hP hS hj4 hv2 nd_Run_remove_58 (fun H locs hP hS => ?_)
        obtain ⟨g5, hg5, hf⟩ := Option.bind_eq_some_iff.mp hf
        rw [Option.some.inj hg5] at hP
        obtain rfl := (Option.some.inj hf)
        exact W.vret hx hb hr (fun t ht hW => ⟨rfl, by rw [ht]; exact hP, va_K.moved hW.alike hK, hS.F ht⟩) hS.2.2 nd_Run_remove_59
      · replace hf := (if_neg hc).symm.trans hf
        refine lv_aload_n hx hb nd_Run_remove_19 rfl (lv_at hl 0 rfl) ?_
        refine xg_Run_pointers hx hb hts hown hK hP (hts _ nw_149) nd_Run_remove_20 ?_
        refine lv_iload_n hx hb nd_Run_remove_23 rfl (lv_at hl 2 rfl) ?_
        refine lv_iconst (v := 1) hx hb nd_Run_remove_24 (by decide) ?_
        refine lv_isub hx hb nd_Run_remove_25 ?_
        refine lv_aload_n hx hb nd_Run_remove_26 rfl (lv_at hl 0 rfl) ?_
        refine xg_Run_pointers hx hb hts hown hK hP (hts _ nw_149) nd_Run_remove_27 ?_
        refine lv_iload_n hx hb nd_Run_remove_30 rfl (lv_at hl 2 rfl) ?_
        obtain ⟨j6, hj6, hf⟩ := Option.bind_eq_some_iff.mp hf
        obtain ⟨k7, hk7, hf⟩ := Option.bind_eq_some_iff.mp hf
        obtain ⟨ek7, hk7⟩ := gn_eq hk7
        refine xal_ptrs hx hb hK hP hj6 ek7 nd_Run_remove_31 ?_
        obtain ⟨j8, hj8, hf⟩ := Option.bind_eq_some_iff.mp hf
        refine xas_ptrs hx hb hK hD hP hS hj8 hk7 nd_Run_remove_32 (fun H locs hP hS => ?_)
        obtain ⟨g9, hg9, hf⟩ := Option.bind_eq_some_iff.mp hf
        rw [Option.some.inj hg9] at hP
        refine lv_iinc (v := (v3 + (1 : Int32))) (lv' := [(3, .int (v3 + (1 : Int32))), (0, .ref (ad 6)), (2, .ref (ad (v2 + 19)))]) hx hb nd_Run_remove_33 hl (k := 2) rfl rfl (by decide) rfl (fun ls hl => ?_)
        refine lv_goto hx hb nd_Run_remove_36 (tgt := 11) rfl ?_
        exact ihL11 _ _ _ g9 hP v2 (v3 + (1 : Int32)) hv2 hS (lv_sub hl [1, 2, 0] rfl) hf
  unfold xf_Run_remove at hf
  refine lv_aload_n hx hb nd_Run_remove_0 rfl (lv_at hl 0 rfl) ?_
  refine xg_Run_pointers hx hb hts hown hK hP (hts _ nw_149) nd_Run_remove_1 ?_
  refine lv_iload_n hx hb nd_Run_remove_4 rfl (lv_at hl 1 rfl) ?_
  obtain ⟨j1, hj1, hf⟩ := Option.bind_eq_some_iff.mp hf
  obtain ⟨k2, hk2, hf⟩ := Option.bind_eq_some_iff.mp hf
  obtain ⟨ek2, hk2⟩ := gn_eq hk2
  refine xal_ptrs hx hb hK hP hj1 ek2 nd_Run_remove_5 ?_
  refine lv_astore_n (lv' := [(2, .ref (ad (k2 + 19))), (0, .ref (ad 6)), (1, .int a1)]) hx hb nd_Run_remove_6 rfl hl (by decide) rfl (fun ls hl => ?_)
  refine lv_iload_n hx hb nd_Run_remove_7 rfl (lv_at hl 2 rfl) ?_
  refine lv_iconst (v := 1) hx hb nd_Run_remove_8 (by decide) ?_
  refine lv_iadd hx hb nd_Run_remove_9 ?_
  refine lv_istore_n (lv' := [(3, .int (a1 + (1 : Int32))), (2, .ref (ad (k2 + 19))), (0, .ref (ad 6)), (1, .int a1)]) hx hb nd_Run_remove_10 rfl hl (by decide) rfl (fun ls hl => ?_)
  exact L11 fuel _ _ _ h hP k2 (a1 + (1 : Int32)) hk2 hS (lv_sub hl [2, 1, 0] rfl) hf
set_option maxHeartbeats 4000000 in
set_option maxRecDepth 100000 in
theorem xc_Run_advance {l : Launch} {D : va_G} {A : Nat → Prop} {cA : Nat → ClassId} {ad : Nat → Nat} (hD : wdD 61 A ad) (fuel : Nat) (h : XH) (q : XH) (hf : xf_Run_advance fuel h = some q) : CT l D vwCl (xtys cA) A ny_Run_advance (wsO ny_Run_advance prog_7_method_7_code 7 none) (rmO 5 126) [.ref (ad 6)] (xW cA ad h) (xW cA ad q) none := by
  refine Met.ofW (cc := prog_7_method_7_code) (maxL := 7) (ret := none) (by decide +kernel) rfl ?_
  intro p e s m args below meth c s₁ B hml hv
  obtain ⟨hav, hP, hK, hN⟩ := hv
  have hx := B.exec
  have hb := B.bytes
  have hr := B.returns
  have hts : ∀ w ∈ lw_wd, w.before args s = true := fun w hw => atoms_spec (ws := (wsO ny_Run_advance prog_7_method_7_code 7 none)) B.pre w (List.mem_cons_of_mem _ hw)
  have hown : s.vm.findClass "DrawnPaths$Run" = some m.cls := findClass_of_methodNamed B.named
  have hlocks := B.notSynchronized
  have hS : va_S A s.heap s.heap [] := va_S.rf
  have hl := lv_entry ([.ref (ad 6)]) (n := 7) (Nat.le_of_ble_eq_true rfl)
  have hE : entryFrame m args 7 = entryFrame m ([.ref (ad 6)] : List Value).toArray 7 := by rw [hav]
  rw [hE, lg_entry_eq]
  generalize (lg_sl ([.ref (ad 6)]) ++ List.replicate (7 - (lg_sl ([.ref (ad 6)])).length) Slot.unset).toArray = ls at hl ⊢
  have hl : lv_has ls 7 [(0, .ref (ad 6))] := hl
  have L9 : ∀ (n : Nat) (H : Heap) (locs : List Loc) (ls : Array Slot) (h : XH) (hP : va_P D vwCl (xW cA ad h) H) (v1 : Int32) (v2 : Int32) (v3 : Int32) (hS : va_S A s.heap H locs) (hl : lv_has ls 7 [(0, .ref (ad 6)), (1, .int v1), (2, .int v2), (3, .int v3)]) (hf : xf_Run_advance_L9 fuel n v1 v2 v3 h = some q), W p l e (headSpec (wsO ny_Run_advance prog_7_method_7_code 7 none) (rmO 5 126)).room s m args below meth c H locs 0 0 (MQ below (RetQ D vwCl (xtys cA) A none (xW cA ad q)) args s 0 0 A) (F0 m 9 ls []) := by
    intro n
    induction n with
    | zero =>
      intro H locs ls h hP v1 v2 v3 hS hl hf
      rw [xf_Run_advance_L9] at hf
      cases hf
    | succ nL9 ihL9 =>
      have J106 : ∀ (H : Heap) (locs : List Loc) (ls : Array Slot) (h : XH) (hP : va_P D vwCl (xW cA ad h) H) (v1 : Int32) (v2 : Int32) (v3 : Int32) (hS : va_S A s.heap H locs) (hl : lv_has ls 7 [(0, .ref (ad 6)), (1, .int v1), (2, .int v2), (3, .int v3)]) (hf : xf_Run_advance_J106 fuel (xf_Run_advance_L9 fuel nL9) v1 v2 v3 h = some q), W p l e (headSpec (wsO ny_Run_advance prog_7_method_7_code 7 none) (rmO 5 126)).room s m args below meth c H locs 0 0 (MQ below (RetQ D vwCl (xtys cA) A none (xW cA ad q)) args s 0 0 A) (F0 m 106 ls []) := by
        intro H locs ls h hP v1 v2 v3 hS hl hf
        unfold xf_Run_advance_J106 at hf
        refine lv_iinc (v := (v3 + (1 : Int32))) (lv' := [(3, .int (v3 + (1 : Int32))), (0, .ref (ad 6)), (1, .int v1), (2, .int v2)]) hx hb nd_Run_advance_106 hl (k := 3) rfl rfl (by decide) rfl (fun ls hl => ?_)
        refine lv_goto hx hb nd_Run_advance_109 (tgt := 9) rfl ?_
        exact ihL9 _ _ _ h hP v1 v2 (v3 + (1 : Int32)) hS (lv_sub hl [1, 2, 3, 0] rfl) hf
      have J72 : ∀ (H : Heap) (locs : List Loc) (ls : Array Slot) (h : XH) (hP : va_P D vwCl (xW cA ad h) H) (v1 : Int32) (v2 : Int32) (v3 : Int32) (w0 : Int32) (hS : va_S A s.heap H locs) (hl : lv_has ls 7 [(0, .ref (ad 6)), (1, .int v1), (2, .int v2), (3, .int v3)]) (hf : xf_Run_advance_J72 fuel (xf_Run_advance_L9 fuel nL9) v1 v2 v3 w0 h = some q), W p l e (headSpec (wsO ny_Run_advance prog_7_method_7_code 7 none) (rmO 5 126)).room s m args below meth c H locs 0 0 (MQ below (RetQ D vwCl (xtys cA) A none (xW cA ad q)) args s 0 0 A) (F0 m 72 ls [.int w0]) := by
        intro H locs ls h hP v1 v2 v3 w0 hS hl hf
        unfold xf_Run_advance_J72 at hf
        refine lv_istore (lv' := [(6, .int w0), (0, .ref (ad 6)), (1, .int v1), (2, .int v2), (3, .int v3)]) hx hb nd_Run_advance_72 hl (by decide) rfl (fun ls hl => ?_)
        refine lv_iload hx hb nd_Run_advance_74 (lv_at hl 0 rfl) ?_
        refine lv_if_ne (tgt := 85) hx hb nd_Run_advance_76 rfl (fun hc => ?_) (fun hc => ?_)
        · replace hf := (if_neg hc).symm.trans hf
          refine lv_iload hx hb nd_Run_advance_85 (lv_at hl 0 rfl) ?_
          refine lv_iconst (v := 1) hx hb nd_Run_advance_87 (by decide) ?_
          refine lv_icmp_ne (tgt := 99) hx hb nd_Run_advance_88 rfl (fun hc => ?_) (fun hc => ?_)
          · replace hf := (if_neg hc).symm.trans hf
            refine lv_aload_n hx hb nd_Run_advance_99 rfl (lv_at hl 1 rfl) ?_
            refine lv_iload hx hb nd_Run_advance_100 (lv_at hl 0 rfl) ?_
            refine xp_Run_stopped hx hb hts hown hK hD hP hS (hts _ nw_163) nd_Run_advance_102 (fun H locs hP hS => ?_)
            obtain ⟨g6, hg6, hf⟩ := Option.bind_eq_some_iff.mp hf
            rw [Option.some.inj hg6] at hP
            obtain rfl := (Option.some.inj hf)
            exact W.vret hx hb hr (fun t ht hW => ⟨rfl, by rw [ht]; exact hP, va_K.moved hW.alike hK, hS.F ht⟩) hS.2.2 nd_Run_advance_105
          · replace hf := (if_pos hc).symm.trans hf
            refine lv_aload_n hx hb nd_Run_advance_91 rfl (lv_at hl 1 rfl) ?_
            refine lv_iload_n hx hb nd_Run_advance_92 rfl (lv_at hl 3 rfl) ?_
            obtain ⟨q7, hq7, hf⟩ := Option.bind_eq_some_iff.mp hf
            refine kc_V (As := [.int v2]) (rest := []) (st1 := []) ⟨hx, hb, hml, hown, hts⟩ (xc_Run_remove hD fuel v2 h _ hq7) (kb_Run_remove hts (hts _ nw_615) ⟨Nat.le_of_ble_eq_true rfl, Nat.le_of_ble_eq_true rfl⟩) (xr_Run hK hP) hK hN hP hS rfl hl.1 rfl rfl (Nat.le_of_ble_eq_true rfl) ⟨Nat.zero_le _, Nat.zero_le _⟩ nd_Run_advance_93 (fun H locs hP hS => ?_)
            refine lv_goto hx hb nd_Run_advance_96 (tgt := 106) rfl ?_
            exact J106 _ _ _ q7 hP v1 v2 v3 hS (lv_sub hl [1, 2, 3, 4] rfl) hf
        · replace hf := (if_pos hc).symm.trans hf
          refine lv_iinc (v := (v2 + (1 : Int32))) (lv' := [(2, .int (v2 + (1 : Int32))), (6, .int w0), (0, .ref (ad 6)), (1, .int v1), (3, .int v3)]) hx hb nd_Run_advance_79 hl (k := 3) rfl rfl (by decide) rfl (fun ls hl => ?_)
          refine lv_goto hx hb nd_Run_advance_82 (tgt := 106) rfl ?_
          exact J106 _ _ _ h hP v1 (v2 + (1 : Int32)) v3 hS (lv_sub hl [2, 3, 0, 4] rfl) hf
      intro H locs ls h hP v1 v2 v3 hS hl hf
      rw [xf_Run_advance_L9] at hf
      refine lv_iload_n hx hb nd_Run_advance_9 rfl (lv_at hl 3 rfl) ?_
      refine lv_iload_n hx hb nd_Run_advance_10 rfl (lv_at hl 1 rfl) ?_
      refine lv_icmp_ge (tgt := 112) hx hb nd_Run_advance_11 rfl (fun hc => ?_) (fun hc => ?_)
      · replace hf := (if_pos hc).symm.trans hf
        refine lv_aload_n hx hb nd_Run_advance_112 rfl (lv_at hl 0 rfl) ?_
        refine lv_dup hx hb nd_Run_advance_113 rfl ?_
        refine xg_Run_steps hx hb hts hown hK hP (hts _ nw_161) nd_Run_advance_114 ?_
        refine lv_iconst (v := 1) hx hb nd_Run_advance_117 (by decide) ?_
        refine lv_iadd hx hb nd_Run_advance_118 ?_
        refine xp_Run_steps hx hb hts hown hK hD hP hS (hts _ nw_161) nd_Run_advance_119 (fun H locs hP hS => ?_)
        obtain ⟨g1, hg1, hf⟩ := Option.bind_eq_some_iff.mp hf
        rw [Option.some.inj hg1] at hP
        obtain rfl := (Option.some.inj hf)
        exact W.vret hx hb hr (fun t ht hW => ⟨rfl, by rw [ht]; exact hP, va_K.moved hW.alike hK, hS.F ht⟩) hS.2.2 nd_Run_advance_122
      · replace hf := (if_neg hc).symm.trans hf
        refine lv_aload_n hx hb nd_Run_advance_14 rfl (lv_at hl 0 rfl) ?_
        refine xg_Run_pointers hx hb hts hown hK hP (hts _ nw_149) nd_Run_advance_15 ?_
        refine lv_iload_n hx hb nd_Run_advance_18 rfl (lv_at hl 2 rfl) ?_
        obtain ⟨j2, hj2, hf⟩ := Option.bind_eq_some_iff.mp hf
        obtain ⟨k3, hk3, hf⟩ := Option.bind_eq_some_iff.mp hf
        obtain ⟨ek3, hk3⟩ := gn_eq hk3
        refine xal_ptrs hx hb hK hP hj2 ek3 nd_Run_advance_19 ?_
        refine lv_astore (lv' := [(4, .ref (ad (k3 + 19))), (0, .ref (ad 6)), (1, .int v1), (2, .int v2), (3, .int v3)]) hx hb nd_Run_advance_20 hl (by decide) rfl (fun ls hl => ?_)
        refine lv_aload_n hx hb nd_Run_advance_22 rfl (lv_at hl 1 rfl) ?_
        refine xg_Run_field hx hb hts hown hK hP (hts _ nw_148) nd_Run_advance_23 ?_
        refine xg_Field_signs hx hb hts hown hK hP (hts _ nw_88) nd_Run_advance_26 ?_
        refine lv_aload hx hb nd_Run_advance_29 (lv_at hl 0 rfl) ?_
        refine xg_Ptr_way hx hb hts hown hK hP hk3 (hts _ nw_129) nd_Run_advance_31 ?_
        refine kc_S (As := [.int (xh_pway h k3)]) (rest := [.ref (ad 5)]) (st1 := [.int (xf_Way_place (xh_pway h k3)), .ref (ad 5)]) ⟨hx, hb, hml, hown, hts⟩ (xc_Way_place hD (xh_pway h k3) h _ rfl) (kb_Way_place hts (hts _ nw_517) ⟨Nat.le_of_ble_eq_true rfl, Nat.le_of_ble_eq_true rfl⟩) hK hN hP hS rfl hl.1 rfl rfl (Nat.le_of_ble_eq_true rfl) ⟨Nat.zero_le _, Nat.zero_le _⟩ nd_Run_advance_34 (fun H locs hP hS => ?_)
        obtain ⟨j4, hj4, hf⟩ := Option.bind_eq_some_iff.mp hf
        refine xal_signs hx hb hK hP hj4 nd_Run_advance_37 ?_
        refine lv_istore (lv' := [(5, .int (xh_signs h j4)), (4, .ref (ad (k3 + 19))), (0, .ref (ad 6)), (1, .int v1), (2, .int v2), (3, .int v3)]) hx hb nd_Run_advance_38 hl (by decide) rfl (fun ls hl => ?_)
        refine lv_aload hx hb nd_Run_advance_40 (lv_at hl 1 rfl) ?_
        refine xg_Ptr_way hx hb hts hown hK hP hk3 (hts _ nw_129) nd_Run_advance_42 ?_
        refine lv_iload hx hb nd_Run_advance_45 (lv_at hl 0 rfl) ?_
        refine kc_SN (As := [.int (xh_pway h k3), .int (xh_signs h j4)]) (rest := []) (st1 := [.int (xf_P_isAct (xh_pway h k3) (xh_signs h j4))]) ⟨hx, hb, hml, hown, hts⟩ (xc_P_isAct hD (xh_pway h k3) (xh_signs h j4) h _ rfl) (kb_P_isActN hts (hN.1 _ nw_518) ⟨Nat.le_of_ble_eq_true rfl, Nat.le_of_ble_eq_true rfl⟩) hK hN hP hS rfl hl.1 rfl rfl (Nat.le_of_ble_eq_true rfl) ⟨Nat.zero_le _, Nat.zero_le _⟩ nd_Run_advance_47 (fun H locs hP hS => ?_)
        refine lv_if_eq (tgt := 64) hx hb nd_Run_advance_50 rfl (fun hc => ?_) (fun hc => ?_)
        · replace hf := (if_pos hc).symm.trans hf
          refine lv_aload_n hx hb nd_Run_advance_64 rfl (lv_at hl 2 rfl) ?_
          refine lv_aload hx hb nd_Run_advance_65 (lv_at hl 1 rfl) ?_
          refine lv_iload hx hb nd_Run_advance_67 (lv_at hl 0 rfl) ?_
          obtain ⟨q5, hq5, hf⟩ := Option.bind_eq_some_iff.mp hf
          refine kc_V (As := [.ref (ad (k3 + 19)), .int (xh_signs h j4)]) (rest := []) (st1 := [.int q5.1]) ⟨hx, hb, hml, hown, hts⟩ (xc_Run_pass hD k3 (xh_signs h j4) h _ hk3 hq5) (kb_Run_pass hts (hts _ nw_599) ⟨Nat.le_of_ble_eq_true rfl, Nat.le_of_ble_eq_true rfl⟩) (xr_Run hK hP) hK hN hP hS rfl hl.1 rfl rfl (Nat.le_of_ble_eq_true rfl) ⟨Nat.zero_le _, Nat.zero_le _⟩ nd_Run_advance_69 (fun H locs hP hS => ?_)
          exact J72 _ _ _ q5.2 hP v1 v2 v3 q5.1 hS (lv_sub hl [2, 3, 4, 5] rfl) hf
        · replace hf := (if_neg hc).symm.trans hf
          refine lv_aload_n hx hb nd_Run_advance_53 rfl (lv_at hl 2 rfl) ?_
          refine lv_aload hx hb nd_Run_advance_54 (lv_at hl 1 rfl) ?_
          refine lv_iload hx hb nd_Run_advance_56 (lv_at hl 0 rfl) ?_
          obtain ⟨q8, hq8, hf⟩ := Option.bind_eq_some_iff.mp hf
          refine kc_V (As := [.ref (ad (k3 + 19)), .int (xh_signs h j4)]) (rest := []) (st1 := [.int q8.1]) ⟨hx, hb, hml, hown, hts⟩ (xc_Run_act hD fuel k3 (xh_signs h j4) h _ hk3 hq8) (kb_Run_act hts (hts _ nw_519) ⟨Nat.le_of_ble_eq_true rfl, Nat.le_of_ble_eq_true rfl⟩) (xr_Run hK hP) hK hN hP hS rfl hl.1 rfl rfl (Nat.le_of_ble_eq_true rfl) ⟨Nat.zero_le _, Nat.zero_le _⟩ nd_Run_advance_58 (fun H locs hP hS => ?_)
          refine lv_goto hx hb nd_Run_advance_61 (tgt := 72) rfl ?_
          exact J72 _ _ _ q8.2 hP v1 v2 v3 q8.1 hS (lv_sub hl [2, 3, 4, 5] rfl) hf
  unfold xf_Run_advance at hf
  refine lv_aload_n hx hb nd_Run_advance_0 rfl (lv_at hl 0 rfl) ?_
  refine xg_Run_living hx hb hts hown hK hP (hts _ nw_155) nd_Run_advance_1 ?_
  refine lv_istore_n (lv' := [(1, .int (xh_living h)), (0, .ref (ad 6))]) hx hb nd_Run_advance_4 rfl hl (by decide) rfl (fun ls hl => ?_)
  refine lv_iconst (v := 0) hx hb nd_Run_advance_5 (by decide) ?_
  refine lv_istore_n (lv' := [(2, .int (0 : Int32)), (1, .int (xh_living h)), (0, .ref (ad 6))]) hx hb nd_Run_advance_6 rfl hl (by decide) rfl (fun ls hl => ?_)
  refine lv_iconst (v := 0) hx hb nd_Run_advance_7 (by decide) ?_
  refine lv_istore_n (lv' := [(3, .int (0 : Int32)), (2, .int (0 : Int32)), (1, .int (xh_living h)), (0, .ref (ad 6))]) hx hb nd_Run_advance_8 rfl hl (by decide) rfl (fun ls hl => ?_)
  exact L9 fuel _ _ _ h hP (xh_living h) (0 : Int32) (0 : Int32) hS (lv_sub hl [3, 2, 1, 0] rfl) hf
set_option maxHeartbeats 4000000 in
set_option maxRecDepth 100000 in
theorem xc_P_step {l : Launch} {D : va_G} {A : Nat → Prop} {cA : Nat → ClassId} {ad : Nat → Nat} (hD : wdD 61 A ad) (fuel : Nat) (a1 : Int32) (h : XH) (q : Int32 × XH) (hf : xf_P_step fuel a1 h = some (Sum.inr q)) : CT l D vwCl (xtys cA) A ny_P_step (wsO ny_P_step prog_1_method_9_code 3 (some .int)) (rmO 7 152) [.ref (ad 0), .int a1] (xW cA ad h) (xW cA ad q.2) (some (.int q.1)) := by
  refine Met.ofW (cc := prog_1_method_9_code) (maxL := 3) (ret := (some .int)) (by decide +kernel) rfl ?_
  intro p e s m args below meth c s₁ B hml hv
  obtain ⟨hav, hP, hK, hN⟩ := hv
  have hx := B.exec
  have hb := B.bytes
  have hr := B.returns
  have hts : ∀ w ∈ lw_wd, w.before args s = true := fun w hw => atoms_spec (ws := (wsO ny_P_step prog_1_method_9_code 3 (some .int))) B.pre w (List.mem_cons_of_mem _ hw)
  have hown : s.vm.findClass "DrawnPaths" = some m.cls := findClass_of_methodNamed B.named
  have hlocks := B.notSynchronized
  have hS : va_S A s.heap s.heap [] := va_S.rf
  have hl := lv_entry ([.ref (ad 0), .int a1]) (n := 3) (Nat.le_of_ble_eq_true rfl)
  have hE : entryFrame m args 3 = entryFrame m ([.ref (ad 0), .int a1] : List Value).toArray 3 := by rw [hav]
  rw [hE, lg_entry_eq]
  generalize (lg_sl ([.ref (ad 0), .int a1]) ++ List.replicate (3 - (lg_sl ([.ref (ad 0), .int a1])).length) Slot.unset).toArray = ls at hl ⊢
  have hl : lv_has ls 3 [(0, .ref (ad 0)), (1, .int a1)] := hl
  have L6 : ∀ (n : Nat) (H : Heap) (locs : List Loc) (ls : Array Slot) (h : XH) (hP : va_P D vwCl (xW cA ad h) H) (v1 : Int32) (v2 : Int32) (hS : va_S A s.heap H locs) (hl : lv_has ls 3 [(0, .ref (ad 0)), (1, .int v1), (2, .int v2)]) (hf : xf_P_step_L6 fuel n v1 v2 h = some q), W p l e (headSpec (wsO ny_P_step prog_1_method_9_code 3 (some .int)) (rmO 7 152)).room s m args below meth c H locs 0 0 (MQ below (RetQ D vwCl (xtys cA) A (some (.int q.1)) (xW cA ad q.2)) args s 0 0 A) (F0 m 6 ls []) := by
    intro n
    induction n with
    | zero =>
      intro H locs ls h hP v1 v2 hS hl hf
      rw [xf_P_step_L6] at hf
      cases hf
    | succ nL6 ihL6 =>
      intro H locs ls h hP v1 v2 hS hl hf
      rw [xf_P_step_L6] at hf
      refine lv_iload_n hx hb nd_P_step_6 rfl (lv_at hl 2 rfl) ?_
      refine lv_iload_n hx hb nd_P_step_7 rfl (lv_at hl 1 rfl) ?_
      refine lv_icmp_ge (tgt := 34) hx hb nd_P_step_8 rfl (fun hc => ?_) (fun hc => ?_)
      · replace hf := (if_pos hc).symm.trans hf
        refine lv_aload_n hx hb nd_P_step_34 rfl (lv_at hl 0 rfl) ?_
        refine xg_P_run hx hb hts hown hK hP (hts _ nw_205) nd_P_step_35 ?_
        refine kc_V (As := []) (rest := []) (st1 := [.int (xf_Run_state h)]) ⟨hx, hb, hml, hown, hts⟩ (xc_Run_state hD h _ rfl) (kb_Run_state hts (hts _ nw_273) ⟨Nat.le_of_ble_eq_true rfl, Nat.le_of_ble_eq_true rfl⟩) (xr_Run hK hP) hK hN hP hS rfl hl.1 rfl rfl (Nat.le_of_ble_eq_true rfl) ⟨Nat.zero_le _, Nat.zero_le _⟩ nd_P_step_38 (fun H locs hP hS => ?_)
        obtain rfl := (Option.some.inj hf)
        exact W.iret hx hb hr (fun t ht hW => ⟨rfl, by rw [ht]; exact hP, va_K.moved hW.alike hK, hS.F ht⟩) hS.2.2 nd_P_step_41
      · replace hf := (if_neg hc).symm.trans hf
        refine lv_aload_n hx hb nd_P_step_11 rfl (lv_at hl 0 rfl) ?_
        refine xg_P_run hx hb hts hown hK hP (hts _ nw_205) nd_P_step_12 ?_
        refine kc_V (As := []) (rest := []) (st1 := [.int (xf_Run_state h)]) ⟨hx, hb, hml, hown, hts⟩ (xc_Run_state hD h _ rfl) (kb_Run_state hts (hts _ nw_273) ⟨Nat.le_of_ble_eq_true rfl, Nat.le_of_ble_eq_true rfl⟩) (xr_Run hK hP) hK hN hP hS rfl hl.1 rfl rfl (Nat.le_of_ble_eq_true rfl) ⟨Nat.zero_le _, Nat.zero_le _⟩ nd_P_step_15 (fun H locs hP hS => ?_)
        refine lv_if_ne (tgt := 34) hx hb nd_P_step_18 rfl (fun hc => ?_) (fun hc => ?_)
        · replace hf := (if_neg hc).symm.trans hf
          refine lv_aload_n hx hb nd_P_step_34 rfl (lv_at hl 0 rfl) ?_
          refine xg_P_run hx hb hts hown hK hP (hts _ nw_205) nd_P_step_35 ?_
          refine kc_V (As := []) (rest := []) (st1 := [.int (xf_Run_state h)]) ⟨hx, hb, hml, hown, hts⟩ (xc_Run_state hD h _ rfl) (kb_Run_state hts (hts _ nw_273) ⟨Nat.le_of_ble_eq_true rfl, Nat.le_of_ble_eq_true rfl⟩) (xr_Run hK hP) hK hN hP hS rfl hl.1 rfl rfl (Nat.le_of_ble_eq_true rfl) ⟨Nat.zero_le _, Nat.zero_le _⟩ nd_P_step_38 (fun H locs hP hS => ?_)
          obtain rfl := (Option.some.inj hf)
          exact W.iret hx hb hr (fun t ht hW => ⟨rfl, by rw [ht]; exact hP, va_K.moved hW.alike hK, hS.F ht⟩) hS.2.2 nd_P_step_41
        · replace hf := (if_pos hc).symm.trans hf
          refine lv_aload_n hx hb nd_P_step_21 rfl (lv_at hl 0 rfl) ?_
          refine xg_P_run hx hb hts hown hK hP (hts _ nw_205) nd_P_step_22 ?_
          obtain ⟨q2, hq2, hf⟩ := Option.bind_eq_some_iff.mp hf
          refine kc_V (As := []) (rest := []) (st1 := []) ⟨hx, hb, hml, hown, hts⟩ (xc_Run_advance hD fuel h _ hq2) (kb_Run_advance hts (hts _ nw_513) ⟨Nat.le_of_ble_eq_true rfl, Nat.le_of_ble_eq_true rfl⟩) (xr_Run hK hP) hK hN hP hS rfl hl.1 rfl rfl (Nat.le_of_ble_eq_true rfl) ⟨Nat.zero_le _, Nat.zero_le _⟩ nd_P_step_25 (fun H locs hP hS => ?_)
          refine lv_iinc (v := (v2 + (1 : Int32))) (lv' := [(2, .int (v2 + (1 : Int32))), (0, .ref (ad 0)), (1, .int v1)]) hx hb nd_P_step_28 hl (k := 2) rfl rfl (by decide) rfl (fun ls hl => ?_)
          refine lv_goto hx hb nd_P_step_31 (tgt := 6) rfl ?_
          exact ihL6 _ _ _ q2 hP v1 (v2 + (1 : Int32)) hS (lv_sub hl [1, 2, 0] rfl) hf
  unfold xf_P_step at hf
  refine lv_iload_n hx hb nd_P_step_0 rfl (lv_at hl 1 rfl) ?_
  obtain ⟨q1, hq1, hf⟩ := sbd_inr hf
  refine kc_S (As := [.int a1]) (rest := []) (st1 := []) ⟨hx, hb, hml, hown, hts⟩ (xc_P_checkSteps hD a1 h _ hq1) (kb_P_checkSteps hts (hts _ nw_509) ⟨Nat.le_of_ble_eq_true rfl, Nat.le_of_ble_eq_true rfl⟩) hK hN hP hS rfl hl.1 rfl rfl (Nat.le_of_ble_eq_true rfl) ⟨Nat.zero_le _, Nat.zero_le _⟩ nd_P_step_1 (fun H locs hP hS => ?_)
  replace hf := map_inr hf
  refine lv_iconst (v := 0) hx hb nd_P_step_4 (by decide) ?_
  refine lv_istore_n (lv' := [(2, .int (0 : Int32)), (0, .ref (ad 0)), (1, .int a1)]) hx hb nd_P_step_5 rfl hl (by decide) rfl (fun ls hl => ?_)
  exact L6 fuel _ _ _ h hP a1 (0 : Int32) hS (lv_sub hl [1, 2, 0] rfl) hf
end
section
set_option maxHeartbeats 4000000 in
set_option maxRecDepth 100000 in
theorem xc_Blocks_find {l : Launch} {D : va_G} {A : Nat → Prop} {cA : Nat → ClassId} {ad : Nat → Nat} (hD : wdD 61 A ad) (fuel : Nat) (a1 : Int32) (h : XH) (q : Option Nat) (hf : xf_Blocks_find fuel a1 h = some q) : CT l D vwCl (xtys cA) A ny_Blocks_find (wsO ny_Blocks_find prog_3_method_2_code 3 (some (.object "DrawnPaths$Block"))) (rmO 0 0) [.ref (ad 1), .int a1] (xW cA ad h) (xW cA ad h) (some (orf ad 31 q)) := by
  refine Met.ofW (cc := prog_3_method_2_code) (maxL := 3) (ret := (some (.object "DrawnPaths$Block"))) (by decide +kernel) rfl ?_
  intro p e s m args below meth c s₁ B hml hv
  obtain ⟨hav, hP, hK, hN⟩ := hv
  have hx := B.exec
  have hb := B.bytes
  have hr := B.returns
  have hts : ∀ w ∈ lw_wd, w.before args s = true := fun w hw => atoms_spec (ws := (wsO ny_Blocks_find prog_3_method_2_code 3 (some (.object "DrawnPaths$Block")))) B.pre w (List.mem_cons_of_mem _ hw)
  have hown : s.vm.findClass "DrawnPaths$Blocks" = some m.cls := findClass_of_methodNamed B.named
  have hlocks := B.notSynchronized
  have hS : va_S A s.heap s.heap [] := va_S.rf
  have hl := lv_entry ([.ref (ad 1), .int a1]) (n := 3) (Nat.le_of_ble_eq_true rfl)
  have hE : entryFrame m args 3 = entryFrame m ([.ref (ad 1), .int a1] : List Value).toArray 3 := by rw [hav]
  rw [hE, lg_entry_eq]
  generalize (lg_sl ([.ref (ad 1), .int a1]) ++ List.replicate (3 - (lg_sl ([.ref (ad 1), .int a1])).length) Slot.unset).toArray = ls at hl ⊢
  have hl : lv_has ls 3 [(0, .ref (ad 1)), (1, .int a1)] := hl
  have L2 : ∀ (n : Nat) (H : Heap) (locs : List Loc) (ls : Array Slot) (h : XH) (hP : va_P D vwCl (xW cA ad h) H) (v1 : Int32) (v2 : Int32) (hS : va_S A s.heap H locs) (hl : lv_has ls 3 [(0, .ref (ad 1)), (1, .int v1), (2, .int v2)]) (hf : xf_Blocks_find_L2 fuel n v1 v2 h = some q), W p l e (headSpec (wsO ny_Blocks_find prog_3_method_2_code 3 (some (.object "DrawnPaths$Block"))) (rmO 0 0)).room s m args below meth c H locs 0 0 (MQ below (RetQ D vwCl (xtys cA) A (some (orf ad 31 q)) (xW cA ad h)) args s 0 0 A) (F0 m 2 ls []) := by
    intro n
    induction n with
    | zero =>
      intro H locs ls h hP v1 v2 hS hl hf
      rw [xf_Blocks_find_L2] at hf
      cases hf
    | succ nL2 ihL2 =>
      intro H locs ls h hP v1 v2 hS hl hf
      rw [xf_Blocks_find_L2] at hf
      refine lv_iload_n hx hb nd_Blocks_find_2 rfl (lv_at hl 2 rfl) ?_
      refine lv_aload_n hx hb nd_Blocks_find_3 rfl (lv_at hl 0 rfl) ?_
      refine xg_Blocks_held hx hb hts hown hK hP (hts _ nw_63) nd_Blocks_find_4 ?_
      refine lv_icmp_ge (tgt := 36) hx hb nd_Blocks_find_7 rfl (fun hc => ?_) (fun hc => ?_)
      · replace hf := (if_pos hc).symm.trans hf
        refine lv_null hx hb nd_Blocks_find_36 ?_
        obtain rfl := (Option.some.inj hf)
        exact W.aret hx hb hr (Or.inl ⟨_, rfl⟩) (Or.inl rfl) (fun t ht hW => ⟨rfl, by rw [ht]; exact hP, va_K.moved hW.alike hK, hS.F ht⟩) hS.2.2 nd_Blocks_find_37
      · replace hf := (if_neg hc).symm.trans hf
        refine lv_aload_n hx hb nd_Blocks_find_10 rfl (lv_at hl 0 rfl) ?_
        refine xg_Blocks_row hx hb hts hown hK hP (hts _ nw_61) nd_Blocks_find_11 ?_
        refine lv_iload_n hx hb nd_Blocks_find_14 rfl (lv_at hl 2 rfl) ?_
        obtain ⟨j1, hj1, hf⟩ := Option.bind_eq_some_iff.mp hf
        obtain ⟨k2, hk2, hf⟩ := Option.bind_eq_some_iff.mp hf
        obtain ⟨ek2, hk2⟩ := gn_eq hk2
        refine xal_row hx hb hK hP hj1 ek2 nd_Blocks_find_15 ?_
        refine xg_Block_begin hx hb hts hown hK hP hk2 (hts _ nw_40) nd_Blocks_find_16 ?_
        refine lv_iload_n hx hb nd_Blocks_find_19 rfl (lv_at hl 1 rfl) ?_
        refine lv_icmp_ne (tgt := 30) hx hb nd_Blocks_find_20 rfl (fun hc => ?_) (fun hc => ?_)
        · replace hf := (if_neg hc).symm.trans hf
          refine lv_iinc (v := (v2 + (1 : Int32))) (lv' := [(2, .int (v2 + (1 : Int32))), (0, .ref (ad 1)), (1, .int v1)]) hx hb nd_Blocks_find_30 hl (k := 2) rfl rfl (by decide) rfl (fun ls hl => ?_)
          refine lv_goto hx hb nd_Blocks_find_33 (tgt := 2) rfl ?_
          exact ihL2 _ _ _ h hP v1 (v2 + (1 : Int32)) hS (lv_sub hl [1, 2, 0] rfl) hf
        · replace hf := (if_pos hc).symm.trans hf
          refine lv_aload_n hx hb nd_Blocks_find_23 rfl (lv_at hl 0 rfl) ?_
          refine xg_Blocks_row hx hb hts hown hK hP (hts _ nw_61) nd_Blocks_find_24 ?_
          refine lv_iload_n hx hb nd_Blocks_find_27 rfl (lv_at hl 2 rfl) ?_
          obtain ⟨j3, hj3, hf⟩ := Option.bind_eq_some_iff.mp hf
          obtain ⟨k4, hk4, hf⟩ := Option.bind_eq_some_iff.mp hf
          obtain ⟨ek4, hk4⟩ := gn_eq hk4
          refine xal_row hx hb hK hP hj3 ek4 nd_Blocks_find_28 ?_
          obtain rfl := (Option.some.inj hf)
          exact W.aret hx hb hr (Or.inl ⟨_, rfl⟩) (Or.inr ⟨_, rfl⟩) (fun t ht hW => ⟨rfl, by rw [ht]; exact hP, va_K.moved hW.alike hK, hS.F ht⟩) hS.2.2 nd_Blocks_find_29
  unfold xf_Blocks_find at hf
  refine lv_iconst (v := 0) hx hb nd_Blocks_find_0 (by decide) ?_
  refine lv_istore_n (lv' := [(2, .int (0 : Int32)), (0, .ref (ad 1)), (1, .int a1)]) hx hb nd_Blocks_find_1 rfl hl (by decide) rfl (fun ls hl => ?_)
  exact L2 fuel _ _ _ h hP a1 (0 : Int32) hS (lv_sub hl [1, 2, 0] rfl) hf
set_option maxHeartbeats 4000000 in
set_option maxRecDepth 100000 in
theorem xc_Block_addPlace {l : Launch} {D : va_G} {A : Nat → Prop} {cA : Nat → ClassId} {ad : Nat → Nat} (hD : wdD 61 A ad) (k0 : Nat) (a1 : Int32) (h : XH) (q : XH) (hk0 : k0 < 30) (hf : xf_Block_addPlace k0 a1 h = q) : CT l D vwCl (xtys cA) A ny_Block_addPlace (wsO ny_Block_addPlace prog_2_method_3_code 2 none) (rmO 0 0) [.ref (ad (k0 + 31)), .int a1] (xW cA ad h) (xW cA ad q) none := by
  refine Met.ofW (cc := prog_2_method_3_code) (maxL := 2) (ret := none) (by decide +kernel) rfl ?_
  intro p e s m args below meth c s₁ B hml hv
  obtain ⟨hav, hP, hK, hN⟩ := hv
  have hx := B.exec
  have hb := B.bytes
  have hr := B.returns
  have hts : ∀ w ∈ lw_wd, w.before args s = true := fun w hw => atoms_spec (ws := (wsO ny_Block_addPlace prog_2_method_3_code 2 none)) B.pre w (List.mem_cons_of_mem _ hw)
  have hown : s.vm.findClass "DrawnPaths$Block" = some m.cls := findClass_of_methodNamed B.named
  have hlocks := B.notSynchronized
  have hS : va_S A s.heap s.heap [] := va_S.rf
  have hl := lv_entry ([.ref (ad (k0 + 31)), .int a1]) (n := 2) (Nat.le_of_ble_eq_true rfl)
  have hE : entryFrame m args 2 = entryFrame m ([.ref (ad (k0 + 31)), .int a1] : List Value).toArray 2 := by rw [hav]
  rw [hE, lg_entry_eq]
  generalize (lg_sl ([.ref (ad (k0 + 31)), .int a1]) ++ List.replicate (2 - (lg_sl ([.ref (ad (k0 + 31)), .int a1])).length) Slot.unset).toArray = ls at hl ⊢
  have hl : lv_has ls 2 [(0, .ref (ad (k0 + 31))), (1, .int a1)] := hl
  unfold xf_Block_addPlace at hf
  refine lv_iload_n hx hb nd_Block_addPlace_0 rfl (lv_at hl 1 rfl) ?_
  refine lv_bipush (v := 64) hx hb nd_Block_addPlace_1 (by decide) ?_
  refine lv_icmp_ge (tgt := 21) hx hb nd_Block_addPlace_3 rfl (fun hc => ?_) (fun hc => ?_)
  · replace hf := (if_pos hc).symm.trans hf
    refine lv_aload_n hx hb nd_Block_addPlace_21 rfl (lv_at hl 0 rfl) ?_
    refine lv_dup hx hb nd_Block_addPlace_22 rfl ?_
    refine xg_Block_highPlaces hx hb hts hown hK hP hk0 (hts _ nw_48) nd_Block_addPlace_23 ?_
    refine lv_lconst (v := 1) hx hb nd_Block_addPlace_26 (by decide) ?_
    refine lv_iload_n hx hb nd_Block_addPlace_27 rfl (lv_at hl 1 rfl) ?_
    refine lv_bipush (v := 64) hx hb nd_Block_addPlace_28 (by decide) ?_
    refine lv_isub hx hb nd_Block_addPlace_30 ?_
    refine lv_lshl hx hb nd_Block_addPlace_31 rfl ?_
    refine lv_lor hx hb nd_Block_addPlace_32 ?_
    refine xp_Block_highPlaces hx hb hts hown hK hD hP hS hk0 (hts _ nw_48) nd_Block_addPlace_33 (fun H locs hP hS => ?_)
    obtain rfl := hf
    exact W.vret hx hb hr (fun t ht hW => ⟨rfl, by rw [ht]; exact hP, va_K.moved hW.alike hK, hS.F ht⟩) hS.2.2 nd_Block_addPlace_36
  · replace hf := (if_neg hc).symm.trans hf
    refine lv_aload_n hx hb nd_Block_addPlace_6 rfl (lv_at hl 0 rfl) ?_
    refine lv_dup hx hb nd_Block_addPlace_7 rfl ?_
    refine xg_Block_lowPlaces hx hb hts hown hK hP hk0 (hts _ nw_47) nd_Block_addPlace_8 ?_
    refine lv_lconst (v := 1) hx hb nd_Block_addPlace_11 (by decide) ?_
    refine lv_iload_n hx hb nd_Block_addPlace_12 rfl (lv_at hl 1 rfl) ?_
    refine lv_lshl hx hb nd_Block_addPlace_13 rfl ?_
    refine lv_lor hx hb nd_Block_addPlace_14 ?_
    refine xp_Block_lowPlaces hx hb hts hown hK hD hP hS hk0 (hts _ nw_47) nd_Block_addPlace_15 (fun H locs hP hS => ?_)
    refine lv_goto hx hb nd_Block_addPlace_18 (tgt := 36) rfl ?_
    obtain rfl := hf
    exact W.vret hx hb hr (fun t ht hW => ⟨rfl, by rw [ht]; exact hP, va_K.moved hW.alike hK, hS.F ht⟩) hS.2.2 nd_Block_addPlace_36
set_option maxHeartbeats 4000000 in
set_option maxRecDepth 100000 in
theorem xc_Block_trace {l : Launch} {D : va_G} {A : Nat → Prop} {cA : Nat → ClassId} {ad : Nat → Nat} (hD : wdD 61 A ad) (fuel : Nat) (k0 : Nat) (a1 : Int32) (h : XH) (q : XH) (hk0 : k0 < 30) (hf : xf_Block_trace fuel k0 a1 h = some q) : CT l D vwCl (xtys cA) A ny_Block_trace (wsO ny_Block_trace prog_2_method_4_code 8 none) (rmO 3 63) [.ref (ad (k0 + 31)), .int a1, .ref (ad 5), .ref (ad 3)] (xW cA ad h) (xW cA ad q) none := by
  refine Met.ofW (cc := prog_2_method_4_code) (maxL := 8) (ret := none) (by decide +kernel) rfl ?_
  intro p e s m args below meth c s₁ B hml hv
  obtain ⟨hav, hP, hK, hN⟩ := hv
  have hx := B.exec
  have hb := B.bytes
  have hr := B.returns
  have hts : ∀ w ∈ lw_wd, w.before args s = true := fun w hw => atoms_spec (ws := (wsO ny_Block_trace prog_2_method_4_code 8 none)) B.pre w (List.mem_cons_of_mem _ hw)
  have hown : s.vm.findClass "DrawnPaths$Block" = some m.cls := findClass_of_methodNamed B.named
  have hlocks := B.notSynchronized
  have hS : va_S A s.heap s.heap [] := va_S.rf
  have hl := lv_entry ([.ref (ad (k0 + 31)), .int a1, .ref (ad 5), .ref (ad 3)]) (n := 8) (Nat.le_of_ble_eq_true rfl)
  have hE : entryFrame m args 8 = entryFrame m ([.ref (ad (k0 + 31)), .int a1, .ref (ad 5), .ref (ad 3)] : List Value).toArray 8 := by rw [hav]
  rw [hE, lg_entry_eq]
  generalize (lg_sl ([.ref (ad (k0 + 31)), .int a1, .ref (ad 5), .ref (ad 3)]) ++ List.replicate (8 - (lg_sl ([.ref (ad (k0 + 31)), .int a1, .ref (ad 5), .ref (ad 3)])).length) Slot.unset).toArray = ls at hl ⊢
  have hl : lv_has ls 8 [(0, .ref (ad (k0 + 31))), (1, .int a1), (2, .ref (ad 5)), (3, .ref (ad 3))] := hl
  have L21 : ∀ (n : Nat) (H : Heap) (locs : List Loc) (ls : Array Slot) (h : XH) (hP : va_P D vwCl (xW cA ad h) H) (v0 : Nat) (v4 : Int32) (v5 : Int32) (hv0 : v0 < 30) (hS : va_S A s.heap H locs) (hl : lv_has ls 8 [(0, .ref (ad (v0 + 31))), (2, .ref (ad 5)), (3, .ref (ad 3)), (4, .int v4), (5, .int v5)]) (hf : xf_Block_trace_L21 fuel n v0 v4 v5 h = some q), W p l e (headSpec (wsO ny_Block_trace prog_2_method_4_code 8 none) (rmO 3 63)).room s m args below meth c H locs 0 0 (MQ below (RetQ D vwCl (xtys cA) A none (xW cA ad q)) args s 0 0 A) (F0 m 21 ls []) := by
    intro n
    induction n with
    | zero =>
      intro H locs ls h hP v0 v4 v5 hv0 hS hl hf
      rw [xf_Block_trace_L21] at hf
      cases hf
    | succ nL21 ihL21 =>
      intro H locs ls h hP v0 v4 v5 hv0 hS hl hf
      rw [xf_Block_trace_L21] at hf
      refine lv_iload hx hb nd_Block_trace_21 (lv_at hl 4 rfl) ?_
      refine lv_bipush (v := 32) hx hb nd_Block_trace_23 (by decide) ?_
      refine lv_icmp_ge (tgt := 101) hx hb nd_Block_trace_25 rfl (fun hc => ?_) (fun hc => ?_)
      · replace hf := (if_pos hc).symm.trans hf
        refine lv_aload_n hx hb nd_Block_trace_101 rfl (lv_at hl 0 rfl) ?_
        refine lv_iload hx hb nd_Block_trace_102 (lv_at hl 4 rfl) ?_
        refine xp_Block_size hx hb hts hown hK hD hP hS hv0 (hts _ nw_44) nd_Block_trace_104 (fun H locs hP hS => ?_)
        obtain ⟨g4, hg4, hf⟩ := Option.bind_eq_some_iff.mp hf
        rw [Option.some.inj hg4] at hP
        refine lv_aload_n hx hb nd_Block_trace_107 rfl (lv_at hl 0 rfl) ?_
        refine lv_iload hx hb nd_Block_trace_108 (lv_at hl 3 rfl) ?_
        refine xp_Block_behind hx hb hts hown hK hD hP hS hv0 (hts _ nw_42) nd_Block_trace_110 (fun H locs hP hS => ?_)
        obtain ⟨g5, hg5, hf⟩ := Option.bind_eq_some_iff.mp hf
        rw [Option.some.inj hg5] at hP
        obtain rfl := (Option.some.inj hf)
        exact W.vret hx hb hr (fun t ht hW => ⟨rfl, by rw [ht]; exact hP, va_K.moved hW.alike hK, hS.F ht⟩) hS.2.2 nd_Block_trace_113
      · replace hf := (if_neg hc).symm.trans hf
        refine lv_iload hx hb nd_Block_trace_28 (lv_at hl 3 rfl) ?_
        refine kc_S (As := [.int v4]) (rest := []) (st1 := [.int (xf_Way_place v4)]) ⟨hx, hb, hml, hown, hts⟩ (xc_Way_place hD v4 h _ rfl) (kb_Way_place hts (hts _ nw_642) ⟨Nat.le_of_ble_eq_true rfl, Nat.le_of_ble_eq_true rfl⟩) hK hN hP hS rfl hl.1 rfl rfl (Nat.le_of_ble_eq_true rfl) ⟨Nat.zero_le _, Nat.zero_le _⟩ nd_Block_trace_30 (fun H locs hP hS => ?_)
        refine lv_istore (lv' := [(6, .int (xf_Way_place v4)), (0, .ref (ad (v0 + 31))), (2, .ref (ad 5)), (3, .ref (ad 3)), (4, .int v4), (5, .int v5)]) hx hb nd_Block_trace_33 hl (by decide) rfl (fun ls hl => ?_)
        refine lv_iconst (v := 1) hx hb nd_Block_trace_35 (by decide) ?_
        refine lv_iload hx hb nd_Block_trace_36 (lv_at hl 4 rfl) ?_
        refine lv_bipush (v := 7) hx hb nd_Block_trace_38 (by decide) ?_
        refine lv_iand hx hb nd_Block_trace_40 ?_
        refine lv_ishl hx hb nd_Block_trace_41 ?_
        refine lv_istore (lv' := [(7, .int ((1 : Int32) <<< ((v4 &&& (7 : Int32)) &&& 31))), (6, .int (xf_Way_place v4)), (0, .ref (ad (v0 + 31))), (2, .ref (ad 5)), (3, .ref (ad 3)), (4, .int v4), (5, .int v5)]) hx hb nd_Block_trace_42 hl (by decide) rfl (fun ls hl => ?_)
        refine lv_aload_n hx hb nd_Block_trace_44 rfl (lv_at hl 4 rfl) ?_
        refine lv_iload hx hb nd_Block_trace_45 (lv_at hl 1 rfl) ?_
        obtain ⟨j6, hj6, hf⟩ := Option.bind_eq_some_iff.mp hf
        refine xal_bmarks hx hb hK hP hj6 nd_Block_trace_47 ?_
        refine lv_iload hx hb nd_Block_trace_48 (lv_at hl 0 rfl) ?_
        refine lv_iand hx hb nd_Block_trace_50 ?_
        refine lv_if_ne (tgt := 101) hx hb nd_Block_trace_51 rfl (fun hc => ?_) (fun hc => ?_)
        · replace hf := (if_neg hc).symm.trans hf
          refine lv_aload_n hx hb nd_Block_trace_101 rfl (lv_at hl 2 rfl) ?_
          refine lv_iload hx hb nd_Block_trace_102 (lv_at hl 6 rfl) ?_
          refine xp_Block_size hx hb hts hown hK hD hP hS hv0 (hts _ nw_44) nd_Block_trace_104 (fun H locs hP hS => ?_)
          obtain ⟨g7, hg7, hf⟩ := Option.bind_eq_some_iff.mp hf
          rw [Option.some.inj hg7] at hP
          refine lv_aload_n hx hb nd_Block_trace_107 rfl (lv_at hl 2 rfl) ?_
          refine lv_iload hx hb nd_Block_trace_108 (lv_at hl 5 rfl) ?_
          refine xp_Block_behind hx hb hts hown hK hD hP hS hv0 (hts _ nw_42) nd_Block_trace_110 (fun H locs hP hS => ?_)
          obtain ⟨g8, hg8, hf⟩ := Option.bind_eq_some_iff.mp hf
          rw [Option.some.inj hg8] at hP
          obtain rfl := (Option.some.inj hf)
          exact W.vret hx hb hr (fun t ht hW => ⟨rfl, by rw [ht]; exact hP, va_K.moved hW.alike hK, hS.F ht⟩) hS.2.2 nd_Block_trace_113
        · replace hf := (if_pos hc).symm.trans hf
          refine lv_iload hx hb nd_Block_trace_54 (lv_at hl 5 rfl) ?_
          refine lv_aload_n hx hb nd_Block_trace_56 rfl (lv_at hl 3 rfl) ?_
          refine lv_iload hx hb nd_Block_trace_57 (lv_at hl 1 rfl) ?_
          obtain ⟨j9, hj9, hf⟩ := Option.bind_eq_some_iff.mp hf
          refine xal_signs hx hb hK hP hj9 nd_Block_trace_59 ?_
          refine kc_SN (As := [.int v4, .int (xh_signs h j9)]) (rest := []) (st1 := [.int (xf_P_isAct v4 (xh_signs h j9))]) ⟨hx, hb, hml, hown, hts⟩ (xc_P_isAct hD v4 (xh_signs h j9) h _ rfl) (kb_P_isActN hts (hN.1 _ nw_643) ⟨Nat.le_of_ble_eq_true rfl, Nat.le_of_ble_eq_true rfl⟩) hK hN hP hS rfl hl.1 rfl rfl (Nat.le_of_ble_eq_true rfl) ⟨Nat.zero_le _, Nat.zero_le _⟩ nd_Block_trace_60 (fun H locs hP hS => ?_)
          refine lv_if_eq (tgt := 69) hx hb nd_Block_trace_63 rfl (fun hc => ?_) (fun hc => ?_)
          · replace hf := (if_pos hc).symm.trans hf
            refine lv_aload_n hx hb nd_Block_trace_69 rfl (lv_at hl 4 rfl) ?_
            refine lv_iload hx hb nd_Block_trace_70 (lv_at hl 1 rfl) ?_
            refine lv_dup2_11 hx hb nd_Block_trace_72 rfl rfl ?_
            obtain ⟨j10, hj10, hf⟩ := Option.bind_eq_some_iff.mp hf
            refine xal_bmarks hx hb hK hP hj10 nd_Block_trace_73 ?_
            refine lv_iload hx hb nd_Block_trace_74 (lv_at hl 0 rfl) ?_
            refine lv_ior hx hb nd_Block_trace_76 ?_
            obtain ⟨j11, hj11, hf⟩ := Option.bind_eq_some_iff.mp hf
            refine xas_bmarks hx hb hK hD hP hS hj11 nd_Block_trace_77 (fun H locs hP hS => ?_)
            obtain ⟨g12, hg12, hf⟩ := Option.bind_eq_some_iff.mp hf
            rw [Option.some.inj hg12] at hP
            refine lv_aload_n hx hb nd_Block_trace_78 rfl (lv_at hl 2 rfl) ?_
            refine lv_iload hx hb nd_Block_trace_79 (lv_at hl 1 rfl) ?_
            refine kc_V (As := [.int (xf_Way_place v4)]) (rest := []) (st1 := []) ⟨hx, hb, hml, hown, hts⟩ (xc_Block_addPlace hD v0 (xf_Way_place v4) g12 _ hv0 rfl) (kb_Block_addPlace hts (hts _ nw_644) ⟨Nat.le_of_ble_eq_true rfl, Nat.le_of_ble_eq_true rfl⟩) (xr_Block hK hP hv0) hK hN hP hS rfl hl.1 rfl rfl (Nat.le_of_ble_eq_true rfl) ⟨Nat.zero_le _, Nat.zero_le _⟩ nd_Block_trace_81 (fun H locs hP hS => ?_)
            refine lv_iload hx hb nd_Block_trace_84 (lv_at hl 5 rfl) ?_
            refine lv_aload_n hx hb nd_Block_trace_86 rfl (lv_at hl 3 rfl) ?_
            refine lv_iload hx hb nd_Block_trace_87 (lv_at hl 1 rfl) ?_
            obtain ⟨j13, hj13, hf⟩ := Option.bind_eq_some_iff.mp hf
            refine xal_signs hx hb hK hP hj13 nd_Block_trace_89 ?_
            refine kc_S (As := [.int v4, .int (xh_signs (xf_Block_addPlace v0 (xf_Way_place v4) g12) j13)]) (rest := []) (st1 := [.int (xf_Way_behind v4 (xh_signs (xf_Block_addPlace v0 (xf_Way_place v4) g12) j13))]) ⟨hx, hb, hml, hown, hts⟩ (xc_Way_behind hD v4 (xh_signs (xf_Block_addPlace v0 (xf_Way_place v4) g12) j13) (xf_Block_addPlace v0 (xf_Way_place v4) g12) _ rfl) (kb_Way_behind hts (hts _ nw_648) ⟨Nat.le_of_ble_eq_true rfl, Nat.le_of_ble_eq_true rfl⟩) hK hN hP hS rfl hl.1 rfl rfl (Nat.le_of_ble_eq_true rfl) ⟨Nat.zero_le _, Nat.zero_le _⟩ nd_Block_trace_90 (fun H locs hP hS => ?_)
            refine lv_istore (lv' := [(4, .int (xf_Way_behind v4 (xh_signs (xf_Block_addPlace v0 (xf_Way_place v4) g12) j13))), (7, .int ((1 : Int32) <<< ((v4 &&& (7 : Int32)) &&& 31))), (6, .int (xf_Way_place v4)), (0, .ref (ad (v0 + 31))), (2, .ref (ad 5)), (3, .ref (ad 3)), (5, .int v5)]) hx hb nd_Block_trace_93 hl (by decide) rfl (fun ls hl => ?_)
            refine lv_iinc (v := (v5 + (1 : Int32))) (lv' := [(5, .int (v5 + (1 : Int32))), (4, .int (xf_Way_behind v4 (xh_signs (xf_Block_addPlace v0 (xf_Way_place v4) g12) j13))), (7, .int ((1 : Int32) <<< ((v4 &&& (7 : Int32)) &&& 31))), (6, .int (xf_Way_place v4)), (0, .ref (ad (v0 + 31))), (2, .ref (ad 5)), (3, .ref (ad 3))]) hx hb nd_Block_trace_95 hl (k := 6) rfl rfl (by decide) rfl (fun ls hl => ?_)
            refine lv_goto hx hb nd_Block_trace_98 (tgt := 21) rfl ?_
            exact ihL21 _ _ _ (xf_Block_addPlace v0 (xf_Way_place v4) g12) hP v0 (xf_Way_behind v4 (xh_signs (xf_Block_addPlace v0 (xf_Way_place v4) g12) j13)) (v5 + (1 : Int32)) hv0 hS (lv_sub hl [4, 5, 6, 1, 0] rfl) hf
          · replace hf := (if_neg hc).symm.trans hf
            refine lv_goto hx hb nd_Block_trace_66 (tgt := 101) rfl ?_
            refine lv_aload_n hx hb nd_Block_trace_101 rfl (lv_at hl 2 rfl) ?_
            refine lv_iload hx hb nd_Block_trace_102 (lv_at hl 6 rfl) ?_
            refine xp_Block_size hx hb hts hown hK hD hP hS hv0 (hts _ nw_44) nd_Block_trace_104 (fun H locs hP hS => ?_)
            obtain ⟨g14, hg14, hf⟩ := Option.bind_eq_some_iff.mp hf
            rw [Option.some.inj hg14] at hP
            refine lv_aload_n hx hb nd_Block_trace_107 rfl (lv_at hl 2 rfl) ?_
            refine lv_iload hx hb nd_Block_trace_108 (lv_at hl 5 rfl) ?_
            refine xp_Block_behind hx hb hts hown hK hD hP hS hv0 (hts _ nw_42) nd_Block_trace_110 (fun H locs hP hS => ?_)
            obtain ⟨g15, hg15, hf⟩ := Option.bind_eq_some_iff.mp hf
            rw [Option.some.inj hg15] at hP
            obtain rfl := (Option.some.inj hf)
            exact W.vret hx hb hr (fun t ht hW => ⟨rfl, by rw [ht]; exact hP, va_K.moved hW.alike hK, hS.F ht⟩) hS.2.2 nd_Block_trace_113
  unfold xf_Block_trace at hf
  refine lv_aload_n hx hb nd_Block_trace_0 rfl (lv_at hl 0 rfl) ?_
  refine lv_iload_n hx hb nd_Block_trace_1 rfl (lv_at hl 1 rfl) ?_
  refine xp_Block_begin hx hb hts hown hK hD hP hS hk0 (hts _ nw_41) nd_Block_trace_2 (fun H locs hP hS => ?_)
  obtain ⟨g1, hg1, hf⟩ := Option.bind_eq_some_iff.mp hf
  rw [Option.some.inj hg1] at hP
  refine lv_aload_n hx hb nd_Block_trace_5 rfl (lv_at hl 0 rfl) ?_
  refine lv_lconst (v := 0) hx hb nd_Block_trace_6 (by decide) ?_
  refine xp_Block_lowPlaces hx hb hts hown hK hD hP hS hk0 (hts _ nw_47) nd_Block_trace_7 (fun H locs hP hS => ?_)
  obtain ⟨g2, hg2, hf⟩ := Option.bind_eq_some_iff.mp hf
  rw [Option.some.inj hg2] at hP
  refine lv_aload_n hx hb nd_Block_trace_10 rfl (lv_at hl 0 rfl) ?_
  refine lv_lconst (v := 0) hx hb nd_Block_trace_11 (by decide) ?_
  refine xp_Block_highPlaces hx hb hts hown hK hD hP hS hk0 (hts _ nw_48) nd_Block_trace_12 (fun H locs hP hS => ?_)
  obtain ⟨g3, hg3, hf⟩ := Option.bind_eq_some_iff.mp hf
  rw [Option.some.inj hg3] at hP
  refine lv_iload_n hx hb nd_Block_trace_15 rfl (lv_at hl 1 rfl) ?_
  refine lv_istore (lv' := [(4, .int a1), (0, .ref (ad (k0 + 31))), (1, .int a1), (2, .ref (ad 5)), (3, .ref (ad 3))]) hx hb nd_Block_trace_16 hl (by decide) rfl (fun ls hl => ?_)
  refine lv_iconst (v := 0) hx hb nd_Block_trace_18 (by decide) ?_
  refine lv_istore (lv' := [(5, .int (0 : Int32)), (4, .int a1), (0, .ref (ad (k0 + 31))), (1, .int a1), (2, .ref (ad 5)), (3, .ref (ad 3))]) hx hb nd_Block_trace_19 hl (by decide) rfl (fun ls hl => ?_)
  exact L21 fuel _ _ _ g3 hP k0 a1 (0 : Int32) hk0 hS (lv_sub hl [2, 4, 5, 1, 0] rfl) hf
set_option maxHeartbeats 4000000 in
set_option maxRecDepth 100000 in
theorem xc_Blocks_make {l : Launch} {D : va_G} {A : Nat → Prop} {cA : Nat → ClassId} {ad : Nat → Nat} (hD : wdD 61 A ad) (fuel : Nat) (a1 : Int32) (h : XH) (q : Option Nat × XH) (hf : xf_Blocks_make fuel a1 h = some q) : CT l D vwCl (xtys cA) A ny_Blocks_make (wsO ny_Blocks_make prog_3_method_3_code 4 (some (.object "DrawnPaths$Block"))) (rmO 4 90) [.ref (ad 1), .int a1, .ref (ad 5)] (xW cA ad h) (xW cA ad q.2) (some (orf ad 31 q.1)) := by
  refine Met.ofW (cc := prog_3_method_3_code) (maxL := 4) (ret := (some (.object "DrawnPaths$Block"))) (by decide +kernel) rfl ?_
  intro p e s m args below meth c s₁ B hml hv
  obtain ⟨hav, hP, hK, hN⟩ := hv
  have hx := B.exec
  have hb := B.bytes
  have hr := B.returns
  have hts : ∀ w ∈ lw_wd, w.before args s = true := fun w hw => atoms_spec (ws := (wsO ny_Blocks_make prog_3_method_3_code 4 (some (.object "DrawnPaths$Block")))) B.pre w (List.mem_cons_of_mem _ hw)
  have hown : s.vm.findClass "DrawnPaths$Blocks" = some m.cls := findClass_of_methodNamed B.named
  have hlocks := B.notSynchronized
  have hS : va_S A s.heap s.heap [] := va_S.rf
  have hl := lv_entry ([.ref (ad 1), .int a1, .ref (ad 5)]) (n := 4) (Nat.le_of_ble_eq_true rfl)
  have hE : entryFrame m args 4 = entryFrame m ([.ref (ad 1), .int a1, .ref (ad 5)] : List Value).toArray 4 := by rw [hav]
  rw [hE, lg_entry_eq]
  generalize (lg_sl ([.ref (ad 1), .int a1, .ref (ad 5)]) ++ List.replicate (4 - (lg_sl ([.ref (ad 1), .int a1, .ref (ad 5)])).length) Slot.unset).toArray = ls at hl ⊢
  have hl : lv_has ls 4 [(0, .ref (ad 1)), (1, .int a1), (2, .ref (ad 5))] := hl
  have L13 : ∀ (n : Nat) (H : Heap) (locs : List Loc) (ls : Array Slot) (h : XH) (hP : va_P D vwCl (xW cA ad h) H) (v1 : Int32) (v3 : Int32) (hS : va_S A s.heap H locs) (hl : lv_has ls 4 [(0, .ref (ad 1)), (1, .int v1), (2, .ref (ad 5)), (3, .int v3)]) (hf : xf_Blocks_make_L13 fuel n v1 v3 h = some q), W p l e (headSpec (wsO ny_Blocks_make prog_3_method_3_code 4 (some (.object "DrawnPaths$Block"))) (rmO 4 90)).room s m args below meth c H locs 0 0 (MQ below (RetQ D vwCl (xtys cA) A (some (orf ad 31 q.1)) (xW cA ad q.2)) args s 0 0 A) (F0 m 13 ls []) := by
    intro n
    induction n with
    | zero =>
      intro H locs ls h hP v1 v3 hS hl hf
      rw [xf_Blocks_make_L13] at hf
      cases hf
    | succ nL13 ihL13 =>
      intro H locs ls h hP v1 v3 hS hl hf
      rw [xf_Blocks_make_L13] at hf
      refine lv_iload_n hx hb nd_Blocks_make_13 rfl (lv_at hl 3 rfl) ?_
      refine lv_bipush (v := 96) hx hb nd_Blocks_make_14 (by decide) ?_
      refine lv_icmp_ge (tgt := 32) hx hb nd_Blocks_make_16 rfl (fun hc => ?_) (fun hc => ?_)
      · replace hf := (if_pos hc).symm.trans hf
        refine lv_aload_n hx hb nd_Blocks_make_32 rfl (lv_at hl 0 rfl) ?_
        refine xg_Blocks_row hx hb hts hown hK hP (hts _ nw_61) nd_Blocks_make_33 ?_
        refine lv_aload_n hx hb nd_Blocks_make_36 rfl (lv_at hl 0 rfl) ?_
        refine xg_Blocks_held hx hb hts hown hK hP (hts _ nw_63) nd_Blocks_make_37 ?_
        obtain ⟨j1, hj1, hf⟩ := Option.bind_eq_some_iff.mp hf
        obtain ⟨k2, hk2, hf⟩ := Option.bind_eq_some_iff.mp hf
        obtain ⟨ek2, hk2⟩ := gn_eq hk2
        refine xal_row hx hb hK hP hj1 ek2 nd_Blocks_make_40 ?_
        refine lv_astore_n (lv' := [(3, .ref (ad (k2 + 31))), (0, .ref (ad 1)), (1, .int v1), (2, .ref (ad 5))]) hx hb nd_Blocks_make_41 rfl hl (by decide) rfl (fun ls hl => ?_)
        refine lv_aload_n hx hb nd_Blocks_make_42 rfl (lv_at hl 1 rfl) ?_
        refine lv_dup hx hb nd_Blocks_make_43 rfl ?_
        refine xg_Blocks_held hx hb hts hown hK hP (hts _ nw_63) nd_Blocks_make_44 ?_
        refine lv_iconst (v := 1) hx hb nd_Blocks_make_47 (by decide) ?_
        refine lv_iadd hx hb nd_Blocks_make_48 ?_
        refine xp_Blocks_held hx hb hts hown hK hD hP hS (hts _ nw_63) nd_Blocks_make_49 (fun H locs hP hS => ?_)
        obtain ⟨g3, hg3, hf⟩ := Option.bind_eq_some_iff.mp hf
        rw [Option.some.inj hg3] at hP
        refine lv_aload_n hx hb nd_Blocks_make_52 rfl (lv_at hl 0 rfl) ?_
        refine lv_iload_n hx hb nd_Blocks_make_53 rfl (lv_at hl 2 rfl) ?_
        refine lv_aload_n hx hb nd_Blocks_make_54 rfl (lv_at hl 3 rfl) ?_
        refine lv_aload_n hx hb nd_Blocks_make_55 rfl (lv_at hl 1 rfl) ?_
        refine xg_Blocks_marks hx hb hts hown hK hP (hts _ nw_62) nd_Blocks_make_56 ?_
        obtain ⟨q4, hq4, hf⟩ := Option.bind_eq_some_iff.mp hf
        refine kc_V (As := [.int v1, .ref (ad 5), .ref (ad 3)]) (rest := []) (st1 := []) ⟨hx, hb, hml, hown, hts⟩ (xc_Block_trace hD fuel k2 v1 g3 _ hk2 hq4) (kb_Block_trace hts (hts _ nw_638) ⟨Nat.le_of_ble_eq_true rfl, Nat.le_of_ble_eq_true rfl⟩) (xr_Block hK hP hk2) hK hN hP hS rfl hl.1 rfl rfl (Nat.le_of_ble_eq_true rfl) ⟨Nat.zero_le _, Nat.zero_le _⟩ nd_Blocks_make_59 (fun H locs hP hS => ?_)
        refine lv_aload_n hx hb nd_Blocks_make_62 rfl (lv_at hl 0 rfl) ?_
        obtain rfl := (Option.some.inj hf)
        exact W.aret hx hb hr (Or.inl ⟨_, rfl⟩) (Or.inr ⟨_, rfl⟩) (fun t ht hW => ⟨rfl, by rw [ht]; exact hP, va_K.moved hW.alike hK, hS.F ht⟩) hS.2.2 nd_Blocks_make_63
      · replace hf := (if_neg hc).symm.trans hf
        refine lv_aload_n hx hb nd_Blocks_make_19 rfl (lv_at hl 0 rfl) ?_
        refine xg_Blocks_marks hx hb hts hown hK hP (hts _ nw_62) nd_Blocks_make_20 ?_
        refine lv_iload_n hx hb nd_Blocks_make_23 rfl (lv_at hl 3 rfl) ?_
        refine lv_iconst (v := 0) hx hb nd_Blocks_make_24 (by decide) ?_
        obtain ⟨j5, hj5, hf⟩ := Option.bind_eq_some_iff.mp hf
        refine xas_bmarks hx hb hK hD hP hS hj5 nd_Blocks_make_25 (fun H locs hP hS => ?_)
        obtain ⟨g6, hg6, hf⟩ := Option.bind_eq_some_iff.mp hf
        rw [Option.some.inj hg6] at hP
        refine lv_iinc (v := (v3 + (1 : Int32))) (lv' := [(3, .int (v3 + (1 : Int32))), (0, .ref (ad 1)), (1, .int v1), (2, .ref (ad 5))]) hx hb nd_Blocks_make_26 hl (k := 3) rfl rfl (by decide) rfl (fun ls hl => ?_)
        refine lv_goto hx hb nd_Blocks_make_29 (tgt := 13) rfl ?_
        exact ihL13 _ _ _ g6 hP v1 (v3 + (1 : Int32)) hS (lv_sub hl [1, 2, 3, 0] rfl) hf
  unfold xf_Blocks_make at hf
  refine lv_aload_n hx hb nd_Blocks_make_0 rfl (lv_at hl 0 rfl) ?_
  refine xg_Blocks_held hx hb hts hown hK hP (hts _ nw_63) nd_Blocks_make_1 ?_
  refine lv_bipush (v := 30) hx hb nd_Blocks_make_4 (by decide) ?_
  refine lv_icmp_ne (tgt := 11) hx hb nd_Blocks_make_6 rfl (fun hc => ?_) (fun hc => ?_)
  · replace hf := (if_neg hc).symm.trans hf
    refine lv_iconst (v := 0) hx hb nd_Blocks_make_11 (by decide) ?_
    refine lv_istore_n (lv' := [(3, .int (0 : Int32)), (0, .ref (ad 1)), (1, .int a1), (2, .ref (ad 5))]) hx hb nd_Blocks_make_12 rfl hl (by decide) rfl (fun ls hl => ?_)
    exact L13 fuel _ _ _ h hP a1 (0 : Int32) hS (lv_sub hl [1, 2, 3, 0] rfl) hf
  · replace hf := (if_pos hc).symm.trans hf
    refine lv_null hx hb nd_Blocks_make_9 ?_
    obtain rfl := (Option.some.inj hf)
    exact W.aret hx hb hr (Or.inl ⟨_, rfl⟩) (Or.inl rfl) (fun t ht hW => ⟨rfl, by rw [ht]; exact hP, va_K.moved hW.alike hK, hS.F ht⟩) hS.2.2 nd_Blocks_make_10
set_option maxHeartbeats 4000000 in
set_option maxRecDepth 100000 in
theorem xc_Run_signsTogether {l : Launch} {D : va_G} {A : Nat → Prop} {cA : Nat → ClassId} {ad : Nat → Nat} (hD : wdD 61 A ad) (fuel : Nat) (a1 : Int32) (h : XH) (q : Int32 × XH) (hf : xf_Run_signsTogether fuel a1 h = some q) : CT l D vwCl (xtys cA) A ny_Run_signsTogether (wsO ny_Run_signsTogether prog_7_method_6_code 4 (some .int)) (rmO 5 113) [.ref (ad 6), .int a1] (xW cA ad h) (xW cA ad q.2) (some (.int q.1)) := by
  refine Met.ofW (cc := prog_7_method_6_code) (maxL := 4) (ret := (some .int)) (by decide +kernel) rfl ?_
  intro p e s m args below meth c s₁ B hml hv
  obtain ⟨hav, hP, hK, hN⟩ := hv
  have hx := B.exec
  have hb := B.bytes
  have hr := B.returns
  have hts : ∀ w ∈ lw_wd, w.before args s = true := fun w hw => atoms_spec (ws := (wsO ny_Run_signsTogether prog_7_method_6_code 4 (some .int))) B.pre w (List.mem_cons_of_mem _ hw)
  have hown : s.vm.findClass "DrawnPaths$Run" = some m.cls := findClass_of_methodNamed B.named
  have hlocks := B.notSynchronized
  have hS : va_S A s.heap s.heap [] := va_S.rf
  have hl := lv_entry ([.ref (ad 6), .int a1]) (n := 4) (Nat.le_of_ble_eq_true rfl)
  have hE : entryFrame m args 4 = entryFrame m ([.ref (ad 6), .int a1] : List Value).toArray 4 := by rw [hav]
  rw [hE, lg_entry_eq]
  generalize (lg_sl ([.ref (ad 6), .int a1]) ++ List.replicate (4 - (lg_sl ([.ref (ad 6), .int a1])).length) Slot.unset).toArray = ls at hl ⊢
  have hl : lv_has ls 4 [(0, .ref (ad 6)), (1, .int a1)] := hl
  have J83 : ∀ (H : Heap) (locs : List Loc) (ls : Array Slot) (h : XH) (hP : va_P D vwCl (xW cA ad h) H) (v1 : Int32) (v2 : Nat) (hv2 : v2 < 4) (hS : va_S A s.heap H locs) (hl : lv_has ls 4 [(1, .int v1), (2, .ref (ad (v2 + 19))), (3, .null)]) (hf : xf_Run_signsTogether_J83 fuel v1 v2 h = some q), W p l e (headSpec (wsO ny_Run_signsTogether prog_7_method_6_code 4 (some .int)) (rmO 5 113)).room s m args below meth c H locs 0 0 (MQ below (RetQ D vwCl (xtys cA) A (some (.int q.1)) (xW cA ad q.2)) args s 0 0 A) (F0 m 83 ls []) := by
    intro H locs ls h hP v1 v2 hv2 hS hl hf
    unfold xf_Run_signsTogether_J83 at hf
    refine lv_aload_nN hx hb nd_Run_signsTogether_83 rfl (lv_at hl 2 rfl) ?_
    refine lv_ifnullN hx hb nd_Run_signsTogether_84 (tgt := 109) rfl ?_
    refine lv_iconst (v := 1) hx hb nd_Run_signsTogether_109 (by decide) ?_
    obtain rfl := (Option.some.inj hf)
    exact W.iret hx hb hr (fun t ht hW => ⟨rfl, by rw [ht]; exact hP, va_K.moved hW.alike hK, hS.F ht⟩) hS.2.2 nd_Run_signsTogether_110
  have J83a : ∀ (H : Heap) (locs : List Loc) (ls : Array Slot) (h : XH) (hP : va_P D vwCl (xW cA ad h) H) (v1 : Int32) (v2 : Nat) (v3 : Nat) (hv2 : v2 < 4) (hv3 : v3 < 30) (hS : va_S A s.heap H locs) (hl : lv_has ls 4 [(1, .int v1), (2, .ref (ad (v2 + 19))), (3, .ref (ad (v3 + 31)))]) (hf : xf_Run_signsTogether_J83a fuel v1 v2 v3 h = some q), W p l e (headSpec (wsO ny_Run_signsTogether prog_7_method_6_code 4 (some .int)) (rmO 5 113)).room s m args below meth c H locs 0 0 (MQ below (RetQ D vwCl (xtys cA) A (some (.int q.1)) (xW cA ad q.2)) args s 0 0 A) (F0 m 83 ls []) := by
    intro H locs ls h hP v1 v2 v3 hv2 hv3 hS hl hf
    unfold xf_Run_signsTogether_J83a at hf
    refine lv_aload_n hx hb nd_Run_signsTogether_83 rfl (lv_at hl 2 rfl) ?_
    refine lv_ifnull hx hb nd_Run_signsTogether_84 ?_
    refine lv_aload_n hx hb nd_Run_signsTogether_87 rfl (lv_at hl 2 rfl) ?_
    refine xg_Block_size hx hb hts hown hK hP hv3 (hts _ nw_45) nd_Run_signsTogether_88 ?_
    refine lv_iload_n hx hb nd_Run_signsTogether_91 rfl (lv_at hl 0 rfl) ?_
    refine lv_icmp_gt (tgt := 109) hx hb nd_Run_signsTogether_92 rfl (fun hc => ?_) (fun hc => ?_)
    · replace hf := (if_pos hc).symm.trans hf
      refine lv_iconst (v := 1) hx hb nd_Run_signsTogether_109 (by decide) ?_
      obtain rfl := (Option.some.inj hf)
      exact W.iret hx hb hr (fun t ht hW => ⟨rfl, by rw [ht]; exact hP, va_K.moved hW.alike hK, hS.F ht⟩) hS.2.2 nd_Run_signsTogether_110
    · replace hf := (if_neg hc).symm.trans hf
      refine lv_aload_n hx hb nd_Run_signsTogether_95 rfl (lv_at hl 2 rfl) ?_
      refine xg_Block_size hx hb hts hown hK hP hv3 (hts _ nw_45) nd_Run_signsTogether_96 ?_
      refine lv_aload_n hx hb nd_Run_signsTogether_99 rfl (lv_at hl 1 rfl) ?_
      refine xg_Ptr_depth hx hb hts hown hK hP hv2 (hts _ nw_132) nd_Run_signsTogether_100 ?_
      refine lv_iadd hx hb nd_Run_signsTogether_103 ?_
      refine lv_bipush (v := 24) hx hb nd_Run_signsTogether_104 (by decide) ?_
      refine lv_icmp_lt (tgt := 111) hx hb nd_Run_signsTogether_106 rfl (fun hc => ?_) (fun hc => ?_)
      · replace hf := (if_pos hc).symm.trans hf
        refine lv_aload_n hx hb nd_Run_signsTogether_111 rfl (lv_at hl 2 rfl) ?_
        refine xg_Block_size hx hb hts hown hK hP hv3 (hts _ nw_45) nd_Run_signsTogether_112 ?_
        obtain rfl := (Option.some.inj hf)
        exact W.iret hx hb hr (fun t ht hW => ⟨rfl, by rw [ht]; exact hP, va_K.moved hW.alike hK, hS.F ht⟩) hS.2.2 nd_Run_signsTogether_115
      · replace hf := (if_neg hc).symm.trans hf
        refine lv_iconst (v := 1) hx hb nd_Run_signsTogether_109 (by decide) ?_
        obtain rfl := (Option.some.inj hf)
        exact W.iret hx hb hr (fun t ht hW => ⟨rfl, by rw [ht]; exact hP, va_K.moved hW.alike hK, hS.F ht⟩) hS.2.2 nd_Run_signsTogether_110
  unfold xf_Run_signsTogether at hf
  refine lv_aload_n hx hb nd_Run_signsTogether_0 rfl (lv_at hl 0 rfl) ?_
  refine xg_Run_pointers hx hb hts hown hK hP (hts _ nw_149) nd_Run_signsTogether_1 ?_
  refine lv_iconst (v := 0) hx hb nd_Run_signsTogether_4 (by decide) ?_
  obtain ⟨j1, hj1, hf⟩ := Option.bind_eq_some_iff.mp hf
  obtain ⟨k2, hk2, hf⟩ := Option.bind_eq_some_iff.mp hf
  obtain ⟨ek2, hk2⟩ := gn_eq hk2
  refine xal_ptrs hx hb hK hP hj1 ek2 nd_Run_signsTogether_5 ?_
  refine lv_astore_n (lv' := [(2, .ref (ad (k2 + 19))), (0, .ref (ad 6)), (1, .int a1)]) hx hb nd_Run_signsTogether_6 rfl hl (by decide) rfl (fun ls hl => ?_)
  refine lv_aload_n hx hb nd_Run_signsTogether_7 rfl (lv_at hl 1 rfl) ?_
  refine xg_Run_living hx hb hts hown hK hP (hts _ nw_155) nd_Run_signsTogether_8 ?_
  refine lv_iconst (v := 1) hx hb nd_Run_signsTogether_11 (by decide) ?_
  refine lv_icmp_ne (tgt := 40) hx hb nd_Run_signsTogether_12 rfl (fun hc => ?_) (fun hc => ?_)
  · replace hf := (if_neg hc).symm.trans hf
    refine lv_iconst (v := 1) hx hb nd_Run_signsTogether_40 (by decide) ?_
    obtain rfl := (Option.some.inj hf)
    exact W.iret hx hb hr (fun t ht hW => ⟨rfl, by rw [ht]; exact hP, va_K.moved hW.alike hK, hS.F ht⟩) hS.2.2 nd_Run_signsTogether_41
  · replace hf := (if_pos hc).symm.trans hf
    refine lv_aload_n hx hb nd_Run_signsTogether_15 rfl (lv_at hl 0 rfl) ?_
    refine xg_Ptr_way hx hb hts hown hK hP hk2 (hts _ nw_129) nd_Run_signsTogether_16 ?_
    refine lv_aload_n hx hb nd_Run_signsTogether_19 rfl (lv_at hl 1 rfl) ?_
    refine xg_Run_field hx hb hts hown hK hP (hts _ nw_148) nd_Run_signsTogether_20 ?_
    refine xg_Field_signs hx hb hts hown hK hP (hts _ nw_88) nd_Run_signsTogether_23 ?_
    refine lv_aload_n hx hb nd_Run_signsTogether_26 rfl (lv_at hl 0 rfl) ?_
    refine xg_Ptr_way hx hb hts hown hK hP hk2 (hts _ nw_129) nd_Run_signsTogether_27 ?_
    refine kc_S (As := [.int (xh_pway h k2)]) (rest := [.ref (ad 5), .int (xh_pway h k2)]) (st1 := [.int (xf_Way_place (xh_pway h k2)), .ref (ad 5), .int (xh_pway h k2)]) ⟨hx, hb, hml, hown, hts⟩ (xc_Way_place hD (xh_pway h k2) h _ rfl) (kb_Way_place hts (hts _ nw_517) ⟨Nat.le_of_ble_eq_true rfl, Nat.le_of_ble_eq_true rfl⟩) hK hN hP hS rfl hl.1 rfl rfl (Nat.le_of_ble_eq_true rfl) ⟨Nat.zero_le _, Nat.zero_le _⟩ nd_Run_signsTogether_30 (fun H locs hP hS => ?_)
    obtain ⟨j3, hj3, hf⟩ := Option.bind_eq_some_iff.mp hf
    refine xal_signs hx hb hK hP hj3 nd_Run_signsTogether_33 ?_
    refine kc_SN (As := [.int (xh_pway h k2), .int (xh_signs h j3)]) (rest := []) (st1 := [.int (xf_P_isAct (xh_pway h k2) (xh_signs h j3))]) ⟨hx, hb, hml, hown, hts⟩ (xc_P_isAct hD (xh_pway h k2) (xh_signs h j3) h _ rfl) (kb_P_isActN hts (hN.1 _ nw_518) ⟨Nat.le_of_ble_eq_true rfl, Nat.le_of_ble_eq_true rfl⟩) hK hN hP hS rfl hl.1 rfl rfl (Nat.le_of_ble_eq_true rfl) ⟨Nat.zero_le _, Nat.zero_le _⟩ nd_Run_signsTogether_34 (fun H locs hP hS => ?_)
    refine lv_if_eq (tgt := 42) hx hb nd_Run_signsTogether_37 rfl (fun hc => ?_) (fun hc => ?_)
    · replace hf := (if_pos hc).symm.trans hf
      refine lv_aload_n hx hb nd_Run_signsTogether_42 rfl (lv_at hl 1 rfl) ?_
      refine xg_Run_field hx hb hts hown hK hP (hts _ nw_148) nd_Run_signsTogether_43 ?_
      refine xg_Field_blocks hx hb hts hown hK hP (hts _ nw_90) nd_Run_signsTogether_46 ?_
      refine lv_aload_n hx hb nd_Run_signsTogether_49 rfl (lv_at hl 0 rfl) ?_
      refine xg_Ptr_way hx hb hts hown hK hP hk2 (hts _ nw_129) nd_Run_signsTogether_50 ?_
      obtain ⟨q4, hq4, hf⟩ := Option.bind_eq_some_iff.mp hf
      refine kc_V (As := [.int (xh_pway h k2)]) (rest := []) (st1 := [orf ad 31 q4]) ⟨hx, hb, hml, hown, hts⟩ (xc_Blocks_find hD fuel (xh_pway h k2) h _ hq4) (kb_Blocks_find hts (hts _ nw_630) ⟨Nat.le_of_ble_eq_true rfl, Nat.le_of_ble_eq_true rfl⟩) (xr_Blocks hK hP) hK hN hP hS rfl hl.1 rfl rfl (Nat.le_of_ble_eq_true rfl) ⟨Nat.zero_le _, Nat.zero_le _⟩ nd_Run_signsTogether_53 (fun H locs hP hS => ?_)
      rcases obr_eq hf with ⟨ho9, hf⟩ | ⟨o9, ho9, hf⟩
      · rw [ho9]
        show W _ _ _ _ _ _ _ _ _ _ _ _ _ _ _ (F0 _ _ _ (.null :: _))
        refine lv_astore_nN (lv' := [(3, .null), (2, .ref (ad (k2 + 19))), (0, .ref (ad 6)), (1, .int a1)]) hx hb nd_Run_signsTogether_56 rfl hl (by decide) rfl (fun ls hl => ?_)
        refine lv_aload_nN hx hb nd_Run_signsTogether_57 rfl (lv_at hl 0 rfl) ?_
        refine lv_ifnonnullN hx hb nd_Run_signsTogether_58 ?_
        refine lv_aload_n hx hb nd_Run_signsTogether_61 rfl (lv_at hl 2 rfl) ?_
        refine xg_Run_field hx hb hts hown hK hP (hts _ nw_148) nd_Run_signsTogether_62 ?_
        refine xg_Field_blocks hx hb hts hown hK hP (hts _ nw_90) nd_Run_signsTogether_65 ?_
        refine lv_aload_n hx hb nd_Run_signsTogether_68 rfl (lv_at hl 1 rfl) ?_
        refine xg_Ptr_way hx hb hts hown hK hP hk2 (hts _ nw_129) nd_Run_signsTogether_69 ?_
        refine lv_aload_n hx hb nd_Run_signsTogether_72 rfl (lv_at hl 2 rfl) ?_
        refine xg_Run_field hx hb hts hown hK hP (hts _ nw_148) nd_Run_signsTogether_73 ?_
        refine xg_Field_signs hx hb hts hown hK hP (hts _ nw_88) nd_Run_signsTogether_76 ?_
        obtain ⟨q6, hq6, hf⟩ := Option.bind_eq_some_iff.mp hf
        refine kc_V (As := [.int (xh_pway h k2), .ref (ad 5)]) (rest := []) (st1 := [orf ad 31 q6.1]) ⟨hx, hb, hml, hown, hts⟩ (xc_Blocks_make hD fuel (xh_pway h k2) h _ hq6) (kb_Blocks_make hts (hts _ nw_634) ⟨Nat.le_of_ble_eq_true rfl, Nat.le_of_ble_eq_true rfl⟩) (xr_Blocks hK hP) hK hN hP hS rfl hl.1 rfl rfl (Nat.le_of_ble_eq_true rfl) ⟨Nat.zero_le _, Nat.zero_le _⟩ nd_Run_signsTogether_79 (fun H locs hP hS => ?_)
        rcases obr_eq hf with ⟨ho8, hf⟩ | ⟨o8, ho8, hf⟩
        · rw [ho8]
          show W _ _ _ _ _ _ _ _ _ _ _ _ _ _ _ (F0 _ _ _ (.null :: _))
          refine lv_astore_nN (lv' := [(3, .null), (2, .ref (ad (k2 + 19))), (0, .ref (ad 6)), (1, .int a1)]) hx hb nd_Run_signsTogether_82 rfl hl (by decide) rfl (fun ls hl => ?_)
          exact J83 _ _ _ q6.2 hP a1 k2 hk2 hS (lv_sub hl [3, 1, 0] rfl) hf
        · rw [ho8]
          obtain ⟨k7, hk7, hf⟩ := Option.bind_eq_some_iff.mp hf
          obtain ⟨ek7, uk7⟩ := gn_eq hk7
          rw [ek7]
          show W _ _ _ _ _ _ _ _ _ _ _ _ _ _ _ (F0 _ _ _ (.ref (ad (k7 + 31)) :: _))
          refine lv_astore_n (lv' := [(3, .ref (ad (k7 + 31))), (2, .ref (ad (k2 + 19))), (0, .ref (ad 6)), (1, .int a1)]) hx hb nd_Run_signsTogether_82 rfl hl (by decide) rfl (fun ls hl => ?_)
          exact J83a _ _ _ q6.2 hP a1 k2 k7 hk2 uk7 hS (lv_sub hl [3, 1, 0] rfl) hf
      · rw [ho9]
        obtain ⟨k5, hk5, hf⟩ := Option.bind_eq_some_iff.mp hf
        obtain ⟨ek5, uk5⟩ := gn_eq hk5
        rw [ek5]
        show W _ _ _ _ _ _ _ _ _ _ _ _ _ _ _ (F0 _ _ _ (.ref (ad (k5 + 31)) :: _))
        refine lv_astore_n (lv' := [(3, .ref (ad (k5 + 31))), (2, .ref (ad (k2 + 19))), (0, .ref (ad 6)), (1, .int a1)]) hx hb nd_Run_signsTogether_56 rfl hl (by decide) rfl (fun ls hl => ?_)
        refine lv_aload_n hx hb nd_Run_signsTogether_57 rfl (lv_at hl 0 rfl) ?_
        refine lv_ifnonnull hx hb nd_Run_signsTogether_58 (tgt := 83) rfl ?_
        exact J83a _ _ _ h hP a1 k2 k5 hk2 uk5 hS (lv_sub hl [3, 1, 0] rfl) hf
    · replace hf := (if_neg hc).symm.trans hf
      refine lv_iconst (v := 1) hx hb nd_Run_signsTogether_40 (by decide) ?_
      obtain rfl := (Option.some.inj hf)
      exact W.iret hx hb hr (fun t ht hW => ⟨rfl, by rw [ht]; exact hP, va_K.moved hW.alike hK, hS.F ht⟩) hS.2.2 nd_Run_signsTogether_41
set_option maxHeartbeats 4000000 in
set_option maxRecDepth 100000 in
theorem xc_P_fast {l : Launch} {D : va_G} {A : Nat → Prop} {cA : Nat → ClassId} {ad : Nat → Nat} (hD : wdD 61 A ad) (fuel : Nat) (a1 : Int32) (h : XH) (q : Int32 × XH) (hf : xf_P_fast fuel a1 h = some (Sum.inr q)) : CT l D vwCl (xtys cA) A ny_P_fast (wsO ny_P_fast prog_1_method_10_code 4 (some .int)) (rmO 7 152) [.ref (ad 0), .int a1] (xW cA ad h) (xW cA ad q.2) (some (.int q.1)) := by
  refine Met.ofW (cc := prog_1_method_10_code) (maxL := 4) (ret := (some .int)) (by decide +kernel) rfl ?_
  intro p e s m args below meth c s₁ B hml hv
  obtain ⟨hav, hP, hK, hN⟩ := hv
  have hx := B.exec
  have hb := B.bytes
  have hr := B.returns
  have hts : ∀ w ∈ lw_wd, w.before args s = true := fun w hw => atoms_spec (ws := (wsO ny_P_fast prog_1_method_10_code 4 (some .int))) B.pre w (List.mem_cons_of_mem _ hw)
  have hown : s.vm.findClass "DrawnPaths" = some m.cls := findClass_of_methodNamed B.named
  have hlocks := B.notSynchronized
  have hS : va_S A s.heap s.heap [] := va_S.rf
  have hl := lv_entry ([.ref (ad 0), .int a1]) (n := 4) (Nat.le_of_ble_eq_true rfl)
  have hE : entryFrame m args 4 = entryFrame m ([.ref (ad 0), .int a1] : List Value).toArray 4 := by rw [hav]
  rw [hE, lg_entry_eq]
  generalize (lg_sl ([.ref (ad 0), .int a1]) ++ List.replicate (4 - (lg_sl ([.ref (ad 0), .int a1])).length) Slot.unset).toArray = ls at hl ⊢
  have hl : lv_has ls 4 [(0, .ref (ad 0)), (1, .int a1)] := hl
  have L8 : ∀ (n : Nat) (H : Heap) (locs : List Loc) (ls : Array Slot) (h : XH) (hP : va_P D vwCl (xW cA ad h) H) (v1 : Int32) (v2 : Int32) (v3 : Int32) (hS : va_S A s.heap H locs) (hl : lv_has ls 4 [(0, .ref (ad 0)), (1, .int v1), (2, .int v2), (3, .int v3)]) (hf : xf_P_fast_L8 fuel n v1 v2 v3 h = some q), W p l e (headSpec (wsO ny_P_fast prog_1_method_10_code 4 (some .int)) (rmO 7 152)).room s m args below meth c H locs 0 0 (MQ below (RetQ D vwCl (xtys cA) A (some (.int q.1)) (xW cA ad q.2)) args s 0 0 A) (F0 m 8 ls []) := by
    intro n
    induction n with
    | zero =>
      intro H locs ls h hP v1 v2 v3 hS hl hf
      rw [xf_P_fast_L8] at hf
      cases hf
    | succ nL8 ihL8 =>
      have J38 : ∀ (H : Heap) (locs : List Loc) (ls : Array Slot) (h : XH) (hP : va_P D vwCl (xW cA ad h) H) (v1 : Int32) (v2 : Int32) (v3 : Int32) (hS : va_S A s.heap H locs) (hl : lv_has ls 4 [(0, .ref (ad 0)), (1, .int v1), (2, .int v2), (3, .int v3)]) (hf : xf_P_fast_J38 fuel (xf_P_fast_L8 fuel nL8) v1 v2 v3 h = some q), W p l e (headSpec (wsO ny_P_fast prog_1_method_10_code 4 (some .int)) (rmO 7 152)).room s m args below meth c H locs 0 0 (MQ below (RetQ D vwCl (xtys cA) A (some (.int q.1)) (xW cA ad q.2)) args s 0 0 A) (F0 m 38 ls []) := by
        intro H locs ls h hP v1 v2 v3 hS hl hf
        unfold xf_P_fast_J38 at hf
        refine lv_aload_n hx hb nd_P_fast_38 rfl (lv_at hl 0 rfl) ?_
        refine xg_P_run hx hb hts hown hK hP (hts _ nw_205) nd_P_fast_39 ?_
        obtain ⟨q2, hq2, hf⟩ := Option.bind_eq_some_iff.mp hf
        refine kc_V (As := []) (rest := []) (st1 := []) ⟨hx, hb, hml, hown, hts⟩ (xc_Run_advance hD fuel h _ hq2) (kb_Run_advance hts (hts _ nw_513) ⟨Nat.le_of_ble_eq_true rfl, Nat.le_of_ble_eq_true rfl⟩) (xr_Run hK hP) hK hN hP hS rfl hl.1 rfl rfl (Nat.le_of_ble_eq_true rfl) ⟨Nat.zero_le _, Nat.zero_le _⟩ nd_P_fast_42 (fun H locs hP hS => ?_)
        refine lv_iinc (v := (v2 + (-1 : Int32))) (lv' := [(2, .int (v2 + (-1 : Int32))), (0, .ref (ad 0)), (1, .int v1), (3, .int v3)]) hx hb nd_P_fast_45 hl (k := 2) rfl rfl (by decide) rfl (fun ls hl => ?_)
        refine lv_iinc (v := (v3 + (1 : Int32))) (lv' := [(3, .int (v3 + (1 : Int32))), (2, .int (v2 + (-1 : Int32))), (0, .ref (ad 0)), (1, .int v1)]) hx hb nd_P_fast_48 hl (k := 3) rfl rfl (by decide) rfl (fun ls hl => ?_)
        refine lv_goto hx hb nd_P_fast_51 (tgt := 8) rfl ?_
        exact ihL8 _ _ _ q2 hP v1 (v2 + (-1 : Int32)) (v3 + (1 : Int32)) hS (lv_sub hl [2, 3, 1, 0] rfl) hf
      intro H locs ls h hP v1 v2 v3 hS hl hf
      rw [xf_P_fast_L8] at hf
      refine lv_iload_n hx hb nd_P_fast_8 rfl (lv_at hl 3 rfl) ?_
      refine lv_iload_n hx hb nd_P_fast_9 rfl (lv_at hl 1 rfl) ?_
      refine lv_icmp_ge (tgt := 54) hx hb nd_P_fast_10 rfl (fun hc => ?_) (fun hc => ?_)
      · replace hf := (if_pos hc).symm.trans hf
        refine lv_aload_n hx hb nd_P_fast_54 rfl (lv_at hl 0 rfl) ?_
        refine xg_P_run hx hb hts hown hK hP (hts _ nw_205) nd_P_fast_55 ?_
        refine kc_V (As := []) (rest := []) (st1 := [.int (xf_Run_state h)]) ⟨hx, hb, hml, hown, hts⟩ (xc_Run_state hD h _ rfl) (kb_Run_state hts (hts _ nw_273) ⟨Nat.le_of_ble_eq_true rfl, Nat.le_of_ble_eq_true rfl⟩) (xr_Run hK hP) hK hN hP hS rfl hl.1 rfl rfl (Nat.le_of_ble_eq_true rfl) ⟨Nat.zero_le _, Nat.zero_le _⟩ nd_P_fast_58 (fun H locs hP hS => ?_)
        obtain rfl := (Option.some.inj hf)
        exact W.iret hx hb hr (fun t ht hW => ⟨rfl, by rw [ht]; exact hP, va_K.moved hW.alike hK, hS.F ht⟩) hS.2.2 nd_P_fast_61
      · replace hf := (if_neg hc).symm.trans hf
        refine lv_aload_n hx hb nd_P_fast_13 rfl (lv_at hl 0 rfl) ?_
        refine xg_P_run hx hb hts hown hK hP (hts _ nw_205) nd_P_fast_14 ?_
        refine kc_V (As := []) (rest := []) (st1 := [.int (xf_Run_state h)]) ⟨hx, hb, hml, hown, hts⟩ (xc_Run_state hD h _ rfl) (kb_Run_state hts (hts _ nw_273) ⟨Nat.le_of_ble_eq_true rfl, Nat.le_of_ble_eq_true rfl⟩) (xr_Run hK hP) hK hN hP hS rfl hl.1 rfl rfl (Nat.le_of_ble_eq_true rfl) ⟨Nat.zero_le _, Nat.zero_le _⟩ nd_P_fast_17 (fun H locs hP hS => ?_)
        refine lv_if_ne (tgt := 54) hx hb nd_P_fast_20 rfl (fun hc => ?_) (fun hc => ?_)
        · replace hf := (if_neg hc).symm.trans hf
          refine lv_aload_n hx hb nd_P_fast_54 rfl (lv_at hl 0 rfl) ?_
          refine xg_P_run hx hb hts hown hK hP (hts _ nw_205) nd_P_fast_55 ?_
          refine kc_V (As := []) (rest := []) (st1 := [.int (xf_Run_state h)]) ⟨hx, hb, hml, hown, hts⟩ (xc_Run_state hD h _ rfl) (kb_Run_state hts (hts _ nw_273) ⟨Nat.le_of_ble_eq_true rfl, Nat.le_of_ble_eq_true rfl⟩) (xr_Run hK hP) hK hN hP hS rfl hl.1 rfl rfl (Nat.le_of_ble_eq_true rfl) ⟨Nat.zero_le _, Nat.zero_le _⟩ nd_P_fast_58 (fun H locs hP hS => ?_)
          obtain rfl := (Option.some.inj hf)
          exact W.iret hx hb hr (fun t ht hW => ⟨rfl, by rw [ht]; exact hP, va_K.moved hW.alike hK, hS.F ht⟩) hS.2.2 nd_P_fast_61
        · replace hf := (if_pos hc).symm.trans hf
          refine lv_iload_n hx hb nd_P_fast_23 rfl (lv_at hl 2 rfl) ?_
          refine lv_if_ne (tgt := 38) hx hb nd_P_fast_24 rfl (fun hc => ?_) (fun hc => ?_)
          · replace hf := (if_neg hc).symm.trans hf
            exact J38 _ _ _ h hP v1 v2 v3 hS (lv_sub hl [0, 1, 2, 3] rfl) hf
          · replace hf := (if_pos hc).symm.trans hf
            refine lv_aload_n hx hb nd_P_fast_27 rfl (lv_at hl 0 rfl) ?_
            refine xg_P_run hx hb hts hown hK hP (hts _ nw_205) nd_P_fast_28 ?_
            refine lv_iload_n hx hb nd_P_fast_31 rfl (lv_at hl 1 rfl) ?_
            refine lv_iload_n hx hb nd_P_fast_32 rfl (lv_at hl 3 rfl) ?_
            refine lv_isub hx hb nd_P_fast_33 ?_
            obtain ⟨q3, hq3, hf⟩ := Option.bind_eq_some_iff.mp hf
            refine kc_V (As := [.int (v1 - v3)]) (rest := []) (st1 := [.int q3.1]) ⟨hx, hb, hml, hown, hts⟩ (xc_Run_signsTogether hD fuel (v1 - v3) h _ hq3) (kb_Run_signsTogether hts (hts _ nw_626) ⟨Nat.le_of_ble_eq_true rfl, Nat.le_of_ble_eq_true rfl⟩) (xr_Run hK hP) hK hN hP hS rfl hl.1 rfl rfl (Nat.le_of_ble_eq_true rfl) ⟨Nat.zero_le _, Nat.zero_le _⟩ nd_P_fast_34 (fun H locs hP hS => ?_)
            refine lv_istore_n (lv' := [(2, .int q3.1), (0, .ref (ad 0)), (1, .int v1), (3, .int v3)]) hx hb nd_P_fast_37 rfl hl (by decide) rfl (fun ls hl => ?_)
            exact J38 _ _ _ q3.2 hP v1 q3.1 v3 hS (lv_sub hl [1, 2, 0, 3] rfl) hf
  unfold xf_P_fast at hf
  refine lv_iload_n hx hb nd_P_fast_0 rfl (lv_at hl 1 rfl) ?_
  obtain ⟨q1, hq1, hf⟩ := sbd_inr hf
  refine kc_S (As := [.int a1]) (rest := []) (st1 := []) ⟨hx, hb, hml, hown, hts⟩ (xc_P_checkSteps hD a1 h _ hq1) (kb_P_checkSteps hts (hts _ nw_509) ⟨Nat.le_of_ble_eq_true rfl, Nat.le_of_ble_eq_true rfl⟩) hK hN hP hS rfl hl.1 rfl rfl (Nat.le_of_ble_eq_true rfl) ⟨Nat.zero_le _, Nat.zero_le _⟩ nd_P_fast_1 (fun H locs hP hS => ?_)
  replace hf := map_inr hf
  refine lv_iconst (v := 0) hx hb nd_P_fast_4 (by decide) ?_
  refine lv_istore_n (lv' := [(2, .int (0 : Int32)), (0, .ref (ad 0)), (1, .int a1)]) hx hb nd_P_fast_5 rfl hl (by decide) rfl (fun ls hl => ?_)
  refine lv_iconst (v := 0) hx hb nd_P_fast_6 (by decide) ?_
  refine lv_istore_n (lv' := [(3, .int (0 : Int32)), (2, .int (0 : Int32)), (0, .ref (ad 0)), (1, .int a1)]) hx hb nd_P_fast_7 rfl hl (by decide) rfl (fun ls hl => ?_)
  exact L8 fuel _ _ _ h hP a1 (0 : Int32) (0 : Int32) hS (lv_sub hl [2, 3, 1, 0] rfl) hf
end
section
set_option maxHeartbeats 4000000 in
set_option maxRecDepth 100000 in
theorem xc_P_livingPointer {l : Launch} {D : va_G} {A : Nat → Prop} {cA : Nat → ClassId} {ad : Nat → Nat} (hD : wdD 61 A ad) (a1 : Int32) (h : XH) (q : Nat) (hf : xf_P_livingPointer a1 h = some (Sum.inr q)) : CT l D vwCl (xtys cA) A ny_P_livingPointer (wsO ny_P_livingPointer prog_1_method_21_code 2 (some (.object "DrawnPaths$Pointer"))) (rmO 6 100) [.ref (ad 0), .int a1] (xW cA ad h) (xW cA ad h) (some (.ref (ad (q + 19)))) := by
  refine Met.ofW (cc := prog_1_method_21_code) (maxL := 2) (ret := (some (.object "DrawnPaths$Pointer"))) (by decide +kernel) rfl ?_
  intro p e s m args below meth c s₁ B hml hv
  obtain ⟨hav, hP, hK, hN⟩ := hv
  have hx := B.exec
  have hb := B.bytes
  have hr := B.returns
  have hts : ∀ w ∈ lw_wd, w.before args s = true := fun w hw => atoms_spec (ws := (wsO ny_P_livingPointer prog_1_method_21_code 2 (some (.object "DrawnPaths$Pointer")))) B.pre w (List.mem_cons_of_mem _ hw)
  have hown : s.vm.findClass "DrawnPaths" = some m.cls := findClass_of_methodNamed B.named
  have hlocks := B.notSynchronized
  have hS : va_S A s.heap s.heap [] := va_S.rf
  have hl := lv_entry ([.ref (ad 0), .int a1]) (n := 2) (Nat.le_of_ble_eq_true rfl)
  have hE : entryFrame m args 2 = entryFrame m ([.ref (ad 0), .int a1] : List Value).toArray 2 := by rw [hav]
  rw [hE, lg_entry_eq]
  generalize (lg_sl ([.ref (ad 0), .int a1]) ++ List.replicate (2 - (lg_sl ([.ref (ad 0), .int a1])).length) Slot.unset).toArray = ls at hl ⊢
  have hl : lv_has ls 2 [(0, .ref (ad 0)), (1, .int a1)] := hl
  unfold xf_P_livingPointer at hf
  refine lv_iload_n hx hb nd_P_livingPointer_0 rfl (lv_at hl 1 rfl) ?_
  refine lv_if_lt (tgt := 15) hx hb nd_P_livingPointer_1 rfl (fun hc => ?_) (fun hc => ?_)
  · replace hf := (if_pos hc).symm.trans hf
    exact absurd hf (by simp)
  · replace hf := (if_neg hc).symm.trans hf
    refine lv_iload_n hx hb nd_P_livingPointer_4 rfl (lv_at hl 1 rfl) ?_
    refine lv_aload_n hx hb nd_P_livingPointer_5 rfl (lv_at hl 0 rfl) ?_
    refine xg_P_run hx hb hts hown hK hP (hts _ nw_205) nd_P_livingPointer_6 ?_
    refine xg_Run_living hx hb hts hown hK hP (hts _ nw_156) nd_P_livingPointer_9 ?_
    refine lv_icmp_lt (tgt := 25) hx hb nd_P_livingPointer_12 rfl (fun hc => ?_) (fun hc => ?_)
    · replace hf := (if_pos hc).symm.trans hf
      replace hf := map_inr hf
      refine lv_aload_n hx hb nd_P_livingPointer_25 rfl (lv_at hl 0 rfl) ?_
      refine xg_P_run hx hb hts hown hK hP (hts _ nw_205) nd_P_livingPointer_26 ?_
      refine xg_Run_pointers hx hb hts hown hK hP (hts _ nw_150) nd_P_livingPointer_29 ?_
      refine lv_iload_n hx hb nd_P_livingPointer_32 rfl (lv_at hl 1 rfl) ?_
      obtain ⟨j1, hj1, hf⟩ := Option.bind_eq_some_iff.mp hf
      obtain ⟨k2, hk2, hf⟩ := Option.bind_eq_some_iff.mp hf
      obtain ⟨ek2, hk2⟩ := gn_eq hk2
      refine xal_ptrs hx hb hK hP hj1 ek2 nd_P_livingPointer_33 ?_
      obtain rfl := (Option.some.inj hf)
      exact W.aret hx hb hr (Or.inl ⟨_, rfl⟩) (Or.inr ⟨_, rfl⟩) (fun t ht hW => ⟨rfl, by rw [ht]; exact hP, va_K.moved hW.alike hK, hS.F ht⟩) hS.2.2 nd_P_livingPointer_34
    · replace hf := (if_neg hc).symm.trans hf
      exact absurd hf (by simp)
set_option maxHeartbeats 4000000 in
set_option maxRecDepth 100000 in
theorem xc_P_pointer {l : Launch} {D : va_G} {A : Nat → Prop} {cA : Nat → ClassId} {ad : Nat → Nat} (hD : wdD 61 A ad) (a1 : Int32) (a2 : Int32) (h : XH) (q : Int32) (hf : xf_P_pointer a1 a2 h = some (Sum.inr q)) : CT l D vwCl (xtys cA) A ny_P_pointer (wsO ny_P_pointer prog_1_method_11_code 4 (some .int)) (rmO 7 121) [.ref (ad 0), .int a1, .int a2] (xW cA ad h) (xW cA ad h) (some (.int q)) := by
  refine Met.ofW (cc := prog_1_method_11_code) (maxL := 4) (ret := (some .int)) (by decide +kernel) rfl ?_
  intro p e s m args below meth c s₁ B hml hv
  obtain ⟨hav, hP, hK, hN⟩ := hv
  have hx := B.exec
  have hb := B.bytes
  have hr := B.returns
  have hts : ∀ w ∈ lw_wd, w.before args s = true := fun w hw => atoms_spec (ws := (wsO ny_P_pointer prog_1_method_11_code 4 (some .int))) B.pre w (List.mem_cons_of_mem _ hw)
  have hown : s.vm.findClass "DrawnPaths" = some m.cls := findClass_of_methodNamed B.named
  have hlocks := B.notSynchronized
  have hS : va_S A s.heap s.heap [] := va_S.rf
  have hl := lv_entry ([.ref (ad 0), .int a1, .int a2]) (n := 4) (Nat.le_of_ble_eq_true rfl)
  have hE : entryFrame m args 4 = entryFrame m ([.ref (ad 0), .int a1, .int a2] : List Value).toArray 4 := by rw [hav]
  rw [hE, lg_entry_eq]
  generalize (lg_sl ([.ref (ad 0), .int a1, .int a2]) ++ List.replicate (4 - (lg_sl ([.ref (ad 0), .int a1, .int a2])).length) Slot.unset).toArray = ls at hl ⊢
  have hl : lv_has ls 4 [(0, .ref (ad 0)), (1, .int a1), (2, .int a2)] := hl
  unfold xf_P_pointer at hf
  refine lv_aload_n hx hb nd_P_pointer_0 rfl (lv_at hl 0 rfl) ?_
  refine lv_iload_n hx hb nd_P_pointer_1 rfl (lv_at hl 1 rfl) ?_
  obtain ⟨q1, hq1, hf⟩ := obd_inr hf
  obtain ⟨k2, hk2, hf⟩ := Option.bind_eq_some_iff.mp hf
  obtain ⟨ek2, hk2⟩ := gn_eq hk2
  rw [← ek2] at hk2
  refine kc_V (As := [.int a1]) (rest := []) (st1 := [.ref (ad (q1 + 19))]) ⟨hx, hb, hml, hown, hts⟩ (xc_P_livingPointer hD a1 h _ hq1) (kb_P_livingPointer hts (hts _ nw_656) ⟨Nat.le_of_ble_eq_true rfl, Nat.le_of_ble_eq_true rfl⟩) (xr_DP hK hP) hK hN hP hS rfl hl.1 rfl rfl (Nat.le_of_ble_eq_true rfl) ⟨Nat.zero_le _, Nat.zero_le _⟩ nd_P_pointer_2 (fun H locs hP hS => ?_)
  refine lv_astore_n (lv' := [(3, .ref (ad (q1 + 19))), (0, .ref (ad 0)), (1, .int a1), (2, .int a2)]) hx hb nd_P_pointer_5 rfl hl (by decide) rfl (fun ls hl => ?_)
  refine lv_iload_n hx hb nd_P_pointer_6 rfl (lv_at hl 3 rfl) ?_
  by_cases hc0 : a2 = 0
  · replace hf := (if_pos hc0).symm.trans hf
    refine lv_tableIn (tgt := 44) hx hb nd_P_pointer_7 (by rw [hc0]; decide) (by rw [hc0]; decide) (by rw [hc0]; try rfl) rfl ?_
    replace hf := map_inr hf
    refine lv_aload_n hx hb nd_P_pointer_44 rfl (lv_at hl 0 rfl) ?_
    refine xg_Ptr_way hx hb hts hown hK hP hk2 (hts _ nw_130) nd_P_pointer_45 ?_
    refine kc_S (As := [.int (xh_pway h q1)]) (rest := []) (st1 := [.int (xf_Way_place (xh_pway h q1))]) ⟨hx, hb, hml, hown, hts⟩ (xc_Way_place hD (xh_pway h q1) h _ rfl) (kb_Way_place hts (hts _ nw_661) ⟨Nat.le_of_ble_eq_true rfl, Nat.le_of_ble_eq_true rfl⟩) hK hN hP hS rfl hl.1 rfl rfl (Nat.le_of_ble_eq_true rfl) ⟨Nat.zero_le _, Nat.zero_le _⟩ nd_P_pointer_48 (fun H locs hP hS => ?_)
    refine lv_bipush (v := 12) hx hb nd_P_pointer_51 (by decide) ?_
    refine lv_irem hx hb nd_P_pointer_53 (by decide) ?_
    obtain rfl := (Option.some.inj hf)
    exact W.iret hx hb hr (fun t ht hW => ⟨rfl, by rw [ht]; exact hP, va_K.moved hW.alike hK, hS.F ht⟩) hS.2.2 nd_P_pointer_54
  replace hf := (if_neg hc0).symm.trans hf
  by_cases hc1 : a2 = 1
  · replace hf := (if_pos hc1).symm.trans hf
    refine lv_tableIn (tgt := 55) hx hb nd_P_pointer_7 (by rw [hc1]; decide) (by rw [hc1]; decide) (by rw [hc1]; try rfl) rfl ?_
    replace hf := map_inr hf
    refine lv_aload_n hx hb nd_P_pointer_55 rfl (lv_at hl 0 rfl) ?_
    refine xg_Ptr_way hx hb hts hown hK hP hk2 (hts _ nw_130) nd_P_pointer_56 ?_
    refine kc_S (As := [.int (xh_pway h q1)]) (rest := []) (st1 := [.int (xf_Way_place (xh_pway h q1))]) ⟨hx, hb, hml, hown, hts⟩ (xc_Way_place hD (xh_pway h q1) h _ rfl) (kb_Way_place hts (hts _ nw_661) ⟨Nat.le_of_ble_eq_true rfl, Nat.le_of_ble_eq_true rfl⟩) hK hN hP hS rfl hl.1 rfl rfl (Nat.le_of_ble_eq_true rfl) ⟨Nat.zero_le _, Nat.zero_le _⟩ nd_P_pointer_59 (fun H locs hP hS => ?_)
    refine lv_bipush (v := 12) hx hb nd_P_pointer_62 (by decide) ?_
    refine lv_idiv hx hb nd_P_pointer_64 (by decide) ?_
    obtain rfl := (Option.some.inj hf)
    exact W.iret hx hb hr (fun t ht hW => ⟨rfl, by rw [ht]; exact hP, va_K.moved hW.alike hK, hS.F ht⟩) hS.2.2 nd_P_pointer_65
  replace hf := (if_neg hc1).symm.trans hf
  by_cases hc2 : a2 = 2
  · replace hf := (if_pos hc2).symm.trans hf
    refine lv_tableIn (tgt := 66) hx hb nd_P_pointer_7 (by rw [hc2]; decide) (by rw [hc2]; decide) (by rw [hc2]; try rfl) rfl ?_
    replace hf := map_inr hf
    refine lv_aload_n hx hb nd_P_pointer_66 rfl (lv_at hl 0 rfl) ?_
    refine xg_Ptr_way hx hb hts hown hK hP hk2 (hts _ nw_130) nd_P_pointer_67 ?_
    refine kc_S (As := [.int (xh_pway h q1)]) (rest := []) (st1 := [.int (xf_Way_direction (xh_pway h q1))]) ⟨hx, hb, hml, hown, hts⟩ (xc_Way_direction hD (xh_pway h q1) h _ rfl) (kb_Way_direction hts (hts _ nw_662) ⟨Nat.le_of_ble_eq_true rfl, Nat.le_of_ble_eq_true rfl⟩) hK hN hP hS rfl hl.1 rfl rfl (Nat.le_of_ble_eq_true rfl) ⟨Nat.zero_le _, Nat.zero_le _⟩ nd_P_pointer_70 (fun H locs hP hS => ?_)
    obtain rfl := (Option.some.inj hf)
    exact W.iret hx hb hr (fun t ht hW => ⟨rfl, by rw [ht]; exact hP, va_K.moved hW.alike hK, hS.F ht⟩) hS.2.2 nd_P_pointer_73
  replace hf := (if_neg hc2).symm.trans hf
  by_cases hc3 : a2 = 3
  · replace hf := (if_pos hc3).symm.trans hf
    refine lv_tableIn (tgt := 74) hx hb nd_P_pointer_7 (by rw [hc3]; decide) (by rw [hc3]; decide) (by rw [hc3]; try rfl) rfl ?_
    replace hf := map_inr hf
    refine lv_aload_n hx hb nd_P_pointer_74 rfl (lv_at hl 0 rfl) ?_
    refine xg_Ptr_way hx hb hts hown hK hP hk2 (hts _ nw_130) nd_P_pointer_75 ?_
    refine kc_S (As := [.int (xh_pway h q1)]) (rest := []) (st1 := [.int (xf_Way_quotes (xh_pway h q1))]) ⟨hx, hb, hml, hown, hts⟩ (xc_Way_quotes hD (xh_pway h q1) h _ rfl) (kb_Way_quotes hts (hts _ nw_300) ⟨Nat.le_of_ble_eq_true rfl, Nat.le_of_ble_eq_true rfl⟩) hK hN hP hS rfl hl.1 rfl rfl (Nat.le_of_ble_eq_true rfl) ⟨Nat.zero_le _, Nat.zero_le _⟩ nd_P_pointer_78 (fun H locs hP hS => ?_)
    obtain rfl := (Option.some.inj hf)
    exact W.iret hx hb hr (fun t ht hW => ⟨rfl, by rw [ht]; exact hP, va_K.moved hW.alike hK, hS.F ht⟩) hS.2.2 nd_P_pointer_81
  replace hf := (if_neg hc3).symm.trans hf
  by_cases hc4 : a2 = 4
  · replace hf := (if_pos hc4).symm.trans hf
    refine lv_tableIn (tgt := 82) hx hb nd_P_pointer_7 (by rw [hc4]; decide) (by rw [hc4]; decide) (by rw [hc4]; try rfl) rfl ?_
    replace hf := map_inr hf
    refine lv_aload_n hx hb nd_P_pointer_82 rfl (lv_at hl 0 rfl) ?_
    refine xg_Ptr_depth hx hb hts hown hK hP hk2 (hts _ nw_133) nd_P_pointer_83 ?_
    obtain rfl := (Option.some.inj hf)
    exact W.iret hx hb hr (fun t ht hW => ⟨rfl, by rw [ht]; exact hP, va_K.moved hW.alike hK, hS.F ht⟩) hS.2.2 nd_P_pointer_86
  replace hf := (if_neg hc4).symm.trans hf
  by_cases hc5 : a2 = 5
  · replace hf := (if_pos hc5).symm.trans hf
    refine lv_tableIn (tgt := 87) hx hb nd_P_pointer_7 (by rw [hc5]; decide) (by rw [hc5]; decide) (by rw [hc5]; try rfl) rfl ?_
    replace hf := map_inr hf
    refine lv_aload_n hx hb nd_P_pointer_87 rfl (lv_at hl 0 rfl) ?_
    refine xg_Ptr_returning hx hb hts hown hK hP hk2 (hts _ nw_135) nd_P_pointer_88 ?_
    obtain rfl := (Option.some.inj hf)
    exact W.iret hx hb hr (fun t ht hW => ⟨rfl, by rw [ht]; exact hP, va_K.moved hW.alike hK, hS.F ht⟩) hS.2.2 nd_P_pointer_91
  replace hf := (if_neg hc5).symm.trans hf
  refine lv_tableOut (tgt := 92) hx hb nd_P_pointer_7 (by have := lv_neT hc0 (by decide : Int32.toInt 0 = 0); have := lv_neT hc1 (by decide : Int32.toInt 1 = 1); have := lv_neT hc2 (by decide : Int32.toInt 2 = 2); have := lv_neT hc3 (by decide : Int32.toInt 3 = 3); have := lv_neT hc4 (by decide : Int32.toInt 4 = 4); have := lv_neT hc5 (by decide : Int32.toInt 5 = 5); omega) rfl ?_
  exact absurd hf (by simp)
set_option maxHeartbeats 4000000 in
set_option maxRecDepth 100000 in
theorem xc_P_value {l : Launch} {D : va_G} {A : Nat → Prop} {cA : Nat → ClassId} {ad : Nat → Nat} (hD : wdD 61 A ad) (a1 : Int32) (a2 : Int32) (h : XH) (q : Int64) (hf : xf_P_value a1 a2 h = some (Sum.inr q)) : CT l D vwCl (xtys cA) A ny_P_value (wsO ny_P_value prog_1_method_12_code 4 (some .long)) (rmO 7 121) [.ref (ad 0), .int a1, .int a2] (xW cA ad h) (xW cA ad h) (some (.long q)) := by
  refine Met.ofW (cc := prog_1_method_12_code) (maxL := 4) (ret := (some .long)) (by decide +kernel) rfl ?_
  intro p e s m args below meth c s₁ B hml hv
  obtain ⟨hav, hP, hK, hN⟩ := hv
  have hx := B.exec
  have hb := B.bytes
  have hr := B.returns
  have hts : ∀ w ∈ lw_wd, w.before args s = true := fun w hw => atoms_spec (ws := (wsO ny_P_value prog_1_method_12_code 4 (some .long))) B.pre w (List.mem_cons_of_mem _ hw)
  have hown : s.vm.findClass "DrawnPaths" = some m.cls := findClass_of_methodNamed B.named
  have hlocks := B.notSynchronized
  have hS : va_S A s.heap s.heap [] := va_S.rf
  have hl := lv_entry ([.ref (ad 0), .int a1, .int a2]) (n := 4) (Nat.le_of_ble_eq_true rfl)
  have hE : entryFrame m args 4 = entryFrame m ([.ref (ad 0), .int a1, .int a2] : List Value).toArray 4 := by rw [hav]
  rw [hE, lg_entry_eq]
  generalize (lg_sl ([.ref (ad 0), .int a1, .int a2]) ++ List.replicate (4 - (lg_sl ([.ref (ad 0), .int a1, .int a2])).length) Slot.unset).toArray = ls at hl ⊢
  have hl : lv_has ls 4 [(0, .ref (ad 0)), (1, .int a1), (2, .int a2)] := hl
  unfold xf_P_value at hf
  refine lv_aload_n hx hb nd_P_value_0 rfl (lv_at hl 0 rfl) ?_
  refine lv_iload_n hx hb nd_P_value_1 rfl (lv_at hl 1 rfl) ?_
  obtain ⟨q1, hq1, hf⟩ := obd_inr hf
  obtain ⟨k2, hk2, hf⟩ := Option.bind_eq_some_iff.mp hf
  obtain ⟨ek2, hk2⟩ := gn_eq hk2
  rw [← ek2] at hk2
  refine kc_V (As := [.int a1]) (rest := []) (st1 := [.ref (ad (q1 + 19))]) ⟨hx, hb, hml, hown, hts⟩ (xc_P_livingPointer hD a1 h _ hq1) (kb_P_livingPointer hts (hts _ nw_656) ⟨Nat.le_of_ble_eq_true rfl, Nat.le_of_ble_eq_true rfl⟩) (xr_DP hK hP) hK hN hP hS rfl hl.1 rfl rfl (Nat.le_of_ble_eq_true rfl) ⟨Nat.zero_le _, Nat.zero_le _⟩ nd_P_value_2 (fun H locs hP hS => ?_)
  refine lv_astore_n (lv' := [(3, .ref (ad (q1 + 19))), (0, .ref (ad 0)), (1, .int a1), (2, .int a2)]) hx hb nd_P_value_5 rfl hl (by decide) rfl (fun ls hl => ?_)
  refine lv_iload_n hx hb nd_P_value_6 rfl (lv_at hl 3 rfl) ?_
  refine lv_if_lt (tgt := 18) hx hb nd_P_value_7 rfl (fun hc => ?_) (fun hc => ?_)
  · replace hf := (if_pos hc).symm.trans hf
    exact absurd hf (by simp)
  · replace hf := (if_neg hc).symm.trans hf
    refine lv_iload_n hx hb nd_P_value_10 rfl (lv_at hl 3 rfl) ?_
    refine lv_aload_n hx hb nd_P_value_11 rfl (lv_at hl 0 rfl) ?_
    refine xg_Ptr_depth hx hb hts hown hK hP hk2 (hts _ nw_133) nd_P_value_12 ?_
    refine lv_icmp_lt (tgt := 28) hx hb nd_P_value_15 rfl (fun hc => ?_) (fun hc => ?_)
    · replace hf := (if_pos hc).symm.trans hf
      replace hf := map_inr hf
      refine lv_aload_n hx hb nd_P_value_28 rfl (lv_at hl 0 rfl) ?_
      refine lv_iload_n hx hb nd_P_value_29 rfl (lv_at hl 3 rfl) ?_
      refine lv_i2l hx hb nd_P_value_30 rfl ?_
      obtain ⟨q3, hq3, hf⟩ := Option.bind_eq_some_iff.mp hf
      refine kc_V (As := [.long a2.toInt64]) (rest := []) (st1 := [.long q3]) ⟨hx, hb, hml, hown, hts⟩ (xc_Ptr_fromTop hD q1 a2.toInt64 h _ hk2 hq3) (kb_Ptr_fromTop hts (hts _ nw_672) ⟨Nat.le_of_ble_eq_true rfl, Nat.le_of_ble_eq_true rfl⟩) (xr_Pointer hK hP hk2) hK hN hP hS rfl hl.1 rfl rfl (Nat.le_of_ble_eq_true rfl) ⟨Nat.zero_le _, Nat.zero_le _⟩ nd_P_value_31 (fun H locs hP hS => ?_)
      obtain rfl := (Option.some.inj hf)
      exact W.lret hx hb hr (fun t ht hW => ⟨rfl, by rw [ht]; exact hP, va_K.moved hW.alike hK, hS.F ht⟩) hS.2.2 nd_P_value_34
    · replace hf := (if_neg hc).symm.trans hf
      exact absurd hf (by simp)
set_option maxHeartbeats 4000000 in
set_option maxRecDepth 100000 in
theorem xc_Search_reach {l : Launch} {D : va_G} {A : Nat → Prop} {cA : Nat → ClassId} {ad : Nat → Nat} (hD : wdD 61 A ad) (a1 : Int32) (h : XH) (q : XH) (hf : xf_Search_reach a1 h = some q) : CT l D vwCl (xtys cA) A ny_Search_reach (wsO ny_Search_reach prog_8_method_4_code 4 none) (rmO 1 20) [.ref (ad 10), .int a1] (xW cA ad h) (xW cA ad q) none := by
  refine Met.ofW (cc := prog_8_method_4_code) (maxL := 4) (ret := none) (by decide +kernel) rfl ?_
  intro p e s m args below meth c s₁ B hml hv
  obtain ⟨hav, hP, hK, hN⟩ := hv
  have hx := B.exec
  have hb := B.bytes
  have hr := B.returns
  have hts : ∀ w ∈ lw_wd, w.before args s = true := fun w hw => atoms_spec (ws := (wsO ny_Search_reach prog_8_method_4_code 4 none)) B.pre w (List.mem_cons_of_mem _ hw)
  have hown : s.vm.findClass "DrawnPaths$Search" = some m.cls := findClass_of_methodNamed B.named
  have hlocks := B.notSynchronized
  have hS : va_S A s.heap s.heap [] := va_S.rf
  have hl := lv_entry ([.ref (ad 10), .int a1]) (n := 4) (Nat.le_of_ble_eq_true rfl)
  have hE : entryFrame m args 4 = entryFrame m ([.ref (ad 10), .int a1] : List Value).toArray 4 := by rw [hav]
  rw [hE, lg_entry_eq]
  generalize (lg_sl ([.ref (ad 10), .int a1]) ++ List.replicate (4 - (lg_sl ([.ref (ad 10), .int a1])).length) Slot.unset).toArray = ls at hl ⊢
  have hl : lv_has ls 4 [(0, .ref (ad 10)), (1, .int a1)] := hl
  unfold xf_Search_reach at hf
  refine lv_iload_n hx hb nd_Search_reach_0 rfl (lv_at hl 1 rfl) ?_
  refine kc_S (As := [.int a1]) (rest := []) (st1 := [.int (xf_Way_place a1)]) ⟨hx, hb, hml, hown, hts⟩ (xc_Way_place hD a1 h _ rfl) (kb_Way_place hts (hts _ nw_290) ⟨Nat.le_of_ble_eq_true rfl, Nat.le_of_ble_eq_true rfl⟩) hK hN hP hS rfl hl.1 rfl rfl (Nat.le_of_ble_eq_true rfl) ⟨Nat.zero_le _, Nat.zero_le _⟩ nd_Search_reach_1 (fun H locs hP hS => ?_)
  refine lv_istore_n (lv' := [(2, .int (xf_Way_place a1)), (0, .ref (ad 10)), (1, .int a1)]) hx hb nd_Search_reach_4 rfl hl (by decide) rfl (fun ls hl => ?_)
  refine lv_iconst (v := 1) hx hb nd_Search_reach_5 (by decide) ?_
  refine lv_iload_n hx hb nd_Search_reach_6 rfl (lv_at hl 2 rfl) ?_
  refine lv_bipush (v := 7) hx hb nd_Search_reach_7 (by decide) ?_
  refine lv_iand hx hb nd_Search_reach_9 ?_
  refine lv_ishl hx hb nd_Search_reach_10 ?_
  refine lv_istore_n (lv' := [(3, .int ((1 : Int32) <<< ((a1 &&& (7 : Int32)) &&& 31))), (2, .int (xf_Way_place a1)), (0, .ref (ad 10)), (1, .int a1)]) hx hb nd_Search_reach_11 rfl hl (by decide) rfl (fun ls hl => ?_)
  refine lv_aload_n hx hb nd_Search_reach_12 rfl (lv_at hl 2 rfl) ?_
  refine xg_Search_marks hx hb hts hown hK hP (hts _ nw_191) nd_Search_reach_13 ?_
  refine lv_iload_n hx hb nd_Search_reach_16 rfl (lv_at hl 1 rfl) ?_
  obtain ⟨j1, hj1, hf⟩ := Option.bind_eq_some_iff.mp hf
  refine xal_smarks hx hb hK hP hj1 nd_Search_reach_17 ?_
  refine lv_iload_n hx hb nd_Search_reach_18 rfl (lv_at hl 0 rfl) ?_
  refine lv_iand hx hb nd_Search_reach_19 ?_
  refine lv_if_ne (tgt := 63) hx hb nd_Search_reach_20 rfl (fun hc => ?_) (fun hc => ?_)
  · replace hf := (if_neg hc).symm.trans hf
    obtain rfl := (Option.some.inj hf)
    exact W.vret hx hb hr (fun t ht hW => ⟨rfl, by rw [ht]; exact hP, va_K.moved hW.alike hK, hS.F ht⟩) hS.2.2 nd_Search_reach_63
  · replace hf := (if_pos hc).symm.trans hf
    refine lv_aload_n hx hb nd_Search_reach_23 rfl (lv_at hl 2 rfl) ?_
    refine xg_Search_size hx hb hts hown hK hP (hts _ nw_193) nd_Search_reach_24 ?_
    refine lv_sipush (v := 768) hx hb nd_Search_reach_27 (by decide) ?_
    refine lv_icmp_ge (tgt := 63) hx hb nd_Search_reach_30 rfl (fun hc => ?_) (fun hc => ?_)
    · replace hf := (if_pos hc).symm.trans hf
      obtain rfl := (Option.some.inj hf)
      exact W.vret hx hb hr (fun t ht hW => ⟨rfl, by rw [ht]; exact hP, va_K.moved hW.alike hK, hS.F ht⟩) hS.2.2 nd_Search_reach_63
    · replace hf := (if_neg hc).symm.trans hf
      refine lv_aload_n hx hb nd_Search_reach_33 rfl (lv_at hl 2 rfl) ?_
      refine xg_Search_marks hx hb hts hown hK hP (hts _ nw_191) nd_Search_reach_34 ?_
      refine lv_iload_n hx hb nd_Search_reach_37 rfl (lv_at hl 1 rfl) ?_
      refine lv_dup2_11 hx hb nd_Search_reach_38 rfl rfl ?_
      obtain ⟨j2, hj2, hf⟩ := Option.bind_eq_some_iff.mp hf
      refine xal_smarks hx hb hK hP hj2 nd_Search_reach_39 ?_
      refine lv_iload_n hx hb nd_Search_reach_40 rfl (lv_at hl 0 rfl) ?_
      refine lv_ior hx hb nd_Search_reach_41 ?_
      obtain ⟨j3, hj3, hf⟩ := Option.bind_eq_some_iff.mp hf
      refine xas_smarks hx hb hK hD hP hS hj3 nd_Search_reach_42 (fun H locs hP hS => ?_)
      obtain ⟨g4, hg4, hf⟩ := Option.bind_eq_some_iff.mp hf
      rw [Option.some.inj hg4] at hP
      refine lv_aload_n hx hb nd_Search_reach_43 rfl (lv_at hl 2 rfl) ?_
      refine xg_Search_found hx hb hts hown hK hP (hts _ nw_192) nd_Search_reach_44 ?_
      refine lv_aload_n hx hb nd_Search_reach_47 rfl (lv_at hl 2 rfl) ?_
      refine xg_Search_size hx hb hts hown hK hP (hts _ nw_193) nd_Search_reach_48 ?_
      refine lv_iload_n hx hb nd_Search_reach_51 rfl (lv_at hl 3 rfl) ?_
      obtain ⟨j5, hj5, hf⟩ := Option.bind_eq_some_iff.mp hf
      refine xas_sfound hx hb hK hD hP hS hj5 nd_Search_reach_52 (fun H locs hP hS => ?_)
      obtain ⟨g6, hg6, hf⟩ := Option.bind_eq_some_iff.mp hf
      rw [Option.some.inj hg6] at hP
      refine lv_aload_n hx hb nd_Search_reach_53 rfl (lv_at hl 2 rfl) ?_
      refine lv_dup hx hb nd_Search_reach_54 rfl ?_
      refine xg_Search_size hx hb hts hown hK hP (hts _ nw_193) nd_Search_reach_55 ?_
      refine lv_iconst (v := 1) hx hb nd_Search_reach_58 (by decide) ?_
      refine lv_iadd hx hb nd_Search_reach_59 ?_
      refine xp_Search_size hx hb hts hown hK hD hP hS (hts _ nw_193) nd_Search_reach_60 (fun H locs hP hS => ?_)
      obtain ⟨g7, hg7, hf⟩ := Option.bind_eq_some_iff.mp hf
      rw [Option.some.inj hg7] at hP
      obtain rfl := (Option.some.inj hf)
      exact W.vret hx hb hr (fun t ht hW => ⟨rfl, by rw [ht]; exact hP, va_K.moved hW.alike hK, hS.F ht⟩) hS.2.2 nd_Search_reach_63
set_option maxHeartbeats 4000000 in
set_option maxRecDepth 100000 in
theorem xc_Search_follow {l : Launch} {D : va_G} {A : Nat → Prop} {cA : Nat → ClassId} {ad : Nat → Nat} (hD : wdD 61 A ad) (a1 : Int32) (a2 : Int32) (h : XH) (q : XH) (hf : xf_Search_follow a1 a2 h = some q) : CT l D vwCl (xtys cA) A ny_Search_follow (wsO ny_Search_follow prog_8_method_5_code 4 none) (rmO 3 63) [.ref (ad 10), .int a1, .int a2] (xW cA ad h) (xW cA ad q) none := by
  refine Met.ofW (cc := prog_8_method_5_code) (maxL := 4) (ret := none) (by decide +kernel) rfl ?_
  intro p e s m args below meth c s₁ B hml hv
  obtain ⟨hav, hP, hK, hN⟩ := hv
  have hx := B.exec
  have hb := B.bytes
  have hr := B.returns
  have hts : ∀ w ∈ lw_wd, w.before args s = true := fun w hw => atoms_spec (ws := (wsO ny_Search_follow prog_8_method_5_code 4 none)) B.pre w (List.mem_cons_of_mem _ hw)
  have hown : s.vm.findClass "DrawnPaths$Search" = some m.cls := findClass_of_methodNamed B.named
  have hlocks := B.notSynchronized
  have hS : va_S A s.heap s.heap [] := va_S.rf
  have hl := lv_entry ([.ref (ad 10), .int a1, .int a2]) (n := 4) (Nat.le_of_ble_eq_true rfl)
  have hE : entryFrame m args 4 = entryFrame m ([.ref (ad 10), .int a1, .int a2] : List Value).toArray 4 := by rw [hav]
  rw [hE, lg_entry_eq]
  generalize (lg_sl ([.ref (ad 10), .int a1, .int a2]) ++ List.replicate (4 - (lg_sl ([.ref (ad 10), .int a1, .int a2])).length) Slot.unset).toArray = ls at hl ⊢
  have hl : lv_has ls 4 [(0, .ref (ad 10)), (1, .int a1), (2, .int a2)] := hl
  have J51 : ∀ (H : Heap) (locs : List Loc) (ls : Array Slot) (h : XH) (hP : va_P D vwCl (xW cA ad h) H) (v1 : Int32) (v2 : Int32) (v3 : Int32) (hS : va_S A s.heap H locs) (hl : lv_has ls 4 [(0, .ref (ad 10)), (1, .int v1), (2, .int v2), (3, .int v3)]) (hf : xf_Search_follow_J51 v1 v2 v3 h = some q), W p l e (headSpec (wsO ny_Search_follow prog_8_method_5_code 4 none) (rmO 3 63)).room s m args below meth c H locs 0 0 (MQ below (RetQ D vwCl (xtys cA) A none (xW cA ad q)) args s 0 0 A) (F0 m 51 ls []) := by
    intro H locs ls h hP v1 v2 v3 hS hl hf
    unfold xf_Search_follow_J51 at hf
    refine lv_iload_n hx hb nd_Search_follow_51 rfl (lv_at hl 3 rfl) ?_
    refine lv_if_eq (tgt := 73) hx hb nd_Search_follow_52 rfl (fun hc => ?_) (fun hc => ?_)
    · replace hf := (if_pos hc).symm.trans hf
      refine lv_aload_n hx hb nd_Search_follow_73 rfl (lv_at hl 0 rfl) ?_
      refine lv_iload_n hx hb nd_Search_follow_74 rfl (lv_at hl 1 rfl) ?_
      refine lv_iload_n hx hb nd_Search_follow_75 rfl (lv_at hl 2 rfl) ?_
      refine kc_S (As := [.int v1, .int v2]) (rest := [.ref (ad 10)]) (st1 := [.int (xf_Way_behind v1 v2), .ref (ad 10)]) ⟨hx, hb, hml, hown, hts⟩ (xc_Way_behind hD v1 v2 h _ rfl) (kb_Way_behind hts (hts _ nw_316) ⟨Nat.le_of_ble_eq_true rfl, Nat.le_of_ble_eq_true rfl⟩) hK hN hP hS rfl hl.1 rfl rfl (Nat.le_of_ble_eq_true rfl) ⟨Nat.zero_le _, Nat.zero_le _⟩ nd_Search_follow_76 (fun H locs hP hS => ?_)
      obtain ⟨q1, hq1, hf⟩ := Option.bind_eq_some_iff.mp hf
      refine kc_V (As := [.int (xf_Way_behind v1 v2)]) (rest := []) (st1 := []) ⟨hx, hb, hml, hown, hts⟩ (xc_Search_reach hD (xf_Way_behind v1 v2) h _ hq1) (kb_Search_reach hts (hts _ nw_286) ⟨Nat.le_of_ble_eq_true rfl, Nat.le_of_ble_eq_true rfl⟩) (xr_Search hK hP) hK hN hP hS rfl hl.1 rfl rfl (Nat.le_of_ble_eq_true rfl) ⟨Nat.zero_le _, Nat.zero_le _⟩ nd_Search_follow_79 (fun H locs hP hS => ?_)
      obtain rfl := (Option.some.inj hf)
      exact W.vret hx hb hr (fun t ht hW => ⟨rfl, by rw [ht]; exact hP, va_K.moved hW.alike hK, hS.F ht⟩) hS.2.2 nd_Search_follow_82
    · replace hf := (if_neg hc).symm.trans hf
      refine lv_iload_n hx hb nd_Search_follow_55 rfl (lv_at hl 2 rfl) ?_
      refine lv_bipush (v := 63) hx hb nd_Search_follow_56 (by decide) ?_
      refine lv_icmp_ne (tgt := 73) hx hb nd_Search_follow_58 rfl (fun hc => ?_) (fun hc => ?_)
      · replace hf := (if_neg hc).symm.trans hf
        refine lv_aload_n hx hb nd_Search_follow_73 rfl (lv_at hl 0 rfl) ?_
        refine lv_iload_n hx hb nd_Search_follow_74 rfl (lv_at hl 1 rfl) ?_
        refine lv_iload_n hx hb nd_Search_follow_75 rfl (lv_at hl 2 rfl) ?_
        refine kc_S (As := [.int v1, .int v2]) (rest := [.ref (ad 10)]) (st1 := [.int (xf_Way_behind v1 v2), .ref (ad 10)]) ⟨hx, hb, hml, hown, hts⟩ (xc_Way_behind hD v1 v2 h _ rfl) (kb_Way_behind hts (hts _ nw_316) ⟨Nat.le_of_ble_eq_true rfl, Nat.le_of_ble_eq_true rfl⟩) hK hN hP hS rfl hl.1 rfl rfl (Nat.le_of_ble_eq_true rfl) ⟨Nat.zero_le _, Nat.zero_le _⟩ nd_Search_follow_76 (fun H locs hP hS => ?_)
        obtain ⟨q2, hq2, hf⟩ := Option.bind_eq_some_iff.mp hf
        refine kc_V (As := [.int (xf_Way_behind v1 v2)]) (rest := []) (st1 := []) ⟨hx, hb, hml, hown, hts⟩ (xc_Search_reach hD (xf_Way_behind v1 v2) h _ hq2) (kb_Search_reach hts (hts _ nw_286) ⟨Nat.le_of_ble_eq_true rfl, Nat.le_of_ble_eq_true rfl⟩) (xr_Search hK hP) hK hN hP hS rfl hl.1 rfl rfl (Nat.le_of_ble_eq_true rfl) ⟨Nat.zero_le _, Nat.zero_le _⟩ nd_Search_follow_79 (fun H locs hP hS => ?_)
        obtain rfl := (Option.some.inj hf)
        exact W.vret hx hb hr (fun t ht hW => ⟨rfl, by rw [ht]; exact hP, va_K.moved hW.alike hK, hS.F ht⟩) hS.2.2 nd_Search_follow_82
      · replace hf := (if_pos hc).symm.trans hf
        refine lv_aload_n hx hb nd_Search_follow_61 rfl (lv_at hl 0 rfl) ?_
        refine lv_iload_n hx hb nd_Search_follow_62 rfl (lv_at hl 1 rfl) ?_
        refine lv_iconst (v := 1) hx hb nd_Search_follow_63 (by decide) ?_
        refine kc_S (As := [.int v1, .int (1 : Int32)]) (rest := [.ref (ad 10)]) (st1 := [.int (xf_Way_turned v1 (1 : Int32)), .ref (ad 10)]) ⟨hx, hb, hml, hown, hts⟩ (xc_Way_turned hD v1 (1 : Int32) h _ rfl) (kb_Way_turned hts (hts _ nw_303) ⟨Nat.le_of_ble_eq_true rfl, Nat.le_of_ble_eq_true rfl⟩) hK hN hP hS rfl hl.1 rfl rfl (Nat.le_of_ble_eq_true rfl) ⟨Nat.zero_le _, Nat.zero_le _⟩ nd_Search_follow_64 (fun H locs hP hS => ?_)
        refine kc_S (As := [.int (xf_Way_turned v1 (1 : Int32))]) (rest := [.ref (ad 10)]) (st1 := [.int (xf_Way_ahead (xf_Way_turned v1 (1 : Int32))), .ref (ad 10)]) ⟨hx, hb, hml, hown, hts⟩ (xc_Way_ahead hD (xf_Way_turned v1 (1 : Int32)) h _ rfl) (kb_Way_ahead hts (hts _ nw_312) ⟨Nat.le_of_ble_eq_true rfl, Nat.le_of_ble_eq_true rfl⟩) hK hN hP hS rfl hl.1 rfl rfl (Nat.le_of_ble_eq_true rfl) ⟨Nat.zero_le _, Nat.zero_le _⟩ nd_Search_follow_67 (fun H locs hP hS => ?_)
        obtain ⟨q3, hq3, hf⟩ := Option.bind_eq_some_iff.mp hf
        refine kc_V (As := [.int (xf_Way_ahead (xf_Way_turned v1 (1 : Int32)))]) (rest := []) (st1 := []) ⟨hx, hb, hml, hown, hts⟩ (xc_Search_reach hD (xf_Way_ahead (xf_Way_turned v1 (1 : Int32))) h _ hq3) (kb_Search_reach hts (hts _ nw_286) ⟨Nat.le_of_ble_eq_true rfl, Nat.le_of_ble_eq_true rfl⟩) (xr_Search hK hP) hK hN hP hS rfl hl.1 rfl rfl (Nat.le_of_ble_eq_true rfl) ⟨Nat.zero_le _, Nat.zero_le _⟩ nd_Search_follow_70 (fun H locs hP hS => ?_)
        refine lv_aload_n hx hb nd_Search_follow_73 rfl (lv_at hl 0 rfl) ?_
        refine lv_iload_n hx hb nd_Search_follow_74 rfl (lv_at hl 1 rfl) ?_
        refine lv_iload_n hx hb nd_Search_follow_75 rfl (lv_at hl 2 rfl) ?_
        refine kc_S (As := [.int v1, .int v2]) (rest := [.ref (ad 10)]) (st1 := [.int (xf_Way_behind v1 v2), .ref (ad 10)]) ⟨hx, hb, hml, hown, hts⟩ (xc_Way_behind hD v1 v2 q3 _ rfl) (kb_Way_behind hts (hts _ nw_316) ⟨Nat.le_of_ble_eq_true rfl, Nat.le_of_ble_eq_true rfl⟩) hK hN hP hS rfl hl.1 rfl rfl (Nat.le_of_ble_eq_true rfl) ⟨Nat.zero_le _, Nat.zero_le _⟩ nd_Search_follow_76 (fun H locs hP hS => ?_)
        obtain ⟨q4, hq4, hf⟩ := Option.bind_eq_some_iff.mp hf
        refine kc_V (As := [.int (xf_Way_behind v1 v2)]) (rest := []) (st1 := []) ⟨hx, hb, hml, hown, hts⟩ (xc_Search_reach hD (xf_Way_behind v1 v2) q3 _ hq4) (kb_Search_reach hts (hts _ nw_286) ⟨Nat.le_of_ble_eq_true rfl, Nat.le_of_ble_eq_true rfl⟩) (xr_Search hK hP) hK hN hP hS rfl hl.1 rfl rfl (Nat.le_of_ble_eq_true rfl) ⟨Nat.zero_le _, Nat.zero_le _⟩ nd_Search_follow_79 (fun H locs hP hS => ?_)
        obtain rfl := (Option.some.inj hf)
        exact W.vret hx hb hr (fun t ht hW => ⟨rfl, by rw [ht]; exact hP, va_K.moved hW.alike hK, hS.F ht⟩) hS.2.2 nd_Search_follow_82
  have J39 : ∀ (H : Heap) (locs : List Loc) (ls : Array Slot) (h : XH) (hP : va_P D vwCl (xW cA ad h) H) (v1 : Int32) (v2 : Int32) (v3 : Int32) (hS : va_S A s.heap H locs) (hl : lv_has ls 4 [(0, .ref (ad 10)), (1, .int v1), (2, .int v2), (3, .int v3)]) (hf : xf_Search_follow_J39 v1 v2 v3 h = some q), W p l e (headSpec (wsO ny_Search_follow prog_8_method_5_code 4 none) (rmO 3 63)).room s m args below meth c H locs 0 0 (MQ below (RetQ D vwCl (xtys cA) A none (xW cA ad q)) args s 0 0 A) (F0 m 39 ls []) := by
    intro H locs ls h hP v1 v2 v3 hS hl hf
    unfold xf_Search_follow_J39 at hf
    refine lv_aload_n hx hb nd_Search_follow_39 rfl (lv_at hl 0 rfl) ?_
    refine lv_iload_n hx hb nd_Search_follow_40 rfl (lv_at hl 1 rfl) ?_
    refine lv_iconst (v := 3) hx hb nd_Search_follow_41 (by decide) ?_
    refine kc_S (As := [.int v1, .int (3 : Int32)]) (rest := [.ref (ad 10)]) (st1 := [.int (xf_Way_turned v1 (3 : Int32)), .ref (ad 10)]) ⟨hx, hb, hml, hown, hts⟩ (xc_Way_turned hD v1 (3 : Int32) h _ rfl) (kb_Way_turned hts (hts _ nw_303) ⟨Nat.le_of_ble_eq_true rfl, Nat.le_of_ble_eq_true rfl⟩) hK hN hP hS rfl hl.1 rfl rfl (Nat.le_of_ble_eq_true rfl) ⟨Nat.zero_le _, Nat.zero_le _⟩ nd_Search_follow_42 (fun H locs hP hS => ?_)
    refine kc_S (As := [.int (xf_Way_turned v1 (3 : Int32))]) (rest := [.ref (ad 10)]) (st1 := [.int (xf_Way_ahead (xf_Way_turned v1 (3 : Int32))), .ref (ad 10)]) ⟨hx, hb, hml, hown, hts⟩ (xc_Way_ahead hD (xf_Way_turned v1 (3 : Int32)) h _ rfl) (kb_Way_ahead hts (hts _ nw_312) ⟨Nat.le_of_ble_eq_true rfl, Nat.le_of_ble_eq_true rfl⟩) hK hN hP hS rfl hl.1 rfl rfl (Nat.le_of_ble_eq_true rfl) ⟨Nat.zero_le _, Nat.zero_le _⟩ nd_Search_follow_45 (fun H locs hP hS => ?_)
    obtain ⟨q5, hq5, hf⟩ := Option.bind_eq_some_iff.mp hf
    refine kc_V (As := [.int (xf_Way_ahead (xf_Way_turned v1 (3 : Int32)))]) (rest := []) (st1 := []) ⟨hx, hb, hml, hown, hts⟩ (xc_Search_reach hD (xf_Way_ahead (xf_Way_turned v1 (3 : Int32))) h _ hq5) (kb_Search_reach hts (hts _ nw_286) ⟨Nat.le_of_ble_eq_true rfl, Nat.le_of_ble_eq_true rfl⟩) (xr_Search hK hP) hK hN hP hS rfl hl.1 rfl rfl (Nat.le_of_ble_eq_true rfl) ⟨Nat.zero_le _, Nat.zero_le _⟩ nd_Search_follow_48 (fun H locs hP hS => ?_)
    exact J51 _ _ _ q5 hP v1 v2 v3 hS (lv_sub hl [0, 1, 2, 3] rfl) hf
  have J23 : ∀ (H : Heap) (locs : List Loc) (ls : Array Slot) (h : XH) (hP : va_P D vwCl (xW cA ad h) H) (v1 : Int32) (v2 : Int32) (v3 : Int32) (hS : va_S A s.heap H locs) (hl : lv_has ls 4 [(0, .ref (ad 10)), (1, .int v1), (2, .int v2), (3, .int v3)]) (hf : xf_Search_follow_J23 v1 v2 v3 h = some q), W p l e (headSpec (wsO ny_Search_follow prog_8_method_5_code 4 none) (rmO 3 63)).room s m args below meth c H locs 0 0 (MQ below (RetQ D vwCl (xtys cA) A none (xW cA ad q)) args s 0 0 A) (F0 m 23 ls []) := by
    intro H locs ls h hP v1 v2 v3 hS hl hf
    unfold xf_Search_follow_J23 at hf
    refine lv_iload_n hx hb nd_Search_follow_23 rfl (lv_at hl 3 rfl) ?_
    refine lv_if_eq (tgt := 51) hx hb nd_Search_follow_24 rfl (fun hc => ?_) (fun hc => ?_)
    · replace hf := (if_pos hc).symm.trans hf
      exact J51 _ _ _ h hP v1 v2 v3 hS (lv_sub hl [0, 1, 2, 3] rfl) hf
    · replace hf := (if_neg hc).symm.trans hf
      refine lv_iload_n hx hb nd_Search_follow_27 rfl (lv_at hl 2 rfl) ?_
      refine lv_bipush (v := 63) hx hb nd_Search_follow_28 (by decide) ?_
      refine lv_icmp_eq (tgt := 39) hx hb nd_Search_follow_30 rfl (fun hc => ?_) (fun hc => ?_)
      · replace hf := (if_pos hc).symm.trans hf
        exact J39 _ _ _ h hP v1 v2 v3 hS (lv_sub hl [0, 1, 2, 3] rfl) hf
      · replace hf := (if_neg hc).symm.trans hf
        refine lv_iload_n hx hb nd_Search_follow_33 rfl (lv_at hl 2 rfl) ?_
        refine lv_bipush (v := 102) hx hb nd_Search_follow_34 (by decide) ?_
        refine lv_icmp_ne (tgt := 51) hx hb nd_Search_follow_36 rfl (fun hc => ?_) (fun hc => ?_)
        · replace hf := (if_neg hc).symm.trans hf
          exact J51 _ _ _ h hP v1 v2 v3 hS (lv_sub hl [0, 1, 2, 3] rfl) hf
        · replace hf := (if_pos hc).symm.trans hf
          exact J39 _ _ _ h hP v1 v2 v3 hS (lv_sub hl [0, 1, 2, 3] rfl) hf
  unfold xf_Search_follow at hf
  refine lv_iload_n hx hb nd_Search_follow_0 rfl (lv_at hl 1 rfl) ?_
  refine lv_iload_n hx hb nd_Search_follow_1 rfl (lv_at hl 2 rfl) ?_
  refine kc_SN (As := [.int a1, .int a2]) (rest := []) (st1 := [.int (xf_P_isAct a1 a2)]) ⟨hx, hb, hml, hown, hts⟩ (xc_P_isAct hD a1 a2 h _ rfl) (kb_P_isActN hts (hN.1 _ nw_297) ⟨Nat.le_of_ble_eq_true rfl, Nat.le_of_ble_eq_true rfl⟩) hK hN hP hS rfl hl.1 rfl rfl (Nat.le_of_ble_eq_true rfl) ⟨Nat.zero_le _, Nat.zero_le _⟩ nd_Search_follow_2 (fun H locs hP hS => ?_)
  refine lv_istore_n (lv' := [(3, .int (xf_P_isAct a1 a2)), (0, .ref (ad 10)), (1, .int a1), (2, .int a2)]) hx hb nd_Search_follow_5 rfl hl (by decide) rfl (fun ls hl => ?_)
  refine lv_iload_n hx hb nd_Search_follow_6 rfl (lv_at hl 0 rfl) ?_
  refine lv_if_eq (tgt := 23) hx hb nd_Search_follow_7 rfl (fun hc => ?_) (fun hc => ?_)
  · replace hf := (if_pos hc).symm.trans hf
    exact J23 _ _ _ h hP a1 a2 (xf_P_isAct a1 a2) hS (lv_sub hl [1, 2, 3, 0] rfl) hf
  · replace hf := (if_neg hc).symm.trans hf
    refine lv_iload_n hx hb nd_Search_follow_10 rfl (lv_at hl 3 rfl) ?_
    refine lv_bipush (v := 82) hx hb nd_Search_follow_11 (by decide) ?_
    refine lv_icmp_eq (tgt := 22) hx hb nd_Search_follow_13 rfl (fun hc => ?_) (fun hc => ?_)
    · replace hf := (if_pos hc).symm.trans hf
      obtain rfl := (Option.some.inj hf)
      exact W.vret hx hb hr (fun t ht hW => ⟨rfl, by rw [ht]; exact hP, va_K.moved hW.alike hK, hS.F ht⟩) hS.2.2 nd_Search_follow_22
    · replace hf := (if_neg hc).symm.trans hf
      refine lv_iload_n hx hb nd_Search_follow_16 rfl (lv_at hl 3 rfl) ?_
      refine lv_bipush (v := 64) hx hb nd_Search_follow_17 (by decide) ?_
      refine lv_icmp_ne (tgt := 23) hx hb nd_Search_follow_19 rfl (fun hc => ?_) (fun hc => ?_)
      · replace hf := (if_neg hc).symm.trans hf
        exact J23 _ _ _ h hP a1 a2 (xf_P_isAct a1 a2) hS (lv_sub hl [1, 2, 3, 0] rfl) hf
      · replace hf := (if_pos hc).symm.trans hf
        obtain rfl := (Option.some.inj hf)
        exact W.vret hx hb hr (fun t ht hW => ⟨rfl, by rw [ht]; exact hP, va_K.moved hW.alike hK, hS.F ht⟩) hS.2.2 nd_Search_follow_22
set_option maxHeartbeats 4000000 in
set_option maxRecDepth 100000 in
theorem xc_Search_explore {l : Launch} {D : va_G} {A : Nat → Prop} {cA : Nat → ClassId} {ad : Nat → Nat} (hD : wdD 61 A ad) (fuel : Nat) (h : XH) (q : XH) (hf : xf_Search_explore fuel h = some q) : CT l D vwCl (xtys cA) A ny_Search_explore (wsO ny_Search_explore prog_8_method_2_code 3 none) (rmO 4 86) [.ref (ad 10), .ref (ad 5)] (xW cA ad h) (xW cA ad q) none := by
  refine Met.ofW (cc := prog_8_method_2_code) (maxL := 3) (ret := none) (by decide +kernel) rfl ?_
  intro p e s m args below meth c s₁ B hml hv
  obtain ⟨hav, hP, hK, hN⟩ := hv
  have hx := B.exec
  have hb := B.bytes
  have hr := B.returns
  have hts : ∀ w ∈ lw_wd, w.before args s = true := fun w hw => atoms_spec (ws := (wsO ny_Search_explore prog_8_method_2_code 3 none)) B.pre w (List.mem_cons_of_mem _ hw)
  have hown : s.vm.findClass "DrawnPaths$Search" = some m.cls := findClass_of_methodNamed B.named
  have hlocks := B.notSynchronized
  have hS : va_S A s.heap s.heap [] := va_S.rf
  have hl := lv_entry ([.ref (ad 10), .ref (ad 5)]) (n := 3) (Nat.le_of_ble_eq_true rfl)
  have hE : entryFrame m args 3 = entryFrame m ([.ref (ad 10), .ref (ad 5)] : List Value).toArray 3 := by rw [hav]
  rw [hE, lg_entry_eq]
  generalize (lg_sl ([.ref (ad 10), .ref (ad 5)]) ++ List.replicate (3 - (lg_sl ([.ref (ad 10), .ref (ad 5)])).length) Slot.unset).toArray = ls at hl ⊢
  have hl : lv_has ls 3 [(0, .ref (ad 10)), (1, .ref (ad 5))] := hl
  have L38 : ∀ (n : Nat) (H : Heap) (locs : List Loc) (ls : Array Slot) (h : XH) (hP : va_P D vwCl (xW cA ad h) H) (v2 : Int32) (hS : va_S A s.heap H locs) (hl : lv_has ls 3 [(0, .ref (ad 10)), (1, .ref (ad 5)), (2, .int v2)]) (hf : xf_Search_explore_L38 fuel n v2 h = some q), W p l e (headSpec (wsO ny_Search_explore prog_8_method_2_code 3 none) (rmO 4 86)).room s m args below meth c H locs 0 0 (MQ below (RetQ D vwCl (xtys cA) A none (xW cA ad q)) args s 0 0 A) (F0 m 38 ls []) := by
    intro n
    induction n with
    | zero =>
      intro H locs ls h hP v2 hS hl hf
      rw [xf_Search_explore_L38] at hf
      cases hf
    | succ nL38 ihL38 =>
      intro H locs ls h hP v2 hS hl hf
      rw [xf_Search_explore_L38] at hf
      refine lv_iload_n hx hb nd_Search_explore_38 rfl (lv_at hl 2 rfl) ?_
      refine lv_sipush (v := 768) hx hb nd_Search_explore_39 (by decide) ?_
      refine lv_icmp_ge (tgt := 80) hx hb nd_Search_explore_42 rfl (fun hc => ?_) (fun hc => ?_)
      · replace hf := (if_pos hc).symm.trans hf
        obtain rfl := (Option.some.inj hf)
        exact W.vret hx hb hr (fun t ht hW => ⟨rfl, by rw [ht]; exact hP, va_K.moved hW.alike hK, hS.F ht⟩) hS.2.2 nd_Search_explore_80
      · replace hf := (if_neg hc).symm.trans hf
        refine lv_iload_n hx hb nd_Search_explore_45 rfl (lv_at hl 2 rfl) ?_
        refine lv_aload_n hx hb nd_Search_explore_46 rfl (lv_at hl 0 rfl) ?_
        refine xg_Search_size hx hb hts hown hK hP (hts _ nw_193) nd_Search_explore_47 ?_
        refine lv_icmp_ge (tgt := 80) hx hb nd_Search_explore_50 rfl (fun hc => ?_) (fun hc => ?_)
        · replace hf := (if_pos hc).symm.trans hf
          obtain rfl := (Option.some.inj hf)
          exact W.vret hx hb hr (fun t ht hW => ⟨rfl, by rw [ht]; exact hP, va_K.moved hW.alike hK, hS.F ht⟩) hS.2.2 nd_Search_explore_80
        · replace hf := (if_neg hc).symm.trans hf
          refine lv_aload_n hx hb nd_Search_explore_53 rfl (lv_at hl 0 rfl) ?_
          refine lv_aload_n hx hb nd_Search_explore_54 rfl (lv_at hl 0 rfl) ?_
          refine xg_Search_found hx hb hts hown hK hP (hts _ nw_192) nd_Search_explore_55 ?_
          refine lv_iload_n hx hb nd_Search_explore_58 rfl (lv_at hl 2 rfl) ?_
          obtain ⟨j3, hj3, hf⟩ := Option.bind_eq_some_iff.mp hf
          refine xal_sfound hx hb hK hP hj3 nd_Search_explore_59 ?_
          refine lv_aload_n hx hb nd_Search_explore_60 rfl (lv_at hl 1 rfl) ?_
          refine lv_aload_n hx hb nd_Search_explore_61 rfl (lv_at hl 0 rfl) ?_
          refine xg_Search_found hx hb hts hown hK hP (hts _ nw_192) nd_Search_explore_62 ?_
          refine lv_iload_n hx hb nd_Search_explore_65 rfl (lv_at hl 2 rfl) ?_
          obtain ⟨j4, hj4, hf⟩ := Option.bind_eq_some_iff.mp hf
          refine xal_sfound hx hb hK hP hj4 nd_Search_explore_66 ?_
          refine kc_S (As := [.int (xh_sfound h j4)]) (rest := [.ref (ad 5), .int (xh_sfound h j3), .ref (ad 10)]) (st1 := [.int (xf_Way_place (xh_sfound h j4)), .ref (ad 5), .int (xh_sfound h j3), .ref (ad 10)]) ⟨hx, hb, hml, hown, hts⟩ (xc_Way_place hD (xh_sfound h j4) h _ rfl) (kb_Way_place hts (hts _ nw_290) ⟨Nat.le_of_ble_eq_true rfl, Nat.le_of_ble_eq_true rfl⟩) hK hN hP hS rfl hl.1 rfl rfl (Nat.le_of_ble_eq_true rfl) ⟨Nat.zero_le _, Nat.zero_le _⟩ nd_Search_explore_67 (fun H locs hP hS => ?_)
          obtain ⟨j5, hj5, hf⟩ := Option.bind_eq_some_iff.mp hf
          refine xal_signs hx hb hK hP hj5 nd_Search_explore_70 ?_
          obtain ⟨q6, hq6, hf⟩ := Option.bind_eq_some_iff.mp hf
          refine kc_V (As := [.int (xh_sfound h j3), .int (xh_signs h j5)]) (rest := []) (st1 := []) ⟨hx, hb, hml, hown, hts⟩ (xc_Search_follow hD (xh_sfound h j3) (xh_signs h j5) h _ hq6) (kb_Search_follow hts (hts _ nw_293) ⟨Nat.le_of_ble_eq_true rfl, Nat.le_of_ble_eq_true rfl⟩) (xr_Search hK hP) hK hN hP hS rfl hl.1 rfl rfl (Nat.le_of_ble_eq_true rfl) ⟨Nat.zero_le _, Nat.zero_le _⟩ nd_Search_explore_71 (fun H locs hP hS => ?_)
          refine lv_iinc (v := (v2 + (1 : Int32))) (lv' := [(2, .int (v2 + (1 : Int32))), (0, .ref (ad 10)), (1, .ref (ad 5))]) hx hb nd_Search_explore_74 hl (k := 2) rfl rfl (by decide) rfl (fun ls hl => ?_)
          refine lv_goto hx hb nd_Search_explore_77 (tgt := 38) rfl ?_
          exact ihL38 _ _ _ q6 hP (v2 + (1 : Int32)) hS (lv_sub hl [1, 2, 0] rfl) hf
  have L2 : ∀ (n : Nat) (H : Heap) (locs : List Loc) (ls : Array Slot) (h : XH) (hP : va_P D vwCl (xW cA ad h) H) (v2 : Int32) (hS : va_S A s.heap H locs) (hl : lv_has ls 3 [(0, .ref (ad 10)), (1, .ref (ad 5)), (2, .int v2)]) (hf : xf_Search_explore_L2 fuel n v2 h = some q), W p l e (headSpec (wsO ny_Search_explore prog_8_method_2_code 3 none) (rmO 4 86)).room s m args below meth c H locs 0 0 (MQ below (RetQ D vwCl (xtys cA) A none (xW cA ad q)) args s 0 0 A) (F0 m 2 ls []) := by
    intro n
    induction n with
    | zero =>
      intro H locs ls h hP v2 hS hl hf
      rw [xf_Search_explore_L2] at hf
      cases hf
    | succ nL2 ihL2 =>
      intro H locs ls h hP v2 hS hl hf
      rw [xf_Search_explore_L2] at hf
      refine lv_iload_n hx hb nd_Search_explore_2 rfl (lv_at hl 2 rfl) ?_
      refine lv_bipush (v := 96) hx hb nd_Search_explore_3 (by decide) ?_
      refine lv_icmp_ge (tgt := 21) hx hb nd_Search_explore_5 rfl (fun hc => ?_) (fun hc => ?_)
      · replace hf := (if_pos hc).symm.trans hf
        refine lv_aload_n hx hb nd_Search_explore_21 rfl (lv_at hl 0 rfl) ?_
        refine lv_iconst (v := 0) hx hb nd_Search_explore_22 (by decide) ?_
        refine xp_Search_size hx hb hts hown hK hD hP hS (hts _ nw_193) nd_Search_explore_23 (fun H locs hP hS => ?_)
        obtain ⟨g1, hg1, hf⟩ := Option.bind_eq_some_iff.mp hf
        rw [Option.some.inj hg1] at hP
        refine lv_aload_n hx hb nd_Search_explore_26 rfl (lv_at hl 0 rfl) ?_
        refine lv_iconst (v := 0) hx hb nd_Search_explore_27 (by decide) ?_
        refine lv_iconst (v := 0) hx hb nd_Search_explore_28 (by decide) ?_
        refine lv_iconst (v := 0) hx hb nd_Search_explore_29 (by decide) ?_
        refine kc_S (As := [.int (0 : Int32), .int (0 : Int32), .int (0 : Int32)]) (rest := [.ref (ad 10)]) (st1 := [.int (xf_Way_of (0 : Int32) (0 : Int32) (0 : Int32)), .ref (ad 10)]) ⟨hx, hb, hml, hown, hts⟩ (xc_Way_of hD (0 : Int32) (0 : Int32) (0 : Int32) g1 _ rfl) (kb_Way_of hts (hts _ nw_285) ⟨Nat.le_of_ble_eq_true rfl, Nat.le_of_ble_eq_true rfl⟩) hK hN hP hS rfl hl.1 rfl rfl (Nat.le_of_ble_eq_true rfl) ⟨Nat.zero_le _, Nat.zero_le _⟩ nd_Search_explore_30 (fun H locs hP hS => ?_)
        obtain ⟨q2, hq2, hf⟩ := Option.bind_eq_some_iff.mp hf
        refine kc_V (As := [.int (xf_Way_of (0 : Int32) (0 : Int32) (0 : Int32))]) (rest := []) (st1 := []) ⟨hx, hb, hml, hown, hts⟩ (xc_Search_reach hD (xf_Way_of (0 : Int32) (0 : Int32) (0 : Int32)) g1 _ hq2) (kb_Search_reach hts (hts _ nw_286) ⟨Nat.le_of_ble_eq_true rfl, Nat.le_of_ble_eq_true rfl⟩) (xr_Search hK hP) hK hN hP hS rfl hl.1 rfl rfl (Nat.le_of_ble_eq_true rfl) ⟨Nat.zero_le _, Nat.zero_le _⟩ nd_Search_explore_33 (fun H locs hP hS => ?_)
        refine lv_iconst (v := 0) hx hb nd_Search_explore_36 (by decide) ?_
        refine lv_istore_n (lv' := [(2, .int (0 : Int32)), (0, .ref (ad 10)), (1, .ref (ad 5))]) hx hb nd_Search_explore_37 rfl hl (by decide) rfl (fun ls hl => ?_)
        exact L38 fuel _ _ _ q2 hP (0 : Int32) hS (lv_sub hl [1, 2, 0] rfl) hf
      · replace hf := (if_neg hc).symm.trans hf
        refine lv_aload_n hx hb nd_Search_explore_8 rfl (lv_at hl 0 rfl) ?_
        refine xg_Search_marks hx hb hts hown hK hP (hts _ nw_191) nd_Search_explore_9 ?_
        refine lv_iload_n hx hb nd_Search_explore_12 rfl (lv_at hl 2 rfl) ?_
        refine lv_iconst (v := 0) hx hb nd_Search_explore_13 (by decide) ?_
        obtain ⟨j7, hj7, hf⟩ := Option.bind_eq_some_iff.mp hf
        refine xas_smarks hx hb hK hD hP hS hj7 nd_Search_explore_14 (fun H locs hP hS => ?_)
        obtain ⟨g8, hg8, hf⟩ := Option.bind_eq_some_iff.mp hf
        rw [Option.some.inj hg8] at hP
        refine lv_iinc (v := (v2 + (1 : Int32))) (lv' := [(2, .int (v2 + (1 : Int32))), (0, .ref (ad 10)), (1, .ref (ad 5))]) hx hb nd_Search_explore_15 hl (k := 2) rfl rfl (by decide) rfl (fun ls hl => ?_)
        refine lv_goto hx hb nd_Search_explore_18 (tgt := 2) rfl ?_
        exact ihL2 _ _ _ g8 hP (v2 + (1 : Int32)) hS (lv_sub hl [1, 2, 0] rfl) hf
  unfold xf_Search_explore at hf
  refine lv_iconst (v := 0) hx hb nd_Search_explore_0 (by decide) ?_
  refine lv_istore_n (lv' := [(2, .int (0 : Int32)), (0, .ref (ad 10)), (1, .ref (ad 5))]) hx hb nd_Search_explore_1 rfl hl (by decide) rfl (fun ls hl => ?_)
  exact L2 fuel _ _ _ h hP (0 : Int32) hS (lv_sub hl [1, 2, 0] rfl) hf
end
section
set_option maxHeartbeats 4000000 in
set_option maxRecDepth 100000 in
theorem xc_Search_cameTo {l : Launch} {D : va_G} {A : Nat → Prop} {cA : Nat → ClassId} {ad : Nat → Nat} (hD : wdD 61 A ad) (a1 : Int32) (h : XH) (q : Int32) (hf : xf_Search_cameTo a1 h = some q) : CT l D vwCl (xtys cA) A ny_Search_cameTo (wsO ny_Search_cameTo prog_8_method_3_code 2 (some .boolean)) (rmO 0 0) [.ref (ad 10), .int a1] (xW cA ad h) (xW cA ad h) (some (.int q)) := by
  refine Met.ofW (cc := prog_8_method_3_code) (maxL := 2) (ret := (some .boolean)) (by decide +kernel) rfl ?_
  intro p e s m args below meth c s₁ B hml hv
  obtain ⟨hav, hP, hK, hN⟩ := hv
  have hx := B.exec
  have hb := B.bytes
  have hr := B.returns
  have hts : ∀ w ∈ lw_wd, w.before args s = true := fun w hw => atoms_spec (ws := (wsO ny_Search_cameTo prog_8_method_3_code 2 (some .boolean))) B.pre w (List.mem_cons_of_mem _ hw)
  have hown : s.vm.findClass "DrawnPaths$Search" = some m.cls := findClass_of_methodNamed B.named
  have hlocks := B.notSynchronized
  have hS : va_S A s.heap s.heap [] := va_S.rf
  have hl := lv_entry ([.ref (ad 10), .int a1]) (n := 2) (Nat.le_of_ble_eq_true rfl)
  have hE : entryFrame m args 2 = entryFrame m ([.ref (ad 10), .int a1] : List Value).toArray 2 := by rw [hav]
  rw [hE, lg_entry_eq]
  generalize (lg_sl ([.ref (ad 10), .int a1]) ++ List.replicate (2 - (lg_sl ([.ref (ad 10), .int a1])).length) Slot.unset).toArray = ls at hl ⊢
  have hl : lv_has ls 2 [(0, .ref (ad 10)), (1, .int a1)] := hl
  unfold xf_Search_cameTo at hf
  refine lv_aload_n hx hb nd_Search_cameTo_0 rfl (lv_at hl 0 rfl) ?_
  refine xg_Search_marks hx hb hts hown hK hP (hts _ nw_191) nd_Search_cameTo_1 ?_
  refine lv_iload_n hx hb nd_Search_cameTo_4 rfl (lv_at hl 1 rfl) ?_
  obtain ⟨j1, hj1, hf⟩ := Option.bind_eq_some_iff.mp hf
  refine xal_smarks hx hb hK hP hj1 nd_Search_cameTo_5 ?_
  refine lv_if_eq (tgt := 13) hx hb nd_Search_cameTo_6 rfl (fun hc => ?_) (fun hc => ?_)
  · replace hf := (if_pos hc).symm.trans hf
    refine lv_iconst (v := 0) hx hb nd_Search_cameTo_13 (by decide) ?_
    obtain rfl := (Option.some.inj hf)
    exact W.zret hx hb hr (by decide) (fun t ht hW => ⟨rfl, by rw [ht]; exact hP, va_K.moved hW.alike hK, hS.F ht⟩) hS.2.2 nd_Search_cameTo_14
  · replace hf := (if_neg hc).symm.trans hf
    refine lv_iconst (v := 1) hx hb nd_Search_cameTo_9 (by decide) ?_
    refine lv_goto hx hb nd_Search_cameTo_10 (tgt := 14) rfl ?_
    obtain rfl := (Option.some.inj hf)
    exact W.zret hx hb hr (by decide) (fun t ht hW => ⟨rfl, by rw [ht]; exact hP, va_K.moved hW.alike hK, hS.F ht⟩) hS.2.2 nd_Search_cameTo_14
set_option maxHeartbeats 4000000 in
set_option maxRecDepth 100000 in
theorem xc_P_lostPlaces {l : Launch} {D : va_G} {A : Nat → Prop} {cA : Nat → ClassId} {ad : Nat → Nat} (hD : wdD 61 A ad) (fuel : Nat) (h : XH) (q : Int32 × XH) (hf : xf_P_lostPlaces fuel h = some q) : CT l D vwCl (xtys cA) A ny_P_lostPlaces (wsO ny_P_lostPlaces prog_1_method_20_code 3 (some .int)) (rmO 5 108) [.ref (ad 0)] (xW cA ad h) (xW cA ad q.2) (some (.int q.1)) := by
  refine Met.ofW (cc := prog_1_method_20_code) (maxL := 3) (ret := (some .int)) (by decide +kernel) rfl ?_
  intro p e s m args below meth c s₁ B hml hv
  obtain ⟨hav, hP, hK, hN⟩ := hv
  have hx := B.exec
  have hb := B.bytes
  have hr := B.returns
  have hts : ∀ w ∈ lw_wd, w.before args s = true := fun w hw => atoms_spec (ws := (wsO ny_P_lostPlaces prog_1_method_20_code 3 (some .int))) B.pre w (List.mem_cons_of_mem _ hw)
  have hown : s.vm.findClass "DrawnPaths" = some m.cls := findClass_of_methodNamed B.named
  have hlocks := B.notSynchronized
  have hS : va_S A s.heap s.heap [] := va_S.rf
  have hl := lv_entry ([.ref (ad 0)]) (n := 3) (Nat.le_of_ble_eq_true rfl)
  have hE : entryFrame m args 3 = entryFrame m ([.ref (ad 0)] : List Value).toArray 3 := by rw [hav]
  rw [hE, lg_entry_eq]
  generalize (lg_sl ([.ref (ad 0)]) ++ List.replicate (3 - (lg_sl ([.ref (ad 0)])).length) Slot.unset).toArray = ls at hl ⊢
  have hl : lv_has ls 3 [(0, .ref (ad 0))] := hl
  have L18 : ∀ (n : Nat) (H : Heap) (locs : List Loc) (ls : Array Slot) (h : XH) (hP : va_P D vwCl (xW cA ad h) H) (v1 : Int32) (v2 : Int32) (hS : va_S A s.heap H locs) (hl : lv_has ls 3 [(0, .ref (ad 0)), (1, .int v1), (2, .int v2)]) (hf : xf_P_lostPlaces_L18 fuel n v1 v2 h = some q), W p l e (headSpec (wsO ny_P_lostPlaces prog_1_method_20_code 3 (some .int)) (rmO 5 108)).room s m args below meth c H locs 0 0 (MQ below (RetQ D vwCl (xtys cA) A (some (.int q.1)) (xW cA ad q.2)) args s 0 0 A) (F0 m 18 ls []) := by
    intro n
    induction n with
    | zero =>
      intro H locs ls h hP v1 v2 hS hl hf
      rw [xf_P_lostPlaces_L18] at hf
      cases hf
    | succ nL18 ihL18 =>
      have J52 : ∀ (H : Heap) (locs : List Loc) (ls : Array Slot) (h : XH) (hP : va_P D vwCl (xW cA ad h) H) (v1 : Int32) (v2 : Int32) (hS : va_S A s.heap H locs) (hl : lv_has ls 3 [(0, .ref (ad 0)), (1, .int v1), (2, .int v2)]) (hf : xf_P_lostPlaces_J52 fuel (xf_P_lostPlaces_L18 fuel nL18) v1 v2 h = some q), W p l e (headSpec (wsO ny_P_lostPlaces prog_1_method_20_code 3 (some .int)) (rmO 5 108)).room s m args below meth c H locs 0 0 (MQ below (RetQ D vwCl (xtys cA) A (some (.int q.1)) (xW cA ad q.2)) args s 0 0 A) (F0 m 52 ls []) := by
        intro H locs ls h hP v1 v2 hS hl hf
        unfold xf_P_lostPlaces_J52 at hf
        refine lv_iinc (v := (v2 + (1 : Int32))) (lv' := [(2, .int (v2 + (1 : Int32))), (0, .ref (ad 0)), (1, .int v1)]) hx hb nd_P_lostPlaces_52 hl (k := 2) rfl rfl (by decide) rfl (fun ls hl => ?_)
        refine lv_goto hx hb nd_P_lostPlaces_55 (tgt := 18) rfl ?_
        exact ihL18 _ _ _ h hP v1 (v2 + (1 : Int32)) hS (lv_sub hl [1, 2, 0] rfl) hf
      intro H locs ls h hP v1 v2 hS hl hf
      rw [xf_P_lostPlaces_L18] at hf
      refine lv_iload_n hx hb nd_P_lostPlaces_18 rfl (lv_at hl 2 rfl) ?_
      refine lv_bipush (v := 96) hx hb nd_P_lostPlaces_19 (by decide) ?_
      refine lv_icmp_ge (tgt := 58) hx hb nd_P_lostPlaces_21 rfl (fun hc => ?_) (fun hc => ?_)
      · replace hf := (if_pos hc).symm.trans hf
        refine lv_iload_n hx hb nd_P_lostPlaces_58 rfl (lv_at hl 1 rfl) ?_
        obtain rfl := (Option.some.inj hf)
        exact W.iret hx hb hr (fun t ht hW => ⟨rfl, by rw [ht]; exact hP, va_K.moved hW.alike hK, hS.F ht⟩) hS.2.2 nd_P_lostPlaces_59
      · replace hf := (if_neg hc).symm.trans hf
        refine lv_aload_n hx hb nd_P_lostPlaces_24 rfl (lv_at hl 0 rfl) ?_
        refine xg_P_field hx hb hts hown hK hP (hts _ nw_204) nd_P_lostPlaces_25 ?_
        refine xg_Field_signs hx hb hts hown hK hP (hts _ nw_87) nd_P_lostPlaces_28 ?_
        refine lv_iload_n hx hb nd_P_lostPlaces_31 rfl (lv_at hl 2 rfl) ?_
        obtain ⟨j2, hj2, hf⟩ := Option.bind_eq_some_iff.mp hf
        refine xal_signs hx hb hK hP hj2 nd_P_lostPlaces_32 ?_
        refine lv_bipush (v := 32) hx hb nd_P_lostPlaces_33 (by decide) ?_
        refine lv_icmp_eq (tgt := 52) hx hb nd_P_lostPlaces_35 rfl (fun hc => ?_) (fun hc => ?_)
        · replace hf := (if_pos hc).symm.trans hf
          exact J52 _ _ _ h hP v1 v2 hS (lv_sub hl [0, 1, 2] rfl) hf
        · replace hf := (if_neg hc).symm.trans hf
          refine lv_aload_n hx hb nd_P_lostPlaces_38 rfl (lv_at hl 0 rfl) ?_
          refine xg_P_search hx hb hts hown hK hP (hts _ nw_206) nd_P_lostPlaces_39 ?_
          refine lv_iload_n hx hb nd_P_lostPlaces_42 rfl (lv_at hl 2 rfl) ?_
          obtain ⟨q3, hq3, hf⟩ := Option.bind_eq_some_iff.mp hf
          refine kc_V (As := [.int v2]) (rest := []) (st1 := [.int q3]) ⟨hx, hb, hml, hown, hts⟩ (xc_Search_cameTo hD v2 h _ hq3) (kb_Search_cameTo hts (hts _ nw_321) ⟨Nat.le_of_ble_eq_true rfl, Nat.le_of_ble_eq_true rfl⟩) (xr_Search hK hP) hK hN hP hS rfl hl.1 rfl rfl (Nat.le_of_ble_eq_true rfl) ⟨Nat.zero_le _, Nat.zero_le _⟩ nd_P_lostPlaces_43 (fun H locs hP hS => ?_)
          refine lv_if_ne (tgt := 52) hx hb nd_P_lostPlaces_46 rfl (fun hc => ?_) (fun hc => ?_)
          · replace hf := (if_neg hc).symm.trans hf
            exact J52 _ _ _ h hP v1 v2 hS (lv_sub hl [0, 1, 2] rfl) hf
          · replace hf := (if_pos hc).symm.trans hf
            refine lv_iinc (v := (v1 + (1 : Int32))) (lv' := [(1, .int (v1 + (1 : Int32))), (0, .ref (ad 0)), (2, .int v2)]) hx hb nd_P_lostPlaces_49 hl (k := 1) rfl rfl (by decide) rfl (fun ls hl => ?_)
            exact J52 _ _ _ h hP (v1 + (1 : Int32)) v2 hS (lv_sub hl [1, 0, 2] rfl) hf
  unfold xf_P_lostPlaces at hf
  refine lv_aload_n hx hb nd_P_lostPlaces_0 rfl (lv_at hl 0 rfl) ?_
  refine xg_P_search hx hb hts hown hK hP (hts _ nw_206) nd_P_lostPlaces_1 ?_
  refine lv_aload_n hx hb nd_P_lostPlaces_4 rfl (lv_at hl 0 rfl) ?_
  refine xg_P_field hx hb hts hown hK hP (hts _ nw_204) nd_P_lostPlaces_5 ?_
  refine xg_Field_signs hx hb hts hown hK hP (hts _ nw_87) nd_P_lostPlaces_8 ?_
  obtain ⟨q1, hq1, hf⟩ := Option.bind_eq_some_iff.mp hf
  refine kc_V (As := [.ref (ad 5)]) (rest := []) (st1 := []) ⟨hx, hb, hml, hown, hts⟩ (xc_Search_explore hD fuel h _ hq1) (kb_Search_explore hts (hts _ nw_281) ⟨Nat.le_of_ble_eq_true rfl, Nat.le_of_ble_eq_true rfl⟩) (xr_Search hK hP) hK hN hP hS rfl hl.1 rfl rfl (Nat.le_of_ble_eq_true rfl) ⟨Nat.zero_le _, Nat.zero_le _⟩ nd_P_lostPlaces_11 (fun H locs hP hS => ?_)
  refine lv_iconst (v := 0) hx hb nd_P_lostPlaces_14 (by decide) ?_
  refine lv_istore_n (lv' := [(1, .int (0 : Int32)), (0, .ref (ad 0))]) hx hb nd_P_lostPlaces_15 rfl hl (by decide) rfl (fun ls hl => ?_)
  refine lv_iconst (v := 0) hx hb nd_P_lostPlaces_16 (by decide) ?_
  refine lv_istore_n (lv' := [(2, .int (0 : Int32)), (1, .int (0 : Int32)), (0, .ref (ad 0))]) hx hb nd_P_lostPlaces_17 rfl hl (by decide) rfl (fun ls hl => ?_)
  exact L18 fuel _ _ _ q1 hP (0 : Int32) (0 : Int32) hS (lv_sub hl [2, 1, 0] rfl) hf
set_option maxHeartbeats 4000000 in
set_option maxRecDepth 100000 in
theorem xc_P_count {l : Launch} {D : va_G} {A : Nat → Prop} {cA : Nat → ClassId} {ad : Nat → Nat} (hD : wdD 61 A ad) (fuel : Nat) (a1 : Int32) (h : XH) (q : Int32 × XH) (hf : xf_P_count fuel a1 h = some q) : CT l D vwCl (xtys cA) A ny_P_count (wsO ny_P_count prog_1_method_13_code 2 (some .int)) (rmO 6 130) [.ref (ad 0), .int a1] (xW cA ad h) (xW cA ad q.2) (some (.int q.1)) := by
  refine Met.ofW (cc := prog_1_method_13_code) (maxL := 2) (ret := (some .int)) (by decide +kernel) rfl ?_
  intro p e s m args below meth c s₁ B hml hv
  obtain ⟨hav, hP, hK, hN⟩ := hv
  have hx := B.exec
  have hb := B.bytes
  have hr := B.returns
  have hts : ∀ w ∈ lw_wd, w.before args s = true := fun w hw => atoms_spec (ws := (wsO ny_P_count prog_1_method_13_code 2 (some .int))) B.pre w (List.mem_cons_of_mem _ hw)
  have hown : s.vm.findClass "DrawnPaths" = some m.cls := findClass_of_methodNamed B.named
  have hlocks := B.notSynchronized
  have hS : va_S A s.heap s.heap [] := va_S.rf
  have hl := lv_entry ([.ref (ad 0), .int a1]) (n := 2) (Nat.le_of_ble_eq_true rfl)
  have hE : entryFrame m args 2 = entryFrame m ([.ref (ad 0), .int a1] : List Value).toArray 2 := by rw [hav]
  rw [hE, lg_entry_eq]
  generalize (lg_sl ([.ref (ad 0), .int a1]) ++ List.replicate (2 - (lg_sl ([.ref (ad 0), .int a1])).length) Slot.unset).toArray = ls at hl ⊢
  have hl : lv_has ls 2 [(0, .ref (ad 0)), (1, .int a1)] := hl
  unfold xf_P_count at hf
  refine lv_iload_n hx hb nd_P_count_0 rfl (lv_at hl 1 rfl) ?_
  by_cases hc0 : a1 = 0
  · replace hf := (if_pos hc0).symm.trans hf
    refine lv_tableIn (tgt := 44) hx hb nd_P_count_1 (by rw [hc0]; decide) (by rw [hc0]; decide) (by rw [hc0]; try rfl) rfl ?_
    refine lv_aload_n hx hb nd_P_count_44 rfl (lv_at hl 0 rfl) ?_
    refine xg_P_run hx hb hts hown hK hP (hts _ nw_205) nd_P_count_45 ?_
    refine xg_Run_living hx hb hts hown hK hP (hts _ nw_156) nd_P_count_48 ?_
    obtain rfl := (Option.some.inj hf)
    exact W.iret hx hb hr (fun t ht hW => ⟨rfl, by rw [ht]; exact hP, va_K.moved hW.alike hK, hS.F ht⟩) hS.2.2 nd_P_count_51
  replace hf := (if_neg hc0).symm.trans hf
  by_cases hc1 : a1 = 1
  · replace hf := (if_pos hc1).symm.trans hf
    refine lv_tableIn (tgt := 52) hx hb nd_P_count_1 (by rw [hc1]; decide) (by rw [hc1]; decide) (by rw [hc1]; try rfl) rfl ?_
    refine lv_aload_n hx hb nd_P_count_52 rfl (lv_at hl 0 rfl) ?_
    refine xg_P_run hx hb hts hown hK hP (hts _ nw_205) nd_P_count_53 ?_
    refine xg_Run_steps hx hb hts hown hK hP (hts _ nw_162) nd_P_count_56 ?_
    obtain rfl := (Option.some.inj hf)
    exact W.iret hx hb hr (fun t ht hW => ⟨rfl, by rw [ht]; exact hP, va_K.moved hW.alike hK, hS.F ht⟩) hS.2.2 nd_P_count_59
  replace hf := (if_neg hc1).symm.trans hf
  by_cases hc2 : a1 = 2
  · replace hf := (if_pos hc2).symm.trans hf
    refine lv_tableIn (tgt := 60) hx hb nd_P_count_1 (by rw [hc2]; decide) (by rw [hc2]; decide) (by rw [hc2]; try rfl) rfl ?_
    refine lv_aload_n hx hb nd_P_count_60 rfl (lv_at hl 0 rfl) ?_
    refine xg_P_blocks hx hb hts hown hK hP (hts _ nw_203) nd_P_count_61 ?_
    refine xg_Blocks_held hx hb hts hown hK hP (hts _ nw_64) nd_P_count_64 ?_
    obtain rfl := (Option.some.inj hf)
    exact W.iret hx hb hr (fun t ht hW => ⟨rfl, by rw [ht]; exact hP, va_K.moved hW.alike hK, hS.F ht⟩) hS.2.2 nd_P_count_67
  replace hf := (if_neg hc2).symm.trans hf
  by_cases hc3 : a1 = 3
  · replace hf := (if_pos hc3).symm.trans hf
    refine lv_tableIn (tgt := 68) hx hb nd_P_count_1 (by rw [hc3]; decide) (by rw [hc3]; decide) (by rw [hc3]; try rfl) rfl ?_
    refine lv_aload_n hx hb nd_P_count_68 rfl (lv_at hl 0 rfl) ?_
    refine xg_P_blocks hx hb hts hown hK hP (hts _ nw_203) nd_P_count_69 ?_
    refine xg_Blocks_dropped hx hb hts hown hK hP (hts _ nw_66) nd_P_count_72 ?_
    obtain rfl := (Option.some.inj hf)
    exact W.iret hx hb hr (fun t ht hW => ⟨rfl, by rw [ht]; exact hP, va_K.moved hW.alike hK, hS.F ht⟩) hS.2.2 nd_P_count_75
  replace hf := (if_neg hc3).symm.trans hf
  by_cases hc4 : a1 = 4
  · replace hf := (if_pos hc4).symm.trans hf
    refine lv_tableIn (tgt := 76) hx hb nd_P_count_1 (by rw [hc4]; decide) (by rw [hc4]; decide) (by rw [hc4]; try rfl) rfl ?_
    refine lv_aload_n hx hb nd_P_count_76 rfl (lv_at hl 0 rfl) ?_
    refine xg_P_run hx hb hts hown hK hP (hts _ nw_205) nd_P_count_77 ?_
    refine xg_Run_given hx hb hts hown hK hP (hts _ nw_158) nd_P_count_80 ?_
    refine lv_aload_n hx hb nd_P_count_83 rfl (lv_at hl 0 rfl) ?_
    refine xg_P_run hx hb hts hown hK hP (hts _ nw_205) nd_P_count_84 ?_
    refine xg_Run_read hx hb hts hown hK hP (hts _ nw_160) nd_P_count_87 ?_
    refine lv_isub hx hb nd_P_count_90 ?_
    obtain rfl := (Option.some.inj hf)
    exact W.iret hx hb hr (fun t ht hW => ⟨rfl, by rw [ht]; exact hP, va_K.moved hW.alike hK, hS.F ht⟩) hS.2.2 nd_P_count_91
  replace hf := (if_neg hc4).symm.trans hf
  by_cases hc5 : a1 = 5
  · replace hf := (if_pos hc5).symm.trans hf
    refine lv_tableIn (tgt := 92) hx hb nd_P_count_1 (by rw [hc5]; decide) (by rw [hc5]; decide) (by rw [hc5]; try rfl) rfl ?_
    refine lv_aload_n hx hb nd_P_count_92 rfl (lv_at hl 0 rfl) ?_
    refine xg_P_run hx hb hts hown hK hP (hts _ nw_205) nd_P_count_93 ?_
    refine kc_V (As := []) (rest := []) (st1 := [.int (xf_Run_state h)]) ⟨hx, hb, hml, hown, hts⟩ (xc_Run_state hD h _ rfl) (kb_Run_state hts (hts _ nw_273) ⟨Nat.le_of_ble_eq_true rfl, Nat.le_of_ble_eq_true rfl⟩) (xr_Run hK hP) hK hN hP hS rfl hl.1 rfl rfl (Nat.le_of_ble_eq_true rfl) ⟨Nat.zero_le _, Nat.zero_le _⟩ nd_P_count_96 (fun H locs hP hS => ?_)
    obtain rfl := (Option.some.inj hf)
    exact W.iret hx hb hr (fun t ht hW => ⟨rfl, by rw [ht]; exact hP, va_K.moved hW.alike hK, hS.F ht⟩) hS.2.2 nd_P_count_99
  replace hf := (if_neg hc5).symm.trans hf
  by_cases hc6 : a1 = 6
  · replace hf := (if_pos hc6).symm.trans hf
    refine lv_tableIn (tgt := 100) hx hb nd_P_count_1 (by rw [hc6]; decide) (by rw [hc6]; decide) (by rw [hc6]; try rfl) rfl ?_
    refine lv_aload_n hx hb nd_P_count_100 rfl (lv_at hl 0 rfl) ?_
    obtain ⟨q1, hq1, hf⟩ := Option.bind_eq_some_iff.mp hf
    refine kc_V (As := []) (rest := []) (st1 := [.int q1.1]) ⟨hx, hb, hml, hown, hts⟩ (xc_P_lostPlaces hD fuel h _ hq1) (kb_P_lostPlaces hts (hts _ nw_277) ⟨Nat.le_of_ble_eq_true rfl, Nat.le_of_ble_eq_true rfl⟩) (xr_DP hK hP) hK hN hP hS rfl hl.1 rfl rfl (Nat.le_of_ble_eq_true rfl) ⟨Nat.zero_le _, Nat.zero_le _⟩ nd_P_count_101 (fun H locs hP hS => ?_)
    obtain rfl := (Option.some.inj hf)
    exact W.iret hx hb hr (fun t ht hW => ⟨rfl, by rw [ht]; exact hP, va_K.moved hW.alike hK, hS.F ht⟩) hS.2.2 nd_P_count_104
  replace hf := (if_neg hc6).symm.trans hf
  refine lv_tableOut (tgt := 105) hx hb nd_P_count_1 (by have := lv_neT hc0 (by decide : Int32.toInt 0 = 0); have := lv_neT hc1 (by decide : Int32.toInt 1 = 1); have := lv_neT hc2 (by decide : Int32.toInt 2 = 2); have := lv_neT hc3 (by decide : Int32.toInt 3 = 3); have := lv_neT hc4 (by decide : Int32.toInt 4 = 4); have := lv_neT hc5 (by decide : Int32.toInt 5 = 5); have := lv_neT hc6 (by decide : Int32.toInt 6 = 6); omega) rfl ?_
  refine lv_iconst (v := -1) hx hb nd_P_count_105 (by decide) ?_
  obtain rfl := (Option.some.inj hf)
  exact W.iret hx hb hr (fun t ht hW => ⟨rfl, by rw [ht]; exact hP, va_K.moved hW.alike hK, hS.F ht⟩) hS.2.2 nd_P_count_106
set_option maxHeartbeats 4000000 in
set_option maxRecDepth 100000 in
theorem xc_Blocks_over {l : Launch} {D : va_G} {A : Nat → Prop} {cA : Nat → ClassId} {ad : Nat → Nat} (hD : wdD 61 A ad) (fuel : Nat) (a1 : Int32) (h : XH) (q : Int32) (hf : xf_Blocks_over fuel a1 h = some q) : CT l D vwCl (xtys cA) A ny_Blocks_over (wsO ny_Blocks_over prog_3_method_5_code 4 (some .int)) (rmO 1 23) [.ref (ad 1), .int a1] (xW cA ad h) (xW cA ad h) (some (.int q)) := by
  refine Met.ofW (cc := prog_3_method_5_code) (maxL := 4) (ret := (some .int)) (by decide +kernel) rfl ?_
  intro p e s m args below meth c s₁ B hml hv
  obtain ⟨hav, hP, hK, hN⟩ := hv
  have hx := B.exec
  have hb := B.bytes
  have hr := B.returns
  have hts : ∀ w ∈ lw_wd, w.before args s = true := fun w hw => atoms_spec (ws := (wsO ny_Blocks_over prog_3_method_5_code 4 (some .int))) B.pre w (List.mem_cons_of_mem _ hw)
  have hown : s.vm.findClass "DrawnPaths$Blocks" = some m.cls := findClass_of_methodNamed B.named
  have hlocks := B.notSynchronized
  have hS : va_S A s.heap s.heap [] := va_S.rf
  have hl := lv_entry ([.ref (ad 1), .int a1]) (n := 4) (Nat.le_of_ble_eq_true rfl)
  have hE : entryFrame m args 4 = entryFrame m ([.ref (ad 1), .int a1] : List Value).toArray 4 := by rw [hav]
  rw [hE, lg_entry_eq]
  generalize (lg_sl ([.ref (ad 1), .int a1]) ++ List.replicate (4 - (lg_sl ([.ref (ad 1), .int a1])).length) Slot.unset).toArray = ls at hl ⊢
  have hl : lv_has ls 4 [(0, .ref (ad 1)), (1, .int a1)] := hl
  have L4 : ∀ (n : Nat) (H : Heap) (locs : List Loc) (ls : Array Slot) (h : XH) (hP : va_P D vwCl (xW cA ad h) H) (v1 : Int32) (v2 : Int32) (v3 : Int32) (hS : va_S A s.heap H locs) (hl : lv_has ls 4 [(0, .ref (ad 1)), (1, .int v1), (2, .int v2), (3, .int v3)]) (hf : xf_Blocks_over_L4 fuel n v1 v2 v3 h = some q), W p l e (headSpec (wsO ny_Blocks_over prog_3_method_5_code 4 (some .int)) (rmO 1 23)).room s m args below meth c H locs 0 0 (MQ below (RetQ D vwCl (xtys cA) A (some (.int q)) (xW cA ad h)) args s 0 0 A) (F0 m 4 ls []) := by
    intro n
    induction n with
    | zero =>
      intro H locs ls h hP v1 v2 v3 hS hl hf
      rw [xf_Blocks_over_L4] at hf
      cases hf
    | succ nL4 ihL4 =>
      have J28 : ∀ (H : Heap) (locs : List Loc) (ls : Array Slot) (h : XH) (hP : va_P D vwCl (xW cA ad h) H) (v1 : Int32) (v2 : Int32) (v3 : Int32) (hS : va_S A s.heap H locs) (hl : lv_has ls 4 [(0, .ref (ad 1)), (1, .int v1), (2, .int v2), (3, .int v3)]) (hf : xf_Blocks_over_J28 fuel (xf_Blocks_over_L4 fuel nL4) v1 v2 v3 h = some q), W p l e (headSpec (wsO ny_Blocks_over prog_3_method_5_code 4 (some .int)) (rmO 1 23)).room s m args below meth c H locs 0 0 (MQ below (RetQ D vwCl (xtys cA) A (some (.int q)) (xW cA ad h)) args s 0 0 A) (F0 m 28 ls []) := by
        intro H locs ls h hP v1 v2 v3 hS hl hf
        unfold xf_Blocks_over_J28 at hf
        refine lv_iinc (v := (v3 + (1 : Int32))) (lv' := [(3, .int (v3 + (1 : Int32))), (0, .ref (ad 1)), (1, .int v1), (2, .int v2)]) hx hb nd_Blocks_over_28 hl (k := 3) rfl rfl (by decide) rfl (fun ls hl => ?_)
        refine lv_goto hx hb nd_Blocks_over_31 (tgt := 4) rfl ?_
        exact ihL4 _ _ _ h hP v1 v2 (v3 + (1 : Int32)) hS (lv_sub hl [1, 2, 3, 0] rfl) hf
      intro H locs ls h hP v1 v2 v3 hS hl hf
      rw [xf_Blocks_over_L4] at hf
      refine lv_iload_n hx hb nd_Blocks_over_4 rfl (lv_at hl 3 rfl) ?_
      refine lv_aload_n hx hb nd_Blocks_over_5 rfl (lv_at hl 0 rfl) ?_
      refine xg_Blocks_held hx hb hts hown hK hP (hts _ nw_63) nd_Blocks_over_6 ?_
      refine lv_icmp_ge (tgt := 34) hx hb nd_Blocks_over_9 rfl (fun hc => ?_) (fun hc => ?_)
      · replace hf := (if_pos hc).symm.trans hf
        refine lv_iload_n hx hb nd_Blocks_over_34 rfl (lv_at hl 2 rfl) ?_
        obtain rfl := (Option.some.inj hf)
        exact W.iret hx hb hr (fun t ht hW => ⟨rfl, by rw [ht]; exact hP, va_K.moved hW.alike hK, hS.F ht⟩) hS.2.2 nd_Blocks_over_35
      · replace hf := (if_neg hc).symm.trans hf
        refine lv_aload_n hx hb nd_Blocks_over_12 rfl (lv_at hl 0 rfl) ?_
        refine xg_Blocks_row hx hb hts hown hK hP (hts _ nw_61) nd_Blocks_over_13 ?_
        refine lv_iload_n hx hb nd_Blocks_over_16 rfl (lv_at hl 3 rfl) ?_
        obtain ⟨j1, hj1, hf⟩ := Option.bind_eq_some_iff.mp hf
        obtain ⟨k2, hk2, hf⟩ := Option.bind_eq_some_iff.mp hf
        obtain ⟨ek2, hk2⟩ := gn_eq hk2
        refine xal_row hx hb hK hP hj1 ek2 nd_Blocks_over_17 ?_
        refine lv_iload_n hx hb nd_Blocks_over_18 rfl (lv_at hl 1 rfl) ?_
        refine kc_V (As := [.int v1]) (rest := []) (st1 := [.int (xf_Block_isOver k2 v1 h)]) ⟨hx, hb, hml, hown, hts⟩ (xc_Block_isOver hD k2 v1 h _ hk2 rfl) (kb_Block_isOver hts (hts _ nw_455) ⟨Nat.le_of_ble_eq_true rfl, Nat.le_of_ble_eq_true rfl⟩) (xr_Block hK hP hk2) hK hN hP hS rfl hl.1 rfl rfl (Nat.le_of_ble_eq_true rfl) ⟨Nat.zero_le _, Nat.zero_le _⟩ nd_Blocks_over_19 (fun H locs hP hS => ?_)
        refine lv_if_eq (tgt := 28) hx hb nd_Blocks_over_22 rfl (fun hc => ?_) (fun hc => ?_)
        · replace hf := (if_pos hc).symm.trans hf
          exact J28 _ _ _ h hP v1 v2 v3 hS (lv_sub hl [0, 1, 2, 3] rfl) hf
        · replace hf := (if_neg hc).symm.trans hf
          refine lv_iinc (v := (v2 + (1 : Int32))) (lv' := [(2, .int (v2 + (1 : Int32))), (0, .ref (ad 1)), (1, .int v1), (3, .int v3)]) hx hb nd_Blocks_over_25 hl (k := 2) rfl rfl (by decide) rfl (fun ls hl => ?_)
          exact J28 _ _ _ h hP v1 (v2 + (1 : Int32)) v3 hS (lv_sub hl [1, 2, 0, 3] rfl) hf
  unfold xf_Blocks_over at hf
  refine lv_iconst (v := 0) hx hb nd_Blocks_over_0 (by decide) ?_
  refine lv_istore_n (lv' := [(2, .int (0 : Int32)), (0, .ref (ad 1)), (1, .int a1)]) hx hb nd_Blocks_over_1 rfl hl (by decide) rfl (fun ls hl => ?_)
  refine lv_iconst (v := 0) hx hb nd_Blocks_over_2 (by decide) ?_
  refine lv_istore_n (lv' := [(3, .int (0 : Int32)), (2, .int (0 : Int32)), (0, .ref (ad 1)), (1, .int a1)]) hx hb nd_Blocks_over_3 rfl hl (by decide) rfl (fun ls hl => ?_)
  exact L4 fuel _ _ _ h hP a1 (0 : Int32) (0 : Int32) hS (lv_sub hl [2, 3, 1, 0] rfl) hf
set_option maxHeartbeats 4000000 in
set_option maxRecDepth 100000 in
theorem xc_P_covers {l : Launch} {D : va_G} {A : Nat → Prop} {cA : Nat → ClassId} {ad : Nat → Nat} (hD : wdD 61 A ad) (fuel : Nat) (a1 : Int32) (a2 : Int32) (h : XH) (q : Int32) (hf : xf_P_covers fuel a1 a2 h = some (Sum.inr q)) : CT l D vwCl (xtys cA) A ny_P_covers (wsO ny_P_covers prog_1_method_14_code 3 (some .int)) (rmO 7 121) [.ref (ad 0), .int a1, .int a2] (xW cA ad h) (xW cA ad h) (some (.int q)) := by
  refine Met.ofW (cc := prog_1_method_14_code) (maxL := 3) (ret := (some .int)) (by decide +kernel) rfl ?_
  intro p e s m args below meth c s₁ B hml hv
  obtain ⟨hav, hP, hK, hN⟩ := hv
  have hx := B.exec
  have hb := B.bytes
  have hr := B.returns
  have hts : ∀ w ∈ lw_wd, w.before args s = true := fun w hw => atoms_spec (ws := (wsO ny_P_covers prog_1_method_14_code 3 (some .int))) B.pre w (List.mem_cons_of_mem _ hw)
  have hown : s.vm.findClass "DrawnPaths" = some m.cls := findClass_of_methodNamed B.named
  have hlocks := B.notSynchronized
  have hS : va_S A s.heap s.heap [] := va_S.rf
  have hl := lv_entry ([.ref (ad 0), .int a1, .int a2]) (n := 3) (Nat.le_of_ble_eq_true rfl)
  have hE : entryFrame m args 3 = entryFrame m ([.ref (ad 0), .int a1, .int a2] : List Value).toArray 3 := by rw [hav]
  rw [hE, lg_entry_eq]
  generalize (lg_sl ([.ref (ad 0), .int a1, .int a2]) ++ List.replicate (3 - (lg_sl ([.ref (ad 0), .int a1, .int a2])).length) Slot.unset).toArray = ls at hl ⊢
  have hl : lv_has ls 3 [(0, .ref (ad 0)), (1, .int a1), (2, .int a2)] := hl
  unfold xf_P_covers at hf
  refine lv_aload_n hx hb nd_P_covers_0 rfl (lv_at hl 0 rfl) ?_
  refine xg_P_blocks hx hb hts hown hK hP (hts _ nw_203) nd_P_covers_1 ?_
  refine lv_iload_n hx hb nd_P_covers_4 rfl (lv_at hl 1 rfl) ?_
  refine lv_iload_n hx hb nd_P_covers_5 rfl (lv_at hl 2 rfl) ?_
  obtain ⟨q1, hq1, hf⟩ := sbd_inr hf
  refine kc_S (As := [.int a1, .int a2]) (rest := [.ref (ad 1)]) (st1 := [.int q1, .ref (ad 1)]) ⟨hx, hb, hml, hown, hts⟩ (xc_P_placeAt hD a1 a2 h _ hq1) (kb_P_placeAt hts (hts _ nw_360) ⟨Nat.le_of_ble_eq_true rfl, Nat.le_of_ble_eq_true rfl⟩) hK hN hP hS rfl hl.1 rfl rfl (Nat.le_of_ble_eq_true rfl) ⟨Nat.zero_le _, Nat.zero_le _⟩ nd_P_covers_6 (fun H locs hP hS => ?_)
  replace hf := map_inr hf
  obtain ⟨q2, hq2, hf⟩ := Option.bind_eq_some_iff.mp hf
  refine kc_V (As := [.int q1]) (rest := []) (st1 := [.int q2]) ⟨hx, hb, hml, hown, hts⟩ (xc_Blocks_over hD fuel q1 h _ hq2) (kb_Blocks_over hts (hts _ nw_680) ⟨Nat.le_of_ble_eq_true rfl, Nat.le_of_ble_eq_true rfl⟩) (xr_Blocks hK hP) hK hN hP hS rfl hl.1 rfl rfl (Nat.le_of_ble_eq_true rfl) ⟨Nat.zero_le _, Nat.zero_le _⟩ nd_P_covers_9 (fun H locs hP hS => ?_)
  obtain rfl := (Option.some.inj hf)
  exact W.iret hx hb hr (fun t ht hW => ⟨rfl, by rw [ht]; exact hP, va_K.moved hW.alike hK, hS.F ht⟩) hS.2.2 nd_P_covers_12
set_option maxHeartbeats 4000000 in
set_option maxRecDepth 100000 in
theorem xc_P_block {l : Launch} {D : va_G} {A : Nat → Prop} {cA : Nat → ClassId} {ad : Nat → Nat} (hD : wdD 61 A ad) (fuel : Nat) (a1 : Int32) (a2 : Int32) (a3 : Int32) (a4 : Int32) (a5 : Int32) (h : XH) (q : Int32) (hf : xf_P_block fuel a1 a2 a3 a4 a5 h = some (Sum.inr q)) : CT l D vwCl (xtys cA) A ny_P_block (wsO ny_P_block prog_1_method_15_code 8 (some .int)) (rmO 7 121) [.ref (ad 0), .int a1, .int a2, .int a3, .int a4, .int a5] (xW cA ad h) (xW cA ad h) (some (.int q)) := by
  refine Met.ofW (cc := prog_1_method_15_code) (maxL := 8) (ret := (some .int)) (by decide +kernel) rfl ?_
  intro p e s m args below meth c s₁ B hml hv
  obtain ⟨hav, hP, hK, hN⟩ := hv
  have hx := B.exec
  have hb := B.bytes
  have hr := B.returns
  have hts : ∀ w ∈ lw_wd, w.before args s = true := fun w hw => atoms_spec (ws := (wsO ny_P_block prog_1_method_15_code 8 (some .int))) B.pre w (List.mem_cons_of_mem _ hw)
  have hown : s.vm.findClass "DrawnPaths" = some m.cls := findClass_of_methodNamed B.named
  have hlocks := B.notSynchronized
  have hS : va_S A s.heap s.heap [] := va_S.rf
  have hl := lv_entry ([.ref (ad 0), .int a1, .int a2, .int a3, .int a4, .int a5]) (n := 8) (Nat.le_of_ble_eq_true rfl)
  have hE : entryFrame m args 8 = entryFrame m ([.ref (ad 0), .int a1, .int a2, .int a3, .int a4, .int a5] : List Value).toArray 8 := by rw [hav]
  rw [hE, lg_entry_eq]
  generalize (lg_sl ([.ref (ad 0), .int a1, .int a2, .int a3, .int a4, .int a5]) ++ List.replicate (8 - (lg_sl ([.ref (ad 0), .int a1, .int a2, .int a3, .int a4, .int a5])).length) Slot.unset).toArray = ls at hl ⊢
  have hl : lv_has ls 8 [(0, .ref (ad 0)), (1, .int a1), (2, .int a2), (3, .int a3), (4, .int a4), (5, .int a5)] := hl
  have J54 : ∀ (H : Heap) (locs : List Loc) (ls : Array Slot) (h : XH) (hP : va_P D vwCl (xW cA ad h) H) (v5 : Int32) (w1 : Int32) (w2 : Int32) (w3 : Int32) (hS : va_S A s.heap H locs) (hl : lv_has ls 8 [(5, .int v5)]) (hf : xf_P_block_J54 fuel v5 w1 w2 w3 h = some q), W p l e (headSpec (wsO ny_P_block prog_1_method_15_code 8 (some .int)) (rmO 7 121)).room s m args below meth c H locs 0 0 (MQ below (RetQ D vwCl (xtys cA) A (some (.int q)) (xW cA ad h)) args s 0 0 A) (F0 m 54 ls [.int w3, .int w2, .int w1, .ref (ad 1)]) := by
    intro H locs ls h hP v5 w1 w2 w3 hS hl hf
    unfold xf_P_block_J54 at hf
    refine kc_S (As := [.int w1, .int w2, .int w3]) (rest := [.ref (ad 1)]) (st1 := [.int (xf_Way_of w1 w2 w3), .ref (ad 1)]) ⟨hx, hb, hml, hown, hts⟩ (xc_Way_of hD w1 w2 w3 h _ rfl) (kb_Way_of hts (hts _ nw_692) ⟨Nat.le_of_ble_eq_true rfl, Nat.le_of_ble_eq_true rfl⟩) hK hN hP hS rfl hl.1 rfl rfl (Nat.le_of_ble_eq_true rfl) ⟨Nat.zero_le _, Nat.zero_le _⟩ nd_P_block_54 (fun H locs hP hS => ?_)
    obtain ⟨q2, hq2, hf⟩ := Option.bind_eq_some_iff.mp hf
    refine kc_V (As := [.int (xf_Way_of w1 w2 w3)]) (rest := []) (st1 := [orf ad 31 q2]) ⟨hx, hb, hml, hown, hts⟩ (xc_Blocks_find hD fuel (xf_Way_of w1 w2 w3) h _ hq2) (kb_Blocks_find hts (hts _ nw_693) ⟨Nat.le_of_ble_eq_true rfl, Nat.le_of_ble_eq_true rfl⟩) (xr_Blocks hK hP) hK hN hP hS rfl hl.1 rfl rfl (Nat.le_of_ble_eq_true rfl) ⟨Nat.zero_le _, Nat.zero_le _⟩ nd_P_block_57 (fun H locs hP hS => ?_)
    rcases obr_eq hf with ⟨ho4, hf⟩ | ⟨o4, ho4, hf⟩
    · rw [ho4]
      show W _ _ _ _ _ _ _ _ _ _ _ _ _ _ _ (F0 _ _ _ (.null :: _))
      refine lv_astoreN (lv' := [(7, .null), (5, .int v5)]) hx hb nd_P_block_60 hl (by decide) rfl (fun ls hl => ?_)
      refine lv_aloadN hx hb nd_P_block_62 (lv_at hl 0 rfl) ?_
      refine lv_ifnonnullN hx hb nd_P_block_64 ?_
      refine lv_iconst (v := -1) hx hb nd_P_block_67 (by decide) ?_
      obtain rfl := (Option.some.inj hf)
      exact W.iret hx hb hr (fun t ht hW => ⟨rfl, by rw [ht]; exact hP, va_K.moved hW.alike hK, hS.F ht⟩) hS.2.2 nd_P_block_68
    · rw [ho4]
      obtain ⟨k3, hk3, hf⟩ := Option.bind_eq_some_iff.mp hf
      obtain ⟨ek3, uk3⟩ := gn_eq hk3
      rw [ek3]
      show W _ _ _ _ _ _ _ _ _ _ _ _ _ _ _ (F0 _ _ _ (.ref (ad (k3 + 31)) :: _))
      refine lv_astore (lv' := [(7, .ref (ad (k3 + 31))), (5, .int v5)]) hx hb nd_P_block_60 hl (by decide) rfl (fun ls hl => ?_)
      refine lv_aload hx hb nd_P_block_62 (lv_at hl 0 rfl) ?_
      refine lv_ifnonnull hx hb nd_P_block_64 (tgt := 69) rfl ?_
      refine lv_iload hx hb nd_P_block_69 (lv_at hl 1 rfl) ?_
      by_cases hc0 : v5 = 0
      · replace hf := (if_pos hc0).symm.trans hf
        refine lv_tableIn (tgt := 100) hx hb nd_P_block_71 (by rw [hc0]; decide) (by rw [hc0]; decide) (by rw [hc0]; try rfl) rfl ?_
        refine lv_aload hx hb nd_P_block_100 (lv_at hl 0 rfl) ?_
        refine xg_Block_size hx hb hts hown hK hP uk3 (hts _ nw_46) nd_P_block_102 ?_
        obtain rfl := (Option.some.inj hf)
        exact W.iret hx hb hr (fun t ht hW => ⟨rfl, by rw [ht]; exact hP, va_K.moved hW.alike hK, hS.F ht⟩) hS.2.2 nd_P_block_105
      replace hf := (if_neg hc0).symm.trans hf
      by_cases hc1 : v5 = 1
      · replace hf := (if_pos hc1).symm.trans hf
        refine lv_tableIn (tgt := 106) hx hb nd_P_block_71 (by rw [hc1]; decide) (by rw [hc1]; decide) (by rw [hc1]; try rfl) rfl ?_
        refine lv_aload hx hb nd_P_block_106 (lv_at hl 0 rfl) ?_
        refine xg_Block_behind hx hb hts hown hK hP uk3 (hts _ nw_43) nd_P_block_108 ?_
        refine kc_S (As := [.int (xh_bbehind h k3)]) (rest := []) (st1 := [.int (xf_Way_place (xh_bbehind h k3))]) ⟨hx, hb, hml, hown, hts⟩ (xc_Way_place hD (xh_bbehind h k3) h _ rfl) (kb_Way_place hts (hts _ nw_661) ⟨Nat.le_of_ble_eq_true rfl, Nat.le_of_ble_eq_true rfl⟩) hK hN hP hS rfl hl.1 rfl rfl (Nat.le_of_ble_eq_true rfl) ⟨Nat.zero_le _, Nat.zero_le _⟩ nd_P_block_111 (fun H locs hP hS => ?_)
        refine lv_bipush (v := 12) hx hb nd_P_block_114 (by decide) ?_
        refine lv_irem hx hb nd_P_block_116 (by decide) ?_
        obtain rfl := (Option.some.inj hf)
        exact W.iret hx hb hr (fun t ht hW => ⟨rfl, by rw [ht]; exact hP, va_K.moved hW.alike hK, hS.F ht⟩) hS.2.2 nd_P_block_117
      replace hf := (if_neg hc1).symm.trans hf
      by_cases hc2 : v5 = 2
      · replace hf := (if_pos hc2).symm.trans hf
        refine lv_tableIn (tgt := 118) hx hb nd_P_block_71 (by rw [hc2]; decide) (by rw [hc2]; decide) (by rw [hc2]; try rfl) rfl ?_
        refine lv_aload hx hb nd_P_block_118 (lv_at hl 0 rfl) ?_
        refine xg_Block_behind hx hb hts hown hK hP uk3 (hts _ nw_43) nd_P_block_120 ?_
        refine kc_S (As := [.int (xh_bbehind h k3)]) (rest := []) (st1 := [.int (xf_Way_place (xh_bbehind h k3))]) ⟨hx, hb, hml, hown, hts⟩ (xc_Way_place hD (xh_bbehind h k3) h _ rfl) (kb_Way_place hts (hts _ nw_661) ⟨Nat.le_of_ble_eq_true rfl, Nat.le_of_ble_eq_true rfl⟩) hK hN hP hS rfl hl.1 rfl rfl (Nat.le_of_ble_eq_true rfl) ⟨Nat.zero_le _, Nat.zero_le _⟩ nd_P_block_123 (fun H locs hP hS => ?_)
        refine lv_bipush (v := 12) hx hb nd_P_block_126 (by decide) ?_
        refine lv_idiv hx hb nd_P_block_128 (by decide) ?_
        obtain rfl := (Option.some.inj hf)
        exact W.iret hx hb hr (fun t ht hW => ⟨rfl, by rw [ht]; exact hP, va_K.moved hW.alike hK, hS.F ht⟩) hS.2.2 nd_P_block_129
      replace hf := (if_neg hc2).symm.trans hf
      by_cases hc3 : v5 = 3
      · replace hf := (if_pos hc3).symm.trans hf
        refine lv_tableIn (tgt := 130) hx hb nd_P_block_71 (by rw [hc3]; decide) (by rw [hc3]; decide) (by rw [hc3]; try rfl) rfl ?_
        refine lv_aload hx hb nd_P_block_130 (lv_at hl 0 rfl) ?_
        refine xg_Block_behind hx hb hts hown hK hP uk3 (hts _ nw_43) nd_P_block_132 ?_
        refine kc_S (As := [.int (xh_bbehind h k3)]) (rest := []) (st1 := [.int (xf_Way_direction (xh_bbehind h k3))]) ⟨hx, hb, hml, hown, hts⟩ (xc_Way_direction hD (xh_bbehind h k3) h _ rfl) (kb_Way_direction hts (hts _ nw_662) ⟨Nat.le_of_ble_eq_true rfl, Nat.le_of_ble_eq_true rfl⟩) hK hN hP hS rfl hl.1 rfl rfl (Nat.le_of_ble_eq_true rfl) ⟨Nat.zero_le _, Nat.zero_le _⟩ nd_P_block_135 (fun H locs hP hS => ?_)
        obtain rfl := (Option.some.inj hf)
        exact W.iret hx hb hr (fun t ht hW => ⟨rfl, by rw [ht]; exact hP, va_K.moved hW.alike hK, hS.F ht⟩) hS.2.2 nd_P_block_138
      replace hf := (if_neg hc3).symm.trans hf
      refine lv_tableOut (tgt := 139) hx hb nd_P_block_71 (by have := lv_neT hc0 (by decide : Int32.toInt 0 = 0); have := lv_neT hc1 (by decide : Int32.toInt 1 = 1); have := lv_neT hc2 (by decide : Int32.toInt 2 = 2); have := lv_neT hc3 (by decide : Int32.toInt 3 = 3); omega) rfl ?_
      refine lv_aload hx hb nd_P_block_139 (lv_at hl 0 rfl) ?_
      refine xg_Block_behind hx hb hts hown hK hP uk3 (hts _ nw_43) nd_P_block_141 ?_
      refine kc_S (As := [.int (xh_bbehind h k3)]) (rest := []) (st1 := [.int (xf_Way_quotes (xh_bbehind h k3))]) ⟨hx, hb, hml, hown, hts⟩ (xc_Way_quotes hD (xh_bbehind h k3) h _ rfl) (kb_Way_quotes hts (hts _ nw_300) ⟨Nat.le_of_ble_eq_true rfl, Nat.le_of_ble_eq_true rfl⟩) hK hN hP hS rfl hl.1 rfl rfl (Nat.le_of_ble_eq_true rfl) ⟨Nat.zero_le _, Nat.zero_le _⟩ nd_P_block_144 (fun H locs hP hS => ?_)
      obtain rfl := (Option.some.inj hf)
      exact W.iret hx hb hr (fun t ht hW => ⟨rfl, by rw [ht]; exact hP, va_K.moved hW.alike hK, hS.F ht⟩) hS.2.2 nd_P_block_147
  unfold xf_P_block at hf
  refine lv_iload_n hx hb nd_P_block_0 rfl (lv_at hl 1 rfl) ?_
  refine lv_iload_n hx hb nd_P_block_1 rfl (lv_at hl 2 rfl) ?_
  obtain ⟨q1, hq1, hf⟩ := sbd_inr hf
  refine kc_S (As := [.int a1, .int a2]) (rest := []) (st1 := [.int q1]) ⟨hx, hb, hml, hown, hts⟩ (xc_P_placeAt hD a1 a2 h _ hq1) (kb_P_placeAt hts (hts _ nw_360) ⟨Nat.le_of_ble_eq_true rfl, Nat.le_of_ble_eq_true rfl⟩) hK hN hP hS rfl hl.1 rfl rfl (Nat.le_of_ble_eq_true rfl) ⟨Nat.zero_le _, Nat.zero_le _⟩ nd_P_block_2 (fun H locs hP hS => ?_)
  refine lv_istore (lv' := [(6, .int q1), (0, .ref (ad 0)), (1, .int a1), (2, .int a2), (3, .int a3), (4, .int a4), (5, .int a5)]) hx hb nd_P_block_5 hl (by decide) rfl (fun ls hl => ?_)
  refine lv_iload_n hx hb nd_P_block_7 rfl (lv_at hl 4 rfl) ?_
  refine lv_if_lt (tgt := 27) hx hb nd_P_block_8 rfl (fun hc => ?_) (fun hc => ?_)
  · replace hf := (if_pos hc).symm.trans hf
    exact absurd hf (by simp)
  · replace hf := (if_neg hc).symm.trans hf
    refine lv_iload_n hx hb nd_P_block_11 rfl (lv_at hl 4 rfl) ?_
    refine lv_iconst (v := 4) hx hb nd_P_block_12 (by decide) ?_
    refine lv_icmp_ge (tgt := 27) hx hb nd_P_block_13 rfl (fun hc => ?_) (fun hc => ?_)
    · replace hf := (if_pos hc).symm.trans hf
      exact absurd hf (by simp)
    · replace hf := (if_neg hc).symm.trans hf
      refine lv_iload hx hb nd_P_block_16 (lv_at hl 6 rfl) ?_
      refine lv_if_lt (tgt := 27) hx hb nd_P_block_18 rfl (fun hc => ?_) (fun hc => ?_)
      · replace hf := (if_pos hc).symm.trans hf
        exact absurd hf (by simp)
      · replace hf := (if_neg hc).symm.trans hf
        refine lv_iload hx hb nd_P_block_21 (lv_at hl 6 rfl) ?_
        refine lv_iconst (v := 4) hx hb nd_P_block_23 (by decide) ?_
        refine lv_icmp_le (tgt := 37) hx hb nd_P_block_24 rfl (fun hc => ?_) (fun hc => ?_)
        · replace hf := (if_pos hc).symm.trans hf
          replace hf := map_inr hf
          refine lv_aload_n hx hb nd_P_block_37 rfl (lv_at hl 1 rfl) ?_
          refine xg_P_blocks hx hb hts hown hK hP (hts _ nw_203) nd_P_block_38 ?_
          refine lv_iload hx hb nd_P_block_41 (lv_at hl 0 rfl) ?_
          refine lv_iload_n hx hb nd_P_block_43 rfl (lv_at hl 4 rfl) ?_
          refine lv_iload hx hb nd_P_block_44 (lv_at hl 5 rfl) ?_
          refine lv_if_eq (tgt := 53) hx hb nd_P_block_46 rfl (fun hc => ?_) (fun hc => ?_)
          · replace hf := (if_pos hc).symm.trans hf
            refine lv_iconst (v := 0) hx hb nd_P_block_53 (by decide) ?_
            exact J54 _ _ _ h hP a5 q1 a3 (0 : Int32) hS (lv_sub hl [6] rfl) hf
          · replace hf := (if_neg hc).symm.trans hf
            refine lv_iconst (v := 1) hx hb nd_P_block_49 (by decide) ?_
            refine lv_goto hx hb nd_P_block_50 (tgt := 54) rfl ?_
            exact J54 _ _ _ h hP a5 q1 a3 (1 : Int32) hS (lv_sub hl [6] rfl) hf
        · replace hf := (if_neg hc).symm.trans hf
          exact absurd hf (by simp)
set_option maxHeartbeats 4000000 in
set_option maxRecDepth 100000 in
theorem xc_P_lost {l : Launch} {D : va_G} {A : Nat → Prop} {cA : Nat → ClassId} {ad : Nat → Nat} (hD : wdD 61 A ad) (fuel : Nat) (a1 : Int32) (a2 : Int32) (h : XH) (q : Int32 × XH) (hf : xf_P_lost fuel a1 a2 h = some (Sum.inr q)) : CT l D vwCl (xtys cA) A ny_P_lost (wsO ny_P_lost prog_1_method_16_code 4 (some .boolean)) (rmO 7 121) [.ref (ad 0), .int a1, .int a2] (xW cA ad h) (xW cA ad q.2) (some (.int q.1)) := by
  refine Met.ofW (cc := prog_1_method_16_code) (maxL := 4) (ret := (some .boolean)) (by decide +kernel) rfl ?_
  intro p e s m args below meth c s₁ B hml hv
  obtain ⟨hav, hP, hK, hN⟩ := hv
  have hx := B.exec
  have hb := B.bytes
  have hr := B.returns
  have hts : ∀ w ∈ lw_wd, w.before args s = true := fun w hw => atoms_spec (ws := (wsO ny_P_lost prog_1_method_16_code 4 (some .boolean))) B.pre w (List.mem_cons_of_mem _ hw)
  have hown : s.vm.findClass "DrawnPaths" = some m.cls := findClass_of_methodNamed B.named
  have hlocks := B.notSynchronized
  have hS : va_S A s.heap s.heap [] := va_S.rf
  have hl := lv_entry ([.ref (ad 0), .int a1, .int a2]) (n := 4) (Nat.le_of_ble_eq_true rfl)
  have hE : entryFrame m args 4 = entryFrame m ([.ref (ad 0), .int a1, .int a2] : List Value).toArray 4 := by rw [hav]
  rw [hE, lg_entry_eq]
  generalize (lg_sl ([.ref (ad 0), .int a1, .int a2]) ++ List.replicate (4 - (lg_sl ([.ref (ad 0), .int a1, .int a2])).length) Slot.unset).toArray = ls at hl ⊢
  have hl : lv_has ls 4 [(0, .ref (ad 0)), (1, .int a1), (2, .int a2)] := hl
  unfold xf_P_lost at hf
  refine lv_iload_n hx hb nd_P_lost_0 rfl (lv_at hl 1 rfl) ?_
  refine lv_iload_n hx hb nd_P_lost_1 rfl (lv_at hl 2 rfl) ?_
  obtain ⟨q1, hq1, hf⟩ := sbd_inr hf
  refine kc_S (As := [.int a1, .int a2]) (rest := []) (st1 := [.int q1]) ⟨hx, hb, hml, hown, hts⟩ (xc_P_placeAt hD a1 a2 h _ hq1) (kb_P_placeAt hts (hts _ nw_360) ⟨Nat.le_of_ble_eq_true rfl, Nat.le_of_ble_eq_true rfl⟩) hK hN hP hS rfl hl.1 rfl rfl (Nat.le_of_ble_eq_true rfl) ⟨Nat.zero_le _, Nat.zero_le _⟩ nd_P_lost_2 (fun H locs hP hS => ?_)
  replace hf := map_inr hf
  refine lv_istore_n (lv' := [(3, .int q1), (0, .ref (ad 0)), (1, .int a1), (2, .int a2)]) hx hb nd_P_lost_5 rfl hl (by decide) rfl (fun ls hl => ?_)
  refine lv_aload_n hx hb nd_P_lost_6 rfl (lv_at hl 1 rfl) ?_
  refine xg_P_field hx hb hts hown hK hP (hts _ nw_204) nd_P_lost_7 ?_
  refine xg_Field_signs hx hb hts hown hK hP (hts _ nw_87) nd_P_lost_10 ?_
  refine lv_iload_n hx hb nd_P_lost_13 rfl (lv_at hl 0 rfl) ?_
  obtain ⟨j2, hj2, hf⟩ := Option.bind_eq_some_iff.mp hf
  refine xal_signs hx hb hK hP hj2 nd_P_lost_14 ?_
  refine lv_bipush (v := 32) hx hb nd_P_lost_15 (by decide) ?_
  refine lv_icmp_ne (tgt := 22) hx hb nd_P_lost_17 rfl (fun hc => ?_) (fun hc => ?_)
  · replace hf := (if_neg hc).symm.trans hf
    refine lv_aload_n hx hb nd_P_lost_22 rfl (lv_at hl 1 rfl) ?_
    refine xg_P_search hx hb hts hown hK hP (hts _ nw_206) nd_P_lost_23 ?_
    refine lv_aload_n hx hb nd_P_lost_26 rfl (lv_at hl 1 rfl) ?_
    refine xg_P_field hx hb hts hown hK hP (hts _ nw_204) nd_P_lost_27 ?_
    refine xg_Field_signs hx hb hts hown hK hP (hts _ nw_87) nd_P_lost_30 ?_
    obtain ⟨q3, hq3, hf⟩ := Option.bind_eq_some_iff.mp hf
    refine kc_V (As := [.ref (ad 5)]) (rest := []) (st1 := []) ⟨hx, hb, hml, hown, hts⟩ (xc_Search_explore hD fuel h _ hq3) (kb_Search_explore hts (hts _ nw_281) ⟨Nat.le_of_ble_eq_true rfl, Nat.le_of_ble_eq_true rfl⟩) (xr_Search hK hP) hK hN hP hS rfl hl.1 rfl rfl (Nat.le_of_ble_eq_true rfl) ⟨Nat.zero_le _, Nat.zero_le _⟩ nd_P_lost_33 (fun H locs hP hS => ?_)
    refine lv_aload_n hx hb nd_P_lost_36 rfl (lv_at hl 1 rfl) ?_
    refine xg_P_search hx hb hts hown hK hP (hts _ nw_206) nd_P_lost_37 ?_
    refine lv_iload_n hx hb nd_P_lost_40 rfl (lv_at hl 0 rfl) ?_
    obtain ⟨q4, hq4, hf⟩ := Option.bind_eq_some_iff.mp hf
    refine kc_V (As := [.int q1]) (rest := []) (st1 := [.int q4]) ⟨hx, hb, hml, hown, hts⟩ (xc_Search_cameTo hD q1 q3 _ hq4) (kb_Search_cameTo hts (hts _ nw_321) ⟨Nat.le_of_ble_eq_true rfl, Nat.le_of_ble_eq_true rfl⟩) (xr_Search hK hP) hK hN hP hS rfl hl.1 rfl rfl (Nat.le_of_ble_eq_true rfl) ⟨Nat.zero_le _, Nat.zero_le _⟩ nd_P_lost_41 (fun H locs hP hS => ?_)
    refine lv_if_ne (tgt := 51) hx hb nd_P_lost_44 rfl (fun hc => ?_) (fun hc => ?_)
    · replace hf := (if_neg hc).symm.trans hf
      refine lv_iconst (v := 0) hx hb nd_P_lost_51 (by decide) ?_
      obtain rfl := (Option.some.inj hf)
      exact W.zret hx hb hr (by decide) (fun t ht hW => ⟨rfl, by rw [ht]; exact hP, va_K.moved hW.alike hK, hS.F ht⟩) hS.2.2 nd_P_lost_52
    · replace hf := (if_pos hc).symm.trans hf
      refine lv_iconst (v := 1) hx hb nd_P_lost_47 (by decide) ?_
      refine lv_goto hx hb nd_P_lost_48 (tgt := 52) rfl ?_
      obtain rfl := (Option.some.inj hf)
      exact W.zret hx hb hr (by decide) (fun t ht hW => ⟨rfl, by rw [ht]; exact hP, va_K.moved hW.alike hK, hS.F ht⟩) hS.2.2 nd_P_lost_52
  · replace hf := (if_pos hc).symm.trans hf
    refine lv_iconst (v := 0) hx hb nd_P_lost_20 (by decide) ?_
    obtain rfl := (Option.some.inj hf)
    exact W.zret hx hb hr (by decide) (fun t ht hW => ⟨rfl, by rw [ht]; exact hP, va_K.moved hW.alike hK, hS.F ht⟩) hS.2.2 nd_P_lost_21
set_option maxHeartbeats 4000000 in
set_option maxRecDepth 100000 in
theorem xc_Line_copy {l : Launch} {D : va_G} {A : Nat → Prop} {cA : Nat → ClassId} {ad : Nat → Nat} (hD : wdD 61 A ad) (k0 : Nat) (k1 : Nat) (h : XH) (q : XH) (hk0 : k0 < 3) (hk1 : k1 < 3) (hf : xf_Line_copy k0 k1 h = some q) : CT l D vwCl (xtys cA) A ny_Line_copy (wsO ny_Line_copy prog_5_method_6_code 2 none) (rmO 1 60) [.ref (ad (k0 + 13)), .ref (ad (k1 + 13))] (xW cA ad h) (xW cA ad q) none := by
  refine Met.ofW (cc := prog_5_method_6_code) (maxL := 2) (ret := none) (by decide +kernel) rfl ?_
  intro p e s m args below meth c s₁ B hml hv
  obtain ⟨hav, hP, hK, hN⟩ := hv
  have hx := B.exec
  have hb := B.bytes
  have hr := B.returns
  have hts : ∀ w ∈ lw_wd, w.before args s = true := fun w hw => atoms_spec (ws := (wsO ny_Line_copy prog_5_method_6_code 2 none)) B.pre w (List.mem_cons_of_mem _ hw)
  have hown : s.vm.findClass "DrawnPaths$Line" = some m.cls := findClass_of_methodNamed B.named
  have hlocks := B.notSynchronized
  have hS : va_S A s.heap s.heap [] := va_S.rf
  have hl := lv_entry ([.ref (ad (k0 + 13)), .ref (ad (k1 + 13))]) (n := 2) (Nat.le_of_ble_eq_true rfl)
  have hE : entryFrame m args 2 = entryFrame m ([.ref (ad (k0 + 13)), .ref (ad (k1 + 13))] : List Value).toArray 2 := by rw [hav]
  rw [hE, lg_entry_eq]
  generalize (lg_sl ([.ref (ad (k0 + 13)), .ref (ad (k1 + 13))]) ++ List.replicate (2 - (lg_sl ([.ref (ad (k0 + 13)), .ref (ad (k1 + 13))])).length) Slot.unset).toArray = ls at hl ⊢
  have hl : lv_has ls 2 [(0, .ref (ad (k0 + 13))), (1, .ref (ad (k1 + 13)))] := hl
  unfold xf_Line_copy at hf
  refine lv_aload_n hx hb nd_Line_copy_0 rfl (lv_at hl 0 rfl) ?_
  refine lv_aload_n hx hb nd_Line_copy_1 rfl (lv_at hl 1 rfl) ?_
  refine xg_Line_size hx hb hts hown hK hP hk1 (hts _ nw_112) nd_Line_copy_2 ?_
  refine lv_aload_n hx hb nd_Line_copy_5 rfl (lv_at hl 0 rfl) ?_
  refine xg_Line_characters hx hb hts hown hK hP hk0 (hts _ nw_111) nd_Line_copy_6 ?_
  refine xln_lchars hx hb hK hP hk0 nd_Line_copy_9 ?_
  refine jk_minR hx hb hml hl.1 hown hts (hts _ nw_333) ⟨Nat.le_of_ble_eq_true rfl, Nat.le_of_ble_eq_true rfl⟩ (Nat.le_of_ble_eq_true rfl) ⟨Nat.zero_le _, Nat.zero_le _⟩ nd_Line_copy_10 ?_
  refine xp_Line_size hx hb hts hown hK hD hP hS hk0 (hts _ nw_112) nd_Line_copy_13 (fun H locs hP hS => ?_)
  obtain ⟨g1, hg1, hf⟩ := Option.bind_eq_some_iff.mp hf
  rw [Option.some.inj hg1] at hP
  refine lv_aload_n hx hb nd_Line_copy_16 rfl (lv_at hl 1 rfl) ?_
  refine xg_Line_characters hx hb hts hown hK hP hk1 (hts _ nw_111) nd_Line_copy_17 ?_
  refine lv_iconst (v := 0) hx hb nd_Line_copy_20 (by decide) ?_
  refine lv_aload_n hx hb nd_Line_copy_21 rfl (lv_at hl 0 rfl) ?_
  refine xg_Line_characters hx hb hts hown hK hP hk0 (hts _ nw_111) nd_Line_copy_22 ?_
  refine lv_iconst (v := 0) hx hb nd_Line_copy_25 (by decide) ?_
  refine lv_aload_n hx hb nd_Line_copy_26 rfl (lv_at hl 0 rfl) ?_
  refine xg_Line_size hx hb hts hown hK hP hk0 (hts _ nw_112) nd_Line_copy_27 ?_
  obtain ⟨j2, hj2, hf⟩ := Option.bind_eq_some_iff.mp hf
  refine xcp_lchars hx hb hml hl.1 hown hts (hts _ nw_336) hK hD hP hS hk1 hk0 hj2 ⟨Nat.le_of_ble_eq_true rfl, Nat.le_of_ble_eq_true rfl⟩ (Nat.le_of_ble_eq_true rfl) nd_Line_copy_30 (fun H locs hP hS => ?_)
  obtain ⟨g3, hg3, hf⟩ := Option.bind_eq_some_iff.mp hf
  rw [Option.some.inj hg3] at hP
  obtain rfl := (Option.some.inj hf)
  exact W.vret hx hb hr (fun t ht hW => ⟨rfl, by rw [ht]; exact hP, va_K.moved hW.alike hK, hS.F ht⟩) hS.2.2 nd_Line_copy_33
end
section
set_option maxHeartbeats 4000000 in
set_option maxRecDepth 100000 in
theorem xc_P_output {l : Launch} {D : va_G} {A : Nat → Prop} {cA : Nat → ClassId} {ad : Nat → Nat} (hD : wdD 61 A ad) (h : XH) (q : Int32 × XH) (hf : xf_P_output h = some q) : CT l D vwCl (xtys cA) A ny_P_output (wsO ny_P_output prog_1_method_17_code 1 (some .int)) (rmO 2 81) [.ref (ad 0)] (xW cA ad h) (xW cA ad q.2) (some (.int q.1)) := by
  refine Met.ofW (cc := prog_1_method_17_code) (maxL := 1) (ret := (some .int)) (by decide +kernel) rfl ?_
  intro p e s m args below meth c s₁ B hml hv
  obtain ⟨hav, hP, hK, hN⟩ := hv
  have hx := B.exec
  have hb := B.bytes
  have hr := B.returns
  have hts : ∀ w ∈ lw_wd, w.before args s = true := fun w hw => atoms_spec (ws := (wsO ny_P_output prog_1_method_17_code 1 (some .int))) B.pre w (List.mem_cons_of_mem _ hw)
  have hown : s.vm.findClass "DrawnPaths" = some m.cls := findClass_of_methodNamed B.named
  have hlocks := B.notSynchronized
  have hS : va_S A s.heap s.heap [] := va_S.rf
  have hl := lv_entry ([.ref (ad 0)]) (n := 1) (Nat.le_of_ble_eq_true rfl)
  have hE : entryFrame m args 1 = entryFrame m ([.ref (ad 0)] : List Value).toArray 1 := by rw [hav]
  rw [hE, lg_entry_eq]
  generalize (lg_sl ([.ref (ad 0)]) ++ List.replicate (1 - (lg_sl ([.ref (ad 0)])).length) Slot.unset).toArray = ls at hl ⊢
  have hl : lv_has ls 1 [(0, .ref (ad 0))] := hl
  unfold xf_P_output at hf
  refine lv_aload_n hx hb nd_P_output_0 rfl (lv_at hl 0 rfl) ?_
  refine xg_P_page hx hb hts hown hK hP (hts _ nw_208) nd_P_output_1 ?_
  refine lv_aload_n hx hb nd_P_output_4 rfl (lv_at hl 0 rfl) ?_
  refine xg_P_run hx hb hts hown hK hP (hts _ nw_205) nd_P_output_5 ?_
  refine xg_Run_written hx hb hts hown hK hP (hts _ nw_154) nd_P_output_8 ?_
  obtain ⟨q1, hq1, hf⟩ := Option.bind_eq_some_iff.mp hf
  refine kc_V (As := [.ref (ad (0 + 13))]) (rest := []) (st1 := []) ⟨hx, hb, hml, hown, hts⟩ (xc_Line_copy hD 2 0 h _ (by decide) (by decide) hq1) (kb_Line_copy hts (hts _ nw_329) ⟨Nat.le_of_ble_eq_true rfl, Nat.le_of_ble_eq_true rfl⟩) (xr_Line hK hP (by decide)) hK hN hP hS rfl hl.1 rfl rfl (Nat.le_of_ble_eq_true rfl) ⟨Nat.zero_le _, Nat.zero_le _⟩ nd_P_output_11 (fun H locs hP hS => ?_)
  refine lv_aload_n hx hb nd_P_output_14 rfl (lv_at hl 0 rfl) ?_
  refine xg_P_page hx hb hts hown hK hP (hts _ nw_208) nd_P_output_15 ?_
  refine xg_Line_size hx hb hts hown hK hP (by decide) (hts _ nw_113) nd_P_output_18 ?_
  obtain rfl := (Option.some.inj hf)
  exact W.iret hx hb hr (fun t ht hW => ⟨rfl, by rw [ht]; exact hP, va_K.moved hW.alike hK, hS.F ht⟩) hS.2.2 nd_P_output_21
set_option maxHeartbeats 4000000 in
set_option maxRecDepth 100000 in
theorem xc_P_length {l : Launch} {D : va_G} {A : Nat → Prop} {cA : Nat → ClassId} {ad : Nat → Nat} (hD : wdD 61 A ad) (h : XH) (q : Int32) (hf : xf_P_length h = q) : CT l D vwCl (xtys cA) A ny_P_length (wsO ny_P_length prog_1_method_18_code 1 (some .int)) (rmO 0 0) [.ref (ad 0)] (xW cA ad h) (xW cA ad h) (some (.int q)) := by
  refine Met.ofW (cc := prog_1_method_18_code) (maxL := 1) (ret := (some .int)) (by decide +kernel) rfl ?_
  intro p e s m args below meth c s₁ B hml hv
  obtain ⟨hav, hP, hK, hN⟩ := hv
  have hx := B.exec
  have hb := B.bytes
  have hr := B.returns
  have hts : ∀ w ∈ lw_wd, w.before args s = true := fun w hw => atoms_spec (ws := (wsO ny_P_length prog_1_method_18_code 1 (some .int))) B.pre w (List.mem_cons_of_mem _ hw)
  have hown : s.vm.findClass "DrawnPaths" = some m.cls := findClass_of_methodNamed B.named
  have hlocks := B.notSynchronized
  have hS : va_S A s.heap s.heap [] := va_S.rf
  have hl := lv_entry ([.ref (ad 0)]) (n := 1) (Nat.le_of_ble_eq_true rfl)
  have hE : entryFrame m args 1 = entryFrame m ([.ref (ad 0)] : List Value).toArray 1 := by rw [hav]
  rw [hE, lg_entry_eq]
  generalize (lg_sl ([.ref (ad 0)]) ++ List.replicate (1 - (lg_sl ([.ref (ad 0)])).length) Slot.unset).toArray = ls at hl ⊢
  have hl : lv_has ls 1 [(0, .ref (ad 0))] := hl
  unfold xf_P_length at hf
  refine lv_aload_n hx hb nd_P_length_0 rfl (lv_at hl 0 rfl) ?_
  refine xg_P_page hx hb hts hown hK hP (hts _ nw_208) nd_P_length_1 ?_
  refine xg_Line_size hx hb hts hown hK hP (by decide) (hts _ nw_113) nd_P_length_4 ?_
  obtain rfl := hf
  exact W.iret hx hb hr (fun t ht hW => ⟨rfl, by rw [ht]; exact hP, va_K.moved hW.alike hK, hS.F ht⟩) hS.2.2 nd_P_length_7
set_option maxHeartbeats 4000000 in
set_option maxRecDepth 100000 in
theorem xc_P_charAt {l : Launch} {D : va_G} {A : Nat → Prop} {cA : Nat → ClassId} {ad : Nat → Nat} (hD : wdD 61 A ad) (a1 : Int32) (h : XH) (q : Int32) (hf : xf_P_charAt a1 h = some q) : CT l D vwCl (xtys cA) A ny_P_charAt (wsO ny_P_charAt prog_1_method_19_code 2 (some .char)) (rmO 1 21) [.ref (ad 0), .int a1] (xW cA ad h) (xW cA ad h) (some (.int q)) := by
  refine Met.ofW (cc := prog_1_method_19_code) (maxL := 2) (ret := (some .char)) (by decide +kernel) rfl ?_
  intro p e s m args below meth c s₁ B hml hv
  obtain ⟨hav, hP, hK, hN⟩ := hv
  have hx := B.exec
  have hb := B.bytes
  have hr := B.returns
  have hts : ∀ w ∈ lw_wd, w.before args s = true := fun w hw => atoms_spec (ws := (wsO ny_P_charAt prog_1_method_19_code 2 (some .char))) B.pre w (List.mem_cons_of_mem _ hw)
  have hown : s.vm.findClass "DrawnPaths" = some m.cls := findClass_of_methodNamed B.named
  have hlocks := B.notSynchronized
  have hS : va_S A s.heap s.heap [] := va_S.rf
  have hl := lv_entry ([.ref (ad 0), .int a1]) (n := 2) (Nat.le_of_ble_eq_true rfl)
  have hE : entryFrame m args 2 = entryFrame m ([.ref (ad 0), .int a1] : List Value).toArray 2 := by rw [hav]
  rw [hE, lg_entry_eq]
  generalize (lg_sl ([.ref (ad 0), .int a1]) ++ List.replicate (2 - (lg_sl ([.ref (ad 0), .int a1])).length) Slot.unset).toArray = ls at hl ⊢
  have hl : lv_has ls 2 [(0, .ref (ad 0)), (1, .int a1)] := hl
  unfold xf_P_charAt at hf
  refine lv_aload_n hx hb nd_P_charAt_0 rfl (lv_at hl 0 rfl) ?_
  refine xg_P_page hx hb hts hown hK hP (hts _ nw_208) nd_P_charAt_1 ?_
  refine lv_iload_n hx hb nd_P_charAt_4 rfl (lv_at hl 1 rfl) ?_
  obtain ⟨q1, hq1, hf⟩ := Option.bind_eq_some_iff.mp hf
  refine kc_V (As := [.int a1]) (rest := []) (st1 := [.int q1]) ⟨hx, hb, hml, hown, hts⟩ (xc_Line_at hD 2 a1 h _ (by decide) hq1) (kb_Line_at hts (hts _ nw_347) ⟨Nat.le_of_ble_eq_true rfl, Nat.le_of_ble_eq_true rfl⟩) (xr_Line hK hP (by decide)) hK hN hP hS rfl hl.1 rfl rfl (Nat.le_of_ble_eq_true rfl) ⟨Nat.zero_le _, Nat.zero_le _⟩ nd_P_charAt_5 (fun H locs hP hS => ?_)
  obtain ⟨r2, hr2, hf⟩ := Option.bind_eq_some_iff.mp hf
  obtain ⟨er2, ur2⟩ := nc_eq hr2
  subst er2
  obtain rfl := (Option.some.inj hf)
  exact W.zret hx hb hr (nc_nar ur2) (fun t ht hW => ⟨rfl, by rw [ht]; exact hP, va_K.moved hW.alike hK, hS.F ht⟩) hS.2.2 nd_P_charAt_8
end
