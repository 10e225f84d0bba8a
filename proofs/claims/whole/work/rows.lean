section
-- ===== PART A: goes FIRST, ahead of the names: the tables' words, and 'selects' of the private methods out of them =====
/-- a private method of a class that the tables say can be made, by its rows of tables_1 -/
def lw_okq (q : MethodName × Nat) : Prop := (q.1.cls ≠ "java/lang/invoke/MethodHandle" ∧ q.1.cls ≠ "java/lang/invoke/VarHandle") ∧ Cond.instantiable q.1.cls q.2 ∈ tables_1 ∧ Cond.privateMethod q.1 ∈ tables_1 ∧ Cond.instanceMethod q.1 ∈ tables_1
theorem lw_p0 : lw_okq (⟨"TentCamp$Text", "readLetter", "()I"⟩, 7) := ⟨⟨by decide +kernel, by decide +kernel⟩, List.mem_of_getElem? (i := 220) (by decide +kernel), List.mem_of_getElem? (i := 293) (by decide +kernel), List.mem_of_getElem? (i := 294) (by decide +kernel)⟩
theorem lw_p1 : lw_okq (⟨"TentCamp$Text", "failAt", "(I)V"⟩, 7) := ⟨⟨by decide +kernel, by decide +kernel⟩, List.mem_of_getElem? (i := 220) (by decide +kernel), List.mem_of_getElem? (i := 305) (by decide +kernel), List.mem_of_getElem? (i := 306) (by decide +kernel)⟩
theorem lw_p2 : lw_okq (⟨"TentCamp$Text", "readNumber", "(III)I"⟩, 7) := ⟨⟨by decide +kernel, by decide +kernel⟩, List.mem_of_getElem? (i := 220) (by decide +kernel), List.mem_of_getElem? (i := 309) (by decide +kernel), List.mem_of_getElem? (i := 310) (by decide +kernel)⟩
theorem lw_p3 : lw_okq (⟨"TentCamp$Text", "digitHere", "()I"⟩, 7) := ⟨⟨by decide +kernel, by decide +kernel⟩, List.mem_of_getElem? (i := 220) (by decide +kernel), List.mem_of_getElem? (i := 313) (by decide +kernel), List.mem_of_getElem? (i := 314) (by decide +kernel)⟩
theorem lw_p4 : lw_okq (⟨"TentCamp$Text", "readStep", "()I"⟩, 7) := ⟨⟨by decide +kernel, by decide +kernel⟩, List.mem_of_getElem? (i := 220) (by decide +kernel), List.mem_of_getElem? (i := 321) (by decide +kernel), List.mem_of_getElem? (i := 322) (by decide +kernel)⟩
theorem lw_p5 : lw_okq (⟨"TentCamp$Camp", "openPlace", "(II)I"⟩, 12) := ⟨⟨by decide +kernel, by decide +kernel⟩, List.mem_of_getElem? (i := 28) (by decide +kernel), List.mem_of_getElem? (i := 358) (by decide +kernel), List.mem_of_getElem? (i := 359) (by decide +kernel)⟩
theorem lw_p6 : lw_okq (⟨"TentCamp$Camp", "newFieldSize", "(I)I"⟩, 12) := ⟨⟨by decide +kernel, by decide +kernel⟩, List.mem_of_getElem? (i := 28) (by decide +kernel), List.mem_of_getElem? (i := 366) (by decide +kernel), List.mem_of_getElem? (i := 367) (by decide +kernel)⟩
theorem lw_p7 : lw_okq (⟨"TentCamp$Camp", "wantsBig", "(I)Z"⟩, 12) := ⟨⟨by decide +kernel, by decide +kernel⟩, List.mem_of_getElem? (i := 28) (by decide +kernel), List.mem_of_getElem? (i := 370) (by decide +kernel), List.mem_of_getElem? (i := 371) (by decide +kernel)⟩
theorem lw_p8 : lw_okq (⟨"java/lang/Throwable", "fillInStackTrace", "(I)Ljava/lang/Throwable;"⟩, 6) := ⟨⟨by decide +kernel, by decide +kernel⟩, List.mem_of_getElem? (i := 455) (by decide +kernel), List.mem_of_getElem? (i := 453) (by decide +kernel), List.mem_of_getElem? (i := 454) (by decide +kernel)⟩
theorem lw_p9 : lw_okq (⟨"TentCamp$Camp", "strikeTents", "(I)I"⟩, 12) := ⟨⟨by decide +kernel, by decide +kernel⟩, List.mem_of_getElem? (i := 28) (by decide +kernel), List.mem_of_getElem? (i := 542) (by decide +kernel), List.mem_of_getElem? (i := 543) (by decide +kernel)⟩
theorem lw_p10 : lw_okq (⟨"TentCamp$Camp", "clearFields", "(I)V"⟩, 12) := ⟨⟨by decide +kernel, by decide +kernel⟩, List.mem_of_getElem? (i := 28) (by decide +kernel), List.mem_of_getElem? (i := 562) (by decide +kernel), List.mem_of_getElem? (i := 563) (by decide +kernel)⟩
theorem lw_p11 : lw_okq (⟨"TentCamp$Camp", "giveUpTooMuch", "()V"⟩, 12) := ⟨⟨by decide +kernel, by decide +kernel⟩, List.mem_of_getElem? (i := 28) (by decide +kernel), List.mem_of_getElem? (i := 566) (by decide +kernel), List.mem_of_getElem? (i := 567) (by decide +kernel)⟩
theorem lw_p12 : lw_okq (⟨"TentCamp$Fields", "countAheadOf", "(I)I"⟩, 5) := ⟨⟨by decide +kernel, by decide +kernel⟩, List.mem_of_getElem? (i := 106) (by decide +kernel), List.mem_of_getElem? (i := 666) (by decide +kernel), List.mem_of_getElem? (i := 667) (by decide +kernel)⟩
theorem lw_p13 : lw_okq (⟨"TentCamp$Shelf", "at", "(I)LTentCamp$Camp;"⟩, 1) := ⟨⟨by decide +kernel, by decide +kernel⟩, List.mem_of_getElem? (i := 195) (by decide +kernel), List.mem_of_getElem? (i := 702) (by decide +kernel), List.mem_of_getElem? (i := 703) (by decide +kernel)⟩
theorem lw_p14 : lw_okq (⟨"TentCampModel", "refused", "(I)Z"⟩, 13) := ⟨⟨by decide +kernel, by decide +kernel⟩, List.mem_of_getElem? (i := 863) (by decide +kernel), List.mem_of_getElem? (i := 925) (by decide +kernel), List.mem_of_getElem? (i := 926) (by decide +kernel)⟩
theorem lw_p15 : lw_okq (⟨"TentCampModel", "readText", "()I"⟩, 13) := ⟨⟨by decide +kernel, by decide +kernel⟩, List.mem_of_getElem? (i := 863) (by decide +kernel), List.mem_of_getElem? (i := 937) (by decide +kernel), List.mem_of_getElem? (i := 938) (by decide +kernel)⟩
def lw_privs_1 : List (MethodName × Nat) := [(⟨"TentCamp$Text", "readLetter", "()I"⟩, 7), (⟨"TentCamp$Text", "failAt", "(I)V"⟩, 7), (⟨"TentCamp$Text", "readNumber", "(III)I"⟩, 7), (⟨"TentCamp$Text", "digitHere", "()I"⟩, 7), (⟨"TentCamp$Text", "readStep", "()I"⟩, 7), (⟨"TentCamp$Camp", "openPlace", "(II)I"⟩, 12), (⟨"TentCamp$Camp", "newFieldSize", "(I)I"⟩, 12), (⟨"TentCamp$Camp", "wantsBig", "(I)Z"⟩, 12), (⟨"java/lang/Throwable", "fillInStackTrace", "(I)Ljava/lang/Throwable;"⟩, 6), (⟨"TentCamp$Camp", "strikeTents", "(I)I"⟩, 12), (⟨"TentCamp$Camp", "clearFields", "(I)V"⟩, 12), (⟨"TentCamp$Camp", "giveUpTooMuch", "()V"⟩, 12), (⟨"TentCamp$Fields", "countAheadOf", "(I)I"⟩, 5), (⟨"TentCamp$Shelf", "at", "(I)LTentCamp$Camp;"⟩, 1), (⟨"TentCampModel", "refused", "(I)Z"⟩, 13), (⟨"TentCampModel", "readText", "()I"⟩, 13)]
theorem lw_r1 : ∀ q ∈ lw_privs_1, lw_okq q := List.forall_mem_cons.mpr ⟨lw_p0, List.forall_mem_cons.mpr ⟨lw_p1, List.forall_mem_cons.mpr ⟨lw_p2, List.forall_mem_cons.mpr ⟨lw_p3, List.forall_mem_cons.mpr ⟨lw_p4, List.forall_mem_cons.mpr ⟨lw_p5, List.forall_mem_cons.mpr ⟨lw_p6, List.forall_mem_cons.mpr ⟨lw_p7, List.forall_mem_cons.mpr ⟨lw_p8, List.forall_mem_cons.mpr ⟨lw_p9, List.forall_mem_cons.mpr ⟨lw_p10, List.forall_mem_cons.mpr ⟨lw_p11, List.forall_mem_cons.mpr ⟨lw_p12, List.forall_mem_cons.mpr ⟨lw_p13, List.forall_mem_cons.mpr ⟨lw_p14, List.forall_mem_cons.mpr ⟨lw_p15, fun _ h => absurd h List.not_mem_nil⟩⟩⟩⟩⟩⟩⟩⟩⟩⟩⟩⟩⟩⟩⟩⟩
theorem lw_p16 : lw_okq (⟨"TentCampModel", "isNext", "(I)Z"⟩, 13) := ⟨⟨by decide +kernel, by decide +kernel⟩, List.mem_of_getElem? (i := 863) (by decide +kernel), List.mem_of_getElem? (i := 941) (by decide +kernel), List.mem_of_getElem? (i := 942) (by decide +kernel)⟩
theorem lw_p17 : lw_okq (⟨"TentCampModel", "accept", "(Z)V"⟩, 13) := ⟨⟨by decide +kernel, by decide +kernel⟩, List.mem_of_getElem? (i := 863) (by decide +kernel), List.mem_of_getElem? (i := 945) (by decide +kernel), List.mem_of_getElem? (i := 946) (by decide +kernel)⟩
theorem lw_p18 : lw_okq (⟨"TentCampModel", "two", "(II)I"⟩, 13) := ⟨⟨by decide +kernel, by decide +kernel⟩, List.mem_of_getElem? (i := 863) (by decide +kernel), List.mem_of_getElem? (i := 949) (by decide +kernel), List.mem_of_getElem? (i := 950) (by decide +kernel)⟩
theorem lw_p19 : lw_okq (⟨"TentCampModel", "digit", "(II)I"⟩, 13) := ⟨⟨by decide +kernel, by decide +kernel⟩, List.mem_of_getElem? (i := 863) (by decide +kernel), List.mem_of_getElem? (i := 953) (by decide +kernel), List.mem_of_getElem? (i := 954) (by decide +kernel)⟩
theorem lw_p20 : lw_okq (⟨"TentCampModel", "readCommand", "()V"⟩, 13) := ⟨⟨by decide +kernel, by decide +kernel⟩, List.mem_of_getElem? (i := 863) (by decide +kernel), List.mem_of_getElem? (i := 958) (by decide +kernel), List.mem_of_getElem? (i := 959) (by decide +kernel)⟩
theorem lw_p21 : lw_okq (⟨"TentCampModel", "readPitch", "()V"⟩, 13) := ⟨⟨by decide +kernel, by decide +kernel⟩, List.mem_of_getElem? (i := 863) (by decide +kernel), List.mem_of_getElem? (i := 962) (by decide +kernel), List.mem_of_getElem? (i := 963) (by decide +kernel)⟩
theorem lw_p22 : lw_okq (⟨"TentCampModel", "stepRead", "()I"⟩, 13) := ⟨⟨by decide +kernel, by decide +kernel⟩, List.mem_of_getElem? (i := 863) (by decide +kernel), List.mem_of_getElem? (i := 966) (by decide +kernel), List.mem_of_getElem? (i := 967) (by decide +kernel)⟩
theorem lw_p23 : lw_okq (⟨"TentCampModel", "readFill", "()V"⟩, 13) := ⟨⟨by decide +kernel, by decide +kernel⟩, List.mem_of_getElem? (i := 863) (by decide +kernel), List.mem_of_getElem? (i := 1027) (by decide +kernel), List.mem_of_getElem? (i := 1028) (by decide +kernel)⟩
theorem lw_p24 : lw_okq (⟨"TentCampModel", "readFrame", "(ZZ)V"⟩, 13) := ⟨⟨by decide +kernel, by decide +kernel⟩, List.mem_of_getElem? (i := 863) (by decide +kernel), List.mem_of_getElem? (i := 1034) (by decide +kernel), List.mem_of_getElem? (i := 1035) (by decide +kernel)⟩
theorem lw_p25 : lw_okq (⟨"TentCampModel", "isTent", "(I)Z"⟩, 13) := ⟨⟨by decide +kernel, by decide +kernel⟩, List.mem_of_getElem? (i := 863) (by decide +kernel), List.mem_of_getElem? (i := 1084) (by decide +kernel), List.mem_of_getElem? (i := 1085) (by decide +kernel)⟩
theorem lw_p26 : lw_okq (⟨"TentCampModel", "frameOf", "(I)I"⟩, 13) := ⟨⟨by decide +kernel, by decide +kernel⟩, List.mem_of_getElem? (i := 863) (by decide +kernel), List.mem_of_getElem? (i := 1089) (by decide +kernel), List.mem_of_getElem? (i := 1090) (by decide +kernel)⟩
theorem lw_p27 : lw_okq (⟨"TentCampModel", "isField", "(I)Z"⟩, 13) := ⟨⟨by decide +kernel, by decide +kernel⟩, List.mem_of_getElem? (i := 863) (by decide +kernel), List.mem_of_getElem? (i := 1097) (by decide +kernel), List.mem_of_getElem? (i := 1098) (by decide +kernel)⟩
theorem lw_p28 : lw_okq (⟨"TentCampModel", "tentsOn", "(I)I"⟩, 13) := ⟨⟨by decide +kernel, by decide +kernel⟩, List.mem_of_getElem? (i := 863) (by decide +kernel), List.mem_of_getElem? (i := 1101) (by decide +kernel), List.mem_of_getElem? (i := 1102) (by decide +kernel)⟩
theorem lw_p29 : lw_okq (⟨"TentCampModel", "poisonOn", "(I)I"⟩, 13) := ⟨⟨by decide +kernel, by decide +kernel⟩, List.mem_of_getElem? (i := 863) (by decide +kernel), List.mem_of_getElem? (i := 1105) (by decide +kernel), List.mem_of_getElem? (i := 1106) (by decide +kernel)⟩
theorem lw_p30 : lw_okq (⟨"TentCampModel", "isFrame", "(I)Z"⟩, 13) := ⟨⟨by decide +kernel, by decide +kernel⟩, List.mem_of_getElem? (i := 863) (by decide +kernel), List.mem_of_getElem? (i := 1121) (by decide +kernel), List.mem_of_getElem? (i := 1122) (by decide +kernel)⟩
theorem lw_p31 : lw_okq (⟨"TentCampModel", "remember", "()V"⟩, 13) := ⟨⟨by decide +kernel, by decide +kernel⟩, List.mem_of_getElem? (i := 863) (by decide +kernel), List.mem_of_getElem? (i := 1134) (by decide +kernel), List.mem_of_getElem? (i := 1135) (by decide +kernel)⟩
def lw_privs_2 : List (MethodName × Nat) := [(⟨"TentCampModel", "isNext", "(I)Z"⟩, 13), (⟨"TentCampModel", "accept", "(Z)V"⟩, 13), (⟨"TentCampModel", "two", "(II)I"⟩, 13), (⟨"TentCampModel", "digit", "(II)I"⟩, 13), (⟨"TentCampModel", "readCommand", "()V"⟩, 13), (⟨"TentCampModel", "readPitch", "()V"⟩, 13), (⟨"TentCampModel", "stepRead", "()I"⟩, 13), (⟨"TentCampModel", "readFill", "()V"⟩, 13), (⟨"TentCampModel", "readFrame", "(ZZ)V"⟩, 13), (⟨"TentCampModel", "isTent", "(I)Z"⟩, 13), (⟨"TentCampModel", "frameOf", "(I)I"⟩, 13), (⟨"TentCampModel", "isField", "(I)Z"⟩, 13), (⟨"TentCampModel", "tentsOn", "(I)I"⟩, 13), (⟨"TentCampModel", "poisonOn", "(I)I"⟩, 13), (⟨"TentCampModel", "isFrame", "(I)Z"⟩, 13), (⟨"TentCampModel", "remember", "()V"⟩, 13)]
theorem lw_r2 : ∀ q ∈ lw_privs_2, lw_okq q := List.forall_mem_cons.mpr ⟨lw_p16, List.forall_mem_cons.mpr ⟨lw_p17, List.forall_mem_cons.mpr ⟨lw_p18, List.forall_mem_cons.mpr ⟨lw_p19, List.forall_mem_cons.mpr ⟨lw_p20, List.forall_mem_cons.mpr ⟨lw_p21, List.forall_mem_cons.mpr ⟨lw_p22, List.forall_mem_cons.mpr ⟨lw_p23, List.forall_mem_cons.mpr ⟨lw_p24, List.forall_mem_cons.mpr ⟨lw_p25, List.forall_mem_cons.mpr ⟨lw_p26, List.forall_mem_cons.mpr ⟨lw_p27, List.forall_mem_cons.mpr ⟨lw_p28, List.forall_mem_cons.mpr ⟨lw_p29, List.forall_mem_cons.mpr ⟨lw_p30, List.forall_mem_cons.mpr ⟨lw_p31, fun _ h => absurd h List.not_mem_nil⟩⟩⟩⟩⟩⟩⟩⟩⟩⟩⟩⟩⟩⟩⟩⟩
theorem lw_p32 : lw_okq (⟨"TentCampModel", "begin", "()V"⟩, 13) := ⟨⟨by decide +kernel, by decide +kernel⟩, List.mem_of_getElem? (i := 863) (by decide +kernel), List.mem_of_getElem? (i := 1174) (by decide +kernel), List.mem_of_getElem? (i := 1175) (by decide +kernel)⟩
theorem lw_p33 : lw_okq (⟨"TentCampModel", "needs", "(I)I"⟩, 13) := ⟨⟨by decide +kernel, by decide +kernel⟩, List.mem_of_getElem? (i := 863) (by decide +kernel), List.mem_of_getElem? (i := 1182) (by decide +kernel), List.mem_of_getElem? (i := 1183) (by decide +kernel)⟩
theorem lw_p34 : lw_okq (⟨"TentCampModel", "does", "(I)Z"⟩, 13) := ⟨⟨by decide +kernel, by decide +kernel⟩, List.mem_of_getElem? (i := 863) (by decide +kernel), List.mem_of_getElem? (i := 1200) (by decide +kernel), List.mem_of_getElem? (i := 1201) (by decide +kernel)⟩
theorem lw_p35 : lw_okq (⟨"TentCampModel", "pitches", "(II)Z"⟩, 13) := ⟨⟨by decide +kernel, by decide +kernel⟩, List.mem_of_getElem? (i := 863) (by decide +kernel), List.mem_of_getElem? (i := 1204) (by decide +kernel), List.mem_of_getElem? (i := 1205) (by decide +kernel)⟩
theorem lw_p36 : lw_okq (⟨"TentCampModel", "enters", "()Z"⟩, 13) := ⟨⟨by decide +kernel, by decide +kernel⟩, List.mem_of_getElem? (i := 863) (by decide +kernel), List.mem_of_getElem? (i := 1208) (by decide +kernel), List.mem_of_getElem? (i := 1209) (by decide +kernel)⟩
theorem lw_p37 : lw_okq (⟨"TentCampModel", "leaves", "()Z"⟩, 13) := ⟨⟨by decide +kernel, by decide +kernel⟩, List.mem_of_getElem? (i := 863) (by decide +kernel), List.mem_of_getElem? (i := 1212) (by decide +kernel), List.mem_of_getElem? (i := 1213) (by decide +kernel)⟩
theorem lw_p38 : lw_okq (⟨"TentCampModel", "jumps", "(I)Z"⟩, 13) := ⟨⟨by decide +kernel, by decide +kernel⟩, List.mem_of_getElem? (i := 863) (by decide +kernel), List.mem_of_getElem? (i := 1216) (by decide +kernel), List.mem_of_getElem? (i := 1217) (by decide +kernel)⟩
theorem lw_p39 : lw_okq (⟨"TentCampModel", "stir", "(I)V"⟩, 13) := ⟨⟨by decide +kernel, by decide +kernel⟩, List.mem_of_getElem? (i := 863) (by decide +kernel), List.mem_of_getElem? (i := 1226) (by decide +kernel), List.mem_of_getElem? (i := 1227) (by decide +kernel)⟩
def lw_privs_3 : List (MethodName × Nat) := [(⟨"TentCampModel", "begin", "()V"⟩, 13), (⟨"TentCampModel", "needs", "(I)I"⟩, 13), (⟨"TentCampModel", "does", "(I)Z"⟩, 13), (⟨"TentCampModel", "pitches", "(II)Z"⟩, 13), (⟨"TentCampModel", "enters", "()Z"⟩, 13), (⟨"TentCampModel", "leaves", "()Z"⟩, 13), (⟨"TentCampModel", "jumps", "(I)Z"⟩, 13), (⟨"TentCampModel", "stir", "(I)V"⟩, 13)]
theorem lw_r3 : ∀ q ∈ lw_privs_3, lw_okq q := List.forall_mem_cons.mpr ⟨lw_p32, List.forall_mem_cons.mpr ⟨lw_p33, List.forall_mem_cons.mpr ⟨lw_p34, List.forall_mem_cons.mpr ⟨lw_p35, List.forall_mem_cons.mpr ⟨lw_p36, List.forall_mem_cons.mpr ⟨lw_p37, List.forall_mem_cons.mpr ⟨lw_p38, List.forall_mem_cons.mpr ⟨lw_p39, fun _ h => absurd h List.not_mem_nil⟩⟩⟩⟩⟩⟩⟩⟩
def lw_privs : List (MethodName × Nat) := lw_privs_1 ++ (lw_privs_2 ++ (lw_privs_3))
def lw_tbl : List Cond := k2_sels lw_privs ++ tables_1
theorem lw_privs_ok : ∀ q ∈ lw_privs, lw_okq q := by
  show ∀ q ∈ lw_privs_1 ++ (lw_privs_2 ++ (lw_privs_3)), lw_okq q
  exact List.forall_mem_append.mpr ⟨lw_r1, List.forall_mem_append.mpr ⟨lw_r2, lw_r3⟩⟩
end
section
/-! ===== BEGIN words of one list among another's, by their places ===== -/
theorem goodIn_r {big : List Cond} (ws : List Cond) (ps : List Nat) (hp : ws = ps.filterMap (fun i => big[i]?)) (h : ws.all goodWord = true) : GoodIn big ws := by
  intro w hw
  have h1 := List.all_eq_true.mp h w hw
  rw [hp] at hw
  obtain ⟨i, -, hi⟩ := List.mem_filterMap.mp hw
  have hm : w ∈ big := by first | exact List.mem_of_getElem? hi | exact List.getElem?_mem hi
  exact ⟨hm, good_of_word h1⟩
theorem goodIn_app {big a b : List Cond} (ha : GoodIn big a) (hb : GoodIn big b) : GoodIn big (a ++ b) := fun w h => (List.mem_append.mp h).elim (ha w) (hb w)
theorem goodIn_ca {big a b : List Cond} {c : Cond} (ha : GoodIn big (c :: a)) (hb : GoodIn big b) : GoodIn big (c :: (a ++ b)) := fun w h => (List.mem_cons.mp h).elim (fun e => ha w (List.mem_cons.mpr (Or.inl e))) (fun h => (List.mem_append.mp h).elim (fun h => ha w (List.mem_cons.mpr (Or.inr h))) (hb w))
theorem goodIn_sub {big ws : List Cond} (hm : ∀ w ∈ ws, w ∈ big) (h : ws.all goodWord = true) : GoodIn big ws := fun w hw => ⟨hm w hw, good_of_word (List.all_eq_true.mp h w hw)⟩
/-! ===== END ===== -/

/-! ===== BEGIN exceptions that leave a method, and their catching by the caller (launches without stack traces) ===== -/
section VXA
/-! The laws vx_back, vx_callV, vx_callS, vx_callSW, vx_throw0, vx_throwS follow proofs of the library, with one case more: JvmDerived/Free/Laws.lean (Back.of_free), Shelf42/LK1.lean (callV, callS), Shelf/KitTraced.lean (throwNew0V, throwNewS). -/
/-- where a method has thrown q: the class by its name, the cell, what was written, the world -/
def vx_T (XC : String → State → State → Prop) (st : State) (q : Addr) (t : State) (mc ms : Nat) (free : Addr → Prop) : Prop :=
  ∃ (E : String) (ce : Cell) (L : List Loc), XC E st t ∧ t.heap[q]? = some ce ∧ ce.vm = .none ∧ st.vm.findClass E = some ce.cls ∧ st.WarmedH t.vm ∧ st.sameButNew ({ t with vm := st.vm } : State) L mc ms ∧ ∀ z ∈ L, free z.base
def vx_Q (Qc : Array Value → State → Outcome → State → Prop) (XC : String → State → State → Prop) (mc ms : Nat) (free : Addr → Prop) : Array Value → State → Outcome → State → Prop := fun a st o t =>
  (Qc a st o t ∧ ∃ L, FrameEnd st o t L mc ms ∧ ∀ q ∈ L, free q.base) ∨ ∃ q, o = .threw q ∧ vx_T XC st q t mc ms free
/-- a callee that returns or throws -/
def vx_Met (l : Launch) (y : MethodName) (ws : List Cond) (rm : Room) (Pc : Array Value → State → Prop) (Qc : Array Value → State → Outcome → State → Prop) (XC : String → State → State → Prop) (mc ms : Nat) (free : Addr → Prop) : Prop :=
  MetFree l y (headSpec ws rm) Pc (fun _ _ _ _ _ => True) (vx_Q Qc XC mc ms free)
def vx_Post (XC : String → State → State → Prop) (mc ms : Nat) (free : Addr → Prop) : Pt → Array Value → Addr → Pt → Prop := fun A a q B =>
  ∃ (g : JFrame) (mk : MethodId) (t : State) (L : List Loc) (E : String) (ce : Cell), B.U.heap = t.heap ∧ B.U.vm = t.vm ∧ XC E (A.U.calling g mk a) t ∧ t.heap[q]? = some ce ∧ ce.vm = .none ∧ A.U.vm.findClass E = some ce.cls ∧ B.locs = A.locs ++ L ∧ (∀ z ∈ L, free z.base) ∧ B.cells = A.cells + mc ∧ B.slots = A.slots + ms
def vx_Back (l : Launch) (R : Room) (p : Program) (e : Env) (below : List Frame) (s : State) (sargs : Array Value) (y : MethodName) (len W9 : Nat)
    (Pre : Pt → Array Value → Prop) (Post : Pt → Array Value → Option Value → Pt → Prop) (PostX : Pt → Array Value → Addr → Pt → Prop) : Prop :=
  ∀ (m : MethodId) (meth : Method) (c : Code) (A : Pt) (g : JFrame) (ig : Instr) (mk : MethodId) (a : Array Value),
    Stand p l e R s m sargs below meth c A.U A.locs A.cells A.slots → g.method = m → g.locals.size = c.maxLocals → decode c.code g.pc = .ok (ig, len) →
    2 * g.monitorRoom + (g.stack.map fun v => v.category).sum ≤ W9 → A.U.methodNamed? y = some mk → Pre A a →
    (∃ (v : Option Value) (B : Pt), Stand p l e R s m sargs below meth c B.U B.locs B.cells B.slots ∧ Post A a v B ∧
      Steps p.tables e below (doInvoke e (A.U.setTop g) [] mk a).1 (B.U.setTop { g with pc := g.pc + len, stack := v.toList ++ g.stack })) ∨
    (∃ (q : Addr) (B : Pt), Stand p l e R s m sargs below meth c B.U B.locs B.cells B.slots ∧ PostX A a q B ∧
      Steps p.tables e below (doInvoke e (A.U.setTop g) [] mk a).1 ((B.U.setTop g).pushFrame (.throwing q)))
section Payer
variable {l : Launch} {R : Room} {p : Program} {e : Env} {below : List Frame} {s : State} {sargs : Array Value} {y : MethodName} {len W9 : Nat}
theorem vx_back {ws : List Cond} {rm : Room} {Pc : Array Value → State → Prop} {Qc : Array Value → State → Outcome → State → Prop} {XC : String → State → State → Prop} {mc ms : Nat} {free : Addr → Prop} {bytes : ByteArray} {maxL : Nat} {ret : Option FieldType}
    (hM : vx_Met l y ws rm Pc Qc XC mc ms free) (hblind : FrameBlind Pc) (hrc : rm.cells = mc) (hrs : rm.slots = ms)
    (hframes : rm.frames + 1 ≤ R.frames) (hlocals : W9 + (maxL + 11) + rm.locals ≤ R.locals)
    (hws : ∀ w ∈ ws, ∀ a' U, s.WarmedH U.vm → w.before a' U = true) (hcode : Cond.code y bytes maxL ret ∈ ws) (hinit : ∀ a' U, s.WarmedH U.vm → (Cond.initialized y.cls).before a' U = true) :
    vx_Back l R p e below s sargs y len W9 (PreOf R mc ms Pc) (PostOf Qc mc ms free) (vx_Post XC mc ms free) := by
  intro m meth c A g ig mk a X hg hsize hdg hW hn hp
  have h1 : (headSpec ws rm).pre.before a A.U = true := atoms_intro fun w hw => hws w hw _ _ X.warmed
  have h2 : (Cond.code y bytes maxL ret).before a A.U = true := hws _ hcode _ _ X.warmed
  have h3 : (Cond.initialized y.cls).before a A.U = true := hinit _ _ X.warmed
  have h4 : A.cells + (headSpec ws rm).room.cells ≤ R.cells := by rw [show (headSpec ws rm).room.cells = mc from hrc]; exact hp.1
  have h5 : A.slots + (headSpec ws rm).room.slots ≤ R.slots := by rw [show (headSpec ws rm).room.slots = ms from hrs]; exact hp.2.1
  have hPc : Pc a (A.U.calling g mk a) := hblind _ _ _ _ hp.2.2
  obtain ⟨U, Ls, c0, s0⟩ := A
  dsimp only [Pt.U, Pt.locs, Pt.cells, Pt.slots] at h1 h2 h3 h4 h5 X hn hPc ⊢
  obtain ⟨methY, cY, hmY, hcY, -, hlY, -, -, -, -⟩ := Cond.code_spec hn h2
  obtain ⟨kY, hkY, -⟩ := className_of_methodNamed hn
  have hinitY : kY.init = .initialized := Cond.initialized_spec (findClass_of_methodNamed hn) hkY h3
  have h : At U g.method c below := by rw [hg]; exact X.here
  have hlocals9 : W9 + (maxL + 11) + (headSpec ws rm).room.locals ≤ R.locals := hlocals
  have happ : (headSpec ws rm).appliesLoose y e.platform (U.calling g mk a) = true :=
    Spec.appliesLoose_calling (g := g) h hdg hn hkY hinitY
      (X.room_calling (g := g) (R' := (headSpec ws rm).room) hsize hmY hcY hframes (by rw [hlY]; omega) h4 h5) h1
  obtain ⟨mid, hmid⟩ := h.above
  have hfr : (U.setTop g).frames = (.java g :: mid) ++ below := by rw [State.frames_setTop' g h.top, hmid]; rfl
  obtain ⟨o, s₂, hsteps, -, hend, hq⟩ := Steps.callFree hM p X.admits X.cas X.clock (acts := []) hfr happ hPc trivial
  have hq' : vx_Q Qc XC mc ms free a (U.calling g mk a) o s₂ := hq
  rw [State.frames_setTop' g h.top] at hend
  obtain ⟨g₀, hg0⟩ := Option.isSome_iff_exists.mp h.top
  obtain ⟨r, hr⟩ := State.topJava?_eq_some.mp hg0
  have hr' : (({ U with heap := s₂.heap, slotsUsed := s₂.slotsUsed } : State).setVm s₂.vm).frames = .java g₀ :: r := hr
  rcases hq' with ⟨hqc, L, hfe, hL⟩ | ⟨q, rfl, E, ce, L, hx, hce, hcv, hcl, hW₂, hsm, hL⟩
  · obtain ⟨⟨v, rfl⟩, hW₂, e2, q2, q3, q4, q5, q6⟩ := id hfe
    have e3 : s₂ = ({ (U.calling g mk a).setFrames s₂.frames with heap := s₂.heap, slotsUsed := s₂.slotsUsed } : State).setVm s₂.vm := by
      have : s₂ = ({ s₂ with vm := (U.calling g mk a).vm } : State).setVm s₂.vm := rfl
      rw [e2] at this
      exact this
    obtain ⟨c₂, i₂, len₂, hc₂, hd₂, hf₂⟩ := hend
    have hW' : U.WarmedH s₂.vm := hW₂
    have hcc : c₂ = c := by
      have h1 : s₂.code? g.method = U.code? g.method := by
        rw [State.code?_eq, State.code?_eq, hW'.alike.method?]
      exact Option.some.inj (hc₂.symm.trans (h1.trans h.code))
    subst hcc
    have hlen : len₂ = len := by rw [hdg] at hd₂; cases hd₂; rfl
    subst hlen
    have hs₂ : s₂ = (({ U with heap := s₂.heap, slotsUsed := s₂.slotsUsed } : State).setVm s₂.vm).setTop { g with pc := g.pc + len₂, stack := v.toList ++ g.stack } := by
      refine e3.trans ?_
      rw [hf₂, State.calling_eq h.top, State.setFrames_setFrames, State.setTop_of_frames _ hr', hr]
      rfl
    have hsame : U.sameButNew ({ U with heap := s₂.heap, slotsUsed := s₂.slotsUsed } : State) L mc ms := by
      refine ⟨?_, q2, q3, q4, q5, q6⟩
      obtain ⟨t, ht, -⟩ := State.frames_cons hr
      show ({ U with heap := s₂.heap, slotsUsed := s₂.slotsUsed } : State) = { U.setFrames U.frames with heap := s₂.heap, slotsUsed := s₂.slotsUsed }
      rw [State.setFrames_self ht]
    subst hg
    refine Or.inl ⟨v, ⟨(({ U with heap := s₂.heap, slotsUsed := s₂.slotsUsed } : State).setVm s₂.vm), Ls ++ L, c0 + mc, s0 + ms⟩,
      ⟨X.admits, X.cas, X.clock, X.frames, X.room, X.hears, X.method, X.code, (X.here.setHeapUsed s₂.heap s₂.slotsUsed).setVm hW'.alike, X.tail, State.WarmedH.trans X.warmed hW', X.limits, X.bytes, X.same.trans (hsame.setVm s.vm)⟩,
      ⟨g, mk, s₂, L, rfl, rfl, hqc, rfl, hL, rfl, rfl⟩, ?_⟩
    show Steps p.tables e below _ ((({ U with heap := s₂.heap, slotsUsed := s₂.slotsUsed } : State).setVm s₂.vm).setTop { g with pc := g.pc + len₂, stack := v.toList ++ g.stack })
    rw [← hs₂]
    exact hsteps
  · obtain ⟨e2, q2, q3, q4, q5, q6⟩ := id hsm
    have e3 : s₂ = ({ (U.calling g mk a).setFrames s₂.frames with heap := s₂.heap, slotsUsed := s₂.slotsUsed } : State).setVm s₂.vm := by
      have : s₂ = ({ s₂ with vm := (U.calling g mk a).vm } : State).setVm s₂.vm := rfl
      rw [e2] at this
      exact this
    have hf₂ : s₂.frames = .throwing q :: .java g :: U.frames.tail := hend
    have hW' : U.WarmedH s₂.vm := hW₂
    have hs₂ : s₂ = ((({ U with heap := s₂.heap, slotsUsed := s₂.slotsUsed } : State).setVm s₂.vm).setTop g).pushFrame (.throwing q) := by
      refine e3.trans ?_
      rw [hf₂, State.calling_eq h.top, State.setFrames_setFrames, State.pushFrame, State.frames_setTop _ hr', State.setTop_of_frames _ hr', State.setFrames_setFrames, hr]
      rfl
    have hsame : U.sameButNew ({ U with heap := s₂.heap, slotsUsed := s₂.slotsUsed } : State) L mc ms := by
      refine ⟨?_, q2, q3, q4, q5, q6⟩
      obtain ⟨t, ht, -⟩ := State.frames_cons hr
      show ({ U with heap := s₂.heap, slotsUsed := s₂.slotsUsed } : State) = { U.setFrames U.frames with heap := s₂.heap, slotsUsed := s₂.slotsUsed }
      rw [State.setFrames_self ht]
    subst hg
    refine Or.inr ⟨q, ⟨(({ U with heap := s₂.heap, slotsUsed := s₂.slotsUsed } : State).setVm s₂.vm), Ls ++ L, c0 + mc, s0 + ms⟩,
      ⟨X.admits, X.cas, X.clock, X.frames, X.room, X.hears, X.method, X.code, (X.here.setHeapUsed s₂.heap s₂.slotsUsed).setVm hW'.alike, X.tail, State.WarmedH.trans X.warmed hW', X.limits, X.bytes, X.same.trans (hsame.setVm s.vm)⟩,
      ⟨g, mk, s₂, L, E, ce, rfl, rfl, hx, hce, hcv, hcl, rfl, hL, rfl, rfl⟩, ?_⟩
    show Steps p.tables e below _ (((({ U with heap := s₂.heap, slotsUsed := s₂.slotsUsed } : State).setVm s₂.vm).setTop g).pushFrame (.throwing q))
    rw [← hs₂]
    exact hsteps
end Payer
section Calls
variable {p : Program} {l : Launch} {e : Env} {R : Room} {s : State} {m : MethodId} {args : Array Value} {below : List Frame} {meth : Method} {c : Code} {T : State} {locs : List Loc} {cells slots : Nat}
theorem vx_callV (X : Stand p l e R s m args below meth c T locs cells slots) (hexec : p.tables.exec = Jvm.exec) {own C : String} {index : Nat} {y : MethodName} {bytes : ByteArray} {maxL : Nat} {ret : Option FieldType}
    (hown : s.vm.findClass own = some m.cls) (hlink : (Cond.methodLink own index y).before args s = true) (hinst : (Cond.instanceMethod y).before args s = true) (hsel : (Cond.selects C y y).before args s = true)
    (hcode : (Cond.code y bytes maxL ret).before args s = true) (hy : y.cls ≠ "java/lang/invoke/MethodHandle" ∧ y.cls ≠ "java/lang/invoke/VarHandle")
    {W9 : Nat} {Pre : Pt → Array Value → Prop} {Post : Pt → Array Value → Option Value → Pt → Prop} {PostX : Pt → Array Value → Addr → Pt → Prop} (hK : vx_Back l R p e below s args y 3 W9 Pre Post PostX)
    {b : Addr} {cellB : Cell} (hcell : T.heap[b]? = some cellB) (hobj : cellB.vm.isStatics = false) (hcls : s.vm.findClass C = some cellB.cls)
    {g : JFrame} (hg : g.method = m) (hsize : g.locals.size = c.maxLocals) {argsL rest : List Value} (hlen : ∀ sig, parseMethodDescriptor y.desc = some sig → argsL.length = sig.parameters.length)
    (hstack : g.stack = argsL.reverse ++ .ref b :: rest) (hW : 2 * g.monitorRoom + (rest.map fun v => v.category).sum ≤ W9) (hdg : decode c.code g.pc = .ok (.invokevirtual index, 3))
    (hpre : ∀ vm₁, s.WarmedH vm₁ → Pre ⟨T.setVm vm₁, locs, cells, slots⟩ (Value.ref b :: argsL).toArray) :
    (∃ (v : Option Value) (vm₁ : Vm) (B : Pt), s.WarmedH vm₁ ∧ Stand p l e R s m args below meth c B.U B.locs B.cells B.slots ∧ Post ⟨T.setVm vm₁, locs, cells, slots⟩ (Value.ref b :: argsL).toArray v B ∧
      ∀ target, Steps p.tables e below (B.U.setTop { g with pc := g.pc + 3, stack := v.toList ++ rest }) target → Steps p.tables e below (T.setTop g) target) ∨
    (∃ (q : Addr) (vm₁ : Vm) (B : Pt), s.WarmedH vm₁ ∧ Stand p l e R s m args below meth c B.U B.locs B.cells B.slots ∧ PostX ⟨T.setVm vm₁, locs, cells, slots⟩ (Value.ref b :: argsL).toArray q B ∧
      Steps p.tables e below (T.setTop g) ((B.U.setTop { g with stack := rest }).pushFrame (.throwing q))) := by
  obtain ⟨mk, methM, hnamed, hmethM, hstM, habM⟩ := Cond.instanceMethod_spec hinst
  obtain ⟨methM', cM, hmethM', -, -, -, -, -, -, hsigM⟩ := Cond.code_spec hnamed hcode
  cases hmethM.symm.trans hmethM'
  obtain ⟨c2, r2, m2, q1, q2, q3, q4, kP, hkP, hkPi⟩ := Cond.selects_spec hsel
  cases hcls.symm.trans q1
  cases (State.methodFound?_of_named hnamed hy).symm.trans q2
  cases hnamed.symm.trans q3
  have hselP : selectMethod e.platform s.vm cellB.cls mk = .method mk := by rw [Launch.admits_selectMethod X.admits]; exact q4
  obtain ⟨vm₁, X₁, hstep₁⟩ := X.invokevirtual hexec hown hlink hnamed hmethM hstM hkP hkPi hy (a := b) (cell := cellB) hcell
    (fun z h => by rw [h] at hobj; cases hobj) hselP hmethM habM hkP hkPi (g := g) hg (argsL := argsL) (rest := rest) (hlen _ hsigM) hstack hdg
  rcases hK m meth c ⟨T.setVm vm₁, locs, cells, slots⟩ { g with stack := rest } (.invokevirtual index) mk (Value.ref b :: argsL).toArray X₁ hg hsize hdg hW (X₁.named hnamed) (hpre vm₁ X₁.warmed) with ⟨v, B, X', hpost, hsteps⟩ | ⟨q, B, X', hpost, hsteps⟩
  · exact Or.inl ⟨v, vm₁, B, X₁.warmed, X', hpost, fun target h => hstep₁ _ fun acts => by rw [doInvoke_state]; exact hsteps.trans h⟩
  · exact Or.inr ⟨q, vm₁, B, X₁.warmed, X', hpost, hstep₁ _ fun acts => by rw [doInvoke_state]; exact hsteps⟩
theorem vx_callS (X : Stand p l e R s m args below meth c T locs cells slots) (hexec : p.tables.exec = Jvm.exec) {own : String} {index : Nat} {y : MethodName} {bytes : ByteArray} {maxL : Nat} {ret : Option FieldType}
    (hown : s.vm.findClass own = some m.cls) (hlink : (Cond.methodLink own index y).before args s = true) (hstat : (Cond.static y).before args s = true) (hinit : (Cond.initialized y.cls).before args s = true)
    (hcode : (Cond.code y bytes maxL ret).before args s = true) (hy : y.cls ≠ "java/lang/invoke/MethodHandle" ∧ y.cls ≠ "java/lang/invoke/VarHandle")
    {W9 : Nat} {Pre : Pt → Array Value → Prop} {Post : Pt → Array Value → Option Value → Pt → Prop} {PostX : Pt → Array Value → Addr → Pt → Prop} (hK : vx_Back l R p e below s args y 3 W9 Pre Post PostX)
    {g : JFrame} (hg : g.method = m) (hsize : g.locals.size = c.maxLocals) {argsL rest : List Value} (hlen : ∀ sig, parseMethodDescriptor y.desc = some sig → argsL.length = sig.parameters.length)
    (hstack : g.stack = argsL.reverse ++ rest) (hW : 2 * g.monitorRoom + (rest.map fun v => v.category).sum ≤ W9) (hdg : decode c.code g.pc = .ok (.invokestatic index, 3))
    (hpre : ∀ vm₁, s.WarmedH vm₁ → Pre ⟨T.setVm vm₁, locs, cells, slots⟩ argsL.toArray) :
    (∃ (v : Option Value) (vm₁ : Vm) (B : Pt), s.WarmedH vm₁ ∧ Stand p l e R s m args below meth c B.U B.locs B.cells B.slots ∧ Post ⟨T.setVm vm₁, locs, cells, slots⟩ argsL.toArray v B ∧
      ∀ target, Steps p.tables e below (B.U.setTop { g with pc := g.pc + 3, stack := v.toList ++ rest }) target → Steps p.tables e below (T.setTop g) target) ∨
    (∃ (q : Addr) (vm₁ : Vm) (B : Pt), s.WarmedH vm₁ ∧ Stand p l e R s m args below meth c B.U B.locs B.cells B.slots ∧ PostX ⟨T.setVm vm₁, locs, cells, slots⟩ argsL.toArray q B ∧
      Steps p.tables e below (T.setTop g) ((B.U.setTop { g with stack := rest }).pushFrame (.throwing q))) := by
  obtain ⟨mk, hnamed⟩ := Cond.code_named hcode
  obtain ⟨methM, cM, hmethM, -, -, -, -, -, -, hsigM⟩ := Cond.code_spec hnamed hcode
  have hstatic : methM.isStatic = true := Cond.static_spec hnamed hmethM hstat
  obtain ⟨kP, hkP, -⟩ := className_of_methodNamed hnamed
  have hinitP : kP.init = .initialized := Cond.initialized_spec (findClass_of_methodNamed hnamed) hkP hinit
  obtain ⟨vm₁, X₁, hstep₁⟩ := X.invokestatic hexec hown hlink hnamed hmethM hstatic hkP hinitP hy (g := g) hg (argsL := argsL) (rest := rest) (hlen _ hsigM) hstack hdg
  rcases hK m meth c ⟨T.setVm vm₁, locs, cells, slots⟩ { g with stack := rest } (.invokestatic index) mk argsL.toArray X₁ hg hsize hdg hW (X₁.named hnamed) (hpre vm₁ X₁.warmed) with ⟨v, B, X', hpost, hsteps⟩ | ⟨q, B, X', hpost, hsteps⟩
  · exact Or.inl ⟨v, vm₁, B, X₁.warmed, X', hpost, fun target h => hstep₁ _ fun acts => by rw [doInvoke_state]; exact hsteps.trans h⟩
  · exact Or.inr ⟨q, vm₁, B, X₁.warmed, X', hpost, hstep₁ _ fun acts => by rw [doInvoke_state]; exact hsteps⟩
end Calls
theorem vx_cls {s : State} {T : State} {vm₁ : Vm} {E : String} {k : ClassId} (hW : s.WarmedH vm₁) (h : (T.setVm vm₁).vm.findClass E = some k) : s.vm.findClass E = some k := by
  have h1 : vm₁.findClass E = some k := h
  rw [hW.alike.findClass] at h1
  exact h1
/-- the method's frame g, with q thrown over it -/
def vx_W (p : Program) (l : Launch) (e : Env) (R : Room) (s : State) (m : MethodId) (args : Array Value) (below : List Frame) (meth : Method) (c : Code) (H : Heap) (locs : List Loc) (cells slots : Nat) (Q : State → Prop) (g : JFrame) (q : Addr) : Prop :=
  ∀ T : State, T.heap = H → Stand p l e R s m args below meth c T locs cells slots → ∃ t, Steps p.tables e below ((T.setTop g).pushFrame (.throwing q)) t ∧ Q t
def vx_Run (p : Program) (l : Launch) (e : Env) (R : Room) (s : State) (m : MethodId) (args : Array Value) (below : List Frame) (meth : Method) (c : Code) (H : Heap) (locs : List Loc) (cells slots mc ms : Nat) (g : JFrame) (rest : List Value) (Qa : State → Outcome → State → Prop) (XC : String → State → State → Prop) (free : Addr → Prop) : Prop :=
  ∀ T : State, T.heap = H → Stand p l e R s m args below meth c T locs cells slots →
    (∃ (v : Option Value) (st₀ t T' : State) (L : List Loc), st₀.heap = H ∧ Stand p l e R s m args below meth c T' (locs ++ L) (cells + mc) (slots + ms) ∧ (∀ q ∈ L, free q.base) ∧ T'.heap = t.heap ∧ T'.vm = t.vm ∧ Qa st₀ (.returned v) t ∧
      Goes p e below T g T' { g with pc := g.pc + 3, stack := v.toList ++ rest }) ∨
    (∃ (q : Addr) (st₀ t T' : State) (L : List Loc) (E : String) (ce : Cell), st₀.heap = H ∧ Stand p l e R s m args below meth c T' (locs ++ L) (cells + mc) (slots + ms) ∧ (∀ z ∈ L, free z.base) ∧ T'.heap = t.heap ∧ T'.vm = t.vm ∧ XC E st₀ t ∧ t.heap[q]? = some ce ∧ ce.vm = .none ∧ s.vm.findClass E = some ce.cls ∧
      Steps p.tables e below (T.setTop g) ((T'.setTop { g with stack := rest }).pushFrame (.throwing q)))
def vx_X {S : Type} (px : S → Prop) (B : String → S → State → Prop) (A : Nat → Prop) : String → State → State → Prop := fun E st t => ∃ u : S, px u ∧ B E u t ∧ va_F A st t
section Runs
variable {p : Program} {l : Launch} {e : Env} {R : Room} {s : State} {m : MethodId} {args : Array Value} {below : List Frame} {meth : Method} {c : Code} {H : Heap} {locs : List Loc} {cells slots : Nat}
variable {y : MethodName} {bytes cc : ByteArray} {maxL nL mc ms n index : Nat} {ret : Option FieldType} {ws : List Cond} {rm : Room} {Pc : Array Value → State → Prop} {Qc : Array Value → State → Outcome → State → Prop} {XC : String → State → State → Prop} {free : Addr → Prop} {Ts : List Cond} {own C : String} {b : Addr} {As rest : List Value} {g : JFrame}
theorem vx_callBack (cb : CallB R s args own index y bytes maxL ret ws rm mc ms n) (hM : vx_Met l y ws rm Pc Qc XC mc ms free) (hbl : FrameBlind Pc) : vx_Back l R p e below s args y 3 8 (PreOf R mc ms Pc) (PostOf Qc mc ms free) (vx_Post XC mc ms free) := by
  obtain ⟨hrc, hrs, hfr, hlo, hws, hcw, -, hini, -⟩ := cb
  exact vx_back (bytes := bytes) (maxL := maxL) (ret := ret) hM hbl hrc hrs hfr hlo hws hcw (fun a' U hW => word_at hW (Or.inl (by first | rfl | simp [Cond.onTables, Cond.keeps, Cond.steady])) hini)
theorem vx_runV (S : CallFix p m c cc nL s args Ts own) (hM : vx_Met l y ws rm Pc Qc XC mc ms free) (cw : CallW R s args own C index y bytes maxL ret ws rm mc ms n) (hp : PreV s H C b Pc As)
    (hg : g.method = m) (hn : As.length = n) (hsize : g.locals.size = nL) (hstack : g.stack = As.reverse ++ .ref b :: rest) (hW : 2 * g.monitorRoom + (rest.map fun v => v.category).sum ≤ 8) (hdg : decode cc g.pc = .ok (.invokevirtual index, 3)) (hf : cells + mc ≤ R.cells ∧ slots + ms ≤ R.slots) :
    vx_Run p l e R s m args below meth c H locs cells slots mc ms g rest (Qc (Value.ref b :: As).toArray) XC free := by
  have hK : vx_Back l R p e below s args y 3 8 (PreOf R mc ms Pc) (PostOf Qc mc ms free) (vx_Post XC mc ms free) := vx_callBack cw.1 hM hp.1
  obtain ⟨⟨-, -, -, -, -, -, hcode, -, hy, hlen, hl⟩, hin, hse⟩ := cw
  obtain ⟨hx, hb, hml, ho, -⟩ := S
  obtain ⟨-, ⟨cellB, hcB, hoB, hclB⟩, hPc⟩ := hp
  intro T hT X
  rcases vx_callV X hx (C := C) (bytes := bytes) (maxL := maxL) (ret := ret) ho hl hin hse hcode hy hK (by rw [hT]; exact hcB) hoB hclB hg (hsize.trans hml.symm) (argsL := As) (rest := rest) (fun sig h => hn.trans (hlen sig h)) hstack hW (by rw [hb]; exact hdg)
    (fun vm₁ hW₁ => ⟨hf.1, hf.2, hPc (T.setVm vm₁) hT hW₁⟩) with ⟨v, vm₁, ⟨U', l2, c2, s2⟩, hW₁, X', ⟨g', mk, t, L, e1, e2, hq, h1, hL, h2, h3⟩, st⟩ | ⟨q, vm₁, ⟨U', l2, c2, s2⟩, hW₁, X', ⟨g', mk, t, L, E, ce, e1, e2, hq, hce, hcv, hcl, h1, hL, h2, h3⟩, st⟩
  · dsimp only [Pt.U, Pt.locs, Pt.cells, Pt.slots] at X' e1 e2 h1 h2 h3 st
    subst h1; subst h2; subst h3
    exact Or.inl ⟨v, (T.setVm vm₁).calling g' mk (Value.ref b :: As).toArray, t, U', L, hT, X', hL, e1, e2, hq, st⟩
  · dsimp only [Pt.U, Pt.locs, Pt.cells, Pt.slots] at X' e1 e2 h1 h2 h3 st hcl
    subst h1; subst h2; subst h3
    exact Or.inr ⟨q, (T.setVm vm₁).calling g' mk (Value.ref b :: As).toArray, t, U', L, E, ce, hT, X', hL, e1, e2, hq, hce, hcv, vx_cls hW₁ hcl, st⟩
theorem vx_runS (S : CallFix p m c cc nL s args Ts own) (hM : vx_Met l y ws rm Pc Qc XC mc ms free) (cw : CallB R s args own index y bytes maxL ret ws rm mc ms n ∧ (Cond.static y).before args s = true) (hp : PreS s H Pc As)
    (hg : g.method = m) (hn : As.length = n) (hsize : g.locals.size = nL) (hstack : g.stack = As.reverse ++ rest) (hW : 2 * g.monitorRoom + (rest.map fun v => v.category).sum ≤ 8) (hdg : decode cc g.pc = .ok (.invokestatic index, 3)) (hf : cells + mc ≤ R.cells ∧ slots + ms ≤ R.slots) :
    vx_Run p l e R s m args below meth c H locs cells slots mc ms g rest (Qc As.toArray) XC free := by
  have hK : vx_Back l R p e below s args y 3 8 (PreOf R mc ms Pc) (PostOf Qc mc ms free) (vx_Post XC mc ms free) := vx_callBack cw.1 hM hp.1
  obtain ⟨⟨-, -, -, -, -, -, hcode, hini, hy, hlen, hl⟩, hstt⟩ := cw
  obtain ⟨hx, hb, hml, ho, -⟩ := S
  intro T hT X
  rcases vx_callS X hx (bytes := bytes) (maxL := maxL) (ret := ret) ho hl hstt hini hcode hy hK hg (hsize.trans hml.symm) (argsL := As) (rest := rest) (fun sig h => hn.trans (hlen sig h)) hstack hW (by rw [hb]; exact hdg)
    (fun vm₁ hW₁ => ⟨hf.1, hf.2, hp.2 (T.setVm vm₁) hT hW₁⟩) with ⟨v, vm₁, ⟨U', l2, c2, s2⟩, hW₁, X', ⟨g', mk, t, L, e1, e2, hq, h1, hL, h2, h3⟩, st⟩ | ⟨q, vm₁, ⟨U', l2, c2, s2⟩, hW₁, X', ⟨g', mk, t, L, E, ce, e1, e2, hq, hce, hcv, hcl, h1, hL, h2, h3⟩, st⟩
  · dsimp only [Pt.U, Pt.locs, Pt.cells, Pt.slots] at X' e1 e2 h1 h2 h3 st
    subst h1; subst h2; subst h3
    exact Or.inl ⟨v, (T.setVm vm₁).calling g' mk As.toArray, t, U', L, hT, X', hL, e1, e2, hq, st⟩
  · dsimp only [Pt.U, Pt.locs, Pt.cells, Pt.slots] at X' e1 e2 h1 h2 h3 st hcl
    subst h1; subst h2; subst h3
    exact Or.inr ⟨q, (T.setVm vm₁).calling g' mk As.toArray, t, U', L, E, ce, hT, X', hL, e1, e2, hq, hce, hcv, vx_cls hW₁ hcl, st⟩
end Runs
section Rows
variable {p : Program} {l : Launch} {e : Env} {R : Room} {s : State} {m : MethodId} {args : Array Value} {below : List Frame} {meth : Method} {c : Code} {H : Heap} {locs : List Loc} {cells slots : Nat} {Q : State → Prop}
variable {mc ms : Nat} {free : Addr → Prop} {A0 A1 : Nat → Prop} {H0 : Heap} {a : Array Value} {pc : Nat} {ls : Array Slot} {st0 rest : List Value}
theorem vx_keep {st₀ t T' : State} {L : List Loc} (h0 : st₀.heap = H) (e1 : T'.heap = t.heap) (hS : va_S A0 H0 H locs) (hA : ∀ q, q < H.size → A1 q → A0 q) (hf : ∀ q, free q → A0 q) (hL : ∀ q ∈ L, free q.base) (hF : va_F A1 st₀ t) :
    H.size ≤ T'.heap.size ∧ (∀ q : Nat, q < H.size → ¬ A1 q → T'.heap[q]? = H[q]?) ∧ va_S A0 H0 T'.heap (locs ++ L) := by
  obtain ⟨hz, hk⟩ := hF
  rw [h0] at hz hk
  exact ⟨by rw [e1]; exact hz, fun q h1 h2 => by rw [e1]; exact hk q h1 h2,
    ⟨Nat.le_trans hS.1 (by rw [e1]; exact hz), fun q h1 h2 => by rw [e1, hk q (Nat.lt_of_lt_of_le h1 hS.1) (fun z => h2 (hA q (Nat.lt_of_lt_of_le h1 hS.1) z))]; exact hS.2.1 q h1 h2, fun q hq => by
      rcases List.mem_append.mp hq with h | h
      · exact hS.2.2 q h
      · exact hf _ (hL q h)⟩⟩
theorem vx_calli {S SX : Type} {post : Int32 → S → Prop} {px : SX → Prop} {B : S → State → Prop} {BX : String → SX → State → Prop} {AX : Nat → Prop} (hr : vx_Run p l e R s m args below meth c H locs cells slots mc ms (F0 m pc ls st0) rest (va_Qi post B A1 a) (vx_X px BX AX) free) (hS : va_S A0 H0 H locs) (hA : ∀ q, q < H.size → A1 q → A0 q) (hf : ∀ q, free q → A0 q) (hAX : ∀ q, q < H.size → AX q → A0 q)
    (kx : ∀ (E : String) (ce : Cell) (q9 : Addr) (u : SX) (t : State) (H1 : Heap) (locs1 : List Loc), t.heap = H1 → s.vm.Alike t.vm → px u → BX E u t → H.size ≤ H1.size → (∀ q : Nat, q < H.size → ¬ AX q → H1[q]? = H[q]?) → va_S A0 H0 H1 locs1 → H1[q9]? = some ce → ce.vm = .none → s.vm.findClass E = some ce.cls → vx_W p l e R s m args below meth c H1 locs1 (cells + mc) (slots + ms) Q (F0 m pc ls rest) q9)
    (kk : ∀ (r : Int32) (u : S) (t : State) (H1 : Heap) (locs1 : List Loc), t.heap = H1 → s.vm.Alike t.vm → post r u → B u t → H.size ≤ H1.size → (∀ q : Nat, q < H.size → ¬ A1 q → H1[q]? = H[q]?) → va_S A0 H0 H1 locs1 → W p l e R s m args below meth c H1 locs1 (cells + mc) (slots + ms) Q (F0 m (pc + 3) ls (.int r :: rest))) : W p l e R s m args below meth c H locs cells slots Q (F0 m pc ls st0) := by
  intro T hT X
  rcases hr T hT X with ⟨v, st₀, t, T', L, h0, X', hL, e1, e2, ⟨⟨r, u, hv, hp, hb⟩, hF⟩, st⟩ | ⟨q, st₀, t, T', L, E, ce, h0, X', hL, e1, e2, ⟨u, hp, hb, hF⟩, hce, hcv, hcl, st⟩
  · cases hv
    obtain ⟨k1, k2, k3⟩ := vx_keep h0 e1 hS hA hf hL hF
    obtain ⟨t2, a1, b1⟩ := kk r u t T'.heap (locs ++ L) e1.symm (by rw [← e2]; exact X'.warmed.alike) hp hb k1 k2 k3 T' rfl X'
    exact ⟨t2, st t2 a1, b1⟩
  · obtain ⟨k1, k2, k3⟩ := vx_keep h0 e1 hS hAX hf hL hF
    obtain ⟨t2, a1, b1⟩ := kx E ce q u t T'.heap (locs ++ L) e1.symm (by rw [← e2]; exact X'.warmed.alike) hp hb k1 k2 k3 (by rw [e1]; exact hce) hcv hcl T' rfl X'
    exact ⟨t2, st.trans a1, b1⟩
theorem vx_calll {S SX : Type} {post : Int64 → S → Prop} {px : SX → Prop} {B : S → State → Prop} {BX : String → SX → State → Prop} {AX : Nat → Prop} (hr : vx_Run p l e R s m args below meth c H locs cells slots mc ms (F0 m pc ls st0) rest (va_Ql post B A1 a) (vx_X px BX AX) free) (hS : va_S A0 H0 H locs) (hA : ∀ q, q < H.size → A1 q → A0 q) (hf : ∀ q, free q → A0 q) (hAX : ∀ q, q < H.size → AX q → A0 q)
    (kx : ∀ (E : String) (ce : Cell) (q9 : Addr) (u : SX) (t : State) (H1 : Heap) (locs1 : List Loc), t.heap = H1 → s.vm.Alike t.vm → px u → BX E u t → H.size ≤ H1.size → (∀ q : Nat, q < H.size → ¬ AX q → H1[q]? = H[q]?) → va_S A0 H0 H1 locs1 → H1[q9]? = some ce → ce.vm = .none → s.vm.findClass E = some ce.cls → vx_W p l e R s m args below meth c H1 locs1 (cells + mc) (slots + ms) Q (F0 m pc ls rest) q9)
    (kk : ∀ (r : Int64) (u : S) (t : State) (H1 : Heap) (locs1 : List Loc), t.heap = H1 → s.vm.Alike t.vm → post r u → B u t → H.size ≤ H1.size → (∀ q : Nat, q < H.size → ¬ A1 q → H1[q]? = H[q]?) → va_S A0 H0 H1 locs1 → W p l e R s m args below meth c H1 locs1 (cells + mc) (slots + ms) Q (F0 m (pc + 3) ls (.long r :: rest))) : W p l e R s m args below meth c H locs cells slots Q (F0 m pc ls st0) := by
  intro T hT X
  rcases hr T hT X with ⟨v, st₀, t, T', L, h0, X', hL, e1, e2, ⟨⟨r, u, hv, hp, hb⟩, hF⟩, st⟩ | ⟨q, st₀, t, T', L, E, ce, h0, X', hL, e1, e2, ⟨u, hp, hb, hF⟩, hce, hcv, hcl, st⟩
  · cases hv
    obtain ⟨k1, k2, k3⟩ := vx_keep h0 e1 hS hA hf hL hF
    obtain ⟨t2, a1, b1⟩ := kk r u t T'.heap (locs ++ L) e1.symm (by rw [← e2]; exact X'.warmed.alike) hp hb k1 k2 k3 T' rfl X'
    exact ⟨t2, st t2 a1, b1⟩
  · obtain ⟨k1, k2, k3⟩ := vx_keep h0 e1 hS hAX hf hL hF
    obtain ⟨t2, a1, b1⟩ := kx E ce q u t T'.heap (locs ++ L) e1.symm (by rw [← e2]; exact X'.warmed.alike) hp hb k1 k2 k3 (by rw [e1]; exact hce) hcv hcl T' rfl X'
    exact ⟨t2, st.trans a1, b1⟩
theorem vx_callf {S SX : Type} {post : UInt32 → S → Prop} {px : SX → Prop} {B : S → State → Prop} {BX : String → SX → State → Prop} {AX : Nat → Prop} (hr : vx_Run p l e R s m args below meth c H locs cells slots mc ms (F0 m pc ls st0) rest (va_Qf post B A1 a) (vx_X px BX AX) free) (hS : va_S A0 H0 H locs) (hA : ∀ q, q < H.size → A1 q → A0 q) (hf : ∀ q, free q → A0 q) (hAX : ∀ q, q < H.size → AX q → A0 q)
    (kx : ∀ (E : String) (ce : Cell) (q9 : Addr) (u : SX) (t : State) (H1 : Heap) (locs1 : List Loc), t.heap = H1 → s.vm.Alike t.vm → px u → BX E u t → H.size ≤ H1.size → (∀ q : Nat, q < H.size → ¬ AX q → H1[q]? = H[q]?) → va_S A0 H0 H1 locs1 → H1[q9]? = some ce → ce.vm = .none → s.vm.findClass E = some ce.cls → vx_W p l e R s m args below meth c H1 locs1 (cells + mc) (slots + ms) Q (F0 m pc ls rest) q9)
    (kk : ∀ (r : UInt32) (u : S) (t : State) (H1 : Heap) (locs1 : List Loc), t.heap = H1 → s.vm.Alike t.vm → post r u → B u t → H.size ≤ H1.size → (∀ q : Nat, q < H.size → ¬ A1 q → H1[q]? = H[q]?) → va_S A0 H0 H1 locs1 → W p l e R s m args below meth c H1 locs1 (cells + mc) (slots + ms) Q (F0 m (pc + 3) ls (.float r :: rest))) : W p l e R s m args below meth c H locs cells slots Q (F0 m pc ls st0) := by
  intro T hT X
  rcases hr T hT X with ⟨v, st₀, t, T', L, h0, X', hL, e1, e2, ⟨⟨r, u, hv, hp, hb⟩, hF⟩, st⟩ | ⟨q, st₀, t, T', L, E, ce, h0, X', hL, e1, e2, ⟨u, hp, hb, hF⟩, hce, hcv, hcl, st⟩
  · cases hv
    obtain ⟨k1, k2, k3⟩ := vx_keep h0 e1 hS hA hf hL hF
    obtain ⟨t2, a1, b1⟩ := kk r u t T'.heap (locs ++ L) e1.symm (by rw [← e2]; exact X'.warmed.alike) hp hb k1 k2 k3 T' rfl X'
    exact ⟨t2, st t2 a1, b1⟩
  · obtain ⟨k1, k2, k3⟩ := vx_keep h0 e1 hS hAX hf hL hF
    obtain ⟨t2, a1, b1⟩ := kx E ce q u t T'.heap (locs ++ L) e1.symm (by rw [← e2]; exact X'.warmed.alike) hp hb k1 k2 k3 (by rw [e1]; exact hce) hcv hcl T' rfl X'
    exact ⟨t2, st.trans a1, b1⟩
theorem vx_calld {S SX : Type} {post : UInt64 → S → Prop} {px : SX → Prop} {B : S → State → Prop} {BX : String → SX → State → Prop} {AX : Nat → Prop} (hr : vx_Run p l e R s m args below meth c H locs cells slots mc ms (F0 m pc ls st0) rest (va_Qd post B A1 a) (vx_X px BX AX) free) (hS : va_S A0 H0 H locs) (hA : ∀ q, q < H.size → A1 q → A0 q) (hf : ∀ q, free q → A0 q) (hAX : ∀ q, q < H.size → AX q → A0 q)
    (kx : ∀ (E : String) (ce : Cell) (q9 : Addr) (u : SX) (t : State) (H1 : Heap) (locs1 : List Loc), t.heap = H1 → s.vm.Alike t.vm → px u → BX E u t → H.size ≤ H1.size → (∀ q : Nat, q < H.size → ¬ AX q → H1[q]? = H[q]?) → va_S A0 H0 H1 locs1 → H1[q9]? = some ce → ce.vm = .none → s.vm.findClass E = some ce.cls → vx_W p l e R s m args below meth c H1 locs1 (cells + mc) (slots + ms) Q (F0 m pc ls rest) q9)
    (kk : ∀ (r : UInt64) (u : S) (t : State) (H1 : Heap) (locs1 : List Loc), t.heap = H1 → s.vm.Alike t.vm → post r u → B u t → H.size ≤ H1.size → (∀ q : Nat, q < H.size → ¬ A1 q → H1[q]? = H[q]?) → va_S A0 H0 H1 locs1 → W p l e R s m args below meth c H1 locs1 (cells + mc) (slots + ms) Q (F0 m (pc + 3) ls (.double r :: rest))) : W p l e R s m args below meth c H locs cells slots Q (F0 m pc ls st0) := by
  intro T hT X
  rcases hr T hT X with ⟨v, st₀, t, T', L, h0, X', hL, e1, e2, ⟨⟨r, u, hv, hp, hb⟩, hF⟩, st⟩ | ⟨q, st₀, t, T', L, E, ce, h0, X', hL, e1, e2, ⟨u, hp, hb, hF⟩, hce, hcv, hcl, st⟩
  · cases hv
    obtain ⟨k1, k2, k3⟩ := vx_keep h0 e1 hS hA hf hL hF
    obtain ⟨t2, a1, b1⟩ := kk r u t T'.heap (locs ++ L) e1.symm (by rw [← e2]; exact X'.warmed.alike) hp hb k1 k2 k3 T' rfl X'
    exact ⟨t2, st t2 a1, b1⟩
  · obtain ⟨k1, k2, k3⟩ := vx_keep h0 e1 hS hAX hf hL hF
    obtain ⟨t2, a1, b1⟩ := kx E ce q u t T'.heap (locs ++ L) e1.symm (by rw [← e2]; exact X'.warmed.alike) hp hb k1 k2 k3 (by rw [e1]; exact hce) hcv hcl T' rfl X'
    exact ⟨t2, st.trans a1, b1⟩
theorem vx_callv {S SX : Type} {post : S → Prop} {px : SX → Prop} {B : S → State → Prop} {BX : String → SX → State → Prop} {AX : Nat → Prop} (hr : vx_Run p l e R s m args below meth c H locs cells slots mc ms (F0 m pc ls st0) rest (va_Qv post B A1 a) (vx_X px BX AX) free) (hS : va_S A0 H0 H locs) (hA : ∀ q, q < H.size → A1 q → A0 q) (hf : ∀ q, free q → A0 q) (hAX : ∀ q, q < H.size → AX q → A0 q)
    (kx : ∀ (E : String) (ce : Cell) (q9 : Addr) (u : SX) (t : State) (H1 : Heap) (locs1 : List Loc), t.heap = H1 → s.vm.Alike t.vm → px u → BX E u t → H.size ≤ H1.size → (∀ q : Nat, q < H.size → ¬ AX q → H1[q]? = H[q]?) → va_S A0 H0 H1 locs1 → H1[q9]? = some ce → ce.vm = .none → s.vm.findClass E = some ce.cls → vx_W p l e R s m args below meth c H1 locs1 (cells + mc) (slots + ms) Q (F0 m pc ls rest) q9)
    (kk : ∀ (u : S) (t : State) (H1 : Heap) (locs1 : List Loc), t.heap = H1 → s.vm.Alike t.vm → post u → B u t → H.size ≤ H1.size → (∀ q : Nat, q < H.size → ¬ A1 q → H1[q]? = H[q]?) → va_S A0 H0 H1 locs1 → W p l e R s m args below meth c H1 locs1 (cells + mc) (slots + ms) Q (F0 m (pc + 3) ls (rest))) : W p l e R s m args below meth c H locs cells slots Q (F0 m pc ls st0) := by
  intro T hT X
  rcases hr T hT X with ⟨v, st₀, t, T', L, h0, X', hL, e1, e2, ⟨⟨u, hv, hp, hb⟩, hF⟩, st⟩ | ⟨q, st₀, t, T', L, E, ce, h0, X', hL, e1, e2, ⟨u, hp, hb, hF⟩, hce, hcv, hcl, st⟩
  · cases hv
    obtain ⟨k1, k2, k3⟩ := vx_keep h0 e1 hS hA hf hL hF
    obtain ⟨t2, a1, b1⟩ := kk u t T'.heap (locs ++ L) e1.symm (by rw [← e2]; exact X'.warmed.alike) hp hb k1 k2 k3 T' rfl X'
    exact ⟨t2, st t2 a1, b1⟩
  · obtain ⟨k1, k2, k3⟩ := vx_keep h0 e1 hS hAX hf hL hF
    obtain ⟨t2, a1, b1⟩ := kx E ce q u t T'.heap (locs ++ L) e1.symm (by rw [← e2]; exact X'.warmed.alike) hp hb k1 k2 k3 (by rw [e1]; exact hce) hcv hcl T' rfl X'
    exact ⟨t2, st.trans a1, b1⟩
/-- caught by the row x of this method's table; the rows ahead don't take it -/
theorem vx_catch {own name : String} {E : String} {ce : Cell} {q : Addr} (hown : s.vm.findClass own = some m.cls) (pre : List ExceptionTableEntry) (x : ExceptionTableEntry) (suf : List ExceptionTableEntry) (hsplit : c.exceptionTable.toList = pre ++ x :: suf)
    (hpass : ∀ z ∈ pre, covers z pc = false ∨ (z.catchType ≠ 0 ∧ ∃ nm : String, (Cond.classLink own z.catchType nm).before args s = true ∧ va_Nc E nm s)) (hx : covers x pc = true) (h0 : x.catchType ≠ 0)
    (hlink : (Cond.classLink own x.catchType name).before args s = true) (hcast : (Cond.castable E name).before args s = true) (hcell : H[q]? = some ce) (hv : ce.vm = .none) (hcl : s.vm.findClass E = some ce.cls)
    (kk : W p l e R s m args below meth c H locs cells slots Q (F0 m x.handlerPc ls [.ref q])) : vx_W p l e R s m args below meth c H locs cells slots Q (F0 m pc ls rest) q := by
  intro T hT X
  have hpl : e.platform.magicAccessors = ({} : Platform).magicAccessors := by rw [X.admits.platform]
  obtain ⟨c3, c4, hc3, hc4, hasg⟩ := Cond.castable_spec hcast
  cases Option.some.inj (hc3.symm.trans hcl)
  obtain ⟨c5, hc5, hcl5⟩ := Cond.classLink_spec hown hlink e.platform hpl
  cases Option.some.inj (hc4.symm.trans hc5)
  obtain ⟨vm', X', st⟩ := X.thenCaughtThrough q (g := F0 m pc ls rest) rfl (Steps.refl _) (by rw [hT]; exact hcell) (by rw [hv]; rfl) (by obtain ⟨k9, h9, -⟩ := Vm.findClass_spec hcl; exact ⟨k9, h9⟩) pre x suf hsplit
    (fun z hz => by
      rcases hpass z hz with h | ⟨hz0, nm, hl1, hn1⟩
      · exact Or.inl h
      · obtain ⟨c6, hc6, hcl6⟩ := Cond.classLink_spec hown hl1 e.platform hpl
        obtain ⟨a8, b8, h1, h2, h3⟩ := hn1
        cases Option.some.inj (h1.symm.trans hcl)
        cases Option.some.inj (h2.symm.trans hc6)
        exact Or.inr ⟨hz0, _, hcl6, h3⟩) hx (Or.inr ⟨h0, c4, hcl5, hasg⟩)
  obtain ⟨t, a1, b1⟩ := kk (T.setVm vm') hT X'
  exact ⟨t, st.trans a1, b1⟩
end Rows
section Ends
variable {p : Program} {l : Launch} {e : Env} {R : Room} {s : State} {m : MethodId} {args : Array Value} {below : List Frame} {meth : Method} {c : Code} {H : Heap} {locs : List Loc} {cells slots : Nat} {Q : State → Prop}
variable {mc ms : Nat} {free : Addr → Prop} {A0 A1 : Nat → Prop} {H0 : Heap} {a : Array Value} {ls : Array Slot} {st0 rest : List Value}
variable {Qc : Array Value → State → Outcome → State → Prop} {XC : String → State → State → Prop}
/-- what a body that may throw owes at its end -/
def vx_MQ (below : List Frame) (Qc : Array Value → State → Outcome → State → Prop) (XC : String → State → State → Prop) (a : Array Value) (s : State) (mc ms : Nat) (free : Addr → Prop) : State → Prop := fun t =>
  ∃ o, t.status = .running ∧ Ended t below o ∧ vx_Q Qc XC mc ms free a s o t
theorem vx_ret {g : JFrame} {mc ms : Nat} (k : W p l e R s m args below meth c H locs cells slots (MQ below Qc args s mc ms free) g) : W p l e R s m args below meth c H locs cells slots (vx_MQ below Qc XC args s mc ms free) g := by
  intro T hT X
  obtain ⟨t, a1, o, b1, b2, b3, b4⟩ := k T hT X
  exact ⟨t, a1, o, b1, b2, Or.inl ⟨b3, b4⟩⟩
/-- not caught here: it goes on to the caller -/
theorem vx_widen {g : JFrame} {q : Addr} {k n : Nat} (h1 : cells ≤ k) (h2 : slots ≤ n) (kk : vx_W p l e R s m args below meth c H locs k n Q g q) : vx_W p l e R s m args below meth c H locs cells slots Q g q := fun T hT X => kk T hT (stand_widen X h1 h2)
theorem vx_out {pc : Nat} {E : String} {ce : Cell} {q : Addr} {mc ms : Nat} (hout : ∀ x ∈ c.exceptionTable.toList, covers x pc = false) (hlocks : meth.locks = false) (hcell : H[q]? = some ce) (hv : ce.vm = .none) (hcl : s.vm.findClass E = some ce.cls)
    (hx : ∀ t : State, t.heap = H → s.vm.Alike t.vm → XC E s t) (hf : ∀ z ∈ locs, free z.base) (hc : cells ≤ mc) (hs : slots ≤ ms) :
    vx_W p l e R s m args below meth c H locs cells slots (vx_MQ below Qc XC args s mc ms free) (F0 m pc ls rest) q := by
  intro T hT X
  obtain ⟨st1, hrun, hend, hW, hsm⟩ := X.leaveThrown q (g := F0 m pc ls rest) rfl rfl rfl hout hlocks
  have hcell9 : (T.setFrames (.throwing q :: below)).heap[q]? = some ce := by
    show T.heap[q]? = some ce
    rw [hT]; exact hcell
  exact ⟨_, st1, .threw q, hrun, hend, Or.inr ⟨q, rfl, E, ce, locs, hx _ hT hW.alike, hcell9, hv, hcl, hW, hsm.mono hc hs, hf⟩⟩
theorem vx_frame {U : State} {k n : Nat} (h : s.sameButNew ({ U with vm := s.vm } : State) locs k n) : s.heap.size ≤ U.heap.size ∧ ∀ q : Nat, q < s.heap.size → (∀ z ∈ locs, z.base ≠ q) → U.heap[q]? = s.heap[q]? := by
  obtain ⟨-, h2, -, -, -, h6⟩ := h
  refine ⟨h2, fun q hq hz => ?_⟩
  obtain ⟨c9, e1, e2, e3, e4⟩ := h6 q _ (Array.getElem?_eq_getElem hq)
  have hs : c9.slots = (s.heap[q]).slots := Array.ext_getElem? fun i => e4 i fun hm => hz _ hm rfl
  have h9 : c9 = s.heap[q] := by
    rw [hs] at e2
    exact e2
  have e5 : U.heap[q]? = some c9 := e1
  rw [e5, h9, Array.getElem?_eq_getElem hq]
/-- the words of a throw but the four that speak of the heap -/
def vx_no (w : Cond) : Bool := decide (w ≠ .isRef (.static Bundle.tN "UNASSIGNED_STACK" Bundle.steD)) && decide (w ≠ .isRef (.static Bundle.tN "SUPPRESSED_SENTINEL" Bundle.listD)) && decide (w ≠ .laysStatic Bundle.tN "UNASSIGNED_STACK" Bundle.steD) && decide (w ≠ .laysStatic Bundle.tN "SUPPRESSED_SENTINEL" Bundle.listD)
def vx_at0 (own : String) (ic : Nat) (X : String) (names : List String) : List Cond := (Bundle.ownAtoms0 own ic X names).filter vx_no
def vx_atS (own : String) (ic : Nat) (X : String) (names : List String) : List Cond := (Bundle.ownAtoms own ic X names).filter vx_no
/-- a word that the tables alone decide, or a good one -/
def vx_ot (w : Cond) : Bool := w.onTables || goodWord w
theorem vx_ot_at {args a' : Array Value} {s U : State} {w : Cond} (hW : s.WarmedH U.vm) (hvm : s.vm = U.vm) (hg : vx_ot w = true) (h : w.before args s = true) : w.before a' U = true := by
  simp only [vx_ot, Bool.or_eq_true] at hg
  rcases hg with hg | hg
  · exact va_tabs hg hvm h
  · exact word_at hW (good_of_word hg) h
/-- a list's words: the good ones out of the method's own list, the others by premises of their own -/
theorem vx_hat {args : Array Value} {s : State} {L B : List Cond} (h1 : ∀ w ∈ L.filter goodWord, w.before args s = true) (h2 : ∀ w ∈ L.filter (fun w => !goodWord w), w ∈ B) (h3 : ∀ w ∈ B, w.before args s = true) : ∀ w ∈ L, w.before args s = true := by
  intro w hw
  by_cases g : goodWord w = true
  · exact h1 w (List.mem_filter.mpr ⟨hw, g⟩)
  · refine h3 w (h2 w (List.mem_filter.mpr ⟨hw, ?_⟩))
    show (!goodWord w) = true
    cases hgw : goodWord w
    · rfl
    · exact absurd hgw g
theorem vx_c {args : Array Value} {s : State} {w : Cond} {B : List Cond} (h : w.before args s = true) (t : ∀ w ∈ B, w.before args s = true) : ∀ w' ∈ w :: B, w'.before args s = true := fun w' h' => (List.mem_cons.mp h').elim (fun e => by rw [e]; exact h) (t w')
theorem vx_n {args : Array Value} {s : State} : ∀ w ∈ ([] : List Cond), w.before args s = true := fun _ h => nomatch h
theorem vx_own {args : Array Value} {s : State} {L : List Cond} (h1 : ∀ w ∈ L.filter vx_no, w.before args s = true)
    (hU : (Cond.isRef (.static Bundle.tN "UNASSIGNED_STACK" Bundle.steD)).before args s = true) (hN : (Cond.isRef (.static Bundle.tN "SUPPRESSED_SENTINEL" Bundle.listD)).before args s = true)
    (lU : (Cond.laysStatic Bundle.tN "UNASSIGNED_STACK" Bundle.steD).before args s = true) (lN : (Cond.laysStatic Bundle.tN "SUPPRESSED_SENTINEL" Bundle.listD).before args s = true) : ∀ w ∈ L, w.before args s = true := by
  intro w hw
  by_cases e1 : w = .isRef (.static Bundle.tN "UNASSIGNED_STACK" Bundle.steD)
  · rw [e1]; exact hU
  · by_cases e2 : w = .isRef (.static Bundle.tN "SUPPRESSED_SENTINEL" Bundle.listD)
    · rw [e2]; exact hN
    · by_cases e3 : w = .laysStatic Bundle.tN "UNASSIGNED_STACK" Bundle.steD
      · rw [e3]; exact lU
      · by_cases e4 : w = .laysStatic Bundle.tN "SUPPRESSED_SENTINEL" Bundle.listD
        · rw [e4]; exact lN
        · exact h1 w (List.mem_filter.mpr ⟨hw, by unfold vx_no; rw [decide_eq_true e1, decide_eq_true e2, decide_eq_true e3, decide_eq_true e4]; rfl⟩)
/-- where a static field lies, its class's statics cell in H -/
def vx_L (C n d : String) (A : Nat → Prop) (U : State) (H : Heap) : Prop := ∃ (c : ClassId) (k : Class) (i : Nat) (f : Field) (a : Nat) (cell : Cell), U.vm.findClass C = some c ∧ U.fieldFound? C n d = some (c, k, i, f) ∧ f.isStatic = true ∧ k.statics = some a ∧ H[a]? = some cell ∧ cell.vm.isStatics = true ∧ cell.cls = c ∧ f.slot < cell.slots.size ∧ k.staticTypes[f.slot]? = some f.type ∧ ¬ A a
theorem vx_L.moved {C n d : String} {A : Nat → Prop} {u U : State} {H : Heap} (hvm : u.vm.Alike U.vm) (h : vx_L C n d A u H) : vx_L C n d A U H := by
  obtain ⟨c, k, i, f, a, cell, h1, h2, h3, h4, h5, h6, h7, h8, h9, h10⟩ := h
  obtain ⟨k', hi', he⟩ := State.fieldFound?_setVm hvm h2
  exact ⟨c, k', i, f, a, cell, by rw [hvm.findClass]; exact h1, hi', h3, by rw [he]; exact h4, h5, h6, h7, h8, by rw [he]; exact h9, h10⟩
theorem vx_L.kept {C n d : String} {A : Nat → Prop} {U : State} {H H1 : Heap} (h : vx_L C n d A U H) (hq : ∀ a : Nat, a < H.size → ¬ A a → H1[a]? = H[a]?) : vx_L C n d A U H1 := by
  obtain ⟨c, k, i, f, a, cell, h1, h2, h3, h4, h5, h6, h7, h8, h9, h10⟩ := h
  exact ⟨c, k, i, f, a, cell, h1, h2, h3, h4, by rw [hq a (Array.getElem?_eq_some_iff.mp h5).1 h10]; exact h5, h6, h7, h8, h9, h10⟩
theorem vx_L.narrow {C n d : String} {A B : Nat → Prop} {U : State} {H : Heap} (h : vx_L C n d A U H) (hAB : ∀ q, B q → A q) : vx_L C n d B U H := by
  obtain ⟨c, k, i, f, a, cell, h1, h2, h3, h4, h5, h6, h7, h8, h9, h10⟩ := h
  exact ⟨c, k, i, f, a, cell, h1, h2, h3, h4, h5, h6, h7, h8, h9, fun z => h10 (hAB _ z)⟩
theorem vx_L.word {C n d : String} {A : Nat → Prop} {s : State} {args : Array Value} (h : vx_L C n d A s s.heap) : (Cond.laysStatic C n d).before args s = true := by
  obtain ⟨c, k, i, f, a, cell, h1, h2, h3, h4, h5, h6, h7, h8, h9, -⟩ := h
  show (Cond.laysStatic C n d).holds args s none s [] = true
  exact Cond.laysStatic_of h1 h2 h3 h4 h5 h6 h7 h8 h9
/-- .. and what it holds: null or some reference -/
def vx_Zq (C n d : String) (A : Nat → Prop) (U : State) (H : Heap) : Prop := va_Zq C n d A U H ∧ vx_L C n d A U H
theorem vx_Zq.moved {C n d : String} {A : Nat → Prop} {u U : State} {H : Heap} (hvm : u.vm.Alike U.vm) (h : vx_Zq C n d A u H) : vx_Zq C n d A U H := ⟨va_Zq.moved hvm h.1, vx_L.moved hvm h.2⟩
theorem vx_Zq.kept {C n d : String} {A : Nat → Prop} {U : State} {H H1 : Heap} (h : vx_Zq C n d A U H) (hq : ∀ a : Nat, a < H.size → ¬ A a → H1[a]? = H[a]?) : vx_Zq C n d A U H1 := ⟨va_Zq.kept h.1 hq, vx_L.kept h.2 hq⟩
theorem vx_Zq.narrow {C n d : String} {A B : Nat → Prop} {U : State} {H : Heap} (h : vx_Zq C n d A U H) (hAB : ∀ q, B q → A q) : vx_Zq C n d B U H := ⟨va_Zq.narrow h.1 hAB, vx_L.narrow h.2 hAB⟩
theorem vx_Zqof {args : Array Value} {s : State} {C n d : String} {A : Nat → Prop} (hl : (Cond.laysStatic C n d).before args s = true) (hini : (Cond.initialized C).before args s = true) (h : (Cond.isRef (.static C n d)).before args s = true) (hA : ∀ a : Nat, a < s.heap.size → ¬ A a) : vx_Zq C n d A s s.heap := by
  refine ⟨va_Zqof hl hini h hA, ?_⟩
  obtain ⟨c, k, i, f, a, cell, h1, h2, h3, h4, h5, h6, h7, h8, h9⟩ := Cond.laysStatic_spec hl
  exact ⟨c, k, i, f, a, cell, h1, h2, h3, h4, h5, h6, h7, h8, h9, hA a (Array.getElem?_eq_some_iff.mp h5).1⟩
theorem vx_isRef {C n d : String} {v : Value} {A : Nat → Prop} {s : State} {args : Array Value} (h : va_Z C n d v A s s.heap) (hv : v.isRef = true) : (Cond.isRef (.static C n d)).before args s = true := by
  obtain ⟨cf, kf, fi, f, a, cell, h1, h2, h3, h4, h5, h6, h7, -⟩ := h
  have he : (Term.static C n d).eval args s none [] s = some v := by
    simp [Term.eval, State.fieldNamed?, h1, h2, h4, h5, h6, h7]
  simp only [Cond.before, Cond.holds, Cond.value, he]
  cases v <;> simp_all [Value.isRef]
theorem vx_isRefq {C n d : String} {A : Nat → Prop} {s : State} {args : Array Value} (h : va_Zq C n d A s s.heap) : (Cond.isRef (.static C n d)).before args s = true := by
  rcases h with h | ⟨t, h⟩
  · exact vx_isRef h rfl
  · exact vx_isRef h rfl
/-- the same frame, seen from here: as if the method were called anew in this heap -/
theorem vx_rebase {T : State} (X : Stand p l e R s m args below meth c T locs cells slots) {R' : Room} (hf : R'.frames ≤ R.frames) (hl : R'.locals ≤ R.locals) (hc : cells + R'.cells ≤ R.cells) (hs : slots + R'.slots ≤ R.slots) :
    Stand p l e R' ((T.setVm s.vm).setFrames (.invoking m args :: below)) m args below meth c T [] 0 0 := by
  have htop : (T.setVm s.vm).topJava?.isSome := X.here.top
  have hF : ((T.setVm s.vm).setFrames (.invoking m args :: below)).frames = .invoking m args :: below := State.frames_setFrames _ (State.cur_lt_of_top htop)
  obtain ⟨g₀, hg0⟩ := Option.isSome_iff_exists.mp htop
  obtain ⟨r, hr⟩ := State.topJava?_eq_some.mp hg0
  have hl9 : e.platform.stackLimits (T.setVm s.vm).me = e.platform.stackLimits s.me := X.limits
  have hb9 : (T.setVm s.vm).me.stackBytes = s.me.stackBytes := X.bytes
  refine ⟨X.admits, X.cas, X.clock, hF, ?_, X.hears, X.method, X.code, X.here, X.tail, X.warmed, ?_, ?_, ?_⟩
  · have h := X.room
    have hU : ((T.setVm s.vm).setFrames (.invoking m args :: below)).localsInUse = s.localsInUse := by
      rw [State.localsInUse_invoking hF (meth := meth) (c := c) X.method X.code, State.localsInUse_invoking X.frames X.method X.code]
    simp only [State.hasRoom, Bool.and_eq_true, decide_eq_true_eq] at h ⊢
    obtain ⟨⟨⟨⟨h1, h2, h3, h4, h5, h6⟩, h7⟩, h8⟩, h9⟩ := h
    rw [X.frames, List.length_cons] at h2 h3
    have q1 := X.heapSize
    have q2 := X.used
    simp only [hF, hU, List.length_cons, State.stackLimits_setFrames, State.stackBytes_setFrames, hl9, hb9]
    refine ⟨⟨⟨⟨by omega, by omega, by omega, by omega, by omega, h6⟩, ?_⟩, ?_⟩, X.book⟩
    · show T.heap.size + R'.cells ≤ e.platform.maxCells
      omega
    · show T.slotsUsed + R'.slots ≤ e.platform.maxSlots
      omega
  · rw [State.stackLimits_setFrames]; rfl
  · rw [State.stackBytes_setFrames]; rfl
  · refine ⟨?_, Nat.le_refl _, Nat.le_refl _, ?_, ?_, fun a c9 h9 => ⟨c9, h9, rfl, rfl, fun _ _ => rfl⟩⟩
    · obtain ⟨t, ht, -⟩ := State.frames_cons hr
      show T.setVm s.vm = { ((T.setVm s.vm).setFrames (.invoking m args :: below)).setFrames (T.setVm s.vm).frames with heap := T.heap, slotsUsed := T.slotsUsed }
      rw [State.setFrames_setFrames, State.setFrames_self ht]
      rfl
    · show T.slotsUsed = T.slotsUsed + ((T.heap.toList.drop T.heap.size).map (·.slots.size)).sum
      rw [List.drop_eq_nil_of_le (Nat.le_of_eq Array.length_toList)]
      rfl
    · show ((T.heap.toList.drop T.heap.size).map (·.slots.size)).sum ≤ 0
      rw [List.drop_eq_nil_of_le (Nat.le_of_eq Array.length_toList)]
      exact Nat.le_refl _
/-- 'throw new E()': new; dup; invokespecial; athrow -/
theorem vx_throw0 {cc : ByteArray} {pc : Nat} (hexec : p.tables.exec = Jvm.exec) (hb : c.code = cc) (hl : l.stackTraces = false) {own cls : String} {names : List String} {ik ic mc ms : Nat} {A : Nat → Prop}
    (hown : s.vm.findClass own = some m.cls) (hcls : Bundle.fit cls = true) (hnames : ∀ n ∈ names, Bundle.fit n = true)
    (hk : (Cond.classLink own ik cls).before args s = true) (hini : (Cond.initialized cls).before args s = true) (hat : ∀ w ∈ vx_at0 own ic cls names, w.before args s = true)
    (hgood : ∀ w ∈ Cond.classLink own ik cls :: Cond.initialized cls :: vx_at0 own ic cls names, vx_ot w = true)
    (hU : vx_Zq Bundle.tN "UNASSIGNED_STACK" Bundle.steD A s s.heap) (hN : vx_Zq Bundle.tN "SUPPRESSED_SENTINEL" Bundle.listD A s s.heap) (hS : va_S A s.heap H locs) (hsize : ls.size = c.maxLocals)
    (d0 : decode cc pc = .ok (.new ik, 3)) (d3 : decode cc (pc + 3) = .ok (.dup, 1)) (d4 : decode cc (pc + 4) = .ok (.invokespecial ic, 3)) (d7 : decode cc (pc + 7) = .ok (.athrow, 1))
    (hout : ∀ x ∈ c.exceptionTable.toList, covers x (pc + 7) = false)
    (hRframes : names.length + 3 < R.frames) (hRlocals : (rest.map fun v => v.category).sum + (13 * (names.length + 1) + 42) ≤ R.locals) (hRcells : cells + 1 ≤ R.cells) (hRslots : slots + 6 ≤ R.slots) (hlocks : meth.locks = false)
    (hx : ∀ t : State, s.vm.Alike t.vm → H.size ≤ t.heap.size → (∀ q : Nat, q < H.size → t.heap[q]? = H[q]?) → XC cls s t)
    (hf : ∀ z ∈ locs, free z.base) (hc : cells + 1 ≤ mc) (hs : slots + 6 ≤ ms) :
    W p l e R s m args below meth c H locs cells slots (vx_MQ below Qc XC args s mc ms free) (F0 m pc ls rest) := by
  intro T hT X
  have htr : e.platform.stackTraces = false := (show e.platform.stackTraces = l.stackTraces by rw [X.admits.platform]).trans hl
  have Y := vx_rebase X (R' := { frames := R.frames, locals := R.locals, cells := 1, slots := 6 }) (Nat.le_refl _) (Nat.le_refl _) hRcells hRslots
  obtain ⟨s', hA⟩ : ∃ z, z = (T.setVm s.vm).setFrames (.invoking m args :: below) := ⟨_, rfl⟩
  rw [← hA] at Y
  have hvm : s'.vm = s.vm := by rw [hA]; rfl
  have hhp : s'.heap = H := by rw [hA]; exact hT
  have hW0 : s.WarmedH s'.vm := by rw [hvm]; exact State.WarmedH.refl s
  have hat' : ∀ w ∈ vx_at0 own ic cls names, w.before args s' = true := fun w hw => vx_ot_at hW0 hvm.symm (hgood w (List.mem_cons_of_mem _ (List.mem_cons_of_mem _ hw))) (hat w hw)
  have hk' : (Cond.classLink own ik cls).before args s' = true := vx_ot_at hW0 hvm.symm (hgood _ List.mem_cons_self) hk
  have hini' : (Cond.initialized cls).before args s' = true := vx_ot_at hW0 hvm.symm (hgood _ (List.mem_cons_of_mem _ List.mem_cons_self)) hini
  have hU' : vx_Zq Bundle.tN "UNASSIGNED_STACK" Bundle.steD A s' s'.heap := by rw [hhp]; exact vx_Zq.moved hW0.alike (hU.kept hS.2.1)
  have hN' : vx_Zq Bundle.tN "SUPPRESSED_SENTINEL" Bundle.listD A s' s'.heap := by rw [hhp]; exact vx_Zq.moved hW0.alike (hN.kept hS.2.1)
  have h : ∀ w ∈ Bundle.ownAtoms0 own ic cls names, w.before args s' = true := vx_own hat' (vx_isRefq hU'.1) (vx_isRefq hN'.1) hU'.2.word hN'.2.word
  have hown' : s'.vm.findClass own = some m.cls := by rw [hvm]; exact hown
  have hins : (Cond.instantiable cls 6).before args s' = true := h _ (by simp [Bundle.ownAtoms0])
  obtain ⟨vm₁, cX, kX, hfX, hkX, -, -, X₁, st1⟩ := Y.newCold hexec (own := own) (C := cls) (index := ik) (n := 6) hown' hk' hins hini'
    (g := F0 m pc ls rest) rfl (by rw [hb]; exact d0) (Nat.le_refl _) (Nat.le_refl _)
  generalize hT1 : (T.setVm vm₁).pushCell { cls := cX, slots := kX.instanceTypes.map defaultValue, vm := .none } = T1 at X₁ st1
  have hcat : (Value.ref T.heap.size).category = 1 := rfl
  have hcellA : T1.heap[T.heap.size]? = some (freshCell cX kX) := by rw [← hT1]; exact State.heap_pushCell_size _ _
  have d3' : decode c.code (pc + 3) = .ok (.dup, 1) := by rw [hb]; exact d3
  obtain ⟨U, hsteps, hrun, hend, hW, hsame, ce, hce, hO⟩ := X₁.ctorThrow0 hexec htr (own := own) (cls := cls) (names := names) (ic := ic) hown' hcls hnames h (fun x hx => nomatch hx) hfX hkX hcellA (by rw [hhp, hT]; exact Nat.le_refl _)
    (g := { method := m, pc := pc + 4, locals := ls, stack := .ref T.heap.size :: .ref T.heap.size :: rest, locked := none }) rfl hsize rfl rfl (rest := rest) rfl
    (by rw [hb]; exact d4) (by rw [hb]; exact d7) hout hRframes (by simp only [List.map_cons, List.sum_cons, hcat]; omega) hlocks
  obtain ⟨f1, f2⟩ := vx_frame hsame
  rw [hhp] at f1 f2
  have hWs : s.WarmedH U.vm := State.WarmedH.trans hW0 hW
  have hcl : s.vm.findClass cls = some ce.cls := by
    have h9 := hO.cls
    rw [hvm] at h9
    exact h9
  have hall : s.sameButNew ({ U with vm := s.vm } : State) locs mc ms := by
    subst hA
    obtain ⟨e1, e2⟩ := hsame
    rw [State.setFrames_setFrames] at e1
    have h2 : (T.setVm s.vm).sameButNew ({ U with vm := s.vm } : State) [] (0 + 1) (0 + 6) := ⟨e1, e2⟩
    have h3 := X.same.trans h2
    rw [List.append_nil] at h3
    exact h3.mono hc hs
  refine ⟨U, ?_, .threw T.heap.size, hrun, hend, Or.inr ⟨T.heap.size, rfl, cls, ce, locs, hx U hWs.alike f1 (fun q hq => f2 q hq (fun z hz => nomatch hz)), hce, hO.vm, hcl, hWs, hall, hf⟩⟩
  refine st1 _ ?_
  show Steps p.tables e below (T1.setTop { method := m, pc := pc + 3, locals := ls, stack := .ref T.heap.size :: rest, locked := none }) _
  jvm_step X₁.here [X₁.here.top, hexec, d3', Value.category]
  exact hsteps
/-- 'throw new E("text")': new; dup; ldc; invokespecial; athrow -/
theorem vx_throwS {cc : ByteArray} {pc : Nat} (hexec : p.tables.exec = Jvm.exec) (hb : c.code = cc) (hl : l.stackTraces = false) {own cls text : String} {names : List String} {ik is ic mc ms sa : Nat} {A : Nat → Prop}
    (hown : s.vm.findClass own = some m.cls) (hcls : Bundle.fit cls = true) (hnames : ∀ n ∈ names, Bundle.fit n = true)
    (hk : (Cond.classLink own ik cls).before args s = true) (hini : (Cond.initialized cls).before args s = true) (hstr : vk_R own is text sa s) (hat : ∀ w ∈ vx_atS own ic cls names, w.before args s = true)
    (hgood : ∀ w ∈ Cond.classLink own ik cls :: Cond.initialized cls :: vx_atS own ic cls names, vx_ot w = true)
    (hU : vx_Zq Bundle.tN "UNASSIGNED_STACK" Bundle.steD A s s.heap) (hN : vx_Zq Bundle.tN "SUPPRESSED_SENTINEL" Bundle.listD A s s.heap) (hS : va_S A s.heap H locs) (hsize : ls.size = c.maxLocals)
    (d0 : decode cc pc = .ok (.new ik, 3)) (d3 : decode cc (pc + 3) = .ok (.dup, 1)) (d4 : decode cc (pc + 4) = .ok (.ldc is, 2)) (d6 : decode cc (pc + 6) = .ok (.invokespecial ic, 3)) (d9 : decode cc (pc + 9) = .ok (.athrow, 1))
    (hout : ∀ x ∈ c.exceptionTable.toList, covers x (pc + 9) = false)
    (hRframes : names.length + 3 < R.frames) (hRlocals : (rest.map fun v => v.category).sum + (13 * (names.length + 1) + 43) ≤ R.locals) (hRcells : cells + 1 ≤ R.cells) (hRslots : slots + 6 ≤ R.slots) (hlocks : meth.locks = false)
    (hx : ∀ t : State, s.vm.Alike t.vm → H.size ≤ t.heap.size → (∀ q : Nat, q < H.size → t.heap[q]? = H[q]?) → XC cls s t)
    (hf : ∀ z ∈ locs, free z.base) (hc : cells + 1 ≤ mc) (hs : slots + 6 ≤ ms) :
    W p l e R s m args below meth c H locs cells slots (vx_MQ below Qc XC args s mc ms free) (F0 m pc ls rest) := by
  intro T hT X
  have htr : e.platform.stackTraces = false := (show e.platform.stackTraces = l.stackTraces by rw [X.admits.platform]).trans hl
  have Y := vx_rebase X (R' := { frames := R.frames, locals := R.locals, cells := 1, slots := 6 }) (Nat.le_refl _) (Nat.le_refl _) hRcells hRslots
  obtain ⟨s', hA⟩ : ∃ z, z = (T.setVm s.vm).setFrames (.invoking m args :: below) := ⟨_, rfl⟩
  rw [← hA] at Y
  have hvm : s'.vm = s.vm := by rw [hA]; rfl
  have hhp : s'.heap = H := by rw [hA]; exact hT
  have hW0 : s.WarmedH s'.vm := by rw [hvm]; exact State.WarmedH.refl s
  have hat' : ∀ w ∈ vx_atS own ic cls names, w.before args s' = true := fun w hw => vx_ot_at hW0 hvm.symm (hgood w (List.mem_cons_of_mem _ (List.mem_cons_of_mem _ hw))) (hat w hw)
  have hk' : (Cond.classLink own ik cls).before args s' = true := vx_ot_at hW0 hvm.symm (hgood _ List.mem_cons_self) hk
  have hini' : (Cond.initialized cls).before args s' = true := vx_ot_at hW0 hvm.symm (hgood _ (List.mem_cons_of_mem _ List.mem_cons_self)) hini
  have hU' : vx_Zq Bundle.tN "UNASSIGNED_STACK" Bundle.steD A s' s'.heap := by rw [hhp]; exact vx_Zq.moved hW0.alike (hU.kept hS.2.1)
  have hN' : vx_Zq Bundle.tN "SUPPRESSED_SENTINEL" Bundle.listD A s' s'.heap := by rw [hhp]; exact vx_Zq.moved hW0.alike (hN.kept hS.2.1)
  have h : ∀ w ∈ Bundle.ownAtoms own ic cls names, w.before args s' = true := vx_own hat' (vx_isRefq hU'.1) (vx_isRefq hN'.1) hU'.2.word hN'.2.word
  have hown' : s'.vm.findClass own = some m.cls := by rw [hvm]; exact hown
  have hins : (Cond.instantiable cls 6).before args s' = true := h _ (by simp [Bundle.ownAtoms])
  obtain ⟨vm₁, cX, kX, hfX, hkX, -, -, X₁, st1⟩ := Y.newCold hexec (own := own) (C := cls) (index := ik) (n := 6) hown' hk' hins hini'
    (g := F0 m pc ls rest) rfl (by rw [hb]; exact d0) (Nat.le_refl _) (Nat.le_refl _)
  generalize hT1 : (T.setVm vm₁).pushCell { cls := cX, slots := kX.instanceTypes.map defaultValue, vm := .none } = T1 at X₁ st1
  have hcat : (Value.ref T.heap.size).category = 1 := rfl
  have hcellA : T1.heap[T.heap.size]? = some (freshCell cX kX) := by rw [← hT1]; exact State.heap_pushCell_size _ _
  have d3' : decode c.code (pc + 3) = .ok (.dup, 1) := by rw [hb]; exact d3
  have d4' : decode c.code (pc + 4) = .ok (.ldc is, 2) := by rw [hb]; exact d4
  have hstr' : vk_R own is text sa s' := vk_R.warm hW0 hstr
  obtain ⟨U, hsteps, hrun, hend, hW, hsame, ce, hce, hO⟩ := X₁.ctorThrowS hexec htr (own := own) (cls := cls) (names := names) (ic := ic) hown' hcls hnames h (fun x hx => nomatch hx) hfX hkX hcellA (by rw [hhp, hT]; exact Nat.le_refl _) (msg := .ref sa) rfl
    (g := { method := m, pc := pc + 6, locals := ls, stack := .ref sa :: .ref T.heap.size :: .ref T.heap.size :: rest, locked := none }) rfl hsize rfl rfl (rest := rest) rfl
    (by rw [hb]; exact d6) (by rw [hb]; exact d9) hout hRframes (by simp only [List.map_cons, List.sum_cons, hcat]; omega) hlocks
  obtain ⟨f1, f2⟩ := vx_frame hsame
  rw [hhp] at f1 f2
  have hWs : s.WarmedH U.vm := State.WarmedH.trans hW0 hW
  have hcl : s.vm.findClass cls = some ce.cls := by
    have h9 := hO.cls
    rw [hvm] at h9
    exact h9
  have hall : s.sameButNew ({ U with vm := s.vm } : State) locs mc ms := by
    subst hA
    obtain ⟨e1, e2⟩ := hsame
    rw [State.setFrames_setFrames] at e1
    have h2 : (T.setVm s.vm).sameButNew ({ U with vm := s.vm } : State) [] (0 + 1) (0 + 6) := ⟨e1, e2⟩
    have h3 := X.same.trans h2
    rw [List.append_nil] at h3
    exact h3.mono hc hs
  refine ⟨U, ?_, .threw T.heap.size, hrun, hend, Or.inr ⟨T.heap.size, rfl, cls, ce, locs, hx U hWs.alike f1 (fun q hq => f2 q hq (fun z hz => nomatch hz)), hce, hO.vm, hcl, hWs, hall, hf⟩⟩
  refine st1 _ ?_
  show Steps p.tables e below (T1.setTop { method := m, pc := pc + 3, locals := ls, stack := .ref T.heap.size :: rest, locked := none }) _
  jvm_step X₁.here [X₁.here.top, hexec, d3', Value.category]
  exact X₁.ldcString hexec (own := own) (text := text) (index := is) (a := sa) hown' hstr'.1 hstr'.2
    (g := { method := m, pc := pc + 4, locals := ls, stack := .ref T.heap.size :: .ref T.heap.size :: rest, locked := none }) rfl d4' _ hsteps
/-- 'throw new E("text")', the text by a wide index -/
theorem vx_throwSW {cc : ByteArray} {pc : Nat} (hexec : p.tables.exec = Jvm.exec) (hb : c.code = cc) (hl : l.stackTraces = false) {own cls text : String} {names : List String} {ik is ic mc ms sa : Nat} {A : Nat → Prop}
    (hown : s.vm.findClass own = some m.cls) (hcls : Bundle.fit cls = true) (hnames : ∀ n ∈ names, Bundle.fit n = true)
    (hk : (Cond.classLink own ik cls).before args s = true) (hini : (Cond.initialized cls).before args s = true) (hstr : vk_R own is text sa s) (hat : ∀ w ∈ vx_atS own ic cls names, w.before args s = true)
    (hgood : ∀ w ∈ Cond.classLink own ik cls :: Cond.initialized cls :: vx_atS own ic cls names, vx_ot w = true)
    (hU : vx_Zq Bundle.tN "UNASSIGNED_STACK" Bundle.steD A s s.heap) (hN : vx_Zq Bundle.tN "SUPPRESSED_SENTINEL" Bundle.listD A s s.heap) (hS : va_S A s.heap H locs) (hsize : ls.size = c.maxLocals)
    (d0 : decode cc pc = .ok (.new ik, 3)) (d3 : decode cc (pc + 3) = .ok (.dup, 1)) (d4 : decode cc (pc + 4) = .ok (.ldc_w is, 3)) (d7 : decode cc (pc + 7) = .ok (.invokespecial ic, 3)) (d10 : decode cc (pc + 10) = .ok (.athrow, 1))
    (hout : ∀ x ∈ c.exceptionTable.toList, covers x (pc + 10) = false)
    (hRframes : names.length + 3 < R.frames) (hRlocals : (rest.map fun v => v.category).sum + (13 * (names.length + 1) + 43) ≤ R.locals) (hRcells : cells + 1 ≤ R.cells) (hRslots : slots + 6 ≤ R.slots) (hlocks : meth.locks = false)
    (hx : ∀ t : State, s.vm.Alike t.vm → H.size ≤ t.heap.size → (∀ q : Nat, q < H.size → t.heap[q]? = H[q]?) → XC cls s t)
    (hf : ∀ z ∈ locs, free z.base) (hc : cells + 1 ≤ mc) (hs : slots + 6 ≤ ms) :
    W p l e R s m args below meth c H locs cells slots (vx_MQ below Qc XC args s mc ms free) (F0 m pc ls rest) := by
  intro T hT X
  have htr : e.platform.stackTraces = false := (show e.platform.stackTraces = l.stackTraces by rw [X.admits.platform]).trans hl
  have Y := vx_rebase X (R' := { frames := R.frames, locals := R.locals, cells := 1, slots := 6 }) (Nat.le_refl _) (Nat.le_refl _) hRcells hRslots
  obtain ⟨s', hA⟩ : ∃ z, z = (T.setVm s.vm).setFrames (.invoking m args :: below) := ⟨_, rfl⟩
  rw [← hA] at Y
  have hvm : s'.vm = s.vm := by rw [hA]; rfl
  have hhp : s'.heap = H := by rw [hA]; exact hT
  have hW0 : s.WarmedH s'.vm := by rw [hvm]; exact State.WarmedH.refl s
  have hat' : ∀ w ∈ vx_atS own ic cls names, w.before args s' = true := fun w hw => vx_ot_at hW0 hvm.symm (hgood w (List.mem_cons_of_mem _ (List.mem_cons_of_mem _ hw))) (hat w hw)
  have hk' : (Cond.classLink own ik cls).before args s' = true := vx_ot_at hW0 hvm.symm (hgood _ List.mem_cons_self) hk
  have hini' : (Cond.initialized cls).before args s' = true := vx_ot_at hW0 hvm.symm (hgood _ (List.mem_cons_of_mem _ List.mem_cons_self)) hini
  have hU' : vx_Zq Bundle.tN "UNASSIGNED_STACK" Bundle.steD A s' s'.heap := by rw [hhp]; exact vx_Zq.moved hW0.alike (hU.kept hS.2.1)
  have hN' : vx_Zq Bundle.tN "SUPPRESSED_SENTINEL" Bundle.listD A s' s'.heap := by rw [hhp]; exact vx_Zq.moved hW0.alike (hN.kept hS.2.1)
  have h : ∀ w ∈ Bundle.ownAtoms own ic cls names, w.before args s' = true := vx_own hat' (vx_isRefq hU'.1) (vx_isRefq hN'.1) hU'.2.word hN'.2.word
  have hown' : s'.vm.findClass own = some m.cls := by rw [hvm]; exact hown
  have hins : (Cond.instantiable cls 6).before args s' = true := h _ (by simp [Bundle.ownAtoms])
  obtain ⟨vm₁, cX, kX, hfX, hkX, -, -, X₁, st1⟩ := Y.newCold hexec (own := own) (C := cls) (index := ik) (n := 6) hown' hk' hins hini'
    (g := F0 m pc ls rest) rfl (by rw [hb]; exact d0) (Nat.le_refl _) (Nat.le_refl _)
  generalize hT1 : (T.setVm vm₁).pushCell { cls := cX, slots := kX.instanceTypes.map defaultValue, vm := .none } = T1 at X₁ st1
  have hcat : (Value.ref T.heap.size).category = 1 := rfl
  have hcellA : T1.heap[T.heap.size]? = some (freshCell cX kX) := by rw [← hT1]; exact State.heap_pushCell_size _ _
  have d3' : decode c.code (pc + 3) = .ok (.dup, 1) := by rw [hb]; exact d3
  have d4' : decode c.code (pc + 4) = .ok (.ldc_w is, 3) := by rw [hb]; exact d4
  have hstr' : vk_R own is text sa s' := vk_R.warm hW0 hstr
  obtain ⟨U, hsteps, hrun, hend, hW, hsame, ce, hce, hO⟩ := X₁.ctorThrowS hexec htr (own := own) (cls := cls) (names := names) (ic := ic) hown' hcls hnames h (fun x hx => nomatch hx) hfX hkX hcellA (by rw [hhp, hT]; exact Nat.le_refl _) (msg := .ref sa) rfl
    (g := { method := m, pc := pc + 7, locals := ls, stack := .ref sa :: .ref T.heap.size :: .ref T.heap.size :: rest, locked := none }) rfl hsize rfl rfl (rest := rest) rfl
    (by rw [hb]; exact d7) (by rw [hb]; exact d10) hout hRframes (by simp only [List.map_cons, List.sum_cons, hcat]; omega) hlocks
  obtain ⟨f1, f2⟩ := vx_frame hsame
  rw [hhp] at f1 f2
  have hWs : s.WarmedH U.vm := State.WarmedH.trans hW0 hW
  have hcl : s.vm.findClass cls = some ce.cls := by
    have h9 := hO.cls
    rw [hvm] at h9
    exact h9
  have hall : s.sameButNew ({ U with vm := s.vm } : State) locs mc ms := by
    subst hA
    obtain ⟨e1, e2⟩ := hsame
    rw [State.setFrames_setFrames] at e1
    have h2 : (T.setVm s.vm).sameButNew ({ U with vm := s.vm } : State) [] (0 + 1) (0 + 6) := ⟨e1, e2⟩
    have h3 := X.same.trans h2
    rw [List.append_nil] at h3
    exact h3.mono hc hs
  refine ⟨U, ?_, .threw T.heap.size, hrun, hend, Or.inr ⟨T.heap.size, rfl, cls, ce, locs, hx U hWs.alike f1 (fun q hq => f2 q hq (fun z hz => nomatch hz)), hce, hO.vm, hcl, hWs, hall, hf⟩⟩
  refine st1 _ ?_
  show Steps p.tables e below (T1.setTop { method := m, pc := pc + 3, locals := ls, stack := .ref T.heap.size :: rest, locked := none }) _
  jvm_step X₁.here [X₁.here.top, hexec, d3', Value.category]
  exact X₁.ldcStringW hexec (own := own) (text := text) (index := is) (a := sa) hown' hstr'.1 hstr'.2
    (g := { method := m, pc := pc + 4, locals := ls, stack := .ref T.heap.size :: .ref T.heap.size :: rest, locked := none }) rfl d4' _ hsteps
end Ends
section Bodies
variable {l : Launch}
theorem vx_ofW {y : MethodName} {ws ws' : List Cond} {rm : Room} {Pc : Array Value → State → Prop} {Qc : Array Value → State → Outcome → State → Prop} {XC : String → State → State → Prop} {mc ms : Nat} {free : Addr → Prop} {cc : ByteArray} {maxL : Nat} {ret : Option FieldType}
    (hy : plainName y.cls = true) (hw : ws = Cond.code y cc maxL ret :: ws')
    (body : ∀ p e s m args below meth c s₁, BodyLoose p l y (headSpec ws rm) cc maxL ret e s m args below meth c s₁ → c.maxLocals = maxL → (∀ x ∈ c.exceptionTable.toList, False) → Pc args s →
      W p l e (headSpec ws rm).room s m args below meth c s.heap [] 0 0 (vx_MQ below Qc XC args s mc ms free) (entryFrame m args maxL)) : vx_Met l y ws rm Pc Qc XC mc ms free := by
  refine MetFree.of_bodyS (code := cc) (maxLocals := maxL) (ret := ret) hy ?_ ?_
  · intro args s m h hn
    obtain ⟨meth, c, h1, h2, h3, h4, h5, h6, -, -⟩ := Cond.code_spec hn (atoms_spec (ws := ws) h _ (by rw [hw]; exact List.mem_cons_self))
    exact ⟨meth, c, h1, h2, h3, h4, h5, h6⟩
  · intro p e s m args below meth c s₁ B hml hP _
    have hh0 : s₁.heap = s.heap := by rw [B.state]; rfl
    have ht : ∀ x ∈ c.exceptionTable.toList, False := by
      obtain ⟨meth9, c9, h1, h2, -, -, -, -, h7, -⟩ := Cond.code_spec B.named (atoms_spec (ws := ws) B.pre _ (by rw [hw]; exact List.mem_cons_self))
      cases Option.some.inj (h1.symm.trans B.method)
      cases Option.some.inj (h2.symm.trans (Stand.of_body B).code)
      intro x hx
      rw [Array.isEmpty_iff.mp h7] at hx
      cases hx
    obtain ⟨t, a1, o, b1, b2, b3⟩ := body p e s m args below meth c s₁ B hml ht hP s₁ hh0 (Stand.of_body B)
    exact ⟨t, o, a1, b1, b2, b3⟩
/-- the table of a body with handlers -/
theorem vx_table {p : Program} {x y : MethodName} {S : Spec} {cc bytes : ByteArray} {maxL maxL' : Nat} {ret ret' : Option FieldType} {e : Env} {s s₁ : State} {m : MethodId} {args : Array Value} {below : List Frame} {meth : Method} {c : Code} {hh : List (Nat × Nat × Nat × Nat)}
    (B : BodyLoose p l y S cc maxL ret e s m args below meth c s₁) (h : (Cond.codeWith y bytes maxL' ret' hh).before args s = true) : c.exceptionTable.toList = tableOf hh := by
  obtain ⟨m9, meth9, c9, hn9, h1, h2, -, -, h6, -⟩ := Cond.codeWith_spec h
  cases Option.some.inj (hn9.symm.trans B.named)
  cases Option.some.inj (h1.symm.trans B.method)
  cases Option.some.inj (h2.symm.trans (Stand.of_body B).code)
  rw [← h6, table_eq]
end Bodies
end VXA
/-! ===== END ===== -/
/-! ===== BEGIN a static call of a method with an exception table ===== -/
section VXS
variable {p : Program} {l : Launch} {e : Env} {R : Room} {s : State} {m : MethodId} {args : Array Value} {below : List Frame} {meth : Method} {c : Code} {T : State} {H : Heap} {locs : List Loc} {cells slots : Nat}
abbrev vx_CSW (R : Room) (s : State) (args : Array Value) (own : String) (index : Nat) (y : MethodName) (bytes : ByteArray) (maxL : Nat) (ret : Option FieldType) (hh : List (Nat × Nat × Nat × Nat)) (ws : List Cond) (rm : Room) (mc ms n : Nat) : Prop :=
  (rm.cells = mc ∧ rm.slots = ms ∧ rm.frames + 1 ≤ R.frames ∧ 8 + (maxL + 11) + rm.locals ≤ R.locals ∧ (∀ w ∈ ws, ∀ (a' : Array Value) (U : State), s.WarmedH U.vm → w.before a' U = true) ∧ Cond.codeWith y bytes maxL ret hh ∈ ws) ∧
  (Cond.codeWith y bytes maxL ret hh).before args s = true ∧ (Cond.initialized y.cls).before args s = true ∧ (y.cls ≠ "java/lang/invoke/MethodHandle" ∧ y.cls ≠ "java/lang/invoke/VarHandle") ∧
  (∀ sig, parseMethodDescriptor y.desc = some sig → n = sig.parameters.length) ∧ (Cond.methodLink own index y).before args s = true ∧ (Cond.static y).before args s = true
theorem vx_cwSW {own : String} {index maxL mc ms : Nat} {y : MethodName} {bytes : ByteArray} {ret : Option FieldType} {hh : List (Nat × Nat × Nat × Nat)} {Ts ws ws' : List Cond} {rm : Room} (n : Nat) (ht : ∀ w ∈ Ts, w.before args s = true) (hT : GoodIn Ts (va_wsS own index y ws)) (hw : ws = Cond.codeWith y bytes maxL ret hh :: ws') (hrc : rm.cells = mc) (hrs : rm.slots = ms)
    (hd : y.cls ≠ "java/lang/invoke/MethodHandle" ∧ y.cls ≠ "java/lang/invoke/VarHandle" ∧ (parseMethodDescriptor y.desc).map (fun d => d.parameters.length) = some n) (hR : rm.frames + 1 ≤ R.frames ∧ 8 + (maxL + 11) + rm.locals ≤ R.locals) :
    vx_CSW R s args own index y bytes maxL ret hh ws rm mc ms n := by
  have ok : ∀ w ∈ va_wsS own index y ws, w.before args s = true := fun w h => ht w (hT w h).1
  have hG : GoodIn Ts ws := fun w h => hT w (by unfold va_wsS; exact List.mem_append_right _ h)
  have hc : Cond.codeWith y bytes maxL ret hh ∈ ws := by rw [hw]; exact List.mem_cons_self
  refine ⟨⟨hrc, hrs, hR.1, hR.2, pay_in ht hG, hc⟩, ht _ (hG _ hc).1, ok _ (by simp [va_wsS]), ⟨hd.1, hd.2.1⟩, fun sig h => ?_, ok _ (by simp [va_wsS]), ok _ (by simp [va_wsS])⟩
  have h2 := hd.2.2
  rw [h] at h2
  exact (Option.some.inj h2).symm
theorem vx_callSW (X : Stand p l e R s m args below meth c T locs cells slots) (hexec : p.tables.exec = Jvm.exec) {own : String} {index : Nat} {y : MethodName} {bytes : ByteArray} {maxL : Nat} {ret : Option FieldType} {hh : List (Nat × Nat × Nat × Nat)}
    (hown : s.vm.findClass own = some m.cls) (hlink : (Cond.methodLink own index y).before args s = true) (hstat : (Cond.static y).before args s = true) (hinit : (Cond.initialized y.cls).before args s = true)
    (hcode : (Cond.codeWith y bytes maxL ret hh).before args s = true) (hy : y.cls ≠ "java/lang/invoke/MethodHandle" ∧ y.cls ≠ "java/lang/invoke/VarHandle")
    {W9 : Nat} {Pre : Pt → Array Value → Prop} {Post : Pt → Array Value → Option Value → Pt → Prop} (hK : Back l R p e below s args y 3 W9 Pre Post)
    {g : JFrame} (hg : g.method = m) (hsize : g.locals.size = c.maxLocals) {argsL rest : List Value} (hlen : ∀ sig, parseMethodDescriptor y.desc = some sig → argsL.length = sig.parameters.length)
    (hstack : g.stack = argsL.reverse ++ rest) (hW : 2 * g.monitorRoom + (rest.map fun v => v.category).sum ≤ W9) (hdg : decode c.code g.pc = .ok (.invokestatic index, 3))
    (hpre : ∀ vm₁, s.WarmedH vm₁ → Pre ⟨T.setVm vm₁, locs, cells, slots⟩ argsL.toArray) :
    ∃ (v : Option Value) (vm₁ : Vm) (B : Pt), s.WarmedH vm₁ ∧ Stand p l e R s m args below meth c B.U B.locs B.cells B.slots ∧ Post ⟨T.setVm vm₁, locs, cells, slots⟩ argsL.toArray v B ∧
      ∀ target, Steps p.tables e below (B.U.setTop { g with pc := g.pc + 3, stack := v.toList ++ rest }) target → Steps p.tables e below (T.setTop g) target := by
  obtain ⟨mk, methM, cM, hnamed, hmethM, -, -, -, -, -, -, hsigM⟩ := Cond.codeWith_spec hcode
  have hstatic : methM.isStatic = true := Cond.static_spec hnamed hmethM hstat
  obtain ⟨kP, hkP, -⟩ := className_of_methodNamed hnamed
  have hinitP : kP.init = .initialized := Cond.initialized_spec (findClass_of_methodNamed hnamed) hkP hinit
  obtain ⟨vm₁, X₁, hstep₁⟩ := X.invokestatic hexec hown hlink hnamed hmethM hstatic hkP hinitP hy (g := g) hg (argsL := argsL) (rest := rest) (hlen _ hsigM) hstack hdg
  obtain ⟨v, B, X', hpost, hsteps⟩ := hK m meth c ⟨T.setVm vm₁, locs, cells, slots⟩ { g with stack := rest } (.invokestatic index) mk argsL.toArray X₁ hg hsize hdg hW (X₁.named hnamed) (hpre vm₁ X₁.warmed)
  exact ⟨v, vm₁, B, X₁.warmed, X', hpost, fun target h => hstep₁ _ fun acts => by rw [doInvoke_state]; exact hsteps.trans h⟩
theorem vx_runSW {y : MethodName} {bytes cc : ByteArray} {maxL nL mc ms n index : Nat} {ret : Option FieldType} {hh : List (Nat × Nat × Nat × Nat)} {ws : List Cond} {rm : Room} {Pc : Array Value → State → Prop} {Qc : Array Value → State → Outcome → State → Prop} {free : Addr → Prop} {Ts : List Cond} {own : String} {As rest : List Value} {g : JFrame}
    (S : CallFix p m c cc nL s args Ts own) (hM : Met l y ws rm Pc Qc mc ms free) (cw : vx_CSW R s args own index y bytes maxL ret hh ws rm mc ms n) (hp : PreS s H Pc As)
    (hg : g.method = m) (hn : As.length = n) (hsize : g.locals.size = nL) (hstack : g.stack = As.reverse ++ rest) (hW : 2 * g.monitorRoom + (rest.map fun v => v.category).sum ≤ 8) (hdg : decode cc g.pc = .ok (.invokestatic index, 3)) (hf : cells + mc ≤ R.cells ∧ slots + ms ≤ R.slots) :
    va_Run p l e R s m args below meth c H locs cells slots mc ms g rest (Qc As.toArray) (free) := by
  obtain ⟨⟨hrc, hrs, hfr, hlo, hws, hcw⟩, hcode, hini, hy, hlen, hl, hstt⟩ := cw
  have hK : Back l R p e below s args y 3 8 (PreOf R mc ms Pc) (PostOf Qc mc ms free) := va_backW (hh := hh) (bytes := bytes) (maxL := maxL) (ret := ret) hM hp.1 hrc hrs hfr hlo hws hcw (fun a' U hW => word_at hW (Or.inl (by first | rfl | simp [Cond.onTables, Cond.keeps, Cond.steady])) hini)
  obtain ⟨hx, hb, hml, ho, -⟩ := S
  intro T hT X
  obtain ⟨v, vm₁, ⟨U', l2, c2, s2⟩, hW₁, X', ⟨g', mk, t, L, e1, e2, hq, h1, hL, h2, h3⟩, st⟩ := vx_callSW X hx (hh := hh) (bytes := bytes) (maxL := maxL) (ret := ret) ho hl hstt hini hcode hy hK hg (hsize.trans hml.symm) (argsL := As) (rest := rest) (fun sig h => hn.trans (hlen sig h)) hstack hW (by rw [hb]; exact hdg)
    (fun vm₁ hW₁ => ⟨hf.1, hf.2, hp.2 (T.setVm vm₁) hT hW₁⟩)
  dsimp only [Pt.U, Pt.locs, Pt.cells, Pt.slots] at X' e1 e2 h1 h2 h3 st
  subst h1; subst h2; subst h3
  exact ⟨v, (T.setVm vm₁).calling g' mk As.toArray, t, U', L, hT, X', hL, e1, e2, hq, st⟩
/-- not caught here, past rows that name other classes: it goes on to the caller -/
theorem vx_outP {p : Program} {l : Launch} {e : Env} {R : Room} {s : State} {m : MethodId} {args : Array Value} {below : List Frame} {meth : Method} {c : Code} {H : Heap} {locs : List Loc} {cells slots : Nat} {free : Addr → Prop} {ls : Array Slot} {rest : List Value} {Qc : Array Value → State → Outcome → State → Prop} {XC : String → State → State → Prop}
    {pc : Nat} {own E : String} {ce : Cell} {q : Addr} {mc ms : Nat} (hown : s.vm.findClass own = some m.cls) (hlocks : meth.locks = false)
    (hpass : ∀ z ∈ c.exceptionTable.toList, covers z pc = false ∨ (z.catchType ≠ 0 ∧ ∃ nm : String, (Cond.classLink own z.catchType nm).before args s = true ∧ va_Nc E nm s)) (hcell : H[q]? = some ce) (hv : ce.vm = .none) (hcl : s.vm.findClass E = some ce.cls)
    (hx : ∀ t : State, t.heap = H → s.vm.Alike t.vm → XC E s t) (hf : ∀ z ∈ locs, free z.base) (hc : cells ≤ mc) (hs : slots ≤ ms) :
    vx_W p l e R s m args below meth c H locs cells slots (vx_MQ below Qc XC args s mc ms free) (F0 m pc ls rest) q := by
  intro T hT X
  have hpl : e.platform.magicAccessors = ({} : Platform).magicAccessors := by rw [X.admits.platform]
  obtain ⟨vm', hW', X', st⟩ := X.outThrough hlocks q (g := F0 m pc ls rest) rfl rfl rfl (cell := ce) (by rw [hT]; exact hcell) (by rw [hv]; rfl)
    (by obtain ⟨k9, h9, -⟩ := Vm.findClass_spec hcl; exact ⟨k9, h9⟩) (fun z hz => by
      rcases hpass z hz with h | ⟨hz0, nm, hl1, hn1⟩
      · exact Or.inl h
      · obtain ⟨c6, hc6, hcl6⟩ := Cond.classLink_spec hown hl1 e.platform hpl
        obtain ⟨a8, b8, h1, h2, h3⟩ := hn1
        cases Option.some.inj (h1.symm.trans hcl)
        cases Option.some.inj (h2.symm.trans hc6)
        exact Or.inr ⟨hz0, _, hcl6, h3⟩)
  obtain ⟨g₀, hfr⟩ := X'.frames_eq
  have hcell9 : ((T.setVm vm').setFrames (.throwing q :: below)).heap[q]? = some ce := by
    show T.heap[q]? = some ce
    rw [hT]; exact hcell
  have hend : Ended ((T.setVm vm').setFrames (.throwing q :: below)) below (.threw q) := State.frames_setFrames _ (State.cur_lt_of_frames hfr)
  refine ⟨(T.setVm vm').setFrames (.throwing q :: below), ?_, .threw q, X'.here.running, hend, Or.inr ⟨q, rfl, E, ce, locs, hx _ hT (X'.ends _).1.alike, hcell9, hv, hcl, (X'.ends _).1, (X'.ends _).2.mono hc hs, hf⟩⟩
  rw [X.pushThrowing_eq]
  exact st
/-- a thing of a world lies in the heap -/
theorem vx_lt {D : va_G} {cl : List vw_C} {ws : va_W} {H1 : Heap} (h : va_P D cl ws H1) {k : Nat} {q : Nat × va_E} (hk : ws[k]? = some q) : q.1 < H1.size := (h k q hk).lt
end VXS
/-! ===== END ===== -/
/-! ===== BEGIN methods with a table of their own: called by a name, returning or throwing ===== -/
section VXH
/-! vx_backW, vx_callVX, vx_callSX, vx_callVW, vx_runVW, vx_runVX, vx_runSX, vx_ofWH follow the same proofs as their sisters above (Free/Laws.lean, Shelf42/LK1.lean); vx_outP calls Shelf42/NT130.lean (outThrough). -/
section
variable {l : Launch} {R : Room} {p : Program} {e : Env} {below : List Frame} {s : State} {sargs : Array Value} {y : MethodName} {len W9 : Nat}
theorem vx_backW {ws : List Cond} {rm : Room} {Pc : Array Value → State → Prop} {Qc : Array Value → State → Outcome → State → Prop} {XC : String → State → State → Prop} {mc ms : Nat} {free : Addr → Prop} {bytes : ByteArray} {maxL : Nat} {ret : Option FieldType} {hh : List (Nat × Nat × Nat × Nat)}
    (hM : vx_Met l y ws rm Pc Qc XC mc ms free) (hblind : FrameBlind Pc) (hrc : rm.cells = mc) (hrs : rm.slots = ms)
    (hframes : rm.frames + 1 ≤ R.frames) (hlocals : W9 + (maxL + 11) + rm.locals ≤ R.locals)
    (hws : ∀ w ∈ ws, ∀ a' U, s.WarmedH U.vm → w.before a' U = true) (hcode : Cond.codeWith y bytes maxL ret hh ∈ ws) (hinit : ∀ a' U, s.WarmedH U.vm → (Cond.initialized y.cls).before a' U = true) :
    vx_Back l R p e below s sargs y len W9 (PreOf R mc ms Pc) (PostOf Qc mc ms free) (vx_Post XC mc ms free) := by
  intro m meth c A g ig mk a X hg hsize hdg hW hn hp
  have h1 : (headSpec ws rm).pre.before a A.U = true := atoms_intro fun w hw => hws w hw _ _ X.warmed
  have h2 : (Cond.codeWith y bytes maxL ret hh).before a A.U = true := hws _ hcode _ _ X.warmed
  have h3 : (Cond.initialized y.cls).before a A.U = true := hinit _ _ X.warmed
  have h4 : A.cells + (headSpec ws rm).room.cells ≤ R.cells := by rw [show (headSpec ws rm).room.cells = mc from hrc]; exact hp.1
  have h5 : A.slots + (headSpec ws rm).room.slots ≤ R.slots := by rw [show (headSpec ws rm).room.slots = ms from hrs]; exact hp.2.1
  have hPc : Pc a (A.U.calling g mk a) := hblind _ _ _ _ hp.2.2
  obtain ⟨U, Ls, c0, s0⟩ := A
  dsimp only [Pt.U, Pt.locs, Pt.cells, Pt.slots] at h1 h2 h3 h4 h5 X hn hPc ⊢
  obtain ⟨m9, methY, cY, hn9, hmY, hcY, -, hlY, -⟩ := Cond.codeWith_spec h2
  cases Option.some.inj (hn9.symm.trans hn)
  obtain ⟨kY, hkY, -⟩ := className_of_methodNamed hn
  have hinitY : kY.init = .initialized := Cond.initialized_spec (findClass_of_methodNamed hn) hkY h3
  have h : At U g.method c below := by rw [hg]; exact X.here
  have hlocals9 : W9 + (maxL + 11) + (headSpec ws rm).room.locals ≤ R.locals := hlocals
  have happ : (headSpec ws rm).appliesLoose y e.platform (U.calling g mk a) = true :=
    Spec.appliesLoose_calling (g := g) h hdg hn hkY hinitY
      (X.room_calling (g := g) (R' := (headSpec ws rm).room) hsize hmY hcY hframes (by rw [hlY]; omega) h4 h5) h1
  obtain ⟨mid, hmid⟩ := h.above
  have hfr : (U.setTop g).frames = (.java g :: mid) ++ below := by rw [State.frames_setTop' g h.top, hmid]; rfl
  obtain ⟨o, s₂, hsteps, -, hend, hq⟩ := Steps.callFree hM p X.admits X.cas X.clock (acts := []) hfr happ hPc trivial
  have hq' : vx_Q Qc XC mc ms free a (U.calling g mk a) o s₂ := hq
  rw [State.frames_setTop' g h.top] at hend
  obtain ⟨g₀, hg0⟩ := Option.isSome_iff_exists.mp h.top
  obtain ⟨r, hr⟩ := State.topJava?_eq_some.mp hg0
  have hr' : (({ U with heap := s₂.heap, slotsUsed := s₂.slotsUsed } : State).setVm s₂.vm).frames = .java g₀ :: r := hr
  rcases hq' with ⟨hqc, L, hfe, hL⟩ | ⟨q, rfl, E, ce, L, hx, hce, hcv, hcl, hW₂, hsm, hL⟩
  · obtain ⟨⟨v, rfl⟩, hW₂, e2, q2, q3, q4, q5, q6⟩ := id hfe
    have e3 : s₂ = ({ (U.calling g mk a).setFrames s₂.frames with heap := s₂.heap, slotsUsed := s₂.slotsUsed } : State).setVm s₂.vm := by
      have : s₂ = ({ s₂ with vm := (U.calling g mk a).vm } : State).setVm s₂.vm := rfl
      rw [e2] at this
      exact this
    obtain ⟨c₂, i₂, len₂, hc₂, hd₂, hf₂⟩ := hend
    have hW' : U.WarmedH s₂.vm := hW₂
    have hcc : c₂ = c := by
      have h1 : s₂.code? g.method = U.code? g.method := by
        rw [State.code?_eq, State.code?_eq, hW'.alike.method?]
      exact Option.some.inj (hc₂.symm.trans (h1.trans h.code))
    subst hcc
    have hlen : len₂ = len := by rw [hdg] at hd₂; cases hd₂; rfl
    subst hlen
    have hs₂ : s₂ = (({ U with heap := s₂.heap, slotsUsed := s₂.slotsUsed } : State).setVm s₂.vm).setTop { g with pc := g.pc + len₂, stack := v.toList ++ g.stack } := by
      refine e3.trans ?_
      rw [hf₂, State.calling_eq h.top, State.setFrames_setFrames, State.setTop_of_frames _ hr', hr]
      rfl
    have hsame : U.sameButNew ({ U with heap := s₂.heap, slotsUsed := s₂.slotsUsed } : State) L mc ms := by
      refine ⟨?_, q2, q3, q4, q5, q6⟩
      obtain ⟨t, ht, -⟩ := State.frames_cons hr
      show ({ U with heap := s₂.heap, slotsUsed := s₂.slotsUsed } : State) = { U.setFrames U.frames with heap := s₂.heap, slotsUsed := s₂.slotsUsed }
      rw [State.setFrames_self ht]
    subst hg
    refine Or.inl ⟨v, ⟨(({ U with heap := s₂.heap, slotsUsed := s₂.slotsUsed } : State).setVm s₂.vm), Ls ++ L, c0 + mc, s0 + ms⟩,
      ⟨X.admits, X.cas, X.clock, X.frames, X.room, X.hears, X.method, X.code, (X.here.setHeapUsed s₂.heap s₂.slotsUsed).setVm hW'.alike, X.tail, State.WarmedH.trans X.warmed hW', X.limits, X.bytes, X.same.trans (hsame.setVm s.vm)⟩,
      ⟨g, mk, s₂, L, rfl, rfl, hqc, rfl, hL, rfl, rfl⟩, ?_⟩
    show Steps p.tables e below _ ((({ U with heap := s₂.heap, slotsUsed := s₂.slotsUsed } : State).setVm s₂.vm).setTop { g with pc := g.pc + len₂, stack := v.toList ++ g.stack })
    rw [← hs₂]
    exact hsteps
  · obtain ⟨e2, q2, q3, q4, q5, q6⟩ := id hsm
    have e3 : s₂ = ({ (U.calling g mk a).setFrames s₂.frames with heap := s₂.heap, slotsUsed := s₂.slotsUsed } : State).setVm s₂.vm := by
      have : s₂ = ({ s₂ with vm := (U.calling g mk a).vm } : State).setVm s₂.vm := rfl
      rw [e2] at this
      exact this
    have hf₂ : s₂.frames = .throwing q :: .java g :: U.frames.tail := hend
    have hW' : U.WarmedH s₂.vm := hW₂
    have hs₂ : s₂ = ((({ U with heap := s₂.heap, slotsUsed := s₂.slotsUsed } : State).setVm s₂.vm).setTop g).pushFrame (.throwing q) := by
      refine e3.trans ?_
      rw [hf₂, State.calling_eq h.top, State.setFrames_setFrames, State.pushFrame, State.frames_setTop _ hr', State.setTop_of_frames _ hr', State.setFrames_setFrames, hr]
      rfl
    have hsame : U.sameButNew ({ U with heap := s₂.heap, slotsUsed := s₂.slotsUsed } : State) L mc ms := by
      refine ⟨?_, q2, q3, q4, q5, q6⟩
      obtain ⟨t, ht, -⟩ := State.frames_cons hr
      show ({ U with heap := s₂.heap, slotsUsed := s₂.slotsUsed } : State) = { U.setFrames U.frames with heap := s₂.heap, slotsUsed := s₂.slotsUsed }
      rw [State.setFrames_self ht]
    subst hg
    refine Or.inr ⟨q, ⟨(({ U with heap := s₂.heap, slotsUsed := s₂.slotsUsed } : State).setVm s₂.vm), Ls ++ L, c0 + mc, s0 + ms⟩,
      ⟨X.admits, X.cas, X.clock, X.frames, X.room, X.hears, X.method, X.code, (X.here.setHeapUsed s₂.heap s₂.slotsUsed).setVm hW'.alike, X.tail, State.WarmedH.trans X.warmed hW', X.limits, X.bytes, X.same.trans (hsame.setVm s.vm)⟩,
      ⟨g, mk, s₂, L, E, ce, rfl, rfl, hx, hce, hcv, hcl, rfl, hL, rfl, rfl⟩, ?_⟩
    show Steps p.tables e below _ (((({ U with heap := s₂.heap, slotsUsed := s₂.slotsUsed } : State).setVm s₂.vm).setTop g).pushFrame (.throwing q))
    rw [← hs₂]
    exact hsteps
end
variable {p : Program} {l : Launch} {e : Env} {R : Room} {s : State} {m : MethodId} {args : Array Value} {below : List Frame} {meth : Method} {c : Code} {T : State} {H : Heap} {locs : List Loc} {cells slots : Nat}
theorem vx_callVX (X : Stand p l e R s m args below meth c T locs cells slots) (hexec : p.tables.exec = Jvm.exec) {own C : String} {index : Nat} {y : MethodName} {bytes : ByteArray} {maxL : Nat} {ret : Option FieldType} {hh : List (Nat × Nat × Nat × Nat)}
    (hown : s.vm.findClass own = some m.cls) (hlink : (Cond.methodLink own index y).before args s = true) (hinst : (Cond.instanceMethod y).before args s = true) (hsel : (Cond.selects C y y).before args s = true)
    (hcode : (Cond.codeWith y bytes maxL ret hh).before args s = true) (hy : y.cls ≠ "java/lang/invoke/MethodHandle" ∧ y.cls ≠ "java/lang/invoke/VarHandle")
    {W9 : Nat} {Pre : Pt → Array Value → Prop} {Post : Pt → Array Value → Option Value → Pt → Prop} {PostX : Pt → Array Value → Addr → Pt → Prop} (hK : vx_Back l R p e below s args y 3 W9 Pre Post PostX)
    {b : Addr} {cellB : Cell} (hcell : T.heap[b]? = some cellB) (hobj : cellB.vm.isStatics = false) (hcls : s.vm.findClass C = some cellB.cls)
    {g : JFrame} (hg : g.method = m) (hsize : g.locals.size = c.maxLocals) {argsL rest : List Value} (hlen : ∀ sig, parseMethodDescriptor y.desc = some sig → argsL.length = sig.parameters.length)
    (hstack : g.stack = argsL.reverse ++ .ref b :: rest) (hW : 2 * g.monitorRoom + (rest.map fun v => v.category).sum ≤ W9) (hdg : decode c.code g.pc = .ok (.invokevirtual index, 3))
    (hpre : ∀ vm₁, s.WarmedH vm₁ → Pre ⟨T.setVm vm₁, locs, cells, slots⟩ (Value.ref b :: argsL).toArray) :
    (∃ (v : Option Value) (vm₁ : Vm) (B : Pt), s.WarmedH vm₁ ∧ Stand p l e R s m args below meth c B.U B.locs B.cells B.slots ∧ Post ⟨T.setVm vm₁, locs, cells, slots⟩ (Value.ref b :: argsL).toArray v B ∧
      ∀ target, Steps p.tables e below (B.U.setTop { g with pc := g.pc + 3, stack := v.toList ++ rest }) target → Steps p.tables e below (T.setTop g) target) ∨
    (∃ (q : Addr) (vm₁ : Vm) (B : Pt), s.WarmedH vm₁ ∧ Stand p l e R s m args below meth c B.U B.locs B.cells B.slots ∧ PostX ⟨T.setVm vm₁, locs, cells, slots⟩ (Value.ref b :: argsL).toArray q B ∧
      Steps p.tables e below (T.setTop g) ((B.U.setTop { g with stack := rest }).pushFrame (.throwing q))) := by
  obtain ⟨mk, methM, hnamed, hmethM, hstM, habM⟩ := Cond.instanceMethod_spec hinst
  obtain ⟨m8, methM', cM, hn8, hmethM', -, -, -, -, -, -, hsigM⟩ := Cond.codeWith_spec hcode
  cases Option.some.inj (hn8.symm.trans hnamed)
  cases hmethM.symm.trans hmethM'
  obtain ⟨c2, r2, m2, q1, q2, q3, q4, kP, hkP, hkPi⟩ := Cond.selects_spec hsel
  cases hcls.symm.trans q1
  cases (State.methodFound?_of_named hnamed hy).symm.trans q2
  cases hnamed.symm.trans q3
  have hselP : selectMethod e.platform s.vm cellB.cls mk = .method mk := by rw [Launch.admits_selectMethod X.admits]; exact q4
  obtain ⟨vm₁, X₁, hstep₁⟩ := X.invokevirtual hexec hown hlink hnamed hmethM hstM hkP hkPi hy (a := b) (cell := cellB) hcell
    (fun z h => by rw [h] at hobj; cases hobj) hselP hmethM habM hkP hkPi (g := g) hg (argsL := argsL) (rest := rest) (hlen _ hsigM) hstack hdg
  rcases hK m meth c ⟨T.setVm vm₁, locs, cells, slots⟩ { g with stack := rest } (.invokevirtual index) mk (Value.ref b :: argsL).toArray X₁ hg hsize hdg hW (X₁.named hnamed) (hpre vm₁ X₁.warmed) with ⟨v, B, X', hpost, hsteps⟩ | ⟨q, B, X', hpost, hsteps⟩
  · exact Or.inl ⟨v, vm₁, B, X₁.warmed, X', hpost, fun target h => hstep₁ _ fun acts => by rw [doInvoke_state]; exact hsteps.trans h⟩
  · exact Or.inr ⟨q, vm₁, B, X₁.warmed, X', hpost, hstep₁ _ fun acts => by rw [doInvoke_state]; exact hsteps⟩
theorem vx_callSX (X : Stand p l e R s m args below meth c T locs cells slots) (hexec : p.tables.exec = Jvm.exec) {own : String} {index : Nat} {y : MethodName} {bytes : ByteArray} {maxL : Nat} {ret : Option FieldType} {hh : List (Nat × Nat × Nat × Nat)}
    (hown : s.vm.findClass own = some m.cls) (hlink : (Cond.methodLink own index y).before args s = true) (hstat : (Cond.static y).before args s = true) (hinit : (Cond.initialized y.cls).before args s = true)
    (hcode : (Cond.codeWith y bytes maxL ret hh).before args s = true) (hy : y.cls ≠ "java/lang/invoke/MethodHandle" ∧ y.cls ≠ "java/lang/invoke/VarHandle")
    {W9 : Nat} {Pre : Pt → Array Value → Prop} {Post : Pt → Array Value → Option Value → Pt → Prop} {PostX : Pt → Array Value → Addr → Pt → Prop} (hK : vx_Back l R p e below s args y 3 W9 Pre Post PostX)
    {g : JFrame} (hg : g.method = m) (hsize : g.locals.size = c.maxLocals) {argsL rest : List Value} (hlen : ∀ sig, parseMethodDescriptor y.desc = some sig → argsL.length = sig.parameters.length)
    (hstack : g.stack = argsL.reverse ++ rest) (hW : 2 * g.monitorRoom + (rest.map fun v => v.category).sum ≤ W9) (hdg : decode c.code g.pc = .ok (.invokestatic index, 3))
    (hpre : ∀ vm₁, s.WarmedH vm₁ → Pre ⟨T.setVm vm₁, locs, cells, slots⟩ argsL.toArray) :
    (∃ (v : Option Value) (vm₁ : Vm) (B : Pt), s.WarmedH vm₁ ∧ Stand p l e R s m args below meth c B.U B.locs B.cells B.slots ∧ Post ⟨T.setVm vm₁, locs, cells, slots⟩ argsL.toArray v B ∧
      ∀ target, Steps p.tables e below (B.U.setTop { g with pc := g.pc + 3, stack := v.toList ++ rest }) target → Steps p.tables e below (T.setTop g) target) ∨
    (∃ (q : Addr) (vm₁ : Vm) (B : Pt), s.WarmedH vm₁ ∧ Stand p l e R s m args below meth c B.U B.locs B.cells B.slots ∧ PostX ⟨T.setVm vm₁, locs, cells, slots⟩ argsL.toArray q B ∧
      Steps p.tables e below (T.setTop g) ((B.U.setTop { g with stack := rest }).pushFrame (.throwing q))) := by
  obtain ⟨mk, methM, cM, hnamed, hmethM, -, -, -, -, -, -, hsigM⟩ := Cond.codeWith_spec hcode
  have hstatic : methM.isStatic = true := Cond.static_spec hnamed hmethM hstat
  obtain ⟨kP, hkP, -⟩ := className_of_methodNamed hnamed
  have hinitP : kP.init = .initialized := Cond.initialized_spec (findClass_of_methodNamed hnamed) hkP hinit
  obtain ⟨vm₁, X₁, hstep₁⟩ := X.invokestatic hexec hown hlink hnamed hmethM hstatic hkP hinitP hy (g := g) hg (argsL := argsL) (rest := rest) (hlen _ hsigM) hstack hdg
  rcases hK m meth c ⟨T.setVm vm₁, locs, cells, slots⟩ { g with stack := rest } (.invokestatic index) mk argsL.toArray X₁ hg hsize hdg hW (X₁.named hnamed) (hpre vm₁ X₁.warmed) with ⟨v, B, X', hpost, hsteps⟩ | ⟨q, B, X', hpost, hsteps⟩
  · exact Or.inl ⟨v, vm₁, B, X₁.warmed, X', hpost, fun target h => hstep₁ _ fun acts => by rw [doInvoke_state]; exact hsteps.trans h⟩
  · exact Or.inr ⟨q, vm₁, B, X₁.warmed, X', hpost, hstep₁ _ fun acts => by rw [doInvoke_state]; exact hsteps⟩
theorem vx_callVW (X : Stand p l e R s m args below meth c T locs cells slots) (hexec : p.tables.exec = Jvm.exec) {own C : String} {index : Nat} {y : MethodName} {bytes : ByteArray} {maxL : Nat} {ret : Option FieldType} {hh : List (Nat × Nat × Nat × Nat)}
    (hown : s.vm.findClass own = some m.cls) (hlink : (Cond.methodLink own index y).before args s = true) (hinst : (Cond.instanceMethod y).before args s = true) (hsel : (Cond.selects C y y).before args s = true)
    (hcode : (Cond.codeWith y bytes maxL ret hh).before args s = true) (hy : y.cls ≠ "java/lang/invoke/MethodHandle" ∧ y.cls ≠ "java/lang/invoke/VarHandle")
    {W9 : Nat} {Pre : Pt → Array Value → Prop} {Post : Pt → Array Value → Option Value → Pt → Prop} (hK : Back l R p e below s args y 3 W9 Pre Post)
    {b : Addr} {cellB : Cell} (hcell : T.heap[b]? = some cellB) (hobj : cellB.vm.isStatics = false) (hcls : s.vm.findClass C = some cellB.cls)
    {g : JFrame} (hg : g.method = m) (hsize : g.locals.size = c.maxLocals) {argsL rest : List Value} (hlen : ∀ sig, parseMethodDescriptor y.desc = some sig → argsL.length = sig.parameters.length)
    (hstack : g.stack = argsL.reverse ++ .ref b :: rest) (hW : 2 * g.monitorRoom + (rest.map fun v => v.category).sum ≤ W9) (hdg : decode c.code g.pc = .ok (.invokevirtual index, 3))
    (hpre : ∀ vm₁, s.WarmedH vm₁ → Pre ⟨T.setVm vm₁, locs, cells, slots⟩ (Value.ref b :: argsL).toArray) :
    ∃ (v : Option Value) (vm₁ : Vm) (B : Pt), s.WarmedH vm₁ ∧ Stand p l e R s m args below meth c B.U B.locs B.cells B.slots ∧ Post ⟨T.setVm vm₁, locs, cells, slots⟩ (Value.ref b :: argsL).toArray v B ∧
      ∀ target, Steps p.tables e below (B.U.setTop { g with pc := g.pc + 3, stack := v.toList ++ rest }) target → Steps p.tables e below (T.setTop g) target := by
  obtain ⟨mk, methM, hnamed, hmethM, hstM, habM⟩ := Cond.instanceMethod_spec hinst
  obtain ⟨m8, methM', cM, hn8, hmethM', -, -, -, -, -, -, hsigM⟩ := Cond.codeWith_spec hcode
  cases Option.some.inj (hn8.symm.trans hnamed)
  cases hmethM.symm.trans hmethM'
  obtain ⟨c2, r2, m2, q1, q2, q3, q4, kP, hkP, hkPi⟩ := Cond.selects_spec hsel
  cases hcls.symm.trans q1
  cases (State.methodFound?_of_named hnamed hy).symm.trans q2
  cases hnamed.symm.trans q3
  have hselP : selectMethod e.platform s.vm cellB.cls mk = .method mk := by rw [Launch.admits_selectMethod X.admits]; exact q4
  obtain ⟨vm₁, X₁, hstep₁⟩ := X.invokevirtual hexec hown hlink hnamed hmethM hstM hkP hkPi hy (a := b) (cell := cellB) hcell
    (fun z h => by rw [h] at hobj; cases hobj) hselP hmethM habM hkP hkPi (g := g) hg (argsL := argsL) (rest := rest) (hlen _ hsigM) hstack hdg
  obtain ⟨v, B, X', hpost, hsteps⟩ := hK m meth c ⟨T.setVm vm₁, locs, cells, slots⟩ { g with stack := rest } (.invokevirtual index) mk (Value.ref b :: argsL).toArray X₁ hg hsize hdg hW (X₁.named hnamed) (hpre vm₁ X₁.warmed)
  exact ⟨v, vm₁, B, X₁.warmed, X', hpost, fun target h => hstep₁ _ fun acts => by rw [doInvoke_state]; exact hsteps.trans h⟩
abbrev vx_CVW (R : Room) (s : State) (args : Array Value) (own C : String) (index : Nat) (y : MethodName) (bytes : ByteArray) (maxL : Nat) (ret : Option FieldType) (hh : List (Nat × Nat × Nat × Nat)) (ws : List Cond) (rm : Room) (mc ms n : Nat) : Prop :=
  (rm.cells = mc ∧ rm.slots = ms ∧ rm.frames + 1 ≤ R.frames ∧ 8 + (maxL + 11) + rm.locals ≤ R.locals ∧ (∀ w ∈ ws, ∀ (a' : Array Value) (U : State), s.WarmedH U.vm → w.before a' U = true) ∧ Cond.codeWith y bytes maxL ret hh ∈ ws) ∧
  (Cond.codeWith y bytes maxL ret hh).before args s = true ∧ (Cond.initialized y.cls).before args s = true ∧ (y.cls ≠ "java/lang/invoke/MethodHandle" ∧ y.cls ≠ "java/lang/invoke/VarHandle") ∧
  (∀ sig, parseMethodDescriptor y.desc = some sig → n = sig.parameters.length) ∧ (Cond.methodLink own index y).before args s = true ∧ (Cond.instanceMethod y).before args s = true ∧ (Cond.selects C y y).before args s = true
theorem vx_cwVW {own C : String} {index maxL mc ms : Nat} {y : MethodName} {bytes : ByteArray} {ret : Option FieldType} {hh : List (Nat × Nat × Nat × Nat)} {Ts ws ws' : List Cond} {rm : Room} (n : Nat) (ht : ∀ w ∈ Ts, w.before args s = true) (hT : GoodIn Ts (wsV own index C y ws)) (hw : ws = Cond.codeWith y bytes maxL ret hh :: ws') (hrc : rm.cells = mc) (hrs : rm.slots = ms)
    (hd : y.cls = C ∧ y.cls ≠ "java/lang/invoke/MethodHandle" ∧ y.cls ≠ "java/lang/invoke/VarHandle" ∧ (parseMethodDescriptor y.desc).map (fun d => d.parameters.length) = some n) (hR : rm.frames + 1 ≤ R.frames ∧ 8 + (maxL + 11) + rm.locals ≤ R.locals) :
    vx_CVW R s args own C index y bytes maxL ret hh ws rm mc ms n := by
  obtain ⟨hC, hd⟩ := hd
  subst hC
  have ok : ∀ w ∈ wsV own index y.cls y ws, w.before args s = true := fun w h => ht w (hT w h).1
  have hG : GoodIn Ts ws := fun w h => hT w (by unfold wsV; exact List.mem_append_right _ h)
  have hc : Cond.codeWith y bytes maxL ret hh ∈ ws := by rw [hw]; exact List.mem_cons_self
  refine ⟨⟨hrc, hrs, hR.1, hR.2, pay_in ht hG, hc⟩, ht _ (hG _ hc).1, ok _ (by simp [wsV]), ⟨hd.1, hd.2.1⟩, fun sig h => ?_, ok _ (by simp [wsV]), ok _ (by simp [wsV]), ok _ (by simp [wsV])⟩
  have h2 := hd.2.2
  rw [h] at h2
  exact (Option.some.inj h2).symm
theorem vx_runVW {y : MethodName} {bytes cc : ByteArray} {maxL nL mc ms n index : Nat} {ret : Option FieldType} {hh : List (Nat × Nat × Nat × Nat)} {ws : List Cond} {rm : Room} {Pc : Array Value → State → Prop} {Qc : Array Value → State → Outcome → State → Prop} {free : Addr → Prop} {Ts : List Cond} {own C : String} {b : Addr} {As rest : List Value} {g : JFrame}
    (S : CallFix p m c cc nL s args Ts own) (hM : Met l y ws rm Pc Qc mc ms free) (cw : vx_CVW R s args own C index y bytes maxL ret hh ws rm mc ms n) (hp : PreV s H C b Pc As)
    (hg : g.method = m) (hn : As.length = n) (hsize : g.locals.size = nL) (hstack : g.stack = As.reverse ++ .ref b :: rest) (hW : 2 * g.monitorRoom + (rest.map fun v => v.category).sum ≤ 8) (hdg : decode cc g.pc = .ok (.invokevirtual index, 3)) (hf : cells + mc ≤ R.cells ∧ slots + ms ≤ R.slots) :
    va_Run p l e R s m args below meth c H locs cells slots mc ms g rest (Qc (Value.ref b :: As).toArray) free := by
  obtain ⟨⟨hrc, hrs, hfr, hlo, hws, hcw⟩, hcode, hini, hy, hlen, hl, hin, hse⟩ := cw
  have hK : Back l R p e below s args y 3 8 (PreOf R mc ms Pc) (PostOf Qc mc ms free) := va_backW (hh := hh) (bytes := bytes) (maxL := maxL) (ret := ret) hM hp.1 hrc hrs hfr hlo hws hcw (fun a' U hW => word_at hW (Or.inl (by first | rfl | simp [Cond.onTables, Cond.keeps, Cond.steady])) hini)
  obtain ⟨hx, hb, hml, ho, -⟩ := S
  obtain ⟨-, ⟨cellB, hcB, hoB, hclB⟩, hPc⟩ := hp
  intro T hT X
  obtain ⟨v, vm₁, ⟨U', l2, c2, s2⟩, hW₁, X', ⟨g', mk, t, L, e1, e2, hq, h1, hL, h2, h3⟩, st⟩ := vx_callVW X hx (C := C) (hh := hh) (bytes := bytes) (maxL := maxL) (ret := ret) ho hl hin hse hcode hy hK (by rw [hT]; exact hcB) hoB hclB hg (hsize.trans hml.symm) (argsL := As) (rest := rest) (fun sig h => hn.trans (hlen sig h)) hstack hW (by rw [hb]; exact hdg)
    (fun vm₁ hW₁ => ⟨hf.1, hf.2, hPc (T.setVm vm₁) hT hW₁⟩)
  dsimp only [Pt.U, Pt.locs, Pt.cells, Pt.slots] at X' e1 e2 h1 h2 h3 st
  subst h1; subst h2; subst h3
  exact ⟨v, (T.setVm vm₁).calling g' mk (Value.ref b :: As).toArray, t, U', L, hT, X', hL, e1, e2, hq, st⟩
section
variable {y : MethodName} {bytes cc : ByteArray} {maxL nL mc ms n index : Nat} {ret : Option FieldType} {ws : List Cond} {rm : Room} {Pc : Array Value → State → Prop} {Qc : Array Value → State → Outcome → State → Prop} {XC : String → State → State → Prop} {free : Addr → Prop} {Ts : List Cond} {own C : String} {b : Addr} {As rest : List Value} {g : JFrame}
theorem vx_runVX {hh : List (Nat × Nat × Nat × Nat)} (S : CallFix p m c cc nL s args Ts own) (hM : vx_Met l y ws rm Pc Qc XC mc ms free) (cw : vx_CVW R s args own C index y bytes maxL ret hh ws rm mc ms n) (hp : PreV s H C b Pc As)
    (hg : g.method = m) (hn : As.length = n) (hsize : g.locals.size = nL) (hstack : g.stack = As.reverse ++ .ref b :: rest) (hW : 2 * g.monitorRoom + (rest.map fun v => v.category).sum ≤ 8) (hdg : decode cc g.pc = .ok (.invokevirtual index, 3)) (hf : cells + mc ≤ R.cells ∧ slots + ms ≤ R.slots) :
    vx_Run p l e R s m args below meth c H locs cells slots mc ms g rest (Qc (Value.ref b :: As).toArray) XC free := by
  obtain ⟨⟨hrc, hrs, hfr, hlo, hws, hcw⟩, hcode, hini, hy, hlen, hl, hin, hse⟩ := cw
  have hK : vx_Back l R p e below s args y 3 8 (PreOf R mc ms Pc) (PostOf Qc mc ms free) (vx_Post XC mc ms free) := vx_backW (hh := hh) (bytes := bytes) (maxL := maxL) (ret := ret) hM hp.1 hrc hrs hfr hlo hws hcw (fun a' U hW => word_at hW (Or.inl (by first | rfl | simp [Cond.onTables, Cond.keeps, Cond.steady])) hini)
  obtain ⟨hx, hb, hml, ho, -⟩ := S
  obtain ⟨-, ⟨cellB, hcB, hoB, hclB⟩, hPc⟩ := hp
  intro T hT X
  rcases vx_callVX X hx (C := C) (hh := hh) (bytes := bytes) (maxL := maxL) (ret := ret) ho hl hin hse hcode hy hK (by rw [hT]; exact hcB) hoB hclB hg (hsize.trans hml.symm) (argsL := As) (rest := rest) (fun sig h => hn.trans (hlen sig h)) hstack hW (by rw [hb]; exact hdg)
    (fun vm₁ hW₁ => ⟨hf.1, hf.2, hPc (T.setVm vm₁) hT hW₁⟩) with ⟨v, vm₁, ⟨U', l2, c2, s2⟩, hW₁, X', ⟨g', mk, t, L, e1, e2, hq, h1, hL, h2, h3⟩, st⟩ | ⟨q, vm₁, ⟨U', l2, c2, s2⟩, hW₁, X', ⟨g', mk, t, L, E, ce, e1, e2, hq, hce, hcv, hcl, h1, hL, h2, h3⟩, st⟩
  · dsimp only [Pt.U, Pt.locs, Pt.cells, Pt.slots] at X' e1 e2 h1 h2 h3 st
    subst h1; subst h2; subst h3
    exact Or.inl ⟨v, (T.setVm vm₁).calling g' mk (Value.ref b :: As).toArray, t, U', L, hT, X', hL, e1, e2, hq, st⟩
  · dsimp only [Pt.U, Pt.locs, Pt.cells, Pt.slots] at X' e1 e2 h1 h2 h3 st hcl
    subst h1; subst h2; subst h3
    exact Or.inr ⟨q, (T.setVm vm₁).calling g' mk (Value.ref b :: As).toArray, t, U', L, E, ce, hT, X', hL, e1, e2, hq, hce, hcv, vx_cls hW₁ hcl, st⟩
theorem vx_runSX {hh : List (Nat × Nat × Nat × Nat)} (S : CallFix p m c cc nL s args Ts own) (hM : vx_Met l y ws rm Pc Qc XC mc ms free) (cw : vx_CSW R s args own index y bytes maxL ret hh ws rm mc ms n) (hp : PreS s H Pc As)
    (hg : g.method = m) (hn : As.length = n) (hsize : g.locals.size = nL) (hstack : g.stack = As.reverse ++ rest) (hW : 2 * g.monitorRoom + (rest.map fun v => v.category).sum ≤ 8) (hdg : decode cc g.pc = .ok (.invokestatic index, 3)) (hf : cells + mc ≤ R.cells ∧ slots + ms ≤ R.slots) :
    vx_Run p l e R s m args below meth c H locs cells slots mc ms g rest (Qc As.toArray) XC free := by
  obtain ⟨⟨hrc, hrs, hfr, hlo, hws, hcw⟩, hcode, hini, hy, hlen, hl, hstt⟩ := cw
  have hK : vx_Back l R p e below s args y 3 8 (PreOf R mc ms Pc) (PostOf Qc mc ms free) (vx_Post XC mc ms free) := vx_backW (hh := hh) (bytes := bytes) (maxL := maxL) (ret := ret) hM hp.1 hrc hrs hfr hlo hws hcw (fun a' U hW => word_at hW (Or.inl (by first | rfl | simp [Cond.onTables, Cond.keeps, Cond.steady])) hini)
  obtain ⟨hx, hb, hml, ho, -⟩ := S
  intro T hT X
  rcases vx_callSX X hx (hh := hh) (bytes := bytes) (maxL := maxL) (ret := ret) ho hl hstt hini hcode hy hK hg (hsize.trans hml.symm) (argsL := As) (rest := rest) (fun sig h => hn.trans (hlen sig h)) hstack hW (by rw [hb]; exact hdg)
    (fun vm₁ hW₁ => ⟨hf.1, hf.2, hp.2 (T.setVm vm₁) hT hW₁⟩) with ⟨v, vm₁, ⟨U', l2, c2, s2⟩, hW₁, X', ⟨g', mk, t, L, e1, e2, hq, h1, hL, h2, h3⟩, st⟩ | ⟨q, vm₁, ⟨U', l2, c2, s2⟩, hW₁, X', ⟨g', mk, t, L, E, ce, e1, e2, hq, hce, hcv, hcl, h1, hL, h2, h3⟩, st⟩
  · dsimp only [Pt.U, Pt.locs, Pt.cells, Pt.slots] at X' e1 e2 h1 h2 h3 st
    subst h1; subst h2; subst h3
    exact Or.inl ⟨v, (T.setVm vm₁).calling g' mk As.toArray, t, U', L, hT, X', hL, e1, e2, hq, st⟩
  · dsimp only [Pt.U, Pt.locs, Pt.cells, Pt.slots] at X' e1 e2 h1 h2 h3 st hcl
    subst h1; subst h2; subst h3
    exact Or.inr ⟨q, (T.setVm vm₁).calling g' mk As.toArray, t, U', L, E, ce, hT, X', hL, e1, e2, hq, hce, hcv, vx_cls hW₁ hcl, st⟩
end
end VXH
theorem vx_ofWH {l : Launch} {y : MethodName} {ws ws' : List Cond} {rm : Room} {Pc : Array Value → State → Prop} {Qc : Array Value → State → Outcome → State → Prop} {XC : String → State → State → Prop} {mc ms : Nat} {free : Addr → Prop} {cc : ByteArray} {maxL : Nat} {ret : Option FieldType} {hh : List (Nat × Nat × Nat × Nat)}
    (hy : plainName y.cls = true) (hw : ws = Cond.codeWith y cc maxL ret hh :: ws')
    (body : ∀ p e s m args below meth c s₁, BodyLoose p l y (headSpec ws rm) cc maxL ret e s m args below meth c s₁ → c.maxLocals = maxL → Pc args s →
      W p l e (headSpec ws rm).room s m args below meth c s.heap [] 0 0 (vx_MQ below Qc XC args s mc ms free) (entryFrame m args maxL)) : vx_Met l y ws rm Pc Qc XC mc ms free := by
  refine MetFree.of_bodyS (code := cc) (maxLocals := maxL) (ret := ret) hy ?_ ?_
  · intro args s m h hn
    obtain ⟨m9, meth, c, hn9, h1, h2, h3, h4, -, h5, h6, -⟩ := Cond.codeWith_spec (atoms_spec (ws := ws) h _ (by rw [hw]; exact List.mem_cons_self))
    cases hn.symm.trans hn9
    exact ⟨meth, c, h1, h2, h3, h4, h5, h6⟩
  · intro p e s m args below meth c s₁ B hml hP _
    have hh0 : s₁.heap = s.heap := by rw [B.state]; rfl
    obtain ⟨t, a1, o, b1, b2, b3⟩ := body p e s m args below meth c s₁ B hml hP s₁ hh0 (Stand.of_body B)
    exact ⟨t, o, a1, b1, b2, b3⟩
/-! ===== END ===== -/
end
section
def RX0 : String := "TentCamp$Camp"
def TX0 : u_T := fun k => match k with
  | 0 => ("TentCamp$Camp", "usual", "I", false)
  | 1 => ("TentCamp$Camp", "keeps", "I", false)
  | 2 => ("TentCamp$Camp", "poisoned", "I", false)
  | 3 => ("TentCamp$Camp", "struck", "I", false)
  | 4 => ("TentCamp$Camp", "mostTentPlaces", "I", false)
  | 5 => ("TentCamp$Camp", "mostFieldPlaces", "I", false)
  | 6 => ("TentCamp$Camp", "fieldPlaces", "I", false)
  | 7 => ("TentCamp$Camp", "values", "LTentCamp$Row;", true)
  | 8 => ("TentCamp$Camp", "tents", "LTentCamp$Tents;", true)
  | 9 => ("TentCamp$Camp", "frames", "LTentCamp$Frames;", true)
  | 10 => ("TentCamp$Camp", "inUse", "LTentCamp$Fields;", true)
  | _ => ("TentCamp$Camp", "spares", "LTentCamp$Fields;", true)
def tyX0 : Nat → FieldType := fun k => match k with
  | 0 => .int
  | 1 => .int
  | 2 => .int
  | 3 => .int
  | 4 => .int
  | 5 => .int
  | 6 => .int
  | 7 => .object "TentCamp$Row"
  | 8 => .object "TentCamp$Tents"
  | 9 => .object "TentCamp$Frames"
  | 10 => .object "TentCamp$Fields"
  | _ => .object "TentCamp$Fields"
abbrev wsX00 : List Cond := u_ws RX0 TX0 12
theorem nmX0 : ∀ a, a < 12 → ∀ b, b < 12 → a ≠ b → (TX0 a).2.1 ≠ (TX0 b).2.1 := by decide +kernel
theorem tyX0_ok : ∀ k, k < 12 → parseFieldDescriptor (TX0 k).2.2.1 = some (tyX0 k) := by decide +kernel
abbrev cX0_init : ByteArray := prog_2_method_1_code
def yX0_init : MethodName := ⟨RX0, "<init>", "()V"⟩
abbrev cX0_beginAnew : ByteArray := prog_2_method_2_code
def yX0_beginAnew : MethodName := ⟨RX0, "beginAnew", "(II)V"⟩
abbrev cX0_copy : ByteArray := prog_2_method_3_code
def yX0_copy : MethodName := ⟨RX0, "copy", "(LTentCamp$Camp;)V"⟩
abbrev cX0_wantsBig : ByteArray := prog_2_method_4_code
def yX0_wantsBig : MethodName := ⟨RX0, "wantsBig", "(I)Z"⟩
abbrev cX0_newFieldSize : ByteArray := prog_2_method_5_code
def yX0_newFieldSize : MethodName := ⟨RX0, "newFieldSize", "(I)I"⟩
abbrev cX0_openPlace : ByteArray := prog_2_method_6_code
def yX0_openPlace : MethodName := ⟨RX0, "openPlace", "(II)I"⟩
abbrev cX0_siteFor : ByteArray := prog_2_method_7_code
def yX0_siteFor : MethodName := ⟨RX0, "siteFor", "(II)I"⟩
abbrev cX0_takeSite : ByteArray := prog_2_method_8_code
def yX0_takeSite : MethodName := ⟨RX0, "takeSite", "(II)I"⟩
abbrev cX0_putUp : ByteArray := prog_2_method_9_code
def yX0_putUp : MethodName := ⟨RX0, "putUp", "(II)I"⟩
abbrev cX0_putUpAll : ByteArray := prog_2_method_10_code
def yX0_putUpAll : MethodName := ⟨RX0, "putUpAll", "(LTentCamp$Tents;)Z"⟩
abbrev cX0_strewTent : ByteArray := prog_2_method_11_code
def yX0_strewTent : MethodName := ⟨RX0, "strewTent", "(II)I"⟩
abbrev cX0_goIn : ByteArray := prog_2_method_12_code
def yX0_goIn : MethodName := ⟨RX0, "goIn", "()I"⟩
abbrev cX0_goOut : ByteArray := prog_2_method_13_code
def yX0_goOut : MethodName := ⟨RX0, "goOut", "()I"⟩
abbrev cX0_goBack : ByteArray := prog_2_method_14_code
def yX0_goBack : MethodName := ⟨RX0, "goBack", "(I)I"⟩
abbrev cX0_strikeTents : ByteArray := prog_2_method_15_code
def yX0_strikeTents : MethodName := ⟨RX0, "strikeTents", "(I)I"⟩
abbrev cX0_clearFields : ByteArray := prog_2_method_16_code
def yX0_clearFields : MethodName := ⟨RX0, "clearFields", "(I)V"⟩
abbrev cX0_giveUpTooMuch : ByteArray := prog_2_method_17_code
def yX0_giveUpTooMuch : MethodName := ⟨RX0, "giveUpTooMuch", "()V"⟩
abbrev cX0_gaps : ByteArray := prog_2_method_18_code
def yX0_gaps : MethodName := ⟨RX0, "gaps", "()I"⟩
def RX1 : String := "TentCamp$Fields"
def TX1 : u_T := fun k => match k with
  | 0 => ("TentCamp$Fields", "count", "I", false)
  | 1 => ("TentCamp$Fields", "start", "LTentCamp$Row;", true)
  | 2 => ("TentCamp$Fields", "size", "LTentCamp$Row;", true)
  | 3 => ("TentCamp$Fields", "big", "LTentCamp$Row;", true)
  | _ => ("TentCamp$Fields", "end", "LTentCamp$Row;", true)
def tyX1 : Nat → FieldType := fun k => match k with
  | 0 => .int
  | 1 => .object "TentCamp$Row"
  | 2 => .object "TentCamp$Row"
  | 3 => .object "TentCamp$Row"
  | _ => .object "TentCamp$Row"
abbrev wsX10 : List Cond := u_ws RX1 TX1 5
theorem nmX1 : ∀ a, a < 5 → ∀ b, b < 5 → a ≠ b → (TX1 a).2.1 ≠ (TX1 b).2.1 := by decide +kernel
theorem tyX1_ok : ∀ k, k < 5 → parseFieldDescriptor (TX1 k).2.2.1 = some (tyX1 k) := by decide +kernel
abbrev cX1_init : ByteArray := prog_3_method_1_code
def yX1_init : MethodName := ⟨RX1, "<init>", "()V"⟩
abbrev cX1_has : ByteArray := prog_3_method_2_code
def yX1_has : MethodName := ⟨RX1, "has", "(I)Z"⟩
abbrev cX1_add : ByteArray := prog_3_method_3_code
def yX1_add : MethodName := ⟨RX1, "add", "(IIZI)V"⟩
abbrev cX1_remove : ByteArray := prog_3_method_4_code
def yX1_remove : MethodName := ⟨RX1, "remove", "(I)V"⟩
abbrev cX1_places : ByteArray := prog_3_method_5_code
def yX1_places : MethodName := ⟨RX1, "places", "()I"⟩
abbrev cX1_lastUsual : ByteArray := prog_3_method_6_code
def yX1_lastUsual : MethodName := ⟨RX1, "lastUsual", "()I"⟩
abbrev cX1_smallestFor : ByteArray := prog_3_method_7_code
def yX1_smallestFor : MethodName := ⟨RX1, "smallestFor", "(I)I"⟩
abbrev cX1_greatest : ByteArray := prog_3_method_8_code
def yX1_greatest : MethodName := ⟨RX1, "greatest", "()I"⟩
abbrev cX1_withRank : ByteArray := prog_3_method_9_code
def yX1_withRank : MethodName := ⟨RX1, "withRank", "(I)I"⟩
abbrev cX1_countAheadOf : ByteArray := prog_3_method_10_code
def yX1_countAheadOf : MethodName := ⟨RX1, "countAheadOf", "(I)I"⟩
abbrev cX1_closeUp : ByteArray := prog_3_method_11_code
def yX1_closeUp : MethodName := ⟨RX1, "closeUp", "(II)V"⟩
abbrev cX1_copy : ByteArray := prog_3_method_12_code
def yX1_copy : MethodName := ⟨RX1, "copy", "(LTentCamp$Fields;)V"⟩
def RX2 : String := "TentCamp$Frames"
def TX2 : u_T := fun k => match k with
  | 0 => ("TentCamp$Frames", "count", "I", false)
  | 1 => ("TentCamp$Frames", "tents", "LTentCamp$Row;", true)
  | _ => ("TentCamp$Frames", "fields", "LTentCamp$Row;", true)
def tyX2 : Nat → FieldType := fun k => match k with
  | 0 => .int
  | 1 => .object "TentCamp$Row"
  | _ => .object "TentCamp$Row"
abbrev wsX20 : List Cond := u_ws RX2 TX2 3
theorem nmX2 : ∀ a, a < 3 → ∀ b, b < 3 → a ≠ b → (TX2 a).2.1 ≠ (TX2 b).2.1 := by decide +kernel
theorem tyX2_ok : ∀ k, k < 3 → parseFieldDescriptor (TX2 k).2.2.1 = some (tyX2 k) := by decide +kernel
abbrev cX2_init : ByteArray := prog_4_method_1_code
def yX2_init : MethodName := ⟨RX2, "<init>", "()V"⟩
abbrev cX2_has : ByteArray := prog_4_method_2_code
def yX2_has : MethodName := ⟨RX2, "has", "(I)Z"⟩
abbrev cX2_lastAheadOf : ByteArray := prog_4_method_3_code
def yX2_lastAheadOf : MethodName := ⟨RX2, "lastAheadOf", "(I)I"⟩
abbrev cX2_copy : ByteArray := prog_4_method_4_code
def yX2_copy : MethodName := ⟨RX2, "copy", "(LTentCamp$Frames;)V"⟩
def RX3 : String := "TentCamp$History"
def TX3 : u_T := fun k => match k with
  | 0 => ("TentCamp$History", "count", "I", false)
  | 1 => ("TentCamp$History", "next", "I", false)
  | _ => ("TentCamp$History", "states", "LTentCamp$Shelf;", true)
def tyX3 : Nat → FieldType := fun k => match k with
  | 0 => .int
  | 1 => .int
  | _ => .object "TentCamp$Shelf"
abbrev wsX30 : List Cond := u_ws RX3 TX3 3
theorem nmX3 : ∀ a, a < 3 → ∀ b, b < 3 → a ≠ b → (TX3 a).2.1 ≠ (TX3 b).2.1 := by decide +kernel
theorem tyX3_ok : ∀ k, k < 3 → parseFieldDescriptor (TX3 k).2.2.1 = some (tyX3 k) := by decide +kernel
abbrev cX3_init : ByteArray := prog_5_method_1_code
def yX3_init : MethodName := ⟨RX3, "<init>", "()V"⟩
abbrev cX3_forgetAll : ByteArray := prog_5_method_2_code
def yX3_forgetAll : MethodName := ⟨RX3, "forgetAll", "()V"⟩
abbrev cX3_remember : ByteArray := prog_5_method_3_code
def yX3_remember : MethodName := ⟨RX3, "remember", "(LTentCamp$Camp;)V"⟩
abbrev cX3_takeBack : ByteArray := prog_5_method_4_code
def yX3_takeBack : MethodName := ⟨RX3, "takeBack", "(LTentCamp$Camp;)V"⟩
def RX4 : String := "TentCamp$Row"
def TX4 : u_T := fun k => match k with
  | _ => ("TentCamp$Row", "cells", "[I", true)
def tyX4 : Nat → FieldType := fun k => match k with
  | _ => .array .int
abbrev wsX40 : List Cond := u_ws RX4 TX4 1
theorem nmX4 : ∀ a, a < 1 → ∀ b, b < 1 → a ≠ b → (TX4 a).2.1 ≠ (TX4 b).2.1 := by decide +kernel
theorem tyX4_ok : ∀ k, k < 1 → parseFieldDescriptor (TX4 k).2.2.1 = some (tyX4 k) := by decide +kernel
abbrev cX4_init : ByteArray := prog_6_method_1_code
def yX4_init : MethodName := ⟨RX4, "<init>", "(I)V"⟩
abbrev cX4_get : ByteArray := prog_6_method_2_code
def yX4_get : MethodName := ⟨RX4, "get", "(I)I"⟩
abbrev cX4_put : ByteArray := prog_6_method_3_code
def yX4_put : MethodName := ⟨RX4, "put", "(II)V"⟩
abbrev cX4_strew : ByteArray := prog_6_method_4_code
def yX4_strew : MethodName := ⟨RX4, "strew", "(III)V"⟩
abbrev cX4_countOf : ByteArray := prog_6_method_5_code
def yX4_countOf : MethodName := ⟨RX4, "countOf", "(III)I"⟩
abbrev cX4_cut : ByteArray := prog_6_method_6_code
def yX4_cut : MethodName := ⟨RX4, "cut", "(II)V"⟩
abbrev cX4_copy : ByteArray := prog_6_method_7_code
def yX4_copy : MethodName := ⟨RX4, "copy", "(LTentCamp$Row;)V"⟩
def RX5 : String := "TentCamp$Shelf"
def TX5 : u_T := fun k => match k with
  | _ => ("TentCamp$Shelf", "camps", "[LTentCamp$Camp;", true)
def tyX5 : Nat → FieldType := fun k => match k with
  | _ => .array (.object "TentCamp$Camp")
abbrev wsX50 : List Cond := u_ws RX5 TX5 1
theorem nmX5 : ∀ a, a < 1 → ∀ b, b < 1 → a ≠ b → (TX5 a).2.1 ≠ (TX5 b).2.1 := by decide +kernel
theorem tyX5_ok : ∀ k, k < 1 → parseFieldDescriptor (TX5 k).2.2.1 = some (tyX5 k) := by decide +kernel
abbrev cX5_init : ByteArray := prog_7_method_1_code
def yX5_init : MethodName := ⟨RX5, "<init>", "(I)V"⟩
abbrev cX5_at : ByteArray := prog_7_method_2_code
def yX5_at : MethodName := ⟨RX5, "at", "(I)LTentCamp$Camp;"⟩
abbrev cX5_lay : ByteArray := prog_7_method_3_code
def yX5_lay : MethodName := ⟨RX5, "lay", "(ILTentCamp$Camp;)V"⟩
abbrev cX5_fetch : ByteArray := prog_7_method_4_code
def yX5_fetch : MethodName := ⟨RX5, "fetch", "(ILTentCamp$Camp;)V"⟩
def RX6 : String := "TentCamp$Tents"
def TX6 : u_T := fun k => match k with
  | 0 => ("TentCamp$Tents", "count", "I", false)
  | 1 => ("TentCamp$Tents", "field", "LTentCamp$Row;", true)
  | 2 => ("TentCamp$Tents", "first", "LTentCamp$Row;", true)
  | 3 => ("TentCamp$Tents", "size", "LTentCamp$Row;", true)
  | _ => ("TentCamp$Tents", "step", "LTentCamp$Row;", true)
def tyX6 : Nat → FieldType := fun k => match k with
  | 0 => .int
  | 1 => .object "TentCamp$Row"
  | 2 => .object "TentCamp$Row"
  | 3 => .object "TentCamp$Row"
  | _ => .object "TentCamp$Row"
abbrev wsX60 : List Cond := u_ws RX6 TX6 5
theorem nmX6 : ∀ a, a < 5 → ∀ b, b < 5 → a ≠ b → (TX6 a).2.1 ≠ (TX6 b).2.1 := by decide +kernel
theorem tyX6_ok : ∀ k, k < 5 → parseFieldDescriptor (TX6 k).2.2.1 = some (tyX6 k) := by decide +kernel
abbrev cX6_init : ByteArray := prog_8_method_1_code
def yX6_init : MethodName := ⟨RX6, "<init>", "()V"⟩
abbrev cX6_has : ByteArray := prog_8_method_2_code
def yX6_has : MethodName := ⟨RX6, "has", "(I)Z"⟩
abbrev cX6_end : ByteArray := prog_8_method_3_code
def yX6_end : MethodName := ⟨RX6, "end", "(I)I"⟩
abbrev cX6_placesFrom : ByteArray := prog_8_method_4_code
def yX6_placesFrom : MethodName := ⟨RX6, "placesFrom", "(I)I"⟩
abbrev cX6_countOn : ByteArray := prog_8_method_5_code
def yX6_countOn : MethodName := ⟨RX6, "countOn", "(I)I"⟩
abbrev cX6_copy : ByteArray := prog_8_method_6_code
def yX6_copy : MethodName := ⟨RX6, "copy", "(LTentCamp$Tents;)V"⟩
def RX7 : String := "TentCamp$Text"
def TX7 : u_T := fun k => match k with
  | 0 => ("TentCamp$Text", "length", "I", false)
  | 1 => ("TentCamp$Text", "signs", "LTentCamp$Row;", true)
  | 2 => ("TentCamp$Text", "at", "I", false)
  | 3 => ("TentCamp$Text", "wrong", "Z", false)
  | 4 => ("TentCamp$Text", "kind", "I", false)
  | 5 => ("TentCamp$Text", "first", "I", false)
  | _ => ("TentCamp$Text", "second", "I", false)
def tyX7 : Nat → FieldType := fun k => match k with
  | 0 => .int
  | 1 => .object "TentCamp$Row"
  | 2 => .int
  | 3 => .boolean
  | 4 => .int
  | 5 => .int
  | _ => .int
abbrev wsX70 : List Cond := u_ws RX7 TX7 7
theorem nmX7 : ∀ a, a < 7 → ∀ b, b < 7 → a ≠ b → (TX7 a).2.1 ≠ (TX7 b).2.1 := by decide +kernel
theorem tyX7_ok : ∀ k, k < 7 → parseFieldDescriptor (TX7 k).2.2.1 = some (tyX7 k) := by decide +kernel
abbrev cX7_init : ByteArray := prog_9_method_1_code
def yX7_init : MethodName := ⟨RX7, "<init>", "()V"⟩
abbrev cX7_add : ByteArray := prog_9_method_2_code
def yX7_add : MethodName := ⟨RX7, "add", "(I)V"⟩
abbrev cX7_faultPosition : ByteArray := prog_9_method_3_code
def yX7_faultPosition : MethodName := ⟨RX7, "faultPosition", "()I"⟩
abbrev cX7_goesOn : ByteArray := prog_9_method_4_code
def yX7_goesOn : MethodName := ⟨RX7, "goesOn", "()Z"⟩
abbrev cX7_readHead : ByteArray := prog_9_method_5_code
def yX7_readHead : MethodName := ⟨RX7, "readHead", "()V"⟩
abbrev cX7_readCommand : ByteArray := prog_9_method_6_code
def yX7_readCommand : MethodName := ⟨RX7, "readCommand", "()V"⟩
abbrev cX7_failAt : ByteArray := prog_9_method_7_code
def yX7_failAt : MethodName := ⟨RX7, "failAt", "(I)V"⟩
abbrev cX7_readLetter : ByteArray := prog_9_method_8_code
def yX7_readLetter : MethodName := ⟨RX7, "readLetter", "()I"⟩
abbrev cX7_digitHere : ByteArray := prog_9_method_9_code
def yX7_digitHere : MethodName := ⟨RX7, "digitHere", "()I"⟩
abbrev cX7_readNumber : ByteArray := prog_9_method_10_code
def yX7_readNumber : MethodName := ⟨RX7, "readNumber", "(III)I"⟩
abbrev cX7_readStep : ByteArray := prog_9_method_11_code
def yX7_readStep : MethodName := ⟨RX7, "readStep", "()I"⟩
def RX8 : String := "TentCamp"
def TX8 : u_T := fun k => match k with
  | 0 => ("TentCamp", "camp", "LTentCamp$Camp;", true)
  | 1 => ("TentCamp", "trial", "LTentCamp$Camp;", true)
  | 2 => ("TentCamp", "history", "LTentCamp$History;", true)
  | 3 => ("TentCamp", "text", "LTentCamp$Text;", true)
  | 4 => ("TentCamp", "slots", "LTentCamp$Shelf;", true)
  | _ => ("TentCamp", "slotFilled", "LTentCamp$Row;", true)
def tyX8 : Nat → FieldType := fun k => match k with
  | 0 => .object "TentCamp$Camp"
  | 1 => .object "TentCamp$Camp"
  | 2 => .object "TentCamp$History"
  | 3 => .object "TentCamp$Text"
  | 4 => .object "TentCamp$Shelf"
  | _ => .object "TentCamp$Row"
abbrev wsX80 : List Cond := u_ws RX8 TX8 6
theorem nmX8 : ∀ a, a < 6 → ∀ b, b < 6 → a ≠ b → (TX8 a).2.1 ≠ (TX8 b).2.1 := by decide +kernel
theorem tyX8_ok : ∀ k, k < 6 → parseFieldDescriptor (TX8 k).2.2.1 = some (tyX8 k) := by decide +kernel
abbrev cX8_init : ByteArray := prog_1_method_1_code
def yX8_init : MethodName := ⟨RX8, "<init>", "()V"⟩
abbrev cX8_append : ByteArray := prog_1_method_2_code
def yX8_append : MethodName := ⟨RX8, "append", "(I)I"⟩
abbrev cX8_clearText : ByteArray := prog_1_method_3_code
def yX8_clearText : MethodName := ⟨RX8, "clearText", "()I"⟩
abbrev cX8_errorPosition : ByteArray := prog_1_method_4_code
def yX8_errorPosition : MethodName := ⟨RX8, "errorPosition", "()I"⟩
abbrev cX8_load : ByteArray := prog_1_method_5_code
def yX8_load : MethodName := ⟨RX8, "load", "()I"⟩
abbrev cX8_about : ByteArray := prog_1_method_6_code
def yX8_about : MethodName := ⟨RX8, "about", "(I)I"⟩
abbrev cX8_tent : ByteArray := prog_1_method_7_code
def yX8_tent : MethodName := ⟨RX8, "tent", "(II)I"⟩
abbrev cX8_field : ByteArray := prog_1_method_8_code
def yX8_field : MethodName := ⟨RX8, "field", "(II)I"⟩
abbrev cX8_place : ByteArray := prog_1_method_9_code
def yX8_place : MethodName := ⟨RX8, "place", "(II)I"⟩
abbrev cX8_spare : ByteArray := prog_1_method_10_code
def yX8_spare : MethodName := ⟨RX8, "spare", "(I)I"⟩
abbrev cX8_frame : ByteArray := prog_1_method_11_code
def yX8_frame : MethodName := ⟨RX8, "frame", "(II)I"⟩
abbrev cX8_pitch : ByteArray := prog_1_method_12_code
def yX8_pitch : MethodName := ⟨RX8, "pitch", "(II)I"⟩
abbrev cX8_fill : ByteArray := prog_1_method_13_code
def yX8_fill : MethodName := ⟨RX8, "fill", "(II)I"⟩
abbrev cX8_enter : ByteArray := prog_1_method_14_code
def yX8_enter : MethodName := ⟨RX8, "enter", "()I"⟩
abbrev cX8_leave : ByteArray := prog_1_method_15_code
def yX8_leave : MethodName := ⟨RX8, "leave", "()I"⟩
abbrev cX8_jump : ByteArray := prog_1_method_16_code
def yX8_jump : MethodName := ⟨RX8, "jump", "(I)I"⟩
abbrev cX8_set : ByteArray := prog_1_method_17_code
def yX8_set : MethodName := ⟨RX8, "set", "(II)I"⟩
abbrev cX8_undo : ByteArray := prog_1_method_18_code
def yX8_undo : MethodName := ⟨RX8, "undo", "()I"⟩
abbrev cX8_where : ByteArray := prog_1_method_19_code
def yX8_where : MethodName := ⟨RX8, "where", "(II)I"⟩
abbrev cX8_givenUp : ByteArray := prog_1_method_20_code
def yX8_givenUp : MethodName := ⟨RX8, "givenUp", "(I)I"⟩
abbrev cX8_bestSize : ByteArray := prog_1_method_21_code
def yX8_bestSize : MethodName := ⟨RX8, "bestSize", "()I"⟩
abbrev cX8_more : ByteArray := prog_1_method_22_code
def yX8_more : MethodName := ⟨RX8, "more", "(II)I"⟩
abbrev cX8_runScript : ByteArray := prog_1_method_23_code
def yX8_runScript : MethodName := ⟨RX8, "runScript", "(IJ)I"⟩
abbrev cX8_simulate : ByteArray := prog_1_method_24_code
def yX8_simulate : MethodName := ⟨RX8, "simulate", "(JI)I"⟩
abbrev cX8_save : ByteArray := prog_1_method_25_code
def yX8_save : MethodName := ⟨RX8, "save", "(I)I"⟩
abbrev cX8_restore : ByteArray := prog_1_method_26_code
def yX8_restore : MethodName := ⟨RX8, "restore", "(I)I"⟩
abbrev cX8_isStep : ByteArray := prog_1_method_27_code
def yX8_isStep : MethodName := ⟨RX8, "isStep", "(I)Z"⟩
abbrev cX8_isTentKind : ByteArray := prog_1_method_28_code
def yX8_isTentKind : MethodName := ⟨RX8, "isTentKind", "(II)Z"⟩
abbrev cX8_isSetting : ByteArray := prog_1_method_29_code
def yX8_isSetting : MethodName := ⟨RX8, "isSetting", "(II)Z"⟩
abbrev cX8_carryOut : ByteArray := prog_1_method_30_code
def yX8_carryOut : MethodName := ⟨RX8, "carryOut", "(LTentCamp$Camp;LTentCamp$Text;)Z"⟩
abbrev cX8_succeeds : ByteArray := prog_1_method_31_code
def yX8_succeeds : MethodName := ⟨RX8, "succeeds", "(LTentCamp$Camp;I)Z"⟩
abbrev cX8_stepOnce : ByteArray := prog_1_method_32_code
def yX8_stepOnce : MethodName := ⟨RX8, "stepOnce", "(LTentCamp$Camp;I)V"⟩
def RX9 : String := "TentCampModel"
def TX9 : u_T := fun k => match k with
  | 0 => ("TentCampModel", "refusal", "I", false)
  | 1 => ("TentCampModel", "script", "[I", true)
  | 2 => ("TentCampModel", "scriptSize", "I", false)
  | 3 => ("TentCampModel", "spot", "I", false)
  | 4 => ("TentCampModel", "isGood", "Z", false)
  | 5 => ("TentCampModel", "leftOut", "I", false)
  | 6 => ("TentCampModel", "read", "[I", true)
  | 7 => ("TentCampModel", "now", "[I", true)
  | 8 => ("TentCampModel", "trial", "[I", true)
  | 9 => ("TentCampModel", "diary", "[I", true)
  | 10 => ("TentCampModel", "acts", "I", false)
  | 11 => ("TentCampModel", "kept", "[I", true)
  | _ => ("TentCampModel", "isKept", "[Z", true)
def tyX9 : Nat → FieldType := fun k => match k with
  | 0 => .int
  | 1 => .array .int
  | 2 => .int
  | 3 => .int
  | 4 => .boolean
  | 5 => .int
  | 6 => .array .int
  | 7 => .array .int
  | 8 => .array .int
  | 9 => .array .int
  | 10 => .int
  | 11 => .array .int
  | _ => .array .boolean
abbrev wsX90 : List Cond := u_ws RX9 TX9 13
theorem nmX9 : ∀ a, a < 13 → ∀ b, b < 13 → a ≠ b → (TX9 a).2.1 ≠ (TX9 b).2.1 := by decide +kernel
theorem tyX9_ok : ∀ k, k < 13 → parseFieldDescriptor (TX9 k).2.2.1 = some (tyX9 k) := by decide +kernel
abbrev cX9_init : ByteArray := prog_11_method_1_code
def yX9_init : MethodName := ⟨RX9, "<init>", "()V"⟩
abbrev cX9_thrown : ByteArray := prog_11_method_2_code
def yX9_thrown : MethodName := ⟨RX9, "thrown", "()I"⟩
abbrev cX9_refused : ByteArray := prog_11_method_3_code
def yX9_refused : MethodName := ⟨RX9, "refused", "(I)Z"⟩
abbrev cX9_in : ByteArray := prog_11_method_4_code
def yX9_in : MethodName := ⟨RX9, "in", "(JJJ)Z"⟩
abbrev cX9_copy : ByteArray := prog_11_method_5_code
def yX9_copy : MethodName := ⟨RX9, "copy", "([II[III)V"⟩
abbrev cX9_tenTo : ByteArray := prog_11_method_6_code
def yX9_tenTo : MethodName := ⟨RX9, "tenTo", "(I)J"⟩
abbrev cX9_clean : ByteArray := prog_11_method_7_code
def yX9_clean : MethodName := ⟨RX9, "clean", "([III)V"⟩
abbrev cX9_remember : ByteArray := prog_11_method_8_code
def yX9_remember : MethodName := ⟨RX9, "remember", "()V"⟩
abbrev cX9_begin : ByteArray := prog_11_method_9_code
def yX9_begin : MethodName := ⟨RX9, "begin", "()V"⟩
abbrev cX9_tentAt : ByteArray := prog_11_method_10_code
def yX9_tentAt : MethodName := ⟨RX9, "tentAt", "(II)I"⟩
abbrev cX9_fieldAt : ByteArray := prog_11_method_11_code
def yX9_fieldAt : MethodName := ⟨RX9, "fieldAt", "(II)I"⟩
abbrev cX9_spareAt : ByteArray := prog_11_method_12_code
def yX9_spareAt : MethodName := ⟨RX9, "spareAt", "(II)I"⟩
abbrev cX9_frameAt : ByteArray := prog_11_method_13_code
def yX9_frameAt : MethodName := ⟨RX9, "frameAt", "(II)I"⟩
abbrev cX9_tentPlaces : ByteArray := prog_11_method_14_code
def yX9_tentPlaces : MethodName := ⟨RX9, "tentPlaces", "([II)I"⟩
abbrev cX9_usedPlaces : ByteArray := prog_11_method_15_code
def yX9_usedPlaces : MethodName := ⟨RX9, "usedPlaces", "([I)I"⟩
abbrev cX9_sparePlaces : ByteArray := prog_11_method_16_code
def yX9_sparePlaces : MethodName := ⟨RX9, "sparePlaces", "([I)I"⟩
abbrev cX9_allPlaces : ByteArray := prog_11_method_17_code
def yX9_allPlaces : MethodName := ⟨RX9, "allPlaces", "([I)I"⟩
abbrev cX9_lastUsual : ByteArray := prog_11_method_18_code
def yX9_lastUsual : MethodName := ⟨RX9, "lastUsual", "([I)I"⟩
abbrev cX9_roomOn : ByteArray := prog_11_method_19_code
def yX9_roomOn : MethodName := ⟨RX9, "roomOn", "([III)I"⟩
abbrev cX9_spareFor : ByteArray := prog_11_method_20_code
def yX9_spareFor : MethodName := ⟨RX9, "spareFor", "([II)I"⟩
abbrev cX9_isBig : ByteArray := prog_11_method_21_code
def yX9_isBig : MethodName := ⟨RX9, "isBig", "([II)Z"⟩
abbrev cX9_whereIn : ByteArray := prog_11_method_22_code
def yX9_whereIn : MethodName := ⟨RX9, "whereIn", "([III)I"⟩
abbrev cX9_takeSpare : ByteArray := prog_11_method_23_code
def yX9_takeSpare : MethodName := ⟨RX9, "takeSpare", "([II)V"⟩
abbrev cX9_makeField : ByteArray := prog_11_method_24_code
def yX9_makeField : MethodName := ⟨RX9, "makeField", "([II)V"⟩
abbrev cX9_pitchOn : ByteArray := prog_11_method_25_code
def yX9_pitchOn : MethodName := ⟨RX9, "pitchOn", "([III)I"⟩
abbrev cX9_canPitch : ByteArray := prog_11_method_26_code
def yX9_canPitch : MethodName := ⟨RX9, "canPitch", "([III)Z"⟩
abbrev cX9_pitchIn : ByteArray := prog_11_method_27_code
def yX9_pitchIn : MethodName := ⟨RX9, "pitchIn", "([III)I"⟩
abbrev cX9_giveUp : ByteArray := prog_11_method_28_code
def yX9_giveUp : MethodName := ⟨RX9, "giveUp", "([II)V"⟩
abbrev cX9_greatestSpare : ByteArray := prog_11_method_29_code
def yX9_greatestSpare : MethodName := ⟨RX9, "greatestSpare", "([I)I"⟩
abbrev cX9_strike : ByteArray := prog_11_method_30_code
def yX9_strike : MethodName := ⟨RX9, "strike", "([I)V"⟩
abbrev cX9_layEnds : ByteArray := prog_11_method_31_code
def yX9_layEnds : MethodName := ⟨RX9, "layEnds", "([I)V"⟩
abbrev cX9_strikeBehind : ByteArray := prog_11_method_32_code
def yX9_strikeBehind : MethodName := ⟨RX9, "strikeBehind", "([II)I"⟩
abbrev cX9_enterIn : ByteArray := prog_11_method_33_code
def yX9_enterIn : MethodName := ⟨RX9, "enterIn", "([I)V"⟩
abbrev cX9_leaveIn : ByteArray := prog_11_method_34_code
def yX9_leaveIn : MethodName := ⟨RX9, "leaveIn", "([I)I"⟩
abbrev cX9_jumpIn : ByteArray := prog_11_method_35_code
def yX9_jumpIn : MethodName := ⟨RX9, "jumpIn", "([II)I"⟩
abbrev cX9_fillIn : ByteArray := prog_11_method_36_code
def yX9_fillIn : MethodName := ⟨RX9, "fillIn", "([III)I"⟩
abbrev cX9_append : ByteArray := prog_11_method_37_code
def yX9_append : MethodName := ⟨RX9, "append", "(I)I"⟩
abbrev cX9_clearText : ByteArray := prog_11_method_38_code
def yX9_clearText : MethodName := ⟨RX9, "clearText", "()I"⟩
abbrev cX9_isNext : ByteArray := prog_11_method_39_code
def yX9_isNext : MethodName := ⟨RX9, "isNext", "(I)Z"⟩
abbrev cX9_accept : ByteArray := prog_11_method_40_code
def yX9_accept : MethodName := ⟨RX9, "accept", "(Z)V"⟩
abbrev cX9_digit : ByteArray := prog_11_method_41_code
def yX9_digit : MethodName := ⟨RX9, "digit", "(II)I"⟩
abbrev cX9_two : ByteArray := prog_11_method_42_code
def yX9_two : MethodName := ⟨RX9, "two", "(II)I"⟩
abbrev cX9_stepRead : ByteArray := prog_11_method_43_code
def yX9_stepRead : MethodName := ⟨RX9, "stepRead", "()I"⟩
abbrev cX9_readPitch : ByteArray := prog_11_method_44_code
def yX9_readPitch : MethodName := ⟨RX9, "readPitch", "()V"⟩
abbrev cX9_readFill : ByteArray := prog_11_method_45_code
def yX9_readFill : MethodName := ⟨RX9, "readFill", "()V"⟩
abbrev cX9_readFrame : ByteArray := prog_11_method_46_code
def yX9_readFrame : MethodName := ⟨RX9, "readFrame", "(ZZ)V"⟩
abbrev cX9_readCommand : ByteArray := prog_11_method_47_code
def yX9_readCommand : MethodName := ⟨RX9, "readCommand", "()V"⟩
abbrev cX9_readText : ByteArray := prog_11_method_48_code
def yX9_readText : MethodName := ⟨RX9, "readText", "()I"⟩
abbrev cX9_errorPosition : ByteArray := prog_11_method_49_code
def yX9_errorPosition : MethodName := ⟨RX9, "errorPosition", "()I"⟩
abbrev cX9_load : ByteArray := prog_11_method_50_code
def yX9_load : MethodName := ⟨RX9, "load", "()I"⟩
abbrev cX9_onField : ByteArray := prog_11_method_51_code
def yX9_onField : MethodName := ⟨RX9, "onField", "([II)I"⟩
abbrev cX9_gaps : ByteArray := prog_11_method_52_code
def yX9_gaps : MethodName := ⟨RX9, "gaps", "([I)I"⟩
abbrev cX9_about : ByteArray := prog_11_method_53_code
def yX9_about : MethodName := ⟨RX9, "about", "(I)I"⟩
abbrev cX9_frameOf : ByteArray := prog_11_method_54_code
def yX9_frameOf : MethodName := ⟨RX9, "frameOf", "(I)I"⟩
abbrev cX9_isTent : ByteArray := prog_11_method_55_code
def yX9_isTent : MethodName := ⟨RX9, "isTent", "(I)Z"⟩
abbrev cX9_tent : ByteArray := prog_11_method_56_code
def yX9_tent : MethodName := ⟨RX9, "tent", "(II)I"⟩
abbrev cX9_isField : ByteArray := prog_11_method_57_code
def yX9_isField : MethodName := ⟨RX9, "isField", "(I)Z"⟩
abbrev cX9_tentsOn : ByteArray := prog_11_method_58_code
def yX9_tentsOn : MethodName := ⟨RX9, "tentsOn", "(I)I"⟩
abbrev cX9_poisonOn : ByteArray := prog_11_method_59_code
def yX9_poisonOn : MethodName := ⟨RX9, "poisonOn", "(I)I"⟩
abbrev cX9_field : ByteArray := prog_11_method_60_code
def yX9_field : MethodName := ⟨RX9, "field", "(II)I"⟩
abbrev cX9_place : ByteArray := prog_11_method_61_code
def yX9_place : MethodName := ⟨RX9, "place", "(II)I"⟩
abbrev cX9_spare : ByteArray := prog_11_method_62_code
def yX9_spare : MethodName := ⟨RX9, "spare", "(I)I"⟩
abbrev cX9_isFrame : ByteArray := prog_11_method_63_code
def yX9_isFrame : MethodName := ⟨RX9, "isFrame", "(I)Z"⟩
abbrev cX9_frame : ByteArray := prog_11_method_64_code
def yX9_frame : MethodName := ⟨RX9, "frame", "(II)I"⟩
abbrev cX9_isStep : ByteArray := prog_11_method_65_code
def yX9_isStep : MethodName := ⟨RX9, "isStep", "(I)Z"⟩
abbrev cX9_isTentSize : ByteArray := prog_11_method_66_code
def yX9_isTentSize : MethodName := ⟨RX9, "isTentSize", "(I)Z"⟩
abbrev cX9_pitch : ByteArray := prog_11_method_67_code
def yX9_pitch : MethodName := ⟨RX9, "pitch", "(II)I"⟩
abbrev cX9_fill : ByteArray := prog_11_method_68_code
def yX9_fill : MethodName := ⟨RX9, "fill", "(II)I"⟩
abbrev cX9_enter : ByteArray := prog_11_method_69_code
def yX9_enter : MethodName := ⟨RX9, "enter", "()I"⟩
abbrev cX9_leave : ByteArray := prog_11_method_70_code
def yX9_leave : MethodName := ⟨RX9, "leave", "()I"⟩
abbrev cX9_jump : ByteArray := prog_11_method_71_code
def yX9_jump : MethodName := ⟨RX9, "jump", "(I)I"⟩
abbrev cX9_set : ByteArray := prog_11_method_72_code
def yX9_set : MethodName := ⟨RX9, "set", "(II)I"⟩
abbrev cX9_undo : ByteArray := prog_11_method_73_code
def yX9_undo : MethodName := ⟨RX9, "undo", "()I"⟩
abbrev cX9_where : ByteArray := prog_11_method_74_code
def yX9_where : MethodName := ⟨RX9, "where", "(II)I"⟩
abbrev cX9_givenUp : ByteArray := prog_11_method_75_code
def yX9_givenUp : MethodName := ⟨RX9, "givenUp", "(I)I"⟩
abbrev cX9_needs : ByteArray := prog_11_method_76_code
def yX9_needs : MethodName := ⟨RX9, "needs", "(I)I"⟩
abbrev cX9_bestSize : ByteArray := prog_11_method_77_code
def yX9_bestSize : MethodName := ⟨RX9, "bestSize", "()I"⟩
abbrev cX9_more : ByteArray := prog_11_method_78_code
def yX9_more : MethodName := ⟨RX9, "more", "(II)I"⟩
abbrev cX9_pitches : ByteArray := prog_11_method_79_code
def yX9_pitches : MethodName := ⟨RX9, "pitches", "(II)Z"⟩
abbrev cX9_enters : ByteArray := prog_11_method_80_code
def yX9_enters : MethodName := ⟨RX9, "enters", "()Z"⟩
abbrev cX9_leaves : ByteArray := prog_11_method_81_code
def yX9_leaves : MethodName := ⟨RX9, "leaves", "()Z"⟩
abbrev cX9_jumps : ByteArray := prog_11_method_82_code
def yX9_jumps : MethodName := ⟨RX9, "jumps", "(I)Z"⟩
abbrev cX9_does : ByteArray := prog_11_method_83_code
def yX9_does : MethodName := ⟨RX9, "does", "(I)Z"⟩
abbrev cX9_runScript : ByteArray := prog_11_method_84_code
def yX9_runScript : MethodName := ⟨RX9, "runScript", "(IJ)I"⟩
abbrev cX9_stir : ByteArray := prog_11_method_85_code
def yX9_stir : MethodName := ⟨RX9, "stir", "(I)V"⟩
abbrev cX9_simulate : ByteArray := prog_11_method_86_code
def yX9_simulate : MethodName := ⟨RX9, "simulate", "(JI)I"⟩
abbrev cX9_save : ByteArray := prog_11_method_87_code
def yX9_save : MethodName := ⟨RX9, "save", "(I)I"⟩
abbrev cX9_restore : ByteArray := prog_11_method_88_code
def yX9_restore : MethodName := ⟨RX9, "restore", "(I)I"⟩
def RJ9 : String := "java/lang/Math"
def TJ9 : u_T := fun k => match k with
  | _ => ("", "", "", false)
def tyJ9 : Nat → FieldType := fun k => match k with
  | _ => .int
abbrev wsJ90 : List Cond := u_ws RJ9 TJ9 0
theorem nmJ9 : ∀ a, a < 0 → ∀ b, b < 0 → a ≠ b → (TJ9 a).2.1 ≠ (TJ9 b).2.1 := by decide +kernel
theorem tyJ9_ok : ∀ k, k < 0 → parseFieldDescriptor (TJ9 k).2.2.1 = some (tyJ9 k) := by decide +kernel
abbrev cJ9_max_7cf53 : ByteArray := prog_16_method_65_code
def yJ9_max_7cf53 : MethodName := ⟨RJ9, "max", "(II)I"⟩
abbrev cJ9_max_f86c9 : ByteArray := prog_16_method_66_code
def yJ9_max_f86c9 : MethodName := ⟨RJ9, "max", "(JJ)J"⟩
abbrev cJ9_min_7cf53 : ByteArray := prog_16_method_69_code
def yJ9_min_7cf53 : MethodName := ⟨RJ9, "min", "(II)I"⟩
def RJ0 : String := "java/lang/String"
def TJ0 : u_T := fun k => match k with
  | _ => ("", "", "", false)
def tyJ0 : Nat → FieldType := fun k => match k with
  | _ => .int
abbrev wsJ00 : List Cond := u_ws RJ0 TJ0 0
theorem nmJ0 : ∀ a, a < 0 → ∀ b, b < 0 → a ≠ b → (TJ0 a).2.1 ≠ (TJ0 b).2.1 := by decide +kernel
theorem tyJ0_ok : ∀ k, k < 0 → parseFieldDescriptor (TJ0 k).2.2.1 = some (tyJ0 k) := by decide +kernel
def RJ10 : String := "java/lang/System"
def TJ10 : u_T := fun k => match k with
  | _ => ("", "", "", false)
def tyJ10 : Nat → FieldType := fun k => match k with
  | _ => .int
abbrev wsJ100 : List Cond := u_ws RJ10 TJ10 0
theorem nmJ10 : ∀ a, a < 0 → ∀ b, b < 0 → a ≠ b → (TJ10 a).2.1 ≠ (TJ10 b).2.1 := by decide +kernel
theorem tyJ10_ok : ∀ k, k < 0 → parseFieldDescriptor (TJ10 k).2.2.1 = some (tyJ10 k) := by decide +kernel
def RL : String := "TentCampLaw"
abbrev cL_append : ByteArray := method_3_code
def yL_append : MethodName := ⟨RL, "append", "(LTentCamp;I[J)I"⟩
abbrev cL_load : ByteArray := method_4_code
def yL_load : MethodName := ⟨RL, "load", "(LTentCamp;[J)I"⟩
abbrev cL_about : ByteArray := method_5_code
def yL_about : MethodName := ⟨RL, "about", "(LTentCamp;I[J)I"⟩
abbrev cL_tent : ByteArray := method_6_code
def yL_tent : MethodName := ⟨RL, "tent", "(LTentCamp;II[J)I"⟩
abbrev cL_field : ByteArray := method_7_code
def yL_field : MethodName := ⟨RL, "field", "(LTentCamp;II[J)I"⟩
abbrev cL_place : ByteArray := method_8_code
def yL_place : MethodName := ⟨RL, "place", "(LTentCamp;II[J)I"⟩
abbrev cL_spare : ByteArray := method_9_code
def yL_spare : MethodName := ⟨RL, "spare", "(LTentCamp;I[J)I"⟩
abbrev cL_frame : ByteArray := method_10_code
def yL_frame : MethodName := ⟨RL, "frame", "(LTentCamp;II[J)I"⟩
abbrev cL_pitch : ByteArray := method_11_code
def yL_pitch : MethodName := ⟨RL, "pitch", "(LTentCamp;II[J)I"⟩
abbrev cL_fill : ByteArray := method_12_code
def yL_fill : MethodName := ⟨RL, "fill", "(LTentCamp;II[J)I"⟩
abbrev cL_enter : ByteArray := method_13_code
def yL_enter : MethodName := ⟨RL, "enter", "(LTentCamp;[J)I"⟩
abbrev cL_leave : ByteArray := method_14_code
def yL_leave : MethodName := ⟨RL, "leave", "(LTentCamp;[J)I"⟩
abbrev cL_jump : ByteArray := method_15_code
def yL_jump : MethodName := ⟨RL, "jump", "(LTentCamp;I[J)I"⟩
abbrev cL_set : ByteArray := method_16_code
def yL_set : MethodName := ⟨RL, "set", "(LTentCamp;II[J)I"⟩
abbrev cL_undo : ByteArray := method_17_code
def yL_undo : MethodName := ⟨RL, "undo", "(LTentCamp;[J)I"⟩
abbrev cL_where : ByteArray := method_18_code
def yL_where : MethodName := ⟨RL, "where", "(LTentCamp;II[J)I"⟩
abbrev cL_givenUp : ByteArray := method_19_code
def yL_givenUp : MethodName := ⟨RL, "givenUp", "(LTentCamp;I[J)I"⟩
abbrev cL_more : ByteArray := method_20_code
def yL_more : MethodName := ⟨RL, "more", "(LTentCamp;II[J)I"⟩
abbrev cL_runScript : ByteArray := method_21_code
def yL_runScript : MethodName := ⟨RL, "runScript", "(LTentCamp;IJ[J)I"⟩
abbrev cL_simulate : ByteArray := method_22_code
def yL_simulate : MethodName := ⟨RL, "simulate", "(LTentCamp;JI[J)I"⟩
abbrev cL_save : ByteArray := method_23_code
def yL_save : MethodName := ⟨RL, "save", "(LTentCamp;I[J)I"⟩
abbrev cL_restore : ByteArray := method_24_code
def yL_restore : MethodName := ⟨RL, "restore", "(LTentCamp;I[J)I"⟩
abbrev cL_law : ByteArray := code
def yL_law : MethodName := ⟨RL, "law", "([I)Z"⟩
end
section
/-! THE CORE: a picture of the machine small enough to reason in. An abstract cell is its kind and its contents; an abstract address a stands for the real one ad E a: 0 is the script's, the others lie one behind the other from the start's heap on. AW: from here (a method's pc, locals, stack, heap) the method comes to an end with Q. -/
abbrev AC : Type := Nat × List Value
abbrev AH : Type := List AC
abbrev AR : Type := Option Value ⊕ Nat
/-- a method: its name, bytes, locals, answer's type, table of handlers, and whether it has one -/
abbrev AM : Type := MethodName × ByteArray × Nat × Option FieldType × List (Nat × Nat × Nat × Nat) × Bool
/-- a run: the script's address, the start's heap, the script, the classes' ids and slots, the arrays' class ids -/
abbrev AE : Type := Nat × Heap × List Int32 × (Nat → ClassId) × (Nat → Nat → Nat) × (Nat → ClassId)
abbrev vU : Value := .float 0
abbrev kls : List vw_C := [(RX0, TX0, 12), (RX1, TX1, 5), (RX2, TX2, 3), (RX3, TX3, 3), (RX4, TX4, 1), (RX5, TX5, 1), (RX6, TX6, 5), (RX7, TX7, 7), (RX8, TX8, 6), (RX9, TX9, 13)]
def gtbl : List Cond := lw_tbl.filter goodWord
theorem in_g {w : Cond} (i : Nat) (h : lw_tbl[i]? = some w) (g : goodWord w = true) : w ∈ gtbl := List.mem_filter.mpr ⟨List.mem_of_getElem? h, g⟩
def isNest : Cond → Bool
  | .fieldLinkNest .. => true
  | .methodLinkNest .. => true
  | .declares _ => true
  | .castable .. => true
  | _ => false
def cwd (m : AM) : Cond := match m.2.2.2.2.2 with
  | true => .codeWith m.1 m.2.1 m.2.2.1 m.2.2.2.1 m.2.2.2.2.1
  | false => .code m.1 m.2.1 m.2.2.1 m.2.2.2.1
def awsM (m : AM) : List Cond := cwd m :: gtbl
def bs (E : AE) : Nat := E.2.1.size
def ad (E : AE) : Nat → Nat
  | 0 => E.1
  | a + 1 => E.2.1.size + a
def rv (E : AE) : Value → Value
  | .ref a => .ref (ad E a)
  | .int x => .int x
  | .long x => .long x
  | .float x => .float x
  | .double x => .double x
  | .retAddr x => .retAddr x
  | .null => .null
def dG (E : AE) : va_G := (E.2.2.2.1, E.2.2.2.2.1)
def dA (E : AE) : Nat → ClassId := E.2.2.2.2.2
/-- kinds 10 to 13 are arrays -/
def aty : Nat → FieldType
  | 10 => .int
  | 11 => .long
  | 12 => .boolean
  | _ => .object RX0
def atys (E : AE) : List (ClassId × FieldType) := [(dA E 10, .int), (dA E 11, .long), (dA E 12, .boolean), (dA E 13, .object RX0)]
def vF (E : AE) (L : List Value) : Nat → Value := fun j => rv E (L.getD j .null)
def cOK (E : AE) (a : Nat) (c : AC) (H : Heap) : Prop :=
  (c.1 < 10 → ∃ q : vw_C, kls[c.1]? = some q ∧ c.2.length = q.2.2 ∧ t_OB (ad E a) ((dG E).1 c.1) q.2.2 ((dG E).2 c.1) H (vF E c.2)) ∧
  (10 ≤ c.1 → c.1 < 14 → H[ad E a]? = some (arrV (dA E c.1) c.2.length (vF E c.2))) ∧
  (c.1 = 14 → a = 0 ∧ c.2 = E.2.2.1.map Value.int)
/-- the heap is the picture's: nothing that was there before is changed, nothing else has come -/
def Rel (E : AE) (h : AH) (H : Heap) : Prop :=
  H.size + 1 = bs E + h.length ∧ (∀ q, q < bs E → H[q]? = E.2.1[q]?) ∧ (∀ c, h[0]? = some c → 14 ≤ c.1) ∧ ∀ a c, h[a]? = some c → cOK E a c H
def exn : Nat → String
  | 0 => "java/lang/IllegalArgumentException"
  | 1 => "java/lang/IllegalStateException"
  | _ => "java/lang/IndexOutOfBoundsException"
/-- what the tables say beside the good words -/
def KS (E : AE) (U : State) : Prop :=
  va_K (dG E) kls (atys E) U ∧ (∀ w ∈ lw_tbl, isNest w = true → va_Nw w U) ∧
  (∀ own k tx, Cond.stringRef own k tx ∈ lw_tbl → ∃ a, vk_R own k tx a U) ∧
  vx_Zq Bundle.tN "UNASSIGNED_STACK" Bundle.steD (fun q => bs E ≤ q) U E.2.1 ∧ vx_Zq Bundle.tN "SUPPRESSED_SENTINEL" Bundle.listD (fun q => bs E ≤ q) U E.2.1 ∧
  (∀ x, x < 3 → va_Nw (.castable (exn x) (exn x)) U) ∧ (∀ x y, x < 3 → y < 3 → x ≠ y → va_Nc (exn x) (exn y) U) ∧
  va_X E.1 E.2.2.1.length (fun j => E.2.2.1.getD j 0) U E.2.1 ∧ E.1 < bs E ∧ va_AO RX0 U
theorem KS.warm {E : AE} {s U : State} (hW : s.WarmedH U.vm) (h : KS E s) : KS E U := by
  obtain ⟨h1, h2, h3, h4, h5, h6, h7, h8, h9, h10⟩ := h
  refine ⟨va_K.moved hW.alike h1, fun w hw hn => ?_, fun own k tx hw => ?_, h4.moved hW.alike, h5.moved hW.alike, fun x hx => (h6 x hx).warmC hW, fun x y hx hy hn => (h7 x y hx hy hn).moved hW.alike, h8.moved hW.alike, h9, h10.moved hW.alike⟩
  · have h0 := h2 w hw hn
    cases w <;> simp [isNest] at hn
    all_goals first | exact va_Nw.warmM hW h0 | exact va_Nw.warmF hW h0 | exact va_Nw.warmD hW h0 | exact va_Nw.warmC hW h0
  · obtain ⟨a, ha⟩ := h3 own k tx hw
    exact ⟨a, ha.warm hW⟩
/-- the frame of a method -/
def Fr (E : AE) (m : AM) (d : Nat) (p : Program) (l : Launch) (R : Room) (s : State) (mi : MethodId) (args : Array Value) (meth : Method) (c : Code) : Prop :=
  p.tables.exec = Jvm.exec ∧ c.code = m.2.1 ∧ c.maxLocals = m.2.2.1 ∧ meth.sig.returnType = m.2.2.2.1 ∧ s.vm.findClass m.1.cls = some mi.cls ∧ (∀ w ∈ gtbl, w.before args s = true) ∧ KS E s ∧
  (∀ q, q < bs E → s.heap[q]? = E.2.1[q]?) ∧ bs E ≤ s.heap.size ∧ d ≤ R.frames ∧ 37 * d ≤ R.locals ∧ meth.locks = false ∧ (m.1.name = "<init>" → meth.name = "<init>") ∧ (m.1.name = "law" ∨ c.exceptionTable.toList = tableOf m.2.2.2.2.1) ∧ l.stackTraces = false
def LOK (E : AE) (n : Nat) (ls : List Value) (lr : Array Slot) : Prop := ls.length = n ∧ lr.size = n ∧ lv_wf lr ∧ ∀ (i : Nat) (v : Value), ls[i]? = some v → v ≠ vU → lr[i]? = some (Slot.val (rv E v))
def HOK (E : AE) (s : State) (h : AH) (H : Heap) (locs : List Loc) : Prop := Rel E h H ∧ s.heap.size ≤ H.size ∧ ∀ z ∈ locs, bs E ≤ z.base
/-- how a method gives back its answer -/
def retI (ret : Option FieldType) (r : Option Value) (i : Instr) : Prop :=
  (ret = none ∧ r = none ∧ i = .return_) ∨ (∃ (x : Int32) (ty : FieldType), ret = some ty ∧ narrow ty (.int x) = .int x ∧ r = some (.int x) ∧ i = .ireturn) ∨
  (∃ x : Int64, ret = some .long ∧ r = some (.long x) ∧ i = .lreturn) ∨ (∃ (v : Value) (n : String), ret = some (.object n) ∧ r = some v ∧ (v = .null ∨ ∃ a, v = .ref a) ∧ i = .areturn)
def EndOK (E : AE) (m : AM) (p : Program) (l : Launch) (e : Env) (R : Room) (s : State) (mi : MethodId) (args : Array Value) (below : List Frame) (meth : Method) (c : Code) (QQ : State → Prop) (Q : AR → AH → Prop) : Prop :=
  (∀ (r : Option Value) (h : AH) (H : Heap) (locs : List Loc) (cells slots pc : Nat) (lr : Array Slot) (i : Instr), Q (.inl r) h → HOK E s h H locs → cells ≤ R.cells → slots ≤ R.slots → decode m.2.1 pc = .ok (i, 1) → retI m.2.2.2.1 r i →
    W p l e R s mi args below meth c H locs cells slots QQ (F0 mi pc lr (r.toList.map (rv E)))) ∧
  ((∀ x h, ¬ Q (.inr x) h) ∨ ∃ (Qc : Array Value → State → Outcome → State → Prop) (XC : String → State → State → Prop), QQ = vx_MQ below Qc XC args s R.cells R.slots (fun q => bs E ≤ q) ∧
    ∀ (x : Nat) (h : AH) (k : Nat) (t : State), Q (.inr x) h → Rel E (h ++ List.replicate k (15, [])) t.heap → s.heap.size ≤ t.heap.size → s.vm.Alike t.vm → XC (exn x) s t)
theorem EndOK.mono {E : AE} {m : AM} {p : Program} {l : Launch} {e : Env} {R : Room} {s : State} {mi : MethodId} {args : Array Value} {below : List Frame} {meth : Method} {c : Code} {QQ : State → Prop} {Q Q' : AR → AH → Prop} (hE : EndOK E m p l e R s mi args below meth c QQ Q') (hq : ∀ r h, Q r h → Q' r h) : EndOK E m p l e R s mi args below meth c QQ Q := by
  refine ⟨fun r h H locs cells slots pc lr i h1 => hE.1 r h H locs cells slots pc lr i (hq _ _ h1), ?_⟩
  rcases hE.2 with h | ⟨Qc, XC, h1, h2⟩
  · exact Or.inl fun x h' z => h x h' (hq _ _ z)
  · exact Or.inr ⟨Qc, XC, h1, fun x h' k t z => h2 x h' k t (hq _ _ z)⟩
def AW (m : AM) (d mc ms pc : Nat) (ls st : List Value) (h : AH) (Q : AR → AH → Prop) : Prop :=
  ∀ (E : AE) (p : Program) (l : Launch) (e : Env) (R : Room) (s : State) (mi : MethodId) (args : Array Value) (below : List Frame) (meth : Method) (c : Code) (QQ : State → Prop) (H : Heap) (locs : List Loc) (cells slots : Nat) (lr : Array Slot),
    Fr E m d p l R s mi args meth c → LOK E m.2.2.1 ls lr → HOK E s h H locs → cells + mc ≤ R.cells → slots + ms ≤ R.slots → EndOK E m p l e R s mi args below meth c QQ Q →
    W p l e R s mi args below meth c H locs cells slots QQ (F0 mi pc lr (st.map (rv E)))
theorem AW.mono {m : AM} {d mc ms pc : Nat} {ls st : List Value} {h : AH} {Q Q' : AR → AH → Prop} (k : AW m d mc ms pc ls st h Q) (hq : ∀ r h, Q r h → Q' r h) : AW m d mc ms pc ls st h Q' :=
  fun E p l e R s mi args below meth c QQ H locs cells slots lr hF hL hH hc hs hE => k E p l e R s mi args below meth c QQ H locs cells slots lr hF hL hH hc hs (hE.mono hq)
theorem AW.room {m : AM} {d mc ms mc' ms' pc : Nat} {ls st : List Value} {h : AH} {Q : AR → AH → Prop} (k : AW m d mc ms pc ls st h Q) (h1 : mc ≤ mc') (h2 : ms ≤ ms') : AW m d mc' ms' pc ls st h Q :=
  fun E p l e R s mi args below meth c QQ H locs cells slots lr hF hL hH hc hs hE => k E p l e R s mi args below meth c QQ H locs cells slots lr hF hL hH (by omega) (by omega) hE
theorem AW.depth {m : AM} {d d' mc ms pc : Nat} {ls st : List Value} {h : AH} {Q : AR → AH → Prop} (k : AW m d mc ms pc ls st h Q) (h1 : d ≤ d') : AW m d' mc ms pc ls st h Q := by
  intro E p l e R s mi args below meth c QQ H locs cells slots lr hF
  obtain ⟨a1, a2, a3, a4, a5, a6, a7, a8, a9, a10, a11, a12⟩ := hF
  exact k E p l e R s mi args below meth c QQ H locs cells slots lr ⟨a1, a2, a3, a4, a5, a6, a7, a8, a9, by omega, by omega, a12⟩
theorem AW.eq {m : AM} {d mc ms pc : Nat} {ls ls' st st' : List Value} {h h' : AH} {Q : AR → AH → Prop} (k : AW m d mc ms pc ls' st' h' Q) (h1 : ls = ls') (h2 : st = st') (h3 : h = h') : AW m d mc ms pc ls st h Q := by
  subst h1; subst h2; subst h3; exact k
end
section
/-! instructions that leave the heap as it is -/
section PURE
variable {m : AM} {d mc ms pc : Nat} {ls st : List Value} {h : AH} {Q : AR → AH → Prop}
theorem aw_iconst {n : Int} {v : Int32} (hd : decode m.2.1 pc = .ok (.iconst n, 1)) (hv : Int32.ofInt n = v) (k : AW m d mc ms (pc + 1) ls (.int v :: st) h Q) : AW m d mc ms pc ls (st) h Q :=
  fun E p l e R s mi args below meth c QQ H locs cells slots lr hF hL hH hc hs hE => lv_iconst hF.1 hF.2.1 hd hv (k E p l e R s mi args below meth c QQ H locs cells slots lr hF hL hH hc hs hE)
theorem aw_bipush {n : Int} {v : Int32} (hd : decode m.2.1 pc = .ok (.bipush n, 2)) (hv : (Int8.ofInt n).toInt32 = v) (k : AW m d mc ms (pc + 2) ls (.int v :: st) h Q) : AW m d mc ms pc ls (st) h Q :=
  fun E p l e R s mi args below meth c QQ H locs cells slots lr hF hL hH hc hs hE => lv_bipush hF.1 hF.2.1 hd hv (k E p l e R s mi args below meth c QQ H locs cells slots lr hF hL hH hc hs hE)
theorem aw_sipush {n : Int} {v : Int32} (hd : decode m.2.1 pc = .ok (.sipush n, 3)) (hv : (Int16.ofInt n).toInt32 = v) (k : AW m d mc ms (pc + 3) ls (.int v :: st) h Q) : AW m d mc ms pc ls (st) h Q :=
  fun E p l e R s mi args below meth c QQ H locs cells slots lr hF hL hH hc hs hE => lv_sipush hF.1 hF.2.1 hd hv (k E p l e R s mi args below meth c QQ H locs cells slots lr hF hL hH hc hs hE)
theorem aw_lconst {n : Fin 2} {v : Int64} (hd : decode m.2.1 pc = .ok (.lconst n, 1)) (hv : Int64.ofNat (n : Nat) = v) (k : AW m d mc ms (pc + 1) ls (.long v :: st) h Q) : AW m d mc ms pc ls (st) h Q :=
  fun E p l e R s mi args below meth c QQ H locs cells slots lr hF hL hH hc hs hE => lv_lconst hF.1 hF.2.1 hd hv (k E p l e R s mi args below meth c QQ H locs cells slots lr hF hL hH hc hs hE)
theorem aw_null  (hd : decode m.2.1 pc = .ok (.aconst_null, 1))  (k : AW m d mc ms (pc + 1) ls (.null :: st) h Q) : AW m d mc ms pc ls (st) h Q :=
  fun E p l e R s mi args below meth c QQ H locs cells slots lr hF hL hH hc hs hE => lv_null hF.1 hF.2.1 hd (k E p l e R s mi args below meth c QQ H locs cells slots lr hF hL hH hc hs hE)
theorem aw_iload_n {i : Fin 4} {x : Int32} (hd : decode m.2.1 pc = .ok (.iload_n i, 1)) (hl : ls[(i : Nat)]? = some (.int x)) (k : AW m d mc ms (pc + 1) ls (.int x :: st) h Q) : AW m d mc ms pc ls (st) h Q :=
  fun E p l e R s mi args below meth c QQ H locs cells slots lr hF hL hH hc hs hE => lv_iload_n hF.1 hF.2.1 hd rfl (hL.2.2.2 _ _ hl (fun z => by cases z)) (k E p l e R s mi args below meth c QQ H locs cells slots lr hF hL hH hc hs hE)
theorem aw_iload {i : Nat} {x : Int32} (hd : decode m.2.1 pc = .ok (.iload i, 2)) (hl : ls[i]? = some (.int x)) (k : AW m d mc ms (pc + 2) ls (.int x :: st) h Q) : AW m d mc ms pc ls (st) h Q :=
  fun E p l e R s mi args below meth c QQ H locs cells slots lr hF hL hH hc hs hE => lv_iload hF.1 hF.2.1 hd (hL.2.2.2 _ _ hl (fun z => by cases z)) (k E p l e R s mi args below meth c QQ H locs cells slots lr hF hL hH hc hs hE)
theorem aw_lload_n {i : Fin 4} {x : Int64} (hd : decode m.2.1 pc = .ok (.lload_n i, 1)) (hl : ls[(i : Nat)]? = some (.long x)) (k : AW m d mc ms (pc + 1) ls (.long x :: st) h Q) : AW m d mc ms pc ls (st) h Q :=
  fun E p l e R s mi args below meth c QQ H locs cells slots lr hF hL hH hc hs hE => lv_lload_n hF.1 hF.2.1 hd rfl (hL.2.2.2 _ _ hl (fun z => by cases z)) (k E p l e R s mi args below meth c QQ H locs cells slots lr hF hL hH hc hs hE)
theorem aw_lload {i : Nat} {x : Int64} (hd : decode m.2.1 pc = .ok (.lload i, 2)) (hl : ls[i]? = some (.long x)) (k : AW m d mc ms (pc + 2) ls (.long x :: st) h Q) : AW m d mc ms pc ls (st) h Q :=
  fun E p l e R s mi args below meth c QQ H locs cells slots lr hF hL hH hc hs hE => lv_lload hF.1 hF.2.1 hd (hL.2.2.2 _ _ hl (fun z => by cases z)) (k E p l e R s mi args below meth c QQ H locs cells slots lr hF hL hH hc hs hE)
theorem aw_aload_n {i : Fin 4} {x : Nat} (hd : decode m.2.1 pc = .ok (.aload_n i, 1)) (hl : ls[(i : Nat)]? = some (.ref x)) (k : AW m d mc ms (pc + 1) ls (.ref x :: st) h Q) : AW m d mc ms pc ls (st) h Q :=
  fun E p l e R s mi args below meth c QQ H locs cells slots lr hF hL hH hc hs hE => lv_aload_n hF.1 hF.2.1 hd rfl (hL.2.2.2 _ _ hl (fun z => by cases z)) (k E p l e R s mi args below meth c QQ H locs cells slots lr hF hL hH hc hs hE)
theorem aw_aload {i : Nat} {x : Nat} (hd : decode m.2.1 pc = .ok (.aload i, 2)) (hl : ls[i]? = some (.ref x)) (k : AW m d mc ms (pc + 2) ls (.ref x :: st) h Q) : AW m d mc ms pc ls (st) h Q :=
  fun E p l e R s mi args below meth c QQ H locs cells slots lr hF hL hH hc hs hE => lv_aload hF.1 hF.2.1 hd (hL.2.2.2 _ _ hl (fun z => by cases z)) (k E p l e R s mi args below meth c QQ H locs cells slots lr hF hL hH hc hs hE)
theorem aw_iadd {x y : Int32} (hd : decode m.2.1 pc = .ok (.iadd, 1))  (k : AW m d mc ms (pc + 1) ls (.int (x + y) :: st) h Q) : AW m d mc ms pc ls (.int y :: .int x :: st) h Q :=
  fun E p l e R s mi args below meth c QQ H locs cells slots lr hF hL hH hc hs hE => lv_iadd hF.1 hF.2.1 hd (k E p l e R s mi args below meth c QQ H locs cells slots lr hF hL hH hc hs hE)
theorem aw_isub {x y : Int32} (hd : decode m.2.1 pc = .ok (.isub, 1))  (k : AW m d mc ms (pc + 1) ls (.int (x - y) :: st) h Q) : AW m d mc ms pc ls (.int y :: .int x :: st) h Q :=
  fun E p l e R s mi args below meth c QQ H locs cells slots lr hF hL hH hc hs hE => lv_isub hF.1 hF.2.1 hd (k E p l e R s mi args below meth c QQ H locs cells slots lr hF hL hH hc hs hE)
theorem aw_imul {x y : Int32} (hd : decode m.2.1 pc = .ok (.imul, 1))  (k : AW m d mc ms (pc + 1) ls (.int (x * y) :: st) h Q) : AW m d mc ms pc ls (.int y :: .int x :: st) h Q :=
  fun E p l e R s mi args below meth c QQ H locs cells slots lr hF hL hH hc hs hE => lv_imul hF.1 hF.2.1 hd (k E p l e R s mi args below meth c QQ H locs cells slots lr hF hL hH hc hs hE)
theorem aw_iand {x y : Int32} (hd : decode m.2.1 pc = .ok (.iand, 1))  (k : AW m d mc ms (pc + 1) ls (.int (x &&& y) :: st) h Q) : AW m d mc ms pc ls (.int y :: .int x :: st) h Q :=
  fun E p l e R s mi args below meth c QQ H locs cells slots lr hF hL hH hc hs hE => lv_iand hF.1 hF.2.1 hd (k E p l e R s mi args below meth c QQ H locs cells slots lr hF hL hH hc hs hE)
theorem aw_ladd {x y : Int64} (hd : decode m.2.1 pc = .ok (.ladd, 1))  (k : AW m d mc ms (pc + 1) ls (.long (x + y) :: st) h Q) : AW m d mc ms pc ls (.long y :: .long x :: st) h Q :=
  fun E p l e R s mi args below meth c QQ H locs cells slots lr hF hL hH hc hs hE => lv_ladd hF.1 hF.2.1 hd (k E p l e R s mi args below meth c QQ H locs cells slots lr hF hL hH hc hs hE)
theorem aw_lsub {x y : Int64} (hd : decode m.2.1 pc = .ok (.lsub, 1))  (k : AW m d mc ms (pc + 1) ls (.long (x - y) :: st) h Q) : AW m d mc ms pc ls (.long y :: .long x :: st) h Q :=
  fun E p l e R s mi args below meth c QQ H locs cells slots lr hF hL hH hc hs hE => lv_lsub hF.1 hF.2.1 hd (k E p l e R s mi args below meth c QQ H locs cells slots lr hF hL hH hc hs hE)
theorem aw_lmul {x y : Int64} (hd : decode m.2.1 pc = .ok (.lmul, 1))  (k : AW m d mc ms (pc + 1) ls (.long (x * y) :: st) h Q) : AW m d mc ms pc ls (.long y :: .long x :: st) h Q :=
  fun E p l e R s mi args below meth c QQ H locs cells slots lr hF hL hH hc hs hE => lv_lmul hF.1 hF.2.1 hd (k E p l e R s mi args below meth c QQ H locs cells slots lr hF hL hH hc hs hE)
theorem aw_land {x y : Int64} (hd : decode m.2.1 pc = .ok (.land, 1))  (k : AW m d mc ms (pc + 1) ls (.long (x &&& y) :: st) h Q) : AW m d mc ms pc ls (.long y :: .long x :: st) h Q :=
  fun E p l e R s mi args below meth c QQ H locs cells slots lr hF hL hH hc hs hE => lv_land hF.1 hF.2.1 hd (k E p l e R s mi args below meth c QQ H locs cells slots lr hF hL hH hc hs hE)
theorem aw_lor {x y : Int64} (hd : decode m.2.1 pc = .ok (.lor, 1))  (k : AW m d mc ms (pc + 1) ls (.long (x ||| y) :: st) h Q) : AW m d mc ms pc ls (.long y :: .long x :: st) h Q :=
  fun E p l e R s mi args below meth c QQ H locs cells slots lr hF hL hH hc hs hE => lv_lor hF.1 hF.2.1 hd (k E p l e R s mi args below meth c QQ H locs cells slots lr hF hL hH hc hs hE)
theorem aw_idiv {x y : Int32} (hd : decode m.2.1 pc = .ok (.idiv, 1)) (hn : ¬ y = 0) (k : AW m d mc ms (pc + 1) ls (.int (x / y) :: st) h Q) : AW m d mc ms pc ls (.int y :: .int x :: st) h Q :=
  fun E p l e R s mi args below meth c QQ H locs cells slots lr hF hL hH hc hs hE => lv_idiv hF.1 hF.2.1 hd hn (k E p l e R s mi args below meth c QQ H locs cells slots lr hF hL hH hc hs hE)
theorem aw_irem {x y : Int32} (hd : decode m.2.1 pc = .ok (.irem, 1)) (hn : ¬ y = 0) (k : AW m d mc ms (pc + 1) ls (.int (x - x / y * y) :: st) h Q) : AW m d mc ms pc ls (.int y :: .int x :: st) h Q :=
  fun E p l e R s mi args below meth c QQ H locs cells slots lr hF hL hH hc hs hE => lv_irem hF.1 hF.2.1 hd hn (k E p l e R s mi args below meth c QQ H locs cells slots lr hF hL hH hc hs hE)
theorem aw_ineg {x : Int32} (hd : decode m.2.1 pc = .ok (.ineg, 1))  (k : AW m d mc ms (pc + 1) ls (.int (-x) :: st) h Q) : AW m d mc ms pc ls (.int x :: st) h Q :=
  fun E p l e R s mi args below meth c QQ H locs cells slots lr hF hL hH hc hs hE => lv_ineg hF.1 hF.2.1 hd (k E p l e R s mi args below meth c QQ H locs cells slots lr hF hL hH hc hs hE)
theorem aw_ldiv {x y : Int64} (hd : decode m.2.1 pc = .ok (.ldiv, 1)) (hn : ¬ y = 0) (k : AW m d mc ms (pc + 1) ls (.long (x / y) :: st) h Q) : AW m d mc ms pc ls (.long y :: .long x :: st) h Q :=
  fun E p l e R s mi args below meth c QQ H locs cells slots lr hF hL hH hc hs hE => lv_ldiv hF.1 hF.2.1 hd hn (k E p l e R s mi args below meth c QQ H locs cells slots lr hF hL hH hc hs hE)
theorem aw_lrem {x y : Int64} (hd : decode m.2.1 pc = .ok (.lrem, 1)) (hn : ¬ y = 0) (k : AW m d mc ms (pc + 1) ls (.long (x - x / y * y) :: st) h Q) : AW m d mc ms pc ls (.long y :: .long x :: st) h Q :=
  fun E p l e R s mi args below meth c QQ H locs cells slots lr hF hL hH hc hs hE => lv_lrem hF.1 hF.2.1 hd hn (k E p l e R s mi args below meth c QQ H locs cells slots lr hF hL hH hc hs hE)
theorem aw_ishl {x y : Int32} (hd : decode m.2.1 pc = .ok (.ishl, 1))  (k : AW m d mc ms (pc + 1) ls (.int (x <<< (y &&& 31)) :: st) h Q) : AW m d mc ms pc ls (.int y :: .int x :: st) h Q :=
  fun E p l e R s mi args below meth c QQ H locs cells slots lr hF hL hH hc hs hE => lv_ishl hF.1 hF.2.1 hd (k E p l e R s mi args below meth c QQ H locs cells slots lr hF hL hH hc hs hE)
theorem aw_i2l {x : Int32} (hd : decode m.2.1 pc = .ok (.i2l, 1))  (k : AW m d mc ms (pc + 1) ls (.long x.toInt64 :: st) h Q) : AW m d mc ms pc ls (.int x :: st) h Q :=
  fun E p l e R s mi args below meth c QQ H locs cells slots lr hF hL hH hc hs hE => lv_i2l hF.1 hF.2.1 hd rfl (k E p l e R s mi args below meth c QQ H locs cells slots lr hF hL hH hc hs hE)
theorem aw_l2i {x : Int64} (hd : decode m.2.1 pc = .ok (.l2i, 1))  (k : AW m d mc ms (pc + 1) ls (.int x.toInt32 :: st) h Q) : AW m d mc ms pc ls (.long x :: st) h Q :=
  fun E p l e R s mi args below meth c QQ H locs cells slots lr hF hL hH hc hs hE => lv_l2i hF.1 hF.2.1 hd rfl (k E p l e R s mi args below meth c QQ H locs cells slots lr hF hL hH hc hs hE)
theorem aw_lushr {x : Int64} {y : Int32} (hd : decode m.2.1 pc = .ok (.lushr, 1))  (k : AW m d mc ms (pc + 1) ls (.long (x.toUInt64 >>> (y.toInt64.toUInt64 &&& Int64.toUInt64 63)).toInt64 :: st) h Q) : AW m d mc ms pc ls (.int y :: .long x :: st) h Q :=
  fun E p l e R s mi args below meth c QQ H locs cells slots lr hF hL hH hc hs hE => lv_lushr hF.1 hF.2.1 hd rfl (k E p l e R s mi args below meth c QQ H locs cells slots lr hF hL hH hc hs hE)
theorem aw_lshl {x : Int64} {y : Int32} (hd : decode m.2.1 pc = .ok (.lshl, 1))  (k : AW m d mc ms (pc + 1) ls (.long (x <<< (y.toInt64 &&& 63)) :: st) h Q) : AW m d mc ms pc ls (.int y :: .long x :: st) h Q :=
  fun E p l e R s mi args below meth c QQ H locs cells slots lr hF hL hH hc hs hE => lv_lshl hF.1 hF.2.1 hd rfl (k E p l e R s mi args below meth c QQ H locs cells slots lr hF hL hH hc hs hE)
theorem aw_lcmp {x y : Int64} (hd : decode m.2.1 pc = .ok (.lcmp, 1))  (k : AW m d mc ms (pc + 1) ls (.int (lg_cmp x y) :: st) h Q) : AW m d mc ms pc ls (.long y :: .long x :: st) h Q :=
  fun E p l e R s mi args below meth c QQ H locs cells slots lr hF hL hH hc hs hE => W.lcmp hF.1 hF.2.1 hd (k E p l e R s mi args below meth c QQ H locs cells slots lr hF hL hH hc hs hE)
theorem rv_cat (E : AE) (v : Value) : (rv E v).category = v.category := by cases v <;> rfl
theorem aw_dup {v : Value} (hd : decode m.2.1 pc = .ok (.dup, 1)) (hv : v.category = 1) (k : AW m d mc ms (pc + 1) ls (v :: v :: st) h Q) : AW m d mc ms pc ls (v :: st) h Q :=
  fun E p l e R s mi args below meth c QQ H locs cells slots lr hF hL hH hc hs hE => lv_dup hF.1 hF.2.1 hd ((rv_cat E v).trans hv) (k E p l e R s mi args below meth c QQ H locs cells slots lr hF hL hH hc hs hE)
theorem aw_pop {v : Value} (hd : decode m.2.1 pc = .ok (.pop, 1)) (hv : v.category = 1) (k : AW m d mc ms (pc + 1) ls (st) h Q) : AW m d mc ms pc ls (v :: st) h Q :=
  fun E p l e R s mi args below meth c QQ H locs cells slots lr hF hL hH hc hs hE => lv_pop hF.1 hF.2.1 hd ((rv_cat E v).trans hv) (k E p l e R s mi args below meth c QQ H locs cells slots lr hF hL hH hc hs hE)
theorem aw_dup2 {v w : Value} (hd : decode m.2.1 pc = .ok (.dup2, 1)) (hv : v.category = 1) (hw : w.category = 1) (k : AW m d mc ms (pc + 1) ls (v :: w :: v :: w :: st) h Q) : AW m d mc ms pc ls (v :: w :: st) h Q :=
  fun E p l e R s mi args below meth c QQ H locs cells slots lr hF hL hH hc hs hE => lv_dup2_11 hF.1 hF.2.1 hd ((rv_cat E v).trans hv) ((rv_cat E w).trans hw) (k E p l e R s mi args below meth c QQ H locs cells slots lr hF hL hH hc hs hE)
theorem aw_dup2L {v : Value} (hd : decode m.2.1 pc = .ok (.dup2, 1)) (hv : v.category = 2) (k : AW m d mc ms (pc + 1) ls (v :: v :: st) h Q) : AW m d mc ms pc ls (v :: st) h Q :=
  fun E p l e R s mi args below meth c QQ H locs cells slots lr hF hL hH hc hs hE => lv_dup2_2 hF.1 hF.2.1 hd ((rv_cat E v).trans hv) (k E p l e R s mi args below meth c QQ H locs cells slots lr hF hL hH hc hs hE)
theorem aw_goto {off : Int} {tgt : Nat} (hd : decode m.2.1 pc = .ok (.goto off, 3)) (ht : (pc : Int) + off = (tgt : Int)) (k : AW m d mc ms tgt ls (st) h Q) : AW m d mc ms pc ls (st) h Q :=
  fun E p l e R s mi args below meth c QQ H locs cells slots lr hF hL hH hc hs hE => lv_goto hF.1 hF.2.1 hd ht (k E p l e R s mi args below meth c QQ H locs cells slots lr hF hL hH hc hs hE)
theorem aw_ifnullR {off : Int} {x : Nat} (hd : decode m.2.1 pc = .ok (.ifnull off, 3))  (k : AW m d mc ms (pc + 3) ls (st) h Q) : AW m d mc ms pc ls (.ref x :: st) h Q :=
  fun E p l e R s mi args below meth c QQ H locs cells slots lr hF hL hH hc hs hE => lv_ifnull hF.1 hF.2.1 hd (k E p l e R s mi args below meth c QQ H locs cells slots lr hF hL hH hc hs hE)
theorem aw_ifnullN {off : Int} {tgt : Nat} (hd : decode m.2.1 pc = .ok (.ifnull off, 3)) (ht : (pc : Int) + off = (tgt : Int)) (k : AW m d mc ms tgt ls (st) h Q) : AW m d mc ms pc ls (.null :: st) h Q :=
  fun E p l e R s mi args below meth c QQ H locs cells slots lr hF hL hH hc hs hE => lv_ifnullN hF.1 hF.2.1 hd ht (k E p l e R s mi args below meth c QQ H locs cells slots lr hF hL hH hc hs hE)
theorem aw_if_eq {x : Int32} {off : Int} {tgt : Nat} (hd : decode m.2.1 pc = .ok (.ifCond .eq off, 3)) (ht : (pc : Int) + off = (tgt : Int)) (kt : x = 0 → AW m d mc ms tgt ls st h Q) (kf : ¬ x = 0 → AW m d mc ms (pc + 3) ls st h Q) : AW m d mc ms pc ls (.int x :: st) h Q :=
  fun E p l e R s mi args below meth c QQ H locs cells slots lr hF hL hH hc hs hE => lv_if_eq hF.1 hF.2.1 hd ht (fun z => kt z E p l e R s mi args below meth c QQ H locs cells slots lr hF hL hH hc hs hE) (fun z => kf z E p l e R s mi args below meth c QQ H locs cells slots lr hF hL hH hc hs hE)
theorem aw_icmp_eq {x y : Int32} {off : Int} {tgt : Nat} (hd : decode m.2.1 pc = .ok (.if_icmp .eq off, 3)) (ht : (pc : Int) + off = (tgt : Int)) (kt : x = y → AW m d mc ms tgt ls st h Q) (kf : ¬ x = y → AW m d mc ms (pc + 3) ls st h Q) : AW m d mc ms pc ls (.int y :: .int x :: st) h Q :=
  fun E p l e R s mi args below meth c QQ H locs cells slots lr hF hL hH hc hs hE => lv_icmp_eq hF.1 hF.2.1 hd ht (fun z => kt z E p l e R s mi args below meth c QQ H locs cells slots lr hF hL hH hc hs hE) (fun z => kf z E p l e R s mi args below meth c QQ H locs cells slots lr hF hL hH hc hs hE)
theorem aw_if_ne {x : Int32} {off : Int} {tgt : Nat} (hd : decode m.2.1 pc = .ok (.ifCond .ne off, 3)) (ht : (pc : Int) + off = (tgt : Int)) (kt : ¬ x = 0 → AW m d mc ms tgt ls st h Q) (kf : x = 0 → AW m d mc ms (pc + 3) ls st h Q) : AW m d mc ms pc ls (.int x :: st) h Q :=
  fun E p l e R s mi args below meth c QQ H locs cells slots lr hF hL hH hc hs hE => lv_if_ne hF.1 hF.2.1 hd ht (fun z => kt z E p l e R s mi args below meth c QQ H locs cells slots lr hF hL hH hc hs hE) (fun z => kf z E p l e R s mi args below meth c QQ H locs cells slots lr hF hL hH hc hs hE)
theorem aw_icmp_ne {x y : Int32} {off : Int} {tgt : Nat} (hd : decode m.2.1 pc = .ok (.if_icmp .ne off, 3)) (ht : (pc : Int) + off = (tgt : Int)) (kt : ¬ x = y → AW m d mc ms tgt ls st h Q) (kf : x = y → AW m d mc ms (pc + 3) ls st h Q) : AW m d mc ms pc ls (.int y :: .int x :: st) h Q :=
  fun E p l e R s mi args below meth c QQ H locs cells slots lr hF hL hH hc hs hE => lv_icmp_ne hF.1 hF.2.1 hd ht (fun z => kt z E p l e R s mi args below meth c QQ H locs cells slots lr hF hL hH hc hs hE) (fun z => kf z E p l e R s mi args below meth c QQ H locs cells slots lr hF hL hH hc hs hE)
theorem aw_if_lt {x : Int32} {off : Int} {tgt : Nat} (hd : decode m.2.1 pc = .ok (.ifCond .lt off, 3)) (ht : (pc : Int) + off = (tgt : Int)) (kt : x < 0 → AW m d mc ms tgt ls st h Q) (kf : ¬ x < 0 → AW m d mc ms (pc + 3) ls st h Q) : AW m d mc ms pc ls (.int x :: st) h Q :=
  fun E p l e R s mi args below meth c QQ H locs cells slots lr hF hL hH hc hs hE => lv_if_lt hF.1 hF.2.1 hd ht (fun z => kt z E p l e R s mi args below meth c QQ H locs cells slots lr hF hL hH hc hs hE) (fun z => kf z E p l e R s mi args below meth c QQ H locs cells slots lr hF hL hH hc hs hE)
theorem aw_icmp_lt {x y : Int32} {off : Int} {tgt : Nat} (hd : decode m.2.1 pc = .ok (.if_icmp .lt off, 3)) (ht : (pc : Int) + off = (tgt : Int)) (kt : x < y → AW m d mc ms tgt ls st h Q) (kf : ¬ x < y → AW m d mc ms (pc + 3) ls st h Q) : AW m d mc ms pc ls (.int y :: .int x :: st) h Q :=
  fun E p l e R s mi args below meth c QQ H locs cells slots lr hF hL hH hc hs hE => lv_icmp_lt hF.1 hF.2.1 hd ht (fun z => kt z E p l e R s mi args below meth c QQ H locs cells slots lr hF hL hH hc hs hE) (fun z => kf z E p l e R s mi args below meth c QQ H locs cells slots lr hF hL hH hc hs hE)
theorem aw_if_ge {x : Int32} {off : Int} {tgt : Nat} (hd : decode m.2.1 pc = .ok (.ifCond .ge off, 3)) (ht : (pc : Int) + off = (tgt : Int)) (kt : 0 ≤ x → AW m d mc ms tgt ls st h Q) (kf : ¬ 0 ≤ x → AW m d mc ms (pc + 3) ls st h Q) : AW m d mc ms pc ls (.int x :: st) h Q :=
  fun E p l e R s mi args below meth c QQ H locs cells slots lr hF hL hH hc hs hE => lv_if_ge hF.1 hF.2.1 hd ht (fun z => kt z E p l e R s mi args below meth c QQ H locs cells slots lr hF hL hH hc hs hE) (fun z => kf z E p l e R s mi args below meth c QQ H locs cells slots lr hF hL hH hc hs hE)
theorem aw_icmp_ge {x y : Int32} {off : Int} {tgt : Nat} (hd : decode m.2.1 pc = .ok (.if_icmp .ge off, 3)) (ht : (pc : Int) + off = (tgt : Int)) (kt : y ≤ x → AW m d mc ms tgt ls st h Q) (kf : ¬ y ≤ x → AW m d mc ms (pc + 3) ls st h Q) : AW m d mc ms pc ls (.int y :: .int x :: st) h Q :=
  fun E p l e R s mi args below meth c QQ H locs cells slots lr hF hL hH hc hs hE => lv_icmp_ge hF.1 hF.2.1 hd ht (fun z => kt z E p l e R s mi args below meth c QQ H locs cells slots lr hF hL hH hc hs hE) (fun z => kf z E p l e R s mi args below meth c QQ H locs cells slots lr hF hL hH hc hs hE)
theorem aw_if_gt {x : Int32} {off : Int} {tgt : Nat} (hd : decode m.2.1 pc = .ok (.ifCond .gt off, 3)) (ht : (pc : Int) + off = (tgt : Int)) (kt : 0 < x → AW m d mc ms tgt ls st h Q) (kf : ¬ 0 < x → AW m d mc ms (pc + 3) ls st h Q) : AW m d mc ms pc ls (.int x :: st) h Q :=
  fun E p l e R s mi args below meth c QQ H locs cells slots lr hF hL hH hc hs hE => lv_if_gt hF.1 hF.2.1 hd ht (fun z => kt z E p l e R s mi args below meth c QQ H locs cells slots lr hF hL hH hc hs hE) (fun z => kf z E p l e R s mi args below meth c QQ H locs cells slots lr hF hL hH hc hs hE)
theorem aw_icmp_gt {x y : Int32} {off : Int} {tgt : Nat} (hd : decode m.2.1 pc = .ok (.if_icmp .gt off, 3)) (ht : (pc : Int) + off = (tgt : Int)) (kt : y < x → AW m d mc ms tgt ls st h Q) (kf : ¬ y < x → AW m d mc ms (pc + 3) ls st h Q) : AW m d mc ms pc ls (.int y :: .int x :: st) h Q :=
  fun E p l e R s mi args below meth c QQ H locs cells slots lr hF hL hH hc hs hE => lv_icmp_gt hF.1 hF.2.1 hd ht (fun z => kt z E p l e R s mi args below meth c QQ H locs cells slots lr hF hL hH hc hs hE) (fun z => kf z E p l e R s mi args below meth c QQ H locs cells slots lr hF hL hH hc hs hE)
theorem aw_if_le {x : Int32} {off : Int} {tgt : Nat} (hd : decode m.2.1 pc = .ok (.ifCond .le off, 3)) (ht : (pc : Int) + off = (tgt : Int)) (kt : x ≤ 0 → AW m d mc ms tgt ls st h Q) (kf : ¬ x ≤ 0 → AW m d mc ms (pc + 3) ls st h Q) : AW m d mc ms pc ls (.int x :: st) h Q :=
  fun E p l e R s mi args below meth c QQ H locs cells slots lr hF hL hH hc hs hE => lv_if_le hF.1 hF.2.1 hd ht (fun z => kt z E p l e R s mi args below meth c QQ H locs cells slots lr hF hL hH hc hs hE) (fun z => kf z E p l e R s mi args below meth c QQ H locs cells slots lr hF hL hH hc hs hE)
theorem aw_icmp_le {x y : Int32} {off : Int} {tgt : Nat} (hd : decode m.2.1 pc = .ok (.if_icmp .le off, 3)) (ht : (pc : Int) + off = (tgt : Int)) (kt : x ≤ y → AW m d mc ms tgt ls st h Q) (kf : ¬ x ≤ y → AW m d mc ms (pc + 3) ls st h Q) : AW m d mc ms pc ls (.int y :: .int x :: st) h Q :=
  fun E p l e R s mi args below meth c QQ H locs cells slots lr hF hL hH hc hs hE => lv_icmp_le hF.1 hF.2.1 hd ht (fun z => kt z E p l e R s mi args below meth c QQ H locs cells slots lr hF hL hH hc hs hE) (fun z => kf z E p l e R s mi args below meth c QQ H locs cells slots lr hF hL hH hc hs hE)
theorem aw_lookup {dflt : Int} {ps : Array (Int × Int)} {len : Nat} {x : Int32} {off : Int} {tgt : Nat} (hd : decode m.2.1 pc = .ok (.lookupswitch dflt ps, len)) (hp : (ps.toList.zip (ps.toList.drop 1)).all (fun (a, next) => a.1 < next.1) = true) (ho : Op.lookupswitch.offset ps.toList dflt x.toInt = off) (ht : (pc : Int) + off = (tgt : Int)) (k : AW m d mc ms tgt ls st h Q) : AW m d mc ms pc ls (.int x :: st) h Q :=
  fun E p l e R s mi args below meth c QQ H locs cells slots lr hF hL hH hc hs hE => lv_lookup hF.1 hF.2.1 hd hp ho ht (k E p l e R s mi args below meth c QQ H locs cells slots lr hF hL hH hc hs hE)
theorem aw_tableOut {dflt lo hi : Int} {offs : Array Int} {len : Nat} {x : Int32} {tgt : Nat} (hd : decode m.2.1 pc = .ok (.tableswitch dflt lo hi offs, len)) (hx : x.toInt < lo ∨ hi < x.toInt) (ht : (pc : Int) + dflt = (tgt : Int)) (k : AW m d mc ms tgt ls st h Q) : AW m d mc ms pc ls (.int x :: st) h Q :=
  fun E p l e R s mi args below meth c QQ H locs cells slots lr hF hL hH hc hs hE => lv_tableOut hF.1 hF.2.1 hd hx ht (k E p l e R s mi args below meth c QQ H locs cells slots lr hF hL hH hc hs hE)
theorem aw_tableIn {dflt lo hi : Int} {offs : Array Int} {len : Nat} {x : Int32} {off : Int} {tgt : Nat} (hd : decode m.2.1 pc = .ok (.tableswitch dflt lo hi offs, len)) (h1 : ¬ x.toInt < lo) (h2 : ¬ hi < x.toInt) (ho : offs[(x.toInt - lo).toNat]? = some off) (ht : (pc : Int) + off = (tgt : Int)) (k : AW m d mc ms tgt ls st h Q) : AW m d mc ms pc ls (.int x :: st) h Q :=
  fun E p l e R s mi args below meth c QQ H locs cells slots lr hF hL hH hc hs hE => lv_tableIn hF.1 hF.2.1 hd h1 h2 ho ht (k E p l e R s mi args below meth c QQ H locs cells slots lr hF hL hH hc hs hE)
/-- the locals as the kit has them -/
def al (E : AE) (ls : List Value) : List (Nat × Value) := ls.zipIdx.filterMap (fun q => if q.1 = vU then none else some (q.2, rv E q.1))
theorem al_mem {E : AE} {ls : List Value} {i : Nat} {w : Value} : (i, w) ∈ al E ls ↔ ∃ v, ls[i]? = some v ∧ v ≠ vU ∧ w = rv E v := by
  unfold al
  rw [List.mem_filterMap]
  constructor
  · rintro ⟨⟨v, j⟩, h1, h2⟩
    have h3 := List.mem_zipIdx_iff_getElem?.mp h1
    by_cases hv : v = vU
    · simp [hv] at h2
    · simp [hv] at h2
      exact ⟨v, by rw [← h2.1]; exact h3, hv, h2.2.symm⟩
  · rintro ⟨v, h1, h2, h3⟩
    exact ⟨(v, i), List.mem_zipIdx_iff_getElem?.mpr h1, by simp [h2, h3]⟩
theorem LOK.has {E : AE} {n : Nat} {ls : List Value} {lr : Array Slot} (h : LOK E n ls lr) : lv_has lr n (al E ls) := by
  refine ⟨h.2.1, h.2.2.1, fun q hq => ?_⟩
  obtain ⟨v, h1, h2, h3⟩ := al_mem.mp (show (q.1, q.2) ∈ al E ls from hq)
  rw [h3]
  exact h.2.2.2 _ _ h1 h2
/-- no long stands just ahead -/
def okS (ls : List Value) : Nat → Bool
  | 0 => true
  | j + 1 => match ls[j]? with
    | some v => v.category == 1
    | none => true
theorem LOK.set1 {E : AE} {n i : Nat} {ls : List Value} {lr lr' : Array Slot} {v v' : Value} (h : LOK E n ls lr) (ho : okS ls i = true) (hv : v = rv E v' ∨ v' = vU) (h' : lv_has lr' n ((i, v) :: (al E ls).filter (fun q => !(q.1 == i) && !(q.1 + 1 == i && q.2.category == 2)))) : LOK E n (ls.set i v') lr' := by
  refine ⟨by rw [List.length_set]; exact h.1, h'.1, h'.2.1, fun j w hj hw => ?_⟩
  rw [List.getElem?_set] at hj
  by_cases hij : i = j
  · subst hij
    simp only [if_true] at hj
    split at hj
    · cases hj
      rcases hv with hv | hv
      · rw [← hv]
        exact h'.2.2 (i, v) List.mem_cons_self
      · exact absurd hv hw
    · cases hj
  · rw [if_neg hij] at hj
    refine h'.2.2 (j, rv E w) (List.mem_cons_of_mem _ (List.mem_filter.mpr ⟨al_mem.mpr ⟨w, hj, hw, rfl⟩, ?_⟩))
    have e1 : (j == i) = false := by simp [Ne.symm hij]
    by_cases hji : j + 1 = i
    · subst hji
      simp only [okS, hj] at ho
      have : w.category = 1 := by simpa using ho
      simp [rv_cat, this]
    · have : (j + 1 == i) = false := by simp [hji]
      simp [e1, this]
theorem LOK.set2 {E : AE} {n i : Nat} {ls : List Value} {lr lr' : Array Slot} {v : Value} (h : LOK E n ls lr) (ho : okS ls i = true) (h' : lv_has lr' n ((i, rv E v) :: (al E ls).filter (fun q => !(q.1 == i) && (!(q.1 == i + 1) && !(q.1 + 1 == i && q.2.category == 2))))) : LOK E n ((ls.set i v).set (i + 1) vU) lr' := by
  refine ⟨by rw [List.length_set, List.length_set]; exact h.1, h'.1, h'.2.1, fun j w hj hw => ?_⟩
  rw [List.getElem?_set] at hj
  by_cases hij1 : i + 1 = j
  · subst hij1
    simp only [if_true] at hj
    split at hj
    · cases hj
      exact absurd rfl hw
    · cases hj
  · rw [if_neg hij1, List.getElem?_set] at hj
    by_cases hij : i = j
    · subst hij
      simp only [if_true] at hj
      split at hj
      · cases hj
        exact h'.2.2 (i, rv E v) List.mem_cons_self
      · cases hj
    · rw [if_neg hij] at hj
      refine h'.2.2 (j, rv E w) (List.mem_cons_of_mem _ (List.mem_filter.mpr ⟨al_mem.mpr ⟨w, hj, hw, rfl⟩, ?_⟩))
      have e1 : (j == i) = false := by simp [Ne.symm hij]
      have e2 : (j == i + 1) = false := by simp [Ne.symm hij1]
      by_cases hji : j + 1 = i
      · subst hji
        simp only [okS, hj] at ho
        have : w.category = 1 := by simpa using ho
        simp [rv_cat, this]
        omega
      · have : (j + 1 == i) = false := by simp [hji]
        simp [e1, e2, this]
theorem aw_istore_n {i : Fin 4} {x : Int32} (hd : decode m.2.1 pc = .ok (.istore_n i, 1)) (hi : (i : Nat) < m.2.2.1) (ho : okS ls i = true) (k : AW m d mc ms (pc + 1) (ls.set i (.int x)) st h Q) : AW m d mc ms pc ls (.int x :: st) h Q :=
  fun E p l e R s mi args below meth c QQ H locs cells slots lr hF hL hH hc hs hE => lv_istore_n hF.1 hF.2.1 hd rfl hL.has hi rfl (fun lr' hL' => k E p l e R s mi args below meth c QQ H locs cells slots lr' hF (hL.set1 ho (Or.inl rfl) hL') hH hc hs hE)
theorem aw_istore {i : Nat} {x : Int32} (hd : decode m.2.1 pc = .ok (.istore i, 2)) (hi : i < m.2.2.1) (ho : okS ls i = true) (k : AW m d mc ms (pc + 2) (ls.set i (.int x)) st h Q) : AW m d mc ms pc ls (.int x :: st) h Q :=
  fun E p l e R s mi args below meth c QQ H locs cells slots lr hF hL hH hc hs hE => lv_istore hF.1 hF.2.1 hd hL.has hi rfl (fun lr' hL' => k E p l e R s mi args below meth c QQ H locs cells slots lr' hF (hL.set1 ho (Or.inl rfl) hL') hH hc hs hE)
theorem aw_astore_n {i : Fin 4} {x : Nat} (hd : decode m.2.1 pc = .ok (.astore_n i, 1)) (hi : (i : Nat) < m.2.2.1) (ho : okS ls i = true) (k : AW m d mc ms (pc + 1) (ls.set i (.ref x)) st h Q) : AW m d mc ms pc ls (.ref x :: st) h Q :=
  fun E p l e R s mi args below meth c QQ H locs cells slots lr hF hL hH hc hs hE => lv_astore_n hF.1 hF.2.1 hd rfl hL.has hi rfl (fun lr' hL' => k E p l e R s mi args below meth c QQ H locs cells slots lr' hF (hL.set1 ho (Or.inl rfl) hL') hH hc hs hE)
theorem aw_astore {i : Nat} {x : Nat} (hd : decode m.2.1 pc = .ok (.astore i, 2)) (hi : i < m.2.2.1) (ho : okS ls i = true) (k : AW m d mc ms (pc + 2) (ls.set i (.ref x)) st h Q) : AW m d mc ms pc ls (.ref x :: st) h Q :=
  fun E p l e R s mi args below meth c QQ H locs cells slots lr hF hL hH hc hs hE => lv_astore hF.1 hF.2.1 hd hL.has hi rfl (fun lr' hL' => k E p l e R s mi args below meth c QQ H locs cells slots lr' hF (hL.set1 ho (Or.inl rfl) hL') hH hc hs hE)
theorem aw_astore_nN {i : Fin 4} (hd : decode m.2.1 pc = .ok (.astore_n i, 1)) (hi : (i : Nat) < m.2.2.1) (ho : okS ls i = true) (k : AW m d mc ms (pc + 1) (ls.set i .null) st h Q) : AW m d mc ms pc ls (.null :: st) h Q :=
  fun E p l e R s mi args below meth c QQ H locs cells slots lr hF hL hH hc hs hE => lv_astore_nN hF.1 hF.2.1 hd rfl hL.has hi rfl (fun lr' hL' => k E p l e R s mi args below meth c QQ H locs cells slots lr' hF (hL.set1 ho (Or.inl rfl) hL') hH hc hs hE)
theorem aw_aload_nN {i : Fin 4} (hd : decode m.2.1 pc = .ok (.aload_n i, 1)) (hl : ls[(i : Nat)]? = some .null) (k : AW m d mc ms (pc + 1) ls (.null :: st) h Q) : AW m d mc ms pc ls (st) h Q :=
  fun E p l e R s mi args below meth c QQ H locs cells slots lr hF hL hH hc hs hE => lv_aload_nN hF.1 hF.2.1 hd rfl (hL.2.2.2 _ _ hl (fun z => by cases z)) (k E p l e R s mi args below meth c QQ H locs cells slots lr hF hL hH hc hs hE)
theorem aw_lstore_n {i : Fin 4} {x : Int64} (hd : decode m.2.1 pc = .ok (.lstore_n i, 1)) (hi : (i : Nat) + 1 < m.2.2.1) (ho : okS ls i = true) (k : AW m d mc ms (pc + 1) ((ls.set i (.long x)).set (i + 1) vU) st h Q) : AW m d mc ms pc ls (.long x :: st) h Q :=
  fun E p l e R s mi args below meth c QQ H locs cells slots lr hF hL hH hc hs hE => lv_lstore_n hF.1 hF.2.1 hd rfl hL.has hi rfl (fun lr' hL' => k E p l e R s mi args below meth c QQ H locs cells slots lr' hF (hL.set2 (v := .long x) ho hL') hH hc hs hE)
theorem aw_lstore {i : Nat} {x : Int64} (hd : decode m.2.1 pc = .ok (.lstore i, 2)) (hi : i + 1 < m.2.2.1) (ho : okS ls i = true) (k : AW m d mc ms (pc + 2) ((ls.set i (.long x)).set (i + 1) vU) st h Q) : AW m d mc ms pc ls (.long x :: st) h Q :=
  fun E p l e R s mi args below meth c QQ H locs cells slots lr hF hL hH hc hs hE => lv_lstore hF.1 hF.2.1 hd hL.has hi rfl (fun lr' hL' => k E p l e R s mi args below meth c QQ H locs cells slots lr' hF (hL.set2 (v := .long x) ho hL') hH hc hs hE)
theorem aw_iinc {i : Nat} {n : Int} {x : Int32} (hd : decode m.2.1 pc = .ok (.iinc i n, 3)) (hl : ls[i]? = some (.int x)) (hi : i < m.2.2.1) (ho : okS ls i = true) (k : AW m d mc ms (pc + 3) (ls.set i (.int (x + Int32.ofInt n))) st h Q) : AW m d mc ms pc ls st h Q := by
  intro E p l e R s mi args below meth c QQ H locs cells slots lr hF hL hH hc hs hE
  obtain ⟨q, hq⟩ := List.getElem?_of_mem (al_mem.mpr ⟨_, hl, (fun z => by cases z), rfl⟩ : (i, rv E (.int x)) ∈ al E ls)
  exact lv_iinc hF.1 hF.2.1 hd hL.has hq rfl hi rfl (fun lr' hL' => k E p l e R s mi args below meth c QQ H locs cells slots lr' hF (hL.set1 (v' := .int (x + Int32.ofInt n)) ho (Or.inl rfl) hL') hH hc hs hE)
theorem aw_ireturn {x : Int32} {ty : FieldType} (hd : decode m.2.1 pc = .ok (.ireturn, 1)) (hr : m.2.2.2.1 = some ty) (hn : narrow ty (.int x) = .int x) (hq : Q (.inl (some (.int x))) h) : AW m d mc ms pc ls [.int x] h Q :=
  fun E p l e R s mi args below meth c QQ H locs cells slots lr hF hL hH hc hs hE => hE.1 (some (.int x)) h H locs cells slots pc lr _ hq hH (by omega) (by omega) hd (Or.inr (Or.inl ⟨x, ty, hr, hn, rfl, rfl⟩))
theorem aw_lreturn {x : Int64} (hd : decode m.2.1 pc = .ok (.lreturn, 1)) (hr : m.2.2.2.1 = some .long) (hq : Q (.inl (some (.long x))) h) : AW m d mc ms pc ls [.long x] h Q :=
  fun E p l e R s mi args below meth c QQ H locs cells slots lr hF hL hH hc hs hE => hE.1 (some (.long x)) h H locs cells slots pc lr _ hq hH (by omega) (by omega) hd (Or.inr (Or.inr (Or.inl ⟨x, hr, rfl, rfl⟩)))
theorem aw_return (hd : decode m.2.1 pc = .ok (.return_, 1)) (hr : m.2.2.2.1 = none) (hq : Q (.inl none) h) : AW m d mc ms pc ls [] h Q :=
  fun E p l e R s mi args below meth c QQ H locs cells slots lr hF hL hH hc hs hE => hE.1 none h H locs cells slots pc lr _ hq hH (by omega) (by omega) hd (Or.inl ⟨hr, rfl, rfl⟩)
theorem aw_areturn {v : Value} {n : String} (hd : decode m.2.1 pc = .ok (.areturn, 1)) (hr : m.2.2.2.1 = some (.object n)) (hv : v = .null ∨ ∃ a, v = .ref a) (hq : Q (.inl (some v)) h) : AW m d mc ms pc ls [v] h Q :=
  fun E p l e R s mi args below meth c QQ H locs cells slots lr hF hL hH hc hs hE => hE.1 (some v) h H locs cells slots pc lr _ hq hH (by omega) (by omega) hd (Or.inr (Or.inr (Or.inr ⟨v, n, hr, rfl, hv, rfl⟩)))
theorem aw_ldc2 {i : Nat} {v : Int64} (hd : decode m.2.1 pc = .ok (.ldc2_w i, 3)) (hw : Cond.constantLong m.1.cls i v ∈ gtbl) (k : AW m d mc ms (pc + 3) ls (.long v :: st) h Q) : AW m d mc ms pc ls st h Q :=
  fun E p l e R s mi args below meth c QQ H locs cells slots lr hF hL hH hc hs hE => lv_ldc2 hF.1 hF.2.1 hF.2.2.2.2.1 (hF.2.2.2.2.2.1 _ hw) hd (k E p l e R s mi args below meth c QQ H locs cells slots lr hF hL hH hc hs hE)
end PURE
end
section
/-! fields and arrays -/
/-- the field j of the object a, of the kind k, is v -/
def fld (h : AH) (a k j : Nat) (v : Value) : Prop := ∃ fs, h[a]? = some (k, fs) ∧ fs[j]? = some v
/-- the place i of the array a, of the kind k, is v -/
def sel (h : AH) (a k : Nat) (i : Int32) (v : Value) : Prop := ∃ L, h[a]? = some (k, L) ∧ ¬ i < 0 ∧ L[i.toNatClampNeg]? = some v
def alen (h : AH) (a k n : Nat) : Prop := ∃ L, h[a]? = some (k, L) ∧ L.length = n
/-- a cell's slot gets a value -/
def stf (h : AH) (a j : Nat) (v : Value) : AH := match h[a]? with
  | some c => h.set a (c.1, c.2.set j v)
  | none => h
theorem stf_at {h : AH} {a j k : Nat} {v : Value} {fs : List Value} (hc : h[a]? = some (k, fs)) : stf h a j v = h.set a (k, fs.set j v) := by
  unfold stf
  rw [hc]
/-- a class: its words are among the good ones, its fields' types are read, their names differ -/
def KLS (q : vw_C) : Prop := (∀ w ∈ u_ws q.1 q.2.1 q.2.2, w ∈ gtbl) ∧ (∃ ty : Nat → FieldType, ∀ j, j < q.2.2 → parseFieldDescriptor (q.2.1 j).2.2.1 = some (ty j)) ∧ ∀ a, a < q.2.2 → ∀ b, b < q.2.2 → a ≠ b → (q.2.1 a).2.1 ≠ (q.2.1 b).2.1
/-- entry i of own's pool is the field j of the kind k -/
def FL (own : String) (i k j : Nat) (q : vw_C) : Prop := kls[k]? = some q ∧ k < 10 ∧ j < q.2.2 ∧ KLS q ∧
  (Cond.fieldLink own i (q.2.1 j).1 (q.2.1 j).2.1 (q.2.1 j).2.2.1 ∈ gtbl ∨ ∃ host, Cond.fieldLinkNest own i (q.2.1 j).1 (q.2.1 j).2.1 (q.2.1 j).2.2.1 host ∈ lw_tbl)
theorem cOK.kept {E : AE} {a : Nat} {c : AC} {H H1 : Heap} (h : cOK E a c H) (hq : c.1 < 14 → H1[ad E a]? = H[ad E a]?) : cOK E a c H1 :=
  ⟨fun hk => by
    obtain ⟨q, h1, h2, h3⟩ := h.1 hk
    exact ⟨q, h1, h2, h3.kept (hq (by omega))⟩, fun h1 h2 => (hq h2).trans (h.2.1 h1 h2), h.2.2⟩
theorem ad_ne {E : AE} {a b : Nat} (ha : a ≠ 0) (hb : b ≠ 0) (h : a ≠ b) : ad E a ≠ ad E b := by
  cases a with
  | zero => exact absurd rfl ha
  | succ a => cases b with
    | zero => exact absurd rfl hb
    | succ b => simp [ad]; omega
theorem ad_bs {E : AE} {a : Nat} (ha : a ≠ 0) : bs E ≤ ad E a := by
  cases a with
  | zero => exact absurd rfl ha
  | succ a => simp [ad, bs]
theorem Rel.ne0 {E : AE} {h : AH} {H : Heap} {a : Nat} {c : AC} (hR : Rel E h H) (hc : h[a]? = some c) (hk : c.1 < 14) : a ≠ 0 := fun z => by
  subst z
  have := hR.2.2.1 c hc
  omega
theorem Rel.set {E : AE} {h : AH} {H H1 : Heap} {a : Nat} {c c' : AC} (hR : Rel E h H) (hc : h[a]? = some c) (hk : c.1 < 14) (hz : H1.size = H.size) (ho : ∀ q, q ≠ ad E a → H1[q]? = H[q]?) (hn : cOK E a c' H1) : Rel E (h.set a c') H1 := by
  have ha := hR.ne0 hc hk
  refine ⟨by rw [List.length_set, hz]; exact hR.1, fun q hq => ?_, fun z hz0 => ?_, fun b z hb => ?_⟩
  · rw [ho q (by have := ad_bs (E := E) ha; omega)]
    exact hR.2.1 q hq
  · rw [List.getElem?_set_ne ha] at hz0
    exact hR.2.2.1 z hz0
  · rw [List.getElem?_set] at hb
    split at hb
    · split at hb
      · cases hb
        rename_i h1 _
        subst h1
        exact hn
      · cases hb
    · rename_i h1
      refine (hR.2.2.2 b z hb).kept (fun hzk => ho _ (ad_ne (hR.ne0 hb hzk) ha (Ne.symm h1)))
theorem Rel.lt {E : AE} {h : AH} {H : Heap} {a : Nat} {c : AC} (hR : Rel E h H) (hc : h[a]? = some c) (ha : a ≠ 0) : ad E a < H.size := by
  have h1 : a < h.length := (List.getElem?_eq_some_iff.mp hc).1
  have h2 := hR.1
  cases a with
  | zero => exact absurd rfl ha
  | succ a => simp only [ad]; unfold bs at h2; omega
section HEAP
variable {m : AM} {d mc ms pc : Nat} {ls st : List Value} {h : AH} {Q : AR → AH → Prop}
theorem vF_at {E : AE} {L : List Value} {j : Nat} {v : Value} (h : L[j]? = some v) : vF E L j = rv E v := by
  simp [vF, h]
theorem aw_get {i a k j : Nat} {v : Value} {q : vw_C} (hd : decode m.2.1 pc = .ok (.getfield i, 3)) (hf : FL m.1.cls i k j q) (hv : fld h a k j v) (kk : AW m d mc ms (pc + 3) ls (v :: st) h Q) : AW m d mc ms pc ls (.ref a :: st) h Q := by
  intro E p l e R s mi args below meth c QQ H locs cells slots lr hF hL hH hc hs hE
  have k9 := kk E p l e R s mi args below meth c QQ H locs cells slots lr hF hL hH hc hs hE
  obtain ⟨hk, hk10, hj, ⟨hin, -, -⟩, hlink⟩ := hf
  obtain ⟨fs, hcell, hfs⟩ := hv
  obtain ⟨q', e1, e2, cell, q1, q2, q3, q4⟩ := (hH.1.2.2.2 a _ hcell).1 hk10
  cases hk.symm.trans e1
  obtain ⟨a1, a2, a3, a4, a5, a6, a7, a8⟩ := hF
  have hKn := a7.1.1 k q hk
  obtain ⟨hS, hfc, kC, hkC, hkind⟩ := hKn
  obtain ⟨cf, kf, fi, f, hi, hsl⟩ := hS j hj
  have hst := (u_facts hfc hkC (u_lays a6 hin hj) hi).1
  have hslot : cell.slots[f.slot]? = some (rv E v) := by
    rw [hsl]
    exact (q4 j hj).trans (congrArg some (vF_at hfs))
  rcases hlink with hw | ⟨host, hw⟩
  · exact W.getf a1 a2 a5 (a6 _ hw) hi hst q1 (by rw [q3]; exact fun z => by cases z) hslot rfl rfl hd k9
  · exact va_Wgetf a1 a2 a5 (va_Nw.use rfl (a7.2.1 _ hw rfl)) hi hst q1 (by rw [q3]; exact fun z => by cases z) hslot rfl rfl hd k9
theorem aw_put {i a k j : Nat} {v v0 : Value} {q : vw_C} {ty : FieldType} (hd : decode m.2.1 pc = .ok (.putfield i, 3)) (hf : FL m.1.cls i k j q) (hfin : (q.2.1 j).2.2.2 = false ∨ ((q.2.1 j).1 = m.1.cls ∧ m.1.name = "<init>")) (hty : parseFieldDescriptor (q.2.1 j).2.2.1 = some ty) (hnr : ∀ E, narrow ty (rv E v) = rv E v) (hft : ∀ E, fits ty (rv E v) = true) (hv : fld h a k j v0) (kk : AW m d mc ms (pc + 3) ls st (stf h a j v) Q) : AW m d mc ms pc ls (v :: .ref a :: st) h Q := by
  intro E p l e R s mi args below meth c QQ H locs cells slots lr hF hL hH hc hs hE
  obtain ⟨hk, hk10, hj, ⟨hin, ⟨ty0, hty0⟩, hnm⟩, hlink⟩ := hf
  obtain ⟨fs, hcell, hfs⟩ := hv
  obtain ⟨q', e1, e2, cell, q1, q2, q3, q4⟩ := (hH.1.2.2.2 a _ hcell).1 hk10
  cases hk.symm.trans e1
  have hF0 := hF
  obtain ⟨a1, a2, a3, a4, a5, a6, a7, a8, a9, a10, a11, a12, a13, a14⟩ := hF
  have hap := va_apart (own := m.1.cls) a6 hin ty0 hty0 hnm a7.1 (ci := k) hk
  obtain ⟨hS, hfc, kC, hkC, hkind⟩ := a7.1.1 k q hk
  obtain ⟨cf, kf, fi, f, hi, hsl⟩ := hS j hj
  have hst := (u_facts hfc hkC (u_lays a6 hin hj) hi).1
  have h6 := u_fits hfc hkC hkind (u_lays a6 hin hj) hi hty (hnr E) (hft E)
  have hlay := a6 _ (hin _ (u_in_lay hj))
  have hfl : hasFlag f.accessFlags Acc.final = false ∨ (mi.cls = cf ∧ meth.name = "<init>") := by
    by_cases hfn : (q.2.1 j).2.2.2 = true
    · rcases hfin with z | ⟨z1, z2⟩
      · rw [hfn] at z; cases z
      · unfold u_lay at hlay
        rw [if_pos hfn] at hlay
        obtain ⟨_, _, c', _, _, _, -, -, hf', -, -, -, hown2, -⟩ := Cond.laysFinal_spec hlay
        have e1 : c' = cf := by have := hi.symm.trans hf'; simp at this; exact this.1.symm
        rw [z1] at hown2
        exact Or.inr ⟨by rw [← e1]; exact Option.some.inj (a5.symm.trans hown2), a13 z2⟩
    · unfold u_lay at hlay
      rw [if_neg hfn] at hlay
      exact Or.inl (u_store hfc hkC hkind hlay hi hty (hnr E) (hft E)).1
  have hlt : f.slot < cell.slots.size := by rw [hsl]; exact k2_hasslot (q4 j hj)
  have hltA : ad E a < H.size := (Array.getElem?_eq_some_iff.mp q1).1
  have hfl2 : j < fs.length := by rw [e2]; exact hj
  have hn0 := hH.1.ne0 hcell (show k < 14 by omega)
  have hsz : (H.setIfInBounds (ad E a) (cell.setSlot f.slot (rv E v))).size = H.size := by simp
  have hoth : ∀ x, x ≠ ad E a → (H.setIfInBounds (ad E a) (cell.setSlot f.slot (rv E v)))[x]? = H[x]? := fun x hx => by simp [Array.getElem?_setIfInBounds, Ne.symm hx]
  have hme : (H.setIfInBounds (ad E a) (cell.setSlot f.slot (rv E v)))[ad E a]? = some (cell.setSlot f.slot (rv E v)) := by simp [Array.getElem?_setIfInBounds, hltA]
  have hR : Rel E (stf h a j v) (H.setIfInBounds (ad E a) (cell.setSlot f.slot (rv E v))) := by
    rw [stf_at hcell]
    refine hH.1.set hcell (show k < 14 by omega) hsz hoth ⟨fun _ => ⟨q, hk, by rw [List.length_set]; exact e2, ?_⟩, fun z => absurd z (Nat.not_le.mpr hk10), fun z => absurd z (by show k ≠ 14; omega)⟩
    refine ⟨_, hme, q2, q3, fun x hx => ?_⟩
    have h9 := t_set (cell := cell) (N := q.2.2) (iS := (dG E).2 k) (V := vF E fs) q4 hap hj (rv E v) x hx
    rw [hsl, h9]
    congr 1
    by_cases hxj : x = j
    · subst hxj
      simp [updV, vF, hfl2]
    · simp [updV, vF, hxj, List.getElem?_set, Ne.symm hxj]
  have k9 := kk E p l e R s mi args below meth c QQ _ (locs ++ [⟨ad E a, f.slot⟩]) cells slots lr hF0 hL ⟨hR, by rw [hsz]; exact hH.2.1, fun z hz => by
    rcases List.mem_append.mp hz with z1 | z1
    · exact hH.2.2 z z1
    · rw [List.mem_singleton.mp z1]
      exact ad_bs hn0⟩ hc hs hE
  rcases hlink with hw | ⟨host, hw⟩
  · exact W.putf a1 a2 a5 (a6 _ hw) hi hst hfl q1 (by rw [q3]; exact fun z => by cases z) hlt h6.1 (by rw [q2, q3]; exact h6.2) rfl rfl hd k9
  · exact va_Wputf a1 a2 a5 (va_Nw.use rfl (a7.2.1 _ hw rfl)) hi hst hfl q1 (by rw [q3]; exact fun z => by cases z) hlt h6.1 (by rw [q2, q3]; exact h6.2) rfl rfl hd k9
end HEAP
end
section
/-! arrays, new cells -/
section ARR
variable {m : AM} {d mc ms pc : Nat} {ls st : List Value} {h : AH} {Q : AR → AH → Prop}
theorem vF_lt {E : AE} {L : List Value} {n : Nat} {v : Value} (cA : ClassId) (h : L[n]? = some v) : (arrV cA L.length (vF E L)).slots[n]? = some (rv E v) := by
  rw [arrV_read _ _ (List.getElem?_eq_some_iff.mp h).1, vF_at h]
theorem KS.arr {E : AE} {U : State} (hK : KS E U) {k : Nat} (h1 : 10 ≤ k) (h2 : k < 14) (n : Nat) (z : Nat → Value) : U.isArrayOf (arrV (dA E k) n z) (aty k) := by
  have h9 := hK.1.2
  rcases (show k = 10 ∨ k = 11 ∨ k = 12 ∨ k = 13 by omega) with rfl | rfl | rfl | rfl
  · exact (h9 0 _ rfl).1 n z
  · exact (h9 1 _ rfl).1 n z
  · exact (h9 2 _ rfl).1 n z
  · exact (h9 3 _ rfl).1 n z
theorem arr_in {E : AE} {L : List Value} {n : Nat} {i : Int32} {v : Value} (cA : ClassId) (h0 : ¬ i < 0) (h : L[i.toNatClampNeg]? = some v) : ¬ (i < 0 ∨ (arrV cA L.length (vF E L)).slots.size ≤ i.toNatClampNeg) := by
  rw [arrV_size]
  have := (List.getElem?_eq_some_iff.mp h).1
  rintro (z | z)
  · exact h0 z
  · omega
theorem aw_iaload {a : Nat} {i : Int32} {x : Int32} (hd : decode m.2.1 pc = .ok (.iaload, 1)) (hv : sel h a 10 i (.int x)) (kk : AW m d mc ms (pc + 1) ls (.int x :: st) h Q) : AW m d mc ms pc ls (.int i :: .ref a :: st) h Q := by
  intro E p l e R s mi args below meth c QQ H locs cells slots lr hF hL hH hc hs hE
  have k9 := kk E p l e R s mi args below meth c QQ H locs cells slots lr hF hL hH hc hs hE
  obtain ⟨L, hcell, h0, hL1⟩ := hv
  have h1 := (hH.1.2.2.2 a _ hcell).2.1 (by show 10 ≤ 10; omega) (by show 10 < 14; omega)
  exact W.iald (v := .int x) hF.1 hF.2.1 h1 (hF.2.2.2.2.2.2.1.arr (k := 10) (by omega) (by omega) _ _) (fun z => by cases z) (arr_in (n := 0) _ h0 hL1) (vF_lt _ hL1) rfl rfl hd k9
theorem aw_laload {a : Nat} {i : Int32} {x : Int64} (hd : decode m.2.1 pc = .ok (.laload, 1)) (hv : sel h a 11 i (.long x)) (kk : AW m d mc ms (pc + 1) ls (.long x :: st) h Q) : AW m d mc ms pc ls (.int i :: .ref a :: st) h Q := by
  intro E p l e R s mi args below meth c QQ H locs cells slots lr hF hL hH hc hs hE
  have k9 := kk E p l e R s mi args below meth c QQ H locs cells slots lr hF hL hH hc hs hE
  obtain ⟨L, hcell, h0, hL1⟩ := hv
  have h1 := (hH.1.2.2.2 a _ hcell).2.1 (by show 10 ≤ 11; omega) (by show 11 < 14; omega)
  exact W.lald (v := .long x) hF.1 hF.2.1 h1 (hF.2.2.2.2.2.2.1.arr (k := 11) (by omega) (by omega) _ _) (fun z => by cases z) (arr_in (n := 0) _ h0 hL1) (vF_lt _ hL1) rfl rfl hd k9
theorem aw_baload {a : Nat} {i : Int32} {x : Int32} (hd : decode m.2.1 pc = .ok (.baload, 1)) (hv : sel h a 12 i (.int x)) (kk : AW m d mc ms (pc + 1) ls (.int x :: st) h Q) : AW m d mc ms pc ls (.int i :: .ref a :: st) h Q := by
  intro E p l e R s mi args below meth c QQ H locs cells slots lr hF hL hH hc hs hE
  have k9 := kk E p l e R s mi args below meth c QQ H locs cells slots lr hF hL hH hc hs hE
  obtain ⟨L, hcell, h0, hL1⟩ := hv
  have h1 := (hH.1.2.2.2 a _ hcell).2.1 (by show 10 ≤ 12; omega) (by show 12 < 14; omega)
  exact W.zald (v := .int x) hF.1 hF.2.1 h1 (hF.2.2.2.2.2.2.1.arr (k := 12) (by omega) (by omega) _ _) (fun z => by cases z) (arr_in (n := 0) _ h0 hL1) (vF_lt _ hL1) rfl rfl hd k9
theorem aw_aaload {a b : Nat} {i : Int32} (hd : decode m.2.1 pc = .ok (.aaload, 1)) (hv : sel h a 13 i (.ref b)) (kk : AW m d mc ms (pc + 1) ls (.ref b :: st) h Q) : AW m d mc ms pc ls (.int i :: .ref a :: st) h Q := by
  intro E p l e R s mi args below meth c QQ H locs cells slots lr hF hL hH hc hs hE
  have k9 := kk E p l e R s mi args below meth c QQ H locs cells slots lr hF hL hH hc hs hE
  obtain ⟨L, hcell, h0, hL1⟩ := hv
  have h1 := (hH.1.2.2.2 a _ hcell).2.1 (by show 10 ≤ 13; omega) (by show 13 < 14; omega)
  exact W.aald (v := .ref (ad E b)) hF.1 hF.2.1 h1 (hF.2.2.2.2.2.2.1.arr (k := 13) (by omega) (by omega) _ _) rfl (fun z => by cases z) (arr_in (n := 0) _ h0 hL1) (vF_lt _ hL1) rfl rfl hd k9
/-- the script, that lies at the address 0 -/
theorem aw_sload {a : Nat} {i : Int32} {x : Int32} (hd : decode m.2.1 pc = .ok (.iaload, 1)) (hv : sel h a 14 i (.int x)) (kk : AW m d mc ms (pc + 1) ls (.int x :: st) h Q) : AW m d mc ms pc ls (.int i :: .ref a :: st) h Q := by
  intro E p l e R s mi args below meth c QQ H locs cells slots lr hF hL hH hc hs hE
  have k9 := kk E p l e R s mi args below meth c QQ H locs cells slots lr hF hL hH hc hs hE
  obtain ⟨L, hcell, h0, hL1⟩ := hv
  obtain ⟨rfl, h2⟩ := (hH.1.2.2.2 a _ hcell).2.2 rfl
  simp only at h2
  subst h2
  obtain ⟨-, -, -, -, -, -, -, ⟨scr, g1, g2, g3, g4, g5⟩, hb, -⟩ := hF.2.2.2.2.2.2.1
  rw [List.getElem?_map] at hL1
  have hlt : i.toNatClampNeg < E.2.2.1.length := by
    cases hq : E.2.2.1[i.toNatClampNeg]? with
    | none => rw [hq] at hL1; cases hL1
    | some w => exact (List.getElem?_eq_some_iff.mp hq).1
  have hx : E.2.2.1.getD i.toNatClampNeg 0 = x := by
    rw [List.getElem?_eq_getElem hlt] at hL1
    simp at hL1
    simp [hlt, hL1]
  refine W.iald (v := .int x) (cell := scr) hF.1 hF.2.1 (a := ad E 0) ((hH.1.2.1 _ hb).trans g1) g2 g3 ?_ ?_ rfl rfl hd k9
  · rw [g4]
    rintro (z | z)
    · exact h0 z
    · omega
  · exact (g5 _ hlt).trans (by show some (Value.int (E.2.2.1.getD i.toNatClampNeg 0)) = _; rw [hx])
theorem aw_slen {a n : Nat} (hd : decode m.2.1 pc = .ok (.arraylength, 1)) (hv : alen h a 14 n) (kk : AW m d mc ms (pc + 1) ls (.int (Int32.ofNat n) :: st) h Q) : AW m d mc ms pc ls (.ref a :: st) h Q := by
  intro E p l e R s mi args below meth c QQ H locs cells slots lr hF hL hH hc hs hE
  have k9 := kk E p l e R s mi args below meth c QQ H locs cells slots lr hF hL hH hc hs hE
  obtain ⟨L, hcell, hn⟩ := hv
  obtain ⟨rfl, h2⟩ := (hH.1.2.2.2 a _ hcell).2.2 rfl
  simp only at h2
  subst h2
  obtain ⟨-, -, -, -, -, -, -, ⟨scr, g1, g2, g3, g4, g5⟩, hb, -⟩ := hF.2.2.2.2.2.2.1
  rw [List.length_map] at hn
  exact W.alen (n := Int32.ofNat n) (cell := scr) hF.1 hF.2.1 (a := ad E 0) ((hH.1.2.1 _ hb).trans g1) g2 (by rw [g4, hn]) rfl rfl hd k9
theorem aw_alen {a k n : Nat} (hd : decode m.2.1 pc = .ok (.arraylength, 1)) (hk1 : 10 ≤ k) (hk2 : k < 14) (hv : alen h a k n) (kk : AW m d mc ms (pc + 1) ls (.int (Int32.ofNat n) :: st) h Q) : AW m d mc ms pc ls (.ref a :: st) h Q := by
  intro E p l e R s mi args below meth c QQ H locs cells slots lr hF hL hH hc hs hE
  have k9 := kk E p l e R s mi args below meth c QQ H locs cells slots lr hF hL hH hc hs hE
  obtain ⟨L, hcell, hn⟩ := hv
  have h1 := (hH.1.2.2.2 a _ hcell).2.1 hk1 hk2
  exact W.alen (n := Int32.ofNat n) hF.1 hF.2.1 h1 (hF.2.2.2.2.2.2.1.arr hk1 hk2 _ _) (by rw [arrV_size, ← hn]) rfl rfl hd k9
theorem arrV_congr (cA : ClassId) {n : Nat} {f g : Nat → Value} (hfg : ∀ j, j < n → f j = g j) : arrV cA n f = arrV cA n g := by
  unfold arrV
  congr 1
  apply Array.ext
  · simp
  · intro j h1 h2
    simp at h1
    simp [hfg j h1]
theorem vF_set {E : AE} {L : List Value} (cA : ClassId) {n : Nat} {v : Value} (hn : n < L.length) : (arrV cA L.length (vF E L)).setSlot n (rv E v) = arrV cA (L.set n v).length (vF E (L.set n v)) := by
  rw [arrV_store, List.length_set]
  refine arrV_congr cA fun j hj => ?_
  by_cases hjn : j = n
  · subst hjn
    simp [updV, vF, hn]
  · simp [updV, vF, hjn, List.getElem?_set, Ne.symm hjn]
theorem HOK.sta {E : AE} {s : State} {H H1 : Heap} {locs : List Loc} {a k n : Nat} {L : List Value} {v : Value} (hH : HOK E s h H locs) (hcell : h[a]? = some (k, L)) (hk1 : 10 ≤ k) (hk2 : k < 14) (hn : n < L.length) (e1 : H1[ad E a]? = some ((arrV (dA E k) L.length (vF E L)).setSlot n (rv E v))) (e2 : H1.size = H.size) (e3 : ∀ q, q ≠ ad E a → H1[q]? = H[q]?) : HOK E s (stf h a n v) H1 (locs ++ [⟨ad E a, n⟩]) := by
  have hn0 := hH.1.ne0 hcell hk2
  refine ⟨?_, by rw [e2]; exact hH.2.1, fun z hz => ?_⟩
  · rw [stf_at hcell]
    refine hH.1.set hcell hk2 e2 e3 ⟨fun z => absurd hk1 (Nat.not_le.mpr z), fun _ _ => ?_, fun z => absurd z (by show k ≠ 14; omega)⟩
    rw [e1, vF_set _ hn]
  · rcases List.mem_append.mp hz with z1 | z1
    · exact hH.2.2 z z1
    · rw [List.mem_singleton.mp z1]
      exact ad_bs hn0
theorem aw_iastore {a : Nat} {i x : Int32} {v0 : Value} (hd : decode m.2.1 pc = .ok (.iastore, 1)) (hv : sel h a 10 i v0) (kk : AW m d mc ms (pc + 1) ls st (stf h a i.toNatClampNeg (.int x)) Q) : AW m d mc ms pc ls (.int x :: .int i :: .ref a :: st) h Q := by
  intro E p l e R s mi args below meth c QQ H locs cells slots lr hF hL hH hc hs hE
  obtain ⟨L, hcell, h0, hL1⟩ := hv
  have h1 := (hH.1.2.2.2 a _ hcell).2.1 (by show 10 ≤ 10; omega) (by show 10 < 14; omega)
  exact W.iast hF.1 hF.2.1 h1 (hF.2.2.2.2.2.2.1.arr (k := 10) (by omega) (by omega) _ _) (fun z => by cases z) (arr_in (n := 0) _ h0 hL1) rfl rfl hd (fun H1 e1 e2 e3 =>
    kk E p l e R s mi args below meth c QQ H1 _ cells slots lr hF hL (hH.sta (v := .int x) hcell (by omega) (by omega) (List.getElem?_eq_some_iff.mp hL1).1 e1 e2 e3) hc hs hE)
theorem aw_lastore {a : Nat} {i : Int32} {x : Int64} {v0 : Value} (hd : decode m.2.1 pc = .ok (.lastore, 1)) (hv : sel h a 11 i v0) (kk : AW m d mc ms (pc + 1) ls st (stf h a i.toNatClampNeg (.long x)) Q) : AW m d mc ms pc ls (.long x :: .int i :: .ref a :: st) h Q := by
  intro E p l e R s mi args below meth c QQ H locs cells slots lr hF hL hH hc hs hE
  obtain ⟨L, hcell, h0, hL1⟩ := hv
  have h1 := (hH.1.2.2.2 a _ hcell).2.1 (by show 10 ≤ 11; omega) (by show 11 < 14; omega)
  exact W.last hF.1 hF.2.1 h1 (hF.2.2.2.2.2.2.1.arr (k := 11) (by omega) (by omega) _ _) (fun z => by cases z) (arr_in (n := 0) _ h0 hL1) rfl rfl hd (fun H1 e1 e2 e3 =>
    kk E p l e R s mi args below meth c QQ H1 _ cells slots lr hF hL (hH.sta (v := .long x) hcell (by omega) (by omega) (List.getElem?_eq_some_iff.mp hL1).1 e1 e2 e3) hc hs hE)
theorem aw_bastore {a : Nat} {i x : Int32} {v0 : Value} (hd : decode m.2.1 pc = .ok (.bastore, 1)) (hv : sel h a 12 i v0) (hx : narrow .boolean (.int x) = .int x) (kk : AW m d mc ms (pc + 1) ls st (stf h a i.toNatClampNeg (.int x)) Q) : AW m d mc ms pc ls (.int x :: .int i :: .ref a :: st) h Q := by
  intro E p l e R s mi args below meth c QQ H locs cells slots lr hF hL hH hc hs hE
  obtain ⟨L, hcell, h0, hL1⟩ := hv
  have h1 := (hH.1.2.2.2 a _ hcell).2.1 (by show 10 ≤ 12; omega) (by show 12 < 14; omega)
  exact W.zast hF.1 hF.2.1 h1 (hF.2.2.2.2.2.2.1.arr (k := 12) (by omega) (by omega) _ _) (fun z => by cases z) (arr_in (n := 0) _ h0 hL1) rfl rfl hd (fun H1 e1 e2 e3 =>
    kk E p l e R s mi args below meth c QQ H1 _ cells slots lr hF hL (hH.sta (v := .int x) hcell (by omega) (by omega) (List.getElem?_eq_some_iff.mp hL1).1 (by rw [hx] at e1; exact e1) e2 e3) hc hs hE)
/-- an object of the kind 0 into an array of such -/
theorem aw_aastore {a b : Nat} {i : Int32} {v0 : Value} {fs : List Value} (hd : decode m.2.1 pc = .ok (.aastore, 1)) (hv : sel h a 13 i v0) (hb : h[b]? = some (0, fs)) (kk : AW m d mc ms (pc + 1) ls st (stf h a i.toNatClampNeg (.ref b)) Q) : AW m d mc ms pc ls (.ref b :: .int i :: .ref a :: st) h Q := by
  intro E p l e R s mi args below meth c QQ H locs cells slots lr hF hL hH hc hs hE
  obtain ⟨L, hcell, h0, hL1⟩ := hv
  have h1 := (hH.1.2.2.2 a _ hcell).2.1 (by show 10 ≤ 13; omega) (by show 13 < 14; omega)
  obtain ⟨q, hq, -, cell, g1, g2, g3, -⟩ := (hH.1.2.2.2 b _ hb).1 (by show 0 < 10; omega)
  cases hq
  have hK := hF.2.2.2.2.2.2.1.1
  have hcls := (hK.1 0 _ rfl).2
  obtain ⟨kA, comp, k1, k2, k3, -⟩ := (hK.2 3 _ rfl).2
  have hcomp : comp = (dG E).1 0 := Option.some.inj (k3.symm.trans hcls.1)
  subst hcomp
  obtain ⟨kC, hkC, -⟩ := hcls.2
  have hlt := (List.getElem?_eq_some_iff.mp hL1).1
  exact W.aast hF.1 hF.2.1 h1 (fun q z => by cases z) (fun z => by cases z) k1 k2 rfl hkC ⟨h0, by rw [arrV_size]; exact hlt⟩ g1 (fun q z => by rw [g3] at z; cases z) (by rw [g2]; exact hkC) (by rw [g2]; exact va_assign hcls) rfl rfl hd (fun H1 e1 e2 e3 =>
    kk E p l e R s mi args below meth c QQ H1 _ cells slots lr hF hL (hH.sta (v := .ref b) hcell (by omega) (by omega) hlt e1 e2 e3) hc hs hE)
/-- a new cell behind the others -/
theorem HOK.push {E : AE} {s : State} {H H1 : Heap} {locs : List Loc} {c0 : AC} (hH : HOK E s h H locs) (e2 : H1.size = H.size + 1) (e3 : ∀ q, q < H.size → H1[q]? = H[q]?) (hne : h.length ≠ 0) (hn : cOK E h.length c0 H1) (hk : c0.1 ≠ 14) : HOK E s (h ++ [c0]) H1 locs ∧ ad E h.length = H.size := by
  have h1 := hH.1.1
  have had : ad E h.length = H.size := by
    cases hl : h.length with
    | zero => exact absurd hl hne
    | succ n => rw [hl] at h1; simp only [ad]; unfold bs at h1; omega
  have hbs : bs E ≤ H.size := by omega
  refine ⟨⟨⟨by rw [List.length_append, e2]; simp; omega, fun q hq => (e3 q (by omega)).trans (hH.1.2.1 q hq), fun c hc => ?_, fun b c hb => ?_⟩, by rw [e2]; have := hH.2.1; omega, hH.2.2⟩, had⟩
  · rw [List.getElem?_append_left (by omega)] at hc
    exact hH.1.2.2.1 c hc
  · by_cases hbl : b < h.length
    · rw [List.getElem?_append_left hbl] at hb
      refine (hH.1.2.2.2 b c hb).kept fun hk => e3 _ ?_
      exact hH.1.lt hb (hH.1.ne0 hb hk)
    · rw [List.getElem?_append_right (by omega)] at hb
      have hz := (List.getElem?_eq_some_iff.mp hb).1
      simp at hz
      have hbe : b = h.length := by omega
      subst hbe
      simp at hb
      subst hb
      exact hn
/-- the fields of a new object of the kind k -/
def fresh (k : Nat) (fs : List Value) : Prop := ∃ (q : vw_C) (ty : Nat → FieldType), kls[k]? = some q ∧ k < 10 ∧ fs.length = q.2.2 ∧ (∀ w ∈ u_ws q.1 q.2.1 q.2.2, w ∈ gtbl) ∧ (∀ j, j < q.2.2 → parseFieldDescriptor (q.2.1 j).2.2.1 = some (ty j)) ∧ (∀ E j, j < q.2.2 → defaultValue (ty j) = vF E fs j) ∧ Cond.instantiable q.1 q.2.2 ∈ gtbl ∧ Cond.initialized q.1 ∈ gtbl
theorem aw_new {i k n : Nat} {q : vw_C} {fs : List Value} (hd : decode m.2.1 pc = .ok (.new i, 3)) (hq : kls[k]? = some q) (hn : q.2.2 = n) (hf : fresh k fs) (hw : Cond.classLink m.1.cls i q.1 ∈ gtbl) (hne : h.length ≠ 0) (kk : AW m d mc ms (pc + 3) ls (.ref h.length :: st) (h ++ [(k, fs)]) Q) : AW m d (mc + 1) (ms + n) pc ls st h Q := by
  intro E p l e R s mi args below meth c QQ H locs cells slots lr hF hL hH hc hs hE
  obtain ⟨q', ty, e1, hk10, hlen, hin, hty, hdf, hins, hini⟩ := hf
  cases hq.symm.trans e1
  subst hn
  have hKn := hF.2.2.2.2.2.2.1.1.1 k q hq
  have a6 := hF.2.2.2.2.2.1
  refine W.newcK hF.1 hF.2.1 hF.2.2.2.2.1 (a6 _ hw) (a6 _ hins) (a6 _ hini) rfl hd (by omega) (by omega) hKn.2.1 rfl fun H1 kC hkC e1 z1 o1 => ?_
  have hb0 := u_born ty a6 hin hKn hkC e1 hty
  have had : ad E h.length = H.size := by
    have h1 := hH.1.1
    cases hl : h.length with
    | zero => exact absurd hl hne
    | succ n => rw [hl] at h1; simp only [ad]; unfold bs at h1; omega
  have hp := hH.push (c0 := (k, fs)) z1 o1 hne ⟨fun _ => ⟨q, hq, hlen, by rw [had]; exact hb0.to (fun j hj => hdf E j hj)⟩, fun z => absurd z (Nat.not_le.mpr hk10), fun z => absurd z (by show k ≠ 14; omega)⟩ (by show k ≠ 14; omega)
  have k9 := kk E p l e R s mi args below meth c QQ H1 locs (cells + 1) (slots + q.2.2) lr hF hL hp.1 (by omega) (by omega) hE
  have e9 : (Value.ref h.length :: st).map (rv E) = .ref H.size :: st.map (rv E) := by simp [rv, had]
  rw [e9] at k9
  exact k9
theorem aw_newarr {at9 : ArrayType} {k : Nat} {n : Int32} (hd : decode m.2.1 pc = .ok (.newarray at9, 2)) (hat : newarray.typeOf at9 = aty k) (hk1 : 10 ≤ k) (hk2 : k < 13) (hn : ¬ n < 0) (hw : Cond.arrayClass (aty k) ∈ gtbl) (hbt : n.toNatClampNeg * componentBytes (aty k) ≤ 536870912) (hne : h.length ≠ 0) (kk : AW m d mc ms (pc + 2) ls (.ref h.length :: st) (h ++ [(k, List.replicate n.toNatClampNeg (defaultValue (aty k)))]) Q) : AW m d (mc + 1) (ms + n.toNatClampNeg) pc ls (.int n :: st) h Q := by
  intro E p l e R s mi args below meth c QQ H locs cells slots lr hF hL hH hc hs hE
  have a6 := hF.2.2.2.2.2.1
  have hKt : va_RA s (dA E k) (aty k) := by
    have h9 := hF.2.2.2.2.2.2.1.1.2
    rcases (show k = 10 ∨ k = 11 ∨ k = 12 by omega) with rfl | rfl | rfl
    · exact (h9 0 _ rfl).2
    · exact (h9 1 _ rfl).2
    · exact (h9 2 _ rfl).2
  have hnm : s.vm.findClass ("[" ++ (aty k).toString) = some (dA E k) := by
    rcases (show k = 10 ∨ k = 11 ∨ k = 12 by omega) with rfl | rfl | rfl <;> exact hKt
  have had : ad E h.length = H.size := by
    have h1 := hH.1.1
    cases hl : h.length with
    | zero => exact absurd hl hne
    | succ n => rw [hl] at h1; simp only [ad]; unfold bs at h1; omega
  refine W.newa hF.1 hF.2.1 (by rw [hat]; exact a6 _ hw) rfl hd rfl hn (by rw [hat]; exact hbt) (by omega) (by omega) fun cA kA comp f1 f2 f3 => ?_
  rw [hat] at f1
  have hcA : cA = dA E k := Option.some.inj (f1.symm.trans hnm)
  subst hcA
  have hdv : rv E (defaultValue (aty k)) = defaultValue (aty k) := by
    rcases (show k = 10 ∨ k = 11 ∨ k = 12 by omega) with rfl | rfl | rfl <;> rfl
  have hcl : cOK E h.length (k, List.replicate n.toNatClampNeg (defaultValue (aty k))) (H.push { cls := dA E k, slots := Array.replicate n.toNatClampNeg (defaultValue (aty k)), vm := .none }) := by
    refine ⟨fun z => absurd hk1 (Nat.not_le.mpr z), fun _ _ => ?_, fun z => absurd z (by show k ≠ 14; omega)⟩
    rw [had, arrV_new]
    simp only [Array.getElem?_push_size, Option.some.injEq, List.length_replicate]
    refine arrV_congr _ fun j hj => ?_
    simp [vF, List.getElem?_replicate, hj, hdv]
  have hp := hH.push (H1 := H.push { cls := dA E k, slots := Array.replicate n.toNatClampNeg (defaultValue (aty k)), vm := .none }) (by simp) (fun q hq => by rw [Array.getElem?_push, if_neg (Nat.ne_of_lt hq)]) hne hcl (by show k ≠ 14; omega)
  have k9 := kk E p l e R s mi args below meth c QQ _ locs (cells + 1) (slots + n.toNatClampNeg) lr hF hL hp.1 (by omega) (by omega) hE
  have e9 : (Value.ref h.length :: st).map (rv E) = .ref H.size :: st.map (rv E) := by simp [rv, had]
  rw [e9] at k9
  rw [hat]
  exact k9
theorem aw_newrefs {i : Nat} {n : Int32} (hd : decode m.2.1 pc = .ok (.anewarray i, 3)) (hw : Cond.classLink m.1.cls i RX0 ∈ gtbl) (hn : ¬ n < 0) (hbt : n.toNatClampNeg * 4 ≤ 536870912) (hne : h.length ≠ 0) (kk : AW m d mc ms (pc + 3) ls (.ref h.length :: st) (h ++ [(13, List.replicate n.toNatClampNeg .null)]) Q) : AW m d (mc + 1) (ms + n.toNatClampNeg) pc ls (.int n :: st) h Q := by
  intro E p l e R s mi args below meth c QQ H locs cells slots lr hF hL hH hc hs hE
  have a6 := hF.2.2.2.2.2.1
  have hKS := hF.2.2.2.2.2.2.1
  obtain ⟨kA0, comp0, k1, k2, k3, hnm⟩ := (hKS.1.2 3 _ rfl).2
  have had : ad E h.length = H.size := by
    have h1 := hH.1.1
    cases hl : h.length with
    | zero => exact absurd hl hne
    | succ n => rw [hl] at h1; simp only [ad]; unfold bs at h1; omega
  refine W.anew hF.1 hF.2.1 hF.2.2.2.2.1 (a6 _ hw) (va_AO.use hKS.2.2.2.2.2.2.2.2.2) rfl hd rfl hn hbt (by omega) (by omega) fun cA kA comp f1 f2 f3 f4 => ?_
  have hcA : cA = dA E 13 := Option.some.inj (f1.symm.trans hnm)
  subst hcA
  have hcl : cOK E h.length (13, List.replicate n.toNatClampNeg .null) (H.push { cls := dA E 13, slots := Array.replicate n.toNatClampNeg .null, vm := .none }) := by
    refine ⟨fun z => absurd z (by show ¬ 13 < 10; omega), fun _ _ => ?_, fun z => absurd z (by show 13 ≠ 14; omega)⟩
    rw [had, arrV_new]
    simp only [Array.getElem?_push_size, Option.some.injEq, List.length_replicate]
    refine arrV_congr _ fun j hj => ?_
    simp [vF, List.getElem?_replicate, hj, rv]
  have hp := hH.push (H1 := H.push { cls := dA E 13, slots := Array.replicate n.toNatClampNeg .null, vm := .none }) (by simp) (fun q hq => by rw [Array.getElem?_push, if_neg (Nat.ne_of_lt hq)]) hne hcl (by show 13 ≠ 14; omega)
  have k9 := kk E p l e R s mi args below meth c QQ _ locs (cells + 1) (slots + n.toNatClampNeg) lr hF hL hp.1 (by omega) (by omega) hE
  have e9 : (Value.ref h.length :: st).map (rv E) = .ref H.size :: st.map (rv E) := by simp [rv, had]
  rw [e9] at k9
  exact k9
end ARR
end
section
/-! contracts and calls -/
def PcA (E : AE) (avs : List Value) (h : AH) : Array Value → State → Prop := fun v U => v = (avs.map (rv E)).toArray ∧ Rel E h U.heap ∧ KS E U
def QcA (E : AE) (Q : Option Value → AH → Prop) : Array Value → State → Outcome → State → Prop := fun _ st o t => ∃ (r : Option Value) (h : AH), o = .returned (r.map (rv E)) ∧ Q r h ∧ Rel E h t.heap ∧ st.heap.size ≤ t.heap.size
def junk (k : Nat) : AH := List.replicate k (15, [])
def XCA (E : AE) (Q : AR → AH → Prop) : String → State → State → Prop := fun cn st t => ∃ (x : Nat) (h : AH) (k : Nat), cn = exn x ∧ Q (.inr x) h ∧ Rel E (h ++ junk k) t.heap ∧ st.heap.size ≤ t.heap.size
def rmA (d mc ms : Nat) : Room := { frames := d, cells := mc, slots := ms, locals := 37 * d }
/-- what a method that throws nothing does -/
def Ct (m : AM) (d mc ms : Nat) (avs : List Value) (h : AH) (Q : Option Value → AH → Prop) : Prop :=
  ∀ (l : Launch) (E : AE), l.stackTraces = false → Met l m.1 (awsM m) (rmA d mc ms) (PcA E avs h) (QcA E Q) mc ms (fun q => bs E ≤ q)
/-- what a method that may throw does -/
def CtX (m : AM) (d mc ms : Nat) (avs : List Value) (h : AH) (Q : AR → AH → Prop) : Prop :=
  ∀ (l : Launch) (E : AE), l.stackTraces = false → vx_Met l m.1 (awsM m) (rmA d mc ms) (PcA E avs h) (QcA E (fun r => Q (.inl r))) (XCA E Q) mc ms (fun q => bs E ≤ q)
def nt (Q : Option Value → AH → Prop) : AR → AH → Prop := fun r h => ∃ v, r = .inl v ∧ Q v h
theorem nt.i {Q : Option Value → AH → Prop} {v : Option Value} {h : AH} (hq : Q v h) : nt Q (.inl v) h := ⟨v, rfl, hq⟩
def entL : List Value → List Value
  | [] => []
  | v :: t => if v.category = 2 then v :: vU :: entL t else v :: entL t
/-- the locals at a method's start -/
def ent (avs : List Value) (n : Nat) : List Value := entL avs ++ List.replicate (n - (entL avs).length) vU
theorem entL_len (E : AE) (avs : List Value) : (lg_sl (avs.map (rv E))).length = (entL avs).length := by
  induction avs with
  | nil => rfl
  | cons v t ih =>
    simp only [lg_sl, List.map_cons, List.flatMap_cons, List.length_append] at ih ⊢
    simp only [rv_cat, entL]
    split
    · simp [← ih]; omega
    · simp [← ih]; omega
theorem entL_mem (E : AE) (avs : List Value) : ∀ (k i : Nat) (v : Value), (entL avs)[i]? = some v → v ≠ vU → (k + i, rv E v) ∈ lv_args k (avs.map (rv E)) := by
  induction avs with
  | nil => intro k i v h; simp [entL] at h
  | cons w t ih =>
    intro k i v h hv
    simp only [entL] at h
    simp only [List.map_cons, lv_args, rv_cat]
    by_cases hc : w.category = 2
    · rw [if_pos hc] at h
      rw [if_pos hc]
      match i, h with
      | 0, h => simp at h; subst h; exact List.mem_cons_self
      | 1, h => simp at h; exact absurd h.symm hv
      | i + 2, h =>
        simp at h
        have := ih (k + 2) i v h hv
        rw [show k + (i + 2) = k + 2 + i by omega]
        exact List.mem_cons_of_mem _ this
    · rw [if_neg hc] at h
      rw [if_neg hc]
      match i, h with
      | 0, h => simp at h; subst h; exact List.mem_cons_self
      | i + 1, h =>
        simp at h
        have := ih (k + 1) i v h hv
        rw [show k + (i + 1) = k + 1 + i by omega]
        exact List.mem_cons_of_mem _ this
theorem ent_LOK {E : AE} {avs : List Value} {n : Nat} (hn : (entL avs).length ≤ n) : LOK E n (ent avs n) ((lg_sl (avs.map (rv E)) ++ List.replicate (n - (lg_sl (avs.map (rv E))).length) Slot.unset).toArray) := by
  have h := lv_entry (avs.map (rv E)) (n := n) (by rw [entL_len]; exact hn)
  refine ⟨by simp [ent]; omega, h.1, h.2.1, fun i v hi hv => ?_⟩
  unfold ent at hi
  by_cases hl : i < (entL avs).length
  · rw [List.getElem?_append_left hl] at hi
    have := entL_mem E avs 0 i v hi hv
    rw [Nat.zero_add] at this
    exact h.2.2 _ this
  · rw [List.getElem?_append_right (by omega), List.getElem?_replicate] at hi
    split at hi
    · cases hi; exact absurd rfl hv
    · cases hi
theorem Rel.bsz {E : AE} {h : AH} {H : Heap} (hR : Rel E h H) : bs E ≤ H.size ∧ h.length ≠ 0 := by
  have h1 := hR.1
  have h2 := hR.2.1
  have h3 : bs E ≤ H.size := by
    rcases Nat.lt_or_ge H.size (bs E) with q | q
    · have h4 := h2 H.size q
      rw [Array.getElem?_eq_none (Nat.le_refl _), Array.getElem?_eq_getElem (show H.size < E.2.1.size from q)] at h4
      cases h4
    · exact q
  exact ⟨h3, by omega⟩
/-- a method's own facts: its code and class among the good words -/
def MOK (m : AM) (n : Nat) : Prop := cwd m ∈ gtbl ∧ Cond.initialized m.1.cls ∈ gtbl ∧ (m.1.cls ≠ "java/lang/invoke/MethodHandle" ∧ m.1.cls ≠ "java/lang/invoke/VarHandle") ∧ plainName m.1.cls = true ∧ m.2.2.1 ≤ 18 ∧ (parseMethodDescriptor m.1.desc).map (fun d => d.parameters.length) = some n ∧ (m.2.2.2.2.2 = false → m.2.2.2.2.1 = [])
theorem cats_rv (E : AE) (st : List Value) : ((st.map (rv E)).map fun v => v.category).sum = (st.map fun v => v.category).sum := by
  rw [List.map_map]
  congr 1
  exact List.map_congr_left fun v _ => rv_cat E v
theorem PcA.blind {E : AE} {avs : List Value} {h : AH} : FrameBlind (PcA E avs h) := fun a U g mk q => ⟨q.1, q.2.1, KS.warm (s := U) (U := U.calling g mk a) (State.WarmedH.refl U) q.2.2⟩
theorem gtbl_good {m : AM} (h : cwd m ∈ gtbl) : GoodIn gtbl (awsM m) := fun w hw => by
  have hg : w ∈ gtbl := by
    rcases List.mem_cons.mp hw with e | e
    · rw [e]; exact h
    · exact e
  exact ⟨hg, good_of_word (List.mem_filter.mp hg).2⟩
section BODY
variable {m : AM} {d mc ms n : Nat} {avs : List Value} {h : AH}
theorem fr_of {Q : AR → AH → Prop} {l : Launch} {E : AE} (hst : l.stackTraces = false) (hm : MOK m n) {p : Program} {e : Env} {s : State} {mi : MethodId} {args : Array Value} {below : List Frame} {meth : Method} {c : Code} {s₁ : State} (B : BodyLoose p l m.1 (headSpec (awsM m) (rmA d mc ms)) m.2.1 m.2.2.1 m.2.2.2.1 e s mi args below meth c s₁) (hml : c.maxLocals = m.2.2.1) (hP : PcA E avs h args s) : Fr E m d p l (rmA d mc ms) s mi args meth c := by
  have hts := atoms_spec (ws := awsM m) B.pre
  have hcw := hts _ List.mem_cons_self
  have htab : c.exceptionTable.toList = tableOf m.2.2.2.2.1 := by
    obtain ⟨y, cb, mL, rt, hh, fl⟩ := m
    cases fl with
    | true =>
      obtain ⟨m9, meth9, c9, hn9, h1, h2, -, -, h6, -⟩ := Cond.codeWith_spec (show (Cond.codeWith y cb mL rt hh).before args s = true from hcw)
      cases Option.some.inj (hn9.symm.trans B.named)
      cases Option.some.inj (h1.symm.trans B.method)
      cases Option.some.inj (h2.symm.trans (Stand.of_body B).code)
      rw [← h6, table_eq]
    | false =>
      obtain ⟨meth9, c9, h1, h2, -, -, -, -, h7, -⟩ := Cond.code_spec B.named (show (Cond.code y cb mL rt).before args s = true from hcw)
      cases Option.some.inj (h1.symm.trans B.method)
      cases Option.some.inj (h2.symm.trans (Stand.of_body B).code)
      have e9 : hh = [] := hm.2.2.2.2.2.2 rfl
      subst e9
      rw [Array.isEmpty_iff.mp h7]
      rfl
  exact ⟨B.exec, B.bytes, hml, B.returns, findClass_of_methodNamed B.named, fun w hw => hts w (List.mem_cons_of_mem _ hw), hP.2.2, hP.2.1.2.1, hP.2.1.bsz.1, Nat.le_refl _, Nat.le_refl _, B.notSynchronized, fun z => (name_of_methodNamed B.named B.method).1.trans z, Or.inr htab, hst⟩
/-- the end of a body: what it answers -/
theorem end_ret {E : AE} {p : Program} {l : Launch} {e : Env} {R : Room} {s : State} {mi : MethodId} {args : Array Value} {below : List Frame} {meth : Method} {c : Code} {Q : Option Value → AH → Prop} (hF : Fr E m d p l R s mi args meth c) (r : Option Value) (h : AH) (H : Heap) (locs : List Loc) (cells slots pc : Nat) (lr : Array Slot) (i : Instr) (hq : Q r h) (hH : HOK E s h H locs) (hc : cells ≤ R.cells) (hs : slots ≤ R.slots) (hd : decode m.2.1 pc = .ok (i, 1)) (hr : retI m.2.2.2.1 r i) :
    W p l e R s mi args below meth c H locs cells slots (MQ below (QcA E Q) args s R.cells R.slots (fun q => bs E ≤ q)) (F0 mi pc lr (r.toList.map (rv E))) := by
  have hlk : meth.locks = false := hF.2.2.2.2.2.2.2.2.2.2.2.1
  have key : ∀ (t : State), t.heap = H → QcA E Q args s (.returned (r.map (rv E))) t := fun t ht => ⟨r, h, rfl, hq, by rw [ht]; exact hH.1, by rw [ht]; exact hH.2.1⟩
  rcases hr with ⟨e1, rfl, rfl⟩ | ⟨x, ty, e1, e2, rfl, rfl⟩ | ⟨x, e1, rfl, rfl⟩ | ⟨v, nm, e1, rfl, hv, rfl⟩
  · exact W.widen hc hs (W.vret hF.1 hF.2.1 (hF.2.2.2.1.trans e1) (fun t ht _ => key t ht) hH.2.2 hd hlk)
  · exact W.widen hc hs (W.zret hF.1 hF.2.1 (hF.2.2.2.1.trans e1) e2 (fun t ht _ => key t ht) hH.2.2 hd hlk)
  · exact W.widen hc hs (W.lret hF.1 hF.2.1 (hF.2.2.2.1.trans e1) (fun t ht _ => key t ht) hH.2.2 hd hlk)
  · refine W.widen hc hs (W.aret hF.1 hF.2.1 (hF.2.2.2.1.trans e1) (Or.inl ⟨_, rfl⟩) ?_ (fun t ht _ => key t ht) hH.2.2 hd hlk)
    rcases hv with rfl | ⟨a, rfl⟩
    · exact Or.inl rfl
    · exact Or.inr ⟨_, rfl⟩
theorem body_applies (hm : MOK m n) : ∀ (args : Array Value) (s : State) (mi : MethodId), (headSpec (awsM m) (rmA d mc ms)).pre.before args s = true → s.methodNamed? m.1 = some mi →
    ∃ (meth : Method) (c : Code), s.vm.method? mi = some meth ∧ meth.code = some c ∧ c.code = m.2.1 ∧ c.maxLocals = m.2.2.1 ∧ meth.sig.returnType = m.2.2.2.1 ∧ meth.locks = false := by
  intro args s mi h hn
  have hcw := atoms_spec (ws := awsM m) h _ List.mem_cons_self
  obtain ⟨y, cb, mL, rt, hh, fl⟩ := m
  cases fl with
  | true =>
    obtain ⟨m9, meth, c, hn9, h1, h2, h3, h4, -, h5, h6, -⟩ := Cond.codeWith_spec (show (Cond.codeWith y cb mL rt hh).before args s = true from hcw)
    cases hn.symm.trans hn9
    exact ⟨meth, c, h1, h2, h3, h4, h5, h6⟩
  | false =>
    obtain ⟨meth, c, h1, h2, h3, h4, h5, h6, -, -⟩ := Cond.code_spec hn (show (Cond.code y cb mL rt).before args s = true from hcw)
    exact ⟨meth, c, h1, h2, h3, h4, h5, h6⟩
theorem Ct.of {Q : Option Value → AH → Prop} (hm : MOK m n) {ls : List Value} (hl : ent avs m.2.2.1 = ls) (hn : (entL avs).length ≤ m.2.2.1) (k : AW m d mc ms 0 ls [] h (nt Q)) : Ct m d mc ms avs h Q := by
  intro l E hst
  subst hl
  refine MetFree.of_bodyS (code := m.2.1) (maxLocals := m.2.2.1) (ret := m.2.2.2.1) hm.2.2.2.1 (fun args s mi hp hnm => body_applies hm args s mi hp hnm) ?_
  intro p e s mi args below meth c s₁ B hml hP _
  have hF := fr_of (Q := nt Q) hst hm B hml hP
  have hh0 : s₁.heap = s.heap := by rw [B.state]; rfl
  obtain ⟨hav, hR, hKS⟩ := hP
  have hW := k E p l e (rmA d mc ms) s mi args below meth c (MQ below (QcA E Q) args s mc ms (fun q => bs E ≤ q)) s.heap [] 0 0 _ hF (ent_LOK hn) ⟨hR, Nat.le_refl _, fun z hz => nomatch hz⟩ (by show 0 + mc ≤ mc; omega) (by show 0 + ms ≤ ms; omega)
    ⟨fun r h' H' locs cells slots pc lr i hq hH hc hs hd hr => by
      obtain ⟨v, e1, e2⟩ := hq
      cases e1
      exact end_ret hF r h' H' locs cells slots pc lr i e2 hH hc hs hd hr, Or.inl (fun x h' hq => by obtain ⟨v, e1, -⟩ := hq; cases e1)⟩
  have hent : entryFrame mi args m.2.2.1 = F0 mi 0 ((lg_sl (avs.map (rv E)) ++ List.replicate (m.2.2.1 - (lg_sl (avs.map (rv E))).length) Slot.unset).toArray) [] := by rw [hav]; exact lg_entry_eq _ _ _
  obtain ⟨t, a1, o, b1, b2, b3⟩ := hW s₁ hh0 (Stand.of_body B)
  exact ⟨t, o, by rw [hent]; exact a1, b1, b2, ⟨b3.1, b3.2⟩⟩
theorem CtX.of {Q : AR → AH → Prop} (hm : MOK m n) {ls : List Value} (hl : ent avs m.2.2.1 = ls) (hn : (entL avs).length ≤ m.2.2.1) (k : AW m d mc ms 0 ls [] h Q) : CtX m d mc ms avs h Q := by
  intro l E hst
  subst hl
  refine MetFree.of_bodyS (code := m.2.1) (maxLocals := m.2.2.1) (ret := m.2.2.2.1) hm.2.2.2.1 (fun args s mi hp hnm => body_applies hm args s mi hp hnm) ?_
  intro p e s mi args below meth c s₁ B hml hP _
  have hF := fr_of (Q := Q) hst hm B hml hP
  have hh0 : s₁.heap = s.heap := by rw [B.state]; rfl
  obtain ⟨hav, hR, hKS⟩ := hP
  have hW := k E p l e (rmA d mc ms) s mi args below meth c (vx_MQ below (QcA E (fun r => Q (.inl r))) (XCA E Q) args s mc ms (fun q => bs E ≤ q)) s.heap [] 0 0 _ hF (ent_LOK hn) ⟨hR, Nat.le_refl _, fun z hz => nomatch hz⟩ (by show 0 + mc ≤ mc; omega) (by show 0 + ms ≤ ms; omega)
    ⟨fun r h' H' locs cells slots pc lr i hq hH hc hs hd hr => vx_ret (end_ret (Q := fun r => Q (.inl r)) hF r h' H' locs cells slots pc lr i hq hH hc hs hd hr), Or.inr ⟨_, _, rfl, fun x h' k t hq hR' hsz _ => ⟨x, h', k, rfl, hq, hR', hsz⟩⟩⟩
  have hent : entryFrame mi args m.2.2.1 = F0 mi 0 ((lg_sl (avs.map (rv E)) ++ List.replicate (m.2.2.1 - (lg_sl (avs.map (rv E))).length) Slot.unset).toArray) [] := by rw [hav]; exact lg_entry_eq _ _ _
  obtain ⟨t, a1, o, b1, b2, b3⟩ := hW s₁ hh0 (Stand.of_body B)
  exact ⟨t, o, by rw [hent]; exact a1, b1, b2, b3⟩
end BODY
/-- entry i of own's pool is the method y -/
def LK (own : String) (i : Nat) (y : MethodName) : Prop := Cond.methodLink own i y ∈ gtbl ∨ ∃ host, Cond.methodLinkNest own i y host ∈ lw_tbl
section CALLS
variable {m cal : AM} {d mc ms pc d' mc' ms' n : Nat} {ls st : List Value} {h : AH} {Q : AR → AH → Prop}
theorem run_of {E : AE} {p : Program} {l : Launch} {e : Env} {R : Room} {s : State} {mi : MethodId} {args : Array Value} {below : List Frame} {meth : Method} {c : Code} {H : Heap} {locs : List Loc} {cells slots : Nat} {lr : Array Slot} {QQ : State → Prop} {Q' : Option Value → AH → Prop} {a : Array Value} {st0 rest : List Value} (hH : HOK E s h H locs)
    (hr : va_Run p l e R s mi args below meth c H locs cells slots mc' ms' (F0 mi pc lr st0) rest (QcA E Q' a) (fun q => bs E ≤ q))
    (kk : ∀ (r : Option Value) (h' : AH) (H' : Heap) (locs' : List Loc), Q' r h' → HOK E s h' H' locs' → W p l e R s mi args below meth c H' locs' (cells + mc') (slots + ms') QQ (F0 mi (pc + 3) lr ((r.map (rv E)).toList ++ rest))) :
    W p l e R s mi args below meth c H locs cells slots QQ (F0 mi pc lr st0) := by
  intro T hT X
  obtain ⟨v, st₀, t, T', L, h0, X', hL, e1, e2, ⟨r, h', hv, hq, hR, hz⟩, stp⟩ := hr T hT X
  cases hv
  obtain ⟨t2, a1, b1⟩ := kk r h' T'.heap (locs ++ L) hq ⟨by rw [e1]; exact hR, by rw [h0] at hz; rw [e1]; exact Nat.le_trans hH.2.1 hz, fun z hz9 => by
    rcases List.mem_append.mp hz9 with g | g
    · exact hH.2.2 z g
    · exact hL z g⟩ T' rfl X'
  exact ⟨t2, stp t2 a1, b1⟩
theorem room_of {R : Room} (h1 : d' + 1 ≤ d) (h2 : d ≤ R.frames) (h3 : 37 * d ≤ R.locals) {k : Nat} (h4 : k ≤ 18) : (rmA d' mc' ms').frames + 1 ≤ R.frames ∧ 8 + (k + 11) + (rmA d' mc' ms').locals ≤ R.locals := by
  refine ⟨by show d' + 1 ≤ _; omega, by show 8 + (k + 11) + 37 * d' ≤ _; omega⟩
theorem par_of {desc : String} (h : (parseMethodDescriptor desc).map (fun d => d.parameters.length) = some n) : ∀ sig, parseMethodDescriptor desc = some sig → n = sig.parameters.length := fun sig hs => by
  rw [hs] at h
  exact (Option.some.inj h).symm
theorem pre_of {E : AE} {s : State} {avs : List Value} {H : Heap} {locs : List Loc} (hKS : KS E s) (hH : HOK E s h H locs) : ∀ U : State, U.heap = H → s.WarmedH U.vm → PcA E avs h (avs.map (rv E)).toArray U := fun U hU hW => ⟨rfl, by rw [hU]; exact hH.1, hKS.warm hW⟩
theorem cont_of {E : AE} {r : Option Value} {rest : List Value} : (r.map (rv E)).toList ++ rest.map (rv E) = (r.toList ++ rest).map (rv E) := by cases r <;> rfl
theorem aw_callV {i b k : Nat} {q : vw_C} {fs As rest : List Value} {Q' : Option Value → AH → Prop} (hd : decode m.2.1 pc = .ok (.invokevirtual i, 3)) (hl : LK m.1.cls i cal.1) (hm : MOK cal n) (hfl : cal.2.2.2.2.2 = false) (hin : Cond.instanceMethod cal.1 ∈ gtbl) (hse : Cond.selects cal.1.cls cal.1 cal.1 ∈ gtbl) (hC : Ct cal d' mc' ms' (.ref b :: As) h Q') (hdep : d' + 1 ≤ d) (hn : As.length = n) (hb : h[b]? = some (k, fs)) (hk : kls[k]? = some q) (hk10 : k < 10) (hq : q.1 = cal.1.cls) (hst : st = As.reverse ++ .ref b :: rest) (hrs : (rest.map fun v => v.category).sum ≤ 8)
    (kk : ∀ (r : Option Value) (h' : AH), Q' r h' → AW m d mc ms (pc + 3) ls (r.toList ++ rest) h' Q) : AW m d (mc' + mc) (ms' + ms) pc ls st h Q := by
  intro E p l e R s mi args below meth c QQ H locs cells slots lr hF hL hH hc hs hE
  subst hst
  have hF0 := hF
  obtain ⟨a1, a2, a3, a4, a5, a6, a7, a8, a9, a10, a11, a12, a13, a14, a15⟩ := hF
  have hM := hC l E a15
  have hcode : Cond.code cal.1 cal.2.1 cal.2.2.1 cal.2.2.2.1 ∈ gtbl := by
    have := hm.1
    unfold cwd at this
    rw [hfl] at this
    exact this
  have hws : awsM cal = Cond.code cal.1 cal.2.1 cal.2.2.1 cal.2.2.2.1 :: gtbl := by
    unfold awsM cwd
    rw [hfl]
  have hG := gtbl_good hm.1
  obtain ⟨hr1, hr2⟩ := room_of (mc' := mc') (ms' := ms') hdep a10 a11 hm.2.2.2.2.1
  have hrecv : ∃ cellB : Cell, H[ad E b]? = some cellB ∧ cellB.vm.isStatics = false ∧ s.vm.findClass cal.1.cls = some cellB.cls := by
    obtain ⟨q', g1, -, cell, g2, g3, g4, -⟩ := (hH.1.2.2.2 b _ hb).1 hk10
    cases hk.symm.trans g1
    exact ⟨cell, g2, by rw [g4]; rfl, by rw [← hq, g3]; exact (a7.1.1 k q hk).2.1⟩
  have e0 : (As.reverse ++ Value.ref b :: rest).map (rv E) = (As.map (rv E)).reverse ++ .ref (ad E b) :: rest.map (rv E) := by simp [rv]
  have hPre : ∀ U : State, U.heap = H → s.WarmedH U.vm → PcA E (.ref b :: As) h (Value.ref (ad E b) :: As.map (rv E)).toArray U := pre_of a7 hH
  have hcat : ((rest.map (rv E)).map fun v => v.category).sum ≤ 8 := by rw [cats_rv]; exact hrs
  rw [e0]
  have hfit : cells + mc' ≤ R.cells ∧ slots + ms' ≤ R.slots := ⟨by omega, by omega⟩
  refine run_of (mc' := mc') (ms' := ms') (rest := rest.map (rv E)) (Q' := Q') (a := (Value.ref (ad E b) :: As.map (rv E)).toArray) hH ?_ (fun r h' H' locs' hq' hH' => ?_)
  · rcases hl with hl | ⟨host, hl⟩
    · exact va_runV (C := cal.1.cls) ⟨a1, a2, a3, a5, a6⟩ hM ⟨⟨rfl, rfl, hr1, hr2, pay_in a6 hG, by rw [hws]; exact List.mem_cons_self, a6 _ hcode, a6 _ hm.2.1, hm.2.2.1, par_of hm.2.2.2.2.2.1, a6 _ hl⟩, a6 _ hin, a6 _ hse⟩ ⟨PcA.blind, hrecv, hPre⟩ rfl (by rw [List.length_map]; exact hn) hL.2.1 rfl (lv_room hcat) hd hfit
    · exact va_runVN (C := cal.1.cls) (host := host) ⟨a1, a2, a3, a5, a6⟩ hM ⟨⟨⟨rfl, rfl, hr1, hr2, pay_in a6 hG, by rw [hws]; exact List.mem_cons_self⟩, a6 _ hcode, a6 _ hm.2.1, hm.2.2.1, par_of hm.2.2.2.2.2.1, va_Nw.use rfl (a7.2.1 _ hl rfl)⟩, a6 _ hin, a6 _ hse⟩ ⟨PcA.blind, hrecv, hPre⟩ rfl (by rw [List.length_map]; exact hn) hL.2.1 rfl (lv_room hcat) hd hfit
  · rw [cont_of]
    exact kk r h' hq' E p l e R s mi args below meth c QQ H' locs' (cells + mc') (slots + ms') lr hF0 hL hH' (by omega) (by omega) hE
theorem aw_callS {i : Nat} {As rest : List Value} {Q' : Option Value → AH → Prop} (hd : decode m.2.1 pc = .ok (.invokestatic i, 3)) (hl : LK m.1.cls i cal.1) (hl2 : cal.2.2.2.2.2 = true → Cond.methodLink m.1.cls i cal.1 ∈ gtbl) (hm : MOK cal n) (hsta : Cond.static cal.1 ∈ gtbl) (hC : Ct cal d' mc' ms' As h Q') (hdep : d' + 1 ≤ d) (hn : As.length = n) (hst : st = As.reverse ++ rest) (hrs : (rest.map fun v => v.category).sum ≤ 8)
    (kk : ∀ (r : Option Value) (h' : AH), Q' r h' → AW m d mc ms (pc + 3) ls (r.toList ++ rest) h' Q) : AW m d (mc' + mc) (ms' + ms) pc ls st h Q := by
  intro E p l e R s mi args below meth c QQ H locs cells slots lr hF hL hH hc hs hE
  subst hst
  have hF0 := hF
  obtain ⟨a1, a2, a3, a4, a5, a6, a7, a8, a9, a10, a11, a12, a13, a14, a15⟩ := hF
  have hM := hC l E a15
  have hG := gtbl_good hm.1
  obtain ⟨hr1, hr2⟩ := room_of (mc' := mc') (ms' := ms') hdep a10 a11 hm.2.2.2.2.1
  have e0 : (As.reverse ++ rest).map (rv E) = (As.map (rv E)).reverse ++ rest.map (rv E) := by simp
  have hPre := pre_of (avs := As) a7 hH
  have hcat : ((rest.map (rv E)).map fun v => v.category).sum ≤ 8 := by rw [cats_rv]; exact hrs
  rw [e0]
  have hfit : cells + mc' ≤ R.cells ∧ slots + ms' ≤ R.slots := ⟨by omega, by omega⟩
  refine run_of (mc' := mc') (ms' := ms') (rest := rest.map (rv E)) (Q' := Q') (a := (As.map (rv E)).toArray) hH ?_ (fun r h' H' locs' hq' hH' => ?_)
  · cases hfl : cal.2.2.2.2.2 with
    | true =>
      have hcode : Cond.codeWith cal.1 cal.2.1 cal.2.2.1 cal.2.2.2.1 cal.2.2.2.2.1 ∈ gtbl := by
        have := hm.1
        unfold cwd at this
        rw [hfl] at this
        exact this
      have hws : awsM cal = Cond.codeWith cal.1 cal.2.1 cal.2.2.1 cal.2.2.2.1 cal.2.2.2.2.1 :: gtbl := by
        unfold awsM cwd
        rw [hfl]
      exact vx_runSW (hh := cal.2.2.2.2.1) ⟨a1, a2, a3, a5, a6⟩ hM ⟨⟨rfl, rfl, hr1, hr2, pay_in a6 hG, by rw [hws]; exact List.mem_cons_self⟩, a6 _ hcode, a6 _ hm.2.1, hm.2.2.1, par_of hm.2.2.2.2.2.1, a6 _ (hl2 hfl), a6 _ hsta⟩ ⟨PcA.blind, hPre⟩ rfl (by rw [List.length_map]; exact hn) hL.2.1 rfl (lv_room hcat) hd hfit
    | false =>
      have hcode : Cond.code cal.1 cal.2.1 cal.2.2.1 cal.2.2.2.1 ∈ gtbl := by
        have := hm.1
        unfold cwd at this
        rw [hfl] at this
        exact this
      have hws : awsM cal = Cond.code cal.1 cal.2.1 cal.2.2.1 cal.2.2.2.1 :: gtbl := by
        unfold awsM cwd
        rw [hfl]
      rcases hl with hl | ⟨host, hl⟩
      · exact va_runS ⟨a1, a2, a3, a5, a6⟩ hM ⟨⟨rfl, rfl, hr1, hr2, pay_in a6 hG, by rw [hws]; exact List.mem_cons_self, a6 _ hcode, a6 _ hm.2.1, hm.2.2.1, par_of hm.2.2.2.2.2.1, a6 _ hl⟩, a6 _ hsta⟩ ⟨PcA.blind, hPre⟩ rfl (by rw [List.length_map]; exact hn) hL.2.1 rfl (lv_room hcat) hd hfit
      · exact va_runSN (host := host) ⟨a1, a2, a3, a5, a6⟩ hM ⟨⟨⟨rfl, rfl, hr1, hr2, pay_in a6 hG, by rw [hws]; exact List.mem_cons_self⟩, a6 _ hcode, a6 _ hm.2.1, hm.2.2.1, par_of hm.2.2.2.2.2.1, va_Nw.use rfl (a7.2.1 _ hl rfl)⟩, a6 _ hsta, trivial⟩ ⟨PcA.blind, hPre⟩ rfl (by rw [List.length_map]; exact hn) hL.2.1 rfl (lv_room hcat) hd hfit
  · rw [cont_of]
    exact kk r h' hq' E p l e R s mi args below meth c QQ H' locs' (cells + mc') (slots + ms') lr hF0 hL hH' (by omega) (by omega) hE
theorem aw_callI {i b : Nat} {As rest : List Value} {Q' : Option Value → AH → Prop} (hd : decode m.2.1 pc = .ok (.invokespecial i, 3)) (hl : LK m.1.cls i cal.1) (hm : MOK cal n) (hfl : cal.2.2.2.2.2 = false) (hret : cal.2.2.2.1 = none) (hnm : cal.1.name = "<init>") (hin : Cond.instanceMethod cal.1 ∈ gtbl) (hC : Ct cal d' mc' ms' (.ref b :: As) h Q') (hdep : d' + 1 ≤ d) (hn : As.length = n) (hst : st = As.reverse ++ .ref b :: rest) (hrs : (rest.map fun v => v.category).sum ≤ 8)
    (kk : ∀ (r : Option Value) (h' : AH), Q' r h' → AW m d mc ms (pc + 3) ls (r.toList ++ rest) h' Q) : AW m d (mc' + mc) (ms' + ms) pc ls st h Q := by
  intro E p l e R s mi args below meth c QQ H locs cells slots lr hF hL hH hc hs hE
  subst hst
  have hF0 := hF
  obtain ⟨a1, a2, a3, a4, a5, a6, a7, a8, a9, a10, a11, a12, a13, a14, a15⟩ := hF
  have hM := hC l E a15
  have hcode : Cond.code cal.1 cal.2.1 cal.2.2.1 none ∈ gtbl := by
    have := hm.1
    unfold cwd at this
    rw [hfl, hret] at this
    exact this
  have hws : awsM cal = Cond.code cal.1 cal.2.1 cal.2.2.1 none :: gtbl := by
    unfold awsM cwd
    rw [hfl, hret]
  have hG := gtbl_good hm.1
  obtain ⟨hr1, hr2⟩ := room_of (mc' := mc') (ms' := ms') hdep a10 a11 hm.2.2.2.2.1
  have e0 : (As.reverse ++ Value.ref b :: rest).map (rv E) = (As.map (rv E)).reverse ++ .ref (ad E b) :: rest.map (rv E) := by simp [rv]
  have hPre : ∀ U : State, U.heap = H → s.WarmedH U.vm → PcA E (.ref b :: As) h (Value.ref (ad E b) :: As.map (rv E)).toArray U := pre_of a7 hH
  have hcat : ((rest.map (rv E)).map fun v => v.category).sum ≤ 8 := by rw [cats_rv]; exact hrs
  rw [e0]
  have hfit : cells + mc' ≤ R.cells ∧ slots + ms' ≤ R.slots := ⟨by omega, by omega⟩
  refine run_of (mc' := mc') (ms' := ms') (rest := rest.map (rv E)) (Q' := Q') (a := (Value.ref (ad E b) :: As.map (rv E)).toArray) hH ?_ (fun r h' H' locs' hq' hH' => ?_)
  · rcases hl with hl | ⟨host, hl⟩
    · exact va_runI ⟨a1, a2, a3, a5, a6⟩ hM ⟨⟨rfl, rfl, hr1, hr2, pay_in a6 hG, by rw [hws]; exact List.mem_cons_self, a6 _ hcode, a6 _ hm.2.1, hm.2.2.1, par_of hm.2.2.2.2.2.1, a6 _ hl⟩, hnm, a6 _ hin⟩ ⟨PcA.blind, hPre⟩ rfl (by rw [List.length_map]; exact hn) hL.2.1 rfl (lv_room hcat) hd hfit
    · exact va_runIN (host := host) ⟨a1, a2, a3, a5, a6⟩ hM ⟨⟨⟨rfl, rfl, hr1, hr2, pay_in a6 hG, by rw [hws]; exact List.mem_cons_self⟩, a6 _ hcode, a6 _ hm.2.1, hm.2.2.1, par_of hm.2.2.2.2.2.1, va_Nw.use rfl (a7.2.1 _ hl rfl)⟩, hnm, a6 _ hin⟩ ⟨PcA.blind, hPre⟩ rfl (by rw [List.length_map]; exact hn) hL.2.1 rfl (lv_room hcat) hd hfit
  · rw [cont_of]
    exact kk r h' hq' E p l e R s mi args below meth c QQ H' locs' (cells + mc') (slots + ms') lr hF0 hL hH' (by omega) (by omega) hE
/-- Object.<init> -/
theorem aw_objInit {i a : Nat} (hd : decode m.2.1 pc = .ok (.invokespecial i, 3)) (hl : Cond.methodLink m.1.cls i Lib.objectInit ∈ gtbl) (hin : Cond.instanceMethod Lib.objectInit ∈ gtbl) (hco : Cond.code Lib.objectInit ⟨#[0xb1]⟩ 1 none ∈ gtbl) (hdep : 1 ≤ d) (hrs : (st.map fun v => v.category).sum ≤ 8) (kk : AW m d mc ms (pc + 3) ls st h Q) : AW m d mc ms pc ls (.ref a :: st) h Q := by
  intro E p l e R s mi args below meth c QQ H locs cells slots lr hF hL hH hc hs hE
  have k9 := kk E p l e R s mi args below meth c QQ H locs cells slots lr hF hL hH hc hs hE
  obtain ⟨a1, a2, a3, a4, a5, a6, a7, a8, a9, a10, a11, a12⟩ := hF
  exact W.objInit a1 a2 a5 (a6 _ hl) (a6 _ hin) (a6 _ hco) rfl (by rw [a3]; exact hL.2.1) rfl hd (by omega) (by show 2 * 0 + _ + 12 ≤ _; rw [cats_rv]; omega) k9
end CALLS
end
section
/-! throws, catches, the library's own methods -/
abbrev nms : List String := ["java/lang/RuntimeException", "java/lang/Exception"]
/-- 'throw new (the x-th exception)(a text)' by these entries of own's pool -/
def TH (own : String) (i is ic x : Nat) : Prop := Cond.classLink own i (exn x) ∈ gtbl ∧ Cond.initialized (exn x) ∈ gtbl ∧ (∃ text, Cond.stringRef own is text ∈ lw_tbl) ∧ (∀ w ∈ (vx_atS own ic (exn x) nms).filter goodWord, w ∈ gtbl) ∧ (∀ w ∈ (vx_atS own ic (exn x) nms).filter (fun w => !goodWord w), w ∈ lw_tbl ∧ (isNest w = true ∧ w.onTables = true)) ∧ x < 3
theorem Rel.junk {E : AE} {h : AH} {H H1 : Heap} (hR : Rel E h H) (h1 : H.size ≤ H1.size) (h2 : ∀ q, q < H.size → H1[q]? = H[q]?) : Rel E (h ++ List.replicate (H1.size - H.size) (15, [])) H1 := by
  obtain ⟨hb, hl⟩ := hR.bsz
  refine ⟨by have := hR.1; simp; omega, fun q hq => (h2 q (by omega)).trans (hR.2.1 q hq), fun c hc => ?_, fun a c hc => ?_⟩
  · rw [List.getElem?_append_left (by omega)] at hc
    exact hR.2.2.1 c hc
  · by_cases ha : a < h.length
    · rw [List.getElem?_append_left ha] at hc
      exact (hR.2.2.2 a c hc).kept fun hk => h2 _ (hR.lt hc (hR.ne0 hc hk))
    · rw [List.getElem?_append_right (by omega), List.getElem?_replicate] at hc
      split at hc
      · cases hc
        exact ⟨fun z => absurd z (by show ¬ 15 < 10; omega), fun _ z => absurd z (by show ¬ 15 < 14; omega), fun z => absurd z (by show ¬ 15 = 14; omega)⟩
      · cases hc
section THROWS
variable {m cal : AM} {d mc ms pc d' mc' ms' n : Nat} {ls st : List Value} {h : AH} {Q : AR → AH → Prop}
theorem aw_throw {i is ic x : Nat} (d0 : decode m.2.1 pc = .ok (.new i, 3)) (d3 : decode m.2.1 (pc + 3) = .ok (.dup, 1)) (d4 : decode m.2.1 (pc + 4) = .ok (.ldc is, 2)) (d6 : decode m.2.1 (pc + 6) = .ok (.invokespecial ic, 3)) (d9 : decode m.2.1 (pc + 9) = .ok (.athrow, 1)) (hT : TH m.1.cls i is ic x) (hh : m.2.2.2.2.1 = []) (hnl : m.1.name ≠ "law") (hdep : 6 ≤ d) (hq : Q (.inr x) h) (hrs : (st.map fun v => v.category).sum ≤ 8) : AW m d (mc + 1) (ms + 6) pc ls st h Q := by
  intro E p l e R s mi args below meth c QQ H locs cells slots lr hF hL hH hc hs hE
  obtain ⟨a1, a2, a3, a4, a5, a6, a7, a8, a9, a10, a11, a12, a13, a14, a15⟩ := hF
  obtain ⟨t1, t2, ⟨text, t3⟩, t4, t5, t6⟩ := hT
  rcases hE.2 with z | ⟨Qc, XC, rfl, hX⟩
  · exact absurd hq (z x h)
  have htab : c.exceptionTable.toList = [] := by
    rcases a14 with z | z
    · exact absurd z hnl
    · rw [z, hh]; rfl
  obtain ⟨b1, b2, b3, b4, b5, b6, b7, b8, b9, b10⟩ := a7
  obtain ⟨sa, hsa⟩ := b3 _ _ _ t3
  have hatb : ∀ w ∈ vx_atS m.1.cls ic (exn x) nms, w.before args s = true := by
    intro w hw
    by_cases g : goodWord w = true
    · exact a6 _ (t4 w (List.mem_filter.mpr ⟨hw, g⟩))
    · obtain ⟨g1, g2, g3⟩ := t5 w (List.mem_filter.mpr ⟨hw, by simpa using g⟩)
      exact va_Nw.use g3 (b2 w g1 g2)
  have hgood : ∀ w ∈ Cond.classLink m.1.cls i (exn x) :: Cond.initialized (exn x) :: vx_atS m.1.cls ic (exn x) nms, vx_ot w = true := by
    intro w hw
    have good : ∀ w, w ∈ gtbl → vx_ot w = true := fun w hw => by
      unfold vx_ot
      rw [(List.mem_filter.mp hw).2]
      simp
    rcases List.mem_cons.mp hw with rfl | hw
    · exact good _ t1
    · rcases List.mem_cons.mp hw with rfl | hw
      · exact good _ t2
      · by_cases g : goodWord w = true
        · exact good _ (t4 w (List.mem_filter.mpr ⟨hw, g⟩))
        · obtain ⟨g1, g2, g3⟩ := t5 w (List.mem_filter.mpr ⟨hw, by simpa using g⟩)
          unfold vx_ot
          rw [g3]
          rfl
  have hfit : Bundle.fit (exn x) = true := by
    rcases (show x = 0 ∨ x = 1 ∨ x = 2 by omega) with rfl | rfl | rfl <;> decide +kernel
  have hnms : ∀ n ∈ nms, Bundle.fit n = true := by decide +kernel
  have hkept : ∀ a : Nat, a < E.2.1.size → ¬ (fun q => bs E ≤ q) a → s.heap[a]? = E.2.1[a]? := fun a ha _ => a8 a ha
  refine vx_throwS (A := fun q => bs E ≤ q) (sa := sa) a1 a2 a15 a5 hfit hnms (a6 _ t1) (a6 _ t2) hsa hatb hgood (b4.kept hkept) (b5.kept hkept)
    ⟨hH.2.1, fun q hq hA => ?_, hH.2.2⟩ (by rw [a3]; exact hL.2.1) d0 d3 d4 d6 d9 (fun y hy => by rw [htab] at hy; cases hy) (by show 2 + 3 < _; omega) (by rw [cats_rv]; show _ + (13 * (2 + 1) + 43) ≤ _; omega) (by omega) (by omega) a12
    (fun t hal hsz hold => hX x h _ t hq (hH.1.junk hsz hold) (Nat.le_trans hH.2.1 hsz) hal) hH.2.2 (by omega) (by omega)
  have hb : q < bs E := Nat.not_le.mp hA
  exact (hH.1.2.1 q hb).trans (a8 q hb).symm
theorem aw_throwW {i is ic x : Nat} (d0 : decode m.2.1 pc = .ok (.new i, 3)) (d3 : decode m.2.1 (pc + 3) = .ok (.dup, 1)) (d4 : decode m.2.1 (pc + 4) = .ok (.ldc_w is, 3)) (d6 : decode m.2.1 (pc + 7) = .ok (.invokespecial ic, 3)) (d9 : decode m.2.1 (pc + 10) = .ok (.athrow, 1)) (hT : TH m.1.cls i is ic x) (hh : m.2.2.2.2.1 = []) (hnl : m.1.name ≠ "law") (hdep : 6 ≤ d) (hq : Q (.inr x) h) (hrs : (st.map fun v => v.category).sum ≤ 8) : AW m d (mc + 1) (ms + 6) pc ls st h Q := by
  intro E p l e R s mi args below meth c QQ H locs cells slots lr hF hL hH hc hs hE
  obtain ⟨a1, a2, a3, a4, a5, a6, a7, a8, a9, a10, a11, a12, a13, a14, a15⟩ := hF
  obtain ⟨t1, t2, ⟨text, t3⟩, t4, t5, t6⟩ := hT
  rcases hE.2 with z | ⟨Qc, XC, rfl, hX⟩
  · exact absurd hq (z x h)
  have htab : c.exceptionTable.toList = [] := by
    rcases a14 with z | z
    · exact absurd z hnl
    · rw [z, hh]; rfl
  obtain ⟨b1, b2, b3, b4, b5, b6, b7, b8, b9, b10⟩ := a7
  obtain ⟨sa, hsa⟩ := b3 _ _ _ t3
  have hatb : ∀ w ∈ vx_atS m.1.cls ic (exn x) nms, w.before args s = true := by
    intro w hw
    by_cases g : goodWord w = true
    · exact a6 _ (t4 w (List.mem_filter.mpr ⟨hw, g⟩))
    · obtain ⟨g1, g2, g3⟩ := t5 w (List.mem_filter.mpr ⟨hw, by simpa using g⟩)
      exact va_Nw.use g3 (b2 w g1 g2)
  have hgood : ∀ w ∈ Cond.classLink m.1.cls i (exn x) :: Cond.initialized (exn x) :: vx_atS m.1.cls ic (exn x) nms, vx_ot w = true := by
    intro w hw
    have good : ∀ w, w ∈ gtbl → vx_ot w = true := fun w hw => by
      unfold vx_ot
      rw [(List.mem_filter.mp hw).2]
      simp
    rcases List.mem_cons.mp hw with rfl | hw
    · exact good _ t1
    · rcases List.mem_cons.mp hw with rfl | hw
      · exact good _ t2
      · by_cases g : goodWord w = true
        · exact good _ (t4 w (List.mem_filter.mpr ⟨hw, g⟩))
        · obtain ⟨g1, g2, g3⟩ := t5 w (List.mem_filter.mpr ⟨hw, by simpa using g⟩)
          unfold vx_ot
          rw [g3]
          rfl
  have hfit : Bundle.fit (exn x) = true := by
    rcases (show x = 0 ∨ x = 1 ∨ x = 2 by omega) with rfl | rfl | rfl <;> decide +kernel
  have hnms : ∀ n ∈ nms, Bundle.fit n = true := by decide +kernel
  have hkept : ∀ a : Nat, a < E.2.1.size → ¬ (fun q => bs E ≤ q) a → s.heap[a]? = E.2.1[a]? := fun a ha _ => a8 a ha
  refine vx_throwSW (A := fun q => bs E ≤ q) (sa := sa) a1 a2 a15 a5 hfit hnms (a6 _ t1) (a6 _ t2) hsa hatb hgood (b4.kept hkept) (b5.kept hkept)
    ⟨hH.2.1, fun q hq hA => ?_, hH.2.2⟩ (by rw [a3]; exact hL.2.1) d0 d3 d4 d6 d9 (fun y hy => by rw [htab] at hy; cases hy) (by show 2 + 3 < _; omega) (by rw [cats_rv]; show _ + (13 * (2 + 1) + 43) ≤ _; omega) (by omega) (by omega) a12
    (fun t hal hsz hold => hX x h _ t hq (hH.1.junk hsz hold) (Nat.le_trans hH.2.1 hsz) hal) hH.2.2 (by omega) (by omega)
  have hb : q < bs E := Nat.not_le.mp hA
  exact (hH.1.2.1 q hb).trans (a8 q hb).symm
/-- which handler of the method takes the x-th exception thrown at pc -/
def CH (m : AM) (pc x hp : Nat) : Prop := ∃ (pre : List ExceptionTableEntry) (z : ExceptionTableEntry) (suf : List ExceptionTableEntry), tableOf m.2.2.2.2.1 = pre ++ z :: suf ∧ z.handlerPc = hp ∧ covers z pc = true ∧ z.catchType ≠ 0 ∧ x < 3 ∧ Cond.classLink m.1.cls z.catchType (exn x) ∈ gtbl ∧ ∀ y ∈ pre, y.catchType ≠ 0 ∧ ∃ x', x' < 3 ∧ x ≠ x' ∧ Cond.classLink m.1.cls y.catchType (exn x') ∈ gtbl
/-- a call that may throw, where the method has a handler for what it throws, whose first instruction lays the exception away -/
theorem aw_callVX {i b k : Nat} {q : vw_C} {fs As rest : List Value} {Q' : AR → AH → Prop} (hd : decode m.2.1 pc = .ok (.invokevirtual i, 3)) (hl : Cond.methodLink m.1.cls i cal.1 ∈ gtbl) (hnl : m.1.name ≠ "law") (hm : MOK cal n) (hfl : cal.2.2.2.2.2 = false) (hin : Cond.instanceMethod cal.1 ∈ gtbl) (hse : Cond.selects cal.1.cls cal.1 cal.1 ∈ gtbl) (hC : CtX cal d' mc' ms' (.ref b :: As) h Q') (hdep : d' + 1 ≤ d) (hn : As.length = n) (hb : h[b]? = some (k, fs)) (hk : kls[k]? = some q) (hk10 : k < 10) (hq : q.1 = cal.1.cls) (hst : st = As.reverse ++ .ref b :: rest) (hrs : (rest.map fun v => v.category).sum ≤ 8)
    (kx : ∀ (x : Nat) (h' : AH) (k : Nat), Q' (.inr x) h' → ∃ (hp : Nat) (j : Fin 4), CH m pc x hp ∧ decode m.2.1 hp = .ok (.astore_n j, 1) ∧ (j : Nat) < m.2.2.1 ∧ okS ls j = true ∧ AW m d mc ms (hp + 1) (ls.set j vU) [] (h' ++ junk k) Q)
    (kk : ∀ (r : Option Value) (h' : AH), Q' (.inl r) h' → AW m d mc ms (pc + 3) ls (r.toList ++ rest) h' Q) : AW m d (mc' + mc) (ms' + ms) pc ls st h Q := by
  intro E p l e R s mi args below meth c QQ H locs cells slots lr hF hL hH hc hs hE
  subst hst
  have hF0 := hF
  obtain ⟨a1, a2, a3, a4, a5, a6, a7, a8, a9, a10, a11, a12, a13, a14, a15⟩ := hF
  have hM := hC l E a15
  have hcode : Cond.code cal.1 cal.2.1 cal.2.2.1 cal.2.2.2.1 ∈ gtbl := by
    have := hm.1
    unfold cwd at this
    rw [hfl] at this
    exact this
  have hws : awsM cal = Cond.code cal.1 cal.2.1 cal.2.2.1 cal.2.2.2.1 :: gtbl := by
    unfold awsM cwd
    rw [hfl]
  have hG := gtbl_good hm.1
  obtain ⟨hr1, hr2⟩ := room_of (mc' := mc') (ms' := ms') hdep a10 a11 hm.2.2.2.2.1
  have hrecv : ∃ cellB : Cell, H[ad E b]? = some cellB ∧ cellB.vm.isStatics = false ∧ s.vm.findClass cal.1.cls = some cellB.cls := by
    obtain ⟨q', g1, -, cell, g2, g3, g4, -⟩ := (hH.1.2.2.2 b _ hb).1 hk10
    cases hk.symm.trans g1
    exact ⟨cell, g2, by rw [g4]; rfl, by rw [← hq, g3]; exact (a7.1.1 k q hk).2.1⟩
  have e0 : (As.reverse ++ Value.ref b :: rest).map (rv E) = (As.map (rv E)).reverse ++ .ref (ad E b) :: rest.map (rv E) := by simp [rv]
  have hPre : ∀ U : State, U.heap = H → s.WarmedH U.vm → PcA E (.ref b :: As) h (Value.ref (ad E b) :: As.map (rv E)).toArray U := pre_of a7 hH
  have hcat : ((rest.map (rv E)).map fun v => v.category).sum ≤ 8 := by rw [cats_rv]; exact hrs
  rw [e0]
  have hfit : cells + mc' ≤ R.cells ∧ slots + ms' ≤ R.slots := ⟨by omega, by omega⟩
  have hrun := vx_runV (C := cal.1.cls) ⟨a1, a2, a3, a5, a6⟩ hM ⟨⟨rfl, rfl, hr1, hr2, pay_in a6 hG, by rw [hws]; exact List.mem_cons_self, a6 _ hcode, a6 _ hm.2.1, hm.2.2.1, par_of hm.2.2.2.2.2.1, a6 _ hl⟩, a6 _ hin, a6 _ hse⟩ ⟨PcA.blind, hrecv, hPre⟩ (locs := locs) (cells := cells) (slots := slots) (p := p) (e := e) (below := below) (meth := meth) (g := F0 mi pc lr ((As.map (rv E)).reverse ++ .ref (ad E b) :: rest.map (rv E))) rfl (by rw [List.length_map]; exact hn) hL.2.1 rfl (lv_room hcat) hd hfit
  intro T hT X
  rcases hrun T hT X with ⟨v, st₀, t, T', L, h0, X', hLf, e1, e2, ⟨r, h', hv, hq', hR, hz⟩, stp⟩ | ⟨q9, st₀, t, T', L, En, ce, h0, X', hLf, e1, e2, ⟨x, h', kj, rfl, hq', hR, hz⟩, hce, hcv, hcl, stp⟩
  · cases hv
    have k9 := kk r h' hq' E p l e R s mi args below meth c QQ T'.heap (locs ++ L) (cells + mc') (slots + ms') lr hF0 hL ⟨by rw [e1]; exact hR, by rw [h0] at hz; rw [e1]; exact Nat.le_trans hH.2.1 hz, fun z hz9 => by
      rcases List.mem_append.mp hz9 with g | g
      · exact hH.2.2 z g
      · exact hLf z g⟩ (by omega) (by omega) hE
    rw [← cont_of] at k9
    obtain ⟨t2, g1, g2⟩ := k9 T' rfl X'
    exact ⟨t2, stp t2 g1, g2⟩
  · obtain ⟨hp, j, ⟨pre, z, suf, c1, c2, c3, c4, c5, c6, c7⟩, hdj, hj, ho, hk9⟩ := kx x h' kj hq'
    have htab : c.exceptionTable.toList = pre ++ z :: suf := by
      rcases a14 with z | z
      · exact absurd z hnl
      · rw [z]; exact c1
    have hH9 : HOK E s (h' ++ junk kj) T'.heap (locs ++ L) := ⟨by rw [e1]; exact hR, by rw [h0] at hz; rw [e1]; exact Nat.le_trans hH.2.1 hz, fun z hz9 => by
      rcases List.mem_append.mp hz9 with g | g
      · exact hH.2.2 z g
      · exact hLf z g⟩
    have hcat9 := vx_catch (own := m.1.cls) (name := exn x) (E := exn x) (ce := ce) (q := q9) (pc := pc) (ls := lr) (rest := rest.map (rv E)) (H := T'.heap) (locs := locs ++ L) (cells := cells + mc') (slots := slots + ms') (Q := QQ) (p := p) (l := l) (e := e) (R := R) (s := s) (m := mi) (args := args) (below := below) (meth := meth) (c := c) a5 pre z suf htab
      (fun y hy => Or.inr (by
        obtain ⟨y1, x', y2, y3, y4⟩ := c7 y hy
        exact ⟨y1, exn x', a6 _ y4, a7.2.2.2.2.2.2.1 x x' c5 y2 y3⟩)) c3 c4 (a6 _ c6) (va_Nw.use rfl (a7.2.2.2.2.2.1 x c5)) (by rw [e1]; exact hce) hcv hcl
      (by
        rw [c2]
        exact lv_astore_n a1 a2 hdj rfl hL.has hj rfl (fun lr' hL' => hk9 E p l e R s mi args below meth c QQ T'.heap (locs ++ L) (cells + mc') (slots + ms') lr' hF0 (hL.set1 ho (Or.inr rfl) hL') hH9 (by omega) (by omega) hE))
    obtain ⟨t2, g1, g2⟩ := hcat9 T' rfl X'
    exact ⟨t2, stp.trans g1, g2⟩
/-- the words of Math.max and min, of System.arraycopy -/
def MX (own : String) (i : Nat) : Prop := Cond.methodLink own i Lib.Math.max.name ∈ gtbl ∧ Cond.static Lib.Math.max.name ∈ gtbl ∧ Cond.initialized "java/lang/Math" ∈ gtbl ∧ Cond.code Lib.Math.max.name Lib.Math.max.code 2 (some .int) ∈ gtbl
def MN (own : String) (i : Nat) : Prop := Cond.methodLink own i Lib.Math.min.name ∈ gtbl ∧ Cond.static Lib.Math.min.name ∈ gtbl ∧ Cond.initialized "java/lang/Math" ∈ gtbl ∧ Cond.code Lib.Math.min.name Lib.Math.min.code 2 (some .int) ∈ gtbl
def AC9 (own : String) (i : Nat) : Prop := Cond.methodLink own i arraycopyName ∈ gtbl ∧ Cond.native arraycopyName ∈ gtbl ∧ Cond.static arraycopyName ∈ gtbl ∧ Cond.initialized "java/lang/System" ∈ gtbl
theorem aw_max {i : Nat} {x y : Int32} (hd : decode m.2.1 pc = .ok (.invokestatic i, 3)) (hw : MX m.1.cls i) (hdep : 1 ≤ d) (hrs : (st.map fun v => v.category).sum ≤ 8) (kk : AW m d mc ms (pc + 3) ls (.int (if x < y then y else x) :: st) h Q) : AW m d mc ms pc ls (.int y :: .int x :: st) h Q := by
  intro E p l e R s mi args below meth c QQ H locs cells slots lr hF hL hH hc hs hE
  have k9 := kk E p l e R s mi args below meth c QQ H locs cells slots lr hF hL hH hc hs hE
  obtain ⟨a1, a2, a3, a4, a5, a6, a7, a8, a9, a10, a11, a12⟩ := hF
  exact va_mmax a1 a2 (by rw [a3]; exact hL.2.1.symm) a5 (a6 _ hw.1) (a6 _ hw.2.1) (a6 _ hw.2.2.1) (a6 _ hw.2.2.2) (by omega) (by rw [cats_rv]; omega) (by omega) (by omega) hd k9
theorem aw_min {i : Nat} {x y : Int32} (hd : decode m.2.1 pc = .ok (.invokestatic i, 3)) (hw : MN m.1.cls i) (hdep : 1 ≤ d) (hrs : (st.map fun v => v.category).sum ≤ 8) (kk : AW m d mc ms (pc + 3) ls (.int (if y < x then y else x) :: st) h Q) : AW m d mc ms pc ls (.int y :: .int x :: st) h Q := by
  intro E p l e R s mi args below meth c QQ H locs cells slots lr hF hL hH hc hs hE
  have k9 := kk E p l e R s mi args below meth c QQ H locs cells slots lr hF hL hH hc hs hE
  obtain ⟨a1, a2, a3, a4, a5, a6, a7, a8, a9, a10, a11, a12⟩ := hF
  exact va_mmin a1 a2 (by rw [a3]; exact hL.2.1.symm) a5 (a6 _ hw.1) (a6 _ hw.2.1) (a6 _ hw.2.2.1) (a6 _ hw.2.2.2) (by omega) (by rw [cats_rv]; omega) (by omega) (by omega) hd k9
/-- the first n places of an int array over those of another -/
theorem aw_copy {i a b : Nat} {x : Int32} {L M : List Int32} (hd : decode m.2.1 pc = .ok (.invokestatic i, 3)) (hw : AC9 m.1.cls i) (hdep : 2 ≤ d) (ha : h[a]? = some (10, L.map Value.int)) (hb : h[b]? = some (10, M.map Value.int)) (hx : ¬ x < 0) (h4 : x.toNatClampNeg ≤ L.length) (h5 : x.toNatClampNeg ≤ M.length) (hrs : (st.map fun v => v.category).sum ≤ 8) (kk : AW m d mc ms (pc + 3) ls st (h.set b (10, (L.take x.toNatClampNeg ++ M.drop x.toNatClampNeg).map Value.int)) Q) : AW m d mc ms pc ls (.int x :: .int 0 :: .ref b :: .int 0 :: .ref a :: st) h Q := by
  intro E p l e R s mi args below meth c QQ H locs cells slots lr hF hL hH hc hs hE
  have hF0 := hF
  obtain ⟨a1, a2, a3, a4, a5, a6, a7, a8, a9, a10, a11, a12⟩ := hF
  have conv : ∀ (L : List Int32), arrV (dA E 10) (L.map Value.int).length (vF E (L.map Value.int)) = arrV (dA E 10) L.length (fun j => Value.int (L.getD j 0)) := by
    intro L
    rw [List.length_map]
    refine arrV_congr _ fun j hj => ?_
    simp [vF, hj, rv]
  have hc0 : H[ad E a]? = some (arrV (dA E 10) L.length (fun j => Value.int (L.getD j 0))) := by
    have := (hH.1.2.2.2 a _ ha).2.1 (by show 10 ≤ 10; omega) (by show 10 < 14; omega)
    rw [this, ← conv]
  have hc1 : H[ad E b]? = some (arrV (dA E 10) M.length (fun j => Value.int (M.getD j 0))) := by
    have := (hH.1.2.2.2 b _ hb).2.1 (by show 10 ≤ 10; omega) (by show 10 < 14; omega)
    rw [this, ← conv]
  obtain ⟨-, k0, hk0, cm0, hkk0⟩ := a7.arr (k := 10) (by omega) (by omega) L.length (fun j => Value.int (L.getD j 0))
  have nn : ∀ z : Int32, ¬ z < 0 → z.toInt = (z.toNatClampNeg : Int) := by
    intro z hz
    have hz0 : (0 : Int) ≤ z.toInt := by
      have := Int32.not_lt.mp hz
      simpa using Int32.le_iff_toInt_le.mp this
    show z.toInt = ((z.toInt.toNat : Nat) : Int)
    omega
  intro T hT X
  obtain ⟨vm', X', step⟩ := X.arraycopy a1 a5 (a6 _ hw.1) (a6 _ hw.2.1) (a6 _ hw.2.2.1) (a6 _ hw.2.2.2) (src := ad E a) (dst := ad E b) (cs := arrV (dA E 10) L.length (fun j => Value.int (L.getD j 0))) (cd := arrV (dA E 10) M.length (fun j => Value.int (M.getD j 0))) (srcPos := 0) (destPos := 0) (n := x) (by rw [hT]; exact hc0) (by rw [hT]; exact hc1)
    (fun _ h => by cases h) (fun _ h => by cases h) (fun h => by cases h) (fun h => by cases h) hk0 hk0 hkk0 hkk0 (by rfl) (by decide) (by decide) hx
    (by rw [nn x hx, arrV_size]; show ¬ (0 : Int) + _ > _; omega)
    (by rw [nn x hx, arrV_size]; show ¬ (0 : Int) + _ > _; omega)
    (fun vm₁ _ i hi => by
      have e : (arrV (dA E 10) L.length (fun j => Value.int (L.getD j 0))).slots.getD ((0 : Int32).toNatClampNeg + i) .null = .int (L.getD i 0) := by
        rw [Array.getD_eq_getD_getElem?, show (0 : Int32).toNatClampNeg + i = i by show 0 + i = i; omega, arrV_read _ _ (by omega)]
        rfl
      refine ⟨?_, ?_⟩
      · rw [e]; rfl
      · rw [e]; exact trivial)
    (g := F0 mi pc lr (.int x :: .int 0 :: .ref (ad E b) :: .int 0 :: .ref (ad E a) :: st.map (rv E))) rfl (by rw [a3]; exact hL.2.1) (rest := st.map (rv E)) rfl (by rw [a2]; exact hd) (by omega) (by show 2 * 0 + _ + _ ≤ _; rw [cats_rv]; have e9 : nativeFrameWords "java/lang/System" "arraycopy" 5 + 11 ≤ 66 := Nat.le_of_ble_eq_true rfl; omega)
  have e1 : copied (arrV (dA E 10) L.length (fun j => Value.int (L.getD j 0))) (arrV (dA E 10) M.length (fun j => Value.int (M.getD j 0))) 0 0 x = arrV (dA E 10) M.length (fun j => Value.int (va_cpy (fun j => L.getD j 0) (fun j => M.getD j 0) 0 0 x.toNatClampNeg j)) := va_copied (sp := 0) (dp := 0) (fun z => .int z) _ _ _ _ (by omega)
  rw [e1] at X' step
  have hl : ad E b < H.size := (Array.getElem?_eq_some_iff.mp hc1).1
  have hn0 := hH.1.ne0 hb (show 10 < 14 by omega)
  have e2 : arrV (dA E 10) M.length (fun j => Value.int (va_cpy (fun j => L.getD j 0) (fun j => M.getD j 0) 0 0 x.toNatClampNeg j)) = arrV (dA E 10) ((L.take x.toNatClampNeg ++ M.drop x.toNatClampNeg).map Value.int).length (vF E ((L.take x.toNatClampNeg ++ M.drop x.toNatClampNeg).map Value.int)) := by
    rw [conv]
    have hlen : (L.take x.toNatClampNeg ++ M.drop x.toNatClampNeg).length = M.length := by simp; omega
    rw [hlen]
    refine arrV_congr _ fun j hj => ?_
    congr 1
    by_cases hjx : j < x.toNatClampNeg
    · rw [pk_cpy_in (by omega) (by omega)]
      simp [List.getElem?_append, List.getElem?_take, hjx]
      rw [if_pos (by omega)]
    · rw [pk_cpy_out (by omega)]
      simp [List.getElem?_append, List.length_take, hjx]
      rw [if_neg (by omega)]
      congr 2
      omega
  rw [e2] at X' step
  generalize hcell : arrV (dA E 10) ((L.take x.toNatClampNeg ++ M.drop x.toNatClampNeg).map Value.int).length (vF E ((L.take x.toNatClampNeg ++ M.drop x.toNatClampNeg).map Value.int)) = cN at X' step
  have hheap : ((T.setVm vm').setCell (ad E b) cN).heap = H.setIfInBounds (ad E b) cN := by rw [← hT]; rfl
  have oq : ∀ q : Nat, q ≠ ad E b → (H.setIfInBounds (ad E b) cN)[q]? = H[q]? := fun q hq => by simp [Array.getElem?_setIfInBounds, Ne.symm hq]
  have hme : (H.setIfInBounds (ad E b) cN)[ad E b]? = some cN := by simp [Array.getElem?_setIfInBounds, hl]
  have hsz : (H.setIfInBounds (ad E b) cN).size = H.size := by simp
  have hR : Rel E (h.set b (10, (L.take x.toNatClampNeg ++ M.drop x.toNatClampNeg).map Value.int)) (H.setIfInBounds (ad E b) cN) :=
    hH.1.set hb (show 10 < 14 by omega) hsz oq ⟨fun z => absurd z (by show ¬ 10 < 10; omega), fun _ _ => by rw [hme, ← hcell], fun z => absurd z (by show ¬ 10 = 14; omega)⟩
  obtain ⟨t, g1, g2⟩ := kk E p l e R s mi args below meth c QQ _ _ cells slots lr hF0 hL ⟨hR, by rw [hsz]; exact hH.2.1, fun z hz => by
    rcases List.mem_append.mp hz with h9 | h9
    · exact hH.2.2 z h9
    · obtain ⟨z9, -, hz9⟩ := List.mem_map.mp h9
      rw [← hz9]
      exact ad_bs hn0⟩ hc hs hE _ hheap X'
  exact ⟨t, step t g1, g2⟩
end THROWS
end
section
/-! facts of the tables, printed by gen.py -/
theorem kin_0 : ∀ w ∈ u_ws RX0 TX0 12, w ∈ gtbl := fun w hw => List.mem_filter.mpr ⟨(by decide +kernel : ∀ w ∈ u_ws RX0 TX0 12, w ∈ lw_tbl) w hw, List.all_eq_true.mp (by decide +kernel : (u_ws RX0 TX0 12).all goodWord = true) w hw⟩
theorem kl_0 : KLS (RX0, TX0, 12) := ⟨kin_0, ⟨tyX0, tyX0_ok⟩, nmX0⟩
abbrev df_0 : List Value := [.int 0, .int 0, .int 0, .int 0, .int 0, .int 0, .int 0, .null, .null, .null, .null, .null]
theorem fre_0 : fresh 0 df_0 := ⟨(RX0, TX0, 12), tyX0, rfl, by omega, rfl, kin_0, tyX0_ok, fun E j hj => by
  have hj : j < 12 := hj
  rcases (show j = 0 ∨ j = 1 ∨ j = 2 ∨ j = 3 ∨ j = 4 ∨ j = 5 ∨ j = 6 ∨ j = 7 ∨ j = 8 ∨ j = 9 ∨ j = 10 ∨ j = 11 by omega) with rfl | rfl | rfl | rfl | rfl | rfl | rfl | rfl | rfl | rfl | rfl | rfl <;> rfl, (in_g 68 (by decide +kernel) rfl), (in_g 42 (by decide +kernel) rfl)⟩
theorem kin_1 : ∀ w ∈ u_ws RX1 TX1 5, w ∈ gtbl := fun w hw => List.mem_filter.mpr ⟨(by decide +kernel : ∀ w ∈ u_ws RX1 TX1 5, w ∈ lw_tbl) w hw, List.all_eq_true.mp (by decide +kernel : (u_ws RX1 TX1 5).all goodWord = true) w hw⟩
theorem kl_1 : KLS (RX1, TX1, 5) := ⟨kin_1, ⟨tyX1, tyX1_ok⟩, nmX1⟩
abbrev df_1 : List Value := [.int 0, .null, .null, .null, .null]
theorem fre_1 : fresh 1 df_1 := ⟨(RX1, TX1, 5), tyX1, rfl, by omega, rfl, kin_1, tyX1_ok, fun E j hj => by
  have hj : j < 5 := hj
  rcases (show j = 0 ∨ j = 1 ∨ j = 2 ∨ j = 3 ∨ j = 4 by omega) with rfl | rfl | rfl | rfl | rfl <;> rfl, (in_g 146 (by decide +kernel) rfl), (in_g 47 (by decide +kernel) rfl)⟩
theorem kin_2 : ∀ w ∈ u_ws RX2 TX2 3, w ∈ gtbl := fun w hw => List.mem_filter.mpr ⟨(by decide +kernel : ∀ w ∈ u_ws RX2 TX2 3, w ∈ lw_tbl) w hw, List.all_eq_true.mp (by decide +kernel : (u_ws RX2 TX2 3).all goodWord = true) w hw⟩
theorem kl_2 : KLS (RX2, TX2, 3) := ⟨kin_2, ⟨tyX2, tyX2_ok⟩, nmX2⟩
abbrev df_2 : List Value := [.int 0, .null, .null]
theorem fre_2 : fresh 2 df_2 := ⟨(RX2, TX2, 3), tyX2, rfl, by omega, rfl, kin_2, tyX2_ok, fun E j hj => by
  have hj : j < 3 := hj
  rcases (show j = 0 ∨ j = 1 ∨ j = 2 by omega) with rfl | rfl | rfl <;> rfl, (in_g 122 (by decide +kernel) rfl), (in_g 46 (by decide +kernel) rfl)⟩
theorem kin_3 : ∀ w ∈ u_ws RX3 TX3 3, w ∈ gtbl := fun w hw => List.mem_filter.mpr ⟨(by decide +kernel : ∀ w ∈ u_ws RX3 TX3 3, w ∈ lw_tbl) w hw, List.all_eq_true.mp (by decide +kernel : (u_ws RX3 TX3 3).all goodWord = true) w hw⟩
theorem kl_3 : KLS (RX3, TX3, 3) := ⟨kin_3, ⟨tyX3, tyX3_ok⟩, nmX3⟩
abbrev df_3 : List Value := [.int 0, .int 0, .null]
theorem fre_3 : fresh 3 df_3 := ⟨(RX3, TX3, 3), tyX3, rfl, by omega, rfl, kin_3, tyX3_ok, fun E j hj => by
  have hj : j < 3 := hj
  rcases (show j = 0 ∨ j = 1 ∨ j = 2 by omega) with rfl | rfl | rfl <;> rfl, (in_g 229 (by decide +kernel) rfl), (in_g 48 (by decide +kernel) rfl)⟩
theorem kin_4 : ∀ w ∈ u_ws RX4 TX4 1, w ∈ gtbl := fun w hw => List.mem_filter.mpr ⟨(by decide +kernel : ∀ w ∈ u_ws RX4 TX4 1, w ∈ lw_tbl) w hw, List.all_eq_true.mp (by decide +kernel : (u_ws RX4 TX4 1).all goodWord = true) w hw⟩
theorem kl_4 : KLS (RX4, TX4, 1) := ⟨kin_4, ⟨tyX4, tyX4_ok⟩, nmX4⟩
abbrev df_4 : List Value := [.null]
theorem fre_4 : fresh 4 df_4 := ⟨(RX4, TX4, 1), tyX4, rfl, by omega, rfl, kin_4, tyX4_ok, fun E j hj => by
  have hj : j < 1 := hj
  rcases (show j = 0 by omega) with rfl <;> rfl, (in_g 74 (by decide +kernel) rfl), (in_g 43 (by decide +kernel) rfl)⟩
theorem kin_5 : ∀ w ∈ u_ws RX5 TX5 1, w ∈ gtbl := fun w hw => List.mem_filter.mpr ⟨(by decide +kernel : ∀ w ∈ u_ws RX5 TX5 1, w ∈ lw_tbl) w hw, List.all_eq_true.mp (by decide +kernel : (u_ws RX5 TX5 1).all goodWord = true) w hw⟩
theorem kl_5 : KLS (RX5, TX5, 1) := ⟨kin_5, ⟨tyX5, tyX5_ok⟩, nmX5⟩
abbrev df_5 : List Value := [.null]
theorem fre_5 : fresh 5 df_5 := ⟨(RX5, TX5, 1), tyX5, rfl, by omega, rfl, kin_5, tyX5_ok, fun E j hj => by
  have hj : j < 1 := hj
  rcases (show j = 0 by omega) with rfl <;> rfl, (in_g 235 (by decide +kernel) rfl), (in_g 49 (by decide +kernel) rfl)⟩
theorem kin_6 : ∀ w ∈ u_ws RX6 TX6 5, w ∈ gtbl := fun w hw => List.mem_filter.mpr ⟨(by decide +kernel : ∀ w ∈ u_ws RX6 TX6 5, w ∈ lw_tbl) w hw, List.all_eq_true.mp (by decide +kernel : (u_ws RX6 TX6 5).all goodWord = true) w hw⟩
theorem kl_6 : KLS (RX6, TX6, 5) := ⟨kin_6, ⟨tyX6, tyX6_ok⟩, nmX6⟩
abbrev df_6 : List Value := [.int 0, .null, .null, .null, .null]
theorem fre_6 : fresh 6 df_6 := ⟨(RX6, TX6, 5), tyX6, rfl, by omega, rfl, kin_6, tyX6_ok, fun E j hj => by
  have hj : j < 5 := hj
  rcases (show j = 0 ∨ j = 1 ∨ j = 2 ∨ j = 3 ∨ j = 4 by omega) with rfl | rfl | rfl | rfl | rfl <;> rfl, (in_g 88 (by decide +kernel) rfl), (in_g 45 (by decide +kernel) rfl)⟩
theorem kin_7 : ∀ w ∈ u_ws RX7 TX7 7, w ∈ gtbl := fun w hw => List.mem_filter.mpr ⟨(by decide +kernel : ∀ w ∈ u_ws RX7 TX7 7, w ∈ lw_tbl) w hw, List.all_eq_true.mp (by decide +kernel : (u_ws RX7 TX7 7).all goodWord = true) w hw⟩
theorem kl_7 : KLS (RX7, TX7, 7) := ⟨kin_7, ⟨tyX7, tyX7_ok⟩, nmX7⟩
abbrev df_7 : List Value := [.int 0, .null, .int 0, .int 0, .int 0, .int 0, .int 0]
theorem fre_7 : fresh 7 df_7 := ⟨(RX7, TX7, 7), tyX7, rfl, by omega, rfl, kin_7, tyX7_ok, fun E j hj => by
  have hj : j < 7 := hj
  rcases (show j = 0 ∨ j = 1 ∨ j = 2 ∨ j = 3 ∨ j = 4 ∨ j = 5 ∨ j = 6 by omega) with rfl | rfl | rfl | rfl | rfl | rfl | rfl <;> rfl, (in_g 260 (by decide +kernel) rfl), (in_g 50 (by decide +kernel) rfl)⟩
theorem kin_8 : ∀ w ∈ u_ws RX8 TX8 6, w ∈ gtbl := fun w hw => List.mem_filter.mpr ⟨(by decide +kernel : ∀ w ∈ u_ws RX8 TX8 6, w ∈ lw_tbl) w hw, List.all_eq_true.mp (by decide +kernel : (u_ws RX8 TX8 6).all goodWord = true) w hw⟩
theorem kl_8 : KLS (RX8, TX8, 6) := ⟨kin_8, ⟨tyX8, tyX8_ok⟩, nmX8⟩
abbrev df_8 : List Value := [.null, .null, .null, .null, .null, .null]
theorem fre_8 : fresh 8 df_8 := ⟨(RX8, TX8, 6), tyX8, rfl, by omega, rfl, kin_8, tyX8_ok, fun E j hj => by
  have hj : j < 6 := hj
  rcases (show j = 0 ∨ j = 1 ∨ j = 2 ∨ j = 3 ∨ j = 4 ∨ j = 5 by omega) with rfl | rfl | rfl | rfl | rfl | rfl <;> rfl, (in_g 60 (by decide +kernel) rfl), (in_g 41 (by decide +kernel) rfl)⟩
theorem kin_9 : ∀ w ∈ u_ws RX9 TX9 13, w ∈ gtbl := fun w hw => List.mem_filter.mpr ⟨(by decide +kernel : ∀ w ∈ u_ws RX9 TX9 13, w ∈ lw_tbl) w hw, List.all_eq_true.mp (by decide +kernel : (u_ws RX9 TX9 13).all goodWord = true) w hw⟩
theorem kl_9 : KLS (RX9, TX9, 13) := ⟨kin_9, ⟨tyX9, tyX9_ok⟩, nmX9⟩
abbrev df_9 : List Value := [.int 0, .null, .int 0, .int 0, .int 0, .int 0, .null, .null, .null, .null, .int 0, .null, .null]
theorem fre_9 : fresh 9 df_9 := ⟨(RX9, TX9, 13), tyX9, rfl, by omega, rfl, kin_9, tyX9_ok, fun E j hj => by
  have hj : j < 13 := hj
  rcases (show j = 0 ∨ j = 1 ∨ j = 2 ∨ j = 3 ∨ j = 4 ∨ j = 5 ∨ j = 6 ∨ j = 7 ∨ j = 8 ∨ j = 9 ∨ j = 10 ∨ j = 11 ∨ j = 12 by omega) with rfl | rfl | rfl | rfl | rfl | rfl | rfl | rfl | rfl | rfl | rfl | rfl | rfl <;> rfl, (in_g 903 (by decide +kernel) rfl), (in_g 51 (by decide +kernel) rfl)⟩
theorem fl_X4_13 : FL RX4 13 4 0 (RX4, TX4, 1) := ⟨rfl, by omega, by show 0 < 1; omega, kl_4, Or.inl (in_g 82 (by decide +kernel) rfl)⟩
theorem fl_X6_29 : FL RX6 29 6 0 (RX6, TX6, 5) := ⟨rfl, by omega, by show 0 < 5; omega, kl_6, Or.inl (in_g 95 (by decide +kernel) rfl)⟩
theorem fl_X0_66 : FL RX0 66 6 0 (RX6, TX6, 5) := ⟨rfl, by omega, by show 0 < 5; omega, kl_6, Or.inr ⟨"TentCamp", List.mem_of_getElem? (i := 96) (by decide +kernel)⟩⟩
theorem fl_X8_109 : FL RX8 109 6 0 (RX6, TX6, 5) := ⟨rfl, by omega, by show 0 < 5; omega, kl_6, Or.inr ⟨"TentCamp", List.mem_of_getElem? (i := 97) (by decide +kernel)⟩⟩
theorem fl_X6_14 : FL RX6 14 6 1 (RX6, TX6, 5) := ⟨rfl, by omega, by show 1 < 5; omega, kl_6, Or.inl (in_g 98 (by decide +kernel) rfl)⟩
theorem fl_X8_170 : FL RX8 170 6 1 (RX6, TX6, 5) := ⟨rfl, by omega, by show 1 < 5; omega, kl_6, Or.inr ⟨"TentCamp", List.mem_of_getElem? (i := 99) (by decide +kernel)⟩⟩
theorem fl_X0_136 : FL RX0 136 6 1 (RX6, TX6, 5) := ⟨rfl, by omega, by show 1 < 5; omega, kl_6, Or.inr ⟨"TentCamp", List.mem_of_getElem? (i := 100) (by decide +kernel)⟩⟩
theorem fl_X6_20 : FL RX6 20 6 2 (RX6, TX6, 5) := ⟨rfl, by omega, by show 2 < 5; omega, kl_6, Or.inl (in_g 101 (by decide +kernel) rfl)⟩
theorem fl_X8_176 : FL RX8 176 6 2 (RX6, TX6, 5) := ⟨rfl, by omega, by show 2 < 5; omega, kl_6, Or.inr ⟨"TentCamp", List.mem_of_getElem? (i := 102) (by decide +kernel)⟩⟩
theorem fl_X0_139 : FL RX0 139 6 2 (RX6, TX6, 5) := ⟨rfl, by omega, by show 2 < 5; omega, kl_6, Or.inr ⟨"TentCamp", List.mem_of_getElem? (i := 103) (by decide +kernel)⟩⟩
theorem fl_X6_23 : FL RX6 23 6 3 (RX6, TX6, 5) := ⟨rfl, by omega, by show 3 < 5; omega, kl_6, Or.inl (in_g 104 (by decide +kernel) rfl)⟩
theorem fl_X8_178 : FL RX8 178 6 3 (RX6, TX6, 5) := ⟨rfl, by omega, by show 3 < 5; omega, kl_6, Or.inr ⟨"TentCamp", List.mem_of_getElem? (i := 105) (by decide +kernel)⟩⟩
theorem fl_X0_142 : FL RX0 142 6 3 (RX6, TX6, 5) := ⟨rfl, by omega, by show 3 < 5; omega, kl_6, Or.inr ⟨"TentCamp", List.mem_of_getElem? (i := 106) (by decide +kernel)⟩⟩
theorem fl_X6_26 : FL RX6 26 6 4 (RX6, TX6, 5) := ⟨rfl, by omega, by show 4 < 5; omega, kl_6, Or.inl (in_g 107 (by decide +kernel) rfl)⟩
theorem fl_X8_181 : FL RX8 181 6 4 (RX6, TX6, 5) := ⟨rfl, by omega, by show 4 < 5; omega, kl_6, Or.inr ⟨"TentCamp", List.mem_of_getElem? (i := 108) (by decide +kernel)⟩⟩
theorem fl_X0_143 : FL RX0 143 6 4 (RX6, TX6, 5) := ⟨rfl, by omega, by show 4 < 5; omega, kl_6, Or.inr ⟨"TentCamp", List.mem_of_getElem? (i := 109) (by decide +kernel)⟩⟩
theorem fl_X2_23 : FL RX2 23 2 0 (RX2, TX2, 3) := ⟨rfl, by omega, by show 0 < 3; omega, kl_2, Or.inl (in_g 129 (by decide +kernel) rfl)⟩
theorem fl_X0_69 : FL RX0 69 2 0 (RX2, TX2, 3) := ⟨rfl, by omega, by show 0 < 3; omega, kl_2, Or.inr ⟨"TentCamp", List.mem_of_getElem? (i := 130) (by decide +kernel)⟩⟩
theorem fl_X8_128 : FL RX8 128 2 0 (RX2, TX2, 3) := ⟨rfl, by omega, by show 0 < 3; omega, kl_2, Or.inr ⟨"TentCamp", List.mem_of_getElem? (i := 131) (by decide +kernel)⟩⟩
theorem fl_X2_14 : FL RX2 14 2 1 (RX2, TX2, 3) := ⟨rfl, by omega, by show 1 < 3; omega, kl_2, Or.inl (in_g 132 (by decide +kernel) rfl)⟩
theorem fl_X8_222 : FL RX8 222 2 1 (RX2, TX2, 3) := ⟨rfl, by omega, by show 1 < 3; omega, kl_2, Or.inr ⟨"TentCamp", List.mem_of_getElem? (i := 133) (by decide +kernel)⟩⟩
theorem fl_X0_166 : FL RX0 166 2 1 (RX2, TX2, 3) := ⟨rfl, by omega, by show 1 < 3; omega, kl_2, Or.inr ⟨"TentCamp", List.mem_of_getElem? (i := 134) (by decide +kernel)⟩⟩
theorem fl_X2_20 : FL RX2 20 2 2 (RX2, TX2, 3) := ⟨rfl, by omega, by show 2 < 3; omega, kl_2, Or.inl (in_g 135 (by decide +kernel) rfl)⟩
theorem fl_X8_224 : FL RX8 224 2 2 (RX2, TX2, 3) := ⟨rfl, by omega, by show 2 < 3; omega, kl_2, Or.inr ⟨"TentCamp", List.mem_of_getElem? (i := 136) (by decide +kernel)⟩⟩
theorem fl_X0_168 : FL RX0 168 2 2 (RX2, TX2, 3) := ⟨rfl, by omega, by show 2 < 3; omega, kl_2, Or.inr ⟨"TentCamp", List.mem_of_getElem? (i := 137) (by decide +kernel)⟩⟩
theorem fl_X1_29 : FL RX1 29 1 0 (RX1, TX1, 5) := ⟨rfl, by omega, by show 0 < 5; omega, kl_1, Or.inl (in_g 153 (by decide +kernel) rfl)⟩
theorem fl_X0_70 : FL RX0 70 1 0 (RX1, TX1, 5) := ⟨rfl, by omega, by show 0 < 5; omega, kl_1, Or.inr ⟨"TentCamp", List.mem_of_getElem? (i := 154) (by decide +kernel)⟩⟩
theorem fl_X8_118 : FL RX8 118 1 0 (RX1, TX1, 5) := ⟨rfl, by omega, by show 0 < 5; omega, kl_1, Or.inr ⟨"TentCamp", List.mem_of_getElem? (i := 155) (by decide +kernel)⟩⟩
theorem fl_X1_14 : FL RX1 14 1 1 (RX1, TX1, 5) := ⟨rfl, by omega, by show 1 < 5; omega, kl_1, Or.inl (in_g 156 (by decide +kernel) rfl)⟩
theorem fl_X8_192 : FL RX8 192 1 1 (RX1, TX1, 5) := ⟨rfl, by omega, by show 1 < 5; omega, kl_1, Or.inr ⟨"TentCamp", List.mem_of_getElem? (i := 157) (by decide +kernel)⟩⟩
theorem fl_X0_119 : FL RX0 119 1 1 (RX1, TX1, 5) := ⟨rfl, by omega, by show 1 < 5; omega, kl_1, Or.inr ⟨"TentCamp", List.mem_of_getElem? (i := 158) (by decide +kernel)⟩⟩
theorem fl_X1_20 : FL RX1 20 1 2 (RX1, TX1, 5) := ⟨rfl, by omega, by show 2 < 5; omega, kl_1, Or.inl (in_g 159 (by decide +kernel) rfl)⟩
theorem fl_X0_103 : FL RX0 103 1 2 (RX1, TX1, 5) := ⟨rfl, by omega, by show 2 < 5; omega, kl_1, Or.inr ⟨"TentCamp", List.mem_of_getElem? (i := 160) (by decide +kernel)⟩⟩
theorem fl_X8_195 : FL RX8 195 1 2 (RX1, TX1, 5) := ⟨rfl, by omega, by show 2 < 5; omega, kl_1, Or.inr ⟨"TentCamp", List.mem_of_getElem? (i := 161) (by decide +kernel)⟩⟩
theorem fl_X1_23 : FL RX1 23 1 3 (RX1, TX1, 5) := ⟨rfl, by omega, by show 3 < 5; omega, kl_1, Or.inl (in_g 162 (by decide +kernel) rfl)⟩
theorem fl_X8_196 : FL RX8 196 1 3 (RX1, TX1, 5) := ⟨rfl, by omega, by show 3 < 5; omega, kl_1, Or.inr ⟨"TentCamp", List.mem_of_getElem? (i := 163) (by decide +kernel)⟩⟩
theorem fl_X0_199 : FL RX0 199 1 3 (RX1, TX1, 5) := ⟨rfl, by omega, by show 3 < 5; omega, kl_1, Or.inr ⟨"TentCamp", List.mem_of_getElem? (i := 164) (by decide +kernel)⟩⟩
theorem fl_X1_26 : FL RX1 26 1 4 (RX1, TX1, 5) := ⟨rfl, by omega, by show 4 < 5; omega, kl_1, Or.inl (in_g 165 (by decide +kernel) rfl)⟩
theorem fl_X0_88 : FL RX0 88 1 4 (RX1, TX1, 5) := ⟨rfl, by omega, by show 4 < 5; omega, kl_1, Or.inr ⟨"TentCamp", List.mem_of_getElem? (i := 166) (by decide +kernel)⟩⟩
theorem fl_X8_202 : FL RX8 202 1 4 (RX1, TX1, 5) := ⟨rfl, by omega, by show 4 < 5; omega, kl_1, Or.inr ⟨"TentCamp", List.mem_of_getElem? (i := 167) (by decide +kernel)⟩⟩
theorem fl_X0_9 : FL RX0 9 0 0 (RX0, TX0, 12) := ⟨rfl, by omega, by show 0 < 12; omega, kl_0, Or.inl (in_g 179 (by decide +kernel) rfl)⟩
theorem fl_X8_150 : FL RX8 150 0 0 (RX0, TX0, 12) := ⟨rfl, by omega, by show 0 < 12; omega, kl_0, Or.inr ⟨"TentCamp", List.mem_of_getElem? (i := 180) (by decide +kernel)⟩⟩
theorem fl_X0_15 : FL RX0 15 0 1 (RX0, TX0, 12) := ⟨rfl, by omega, by show 1 < 12; omega, kl_0, Or.inl (in_g 181 (by decide +kernel) rfl)⟩
theorem fl_X8_153 : FL RX8 153 0 1 (RX0, TX0, 12) := ⟨rfl, by omega, by show 1 < 12; omega, kl_0, Or.inr ⟨"TentCamp", List.mem_of_getElem? (i := 182) (by decide +kernel)⟩⟩
theorem fl_X0_18 : FL RX0 18 0 2 (RX0, TX0, 12) := ⟨rfl, by omega, by show 2 < 12; omega, kl_0, Or.inl (in_g 183 (by decide +kernel) rfl)⟩
theorem fl_X8_156 : FL RX8 156 0 2 (RX0, TX0, 12) := ⟨rfl, by omega, by show 2 < 12; omega, kl_0, Or.inr ⟨"TentCamp", List.mem_of_getElem? (i := 184) (by decide +kernel)⟩⟩
theorem fl_X0_54 : FL RX0 54 0 3 (RX0, TX0, 12) := ⟨rfl, by omega, by show 3 < 12; omega, kl_0, Or.inl (in_g 185 (by decide +kernel) rfl)⟩
theorem fl_X8_147 : FL RX8 147 0 3 (RX0, TX0, 12) := ⟨rfl, by omega, by show 3 < 12; omega, kl_0, Or.inr ⟨"TentCamp", List.mem_of_getElem? (i := 186) (by decide +kernel)⟩⟩
theorem fl_X0_57 : FL RX0 57 0 4 (RX0, TX0, 12) := ⟨rfl, by omega, by show 4 < 12; omega, kl_0, Or.inl (in_g 187 (by decide +kernel) rfl)⟩
theorem fl_X8_141 : FL RX8 141 0 4 (RX0, TX0, 12) := ⟨rfl, by omega, by show 4 < 12; omega, kl_0, Or.inr ⟨"TentCamp", List.mem_of_getElem? (i := 188) (by decide +kernel)⟩⟩
theorem fl_X0_60 : FL RX0 60 0 5 (RX0, TX0, 12) := ⟨rfl, by omega, by show 5 < 12; omega, kl_0, Or.inl (in_g 189 (by decide +kernel) rfl)⟩
theorem fl_X8_144 : FL RX8 144 0 5 (RX0, TX0, 12) := ⟨rfl, by omega, by show 5 < 12; omega, kl_0, Or.inr ⟨"TentCamp", List.mem_of_getElem? (i := 190) (by decide +kernel)⟩⟩
theorem fl_X0_63 : FL RX0 63 0 6 (RX0, TX0, 12) := ⟨rfl, by omega, by show 6 < 12; omega, kl_0, Or.inl (in_g 191 (by decide +kernel) rfl)⟩
theorem fl_X8_280 : FL RX8 280 0 6 (RX0, TX0, 12) := ⟨rfl, by omega, by show 6 < 12; omega, kl_0, Or.inr ⟨"TentCamp", List.mem_of_getElem? (i := 192) (by decide +kernel)⟩⟩
theorem fl_X0_26 : FL RX0 26 0 7 (RX0, TX0, 12) := ⟨rfl, by omega, by show 7 < 12; omega, kl_0, Or.inl (in_g 193 (by decide +kernel) rfl)⟩
theorem fl_X8_205 : FL RX8 205 0 7 (RX0, TX0, 12) := ⟨rfl, by omega, by show 7 < 12; omega, kl_0, Or.inr ⟨"TentCamp", List.mem_of_getElem? (i := 194) (by decide +kernel)⟩⟩
theorem fl_X0_33 : FL RX0 33 0 8 (RX0, TX0, 12) := ⟨rfl, by omega, by show 8 < 12; omega, kl_0, Or.inl (in_g 195 (by decide +kernel) rfl)⟩
theorem fl_X8_105 : FL RX8 105 0 8 (RX0, TX0, 12) := ⟨rfl, by omega, by show 8 < 12; omega, kl_0, Or.inr ⟨"TentCamp", List.mem_of_getElem? (i := 196) (by decide +kernel)⟩⟩
theorem fl_X0_40 : FL RX0 40 0 9 (RX0, TX0, 12) := ⟨rfl, by omega, by show 9 < 12; omega, kl_0, Or.inl (in_g 197 (by decide +kernel) rfl)⟩
theorem fl_X8_124 : FL RX8 124 0 9 (RX0, TX0, 12) := ⟨rfl, by omega, by show 9 < 12; omega, kl_0, Or.inr ⟨"TentCamp", List.mem_of_getElem? (i := 198) (by decide +kernel)⟩⟩
theorem fl_X0_47 : FL RX0 47 0 10 (RX0, TX0, 12) := ⟨rfl, by omega, by show 10 < 12; omega, kl_0, Or.inl (in_g 199 (by decide +kernel) rfl)⟩
theorem fl_X8_114 : FL RX8 114 0 10 (RX0, TX0, 12) := ⟨rfl, by omega, by show 10 < 12; omega, kl_0, Or.inr ⟨"TentCamp", List.mem_of_getElem? (i := 200) (by decide +kernel)⟩⟩
theorem fl_X0_51 : FL RX0 51 0 11 (RX0, TX0, 12) := ⟨rfl, by omega, by show 11 < 12; omega, kl_0, Or.inl (in_g 201 (by decide +kernel) rfl)⟩
theorem fl_X8_121 : FL RX8 121 0 11 (RX0, TX0, 12) := ⟨rfl, by omega, by show 11 < 12; omega, kl_0, Or.inr ⟨"TentCamp", List.mem_of_getElem? (i := 202) (by decide +kernel)⟩⟩
theorem fl_X5_15 : FL RX5 15 5 0 (RX5, TX5, 1) := ⟨rfl, by omega, by show 0 < 1; omega, kl_5, Or.inl (in_g 244 (by decide +kernel) rfl)⟩
theorem fl_X3_20 : FL RX3 20 3 0 (RX3, TX3, 3) := ⟨rfl, by omega, by show 0 < 3; omega, kl_3, Or.inl (in_g 248 (by decide +kernel) rfl)⟩
theorem fl_X8_271 : FL RX8 271 3 0 (RX3, TX3, 3) := ⟨rfl, by omega, by show 0 < 3; omega, kl_3, Or.inr ⟨"TentCamp", List.mem_of_getElem? (i := 249) (by decide +kernel)⟩⟩
theorem fl_X3_24 : FL RX3 24 3 1 (RX3, TX3, 3) := ⟨rfl, by omega, by show 1 < 3; omega, kl_3, Or.inl (in_g 250 (by decide +kernel) rfl)⟩
theorem fl_X3_14 : FL RX3 14 3 2 (RX3, TX3, 3) := ⟨rfl, by omega, by show 2 < 3; omega, kl_3, Or.inl (in_g 251 (by decide +kernel) rfl)⟩
theorem fl_X7_20 : FL RX7 20 7 0 (RX7, TX7, 7) := ⟨rfl, by omega, by show 0 < 7; omega, kl_7, Or.inl (in_g 267 (by decide +kernel) rfl)⟩
theorem fl_X8_56 : FL RX8 56 7 0 (RX7, TX7, 7) := ⟨rfl, by omega, by show 0 < 7; omega, kl_7, Or.inr ⟨"TentCamp", List.mem_of_getElem? (i := 268) (by decide +kernel)⟩⟩
theorem fl_X7_14 : FL RX7 14 7 1 (RX7, TX7, 7) := ⟨rfl, by omega, by show 1 < 7; omega, kl_7, Or.inl (in_g 269 (by decide +kernel) rfl)⟩
theorem fl_X7_42 : FL RX7 42 7 2 (RX7, TX7, 7) := ⟨rfl, by omega, by show 2 < 7; omega, kl_7, Or.inl (in_g 270 (by decide +kernel) rfl)⟩
theorem fl_X7_38 : FL RX7 38 7 3 (RX7, TX7, 7) := ⟨rfl, by omega, by show 3 < 7; omega, kl_7, Or.inl (in_g 271 (by decide +kernel) rfl)⟩
theorem fl_X7_49 : FL RX7 49 7 4 (RX7, TX7, 7) := ⟨rfl, by omega, by show 4 < 7; omega, kl_7, Or.inl (in_g 272 (by decide +kernel) rfl)⟩
theorem fl_X8_333 : FL RX8 333 7 4 (RX7, TX7, 7) := ⟨rfl, by omega, by show 4 < 7; omega, kl_7, Or.inr ⟨"TentCamp", List.mem_of_getElem? (i := 273) (by decide +kernel)⟩⟩
theorem fl_X7_59 : FL RX7 59 7 5 (RX7, TX7, 7) := ⟨rfl, by omega, by show 5 < 7; omega, kl_7, Or.inl (in_g 274 (by decide +kernel) rfl)⟩
theorem fl_X8_84 : FL RX8 84 7 5 (RX7, TX7, 7) := ⟨rfl, by omega, by show 5 < 7; omega, kl_7, Or.inr ⟨"TentCamp", List.mem_of_getElem? (i := 275) (by decide +kernel)⟩⟩
theorem fl_X7_62 : FL RX7 62 7 6 (RX7, TX7, 7) := ⟨rfl, by omega, by show 6 < 7; omega, kl_7, Or.inl (in_g 276 (by decide +kernel) rfl)⟩
theorem fl_X8_87 : FL RX8 87 7 6 (RX7, TX7, 7) := ⟨rfl, by omega, by show 6 < 7; omega, kl_7, Or.inr ⟨"TentCamp", List.mem_of_getElem? (i := 277) (by decide +kernel)⟩⟩
theorem fl_X8_10 : FL RX8 10 8 0 (RX8, TX8, 6) := ⟨rfl, by omega, by show 0 < 6; omega, kl_8, Or.inl (in_g 297 (by decide +kernel) rfl)⟩
theorem fl_X8_16 : FL RX8 16 8 1 (RX8, TX8, 6) := ⟨rfl, by omega, by show 1 < 6; omega, kl_8, Or.inl (in_g 298 (by decide +kernel) rfl)⟩
theorem fl_X8_22 : FL RX8 22 8 2 (RX8, TX8, 6) := ⟨rfl, by omega, by show 2 < 6; omega, kl_8, Or.inl (in_g 299 (by decide +kernel) rfl)⟩
theorem fl_X8_29 : FL RX8 29 8 3 (RX8, TX8, 6) := ⟨rfl, by omega, by show 3 < 6; omega, kl_8, Or.inl (in_g 300 (by decide +kernel) rfl)⟩
theorem fl_X8_38 : FL RX8 38 8 4 (RX8, TX8, 6) := ⟨rfl, by omega, by show 4 < 6; omega, kl_8, Or.inl (in_g 301 (by decide +kernel) rfl)⟩
theorem fl_X8_45 : FL RX8 45 8 5 (RX8, TX8, 6) := ⟨rfl, by omega, by show 5 < 6; omega, kl_8, Or.inl (in_g 302 (by decide +kernel) rfl)⟩
theorem fl_X9_36 : FL RX9 36 9 0 (RX9, TX9, 13) := ⟨rfl, by omega, by show 0 < 13; omega, kl_9, Or.inl (in_g 911 (by decide +kernel) rfl)⟩
theorem fl_X9_7 : FL RX9 7 9 1 (RX9, TX9, 13) := ⟨rfl, by omega, by show 1 < 13; omega, kl_9, Or.inl (in_g 912 (by decide +kernel) rfl)⟩
theorem fl_X9_125 : FL RX9 125 9 2 (RX9, TX9, 13) := ⟨rfl, by omega, by show 2 < 13; omega, kl_9, Or.inl (in_g 913 (by decide +kernel) rfl)⟩
theorem fl_X9_132 : FL RX9 132 9 3 (RX9, TX9, 13) := ⟨rfl, by omega, by show 3 < 13; omega, kl_9, Or.inl (in_g 914 (by decide +kernel) rfl)⟩
theorem fl_X9_135 : FL RX9 135 9 4 (RX9, TX9, 13) := ⟨rfl, by omega, by show 4 < 13; omega, kl_9, Or.inl (in_g 915 (by decide +kernel) rfl)⟩
theorem fl_X9_162 : FL RX9 162 9 5 (RX9, TX9, 13) := ⟨rfl, by omega, by show 5 < 13; omega, kl_9, Or.inl (in_g 916 (by decide +kernel) rfl)⟩
theorem fl_X9_13 : FL RX9 13 9 6 (RX9, TX9, 13) := ⟨rfl, by omega, by show 6 < 13; omega, kl_9, Or.inl (in_g 917 (by decide +kernel) rfl)⟩
theorem fl_X9_16 : FL RX9 16 9 7 (RX9, TX9, 13) := ⟨rfl, by omega, by show 7 < 13; omega, kl_9, Or.inl (in_g 918 (by decide +kernel) rfl)⟩
theorem fl_X9_19 : FL RX9 19 9 8 (RX9, TX9, 13) := ⟨rfl, by omega, by show 8 < 13; omega, kl_9, Or.inl (in_g 919 (by decide +kernel) rfl)⟩
theorem fl_X9_22 : FL RX9 22 9 9 (RX9, TX9, 13) := ⟨rfl, by omega, by show 9 < 13; omega, kl_9, Or.inl (in_g 920 (by decide +kernel) rfl)⟩
theorem fl_X9_42 : FL RX9 42 9 10 (RX9, TX9, 13) := ⟨rfl, by omega, by show 10 < 13; omega, kl_9, Or.inl (in_g 921 (by decide +kernel) rfl)⟩
theorem fl_X9_25 : FL RX9 25 9 11 (RX9, TX9, 13) := ⟨rfl, by omega, by show 11 < 13; omega, kl_9, Or.inl (in_g 922 (by decide +kernel) rfl)⟩
theorem fl_X9_28 : FL RX9 28 9 12 (RX9, TX9, 13) := ⟨rfl, by omega, by show 12 < 13; omega, kl_9, Or.inl (in_g 923 (by decide +kernel) rfl)⟩
abbrev mX8_init : AM := (yX8_init, cX8_init, 1, none, [], false)
theorem mo_X8_init : MOK mX8_init 0 := ⟨(in_g 63 (by decide +kernel) rfl), (in_g 41 (by decide +kernel) rfl), ⟨by decide +kernel, by decide +kernel⟩, by decide +kernel, by decide, by decide +kernel, fun h => by first | rfl | cases h⟩
theorem iv_X8_init : Cond.instanceMethod yX8_init ∈ gtbl := (in_g 62 (by decide +kernel) rfl)
abbrev mX0_init : AM := (yX0_init, cX0_init, 1, none, [], false)
theorem mo_X0_init : MOK mX0_init 0 := ⟨(in_g 71 (by decide +kernel) rfl), (in_g 42 (by decide +kernel) rfl), ⟨by decide +kernel, by decide +kernel⟩, by decide +kernel, by decide, by decide +kernel, fun h => by first | rfl | cases h⟩
theorem iv_X0_init : Cond.instanceMethod yX0_init ∈ gtbl := (in_g 70 (by decide +kernel) rfl)
abbrev mX4_init : AM := (yX4_init, cX4_init, 2, none, [], false)
theorem mo_X4_init : MOK mX4_init 1 := ⟨(in_g 77 (by decide +kernel) rfl), (in_g 43 (by decide +kernel) rfl), ⟨by decide +kernel, by decide +kernel⟩, by decide +kernel, by decide, by decide +kernel, fun h => by first | rfl | cases h⟩
theorem iv_X4_init : Cond.instanceMethod yX4_init ∈ gtbl := (in_g 76 (by decide +kernel) rfl)
abbrev mX6_init : AM := (yX6_init, cX6_init, 1, none, [], false)
theorem mo_X6_init : MOK mX6_init 0 := ⟨(in_g 91 (by decide +kernel) rfl), (in_g 45 (by decide +kernel) rfl), ⟨by decide +kernel, by decide +kernel⟩, by decide +kernel, by decide, by decide +kernel, fun h => by first | rfl | cases h⟩
theorem iv_X6_init : Cond.instanceMethod yX6_init ∈ gtbl := (in_g 90 (by decide +kernel) rfl)
abbrev mX2_init : AM := (yX2_init, cX2_init, 1, none, [], false)
theorem mo_X2_init : MOK mX2_init 0 := ⟨(in_g 125 (by decide +kernel) rfl), (in_g 46 (by decide +kernel) rfl), ⟨by decide +kernel, by decide +kernel⟩, by decide +kernel, by decide, by decide +kernel, fun h => by first | rfl | cases h⟩
theorem iv_X2_init : Cond.instanceMethod yX2_init ∈ gtbl := (in_g 124 (by decide +kernel) rfl)
abbrev mX1_init : AM := (yX1_init, cX1_init, 1, none, [], false)
theorem mo_X1_init : MOK mX1_init 0 := ⟨(in_g 149 (by decide +kernel) rfl), (in_g 47 (by decide +kernel) rfl), ⟨by decide +kernel, by decide +kernel⟩, by decide +kernel, by decide, by decide +kernel, fun h => by first | rfl | cases h⟩
theorem iv_X1_init : Cond.instanceMethod yX1_init ∈ gtbl := (in_g 148 (by decide +kernel) rfl)
abbrev mX3_init : AM := (yX3_init, cX3_init, 1, none, [], false)
theorem mo_X3_init : MOK mX3_init 0 := ⟨(in_g 232 (by decide +kernel) rfl), (in_g 48 (by decide +kernel) rfl), ⟨by decide +kernel, by decide +kernel⟩, by decide +kernel, by decide, by decide +kernel, fun h => by first | rfl | cases h⟩
theorem iv_X3_init : Cond.instanceMethod yX3_init ∈ gtbl := (in_g 231 (by decide +kernel) rfl)
abbrev mX5_init : AM := (yX5_init, cX5_init, 3, none, [], false)
theorem mo_X5_init : MOK mX5_init 1 := ⟨(in_g 238 (by decide +kernel) rfl), (in_g 49 (by decide +kernel) rfl), ⟨by decide +kernel, by decide +kernel⟩, by decide +kernel, by decide, by decide +kernel, fun h => by first | rfl | cases h⟩
theorem iv_X5_init : Cond.instanceMethod yX5_init ∈ gtbl := (in_g 237 (by decide +kernel) rfl)
abbrev mX7_init : AM := (yX7_init, cX7_init, 1, none, [], false)
theorem mo_X7_init : MOK mX7_init 0 := ⟨(in_g 263 (by decide +kernel) rfl), (in_g 50 (by decide +kernel) rfl), ⟨by decide +kernel, by decide +kernel⟩, by decide +kernel, by decide, by decide +kernel, fun h => by first | rfl | cases h⟩
theorem iv_X7_init : Cond.instanceMethod yX7_init ∈ gtbl := (in_g 262 (by decide +kernel) rfl)
abbrev mX8_clearText : AM := (yX8_clearText, cX8_clearText, 2, some (.int), [], false)
theorem mo_X8_clearText : MOK mX8_clearText 0 := ⟨(in_g 319 (by decide +kernel) rfl), (in_g 41 (by decide +kernel) rfl), ⟨by decide +kernel, by decide +kernel⟩, by decide +kernel, by decide, by decide +kernel, fun h => by first | rfl | cases h⟩
theorem iv_X8_clearText : Cond.instanceMethod yX8_clearText ∈ gtbl := (in_g 317 (by decide +kernel) rfl)
theorem se_X8_clearText : Cond.selects yX8_clearText.cls yX8_clearText yX8_clearText ∈ gtbl := (in_g 318 (by decide +kernel) rfl)
abbrev mX8_errorPosition : AM := (yX8_errorPosition, cX8_errorPosition, 1, some (.int), [], false)
theorem mo_X8_errorPosition : MOK mX8_errorPosition 0 := ⟨(in_g 323 (by decide +kernel) rfl), (in_g 41 (by decide +kernel) rfl), ⟨by decide +kernel, by decide +kernel⟩, by decide +kernel, by decide, by decide +kernel, fun h => by first | rfl | cases h⟩
theorem iv_X8_errorPosition : Cond.instanceMethod yX8_errorPosition ∈ gtbl := (in_g 321 (by decide +kernel) rfl)
theorem se_X8_errorPosition : Cond.selects yX8_errorPosition.cls yX8_errorPosition yX8_errorPosition ∈ gtbl := (in_g 322 (by decide +kernel) rfl)
abbrev mX7_faultPosition : AM := (yX7_faultPosition, cX7_faultPosition, 2, some (.int), [], false)
theorem mo_X7_faultPosition : MOK mX7_faultPosition 0 := ⟨(in_g 327 (by decide +kernel) rfl), (in_g 50 (by decide +kernel) rfl), ⟨by decide +kernel, by decide +kernel⟩, by decide +kernel, by decide, by decide +kernel, fun h => by first | rfl | cases h⟩
theorem iv_X7_faultPosition : Cond.instanceMethod yX7_faultPosition ∈ gtbl := (in_g 325 (by decide +kernel) rfl)
theorem se_X7_faultPosition : Cond.selects yX7_faultPosition.cls yX7_faultPosition yX7_faultPosition ∈ gtbl := (in_g 326 (by decide +kernel) rfl)
abbrev mX7_readHead : AM := (yX7_readHead, cX7_readHead, 1, none, [], false)
theorem mo_X7_readHead : MOK mX7_readHead 0 := ⟨(in_g 331 (by decide +kernel) rfl), (in_g 50 (by decide +kernel) rfl), ⟨by decide +kernel, by decide +kernel⟩, by decide +kernel, by decide, by decide +kernel, fun h => by first | rfl | cases h⟩
theorem iv_X7_readHead : Cond.instanceMethod yX7_readHead ∈ gtbl := (in_g 329 (by decide +kernel) rfl)
theorem se_X7_readHead : Cond.selects yX7_readHead.cls yX7_readHead yX7_readHead ∈ gtbl := (in_g 330 (by decide +kernel) rfl)
abbrev mX7_readLetter : AM := (yX7_readLetter, cX7_readLetter, 2, some (.int), [], false)
theorem mo_X7_readLetter : MOK mX7_readLetter 0 := ⟨(in_g 335 (by decide +kernel) rfl), (in_g 50 (by decide +kernel) rfl), ⟨by decide +kernel, by decide +kernel⟩, by decide +kernel, by decide, by decide +kernel, fun h => by first | rfl | cases h⟩
theorem iv_X7_readLetter : Cond.instanceMethod yX7_readLetter ∈ gtbl := (in_g 334 (by decide +kernel) rfl)
theorem se_X7_readLetter : Cond.selects yX7_readLetter.cls yX7_readLetter yX7_readLetter ∈ gtbl := (in_g 0 (by decide +kernel) rfl)
abbrev mX7_goesOn : AM := (yX7_goesOn, cX7_goesOn, 1, some (.boolean), [], false)
theorem mo_X7_goesOn : MOK mX7_goesOn 0 := ⟨(in_g 339 (by decide +kernel) rfl), (in_g 50 (by decide +kernel) rfl), ⟨by decide +kernel, by decide +kernel⟩, by decide +kernel, by decide, by decide +kernel, fun h => by first | rfl | cases h⟩
theorem iv_X7_goesOn : Cond.instanceMethod yX7_goesOn ∈ gtbl := (in_g 337 (by decide +kernel) rfl)
theorem se_X7_goesOn : Cond.selects yX7_goesOn.cls yX7_goesOn yX7_goesOn ∈ gtbl := (in_g 338 (by decide +kernel) rfl)
abbrev mX4_get : AM := (yX4_get, cX4_get, 2, some (.int), [], false)
theorem mo_X4_get : MOK mX4_get 1 := ⟨(in_g 343 (by decide +kernel) rfl), (in_g 43 (by decide +kernel) rfl), ⟨by decide +kernel, by decide +kernel⟩, by decide +kernel, by decide, by decide +kernel, fun h => by first | rfl | cases h⟩
theorem iv_X4_get : Cond.instanceMethod yX4_get ∈ gtbl := (in_g 341 (by decide +kernel) rfl)
theorem se_X4_get : Cond.selects yX4_get.cls yX4_get yX4_get ∈ gtbl := (in_g 342 (by decide +kernel) rfl)
abbrev mX7_failAt : AM := (yX7_failAt, cX7_failAt, 2, none, [], false)
theorem mo_X7_failAt : MOK mX7_failAt 1 := ⟨(in_g 347 (by decide +kernel) rfl), (in_g 50 (by decide +kernel) rfl), ⟨by decide +kernel, by decide +kernel⟩, by decide +kernel, by decide, by decide +kernel, fun h => by first | rfl | cases h⟩
theorem iv_X7_failAt : Cond.instanceMethod yX7_failAt ∈ gtbl := (in_g 346 (by decide +kernel) rfl)
theorem se_X7_failAt : Cond.selects yX7_failAt.cls yX7_failAt yX7_failAt ∈ gtbl := (in_g 1 (by decide +kernel) rfl)
abbrev mX7_readNumber : AM := (yX7_readNumber, cX7_readNumber, 9, some (.int), [], false)
theorem mo_X7_readNumber : MOK mX7_readNumber 3 := ⟨(in_g 351 (by decide +kernel) rfl), (in_g 50 (by decide +kernel) rfl), ⟨by decide +kernel, by decide +kernel⟩, by decide +kernel, by decide, by decide +kernel, fun h => by first | rfl | cases h⟩
theorem iv_X7_readNumber : Cond.instanceMethod yX7_readNumber ∈ gtbl := (in_g 350 (by decide +kernel) rfl)
theorem se_X7_readNumber : Cond.selects yX7_readNumber.cls yX7_readNumber yX7_readNumber ∈ gtbl := (in_g 2 (by decide +kernel) rfl)
abbrev mX7_digitHere : AM := (yX7_digitHere, cX7_digitHere, 2, some (.int), [], false)
theorem mo_X7_digitHere : MOK mX7_digitHere 0 := ⟨(in_g 355 (by decide +kernel) rfl), (in_g 50 (by decide +kernel) rfl), ⟨by decide +kernel, by decide +kernel⟩, by decide +kernel, by decide, by decide +kernel, fun h => by first | rfl | cases h⟩
theorem iv_X7_digitHere : Cond.instanceMethod yX7_digitHere ∈ gtbl := (in_g 354 (by decide +kernel) rfl)
theorem se_X7_digitHere : Cond.selects yX7_digitHere.cls yX7_digitHere yX7_digitHere ∈ gtbl := (in_g 3 (by decide +kernel) rfl)
abbrev mX7_readCommand : AM := (yX7_readCommand, cX7_readCommand, 2, none, [], false)
theorem mo_X7_readCommand : MOK mX7_readCommand 0 := ⟨(in_g 359 (by decide +kernel) rfl), (in_g 50 (by decide +kernel) rfl), ⟨by decide +kernel, by decide +kernel⟩, by decide +kernel, by decide, by decide +kernel, fun h => by first | rfl | cases h⟩
theorem iv_X7_readCommand : Cond.instanceMethod yX7_readCommand ∈ gtbl := (in_g 357 (by decide +kernel) rfl)
theorem se_X7_readCommand : Cond.selects yX7_readCommand.cls yX7_readCommand yX7_readCommand ∈ gtbl := (in_g 358 (by decide +kernel) rfl)
abbrev mX7_readStep : AM := (yX7_readStep, cX7_readStep, 2, some (.int), [], false)
theorem mo_X7_readStep : MOK mX7_readStep 0 := ⟨(in_g 363 (by decide +kernel) rfl), (in_g 50 (by decide +kernel) rfl), ⟨by decide +kernel, by decide +kernel⟩, by decide +kernel, by decide, by decide +kernel, fun h => by first | rfl | cases h⟩
theorem iv_X7_readStep : Cond.instanceMethod yX7_readStep ∈ gtbl := (in_g 362 (by decide +kernel) rfl)
theorem se_X7_readStep : Cond.selects yX7_readStep.cls yX7_readStep yX7_readStep ∈ gtbl := (in_g 4 (by decide +kernel) rfl)
abbrev mX8_isStep : AM := (yX8_isStep, cX8_isStep, 1, some (.boolean), [], false)
theorem mo_X8_isStep : MOK mX8_isStep 1 := ⟨(in_g 366 (by decide +kernel) rfl), (in_g 41 (by decide +kernel) rfl), ⟨by decide +kernel, by decide +kernel⟩, by decide +kernel, by decide, by decide +kernel, fun h => by first | rfl | cases h⟩
theorem st_X8_isStep : Cond.static yX8_isStep ∈ gtbl := (in_g 365 (by decide +kernel) rfl)
abbrev mX8_bestSize : AM := (yX8_bestSize, cX8_bestSize, 4, some (.int), [], false)
theorem mo_X8_bestSize : MOK mX8_bestSize 0 := ⟨(in_g 370 (by decide +kernel) rfl), (in_g 41 (by decide +kernel) rfl), ⟨by decide +kernel, by decide +kernel⟩, by decide +kernel, by decide, by decide +kernel, fun h => by first | rfl | cases h⟩
theorem iv_X8_bestSize : Cond.instanceMethod yX8_bestSize ∈ gtbl := (in_g 368 (by decide +kernel) rfl)
theorem se_X8_bestSize : Cond.selects yX8_bestSize.cls yX8_bestSize yX8_bestSize ∈ gtbl := (in_g 369 (by decide +kernel) rfl)
abbrev mX0_beginAnew : AM := (yX0_beginAnew, cX0_beginAnew, 3, none, [], false)
theorem mo_X0_beginAnew : MOK mX0_beginAnew 2 := ⟨(in_g 374 (by decide +kernel) rfl), (in_g 42 (by decide +kernel) rfl), ⟨by decide +kernel, by decide +kernel⟩, by decide +kernel, by decide, by decide +kernel, fun h => by first | rfl | cases h⟩
theorem iv_X0_beginAnew : Cond.instanceMethod yX0_beginAnew ∈ gtbl := (in_g 372 (by decide +kernel) rfl)
theorem se_X0_beginAnew : Cond.selects yX0_beginAnew.cls yX0_beginAnew yX0_beginAnew ∈ gtbl := (in_g 373 (by decide +kernel) rfl)
abbrev mX0_putUpAll : AM := (yX0_putUpAll, cX0_putUpAll, 3, some (.boolean), [], false)
theorem mo_X0_putUpAll : MOK mX0_putUpAll 1 := ⟨(in_g 378 (by decide +kernel) rfl), (in_g 42 (by decide +kernel) rfl), ⟨by decide +kernel, by decide +kernel⟩, by decide +kernel, by decide, by decide +kernel, fun h => by first | rfl | cases h⟩
theorem iv_X0_putUpAll : Cond.instanceMethod yX0_putUpAll ∈ gtbl := (in_g 376 (by decide +kernel) rfl)
theorem se_X0_putUpAll : Cond.selects yX0_putUpAll.cls yX0_putUpAll yX0_putUpAll ∈ gtbl := (in_g 377 (by decide +kernel) rfl)
abbrev mX0_putUp : AM := (yX0_putUp, cX0_putUp, 5, some (.int), [], false)
theorem mo_X0_putUp : MOK mX0_putUp 2 := ⟨(in_g 383 (by decide +kernel) rfl), (in_g 42 (by decide +kernel) rfl), ⟨by decide +kernel, by decide +kernel⟩, by decide +kernel, by decide, by decide +kernel, fun h => by first | rfl | cases h⟩
theorem iv_X0_putUp : Cond.instanceMethod yX0_putUp ∈ gtbl := (in_g 381 (by decide +kernel) rfl)
theorem se_X0_putUp : Cond.selects yX0_putUp.cls yX0_putUp yX0_putUp ∈ gtbl := (in_g 382 (by decide +kernel) rfl)
abbrev mX0_takeSite : AM := (yX0_takeSite, cX0_takeSite, 6, some (.int), [], false)
theorem mo_X0_takeSite : MOK mX0_takeSite 2 := ⟨(in_g 387 (by decide +kernel) rfl), (in_g 42 (by decide +kernel) rfl), ⟨by decide +kernel, by decide +kernel⟩, by decide +kernel, by decide, by decide +kernel, fun h => by first | rfl | cases h⟩
theorem iv_X0_takeSite : Cond.instanceMethod yX0_takeSite ∈ gtbl := (in_g 385 (by decide +kernel) rfl)
theorem se_X0_takeSite : Cond.selects yX0_takeSite.cls yX0_takeSite yX0_takeSite ∈ gtbl := (in_g 386 (by decide +kernel) rfl)
abbrev mX0_siteFor : AM := (yX0_siteFor, cX0_siteFor, 4, some (.int), [], false)
theorem mo_X0_siteFor : MOK mX0_siteFor 2 := ⟨(in_g 391 (by decide +kernel) rfl), (in_g 42 (by decide +kernel) rfl), ⟨by decide +kernel, by decide +kernel⟩, by decide +kernel, by decide, by decide +kernel, fun h => by first | rfl | cases h⟩
theorem iv_X0_siteFor : Cond.instanceMethod yX0_siteFor ∈ gtbl := (in_g 389 (by decide +kernel) rfl)
theorem se_X0_siteFor : Cond.selects yX0_siteFor.cls yX0_siteFor yX0_siteFor ∈ gtbl := (in_g 390 (by decide +kernel) rfl)
abbrev mX1_lastUsual : AM := (yX1_lastUsual, cX1_lastUsual, 3, some (.int), [], false)
theorem mo_X1_lastUsual : MOK mX1_lastUsual 0 := ⟨(in_g 395 (by decide +kernel) rfl), (in_g 47 (by decide +kernel) rfl), ⟨by decide +kernel, by decide +kernel⟩, by decide +kernel, by decide, by decide +kernel, fun h => by first | rfl | cases h⟩
theorem iv_X1_lastUsual : Cond.instanceMethod yX1_lastUsual ∈ gtbl := (in_g 393 (by decide +kernel) rfl)
theorem se_X1_lastUsual : Cond.selects yX1_lastUsual.cls yX1_lastUsual yX1_lastUsual ∈ gtbl := (in_g 394 (by decide +kernel) rfl)
abbrev mX0_openPlace : AM := (yX0_openPlace, cX0_openPlace, 4, some (.int), [], false)
theorem mo_X0_openPlace : MOK mX0_openPlace 2 := ⟨(in_g 400 (by decide +kernel) rfl), (in_g 42 (by decide +kernel) rfl), ⟨by decide +kernel, by decide +kernel⟩, by decide +kernel, by decide, by decide +kernel, fun h => by first | rfl | cases h⟩
theorem iv_X0_openPlace : Cond.instanceMethod yX0_openPlace ∈ gtbl := (in_g 399 (by decide +kernel) rfl)
theorem se_X0_openPlace : Cond.selects yX0_openPlace.cls yX0_openPlace yX0_openPlace ∈ gtbl := (in_g 5 (by decide +kernel) rfl)
abbrev mX1_smallestFor : AM := (yX1_smallestFor, cX1_smallestFor, 4, some (.int), [], false)
theorem mo_X1_smallestFor : MOK mX1_smallestFor 1 := ⟨(in_g 404 (by decide +kernel) rfl), (in_g 47 (by decide +kernel) rfl), ⟨by decide +kernel, by decide +kernel⟩, by decide +kernel, by decide, by decide +kernel, fun h => by first | rfl | cases h⟩
theorem iv_X1_smallestFor : Cond.instanceMethod yX1_smallestFor ∈ gtbl := (in_g 402 (by decide +kernel) rfl)
theorem se_X1_smallestFor : Cond.selects yX1_smallestFor.cls yX1_smallestFor yX1_smallestFor ∈ gtbl := (in_g 403 (by decide +kernel) rfl)
abbrev mX0_newFieldSize : AM := (yX0_newFieldSize, cX0_newFieldSize, 2, some (.int), [], false)
theorem mo_X0_newFieldSize : MOK mX0_newFieldSize 1 := ⟨(in_g 408 (by decide +kernel) rfl), (in_g 42 (by decide +kernel) rfl), ⟨by decide +kernel, by decide +kernel⟩, by decide +kernel, by decide, by decide +kernel, fun h => by first | rfl | cases h⟩
theorem iv_X0_newFieldSize : Cond.instanceMethod yX0_newFieldSize ∈ gtbl := (in_g 407 (by decide +kernel) rfl)
theorem se_X0_newFieldSize : Cond.selects yX0_newFieldSize.cls yX0_newFieldSize yX0_newFieldSize ∈ gtbl := (in_g 6 (by decide +kernel) rfl)
abbrev mX0_wantsBig : AM := (yX0_wantsBig, cX0_wantsBig, 2, some (.boolean), [], false)
theorem mo_X0_wantsBig : MOK mX0_wantsBig 1 := ⟨(in_g 412 (by decide +kernel) rfl), (in_g 42 (by decide +kernel) rfl), ⟨by decide +kernel, by decide +kernel⟩, by decide +kernel, by decide, by decide +kernel, fun h => by first | rfl | cases h⟩
theorem iv_X0_wantsBig : Cond.instanceMethod yX0_wantsBig ∈ gtbl := (in_g 411 (by decide +kernel) rfl)
theorem se_X0_wantsBig : Cond.selects yX0_wantsBig.cls yX0_wantsBig yX0_wantsBig ∈ gtbl := (in_g 7 (by decide +kernel) rfl)
abbrev mX4_put : AM := (yX4_put, cX4_put, 3, none, [], false)
theorem mo_X4_put : MOK mX4_put 2 := ⟨(in_g 416 (by decide +kernel) rfl), (in_g 43 (by decide +kernel) rfl), ⟨by decide +kernel, by decide +kernel⟩, by decide +kernel, by decide, by decide +kernel, fun h => by first | rfl | cases h⟩
theorem iv_X4_put : Cond.instanceMethod yX4_put ∈ gtbl := (in_g 414 (by decide +kernel) rfl)
theorem se_X4_put : Cond.selects yX4_put.cls yX4_put yX4_put ∈ gtbl := (in_g 415 (by decide +kernel) rfl)
abbrev mX1_add : AM := (yX1_add, cX1_add, 5, none, [], false)
theorem mo_X1_add : MOK mX1_add 4 := ⟨(in_g 420 (by decide +kernel) rfl), (in_g 47 (by decide +kernel) rfl), ⟨by decide +kernel, by decide +kernel⟩, by decide +kernel, by decide, by decide +kernel, fun h => by first | rfl | cases h⟩
theorem iv_X1_add : Cond.instanceMethod yX1_add ∈ gtbl := (in_g 418 (by decide +kernel) rfl)
theorem se_X1_add : Cond.selects yX1_add.cls yX1_add yX1_add ∈ gtbl := (in_g 419 (by decide +kernel) rfl)
abbrev mX1_remove : AM := (yX1_remove, cX1_remove, 2, none, [], false)
theorem mo_X1_remove : MOK mX1_remove 1 := ⟨(in_g 425 (by decide +kernel) rfl), (in_g 47 (by decide +kernel) rfl), ⟨by decide +kernel, by decide +kernel⟩, by decide +kernel, by decide, by decide +kernel, fun h => by first | rfl | cases h⟩
theorem iv_X1_remove : Cond.instanceMethod yX1_remove ∈ gtbl := (in_g 423 (by decide +kernel) rfl)
theorem se_X1_remove : Cond.selects yX1_remove.cls yX1_remove yX1_remove ∈ gtbl := (in_g 424 (by decide +kernel) rfl)
abbrev mX1_has : AM := (yX1_has, cX1_has, 2, some (.boolean), [], false)
theorem mo_X1_has : MOK mX1_has 1 := ⟨(in_g 429 (by decide +kernel) rfl), (in_g 47 (by decide +kernel) rfl), ⟨by decide +kernel, by decide +kernel⟩, by decide +kernel, by decide, by decide +kernel, fun h => by first | rfl | cases h⟩
theorem iv_X1_has : Cond.instanceMethod yX1_has ∈ gtbl := (in_g 427 (by decide +kernel) rfl)
theorem se_X1_has : Cond.selects yX1_has.cls yX1_has yX1_has ∈ gtbl := (in_g 428 (by decide +kernel) rfl)
abbrev mX4_cut : AM := (yX4_cut, cX4_cut, 4, none, [], false)
theorem mo_X4_cut : MOK mX4_cut 2 := ⟨(in_g 433 (by decide +kernel) rfl), (in_g 43 (by decide +kernel) rfl), ⟨by decide +kernel, by decide +kernel⟩, by decide +kernel, by decide, by decide +kernel, fun h => by first | rfl | cases h⟩
theorem iv_X4_cut : Cond.instanceMethod yX4_cut ∈ gtbl := (in_g 431 (by decide +kernel) rfl)
theorem se_X4_cut : Cond.selects yX4_cut.cls yX4_cut yX4_cut ∈ gtbl := (in_g 432 (by decide +kernel) rfl)
abbrev mX4_strew : AM := (yX4_strew, cX4_strew, 6, none, [], false)
theorem mo_X4_strew : MOK mX4_strew 3 := ⟨(in_g 437 (by decide +kernel) rfl), (in_g 43 (by decide +kernel) rfl), ⟨by decide +kernel, by decide +kernel⟩, by decide +kernel, by decide, by decide +kernel, fun h => by first | rfl | cases h⟩
theorem iv_X4_strew : Cond.instanceMethod yX4_strew ∈ gtbl := (in_g 435 (by decide +kernel) rfl)
theorem se_X4_strew : Cond.selects yX4_strew.cls yX4_strew yX4_strew ∈ gtbl := (in_g 436 (by decide +kernel) rfl)
abbrev mX6_placesFrom : AM := (yX6_placesFrom, cX6_placesFrom, 4, some (.int), [], false)
theorem mo_X6_placesFrom : MOK mX6_placesFrom 1 := ⟨(in_g 444 (by decide +kernel) rfl), (in_g 45 (by decide +kernel) rfl), ⟨by decide +kernel, by decide +kernel⟩, by decide +kernel, by decide, by decide +kernel, fun h => by first | rfl | cases h⟩
theorem iv_X6_placesFrom : Cond.instanceMethod yX6_placesFrom ∈ gtbl := (in_g 442 (by decide +kernel) rfl)
theorem se_X6_placesFrom : Cond.selects yX6_placesFrom.cls yX6_placesFrom yX6_placesFrom ∈ gtbl := (in_g 443 (by decide +kernel) rfl)
abbrev mL_append : AM := (yL_append, cL_append, 4, some (.int), [(0, 9, 12, 13), (0, 9, 15, 15)], true)
theorem mo_L_append : MOK mL_append 3 := ⟨(in_g 449 (by decide +kernel) rfl), (in_g 40 (by decide +kernel) rfl), ⟨by decide +kernel, by decide +kernel⟩, by decide +kernel, by decide, by decide +kernel, fun h => by first | rfl | cases h⟩
theorem st_L_append : Cond.static yL_append ∈ gtbl := (in_g 448 (by decide +kernel) rfl)
abbrev mX8_append : AM := (yX8_append, cX8_append, 2, some (.int), [], false)
theorem mo_X8_append : MOK mX8_append 1 := ⟨(in_g 455 (by decide +kernel) rfl), (in_g 41 (by decide +kernel) rfl), ⟨by decide +kernel, by decide +kernel⟩, by decide +kernel, by decide, by decide +kernel, fun h => by first | rfl | cases h⟩
theorem iv_X8_append : Cond.instanceMethod yX8_append ∈ gtbl := (in_g 453 (by decide +kernel) rfl)
theorem se_X8_append : Cond.selects yX8_append.cls yX8_append yX8_append ∈ gtbl := (in_g 454 (by decide +kernel) rfl)
abbrev mX7_add : AM := (yX7_add, cX7_add, 2, none, [], false)
theorem mo_X7_add : MOK mX7_add 1 := ⟨(in_g 543 (by decide +kernel) rfl), (in_g 50 (by decide +kernel) rfl), ⟨by decide +kernel, by decide +kernel⟩, by decide +kernel, by decide, by decide +kernel, fun h => by first | rfl | cases h⟩
theorem iv_X7_add : Cond.instanceMethod yX7_add ∈ gtbl := (in_g 541 (by decide +kernel) rfl)
theorem se_X7_add : Cond.selects yX7_add.cls yX7_add yX7_add ∈ gtbl := (in_g 542 (by decide +kernel) rfl)
abbrev mL_load : AM := (yL_load, cL_load, 3, some (.int), [(0, 8, 11, 15)], true)
theorem mo_L_load : MOK mL_load 2 := ⟨(in_g 547 (by decide +kernel) rfl), (in_g 40 (by decide +kernel) rfl), ⟨by decide +kernel, by decide +kernel⟩, by decide +kernel, by decide, by decide +kernel, fun h => by first | rfl | cases h⟩
theorem st_L_load : Cond.static yL_load ∈ gtbl := (in_g 546 (by decide +kernel) rfl)
abbrev mX8_load : AM := (yX8_load, cX8_load, 3, some (.int), [], false)
theorem mo_X8_load : MOK mX8_load 0 := ⟨(in_g 551 (by decide +kernel) rfl), (in_g 41 (by decide +kernel) rfl), ⟨by decide +kernel, by decide +kernel⟩, by decide +kernel, by decide, by decide +kernel, fun h => by first | rfl | cases h⟩
theorem iv_X8_load : Cond.instanceMethod yX8_load ∈ gtbl := (in_g 549 (by decide +kernel) rfl)
theorem se_X8_load : Cond.selects yX8_load.cls yX8_load yX8_load ∈ gtbl := (in_g 550 (by decide +kernel) rfl)
abbrev mX3_forgetAll : AM := (yX3_forgetAll, cX3_forgetAll, 1, none, [], false)
theorem mo_X3_forgetAll : MOK mX3_forgetAll 0 := ⟨(in_g 556 (by decide +kernel) rfl), (in_g 48 (by decide +kernel) rfl), ⟨by decide +kernel, by decide +kernel⟩, by decide +kernel, by decide, by decide +kernel, fun h => by first | rfl | cases h⟩
theorem iv_X3_forgetAll : Cond.instanceMethod yX3_forgetAll ∈ gtbl := (in_g 554 (by decide +kernel) rfl)
theorem se_X3_forgetAll : Cond.selects yX3_forgetAll.cls yX3_forgetAll yX3_forgetAll ∈ gtbl := (in_g 555 (by decide +kernel) rfl)
abbrev mX8_carryOut : AM := (yX8_carryOut, cX8_carryOut, 2, some (.boolean), [], false)
theorem mo_X8_carryOut : MOK mX8_carryOut 2 := ⟨(in_g 563 (by decide +kernel) rfl), (in_g 41 (by decide +kernel) rfl), ⟨by decide +kernel, by decide +kernel⟩, by decide +kernel, by decide, by decide +kernel, fun h => by first | rfl | cases h⟩
theorem st_X8_carryOut : Cond.static yX8_carryOut ∈ gtbl := (in_g 562 (by decide +kernel) rfl)
abbrev mX0_goIn : AM := (yX0_goIn, cX0_goIn, 2, some (.int), [], false)
theorem mo_X0_goIn : MOK mX0_goIn 0 := ⟨(in_g 568 (by decide +kernel) rfl), (in_g 42 (by decide +kernel) rfl), ⟨by decide +kernel, by decide +kernel⟩, by decide +kernel, by decide, by decide +kernel, fun h => by first | rfl | cases h⟩
theorem iv_X0_goIn : Cond.instanceMethod yX0_goIn ∈ gtbl := (in_g 566 (by decide +kernel) rfl)
theorem se_X0_goIn : Cond.selects yX0_goIn.cls yX0_goIn yX0_goIn ∈ gtbl := (in_g 567 (by decide +kernel) rfl)
abbrev mX0_goOut : AM := (yX0_goOut, cX0_goOut, 2, some (.int), [], false)
theorem mo_X0_goOut : MOK mX0_goOut 0 := ⟨(in_g 572 (by decide +kernel) rfl), (in_g 42 (by decide +kernel) rfl), ⟨by decide +kernel, by decide +kernel⟩, by decide +kernel, by decide, by decide +kernel, fun h => by first | rfl | cases h⟩
theorem iv_X0_goOut : Cond.instanceMethod yX0_goOut ∈ gtbl := (in_g 570 (by decide +kernel) rfl)
theorem se_X0_goOut : Cond.selects yX0_goOut.cls yX0_goOut yX0_goOut ∈ gtbl := (in_g 571 (by decide +kernel) rfl)
abbrev mX0_goBack : AM := (yX0_goBack, cX0_goBack, 3, some (.int), [], false)
theorem mo_X0_goBack : MOK mX0_goBack 1 := ⟨(in_g 576 (by decide +kernel) rfl), (in_g 42 (by decide +kernel) rfl), ⟨by decide +kernel, by decide +kernel⟩, by decide +kernel, by decide, by decide +kernel, fun h => by first | rfl | cases h⟩
theorem iv_X0_goBack : Cond.instanceMethod yX0_goBack ∈ gtbl := (in_g 574 (by decide +kernel) rfl)
theorem se_X0_goBack : Cond.selects yX0_goBack.cls yX0_goBack yX0_goBack ∈ gtbl := (in_g 575 (by decide +kernel) rfl)
abbrev mX2_has : AM := (yX2_has, cX2_has, 2, some (.boolean), [], false)
theorem mo_X2_has : MOK mX2_has 1 := ⟨(in_g 580 (by decide +kernel) rfl), (in_g 46 (by decide +kernel) rfl), ⟨by decide +kernel, by decide +kernel⟩, by decide +kernel, by decide, by decide +kernel, fun h => by first | rfl | cases h⟩
theorem iv_X2_has : Cond.instanceMethod yX2_has ∈ gtbl := (in_g 578 (by decide +kernel) rfl)
theorem se_X2_has : Cond.selects yX2_has.cls yX2_has yX2_has ∈ gtbl := (in_g 579 (by decide +kernel) rfl)
abbrev mX0_strikeTents : AM := (yX0_strikeTents, cX0_strikeTents, 4, some (.int), [], false)
theorem mo_X0_strikeTents : MOK mX0_strikeTents 1 := ⟨(in_g 584 (by decide +kernel) rfl), (in_g 42 (by decide +kernel) rfl), ⟨by decide +kernel, by decide +kernel⟩, by decide +kernel, by decide, by decide +kernel, fun h => by first | rfl | cases h⟩
theorem iv_X0_strikeTents : Cond.instanceMethod yX0_strikeTents ∈ gtbl := (in_g 583 (by decide +kernel) rfl)
theorem se_X0_strikeTents : Cond.selects yX0_strikeTents.cls yX0_strikeTents yX0_strikeTents ∈ gtbl := (in_g 9 (by decide +kernel) rfl)
abbrev mX0_strewTent : AM := (yX0_strewTent, cX0_strewTent, 7, some (.int), [], false)
theorem mo_X0_strewTent : MOK mX0_strewTent 2 := ⟨(in_g 588 (by decide +kernel) rfl), (in_g 42 (by decide +kernel) rfl), ⟨by decide +kernel, by decide +kernel⟩, by decide +kernel, by decide, by decide +kernel, fun h => by first | rfl | cases h⟩
theorem iv_X0_strewTent : Cond.instanceMethod yX0_strewTent ∈ gtbl := (in_g 586 (by decide +kernel) rfl)
theorem se_X0_strewTent : Cond.selects yX0_strewTent.cls yX0_strewTent yX0_strewTent ∈ gtbl := (in_g 587 (by decide +kernel) rfl)
abbrev mX6_has : AM := (yX6_has, cX6_has, 2, some (.boolean), [], false)
theorem mo_X6_has : MOK mX6_has 1 := ⟨(in_g 592 (by decide +kernel) rfl), (in_g 45 (by decide +kernel) rfl), ⟨by decide +kernel, by decide +kernel⟩, by decide +kernel, by decide, by decide +kernel, fun h => by first | rfl | cases h⟩
theorem iv_X6_has : Cond.instanceMethod yX6_has ∈ gtbl := (in_g 590 (by decide +kernel) rfl)
theorem se_X6_has : Cond.selects yX6_has.cls yX6_has yX6_has ∈ gtbl := (in_g 591 (by decide +kernel) rfl)
abbrev mX6_end : AM := (yX6_end, cX6_end, 2, some (.int), [], false)
theorem mo_X6_end : MOK mX6_end 1 := ⟨(in_g 596 (by decide +kernel) rfl), (in_g 45 (by decide +kernel) rfl), ⟨by decide +kernel, by decide +kernel⟩, by decide +kernel, by decide, by decide +kernel, fun h => by first | rfl | cases h⟩
theorem iv_X6_end : Cond.instanceMethod yX6_end ∈ gtbl := (in_g 594 (by decide +kernel) rfl)
theorem se_X6_end : Cond.selects yX6_end.cls yX6_end yX6_end ∈ gtbl := (in_g 595 (by decide +kernel) rfl)
abbrev mX4_countOf : AM := (yX4_countOf, cX4_countOf, 7, some (.int), [], false)
theorem mo_X4_countOf : MOK mX4_countOf 3 := ⟨(in_g 600 (by decide +kernel) rfl), (in_g 43 (by decide +kernel) rfl), ⟨by decide +kernel, by decide +kernel⟩, by decide +kernel, by decide, by decide +kernel, fun h => by first | rfl | cases h⟩
theorem iv_X4_countOf : Cond.instanceMethod yX4_countOf ∈ gtbl := (in_g 598 (by decide +kernel) rfl)
theorem se_X4_countOf : Cond.selects yX4_countOf.cls yX4_countOf yX4_countOf ∈ gtbl := (in_g 599 (by decide +kernel) rfl)
abbrev mX0_clearFields : AM := (yX0_clearFields, cX0_clearFields, 3, none, [], false)
theorem mo_X0_clearFields : MOK mX0_clearFields 1 := ⟨(in_g 604 (by decide +kernel) rfl), (in_g 42 (by decide +kernel) rfl), ⟨by decide +kernel, by decide +kernel⟩, by decide +kernel, by decide, by decide +kernel, fun h => by first | rfl | cases h⟩
theorem iv_X0_clearFields : Cond.instanceMethod yX0_clearFields ∈ gtbl := (in_g 603 (by decide +kernel) rfl)
theorem se_X0_clearFields : Cond.selects yX0_clearFields.cls yX0_clearFields yX0_clearFields ∈ gtbl := (in_g 10 (by decide +kernel) rfl)
abbrev mX0_giveUpTooMuch : AM := (yX0_giveUpTooMuch, cX0_giveUpTooMuch, 5, none, [], false)
theorem mo_X0_giveUpTooMuch : MOK mX0_giveUpTooMuch 0 := ⟨(in_g 608 (by decide +kernel) rfl), (in_g 42 (by decide +kernel) rfl), ⟨by decide +kernel, by decide +kernel⟩, by decide +kernel, by decide, by decide +kernel, fun h => by first | rfl | cases h⟩
theorem iv_X0_giveUpTooMuch : Cond.instanceMethod yX0_giveUpTooMuch ∈ gtbl := (in_g 607 (by decide +kernel) rfl)
theorem se_X0_giveUpTooMuch : Cond.selects yX0_giveUpTooMuch.cls yX0_giveUpTooMuch yX0_giveUpTooMuch ∈ gtbl := (in_g 11 (by decide +kernel) rfl)
abbrev mX1_places : AM := (yX1_places, cX1_places, 3, some (.int), [], false)
theorem mo_X1_places : MOK mX1_places 0 := ⟨(in_g 612 (by decide +kernel) rfl), (in_g 47 (by decide +kernel) rfl), ⟨by decide +kernel, by decide +kernel⟩, by decide +kernel, by decide, by decide +kernel, fun h => by first | rfl | cases h⟩
theorem iv_X1_places : Cond.instanceMethod yX1_places ∈ gtbl := (in_g 610 (by decide +kernel) rfl)
theorem se_X1_places : Cond.selects yX1_places.cls yX1_places yX1_places ∈ gtbl := (in_g 611 (by decide +kernel) rfl)
abbrev mX1_greatest : AM := (yX1_greatest, cX1_greatest, 3, some (.int), [], false)
theorem mo_X1_greatest : MOK mX1_greatest 0 := ⟨(in_g 616 (by decide +kernel) rfl), (in_g 47 (by decide +kernel) rfl), ⟨by decide +kernel, by decide +kernel⟩, by decide +kernel, by decide, by decide +kernel, fun h => by first | rfl | cases h⟩
theorem iv_X1_greatest : Cond.instanceMethod yX1_greatest ∈ gtbl := (in_g 614 (by decide +kernel) rfl)
theorem se_X1_greatest : Cond.selects yX1_greatest.cls yX1_greatest yX1_greatest ∈ gtbl := (in_g 615 (by decide +kernel) rfl)
abbrev mX1_closeUp : AM := (yX1_closeUp, cX1_closeUp, 4, none, [], false)
theorem mo_X1_closeUp : MOK mX1_closeUp 2 := ⟨(in_g 621 (by decide +kernel) rfl), (in_g 47 (by decide +kernel) rfl), ⟨by decide +kernel, by decide +kernel⟩, by decide +kernel, by decide, by decide +kernel, fun h => by first | rfl | cases h⟩
theorem iv_X1_closeUp : Cond.instanceMethod yX1_closeUp ∈ gtbl := (in_g 619 (by decide +kernel) rfl)
theorem se_X1_closeUp : Cond.selects yX1_closeUp.cls yX1_closeUp yX1_closeUp ∈ gtbl := (in_g 620 (by decide +kernel) rfl)
abbrev mL_about : AM := (yL_about, cL_about, 4, some (.int), [(0, 9, 12, 13)], true)
theorem mo_L_about : MOK mL_about 3 := ⟨(in_g 626 (by decide +kernel) rfl), (in_g 40 (by decide +kernel) rfl), ⟨by decide +kernel, by decide +kernel⟩, by decide +kernel, by decide, by decide +kernel, fun h => by first | rfl | cases h⟩
theorem st_L_about : Cond.static yL_about ∈ gtbl := (in_g 625 (by decide +kernel) rfl)
abbrev mX8_about : AM := (yX8_about, cX8_about, 2, some (.int), [], false)
theorem mo_X8_about : MOK mX8_about 1 := ⟨(in_g 630 (by decide +kernel) rfl), (in_g 41 (by decide +kernel) rfl), ⟨by decide +kernel, by decide +kernel⟩, by decide +kernel, by decide, by decide +kernel, fun h => by first | rfl | cases h⟩
theorem iv_X8_about : Cond.instanceMethod yX8_about ∈ gtbl := (in_g 628 (by decide +kernel) rfl)
theorem se_X8_about : Cond.selects yX8_about.cls yX8_about yX8_about ∈ gtbl := (in_g 629 (by decide +kernel) rfl)
abbrev mX0_gaps : AM := (yX0_gaps, cX0_gaps, 4, some (.int), [], false)
theorem mo_X0_gaps : MOK mX0_gaps 0 := ⟨(in_g 636 (by decide +kernel) rfl), (in_g 42 (by decide +kernel) rfl), ⟨by decide +kernel, by decide +kernel⟩, by decide +kernel, by decide, by decide +kernel, fun h => by first | rfl | cases h⟩
theorem iv_X0_gaps : Cond.instanceMethod yX0_gaps ∈ gtbl := (in_g 634 (by decide +kernel) rfl)
theorem se_X0_gaps : Cond.selects yX0_gaps.cls yX0_gaps yX0_gaps ∈ gtbl := (in_g 635 (by decide +kernel) rfl)
abbrev mL_tent : AM := (yL_tent, cL_tent, 5, some (.int), [(0, 10, 13, 28), (0, 10, 17, 13)], true)
theorem mo_L_tent : MOK mL_tent 4 := ⟨(in_g 640 (by decide +kernel) rfl), (in_g 40 (by decide +kernel) rfl), ⟨by decide +kernel, by decide +kernel⟩, by decide +kernel, by decide, by decide +kernel, fun h => by first | rfl | cases h⟩
theorem st_L_tent : Cond.static yL_tent ∈ gtbl := (in_g 639 (by decide +kernel) rfl)
abbrev mX8_tent : AM := (yX8_tent, cX8_tent, 3, some (.int), [], false)
theorem mo_X8_tent : MOK mX8_tent 2 := ⟨(in_g 645 (by decide +kernel) rfl), (in_g 41 (by decide +kernel) rfl), ⟨by decide +kernel, by decide +kernel⟩, by decide +kernel, by decide, by decide +kernel, fun h => by first | rfl | cases h⟩
theorem iv_X8_tent : Cond.instanceMethod yX8_tent ∈ gtbl := (in_g 643 (by decide +kernel) rfl)
theorem se_X8_tent : Cond.selects yX8_tent.cls yX8_tent yX8_tent ∈ gtbl := (in_g 644 (by decide +kernel) rfl)
abbrev mX2_lastAheadOf : AM := (yX2_lastAheadOf, cX2_lastAheadOf, 4, some (.int), [], false)
theorem mo_X2_lastAheadOf : MOK mX2_lastAheadOf 1 := ⟨(in_g 667 (by decide +kernel) rfl), (in_g 46 (by decide +kernel) rfl), ⟨by decide +kernel, by decide +kernel⟩, by decide +kernel, by decide, by decide +kernel, fun h => by first | rfl | cases h⟩
theorem iv_X2_lastAheadOf : Cond.instanceMethod yX2_lastAheadOf ∈ gtbl := (in_g 665 (by decide +kernel) rfl)
theorem se_X2_lastAheadOf : Cond.selects yX2_lastAheadOf.cls yX2_lastAheadOf yX2_lastAheadOf ∈ gtbl := (in_g 666 (by decide +kernel) rfl)
abbrev mL_field : AM := (yL_field, cL_field, 5, some (.int), [(0, 10, 13, 28), (0, 10, 17, 13)], true)
theorem mo_L_field : MOK mL_field 4 := ⟨(in_g 672 (by decide +kernel) rfl), (in_g 40 (by decide +kernel) rfl), ⟨by decide +kernel, by decide +kernel⟩, by decide +kernel, by decide, by decide +kernel, fun h => by first | rfl | cases h⟩
theorem st_L_field : Cond.static yL_field ∈ gtbl := (in_g 671 (by decide +kernel) rfl)
abbrev mX8_field : AM := (yX8_field, cX8_field, 5, some (.int), [], false)
theorem mo_X8_field : MOK mX8_field 2 := ⟨(in_g 676 (by decide +kernel) rfl), (in_g 41 (by decide +kernel) rfl), ⟨by decide +kernel, by decide +kernel⟩, by decide +kernel, by decide, by decide +kernel, fun h => by first | rfl | cases h⟩
theorem iv_X8_field : Cond.instanceMethod yX8_field ∈ gtbl := (in_g 674 (by decide +kernel) rfl)
theorem se_X8_field : Cond.selects yX8_field.cls yX8_field yX8_field ∈ gtbl := (in_g 675 (by decide +kernel) rfl)
abbrev mX6_countOn : AM := (yX6_countOn, cX6_countOn, 2, some (.int), [], false)
theorem mo_X6_countOn : MOK mX6_countOn 1 := ⟨(in_g 682 (by decide +kernel) rfl), (in_g 45 (by decide +kernel) rfl), ⟨by decide +kernel, by decide +kernel⟩, by decide +kernel, by decide, by decide +kernel, fun h => by first | rfl | cases h⟩
theorem iv_X6_countOn : Cond.instanceMethod yX6_countOn ∈ gtbl := (in_g 680 (by decide +kernel) rfl)
theorem se_X6_countOn : Cond.selects yX6_countOn.cls yX6_countOn yX6_countOn ∈ gtbl := (in_g 681 (by decide +kernel) rfl)
abbrev mL_place : AM := (yL_place, cL_place, 5, some (.int), [(0, 10, 13, 28)], true)
theorem mo_L_place : MOK mL_place 4 := ⟨(in_g 687 (by decide +kernel) rfl), (in_g 40 (by decide +kernel) rfl), ⟨by decide +kernel, by decide +kernel⟩, by decide +kernel, by decide, by decide +kernel, fun h => by first | rfl | cases h⟩
theorem st_L_place : Cond.static yL_place ∈ gtbl := (in_g 686 (by decide +kernel) rfl)
abbrev mX8_place : AM := (yX8_place, cX8_place, 3, some (.int), [], false)
theorem mo_X8_place : MOK mX8_place 2 := ⟨(in_g 691 (by decide +kernel) rfl), (in_g 41 (by decide +kernel) rfl), ⟨by decide +kernel, by decide +kernel⟩, by decide +kernel, by decide, by decide +kernel, fun h => by first | rfl | cases h⟩
theorem iv_X8_place : Cond.instanceMethod yX8_place ∈ gtbl := (in_g 689 (by decide +kernel) rfl)
theorem se_X8_place : Cond.selects yX8_place.cls yX8_place yX8_place ∈ gtbl := (in_g 690 (by decide +kernel) rfl)
abbrev mL_spare : AM := (yL_spare, cL_spare, 4, some (.int), [(0, 9, 12, 13)], true)
theorem mo_L_spare : MOK mL_spare 3 := ⟨(in_g 695 (by decide +kernel) rfl), (in_g 40 (by decide +kernel) rfl), ⟨by decide +kernel, by decide +kernel⟩, by decide +kernel, by decide, by decide +kernel, fun h => by first | rfl | cases h⟩
theorem st_L_spare : Cond.static yL_spare ∈ gtbl := (in_g 694 (by decide +kernel) rfl)
abbrev mX8_spare : AM := (yX8_spare, cX8_spare, 3, some (.int), [], false)
theorem mo_X8_spare : MOK mX8_spare 1 := ⟨(in_g 699 (by decide +kernel) rfl), (in_g 41 (by decide +kernel) rfl), ⟨by decide +kernel, by decide +kernel⟩, by decide +kernel, by decide, by decide +kernel, fun h => by first | rfl | cases h⟩
theorem iv_X8_spare : Cond.instanceMethod yX8_spare ∈ gtbl := (in_g 697 (by decide +kernel) rfl)
theorem se_X8_spare : Cond.selects yX8_spare.cls yX8_spare yX8_spare ∈ gtbl := (in_g 698 (by decide +kernel) rfl)
abbrev mX1_withRank : AM := (yX1_withRank, cX1_withRank, 3, some (.int), [], false)
theorem mo_X1_withRank : MOK mX1_withRank 1 := ⟨(in_g 704 (by decide +kernel) rfl), (in_g 47 (by decide +kernel) rfl), ⟨by decide +kernel, by decide +kernel⟩, by decide +kernel, by decide, by decide +kernel, fun h => by first | rfl | cases h⟩
theorem iv_X1_withRank : Cond.instanceMethod yX1_withRank ∈ gtbl := (in_g 702 (by decide +kernel) rfl)
theorem se_X1_withRank : Cond.selects yX1_withRank.cls yX1_withRank yX1_withRank ∈ gtbl := (in_g 703 (by decide +kernel) rfl)
abbrev mX1_countAheadOf : AM := (yX1_countAheadOf, cX1_countAheadOf, 4, some (.int), [], false)
theorem mo_X1_countAheadOf : MOK mX1_countAheadOf 1 := ⟨(in_g 708 (by decide +kernel) rfl), (in_g 47 (by decide +kernel) rfl), ⟨by decide +kernel, by decide +kernel⟩, by decide +kernel, by decide, by decide +kernel, fun h => by first | rfl | cases h⟩
theorem iv_X1_countAheadOf : Cond.instanceMethod yX1_countAheadOf ∈ gtbl := (in_g 707 (by decide +kernel) rfl)
theorem se_X1_countAheadOf : Cond.selects yX1_countAheadOf.cls yX1_countAheadOf yX1_countAheadOf ∈ gtbl := (in_g 12 (by decide +kernel) rfl)
abbrev mL_frame : AM := (yL_frame, cL_frame, 5, some (.int), [(0, 10, 13, 28), (0, 10, 17, 13)], true)
theorem mo_L_frame : MOK mL_frame 4 := ⟨(in_g 711 (by decide +kernel) rfl), (in_g 40 (by decide +kernel) rfl), ⟨by decide +kernel, by decide +kernel⟩, by decide +kernel, by decide, by decide +kernel, fun h => by first | rfl | cases h⟩
theorem st_L_frame : Cond.static yL_frame ∈ gtbl := (in_g 710 (by decide +kernel) rfl)
abbrev mX8_frame : AM := (yX8_frame, cX8_frame, 3, some (.int), [], false)
theorem mo_X8_frame : MOK mX8_frame 2 := ⟨(in_g 715 (by decide +kernel) rfl), (in_g 41 (by decide +kernel) rfl), ⟨by decide +kernel, by decide +kernel⟩, by decide +kernel, by decide, by decide +kernel, fun h => by first | rfl | cases h⟩
theorem iv_X8_frame : Cond.instanceMethod yX8_frame ∈ gtbl := (in_g 713 (by decide +kernel) rfl)
theorem se_X8_frame : Cond.selects yX8_frame.cls yX8_frame yX8_frame ∈ gtbl := (in_g 714 (by decide +kernel) rfl)
abbrev mL_pitch : AM := (yL_pitch, cL_pitch, 5, some (.int), [(0, 10, 13, 13), (0, 10, 17, 15)], true)
theorem mo_L_pitch : MOK mL_pitch 4 := ⟨(in_g 721 (by decide +kernel) rfl), (in_g 40 (by decide +kernel) rfl), ⟨by decide +kernel, by decide +kernel⟩, by decide +kernel, by decide, by decide +kernel, fun h => by first | rfl | cases h⟩
theorem st_L_pitch : Cond.static yL_pitch ∈ gtbl := (in_g 720 (by decide +kernel) rfl)
abbrev mX8_pitch : AM := (yX8_pitch, cX8_pitch, 3, some (.int), [], false)
theorem mo_X8_pitch : MOK mX8_pitch 2 := ⟨(in_g 725 (by decide +kernel) rfl), (in_g 41 (by decide +kernel) rfl), ⟨by decide +kernel, by decide +kernel⟩, by decide +kernel, by decide, by decide +kernel, fun h => by first | rfl | cases h⟩
theorem iv_X8_pitch : Cond.instanceMethod yX8_pitch ∈ gtbl := (in_g 723 (by decide +kernel) rfl)
theorem se_X8_pitch : Cond.selects yX8_pitch.cls yX8_pitch yX8_pitch ∈ gtbl := (in_g 724 (by decide +kernel) rfl)
abbrev mX8_isTentKind : AM := (yX8_isTentKind, cX8_isTentKind, 2, some (.boolean), [], false)
theorem mo_X8_isTentKind : MOK mX8_isTentKind 2 := ⟨(in_g 728 (by decide +kernel) rfl), (in_g 41 (by decide +kernel) rfl), ⟨by decide +kernel, by decide +kernel⟩, by decide +kernel, by decide, by decide +kernel, fun h => by first | rfl | cases h⟩
theorem st_X8_isTentKind : Cond.static yX8_isTentKind ∈ gtbl := (in_g 727 (by decide +kernel) rfl)
abbrev mX3_remember : AM := (yX3_remember, cX3_remember, 2, none, [], false)
theorem mo_X3_remember : MOK mX3_remember 1 := ⟨(in_g 736 (by decide +kernel) rfl), (in_g 48 (by decide +kernel) rfl), ⟨by decide +kernel, by decide +kernel⟩, by decide +kernel, by decide, by decide +kernel, fun h => by first | rfl | cases h⟩
theorem iv_X3_remember : Cond.instanceMethod yX3_remember ∈ gtbl := (in_g 734 (by decide +kernel) rfl)
theorem se_X3_remember : Cond.selects yX3_remember.cls yX3_remember yX3_remember ∈ gtbl := (in_g 735 (by decide +kernel) rfl)
abbrev mX5_lay : AM := (yX5_lay, cX5_lay, 4, none, [], false)
theorem mo_X5_lay : MOK mX5_lay 2 := ⟨(in_g 740 (by decide +kernel) rfl), (in_g 49 (by decide +kernel) rfl), ⟨by decide +kernel, by decide +kernel⟩, by decide +kernel, by decide, by decide +kernel, fun h => by first | rfl | cases h⟩
theorem iv_X5_lay : Cond.instanceMethod yX5_lay ∈ gtbl := (in_g 738 (by decide +kernel) rfl)
theorem se_X5_lay : Cond.selects yX5_lay.cls yX5_lay yX5_lay ∈ gtbl := (in_g 739 (by decide +kernel) rfl)
abbrev mX5_at : AM := (yX5_at, cX5_at, 2, some ((.object "TentCamp$Camp")), [], false)
theorem mo_X5_at : MOK mX5_at 1 := ⟨(in_g 744 (by decide +kernel) rfl), (in_g 49 (by decide +kernel) rfl), ⟨by decide +kernel, by decide +kernel⟩, by decide +kernel, by decide, by decide +kernel, fun h => by first | rfl | cases h⟩
theorem iv_X5_at : Cond.instanceMethod yX5_at ∈ gtbl := (in_g 743 (by decide +kernel) rfl)
theorem se_X5_at : Cond.selects yX5_at.cls yX5_at yX5_at ∈ gtbl := (in_g 13 (by decide +kernel) rfl)
abbrev mX0_copy : AM := (yX0_copy, cX0_copy, 2, none, [], false)
theorem mo_X0_copy : MOK mX0_copy 1 := ⟨(in_g 748 (by decide +kernel) rfl), (in_g 42 (by decide +kernel) rfl), ⟨by decide +kernel, by decide +kernel⟩, by decide +kernel, by decide, by decide +kernel, fun h => by first | rfl | cases h⟩
theorem iv_X0_copy : Cond.instanceMethod yX0_copy ∈ gtbl := (in_g 746 (by decide +kernel) rfl)
theorem se_X0_copy : Cond.selects yX0_copy.cls yX0_copy yX0_copy ∈ gtbl := (in_g 747 (by decide +kernel) rfl)
abbrev mX4_copy : AM := (yX4_copy, cX4_copy, 2, none, [], false)
theorem mo_X4_copy : MOK mX4_copy 1 := ⟨(in_g 752 (by decide +kernel) rfl), (in_g 43 (by decide +kernel) rfl), ⟨by decide +kernel, by decide +kernel⟩, by decide +kernel, by decide, by decide +kernel, fun h => by first | rfl | cases h⟩
theorem iv_X4_copy : Cond.instanceMethod yX4_copy ∈ gtbl := (in_g 750 (by decide +kernel) rfl)
theorem se_X4_copy : Cond.selects yX4_copy.cls yX4_copy yX4_copy ∈ gtbl := (in_g 751 (by decide +kernel) rfl)
abbrev mX6_copy : AM := (yX6_copy, cX6_copy, 2, none, [], false)
theorem mo_X6_copy : MOK mX6_copy 1 := ⟨(in_g 759 (by decide +kernel) rfl), (in_g 45 (by decide +kernel) rfl), ⟨by decide +kernel, by decide +kernel⟩, by decide +kernel, by decide, by decide +kernel, fun h => by first | rfl | cases h⟩
theorem iv_X6_copy : Cond.instanceMethod yX6_copy ∈ gtbl := (in_g 757 (by decide +kernel) rfl)
theorem se_X6_copy : Cond.selects yX6_copy.cls yX6_copy yX6_copy ∈ gtbl := (in_g 758 (by decide +kernel) rfl)
abbrev mX2_copy : AM := (yX2_copy, cX2_copy, 2, none, [], false)
theorem mo_X2_copy : MOK mX2_copy 1 := ⟨(in_g 764 (by decide +kernel) rfl), (in_g 46 (by decide +kernel) rfl), ⟨by decide +kernel, by decide +kernel⟩, by decide +kernel, by decide, by decide +kernel, fun h => by first | rfl | cases h⟩
theorem iv_X2_copy : Cond.instanceMethod yX2_copy ∈ gtbl := (in_g 762 (by decide +kernel) rfl)
theorem se_X2_copy : Cond.selects yX2_copy.cls yX2_copy yX2_copy ∈ gtbl := (in_g 763 (by decide +kernel) rfl)
abbrev mX1_copy : AM := (yX1_copy, cX1_copy, 2, none, [], false)
theorem mo_X1_copy : MOK mX1_copy 1 := ⟨(in_g 769 (by decide +kernel) rfl), (in_g 47 (by decide +kernel) rfl), ⟨by decide +kernel, by decide +kernel⟩, by decide +kernel, by decide, by decide +kernel, fun h => by first | rfl | cases h⟩
theorem iv_X1_copy : Cond.instanceMethod yX1_copy ∈ gtbl := (in_g 767 (by decide +kernel) rfl)
theorem se_X1_copy : Cond.selects yX1_copy.cls yX1_copy yX1_copy ∈ gtbl := (in_g 768 (by decide +kernel) rfl)
abbrev mL_fill : AM := (yL_fill, cL_fill, 5, some (.int), [(0, 10, 13, 28), (0, 10, 17, 13)], true)
theorem mo_L_fill : MOK mL_fill 4 := ⟨(in_g 774 (by decide +kernel) rfl), (in_g 40 (by decide +kernel) rfl), ⟨by decide +kernel, by decide +kernel⟩, by decide +kernel, by decide, by decide +kernel, fun h => by first | rfl | cases h⟩
theorem st_L_fill : Cond.static yL_fill ∈ gtbl := (in_g 773 (by decide +kernel) rfl)
abbrev mX8_fill : AM := (yX8_fill, cX8_fill, 3, some (.int), [], false)
theorem mo_X8_fill : MOK mX8_fill 2 := ⟨(in_g 778 (by decide +kernel) rfl), (in_g 41 (by decide +kernel) rfl), ⟨by decide +kernel, by decide +kernel⟩, by decide +kernel, by decide, by decide +kernel, fun h => by first | rfl | cases h⟩
theorem iv_X8_fill : Cond.instanceMethod yX8_fill ∈ gtbl := (in_g 776 (by decide +kernel) rfl)
theorem se_X8_fill : Cond.selects yX8_fill.cls yX8_fill yX8_fill ∈ gtbl := (in_g 777 (by decide +kernel) rfl)
abbrev mL_enter : AM := (yL_enter, cL_enter, 3, some (.int), [(0, 8, 11, 15)], true)
theorem mo_L_enter : MOK mL_enter 2 := ⟨(in_g 782 (by decide +kernel) rfl), (in_g 40 (by decide +kernel) rfl), ⟨by decide +kernel, by decide +kernel⟩, by decide +kernel, by decide, by decide +kernel, fun h => by first | rfl | cases h⟩
theorem st_L_enter : Cond.static yL_enter ∈ gtbl := (in_g 781 (by decide +kernel) rfl)
abbrev mX8_enter : AM := (yX8_enter, cX8_enter, 1, some (.int), [], false)
theorem mo_X8_enter : MOK mX8_enter 0 := ⟨(in_g 786 (by decide +kernel) rfl), (in_g 41 (by decide +kernel) rfl), ⟨by decide +kernel, by decide +kernel⟩, by decide +kernel, by decide, by decide +kernel, fun h => by first | rfl | cases h⟩
theorem iv_X8_enter : Cond.instanceMethod yX8_enter ∈ gtbl := (in_g 784 (by decide +kernel) rfl)
theorem se_X8_enter : Cond.selects yX8_enter.cls yX8_enter yX8_enter ∈ gtbl := (in_g 785 (by decide +kernel) rfl)
abbrev mL_leave : AM := (yL_leave, cL_leave, 3, some (.int), [(0, 8, 11, 15)], true)
theorem mo_L_leave : MOK mL_leave 2 := ⟨(in_g 790 (by decide +kernel) rfl), (in_g 40 (by decide +kernel) rfl), ⟨by decide +kernel, by decide +kernel⟩, by decide +kernel, by decide, by decide +kernel, fun h => by first | rfl | cases h⟩
theorem st_L_leave : Cond.static yL_leave ∈ gtbl := (in_g 789 (by decide +kernel) rfl)
abbrev mX8_leave : AM := (yX8_leave, cX8_leave, 1, some (.int), [], false)
theorem mo_X8_leave : MOK mX8_leave 0 := ⟨(in_g 794 (by decide +kernel) rfl), (in_g 41 (by decide +kernel) rfl), ⟨by decide +kernel, by decide +kernel⟩, by decide +kernel, by decide, by decide +kernel, fun h => by first | rfl | cases h⟩
theorem iv_X8_leave : Cond.instanceMethod yX8_leave ∈ gtbl := (in_g 792 (by decide +kernel) rfl)
theorem se_X8_leave : Cond.selects yX8_leave.cls yX8_leave yX8_leave ∈ gtbl := (in_g 793 (by decide +kernel) rfl)
abbrev mL_jump : AM := (yL_jump, cL_jump, 4, some (.int), [(0, 9, 12, 28)], true)
theorem mo_L_jump : MOK mL_jump 3 := ⟨(in_g 798 (by decide +kernel) rfl), (in_g 40 (by decide +kernel) rfl), ⟨by decide +kernel, by decide +kernel⟩, by decide +kernel, by decide, by decide +kernel, fun h => by first | rfl | cases h⟩
theorem st_L_jump : Cond.static yL_jump ∈ gtbl := (in_g 797 (by decide +kernel) rfl)
abbrev mX8_jump : AM := (yX8_jump, cX8_jump, 2, some (.int), [], false)
theorem mo_X8_jump : MOK mX8_jump 1 := ⟨(in_g 802 (by decide +kernel) rfl), (in_g 41 (by decide +kernel) rfl), ⟨by decide +kernel, by decide +kernel⟩, by decide +kernel, by decide, by decide +kernel, fun h => by first | rfl | cases h⟩
theorem iv_X8_jump : Cond.instanceMethod yX8_jump ∈ gtbl := (in_g 800 (by decide +kernel) rfl)
theorem se_X8_jump : Cond.selects yX8_jump.cls yX8_jump yX8_jump ∈ gtbl := (in_g 801 (by decide +kernel) rfl)
abbrev mL_set : AM := (yL_set, cL_set, 5, some (.int), [(0, 10, 13, 13)], true)
theorem mo_L_set : MOK mL_set 4 := ⟨(in_g 805 (by decide +kernel) rfl), (in_g 40 (by decide +kernel) rfl), ⟨by decide +kernel, by decide +kernel⟩, by decide +kernel, by decide, by decide +kernel, fun h => by first | rfl | cases h⟩
theorem st_L_set : Cond.static yL_set ∈ gtbl := (in_g 804 (by decide +kernel) rfl)
abbrev mX8_set : AM := (yX8_set, cX8_set, 4, some (.int), [], false)
theorem mo_X8_set : MOK mX8_set 2 := ⟨(in_g 809 (by decide +kernel) rfl), (in_g 41 (by decide +kernel) rfl), ⟨by decide +kernel, by decide +kernel⟩, by decide +kernel, by decide, by decide +kernel, fun h => by first | rfl | cases h⟩
theorem iv_X8_set : Cond.instanceMethod yX8_set ∈ gtbl := (in_g 807 (by decide +kernel) rfl)
theorem se_X8_set : Cond.selects yX8_set.cls yX8_set yX8_set ∈ gtbl := (in_g 808 (by decide +kernel) rfl)
abbrev mX8_isSetting : AM := (yX8_isSetting, cX8_isSetting, 2, some (.boolean), [], false)
theorem mo_X8_isSetting : MOK mX8_isSetting 2 := ⟨(in_g 812 (by decide +kernel) rfl), (in_g 41 (by decide +kernel) rfl), ⟨by decide +kernel, by decide +kernel⟩, by decide +kernel, by decide, by decide +kernel, fun h => by first | rfl | cases h⟩
theorem st_X8_isSetting : Cond.static yX8_isSetting ∈ gtbl := (in_g 811 (by decide +kernel) rfl)
abbrev mL_undo : AM := (yL_undo, cL_undo, 3, some (.int), [(0, 8, 11, 15)], true)
theorem mo_L_undo : MOK mL_undo 2 := ⟨(in_g 816 (by decide +kernel) rfl), (in_g 40 (by decide +kernel) rfl), ⟨by decide +kernel, by decide +kernel⟩, by decide +kernel, by decide, by decide +kernel, fun h => by first | rfl | cases h⟩
theorem st_L_undo : Cond.static yL_undo ∈ gtbl := (in_g 815 (by decide +kernel) rfl)
abbrev mX8_undo : AM := (yX8_undo, cX8_undo, 1, some (.int), [], false)
theorem mo_X8_undo : MOK mX8_undo 0 := ⟨(in_g 820 (by decide +kernel) rfl), (in_g 41 (by decide +kernel) rfl), ⟨by decide +kernel, by decide +kernel⟩, by decide +kernel, by decide, by decide +kernel, fun h => by first | rfl | cases h⟩
theorem iv_X8_undo : Cond.instanceMethod yX8_undo ∈ gtbl := (in_g 818 (by decide +kernel) rfl)
theorem se_X8_undo : Cond.selects yX8_undo.cls yX8_undo yX8_undo ∈ gtbl := (in_g 819 (by decide +kernel) rfl)
abbrev mX3_takeBack : AM := (yX3_takeBack, cX3_takeBack, 2, none, [], false)
theorem mo_X3_takeBack : MOK mX3_takeBack 1 := ⟨(in_g 825 (by decide +kernel) rfl), (in_g 48 (by decide +kernel) rfl), ⟨by decide +kernel, by decide +kernel⟩, by decide +kernel, by decide, by decide +kernel, fun h => by first | rfl | cases h⟩
theorem iv_X3_takeBack : Cond.instanceMethod yX3_takeBack ∈ gtbl := (in_g 823 (by decide +kernel) rfl)
theorem se_X3_takeBack : Cond.selects yX3_takeBack.cls yX3_takeBack yX3_takeBack ∈ gtbl := (in_g 824 (by decide +kernel) rfl)
abbrev mX5_fetch : AM := (yX5_fetch, cX5_fetch, 4, none, [], false)
theorem mo_X5_fetch : MOK mX5_fetch 2 := ⟨(in_g 830 (by decide +kernel) rfl), (in_g 49 (by decide +kernel) rfl), ⟨by decide +kernel, by decide +kernel⟩, by decide +kernel, by decide, by decide +kernel, fun h => by first | rfl | cases h⟩
theorem iv_X5_fetch : Cond.instanceMethod yX5_fetch ∈ gtbl := (in_g 828 (by decide +kernel) rfl)
theorem se_X5_fetch : Cond.selects yX5_fetch.cls yX5_fetch yX5_fetch ∈ gtbl := (in_g 829 (by decide +kernel) rfl)
abbrev mL_where : AM := (yL_where, cL_where, 5, some (.int), [(0, 10, 13, 13)], true)
theorem mo_L_where : MOK mL_where 4 := ⟨(in_g 833 (by decide +kernel) rfl), (in_g 40 (by decide +kernel) rfl), ⟨by decide +kernel, by decide +kernel⟩, by decide +kernel, by decide, by decide +kernel, fun h => by first | rfl | cases h⟩
theorem st_L_where : Cond.static yL_where ∈ gtbl := (in_g 832 (by decide +kernel) rfl)
abbrev mX8_where : AM := (yX8_where, cX8_where, 3, some (.int), [], false)
theorem mo_X8_where : MOK mX8_where 2 := ⟨(in_g 837 (by decide +kernel) rfl), (in_g 41 (by decide +kernel) rfl), ⟨by decide +kernel, by decide +kernel⟩, by decide +kernel, by decide, by decide +kernel, fun h => by first | rfl | cases h⟩
theorem iv_X8_where : Cond.instanceMethod yX8_where ∈ gtbl := (in_g 835 (by decide +kernel) rfl)
theorem se_X8_where : Cond.selects yX8_where.cls yX8_where yX8_where ∈ gtbl := (in_g 836 (by decide +kernel) rfl)
abbrev mL_givenUp : AM := (yL_givenUp, cL_givenUp, 4, some (.int), [(0, 9, 12, 28)], true)
theorem mo_L_givenUp : MOK mL_givenUp 3 := ⟨(in_g 840 (by decide +kernel) rfl), (in_g 40 (by decide +kernel) rfl), ⟨by decide +kernel, by decide +kernel⟩, by decide +kernel, by decide, by decide +kernel, fun h => by first | rfl | cases h⟩
theorem st_L_givenUp : Cond.static yL_givenUp ∈ gtbl := (in_g 839 (by decide +kernel) rfl)
abbrev mX8_givenUp : AM := (yX8_givenUp, cX8_givenUp, 2, some (.int), [], false)
theorem mo_X8_givenUp : MOK mX8_givenUp 1 := ⟨(in_g 844 (by decide +kernel) rfl), (in_g 41 (by decide +kernel) rfl), ⟨by decide +kernel, by decide +kernel⟩, by decide +kernel, by decide, by decide +kernel, fun h => by first | rfl | cases h⟩
theorem iv_X8_givenUp : Cond.instanceMethod yX8_givenUp ∈ gtbl := (in_g 842 (by decide +kernel) rfl)
theorem se_X8_givenUp : Cond.selects yX8_givenUp.cls yX8_givenUp yX8_givenUp ∈ gtbl := (in_g 843 (by decide +kernel) rfl)
abbrev mL_more : AM := (yL_more, cL_more, 5, some (.int), [(0, 10, 13, 13)], true)
theorem mo_L_more : MOK mL_more 4 := ⟨(in_g 848 (by decide +kernel) rfl), (in_g 40 (by decide +kernel) rfl), ⟨by decide +kernel, by decide +kernel⟩, by decide +kernel, by decide, by decide +kernel, fun h => by first | rfl | cases h⟩
theorem st_L_more : Cond.static yL_more ∈ gtbl := (in_g 847 (by decide +kernel) rfl)
abbrev mX8_more : AM := (yX8_more, cX8_more, 4, some (.int), [], false)
theorem mo_X8_more : MOK mX8_more 2 := ⟨(in_g 852 (by decide +kernel) rfl), (in_g 41 (by decide +kernel) rfl), ⟨by decide +kernel, by decide +kernel⟩, by decide +kernel, by decide, by decide +kernel, fun h => by first | rfl | cases h⟩
theorem iv_X8_more : Cond.instanceMethod yX8_more ∈ gtbl := (in_g 850 (by decide +kernel) rfl)
theorem se_X8_more : Cond.selects yX8_more.cls yX8_more yX8_more ∈ gtbl := (in_g 851 (by decide +kernel) rfl)
abbrev mL_runScript : AM := (yL_runScript, cL_runScript, 6, some (.int), [(0, 11, 14, 13)], true)
theorem mo_L_runScript : MOK mL_runScript 4 := ⟨(in_g 856 (by decide +kernel) rfl), (in_g 40 (by decide +kernel) rfl), ⟨by decide +kernel, by decide +kernel⟩, by decide +kernel, by decide, by decide +kernel, fun h => by first | rfl | cases h⟩
theorem st_L_runScript : Cond.static yL_runScript ∈ gtbl := (in_g 855 (by decide +kernel) rfl)
abbrev mX8_runScript : AM := (yX8_runScript, cX8_runScript, 8, some (.int), [], false)
theorem mo_X8_runScript : MOK mX8_runScript 2 := ⟨(in_g 860 (by decide +kernel) rfl), (in_g 41 (by decide +kernel) rfl), ⟨by decide +kernel, by decide +kernel⟩, by decide +kernel, by decide, by decide +kernel, fun h => by first | rfl | cases h⟩
theorem iv_X8_runScript : Cond.instanceMethod yX8_runScript ∈ gtbl := (in_g 858 (by decide +kernel) rfl)
theorem se_X8_runScript : Cond.selects yX8_runScript.cls yX8_runScript yX8_runScript ∈ gtbl := (in_g 859 (by decide +kernel) rfl)
abbrev mX8_succeeds : AM := (yX8_succeeds, cX8_succeeds, 5, some (.boolean), [], false)
theorem mo_X8_succeeds : MOK mX8_succeeds 2 := ⟨(in_g 866 (by decide +kernel) rfl), (in_g 41 (by decide +kernel) rfl), ⟨by decide +kernel, by decide +kernel⟩, by decide +kernel, by decide, by decide +kernel, fun h => by first | rfl | cases h⟩
theorem st_X8_succeeds : Cond.static yX8_succeeds ∈ gtbl := (in_g 865 (by decide +kernel) rfl)
abbrev mL_simulate : AM := (yL_simulate, cL_simulate, 6, some (.int), [(0, 11, 14, 13)], true)
theorem mo_L_simulate : MOK mL_simulate 4 := ⟨(in_g 872 (by decide +kernel) rfl), (in_g 40 (by decide +kernel) rfl), ⟨by decide +kernel, by decide +kernel⟩, by decide +kernel, by decide, by decide +kernel, fun h => by first | rfl | cases h⟩
theorem st_L_simulate : Cond.static yL_simulate ∈ gtbl := (in_g 871 (by decide +kernel) rfl)
abbrev mX8_simulate : AM := (yX8_simulate, cX8_simulate, 7, some (.int), [], false)
theorem mo_X8_simulate : MOK mX8_simulate 2 := ⟨(in_g 876 (by decide +kernel) rfl), (in_g 41 (by decide +kernel) rfl), ⟨by decide +kernel, by decide +kernel⟩, by decide +kernel, by decide, by decide +kernel, fun h => by first | rfl | cases h⟩
theorem iv_X8_simulate : Cond.instanceMethod yX8_simulate ∈ gtbl := (in_g 874 (by decide +kernel) rfl)
theorem se_X8_simulate : Cond.selects yX8_simulate.cls yX8_simulate yX8_simulate ∈ gtbl := (in_g 875 (by decide +kernel) rfl)
abbrev mX8_stepOnce : AM := (yX8_stepOnce, cX8_stepOnce, 2, none, [], false)
theorem mo_X8_stepOnce : MOK mX8_stepOnce 2 := ⟨(in_g 882 (by decide +kernel) rfl), (in_g 41 (by decide +kernel) rfl), ⟨by decide +kernel, by decide +kernel⟩, by decide +kernel, by decide, by decide +kernel, fun h => by first | rfl | cases h⟩
theorem st_X8_stepOnce : Cond.static yX8_stepOnce ∈ gtbl := (in_g 881 (by decide +kernel) rfl)
abbrev mL_save : AM := (yL_save, cL_save, 4, some (.int), [(0, 9, 12, 28)], true)
theorem mo_L_save : MOK mL_save 3 := ⟨(in_g 885 (by decide +kernel) rfl), (in_g 40 (by decide +kernel) rfl), ⟨by decide +kernel, by decide +kernel⟩, by decide +kernel, by decide, by decide +kernel, fun h => by first | rfl | cases h⟩
theorem st_L_save : Cond.static yL_save ∈ gtbl := (in_g 884 (by decide +kernel) rfl)
abbrev mX8_save : AM := (yX8_save, cX8_save, 2, some (.int), [], false)
theorem mo_X8_save : MOK mX8_save 1 := ⟨(in_g 889 (by decide +kernel) rfl), (in_g 41 (by decide +kernel) rfl), ⟨by decide +kernel, by decide +kernel⟩, by decide +kernel, by decide, by decide +kernel, fun h => by first | rfl | cases h⟩
theorem iv_X8_save : Cond.instanceMethod yX8_save ∈ gtbl := (in_g 887 (by decide +kernel) rfl)
theorem se_X8_save : Cond.selects yX8_save.cls yX8_save yX8_save ∈ gtbl := (in_g 888 (by decide +kernel) rfl)
abbrev mL_restore : AM := (yL_restore, cL_restore, 4, some (.int), [(0, 9, 12, 28), (0, 9, 15, 15)], true)
theorem mo_L_restore : MOK mL_restore 3 := ⟨(in_g 895 (by decide +kernel) rfl), (in_g 40 (by decide +kernel) rfl), ⟨by decide +kernel, by decide +kernel⟩, by decide +kernel, by decide, by decide +kernel, fun h => by first | rfl | cases h⟩
theorem st_L_restore : Cond.static yL_restore ∈ gtbl := (in_g 894 (by decide +kernel) rfl)
abbrev mX8_restore : AM := (yX8_restore, cX8_restore, 2, some (.int), [], false)
theorem mo_X8_restore : MOK mX8_restore 1 := ⟨(in_g 899 (by decide +kernel) rfl), (in_g 41 (by decide +kernel) rfl), ⟨by decide +kernel, by decide +kernel⟩, by decide +kernel, by decide, by decide +kernel, fun h => by first | rfl | cases h⟩
theorem iv_X8_restore : Cond.instanceMethod yX8_restore ∈ gtbl := (in_g 897 (by decide +kernel) rfl)
theorem se_X8_restore : Cond.selects yX8_restore.cls yX8_restore yX8_restore ∈ gtbl := (in_g 898 (by decide +kernel) rfl)
abbrev mX9_init : AM := (yX9_init, cX9_init, 1, none, [], false)
theorem mo_X9_init : MOK mX9_init 0 := ⟨(in_g 906 (by decide +kernel) rfl), (in_g 51 (by decide +kernel) rfl), ⟨by decide +kernel, by decide +kernel⟩, by decide +kernel, by decide, by decide +kernel, fun h => by first | rfl | cases h⟩
theorem iv_X9_init : Cond.instanceMethod yX9_init ∈ gtbl := (in_g 905 (by decide +kernel) rfl)
abbrev mX9_clean : AM := (yX9_clean, cX9_clean, 4, none, [], false)
theorem mo_X9_clean : MOK mX9_clean 3 := ⟨(in_g 910 (by decide +kernel) rfl), (in_g 51 (by decide +kernel) rfl), ⟨by decide +kernel, by decide +kernel⟩, by decide +kernel, by decide, by decide +kernel, fun h => by first | rfl | cases h⟩
theorem st_X9_clean : Cond.static yX9_clean ∈ gtbl := (in_g 909 (by decide +kernel) rfl)
abbrev mX9_thrown : AM := (yX9_thrown, cX9_thrown, 1, some (.int), [], false)
theorem mo_X9_thrown : MOK mX9_thrown 0 := ⟨(in_g 955 (by decide +kernel) rfl), (in_g 51 (by decide +kernel) rfl), ⟨by decide +kernel, by decide +kernel⟩, by decide +kernel, by decide, by decide +kernel, fun h => by first | rfl | cases h⟩
theorem iv_X9_thrown : Cond.instanceMethod yX9_thrown ∈ gtbl := (in_g 953 (by decide +kernel) rfl)
theorem se_X9_thrown : Cond.selects yX9_thrown.cls yX9_thrown yX9_thrown ∈ gtbl := (in_g 954 (by decide +kernel) rfl)
abbrev mX9_append : AM := (yX9_append, cX9_append, 2, some (.int), [], false)
theorem mo_X9_append : MOK mX9_append 1 := ⟨(in_g 959 (by decide +kernel) rfl), (in_g 51 (by decide +kernel) rfl), ⟨by decide +kernel, by decide +kernel⟩, by decide +kernel, by decide, by decide +kernel, fun h => by first | rfl | cases h⟩
theorem iv_X9_append : Cond.instanceMethod yX9_append ∈ gtbl := (in_g 957 (by decide +kernel) rfl)
theorem se_X9_append : Cond.selects yX9_append.cls yX9_append yX9_append ∈ gtbl := (in_g 958 (by decide +kernel) rfl)
abbrev mX9_in : AM := (yX9_in, cX9_in, 6, some (.boolean), [], false)
theorem mo_X9_in : MOK mX9_in 3 := ⟨(in_g 963 (by decide +kernel) rfl), (in_g 51 (by decide +kernel) rfl), ⟨by decide +kernel, by decide +kernel⟩, by decide +kernel, by decide, by decide +kernel, fun h => by first | rfl | cases h⟩
theorem st_X9_in : Cond.static yX9_in ∈ gtbl := (in_g 962 (by decide +kernel) rfl)
abbrev mX9_refused : AM := (yX9_refused, cX9_refused, 2, some (.boolean), [], false)
theorem mo_X9_refused : MOK mX9_refused 1 := ⟨(in_g 967 (by decide +kernel) rfl), (in_g 51 (by decide +kernel) rfl), ⟨by decide +kernel, by decide +kernel⟩, by decide +kernel, by decide, by decide +kernel, fun h => by first | rfl | cases h⟩
theorem iv_X9_refused : Cond.instanceMethod yX9_refused ∈ gtbl := (in_g 966 (by decide +kernel) rfl)
theorem se_X9_refused : Cond.selects yX9_refused.cls yX9_refused yX9_refused ∈ gtbl := (in_g 14 (by decide +kernel) rfl)
abbrev mX9_clearText : AM := (yX9_clearText, cX9_clearText, 2, some (.int), [], false)
theorem mo_X9_clearText : MOK mX9_clearText 0 := ⟨(in_g 971 (by decide +kernel) rfl), (in_g 51 (by decide +kernel) rfl), ⟨by decide +kernel, by decide +kernel⟩, by decide +kernel, by decide, by decide +kernel, fun h => by first | rfl | cases h⟩
theorem iv_X9_clearText : Cond.instanceMethod yX9_clearText ∈ gtbl := (in_g 969 (by decide +kernel) rfl)
theorem se_X9_clearText : Cond.selects yX9_clearText.cls yX9_clearText yX9_clearText ∈ gtbl := (in_g 970 (by decide +kernel) rfl)
abbrev mX9_errorPosition : AM := (yX9_errorPosition, cX9_errorPosition, 1, some (.int), [], false)
theorem mo_X9_errorPosition : MOK mX9_errorPosition 0 := ⟨(in_g 975 (by decide +kernel) rfl), (in_g 51 (by decide +kernel) rfl), ⟨by decide +kernel, by decide +kernel⟩, by decide +kernel, by decide, by decide +kernel, fun h => by first | rfl | cases h⟩
theorem iv_X9_errorPosition : Cond.instanceMethod yX9_errorPosition ∈ gtbl := (in_g 973 (by decide +kernel) rfl)
theorem se_X9_errorPosition : Cond.selects yX9_errorPosition.cls yX9_errorPosition yX9_errorPosition ∈ gtbl := (in_g 974 (by decide +kernel) rfl)
abbrev mX9_readText : AM := (yX9_readText, cX9_readText, 4, some (.int), [], false)
theorem mo_X9_readText : MOK mX9_readText 0 := ⟨(in_g 979 (by decide +kernel) rfl), (in_g 51 (by decide +kernel) rfl), ⟨by decide +kernel, by decide +kernel⟩, by decide +kernel, by decide, by decide +kernel, fun h => by first | rfl | cases h⟩
theorem iv_X9_readText : Cond.instanceMethod yX9_readText ∈ gtbl := (in_g 978 (by decide +kernel) rfl)
theorem se_X9_readText : Cond.selects yX9_readText.cls yX9_readText yX9_readText ∈ gtbl := (in_g 15 (by decide +kernel) rfl)
abbrev mX9_isNext : AM := (yX9_isNext, cX9_isNext, 2, some (.boolean), [], false)
theorem mo_X9_isNext : MOK mX9_isNext 1 := ⟨(in_g 983 (by decide +kernel) rfl), (in_g 51 (by decide +kernel) rfl), ⟨by decide +kernel, by decide +kernel⟩, by decide +kernel, by decide, by decide +kernel, fun h => by first | rfl | cases h⟩
theorem iv_X9_isNext : Cond.instanceMethod yX9_isNext ∈ gtbl := (in_g 982 (by decide +kernel) rfl)
theorem se_X9_isNext : Cond.selects yX9_isNext.cls yX9_isNext yX9_isNext ∈ gtbl := (in_g 16 (by decide +kernel) rfl)
abbrev mX9_accept : AM := (yX9_accept, cX9_accept, 2, none, [], false)
theorem mo_X9_accept : MOK mX9_accept 1 := ⟨(in_g 987 (by decide +kernel) rfl), (in_g 51 (by decide +kernel) rfl), ⟨by decide +kernel, by decide +kernel⟩, by decide +kernel, by decide, by decide +kernel, fun h => by first | rfl | cases h⟩
theorem iv_X9_accept : Cond.instanceMethod yX9_accept ∈ gtbl := (in_g 986 (by decide +kernel) rfl)
theorem se_X9_accept : Cond.selects yX9_accept.cls yX9_accept yX9_accept ∈ gtbl := (in_g 17 (by decide +kernel) rfl)
abbrev mX9_two : AM := (yX9_two, cX9_two, 6, some (.int), [], false)
theorem mo_X9_two : MOK mX9_two 2 := ⟨(in_g 991 (by decide +kernel) rfl), (in_g 51 (by decide +kernel) rfl), ⟨by decide +kernel, by decide +kernel⟩, by decide +kernel, by decide, by decide +kernel, fun h => by first | rfl | cases h⟩
theorem iv_X9_two : Cond.instanceMethod yX9_two ∈ gtbl := (in_g 990 (by decide +kernel) rfl)
theorem se_X9_two : Cond.selects yX9_two.cls yX9_two yX9_two ∈ gtbl := (in_g 18 (by decide +kernel) rfl)
abbrev mX9_digit : AM := (yX9_digit, cX9_digit, 4, some (.int), [], false)
theorem mo_X9_digit : MOK mX9_digit 2 := ⟨(in_g 995 (by decide +kernel) rfl), (in_g 51 (by decide +kernel) rfl), ⟨by decide +kernel, by decide +kernel⟩, by decide +kernel, by decide, by decide +kernel, fun h => by first | rfl | cases h⟩
theorem iv_X9_digit : Cond.instanceMethod yX9_digit ∈ gtbl := (in_g 994 (by decide +kernel) rfl)
theorem se_X9_digit : Cond.selects yX9_digit.cls yX9_digit yX9_digit ∈ gtbl := (in_g 19 (by decide +kernel) rfl)
abbrev mX9_readCommand : AM := (yX9_readCommand, cX9_readCommand, 1, none, [], false)
theorem mo_X9_readCommand : MOK mX9_readCommand 0 := ⟨(in_g 1000 (by decide +kernel) rfl), (in_g 51 (by decide +kernel) rfl), ⟨by decide +kernel, by decide +kernel⟩, by decide +kernel, by decide, by decide +kernel, fun h => by first | rfl | cases h⟩
theorem iv_X9_readCommand : Cond.instanceMethod yX9_readCommand ∈ gtbl := (in_g 999 (by decide +kernel) rfl)
theorem se_X9_readCommand : Cond.selects yX9_readCommand.cls yX9_readCommand yX9_readCommand ∈ gtbl := (in_g 20 (by decide +kernel) rfl)
abbrev mX9_readPitch : AM := (yX9_readPitch, cX9_readPitch, 4, none, [], false)
theorem mo_X9_readPitch : MOK mX9_readPitch 0 := ⟨(in_g 1004 (by decide +kernel) rfl), (in_g 51 (by decide +kernel) rfl), ⟨by decide +kernel, by decide +kernel⟩, by decide +kernel, by decide, by decide +kernel, fun h => by first | rfl | cases h⟩
theorem iv_X9_readPitch : Cond.instanceMethod yX9_readPitch ∈ gtbl := (in_g 1003 (by decide +kernel) rfl)
theorem se_X9_readPitch : Cond.selects yX9_readPitch.cls yX9_readPitch yX9_readPitch ∈ gtbl := (in_g 21 (by decide +kernel) rfl)
abbrev mX9_stepRead : AM := (yX9_stepRead, cX9_stepRead, 2, some (.int), [], false)
theorem mo_X9_stepRead : MOK mX9_stepRead 0 := ⟨(in_g 1008 (by decide +kernel) rfl), (in_g 51 (by decide +kernel) rfl), ⟨by decide +kernel, by decide +kernel⟩, by decide +kernel, by decide, by decide +kernel, fun h => by first | rfl | cases h⟩
theorem iv_X9_stepRead : Cond.instanceMethod yX9_stepRead ∈ gtbl := (in_g 1007 (by decide +kernel) rfl)
theorem se_X9_stepRead : Cond.selects yX9_stepRead.cls yX9_stepRead yX9_stepRead ∈ gtbl := (in_g 22 (by decide +kernel) rfl)
abbrev mX9_isStep : AM := (yX9_isStep, cX9_isStep, 1, some (.boolean), [], false)
theorem mo_X9_isStep : MOK mX9_isStep 1 := ⟨(in_g 1011 (by decide +kernel) rfl), (in_g 51 (by decide +kernel) rfl), ⟨by decide +kernel, by decide +kernel⟩, by decide +kernel, by decide, by decide +kernel, fun h => by first | rfl | cases h⟩
theorem st_X9_isStep : Cond.static yX9_isStep ∈ gtbl := (in_g 1010 (by decide +kernel) rfl)
abbrev mX9_canPitch : AM := (yX9_canPitch, cX9_canPitch, 3, some (.boolean), [], false)
theorem mo_X9_canPitch : MOK mX9_canPitch 3 := ⟨(in_g 1014 (by decide +kernel) rfl), (in_g 51 (by decide +kernel) rfl), ⟨by decide +kernel, by decide +kernel⟩, by decide +kernel, by decide, by decide +kernel, fun h => by first | rfl | cases h⟩
theorem st_X9_canPitch : Cond.static yX9_canPitch ∈ gtbl := (in_g 1013 (by decide +kernel) rfl)
abbrev mX9_whereIn : AM := (yX9_whereIn, cX9_whereIn, 4, some (.int), [], false)
theorem mo_X9_whereIn : MOK mX9_whereIn 3 := ⟨(in_g 1017 (by decide +kernel) rfl), (in_g 51 (by decide +kernel) rfl), ⟨by decide +kernel, by decide +kernel⟩, by decide +kernel, by decide, by decide +kernel, fun h => by first | rfl | cases h⟩
theorem st_X9_whereIn : Cond.static yX9_whereIn ∈ gtbl := (in_g 1016 (by decide +kernel) rfl)
abbrev mX9_roomOn : AM := (yX9_roomOn, cX9_roomOn, 5, some (.int), [], false)
theorem mo_X9_roomOn : MOK mX9_roomOn 3 := ⟨(in_g 1020 (by decide +kernel) rfl), (in_g 51 (by decide +kernel) rfl), ⟨by decide +kernel, by decide +kernel⟩, by decide +kernel, by decide, by decide +kernel, fun h => by first | rfl | cases h⟩
theorem st_X9_roomOn : Cond.static yX9_roomOn ∈ gtbl := (in_g 1019 (by decide +kernel) rfl)
abbrev mX9_lastUsual : AM := (yX9_lastUsual, cX9_lastUsual, 3, some (.int), [], false)
theorem mo_X9_lastUsual : MOK mX9_lastUsual 1 := ⟨(in_g 1023 (by decide +kernel) rfl), (in_g 51 (by decide +kernel) rfl), ⟨by decide +kernel, by decide +kernel⟩, by decide +kernel, by decide, by decide +kernel, fun h => by first | rfl | cases h⟩
theorem st_X9_lastUsual : Cond.static yX9_lastUsual ∈ gtbl := (in_g 1022 (by decide +kernel) rfl)
abbrev mX9_fieldAt : AM := (yX9_fieldAt, cX9_fieldAt, 2, some (.int), [], false)
theorem mo_X9_fieldAt : MOK mX9_fieldAt 2 := ⟨(in_g 1026 (by decide +kernel) rfl), (in_g 51 (by decide +kernel) rfl), ⟨by decide +kernel, by decide +kernel⟩, by decide +kernel, by decide, by decide +kernel, fun h => by first | rfl | cases h⟩
theorem st_X9_fieldAt : Cond.static yX9_fieldAt ∈ gtbl := (in_g 1025 (by decide +kernel) rfl)
abbrev mX9_spareFor : AM := (yX9_spareFor, cX9_spareFor, 5, some (.int), [], false)
theorem mo_X9_spareFor : MOK mX9_spareFor 2 := ⟨(in_g 1029 (by decide +kernel) rfl), (in_g 51 (by decide +kernel) rfl), ⟨by decide +kernel, by decide +kernel⟩, by decide +kernel, by decide, by decide +kernel, fun h => by first | rfl | cases h⟩
theorem st_X9_spareFor : Cond.static yX9_spareFor ∈ gtbl := (in_g 1028 (by decide +kernel) rfl)
abbrev mX9_spareAt : AM := (yX9_spareAt, cX9_spareAt, 2, some (.int), [], false)
theorem mo_X9_spareAt : MOK mX9_spareAt 2 := ⟨(in_g 1032 (by decide +kernel) rfl), (in_g 51 (by decide +kernel) rfl), ⟨by decide +kernel, by decide +kernel⟩, by decide +kernel, by decide, by decide +kernel, fun h => by first | rfl | cases h⟩
theorem st_X9_spareAt : Cond.static yX9_spareAt ∈ gtbl := (in_g 1031 (by decide +kernel) rfl)
abbrev mX9_isBig : AM := (yX9_isBig, cX9_isBig, 2, some (.boolean), [], false)
theorem mo_X9_isBig : MOK mX9_isBig 2 := ⟨(in_g 1035 (by decide +kernel) rfl), (in_g 51 (by decide +kernel) rfl), ⟨by decide +kernel, by decide +kernel⟩, by decide +kernel, by decide, by decide +kernel, fun h => by first | rfl | cases h⟩
theorem st_X9_isBig : Cond.static yX9_isBig ∈ gtbl := (in_g 1034 (by decide +kernel) rfl)
abbrev mX9_allPlaces : AM := (yX9_allPlaces, cX9_allPlaces, 1, some (.int), [], false)
theorem mo_X9_allPlaces : MOK mX9_allPlaces 1 := ⟨(in_g 1038 (by decide +kernel) rfl), (in_g 51 (by decide +kernel) rfl), ⟨by decide +kernel, by decide +kernel⟩, by decide +kernel, by decide, by decide +kernel, fun h => by first | rfl | cases h⟩
theorem st_X9_allPlaces : Cond.static yX9_allPlaces ∈ gtbl := (in_g 1037 (by decide +kernel) rfl)
abbrev mX9_usedPlaces : AM := (yX9_usedPlaces, cX9_usedPlaces, 3, some (.int), [], false)
theorem mo_X9_usedPlaces : MOK mX9_usedPlaces 1 := ⟨(in_g 1041 (by decide +kernel) rfl), (in_g 51 (by decide +kernel) rfl), ⟨by decide +kernel, by decide +kernel⟩, by decide +kernel, by decide, by decide +kernel, fun h => by first | rfl | cases h⟩
theorem st_X9_usedPlaces : Cond.static yX9_usedPlaces ∈ gtbl := (in_g 1040 (by decide +kernel) rfl)
abbrev mX9_sparePlaces : AM := (yX9_sparePlaces, cX9_sparePlaces, 3, some (.int), [], false)
theorem mo_X9_sparePlaces : MOK mX9_sparePlaces 1 := ⟨(in_g 1044 (by decide +kernel) rfl), (in_g 51 (by decide +kernel) rfl), ⟨by decide +kernel, by decide +kernel⟩, by decide +kernel, by decide, by decide +kernel, fun h => by first | rfl | cases h⟩
theorem st_X9_sparePlaces : Cond.static yX9_sparePlaces ∈ gtbl := (in_g 1043 (by decide +kernel) rfl)
abbrev mX9_pitchIn : AM := (yX9_pitchIn, cX9_pitchIn, 7, some (.int), [], false)
theorem mo_X9_pitchIn : MOK mX9_pitchIn 3 := ⟨(in_g 1047 (by decide +kernel) rfl), (in_g 51 (by decide +kernel) rfl), ⟨by decide +kernel, by decide +kernel⟩, by decide +kernel, by decide, by decide +kernel, fun h => by first | rfl | cases h⟩
theorem st_X9_pitchIn : Cond.static yX9_pitchIn ∈ gtbl := (in_g 1046 (by decide +kernel) rfl)
abbrev mX9_pitchOn : AM := (yX9_pitchOn, cX9_pitchOn, 5, some (.int), [], false)
theorem mo_X9_pitchOn : MOK mX9_pitchOn 3 := ⟨(in_g 1050 (by decide +kernel) rfl), (in_g 51 (by decide +kernel) rfl), ⟨by decide +kernel, by decide +kernel⟩, by decide +kernel, by decide, by decide +kernel, fun h => by first | rfl | cases h⟩
theorem st_X9_pitchOn : Cond.static yX9_pitchOn ∈ gtbl := (in_g 1049 (by decide +kernel) rfl)
abbrev mX9_takeSpare : AM := (yX9_takeSpare, cX9_takeSpare, 3, none, [], false)
theorem mo_X9_takeSpare : MOK mX9_takeSpare 2 := ⟨(in_g 1053 (by decide +kernel) rfl), (in_g 51 (by decide +kernel) rfl), ⟨by decide +kernel, by decide +kernel⟩, by decide +kernel, by decide, by decide +kernel, fun h => by first | rfl | cases h⟩
theorem st_X9_takeSpare : Cond.static yX9_takeSpare ∈ gtbl := (in_g 1052 (by decide +kernel) rfl)
abbrev mX9_copy : AM := (yX9_copy, cX9_copy, 6, none, [], false)
theorem mo_X9_copy : MOK mX9_copy 5 := ⟨(in_g 1056 (by decide +kernel) rfl), (in_g 51 (by decide +kernel) rfl), ⟨by decide +kernel, by decide +kernel⟩, by decide +kernel, by decide, by decide +kernel, fun h => by first | rfl | cases h⟩
theorem st_X9_copy : Cond.static yX9_copy ∈ gtbl := (in_g 1055 (by decide +kernel) rfl)
abbrev mX9_makeField : AM := (yX9_makeField, cX9_makeField, 5, none, [], false)
theorem mo_X9_makeField : MOK mX9_makeField 2 := ⟨(in_g 1059 (by decide +kernel) rfl), (in_g 51 (by decide +kernel) rfl), ⟨by decide +kernel, by decide +kernel⟩, by decide +kernel, by decide, by decide +kernel, fun h => by first | rfl | cases h⟩
theorem st_X9_makeField : Cond.static yX9_makeField ∈ gtbl := (in_g 1058 (by decide +kernel) rfl)
abbrev mX9_tentAt : AM := (yX9_tentAt, cX9_tentAt, 2, some (.int), [], false)
theorem mo_X9_tentAt : MOK mX9_tentAt 2 := ⟨(in_g 1062 (by decide +kernel) rfl), (in_g 51 (by decide +kernel) rfl), ⟨by decide +kernel, by decide +kernel⟩, by decide +kernel, by decide, by decide +kernel, fun h => by first | rfl | cases h⟩
theorem st_X9_tentAt : Cond.static yX9_tentAt ∈ gtbl := (in_g 1061 (by decide +kernel) rfl)
abbrev mX9_tentPlaces : AM := (yX9_tentPlaces, cX9_tentPlaces, 4, some (.int), [], false)
theorem mo_X9_tentPlaces : MOK mX9_tentPlaces 2 := ⟨(in_g 1065 (by decide +kernel) rfl), (in_g 51 (by decide +kernel) rfl), ⟨by decide +kernel, by decide +kernel⟩, by decide +kernel, by decide, by decide +kernel, fun h => by first | rfl | cases h⟩
theorem st_X9_tentPlaces : Cond.static yX9_tentPlaces ∈ gtbl := (in_g 1064 (by decide +kernel) rfl)
abbrev mX9_readFill : AM := (yX9_readFill, cX9_readFill, 4, none, [], false)
theorem mo_X9_readFill : MOK mX9_readFill 0 := ⟨(in_g 1069 (by decide +kernel) rfl), (in_g 51 (by decide +kernel) rfl), ⟨by decide +kernel, by decide +kernel⟩, by decide +kernel, by decide, by decide +kernel, fun h => by first | rfl | cases h⟩
theorem iv_X9_readFill : Cond.instanceMethod yX9_readFill ∈ gtbl := (in_g 1068 (by decide +kernel) rfl)
theorem se_X9_readFill : Cond.selects yX9_readFill.cls yX9_readFill yX9_readFill ∈ gtbl := (in_g 23 (by decide +kernel) rfl)
abbrev mX9_fillIn : AM := (yX9_fillIn, cX9_fillIn, 6, some (.int), [], false)
theorem mo_X9_fillIn : MOK mX9_fillIn 3 := ⟨(in_g 1072 (by decide +kernel) rfl), (in_g 51 (by decide +kernel) rfl), ⟨by decide +kernel, by decide +kernel⟩, by decide +kernel, by decide, by decide +kernel, fun h => by first | rfl | cases h⟩
theorem st_X9_fillIn : Cond.static yX9_fillIn ∈ gtbl := (in_g 1071 (by decide +kernel) rfl)
abbrev mX9_readFrame : AM := (yX9_readFrame, cX9_readFrame, 5, none, [], false)
theorem mo_X9_readFrame : MOK mX9_readFrame 2 := ⟨(in_g 1076 (by decide +kernel) rfl), (in_g 51 (by decide +kernel) rfl), ⟨by decide +kernel, by decide +kernel⟩, by decide +kernel, by decide, by decide +kernel, fun h => by first | rfl | cases h⟩
theorem iv_X9_readFrame : Cond.instanceMethod yX9_readFrame ∈ gtbl := (in_g 1075 (by decide +kernel) rfl)
theorem se_X9_readFrame : Cond.selects yX9_readFrame.cls yX9_readFrame yX9_readFrame ∈ gtbl := (in_g 24 (by decide +kernel) rfl)
abbrev mX9_enterIn : AM := (yX9_enterIn, cX9_enterIn, 1, none, [], false)
theorem mo_X9_enterIn : MOK mX9_enterIn 1 := ⟨(in_g 1079 (by decide +kernel) rfl), (in_g 51 (by decide +kernel) rfl), ⟨by decide +kernel, by decide +kernel⟩, by decide +kernel, by decide, by decide +kernel, fun h => by first | rfl | cases h⟩
theorem st_X9_enterIn : Cond.static yX9_enterIn ∈ gtbl := (in_g 1078 (by decide +kernel) rfl)
abbrev mX9_frameAt : AM := (yX9_frameAt, cX9_frameAt, 2, some (.int), [], false)
theorem mo_X9_frameAt : MOK mX9_frameAt 2 := ⟨(in_g 1082 (by decide +kernel) rfl), (in_g 51 (by decide +kernel) rfl), ⟨by decide +kernel, by decide +kernel⟩, by decide +kernel, by decide, by decide +kernel, fun h => by first | rfl | cases h⟩
theorem st_X9_frameAt : Cond.static yX9_frameAt ∈ gtbl := (in_g 1081 (by decide +kernel) rfl)
abbrev mX9_jumpIn : AM := (yX9_jumpIn, cX9_jumpIn, 3, some (.int), [], false)
theorem mo_X9_jumpIn : MOK mX9_jumpIn 2 := ⟨(in_g 1085 (by decide +kernel) rfl), (in_g 51 (by decide +kernel) rfl), ⟨by decide +kernel, by decide +kernel⟩, by decide +kernel, by decide, by decide +kernel, fun h => by first | rfl | cases h⟩
theorem st_X9_jumpIn : Cond.static yX9_jumpIn ∈ gtbl := (in_g 1084 (by decide +kernel) rfl)
abbrev mX9_strikeBehind : AM := (yX9_strikeBehind, cX9_strikeBehind, 3, some (.int), [], false)
theorem mo_X9_strikeBehind : MOK mX9_strikeBehind 2 := ⟨(in_g 1088 (by decide +kernel) rfl), (in_g 51 (by decide +kernel) rfl), ⟨by decide +kernel, by decide +kernel⟩, by decide +kernel, by decide, by decide +kernel, fun h => by first | rfl | cases h⟩
theorem st_X9_strikeBehind : Cond.static yX9_strikeBehind ∈ gtbl := (in_g 1087 (by decide +kernel) rfl)
abbrev mX9_strike : AM := (yX9_strike, cX9_strike, 5, none, [], false)
theorem mo_X9_strike : MOK mX9_strike 1 := ⟨(in_g 1091 (by decide +kernel) rfl), (in_g 51 (by decide +kernel) rfl), ⟨by decide +kernel, by decide +kernel⟩, by decide +kernel, by decide, by decide +kernel, fun h => by first | rfl | cases h⟩
theorem st_X9_strike : Cond.static yX9_strike ∈ gtbl := (in_g 1090 (by decide +kernel) rfl)
abbrev mX9_layEnds : AM := (yX9_layEnds, cX9_layEnds, 2, none, [], false)
theorem mo_X9_layEnds : MOK mX9_layEnds 1 := ⟨(in_g 1094 (by decide +kernel) rfl), (in_g 51 (by decide +kernel) rfl), ⟨by decide +kernel, by decide +kernel⟩, by decide +kernel, by decide, by decide +kernel, fun h => by first | rfl | cases h⟩
theorem st_X9_layEnds : Cond.static yX9_layEnds ∈ gtbl := (in_g 1093 (by decide +kernel) rfl)
abbrev mX9_greatestSpare : AM := (yX9_greatestSpare, cX9_greatestSpare, 3, some (.int), [], false)
theorem mo_X9_greatestSpare : MOK mX9_greatestSpare 1 := ⟨(in_g 1097 (by decide +kernel) rfl), (in_g 51 (by decide +kernel) rfl), ⟨by decide +kernel, by decide +kernel⟩, by decide +kernel, by decide, by decide +kernel, fun h => by first | rfl | cases h⟩
theorem st_X9_greatestSpare : Cond.static yX9_greatestSpare ∈ gtbl := (in_g 1096 (by decide +kernel) rfl)
abbrev mX9_giveUp : AM := (yX9_giveUp, cX9_giveUp, 6, none, [], false)
theorem mo_X9_giveUp : MOK mX9_giveUp 2 := ⟨(in_g 1100 (by decide +kernel) rfl), (in_g 51 (by decide +kernel) rfl), ⟨by decide +kernel, by decide +kernel⟩, by decide +kernel, by decide, by decide +kernel, fun h => by first | rfl | cases h⟩
theorem st_X9_giveUp : Cond.static yX9_giveUp ∈ gtbl := (in_g 1099 (by decide +kernel) rfl)
abbrev mX9_leaveIn : AM := (yX9_leaveIn, cX9_leaveIn, 2, some (.int), [], false)
theorem mo_X9_leaveIn : MOK mX9_leaveIn 1 := ⟨(in_g 1103 (by decide +kernel) rfl), (in_g 51 (by decide +kernel) rfl), ⟨by decide +kernel, by decide +kernel⟩, by decide +kernel, by decide, by decide +kernel, fun h => by first | rfl | cases h⟩
theorem st_X9_leaveIn : Cond.static yX9_leaveIn ∈ gtbl := (in_g 1102 (by decide +kernel) rfl)
abbrev mX9_load : AM := (yX9_load, cX9_load, 1, some (.int), [], false)
theorem mo_X9_load : MOK mX9_load 0 := ⟨(in_g 1107 (by decide +kernel) rfl), (in_g 51 (by decide +kernel) rfl), ⟨by decide +kernel, by decide +kernel⟩, by decide +kernel, by decide, by decide +kernel, fun h => by first | rfl | cases h⟩
theorem iv_X9_load : Cond.instanceMethod yX9_load ∈ gtbl := (in_g 1105 (by decide +kernel) rfl)
theorem se_X9_load : Cond.selects yX9_load.cls yX9_load yX9_load ∈ gtbl := (in_g 1106 (by decide +kernel) rfl)
abbrev mX9_about : AM := (yX9_about, cX9_about, 2, some (.int), [], false)
theorem mo_X9_about : MOK mX9_about 1 := ⟨(in_g 1111 (by decide +kernel) rfl), (in_g 51 (by decide +kernel) rfl), ⟨by decide +kernel, by decide +kernel⟩, by decide +kernel, by decide, by decide +kernel, fun h => by first | rfl | cases h⟩
theorem iv_X9_about : Cond.instanceMethod yX9_about ∈ gtbl := (in_g 1109 (by decide +kernel) rfl)
theorem se_X9_about : Cond.selects yX9_about.cls yX9_about yX9_about ∈ gtbl := (in_g 1110 (by decide +kernel) rfl)
abbrev mX9_gaps : AM := (yX9_gaps, cX9_gaps, 5, some (.int), [], false)
theorem mo_X9_gaps : MOK mX9_gaps 1 := ⟨(in_g 1115 (by decide +kernel) rfl), (in_g 51 (by decide +kernel) rfl), ⟨by decide +kernel, by decide +kernel⟩, by decide +kernel, by decide, by decide +kernel, fun h => by first | rfl | cases h⟩
theorem st_X9_gaps : Cond.static yX9_gaps ∈ gtbl := (in_g 1114 (by decide +kernel) rfl)
abbrev mX9_onField : AM := (yX9_onField, cX9_onField, 4, some (.int), [], false)
theorem mo_X9_onField : MOK mX9_onField 2 := ⟨(in_g 1118 (by decide +kernel) rfl), (in_g 51 (by decide +kernel) rfl), ⟨by decide +kernel, by decide +kernel⟩, by decide +kernel, by decide, by decide +kernel, fun h => by first | rfl | cases h⟩
theorem st_X9_onField : Cond.static yX9_onField ∈ gtbl := (in_g 1117 (by decide +kernel) rfl)
abbrev mX9_tent : AM := (yX9_tent, cX9_tent, 3, some (.int), [], false)
theorem mo_X9_tent : MOK mX9_tent 2 := ⟨(in_g 1122 (by decide +kernel) rfl), (in_g 51 (by decide +kernel) rfl), ⟨by decide +kernel, by decide +kernel⟩, by decide +kernel, by decide, by decide +kernel, fun h => by first | rfl | cases h⟩
theorem iv_X9_tent : Cond.instanceMethod yX9_tent ∈ gtbl := (in_g 1120 (by decide +kernel) rfl)
theorem se_X9_tent : Cond.selects yX9_tent.cls yX9_tent yX9_tent ∈ gtbl := (in_g 1121 (by decide +kernel) rfl)
abbrev mX9_isTent : AM := (yX9_isTent, cX9_isTent, 2, some (.boolean), [], false)
theorem mo_X9_isTent : MOK mX9_isTent 1 := ⟨(in_g 1126 (by decide +kernel) rfl), (in_g 51 (by decide +kernel) rfl), ⟨by decide +kernel, by decide +kernel⟩, by decide +kernel, by decide, by decide +kernel, fun h => by first | rfl | cases h⟩
theorem iv_X9_isTent : Cond.instanceMethod yX9_isTent ∈ gtbl := (in_g 1125 (by decide +kernel) rfl)
theorem se_X9_isTent : Cond.selects yX9_isTent.cls yX9_isTent yX9_isTent ∈ gtbl := (in_g 25 (by decide +kernel) rfl)
abbrev mX9_frameOf : AM := (yX9_frameOf, cX9_frameOf, 4, some (.int), [], false)
theorem mo_X9_frameOf : MOK mX9_frameOf 1 := ⟨(in_g 1131 (by decide +kernel) rfl), (in_g 51 (by decide +kernel) rfl), ⟨by decide +kernel, by decide +kernel⟩, by decide +kernel, by decide, by decide +kernel, fun h => by first | rfl | cases h⟩
theorem iv_X9_frameOf : Cond.instanceMethod yX9_frameOf ∈ gtbl := (in_g 1130 (by decide +kernel) rfl)
theorem se_X9_frameOf : Cond.selects yX9_frameOf.cls yX9_frameOf yX9_frameOf ∈ gtbl := (in_g 26 (by decide +kernel) rfl)
abbrev mX9_field : AM := (yX9_field, cX9_field, 3, some (.int), [], false)
theorem mo_X9_field : MOK mX9_field 2 := ⟨(in_g 1135 (by decide +kernel) rfl), (in_g 51 (by decide +kernel) rfl), ⟨by decide +kernel, by decide +kernel⟩, by decide +kernel, by decide, by decide +kernel, fun h => by first | rfl | cases h⟩
theorem iv_X9_field : Cond.instanceMethod yX9_field ∈ gtbl := (in_g 1133 (by decide +kernel) rfl)
theorem se_X9_field : Cond.selects yX9_field.cls yX9_field yX9_field ∈ gtbl := (in_g 1134 (by decide +kernel) rfl)
abbrev mX9_isField : AM := (yX9_isField, cX9_isField, 2, some (.boolean), [], false)
theorem mo_X9_isField : MOK mX9_isField 1 := ⟨(in_g 1139 (by decide +kernel) rfl), (in_g 51 (by decide +kernel) rfl), ⟨by decide +kernel, by decide +kernel⟩, by decide +kernel, by decide, by decide +kernel, fun h => by first | rfl | cases h⟩
theorem iv_X9_isField : Cond.instanceMethod yX9_isField ∈ gtbl := (in_g 1138 (by decide +kernel) rfl)
theorem se_X9_isField : Cond.selects yX9_isField.cls yX9_isField yX9_isField ∈ gtbl := (in_g 27 (by decide +kernel) rfl)
abbrev mX9_tentsOn : AM := (yX9_tentsOn, cX9_tentsOn, 4, some (.int), [], false)
theorem mo_X9_tentsOn : MOK mX9_tentsOn 1 := ⟨(in_g 1143 (by decide +kernel) rfl), (in_g 51 (by decide +kernel) rfl), ⟨by decide +kernel, by decide +kernel⟩, by decide +kernel, by decide, by decide +kernel, fun h => by first | rfl | cases h⟩
theorem iv_X9_tentsOn : Cond.instanceMethod yX9_tentsOn ∈ gtbl := (in_g 1142 (by decide +kernel) rfl)
theorem se_X9_tentsOn : Cond.selects yX9_tentsOn.cls yX9_tentsOn yX9_tentsOn ∈ gtbl := (in_g 28 (by decide +kernel) rfl)
abbrev mX9_poisonOn : AM := (yX9_poisonOn, cX9_poisonOn, 4, some (.int), [], false)
theorem mo_X9_poisonOn : MOK mX9_poisonOn 1 := ⟨(in_g 1147 (by decide +kernel) rfl), (in_g 51 (by decide +kernel) rfl), ⟨by decide +kernel, by decide +kernel⟩, by decide +kernel, by decide, by decide +kernel, fun h => by first | rfl | cases h⟩
theorem iv_X9_poisonOn : Cond.instanceMethod yX9_poisonOn ∈ gtbl := (in_g 1146 (by decide +kernel) rfl)
theorem se_X9_poisonOn : Cond.selects yX9_poisonOn.cls yX9_poisonOn yX9_poisonOn ∈ gtbl := (in_g 29 (by decide +kernel) rfl)
abbrev mX9_place : AM := (yX9_place, cX9_place, 4, some (.int), [], false)
theorem mo_X9_place : MOK mX9_place 2 := ⟨(in_g 1151 (by decide +kernel) rfl), (in_g 51 (by decide +kernel) rfl), ⟨by decide +kernel, by decide +kernel⟩, by decide +kernel, by decide, by decide +kernel, fun h => by first | rfl | cases h⟩
theorem iv_X9_place : Cond.instanceMethod yX9_place ∈ gtbl := (in_g 1149 (by decide +kernel) rfl)
theorem se_X9_place : Cond.selects yX9_place.cls yX9_place yX9_place ∈ gtbl := (in_g 1150 (by decide +kernel) rfl)
abbrev mX9_spare : AM := (yX9_spare, cX9_spare, 5, some (.int), [], false)
theorem mo_X9_spare : MOK mX9_spare 1 := ⟨(in_g 1155 (by decide +kernel) rfl), (in_g 51 (by decide +kernel) rfl), ⟨by decide +kernel, by decide +kernel⟩, by decide +kernel, by decide, by decide +kernel, fun h => by first | rfl | cases h⟩
theorem iv_X9_spare : Cond.instanceMethod yX9_spare ∈ gtbl := (in_g 1153 (by decide +kernel) rfl)
theorem se_X9_spare : Cond.selects yX9_spare.cls yX9_spare yX9_spare ∈ gtbl := (in_g 1154 (by decide +kernel) rfl)
abbrev mX9_frame : AM := (yX9_frame, cX9_frame, 3, some (.int), [], false)
theorem mo_X9_frame : MOK mX9_frame 2 := ⟨(in_g 1159 (by decide +kernel) rfl), (in_g 51 (by decide +kernel) rfl), ⟨by decide +kernel, by decide +kernel⟩, by decide +kernel, by decide, by decide +kernel, fun h => by first | rfl | cases h⟩
theorem iv_X9_frame : Cond.instanceMethod yX9_frame ∈ gtbl := (in_g 1157 (by decide +kernel) rfl)
theorem se_X9_frame : Cond.selects yX9_frame.cls yX9_frame yX9_frame ∈ gtbl := (in_g 1158 (by decide +kernel) rfl)
abbrev mX9_isFrame : AM := (yX9_isFrame, cX9_isFrame, 2, some (.boolean), [], false)
theorem mo_X9_isFrame : MOK mX9_isFrame 1 := ⟨(in_g 1163 (by decide +kernel) rfl), (in_g 51 (by decide +kernel) rfl), ⟨by decide +kernel, by decide +kernel⟩, by decide +kernel, by decide, by decide +kernel, fun h => by first | rfl | cases h⟩
theorem iv_X9_isFrame : Cond.instanceMethod yX9_isFrame ∈ gtbl := (in_g 1162 (by decide +kernel) rfl)
theorem se_X9_isFrame : Cond.selects yX9_isFrame.cls yX9_isFrame yX9_isFrame ∈ gtbl := (in_g 30 (by decide +kernel) rfl)
abbrev mX9_pitch : AM := (yX9_pitch, cX9_pitch, 4, some (.int), [], false)
theorem mo_X9_pitch : MOK mX9_pitch 2 := ⟨(in_g 1168 (by decide +kernel) rfl), (in_g 51 (by decide +kernel) rfl), ⟨by decide +kernel, by decide +kernel⟩, by decide +kernel, by decide, by decide +kernel, fun h => by first | rfl | cases h⟩
theorem iv_X9_pitch : Cond.instanceMethod yX9_pitch ∈ gtbl := (in_g 1166 (by decide +kernel) rfl)
theorem se_X9_pitch : Cond.selects yX9_pitch.cls yX9_pitch yX9_pitch ∈ gtbl := (in_g 1167 (by decide +kernel) rfl)
abbrev mX9_isTentSize : AM := (yX9_isTentSize, cX9_isTentSize, 1, some (.boolean), [], false)
theorem mo_X9_isTentSize : MOK mX9_isTentSize 1 := ⟨(in_g 1171 (by decide +kernel) rfl), (in_g 51 (by decide +kernel) rfl), ⟨by decide +kernel, by decide +kernel⟩, by decide +kernel, by decide, by decide +kernel, fun h => by first | rfl | cases h⟩
theorem st_X9_isTentSize : Cond.static yX9_isTentSize ∈ gtbl := (in_g 1170 (by decide +kernel) rfl)
abbrev mX9_remember : AM := (yX9_remember, cX9_remember, 1, none, [], false)
theorem mo_X9_remember : MOK mX9_remember 0 := ⟨(in_g 1176 (by decide +kernel) rfl), (in_g 51 (by decide +kernel) rfl), ⟨by decide +kernel, by decide +kernel⟩, by decide +kernel, by decide, by decide +kernel, fun h => by first | rfl | cases h⟩
theorem iv_X9_remember : Cond.instanceMethod yX9_remember ∈ gtbl := (in_g 1175 (by decide +kernel) rfl)
theorem se_X9_remember : Cond.selects yX9_remember.cls yX9_remember yX9_remember ∈ gtbl := (in_g 31 (by decide +kernel) rfl)
abbrev mX9_fill : AM := (yX9_fill, cX9_fill, 3, some (.int), [], false)
theorem mo_X9_fill : MOK mX9_fill 2 := ⟨(in_g 1180 (by decide +kernel) rfl), (in_g 51 (by decide +kernel) rfl), ⟨by decide +kernel, by decide +kernel⟩, by decide +kernel, by decide, by decide +kernel, fun h => by first | rfl | cases h⟩
theorem iv_X9_fill : Cond.instanceMethod yX9_fill ∈ gtbl := (in_g 1178 (by decide +kernel) rfl)
theorem se_X9_fill : Cond.selects yX9_fill.cls yX9_fill yX9_fill ∈ gtbl := (in_g 1179 (by decide +kernel) rfl)
abbrev mX9_enter : AM := (yX9_enter, cX9_enter, 1, some (.int), [], false)
theorem mo_X9_enter : MOK mX9_enter 0 := ⟨(in_g 1185 (by decide +kernel) rfl), (in_g 51 (by decide +kernel) rfl), ⟨by decide +kernel, by decide +kernel⟩, by decide +kernel, by decide, by decide +kernel, fun h => by first | rfl | cases h⟩
theorem iv_X9_enter : Cond.instanceMethod yX9_enter ∈ gtbl := (in_g 1183 (by decide +kernel) rfl)
theorem se_X9_enter : Cond.selects yX9_enter.cls yX9_enter yX9_enter ∈ gtbl := (in_g 1184 (by decide +kernel) rfl)
abbrev mX9_leave : AM := (yX9_leave, cX9_leave, 1, some (.int), [], false)
theorem mo_X9_leave : MOK mX9_leave 0 := ⟨(in_g 1189 (by decide +kernel) rfl), (in_g 51 (by decide +kernel) rfl), ⟨by decide +kernel, by decide +kernel⟩, by decide +kernel, by decide, by decide +kernel, fun h => by first | rfl | cases h⟩
theorem iv_X9_leave : Cond.instanceMethod yX9_leave ∈ gtbl := (in_g 1187 (by decide +kernel) rfl)
theorem se_X9_leave : Cond.selects yX9_leave.cls yX9_leave yX9_leave ∈ gtbl := (in_g 1188 (by decide +kernel) rfl)
abbrev mX9_jump : AM := (yX9_jump, cX9_jump, 2, some (.int), [], false)
theorem mo_X9_jump : MOK mX9_jump 1 := ⟨(in_g 1193 (by decide +kernel) rfl), (in_g 51 (by decide +kernel) rfl), ⟨by decide +kernel, by decide +kernel⟩, by decide +kernel, by decide, by decide +kernel, fun h => by first | rfl | cases h⟩
theorem iv_X9_jump : Cond.instanceMethod yX9_jump ∈ gtbl := (in_g 1191 (by decide +kernel) rfl)
theorem se_X9_jump : Cond.selects yX9_jump.cls yX9_jump yX9_jump ∈ gtbl := (in_g 1192 (by decide +kernel) rfl)
abbrev mX9_set : AM := (yX9_set, cX9_set, 5, some (.int), [], false)
theorem mo_X9_set : MOK mX9_set 2 := ⟨(in_g 1197 (by decide +kernel) rfl), (in_g 51 (by decide +kernel) rfl), ⟨by decide +kernel, by decide +kernel⟩, by decide +kernel, by decide, by decide +kernel, fun h => by first | rfl | cases h⟩
theorem iv_X9_set : Cond.instanceMethod yX9_set ∈ gtbl := (in_g 1195 (by decide +kernel) rfl)
theorem se_X9_set : Cond.selects yX9_set.cls yX9_set yX9_set ∈ gtbl := (in_g 1196 (by decide +kernel) rfl)
abbrev mX9_undo : AM := (yX9_undo, cX9_undo, 1, some (.int), [], false)
theorem mo_X9_undo : MOK mX9_undo 0 := ⟨(in_g 1204 (by decide +kernel) rfl), (in_g 51 (by decide +kernel) rfl), ⟨by decide +kernel, by decide +kernel⟩, by decide +kernel, by decide, by decide +kernel, fun h => by first | rfl | cases h⟩
theorem iv_X9_undo : Cond.instanceMethod yX9_undo ∈ gtbl := (in_g 1202 (by decide +kernel) rfl)
theorem se_X9_undo : Cond.selects yX9_undo.cls yX9_undo yX9_undo ∈ gtbl := (in_g 1203 (by decide +kernel) rfl)
abbrev mX9_where : AM := (yX9_where, cX9_where, 4, some (.int), [], false)
theorem mo_X9_where : MOK mX9_where 2 := ⟨(in_g 1208 (by decide +kernel) rfl), (in_g 51 (by decide +kernel) rfl), ⟨by decide +kernel, by decide +kernel⟩, by decide +kernel, by decide, by decide +kernel, fun h => by first | rfl | cases h⟩
theorem iv_X9_where : Cond.instanceMethod yX9_where ∈ gtbl := (in_g 1206 (by decide +kernel) rfl)
theorem se_X9_where : Cond.selects yX9_where.cls yX9_where yX9_where ∈ gtbl := (in_g 1207 (by decide +kernel) rfl)
abbrev mX9_givenUp : AM := (yX9_givenUp, cX9_givenUp, 2, some (.int), [], false)
theorem mo_X9_givenUp : MOK mX9_givenUp 1 := ⟨(in_g 1212 (by decide +kernel) rfl), (in_g 51 (by decide +kernel) rfl), ⟨by decide +kernel, by decide +kernel⟩, by decide +kernel, by decide, by decide +kernel, fun h => by first | rfl | cases h⟩
theorem iv_X9_givenUp : Cond.instanceMethod yX9_givenUp ∈ gtbl := (in_g 1210 (by decide +kernel) rfl)
theorem se_X9_givenUp : Cond.selects yX9_givenUp.cls yX9_givenUp yX9_givenUp ∈ gtbl := (in_g 1211 (by decide +kernel) rfl)
abbrev mX9_begin : AM := (yX9_begin, cX9_begin, 1, none, [], false)
theorem mo_X9_begin : MOK mX9_begin 0 := ⟨(in_g 1216 (by decide +kernel) rfl), (in_g 51 (by decide +kernel) rfl), ⟨by decide +kernel, by decide +kernel⟩, by decide +kernel, by decide, by decide +kernel, fun h => by first | rfl | cases h⟩
theorem iv_X9_begin : Cond.instanceMethod yX9_begin ∈ gtbl := (in_g 1215 (by decide +kernel) rfl)
theorem se_X9_begin : Cond.selects yX9_begin.cls yX9_begin yX9_begin ∈ gtbl := (in_g 32 (by decide +kernel) rfl)
abbrev mX9_bestSize : AM := (yX9_bestSize, cX9_bestSize, 5, some (.int), [], false)
theorem mo_X9_bestSize : MOK mX9_bestSize 0 := ⟨(in_g 1220 (by decide +kernel) rfl), (in_g 51 (by decide +kernel) rfl), ⟨by decide +kernel, by decide +kernel⟩, by decide +kernel, by decide, by decide +kernel, fun h => by first | rfl | cases h⟩
theorem iv_X9_bestSize : Cond.instanceMethod yX9_bestSize ∈ gtbl := (in_g 1218 (by decide +kernel) rfl)
theorem se_X9_bestSize : Cond.selects yX9_bestSize.cls yX9_bestSize yX9_bestSize ∈ gtbl := (in_g 1219 (by decide +kernel) rfl)
abbrev mX9_needs : AM := (yX9_needs, cX9_needs, 3, some (.int), [], false)
theorem mo_X9_needs : MOK mX9_needs 1 := ⟨(in_g 1224 (by decide +kernel) rfl), (in_g 51 (by decide +kernel) rfl), ⟨by decide +kernel, by decide +kernel⟩, by decide +kernel, by decide, by decide +kernel, fun h => by first | rfl | cases h⟩
theorem iv_X9_needs : Cond.instanceMethod yX9_needs ∈ gtbl := (in_g 1223 (by decide +kernel) rfl)
theorem se_X9_needs : Cond.selects yX9_needs.cls yX9_needs yX9_needs ∈ gtbl := (in_g 33 (by decide +kernel) rfl)
abbrev mX9_more : AM := (yX9_more, cX9_more, 5, some (.int), [], false)
theorem mo_X9_more : MOK mX9_more 2 := ⟨(in_g 1228 (by decide +kernel) rfl), (in_g 51 (by decide +kernel) rfl), ⟨by decide +kernel, by decide +kernel⟩, by decide +kernel, by decide, by decide +kernel, fun h => by first | rfl | cases h⟩
theorem iv_X9_more : Cond.instanceMethod yX9_more ∈ gtbl := (in_g 1226 (by decide +kernel) rfl)
theorem se_X9_more : Cond.selects yX9_more.cls yX9_more yX9_more ∈ gtbl := (in_g 1227 (by decide +kernel) rfl)
abbrev mX9_runScript : AM := (yX9_runScript, cX9_runScript, 6, some (.int), [], false)
theorem mo_X9_runScript : MOK mX9_runScript 2 := ⟨(in_g 1232 (by decide +kernel) rfl), (in_g 51 (by decide +kernel) rfl), ⟨by decide +kernel, by decide +kernel⟩, by decide +kernel, by decide, by decide +kernel, fun h => by first | rfl | cases h⟩
theorem iv_X9_runScript : Cond.instanceMethod yX9_runScript ∈ gtbl := (in_g 1230 (by decide +kernel) rfl)
theorem se_X9_runScript : Cond.selects yX9_runScript.cls yX9_runScript yX9_runScript ∈ gtbl := (in_g 1231 (by decide +kernel) rfl)
abbrev mX9_tenTo : AM := (yX9_tenTo, cX9_tenTo, 4, some (.long), [], false)
theorem mo_X9_tenTo : MOK mX9_tenTo 1 := ⟨(in_g 1236 (by decide +kernel) rfl), (in_g 51 (by decide +kernel) rfl), ⟨by decide +kernel, by decide +kernel⟩, by decide +kernel, by decide, by decide +kernel, fun h => by first | rfl | cases h⟩
theorem st_X9_tenTo : Cond.static yX9_tenTo ∈ gtbl := (in_g 1235 (by decide +kernel) rfl)
abbrev mX9_does : AM := (yX9_does, cX9_does, 7, some (.boolean), [], false)
theorem mo_X9_does : MOK mX9_does 1 := ⟨(in_g 1242 (by decide +kernel) rfl), (in_g 51 (by decide +kernel) rfl), ⟨by decide +kernel, by decide +kernel⟩, by decide +kernel, by decide, by decide +kernel, fun h => by first | rfl | cases h⟩
theorem iv_X9_does : Cond.instanceMethod yX9_does ∈ gtbl := (in_g 1241 (by decide +kernel) rfl)
theorem se_X9_does : Cond.selects yX9_does.cls yX9_does yX9_does ∈ gtbl := (in_g 34 (by decide +kernel) rfl)
abbrev mX9_pitches : AM := (yX9_pitches, cX9_pitches, 3, some (.boolean), [], false)
theorem mo_X9_pitches : MOK mX9_pitches 2 := ⟨(in_g 1246 (by decide +kernel) rfl), (in_g 51 (by decide +kernel) rfl), ⟨by decide +kernel, by decide +kernel⟩, by decide +kernel, by decide, by decide +kernel, fun h => by first | rfl | cases h⟩
theorem iv_X9_pitches : Cond.instanceMethod yX9_pitches ∈ gtbl := (in_g 1245 (by decide +kernel) rfl)
theorem se_X9_pitches : Cond.selects yX9_pitches.cls yX9_pitches yX9_pitches ∈ gtbl := (in_g 35 (by decide +kernel) rfl)
abbrev mX9_enters : AM := (yX9_enters, cX9_enters, 1, some (.boolean), [], false)
theorem mo_X9_enters : MOK mX9_enters 0 := ⟨(in_g 1250 (by decide +kernel) rfl), (in_g 51 (by decide +kernel) rfl), ⟨by decide +kernel, by decide +kernel⟩, by decide +kernel, by decide, by decide +kernel, fun h => by first | rfl | cases h⟩
theorem iv_X9_enters : Cond.instanceMethod yX9_enters ∈ gtbl := (in_g 1249 (by decide +kernel) rfl)
theorem se_X9_enters : Cond.selects yX9_enters.cls yX9_enters yX9_enters ∈ gtbl := (in_g 36 (by decide +kernel) rfl)
abbrev mX9_leaves : AM := (yX9_leaves, cX9_leaves, 1, some (.boolean), [], false)
theorem mo_X9_leaves : MOK mX9_leaves 0 := ⟨(in_g 1254 (by decide +kernel) rfl), (in_g 51 (by decide +kernel) rfl), ⟨by decide +kernel, by decide +kernel⟩, by decide +kernel, by decide, by decide +kernel, fun h => by first | rfl | cases h⟩
theorem iv_X9_leaves : Cond.instanceMethod yX9_leaves ∈ gtbl := (in_g 1253 (by decide +kernel) rfl)
theorem se_X9_leaves : Cond.selects yX9_leaves.cls yX9_leaves yX9_leaves ∈ gtbl := (in_g 37 (by decide +kernel) rfl)
abbrev mX9_jumps : AM := (yX9_jumps, cX9_jumps, 2, some (.boolean), [], false)
theorem mo_X9_jumps : MOK mX9_jumps 1 := ⟨(in_g 1258 (by decide +kernel) rfl), (in_g 51 (by decide +kernel) rfl), ⟨by decide +kernel, by decide +kernel⟩, by decide +kernel, by decide, by decide +kernel, fun h => by first | rfl | cases h⟩
theorem iv_X9_jumps : Cond.instanceMethod yX9_jumps ∈ gtbl := (in_g 1257 (by decide +kernel) rfl)
theorem se_X9_jumps : Cond.selects yX9_jumps.cls yX9_jumps yX9_jumps ∈ gtbl := (in_g 38 (by decide +kernel) rfl)
abbrev mX9_simulate : AM := (yX9_simulate, cX9_simulate, 7, some (.int), [], false)
theorem mo_X9_simulate : MOK mX9_simulate 2 := ⟨(in_g 1262 (by decide +kernel) rfl), (in_g 51 (by decide +kernel) rfl), ⟨by decide +kernel, by decide +kernel⟩, by decide +kernel, by decide, by decide +kernel, fun h => by first | rfl | cases h⟩
theorem iv_X9_simulate : Cond.instanceMethod yX9_simulate ∈ gtbl := (in_g 1260 (by decide +kernel) rfl)
theorem se_X9_simulate : Cond.selects yX9_simulate.cls yX9_simulate yX9_simulate ∈ gtbl := (in_g 1261 (by decide +kernel) rfl)
abbrev mX9_stir : AM := (yX9_stir, cX9_stir, 2, none, [], false)
theorem mo_X9_stir : MOK mX9_stir 1 := ⟨(in_g 1268 (by decide +kernel) rfl), (in_g 51 (by decide +kernel) rfl), ⟨by decide +kernel, by decide +kernel⟩, by decide +kernel, by decide, by decide +kernel, fun h => by first | rfl | cases h⟩
theorem iv_X9_stir : Cond.instanceMethod yX9_stir ∈ gtbl := (in_g 1267 (by decide +kernel) rfl)
theorem se_X9_stir : Cond.selects yX9_stir.cls yX9_stir yX9_stir ∈ gtbl := (in_g 39 (by decide +kernel) rfl)
abbrev mX9_save : AM := (yX9_save, cX9_save, 2, some (.int), [], false)
theorem mo_X9_save : MOK mX9_save 1 := ⟨(in_g 1272 (by decide +kernel) rfl), (in_g 51 (by decide +kernel) rfl), ⟨by decide +kernel, by decide +kernel⟩, by decide +kernel, by decide, by decide +kernel, fun h => by first | rfl | cases h⟩
theorem iv_X9_save : Cond.instanceMethod yX9_save ∈ gtbl := (in_g 1270 (by decide +kernel) rfl)
theorem se_X9_save : Cond.selects yX9_save.cls yX9_save yX9_save ∈ gtbl := (in_g 1271 (by decide +kernel) rfl)
abbrev mX9_restore : AM := (yX9_restore, cX9_restore, 2, some (.int), [], false)
theorem mo_X9_restore : MOK mX9_restore 1 := ⟨(in_g 1276 (by decide +kernel) rfl), (in_g 51 (by decide +kernel) rfl), ⟨by decide +kernel, by decide +kernel⟩, by decide +kernel, by decide, by decide +kernel, fun h => by first | rfl | cases h⟩
theorem iv_X9_restore : Cond.instanceMethod yX9_restore ∈ gtbl := (in_g 1274 (by decide +kernel) rfl)
theorem se_X9_restore : Cond.selects yX9_restore.cls yX9_restore yX9_restore ∈ gtbl := (in_g 1275 (by decide +kernel) rfl)
abbrev mL_law : AM := (yL_law, cL_law, 7, some (.boolean), [], false)
theorem lk_L_86 : LK RL 86 yX8_init := Or.inl (in_g 61 (by decide +kernel) rfl)
theorem lg_L_86 : Cond.methodLink RL 86 yX8_init ∈ gtbl := (in_g 61 (by decide +kernel) rfl)
theorem lk_X8_9 : LK RX8 9 yX0_init := Or.inr ⟨"TentCamp", List.mem_of_getElem? (i := 69) (by decide +kernel)⟩
theorem lk_X0_23 : LK RX0 23 yX4_init := Or.inr ⟨"TentCamp", List.mem_of_getElem? (i := 75) (by decide +kernel)⟩
theorem lk_X0_32 : LK RX0 32 yX6_init := Or.inr ⟨"TentCamp", List.mem_of_getElem? (i := 89) (by decide +kernel)⟩
theorem lk_X6_11 : LK RX6 11 yX4_init := Or.inr ⟨"TentCamp", List.mem_of_getElem? (i := 94) (by decide +kernel)⟩
theorem lk_X0_39 : LK RX0 39 yX2_init := Or.inr ⟨"TentCamp", List.mem_of_getElem? (i := 123) (by decide +kernel)⟩
theorem lk_X2_11 : LK RX2 11 yX4_init := Or.inr ⟨"TentCamp", List.mem_of_getElem? (i := 128) (by decide +kernel)⟩
theorem lk_X0_46 : LK RX0 46 yX1_init := Or.inr ⟨"TentCamp", List.mem_of_getElem? (i := 147) (by decide +kernel)⟩
theorem lk_X1_11 : LK RX1 11 yX4_init := Or.inr ⟨"TentCamp", List.mem_of_getElem? (i := 152) (by decide +kernel)⟩
theorem lk_X8_21 : LK RX8 21 yX3_init := Or.inr ⟨"TentCamp", List.mem_of_getElem? (i := 230) (by decide +kernel)⟩
theorem lk_X3_11 : LK RX3 11 yX5_init := Or.inr ⟨"TentCamp", List.mem_of_getElem? (i := 236) (by decide +kernel)⟩
theorem lk_X5_21 : LK RX5 21 yX0_init := Or.inr ⟨"TentCamp", List.mem_of_getElem? (i := 243) (by decide +kernel)⟩
theorem lk_X8_28 : LK RX8 28 yX7_init := Or.inr ⟨"TentCamp", List.mem_of_getElem? (i := 261) (by decide +kernel)⟩
theorem lk_X7_11 : LK RX7 11 yX4_init := Or.inr ⟨"TentCamp", List.mem_of_getElem? (i := 266) (by decide +kernel)⟩
theorem lk_X8_35 : LK RX8 35 yX5_init := Or.inr ⟨"TentCamp", List.mem_of_getElem? (i := 294) (by decide +kernel)⟩
theorem lk_X8_44 : LK RX8 44 yX4_init := Or.inr ⟨"TentCamp", List.mem_of_getElem? (i := 296) (by decide +kernel)⟩
theorem lk_L_99 : LK RL 99 yX8_clearText := Or.inl (in_g 316 (by decide +kernel) rfl)
theorem lg_L_99 : Cond.methodLink RL 99 yX8_clearText ∈ gtbl := (in_g 316 (by decide +kernel) rfl)
theorem lk_L_103 : LK RL 103 yX8_errorPosition := Or.inl (in_g 320 (by decide +kernel) rfl)
theorem lg_L_103 : Cond.methodLink RL 103 yX8_errorPosition ∈ gtbl := (in_g 320 (by decide +kernel) rfl)
theorem lk_X8_68 : LK RX8 68 yX7_faultPosition := Or.inl (in_g 324 (by decide +kernel) rfl)
theorem lg_X8_68 : Cond.methodLink RX8 68 yX7_faultPosition ∈ gtbl := (in_g 324 (by decide +kernel) rfl)
theorem lk_X7_28 : LK RX7 28 yX7_readHead := Or.inl (in_g 328 (by decide +kernel) rfl)
theorem lg_X7_28 : Cond.methodLink RX7 28 yX7_readHead ∈ gtbl := (in_g 328 (by decide +kernel) rfl)
theorem lk_X7_45 : LK RX7 45 yX7_readLetter := Or.inl (in_g 332 (by decide +kernel) rfl)
theorem lg_X7_45 : Cond.methodLink RX7 45 yX7_readLetter ∈ gtbl := (in_g 332 (by decide +kernel) rfl)
theorem lk_X7_31 : LK RX7 31 yX7_goesOn := Or.inl (in_g 336 (by decide +kernel) rfl)
theorem lg_X7_31 : Cond.methodLink RX7 31 yX7_goesOn ∈ gtbl := (in_g 336 (by decide +kernel) rfl)
theorem lk_X7_68 : LK RX7 68 yX4_get := Or.inl (in_g 340 (by decide +kernel) rfl)
theorem lg_X7_68 : Cond.methodLink RX7 68 yX4_get ∈ gtbl := (in_g 340 (by decide +kernel) rfl)
theorem lk_X7_52 : LK RX7 52 yX7_failAt := Or.inl (in_g 344 (by decide +kernel) rfl)
theorem lg_X7_52 : Cond.methodLink RX7 52 yX7_failAt ∈ gtbl := (in_g 344 (by decide +kernel) rfl)
theorem lk_X7_55 : LK RX7 55 yX7_readNumber := Or.inl (in_g 348 (by decide +kernel) rfl)
theorem lg_X7_55 : Cond.methodLink RX7 55 yX7_readNumber ∈ gtbl := (in_g 348 (by decide +kernel) rfl)
theorem lk_X7_72 : LK RX7 72 yX7_digitHere := Or.inl (in_g 352 (by decide +kernel) rfl)
theorem lg_X7_72 : Cond.methodLink RX7 72 yX7_digitHere ∈ gtbl := (in_g 352 (by decide +kernel) rfl)
theorem lk_X7_35 : LK RX7 35 yX7_readCommand := Or.inl (in_g 356 (by decide +kernel) rfl)
theorem lg_X7_35 : Cond.methodLink RX7 35 yX7_readCommand ∈ gtbl := (in_g 356 (by decide +kernel) rfl)
theorem lk_X7_65 : LK RX7 65 yX7_readStep := Or.inl (in_g 360 (by decide +kernel) rfl)
theorem lg_X7_65 : Cond.methodLink RX7 65 yX7_readStep ∈ gtbl := (in_g 360 (by decide +kernel) rfl)
theorem lk_X7_75 : LK RX7 75 yX8_isStep := Or.inr ⟨"TentCamp", List.mem_of_getElem? (i := 364) (by decide +kernel)⟩
theorem lk_L_157 : LK RL 157 yX8_bestSize := Or.inl (in_g 367 (by decide +kernel) rfl)
theorem lg_L_157 : Cond.methodLink RL 157 yX8_bestSize ∈ gtbl := (in_g 367 (by decide +kernel) rfl)
theorem lk_X8_90 : LK RX8 90 yX0_beginAnew := Or.inl (in_g 371 (by decide +kernel) rfl)
theorem lg_X8_90 : Cond.methodLink RX8 90 yX0_beginAnew ∈ gtbl := (in_g 371 (by decide +kernel) rfl)
theorem lk_X8_283 : LK RX8 283 yX0_putUpAll := Or.inl (in_g 375 (by decide +kernel) rfl)
theorem lg_X8_283 : Cond.methodLink RX8 283 yX0_putUpAll ∈ gtbl := (in_g 375 (by decide +kernel) rfl)
theorem lk_X0_91 : LK RX0 91 yX4_get := Or.inl (in_g 379 (by decide +kernel) rfl)
theorem lg_X0_91 : Cond.methodLink RX0 91 yX4_get ∈ gtbl := (in_g 379 (by decide +kernel) rfl)
theorem lk_X0_154 : LK RX0 154 yX0_putUp := Or.inl (in_g 380 (by decide +kernel) rfl)
theorem lg_X0_154 : Cond.methodLink RX0 154 yX0_putUp ∈ gtbl := (in_g 380 (by decide +kernel) rfl)
theorem lk_X0_133 : LK RX0 133 yX0_takeSite := Or.inl (in_g 384 (by decide +kernel) rfl)
theorem lg_X0_133 : Cond.methodLink RX0 133 yX0_takeSite ∈ gtbl := (in_g 384 (by decide +kernel) rfl)
theorem lk_X0_112 : LK RX0 112 yX0_siteFor := Or.inl (in_g 388 (by decide +kernel) rfl)
theorem lg_X0_112 : Cond.methodLink RX0 112 yX0_siteFor ∈ gtbl := (in_g 388 (by decide +kernel) rfl)
theorem lk_X0_95 : LK RX0 95 yX1_lastUsual := Or.inl (in_g 392 (by decide +kernel) rfl)
theorem lg_X0_95 : Cond.methodLink RX0 95 yX1_lastUsual ∈ gtbl := (in_g 392 (by decide +kernel) rfl)
theorem lk_X1_44 : LK RX1 44 yX4_get := Or.inl (in_g 396 (by decide +kernel) rfl)
theorem lg_X1_44 : Cond.methodLink RX1 44 yX4_get ∈ gtbl := (in_g 396 (by decide +kernel) rfl)
theorem lk_X0_99 : LK RX0 99 yX0_openPlace := Or.inl (in_g 397 (by decide +kernel) rfl)
theorem lg_X0_99 : Cond.methodLink RX0 99 yX0_openPlace ∈ gtbl := (in_g 397 (by decide +kernel) rfl)
theorem lk_X0_106 : LK RX0 106 yX1_smallestFor := Or.inl (in_g 401 (by decide +kernel) rfl)
theorem lg_X0_106 : Cond.methodLink RX0 106 yX1_smallestFor ∈ gtbl := (in_g 401 (by decide +kernel) rfl)
theorem lk_X0_109 : LK RX0 109 yX0_newFieldSize := Or.inl (in_g 405 (by decide +kernel) rfl)
theorem lg_X0_109 : Cond.methodLink RX0 109 yX0_newFieldSize ∈ gtbl := (in_g 405 (by decide +kernel) rfl)
theorem lk_X0_84 : LK RX0 84 yX0_wantsBig := Or.inl (in_g 409 (by decide +kernel) rfl)
theorem lg_X0_84 : Cond.methodLink RX0 84 yX0_wantsBig ∈ gtbl := (in_g 409 (by decide +kernel) rfl)
theorem lk_X0_115 : LK RX0 115 yX4_put := Or.inl (in_g 413 (by decide +kernel) rfl)
theorem lg_X0_115 : Cond.methodLink RX0 115 yX4_put ∈ gtbl := (in_g 413 (by decide +kernel) rfl)
theorem lk_X0_122 : LK RX0 122 yX1_add := Or.inl (in_g 417 (by decide +kernel) rfl)
theorem lg_X0_122 : Cond.methodLink RX0 122 yX1_add ∈ gtbl := (in_g 417 (by decide +kernel) rfl)
theorem lk_X1_33 : LK RX1 33 yX4_put := Or.inl (in_g 421 (by decide +kernel) rfl)
theorem lg_X1_33 : Cond.methodLink RX1 33 yX4_put ∈ gtbl := (in_g 421 (by decide +kernel) rfl)
theorem lk_X0_126 : LK RX0 126 yX1_remove := Or.inl (in_g 422 (by decide +kernel) rfl)
theorem lg_X0_126 : Cond.methodLink RX0 126 yX1_remove ∈ gtbl := (in_g 422 (by decide +kernel) rfl)
theorem lk_X1_37 : LK RX1 37 yX1_has := Or.inl (in_g 426 (by decide +kernel) rfl)
theorem lg_X1_37 : Cond.methodLink RX1 37 yX1_has ∈ gtbl := (in_g 426 (by decide +kernel) rfl)
theorem lk_X1_41 : LK RX1 41 yX4_cut := Or.inl (in_g 430 (by decide +kernel) rfl)
theorem lg_X1_41 : Cond.methodLink RX1 41 yX4_cut ∈ gtbl := (in_g 430 (by decide +kernel) rfl)
theorem lk_X0_129 : LK RX0 129 yX4_strew := Or.inl (in_g 434 (by decide +kernel) rfl)
theorem lg_X0_129 : Cond.methodLink RX0 129 yX4_strew ∈ gtbl := (in_g 434 (by decide +kernel) rfl)
theorem lk_X0_146 : LK RX0 146 yX6_placesFrom := Or.inl (in_g 441 (by decide +kernel) rfl)
theorem lg_X0_146 : Cond.methodLink RX0 146 yX6_placesFrom ∈ gtbl := (in_g 441 (by decide +kernel) rfl)
theorem lk_X6_33 : LK RX6 33 yX4_get := Or.inl (in_g 445 (by decide +kernel) rfl)
theorem lg_X6_33 : Cond.methodLink RX6 33 yX4_get ∈ gtbl := (in_g 445 (by decide +kernel) rfl)
theorem lk_L_90 : LK RL 90 yL_append := Or.inl (in_g 447 (by decide +kernel) rfl)
theorem lg_L_90 : Cond.methodLink RL 90 yL_append ∈ gtbl := (in_g 447 (by decide +kernel) rfl)
theorem lk_L_7 : LK RL 7 yX8_append := Or.inl (in_g 452 (by decide +kernel) rfl)
theorem lg_L_7 : Cond.methodLink RL 7 yX8_append ∈ gtbl := (in_g 452 (by decide +kernel) rfl)
theorem lk_X8_65 : LK RX8 65 yX7_add := Or.inl (in_g 540 (by decide +kernel) rfl)
theorem lg_X8_65 : Cond.methodLink RX8 65 yX7_add ∈ gtbl := (in_g 540 (by decide +kernel) rfl)
theorem lk_X7_24 : LK RX7 24 yX4_put := Or.inl (in_g 544 (by decide +kernel) rfl)
theorem lg_X7_24 : Cond.methodLink RX7 24 yX4_put ∈ gtbl := (in_g 544 (by decide +kernel) rfl)
theorem lk_L_107 : LK RL 107 yL_load := Or.inl (in_g 545 (by decide +kernel) rfl)
theorem lg_L_107 : Cond.methodLink RL 107 yL_load ∈ gtbl := (in_g 545 (by decide +kernel) rfl)
theorem lk_L_17 : LK RL 17 yX8_load := Or.inl (in_g 548 (by decide +kernel) rfl)
theorem lg_L_17 : Cond.methodLink RL 17 yX8_load ∈ gtbl := (in_g 548 (by decide +kernel) rfl)
theorem lk_X8_74 : LK RX8 74 yX3_forgetAll := Or.inl (in_g 553 (by decide +kernel) rfl)
theorem lg_X8_74 : Cond.methodLink RX8 74 yX3_forgetAll ∈ gtbl := (in_g 553 (by decide +kernel) rfl)
theorem lk_X8_77 : LK RX8 77 yX4_strew := Or.inl (in_g 557 (by decide +kernel) rfl)
theorem lg_X8_77 : Cond.methodLink RX8 77 yX4_strew ∈ gtbl := (in_g 557 (by decide +kernel) rfl)
theorem lk_X8_81 : LK RX8 81 yX7_readHead := Or.inl (in_g 558 (by decide +kernel) rfl)
theorem lg_X8_81 : Cond.methodLink RX8 81 yX7_readHead ∈ gtbl := (in_g 558 (by decide +kernel) rfl)
theorem lk_X8_94 : LK RX8 94 yX7_goesOn := Or.inl (in_g 559 (by decide +kernel) rfl)
theorem lg_X8_94 : Cond.methodLink RX8 94 yX7_goesOn ∈ gtbl := (in_g 559 (by decide +kernel) rfl)
theorem lk_X8_98 : LK RX8 98 yX7_readCommand := Or.inl (in_g 560 (by decide +kernel) rfl)
theorem lg_X8_98 : Cond.methodLink RX8 98 yX7_readCommand ∈ gtbl := (in_g 560 (by decide +kernel) rfl)
theorem lk_X8_101 : LK RX8 101 yX8_carryOut := Or.inl (in_g 561 (by decide +kernel) rfl)
theorem lg_X8_101 : Cond.methodLink RX8 101 yX8_carryOut ∈ gtbl := (in_g 561 (by decide +kernel) rfl)
theorem lk_X8_245 : LK RX8 245 yX0_putUp := Or.inl (in_g 564 (by decide +kernel) rfl)
theorem lg_X8_245 : Cond.methodLink RX8 245 yX0_putUp ∈ gtbl := (in_g 564 (by decide +kernel) rfl)
theorem lk_X8_255 : LK RX8 255 yX0_goIn := Or.inl (in_g 565 (by decide +kernel) rfl)
theorem lg_X8_255 : Cond.methodLink RX8 255 yX0_goIn ∈ gtbl := (in_g 565 (by decide +kernel) rfl)
theorem lk_X8_260 : LK RX8 260 yX0_goOut := Or.inl (in_g 569 (by decide +kernel) rfl)
theorem lg_X8_260 : Cond.methodLink RX8 260 yX0_goOut ∈ gtbl := (in_g 569 (by decide +kernel) rfl)
theorem lk_X0_171 : LK RX0 171 yX0_goBack := Or.inl (in_g 573 (by decide +kernel) rfl)
theorem lg_X0_171 : Cond.methodLink RX0 171 yX0_goBack ∈ gtbl := (in_g 573 (by decide +kernel) rfl)
theorem lk_X0_174 : LK RX0 174 yX2_has := Or.inl (in_g 577 (by decide +kernel) rfl)
theorem lg_X0_174 : Cond.methodLink RX0 174 yX2_has ∈ gtbl := (in_g 577 (by decide +kernel) rfl)
theorem lk_X0_175 : LK RX0 175 yX0_strikeTents := Or.inl (in_g 581 (by decide +kernel) rfl)
theorem lg_X0_175 : Cond.methodLink RX0 175 yX0_strikeTents ∈ gtbl := (in_g 581 (by decide +kernel) rfl)
theorem lk_X0_184 : LK RX0 184 yX0_strewTent := Or.inl (in_g 585 (by decide +kernel) rfl)
theorem lg_X0_184 : Cond.methodLink RX0 184 yX0_strewTent ∈ gtbl := (in_g 585 (by decide +kernel) rfl)
theorem lk_X0_157 : LK RX0 157 yX6_has := Or.inl (in_g 589 (by decide +kernel) rfl)
theorem lg_X0_157 : Cond.methodLink RX0 157 yX6_has ∈ gtbl := (in_g 589 (by decide +kernel) rfl)
theorem lk_X0_160 : LK RX0 160 yX6_end := Or.inl (in_g 593 (by decide +kernel) rfl)
theorem lg_X0_160 : Cond.methodLink RX0 160 yX6_end ∈ gtbl := (in_g 593 (by decide +kernel) rfl)
theorem lk_X0_162 : LK RX0 162 yX4_countOf := Or.inl (in_g 597 (by decide +kernel) rfl)
theorem lg_X0_162 : Cond.methodLink RX0 162 yX4_countOf ∈ gtbl := (in_g 597 (by decide +kernel) rfl)
theorem lk_X0_178 : LK RX0 178 yX0_clearFields := Or.inl (in_g 601 (by decide +kernel) rfl)
theorem lg_X0_178 : Cond.methodLink RX0 178 yX0_clearFields ∈ gtbl := (in_g 601 (by decide +kernel) rfl)
theorem lk_X0_181 : LK RX0 181 yX0_giveUpTooMuch := Or.inl (in_g 605 (by decide +kernel) rfl)
theorem lg_X0_181 : Cond.methodLink RX0 181 yX0_giveUpTooMuch ∈ gtbl := (in_g 605 (by decide +kernel) rfl)
theorem lk_X0_187 : LK RX0 187 yX1_places := Or.inl (in_g 609 (by decide +kernel) rfl)
theorem lg_X0_187 : Cond.methodLink RX0 187 yX1_places ∈ gtbl := (in_g 609 (by decide +kernel) rfl)
theorem lk_X0_190 : LK RX0 190 yX1_greatest := Or.inl (in_g 613 (by decide +kernel) rfl)
theorem lg_X0_190 : Cond.methodLink RX0 190 yX1_greatest ∈ gtbl := (in_g 613 (by decide +kernel) rfl)
theorem lk_X0_193 : LK RX0 193 yX4_cut := Or.inl (in_g 617 (by decide +kernel) rfl)
theorem lg_X0_193 : Cond.methodLink RX0 193 yX4_cut ∈ gtbl := (in_g 617 (by decide +kernel) rfl)
theorem lk_X0_196 : LK RX0 196 yX1_closeUp := Or.inl (in_g 618 (by decide +kernel) rfl)
theorem lg_X0_196 : Cond.methodLink RX0 196 yX1_closeUp ∈ gtbl := (in_g 618 (by decide +kernel) rfl)
theorem lk_X8_263 : LK RX8 263 yX0_goBack := Or.inl (in_g 622 (by decide +kernel) rfl)
theorem lg_X8_263 : Cond.methodLink RX8 263 yX0_goBack ∈ gtbl := (in_g 622 (by decide +kernel) rfl)
theorem lk_X8_250 : LK RX8 250 yX0_strewTent := Or.inl (in_g 623 (by decide +kernel) rfl)
theorem lg_X8_250 : Cond.methodLink RX8 250 yX0_strewTent ∈ gtbl := (in_g 623 (by decide +kernel) rfl)
theorem lk_L_111 : LK RL 111 yL_about := Or.inl (in_g 624 (by decide +kernel) rfl)
theorem lg_L_111 : Cond.methodLink RL 111 yL_about ∈ gtbl := (in_g 624 (by decide +kernel) rfl)
theorem lk_L_21 : LK RL 21 yX8_about := Or.inl (in_g 627 (by decide +kernel) rfl)
theorem lg_L_21 : Cond.methodLink RL 21 yX8_about ∈ gtbl := (in_g 627 (by decide +kernel) rfl)
theorem lk_X8_131 : LK RX8 131 yX6_placesFrom := Or.inl (in_g 631 (by decide +kernel) rfl)
theorem lg_X8_131 : Cond.methodLink RX8 131 yX6_placesFrom ∈ gtbl := (in_g 631 (by decide +kernel) rfl)
theorem lk_X8_135 : LK RX8 135 yX1_places := Or.inl (in_g 632 (by decide +kernel) rfl)
theorem lg_X8_135 : Cond.methodLink RX8 135 yX1_places ∈ gtbl := (in_g 632 (by decide +kernel) rfl)
theorem lk_X8_138 : LK RX8 138 yX0_gaps := Or.inl (in_g 633 (by decide +kernel) rfl)
theorem lg_X8_138 : Cond.methodLink RX8 138 yX0_gaps ∈ gtbl := (in_g 633 (by decide +kernel) rfl)
theorem lk_L_114 : LK RL 114 yL_tent := Or.inl (in_g 638 (by decide +kernel) rfl)
theorem lg_L_114 : Cond.methodLink RL 114 yL_tent ∈ gtbl := (in_g 638 (by decide +kernel) rfl)
theorem lk_L_24 : LK RL 24 yX8_tent := Or.inl (in_g 642 (by decide +kernel) rfl)
theorem lg_L_24 : Cond.methodLink RL 24 yX8_tent ∈ gtbl := (in_g 642 (by decide +kernel) rfl)
theorem lk_X8_161 : LK RX8 161 yX6_has := Or.inl (in_g 646 (by decide +kernel) rfl)
theorem lg_X8_161 : Cond.methodLink RX8 161 yX6_has ∈ gtbl := (in_g 646 (by decide +kernel) rfl)
theorem lk_X8_173 : LK RX8 173 yX4_get := Or.inl (in_g 663 (by decide +kernel) rfl)
theorem lg_X8_173 : Cond.methodLink RX8 173 yX4_get ∈ gtbl := (in_g 663 (by decide +kernel) rfl)
theorem lk_X8_184 : LK RX8 184 yX2_lastAheadOf := Or.inl (in_g 664 (by decide +kernel) rfl)
theorem lg_X8_184 : Cond.methodLink RX8 184 yX2_lastAheadOf ∈ gtbl := (in_g 664 (by decide +kernel) rfl)
theorem lk_X2_27 : LK RX2 27 yX4_get := Or.inl (in_g 668 (by decide +kernel) rfl)
theorem lg_X2_27 : Cond.methodLink RX2 27 yX4_get ∈ gtbl := (in_g 668 (by decide +kernel) rfl)
theorem lk_L_118 : LK RL 118 yL_field := Or.inl (in_g 670 (by decide +kernel) rfl)
theorem lg_L_118 : Cond.methodLink RL 118 yL_field ∈ gtbl := (in_g 670 (by decide +kernel) rfl)
theorem lk_L_30 : LK RL 30 yX8_field := Or.inl (in_g 673 (by decide +kernel) rfl)
theorem lg_L_30 : Cond.methodLink RL 30 yX8_field ∈ gtbl := (in_g 673 (by decide +kernel) rfl)
theorem lk_X8_189 : LK RX8 189 yX1_has := Or.inl (in_g 677 (by decide +kernel) rfl)
theorem lg_X8_189 : Cond.methodLink RX8 189 yX1_has ∈ gtbl := (in_g 677 (by decide +kernel) rfl)
theorem lk_X8_199 : LK RX8 199 yX6_countOn := Or.inl (in_g 679 (by decide +kernel) rfl)
theorem lg_X8_199 : Cond.methodLink RX8 199 yX6_countOn ∈ gtbl := (in_g 679 (by decide +kernel) rfl)
theorem lk_X6_37 : LK RX6 37 yX4_countOf := Or.inl (in_g 683 (by decide +kernel) rfl)
theorem lg_X6_37 : Cond.methodLink RX6 37 yX4_countOf ∈ gtbl := (in_g 683 (by decide +kernel) rfl)
theorem lk_X8_208 : LK RX8 208 yX4_countOf := Or.inl (in_g 684 (by decide +kernel) rfl)
theorem lg_X8_208 : Cond.methodLink RX8 208 yX4_countOf ∈ gtbl := (in_g 684 (by decide +kernel) rfl)
theorem lk_L_121 : LK RL 121 yL_place := Or.inl (in_g 685 (by decide +kernel) rfl)
theorem lg_L_121 : Cond.methodLink RL 121 yL_place ∈ gtbl := (in_g 685 (by decide +kernel) rfl)
theorem lk_L_33 : LK RL 33 yX8_place := Or.inl (in_g 688 (by decide +kernel) rfl)
theorem lg_L_33 : Cond.methodLink RL 33 yX8_place ∈ gtbl := (in_g 688 (by decide +kernel) rfl)
theorem lk_L_124 : LK RL 124 yL_spare := Or.inl (in_g 693 (by decide +kernel) rfl)
theorem lg_L_124 : Cond.methodLink RL 124 yL_spare ∈ gtbl := (in_g 693 (by decide +kernel) rfl)
theorem lk_L_36 : LK RL 36 yX8_spare := Or.inl (in_g 696 (by decide +kernel) rfl)
theorem lg_L_36 : Cond.methodLink RL 36 yX8_spare ∈ gtbl := (in_g 696 (by decide +kernel) rfl)
theorem lk_X8_216 : LK RX8 216 yX1_withRank := Or.inl (in_g 701 (by decide +kernel) rfl)
theorem lg_X8_216 : Cond.methodLink RX8 216 yX1_withRank ∈ gtbl := (in_g 701 (by decide +kernel) rfl)
theorem lk_X1_48 : LK RX1 48 yX1_countAheadOf := Or.inl (in_g 705 (by decide +kernel) rfl)
theorem lg_X1_48 : Cond.methodLink RX1 48 yX1_countAheadOf ∈ gtbl := (in_g 705 (by decide +kernel) rfl)
theorem lk_L_127 : LK RL 127 yL_frame := Or.inl (in_g 709 (by decide +kernel) rfl)
theorem lg_L_127 : Cond.methodLink RL 127 yL_frame ∈ gtbl := (in_g 709 (by decide +kernel) rfl)
theorem lk_L_39 : LK RL 39 yX8_frame := Or.inl (in_g 712 (by decide +kernel) rfl)
theorem lg_L_39 : Cond.methodLink RL 39 yX8_frame ∈ gtbl := (in_g 712 (by decide +kernel) rfl)
theorem lk_X8_219 : LK RX8 219 yX2_has := Or.inl (in_g 716 (by decide +kernel) rfl)
theorem lg_X8_219 : Cond.methodLink RX8 219 yX2_has ∈ gtbl := (in_g 716 (by decide +kernel) rfl)
theorem lk_L_130 : LK RL 130 yL_pitch := Or.inl (in_g 719 (by decide +kernel) rfl)
theorem lg_L_130 : Cond.methodLink RL 130 yL_pitch ∈ gtbl := (in_g 719 (by decide +kernel) rfl)
theorem lk_L_42 : LK RL 42 yX8_pitch := Or.inl (in_g 722 (by decide +kernel) rfl)
theorem lg_L_42 : Cond.methodLink RL 42 yX8_pitch ∈ gtbl := (in_g 722 (by decide +kernel) rfl)
theorem lk_X8_229 : LK RX8 229 yX8_isTentKind := Or.inl (in_g 726 (by decide +kernel) rfl)
theorem lg_X8_229 : Cond.methodLink RX8 229 yX8_isTentKind ∈ gtbl := (in_g 726 (by decide +kernel) rfl)
theorem lk_X8_330 : LK RX8 330 yX8_isStep := Or.inl (in_g 729 (by decide +kernel) rfl)
theorem lg_X8_330 : Cond.methodLink RX8 330 yX8_isStep ∈ gtbl := (in_g 729 (by decide +kernel) rfl)
theorem lk_X8_235 : LK RX8 235 yX0_siteFor := Or.inl (in_g 731 (by decide +kernel) rfl)
theorem lg_X8_235 : Cond.methodLink RX8 235 yX0_siteFor ∈ gtbl := (in_g 731 (by decide +kernel) rfl)
theorem lk_X8_241 : LK RX8 241 yX3_remember := Or.inl (in_g 733 (by decide +kernel) rfl)
theorem lg_X8_241 : Cond.methodLink RX8 241 yX3_remember ∈ gtbl := (in_g 733 (by decide +kernel) rfl)
theorem lk_X3_27 : LK RX3 27 yX5_lay := Or.inl (in_g 737 (by decide +kernel) rfl)
theorem lg_X3_27 : Cond.methodLink RX3 27 yX5_lay ∈ gtbl := (in_g 737 (by decide +kernel) rfl)
theorem lk_X5_22 : LK RX5 22 yX5_at := Or.inl (in_g 741 (by decide +kernel) rfl)
theorem lg_X5_22 : Cond.methodLink RX5 22 yX5_at ∈ gtbl := (in_g 741 (by decide +kernel) rfl)
theorem lk_X5_26 : LK RX5 26 yX0_copy := Or.inl (in_g 745 (by decide +kernel) rfl)
theorem lg_X5_26 : Cond.methodLink RX5 26 yX0_copy ∈ gtbl := (in_g 745 (by decide +kernel) rfl)
theorem lk_X0_71 : LK RX0 71 yX4_copy := Or.inl (in_g 749 (by decide +kernel) rfl)
theorem lg_X0_71 : Cond.methodLink RX0 71 yX4_copy ∈ gtbl := (in_g 749 (by decide +kernel) rfl)
theorem lk_X0_75 : LK RX0 75 yX6_copy := Or.inl (in_g 756 (by decide +kernel) rfl)
theorem lg_X0_75 : Cond.methodLink RX0 75 yX6_copy ∈ gtbl := (in_g 756 (by decide +kernel) rfl)
theorem lk_X6_41 : LK RX6 41 yX4_copy := Or.inl (in_g 760 (by decide +kernel) rfl)
theorem lg_X6_41 : Cond.methodLink RX6 41 yX4_copy ∈ gtbl := (in_g 760 (by decide +kernel) rfl)
theorem lk_X0_78 : LK RX0 78 yX2_copy := Or.inl (in_g 761 (by decide +kernel) rfl)
theorem lg_X0_78 : Cond.methodLink RX0 78 yX2_copy ∈ gtbl := (in_g 761 (by decide +kernel) rfl)
theorem lk_X2_31 : LK RX2 31 yX4_copy := Or.inl (in_g 765 (by decide +kernel) rfl)
theorem lg_X2_31 : Cond.methodLink RX2 31 yX4_copy ∈ gtbl := (in_g 765 (by decide +kernel) rfl)
theorem lk_X0_81 : LK RX0 81 yX1_copy := Or.inl (in_g 766 (by decide +kernel) rfl)
theorem lg_X0_81 : Cond.methodLink RX0 81 yX1_copy ∈ gtbl := (in_g 766 (by decide +kernel) rfl)
theorem lk_X1_51 : LK RX1 51 yX4_copy := Or.inl (in_g 770 (by decide +kernel) rfl)
theorem lg_X1_51 : Cond.methodLink RX1 51 yX4_copy ∈ gtbl := (in_g 770 (by decide +kernel) rfl)
theorem lk_L_133 : LK RL 133 yL_fill := Or.inl (in_g 772 (by decide +kernel) rfl)
theorem lg_L_133 : Cond.methodLink RL 133 yL_fill ∈ gtbl := (in_g 772 (by decide +kernel) rfl)
theorem lk_L_45 : LK RL 45 yX8_fill := Or.inl (in_g 775 (by decide +kernel) rfl)
theorem lg_L_45 : Cond.methodLink RL 45 yX8_fill ∈ gtbl := (in_g 775 (by decide +kernel) rfl)
theorem lk_L_136 : LK RL 136 yL_enter := Or.inl (in_g 780 (by decide +kernel) rfl)
theorem lg_L_136 : Cond.methodLink RL 136 yL_enter ∈ gtbl := (in_g 780 (by decide +kernel) rfl)
theorem lk_L_48 : LK RL 48 yX8_enter := Or.inl (in_g 783 (by decide +kernel) rfl)
theorem lg_L_48 : Cond.methodLink RL 48 yX8_enter ∈ gtbl := (in_g 783 (by decide +kernel) rfl)
theorem lk_L_139 : LK RL 139 yL_leave := Or.inl (in_g 788 (by decide +kernel) rfl)
theorem lg_L_139 : Cond.methodLink RL 139 yL_leave ∈ gtbl := (in_g 788 (by decide +kernel) rfl)
theorem lk_L_51 : LK RL 51 yX8_leave := Or.inl (in_g 791 (by decide +kernel) rfl)
theorem lg_L_51 : Cond.methodLink RL 51 yX8_leave ∈ gtbl := (in_g 791 (by decide +kernel) rfl)
theorem lk_L_142 : LK RL 142 yL_jump := Or.inl (in_g 796 (by decide +kernel) rfl)
theorem lg_L_142 : Cond.methodLink RL 142 yL_jump ∈ gtbl := (in_g 796 (by decide +kernel) rfl)
theorem lk_L_54 : LK RL 54 yX8_jump := Or.inl (in_g 799 (by decide +kernel) rfl)
theorem lg_L_54 : Cond.methodLink RL 54 yX8_jump ∈ gtbl := (in_g 799 (by decide +kernel) rfl)
theorem lk_L_145 : LK RL 145 yL_set := Or.inl (in_g 803 (by decide +kernel) rfl)
theorem lg_L_145 : Cond.methodLink RL 145 yL_set ∈ gtbl := (in_g 803 (by decide +kernel) rfl)
theorem lk_L_57 : LK RL 57 yX8_set := Or.inl (in_g 806 (by decide +kernel) rfl)
theorem lg_L_57 : Cond.methodLink RL 57 yX8_set ∈ gtbl := (in_g 806 (by decide +kernel) rfl)
theorem lk_X8_266 : LK RX8 266 yX8_isSetting := Or.inl (in_g 810 (by decide +kernel) rfl)
theorem lg_X8_266 : Cond.methodLink RX8 266 yX8_isSetting ∈ gtbl := (in_g 810 (by decide +kernel) rfl)
theorem lk_L_148 : LK RL 148 yL_undo := Or.inl (in_g 814 (by decide +kernel) rfl)
theorem lg_L_148 : Cond.methodLink RL 148 yL_undo ∈ gtbl := (in_g 814 (by decide +kernel) rfl)
theorem lk_L_60 : LK RL 60 yX8_undo := Or.inl (in_g 817 (by decide +kernel) rfl)
theorem lg_L_60 : Cond.methodLink RL 60 yX8_undo ∈ gtbl := (in_g 817 (by decide +kernel) rfl)
theorem lk_X8_274 : LK RX8 274 yX3_takeBack := Or.inl (in_g 822 (by decide +kernel) rfl)
theorem lg_X8_274 : Cond.methodLink RX8 274 yX3_takeBack ∈ gtbl := (in_g 822 (by decide +kernel) rfl)
theorem lk_X3_40 : LK RX3 40 yX5_fetch := Or.inl (in_g 827 (by decide +kernel) rfl)
theorem lg_X3_40 : Cond.methodLink RX3 40 yX5_fetch ∈ gtbl := (in_g 827 (by decide +kernel) rfl)
theorem lk_L_151 : LK RL 151 yL_where := Or.inl (in_g 831 (by decide +kernel) rfl)
theorem lg_L_151 : Cond.methodLink RL 151 yL_where ∈ gtbl := (in_g 831 (by decide +kernel) rfl)
theorem lk_L_63 : LK RL 63 yX8_where := Or.inl (in_g 834 (by decide +kernel) rfl)
theorem lg_L_63 : Cond.methodLink RL 63 yX8_where ∈ gtbl := (in_g 834 (by decide +kernel) rfl)
theorem lk_L_154 : LK RL 154 yL_givenUp := Or.inl (in_g 838 (by decide +kernel) rfl)
theorem lg_L_154 : Cond.methodLink RL 154 yL_givenUp ∈ gtbl := (in_g 838 (by decide +kernel) rfl)
theorem lk_L_66 : LK RL 66 yX8_givenUp := Or.inl (in_g 841 (by decide +kernel) rfl)
theorem lg_L_66 : Cond.methodLink RL 66 yX8_givenUp ∈ gtbl := (in_g 841 (by decide +kernel) rfl)
theorem lk_X8_277 : LK RX8 277 yX0_copy := Or.inl (in_g 845 (by decide +kernel) rfl)
theorem lg_X8_277 : Cond.methodLink RX8 277 yX0_copy ∈ gtbl := (in_g 845 (by decide +kernel) rfl)
theorem lk_L_161 : LK RL 161 yL_more := Or.inl (in_g 846 (by decide +kernel) rfl)
theorem lg_L_161 : Cond.methodLink RL 161 yL_more ∈ gtbl := (in_g 846 (by decide +kernel) rfl)
theorem lk_L_69 : LK RL 69 yX8_more := Or.inl (in_g 849 (by decide +kernel) rfl)
theorem lg_L_69 : Cond.methodLink RL 69 yX8_more ∈ gtbl := (in_g 849 (by decide +kernel) rfl)
theorem lk_X8_287 : LK RX8 287 yX0_takeSite := Or.inl (in_g 853 (by decide +kernel) rfl)
theorem lg_X8_287 : Cond.methodLink RX8 287 yX0_takeSite ∈ gtbl := (in_g 853 (by decide +kernel) rfl)
theorem lk_L_166 : LK RL 166 yL_runScript := Or.inl (in_g 854 (by decide +kernel) rfl)
theorem lg_L_166 : Cond.methodLink RL 166 yL_runScript ∈ gtbl := (in_g 854 (by decide +kernel) rfl)
theorem lk_L_72 : LK RL 72 yX8_runScript := Or.inl (in_g 857 (by decide +kernel) rfl)
theorem lg_L_72 : Cond.methodLink RL 72 yX8_runScript ∈ gtbl := (in_g 857 (by decide +kernel) rfl)
theorem lk_X8_296 : LK RX8 296 yX8_succeeds := Or.inl (in_g 864 (by decide +kernel) rfl)
theorem lg_X8_296 : Cond.methodLink RX8 296 yX8_succeeds ∈ gtbl := (in_g 864 (by decide +kernel) rfl)
theorem lk_L_170 : LK RL 170 yL_simulate := Or.inl (in_g 870 (by decide +kernel) rfl)
theorem lg_L_170 : Cond.methodLink RL 170 yL_simulate ∈ gtbl := (in_g 870 (by decide +kernel) rfl)
theorem lk_L_76 : LK RL 76 yX8_simulate := Or.inl (in_g 873 (by decide +kernel) rfl)
theorem lg_L_76 : Cond.methodLink RL 76 yX8_simulate ∈ gtbl := (in_g 873 (by decide +kernel) rfl)
theorem lk_X8_312 : LK RX8 312 yX8_stepOnce := Or.inl (in_g 880 (by decide +kernel) rfl)
theorem lg_X8_312 : Cond.methodLink RX8 312 yX8_stepOnce ∈ gtbl := (in_g 880 (by decide +kernel) rfl)
theorem lk_L_174 : LK RL 174 yL_save := Or.inl (in_g 883 (by decide +kernel) rfl)
theorem lg_L_174 : Cond.methodLink RL 174 yL_save ∈ gtbl := (in_g 883 (by decide +kernel) rfl)
theorem lk_L_80 : LK RL 80 yX8_save := Or.inl (in_g 886 (by decide +kernel) rfl)
theorem lg_L_80 : Cond.methodLink RL 80 yX8_save ∈ gtbl := (in_g 886 (by decide +kernel) rfl)
theorem lk_X8_318 : LK RX8 318 yX5_lay := Or.inl (in_g 891 (by decide +kernel) rfl)
theorem lg_X8_318 : Cond.methodLink RX8 318 yX5_lay ∈ gtbl := (in_g 891 (by decide +kernel) rfl)
theorem lk_X8_322 : LK RX8 322 yX4_put := Or.inl (in_g 892 (by decide +kernel) rfl)
theorem lg_X8_322 : Cond.methodLink RX8 322 yX4_put ∈ gtbl := (in_g 892 (by decide +kernel) rfl)
theorem lk_L_177 : LK RL 177 yL_restore := Or.inl (in_g 893 (by decide +kernel) rfl)
theorem lg_L_177 : Cond.methodLink RL 177 yL_restore ∈ gtbl := (in_g 893 (by decide +kernel) rfl)
theorem lk_L_83 : LK RL 83 yX8_restore := Or.inl (in_g 896 (by decide +kernel) rfl)
theorem lg_L_83 : Cond.methodLink RL 83 yX8_restore ∈ gtbl := (in_g 896 (by decide +kernel) rfl)
theorem lk_X8_327 : LK RX8 327 yX5_fetch := Or.inl (in_g 901 (by decide +kernel) rfl)
theorem lg_X8_327 : Cond.methodLink RX8 327 yX5_fetch ∈ gtbl := (in_g 901 (by decide +kernel) rfl)
theorem lk_L_89 : LK RL 89 yX9_init := Or.inl (in_g 904 (by decide +kernel) rfl)
theorem lg_L_89 : Cond.methodLink RL 89 yX9_init ∈ gtbl := (in_g 904 (by decide +kernel) rfl)
theorem lk_X9_32 : LK RX9 32 yX9_clean := Or.inl (in_g 908 (by decide +kernel) rfl)
theorem lg_X9_32 : Cond.methodLink RX9 32 yX9_clean ∈ gtbl := (in_g 908 (by decide +kernel) rfl)
theorem lk_L_96 : LK RL 96 yX9_thrown := Or.inl (in_g 952 (by decide +kernel) rfl)
theorem lg_L_96 : Cond.methodLink RL 96 yX9_thrown ∈ gtbl := (in_g 952 (by decide +kernel) rfl)
theorem lk_L_95 : LK RL 95 yX9_append := Or.inl (in_g 956 (by decide +kernel) rfl)
theorem lg_L_95 : Cond.methodLink RL 95 yX9_append ∈ gtbl := (in_g 956 (by decide +kernel) rfl)
theorem lk_X9_121 : LK RX9 121 yX9_in := Or.inl (in_g 961 (by decide +kernel) rfl)
theorem lg_X9_121 : Cond.methodLink RX9 121 yX9_in ∈ gtbl := (in_g 961 (by decide +kernel) rfl)
theorem lk_X9_128 : LK RX9 128 yX9_refused := Or.inl (in_g 964 (by decide +kernel) rfl)
theorem lg_X9_128 : Cond.methodLink RX9 128 yX9_refused ∈ gtbl := (in_g 964 (by decide +kernel) rfl)
theorem lk_L_102 : LK RL 102 yX9_clearText := Or.inl (in_g 968 (by decide +kernel) rfl)
theorem lg_L_102 : Cond.methodLink RL 102 yX9_clearText ∈ gtbl := (in_g 968 (by decide +kernel) rfl)
theorem lk_L_106 : LK RL 106 yX9_errorPosition := Or.inl (in_g 972 (by decide +kernel) rfl)
theorem lg_L_106 : Cond.methodLink RL 106 yX9_errorPosition ∈ gtbl := (in_g 972 (by decide +kernel) rfl)
theorem lk_X9_196 : LK RX9 196 yX9_readText := Or.inl (in_g 976 (by decide +kernel) rfl)
theorem lg_X9_196 : Cond.methodLink RX9 196 yX9_readText ∈ gtbl := (in_g 976 (by decide +kernel) rfl)
theorem lk_X9_180 : LK RX9 180 yX9_isNext := Or.inl (in_g 980 (by decide +kernel) rfl)
theorem lg_X9_180 : Cond.methodLink RX9 180 yX9_isNext ∈ gtbl := (in_g 980 (by decide +kernel) rfl)
theorem lk_X9_141 : LK RX9 141 yX9_accept := Or.inl (in_g 984 (by decide +kernel) rfl)
theorem lg_X9_141 : Cond.methodLink RX9 141 yX9_accept ∈ gtbl := (in_g 984 (by decide +kernel) rfl)
theorem lk_X9_151 : LK RX9 151 yX9_two := Or.inl (in_g 988 (by decide +kernel) rfl)
theorem lg_X9_151 : Cond.methodLink RX9 151 yX9_two ∈ gtbl := (in_g 988 (by decide +kernel) rfl)
theorem lk_X9_145 : LK RX9 145 yX9_digit := Or.inl (in_g 992 (by decide +kernel) rfl)
theorem lg_X9_145 : Cond.methodLink RX9 145 yX9_digit ∈ gtbl := (in_g 992 (by decide +kernel) rfl)
theorem lk_X9_193 : LK RX9 193 yX9_readCommand := Or.inl (in_g 997 (by decide +kernel) rfl)
theorem lg_X9_193 : Cond.methodLink RX9 193 yX9_readCommand ∈ gtbl := (in_g 997 (by decide +kernel) rfl)
theorem lk_X9_183 : LK RX9 183 yX9_readPitch := Or.inl (in_g 1001 (by decide +kernel) rfl)
theorem lg_X9_183 : Cond.methodLink RX9 183 yX9_readPitch ∈ gtbl := (in_g 1001 (by decide +kernel) rfl)
theorem lk_X9_154 : LK RX9 154 yX9_stepRead := Or.inl (in_g 1005 (by decide +kernel) rfl)
theorem lg_X9_154 : Cond.methodLink RX9 154 yX9_stepRead ∈ gtbl := (in_g 1005 (by decide +kernel) rfl)
theorem lk_X9_148 : LK RX9 148 yX9_isStep := Or.inl (in_g 1009 (by decide +kernel) rfl)
theorem lg_X9_148 : Cond.methodLink RX9 148 yX9_isStep ∈ gtbl := (in_g 1009 (by decide +kernel) rfl)
theorem lk_X9_158 : LK RX9 158 yX9_canPitch := Or.inl (in_g 1012 (by decide +kernel) rfl)
theorem lg_X9_158 : Cond.methodLink RX9 158 yX9_canPitch ∈ gtbl := (in_g 1012 (by decide +kernel) rfl)
theorem lk_X9_84 : LK RX9 84 yX9_whereIn := Or.inl (in_g 1015 (by decide +kernel) rfl)
theorem lg_X9_84 : Cond.methodLink RX9 84 yX9_whereIn ∈ gtbl := (in_g 1015 (by decide +kernel) rfl)
theorem lk_X9_69 : LK RX9 69 yX9_roomOn := Or.inl (in_g 1018 (by decide +kernel) rfl)
theorem lg_X9_69 : Cond.methodLink RX9 69 yX9_roomOn ∈ gtbl := (in_g 1018 (by decide +kernel) rfl)
theorem lk_X9_66 : LK RX9 66 yX9_lastUsual := Or.inl (in_g 1021 (by decide +kernel) rfl)
theorem lg_X9_66 : Cond.methodLink RX9 66 yX9_lastUsual ∈ gtbl := (in_g 1021 (by decide +kernel) rfl)
theorem lk_X9_53 : LK RX9 53 yX9_fieldAt := Or.inl (in_g 1024 (by decide +kernel) rfl)
theorem lg_X9_53 : Cond.methodLink RX9 53 yX9_fieldAt ∈ gtbl := (in_g 1024 (by decide +kernel) rfl)
theorem lk_X9_73 : LK RX9 73 yX9_spareFor := Or.inl (in_g 1027 (by decide +kernel) rfl)
theorem lg_X9_73 : Cond.methodLink RX9 73 yX9_spareFor ∈ gtbl := (in_g 1027 (by decide +kernel) rfl)
theorem lk_X9_56 : LK RX9 56 yX9_spareAt := Or.inl (in_g 1030 (by decide +kernel) rfl)
theorem lg_X9_56 : Cond.methodLink RX9 56 yX9_spareAt ∈ gtbl := (in_g 1030 (by decide +kernel) rfl)
theorem lk_X9_77 : LK RX9 77 yX9_isBig := Or.inl (in_g 1033 (by decide +kernel) rfl)
theorem lg_X9_77 : Cond.methodLink RX9 77 yX9_isBig ∈ gtbl := (in_g 1033 (by decide +kernel) rfl)
theorem lk_X9_81 : LK RX9 81 yX9_allPlaces := Or.inl (in_g 1036 (by decide +kernel) rfl)
theorem lg_X9_81 : Cond.methodLink RX9 81 yX9_allPlaces ∈ gtbl := (in_g 1036 (by decide +kernel) rfl)
theorem lk_X9_59 : LK RX9 59 yX9_usedPlaces := Or.inl (in_g 1039 (by decide +kernel) rfl)
theorem lg_X9_59 : Cond.methodLink RX9 59 yX9_usedPlaces ∈ gtbl := (in_g 1039 (by decide +kernel) rfl)
theorem lk_X9_63 : LK RX9 63 yX9_sparePlaces := Or.inl (in_g 1042 (by decide +kernel) rfl)
theorem lg_X9_63 : Cond.methodLink RX9 63 yX9_sparePlaces ∈ gtbl := (in_g 1042 (by decide +kernel) rfl)
theorem lk_X9_165 : LK RX9 165 yX9_pitchIn := Or.inl (in_g 1045 (by decide +kernel) rfl)
theorem lg_X9_165 : Cond.methodLink RX9 165 yX9_pitchIn ∈ gtbl := (in_g 1045 (by decide +kernel) rfl)
theorem lk_X9_94 : LK RX9 94 yX9_pitchOn := Or.inl (in_g 1048 (by decide +kernel) rfl)
theorem lg_X9_94 : Cond.methodLink RX9 94 yX9_pitchOn ∈ gtbl := (in_g 1048 (by decide +kernel) rfl)
theorem lk_X9_87 : LK RX9 87 yX9_takeSpare := Or.inl (in_g 1051 (by decide +kernel) rfl)
theorem lg_X9_87 : Cond.methodLink RX9 87 yX9_takeSpare ∈ gtbl := (in_g 1051 (by decide +kernel) rfl)
theorem lk_X9_45 : LK RX9 45 yX9_copy := Or.inl (in_g 1054 (by decide +kernel) rfl)
theorem lg_X9_45 : Cond.methodLink RX9 45 yX9_copy ∈ gtbl := (in_g 1054 (by decide +kernel) rfl)
theorem lk_X9_91 : LK RX9 91 yX9_makeField := Or.inl (in_g 1057 (by decide +kernel) rfl)
theorem lg_X9_91 : Cond.methodLink RX9 91 yX9_makeField ∈ gtbl := (in_g 1057 (by decide +kernel) rfl)
theorem lk_X9_49 : LK RX9 49 yX9_tentAt := Or.inl (in_g 1060 (by decide +kernel) rfl)
theorem lg_X9_49 : Cond.methodLink RX9 49 yX9_tentAt ∈ gtbl := (in_g 1060 (by decide +kernel) rfl)
theorem lk_X9_97 : LK RX9 97 yX9_tentPlaces := Or.inl (in_g 1063 (by decide +kernel) rfl)
theorem lg_X9_97 : Cond.methodLink RX9 97 yX9_tentPlaces ∈ gtbl := (in_g 1063 (by decide +kernel) rfl)
theorem lk_X9_186 : LK RX9 186 yX9_readFill := Or.inl (in_g 1066 (by decide +kernel) rfl)
theorem lg_X9_186 : Cond.methodLink RX9 186 yX9_readFill ∈ gtbl := (in_g 1066 (by decide +kernel) rfl)
theorem lk_X9_168 : LK RX9 168 yX9_fillIn := Or.inl (in_g 1070 (by decide +kernel) rfl)
theorem lg_X9_168 : Cond.methodLink RX9 168 yX9_fillIn ∈ gtbl := (in_g 1070 (by decide +kernel) rfl)
theorem lk_X9_189 : LK RX9 189 yX9_readFrame := Or.inl (in_g 1073 (by decide +kernel) rfl)
theorem lg_X9_189 : Cond.methodLink RX9 189 yX9_readFrame ∈ gtbl := (in_g 1073 (by decide +kernel) rfl)
theorem lk_X9_171 : LK RX9 171 yX9_enterIn := Or.inl (in_g 1077 (by decide +kernel) rfl)
theorem lg_X9_171 : Cond.methodLink RX9 171 yX9_enterIn ∈ gtbl := (in_g 1077 (by decide +kernel) rfl)
theorem lk_X9_100 : LK RX9 100 yX9_frameAt := Or.inl (in_g 1080 (by decide +kernel) rfl)
theorem lg_X9_100 : Cond.methodLink RX9 100 yX9_frameAt ∈ gtbl := (in_g 1080 (by decide +kernel) rfl)
theorem lk_X9_174 : LK RX9 174 yX9_jumpIn := Or.inl (in_g 1083 (by decide +kernel) rfl)
theorem lg_X9_174 : Cond.methodLink RX9 174 yX9_jumpIn ∈ gtbl := (in_g 1083 (by decide +kernel) rfl)
theorem lk_X9_116 : LK RX9 116 yX9_strikeBehind := Or.inl (in_g 1086 (by decide +kernel) rfl)
theorem lg_X9_116 : Cond.methodLink RX9 116 yX9_strikeBehind ∈ gtbl := (in_g 1086 (by decide +kernel) rfl)
theorem lk_X9_103 : LK RX9 103 yX9_strike := Or.inl (in_g 1089 (by decide +kernel) rfl)
theorem lg_X9_103 : Cond.methodLink RX9 103 yX9_strike ∈ gtbl := (in_g 1089 (by decide +kernel) rfl)
theorem lk_X9_107 : LK RX9 107 yX9_layEnds := Or.inl (in_g 1092 (by decide +kernel) rfl)
theorem lg_X9_107 : Cond.methodLink RX9 107 yX9_layEnds ∈ gtbl := (in_g 1092 (by decide +kernel) rfl)
theorem lk_X9_110 : LK RX9 110 yX9_greatestSpare := Or.inl (in_g 1095 (by decide +kernel) rfl)
theorem lg_X9_110 : Cond.methodLink RX9 110 yX9_greatestSpare ∈ gtbl := (in_g 1095 (by decide +kernel) rfl)
theorem lk_X9_113 : LK RX9 113 yX9_giveUp := Or.inl (in_g 1098 (by decide +kernel) rfl)
theorem lg_X9_113 : Cond.methodLink RX9 113 yX9_giveUp ∈ gtbl := (in_g 1098 (by decide +kernel) rfl)
theorem lk_X9_177 : LK RX9 177 yX9_leaveIn := Or.inl (in_g 1101 (by decide +kernel) rfl)
theorem lg_X9_177 : Cond.methodLink RX9 177 yX9_leaveIn ∈ gtbl := (in_g 1101 (by decide +kernel) rfl)
theorem lk_L_110 : LK RL 110 yX9_load := Or.inl (in_g 1104 (by decide +kernel) rfl)
theorem lg_L_110 : Cond.methodLink RL 110 yX9_load ∈ gtbl := (in_g 1104 (by decide +kernel) rfl)
theorem lk_L_113 : LK RL 113 yX9_about := Or.inl (in_g 1108 (by decide +kernel) rfl)
theorem lg_L_113 : Cond.methodLink RL 113 yX9_about ∈ gtbl := (in_g 1108 (by decide +kernel) rfl)
theorem lk_X9_204 : LK RX9 204 yX9_gaps := Or.inl (in_g 1113 (by decide +kernel) rfl)
theorem lg_X9_204 : Cond.methodLink RX9 204 yX9_gaps ∈ gtbl := (in_g 1113 (by decide +kernel) rfl)
theorem lk_X9_199 : LK RX9 199 yX9_onField := Or.inl (in_g 1116 (by decide +kernel) rfl)
theorem lg_X9_199 : Cond.methodLink RX9 199 yX9_onField ∈ gtbl := (in_g 1116 (by decide +kernel) rfl)
theorem lk_L_117 : LK RL 117 yX9_tent := Or.inl (in_g 1119 (by decide +kernel) rfl)
theorem lg_L_117 : Cond.methodLink RL 117 yX9_tent ∈ gtbl := (in_g 1119 (by decide +kernel) rfl)
theorem lk_X9_207 : LK RX9 207 yX9_isTent := Or.inl (in_g 1123 (by decide +kernel) rfl)
theorem lg_X9_207 : Cond.methodLink RX9 207 yX9_isTent ∈ gtbl := (in_g 1123 (by decide +kernel) rfl)
theorem lk_X9_212 : LK RX9 212 yX9_frameOf := Or.inl (in_g 1128 (by decide +kernel) rfl)
theorem lg_X9_212 : Cond.methodLink RX9 212 yX9_frameOf ∈ gtbl := (in_g 1128 (by decide +kernel) rfl)
theorem lk_L_120 : LK RL 120 yX9_field := Or.inl (in_g 1132 (by decide +kernel) rfl)
theorem lg_L_120 : Cond.methodLink RL 120 yX9_field ∈ gtbl := (in_g 1132 (by decide +kernel) rfl)
theorem lk_X9_216 : LK RX9 216 yX9_isField := Or.inl (in_g 1136 (by decide +kernel) rfl)
theorem lg_X9_216 : Cond.methodLink RX9 216 yX9_isField ∈ gtbl := (in_g 1136 (by decide +kernel) rfl)
theorem lk_X9_219 : LK RX9 219 yX9_tentsOn := Or.inl (in_g 1140 (by decide +kernel) rfl)
theorem lg_X9_219 : Cond.methodLink RX9 219 yX9_tentsOn ∈ gtbl := (in_g 1140 (by decide +kernel) rfl)
theorem lk_X9_222 : LK RX9 222 yX9_poisonOn := Or.inl (in_g 1144 (by decide +kernel) rfl)
theorem lg_X9_222 : Cond.methodLink RX9 222 yX9_poisonOn ∈ gtbl := (in_g 1144 (by decide +kernel) rfl)
theorem lk_L_123 : LK RL 123 yX9_place := Or.inl (in_g 1148 (by decide +kernel) rfl)
theorem lg_L_123 : Cond.methodLink RL 123 yX9_place ∈ gtbl := (in_g 1148 (by decide +kernel) rfl)
theorem lk_L_126 : LK RL 126 yX9_spare := Or.inl (in_g 1152 (by decide +kernel) rfl)
theorem lg_L_126 : Cond.methodLink RL 126 yX9_spare ∈ gtbl := (in_g 1152 (by decide +kernel) rfl)
theorem lk_L_129 : LK RL 129 yX9_frame := Or.inl (in_g 1156 (by decide +kernel) rfl)
theorem lg_L_129 : Cond.methodLink RL 129 yX9_frame ∈ gtbl := (in_g 1156 (by decide +kernel) rfl)
theorem lk_X9_225 : LK RX9 225 yX9_isFrame := Or.inl (in_g 1160 (by decide +kernel) rfl)
theorem lg_X9_225 : Cond.methodLink RX9 225 yX9_isFrame ∈ gtbl := (in_g 1160 (by decide +kernel) rfl)
theorem lk_L_132 : LK RL 132 yX9_pitch := Or.inl (in_g 1165 (by decide +kernel) rfl)
theorem lg_L_132 : Cond.methodLink RL 132 yX9_pitch ∈ gtbl := (in_g 1165 (by decide +kernel) rfl)
theorem lk_X9_232 : LK RX9 232 yX9_isTentSize := Or.inl (in_g 1169 (by decide +kernel) rfl)
theorem lg_X9_232 : Cond.methodLink RX9 232 yX9_isTentSize ∈ gtbl := (in_g 1169 (by decide +kernel) rfl)
theorem lk_X9_235 : LK RX9 235 yX9_remember := Or.inl (in_g 1173 (by decide +kernel) rfl)
theorem lg_X9_235 : Cond.methodLink RX9 235 yX9_remember ∈ gtbl := (in_g 1173 (by decide +kernel) rfl)
theorem lk_L_135 : LK RL 135 yX9_fill := Or.inl (in_g 1177 (by decide +kernel) rfl)
theorem lg_L_135 : Cond.methodLink RL 135 yX9_fill ∈ gtbl := (in_g 1177 (by decide +kernel) rfl)
theorem lk_L_138 : LK RL 138 yX9_enter := Or.inl (in_g 1182 (by decide +kernel) rfl)
theorem lg_L_138 : Cond.methodLink RL 138 yX9_enter ∈ gtbl := (in_g 1182 (by decide +kernel) rfl)
theorem lk_L_141 : LK RL 141 yX9_leave := Or.inl (in_g 1186 (by decide +kernel) rfl)
theorem lg_L_141 : Cond.methodLink RL 141 yX9_leave ∈ gtbl := (in_g 1186 (by decide +kernel) rfl)
theorem lk_L_144 : LK RL 144 yX9_jump := Or.inl (in_g 1190 (by decide +kernel) rfl)
theorem lg_L_144 : Cond.methodLink RL 144 yX9_jump ∈ gtbl := (in_g 1190 (by decide +kernel) rfl)
theorem lk_L_147 : LK RL 147 yX9_set := Or.inl (in_g 1194 (by decide +kernel) rfl)
theorem lg_L_147 : Cond.methodLink RL 147 yX9_set ∈ gtbl := (in_g 1194 (by decide +kernel) rfl)
theorem lk_L_150 : LK RL 150 yX9_undo := Or.inl (in_g 1201 (by decide +kernel) rfl)
theorem lg_L_150 : Cond.methodLink RL 150 yX9_undo ∈ gtbl := (in_g 1201 (by decide +kernel) rfl)
theorem lk_L_153 : LK RL 153 yX9_where := Or.inl (in_g 1205 (by decide +kernel) rfl)
theorem lg_L_153 : Cond.methodLink RL 153 yX9_where ∈ gtbl := (in_g 1205 (by decide +kernel) rfl)
theorem lk_L_156 : LK RL 156 yX9_givenUp := Or.inl (in_g 1209 (by decide +kernel) rfl)
theorem lg_L_156 : Cond.methodLink RL 156 yX9_givenUp ∈ gtbl := (in_g 1209 (by decide +kernel) rfl)
theorem lk_X9_246 : LK RX9 246 yX9_begin := Or.inl (in_g 1213 (by decide +kernel) rfl)
theorem lg_X9_246 : Cond.methodLink RX9 246 yX9_begin ∈ gtbl := (in_g 1213 (by decide +kernel) rfl)
theorem lk_L_160 : LK RL 160 yX9_bestSize := Or.inl (in_g 1217 (by decide +kernel) rfl)
theorem lg_L_160 : Cond.methodLink RL 160 yX9_bestSize ∈ gtbl := (in_g 1217 (by decide +kernel) rfl)
theorem lk_X9_249 : LK RX9 249 yX9_needs := Or.inl (in_g 1221 (by decide +kernel) rfl)
theorem lg_X9_249 : Cond.methodLink RX9 249 yX9_needs ∈ gtbl := (in_g 1221 (by decide +kernel) rfl)
theorem lk_L_163 : LK RL 163 yX9_more := Or.inl (in_g 1225 (by decide +kernel) rfl)
theorem lg_L_163 : Cond.methodLink RL 163 yX9_more ∈ gtbl := (in_g 1225 (by decide +kernel) rfl)
theorem lk_L_169 : LK RL 169 yX9_runScript := Or.inl (in_g 1229 (by decide +kernel) rfl)
theorem lg_L_169 : Cond.methodLink RL 169 yX9_runScript ∈ gtbl := (in_g 1229 (by decide +kernel) rfl)
theorem lk_X9_268 : LK RX9 268 yX9_tenTo := Or.inl (in_g 1234 (by decide +kernel) rfl)
theorem lg_X9_268 : Cond.methodLink RX9 268 yX9_tenTo ∈ gtbl := (in_g 1234 (by decide +kernel) rfl)
theorem lk_X9_274 : LK RX9 274 yX9_does := Or.inl (in_g 1239 (by decide +kernel) rfl)
theorem lg_X9_274 : Cond.methodLink RX9 274 yX9_does ∈ gtbl := (in_g 1239 (by decide +kernel) rfl)
theorem lk_X9_252 : LK RX9 252 yX9_pitches := Or.inl (in_g 1243 (by decide +kernel) rfl)
theorem lg_X9_252 : Cond.methodLink RX9 252 yX9_pitches ∈ gtbl := (in_g 1243 (by decide +kernel) rfl)
theorem lk_X9_256 : LK RX9 256 yX9_enters := Or.inl (in_g 1247 (by decide +kernel) rfl)
theorem lg_X9_256 : Cond.methodLink RX9 256 yX9_enters ∈ gtbl := (in_g 1247 (by decide +kernel) rfl)
theorem lk_X9_260 : LK RX9 260 yX9_leaves := Or.inl (in_g 1251 (by decide +kernel) rfl)
theorem lg_X9_260 : Cond.methodLink RX9 260 yX9_leaves ∈ gtbl := (in_g 1251 (by decide +kernel) rfl)
theorem lk_X9_263 : LK RX9 263 yX9_jumps := Or.inl (in_g 1255 (by decide +kernel) rfl)
theorem lg_X9_263 : Cond.methodLink RX9 263 yX9_jumps ∈ gtbl := (in_g 1255 (by decide +kernel) rfl)
theorem lk_L_173 : LK RL 173 yX9_simulate := Or.inl (in_g 1259 (by decide +kernel) rfl)
theorem lg_L_173 : Cond.methodLink RL 173 yX9_simulate ∈ gtbl := (in_g 1259 (by decide +kernel) rfl)
theorem lk_X9_281 : LK RX9 281 yX9_stir := Or.inl (in_g 1265 (by decide +kernel) rfl)
theorem lg_X9_281 : Cond.methodLink RX9 281 yX9_stir ∈ gtbl := (in_g 1265 (by decide +kernel) rfl)
theorem lk_L_176 : LK RL 176 yX9_save := Or.inl (in_g 1269 (by decide +kernel) rfl)
theorem lg_L_176 : Cond.methodLink RL 176 yX9_save ∈ gtbl := (in_g 1269 (by decide +kernel) rfl)
theorem lk_L_179 : LK RL 179 yX9_restore := Or.inl (in_g 1273 (by decide +kernel) rfl)
theorem lg_L_179 : Cond.methodLink RL 179 yX9_restore ∈ gtbl := (in_g 1273 (by decide +kernel) rfl)
theorem cl_L_8 : Cond.classLink RL 8 RX8 ∈ gtbl := (in_g 59 (by decide +kernel) rfl)
theorem oi_X8_1 : Cond.methodLink RX8 1 Lib.objectInit ∈ gtbl := (in_g 64 (by decide +kernel) rfl)
theorem cl_X8_7 : Cond.classLink RX8 7 RX0 ∈ gtbl := (in_g 67 (by decide +kernel) rfl)
theorem oi_X0_3 : Cond.methodLink RX0 3 Lib.objectInit ∈ gtbl := (in_g 72 (by decide +kernel) rfl)
theorem cl_X0_21 : Cond.classLink RX0 21 RX4 ∈ gtbl := (in_g 73 (by decide +kernel) rfl)
theorem oi_X4_1 : Cond.methodLink RX4 1 Lib.objectInit ∈ gtbl := (in_g 78 (by decide +kernel) rfl)
theorem ma_X4_7 : MX RX4 7 := ⟨(in_g 79 (by decide +kernel) rfl), (in_g 80 (by decide +kernel) rfl), (in_g 44 (by decide +kernel) rfl), (in_g 81 (by decide +kernel) rfl)⟩
theorem ar_int : Cond.arrayClass .int ∈ gtbl := (in_g 86 (by decide +kernel) rfl)
theorem cl_X0_30 : Cond.classLink RX0 30 RX6 ∈ gtbl := (in_g 87 (by decide +kernel) rfl)
theorem oi_X6_3 : Cond.methodLink RX6 3 Lib.objectInit ∈ gtbl := (in_g 92 (by decide +kernel) rfl)
theorem cl_X6_9 : Cond.classLink RX6 9 RX4 ∈ gtbl := (in_g 93 (by decide +kernel) rfl)
theorem cl_X0_37 : Cond.classLink RX0 37 RX2 ∈ gtbl := (in_g 121 (by decide +kernel) rfl)
theorem oi_X2_3 : Cond.methodLink RX2 3 Lib.objectInit ∈ gtbl := (in_g 126 (by decide +kernel) rfl)
theorem cl_X2_9 : Cond.classLink RX2 9 RX4 ∈ gtbl := (in_g 127 (by decide +kernel) rfl)
theorem cl_X0_44 : Cond.classLink RX0 44 RX1 ∈ gtbl := (in_g 145 (by decide +kernel) rfl)
theorem oi_X1_3 : Cond.methodLink RX1 3 Lib.objectInit ∈ gtbl := (in_g 150 (by decide +kernel) rfl)
theorem cl_X1_9 : Cond.classLink RX1 9 RX4 ∈ gtbl := (in_g 151 (by decide +kernel) rfl)
theorem cl_X8_19 : Cond.classLink RX8 19 RX3 ∈ gtbl := (in_g 228 (by decide +kernel) rfl)
theorem oi_X3_3 : Cond.methodLink RX3 3 Lib.objectInit ∈ gtbl := (in_g 233 (by decide +kernel) rfl)
theorem cl_X3_9 : Cond.classLink RX3 9 RX5 ∈ gtbl := (in_g 234 (by decide +kernel) rfl)
theorem oi_X5_1 : Cond.methodLink RX5 1 Lib.objectInit ∈ gtbl := (in_g 239 (by decide +kernel) rfl)
theorem ma_X5_7 : MX RX5 7 := ⟨(in_g 240 (by decide +kernel) rfl), (in_g 80 (by decide +kernel) rfl), (in_g 44 (by decide +kernel) rfl), (in_g 81 (by decide +kernel) rfl)⟩
theorem cl_X5_13 : Cond.classLink RX5 13 RX0 ∈ gtbl := (in_g 241 (by decide +kernel) rfl)
theorem cl_X8_26 : Cond.classLink RX8 26 RX7 ∈ gtbl := (in_g 259 (by decide +kernel) rfl)
theorem oi_X7_3 : Cond.methodLink RX7 3 Lib.objectInit ∈ gtbl := (in_g 264 (by decide +kernel) rfl)
theorem cl_X7_9 : Cond.classLink RX7 9 RX4 ∈ gtbl := (in_g 265 (by decide +kernel) rfl)
theorem cl_X8_33 : Cond.classLink RX8 33 RX5 ∈ gtbl := (in_g 293 (by decide +kernel) rfl)
theorem cl_X8_42 : Cond.classLink RX8 42 RX4 ∈ gtbl := (in_g 295 (by decide +kernel) rfl)
theorem mi_X4_19 : MN RX4 19 := ⟨(in_g 438 (by decide +kernel) rfl), (in_g 439 (by decide +kernel) rfl), (in_g 44 (by decide +kernel) rfl), (in_g 440 (by decide +kernel) rfl)⟩
theorem ma_X0_149 : MX RX0 149 := ⟨(in_g 446 (by decide +kernel) rfl), (in_g 80 (by decide +kernel) rfl), (in_g 44 (by decide +kernel) rfl), (in_g 81 (by decide +kernel) rfl)⟩
theorem ar_byte : Cond.arrayClass .byte ∈ gtbl := (in_g 523 (by decide +kernel) rfl)
theorem ac_X4_22 : AC9 RX4 22 := ⟨(in_g 753 (by decide +kernel) rfl), (in_g 755 (by decide +kernel) rfl), (in_g 754 (by decide +kernel) rfl), (in_g 58 (by decide +kernel) rfl)⟩
theorem mi_X3_31 : MN RX3 31 := ⟨(in_g 771 (by decide +kernel) rfl), (in_g 439 (by decide +kernel) rfl), (in_g 44 (by decide +kernel) rfl), (in_g 440 (by decide +kernel) rfl)⟩
theorem ma_X3_37 : MX RX3 37 := ⟨(in_g 826 (by decide +kernel) rfl), (in_g 80 (by decide +kernel) rfl), (in_g 44 (by decide +kernel) rfl), (in_g 81 (by decide +kernel) rfl)⟩
theorem co_X8_292 : Cond.constantLong RX8 292 (100000) ∈ gtbl := (in_g 862 (by decide +kernel) rfl)
theorem co_X8_308 : Cond.constantLong RX8 308 (6364136223846793005) ∈ gtbl := (in_g 878 (by decide +kernel) rfl)
theorem co_X8_310 : Cond.constantLong RX8 310 (1442695040888963407) ∈ gtbl := (in_g 879 (by decide +kernel) rfl)
theorem cl_L_87 : Cond.classLink RL 87 RX9 ∈ gtbl := (in_g 902 (by decide +kernel) rfl)
theorem oi_X9_1 : Cond.methodLink RX9 1 Lib.objectInit ∈ gtbl := (in_g 907 (by decide +kernel) rfl)
theorem ar_boolean : Cond.arrayClass .boolean ∈ gtbl := (in_g 951 (by decide +kernel) rfl)
theorem co_X9_119 : Cond.constantLong RX9 119 (255) ∈ gtbl := (in_g 960 (by decide +kernel) rfl)
theorem co_X9_139 : Cond.constantLong RX9 139 (9) ∈ gtbl := (in_g 996 (by decide +kernel) rfl)
theorem co_X9_202 : Cond.constantLong RX9 202 (13) ∈ gtbl := (in_g 1112 (by decide +kernel) rfl)
theorem co_X9_210 : Cond.constantLong RX9 210 (4) ∈ gtbl := (in_g 1127 (by decide +kernel) rfl)
theorem co_X9_228 : Cond.constantLong RX9 228 (2) ∈ gtbl := (in_g 1164 (by decide +kernel) rfl)
theorem co_X9_230 : Cond.constantLong RX9 230 (40) ∈ gtbl := (in_g 1172 (by decide +kernel) rfl)
theorem co_X9_238 : Cond.constantLong RX9 238 (99) ∈ gtbl := (in_g 1181 (by decide +kernel) rfl)
theorem co_X9_240 : Cond.constantLong RX9 240 (8) ∈ gtbl := (in_g 1198 (by decide +kernel) rfl)
theorem co_X9_242 : Cond.constantLong RX9 242 (64) ∈ gtbl := (in_g 1199 (by decide +kernel) rfl)
theorem co_X9_244 : Cond.constantLong RX9 244 (128) ∈ gtbl := (in_g 1200 (by decide +kernel) rfl)
theorem co_X9_266 : Cond.constantLong RX9 266 (3) ∈ gtbl := (in_g 1233 (by decide +kernel) rfl)
theorem co_X9_40 : Cond.constantLong RX9 40 (10) ∈ gtbl := (in_g 1237 (by decide +kernel) rfl)
theorem co_X9_272 : Cond.constantLong RX9 272 (100000) ∈ gtbl := (in_g 1238 (by decide +kernel) rfl)
theorem co_X9_277 : Cond.constantLong RX9 277 (6364136223846793005) ∈ gtbl := (in_g 1263 (by decide +kernel) rfl)
theorem co_X9_279 : Cond.constantLong RX9 279 (1442695040888963407) ∈ gtbl := (in_g 1264 (by decide +kernel) rfl)
theorem co_L_164 : Cond.constantLong RL 164 (4294967295) ∈ gtbl := (in_g 1277 (by decide +kernel) rfl)
theorem ar_long : Cond.arrayClass .long ∈ gtbl := (in_g 1278 (by decide +kernel) rfl)
theorem ob_in : Cond.instanceMethod Lib.objectInit ∈ gtbl := (in_g 65 (by decide +kernel) rfl)
theorem ob_co : Cond.code Lib.objectInit ⟨#[0xb1]⟩ 1 none ∈ gtbl := (in_g 66 (by decide +kernel) rfl)
end
section
theorem tg_X8_53 : (∀ w ∈ (vx_atS RX8 53 (exn 0) nms).filter goodWord, w ∈ gtbl) := fun w hw => List.mem_filter.mpr ⟨(by decide +kernel : ∀ w ∈ (vx_atS RX8 53 (exn 0) nms).filter goodWord, w ∈ lw_tbl) w hw, (List.mem_filter.mp hw).2⟩
theorem tb_X8_53 : (∀ w ∈ (vx_atS RX8 53 (exn 0) nms).filter (fun w => !goodWord w), w ∈ lw_tbl ∧ (isNest w = true ∧ w.onTables = true)) := by decide +kernel
theorem th_X8_49_51_53 : TH RX8 49 51 53 0 := ⟨(in_g 456 (by decide +kernel) rfl), (in_g 55 (by decide +kernel) rfl), ⟨"a character code is 0 to 255", List.mem_of_getElem? (i := 497) (by decide +kernel)⟩, tg_X8_53, tb_X8_53, by omega⟩
theorem th_X8_49_159_53 : TH RX8 49 159 53 0 := ⟨(in_g 456 (by decide +kernel) rfl), (in_g 55 (by decide +kernel) rfl), ⟨"what is 0 to 13", List.mem_of_getElem? (i := 637) (by decide +kernel)⟩, tg_X8_53, tb_X8_53, by omega⟩
theorem th_X8_49_187_53 : TH RX8 49 187 53 0 := ⟨(in_g 456 (by decide +kernel) rfl), (in_g 55 (by decide +kernel) rfl), ⟨"what is 0 to 4", List.mem_of_getElem? (i := 669) (by decide +kernel)⟩, tg_X8_53, tb_X8_53, by omega⟩
theorem th_X8_49_214_53 : TH RX8 49 214 53 0 := ⟨(in_g 456 (by decide +kernel) rfl), (in_g 55 (by decide +kernel) rfl), ⟨"i is 0 or more", List.mem_of_getElem? (i := 700) (by decide +kernel)⟩, tg_X8_53, tb_X8_53, by omega⟩
theorem th_X8_49_227_53 : TH RX8 49 227 53 0 := ⟨(in_g 456 (by decide +kernel) rfl), (in_g 55 (by decide +kernel) rfl), ⟨"what is 0 to 2", List.mem_of_getElem? (i := 718) (by decide +kernel)⟩, tg_X8_53, tb_X8_53, by omega⟩
theorem th_X8_49_233_53 : TH RX8 49 233 53 0 := ⟨(in_g 456 (by decide +kernel) rfl), (in_g 55 (by decide +kernel) rfl), ⟨"no tent has this size and step", List.mem_of_getElem? (i := 730) (by decide +kernel)⟩, tg_X8_53, tb_X8_53, by omega⟩
theorem th_X8_49_248_53 : TH RX8 49 248 53 0 := ⟨(in_g 456 (by decide +kernel) rfl), (in_g 55 (by decide +kernel) rfl), ⟨"a value is 0 to 99", List.mem_of_getElem? (i := 779) (by decide +kernel)⟩, tg_X8_53, tb_X8_53, by omega⟩
theorem th_X8_49_269_53 : TH RX8 49 269 53 0 := ⟨(in_g 456 (by decide +kernel) rfl), (in_g 55 (by decide +kernel) rfl), ⟨"no such setting, or not this value for it", List.mem_of_getElem? (i := 813) (by decide +kernel)⟩, tg_X8_53, tb_X8_53, by omega⟩
theorem th_X8_49_290_53 : TH RX8 49 290 53 0 := ⟨(in_g 456 (by decide +kernel) rfl), (in_g 55 (by decide +kernel) rfl), ⟨"n is 1 to 3", List.mem_of_getElem? (i := 861) (by decide +kernel)⟩, tg_X8_53, tb_X8_53, by omega⟩
theorem th_X8_49_294_53 : TH RX8 49 294 53 0 := ⟨(in_g 456 (by decide +kernel) rfl), (in_g 55 (by decide +kernel) rfl), ⟨"the script has 5 * n digits at most", List.mem_of_getElem? (i := 863) (by decide +kernel)⟩, tg_X8_53, tb_X8_53, by omega⟩
theorem th_X8_49_306_53 : TH RX8 49 306 53 0 := ⟨(in_g 456 (by decide +kernel) rfl), (in_g 55 (by decide +kernel) rfl), ⟨"m is 1 to 99", List.mem_of_getElem? (i := 877) (by decide +kernel)⟩, tg_X8_53, tb_X8_53, by omega⟩
theorem tg_X8_64 : (∀ w ∈ (vx_atS RX8 64 (exn 1) nms).filter goodWord, w ∈ gtbl) := fun w hw => List.mem_filter.mpr ⟨(by decide +kernel : ∀ w ∈ (vx_atS RX8 64 (exn 1) nms).filter goodWord, w ∈ lw_tbl) w hw, (List.mem_filter.mp hw).2⟩
theorem tb_X8_64 : (∀ w ∈ (vx_atS RX8 64 (exn 1) nms).filter (fun w => !goodWord w), w ∈ lw_tbl ∧ (isNest w = true ∧ w.onTables = true)) := by decide +kernel
theorem th_X8_60_62_64 : TH RX8 60 62 64 1 := ⟨(in_g 524 (by decide +kernel) rfl), (in_g 56 (by decide +kernel) rfl), ⟨"the text is full", List.mem_of_getElem? (i := 533) (by decide +kernel)⟩, tg_X8_64, tb_X8_64, by omega⟩
theorem th_X8_60_72_64 : TH RX8 60 72 64 1 := ⟨(in_g 524 (by decide +kernel) rfl), (in_g 56 (by decide +kernel) rfl), ⟨"the text is not a camp", List.mem_of_getElem? (i := 552) (by decide +kernel)⟩, tg_X8_64, tb_X8_64, by omega⟩
theorem th_X8_60_239_64 : TH RX8 60 239 64 1 := ⟨(in_g 524 (by decide +kernel) rfl), (in_g 56 (by decide +kernel) rfl), ⟨"there is no room for this tent", List.mem_of_getElem? (i := 732) (by decide +kernel)⟩, tg_X8_64, tb_X8_64, by omega⟩
theorem th_X8_60_253_64 : TH RX8 60 253 64 1 := ⟨(in_g 524 (by decide +kernel) rfl), (in_g 56 (by decide +kernel) rfl), ⟨"there are 8 frames", List.mem_of_getElem? (i := 787) (by decide +kernel)⟩, tg_X8_64, tb_X8_64, by omega⟩
theorem th_X8_60_258_64 : TH RX8 60 258 64 1 := ⟨(in_g 524 (by decide +kernel) rfl), (in_g 56 (by decide +kernel) rfl), ⟨"there is no frame", List.mem_of_getElem? (i := 795) (by decide +kernel)⟩, tg_X8_64, tb_X8_64, by omega⟩
theorem th_X8_60_272_64 : TH RX8 60 272 64 1 := ⟨(in_g 524 (by decide +kernel) rfl), (in_g 56 (by decide +kernel) rfl), ⟨"no state is remembered", List.mem_of_getElem? (i := 821) (by decide +kernel)⟩, tg_X8_64, tb_X8_64, by omega⟩
theorem th_X8_60_325_64 : TH RX8 60 325 64 1 := ⟨(in_g 524 (by decide +kernel) rfl), (in_g 56 (by decide +kernel) rfl), ⟨"nothing has been saved in this slot", List.mem_of_getElem? (i := 900) (by decide +kernel)⟩, tg_X8_64, tb_X8_64, by omega⟩
theorem tg_X8_169 : (∀ w ∈ (vx_atS RX8 169 (exn 2) nms).filter goodWord, w ∈ gtbl) := fun w hw => List.mem_filter.mpr ⟨(by decide +kernel : ∀ w ∈ (vx_atS RX8 169 (exn 2) nms).filter goodWord, w ∈ lw_tbl) w hw, (List.mem_filter.mp hw).2⟩
theorem tb_X8_169 : (∀ w ∈ (vx_atS RX8 169 (exn 2) nms).filter (fun w => !goodWord w), w ∈ lw_tbl ∧ (isNest w = true ∧ w.onTables = true)) := by decide +kernel
theorem th_X8_165_167_169 : TH RX8 165 167 169 2 := ⟨(in_g 647 (by decide +kernel) rfl), (in_g 57 (by decide +kernel) rfl), ⟨"no such tent", List.mem_of_getElem? (i := 656) (by decide +kernel)⟩, tg_X8_169, tb_X8_169, by omega⟩
theorem th_X8_165_190_169 : TH RX8 165 190 169 2 := ⟨(in_g 647 (by decide +kernel) rfl), (in_g 57 (by decide +kernel) rfl), ⟨"no such field", List.mem_of_getElem? (i := 678) (by decide +kernel)⟩, tg_X8_169, tb_X8_169, by omega⟩
theorem th_X8_165_212_169 : TH RX8 165 212 169 2 := ⟨(in_g 647 (by decide +kernel) rfl), (in_g 57 (by decide +kernel) rfl), ⟨"no such place", List.mem_of_getElem? (i := 692) (by decide +kernel)⟩, tg_X8_169, tb_X8_169, by omega⟩
theorem th_X8_165_220_169 : TH RX8 165 220 169 2 := ⟨(in_g 647 (by decide +kernel) rfl), (in_g 57 (by decide +kernel) rfl), ⟨"no such frame", List.mem_of_getElem? (i := 717) (by decide +kernel)⟩, tg_X8_169, tb_X8_169, by omega⟩
theorem th_X8_165_316_169 : TH RX8 165 316 169 2 := ⟨(in_g 647 (by decide +kernel) rfl), (in_g 57 (by decide +kernel) rfl), ⟨"no such save slot", List.mem_of_getElem? (i := 890) (by decide +kernel)⟩, tg_X8_169, tb_X8_169, by omega⟩
end
