section
-- ===== PART A: goes FIRST, ahead of the names: the tables' words, and 'selects' of the private methods out of them =====
/-- a private method of a class that the tables say can be made, by its rows of tables_1 -/
def lw_okq (q : MethodName × Nat) : Prop := (q.1.cls ≠ "java/lang/invoke/MethodHandle" ∧ q.1.cls ≠ "java/lang/invoke/VarHandle") ∧ Cond.instantiable q.1.cls q.2 ∈ tables_1 ∧ Cond.privateMethod q.1 ∈ tables_1 ∧ Cond.instanceMethod q.1 ∈ tables_1
theorem lw_p0 : lw_okq (⟨"TentCamp$Text", "readLetter", "()I"⟩, 7) := ⟨⟨by decide +kernel, by decide +kernel⟩, List.mem_of_getElem? (i := 220) (by decide +kernel), List.mem_of_getElem? (i := 293) (by decide +kernel), List.mem_of_getElem? (i := 294) (by decide +kernel)⟩
theorem lw_p1 : lw_okq (⟨"TentCamp$Text", "failAt", "(I)V"⟩, 7) := ⟨⟨by decide +kernel, by decide +kernel⟩, List.mem_of_getElem? (i := 220) (by decide +kernel), List.mem_of_getElem? (i := 305) (by decide +kernel), List.mem_of_getElem? (i := 306) (by decide +kernel)⟩
theorem lw_p2 : lw_okq (⟨"TentCamp$Text", "readNumber", "(III)I"⟩, 7) := ⟨⟨by decide +kernel, by decide +kernel⟩, List.mem_of_getElem? (i := 220) (by decide +kernel), List.mem_of_getElem? (i := 309) (by decide +kernel), List.mem_of_getElem? (i := 310) (by decide +kernel)⟩
theorem lw_p3 : lw_okq (⟨"TentCamp$Text", "digitHere", "()I"⟩, 7) := ⟨⟨by decide +kernel, by decide +kernel⟩, List.mem_of_getElem? (i := 220) (by decide +kernel), List.mem_of_getElem? (i := 313) (by decide +kernel), List.mem_of_getElem? (i := 314) (by decide +kernel)⟩
theorem lw_p4 : lw_okq (⟨"TentCamp$Text", "readStep", "()I"⟩, 7) := ⟨⟨by decide +kernel, by decide +kernel⟩, List.mem_of_getElem? (i := 220) (by decide +kernel), List.mem_of_getElem? (i := 321) (by decide +kernel), List.mem_of_getElem? (i := 322) (by decide +kernel)⟩
theorem lw_p5 : lw_okq (⟨"TentCamp$Camp", "openPlace", "(II)I"⟩, 12) := ⟨⟨by decide +kernel, by decide +kernel⟩, List.mem_of_getElem? (i := 28) (by decide +kernel), List.mem_of_getElem? (i := 358) (by decide +kernel), List.mem_of_getElem? (i := 359) (by decide +kernel)⟩
theorem lw_p6 : lw_okq (⟨"TentCamp$Camp", "newFieldSize", "(I)I"⟩, 12) := ⟨⟨by decide +kernel, by decide +kernel⟩, List.mem_of_getElem? (i := 28) (by decide +kernel), List.mem_of_getElem? (i := 366) (by decide +kernel), List.mem_of_getElem? (i := 367) (by decide +kernel)⟩
theorem lw_p7 : lw_okq (⟨"TentCamp$Camp", "wantsBig", "(I)Z"⟩, 12) := ⟨⟨by decide +kernel, by decide +kernel⟩, List.mem_of_getElem? (i := 28) (by decide +kernel), List.mem_of_getElem? (i := 370) (by decide +kernel), List.mem_of_getElem? (i := 371) (by decide +kernel)⟩
theorem lw_p8 : lw_okq (⟨"java/lang/Throwable", "fillInStackTrace", "(I)Ljava/lang/Throwable;"⟩, 6) := ⟨⟨by decide +kernel, by decide +kernel⟩, List.mem_of_getElem? (i := 455) (by decide +kernel), List.mem_of_getElem? (i := 453) (by decide +kernel), List.mem_of_getElem? (i := 454) (by decide +kernel)⟩
theorem lw_p9 : lw_okq (⟨"TentCamp$Camp", "strikeTents", "(I)I"⟩, 12) := ⟨⟨by decide +kernel, by decide +kernel⟩, List.mem_of_getElem? (i := 28) (by decide +kernel), List.mem_of_getElem? (i := 542) (by decide +kernel), List.mem_of_getElem? (i := 543) (by decide +kernel)⟩
theorem lw_p10 : lw_okq (⟨"TentCamp$Camp", "clearFields", "(I)V"⟩, 12) := ⟨⟨by decide +kernel, by decide +kernel⟩, List.mem_of_getElem? (i := 28) (by decide +kernel), List.mem_of_getElem? (i := 562) (by decide +kernel), List.mem_of_getElem? (i := 563) (by decide +kernel)⟩
theorem lw_p11 : lw_okq (⟨"TentCamp$Camp", "giveUpTooMuch", "()V"⟩, 12) := ⟨⟨by decide +kernel, by decide +kernel⟩, List.mem_of_getElem? (i := 28) (by decide +kernel), List.mem_of_getElem? (i := 566) (by decide +kernel), List.mem_of_getElem? (i := 567) (by decide +kernel)⟩
theorem lw_p12 : lw_okq (⟨"TentCamp$Fields", "countAheadOf", "(I)I"⟩, 5) := ⟨⟨by decide +kernel, by decide +kernel⟩, List.mem_of_getElem? (i := 106) (by decide +kernel), List.mem_of_getElem? (i := 666) (by decide +kernel), List.mem_of_getElem? (i := 667) (by decide +kernel)⟩
theorem lw_p13 : lw_okq (⟨"TentCamp$Shelf", "at", "(I)LTentCamp$Camp;"⟩, 1) := ⟨⟨by decide +kernel, by decide +kernel⟩, List.mem_of_getElem? (i := 195) (by decide +kernel), List.mem_of_getElem? (i := 702) (by decide +kernel), List.mem_of_getElem? (i := 703) (by decide +kernel)⟩
theorem lw_p14 : lw_okq (⟨"TentCampModel", "refused", "(I)Z"⟩, 13) := ⟨⟨by decide +kernel, by decide +kernel⟩, List.mem_of_getElem? (i := 863) (by decide +kernel), List.mem_of_getElem? (i := 925) (by decide +kernel), List.mem_of_getElem? (i := 926) (by decide +kernel)⟩
theorem lw_p15 : lw_okq (⟨"TentCampModel", "readText", "()I"⟩, 13) := ⟨⟨by decide +kernel, by decide +kernel⟩, List.mem_of_getElem? (i := 863) (by decide +kernel), List.mem_of_getElem? (i := 937) (by decide +kernel), List.mem_of_getElem? (i := 938) (by decide +kernel)⟩
def lw_privs_1 : List (MethodName × Nat) := [(⟨"TentCamp$Text", "readLetter", "()I"⟩, 7), (⟨"TentCamp$Text", "failAt", "(I)V"⟩, 7), (⟨"TentCamp$Text", "readNumber", "(III)I"⟩, 7), (⟨"TentCamp$Text", "digitHere", "()I"⟩, 7), (⟨"TentCamp$Text", "readStep", "()I"⟩, 7), (⟨"TentCamp$Camp", "openPlace", "(II)I"⟩, 12), (⟨"TentCamp$Camp", "newFieldSize", "(I)I"⟩, 12), (⟨"TentCamp$Camp", "wantsBig", "(I)Z"⟩, 12), (⟨"java/lang/Throwable", "fillInStackTrace", "(I)Ljava/lang/Throwable;"⟩, 6), (⟨"TentCamp$Camp", "strikeTents", "(I)I"⟩, 12), (⟨"TentCamp$Camp", "clearFields", "(I)V"⟩, 12), (⟨"TentCamp$Camp", "giveUpTooMuch", "()V"⟩, 12), (⟨"TentCamp$Fields", "countAheadOf", "(I)I"⟩, 5), (⟨"TentCamp$Shelf", "at", "(I)LTentCamp$Camp;"⟩, 1), (⟨"TentCampModel", "refused", "(I)Z"⟩, 13), (⟨"TentCampModel", "readText", "()I"⟩, 13)]
theorem lw_r1 : ∀ q ∈ lw_privs_1, lw_okq q := List.forall_mem_cons.mpr ⟨lw_p0, List.forall_mem_cons.mpr ⟨lw_p1, List.forall_mem_cons.mpr ⟨lw_p2, List.forall_mem_cons.mpr ⟨lw_p3, List.forall_mem_cons.mpr ⟨lw_p4, List.forall_mem_cons.mpr ⟨lw_p5, List.forall_mem_cons.mpr ⟨lw_p6, List.forall_mem_cons.mpr ⟨lw_p7, List.forall_mem_cons.mpr ⟨lw_p8, List.forall_mem_cons.mpr ⟨lw_p9, List.forall_mem_cons.mpr ⟨lw_p10, List.forall_mem_cons.mpr ⟨lw_p11, List.forall_mem_cons.mpr ⟨lw_p12, List.forall_mem_cons.mpr ⟨lw_p13, List.forall_mem_cons.mpr ⟨lw_p14, List.forall_mem_cons.mpr ⟨lw_p15, fun _ h => absurd h List.not_mem_nil⟩⟩⟩⟩⟩⟩⟩⟩⟩⟩⟩⟩⟩⟩⟩⟩
theorem lw_p16 : lw_okq (⟨"TentCampModel", "isNext", "(I)Z"⟩, 13) := ⟨⟨by decide +kernel, by decide +kernel⟩, List.mem_of_getElem? (i := 863) (by decide +kernel), List.mem_of_getElem? (i := 941) (by decide +kernel), List.mem_of_getElem? (i := 942) (by decide +kernel)⟩
theorem lw_p17 : lw_okq (⟨"TentCampModel", "accept", "(Z)V"⟩, 13) := ⟨⟨by decide +kernel, by decide +kernel⟩, List.mem_of_getElem? (i := 863) (by decide +kernel), List.mem_of_getElem? (i := 945) (by decide +kernel), List.mem_of_getElem? (i := 946) (by decide +kernel)⟩
theorem lw_p18 : lw_okq (⟨"TentCampModel", "two", "(II)I"⟩, 13) := ⟨⟨by decide +kernel, by decide +kernel⟩, List.mem_of_getElem? (i := 863) (by decide +kernel), List.mem_of_getElem? (i := 949) (by decide +kernel), List.mem_of_getElem? (i := 950) (by decide +kernel)⟩
theorem lw_p19 : lw_okq (⟨"TentCampModel", "digit", "(II)I"⟩, 13) := ⟨⟨by decide +kernel, by decide +kernel⟩, List.mem_of_getElem? (i := 863) (by decide +kernel), List.mem_of_getElem? (i := 953) (by decide +kernel), List.mem_of_getElem? (i := 954) (by decide +kernel)⟩
theorem lw_p20 : lw_okq (⟨"TentCampModel", "readCommand", "()V"⟩, 13) := ⟨⟨by decide +kernel, by decide +kernel⟩, List.mem_of_getElem? (i := 863) (by decide +kernel), List.mem_of_getElem? (i := 958) (by decide +kernel), List.mem_of_getElem? (i := 959) (by decide +kernel)⟩
theorem lw_p21 : lw_okq (⟨"TentCampModel", "readPitch", "()V"⟩, 13) := ⟨⟨by decide +kernel, by decide +kernel⟩, List.mem_of_getElem? (i := 863) (by decide +kernel), List.mem_of_getElem? (i := 962) (by decide +kernel), List.mem_of_getElem? (i := 963) (by decide +kernel)⟩
theorem lw_p22 : lw_okq (⟨"TentCampModel", "stepRead", "()I"⟩, 13) := ⟨⟨by decide +kernel, by decide +kernel⟩, List.mem_of_getElem? (i := 863) (by decide +kernel), List.mem_of_getElem? (i := 966) (by decide +kernel), List.mem_of_getElem? (i := 967) (by decide +kernel)⟩
theorem lw_p23 : lw_okq (⟨"TentCampModel", "readFill", "()V"⟩, 13) := ⟨⟨by decide +kernel, by decide +kernel⟩, List.mem_of_getElem? (i := 863) (by decide +kernel), List.mem_of_getElem? (i := 1027) (by decide +kernel), List.mem_of_getElem? (i := 1028) (by decide +kernel)⟩
theorem lw_p24 : lw_okq (⟨"TentCampModel", "readFrame", "(ZZ)V"⟩, 13) := ⟨⟨by decide +kernel, by decide +kernel⟩, List.mem_of_getElem? (i := 863) (by decide +kernel), List.mem_of_getElem? (i := 1034) (by decide +kernel), List.mem_of_getElem? (i := 1035) (by decide +kernel)⟩
theorem lw_p25 : lw_okq (⟨"TentCampModel", "isTent", "(I)Z"⟩, 13) := ⟨⟨by decide +kernel, by decide +kernel⟩, List.mem_of_getElem? (i := 863) (by decide +kernel), List.mem_of_getElem? (i := 1084) (by decide +kernel), List.mem_of_getElem? (i := 1085) (by decide +kernel)⟩
theorem lw_p26 : lw_okq (⟨"TentCampModel", "frameOf", "(I)I"⟩, 13) := ⟨⟨by decide +kernel, by decide +kernel⟩, List.mem_of_getElem? (i := 863) (by decide +kernel), List.mem_of_getElem? (i := 1089) (by decide +kernel), List.mem_of_getElem? (i := 1090) (by decide +kernel)⟩
theorem lw_p27 : lw_okq (⟨"TentCampModel", "isField", "(I)Z"⟩, 13) := ⟨⟨by decide +kernel, by decide +kernel⟩, List.mem_of_getElem? (i := 863) (by decide +kernel), List.mem_of_getElem? (i := 1097) (by decide +kernel), List.mem_of_getElem? (i := 1098) (by decide +kernel)⟩
theorem lw_p28 : lw_okq (⟨"TentCampModel", "tentsOn", "(I)I"⟩, 13) := ⟨⟨by decide +kernel, by decide +kernel⟩, List.mem_of_getElem? (i := 863) (by decide +kernel), List.mem_of_getElem? (i := 1101) (by decide +kernel), List.mem_of_getElem? (i := 1102) (by decide +kernel)⟩
theorem lw_p29 : lw_okq (⟨"TentCampModel", "poisonOn", "(I)I"⟩, 13) := ⟨⟨by decide +kernel, by decide +kernel⟩, List.mem_of_getElem? (i := 863) (by decide +kernel), List.mem_of_getElem? (i := 1105) (by decide +kernel), List.mem_of_getElem? (i := 1106) (by decide +kernel)⟩
theorem lw_p30 : lw_okq (⟨"TentCampModel", "isFrame", "(I)Z"⟩, 13) := ⟨⟨by decide +kernel, by decide +kernel⟩, List.mem_of_getElem? (i := 863) (by decide +kernel), List.mem_of_getElem? (i := 1121) (by decide +kernel), List.mem_of_getElem? (i := 1122) (by decide +kernel)⟩
theorem lw_p31 : lw_okq (⟨"TentCampModel", "remember", "()V"⟩, 13) := ⟨⟨by decide +kernel, by decide +kernel⟩, List.mem_of_getElem? (i := 863) (by decide +kernel), List.mem_of_getElem? (i := 1134) (by decide +kernel), List.mem_of_getElem? (i := 1135) (by decide +kernel)⟩
def lw_privs_2 : List (MethodName × Nat) := [(⟨"TentCampModel", "isNext", "(I)Z"⟩, 13), (⟨"TentCampModel", "accept", "(Z)V"⟩, 13), (⟨"TentCampModel", "two", "(II)I"⟩, 13), (⟨"TentCampModel", "digit", "(II)I"⟩, 13), (⟨"TentCampModel", "readCommand", "()V"⟩, 13), (⟨"TentCampModel", "readPitch", "()V"⟩, 13), (⟨"TentCampModel", "stepRead", "()I"⟩, 13), (⟨"TentCampModel", "readFill", "()V"⟩, 13), (⟨"TentCampModel", "readFrame", "(ZZ)V"⟩, 13), (⟨"TentCampModel", "isTent", "(I)Z"⟩, 13), (⟨"TentCampModel", "frameOf", "(I)I"⟩, 13), (⟨"TentCampModel", "isField", "(I)Z"⟩, 13), (⟨"TentCampModel", "tentsOn", "(I)I"⟩, 13), (⟨"TentCampModel", "poisonOn", "(I)I"⟩, 13), (⟨"TentCampModel", "isFrame", "(I)Z"⟩, 13), (⟨"TentCampModel", "remember", "()V"⟩, 13)]
theorem lw_r2 : ∀ q ∈ lw_privs_2, lw_okq q := List.forall_mem_cons.mpr ⟨lw_p16, List.forall_mem_cons.mpr ⟨lw_p17, List.forall_mem_cons.mpr ⟨lw_p18, List.forall_mem_cons.mpr ⟨lw_p19, List.forall_mem_cons.mpr ⟨lw_p20, List.forall_mem_cons.mpr ⟨lw_p21, List.forall_mem_cons.mpr ⟨lw_p22, List.forall_mem_cons.mpr ⟨lw_p23, List.forall_mem_cons.mpr ⟨lw_p24, List.forall_mem_cons.mpr ⟨lw_p25, List.forall_mem_cons.mpr ⟨lw_p26, List.forall_mem_cons.mpr ⟨lw_p27, List.forall_mem_cons.mpr ⟨lw_p28, List.forall_mem_cons.mpr ⟨lw_p29, List.forall_mem_cons.mpr ⟨lw_p30, List.forall_mem_cons.mpr ⟨lw_p31, fun _ h => absurd h List.not_mem_nil⟩⟩⟩⟩⟩⟩⟩⟩⟩⟩⟩⟩⟩⟩⟩⟩
theorem lw_p32 : lw_okq (⟨"TentCampModel", "begin", "()V"⟩, 13) := ⟨⟨by decide +kernel, by decide +kernel⟩, List.mem_of_getElem? (i := 863) (by decide +kernel), List.mem_of_getElem? (i := 1174) (by decide +kernel), List.mem_of_getElem? (i := 1175) (by decide +kernel)⟩
theorem lw_p33 : lw_okq (⟨"TentCampModel", "needs", "(I)I"⟩, 13) := ⟨⟨by decide +kernel, by decide +kernel⟩, List.mem_of_getElem? (i := 863) (by decide +kernel), List.mem_of_getElem? (i := 1182) (by decide +kernel), List.mem_of_getElem? (i := 1183) (by decide +kernel)⟩
theorem lw_p34 : lw_okq (⟨"TentCampModel", "does", "(I)Z"⟩, 13) := ⟨⟨by decide +kernel, by decide +kernel⟩, List.mem_of_getElem? (i := 863) (by decide +kernel), List.mem_of_getElem? (i := 1200) (by decide +kernel), List.mem_of_getElem? (i := 1201) (by decide +kernel)⟩
theorem lw_p35 : lw_okq (⟨"TentCampModel", "pitches", "(II)Z"⟩, 13) := ⟨⟨by decide +kernel, by decide +kernel⟩, List.mem_of_getElem? (i := 863) (by decide +kernel), List.mem_of_getElem? (i := 1204) (by decide +kernel), List.mem_of_getElem? (i := 1205) (by decide +kernel)⟩
theorem lw_p36 : lw_okq (⟨"TentCampModel", "enters", "()Z"⟩, 13) := ⟨⟨by decide +kernel, by decide +kernel⟩, List.mem_of_getElem? (i := 863) (by decide +kernel), List.mem_of_getElem? (i := 1208) (by decide +kernel), List.mem_of_getElem? (i := 1209) (by decide +kernel)⟩
theorem lw_p37 : lw_okq (⟨"TentCampModel", "leaves", "()Z"⟩, 13) := ⟨⟨by decide +kernel, by decide +kernel⟩, List.mem_of_getElem? (i := 863) (by decide +kernel), List.mem_of_getElem? (i := 1212) (by decide +kernel), List.mem_of_getElem? (i := 1213) (by decide +kernel)⟩
theorem lw_p38 : lw_okq (⟨"TentCampModel", "jumps", "(I)Z"⟩, 13) := ⟨⟨by decide +kernel, by decide +kernel⟩, List.mem_of_getElem? (i := 863) (by decide +kernel), List.mem_of_getElem? (i := 1216) (by decide +kernel), List.mem_of_getElem? (i := 1217) (by decide +kernel)⟩
theorem lw_p39 : lw_okq (⟨"TentCampModel", "stir", "(I)V"⟩, 13) := ⟨⟨by decide +kernel, by decide +kernel⟩, List.mem_of_getElem? (i := 863) (by decide +kernel), List.mem_of_getElem? (i := 1226) (by decide +kernel), List.mem_of_getElem? (i := 1227) (by decide +kernel)⟩
def lw_privs_3 : List (MethodName × Nat) := [(⟨"TentCampModel", "begin", "()V"⟩, 13), (⟨"TentCampModel", "needs", "(I)I"⟩, 13), (⟨"TentCampModel", "does", "(I)Z"⟩, 13), (⟨"TentCampModel", "pitches", "(II)Z"⟩, 13), (⟨"TentCampModel", "enters", "()Z"⟩, 13), (⟨"TentCampModel", "leaves", "()Z"⟩, 13), (⟨"TentCampModel", "jumps", "(I)Z"⟩, 13), (⟨"TentCampModel", "stir", "(I)V"⟩, 13)]
theorem lw_r3 : ∀ q ∈ lw_privs_3, lw_okq q := List.forall_mem_cons.mpr ⟨lw_p32, List.forall_mem_cons.mpr ⟨lw_p33, List.forall_mem_cons.mpr ⟨lw_p34, List.forall_mem_cons.mpr ⟨lw_p35, List.forall_mem_cons.mpr ⟨lw_p36, List.forall_mem_cons.mpr ⟨lw_p37, List.forall_mem_cons.mpr ⟨lw_p38, List.forall_mem_cons.mpr ⟨lw_p39, fun _ h => absurd h List.not_mem_nil⟩⟩⟩⟩⟩⟩⟩⟩
def lw_privs : List (MethodName × Nat) := lw_privs_1 ++ (lw_privs_2 ++ (lw_privs_3))
def lw_tbl : List Cond := k2_sels lw_privs ++ tables_1
theorem lw_privs_ok : ∀ q ∈ lw_privs, lw_okq q := by
  show ∀ q ∈ lw_privs_1 ++ (lw_privs_2 ++ (lw_privs_3)), lw_okq q
  exact List.forall_mem_append.mpr ⟨lw_r1, List.forall_mem_append.mpr ⟨lw_r2, lw_r3⟩⟩
end
section
/-! ===== BEGIN words of one list among another's, by their places ===== -/
theorem goodIn_r {big : List Cond} (ws : List Cond) (ps : List Nat) (hp : ws = ps.filterMap (fun i => big[i]?)) (h : ws.all goodWord = true) : GoodIn big ws := by
  intro w hw
  have h1 := List.all_eq_true.mp h w hw
  rw [hp] at hw
  obtain ⟨i, -, hi⟩ := List.mem_filterMap.mp hw
  have hm : w ∈ big := by first | exact List.mem_of_getElem? hi | exact List.getElem?_mem hi
  exact ⟨hm, good_of_word h1⟩
theorem goodIn_app {big a b : List Cond} (ha : GoodIn big a) (hb : GoodIn big b) : GoodIn big (a ++ b) := fun w h => (List.mem_append.mp h).elim (ha w) (hb w)
theorem goodIn_ca {big a b : List Cond} {c : Cond} (ha : GoodIn big (c :: a)) (hb : GoodIn big b) : GoodIn big (c :: (a ++ b)) := fun w h => (List.mem_cons.mp h).elim (fun e => ha w (List.mem_cons.mpr (Or.inl e))) (fun h => (List.mem_append.mp h).elim (fun h => ha w (List.mem_cons.mpr (Or.inr h))) (hb w))
theorem goodIn_sub {big ws : List Cond} (hm : ∀ w ∈ ws, w ∈ big) (h : ws.all goodWord = true) : GoodIn big ws := fun w hw => ⟨hm w hw, good_of_word (List.all_eq_true.mp h w hw)⟩
/-! ===== END ===== -/

/-! ===== BEGIN exceptions that leave a method, and their catching by the caller (launches without stack traces) ===== -/
section VXA
/-! The laws vx_back, vx_callV, vx_callS, vx_callSW, vx_throw0, vx_throwS follow proofs of the library, with one case more: JvmDerived/Free/Laws.lean (Back.of_free), Shelf42/LK1.lean (callV, callS), Shelf/KitTraced.lean (throwNew0V, throwNewS). -/
/-- where a method has thrown q: the class by its name, the cell, what was written, the world -/
def vx_T (XC : String → State → State → Prop) (st : State) (q : Addr) (t : State) (mc ms : Nat) (free : Addr → Prop) : Prop :=
  ∃ (E : String) (ce : Cell) (L : List Loc), XC E st t ∧ t.heap[q]? = some ce ∧ ce.vm = .none ∧ st.vm.findClass E = some ce.cls ∧ st.WarmedH t.vm ∧ st.sameButNew ({ t with vm := st.vm } : State) L mc ms ∧ ∀ z ∈ L, free z.base
def vx_Q (Qc : Array Value → State → Outcome → State → Prop) (XC : String → State → State → Prop) (mc ms : Nat) (free : Addr → Prop) : Array Value → State → Outcome → State → Prop := fun a st o t =>
  (Qc a st o t ∧ ∃ L, FrameEnd st o t L mc ms ∧ ∀ q ∈ L, free q.base) ∨ ∃ q, o = .threw q ∧ vx_T XC st q t mc ms free
/-- a callee that returns or throws -/
def vx_Met (l : Launch) (y : MethodName) (ws : List Cond) (rm : Room) (Pc : Array Value → State → Prop) (Qc : Array Value → State → Outcome → State → Prop) (XC : String → State → State → Prop) (mc ms : Nat) (free : Addr → Prop) : Prop :=
  MetFree l y (headSpec ws rm) Pc (fun _ _ _ _ _ => True) (vx_Q Qc XC mc ms free)
def vx_Post (XC : String → State → State → Prop) (mc ms : Nat) (free : Addr → Prop) : Pt → Array Value → Addr → Pt → Prop := fun A a q B =>
  ∃ (g : JFrame) (mk : MethodId) (t : State) (L : List Loc) (E : String) (ce : Cell), B.U.heap = t.heap ∧ B.U.vm = t.vm ∧ XC E (A.U.calling g mk a) t ∧ t.heap[q]? = some ce ∧ ce.vm = .none ∧ A.U.vm.findClass E = some ce.cls ∧ B.locs = A.locs ++ L ∧ (∀ z ∈ L, free z.base) ∧ B.cells = A.cells + mc ∧ B.slots = A.slots + ms
def vx_Back (l : Launch) (R : Room) (p : Program) (e : Env) (below : List Frame) (s : State) (sargs : Array Value) (y : MethodName) (len W9 : Nat)
    (Pre : Pt → Array Value → Prop) (Post : Pt → Array Value → Option Value → Pt → Prop) (PostX : Pt → Array Value → Addr → Pt → Prop) : Prop :=
  ∀ (m : MethodId) (meth : Method) (c : Code) (A : Pt) (g : JFrame) (ig : Instr) (mk : MethodId) (a : Array Value),
    Stand p l e R s m sargs below meth c A.U A.locs A.cells A.slots → g.method = m → g.locals.size = c.maxLocals → decode c.code g.pc = .ok (ig, len) →
    2 * g.monitorRoom + (g.stack.map fun v => v.category).sum ≤ W9 → A.U.methodNamed? y = some mk → Pre A a →
    (∃ (v : Option Value) (B : Pt), Stand p l e R s m sargs below meth c B.U B.locs B.cells B.slots ∧ Post A a v B ∧
      Steps p.tables e below (doInvoke e (A.U.setTop g) [] mk a).1 (B.U.setTop { g with pc := g.pc + len, stack := v.toList ++ g.stack })) ∨
    (∃ (q : Addr) (B : Pt), Stand p l e R s m sargs below meth c B.U B.locs B.cells B.slots ∧ PostX A a q B ∧
      Steps p.tables e below (doInvoke e (A.U.setTop g) [] mk a).1 ((B.U.setTop g).pushFrame (.throwing q)))
section Payer
variable {l : Launch} {R : Room} {p : Program} {e : Env} {below : List Frame} {s : State} {sargs : Array Value} {y : MethodName} {len W9 : Nat}
theorem vx_back {ws : List Cond} {rm : Room} {Pc : Array Value → State → Prop} {Qc : Array Value → State → Outcome → State → Prop} {XC : String → State → State → Prop} {mc ms : Nat} {free : Addr → Prop} {bytes : ByteArray} {maxL : Nat} {ret : Option FieldType}
    (hM : vx_Met l y ws rm Pc Qc XC mc ms free) (hblind : FrameBlind Pc) (hrc : rm.cells = mc) (hrs : rm.slots = ms)
    (hframes : rm.frames + 1 ≤ R.frames) (hlocals : W9 + (maxL + 11) + rm.locals ≤ R.locals)
    (hws : ∀ w ∈ ws, ∀ a' U, s.WarmedH U.vm → w.before a' U = true) (hcode : Cond.code y bytes maxL ret ∈ ws) (hinit : ∀ a' U, s.WarmedH U.vm → (Cond.initialized y.cls).before a' U = true) :
    vx_Back l R p e below s sargs y len W9 (PreOf R mc ms Pc) (PostOf Qc mc ms free) (vx_Post XC mc ms free) := by
  intro m meth c A g ig mk a X hg hsize hdg hW hn hp
  have h1 : (headSpec ws rm).pre.before a A.U = true := atoms_intro fun w hw => hws w hw _ _ X.warmed
  have h2 : (Cond.code y bytes maxL ret).before a A.U = true := hws _ hcode _ _ X.warmed
  have h3 : (Cond.initialized y.cls).before a A.U = true := hinit _ _ X.warmed
  have h4 : A.cells + (headSpec ws rm).room.cells ≤ R.cells := by rw [show (headSpec ws rm).room.cells = mc from hrc]; exact hp.1
  have h5 : A.slots + (headSpec ws rm).room.slots ≤ R.slots := by rw [show (headSpec ws rm).room.slots = ms from hrs]; exact hp.2.1
  have hPc : Pc a (A.U.calling g mk a) := hblind _ _ _ _ hp.2.2
  obtain ⟨U, Ls, c0, s0⟩ := A
  dsimp only [Pt.U, Pt.locs, Pt.cells, Pt.slots] at h1 h2 h3 h4 h5 X hn hPc ⊢
  obtain ⟨methY, cY, hmY, hcY, -, hlY, -, -, -, -⟩ := Cond.code_spec hn h2
  obtain ⟨kY, hkY, -⟩ := className_of_methodNamed hn
  have hinitY : kY.init = .initialized := Cond.initialized_spec (findClass_of_methodNamed hn) hkY h3
  have h : At U g.method c below := by rw [hg]; exact X.here
  have hlocals9 : W9 + (maxL + 11) + (headSpec ws rm).room.locals ≤ R.locals := hlocals
  have happ : (headSpec ws rm).appliesLoose y e.platform (U.calling g mk a) = true :=
    Spec.appliesLoose_calling (g := g) h hdg hn hkY hinitY
      (X.room_calling (g := g) (R' := (headSpec ws rm).room) hsize hmY hcY hframes (by rw [hlY]; omega) h4 h5) h1
  obtain ⟨mid, hmid⟩ := h.above
  have hfr : (U.setTop g).frames = (.java g :: mid) ++ below := by rw [State.frames_setTop' g h.top, hmid]; rfl
  obtain ⟨o, s₂, hsteps, -, hend, hq⟩ := Steps.callFree hM p X.admits X.cas X.clock (acts := []) hfr happ hPc trivial
  have hq' : vx_Q Qc XC mc ms free a (U.calling g mk a) o s₂ := hq
  rw [State.frames_setTop' g h.top] at hend
  obtain ⟨g₀, hg0⟩ := Option.isSome_iff_exists.mp h.top
  obtain ⟨r, hr⟩ := State.topJava?_eq_some.mp hg0
  have hr' : (({ U with heap := s₂.heap, slotsUsed := s₂.slotsUsed } : State).setVm s₂.vm).frames = .java g₀ :: r := hr
  rcases hq' with ⟨hqc, L, hfe, hL⟩ | ⟨q, rfl, E, ce, L, hx, hce, hcv, hcl, hW₂, hsm, hL⟩
  · obtain ⟨⟨v, rfl⟩, hW₂, e2, q2, q3, q4, q5, q6⟩ := id hfe
    have e3 : s₂ = ({ (U.calling g mk a).setFrames s₂.frames with heap := s₂.heap, slotsUsed := s₂.slotsUsed } : State).setVm s₂.vm := by
      have : s₂ = ({ s₂ with vm := (U.calling g mk a).vm } : State).setVm s₂.vm := rfl
      rw [e2] at this
      exact this
    obtain ⟨c₂, i₂, len₂, hc₂, hd₂, hf₂⟩ := hend
    have hW' : U.WarmedH s₂.vm := hW₂
    have hcc : c₂ = c := by
      have h1 : s₂.code? g.method = U.code? g.method := by
        rw [State.code?_eq, State.code?_eq, hW'.alike.method?]
      exact Option.some.inj (hc₂.symm.trans (h1.trans h.code))
    subst hcc
    have hlen : len₂ = len := by rw [hdg] at hd₂; cases hd₂; rfl
    subst hlen
    have hs₂ : s₂ = (({ U with heap := s₂.heap, slotsUsed := s₂.slotsUsed } : State).setVm s₂.vm).setTop { g with pc := g.pc + len₂, stack := v.toList ++ g.stack } := by
      refine e3.trans ?_
      rw [hf₂, State.calling_eq h.top, State.setFrames_setFrames, State.setTop_of_frames _ hr', hr]
      rfl
    have hsame : U.sameButNew ({ U with heap := s₂.heap, slotsUsed := s₂.slotsUsed } : State) L mc ms := by
      refine ⟨?_, q2, q3, q4, q5, q6⟩
      obtain ⟨t, ht, -⟩ := State.frames_cons hr
      show ({ U with heap := s₂.heap, slotsUsed := s₂.slotsUsed } : State) = { U.setFrames U.frames with heap := s₂.heap, slotsUsed := s₂.slotsUsed }
      rw [State.setFrames_self ht]
    subst hg
    refine Or.inl ⟨v, ⟨(({ U with heap := s₂.heap, slotsUsed := s₂.slotsUsed } : State).setVm s₂.vm), Ls ++ L, c0 + mc, s0 + ms⟩,
      ⟨X.admits, X.cas, X.clock, X.frames, X.room, X.hears, X.method, X.code, (X.here.setHeapUsed s₂.heap s₂.slotsUsed).setVm hW'.alike, X.tail, State.WarmedH.trans X.warmed hW', X.limits, X.bytes, X.same.trans (hsame.setVm s.vm)⟩,
      ⟨g, mk, s₂, L, rfl, rfl, hqc, rfl, hL, rfl, rfl⟩, ?_⟩
    show Steps p.tables e below _ ((({ U with heap := s₂.heap, slotsUsed := s₂.slotsUsed } : State).setVm s₂.vm).setTop { g with pc := g.pc + len₂, stack := v.toList ++ g.stack })
    rw [← hs₂]
    exact hsteps
  · obtain ⟨e2, q2, q3, q4, q5, q6⟩ := id hsm
    have e3 : s₂ = ({ (U.calling g mk a).setFrames s₂.frames with heap := s₂.heap, slotsUsed := s₂.slotsUsed } : State).setVm s₂.vm := by
      have : s₂ = ({ s₂ with vm := (U.calling g mk a).vm } : State).setVm s₂.vm := rfl
      rw [e2] at this
      exact this
    have hf₂ : s₂.frames = .throwing q :: .java g :: U.frames.tail := hend
    have hW' : U.WarmedH s₂.vm := hW₂
    have hs₂ : s₂ = ((({ U with heap := s₂.heap, slotsUsed := s₂.slotsUsed } : State).setVm s₂.vm).setTop g).pushFrame (.throwing q) := by
      refine e3.trans ?_
      rw [hf₂, State.calling_eq h.top, State.setFrames_setFrames, State.pushFrame, State.frames_setTop _ hr', State.setTop_of_frames _ hr', State.setFrames_setFrames, hr]
      rfl
    have hsame : U.sameButNew ({ U with heap := s₂.heap, slotsUsed := s₂.slotsUsed } : State) L mc ms := by
      refine ⟨?_, q2, q3, q4, q5, q6⟩
      obtain ⟨t, ht, -⟩ := State.frames_cons hr
      show ({ U with heap := s₂.heap, slotsUsed := s₂.slotsUsed } : State) = { U.setFrames U.frames with heap := s₂.heap, slotsUsed := s₂.slotsUsed }
      rw [State.setFrames_self ht]
    subst hg
    refine Or.inr ⟨q, ⟨(({ U with heap := s₂.heap, slotsUsed := s₂.slotsUsed } : State).setVm s₂.vm), Ls ++ L, c0 + mc, s0 + ms⟩,
      ⟨X.admits, X.cas, X.clock, X.frames, X.room, X.hears, X.method, X.code, (X.here.setHeapUsed s₂.heap s₂.slotsUsed).setVm hW'.alike, X.tail, State.WarmedH.trans X.warmed hW', X.limits, X.bytes, X.same.trans (hsame.setVm s.vm)⟩,
      ⟨g, mk, s₂, L, E, ce, rfl, rfl, hx, hce, hcv, hcl, rfl, hL, rfl, rfl⟩, ?_⟩
    show Steps p.tables e below _ (((({ U with heap := s₂.heap, slotsUsed := s₂.slotsUsed } : State).setVm s₂.vm).setTop g).pushFrame (.throwing q))
    rw [← hs₂]
    exact hsteps
end Payer
section Calls
variable {p : Program} {l : Launch} {e : Env} {R : Room} {s : State} {m : MethodId} {args : Array Value} {below : List Frame} {meth : Method} {c : Code} {T : State} {locs : List Loc} {cells slots : Nat}
theorem vx_callV (X : Stand p l e R s m args below meth c T locs cells slots) (hexec : p.tables.exec = Jvm.exec) {own C : String} {index : Nat} {y : MethodName} {bytes : ByteArray} {maxL : Nat} {ret : Option FieldType}
    (hown : s.vm.findClass own = some m.cls) (hlink : (Cond.methodLink own index y).before args s = true) (hinst : (Cond.instanceMethod y).before args s = true) (hsel : (Cond.selects C y y).before args s = true)
    (hcode : (Cond.code y bytes maxL ret).before args s = true) (hy : y.cls ≠ "java/lang/invoke/MethodHandle" ∧ y.cls ≠ "java/lang/invoke/VarHandle")
    {W9 : Nat} {Pre : Pt → Array Value → Prop} {Post : Pt → Array Value → Option Value → Pt → Prop} {PostX : Pt → Array Value → Addr → Pt → Prop} (hK : vx_Back l R p e below s args y 3 W9 Pre Post PostX)
    {b : Addr} {cellB : Cell} (hcell : T.heap[b]? = some cellB) (hobj : cellB.vm.isStatics = false) (hcls : s.vm.findClass C = some cellB.cls)
    {g : JFrame} (hg : g.method = m) (hsize : g.locals.size = c.maxLocals) {argsL rest : List Value} (hlen : ∀ sig, parseMethodDescriptor y.desc = some sig → argsL.length = sig.parameters.length)
    (hstack : g.stack = argsL.reverse ++ .ref b :: rest) (hW : 2 * g.monitorRoom + (rest.map fun v => v.category).sum ≤ W9) (hdg : decode c.code g.pc = .ok (.invokevirtual index, 3))
    (hpre : ∀ vm₁, s.WarmedH vm₁ → Pre ⟨T.setVm vm₁, locs, cells, slots⟩ (Value.ref b :: argsL).toArray) :
    (∃ (v : Option Value) (vm₁ : Vm) (B : Pt), s.WarmedH vm₁ ∧ Stand p l e R s m args below meth c B.U B.locs B.cells B.slots ∧ Post ⟨T.setVm vm₁, locs, cells, slots⟩ (Value.ref b :: argsL).toArray v B ∧
      ∀ target, Steps p.tables e below (B.U.setTop { g with pc := g.pc + 3, stack := v.toList ++ rest }) target → Steps p.tables e below (T.setTop g) target) ∨
    (∃ (q : Addr) (vm₁ : Vm) (B : Pt), s.WarmedH vm₁ ∧ Stand p l e R s m args below meth c B.U B.locs B.cells B.slots ∧ PostX ⟨T.setVm vm₁, locs, cells, slots⟩ (Value.ref b :: argsL).toArray q B ∧
      Steps p.tables e below (T.setTop g) ((B.U.setTop { g with stack := rest }).pushFrame (.throwing q))) := by
  obtain ⟨mk, methM, hnamed, hmethM, hstM, habM⟩ := Cond.instanceMethod_spec hinst
  obtain ⟨methM', cM, hmethM', -, -, -, -, -, -, hsigM⟩ := Cond.code_spec hnamed hcode
  cases hmethM.symm.trans hmethM'
  obtain ⟨c2, r2, m2, q1, q2, q3, q4, kP, hkP, hkPi⟩ := Cond.selects_spec hsel
  cases hcls.symm.trans q1
  cases (State.methodFound?_of_named hnamed hy).symm.trans q2
  cases hnamed.symm.trans q3
  have hselP : selectMethod e.platform s.vm cellB.cls mk = .method mk := by rw [Launch.admits_selectMethod X.admits]; exact q4
  obtain ⟨vm₁, X₁, hstep₁⟩ := X.invokevirtual hexec hown hlink hnamed hmethM hstM hkP hkPi hy (a := b) (cell := cellB) hcell
    (fun z h => by rw [h] at hobj; cases hobj) hselP hmethM habM hkP hkPi (g := g) hg (argsL := argsL) (rest := rest) (hlen _ hsigM) hstack hdg
  rcases hK m meth c ⟨T.setVm vm₁, locs, cells, slots⟩ { g with stack := rest } (.invokevirtual index) mk (Value.ref b :: argsL).toArray X₁ hg hsize hdg hW (X₁.named hnamed) (hpre vm₁ X₁.warmed) with ⟨v, B, X', hpost, hsteps⟩ | ⟨q, B, X', hpost, hsteps⟩
  · exact Or.inl ⟨v, vm₁, B, X₁.warmed, X', hpost, fun target h => hstep₁ _ fun acts => by rw [doInvoke_state]; exact hsteps.trans h⟩
  · exact Or.inr ⟨q, vm₁, B, X₁.warmed, X', hpost, hstep₁ _ fun acts => by rw [doInvoke_state]; exact hsteps⟩
theorem vx_callS (X : Stand p l e R s m args below meth c T locs cells slots) (hexec : p.tables.exec = Jvm.exec) {own : String} {index : Nat} {y : MethodName} {bytes : ByteArray} {maxL : Nat} {ret : Option FieldType}
    (hown : s.vm.findClass own = some m.cls) (hlink : (Cond.methodLink own index y).before args s = true) (hstat : (Cond.static y).before args s = true) (hinit : (Cond.initialized y.cls).before args s = true)
    (hcode : (Cond.code y bytes maxL ret).before args s = true) (hy : y.cls ≠ "java/lang/invoke/MethodHandle" ∧ y.cls ≠ "java/lang/invoke/VarHandle")
    {W9 : Nat} {Pre : Pt → Array Value → Prop} {Post : Pt → Array Value → Option Value → Pt → Prop} {PostX : Pt → Array Value → Addr → Pt → Prop} (hK : vx_Back l R p e below s args y 3 W9 Pre Post PostX)
    {g : JFrame} (hg : g.method = m) (hsize : g.locals.size = c.maxLocals) {argsL rest : List Value} (hlen : ∀ sig, parseMethodDescriptor y.desc = some sig → argsL.length = sig.parameters.length)
    (hstack : g.stack = argsL.reverse ++ rest) (hW : 2 * g.monitorRoom + (rest.map fun v => v.category).sum ≤ W9) (hdg : decode c.code g.pc = .ok (.invokestatic index, 3))
    (hpre : ∀ vm₁, s.WarmedH vm₁ → Pre ⟨T.setVm vm₁, locs, cells, slots⟩ argsL.toArray) :
    (∃ (v : Option Value) (vm₁ : Vm) (B : Pt), s.WarmedH vm₁ ∧ Stand p l e R s m args below meth c B.U B.locs B.cells B.slots ∧ Post ⟨T.setVm vm₁, locs, cells, slots⟩ argsL.toArray v B ∧
      ∀ target, Steps p.tables e below (B.U.setTop { g with pc := g.pc + 3, stack := v.toList ++ rest }) target → Steps p.tables e below (T.setTop g) target) ∨
    (∃ (q : Addr) (vm₁ : Vm) (B : Pt), s.WarmedH vm₁ ∧ Stand p l e R s m args below meth c B.U B.locs B.cells B.slots ∧ PostX ⟨T.setVm vm₁, locs, cells, slots⟩ argsL.toArray q B ∧
      Steps p.tables e below (T.setTop g) ((B.U.setTop { g with stack := rest }).pushFrame (.throwing q))) := by
  obtain ⟨mk, hnamed⟩ := Cond.code_named hcode
  obtain ⟨methM, cM, hmethM, -, -, -, -, -, -, hsigM⟩ := Cond.code_spec hnamed hcode
  have hstatic : methM.isStatic = true := Cond.static_spec hnamed hmethM hstat
  obtain ⟨kP, hkP, -⟩ := className_of_methodNamed hnamed
  have hinitP : kP.init = .initialized := Cond.initialized_spec (findClass_of_methodNamed hnamed) hkP hinit
  obtain ⟨vm₁, X₁, hstep₁⟩ := X.invokestatic hexec hown hlink hnamed hmethM hstatic hkP hinitP hy (g := g) hg (argsL := argsL) (rest := rest) (hlen _ hsigM) hstack hdg
  rcases hK m meth c ⟨T.setVm vm₁, locs, cells, slots⟩ { g with stack := rest } (.invokestatic index) mk argsL.toArray X₁ hg hsize hdg hW (X₁.named hnamed) (hpre vm₁ X₁.warmed) with ⟨v, B, X', hpost, hsteps⟩ | ⟨q, B, X', hpost, hsteps⟩
  · exact Or.inl ⟨v, vm₁, B, X₁.warmed, X', hpost, fun target h => hstep₁ _ fun acts => by rw [doInvoke_state]; exact hsteps.trans h⟩
  · exact Or.inr ⟨q, vm₁, B, X₁.warmed, X', hpost, hstep₁ _ fun acts => by rw [doInvoke_state]; exact hsteps⟩
end Calls
theorem vx_cls {s : State} {T : State} {vm₁ : Vm} {E : String} {k : ClassId} (hW : s.WarmedH vm₁) (h : (T.setVm vm₁).vm.findClass E = some k) : s.vm.findClass E = some k := by
  have h1 : vm₁.findClass E = some k := h
  rw [hW.alike.findClass] at h1
  exact h1
/-- the method's frame g, with q thrown over it -/
def vx_W (p : Program) (l : Launch) (e : Env) (R : Room) (s : State) (m : MethodId) (args : Array Value) (below : List Frame) (meth : Method) (c : Code) (H : Heap) (locs : List Loc) (cells slots : Nat) (Q : State → Prop) (g : JFrame) (q : Addr) : Prop :=
  ∀ T : State, T.heap = H → Stand p l e R s m args below meth c T locs cells slots → ∃ t, Steps p.tables e below ((T.setTop g).pushFrame (.throwing q)) t ∧ Q t
def vx_Run (p : Program) (l : Launch) (e : Env) (R : Room) (s : State) (m : MethodId) (args : Array Value) (below : List Frame) (meth : Method) (c : Code) (H : Heap) (locs : List Loc) (cells slots mc ms : Nat) (g : JFrame) (rest : List Value) (Qa : State → Outcome → State → Prop) (XC : String → State → State → Prop) (free : Addr → Prop) : Prop :=
  ∀ T : State, T.heap = H → Stand p l e R s m args below meth c T locs cells slots →
    (∃ (v : Option Value) (st₀ t T' : State) (L : List Loc), st₀.heap = H ∧ Stand p l e R s m args below meth c T' (locs ++ L) (cells + mc) (slots + ms) ∧ (∀ q ∈ L, free q.base) ∧ T'.heap = t.heap ∧ T'.vm = t.vm ∧ Qa st₀ (.returned v) t ∧
      Goes p e below T g T' { g with pc := g.pc + 3, stack := v.toList ++ rest }) ∨
    (∃ (q : Addr) (st₀ t T' : State) (L : List Loc) (E : String) (ce : Cell), st₀.heap = H ∧ Stand p l e R s m args below meth c T' (locs ++ L) (cells + mc) (slots + ms) ∧ (∀ z ∈ L, free z.base) ∧ T'.heap = t.heap ∧ T'.vm = t.vm ∧ XC E st₀ t ∧ t.heap[q]? = some ce ∧ ce.vm = .none ∧ s.vm.findClass E = some ce.cls ∧
      Steps p.tables e below (T.setTop g) ((T'.setTop { g with stack := rest }).pushFrame (.throwing q)))
def vx_X {S : Type} (px : S → Prop) (B : String → S → State → Prop) (A : Nat → Prop) : String → State → State → Prop := fun E st t => ∃ u : S, px u ∧ B E u t ∧ va_F A st t
section Runs
variable {p : Program} {l : Launch} {e : Env} {R : Room} {s : State} {m : MethodId} {args : Array Value} {below : List Frame} {meth : Method} {c : Code} {H : Heap} {locs : List Loc} {cells slots : Nat}
variable {y : MethodName} {bytes cc : ByteArray} {maxL nL mc ms n index : Nat} {ret : Option FieldType} {ws : List Cond} {rm : Room} {Pc : Array Value → State → Prop} {Qc : Array Value → State → Outcome → State → Prop} {XC : String → State → State → Prop} {free : Addr → Prop} {Ts : List Cond} {own C : String} {b : Addr} {As rest : List Value} {g : JFrame}
theorem vx_callBack (cb : CallB R s args own index y bytes maxL ret ws rm mc ms n) (hM : vx_Met l y ws rm Pc Qc XC mc ms free) (hbl : FrameBlind Pc) : vx_Back l R p e below s args y 3 8 (PreOf R mc ms Pc) (PostOf Qc mc ms free) (vx_Post XC mc ms free) := by
  obtain ⟨hrc, hrs, hfr, hlo, hws, hcw, -, hini, -⟩ := cb
  exact vx_back (bytes := bytes) (maxL := maxL) (ret := ret) hM hbl hrc hrs hfr hlo hws hcw (fun a' U hW => word_at hW (Or.inl (by first | rfl | simp [Cond.onTables, Cond.keeps, Cond.steady])) hini)
theorem vx_runV (S : CallFix p m c cc nL s args Ts own) (hM : vx_Met l y ws rm Pc Qc XC mc ms free) (cw : CallW R s args own C index y bytes maxL ret ws rm mc ms n) (hp : PreV s H C b Pc As)
    (hg : g.method = m) (hn : As.length = n) (hsize : g.locals.size = nL) (hstack : g.stack = As.reverse ++ .ref b :: rest) (hW : 2 * g.monitorRoom + (rest.map fun v => v.category).sum ≤ 8) (hdg : decode cc g.pc = .ok (.invokevirtual index, 3)) (hf : cells + mc ≤ R.cells ∧ slots + ms ≤ R.slots) :
    vx_Run p l e R s m args below meth c H locs cells slots mc ms g rest (Qc (Value.ref b :: As).toArray) XC free := by
  have hK : vx_Back l R p e below s args y 3 8 (PreOf R mc ms Pc) (PostOf Qc mc ms free) (vx_Post XC mc ms free) := vx_callBack cw.1 hM hp.1
  obtain ⟨⟨-, -, -, -, -, -, hcode, -, hy, hlen, hl⟩, hin, hse⟩ := cw
  obtain ⟨hx, hb, hml, ho, -⟩ := S
  obtain ⟨-, ⟨cellB, hcB, hoB, hclB⟩, hPc⟩ := hp
  intro T hT X
  rcases vx_callV X hx (C := C) (bytes := bytes) (maxL := maxL) (ret := ret) ho hl hin hse hcode hy hK (by rw [hT]; exact hcB) hoB hclB hg (hsize.trans hml.symm) (argsL := As) (rest := rest) (fun sig h => hn.trans (hlen sig h)) hstack hW (by rw [hb]; exact hdg)
    (fun vm₁ hW₁ => ⟨hf.1, hf.2, hPc (T.setVm vm₁) hT hW₁⟩) with ⟨v, vm₁, ⟨U', l2, c2, s2⟩, hW₁, X', ⟨g', mk, t, L, e1, e2, hq, h1, hL, h2, h3⟩, st⟩ | ⟨q, vm₁, ⟨U', l2, c2, s2⟩, hW₁, X', ⟨g', mk, t, L, E, ce, e1, e2, hq, hce, hcv, hcl, h1, hL, h2, h3⟩, st⟩
  · dsimp only [Pt.U, Pt.locs, Pt.cells, Pt.slots] at X' e1 e2 h1 h2 h3 st
    subst h1; subst h2; subst h3
    exact Or.inl ⟨v, (T.setVm vm₁).calling g' mk (Value.ref b :: As).toArray, t, U', L, hT, X', hL, e1, e2, hq, st⟩
  · dsimp only [Pt.U, Pt.locs, Pt.cells, Pt.slots] at X' e1 e2 h1 h2 h3 st hcl
    subst h1; subst h2; subst h3
    exact Or.inr ⟨q, (T.setVm vm₁).calling g' mk (Value.ref b :: As).toArray, t, U', L, E, ce, hT, X', hL, e1, e2, hq, hce, hcv, vx_cls hW₁ hcl, st⟩
theorem vx_runS (S : CallFix p m c cc nL s args Ts own) (hM : vx_Met l y ws rm Pc Qc XC mc ms free) (cw : CallB R s args own index y bytes maxL ret ws rm mc ms n ∧ (Cond.static y).before args s = true) (hp : PreS s H Pc As)
    (hg : g.method = m) (hn : As.length = n) (hsize : g.locals.size = nL) (hstack : g.stack = As.reverse ++ rest) (hW : 2 * g.monitorRoom + (rest.map fun v => v.category).sum ≤ 8) (hdg : decode cc g.pc = .ok (.invokestatic index, 3)) (hf : cells + mc ≤ R.cells ∧ slots + ms ≤ R.slots) :
    vx_Run p l e R s m args below meth c H locs cells slots mc ms g rest (Qc As.toArray) XC free := by
  have hK : vx_Back l R p e below s args y 3 8 (PreOf R mc ms Pc) (PostOf Qc mc ms free) (vx_Post XC mc ms free) := vx_callBack cw.1 hM hp.1
  obtain ⟨⟨-, -, -, -, -, -, hcode, hini, hy, hlen, hl⟩, hstt⟩ := cw
  obtain ⟨hx, hb, hml, ho, -⟩ := S
  intro T hT X
  rcases vx_callS X hx (bytes := bytes) (maxL := maxL) (ret := ret) ho hl hstt hini hcode hy hK hg (hsize.trans hml.symm) (argsL := As) (rest := rest) (fun sig h => hn.trans (hlen sig h)) hstack hW (by rw [hb]; exact hdg)
    (fun vm₁ hW₁ => ⟨hf.1, hf.2, hp.2 (T.setVm vm₁) hT hW₁⟩) with ⟨v, vm₁, ⟨U', l2, c2, s2⟩, hW₁, X', ⟨g', mk, t, L, e1, e2, hq, h1, hL, h2, h3⟩, st⟩ | ⟨q, vm₁, ⟨U', l2, c2, s2⟩, hW₁, X', ⟨g', mk, t, L, E, ce, e1, e2, hq, hce, hcv, hcl, h1, hL, h2, h3⟩, st⟩
  · dsimp only [Pt.U, Pt.locs, Pt.cells, Pt.slots] at X' e1 e2 h1 h2 h3 st
    subst h1; subst h2; subst h3
    exact Or.inl ⟨v, (T.setVm vm₁).calling g' mk As.toArray, t, U', L, hT, X', hL, e1, e2, hq, st⟩
  · dsimp only [Pt.U, Pt.locs, Pt.cells, Pt.slots] at X' e1 e2 h1 h2 h3 st hcl
    subst h1; subst h2; subst h3
    exact Or.inr ⟨q, (T.setVm vm₁).calling g' mk As.toArray, t, U', L, E, ce, hT, X', hL, e1, e2, hq, hce, hcv, vx_cls hW₁ hcl, st⟩
end Runs
section Rows
variable {p : Program} {l : Launch} {e : Env} {R : Room} {s : State} {m : MethodId} {args : Array Value} {below : List Frame} {meth : Method} {c : Code} {H : Heap} {locs : List Loc} {cells slots : Nat} {Q : State → Prop}
variable {mc ms : Nat} {free : Addr → Prop} {A0 A1 : Nat → Prop} {H0 : Heap} {a : Array Value} {pc : Nat} {ls : Array Slot} {st0 rest : List Value}
theorem vx_keep {st₀ t T' : State} {L : List Loc} (h0 : st₀.heap = H) (e1 : T'.heap = t.heap) (hS : va_S A0 H0 H locs) (hA : ∀ q, q < H.size → A1 q → A0 q) (hf : ∀ q, free q → A0 q) (hL : ∀ q ∈ L, free q.base) (hF : va_F A1 st₀ t) :
    H.size ≤ T'.heap.size ∧ (∀ q : Nat, q < H.size → ¬ A1 q → T'.heap[q]? = H[q]?) ∧ va_S A0 H0 T'.heap (locs ++ L) := by
  obtain ⟨hz, hk⟩ := hF
  rw [h0] at hz hk
  exact ⟨by rw [e1]; exact hz, fun q h1 h2 => by rw [e1]; exact hk q h1 h2,
    ⟨Nat.le_trans hS.1 (by rw [e1]; exact hz), fun q h1 h2 => by rw [e1, hk q (Nat.lt_of_lt_of_le h1 hS.1) (fun z => h2 (hA q (Nat.lt_of_lt_of_le h1 hS.1) z))]; exact hS.2.1 q h1 h2, fun q hq => by
      rcases List.mem_append.mp hq with h | h
      · exact hS.2.2 q h
      · exact hf _ (hL q h)⟩⟩
theorem vx_calli {S SX : Type} {post : Int32 → S → Prop} {px : SX → Prop} {B : S → State → Prop} {BX : String → SX → State → Prop} {AX : Nat → Prop} (hr : vx_Run p l e R s m args below meth c H locs cells slots mc ms (F0 m pc ls st0) rest (va_Qi post B A1 a) (vx_X px BX AX) free) (hS : va_S A0 H0 H locs) (hA : ∀ q, q < H.size → A1 q → A0 q) (hf : ∀ q, free q → A0 q) (hAX : ∀ q, q < H.size → AX q → A0 q)
    (kx : ∀ (E : String) (ce : Cell) (q9 : Addr) (u : SX) (t : State) (H1 : Heap) (locs1 : List Loc), t.heap = H1 → s.vm.Alike t.vm → px u → BX E u t → H.size ≤ H1.size → (∀ q : Nat, q < H.size → ¬ AX q → H1[q]? = H[q]?) → va_S A0 H0 H1 locs1 → H1[q9]? = some ce → ce.vm = .none → s.vm.findClass E = some ce.cls → vx_W p l e R s m args below meth c H1 locs1 (cells + mc) (slots + ms) Q (F0 m pc ls rest) q9)
    (kk : ∀ (r : Int32) (u : S) (t : State) (H1 : Heap) (locs1 : List Loc), t.heap = H1 → s.vm.Alike t.vm → post r u → B u t → H.size ≤ H1.size → (∀ q : Nat, q < H.size → ¬ A1 q → H1[q]? = H[q]?) → va_S A0 H0 H1 locs1 → W p l e R s m args below meth c H1 locs1 (cells + mc) (slots + ms) Q (F0 m (pc + 3) ls (.int r :: rest))) : W p l e R s m args below meth c H locs cells slots Q (F0 m pc ls st0) := by
  intro T hT X
  rcases hr T hT X with ⟨v, st₀, t, T', L, h0, X', hL, e1, e2, ⟨⟨r, u, hv, hp, hb⟩, hF⟩, st⟩ | ⟨q, st₀, t, T', L, E, ce, h0, X', hL, e1, e2, ⟨u, hp, hb, hF⟩, hce, hcv, hcl, st⟩
  · cases hv
    obtain ⟨k1, k2, k3⟩ := vx_keep h0 e1 hS hA hf hL hF
    obtain ⟨t2, a1, b1⟩ := kk r u t T'.heap (locs ++ L) e1.symm (by rw [← e2]; exact X'.warmed.alike) hp hb k1 k2 k3 T' rfl X'
    exact ⟨t2, st t2 a1, b1⟩
  · obtain ⟨k1, k2, k3⟩ := vx_keep h0 e1 hS hAX hf hL hF
    obtain ⟨t2, a1, b1⟩ := kx E ce q u t T'.heap (locs ++ L) e1.symm (by rw [← e2]; exact X'.warmed.alike) hp hb k1 k2 k3 (by rw [e1]; exact hce) hcv hcl T' rfl X'
    exact ⟨t2, st.trans a1, b1⟩
theorem vx_calll {S SX : Type} {post : Int64 → S → Prop} {px : SX → Prop} {B : S → State → Prop} {BX : String → SX → State → Prop} {AX : Nat → Prop} (hr : vx_Run p l e R s m args below meth c H locs cells slots mc ms (F0 m pc ls st0) rest (va_Ql post B A1 a) (vx_X px BX AX) free) (hS : va_S A0 H0 H locs) (hA : ∀ q, q < H.size → A1 q → A0 q) (hf : ∀ q, free q → A0 q) (hAX : ∀ q, q < H.size → AX q → A0 q)
    (kx : ∀ (E : String) (ce : Cell) (q9 : Addr) (u : SX) (t : State) (H1 : Heap) (locs1 : List Loc), t.heap = H1 → s.vm.Alike t.vm → px u → BX E u t → H.size ≤ H1.size → (∀ q : Nat, q < H.size → ¬ AX q → H1[q]? = H[q]?) → va_S A0 H0 H1 locs1 → H1[q9]? = some ce → ce.vm = .none → s.vm.findClass E = some ce.cls → vx_W p l e R s m args below meth c H1 locs1 (cells + mc) (slots + ms) Q (F0 m pc ls rest) q9)
    (kk : ∀ (r : Int64) (u : S) (t : State) (H1 : Heap) (locs1 : List Loc), t.heap = H1 → s.vm.Alike t.vm → post r u → B u t → H.size ≤ H1.size → (∀ q : Nat, q < H.size → ¬ A1 q → H1[q]? = H[q]?) → va_S A0 H0 H1 locs1 → W p l e R s m args below meth c H1 locs1 (cells + mc) (slots + ms) Q (F0 m (pc + 3) ls (.long r :: rest))) : W p l e R s m args below meth c H locs cells slots Q (F0 m pc ls st0) := by
  intro T hT X
  rcases hr T hT X with ⟨v, st₀, t, T', L, h0, X', hL, e1, e2, ⟨⟨r, u, hv, hp, hb⟩, hF⟩, st⟩ | ⟨q, st₀, t, T', L, E, ce, h0, X', hL, e1, e2, ⟨u, hp, hb, hF⟩, hce, hcv, hcl, st⟩
  · cases hv
    obtain ⟨k1, k2, k3⟩ := vx_keep h0 e1 hS hA hf hL hF
    obtain ⟨t2, a1, b1⟩ := kk r u t T'.heap (locs ++ L) e1.symm (by rw [← e2]; exact X'.warmed.alike) hp hb k1 k2 k3 T' rfl X'
    exact ⟨t2, st t2 a1, b1⟩
  · obtain ⟨k1, k2, k3⟩ := vx_keep h0 e1 hS hAX hf hL hF
    obtain ⟨t2, a1, b1⟩ := kx E ce q u t T'.heap (locs ++ L) e1.symm (by rw [← e2]; exact X'.warmed.alike) hp hb k1 k2 k3 (by rw [e1]; exact hce) hcv hcl T' rfl X'
    exact ⟨t2, st.trans a1, b1⟩
theorem vx_callf {S SX : Type} {post : UInt32 → S → Prop} {px : SX → Prop} {B : S → State → Prop} {BX : String → SX → State → Prop} {AX : Nat → Prop} (hr : vx_Run p l e R s m args below meth c H locs cells slots mc ms (F0 m pc ls st0) rest (va_Qf post B A1 a) (vx_X px BX AX) free) (hS : va_S A0 H0 H locs) (hA : ∀ q, q < H.size → A1 q → A0 q) (hf : ∀ q, free q → A0 q) (hAX : ∀ q, q < H.size → AX q → A0 q)
    (kx : ∀ (E : String) (ce : Cell) (q9 : Addr) (u : SX) (t : State) (H1 : Heap) (locs1 : List Loc), t.heap = H1 → s.vm.Alike t.vm → px u → BX E u t → H.size ≤ H1.size → (∀ q : Nat, q < H.size → ¬ AX q → H1[q]? = H[q]?) → va_S A0 H0 H1 locs1 → H1[q9]? = some ce → ce.vm = .none → s.vm.findClass E = some ce.cls → vx_W p l e R s m args below meth c H1 locs1 (cells + mc) (slots + ms) Q (F0 m pc ls rest) q9)
    (kk : ∀ (r : UInt32) (u : S) (t : State) (H1 : Heap) (locs1 : List Loc), t.heap = H1 → s.vm.Alike t.vm → post r u → B u t → H.size ≤ H1.size → (∀ q : Nat, q < H.size → ¬ A1 q → H1[q]? = H[q]?) → va_S A0 H0 H1 locs1 → W p l e R s m args below meth c H1 locs1 (cells + mc) (slots + ms) Q (F0 m (pc + 3) ls (.float r :: rest))) : W p l e R s m args below meth c H locs cells slots Q (F0 m pc ls st0) := by
  intro T hT X
  rcases hr T hT X with ⟨v, st₀, t, T', L, h0, X', hL, e1, e2, ⟨⟨r, u, hv, hp, hb⟩, hF⟩, st⟩ | ⟨q, st₀, t, T', L, E, ce, h0, X', hL, e1, e2, ⟨u, hp, hb, hF⟩, hce, hcv, hcl, st⟩
  · cases hv
    obtain ⟨k1, k2, k3⟩ := vx_keep h0 e1 hS hA hf hL hF
    obtain ⟨t2, a1, b1⟩ := kk r u t T'.heap (locs ++ L) e1.symm (by rw [← e2]; exact X'.warmed.alike) hp hb k1 k2 k3 T' rfl X'
    exact ⟨t2, st t2 a1, b1⟩
  · obtain ⟨k1, k2, k3⟩ := vx_keep h0 e1 hS hAX hf hL hF
    obtain ⟨t2, a1, b1⟩ := kx E ce q u t T'.heap (locs ++ L) e1.symm (by rw [← e2]; exact X'.warmed.alike) hp hb k1 k2 k3 (by rw [e1]; exact hce) hcv hcl T' rfl X'
    exact ⟨t2, st.trans a1, b1⟩
theorem vx_calld {S SX : Type} {post : UInt64 → S → Prop} {px : SX → Prop} {B : S → State → Prop} {BX : String → SX → State → Prop} {AX : Nat → Prop} (hr : vx_Run p l e R s m args below meth c H locs cells slots mc ms (F0 m pc ls st0) rest (va_Qd post B A1 a) (vx_X px BX AX) free) (hS : va_S A0 H0 H locs) (hA : ∀ q, q < H.size → A1 q → A0 q) (hf : ∀ q, free q → A0 q) (hAX : ∀ q, q < H.size → AX q → A0 q)
    (kx : ∀ (E : String) (ce : Cell) (q9 : Addr) (u : SX) (t : State) (H1 : Heap) (locs1 : List Loc), t.heap = H1 → s.vm.Alike t.vm → px u → BX E u t → H.size ≤ H1.size → (∀ q : Nat, q < H.size → ¬ AX q → H1[q]? = H[q]?) → va_S A0 H0 H1 locs1 → H1[q9]? = some ce → ce.vm = .none → s.vm.findClass E = some ce.cls → vx_W p l e R s m args below meth c H1 locs1 (cells + mc) (slots + ms) Q (F0 m pc ls rest) q9)
    (kk : ∀ (r : UInt64) (u : S) (t : State) (H1 : Heap) (locs1 : List Loc), t.heap = H1 → s.vm.Alike t.vm → post r u → B u t → H.size ≤ H1.size → (∀ q : Nat, q < H.size → ¬ A1 q → H1[q]? = H[q]?) → va_S A0 H0 H1 locs1 → W p l e R s m args below meth c H1 locs1 (cells + mc) (slots + ms) Q (F0 m (pc + 3) ls (.double r :: rest))) : W p l e R s m args below meth c H locs cells slots Q (F0 m pc ls st0) := by
  intro T hT X
  rcases hr T hT X with ⟨v, st₀, t, T', L, h0, X', hL, e1, e2, ⟨⟨r, u, hv, hp, hb⟩, hF⟩, st⟩ | ⟨q, st₀, t, T', L, E, ce, h0, X', hL, e1, e2, ⟨u, hp, hb, hF⟩, hce, hcv, hcl, st⟩
  · cases hv
    obtain ⟨k1, k2, k3⟩ := vx_keep h0 e1 hS hA hf hL hF
    obtain ⟨t2, a1, b1⟩ := kk r u t T'.heap (locs ++ L) e1.symm (by rw [← e2]; exact X'.warmed.alike) hp hb k1 k2 k3 T' rfl X'
    exact ⟨t2, st t2 a1, b1⟩
  · obtain ⟨k1, k2, k3⟩ := vx_keep h0 e1 hS hAX hf hL hF
    obtain ⟨t2, a1, b1⟩ := kx E ce q u t T'.heap (locs ++ L) e1.symm (by rw [← e2]; exact X'.warmed.alike) hp hb k1 k2 k3 (by rw [e1]; exact hce) hcv hcl T' rfl X'
    exact ⟨t2, st.trans a1, b1⟩
theorem vx_callv {S SX : Type} {post : S → Prop} {px : SX → Prop} {B : S → State → Prop} {BX : String → SX → State → Prop} {AX : Nat → Prop} (hr : vx_Run p l e R s m args below meth c H locs cells slots mc ms (F0 m pc ls st0) rest (va_Qv post B A1 a) (vx_X px BX AX) free) (hS : va_S A0 H0 H locs) (hA : ∀ q, q < H.size → A1 q → A0 q) (hf : ∀ q, free q → A0 q) (hAX : ∀ q, q < H.size → AX q → A0 q)
    (kx : ∀ (E : String) (ce : Cell) (q9 : Addr) (u : SX) (t : State) (H1 : Heap) (locs1 : List Loc), t.heap = H1 → s.vm.Alike t.vm → px u → BX E u t → H.size ≤ H1.size → (∀ q : Nat, q < H.size → ¬ AX q → H1[q]? = H[q]?) → va_S A0 H0 H1 locs1 → H1[q9]? = some ce → ce.vm = .none → s.vm.findClass E = some ce.cls → vx_W p l e R s m args below meth c H1 locs1 (cells + mc) (slots + ms) Q (F0 m pc ls rest) q9)
    (kk : ∀ (u : S) (t : State) (H1 : Heap) (locs1 : List Loc), t.heap = H1 → s.vm.Alike t.vm → post u → B u t → H.size ≤ H1.size → (∀ q : Nat, q < H.size → ¬ A1 q → H1[q]? = H[q]?) → va_S A0 H0 H1 locs1 → W p l e R s m args below meth c H1 locs1 (cells + mc) (slots + ms) Q (F0 m (pc + 3) ls (rest))) : W p l e R s m args below meth c H locs cells slots Q (F0 m pc ls st0) := by
  intro T hT X
  rcases hr T hT X with ⟨v, st₀, t, T', L, h0, X', hL, e1, e2, ⟨⟨u, hv, hp, hb⟩, hF⟩, st⟩ | ⟨q, st₀, t, T', L, E, ce, h0, X', hL, e1, e2, ⟨u, hp, hb, hF⟩, hce, hcv, hcl, st⟩
  · cases hv
    obtain ⟨k1, k2, k3⟩ := vx_keep h0 e1 hS hA hf hL hF
    obtain ⟨t2, a1, b1⟩ := kk u t T'.heap (locs ++ L) e1.symm (by rw [← e2]; exact X'.warmed.alike) hp hb k1 k2 k3 T' rfl X'
    exact ⟨t2, st t2 a1, b1⟩
  · obtain ⟨k1, k2, k3⟩ := vx_keep h0 e1 hS hAX hf hL hF
    obtain ⟨t2, a1, b1⟩ := kx E ce q u t T'.heap (locs ++ L) e1.symm (by rw [← e2]; exact X'.warmed.alike) hp hb k1 k2 k3 (by rw [e1]; exact hce) hcv hcl T' rfl X'
    exact ⟨t2, st.trans a1, b1⟩
/-- caught by the row x of this method's table; the rows ahead don't take it -/
theorem vx_catch {own name : String} {E : String} {ce : Cell} {q : Addr} (hown : s.vm.findClass own = some m.cls) (pre : List ExceptionTableEntry) (x : ExceptionTableEntry) (suf : List ExceptionTableEntry) (hsplit : c.exceptionTable.toList = pre ++ x :: suf)
    (hpass : ∀ z ∈ pre, covers z pc = false ∨ (z.catchType ≠ 0 ∧ ∃ nm : String, (Cond.classLink own z.catchType nm).before args s = true ∧ va_Nc E nm s)) (hx : covers x pc = true) (h0 : x.catchType ≠ 0)
    (hlink : (Cond.classLink own x.catchType name).before args s = true) (hcast : (Cond.castable E name).before args s = true) (hcell : H[q]? = some ce) (hv : ce.vm = .none) (hcl : s.vm.findClass E = some ce.cls)
    (kk : W p l e R s m args below meth c H locs cells slots Q (F0 m x.handlerPc ls [.ref q])) : vx_W p l e R s m args below meth c H locs cells slots Q (F0 m pc ls rest) q := by
  intro T hT X
  have hpl : e.platform.magicAccessors = ({} : Platform).magicAccessors := by rw [X.admits.platform]
  obtain ⟨c3, c4, hc3, hc4, hasg⟩ := Cond.castable_spec hcast
  cases Option.some.inj (hc3.symm.trans hcl)
  obtain ⟨c5, hc5, hcl5⟩ := Cond.classLink_spec hown hlink e.platform hpl
  cases Option.some.inj (hc4.symm.trans hc5)
  obtain ⟨vm', X', st⟩ := X.thenCaughtThrough q (g := F0 m pc ls rest) rfl (Steps.refl _) (by rw [hT]; exact hcell) (by rw [hv]; rfl) (by obtain ⟨k9, h9, -⟩ := Vm.findClass_spec hcl; exact ⟨k9, h9⟩) pre x suf hsplit
    (fun z hz => by
      rcases hpass z hz with h | ⟨hz0, nm, hl1, hn1⟩
      · exact Or.inl h
      · obtain ⟨c6, hc6, hcl6⟩ := Cond.classLink_spec hown hl1 e.platform hpl
        obtain ⟨a8, b8, h1, h2, h3⟩ := hn1
        cases Option.some.inj (h1.symm.trans hcl)
        cases Option.some.inj (h2.symm.trans hc6)
        exact Or.inr ⟨hz0, _, hcl6, h3⟩) hx (Or.inr ⟨h0, c4, hcl5, hasg⟩)
  obtain ⟨t, a1, b1⟩ := kk (T.setVm vm') hT X'
  exact ⟨t, st.trans a1, b1⟩
end Rows
section Ends
variable {p : Program} {l : Launch} {e : Env} {R : Room} {s : State} {m : MethodId} {args : Array Value} {below : List Frame} {meth : Method} {c : Code} {H : Heap} {locs : List Loc} {cells slots : Nat} {Q : State → Prop}
variable {mc ms : Nat} {free : Addr → Prop} {A0 A1 : Nat → Prop} {H0 : Heap} {a : Array Value} {ls : Array Slot} {st0 rest : List Value}
variable {Qc : Array Value → State → Outcome → State → Prop} {XC : String → State → State → Prop}
/-- what a body that may throw owes at its end -/
def vx_MQ (below : List Frame) (Qc : Array Value → State → Outcome → State → Prop) (XC : String → State → State → Prop) (a : Array Value) (s : State) (mc ms : Nat) (free : Addr → Prop) : State → Prop := fun t =>
  ∃ o, t.status = .running ∧ Ended t below o ∧ vx_Q Qc XC mc ms free a s o t
theorem vx_ret {g : JFrame} {mc ms : Nat} (k : W p l e R s m args below meth c H locs cells slots (MQ below Qc args s mc ms free) g) : W p l e R s m args below meth c H locs cells slots (vx_MQ below Qc XC args s mc ms free) g := by
  intro T hT X
  obtain ⟨t, a1, o, b1, b2, b3, b4⟩ := k T hT X
  exact ⟨t, a1, o, b1, b2, Or.inl ⟨b3, b4⟩⟩
/-- not caught here: it goes on to the caller -/
theorem vx_widen {g : JFrame} {q : Addr} {k n : Nat} (h1 : cells ≤ k) (h2 : slots ≤ n) (kk : vx_W p l e R s m args below meth c H locs k n Q g q) : vx_W p l e R s m args below meth c H locs cells slots Q g q := fun T hT X => kk T hT (stand_widen X h1 h2)
theorem vx_out {pc : Nat} {E : String} {ce : Cell} {q : Addr} {mc ms : Nat} (hout : ∀ x ∈ c.exceptionTable.toList, covers x pc = false) (hlocks : meth.locks = false) (hcell : H[q]? = some ce) (hv : ce.vm = .none) (hcl : s.vm.findClass E = some ce.cls)
    (hx : ∀ t : State, t.heap = H → s.vm.Alike t.vm → XC E s t) (hf : ∀ z ∈ locs, free z.base) (hc : cells ≤ mc) (hs : slots ≤ ms) :
    vx_W p l e R s m args below meth c H locs cells slots (vx_MQ below Qc XC args s mc ms free) (F0 m pc ls rest) q := by
  intro T hT X
  obtain ⟨st1, hrun, hend, hW, hsm⟩ := X.leaveThrown q (g := F0 m pc ls rest) rfl rfl rfl hout hlocks
  have hcell9 : (T.setFrames (.throwing q :: below)).heap[q]? = some ce := by
    show T.heap[q]? = some ce
    rw [hT]; exact hcell
  exact ⟨_, st1, .threw q, hrun, hend, Or.inr ⟨q, rfl, E, ce, locs, hx _ hT hW.alike, hcell9, hv, hcl, hW, hsm.mono hc hs, hf⟩⟩
theorem vx_frame {U : State} {k n : Nat} (h : s.sameButNew ({ U with vm := s.vm } : State) locs k n) : s.heap.size ≤ U.heap.size ∧ ∀ q : Nat, q < s.heap.size → (∀ z ∈ locs, z.base ≠ q) → U.heap[q]? = s.heap[q]? := by
  obtain ⟨-, h2, -, -, -, h6⟩ := h
  refine ⟨h2, fun q hq hz => ?_⟩
  obtain ⟨c9, e1, e2, e3, e4⟩ := h6 q _ (Array.getElem?_eq_getElem hq)
  have hs : c9.slots = (s.heap[q]).slots := Array.ext_getElem? fun i => e4 i fun hm => hz _ hm rfl
  have h9 : c9 = s.heap[q] := by
    rw [hs] at e2
    exact e2
  have e5 : U.heap[q]? = some c9 := e1
  rw [e5, h9, Array.getElem?_eq_getElem hq]
/-- the words of a throw but the four that speak of the heap -/
def vx_no (w : Cond) : Bool := decide (w ≠ .isRef (.static Bundle.tN "UNASSIGNED_STACK" Bundle.steD)) && decide (w ≠ .isRef (.static Bundle.tN "SUPPRESSED_SENTINEL" Bundle.listD)) && decide (w ≠ .laysStatic Bundle.tN "UNASSIGNED_STACK" Bundle.steD) && decide (w ≠ .laysStatic Bundle.tN "SUPPRESSED_SENTINEL" Bundle.listD)
def vx_at0 (own : String) (ic : Nat) (X : String) (names : List String) : List Cond := (Bundle.ownAtoms0 own ic X names).filter vx_no
def vx_atS (own : String) (ic : Nat) (X : String) (names : List String) : List Cond := (Bundle.ownAtoms own ic X names).filter vx_no
/-- a word that the tables alone decide, or a good one -/
def vx_ot (w : Cond) : Bool := w.onTables || goodWord w
theorem vx_ot_at {args a' : Array Value} {s U : State} {w : Cond} (hW : s.WarmedH U.vm) (hvm : s.vm = U.vm) (hg : vx_ot w = true) (h : w.before args s = true) : w.before a' U = true := by
  simp only [vx_ot, Bool.or_eq_true] at hg
  rcases hg with hg | hg
  · exact va_tabs hg hvm h
  · exact word_at hW (good_of_word hg) h
/-- a list's words: the good ones out of the method's own list, the others by premises of their own -/
theorem vx_hat {args : Array Value} {s : State} {L B : List Cond} (h1 : ∀ w ∈ L.filter goodWord, w.before args s = true) (h2 : ∀ w ∈ L.filter (fun w => !goodWord w), w ∈ B) (h3 : ∀ w ∈ B, w.before args s = true) : ∀ w ∈ L, w.before args s = true := by
  intro w hw
  by_cases g : goodWord w = true
  · exact h1 w (List.mem_filter.mpr ⟨hw, g⟩)
  · refine h3 w (h2 w (List.mem_filter.mpr ⟨hw, ?_⟩))
    show (!goodWord w) = true
    cases hgw : goodWord w
    · rfl
    · exact absurd hgw g
theorem vx_c {args : Array Value} {s : State} {w : Cond} {B : List Cond} (h : w.before args s = true) (t : ∀ w ∈ B, w.before args s = true) : ∀ w' ∈ w :: B, w'.before args s = true := fun w' h' => (List.mem_cons.mp h').elim (fun e => by rw [e]; exact h) (t w')
theorem vx_n {args : Array Value} {s : State} : ∀ w ∈ ([] : List Cond), w.before args s = true := fun _ h => nomatch h
theorem vx_own {args : Array Value} {s : State} {L : List Cond} (h1 : ∀ w ∈ L.filter vx_no, w.before args s = true)
    (hU : (Cond.isRef (.static Bundle.tN "UNASSIGNED_STACK" Bundle.steD)).before args s = true) (hN : (Cond.isRef (.static Bundle.tN "SUPPRESSED_SENTINEL" Bundle.listD)).before args s = true)
    (lU : (Cond.laysStatic Bundle.tN "UNASSIGNED_STACK" Bundle.steD).before args s = true) (lN : (Cond.laysStatic Bundle.tN "SUPPRESSED_SENTINEL" Bundle.listD).before args s = true) : ∀ w ∈ L, w.before args s = true := by
  intro w hw
  by_cases e1 : w = .isRef (.static Bundle.tN "UNASSIGNED_STACK" Bundle.steD)
  · rw [e1]; exact hU
  · by_cases e2 : w = .isRef (.static Bundle.tN "SUPPRESSED_SENTINEL" Bundle.listD)
    · rw [e2]; exact hN
    · by_cases e3 : w = .laysStatic Bundle.tN "UNASSIGNED_STACK" Bundle.steD
      · rw [e3]; exact lU
      · by_cases e4 : w = .laysStatic Bundle.tN "SUPPRESSED_SENTINEL" Bundle.listD
        · rw [e4]; exact lN
        · exact h1 w (List.mem_filter.mpr ⟨hw, by unfold vx_no; rw [decide_eq_true e1, decide_eq_true e2, decide_eq_true e3, decide_eq_true e4]; rfl⟩)
/-- where a static field lies, its class's statics cell in H -/
def vx_L (C n d : String) (A : Nat → Prop) (U : State) (H : Heap) : Prop := ∃ (c : ClassId) (k : Class) (i : Nat) (f : Field) (a : Nat) (cell : Cell), U.vm.findClass C = some c ∧ U.fieldFound? C n d = some (c, k, i, f) ∧ f.isStatic = true ∧ k.statics = some a ∧ H[a]? = some cell ∧ cell.vm.isStatics = true ∧ cell.cls = c ∧ f.slot < cell.slots.size ∧ k.staticTypes[f.slot]? = some f.type ∧ ¬ A a
theorem vx_L.moved {C n d : String} {A : Nat → Prop} {u U : State} {H : Heap} (hvm : u.vm.Alike U.vm) (h : vx_L C n d A u H) : vx_L C n d A U H := by
  obtain ⟨c, k, i, f, a, cell, h1, h2, h3, h4, h5, h6, h7, h8, h9, h10⟩ := h
  obtain ⟨k', hi', he⟩ := State.fieldFound?_setVm hvm h2
  exact ⟨c, k', i, f, a, cell, by rw [hvm.findClass]; exact h1, hi', h3, by rw [he]; exact h4, h5, h6, h7, h8, by rw [he]; exact h9, h10⟩
theorem vx_L.kept {C n d : String} {A : Nat → Prop} {U : State} {H H1 : Heap} (h : vx_L C n d A U H) (hq : ∀ a : Nat, a < H.size → ¬ A a → H1[a]? = H[a]?) : vx_L C n d A U H1 := by
  obtain ⟨c, k, i, f, a, cell, h1, h2, h3, h4, h5, h6, h7, h8, h9, h10⟩ := h
  exact ⟨c, k, i, f, a, cell, h1, h2, h3, h4, by rw [hq a (Array.getElem?_eq_some_iff.mp h5).1 h10]; exact h5, h6, h7, h8, h9, h10⟩
theorem vx_L.narrow {C n d : String} {A B : Nat → Prop} {U : State} {H : Heap} (h : vx_L C n d A U H) (hAB : ∀ q, B q → A q) : vx_L C n d B U H := by
  obtain ⟨c, k, i, f, a, cell, h1, h2, h3, h4, h5, h6, h7, h8, h9, h10⟩ := h
  exact ⟨c, k, i, f, a, cell, h1, h2, h3, h4, h5, h6, h7, h8, h9, fun z => h10 (hAB _ z)⟩
theorem vx_L.word {C n d : String} {A : Nat → Prop} {s : State} {args : Array Value} (h : vx_L C n d A s s.heap) : (Cond.laysStatic C n d).before args s = true := by
  obtain ⟨c, k, i, f, a, cell, h1, h2, h3, h4, h5, h6, h7, h8, h9, -⟩ := h
  show (Cond.laysStatic C n d).holds args s none s [] = true
  exact Cond.laysStatic_of h1 h2 h3 h4 h5 h6 h7 h8 h9
/-- .. and what it holds: null or some reference -/
def vx_Zq (C n d : String) (A : Nat → Prop) (U : State) (H : Heap) : Prop := va_Zq C n d A U H ∧ vx_L C n d A U H
theorem vx_Zq.moved {C n d : String} {A : Nat → Prop} {u U : State} {H : Heap} (hvm : u.vm.Alike U.vm) (h : vx_Zq C n d A u H) : vx_Zq C n d A U H := ⟨va_Zq.moved hvm h.1, vx_L.moved hvm h.2⟩
theorem vx_Zq.kept {C n d : String} {A : Nat → Prop} {U : State} {H H1 : Heap} (h : vx_Zq C n d A U H) (hq : ∀ a : Nat, a < H.size → ¬ A a → H1[a]? = H[a]?) : vx_Zq C n d A U H1 := ⟨va_Zq.kept h.1 hq, vx_L.kept h.2 hq⟩
theorem vx_Zq.narrow {C n d : String} {A B : Nat → Prop} {U : State} {H : Heap} (h : vx_Zq C n d A U H) (hAB : ∀ q, B q → A q) : vx_Zq C n d B U H := ⟨va_Zq.narrow h.1 hAB, vx_L.narrow h.2 hAB⟩
theorem vx_Zqof {args : Array Value} {s : State} {C n d : String} {A : Nat → Prop} (hl : (Cond.laysStatic C n d).before args s = true) (hini : (Cond.initialized C).before args s = true) (h : (Cond.isRef (.static C n d)).before args s = true) (hA : ∀ a : Nat, a < s.heap.size → ¬ A a) : vx_Zq C n d A s s.heap := by
  refine ⟨va_Zqof hl hini h hA, ?_⟩
  obtain ⟨c, k, i, f, a, cell, h1, h2, h3, h4, h5, h6, h7, h8, h9⟩ := Cond.laysStatic_spec hl
  exact ⟨c, k, i, f, a, cell, h1, h2, h3, h4, h5, h6, h7, h8, h9, hA a (Array.getElem?_eq_some_iff.mp h5).1⟩
theorem vx_isRef {C n d : String} {v : Value} {A : Nat → Prop} {s : State} {args : Array Value} (h : va_Z C n d v A s s.heap) (hv : v.isRef = true) : (Cond.isRef (.static C n d)).before args s = true := by
  obtain ⟨cf, kf, fi, f, a, cell, h1, h2, h3, h4, h5, h6, h7, -⟩ := h
  have he : (Term.static C n d).eval args s none [] s = some v := by
    simp [Term.eval, State.fieldNamed?, h1, h2, h4, h5, h6, h7]
  simp only [Cond.before, Cond.holds, Cond.value, he]
  cases v <;> simp_all [Value.isRef]
theorem vx_isRefq {C n d : String} {A : Nat → Prop} {s : State} {args : Array Value} (h : va_Zq C n d A s s.heap) : (Cond.isRef (.static C n d)).before args s = true := by
  rcases h with h | ⟨t, h⟩
  · exact vx_isRef h rfl
  · exact vx_isRef h rfl
/-- the same frame, seen from here: as if the method were called anew in this heap -/
theorem vx_rebase {T : State} (X : Stand p l e R s m args below meth c T locs cells slots) {R' : Room} (hf : R'.frames ≤ R.frames) (hl : R'.locals ≤ R.locals) (hc : cells + R'.cells ≤ R.cells) (hs : slots + R'.slots ≤ R.slots) :
    Stand p l e R' ((T.setVm s.vm).setFrames (.invoking m args :: below)) m args below meth c T [] 0 0 := by
  have htop : (T.setVm s.vm).topJava?.isSome := X.here.top
  have hF : ((T.setVm s.vm).setFrames (.invoking m args :: below)).frames = .invoking m args :: below := State.frames_setFrames _ (State.cur_lt_of_top htop)
  obtain ⟨g₀, hg0⟩ := Option.isSome_iff_exists.mp htop
  obtain ⟨r, hr⟩ := State.topJava?_eq_some.mp hg0
  have hl9 : e.platform.stackLimits (T.setVm s.vm).me = e.platform.stackLimits s.me := X.limits
  have hb9 : (T.setVm s.vm).me.stackBytes = s.me.stackBytes := X.bytes
  refine ⟨X.admits, X.cas, X.clock, hF, ?_, X.hears, X.method, X.code, X.here, X.tail, X.warmed, ?_, ?_, ?_⟩
  · have h := X.room
    have hU : ((T.setVm s.vm).setFrames (.invoking m args :: below)).localsInUse = s.localsInUse := by
      rw [State.localsInUse_invoking hF (meth := meth) (c := c) X.method X.code, State.localsInUse_invoking X.frames X.method X.code]
    simp only [State.hasRoom, Bool.and_eq_true, decide_eq_true_eq] at h ⊢
    obtain ⟨⟨⟨⟨h1, h2, h3, h4, h5, h6⟩, h7⟩, h8⟩, h9⟩ := h
    rw [X.frames, List.length_cons] at h2 h3
    have q1 := X.heapSize
    have q2 := X.used
    simp only [hF, hU, List.length_cons, State.stackLimits_setFrames, State.stackBytes_setFrames, hl9, hb9]
    refine ⟨⟨⟨⟨by omega, by omega, by omega, by omega, by omega, h6⟩, ?_⟩, ?_⟩, X.book⟩
    · show T.heap.size + R'.cells ≤ e.platform.maxCells
      omega
    · show T.slotsUsed + R'.slots ≤ e.platform.maxSlots
      omega
  · rw [State.stackLimits_setFrames]; rfl
  · rw [State.stackBytes_setFrames]; rfl
  · refine ⟨?_, Nat.le_refl _, Nat.le_refl _, ?_, ?_, fun a c9 h9 => ⟨c9, h9, rfl, rfl, fun _ _ => rfl⟩⟩
    · obtain ⟨t, ht, -⟩ := State.frames_cons hr
      show T.setVm s.vm = { ((T.setVm s.vm).setFrames (.invoking m args :: below)).setFrames (T.setVm s.vm).frames with heap := T.heap, slotsUsed := T.slotsUsed }
      rw [State.setFrames_setFrames, State.setFrames_self ht]
      rfl
    · show T.slotsUsed = T.slotsUsed + ((T.heap.toList.drop T.heap.size).map (·.slots.size)).sum
      rw [List.drop_eq_nil_of_le (Nat.le_of_eq Array.length_toList)]
      rfl
    · show ((T.heap.toList.drop T.heap.size).map (·.slots.size)).sum ≤ 0
      rw [List.drop_eq_nil_of_le (Nat.le_of_eq Array.length_toList)]
      exact Nat.le_refl _
/-- 'throw new E()': new; dup; invokespecial; athrow -/
theorem vx_throw0 {cc : ByteArray} {pc : Nat} (hexec : p.tables.exec = Jvm.exec) (hb : c.code = cc) (hl : l.stackTraces = false) {own cls : String} {names : List String} {ik ic mc ms : Nat} {A : Nat → Prop}
    (hown : s.vm.findClass own = some m.cls) (hcls : Bundle.fit cls = true) (hnames : ∀ n ∈ names, Bundle.fit n = true)
    (hk : (Cond.classLink own ik cls).before args s = true) (hini : (Cond.initialized cls).before args s = true) (hat : ∀ w ∈ vx_at0 own ic cls names, w.before args s = true)
    (hgood : ∀ w ∈ Cond.classLink own ik cls :: Cond.initialized cls :: vx_at0 own ic cls names, vx_ot w = true)
    (hU : vx_Zq Bundle.tN "UNASSIGNED_STACK" Bundle.steD A s s.heap) (hN : vx_Zq Bundle.tN "SUPPRESSED_SENTINEL" Bundle.listD A s s.heap) (hS : va_S A s.heap H locs) (hsize : ls.size = c.maxLocals)
    (d0 : decode cc pc = .ok (.new ik, 3)) (d3 : decode cc (pc + 3) = .ok (.dup, 1)) (d4 : decode cc (pc + 4) = .ok (.invokespecial ic, 3)) (d7 : decode cc (pc + 7) = .ok (.athrow, 1))
    (hout : ∀ x ∈ c.exceptionTable.toList, covers x (pc + 7) = false)
    (hRframes : names.length + 3 < R.frames) (hRlocals : (rest.map fun v => v.category).sum + (13 * (names.length + 1) + 42) ≤ R.locals) (hRcells : cells + 1 ≤ R.cells) (hRslots : slots + 6 ≤ R.slots) (hlocks : meth.locks = false)
    (hx : ∀ t : State, s.vm.Alike t.vm → H.size ≤ t.heap.size → (∀ q : Nat, q < H.size → t.heap[q]? = H[q]?) → XC cls s t)
    (hf : ∀ z ∈ locs, free z.base) (hc : cells + 1 ≤ mc) (hs : slots + 6 ≤ ms) :
    W p l e R s m args below meth c H locs cells slots (vx_MQ below Qc XC args s mc ms free) (F0 m pc ls rest) := by
  intro T hT X
  have htr : e.platform.stackTraces = false := (show e.platform.stackTraces = l.stackTraces by rw [X.admits.platform]).trans hl
  have Y := vx_rebase X (R' := { frames := R.frames, locals := R.locals, cells := 1, slots := 6 }) (Nat.le_refl _) (Nat.le_refl _) hRcells hRslots
  obtain ⟨s', hA⟩ : ∃ z, z = (T.setVm s.vm).setFrames (.invoking m args :: below) := ⟨_, rfl⟩
  rw [← hA] at Y
  have hvm : s'.vm = s.vm := by rw [hA]; rfl
  have hhp : s'.heap = H := by rw [hA]; exact hT
  have hW0 : s.WarmedH s'.vm := by rw [hvm]; exact State.WarmedH.refl s
  have hat' : ∀ w ∈ vx_at0 own ic cls names, w.before args s' = true := fun w hw => vx_ot_at hW0 hvm.symm (hgood w (List.mem_cons_of_mem _ (List.mem_cons_of_mem _ hw))) (hat w hw)
  have hk' : (Cond.classLink own ik cls).before args s' = true := vx_ot_at hW0 hvm.symm (hgood _ List.mem_cons_self) hk
  have hini' : (Cond.initialized cls).before args s' = true := vx_ot_at hW0 hvm.symm (hgood _ (List.mem_cons_of_mem _ List.mem_cons_self)) hini
  have hU' : vx_Zq Bundle.tN "UNASSIGNED_STACK" Bundle.steD A s' s'.heap := by rw [hhp]; exact vx_Zq.moved hW0.alike (hU.kept hS.2.1)
  have hN' : vx_Zq Bundle.tN "SUPPRESSED_SENTINEL" Bundle.listD A s' s'.heap := by rw [hhp]; exact vx_Zq.moved hW0.alike (hN.kept hS.2.1)
  have h : ∀ w ∈ Bundle.ownAtoms0 own ic cls names, w.before args s' = true := vx_own hat' (vx_isRefq hU'.1) (vx_isRefq hN'.1) hU'.2.word hN'.2.word
  have hown' : s'.vm.findClass own = some m.cls := by rw [hvm]; exact hown
  have hins : (Cond.instantiable cls 6).before args s' = true := h _ (by simp [Bundle.ownAtoms0])
  obtain ⟨vm₁, cX, kX, hfX, hkX, -, -, X₁, st1⟩ := Y.newCold hexec (own := own) (C := cls) (index := ik) (n := 6) hown' hk' hins hini'
    (g := F0 m pc ls rest) rfl (by rw [hb]; exact d0) (Nat.le_refl _) (Nat.le_refl _)
  generalize hT1 : (T.setVm vm₁).pushCell { cls := cX, slots := kX.instanceTypes.map defaultValue, vm := .none } = T1 at X₁ st1
  have hcat : (Value.ref T.heap.size).category = 1 := rfl
  have hcellA : T1.heap[T.heap.size]? = some (freshCell cX kX) := by rw [← hT1]; exact State.heap_pushCell_size _ _
  have d3' : decode c.code (pc + 3) = .ok (.dup, 1) := by rw [hb]; exact d3
  obtain ⟨U, hsteps, hrun, hend, hW, hsame, ce, hce, hO⟩ := X₁.ctorThrow0 hexec htr (own := own) (cls := cls) (names := names) (ic := ic) hown' hcls hnames h (fun x hx => nomatch hx) hfX hkX hcellA (by rw [hhp, hT]; exact Nat.le_refl _)
    (g := { method := m, pc := pc + 4, locals := ls, stack := .ref T.heap.size :: .ref T.heap.size :: rest, locked := none }) rfl hsize rfl rfl (rest := rest) rfl
    (by rw [hb]; exact d4) (by rw [hb]; exact d7) hout hRframes (by simp only [List.map_cons, List.sum_cons, hcat]; omega) hlocks
  obtain ⟨f1, f2⟩ := vx_frame hsame
  rw [hhp] at f1 f2
  have hWs : s.WarmedH U.vm := State.WarmedH.trans hW0 hW
  have hcl : s.vm.findClass cls = some ce.cls := by
    have h9 := hO.cls
    rw [hvm] at h9
    exact h9
  have hall : s.sameButNew ({ U with vm := s.vm } : State) locs mc ms := by
    subst hA
    obtain ⟨e1, e2⟩ := hsame
    rw [State.setFrames_setFrames] at e1
    have h2 : (T.setVm s.vm).sameButNew ({ U with vm := s.vm } : State) [] (0 + 1) (0 + 6) := ⟨e1, e2⟩
    have h3 := X.same.trans h2
    rw [List.append_nil] at h3
    exact h3.mono hc hs
  refine ⟨U, ?_, .threw T.heap.size, hrun, hend, Or.inr ⟨T.heap.size, rfl, cls, ce, locs, hx U hWs.alike f1 (fun q hq => f2 q hq (fun z hz => nomatch hz)), hce, hO.vm, hcl, hWs, hall, hf⟩⟩
  refine st1 _ ?_
  show Steps p.tables e below (T1.setTop { method := m, pc := pc + 3, locals := ls, stack := .ref T.heap.size :: rest, locked := none }) _
  jvm_step X₁.here [X₁.here.top, hexec, d3', Value.category]
  exact hsteps
/-- 'throw new E("text")': new; dup; ldc; invokespecial; athrow -/
theorem vx_throwS {cc : ByteArray} {pc : Nat} (hexec : p.tables.exec = Jvm.exec) (hb : c.code = cc) (hl : l.stackTraces = false) {own cls text : String} {names : List String} {ik is ic mc ms sa : Nat} {A : Nat → Prop}
    (hown : s.vm.findClass own = some m.cls) (hcls : Bundle.fit cls = true) (hnames : ∀ n ∈ names, Bundle.fit n = true)
    (hk : (Cond.classLink own ik cls).before args s = true) (hini : (Cond.initialized cls).before args s = true) (hstr : vk_R own is text sa s) (hat : ∀ w ∈ vx_atS own ic cls names, w.before args s = true)
    (hgood : ∀ w ∈ Cond.classLink own ik cls :: Cond.initialized cls :: vx_atS own ic cls names, vx_ot w = true)
    (hU : vx_Zq Bundle.tN "UNASSIGNED_STACK" Bundle.steD A s s.heap) (hN : vx_Zq Bundle.tN "SUPPRESSED_SENTINEL" Bundle.listD A s s.heap) (hS : va_S A s.heap H locs) (hsize : ls.size = c.maxLocals)
    (d0 : decode cc pc = .ok (.new ik, 3)) (d3 : decode cc (pc + 3) = .ok (.dup, 1)) (d4 : decode cc (pc + 4) = .ok (.ldc is, 2)) (d6 : decode cc (pc + 6) = .ok (.invokespecial ic, 3)) (d9 : decode cc (pc + 9) = .ok (.athrow, 1))
    (hout : ∀ x ∈ c.exceptionTable.toList, covers x (pc + 9) = false)
    (hRframes : names.length + 3 < R.frames) (hRlocals : (rest.map fun v => v.category).sum + (13 * (names.length + 1) + 43) ≤ R.locals) (hRcells : cells + 1 ≤ R.cells) (hRslots : slots + 6 ≤ R.slots) (hlocks : meth.locks = false)
    (hx : ∀ t : State, s.vm.Alike t.vm → H.size ≤ t.heap.size → (∀ q : Nat, q < H.size → t.heap[q]? = H[q]?) → XC cls s t)
    (hf : ∀ z ∈ locs, free z.base) (hc : cells + 1 ≤ mc) (hs : slots + 6 ≤ ms) :
    W p l e R s m args below meth c H locs cells slots (vx_MQ below Qc XC args s mc ms free) (F0 m pc ls rest) := by
  intro T hT X
  have htr : e.platform.stackTraces = false := (show e.platform.stackTraces = l.stackTraces by rw [X.admits.platform]).trans hl
  have Y := vx_rebase X (R' := { frames := R.frames, locals := R.locals, cells := 1, slots := 6 }) (Nat.le_refl _) (Nat.le_refl _) hRcells hRslots
  obtain ⟨s', hA⟩ : ∃ z, z = (T.setVm s.vm).setFrames (.invoking m args :: below) := ⟨_, rfl⟩
  rw [← hA] at Y
  have hvm : s'.vm = s.vm := by rw [hA]; rfl
  have hhp : s'.heap = H := by rw [hA]; exact hT
  have hW0 : s.WarmedH s'.vm := by rw [hvm]; exact State.WarmedH.refl s
  have hat' : ∀ w ∈ vx_atS own ic cls names, w.before args s' = true := fun w hw => vx_ot_at hW0 hvm.symm (hgood w (List.mem_cons_of_mem _ (List.mem_cons_of_mem _ hw))) (hat w hw)
  have hk' : (Cond.classLink own ik cls).before args s' = true := vx_ot_at hW0 hvm.symm (hgood _ List.mem_cons_self) hk
  have hini' : (Cond.initialized cls).before args s' = true := vx_ot_at hW0 hvm.symm (hgood _ (List.mem_cons_of_mem _ List.mem_cons_self)) hini
  have hU' : vx_Zq Bundle.tN "UNASSIGNED_STACK" Bundle.steD A s' s'.heap := by rw [hhp]; exact vx_Zq.moved hW0.alike (hU.kept hS.2.1)
  have hN' : vx_Zq Bundle.tN "SUPPRESSED_SENTINEL" Bundle.listD A s' s'.heap := by rw [hhp]; exact vx_Zq.moved hW0.alike (hN.kept hS.2.1)
  have h : ∀ w ∈ Bundle.ownAtoms own ic cls names, w.before args s' = true := vx_own hat' (vx_isRefq hU'.1) (vx_isRefq hN'.1) hU'.2.word hN'.2.word
  have hown' : s'.vm.findClass own = some m.cls := by rw [hvm]; exact hown
  have hins : (Cond.instantiable cls 6).before args s' = true := h _ (by simp [Bundle.ownAtoms])
  obtain ⟨vm₁, cX, kX, hfX, hkX, -, -, X₁, st1⟩ := Y.newCold hexec (own := own) (C := cls) (index := ik) (n := 6) hown' hk' hins hini'
    (g := F0 m pc ls rest) rfl (by rw [hb]; exact d0) (Nat.le_refl _) (Nat.le_refl _)
  generalize hT1 : (T.setVm vm₁).pushCell { cls := cX, slots := kX.instanceTypes.map defaultValue, vm := .none } = T1 at X₁ st1
  have hcat : (Value.ref T.heap.size).category = 1 := rfl
  have hcellA : T1.heap[T.heap.size]? = some (freshCell cX kX) := by rw [← hT1]; exact State.heap_pushCell_size _ _
  have d3' : decode c.code (pc + 3) = .ok (.dup, 1) := by rw [hb]; exact d3
  have d4' : decode c.code (pc + 4) = .ok (.ldc is, 2) := by rw [hb]; exact d4
  have hstr' : vk_R own is text sa s' := vk_R.warm hW0 hstr
  obtain ⟨U, hsteps, hrun, hend, hW, hsame, ce, hce, hO⟩ := X₁.ctorThrowS hexec htr (own := own) (cls := cls) (names := names) (ic := ic) hown' hcls hnames h (fun x hx => nomatch hx) hfX hkX hcellA (by rw [hhp, hT]; exact Nat.le_refl _) (msg := .ref sa) rfl
    (g := { method := m, pc := pc + 6, locals := ls, stack := .ref sa :: .ref T.heap.size :: .ref T.heap.size :: rest, locked := none }) rfl hsize rfl rfl (rest := rest) rfl
    (by rw [hb]; exact d6) (by rw [hb]; exact d9) hout hRframes (by simp only [List.map_cons, List.sum_cons, hcat]; omega) hlocks
  obtain ⟨f1, f2⟩ := vx_frame hsame
  rw [hhp] at f1 f2
  have hWs : s.WarmedH U.vm := State.WarmedH.trans hW0 hW
  have hcl : s.vm.findClass cls = some ce.cls := by
    have h9 := hO.cls
    rw [hvm] at h9
    exact h9
  have hall : s.sameButNew ({ U with vm := s.vm } : State) locs mc ms := by
    subst hA
    obtain ⟨e1, e2⟩ := hsame
    rw [State.setFrames_setFrames] at e1
    have h2 : (T.setVm s.vm).sameButNew ({ U with vm := s.vm } : State) [] (0 + 1) (0 + 6) := ⟨e1, e2⟩
    have h3 := X.same.trans h2
    rw [List.append_nil] at h3
    exact h3.mono hc hs
  refine ⟨U, ?_, .threw T.heap.size, hrun, hend, Or.inr ⟨T.heap.size, rfl, cls, ce, locs, hx U hWs.alike f1 (fun q hq => f2 q hq (fun z hz => nomatch hz)), hce, hO.vm, hcl, hWs, hall, hf⟩⟩
  refine st1 _ ?_
  show Steps p.tables e below (T1.setTop { method := m, pc := pc + 3, locals := ls, stack := .ref T.heap.size :: rest, locked := none }) _
  jvm_step X₁.here [X₁.here.top, hexec, d3', Value.category]
  exact X₁.ldcString hexec (own := own) (text := text) (index := is) (a := sa) hown' hstr'.1 hstr'.2
    (g := { method := m, pc := pc + 4, locals := ls, stack := .ref T.heap.size :: .ref T.heap.size :: rest, locked := none }) rfl d4' _ hsteps
/-- 'throw new E("text")', the text by a wide index -/
theorem vx_throwSW {cc : ByteArray} {pc : Nat} (hexec : p.tables.exec = Jvm.exec) (hb : c.code = cc) (hl : l.stackTraces = false) {own cls text : String} {names : List String} {ik is ic mc ms sa : Nat} {A : Nat → Prop}
    (hown : s.vm.findClass own = some m.cls) (hcls : Bundle.fit cls = true) (hnames : ∀ n ∈ names, Bundle.fit n = true)
    (hk : (Cond.classLink own ik cls).before args s = true) (hini : (Cond.initialized cls).before args s = true) (hstr : vk_R own is text sa s) (hat : ∀ w ∈ vx_atS own ic cls names, w.before args s = true)
    (hgood : ∀ w ∈ Cond.classLink own ik cls :: Cond.initialized cls :: vx_atS own ic cls names, vx_ot w = true)
    (hU : vx_Zq Bundle.tN "UNASSIGNED_STACK" Bundle.steD A s s.heap) (hN : vx_Zq Bundle.tN "SUPPRESSED_SENTINEL" Bundle.listD A s s.heap) (hS : va_S A s.heap H locs) (hsize : ls.size = c.maxLocals)
    (d0 : decode cc pc = .ok (.new ik, 3)) (d3 : decode cc (pc + 3) = .ok (.dup, 1)) (d4 : decode cc (pc + 4) = .ok (.ldc_w is, 3)) (d7 : decode cc (pc + 7) = .ok (.invokespecial ic, 3)) (d10 : decode cc (pc + 10) = .ok (.athrow, 1))
    (hout : ∀ x ∈ c.exceptionTable.toList, covers x (pc + 10) = false)
    (hRframes : names.length + 3 < R.frames) (hRlocals : (rest.map fun v => v.category).sum + (13 * (names.length + 1) + 43) ≤ R.locals) (hRcells : cells + 1 ≤ R.cells) (hRslots : slots + 6 ≤ R.slots) (hlocks : meth.locks = false)
    (hx : ∀ t : State, s.vm.Alike t.vm → H.size ≤ t.heap.size → (∀ q : Nat, q < H.size → t.heap[q]? = H[q]?) → XC cls s t)
    (hf : ∀ z ∈ locs, free z.base) (hc : cells + 1 ≤ mc) (hs : slots + 6 ≤ ms) :
    W p l e R s m args below meth c H locs cells slots (vx_MQ below Qc XC args s mc ms free) (F0 m pc ls rest) := by
  intro T hT X
  have htr : e.platform.stackTraces = false := (show e.platform.stackTraces = l.stackTraces by rw [X.admits.platform]).trans hl
  have Y := vx_rebase X (R' := { frames := R.frames, locals := R.locals, cells := 1, slots := 6 }) (Nat.le_refl _) (Nat.le_refl _) hRcells hRslots
  obtain ⟨s', hA⟩ : ∃ z, z = (T.setVm s.vm).setFrames (.invoking m args :: below) := ⟨_, rfl⟩
  rw [← hA] at Y
  have hvm : s'.vm = s.vm := by rw [hA]; rfl
  have hhp : s'.heap = H := by rw [hA]; exact hT
  have hW0 : s.WarmedH s'.vm := by rw [hvm]; exact State.WarmedH.refl s
  have hat' : ∀ w ∈ vx_atS own ic cls names, w.before args s' = true := fun w hw => vx_ot_at hW0 hvm.symm (hgood w (List.mem_cons_of_mem _ (List.mem_cons_of_mem _ hw))) (hat w hw)
  have hk' : (Cond.classLink own ik cls).before args s' = true := vx_ot_at hW0 hvm.symm (hgood _ List.mem_cons_self) hk
  have hini' : (Cond.initialized cls).before args s' = true := vx_ot_at hW0 hvm.symm (hgood _ (List.mem_cons_of_mem _ List.mem_cons_self)) hini
  have hU' : vx_Zq Bundle.tN "UNASSIGNED_STACK" Bundle.steD A s' s'.heap := by rw [hhp]; exact vx_Zq.moved hW0.alike (hU.kept hS.2.1)
  have hN' : vx_Zq Bundle.tN "SUPPRESSED_SENTINEL" Bundle.listD A s' s'.heap := by rw [hhp]; exact vx_Zq.moved hW0.alike (hN.kept hS.2.1)
  have h : ∀ w ∈ Bundle.ownAtoms own ic cls names, w.before args s' = true := vx_own hat' (vx_isRefq hU'.1) (vx_isRefq hN'.1) hU'.2.word hN'.2.word
  have hown' : s'.vm.findClass own = some m.cls := by rw [hvm]; exact hown
  have hins : (Cond.instantiable cls 6).before args s' = true := h _ (by simp [Bundle.ownAtoms])
  obtain ⟨vm₁, cX, kX, hfX, hkX, -, -, X₁, st1⟩ := Y.newCold hexec (own := own) (C := cls) (index := ik) (n := 6) hown' hk' hins hini'
    (g := F0 m pc ls rest) rfl (by rw [hb]; exact d0) (Nat.le_refl _) (Nat.le_refl _)
  generalize hT1 : (T.setVm vm₁).pushCell { cls := cX, slots := kX.instanceTypes.map defaultValue, vm := .none } = T1 at X₁ st1
  have hcat : (Value.ref T.heap.size).category = 1 := rfl
  have hcellA : T1.heap[T.heap.size]? = some (freshCell cX kX) := by rw [← hT1]; exact State.heap_pushCell_size _ _
  have d3' : decode c.code (pc + 3) = .ok (.dup, 1) := by rw [hb]; exact d3
  have d4' : decode c.code (pc + 4) = .ok (.ldc_w is, 3) := by rw [hb]; exact d4
  have hstr' : vk_R own is text sa s' := vk_R.warm hW0 hstr
  obtain ⟨U, hsteps, hrun, hend, hW, hsame, ce, hce, hO⟩ := X₁.ctorThrowS hexec htr (own := own) (cls := cls) (names := names) (ic := ic) hown' hcls hnames h (fun x hx => nomatch hx) hfX hkX hcellA (by rw [hhp, hT]; exact Nat.le_refl _) (msg := .ref sa) rfl
    (g := { method := m, pc := pc + 7, locals := ls, stack := .ref sa :: .ref T.heap.size :: .ref T.heap.size :: rest, locked := none }) rfl hsize rfl rfl (rest := rest) rfl
    (by rw [hb]; exact d7) (by rw [hb]; exact d10) hout hRframes (by simp only [List.map_cons, List.sum_cons, hcat]; omega) hlocks
  obtain ⟨f1, f2⟩ := vx_frame hsame
  rw [hhp] at f1 f2
  have hWs : s.WarmedH U.vm := State.WarmedH.trans hW0 hW
  have hcl : s.vm.findClass cls = some ce.cls := by
    have h9 := hO.cls
    rw [hvm] at h9
    exact h9
  have hall : s.sameButNew ({ U with vm := s.vm } : State) locs mc ms := by
    subst hA
    obtain ⟨e1, e2⟩ := hsame
    rw [State.setFrames_setFrames] at e1
    have h2 : (T.setVm s.vm).sameButNew ({ U with vm := s.vm } : State) [] (0 + 1) (0 + 6) := ⟨e1, e2⟩
    have h3 := X.same.trans h2
    rw [List.append_nil] at h3
    exact h3.mono hc hs
  refine ⟨U, ?_, .threw T.heap.size, hrun, hend, Or.inr ⟨T.heap.size, rfl, cls, ce, locs, hx U hWs.alike f1 (fun q hq => f2 q hq (fun z hz => nomatch hz)), hce, hO.vm, hcl, hWs, hall, hf⟩⟩
  refine st1 _ ?_
  show Steps p.tables e below (T1.setTop { method := m, pc := pc + 3, locals := ls, stack := .ref T.heap.size :: rest, locked := none }) _
  jvm_step X₁.here [X₁.here.top, hexec, d3', Value.category]
  exact X₁.ldcStringW hexec (own := own) (text := text) (index := is) (a := sa) hown' hstr'.1 hstr'.2
    (g := { method := m, pc := pc + 4, locals := ls, stack := .ref T.heap.size :: .ref T.heap.size :: rest, locked := none }) rfl d4' _ hsteps
end Ends
section Bodies
variable {l : Launch}
theorem vx_ofW {y : MethodName} {ws ws' : List Cond} {rm : Room} {Pc : Array Value → State → Prop} {Qc : Array Value → State → Outcome → State → Prop} {XC : String → State → State → Prop} {mc ms : Nat} {free : Addr → Prop} {cc : ByteArray} {maxL : Nat} {ret : Option FieldType}
    (hy : plainName y.cls = true) (hw : ws = Cond.code y cc maxL ret :: ws')
    (body : ∀ p e s m args below meth c s₁, BodyLoose p l y (headSpec ws rm) cc maxL ret e s m args below meth c s₁ → c.maxLocals = maxL → (∀ x ∈ c.exceptionTable.toList, False) → Pc args s →
      W p l e (headSpec ws rm).room s m args below meth c s.heap [] 0 0 (vx_MQ below Qc XC args s mc ms free) (entryFrame m args maxL)) : vx_Met l y ws rm Pc Qc XC mc ms free := by
  refine MetFree.of_bodyS (code := cc) (maxLocals := maxL) (ret := ret) hy ?_ ?_
  · intro args s m h hn
    obtain ⟨meth, c, h1, h2, h3, h4, h5, h6, -, -⟩ := Cond.code_spec hn (atoms_spec (ws := ws) h _ (by rw [hw]; exact List.mem_cons_self))
    exact ⟨meth, c, h1, h2, h3, h4, h5, h6⟩
  · intro p e s m args below meth c s₁ B hml hP _
    have hh0 : s₁.heap = s.heap := by rw [B.state]; rfl
    have ht : ∀ x ∈ c.exceptionTable.toList, False := by
      obtain ⟨meth9, c9, h1, h2, -, -, -, -, h7, -⟩ := Cond.code_spec B.named (atoms_spec (ws := ws) B.pre _ (by rw [hw]; exact List.mem_cons_self))
      cases Option.some.inj (h1.symm.trans B.method)
      cases Option.some.inj (h2.symm.trans (Stand.of_body B).code)
      intro x hx
      rw [Array.isEmpty_iff.mp h7] at hx
      cases hx
    obtain ⟨t, a1, o, b1, b2, b3⟩ := body p e s m args below meth c s₁ B hml ht hP s₁ hh0 (Stand.of_body B)
    exact ⟨t, o, a1, b1, b2, b3⟩
/-- the table of a body with handlers -/
theorem vx_table {p : Program} {x y : MethodName} {S : Spec} {cc bytes : ByteArray} {maxL maxL' : Nat} {ret ret' : Option FieldType} {e : Env} {s s₁ : State} {m : MethodId} {args : Array Value} {below : List Frame} {meth : Method} {c : Code} {hh : List (Nat × Nat × Nat × Nat)}
    (B : BodyLoose p l y S cc maxL ret e s m args below meth c s₁) (h : (Cond.codeWith y bytes maxL' ret' hh).before args s = true) : c.exceptionTable.toList = tableOf hh := by
  obtain ⟨m9, meth9, c9, hn9, h1, h2, -, -, h6, -⟩ := Cond.codeWith_spec h
  cases Option.some.inj (hn9.symm.trans B.named)
  cases Option.some.inj (h1.symm.trans B.method)
  cases Option.some.inj (h2.symm.trans (Stand.of_body B).code)
  rw [← h6, table_eq]
end Bodies
end VXA
/-! ===== END ===== -/
/-! ===== BEGIN a static call of a method with an exception table ===== -/
section VXS
variable {p : Program} {l : Launch} {e : Env} {R : Room} {s : State} {m : MethodId} {args : Array Value} {below : List Frame} {meth : Method} {c : Code} {T : State} {H : Heap} {locs : List Loc} {cells slots : Nat}
abbrev vx_CSW (R : Room) (s : State) (args : Array Value) (own : String) (index : Nat) (y : MethodName) (bytes : ByteArray) (maxL : Nat) (ret : Option FieldType) (hh : List (Nat × Nat × Nat × Nat)) (ws : List Cond) (rm : Room) (mc ms n : Nat) : Prop :=
  (rm.cells = mc ∧ rm.slots = ms ∧ rm.frames + 1 ≤ R.frames ∧ 8 + (maxL + 11) + rm.locals ≤ R.locals ∧ (∀ w ∈ ws, ∀ (a' : Array Value) (U : State), s.WarmedH U.vm → w.before a' U = true) ∧ Cond.codeWith y bytes maxL ret hh ∈ ws) ∧
  (Cond.codeWith y bytes maxL ret hh).before args s = true ∧ (Cond.initialized y.cls).before args s = true ∧ (y.cls ≠ "java/lang/invoke/MethodHandle" ∧ y.cls ≠ "java/lang/invoke/VarHandle") ∧
  (∀ sig, parseMethodDescriptor y.desc = some sig → n = sig.parameters.length) ∧ (Cond.methodLink own index y).before args s = true ∧ (Cond.static y).before args s = true
theorem vx_cwSW {own : String} {index maxL mc ms : Nat} {y : MethodName} {bytes : ByteArray} {ret : Option FieldType} {hh : List (Nat × Nat × Nat × Nat)} {Ts ws ws' : List Cond} {rm : Room} (n : Nat) (ht : ∀ w ∈ Ts, w.before args s = true) (hT : GoodIn Ts (va_wsS own index y ws)) (hw : ws = Cond.codeWith y bytes maxL ret hh :: ws') (hrc : rm.cells = mc) (hrs : rm.slots = ms)
    (hd : y.cls ≠ "java/lang/invoke/MethodHandle" ∧ y.cls ≠ "java/lang/invoke/VarHandle" ∧ (parseMethodDescriptor y.desc).map (fun d => d.parameters.length) = some n) (hR : rm.frames + 1 ≤ R.frames ∧ 8 + (maxL + 11) + rm.locals ≤ R.locals) :
    vx_CSW R s args own index y bytes maxL ret hh ws rm mc ms n := by
  have ok : ∀ w ∈ va_wsS own index y ws, w.before args s = true := fun w h => ht w (hT w h).1
  have hG : GoodIn Ts ws := fun w h => hT w (by unfold va_wsS; exact List.mem_append_right _ h)
  have hc : Cond.codeWith y bytes maxL ret hh ∈ ws := by rw [hw]; exact List.mem_cons_self
  refine ⟨⟨hrc, hrs, hR.1, hR.2, pay_in ht hG, hc⟩, ht _ (hG _ hc).1, ok _ (by simp [va_wsS]), ⟨hd.1, hd.2.1⟩, fun sig h => ?_, ok _ (by simp [va_wsS]), ok _ (by simp [va_wsS])⟩
  have h2 := hd.2.2
  rw [h] at h2
  exact (Option.some.inj h2).symm
theorem vx_callSW (X : Stand p l e R s m args below meth c T locs cells slots) (hexec : p.tables.exec = Jvm.exec) {own : String} {index : Nat} {y : MethodName} {bytes : ByteArray} {maxL : Nat} {ret : Option FieldType} {hh : List (Nat × Nat × Nat × Nat)}
    (hown : s.vm.findClass own = some m.cls) (hlink : (Cond.methodLink own index y).before args s = true) (hstat : (Cond.static y).before args s = true) (hinit : (Cond.initialized y.cls).before args s = true)
    (hcode : (Cond.codeWith y bytes maxL ret hh).before args s = true) (hy : y.cls ≠ "java/lang/invoke/MethodHandle" ∧ y.cls ≠ "java/lang/invoke/VarHandle")
    {W9 : Nat} {Pre : Pt → Array Value → Prop} {Post : Pt → Array Value → Option Value → Pt → Prop} (hK : Back l R p e below s args y 3 W9 Pre Post)
    {g : JFrame} (hg : g.method = m) (hsize : g.locals.size = c.maxLocals) {argsL rest : List Value} (hlen : ∀ sig, parseMethodDescriptor y.desc = some sig → argsL.length = sig.parameters.length)
    (hstack : g.stack = argsL.reverse ++ rest) (hW : 2 * g.monitorRoom + (rest.map fun v => v.category).sum ≤ W9) (hdg : decode c.code g.pc = .ok (.invokestatic index, 3))
    (hpre : ∀ vm₁, s.WarmedH vm₁ → Pre ⟨T.setVm vm₁, locs, cells, slots⟩ argsL.toArray) :
    ∃ (v : Option Value) (vm₁ : Vm) (B : Pt), s.WarmedH vm₁ ∧ Stand p l e R s m args below meth c B.U B.locs B.cells B.slots ∧ Post ⟨T.setVm vm₁, locs, cells, slots⟩ argsL.toArray v B ∧
      ∀ target, Steps p.tables e below (B.U.setTop { g with pc := g.pc + 3, stack := v.toList ++ rest }) target → Steps p.tables e below (T.setTop g) target := by
  obtain ⟨mk, methM, cM, hnamed, hmethM, -, -, -, -, -, -, hsigM⟩ := Cond.codeWith_spec hcode
  have hstatic : methM.isStatic = true := Cond.static_spec hnamed hmethM hstat
  obtain ⟨kP, hkP, -⟩ := className_of_methodNamed hnamed
  have hinitP : kP.init = .initialized := Cond.initialized_spec (findClass_of_methodNamed hnamed) hkP hinit
  obtain ⟨vm₁, X₁, hstep₁⟩ := X.invokestatic hexec hown hlink hnamed hmethM hstatic hkP hinitP hy (g := g) hg (argsL := argsL) (rest := rest) (hlen _ hsigM) hstack hdg
  obtain ⟨v, B, X', hpost, hsteps⟩ := hK m meth c ⟨T.setVm vm₁, locs, cells, slots⟩ { g with stack := rest } (.invokestatic index) mk argsL.toArray X₁ hg hsize hdg hW (X₁.named hnamed) (hpre vm₁ X₁.warmed)
  exact ⟨v, vm₁, B, X₁.warmed, X', hpost, fun target h => hstep₁ _ fun acts => by rw [doInvoke_state]; exact hsteps.trans h⟩
theorem vx_runSW {y : MethodName} {bytes cc : ByteArray} {maxL nL mc ms n index : Nat} {ret : Option FieldType} {hh : List (Nat × Nat × Nat × Nat)} {ws : List Cond} {rm : Room} {Pc : Array Value → State → Prop} {Qc : Array Value → State → Outcome → State → Prop} {free : Addr → Prop} {Ts : List Cond} {own : String} {As rest : List Value} {g : JFrame}
    (S : CallFix p m c cc nL s args Ts own) (hM : Met l y ws rm Pc Qc mc ms free) (cw : vx_CSW R s args own index y bytes maxL ret hh ws rm mc ms n) (hp : PreS s H Pc As)
    (hg : g.method = m) (hn : As.length = n) (hsize : g.locals.size = nL) (hstack : g.stack = As.reverse ++ rest) (hW : 2 * g.monitorRoom + (rest.map fun v => v.category).sum ≤ 8) (hdg : decode cc g.pc = .ok (.invokestatic index, 3)) (hf : cells + mc ≤ R.cells ∧ slots + ms ≤ R.slots) :
    va_Run p l e R s m args below meth c H locs cells slots mc ms g rest (Qc As.toArray) (free) := by
  obtain ⟨⟨hrc, hrs, hfr, hlo, hws, hcw⟩, hcode, hini, hy, hlen, hl, hstt⟩ := cw
  have hK : Back l R p e below s args y 3 8 (PreOf R mc ms Pc) (PostOf Qc mc ms free) := va_backW (hh := hh) (bytes := bytes) (maxL := maxL) (ret := ret) hM hp.1 hrc hrs hfr hlo hws hcw (fun a' U hW => word_at hW (Or.inl (by first | rfl | simp [Cond.onTables, Cond.keeps, Cond.steady])) hini)
  obtain ⟨hx, hb, hml, ho, -⟩ := S
  intro T hT X
  obtain ⟨v, vm₁, ⟨U', l2, c2, s2⟩, hW₁, X', ⟨g', mk, t, L, e1, e2, hq, h1, hL, h2, h3⟩, st⟩ := vx_callSW X hx (hh := hh) (bytes := bytes) (maxL := maxL) (ret := ret) ho hl hstt hini hcode hy hK hg (hsize.trans hml.symm) (argsL := As) (rest := rest) (fun sig h => hn.trans (hlen sig h)) hstack hW (by rw [hb]; exact hdg)
    (fun vm₁ hW₁ => ⟨hf.1, hf.2, hp.2 (T.setVm vm₁) hT hW₁⟩)
  dsimp only [Pt.U, Pt.locs, Pt.cells, Pt.slots] at X' e1 e2 h1 h2 h3 st
  subst h1; subst h2; subst h3
  exact ⟨v, (T.setVm vm₁).calling g' mk As.toArray, t, U', L, hT, X', hL, e1, e2, hq, st⟩
/-- not caught here, past rows that name other classes: it goes on to the caller -/
theorem vx_outP {p : Program} {l : Launch} {e : Env} {R : Room} {s : State} {m : MethodId} {args : Array Value} {below : List Frame} {meth : Method} {c : Code} {H : Heap} {locs : List Loc} {cells slots : Nat} {free : Addr → Prop} {ls : Array Slot} {rest : List Value} {Qc : Array Value → State → Outcome → State → Prop} {XC : String → State → State → Prop}
    {pc : Nat} {own E : String} {ce : Cell} {q : Addr} {mc ms : Nat} (hown : s.vm.findClass own = some m.cls) (hlocks : meth.locks = false)
    (hpass : ∀ z ∈ c.exceptionTable.toList, covers z pc = false ∨ (z.catchType ≠ 0 ∧ ∃ nm : String, (Cond.classLink own z.catchType nm).before args s = true ∧ va_Nc E nm s)) (hcell : H[q]? = some ce) (hv : ce.vm = .none) (hcl : s.vm.findClass E = some ce.cls)
    (hx : ∀ t : State, t.heap = H → s.vm.Alike t.vm → XC E s t) (hf : ∀ z ∈ locs, free z.base) (hc : cells ≤ mc) (hs : slots ≤ ms) :
    vx_W p l e R s m args below meth c H locs cells slots (vx_MQ below Qc XC args s mc ms free) (F0 m pc ls rest) q := by
  intro T hT X
  have hpl : e.platform.magicAccessors = ({} : Platform).magicAccessors := by rw [X.admits.platform]
  obtain ⟨vm', hW', X', st⟩ := X.outThrough hlocks q (g := F0 m pc ls rest) rfl rfl rfl (cell := ce) (by rw [hT]; exact hcell) (by rw [hv]; rfl)
    (by obtain ⟨k9, h9, -⟩ := Vm.findClass_spec hcl; exact ⟨k9, h9⟩) (fun z hz => by
      rcases hpass z hz with h | ⟨hz0, nm, hl1, hn1⟩
      · exact Or.inl h
      · obtain ⟨c6, hc6, hcl6⟩ := Cond.classLink_spec hown hl1 e.platform hpl
        obtain ⟨a8, b8, h1, h2, h3⟩ := hn1
        cases Option.some.inj (h1.symm.trans hcl)
        cases Option.some.inj (h2.symm.trans hc6)
        exact Or.inr ⟨hz0, _, hcl6, h3⟩)
  obtain ⟨g₀, hfr⟩ := X'.frames_eq
  have hcell9 : ((T.setVm vm').setFrames (.throwing q :: below)).heap[q]? = some ce := by
    show T.heap[q]? = some ce
    rw [hT]; exact hcell
  have hend : Ended ((T.setVm vm').setFrames (.throwing q :: below)) below (.threw q) := State.frames_setFrames _ (State.cur_lt_of_frames hfr)
  refine ⟨(T.setVm vm').setFrames (.throwing q :: below), ?_, .threw q, X'.here.running, hend, Or.inr ⟨q, rfl, E, ce, locs, hx _ hT (X'.ends _).1.alike, hcell9, hv, hcl, (X'.ends _).1, (X'.ends _).2.mono hc hs, hf⟩⟩
  rw [X.pushThrowing_eq]
  exact st
/-- a thing of a world lies in the heap -/
theorem vx_lt {D : va_G} {cl : List vw_C} {ws : va_W} {H1 : Heap} (h : va_P D cl ws H1) {k : Nat} {q : Nat × va_E} (hk : ws[k]? = some q) : q.1 < H1.size := (h k q hk).lt
end VXS
/-! ===== END ===== -/
/-! ===== BEGIN methods with a table of their own: called by a name, returning or throwing ===== -/
section VXH
/-! vx_backW, vx_callVX, vx_callSX, vx_callVW, vx_runVW, vx_runVX, vx_runSX, vx_ofWH follow the same proofs as their sisters above (Free/Laws.lean, Shelf42/LK1.lean); vx_outP calls Shelf42/NT130.lean (outThrough). -/
section
variable {l : Launch} {R : Room} {p : Program} {e : Env} {below : List Frame} {s : State} {sargs : Array Value} {y : MethodName} {len W9 : Nat}
theorem vx_backW {ws : List Cond} {rm : Room} {Pc : Array Value → State → Prop} {Qc : Array Value → State → Outcome → State → Prop} {XC : String → State → State → Prop} {mc ms : Nat} {free : Addr → Prop} {bytes : ByteArray} {maxL : Nat} {ret : Option FieldType} {hh : List (Nat × Nat × Nat × Nat)}
    (hM : vx_Met l y ws rm Pc Qc XC mc ms free) (hblind : FrameBlind Pc) (hrc : rm.cells = mc) (hrs : rm.slots = ms)
    (hframes : rm.frames + 1 ≤ R.frames) (hlocals : W9 + (maxL + 11) + rm.locals ≤ R.locals)
    (hws : ∀ w ∈ ws, ∀ a' U, s.WarmedH U.vm → w.before a' U = true) (hcode : Cond.codeWith y bytes maxL ret hh ∈ ws) (hinit : ∀ a' U, s.WarmedH U.vm → (Cond.initialized y.cls).before a' U = true) :
    vx_Back l R p e below s sargs y len W9 (PreOf R mc ms Pc) (PostOf Qc mc ms free) (vx_Post XC mc ms free) := by
  intro m meth c A g ig mk a X hg hsize hdg hW hn hp
  have h1 : (headSpec ws rm).pre.before a A.U = true := atoms_intro fun w hw => hws w hw _ _ X.warmed
  have h2 : (Cond.codeWith y bytes maxL ret hh).before a A.U = true := hws _ hcode _ _ X.warmed
  have h3 : (Cond.initialized y.cls).before a A.U = true := hinit _ _ X.warmed
  have h4 : A.cells + (headSpec ws rm).room.cells ≤ R.cells := by rw [show (headSpec ws rm).room.cells = mc from hrc]; exact hp.1
  have h5 : A.slots + (headSpec ws rm).room.slots ≤ R.slots := by rw [show (headSpec ws rm).room.slots = ms from hrs]; exact hp.2.1
  have hPc : Pc a (A.U.calling g mk a) := hblind _ _ _ _ hp.2.2
  obtain ⟨U, Ls, c0, s0⟩ := A
  dsimp only [Pt.U, Pt.locs, Pt.cells, Pt.slots] at h1 h2 h3 h4 h5 X hn hPc ⊢
  obtain ⟨m9, methY, cY, hn9, hmY, hcY, -, hlY, -⟩ := Cond.codeWith_spec h2
  cases Option.some.inj (hn9.symm.trans hn)
  obtain ⟨kY, hkY, -⟩ := className_of_methodNamed hn
  have hinitY : kY.init = .initialized := Cond.initialized_spec (findClass_of_methodNamed hn) hkY h3
  have h : At U g.method c below := by rw [hg]; exact X.here
  have hlocals9 : W9 + (maxL + 11) + (headSpec ws rm).room.locals ≤ R.locals := hlocals
  have happ : (headSpec ws rm).appliesLoose y e.platform (U.calling g mk a) = true :=
    Spec.appliesLoose_calling (g := g) h hdg hn hkY hinitY
      (X.room_calling (g := g) (R' := (headSpec ws rm).room) hsize hmY hcY hframes (by rw [hlY]; omega) h4 h5) h1
  obtain ⟨mid, hmid⟩ := h.above
  have hfr : (U.setTop g).frames = (.java g :: mid) ++ below := by rw [State.frames_setTop' g h.top, hmid]; rfl
  obtain ⟨o, s₂, hsteps, -, hend, hq⟩ := Steps.callFree hM p X.admits X.cas X.clock (acts := []) hfr happ hPc trivial
  have hq' : vx_Q Qc XC mc ms free a (U.calling g mk a) o s₂ := hq
  rw [State.frames_setTop' g h.top] at hend
  obtain ⟨g₀, hg0⟩ := Option.isSome_iff_exists.mp h.top
  obtain ⟨r, hr⟩ := State.topJava?_eq_some.mp hg0
  have hr' : (({ U with heap := s₂.heap, slotsUsed := s₂.slotsUsed } : State).setVm s₂.vm).frames = .java g₀ :: r := hr
  rcases hq' with ⟨hqc, L, hfe, hL⟩ | ⟨q, rfl, E, ce, L, hx, hce, hcv, hcl, hW₂, hsm, hL⟩
  · obtain ⟨⟨v, rfl⟩, hW₂, e2, q2, q3, q4, q5, q6⟩ := id hfe
    have e3 : s₂ = ({ (U.calling g mk a).setFrames s₂.frames with heap := s₂.heap, slotsUsed := s₂.slotsUsed } : State).setVm s₂.vm := by
      have : s₂ = ({ s₂ with vm := (U.calling g mk a).vm } : State).setVm s₂.vm := rfl
      rw [e2] at this
      exact this
    obtain ⟨c₂, i₂, len₂, hc₂, hd₂, hf₂⟩ := hend
    have hW' : U.WarmedH s₂.vm := hW₂
    have hcc : c₂ = c := by
      have h1 : s₂.code? g.method = U.code? g.method := by
        rw [State.code?_eq, State.code?_eq, hW'.alike.method?]
      exact Option.some.inj (hc₂.symm.trans (h1.trans h.code))
    subst hcc
    have hlen : len₂ = len := by rw [hdg] at hd₂; cases hd₂; rfl
    subst hlen
    have hs₂ : s₂ = (({ U with heap := s₂.heap, slotsUsed := s₂.slotsUsed } : State).setVm s₂.vm).setTop { g with pc := g.pc + len₂, stack := v.toList ++ g.stack } := by
      refine e3.trans ?_
      rw [hf₂, State.calling_eq h.top, State.setFrames_setFrames, State.setTop_of_frames _ hr', hr]
      rfl
    have hsame : U.sameButNew ({ U with heap := s₂.heap, slotsUsed := s₂.slotsUsed } : State) L mc ms := by
      refine ⟨?_, q2, q3, q4, q5, q6⟩
      obtain ⟨t, ht, -⟩ := State.frames_cons hr
      show ({ U with heap := s₂.heap, slotsUsed := s₂.slotsUsed } : State) = { U.setFrames U.frames with heap := s₂.heap, slotsUsed := s₂.slotsUsed }
      rw [State.setFrames_self ht]
    subst hg
    refine Or.inl ⟨v, ⟨(({ U with heap := s₂.heap, slotsUsed := s₂.slotsUsed } : State).setVm s₂.vm), Ls ++ L, c0 + mc, s0 + ms⟩,
      ⟨X.admits, X.cas, X.clock, X.frames, X.room, X.hears, X.method, X.code, (X.here.setHeapUsed s₂.heap s₂.slotsUsed).setVm hW'.alike, X.tail, State.WarmedH.trans X.warmed hW', X.limits, X.bytes, X.same.trans (hsame.setVm s.vm)⟩,
      ⟨g, mk, s₂, L, rfl, rfl, hqc, rfl, hL, rfl, rfl⟩, ?_⟩
    show Steps p.tables e below _ ((({ U with heap := s₂.heap, slotsUsed := s₂.slotsUsed } : State).setVm s₂.vm).setTop { g with pc := g.pc + len₂, stack := v.toList ++ g.stack })
    rw [← hs₂]
    exact hsteps
  · obtain ⟨e2, q2, q3, q4, q5, q6⟩ := id hsm
    have e3 : s₂ = ({ (U.calling g mk a).setFrames s₂.frames with heap := s₂.heap, slotsUsed := s₂.slotsUsed } : State).setVm s₂.vm := by
      have : s₂ = ({ s₂ with vm := (U.calling g mk a).vm } : State).setVm s₂.vm := rfl
      rw [e2] at this
      exact this
    have hf₂ : s₂.frames = .throwing q :: .java g :: U.frames.tail := hend
    have hW' : U.WarmedH s₂.vm := hW₂
    have hs₂ : s₂ = ((({ U with heap := s₂.heap, slotsUsed := s₂.slotsUsed } : State).setVm s₂.vm).setTop g).pushFrame (.throwing q) := by
      refine e3.trans ?_
      rw [hf₂, State.calling_eq h.top, State.setFrames_setFrames, State.pushFrame, State.frames_setTop _ hr', State.setTop_of_frames _ hr', State.setFrames_setFrames, hr]
      rfl
    have hsame : U.sameButNew ({ U with heap := s₂.heap, slotsUsed := s₂.slotsUsed } : State) L mc ms := by
      refine ⟨?_, q2, q3, q4, q5, q6⟩
      obtain ⟨t, ht, -⟩ := State.frames_cons hr
      show ({ U with heap := s₂.heap, slotsUsed := s₂.slotsUsed } : State) = { U.setFrames U.frames with heap := s₂.heap, slotsUsed := s₂.slotsUsed }
      rw [State.setFrames_self ht]
    subst hg
    refine Or.inr ⟨q, ⟨(({ U with heap := s₂.heap, slotsUsed := s₂.slotsUsed } : State).setVm s₂.vm), Ls ++ L, c0 + mc, s0 + ms⟩,
      ⟨X.admits, X.cas, X.clock, X.frames, X.room, X.hears, X.method, X.code, (X.here.setHeapUsed s₂.heap s₂.slotsUsed).setVm hW'.alike, X.tail, State.WarmedH.trans X.warmed hW', X.limits, X.bytes, X.same.trans (hsame.setVm s.vm)⟩,
      ⟨g, mk, s₂, L, E, ce, rfl, rfl, hx, hce, hcv, hcl, rfl, hL, rfl, rfl⟩, ?_⟩
    show Steps p.tables e below _ (((({ U with heap := s₂.heap, slotsUsed := s₂.slotsUsed } : State).setVm s₂.vm).setTop g).pushFrame (.throwing q))
    rw [← hs₂]
    exact hsteps
end
variable {p : Program} {l : Launch} {e : Env} {R : Room} {s : State} {m : MethodId} {args : Array Value} {below : List Frame} {meth : Method} {c : Code} {T : State} {H : Heap} {locs : List Loc} {cells slots : Nat}
theorem vx_callVX (X : Stand p l e R s m args below meth c T locs cells slots) (hexec : p.tables.exec = Jvm.exec) {own C : String} {index : Nat} {y : MethodName} {bytes : ByteArray} {maxL : Nat} {ret : Option FieldType} {hh : List (Nat × Nat × Nat × Nat)}
    (hown : s.vm.findClass own = some m.cls) (hlink : (Cond.methodLink own index y).before args s = true) (hinst : (Cond.instanceMethod y).before args s = true) (hsel : (Cond.selects C y y).before args s = true)
    (hcode : (Cond.codeWith y bytes maxL ret hh).before args s = true) (hy : y.cls ≠ "java/lang/invoke/MethodHandle" ∧ y.cls ≠ "java/lang/invoke/VarHandle")
    {W9 : Nat} {Pre : Pt → Array Value → Prop} {Post : Pt → Array Value → Option Value → Pt → Prop} {PostX : Pt → Array Value → Addr → Pt → Prop} (hK : vx_Back l R p e below s args y 3 W9 Pre Post PostX)
    {b : Addr} {cellB : Cell} (hcell : T.heap[b]? = some cellB) (hobj : cellB.vm.isStatics = false) (hcls : s.vm.findClass C = some cellB.cls)
    {g : JFrame} (hg : g.method = m) (hsize : g.locals.size = c.maxLocals) {argsL rest : List Value} (hlen : ∀ sig, parseMethodDescriptor y.desc = some sig → argsL.length = sig.parameters.length)
    (hstack : g.stack = argsL.reverse ++ .ref b :: rest) (hW : 2 * g.monitorRoom + (rest.map fun v => v.category).sum ≤ W9) (hdg : decode c.code g.pc = .ok (.invokevirtual index, 3))
    (hpre : ∀ vm₁, s.WarmedH vm₁ → Pre ⟨T.setVm vm₁, locs, cells, slots⟩ (Value.ref b :: argsL).toArray) :
    (∃ (v : Option Value) (vm₁ : Vm) (B : Pt), s.WarmedH vm₁ ∧ Stand p l e R s m args below meth c B.U B.locs B.cells B.slots ∧ Post ⟨T.setVm vm₁, locs, cells, slots⟩ (Value.ref b :: argsL).toArray v B ∧
      ∀ target, Steps p.tables e below (B.U.setTop { g with pc := g.pc + 3, stack := v.toList ++ rest }) target → Steps p.tables e below (T.setTop g) target) ∨
    (∃ (q : Addr) (vm₁ : Vm) (B : Pt), s.WarmedH vm₁ ∧ Stand p l e R s m args below meth c B.U B.locs B.cells B.slots ∧ PostX ⟨T.setVm vm₁, locs, cells, slots⟩ (Value.ref b :: argsL).toArray q B ∧
      Steps p.tables e below (T.setTop g) ((B.U.setTop { g with stack := rest }).pushFrame (.throwing q))) := by
  obtain ⟨mk, methM, hnamed, hmethM, hstM, habM⟩ := Cond.instanceMethod_spec hinst
  obtain ⟨m8, methM', cM, hn8, hmethM', -, -, -, -, -, -, hsigM⟩ := Cond.codeWith_spec hcode
  cases Option.some.inj (hn8.symm.trans hnamed)
  cases hmethM.symm.trans hmethM'
  obtain ⟨c2, r2, m2, q1, q2, q3, q4, kP, hkP, hkPi⟩ := Cond.selects_spec hsel
  cases hcls.symm.trans q1
  cases (State.methodFound?_of_named hnamed hy).symm.trans q2
  cases hnamed.symm.trans q3
  have hselP : selectMethod e.platform s.vm cellB.cls mk = .method mk := by rw [Launch.admits_selectMethod X.admits]; exact q4
  obtain ⟨vm₁, X₁, hstep₁⟩ := X.invokevirtual hexec hown hlink hnamed hmethM hstM hkP hkPi hy (a := b) (cell := cellB) hcell
    (fun z h => by rw [h] at hobj; cases hobj) hselP hmethM habM hkP hkPi (g := g) hg (argsL := argsL) (rest := rest) (hlen _ hsigM) hstack hdg
  rcases hK m meth c ⟨T.setVm vm₁, locs, cells, slots⟩ { g with stack := rest } (.invokevirtual index) mk (Value.ref b :: argsL).toArray X₁ hg hsize hdg hW (X₁.named hnamed) (hpre vm₁ X₁.warmed) with ⟨v, B, X', hpost, hsteps⟩ | ⟨q, B, X', hpost, hsteps⟩
  · exact Or.inl ⟨v, vm₁, B, X₁.warmed, X', hpost, fun target h => hstep₁ _ fun acts => by rw [doInvoke_state]; exact hsteps.trans h⟩
  · exact Or.inr ⟨q, vm₁, B, X₁.warmed, X', hpost, hstep₁ _ fun acts => by rw [doInvoke_state]; exact hsteps⟩
theorem vx_callSX (X : Stand p l e R s m args below meth c T locs cells slots) (hexec : p.tables.exec = Jvm.exec) {own : String} {index : Nat} {y : MethodName} {bytes : ByteArray} {maxL : Nat} {ret : Option FieldType} {hh : List (Nat × Nat × Nat × Nat)}
    (hown : s.vm.findClass own = some m.cls) (hlink : (Cond.methodLink own index y).before args s = true) (hstat : (Cond.static y).before args s = true) (hinit : (Cond.initialized y.cls).before args s = true)
    (hcode : (Cond.codeWith y bytes maxL ret hh).before args s = true) (hy : y.cls ≠ "java/lang/invoke/MethodHandle" ∧ y.cls ≠ "java/lang/invoke/VarHandle")
    {W9 : Nat} {Pre : Pt → Array Value → Prop} {Post : Pt → Array Value → Option Value → Pt → Prop} {PostX : Pt → Array Value → Addr → Pt → Prop} (hK : vx_Back l R p e below s args y 3 W9 Pre Post PostX)
    {g : JFrame} (hg : g.method = m) (hsize : g.locals.size = c.maxLocals) {argsL rest : List Value} (hlen : ∀ sig, parseMethodDescriptor y.desc = some sig → argsL.length = sig.parameters.length)
    (hstack : g.stack = argsL.reverse ++ rest) (hW : 2 * g.monitorRoom + (rest.map fun v => v.category).sum ≤ W9) (hdg : decode c.code g.pc = .ok (.invokestatic index, 3))
    (hpre : ∀ vm₁, s.WarmedH vm₁ → Pre ⟨T.setVm vm₁, locs, cells, slots⟩ argsL.toArray) :
    (∃ (v : Option Value) (vm₁ : Vm) (B : Pt), s.WarmedH vm₁ ∧ Stand p l e R s m args below meth c B.U B.locs B.cells B.slots ∧ Post ⟨T.setVm vm₁, locs, cells, slots⟩ argsL.toArray v B ∧
      ∀ target, Steps p.tables e below (B.U.setTop { g with pc := g.pc + 3, stack := v.toList ++ rest }) target → Steps p.tables e below (T.setTop g) target) ∨
    (∃ (q : Addr) (vm₁ : Vm) (B : Pt), s.WarmedH vm₁ ∧ Stand p l e R s m args below meth c B.U B.locs B.cells B.slots ∧ PostX ⟨T.setVm vm₁, locs, cells, slots⟩ argsL.toArray q B ∧
      Steps p.tables e below (T.setTop g) ((B.U.setTop { g with stack := rest }).pushFrame (.throwing q))) := by
  obtain ⟨mk, methM, cM, hnamed, hmethM, -, -, -, -, -, -, hsigM⟩ := Cond.codeWith_spec hcode
  have hstatic : methM.isStatic = true := Cond.static_spec hnamed hmethM hstat
  obtain ⟨kP, hkP, -⟩ := className_of_methodNamed hnamed
  have hinitP : kP.init = .initialized := Cond.initialized_spec (findClass_of_methodNamed hnamed) hkP hinit
  obtain ⟨vm₁, X₁, hstep₁⟩ := X.invokestatic hexec hown hlink hnamed hmethM hstatic hkP hinitP hy (g := g) hg (argsL := argsL) (rest := rest) (hlen _ hsigM) hstack hdg
  rcases hK m meth c ⟨T.setVm vm₁, locs, cells, slots⟩ { g with stack := rest } (.invokestatic index) mk argsL.toArray X₁ hg hsize hdg hW (X₁.named hnamed) (hpre vm₁ X₁.warmed) with ⟨v, B, X', hpost, hsteps⟩ | ⟨q, B, X', hpost, hsteps⟩
  · exact Or.inl ⟨v, vm₁, B, X₁.warmed, X', hpost, fun target h => hstep₁ _ fun acts => by rw [doInvoke_state]; exact hsteps.trans h⟩
  · exact Or.inr ⟨q, vm₁, B, X₁.warmed, X', hpost, hstep₁ _ fun acts => by rw [doInvoke_state]; exact hsteps⟩
theorem vx_callVW (X : Stand p l e R s m args below meth c T locs cells slots) (hexec : p.tables.exec = Jvm.exec) {own C : String} {index : Nat} {y : MethodName} {bytes : ByteArray} {maxL : Nat} {ret : Option FieldType} {hh : List (Nat × Nat × Nat × Nat)}
    (hown : s.vm.findClass own = some m.cls) (hlink : (Cond.methodLink own index y).before args s = true) (hinst : (Cond.instanceMethod y).before args s = true) (hsel : (Cond.selects C y y).before args s = true)
    (hcode : (Cond.codeWith y bytes maxL ret hh).before args s = true) (hy : y.cls ≠ "java/lang/invoke/MethodHandle" ∧ y.cls ≠ "java/lang/invoke/VarHandle")
    {W9 : Nat} {Pre : Pt → Array Value → Prop} {Post : Pt → Array Value → Option Value → Pt → Prop} (hK : Back l R p e below s args y 3 W9 Pre Post)
    {b : Addr} {cellB : Cell} (hcell : T.heap[b]? = some cellB) (hobj : cellB.vm.isStatics = false) (hcls : s.vm.findClass C = some cellB.cls)
    {g : JFrame} (hg : g.method = m) (hsize : g.locals.size = c.maxLocals) {argsL rest : List Value} (hlen : ∀ sig, parseMethodDescriptor y.desc = some sig → argsL.length = sig.parameters.length)
    (hstack : g.stack = argsL.reverse ++ .ref b :: rest) (hW : 2 * g.monitorRoom + (rest.map fun v => v.category).sum ≤ W9) (hdg : decode c.code g.pc = .ok (.invokevirtual index, 3))
    (hpre : ∀ vm₁, s.WarmedH vm₁ → Pre ⟨T.setVm vm₁, locs, cells, slots⟩ (Value.ref b :: argsL).toArray) :
    ∃ (v : Option Value) (vm₁ : Vm) (B : Pt), s.WarmedH vm₁ ∧ Stand p l e R s m args below meth c B.U B.locs B.cells B.slots ∧ Post ⟨T.setVm vm₁, locs, cells, slots⟩ (Value.ref b :: argsL).toArray v B ∧
      ∀ target, Steps p.tables e below (B.U.setTop { g with pc := g.pc + 3, stack := v.toList ++ rest }) target → Steps p.tables e below (T.setTop g) target := by
  obtain ⟨mk, methM, hnamed, hmethM, hstM, habM⟩ := Cond.instanceMethod_spec hinst
  obtain ⟨m8, methM', cM, hn8, hmethM', -, -, -, -, -, -, hsigM⟩ := Cond.codeWith_spec hcode
  cases Option.some.inj (hn8.symm.trans hnamed)
  cases hmethM.symm.trans hmethM'
  obtain ⟨c2, r2, m2, q1, q2, q3, q4, kP, hkP, hkPi⟩ := Cond.selects_spec hsel
  cases hcls.symm.trans q1
  cases (State.methodFound?_of_named hnamed hy).symm.trans q2
  cases hnamed.symm.trans q3
  have hselP : selectMethod e.platform s.vm cellB.cls mk = .method mk := by rw [Launch.admits_selectMethod X.admits]; exact q4
  obtain ⟨vm₁, X₁, hstep₁⟩ := X.invokevirtual hexec hown hlink hnamed hmethM hstM hkP hkPi hy (a := b) (cell := cellB) hcell
    (fun z h => by rw [h] at hobj; cases hobj) hselP hmethM habM hkP hkPi (g := g) hg (argsL := argsL) (rest := rest) (hlen _ hsigM) hstack hdg
  obtain ⟨v, B, X', hpost, hsteps⟩ := hK m meth c ⟨T.setVm vm₁, locs, cells, slots⟩ { g with stack := rest } (.invokevirtual index) mk (Value.ref b :: argsL).toArray X₁ hg hsize hdg hW (X₁.named hnamed) (hpre vm₁ X₁.warmed)
  exact ⟨v, vm₁, B, X₁.warmed, X', hpost, fun target h => hstep₁ _ fun acts => by rw [doInvoke_state]; exact hsteps.trans h⟩
abbrev vx_CVW (R : Room) (s : State) (args : Array Value) (own C : String) (index : Nat) (y : MethodName) (bytes : ByteArray) (maxL : Nat) (ret : Option FieldType) (hh : List (Nat × Nat × Nat × Nat)) (ws : List Cond) (rm : Room) (mc ms n : Nat) : Prop :=
  (rm.cells = mc ∧ rm.slots = ms ∧ rm.frames + 1 ≤ R.frames ∧ 8 + (maxL + 11) + rm.locals ≤ R.locals ∧ (∀ w ∈ ws, ∀ (a' : Array Value) (U : State), s.WarmedH U.vm → w.before a' U = true) ∧ Cond.codeWith y bytes maxL ret hh ∈ ws) ∧
  (Cond.codeWith y bytes maxL ret hh).before args s = true ∧ (Cond.initialized y.cls).before args s = true ∧ (y.cls ≠ "java/lang/invoke/MethodHandle" ∧ y.cls ≠ "java/lang/invoke/VarHandle") ∧
  (∀ sig, parseMethodDescriptor y.desc = some sig → n = sig.parameters.length) ∧ (Cond.methodLink own index y).before args s = true ∧ (Cond.instanceMethod y).before args s = true ∧ (Cond.selects C y y).before args s = true
theorem vx_cwVW {own C : String} {index maxL mc ms : Nat} {y : MethodName} {bytes : ByteArray} {ret : Option FieldType} {hh : List (Nat × Nat × Nat × Nat)} {Ts ws ws' : List Cond} {rm : Room} (n : Nat) (ht : ∀ w ∈ Ts, w.before args s = true) (hT : GoodIn Ts (wsV own index C y ws)) (hw : ws = Cond.codeWith y bytes maxL ret hh :: ws') (hrc : rm.cells = mc) (hrs : rm.slots = ms)
    (hd : y.cls = C ∧ y.cls ≠ "java/lang/invoke/MethodHandle" ∧ y.cls ≠ "java/lang/invoke/VarHandle" ∧ (parseMethodDescriptor y.desc).map (fun d => d.parameters.length) = some n) (hR : rm.frames + 1 ≤ R.frames ∧ 8 + (maxL + 11) + rm.locals ≤ R.locals) :
    vx_CVW R s args own C index y bytes maxL ret hh ws rm mc ms n := by
  obtain ⟨hC, hd⟩ := hd
  subst hC
  have ok : ∀ w ∈ wsV own index y.cls y ws, w.before args s = true := fun w h => ht w (hT w h).1
  have hG : GoodIn Ts ws := fun w h => hT w (by unfold wsV; exact List.mem_append_right _ h)
  have hc : Cond.codeWith y bytes maxL ret hh ∈ ws := by rw [hw]; exact List.mem_cons_self
  refine ⟨⟨hrc, hrs, hR.1, hR.2, pay_in ht hG, hc⟩, ht _ (hG _ hc).1, ok _ (by simp [wsV]), ⟨hd.1, hd.2.1⟩, fun sig h => ?_, ok _ (by simp [wsV]), ok _ (by simp [wsV]), ok _ (by simp [wsV])⟩
  have h2 := hd.2.2
  rw [h] at h2
  exact (Option.some.inj h2).symm
theorem vx_runVW {y : MethodName} {bytes cc : ByteArray} {maxL nL mc ms n index : Nat} {ret : Option FieldType} {hh : List (Nat × Nat × Nat × Nat)} {ws : List Cond} {rm : Room} {Pc : Array Value → State → Prop} {Qc : Array Value → State → Outcome → State → Prop} {free : Addr → Prop} {Ts : List Cond} {own C : String} {b : Addr} {As rest : List Value} {g : JFrame}
    (S : CallFix p m c cc nL s args Ts own) (hM : Met l y ws rm Pc Qc mc ms free) (cw : vx_CVW R s args own C index y bytes maxL ret hh ws rm mc ms n) (hp : PreV s H C b Pc As)
    (hg : g.method = m) (hn : As.length = n) (hsize : g.locals.size = nL) (hstack : g.stack = As.reverse ++ .ref b :: rest) (hW : 2 * g.monitorRoom + (rest.map fun v => v.category).sum ≤ 8) (hdg : decode cc g.pc = .ok (.invokevirtual index, 3)) (hf : cells + mc ≤ R.cells ∧ slots + ms ≤ R.slots) :
    va_Run p l e R s m args below meth c H locs cells slots mc ms g rest (Qc (Value.ref b :: As).toArray) free := by
  obtain ⟨⟨hrc, hrs, hfr, hlo, hws, hcw⟩, hcode, hini, hy, hlen, hl, hin, hse⟩ := cw
  have hK : Back l R p e below s args y 3 8 (PreOf R mc ms Pc) (PostOf Qc mc ms free) := va_backW (hh := hh) (bytes := bytes) (maxL := maxL) (ret := ret) hM hp.1 hrc hrs hfr hlo hws hcw (fun a' U hW => word_at hW (Or.inl (by first | rfl | simp [Cond.onTables, Cond.keeps, Cond.steady])) hini)
  obtain ⟨hx, hb, hml, ho, -⟩ := S
  obtain ⟨-, ⟨cellB, hcB, hoB, hclB⟩, hPc⟩ := hp
  intro T hT X
  obtain ⟨v, vm₁, ⟨U', l2, c2, s2⟩, hW₁, X', ⟨g', mk, t, L, e1, e2, hq, h1, hL, h2, h3⟩, st⟩ := vx_callVW X hx (C := C) (hh := hh) (bytes := bytes) (maxL := maxL) (ret := ret) ho hl hin hse hcode hy hK (by rw [hT]; exact hcB) hoB hclB hg (hsize.trans hml.symm) (argsL := As) (rest := rest) (fun sig h => hn.trans (hlen sig h)) hstack hW (by rw [hb]; exact hdg)
    (fun vm₁ hW₁ => ⟨hf.1, hf.2, hPc (T.setVm vm₁) hT hW₁⟩)
  dsimp only [Pt.U, Pt.locs, Pt.cells, Pt.slots] at X' e1 e2 h1 h2 h3 st
  subst h1; subst h2; subst h3
  exact ⟨v, (T.setVm vm₁).calling g' mk (Value.ref b :: As).toArray, t, U', L, hT, X', hL, e1, e2, hq, st⟩
section
variable {y : MethodName} {bytes cc : ByteArray} {maxL nL mc ms n index : Nat} {ret : Option FieldType} {ws : List Cond} {rm : Room} {Pc : Array Value → State → Prop} {Qc : Array Value → State → Outcome → State → Prop} {XC : String → State → State → Prop} {free : Addr → Prop} {Ts : List Cond} {own C : String} {b : Addr} {As rest : List Value} {g : JFrame}
theorem vx_runVX {hh : List (Nat × Nat × Nat × Nat)} (S : CallFix p m c cc nL s args Ts own) (hM : vx_Met l y ws rm Pc Qc XC mc ms free) (cw : vx_CVW R s args own C index y bytes maxL ret hh ws rm mc ms n) (hp : PreV s H C b Pc As)
    (hg : g.method = m) (hn : As.length = n) (hsize : g.locals.size = nL) (hstack : g.stack = As.reverse ++ .ref b :: rest) (hW : 2 * g.monitorRoom + (rest.map fun v => v.category).sum ≤ 8) (hdg : decode cc g.pc = .ok (.invokevirtual index, 3)) (hf : cells + mc ≤ R.cells ∧ slots + ms ≤ R.slots) :
    vx_Run p l e R s m args below meth c H locs cells slots mc ms g rest (Qc (Value.ref b :: As).toArray) XC free := by
  obtain ⟨⟨hrc, hrs, hfr, hlo, hws, hcw⟩, hcode, hini, hy, hlen, hl, hin, hse⟩ := cw
  have hK : vx_Back l R p e below s args y 3 8 (PreOf R mc ms Pc) (PostOf Qc mc ms free) (vx_Post XC mc ms free) := vx_backW (hh := hh) (bytes := bytes) (maxL := maxL) (ret := ret) hM hp.1 hrc hrs hfr hlo hws hcw (fun a' U hW => word_at hW (Or.inl (by first | rfl | simp [Cond.onTables, Cond.keeps, Cond.steady])) hini)
  obtain ⟨hx, hb, hml, ho, -⟩ := S
  obtain ⟨-, ⟨cellB, hcB, hoB, hclB⟩, hPc⟩ := hp
  intro T hT X
  rcases vx_callVX X hx (C := C) (hh := hh) (bytes := bytes) (maxL := maxL) (ret := ret) ho hl hin hse hcode hy hK (by rw [hT]; exact hcB) hoB hclB hg (hsize.trans hml.symm) (argsL := As) (rest := rest) (fun sig h => hn.trans (hlen sig h)) hstack hW (by rw [hb]; exact hdg)
    (fun vm₁ hW₁ => ⟨hf.1, hf.2, hPc (T.setVm vm₁) hT hW₁⟩) with ⟨v, vm₁, ⟨U', l2, c2, s2⟩, hW₁, X', ⟨g', mk, t, L, e1, e2, hq, h1, hL, h2, h3⟩, st⟩ | ⟨q, vm₁, ⟨U', l2, c2, s2⟩, hW₁, X', ⟨g', mk, t, L, E, ce, e1, e2, hq, hce, hcv, hcl, h1, hL, h2, h3⟩, st⟩
  · dsimp only [Pt.U, Pt.locs, Pt.cells, Pt.slots] at X' e1 e2 h1 h2 h3 st
    subst h1; subst h2; subst h3
    exact Or.inl ⟨v, (T.setVm vm₁).calling g' mk (Value.ref b :: As).toArray, t, U', L, hT, X', hL, e1, e2, hq, st⟩
  · dsimp only [Pt.U, Pt.locs, Pt.cells, Pt.slots] at X' e1 e2 h1 h2 h3 st hcl
    subst h1; subst h2; subst h3
    exact Or.inr ⟨q, (T.setVm vm₁).calling g' mk (Value.ref b :: As).toArray, t, U', L, E, ce, hT, X', hL, e1, e2, hq, hce, hcv, vx_cls hW₁ hcl, st⟩
theorem vx_runSX {hh : List (Nat × Nat × Nat × Nat)} (S : CallFix p m c cc nL s args Ts own) (hM : vx_Met l y ws rm Pc Qc XC mc ms free) (cw : vx_CSW R s args own index y bytes maxL ret hh ws rm mc ms n) (hp : PreS s H Pc As)
    (hg : g.method = m) (hn : As.length = n) (hsize : g.locals.size = nL) (hstack : g.stack = As.reverse ++ rest) (hW : 2 * g.monitorRoom + (rest.map fun v => v.category).sum ≤ 8) (hdg : decode cc g.pc = .ok (.invokestatic index, 3)) (hf : cells + mc ≤ R.cells ∧ slots + ms ≤ R.slots) :
    vx_Run p l e R s m args below meth c H locs cells slots mc ms g rest (Qc As.toArray) XC free := by
  obtain ⟨⟨hrc, hrs, hfr, hlo, hws, hcw⟩, hcode, hini, hy, hlen, hl, hstt⟩ := cw
  have hK : vx_Back l R p e below s args y 3 8 (PreOf R mc ms Pc) (PostOf Qc mc ms free) (vx_Post XC mc ms free) := vx_backW (hh := hh) (bytes := bytes) (maxL := maxL) (ret := ret) hM hp.1 hrc hrs hfr hlo hws hcw (fun a' U hW => word_at hW (Or.inl (by first | rfl | simp [Cond.onTables, Cond.keeps, Cond.steady])) hini)
  obtain ⟨hx, hb, hml, ho, -⟩ := S
  intro T hT X
  rcases vx_callSX X hx (hh := hh) (bytes := bytes) (maxL := maxL) (ret := ret) ho hl hstt hini hcode hy hK hg (hsize.trans hml.symm) (argsL := As) (rest := rest) (fun sig h => hn.trans (hlen sig h)) hstack hW (by rw [hb]; exact hdg)
    (fun vm₁ hW₁ => ⟨hf.1, hf.2, hp.2 (T.setVm vm₁) hT hW₁⟩) with ⟨v, vm₁, ⟨U', l2, c2, s2⟩, hW₁, X', ⟨g', mk, t, L, e1, e2, hq, h1, hL, h2, h3⟩, st⟩ | ⟨q, vm₁, ⟨U', l2, c2, s2⟩, hW₁, X', ⟨g', mk, t, L, E, ce, e1, e2, hq, hce, hcv, hcl, h1, hL, h2, h3⟩, st⟩
  · dsimp only [Pt.U, Pt.locs, Pt.cells, Pt.slots] at X' e1 e2 h1 h2 h3 st
    subst h1; subst h2; subst h3
    exact Or.inl ⟨v, (T.setVm vm₁).calling g' mk As.toArray, t, U', L, hT, X', hL, e1, e2, hq, st⟩
  · dsimp only [Pt.U, Pt.locs, Pt.cells, Pt.slots] at X' e1 e2 h1 h2 h3 st hcl
    subst h1; subst h2; subst h3
    exact Or.inr ⟨q, (T.setVm vm₁).calling g' mk As.toArray, t, U', L, E, ce, hT, X', hL, e1, e2, hq, hce, hcv, vx_cls hW₁ hcl, st⟩
end
end VXH
theorem vx_ofWH {l : Launch} {y : MethodName} {ws ws' : List Cond} {rm : Room} {Pc : Array Value → State → Prop} {Qc : Array Value → State → Outcome → State → Prop} {XC : String → State → State → Prop} {mc ms : Nat} {free : Addr → Prop} {cc : ByteArray} {maxL : Nat} {ret : Option FieldType} {hh : List (Nat × Nat × Nat × Nat)}
    (hy : plainName y.cls = true) (hw : ws = Cond.codeWith y cc maxL ret hh :: ws')
    (body : ∀ p e s m args below meth c s₁, BodyLoose p l y (headSpec ws rm) cc maxL ret e s m args below meth c s₁ → c.maxLocals = maxL → Pc args s →
      W p l e (headSpec ws rm).room s m args below meth c s.heap [] 0 0 (vx_MQ below Qc XC args s mc ms free) (entryFrame m args maxL)) : vx_Met l y ws rm Pc Qc XC mc ms free := by
  refine MetFree.of_bodyS (code := cc) (maxLocals := maxL) (ret := ret) hy ?_ ?_
  · intro args s m h hn
    obtain ⟨m9, meth, c, hn9, h1, h2, h3, h4, -, h5, h6, -⟩ := Cond.codeWith_spec (atoms_spec (ws := ws) h _ (by rw [hw]; exact List.mem_cons_self))
    cases hn.symm.trans hn9
    exact ⟨meth, c, h1, h2, h3, h4, h5, h6⟩
  · intro p e s m args below meth c s₁ B hml hP _
    have hh0 : s₁.heap = s.heap := by rw [B.state]; rfl
    obtain ⟨t, a1, o, b1, b2, b3⟩ := body p e s m args below meth c s₁ B hml hP s₁ hh0 (Stand.of_body B)
    exact ⟨t, o, a1, b1, b2, b3⟩
/-! ===== END ===== -/
end
section
def RX0 : String := "TentCamp$Camp"
def TX0 : u_T := fun k => match k with
  | 0 => ("TentCamp$Camp", "usual", "I", false)
  | 1 => ("TentCamp$Camp", "keeps", "I", false)
  | 2 => ("TentCamp$Camp", "poisoned", "I", false)
  | 3 => ("TentCamp$Camp", "struck", "I", false)
  | 4 => ("TentCamp$Camp", "mostTentPlaces", "I", false)
  | 5 => ("TentCamp$Camp", "mostFieldPlaces", "I", false)
  | 6 => ("TentCamp$Camp", "fieldPlaces", "I", false)
  | 7 => ("TentCamp$Camp", "values", "LTentCamp$Row;", true)
  | 8 => ("TentCamp$Camp", "tents", "LTentCamp$Tents;", true)
  | 9 => ("TentCamp$Camp", "frames", "LTentCamp$Frames;", true)
  | 10 => ("TentCamp$Camp", "inUse", "LTentCamp$Fields;", true)
  | _ => ("TentCamp$Camp", "spares", "LTentCamp$Fields;", true)
def tyX0 : Nat → FieldType := fun k => match k with
  | 0 => .int
  | 1 => .int
  | 2 => .int
  | 3 => .int
  | 4 => .int
  | 5 => .int
  | 6 => .int
  | 7 => .object "TentCamp$Row"
  | 8 => .object "TentCamp$Tents"
  | 9 => .object "TentCamp$Frames"
  | 10 => .object "TentCamp$Fields"
  | _ => .object "TentCamp$Fields"
abbrev wsX00 : List Cond := u_ws RX0 TX0 12
theorem nmX0 : ∀ a, a < 12 → ∀ b, b < 12 → a ≠ b → (TX0 a).2.1 ≠ (TX0 b).2.1 := by decide +kernel
theorem tyX0_ok : ∀ k, k < 12 → parseFieldDescriptor (TX0 k).2.2.1 = some (tyX0 k) := by decide +kernel
abbrev cX0_init : ByteArray := prog_2_method_1_code
def yX0_init : MethodName := ⟨RX0, "<init>", "()V"⟩
abbrev cX0_beginAnew : ByteArray := prog_2_method_2_code
def yX0_beginAnew : MethodName := ⟨RX0, "beginAnew", "(II)V"⟩
abbrev cX0_copy : ByteArray := prog_2_method_3_code
def yX0_copy : MethodName := ⟨RX0, "copy", "(LTentCamp$Camp;)V"⟩
abbrev cX0_wantsBig : ByteArray := prog_2_method_4_code
def yX0_wantsBig : MethodName := ⟨RX0, "wantsBig", "(I)Z"⟩
abbrev cX0_newFieldSize : ByteArray := prog_2_method_5_code
def yX0_newFieldSize : MethodName := ⟨RX0, "newFieldSize", "(I)I"⟩
abbrev cX0_openPlace : ByteArray := prog_2_method_6_code
def yX0_openPlace : MethodName := ⟨RX0, "openPlace", "(II)I"⟩
abbrev cX0_siteFor : ByteArray := prog_2_method_7_code
def yX0_siteFor : MethodName := ⟨RX0, "siteFor", "(II)I"⟩
abbrev cX0_takeSite : ByteArray := prog_2_method_8_code
def yX0_takeSite : MethodName := ⟨RX0, "takeSite", "(II)I"⟩
abbrev cX0_putUp : ByteArray := prog_2_method_9_code
def yX0_putUp : MethodName := ⟨RX0, "putUp", "(II)I"⟩
abbrev cX0_putUpAll : ByteArray := prog_2_method_10_code
def yX0_putUpAll : MethodName := ⟨RX0, "putUpAll", "(LTentCamp$Tents;)Z"⟩
abbrev cX0_strewTent : ByteArray := prog_2_method_11_code
def yX0_strewTent : MethodName := ⟨RX0, "strewTent", "(II)I"⟩
abbrev cX0_goIn : ByteArray := prog_2_method_12_code
def yX0_goIn : MethodName := ⟨RX0, "goIn", "()I"⟩
abbrev cX0_goOut : ByteArray := prog_2_method_13_code
def yX0_goOut : MethodName := ⟨RX0, "goOut", "()I"⟩
abbrev cX0_goBack : ByteArray := prog_2_method_14_code
def yX0_goBack : MethodName := ⟨RX0, "goBack", "(I)I"⟩
abbrev cX0_strikeTents : ByteArray := prog_2_method_15_code
def yX0_strikeTents : MethodName := ⟨RX0, "strikeTents", "(I)I"⟩
abbrev cX0_clearFields : ByteArray := prog_2_method_16_code
def yX0_clearFields : MethodName := ⟨RX0, "clearFields", "(I)V"⟩
abbrev cX0_giveUpTooMuch : ByteArray := prog_2_method_17_code
def yX0_giveUpTooMuch : MethodName := ⟨RX0, "giveUpTooMuch", "()V"⟩
abbrev cX0_gaps : ByteArray := prog_2_method_18_code
def yX0_gaps : MethodName := ⟨RX0, "gaps", "()I"⟩
def RX1 : String := "TentCamp$Fields"
def TX1 : u_T := fun k => match k with
  | 0 => ("TentCamp$Fields", "count", "I", false)
  | 1 => ("TentCamp$Fields", "start", "LTentCamp$Row;", true)
  | 2 => ("TentCamp$Fields", "size", "LTentCamp$Row;", true)
  | 3 => ("TentCamp$Fields", "big", "LTentCamp$Row;", true)
  | _ => ("TentCamp$Fields", "end", "LTentCamp$Row;", true)
def tyX1 : Nat → FieldType := fun k => match k with
  | 0 => .int
  | 1 => .object "TentCamp$Row"
  | 2 => .object "TentCamp$Row"
  | 3 => .object "TentCamp$Row"
  | _ => .object "TentCamp$Row"
abbrev wsX10 : List Cond := u_ws RX1 TX1 5
theorem nmX1 : ∀ a, a < 5 → ∀ b, b < 5 → a ≠ b → (TX1 a).2.1 ≠ (TX1 b).2.1 := by decide +kernel
theorem tyX1_ok : ∀ k, k < 5 → parseFieldDescriptor (TX1 k).2.2.1 = some (tyX1 k) := by decide +kernel
abbrev cX1_init : ByteArray := prog_3_method_1_code
def yX1_init : MethodName := ⟨RX1, "<init>", "()V"⟩
abbrev cX1_has : ByteArray := prog_3_method_2_code
def yX1_has : MethodName := ⟨RX1, "has", "(I)Z"⟩
abbrev cX1_add : ByteArray := prog_3_method_3_code
def yX1_add : MethodName := ⟨RX1, "add", "(IIZI)V"⟩
abbrev cX1_remove : ByteArray := prog_3_method_4_code
def yX1_remove : MethodName := ⟨RX1, "remove", "(I)V"⟩
abbrev cX1_places : ByteArray := prog_3_method_5_code
def yX1_places : MethodName := ⟨RX1, "places", "()I"⟩
abbrev cX1_lastUsual : ByteArray := prog_3_method_6_code
def yX1_lastUsual : MethodName := ⟨RX1, "lastUsual", "()I"⟩
abbrev cX1_smallestFor : ByteArray := prog_3_method_7_code
def yX1_smallestFor : MethodName := ⟨RX1, "smallestFor", "(I)I"⟩
abbrev cX1_greatest : ByteArray := prog_3_method_8_code
def yX1_greatest : MethodName := ⟨RX1, "greatest", "()I"⟩
abbrev cX1_withRank : ByteArray := prog_3_method_9_code
def yX1_withRank : MethodName := ⟨RX1, "withRank", "(I)I"⟩
abbrev cX1_countAheadOf : ByteArray := prog_3_method_10_code
def yX1_countAheadOf : MethodName := ⟨RX1, "countAheadOf", "(I)I"⟩
abbrev cX1_closeUp : ByteArray := prog_3_method_11_code
def yX1_closeUp : MethodName := ⟨RX1, "closeUp", "(II)V"⟩
abbrev cX1_copy : ByteArray := prog_3_method_12_code
def yX1_copy : MethodName := ⟨RX1, "copy", "(LTentCamp$Fields;)V"⟩
def RX2 : String := "TentCamp$Frames"
def TX2 : u_T := fun k => match k with
  | 0 => ("TentCamp$Frames", "count", "I", false)
  | 1 => ("TentCamp$Frames", "tents", "LTentCamp$Row;", true)
  | _ => ("TentCamp$Frames", "fields", "LTentCamp$Row;", true)
def tyX2 : Nat → FieldType := fun k => match k with
  | 0 => .int
  | 1 => .object "TentCamp$Row"
  | _ => .object "TentCamp$Row"
abbrev wsX20 : List Cond := u_ws RX2 TX2 3
theorem nmX2 : ∀ a, a < 3 → ∀ b, b < 3 → a ≠ b → (TX2 a).2.1 ≠ (TX2 b).2.1 := by decide +kernel
theorem tyX2_ok : ∀ k, k < 3 → parseFieldDescriptor (TX2 k).2.2.1 = some (tyX2 k) := by decide +kernel
abbrev cX2_init : ByteArray := prog_4_method_1_code
def yX2_init : MethodName := ⟨RX2, "<init>", "()V"⟩
abbrev cX2_has : ByteArray := prog_4_method_2_code
def yX2_has : MethodName := ⟨RX2, "has", "(I)Z"⟩
abbrev cX2_lastAheadOf : ByteArray := prog_4_method_3_code
def yX2_lastAheadOf : MethodName := ⟨RX2, "lastAheadOf", "(I)I"⟩
abbrev cX2_copy : ByteArray := prog_4_method_4_code
def yX2_copy : MethodName := ⟨RX2, "copy", "(LTentCamp$Frames;)V"⟩
def RX3 : String := "TentCamp$History"
def TX3 : u_T := fun k => match k with
  | 0 => ("TentCamp$History", "count", "I", false)
  | 1 => ("TentCamp$History", "next", "I", false)
  | _ => ("TentCamp$History", "states", "LTentCamp$Shelf;", true)
def tyX3 : Nat → FieldType := fun k => match k with
  | 0 => .int
  | 1 => .int
  | _ => .object "TentCamp$Shelf"
abbrev wsX30 : List Cond := u_ws RX3 TX3 3
theorem nmX3 : ∀ a, a < 3 → ∀ b, b < 3 → a ≠ b → (TX3 a).2.1 ≠ (TX3 b).2.1 := by decide +kernel
theorem tyX3_ok : ∀ k, k < 3 → parseFieldDescriptor (TX3 k).2.2.1 = some (tyX3 k) := by decide +kernel
abbrev cX3_init : ByteArray := prog_5_method_1_code
def yX3_init : MethodName := ⟨RX3, "<init>", "()V"⟩
abbrev cX3_forgetAll : ByteArray := prog_5_method_2_code
def yX3_forgetAll : MethodName := ⟨RX3, "forgetAll", "()V"⟩
abbrev cX3_remember : ByteArray := prog_5_method_3_code
def yX3_remember : MethodName := ⟨RX3, "remember", "(LTentCamp$Camp;)V"⟩
abbrev cX3_takeBack : ByteArray := prog_5_method_4_code
def yX3_takeBack : MethodName := ⟨RX3, "takeBack", "(LTentCamp$Camp;)V"⟩
def RX4 : String := "TentCamp$Row"
def TX4 : u_T := fun k => match k with
  | _ => ("TentCamp$Row", "cells", "[I", true)
def tyX4 : Nat → FieldType := fun k => match k with
  | _ => .array .int
abbrev wsX40 : List Cond := u_ws RX4 TX4 1
theorem nmX4 : ∀ a, a < 1 → ∀ b, b < 1 → a ≠ b → (TX4 a).2.1 ≠ (TX4 b).2.1 := by decide +kernel
theorem tyX4_ok : ∀ k, k < 1 → parseFieldDescriptor (TX4 k).2.2.1 = some (tyX4 k) := by decide +kernel
abbrev cX4_init : ByteArray := prog_6_method_1_code
def yX4_init : MethodName := ⟨RX4, "<init>", "(I)V"⟩
abbrev cX4_get : ByteArray := prog_6_method_2_code
def yX4_get : MethodName := ⟨RX4, "get", "(I)I"⟩
abbrev cX4_put : ByteArray := prog_6_method_3_code
def yX4_put : MethodName := ⟨RX4, "put", "(II)V"⟩
abbrev cX4_strew : ByteArray := prog_6_method_4_code
def yX4_strew : MethodName := ⟨RX4, "strew", "(III)V"⟩
abbrev cX4_countOf : ByteArray := prog_6_method_5_code
def yX4_countOf : MethodName := ⟨RX4, "countOf", "(III)I"⟩
abbrev cX4_cut : ByteArray := prog_6_method_6_code
def yX4_cut : MethodName := ⟨RX4, "cut", "(II)V"⟩
abbrev cX4_copy : ByteArray := prog_6_method_7_code
def yX4_copy : MethodName := ⟨RX4, "copy", "(LTentCamp$Row;)V"⟩
def RX5 : String := "TentCamp$Shelf"
def TX5 : u_T := fun k => match k with
  | _ => ("TentCamp$Shelf", "camps", "[LTentCamp$Camp;", true)
def tyX5 : Nat → FieldType := fun k => match k with
  | _ => .array (.object "TentCamp$Camp")
abbrev wsX50 : List Cond := u_ws RX5 TX5 1
theorem nmX5 : ∀ a, a < 1 → ∀ b, b < 1 → a ≠ b → (TX5 a).2.1 ≠ (TX5 b).2.1 := by decide +kernel
theorem tyX5_ok : ∀ k, k < 1 → parseFieldDescriptor (TX5 k).2.2.1 = some (tyX5 k) := by decide +kernel
abbrev cX5_init : ByteArray := prog_7_method_1_code
def yX5_init : MethodName := ⟨RX5, "<init>", "(I)V"⟩
abbrev cX5_at : ByteArray := prog_7_method_2_code
def yX5_at : MethodName := ⟨RX5, "at", "(I)LTentCamp$Camp;"⟩
abbrev cX5_lay : ByteArray := prog_7_method_3_code
def yX5_lay : MethodName := ⟨RX5, "lay", "(ILTentCamp$Camp;)V"⟩
abbrev cX5_fetch : ByteArray := prog_7_method_4_code
def yX5_fetch : MethodName := ⟨RX5, "fetch", "(ILTentCamp$Camp;)V"⟩
def RX6 : String := "TentCamp$Tents"
def TX6 : u_T := fun k => match k with
  | 0 => ("TentCamp$Tents", "count", "I", false)
  | 1 => ("TentCamp$Tents", "field", "LTentCamp$Row;", true)
  | 2 => ("TentCamp$Tents", "first", "LTentCamp$Row;", true)
  | 3 => ("TentCamp$Tents", "size", "LTentCamp$Row;", true)
  | _ => ("TentCamp$Tents", "step", "LTentCamp$Row;", true)
def tyX6 : Nat → FieldType := fun k => match k with
  | 0 => .int
  | 1 => .object "TentCamp$Row"
  | 2 => .object "TentCamp$Row"
  | 3 => .object "TentCamp$Row"
  | _ => .object "TentCamp$Row"
abbrev wsX60 : List Cond := u_ws RX6 TX6 5
theorem nmX6 : ∀ a, a < 5 → ∀ b, b < 5 → a ≠ b → (TX6 a).2.1 ≠ (TX6 b).2.1 := by decide +kernel
theorem tyX6_ok : ∀ k, k < 5 → parseFieldDescriptor (TX6 k).2.2.1 = some (tyX6 k) := by decide +kernel
abbrev cX6_init : ByteArray := prog_8_method_1_code
def yX6_init : MethodName := ⟨RX6, "<init>", "()V"⟩
abbrev cX6_has : ByteArray := prog_8_method_2_code
def yX6_has : MethodName := ⟨RX6, "has", "(I)Z"⟩
abbrev cX6_end : ByteArray := prog_8_method_3_code
def yX6_end : MethodName := ⟨RX6, "end", "(I)I"⟩
abbrev cX6_placesFrom : ByteArray := prog_8_method_4_code
def yX6_placesFrom : MethodName := ⟨RX6, "placesFrom", "(I)I"⟩
abbrev cX6_countOn : ByteArray := prog_8_method_5_code
def yX6_countOn : MethodName := ⟨RX6, "countOn", "(I)I"⟩
abbrev cX6_copy : ByteArray := prog_8_method_6_code
def yX6_copy : MethodName := ⟨RX6, "copy", "(LTentCamp$Tents;)V"⟩
def RX7 : String := "TentCamp$Text"
def TX7 : u_T := fun k => match k with
  | 0 => ("TentCamp$Text", "length", "I", false)
  | 1 => ("TentCamp$Text", "signs", "LTentCamp$Row;", true)
  | 2 => ("TentCamp$Text", "at", "I", false)
  | 3 => ("TentCamp$Text", "wrong", "Z", false)
  | 4 => ("TentCamp$Text", "kind", "I", false)
  | 5 => ("TentCamp$Text", "first", "I", false)
  | _ => ("TentCamp$Text", "second", "I", false)
def tyX7 : Nat → FieldType := fun k => match k with
  | 0 => .int
  | 1 => .object "TentCamp$Row"
  | 2 => .int
  | 3 => .boolean
  | 4 => .int
  | 5 => .int
  | _ => .int
abbrev wsX70 : List Cond := u_ws RX7 TX7 7
theorem nmX7 : ∀ a, a < 7 → ∀ b, b < 7 → a ≠ b → (TX7 a).2.1 ≠ (TX7 b).2.1 := by decide +kernel
theorem tyX7_ok : ∀ k, k < 7 → parseFieldDescriptor (TX7 k).2.2.1 = some (tyX7 k) := by decide +kernel
abbrev cX7_init : ByteArray := prog_9_method_1_code
def yX7_init : MethodName := ⟨RX7, "<init>", "()V"⟩
abbrev cX7_add : ByteArray := prog_9_method_2_code
def yX7_add : MethodName := ⟨RX7, "add", "(I)V"⟩
abbrev cX7_faultPosition : ByteArray := prog_9_method_3_code
def yX7_faultPosition : MethodName := ⟨RX7, "faultPosition", "()I"⟩
abbrev cX7_goesOn : ByteArray := prog_9_method_4_code
def yX7_goesOn : MethodName := ⟨RX7, "goesOn", "()Z"⟩
abbrev cX7_readHead : ByteArray := prog_9_method_5_code
def yX7_readHead : MethodName := ⟨RX7, "readHead", "()V"⟩
abbrev cX7_readCommand : ByteArray := prog_9_method_6_code
def yX7_readCommand : MethodName := ⟨RX7, "readCommand", "()V"⟩
abbrev cX7_failAt : ByteArray := prog_9_method_7_code
def yX7_failAt : MethodName := ⟨RX7, "failAt", "(I)V"⟩
abbrev cX7_readLetter : ByteArray := prog_9_method_8_code
def yX7_readLetter : MethodName := ⟨RX7, "readLetter", "()I"⟩
abbrev cX7_digitHere : ByteArray := prog_9_method_9_code
def yX7_digitHere : MethodName := ⟨RX7, "digitHere", "()I"⟩
abbrev cX7_readNumber : ByteArray := prog_9_method_10_code
def yX7_readNumber : MethodName := ⟨RX7, "readNumber", "(III)I"⟩
abbrev cX7_readStep : ByteArray := prog_9_method_11_code
def yX7_readStep : MethodName := ⟨RX7, "readStep", "()I"⟩
def RX8 : String := "TentCamp"
def TX8 : u_T := fun k => match k with
  | 0 => ("TentCamp", "camp", "LTentCamp$Camp;", true)
  | 1 => ("TentCamp", "trial", "LTentCamp$Camp;", true)
  | 2 => ("TentCamp", "history", "LTentCamp$History;", true)
  | 3 => ("TentCamp", "text", "LTentCamp$Text;", true)
  | 4 => ("TentCamp", "slots", "LTentCamp$Shelf;", true)
  | _ => ("TentCamp", "slotFilled", "LTentCamp$Row;", true)
def tyX8 : Nat → FieldType := fun k => match k with
  | 0 => .object "TentCamp$Camp"
  | 1 => .object "TentCamp$Camp"
  | 2 => .object "TentCamp$History"
  | 3 => .object "TentCamp$Text"
  | 4 => .object "TentCamp$Shelf"
  | _ => .object "TentCamp$Row"
abbrev wsX80 : List Cond := u_ws RX8 TX8 6
theorem nmX8 : ∀ a, a < 6 → ∀ b, b < 6 → a ≠ b → (TX8 a).2.1 ≠ (TX8 b).2.1 := by decide +kernel
theorem tyX8_ok : ∀ k, k < 6 → parseFieldDescriptor (TX8 k).2.2.1 = some (tyX8 k) := by decide +kernel
abbrev cX8_init : ByteArray := prog_1_method_1_code
def yX8_init : MethodName := ⟨RX8, "<init>", "()V"⟩
abbrev cX8_append : ByteArray := prog_1_method_2_code
def yX8_append : MethodName := ⟨RX8, "append", "(I)I"⟩
abbrev cX8_clearText : ByteArray := prog_1_method_3_code
def yX8_clearText : MethodName := ⟨RX8, "clearText", "()I"⟩
abbrev cX8_errorPosition : ByteArray := prog_1_method_4_code
def yX8_errorPosition : MethodName := ⟨RX8, "errorPosition", "()I"⟩
abbrev cX8_load : ByteArray := prog_1_method_5_code
def yX8_load : MethodName := ⟨RX8, "load", "()I"⟩
abbrev cX8_about : ByteArray := prog_1_method_6_code
def yX8_about : MethodName := ⟨RX8, "about", "(I)I"⟩
abbrev cX8_tent : ByteArray := prog_1_method_7_code
def yX8_tent : MethodName := ⟨RX8, "tent", "(II)I"⟩
abbrev cX8_field : ByteArray := prog_1_method_8_code
def yX8_field : MethodName := ⟨RX8, "field", "(II)I"⟩
abbrev cX8_place : ByteArray := prog_1_method_9_code
def yX8_place : MethodName := ⟨RX8, "place", "(II)I"⟩
abbrev cX8_spare : ByteArray := prog_1_method_10_code
def yX8_spare : MethodName := ⟨RX8, "spare", "(I)I"⟩
abbrev cX8_frame : ByteArray := prog_1_method_11_code
def yX8_frame : MethodName := ⟨RX8, "frame", "(II)I"⟩
abbrev cX8_pitch : ByteArray := prog_1_method_12_code
def yX8_pitch : MethodName := ⟨RX8, "pitch", "(II)I"⟩
abbrev cX8_fill : ByteArray := prog_1_method_13_code
def yX8_fill : MethodName := ⟨RX8, "fill", "(II)I"⟩
abbrev cX8_enter : ByteArray := prog_1_method_14_code
def yX8_enter : MethodName := ⟨RX8, "enter", "()I"⟩
abbrev cX8_leave : ByteArray := prog_1_method_15_code
def yX8_leave : MethodName := ⟨RX8, "leave", "()I"⟩
abbrev cX8_jump : ByteArray := prog_1_method_16_code
def yX8_jump : MethodName := ⟨RX8, "jump", "(I)I"⟩
abbrev cX8_set : ByteArray := prog_1_method_17_code
def yX8_set : MethodName := ⟨RX8, "set", "(II)I"⟩
abbrev cX8_undo : ByteArray := prog_1_method_18_code
def yX8_undo : MethodName := ⟨RX8, "undo", "()I"⟩
abbrev cX8_where : ByteArray := prog_1_method_19_code
def yX8_where : MethodName := ⟨RX8, "where", "(II)I"⟩
abbrev cX8_givenUp : ByteArray := prog_1_method_20_code
def yX8_givenUp : MethodName := ⟨RX8, "givenUp", "(I)I"⟩
abbrev cX8_bestSize : ByteArray := prog_1_method_21_code
def yX8_bestSize : MethodName := ⟨RX8, "bestSize", "()I"⟩
abbrev cX8_more : ByteArray := prog_1_method_22_code
def yX8_more : MethodName := ⟨RX8, "more", "(II)I"⟩
abbrev cX8_runScript : ByteArray := prog_1_method_23_code
def yX8_runScript : MethodName := ⟨RX8, "runScript", "(IJ)I"⟩
abbrev cX8_simulate : ByteArray := prog_1_method_24_code
def yX8_simulate : MethodName := ⟨RX8, "simulate", "(JI)I"⟩
abbrev cX8_save : ByteArray := prog_1_method_25_code
def yX8_save : MethodName := ⟨RX8, "save", "(I)I"⟩
abbrev cX8_restore : ByteArray := prog_1_method_26_code
def yX8_restore : MethodName := ⟨RX8, "restore", "(I)I"⟩
abbrev cX8_isStep : ByteArray := prog_1_method_27_code
def yX8_isStep : MethodName := ⟨RX8, "isStep", "(I)Z"⟩
abbrev cX8_isTentKind : ByteArray := prog_1_method_28_code
def yX8_isTentKind : MethodName := ⟨RX8, "isTentKind", "(II)Z"⟩
abbrev cX8_isSetting : ByteArray := prog_1_method_29_code
def yX8_isSetting : MethodName := ⟨RX8, "isSetting", "(II)Z"⟩
abbrev cX8_carryOut : ByteArray := prog_1_method_30_code
def yX8_carryOut : MethodName := ⟨RX8, "carryOut", "(LTentCamp$Camp;LTentCamp$Text;)Z"⟩
abbrev cX8_succeeds : ByteArray := prog_1_method_31_code
def yX8_succeeds : MethodName := ⟨RX8, "succeeds", "(LTentCamp$Camp;I)Z"⟩
abbrev cX8_stepOnce : ByteArray := prog_1_method_32_code
def yX8_stepOnce : MethodName := ⟨RX8, "stepOnce", "(LTentCamp$Camp;I)V"⟩
def RX9 : String := "TentCampModel"
def TX9 : u_T := fun k => match k with
  | 0 => ("TentCampModel", "refusal", "I", false)
  | 1 => ("TentCampModel", "script", "[I", true)
  | 2 => ("TentCampModel", "scriptSize", "I", false)
  | 3 => ("TentCampModel", "spot", "I", false)
  | 4 => ("TentCampModel", "isGood", "Z", false)
  | 5 => ("TentCampModel", "leftOut", "I", false)
  | 6 => ("TentCampModel", "read", "[I", true)
  | 7 => ("TentCampModel", "now", "[I", true)
  | 8 => ("TentCampModel", "trial", "[I", true)
  | 9 => ("TentCampModel", "diary", "[I", true)
  | 10 => ("TentCampModel", "acts", "I", false)
  | 11 => ("TentCampModel", "kept", "[I", true)
  | _ => ("TentCampModel", "isKept", "[Z", true)
def tyX9 : Nat → FieldType := fun k => match k with
  | 0 => .int
  | 1 => .array .int
  | 2 => .int
  | 3 => .int
  | 4 => .boolean
  | 5 => .int
  | 6 => .array .int
  | 7 => .array .int
  | 8 => .array .int
  | 9 => .array .int
  | 10 => .int
  | 11 => .array .int
  | _ => .array .boolean
abbrev wsX90 : List Cond := u_ws RX9 TX9 13
theorem nmX9 : ∀ a, a < 13 → ∀ b, b < 13 → a ≠ b → (TX9 a).2.1 ≠ (TX9 b).2.1 := by decide +kernel
theorem tyX9_ok : ∀ k, k < 13 → parseFieldDescriptor (TX9 k).2.2.1 = some (tyX9 k) := by decide +kernel
abbrev cX9_init : ByteArray := prog_11_method_1_code
def yX9_init : MethodName := ⟨RX9, "<init>", "()V"⟩
abbrev cX9_thrown : ByteArray := prog_11_method_2_code
def yX9_thrown : MethodName := ⟨RX9, "thrown", "()I"⟩
abbrev cX9_refused : ByteArray := prog_11_method_3_code
def yX9_refused : MethodName := ⟨RX9, "refused", "(I)Z"⟩
abbrev cX9_in : ByteArray := prog_11_method_4_code
def yX9_in : MethodName := ⟨RX9, "in", "(JJJ)Z"⟩
abbrev cX9_copy : ByteArray := prog_11_method_5_code
def yX9_copy : MethodName := ⟨RX9, "copy", "([II[III)V"⟩
abbrev cX9_tenTo : ByteArray := prog_11_method_6_code
def yX9_tenTo : MethodName := ⟨RX9, "tenTo", "(I)J"⟩
abbrev cX9_clean : ByteArray := prog_11_method_7_code
def yX9_clean : MethodName := ⟨RX9, "clean", "([III)V"⟩
abbrev cX9_remember : ByteArray := prog_11_method_8_code
def yX9_remember : MethodName := ⟨RX9, "remember", "()V"⟩
abbrev cX9_begin : ByteArray := prog_11_method_9_code
def yX9_begin : MethodName := ⟨RX9, "begin", "()V"⟩
abbrev cX9_tentAt : ByteArray := prog_11_method_10_code
def yX9_tentAt : MethodName := ⟨RX9, "tentAt", "(II)I"⟩
abbrev cX9_fieldAt : ByteArray := prog_11_method_11_code
def yX9_fieldAt : MethodName := ⟨RX9, "fieldAt", "(II)I"⟩
abbrev cX9_spareAt : ByteArray := prog_11_method_12_code
def yX9_spareAt : MethodName := ⟨RX9, "spareAt", "(II)I"⟩
abbrev cX9_frameAt : ByteArray := prog_11_method_13_code
def yX9_frameAt : MethodName := ⟨RX9, "frameAt", "(II)I"⟩
abbrev cX9_tentPlaces : ByteArray := prog_11_method_14_code
def yX9_tentPlaces : MethodName := ⟨RX9, "tentPlaces", "([II)I"⟩
abbrev cX9_usedPlaces : ByteArray := prog_11_method_15_code
def yX9_usedPlaces : MethodName := ⟨RX9, "usedPlaces", "([I)I"⟩
abbrev cX9_sparePlaces : ByteArray := prog_11_method_16_code
def yX9_sparePlaces : MethodName := ⟨RX9, "sparePlaces", "([I)I"⟩
abbrev cX9_allPlaces : ByteArray := prog_11_method_17_code
def yX9_allPlaces : MethodName := ⟨RX9, "allPlaces", "([I)I"⟩
abbrev cX9_lastUsual : ByteArray := prog_11_method_18_code
def yX9_lastUsual : MethodName := ⟨RX9, "lastUsual", "([I)I"⟩
abbrev cX9_roomOn : ByteArray := prog_11_method_19_code
def yX9_roomOn : MethodName := ⟨RX9, "roomOn", "([III)I"⟩
abbrev cX9_spareFor : ByteArray := prog_11_method_20_code
def yX9_spareFor : MethodName := ⟨RX9, "spareFor", "([II)I"⟩
abbrev cX9_isBig : ByteArray := prog_11_method_21_code
def yX9_isBig : MethodName := ⟨RX9, "isBig", "([II)Z"⟩
abbrev cX9_whereIn : ByteArray := prog_11_method_22_code
def yX9_whereIn : MethodName := ⟨RX9, "whereIn", "([III)I"⟩
abbrev cX9_takeSpare : ByteArray := prog_11_method_23_code
def yX9_takeSpare : MethodName := ⟨RX9, "takeSpare", "([II)V"⟩
abbrev cX9_makeField : ByteArray := prog_11_method_24_code
def yX9_makeField : MethodName := ⟨RX9, "makeField", "([II)V"⟩
abbrev cX9_pitchOn : ByteArray := prog_11_method_25_code
def yX9_pitchOn : MethodName := ⟨RX9, "pitchOn", "([III)I"⟩
abbrev cX9_canPitch : ByteArray := prog_11_method_26_code
def yX9_canPitch : MethodName := ⟨RX9, "canPitch", "([III)Z"⟩
abbrev cX9_pitchIn : ByteArray := prog_11_method_27_code
def yX9_pitchIn : MethodName := ⟨RX9, "pitchIn", "([III)I"⟩
abbrev cX9_giveUp : ByteArray := prog_11_method_28_code
def yX9_giveUp : MethodName := ⟨RX9, "giveUp", "([II)V"⟩
abbrev cX9_greatestSpare : ByteArray := prog_11_method_29_code
def yX9_greatestSpare : MethodName := ⟨RX9, "greatestSpare", "([I)I"⟩
abbrev cX9_strike : ByteArray := prog_11_method_30_code
def yX9_strike : MethodName := ⟨RX9, "strike", "([I)V"⟩
abbrev cX9_layEnds : ByteArray := prog_11_method_31_code
def yX9_layEnds : MethodName := ⟨RX9, "layEnds", "([I)V"⟩
abbrev cX9_strikeBehind : ByteArray := prog_11_method_32_code
def yX9_strikeBehind : MethodName := ⟨RX9, "strikeBehind", "([II)I"⟩
abbrev cX9_enterIn : ByteArray := prog_11_method_33_code
def yX9_enterIn : MethodName := ⟨RX9, "enterIn", "([I)V"⟩
abbrev cX9_leaveIn : ByteArray := prog_11_method_34_code
def yX9_leaveIn : MethodName := ⟨RX9, "leaveIn", "([I)I"⟩
abbrev cX9_jumpIn : ByteArray := prog_11_method_35_code
def yX9_jumpIn : MethodName := ⟨RX9, "jumpIn", "([II)I"⟩
abbrev cX9_fillIn : ByteArray := prog_11_method_36_code
def yX9_fillIn : MethodName := ⟨RX9, "fillIn", "([III)I"⟩
abbrev cX9_append : ByteArray := prog_11_method_37_code
def yX9_append : MethodName := ⟨RX9, "append", "(I)I"⟩
abbrev cX9_clearText : ByteArray := prog_11_method_38_code
def yX9_clearText : MethodName := ⟨RX9, "clearText", "()I"⟩
abbrev cX9_isNext : ByteArray := prog_11_method_39_code
def yX9_isNext : MethodName := ⟨RX9, "isNext", "(I)Z"⟩
abbrev cX9_accept : ByteArray := prog_11_method_40_code
def yX9_accept : MethodName := ⟨RX9, "accept", "(Z)V"⟩
abbrev cX9_digit : ByteArray := prog_11_method_41_code
def yX9_digit : MethodName := ⟨RX9, "digit", "(II)I"⟩
abbrev cX9_two : ByteArray := prog_11_method_42_code
def yX9_two : MethodName := ⟨RX9, "two", "(II)I"⟩
abbrev cX9_stepRead : ByteArray := prog_11_method_43_code
def yX9_stepRead : MethodName := ⟨RX9, "stepRead", "()I"⟩
abbrev cX9_readPitch : ByteArray := prog_11_method_44_code
def yX9_readPitch : MethodName := ⟨RX9, "readPitch", "()V"⟩
abbrev cX9_readFill : ByteArray := prog_11_method_45_code
def yX9_readFill : MethodName := ⟨RX9, "readFill", "()V"⟩
abbrev cX9_readFrame : ByteArray := prog_11_method_46_code
def yX9_readFrame : MethodName := ⟨RX9, "readFrame", "(ZZ)V"⟩
abbrev cX9_readCommand : ByteArray := prog_11_method_47_code
def yX9_readCommand : MethodName := ⟨RX9, "readCommand", "()V"⟩
abbrev cX9_readText : ByteArray := prog_11_method_48_code
def yX9_readText : MethodName := ⟨RX9, "readText", "()I"⟩
abbrev cX9_errorPosition : ByteArray := prog_11_method_49_code
def yX9_errorPosition : MethodName := ⟨RX9, "errorPosition", "()I"⟩
abbrev cX9_load : ByteArray := prog_11_method_50_code
def yX9_load : MethodName := ⟨RX9, "load", "()I"⟩
abbrev cX9_onField : ByteArray := prog_11_method_51_code
def yX9_onField : MethodName := ⟨RX9, "onField", "([II)I"⟩
abbrev cX9_gaps : ByteArray := prog_11_method_52_code
def yX9_gaps : MethodName := ⟨RX9, "gaps", "([I)I"⟩
abbrev cX9_about : ByteArray := prog_11_method_53_code
def yX9_about : MethodName := ⟨RX9, "about", "(I)I"⟩
abbrev cX9_frameOf : ByteArray := prog_11_method_54_code
def yX9_frameOf : MethodName := ⟨RX9, "frameOf", "(I)I"⟩
abbrev cX9_isTent : ByteArray := prog_11_method_55_code
def yX9_isTent : MethodName := ⟨RX9, "isTent", "(I)Z"⟩
abbrev cX9_tent : ByteArray := prog_11_method_56_code
def yX9_tent : MethodName := ⟨RX9, "tent", "(II)I"⟩
abbrev cX9_isField : ByteArray := prog_11_method_57_code
def yX9_isField : MethodName := ⟨RX9, "isField", "(I)Z"⟩
abbrev cX9_tentsOn : ByteArray := prog_11_method_58_code
def yX9_tentsOn : MethodName := ⟨RX9, "tentsOn", "(I)I"⟩
abbrev cX9_poisonOn : ByteArray := prog_11_method_59_code
def yX9_poisonOn : MethodName := ⟨RX9, "poisonOn", "(I)I"⟩
abbrev cX9_field : ByteArray := prog_11_method_60_code
def yX9_field : MethodName := ⟨RX9, "field", "(II)I"⟩
abbrev cX9_place : ByteArray := prog_11_method_61_code
def yX9_place : MethodName := ⟨RX9, "place", "(II)I"⟩
abbrev cX9_spare : ByteArray := prog_11_method_62_code
def yX9_spare : MethodName := ⟨RX9, "spare", "(I)I"⟩
abbrev cX9_isFrame : ByteArray := prog_11_method_63_code
def yX9_isFrame : MethodName := ⟨RX9, "isFrame", "(I)Z"⟩
abbrev cX9_frame : ByteArray := prog_11_method_64_code
def yX9_frame : MethodName := ⟨RX9, "frame", "(II)I"⟩
abbrev cX9_isStep : ByteArray := prog_11_method_65_code
def yX9_isStep : MethodName := ⟨RX9, "isStep", "(I)Z"⟩
abbrev cX9_isTentSize : ByteArray := prog_11_method_66_code
def yX9_isTentSize : MethodName := ⟨RX9, "isTentSize", "(I)Z"⟩
abbrev cX9_pitch : ByteArray := prog_11_method_67_code
def yX9_pitch : MethodName := ⟨RX9, "pitch", "(II)I"⟩
abbrev cX9_fill : ByteArray := prog_11_method_68_code
def yX9_fill : MethodName := ⟨RX9, "fill", "(II)I"⟩
abbrev cX9_enter : ByteArray := prog_11_method_69_code
def yX9_enter : MethodName := ⟨RX9, "enter", "()I"⟩
abbrev cX9_leave : ByteArray := prog_11_method_70_code
def yX9_leave : MethodName := ⟨RX9, "leave", "()I"⟩
abbrev cX9_jump : ByteArray := prog_11_method_71_code
def yX9_jump : MethodName := ⟨RX9, "jump", "(I)I"⟩
abbrev cX9_set : ByteArray := prog_11_method_72_code
def yX9_set : MethodName := ⟨RX9, "set", "(II)I"⟩
abbrev cX9_undo : ByteArray := prog_11_method_73_code
def yX9_undo : MethodName := ⟨RX9, "undo", "()I"⟩
abbrev cX9_where : ByteArray := prog_11_method_74_code
def yX9_where : MethodName := ⟨RX9, "where", "(II)I"⟩
abbrev cX9_givenUp : ByteArray := prog_11_method_75_code
def yX9_givenUp : MethodName := ⟨RX9, "givenUp", "(I)I"⟩
abbrev cX9_needs : ByteArray := prog_11_method_76_code
def yX9_needs : MethodName := ⟨RX9, "needs", "(I)I"⟩
abbrev cX9_bestSize : ByteArray := prog_11_method_77_code
def yX9_bestSize : MethodName := ⟨RX9, "bestSize", "()I"⟩
abbrev cX9_more : ByteArray := prog_11_method_78_code
def yX9_more : MethodName := ⟨RX9, "more", "(II)I"⟩
abbrev cX9_pitches : ByteArray := prog_11_method_79_code
def yX9_pitches : MethodName := ⟨RX9, "pitches", "(II)Z"⟩
abbrev cX9_enters : ByteArray := prog_11_method_80_code
def yX9_enters : MethodName := ⟨RX9, "enters", "()Z"⟩
abbrev cX9_leaves : ByteArray := prog_11_method_81_code
def yX9_leaves : MethodName := ⟨RX9, "leaves", "()Z"⟩
abbrev cX9_jumps : ByteArray := prog_11_method_82_code
def yX9_jumps : MethodName := ⟨RX9, "jumps", "(I)Z"⟩
abbrev cX9_does : ByteArray := prog_11_method_83_code
def yX9_does : MethodName := ⟨RX9, "does", "(I)Z"⟩
abbrev cX9_runScript : ByteArray := prog_11_method_84_code
def yX9_runScript : MethodName := ⟨RX9, "runScript", "(IJ)I"⟩
abbrev cX9_stir : ByteArray := prog_11_method_85_code
def yX9_stir : MethodName := ⟨RX9, "stir", "(I)V"⟩
abbrev cX9_simulate : ByteArray := prog_11_method_86_code
def yX9_simulate : MethodName := ⟨RX9, "simulate", "(JI)I"⟩
abbrev cX9_save : ByteArray := prog_11_method_87_code
def yX9_save : MethodName := ⟨RX9, "save", "(I)I"⟩
abbrev cX9_restore : ByteArray := prog_11_method_88_code
def yX9_restore : MethodName := ⟨RX9, "restore", "(I)I"⟩
def RJ9 : String := "java/lang/Math"
def TJ9 : u_T := fun k => match k with
  | _ => ("", "", "", false)
def tyJ9 : Nat → FieldType := fun k => match k with
  | _ => .int
abbrev wsJ90 : List Cond := u_ws RJ9 TJ9 0
theorem nmJ9 : ∀ a, a < 0 → ∀ b, b < 0 → a ≠ b → (TJ9 a).2.1 ≠ (TJ9 b).2.1 := by decide +kernel
theorem tyJ9_ok : ∀ k, k < 0 → parseFieldDescriptor (TJ9 k).2.2.1 = some (tyJ9 k) := by decide +kernel
abbrev cJ9_max_7cf53 : ByteArray := prog_16_method_65_code
def yJ9_max_7cf53 : MethodName := ⟨RJ9, "max", "(II)I"⟩
abbrev cJ9_max_f86c9 : ByteArray := prog_16_method_66_code
def yJ9_max_f86c9 : MethodName := ⟨RJ9, "max", "(JJ)J"⟩
abbrev cJ9_min_7cf53 : ByteArray := prog_16_method_69_code
def yJ9_min_7cf53 : MethodName := ⟨RJ9, "min", "(II)I"⟩
def RJ0 : String := "java/lang/String"
def TJ0 : u_T := fun k => match k with
  | _ => ("", "", "", false)
def tyJ0 : Nat → FieldType := fun k => match k with
  | _ => .int
abbrev wsJ00 : List Cond := u_ws RJ0 TJ0 0
theorem nmJ0 : ∀ a, a < 0 → ∀ b, b < 0 → a ≠ b → (TJ0 a).2.1 ≠ (TJ0 b).2.1 := by decide +kernel
theorem tyJ0_ok : ∀ k, k < 0 → parseFieldDescriptor (TJ0 k).2.2.1 = some (tyJ0 k) := by decide +kernel
def RJ10 : String := "java/lang/System"
def TJ10 : u_T := fun k => match k with
  | _ => ("", "", "", false)
def tyJ10 : Nat → FieldType := fun k => match k with
  | _ => .int
abbrev wsJ100 : List Cond := u_ws RJ10 TJ10 0
theorem nmJ10 : ∀ a, a < 0 → ∀ b, b < 0 → a ≠ b → (TJ10 a).2.1 ≠ (TJ10 b).2.1 := by decide +kernel
theorem tyJ10_ok : ∀ k, k < 0 → parseFieldDescriptor (TJ10 k).2.2.1 = some (tyJ10 k) := by decide +kernel
def RL : String := "TentCampLaw"
abbrev cL_append : ByteArray := method_3_code
def yL_append : MethodName := ⟨RL, "append", "(LTentCamp;I[J)I"⟩
abbrev cL_load : ByteArray := method_4_code
def yL_load : MethodName := ⟨RL, "load", "(LTentCamp;[J)I"⟩
abbrev cL_about : ByteArray := method_5_code
def yL_about : MethodName := ⟨RL, "about", "(LTentCamp;I[J)I"⟩
abbrev cL_tent : ByteArray := method_6_code
def yL_tent : MethodName := ⟨RL, "tent", "(LTentCamp;II[J)I"⟩
abbrev cL_field : ByteArray := method_7_code
def yL_field : MethodName := ⟨RL, "field", "(LTentCamp;II[J)I"⟩
abbrev cL_place : ByteArray := method_8_code
def yL_place : MethodName := ⟨RL, "place", "(LTentCamp;II[J)I"⟩
abbrev cL_spare : ByteArray := method_9_code
def yL_spare : MethodName := ⟨RL, "spare", "(LTentCamp;I[J)I"⟩
abbrev cL_frame : ByteArray := method_10_code
def yL_frame : MethodName := ⟨RL, "frame", "(LTentCamp;II[J)I"⟩
abbrev cL_pitch : ByteArray := method_11_code
def yL_pitch : MethodName := ⟨RL, "pitch", "(LTentCamp;II[J)I"⟩
abbrev cL_fill : ByteArray := method_12_code
def yL_fill : MethodName := ⟨RL, "fill", "(LTentCamp;II[J)I"⟩
abbrev cL_enter : ByteArray := method_13_code
def yL_enter : MethodName := ⟨RL, "enter", "(LTentCamp;[J)I"⟩
abbrev cL_leave : ByteArray := method_14_code
def yL_leave : MethodName := ⟨RL, "leave", "(LTentCamp;[J)I"⟩
abbrev cL_jump : ByteArray := method_15_code
def yL_jump : MethodName := ⟨RL, "jump", "(LTentCamp;I[J)I"⟩
abbrev cL_set : ByteArray := method_16_code
def yL_set : MethodName := ⟨RL, "set", "(LTentCamp;II[J)I"⟩
abbrev cL_undo : ByteArray := method_17_code
def yL_undo : MethodName := ⟨RL, "undo", "(LTentCamp;[J)I"⟩
abbrev cL_where : ByteArray := method_18_code
def yL_where : MethodName := ⟨RL, "where", "(LTentCamp;II[J)I"⟩
abbrev cL_givenUp : ByteArray := method_19_code
def yL_givenUp : MethodName := ⟨RL, "givenUp", "(LTentCamp;I[J)I"⟩
abbrev cL_more : ByteArray := method_20_code
def yL_more : MethodName := ⟨RL, "more", "(LTentCamp;II[J)I"⟩
abbrev cL_runScript : ByteArray := method_21_code
def yL_runScript : MethodName := ⟨RL, "runScript", "(LTentCamp;IJ[J)I"⟩
abbrev cL_simulate : ByteArray := method_22_code
def yL_simulate : MethodName := ⟨RL, "simulate", "(LTentCamp;JI[J)I"⟩
abbrev cL_save : ByteArray := method_23_code
def yL_save : MethodName := ⟨RL, "save", "(LTentCamp;I[J)I"⟩
abbrev cL_restore : ByteArray := method_24_code
def yL_restore : MethodName := ⟨RL, "restore", "(LTentCamp;I[J)I"⟩
abbrev cL_law : ByteArray := code
def yL_law : MethodName := ⟨RL, "law", "([I)Z"⟩
end
section
/-! THE CORE: a picture of the machine small enough to reason in. An abstract cell is its kind and its contents; an abstract address a stands for the real one ad E a: 0 is the script's, the others lie one behind the other from the start's heap on. AW: from here (a method's pc, locals, stack, heap) the method comes to an end with Q. -/
abbrev AC : Type := Nat × List Value
abbrev AH : Type := List AC
abbrev AR : Type := Option Value ⊕ Nat
/-- a method: its name, bytes, locals, answer's type, table of handlers, and whether it has one -/
abbrev AM : Type := MethodName × ByteArray × Nat × Option FieldType × List (Nat × Nat × Nat × Nat) × Bool
/-- a run: the script's address, the start's heap, the script, the classes' ids and slots, the arrays' class ids -/
abbrev AE : Type := Nat × Heap × List Int32 × (Nat → ClassId) × (Nat → Nat → Nat) × (Nat → ClassId)
abbrev vU : Value := .float 0
abbrev kls : List vw_C := [(RX0, TX0, 12), (RX1, TX1, 5), (RX2, TX2, 3), (RX3, TX3, 3), (RX4, TX4, 1), (RX5, TX5, 1), (RX6, TX6, 5), (RX7, TX7, 7), (RX8, TX8, 6), (RX9, TX9, 13)]
def gtbl : List Cond := lw_tbl.filter goodWord
theorem in_g {w : Cond} (i : Nat) (h : lw_tbl[i]? = some w) (g : goodWord w = true) : w ∈ gtbl := List.mem_filter.mpr ⟨List.mem_of_getElem? h, g⟩
def isNest : Cond → Bool
  | .fieldLinkNest .. => true
  | .methodLinkNest .. => true
  | _ => false
def cwd (m : AM) : Cond := match m.2.2.2.2.2 with
  | true => .codeWith m.1 m.2.1 m.2.2.1 m.2.2.2.1 m.2.2.2.2.1
  | false => .code m.1 m.2.1 m.2.2.1 m.2.2.2.1
def awsM (m : AM) : List Cond := cwd m :: gtbl
def bs (E : AE) : Nat := E.2.1.size
def ad (E : AE) : Nat → Nat
  | 0 => E.1
  | a + 1 => E.2.1.size + a
def rv (E : AE) : Value → Value
  | .ref a => .ref (ad E a)
  | .int x => .int x
  | .long x => .long x
  | .float x => .float x
  | .double x => .double x
  | .retAddr x => .retAddr x
  | .null => .null
def dG (E : AE) : va_G := (E.2.2.2.1, E.2.2.2.2.1)
def dA (E : AE) : Nat → ClassId := E.2.2.2.2.2
/-- kinds 10 to 13 are arrays -/
def aty : Nat → FieldType
  | 10 => .int
  | 11 => .long
  | 12 => .boolean
  | _ => .object RX0
def atys (E : AE) : List (ClassId × FieldType) := [(dA E 10, .int), (dA E 11, .long), (dA E 12, .boolean), (dA E 13, .object RX0)]
def vF (E : AE) (L : List Value) : Nat → Value := fun j => rv E (L.getD j .null)
def cOK (E : AE) (a : Nat) (c : AC) (H : Heap) : Prop :=
  (c.1 < 10 → ∃ q : vw_C, kls[c.1]? = some q ∧ c.2.length = q.2.2 ∧ t_OB (ad E a) ((dG E).1 c.1) q.2.2 ((dG E).2 c.1) H (vF E c.2)) ∧
  (10 ≤ c.1 → c.1 < 14 → H[ad E a]? = some (arrV (dA E c.1) c.2.length (vF E c.2))) ∧
  (c.1 = 14 → a = 0 ∧ c.2 = E.2.2.1.map Value.int)
/-- the heap is the picture's: nothing that was there before is changed, nothing else has come -/
def Rel (E : AE) (h : AH) (H : Heap) : Prop :=
  H.size + 1 = bs E + h.length ∧ (∀ q, q < bs E → H[q]? = E.2.1[q]?) ∧ (∀ c, h[0]? = some c → 14 ≤ c.1) ∧ ∀ a c, h[a]? = some c → cOK E a c H
def exn : Nat → String
  | 0 => "java/lang/IllegalArgumentException"
  | 1 => "java/lang/IllegalStateException"
  | _ => "java/lang/IndexOutOfBoundsException"
/-- what the tables say beside the good words -/
def KS (E : AE) (U : State) : Prop :=
  va_K (dG E) kls (atys E) U ∧ (∀ w ∈ lw_tbl, isNest w = true → va_Nw w U) ∧
  (∀ own k tx, Cond.stringRef own k tx ∈ lw_tbl → ∃ a, vk_R own k tx a U) ∧
  vx_Zq Bundle.tN "UNASSIGNED_STACK" Bundle.steD (fun q => bs E ≤ q) U E.2.1 ∧ vx_Zq Bundle.tN "SUPPRESSED_SENTINEL" Bundle.listD (fun q => bs E ≤ q) U E.2.1 ∧
  (∀ x, x < 3 → va_Nw (.castable (exn x) (exn x)) U) ∧ (∀ x y, x < 3 → y < 3 → x ≠ y → va_Nc (exn x) (exn y) U) ∧
  va_X E.1 E.2.2.1.length (fun j => E.2.2.1.getD j 0) U E.2.1 ∧ E.1 < bs E ∧ va_AO RX0 U
theorem KS.warm {E : AE} {s U : State} (hW : s.WarmedH U.vm) (h : KS E s) : KS E U := by
  obtain ⟨h1, h2, h3, h4, h5, h6, h7, h8, h9, h10⟩ := h
  refine ⟨va_K.moved hW.alike h1, fun w hw hn => ?_, fun own k tx hw => ?_, h4.moved hW.alike, h5.moved hW.alike, fun x hx => (h6 x hx).warmC hW, fun x y hx hy hn => (h7 x y hx hy hn).moved hW.alike, h8.moved hW.alike, h9, h10.moved hW.alike⟩
  · have h0 := h2 w hw hn
    cases w <;> simp [isNest] at hn
    · exact va_Nw.warmM hW h0
    · exact va_Nw.warmF hW h0
  · obtain ⟨a, ha⟩ := h3 own k tx hw
    exact ⟨a, ha.warm hW⟩
/-- the frame of a method -/
def Fr (E : AE) (m : AM) (d : Nat) (p : Program) (l : Launch) (R : Room) (s : State) (mi : MethodId) (args : Array Value) (meth : Method) (c : Code) : Prop :=
  p.tables.exec = Jvm.exec ∧ c.code = m.2.1 ∧ c.maxLocals = m.2.2.1 ∧ meth.sig.returnType = m.2.2.2.1 ∧ s.vm.findClass m.1.cls = some mi.cls ∧ (∀ w ∈ gtbl, w.before args s = true) ∧ KS E s ∧
  (∀ q, q < bs E → s.heap[q]? = E.2.1[q]?) ∧ bs E ≤ s.heap.size ∧ d ≤ R.frames ∧ 37 * d ≤ R.locals ∧ meth.locks = false ∧ (m.1.name = "<init>" → meth.name = "<init>") ∧ (m.1.name = "law" ∨ c.exceptionTable.toList = tableOf m.2.2.2.2.1) ∧ l.stackTraces = false
def LOK (E : AE) (n : Nat) (ls : List Value) (lr : Array Slot) : Prop := ls.length = n ∧ lr.size = n ∧ lv_wf lr ∧ ∀ (i : Nat) (v : Value), ls[i]? = some v → v ≠ vU → lr[i]? = some (Slot.val (rv E v))
def HOK (E : AE) (s : State) (h : AH) (H : Heap) (locs : List Loc) : Prop := Rel E h H ∧ s.heap.size ≤ H.size ∧ ∀ z ∈ locs, bs E ≤ z.base
/-- how a method gives back its answer -/
def retI (ret : Option FieldType) (r : Option Value) (i : Instr) : Prop :=
  (ret = none ∧ r = none ∧ i = .return_) ∨ (∃ (x : Int32) (ty : FieldType), ret = some ty ∧ narrow ty (.int x) = .int x ∧ r = some (.int x) ∧ i = .ireturn) ∨
  (∃ x : Int64, ret = some .long ∧ r = some (.long x) ∧ i = .lreturn) ∨ (∃ (v : Value) (n : String), ret = some (.object n) ∧ r = some v ∧ (v = .null ∨ ∃ a, v = .ref a) ∧ i = .areturn)
def EndOK (E : AE) (m : AM) (p : Program) (l : Launch) (e : Env) (R : Room) (s : State) (mi : MethodId) (args : Array Value) (below : List Frame) (meth : Method) (c : Code) (QQ : State → Prop) (Q : AR → AH → Prop) : Prop :=
  (∀ (r : Option Value) (h : AH) (H : Heap) (locs : List Loc) (cells slots pc : Nat) (lr : Array Slot) (i : Instr), Q (.inl r) h → HOK E s h H locs → cells ≤ R.cells → slots ≤ R.slots → decode m.2.1 pc = .ok (i, 1) → retI m.2.2.2.1 r i →
    W p l e R s mi args below meth c H locs cells slots QQ (F0 mi pc lr (r.toList.map (rv E)))) ∧
  ((∀ x h, ¬ Q (.inr x) h) ∨ ∃ (Qc : Array Value → State → Outcome → State → Prop) (XC : String → State → State → Prop), QQ = vx_MQ below Qc XC args s R.cells R.slots (fun q => bs E ≤ q) ∧
    ∀ (x : Nat) (h : AH) (k : Nat) (t : State), Q (.inr x) h → Rel E (h ++ List.replicate k (15, [])) t.heap → s.heap.size ≤ t.heap.size → s.vm.Alike t.vm → XC (exn x) s t)
theorem EndOK.mono {E : AE} {m : AM} {p : Program} {l : Launch} {e : Env} {R : Room} {s : State} {mi : MethodId} {args : Array Value} {below : List Frame} {meth : Method} {c : Code} {QQ : State → Prop} {Q Q' : AR → AH → Prop} (hE : EndOK E m p l e R s mi args below meth c QQ Q') (hq : ∀ r h, Q r h → Q' r h) : EndOK E m p l e R s mi args below meth c QQ Q := by
  refine ⟨fun r h H locs cells slots pc lr i h1 => hE.1 r h H locs cells slots pc lr i (hq _ _ h1), ?_⟩
  rcases hE.2 with h | ⟨Qc, XC, h1, h2⟩
  · exact Or.inl fun x h' z => h x h' (hq _ _ z)
  · exact Or.inr ⟨Qc, XC, h1, fun x h' k t z => h2 x h' k t (hq _ _ z)⟩
def AW (m : AM) (d mc ms pc : Nat) (ls st : List Value) (h : AH) (Q : AR → AH → Prop) : Prop :=
  ∀ (E : AE) (p : Program) (l : Launch) (e : Env) (R : Room) (s : State) (mi : MethodId) (args : Array Value) (below : List Frame) (meth : Method) (c : Code) (QQ : State → Prop) (H : Heap) (locs : List Loc) (cells slots : Nat) (lr : Array Slot),
    Fr E m d p l R s mi args meth c → LOK E m.2.2.1 ls lr → HOK E s h H locs → cells + mc ≤ R.cells → slots + ms ≤ R.slots → EndOK E m p l e R s mi args below meth c QQ Q →
    W p l e R s mi args below meth c H locs cells slots QQ (F0 mi pc lr (st.map (rv E)))
theorem AW.mono {m : AM} {d mc ms pc : Nat} {ls st : List Value} {h : AH} {Q Q' : AR → AH → Prop} (k : AW m d mc ms pc ls st h Q) (hq : ∀ r h, Q r h → Q' r h) : AW m d mc ms pc ls st h Q' :=
  fun E p l e R s mi args below meth c QQ H locs cells slots lr hF hL hH hc hs hE => k E p l e R s mi args below meth c QQ H locs cells slots lr hF hL hH hc hs (hE.mono hq)
theorem AW.room {m : AM} {d mc ms mc' ms' pc : Nat} {ls st : List Value} {h : AH} {Q : AR → AH → Prop} (k : AW m d mc ms pc ls st h Q) (h1 : mc ≤ mc') (h2 : ms ≤ ms') : AW m d mc' ms' pc ls st h Q :=
  fun E p l e R s mi args below meth c QQ H locs cells slots lr hF hL hH hc hs hE => k E p l e R s mi args below meth c QQ H locs cells slots lr hF hL hH (by omega) (by omega) hE
theorem AW.depth {m : AM} {d d' mc ms pc : Nat} {ls st : List Value} {h : AH} {Q : AR → AH → Prop} (k : AW m d mc ms pc ls st h Q) (h1 : d ≤ d') : AW m d' mc ms pc ls st h Q := by
  intro E p l e R s mi args below meth c QQ H locs cells slots lr hF
  obtain ⟨a1, a2, a3, a4, a5, a6, a7, a8, a9, a10, a11, a12⟩ := hF
  exact k E p l e R s mi args below meth c QQ H locs cells slots lr ⟨a1, a2, a3, a4, a5, a6, a7, a8, a9, by omega, by omega, a12⟩
theorem AW.eq {m : AM} {d mc ms pc : Nat} {ls ls' st st' : List Value} {h h' : AH} {Q : AR → AH → Prop} (k : AW m d mc ms pc ls' st' h' Q) (h1 : ls = ls') (h2 : st = st') (h3 : h = h') : AW m d mc ms pc ls st h Q := by
  subst h1; subst h2; subst h3; exact k
end
section
/-! instructions that leave the heap as it is -/
section PURE
variable {m : AM} {d mc ms pc : Nat} {ls st : List Value} {h : AH} {Q : AR → AH → Prop}
theorem aw_iconst {n : Int} {v : Int32} (hd : decode m.2.1 pc = .ok (.iconst n, 1)) (hv : Int32.ofInt n = v) (k : AW m d mc ms (pc + 1) ls (.int v :: st) h Q) : AW m d mc ms pc ls (st) h Q :=
  fun E p l e R s mi args below meth c QQ H locs cells slots lr hF hL hH hc hs hE => lv_iconst hF.1 hF.2.1 hd hv (k E p l e R s mi args below meth c QQ H locs cells slots lr hF hL hH hc hs hE)
theorem aw_bipush {n : Int} {v : Int32} (hd : decode m.2.1 pc = .ok (.bipush n, 2)) (hv : (Int8.ofInt n).toInt32 = v) (k : AW m d mc ms (pc + 2) ls (.int v :: st) h Q) : AW m d mc ms pc ls (st) h Q :=
  fun E p l e R s mi args below meth c QQ H locs cells slots lr hF hL hH hc hs hE => lv_bipush hF.1 hF.2.1 hd hv (k E p l e R s mi args below meth c QQ H locs cells slots lr hF hL hH hc hs hE)
theorem aw_sipush {n : Int} {v : Int32} (hd : decode m.2.1 pc = .ok (.sipush n, 3)) (hv : (Int16.ofInt n).toInt32 = v) (k : AW m d mc ms (pc + 3) ls (.int v :: st) h Q) : AW m d mc ms pc ls (st) h Q :=
  fun E p l e R s mi args below meth c QQ H locs cells slots lr hF hL hH hc hs hE => lv_sipush hF.1 hF.2.1 hd hv (k E p l e R s mi args below meth c QQ H locs cells slots lr hF hL hH hc hs hE)
theorem aw_lconst {n : Fin 2} {v : Int64} (hd : decode m.2.1 pc = .ok (.lconst n, 1)) (hv : Int64.ofNat (n : Nat) = v) (k : AW m d mc ms (pc + 1) ls (.long v :: st) h Q) : AW m d mc ms pc ls (st) h Q :=
  fun E p l e R s mi args below meth c QQ H locs cells slots lr hF hL hH hc hs hE => lv_lconst hF.1 hF.2.1 hd hv (k E p l e R s mi args below meth c QQ H locs cells slots lr hF hL hH hc hs hE)
theorem aw_null  (hd : decode m.2.1 pc = .ok (.aconst_null, 1))  (k : AW m d mc ms (pc + 1) ls (.null :: st) h Q) : AW m d mc ms pc ls (st) h Q :=
  fun E p l e R s mi args below meth c QQ H locs cells slots lr hF hL hH hc hs hE => lv_null hF.1 hF.2.1 hd (k E p l e R s mi args below meth c QQ H locs cells slots lr hF hL hH hc hs hE)
theorem aw_iload_n {i : Fin 4} {x : Int32} (hd : decode m.2.1 pc = .ok (.iload_n i, 1)) (hl : ls[(i : Nat)]? = some (.int x)) (k : AW m d mc ms (pc + 1) ls (.int x :: st) h Q) : AW m d mc ms pc ls (st) h Q :=
  fun E p l e R s mi args below meth c QQ H locs cells slots lr hF hL hH hc hs hE => lv_iload_n hF.1 hF.2.1 hd rfl (hL.2.2.2 _ _ hl (fun z => by cases z)) (k E p l e R s mi args below meth c QQ H locs cells slots lr hF hL hH hc hs hE)
theorem aw_iload {i : Nat} {x : Int32} (hd : decode m.2.1 pc = .ok (.iload i, 2)) (hl : ls[i]? = some (.int x)) (k : AW m d mc ms (pc + 2) ls (.int x :: st) h Q) : AW m d mc ms pc ls (st) h Q :=
  fun E p l e R s mi args below meth c QQ H locs cells slots lr hF hL hH hc hs hE => lv_iload hF.1 hF.2.1 hd (hL.2.2.2 _ _ hl (fun z => by cases z)) (k E p l e R s mi args below meth c QQ H locs cells slots lr hF hL hH hc hs hE)
theorem aw_lload_n {i : Fin 4} {x : Int64} (hd : decode m.2.1 pc = .ok (.lload_n i, 1)) (hl : ls[(i : Nat)]? = some (.long x)) (k : AW m d mc ms (pc + 1) ls (.long x :: st) h Q) : AW m d mc ms pc ls (st) h Q :=
  fun E p l e R s mi args below meth c QQ H locs cells slots lr hF hL hH hc hs hE => lv_lload_n hF.1 hF.2.1 hd rfl (hL.2.2.2 _ _ hl (fun z => by cases z)) (k E p l e R s mi args below meth c QQ H locs cells slots lr hF hL hH hc hs hE)
theorem aw_lload {i : Nat} {x : Int64} (hd : decode m.2.1 pc = .ok (.lload i, 2)) (hl : ls[i]? = some (.long x)) (k : AW m d mc ms (pc + 2) ls (.long x :: st) h Q) : AW m d mc ms pc ls (st) h Q :=
  fun E p l e R s mi args below meth c QQ H locs cells slots lr hF hL hH hc hs hE => lv_lload hF.1 hF.2.1 hd (hL.2.2.2 _ _ hl (fun z => by cases z)) (k E p l e R s mi args below meth c QQ H locs cells slots lr hF hL hH hc hs hE)
theorem aw_aload_n {i : Fin 4} {x : Nat} (hd : decode m.2.1 pc = .ok (.aload_n i, 1)) (hl : ls[(i : Nat)]? = some (.ref x)) (k : AW m d mc ms (pc + 1) ls (.ref x :: st) h Q) : AW m d mc ms pc ls (st) h Q :=
  fun E p l e R s mi args below meth c QQ H locs cells slots lr hF hL hH hc hs hE => lv_aload_n hF.1 hF.2.1 hd rfl (hL.2.2.2 _ _ hl (fun z => by cases z)) (k E p l e R s mi args below meth c QQ H locs cells slots lr hF hL hH hc hs hE)
theorem aw_aload {i : Nat} {x : Nat} (hd : decode m.2.1 pc = .ok (.aload i, 2)) (hl : ls[i]? = some (.ref x)) (k : AW m d mc ms (pc + 2) ls (.ref x :: st) h Q) : AW m d mc ms pc ls (st) h Q :=
  fun E p l e R s mi args below meth c QQ H locs cells slots lr hF hL hH hc hs hE => lv_aload hF.1 hF.2.1 hd (hL.2.2.2 _ _ hl (fun z => by cases z)) (k E p l e R s mi args below meth c QQ H locs cells slots lr hF hL hH hc hs hE)
theorem aw_iadd {x y : Int32} (hd : decode m.2.1 pc = .ok (.iadd, 1))  (k : AW m d mc ms (pc + 1) ls (.int (x + y) :: st) h Q) : AW m d mc ms pc ls (.int y :: .int x :: st) h Q :=
  fun E p l e R s mi args below meth c QQ H locs cells slots lr hF hL hH hc hs hE => lv_iadd hF.1 hF.2.1 hd (k E p l e R s mi args below meth c QQ H locs cells slots lr hF hL hH hc hs hE)
theorem aw_isub {x y : Int32} (hd : decode m.2.1 pc = .ok (.isub, 1))  (k : AW m d mc ms (pc + 1) ls (.int (x - y) :: st) h Q) : AW m d mc ms pc ls (.int y :: .int x :: st) h Q :=
  fun E p l e R s mi args below meth c QQ H locs cells slots lr hF hL hH hc hs hE => lv_isub hF.1 hF.2.1 hd (k E p l e R s mi args below meth c QQ H locs cells slots lr hF hL hH hc hs hE)
theorem aw_imul {x y : Int32} (hd : decode m.2.1 pc = .ok (.imul, 1))  (k : AW m d mc ms (pc + 1) ls (.int (x * y) :: st) h Q) : AW m d mc ms pc ls (.int y :: .int x :: st) h Q :=
  fun E p l e R s mi args below meth c QQ H locs cells slots lr hF hL hH hc hs hE => lv_imul hF.1 hF.2.1 hd (k E p l e R s mi args below meth c QQ H locs cells slots lr hF hL hH hc hs hE)
theorem aw_iand {x y : Int32} (hd : decode m.2.1 pc = .ok (.iand, 1))  (k : AW m d mc ms (pc + 1) ls (.int (x &&& y) :: st) h Q) : AW m d mc ms pc ls (.int y :: .int x :: st) h Q :=
  fun E p l e R s mi args below meth c QQ H locs cells slots lr hF hL hH hc hs hE => lv_iand hF.1 hF.2.1 hd (k E p l e R s mi args below meth c QQ H locs cells slots lr hF hL hH hc hs hE)
theorem aw_ladd {x y : Int64} (hd : decode m.2.1 pc = .ok (.ladd, 1))  (k : AW m d mc ms (pc + 1) ls (.long (x + y) :: st) h Q) : AW m d mc ms pc ls (.long y :: .long x :: st) h Q :=
  fun E p l e R s mi args below meth c QQ H locs cells slots lr hF hL hH hc hs hE => lv_ladd hF.1 hF.2.1 hd (k E p l e R s mi args below meth c QQ H locs cells slots lr hF hL hH hc hs hE)
theorem aw_lsub {x y : Int64} (hd : decode m.2.1 pc = .ok (.lsub, 1))  (k : AW m d mc ms (pc + 1) ls (.long (x - y) :: st) h Q) : AW m d mc ms pc ls (.long y :: .long x :: st) h Q :=
  fun E p l e R s mi args below meth c QQ H locs cells slots lr hF hL hH hc hs hE => lv_lsub hF.1 hF.2.1 hd (k E p l e R s mi args below meth c QQ H locs cells slots lr hF hL hH hc hs hE)
theorem aw_lmul {x y : Int64} (hd : decode m.2.1 pc = .ok (.lmul, 1))  (k : AW m d mc ms (pc + 1) ls (.long (x * y) :: st) h Q) : AW m d mc ms pc ls (.long y :: .long x :: st) h Q :=
  fun E p l e R s mi args below meth c QQ H locs cells slots lr hF hL hH hc hs hE => lv_lmul hF.1 hF.2.1 hd (k E p l e R s mi args below meth c QQ H locs cells slots lr hF hL hH hc hs hE)
theorem aw_land {x y : Int64} (hd : decode m.2.1 pc = .ok (.land, 1))  (k : AW m d mc ms (pc + 1) ls (.long (x &&& y) :: st) h Q) : AW m d mc ms pc ls (.long y :: .long x :: st) h Q :=
  fun E p l e R s mi args below meth c QQ H locs cells slots lr hF hL hH hc hs hE => lv_land hF.1 hF.2.1 hd (k E p l e R s mi args below meth c QQ H locs cells slots lr hF hL hH hc hs hE)
theorem aw_lor {x y : Int64} (hd : decode m.2.1 pc = .ok (.lor, 1))  (k : AW m d mc ms (pc + 1) ls (.long (x ||| y) :: st) h Q) : AW m d mc ms pc ls (.long y :: .long x :: st) h Q :=
  fun E p l e R s mi args below meth c QQ H locs cells slots lr hF hL hH hc hs hE => lv_lor hF.1 hF.2.1 hd (k E p l e R s mi args below meth c QQ H locs cells slots lr hF hL hH hc hs hE)
theorem aw_idiv {x y : Int32} (hd : decode m.2.1 pc = .ok (.idiv, 1)) (hn : ¬ y = 0) (k : AW m d mc ms (pc + 1) ls (.int (x / y) :: st) h Q) : AW m d mc ms pc ls (.int y :: .int x :: st) h Q :=
  fun E p l e R s mi args below meth c QQ H locs cells slots lr hF hL hH hc hs hE => lv_idiv hF.1 hF.2.1 hd hn (k E p l e R s mi args below meth c QQ H locs cells slots lr hF hL hH hc hs hE)
theorem aw_irem {x y : Int32} (hd : decode m.2.1 pc = .ok (.irem, 1)) (hn : ¬ y = 0) (k : AW m d mc ms (pc + 1) ls (.int (x - x / y * y) :: st) h Q) : AW m d mc ms pc ls (.int y :: .int x :: st) h Q :=
  fun E p l e R s mi args below meth c QQ H locs cells slots lr hF hL hH hc hs hE => lv_irem hF.1 hF.2.1 hd hn (k E p l e R s mi args below meth c QQ H locs cells slots lr hF hL hH hc hs hE)
theorem aw_ineg {x : Int32} (hd : decode m.2.1 pc = .ok (.ineg, 1))  (k : AW m d mc ms (pc + 1) ls (.int (-x) :: st) h Q) : AW m d mc ms pc ls (.int x :: st) h Q :=
  fun E p l e R s mi args below meth c QQ H locs cells slots lr hF hL hH hc hs hE => lv_ineg hF.1 hF.2.1 hd (k E p l e R s mi args below meth c QQ H locs cells slots lr hF hL hH hc hs hE)
theorem aw_ldiv {x y : Int64} (hd : decode m.2.1 pc = .ok (.ldiv, 1)) (hn : ¬ y = 0) (k : AW m d mc ms (pc + 1) ls (.long (x / y) :: st) h Q) : AW m d mc ms pc ls (.long y :: .long x :: st) h Q :=
  fun E p l e R s mi args below meth c QQ H locs cells slots lr hF hL hH hc hs hE => lv_ldiv hF.1 hF.2.1 hd hn (k E p l e R s mi args below meth c QQ H locs cells slots lr hF hL hH hc hs hE)
theorem aw_lrem {x y : Int64} (hd : decode m.2.1 pc = .ok (.lrem, 1)) (hn : ¬ y = 0) (k : AW m d mc ms (pc + 1) ls (.long (x - x / y * y) :: st) h Q) : AW m d mc ms pc ls (.long y :: .long x :: st) h Q :=
  fun E p l e R s mi args below meth c QQ H locs cells slots lr hF hL hH hc hs hE => lv_lrem hF.1 hF.2.1 hd hn (k E p l e R s mi args below meth c QQ H locs cells slots lr hF hL hH hc hs hE)
theorem aw_ishl {x y : Int32} (hd : decode m.2.1 pc = .ok (.ishl, 1))  (k : AW m d mc ms (pc + 1) ls (.int (x <<< (y &&& 31)) :: st) h Q) : AW m d mc ms pc ls (.int y :: .int x :: st) h Q :=
  fun E p l e R s mi args below meth c QQ H locs cells slots lr hF hL hH hc hs hE => lv_ishl hF.1 hF.2.1 hd (k E p l e R s mi args below meth c QQ H locs cells slots lr hF hL hH hc hs hE)
theorem aw_i2l {x : Int32} (hd : decode m.2.1 pc = .ok (.i2l, 1))  (k : AW m d mc ms (pc + 1) ls (.long x.toInt64 :: st) h Q) : AW m d mc ms pc ls (.int x :: st) h Q :=
  fun E p l e R s mi args below meth c QQ H locs cells slots lr hF hL hH hc hs hE => lv_i2l hF.1 hF.2.1 hd rfl (k E p l e R s mi args below meth c QQ H locs cells slots lr hF hL hH hc hs hE)
theorem aw_l2i {x : Int64} (hd : decode m.2.1 pc = .ok (.l2i, 1))  (k : AW m d mc ms (pc + 1) ls (.int x.toInt32 :: st) h Q) : AW m d mc ms pc ls (.long x :: st) h Q :=
  fun E p l e R s mi args below meth c QQ H locs cells slots lr hF hL hH hc hs hE => lv_l2i hF.1 hF.2.1 hd rfl (k E p l e R s mi args below meth c QQ H locs cells slots lr hF hL hH hc hs hE)
theorem aw_lushr {x : Int64} {y : Int32} (hd : decode m.2.1 pc = .ok (.lushr, 1))  (k : AW m d mc ms (pc + 1) ls (.long (x.toUInt64 >>> (y.toInt64.toUInt64 &&& Int64.toUInt64 63)).toInt64 :: st) h Q) : AW m d mc ms pc ls (.int y :: .long x :: st) h Q :=
  fun E p l e R s mi args below meth c QQ H locs cells slots lr hF hL hH hc hs hE => lv_lushr hF.1 hF.2.1 hd rfl (k E p l e R s mi args below meth c QQ H locs cells slots lr hF hL hH hc hs hE)
theorem aw_lshl {x : Int64} {y : Int32} (hd : decode m.2.1 pc = .ok (.lshl, 1))  (k : AW m d mc ms (pc + 1) ls (.long (x <<< (y.toInt64 &&& 63)) :: st) h Q) : AW m d mc ms pc ls (.int y :: .long x :: st) h Q :=
  fun E p l e R s mi args below meth c QQ H locs cells slots lr hF hL hH hc hs hE => lv_lshl hF.1 hF.2.1 hd rfl (k E p l e R s mi args below meth c QQ H locs cells slots lr hF hL hH hc hs hE)
theorem aw_lcmp {x y : Int64} (hd : decode m.2.1 pc = .ok (.lcmp, 1))  (k : AW m d mc ms (pc + 1) ls (.int (lg_cmp x y) :: st) h Q) : AW m d mc ms pc ls (.long y :: .long x :: st) h Q :=
  fun E p l e R s mi args below meth c QQ H locs cells slots lr hF hL hH hc hs hE => W.lcmp hF.1 hF.2.1 hd (k E p l e R s mi args below meth c QQ H locs cells slots lr hF hL hH hc hs hE)
theorem rv_cat (E : AE) (v : Value) : (rv E v).category = v.category := by cases v <;> rfl
theorem aw_dup {v : Value} (hd : decode m.2.1 pc = .ok (.dup, 1)) (hv : v.category = 1) (k : AW m d mc ms (pc + 1) ls (v :: v :: st) h Q) : AW m d mc ms pc ls (v :: st) h Q :=
  fun E p l e R s mi args below meth c QQ H locs cells slots lr hF hL hH hc hs hE => lv_dup hF.1 hF.2.1 hd ((rv_cat E v).trans hv) (k E p l e R s mi args below meth c QQ H locs cells slots lr hF hL hH hc hs hE)
theorem aw_pop {v : Value} (hd : decode m.2.1 pc = .ok (.pop, 1)) (hv : v.category = 1) (k : AW m d mc ms (pc + 1) ls (st) h Q) : AW m d mc ms pc ls (v :: st) h Q :=
  fun E p l e R s mi args below meth c QQ H locs cells slots lr hF hL hH hc hs hE => lv_pop hF.1 hF.2.1 hd ((rv_cat E v).trans hv) (k E p l e R s mi args below meth c QQ H locs cells slots lr hF hL hH hc hs hE)
theorem aw_dup2 {v w : Value} (hd : decode m.2.1 pc = .ok (.dup2, 1)) (hv : v.category = 1) (hw : w.category = 1) (k : AW m d mc ms (pc + 1) ls (v :: w :: v :: w :: st) h Q) : AW m d mc ms pc ls (v :: w :: st) h Q :=
  fun E p l e R s mi args below meth c QQ H locs cells slots lr hF hL hH hc hs hE => lv_dup2_11 hF.1 hF.2.1 hd ((rv_cat E v).trans hv) ((rv_cat E w).trans hw) (k E p l e R s mi args below meth c QQ H locs cells slots lr hF hL hH hc hs hE)
theorem aw_dup2L {v : Value} (hd : decode m.2.1 pc = .ok (.dup2, 1)) (hv : v.category = 2) (k : AW m d mc ms (pc + 1) ls (v :: v :: st) h Q) : AW m d mc ms pc ls (v :: st) h Q :=
  fun E p l e R s mi args below meth c QQ H locs cells slots lr hF hL hH hc hs hE => lv_dup2_2 hF.1 hF.2.1 hd ((rv_cat E v).trans hv) (k E p l e R s mi args below meth c QQ H locs cells slots lr hF hL hH hc hs hE)
theorem aw_goto {off : Int} {tgt : Nat} (hd : decode m.2.1 pc = .ok (.goto off, 3)) (ht : (pc : Int) + off = (tgt : Int)) (k : AW m d mc ms tgt ls (st) h Q) : AW m d mc ms pc ls (st) h Q :=
  fun E p l e R s mi args below meth c QQ H locs cells slots lr hF hL hH hc hs hE => lv_goto hF.1 hF.2.1 hd ht (k E p l e R s mi args below meth c QQ H locs cells slots lr hF hL hH hc hs hE)
theorem aw_ifnullR {off : Int} {x : Nat} (hd : decode m.2.1 pc = .ok (.ifnull off, 3))  (k : AW m d mc ms (pc + 3) ls (st) h Q) : AW m d mc ms pc ls (.ref x :: st) h Q :=
  fun E p l e R s mi args below meth c QQ H locs cells slots lr hF hL hH hc hs hE => lv_ifnull hF.1 hF.2.1 hd (k E p l e R s mi args below meth c QQ H locs cells slots lr hF hL hH hc hs hE)
theorem aw_ifnullN {off : Int} {tgt : Nat} (hd : decode m.2.1 pc = .ok (.ifnull off, 3)) (ht : (pc : Int) + off = (tgt : Int)) (k : AW m d mc ms tgt ls (st) h Q) : AW m d mc ms pc ls (.null :: st) h Q :=
  fun E p l e R s mi args below meth c QQ H locs cells slots lr hF hL hH hc hs hE => lv_ifnullN hF.1 hF.2.1 hd ht (k E p l e R s mi args below meth c QQ H locs cells slots lr hF hL hH hc hs hE)
theorem aw_if_eq {x : Int32} {off : Int} {tgt : Nat} (hd : decode m.2.1 pc = .ok (.ifCond .eq off, 3)) (ht : (pc : Int) + off = (tgt : Int)) (kt : x = 0 → AW m d mc ms tgt ls st h Q) (kf : ¬ x = 0 → AW m d mc ms (pc + 3) ls st h Q) : AW m d mc ms pc ls (.int x :: st) h Q :=
  fun E p l e R s mi args below meth c QQ H locs cells slots lr hF hL hH hc hs hE => lv_if_eq hF.1 hF.2.1 hd ht (fun z => kt z E p l e R s mi args below meth c QQ H locs cells slots lr hF hL hH hc hs hE) (fun z => kf z E p l e R s mi args below meth c QQ H locs cells slots lr hF hL hH hc hs hE)
theorem aw_icmp_eq {x y : Int32} {off : Int} {tgt : Nat} (hd : decode m.2.1 pc = .ok (.if_icmp .eq off, 3)) (ht : (pc : Int) + off = (tgt : Int)) (kt : x = y → AW m d mc ms tgt ls st h Q) (kf : ¬ x = y → AW m d mc ms (pc + 3) ls st h Q) : AW m d mc ms pc ls (.int y :: .int x :: st) h Q :=
  fun E p l e R s mi args below meth c QQ H locs cells slots lr hF hL hH hc hs hE => lv_icmp_eq hF.1 hF.2.1 hd ht (fun z => kt z E p l e R s mi args below meth c QQ H locs cells slots lr hF hL hH hc hs hE) (fun z => kf z E p l e R s mi args below meth c QQ H locs cells slots lr hF hL hH hc hs hE)
theorem aw_if_ne {x : Int32} {off : Int} {tgt : Nat} (hd : decode m.2.1 pc = .ok (.ifCond .ne off, 3)) (ht : (pc : Int) + off = (tgt : Int)) (kt : ¬ x = 0 → AW m d mc ms tgt ls st h Q) (kf : x = 0 → AW m d mc ms (pc + 3) ls st h Q) : AW m d mc ms pc ls (.int x :: st) h Q :=
  fun E p l e R s mi args below meth c QQ H locs cells slots lr hF hL hH hc hs hE => lv_if_ne hF.1 hF.2.1 hd ht (fun z => kt z E p l e R s mi args below meth c QQ H locs cells slots lr hF hL hH hc hs hE) (fun z => kf z E p l e R s mi args below meth c QQ H locs cells slots lr hF hL hH hc hs hE)
theorem aw_icmp_ne {x y : Int32} {off : Int} {tgt : Nat} (hd : decode m.2.1 pc = .ok (.if_icmp .ne off, 3)) (ht : (pc : Int) + off = (tgt : Int)) (kt : ¬ x = y → AW m d mc ms tgt ls st h Q) (kf : x = y → AW m d mc ms (pc + 3) ls st h Q) : AW m d mc ms pc ls (.int y :: .int x :: st) h Q :=
  fun E p l e R s mi args below meth c QQ H locs cells slots lr hF hL hH hc hs hE => lv_icmp_ne hF.1 hF.2.1 hd ht (fun z => kt z E p l e R s mi args below meth c QQ H locs cells slots lr hF hL hH hc hs hE) (fun z => kf z E p l e R s mi args below meth c QQ H locs cells slots lr hF hL hH hc hs hE)
theorem aw_if_lt {x : Int32} {off : Int} {tgt : Nat} (hd : decode m.2.1 pc = .ok (.ifCond .lt off, 3)) (ht : (pc : Int) + off = (tgt : Int)) (kt : x < 0 → AW m d mc ms tgt ls st h Q) (kf : ¬ x < 0 → AW m d mc ms (pc + 3) ls st h Q) : AW m d mc ms pc ls (.int x :: st) h Q :=
  fun E p l e R s mi args below meth c QQ H locs cells slots lr hF hL hH hc hs hE => lv_if_lt hF.1 hF.2.1 hd ht (fun z => kt z E p l e R s mi args below meth c QQ H locs cells slots lr hF hL hH hc hs hE) (fun z => kf z E p l e R s mi args below meth c QQ H locs cells slots lr hF hL hH hc hs hE)
theorem aw_icmp_lt {x y : Int32} {off : Int} {tgt : Nat} (hd : decode m.2.1 pc = .ok (.if_icmp .lt off, 3)) (ht : (pc : Int) + off = (tgt : Int)) (kt : x < y → AW m d mc ms tgt ls st h Q) (kf : ¬ x < y → AW m d mc ms (pc + 3) ls st h Q) : AW m d mc ms pc ls (.int y :: .int x :: st) h Q :=
  fun E p l e R s mi args below meth c QQ H locs cells slots lr hF hL hH hc hs hE => lv_icmp_lt hF.1 hF.2.1 hd ht (fun z => kt z E p l e R s mi args below meth c QQ H locs cells slots lr hF hL hH hc hs hE) (fun z => kf z E p l e R s mi args below meth c QQ H locs cells slots lr hF hL hH hc hs hE)
theorem aw_if_ge {x : Int32} {off : Int} {tgt : Nat} (hd : decode m.2.1 pc = .ok (.ifCond .ge off, 3)) (ht : (pc : Int) + off = (tgt : Int)) (kt : 0 ≤ x → AW m d mc ms tgt ls st h Q) (kf : ¬ 0 ≤ x → AW m d mc ms (pc + 3) ls st h Q) : AW m d mc ms pc ls (.int x :: st) h Q :=
  fun E p l e R s mi args below meth c QQ H locs cells slots lr hF hL hH hc hs hE => lv_if_ge hF.1 hF.2.1 hd ht (fun z => kt z E p l e R s mi args below meth c QQ H locs cells slots lr hF hL hH hc hs hE) (fun z => kf z E p l e R s mi args below meth c QQ H locs cells slots lr hF hL hH hc hs hE)
theorem aw_icmp_ge {x y : Int32} {off : Int} {tgt : Nat} (hd : decode m.2.1 pc = .ok (.if_icmp .ge off, 3)) (ht : (pc : Int) + off = (tgt : Int)) (kt : y ≤ x → AW m d mc ms tgt ls st h Q) (kf : ¬ y ≤ x → AW m d mc ms (pc + 3) ls st h Q) : AW m d mc ms pc ls (.int y :: .int x :: st) h Q :=
  fun E p l e R s mi args below meth c QQ H locs cells slots lr hF hL hH hc hs hE => lv_icmp_ge hF.1 hF.2.1 hd ht (fun z => kt z E p l e R s mi args below meth c QQ H locs cells slots lr hF hL hH hc hs hE) (fun z => kf z E p l e R s mi args below meth c QQ H locs cells slots lr hF hL hH hc hs hE)
theorem aw_if_gt {x : Int32} {off : Int} {tgt : Nat} (hd : decode m.2.1 pc = .ok (.ifCond .gt off, 3)) (ht : (pc : Int) + off = (tgt : Int)) (kt : 0 < x → AW m d mc ms tgt ls st h Q) (kf : ¬ 0 < x → AW m d mc ms (pc + 3) ls st h Q) : AW m d mc ms pc ls (.int x :: st) h Q :=
  fun E p l e R s mi args below meth c QQ H locs cells slots lr hF hL hH hc hs hE => lv_if_gt hF.1 hF.2.1 hd ht (fun z => kt z E p l e R s mi args below meth c QQ H locs cells slots lr hF hL hH hc hs hE) (fun z => kf z E p l e R s mi args below meth c QQ H locs cells slots lr hF hL hH hc hs hE)
theorem aw_icmp_gt {x y : Int32} {off : Int} {tgt : Nat} (hd : decode m.2.1 pc = .ok (.if_icmp .gt off, 3)) (ht : (pc : Int) + off = (tgt : Int)) (kt : y < x → AW m d mc ms tgt ls st h Q) (kf : ¬ y < x → AW m d mc ms (pc + 3) ls st h Q) : AW m d mc ms pc ls (.int y :: .int x :: st) h Q :=
  fun E p l e R s mi args below meth c QQ H locs cells slots lr hF hL hH hc hs hE => lv_icmp_gt hF.1 hF.2.1 hd ht (fun z => kt z E p l e R s mi args below meth c QQ H locs cells slots lr hF hL hH hc hs hE) (fun z => kf z E p l e R s mi args below meth c QQ H locs cells slots lr hF hL hH hc hs hE)
theorem aw_if_le {x : Int32} {off : Int} {tgt : Nat} (hd : decode m.2.1 pc = .ok (.ifCond .le off, 3)) (ht : (pc : Int) + off = (tgt : Int)) (kt : x ≤ 0 → AW m d mc ms tgt ls st h Q) (kf : ¬ x ≤ 0 → AW m d mc ms (pc + 3) ls st h Q) : AW m d mc ms pc ls (.int x :: st) h Q :=
  fun E p l e R s mi args below meth c QQ H locs cells slots lr hF hL hH hc hs hE => lv_if_le hF.1 hF.2.1 hd ht (fun z => kt z E p l e R s mi args below meth c QQ H locs cells slots lr hF hL hH hc hs hE) (fun z => kf z E p l e R s mi args below meth c QQ H locs cells slots lr hF hL hH hc hs hE)
theorem aw_icmp_le {x y : Int32} {off : Int} {tgt : Nat} (hd : decode m.2.1 pc = .ok (.if_icmp .le off, 3)) (ht : (pc : Int) + off = (tgt : Int)) (kt : x ≤ y → AW m d mc ms tgt ls st h Q) (kf : ¬ x ≤ y → AW m d mc ms (pc + 3) ls st h Q) : AW m d mc ms pc ls (.int y :: .int x :: st) h Q :=
  fun E p l e R s mi args below meth c QQ H locs cells slots lr hF hL hH hc hs hE => lv_icmp_le hF.1 hF.2.1 hd ht (fun z => kt z E p l e R s mi args below meth c QQ H locs cells slots lr hF hL hH hc hs hE) (fun z => kf z E p l e R s mi args below meth c QQ H locs cells slots lr hF hL hH hc hs hE)
theorem aw_lookup {dflt : Int} {ps : Array (Int × Int)} {len : Nat} {x : Int32} {off : Int} {tgt : Nat} (hd : decode m.2.1 pc = .ok (.lookupswitch dflt ps, len)) (hp : (ps.toList.zip (ps.toList.drop 1)).all (fun (a, next) => a.1 < next.1) = true) (ho : Op.lookupswitch.offset ps.toList dflt x.toInt = off) (ht : (pc : Int) + off = (tgt : Int)) (k : AW m d mc ms tgt ls st h Q) : AW m d mc ms pc ls (.int x :: st) h Q :=
  fun E p l e R s mi args below meth c QQ H locs cells slots lr hF hL hH hc hs hE => lv_lookup hF.1 hF.2.1 hd hp ho ht (k E p l e R s mi args below meth c QQ H locs cells slots lr hF hL hH hc hs hE)
theorem aw_tableOut {dflt lo hi : Int} {offs : Array Int} {len : Nat} {x : Int32} {tgt : Nat} (hd : decode m.2.1 pc = .ok (.tableswitch dflt lo hi offs, len)) (hx : x.toInt < lo ∨ hi < x.toInt) (ht : (pc : Int) + dflt = (tgt : Int)) (k : AW m d mc ms tgt ls st h Q) : AW m d mc ms pc ls (.int x :: st) h Q :=
  fun E p l e R s mi args below meth c QQ H locs cells slots lr hF hL hH hc hs hE => lv_tableOut hF.1 hF.2.1 hd hx ht (k E p l e R s mi args below meth c QQ H locs cells slots lr hF hL hH hc hs hE)
theorem aw_tableIn {dflt lo hi : Int} {offs : Array Int} {len : Nat} {x : Int32} {off : Int} {tgt : Nat} (hd : decode m.2.1 pc = .ok (.tableswitch dflt lo hi offs, len)) (h1 : ¬ x.toInt < lo) (h2 : ¬ hi < x.toInt) (ho : offs[(x.toInt - lo).toNat]? = some off) (ht : (pc : Int) + off = (tgt : Int)) (k : AW m d mc ms tgt ls st h Q) : AW m d mc ms pc ls (.int x :: st) h Q :=
  fun E p l e R s mi args below meth c QQ H locs cells slots lr hF hL hH hc hs hE => lv_tableIn hF.1 hF.2.1 hd h1 h2 ho ht (k E p l e R s mi args below meth c QQ H locs cells slots lr hF hL hH hc hs hE)
/-- the locals as the kit has them -/
def al (E : AE) (ls : List Value) : List (Nat × Value) := ls.zipIdx.filterMap (fun q => if q.1 = vU then none else some (q.2, rv E q.1))
theorem al_mem {E : AE} {ls : List Value} {i : Nat} {w : Value} : (i, w) ∈ al E ls ↔ ∃ v, ls[i]? = some v ∧ v ≠ vU ∧ w = rv E v := by
  unfold al
  rw [List.mem_filterMap]
  constructor
  · rintro ⟨⟨v, j⟩, h1, h2⟩
    have h3 := List.mem_zipIdx_iff_getElem?.mp h1
    by_cases hv : v = vU
    · simp [hv] at h2
    · simp [hv] at h2
      exact ⟨v, by rw [← h2.1]; exact h3, hv, h2.2.symm⟩
  · rintro ⟨v, h1, h2, h3⟩
    exact ⟨(v, i), List.mem_zipIdx_iff_getElem?.mpr h1, by simp [h2, h3]⟩
theorem LOK.has {E : AE} {n : Nat} {ls : List Value} {lr : Array Slot} (h : LOK E n ls lr) : lv_has lr n (al E ls) := by
  refine ⟨h.2.1, h.2.2.1, fun q hq => ?_⟩
  obtain ⟨v, h1, h2, h3⟩ := al_mem.mp (show (q.1, q.2) ∈ al E ls from hq)
  rw [h3]
  exact h.2.2.2 _ _ h1 h2
/-- no long stands just ahead -/
def okS (ls : List Value) : Nat → Bool
  | 0 => true
  | j + 1 => match ls[j]? with
    | some v => v.category == 1
    | none => true
theorem LOK.set1 {E : AE} {n i : Nat} {ls : List Value} {lr lr' : Array Slot} {v v' : Value} (h : LOK E n ls lr) (ho : okS ls i = true) (hv : v = rv E v' ∨ v' = vU) (h' : lv_has lr' n ((i, v) :: (al E ls).filter (fun q => !(q.1 == i) && !(q.1 + 1 == i && q.2.category == 2)))) : LOK E n (ls.set i v') lr' := by
  refine ⟨by rw [List.length_set]; exact h.1, h'.1, h'.2.1, fun j w hj hw => ?_⟩
  rw [List.getElem?_set] at hj
  by_cases hij : i = j
  · subst hij
    simp only [if_true] at hj
    split at hj
    · cases hj
      rcases hv with hv | hv
      · rw [← hv]
        exact h'.2.2 (i, v) List.mem_cons_self
      · exact absurd hv hw
    · cases hj
  · rw [if_neg hij] at hj
    refine h'.2.2 (j, rv E w) (List.mem_cons_of_mem _ (List.mem_filter.mpr ⟨al_mem.mpr ⟨w, hj, hw, rfl⟩, ?_⟩))
    have e1 : (j == i) = false := by simp [Ne.symm hij]
    by_cases hji : j + 1 = i
    · subst hji
      simp only [okS, hj] at ho
      have : w.category = 1 := by simpa using ho
      simp [rv_cat, this]
    · have : (j + 1 == i) = false := by simp [hji]
      simp [e1, this]
theorem LOK.set2 {E : AE} {n i : Nat} {ls : List Value} {lr lr' : Array Slot} {v : Value} (h : LOK E n ls lr) (ho : okS ls i = true) (h' : lv_has lr' n ((i, rv E v) :: (al E ls).filter (fun q => !(q.1 == i) && (!(q.1 == i + 1) && !(q.1 + 1 == i && q.2.category == 2))))) : LOK E n ((ls.set i v).set (i + 1) vU) lr' := by
  refine ⟨by rw [List.length_set, List.length_set]; exact h.1, h'.1, h'.2.1, fun j w hj hw => ?_⟩
  rw [List.getElem?_set] at hj
  by_cases hij1 : i + 1 = j
  · subst hij1
    simp only [if_true] at hj
    split at hj
    · cases hj
      exact absurd rfl hw
    · cases hj
  · rw [if_neg hij1, List.getElem?_set] at hj
    by_cases hij : i = j
    · subst hij
      simp only [if_true] at hj
      split at hj
      · cases hj
        exact h'.2.2 (i, rv E v) List.mem_cons_self
      · cases hj
    · rw [if_neg hij] at hj
      refine h'.2.2 (j, rv E w) (List.mem_cons_of_mem _ (List.mem_filter.mpr ⟨al_mem.mpr ⟨w, hj, hw, rfl⟩, ?_⟩))
      have e1 : (j == i) = false := by simp [Ne.symm hij]
      have e2 : (j == i + 1) = false := by simp [Ne.symm hij1]
      by_cases hji : j + 1 = i
      · subst hji
        simp only [okS, hj] at ho
        have : w.category = 1 := by simpa using ho
        simp [rv_cat, this]
        omega
      · have : (j + 1 == i) = false := by simp [hji]
        simp [e1, e2, this]
theorem aw_istore_n {i : Fin 4} {x : Int32} (hd : decode m.2.1 pc = .ok (.istore_n i, 1)) (hi : (i : Nat) < m.2.2.1) (ho : okS ls i = true) (k : AW m d mc ms (pc + 1) (ls.set i (.int x)) st h Q) : AW m d mc ms pc ls (.int x :: st) h Q :=
  fun E p l e R s mi args below meth c QQ H locs cells slots lr hF hL hH hc hs hE => lv_istore_n hF.1 hF.2.1 hd rfl hL.has hi rfl (fun lr' hL' => k E p l e R s mi args below meth c QQ H locs cells slots lr' hF (hL.set1 ho (Or.inl rfl) hL') hH hc hs hE)
theorem aw_istore {i : Nat} {x : Int32} (hd : decode m.2.1 pc = .ok (.istore i, 2)) (hi : i < m.2.2.1) (ho : okS ls i = true) (k : AW m d mc ms (pc + 2) (ls.set i (.int x)) st h Q) : AW m d mc ms pc ls (.int x :: st) h Q :=
  fun E p l e R s mi args below meth c QQ H locs cells slots lr hF hL hH hc hs hE => lv_istore hF.1 hF.2.1 hd hL.has hi rfl (fun lr' hL' => k E p l e R s mi args below meth c QQ H locs cells slots lr' hF (hL.set1 ho (Or.inl rfl) hL') hH hc hs hE)
theorem aw_astore_n {i : Fin 4} {x : Nat} (hd : decode m.2.1 pc = .ok (.astore_n i, 1)) (hi : (i : Nat) < m.2.2.1) (ho : okS ls i = true) (k : AW m d mc ms (pc + 1) (ls.set i (.ref x)) st h Q) : AW m d mc ms pc ls (.ref x :: st) h Q :=
  fun E p l e R s mi args below meth c QQ H locs cells slots lr hF hL hH hc hs hE => lv_astore_n hF.1 hF.2.1 hd rfl hL.has hi rfl (fun lr' hL' => k E p l e R s mi args below meth c QQ H locs cells slots lr' hF (hL.set1 ho (Or.inl rfl) hL') hH hc hs hE)
theorem aw_astore {i : Nat} {x : Nat} (hd : decode m.2.1 pc = .ok (.astore i, 2)) (hi : i < m.2.2.1) (ho : okS ls i = true) (k : AW m d mc ms (pc + 2) (ls.set i (.ref x)) st h Q) : AW m d mc ms pc ls (.ref x :: st) h Q :=
  fun E p l e R s mi args below meth c QQ H locs cells slots lr hF hL hH hc hs hE => lv_astore hF.1 hF.2.1 hd hL.has hi rfl (fun lr' hL' => k E p l e R s mi args below meth c QQ H locs cells slots lr' hF (hL.set1 ho (Or.inl rfl) hL') hH hc hs hE)
theorem aw_astore_nN {i : Fin 4} (hd : decode m.2.1 pc = .ok (.astore_n i, 1)) (hi : (i : Nat) < m.2.2.1) (ho : okS ls i = true) (k : AW m d mc ms (pc + 1) (ls.set i .null) st h Q) : AW m d mc ms pc ls (.null :: st) h Q :=
  fun E p l e R s mi args below meth c QQ H locs cells slots lr hF hL hH hc hs hE => lv_astore_nN hF.1 hF.2.1 hd rfl hL.has hi rfl (fun lr' hL' => k E p l e R s mi args below meth c QQ H locs cells slots lr' hF (hL.set1 ho (Or.inl rfl) hL') hH hc hs hE)
theorem aw_aload_nN {i : Fin 4} (hd : decode m.2.1 pc = .ok (.aload_n i, 1)) (hl : ls[(i : Nat)]? = some .null) (k : AW m d mc ms (pc + 1) ls (.null :: st) h Q) : AW m d mc ms pc ls (st) h Q :=
  fun E p l e R s mi args below meth c QQ H locs cells slots lr hF hL hH hc hs hE => lv_aload_nN hF.1 hF.2.1 hd rfl (hL.2.2.2 _ _ hl (fun z => by cases z)) (k E p l e R s mi args below meth c QQ H locs cells slots lr hF hL hH hc hs hE)
theorem aw_lstore_n {i : Fin 4} {x : Int64} (hd : decode m.2.1 pc = .ok (.lstore_n i, 1)) (hi : (i : Nat) + 1 < m.2.2.1) (ho : okS ls i = true) (k : AW m d mc ms (pc + 1) ((ls.set i (.long x)).set (i + 1) vU) st h Q) : AW m d mc ms pc ls (.long x :: st) h Q :=
  fun E p l e R s mi args below meth c QQ H locs cells slots lr hF hL hH hc hs hE => lv_lstore_n hF.1 hF.2.1 hd rfl hL.has hi rfl (fun lr' hL' => k E p l e R s mi args below meth c QQ H locs cells slots lr' hF (hL.set2 (v := .long x) ho hL') hH hc hs hE)
theorem aw_lstore {i : Nat} {x : Int64} (hd : decode m.2.1 pc = .ok (.lstore i, 2)) (hi : i + 1 < m.2.2.1) (ho : okS ls i = true) (k : AW m d mc ms (pc + 2) ((ls.set i (.long x)).set (i + 1) vU) st h Q) : AW m d mc ms pc ls (.long x :: st) h Q :=
  fun E p l e R s mi args below meth c QQ H locs cells slots lr hF hL hH hc hs hE => lv_lstore hF.1 hF.2.1 hd hL.has hi rfl (fun lr' hL' => k E p l e R s mi args below meth c QQ H locs cells slots lr' hF (hL.set2 (v := .long x) ho hL') hH hc hs hE)
theorem aw_iinc {i : Nat} {n : Int} {x : Int32} (hd : decode m.2.1 pc = .ok (.iinc i n, 3)) (hl : ls[i]? = some (.int x)) (hi : i < m.2.2.1) (ho : okS ls i = true) (k : AW m d mc ms (pc + 3) (ls.set i (.int (x + Int32.ofInt n))) st h Q) : AW m d mc ms pc ls st h Q := by
  intro E p l e R s mi args below meth c QQ H locs cells slots lr hF hL hH hc hs hE
  obtain ⟨q, hq⟩ := List.getElem?_of_mem (al_mem.mpr ⟨_, hl, (fun z => by cases z), rfl⟩ : (i, rv E (.int x)) ∈ al E ls)
  exact lv_iinc hF.1 hF.2.1 hd hL.has hq rfl hi rfl (fun lr' hL' => k E p l e R s mi args below meth c QQ H locs cells slots lr' hF (hL.set1 (v' := .int (x + Int32.ofInt n)) ho (Or.inl rfl) hL') hH hc hs hE)
theorem aw_ireturn {x : Int32} {ty : FieldType} (hd : decode m.2.1 pc = .ok (.ireturn, 1)) (hr : m.2.2.2.1 = some ty) (hn : narrow ty (.int x) = .int x) (hq : Q (.inl (some (.int x))) h) : AW m d mc ms pc ls [.int x] h Q :=
  fun E p l e R s mi args below meth c QQ H locs cells slots lr hF hL hH hc hs hE => hE.1 (some (.int x)) h H locs cells slots pc lr _ hq hH (by omega) (by omega) hd (Or.inr (Or.inl ⟨x, ty, hr, hn, rfl, rfl⟩))
theorem aw_lreturn {x : Int64} (hd : decode m.2.1 pc = .ok (.lreturn, 1)) (hr : m.2.2.2.1 = some .long) (hq : Q (.inl (some (.long x))) h) : AW m d mc ms pc ls [.long x] h Q :=
  fun E p l e R s mi args below meth c QQ H locs cells slots lr hF hL hH hc hs hE => hE.1 (some (.long x)) h H locs cells slots pc lr _ hq hH (by omega) (by omega) hd (Or.inr (Or.inr (Or.inl ⟨x, hr, rfl, rfl⟩)))
theorem aw_return (hd : decode m.2.1 pc = .ok (.return_, 1)) (hr : m.2.2.2.1 = none) (hq : Q (.inl none) h) : AW m d mc ms pc ls [] h Q :=
  fun E p l e R s mi args below meth c QQ H locs cells slots lr hF hL hH hc hs hE => hE.1 none h H locs cells slots pc lr _ hq hH (by omega) (by omega) hd (Or.inl ⟨hr, rfl, rfl⟩)
theorem aw_areturn {v : Value} {n : String} (hd : decode m.2.1 pc = .ok (.areturn, 1)) (hr : m.2.2.2.1 = some (.object n)) (hv : v = .null ∨ ∃ a, v = .ref a) (hq : Q (.inl (some v)) h) : AW m d mc ms pc ls [v] h Q :=
  fun E p l e R s mi args below meth c QQ H locs cells slots lr hF hL hH hc hs hE => hE.1 (some v) h H locs cells slots pc lr _ hq hH (by omega) (by omega) hd (Or.inr (Or.inr (Or.inr ⟨v, n, hr, rfl, hv, rfl⟩)))
theorem aw_ldc2 {i : Nat} {v : Int64} (hd : decode m.2.1 pc = .ok (.ldc2_w i, 3)) (hw : Cond.constantLong m.1.cls i v ∈ gtbl) (k : AW m d mc ms (pc + 3) ls (.long v :: st) h Q) : AW m d mc ms pc ls st h Q :=
  fun E p l e R s mi args below meth c QQ H locs cells slots lr hF hL hH hc hs hE => lv_ldc2 hF.1 hF.2.1 hF.2.2.2.2.1 (hF.2.2.2.2.2.1 _ hw) hd (k E p l e R s mi args below meth c QQ H locs cells slots lr hF hL hH hc hs hE)
end PURE
end
section
/-! fields and arrays -/
/-- the field j of the object a, of the kind k, is v -/
def fld (h : AH) (a k j : Nat) (v : Value) : Prop := ∃ fs, h[a]? = some (k, fs) ∧ fs[j]? = some v
/-- the place i of the array a, of the kind k, is v -/
def sel (h : AH) (a k : Nat) (i : Int32) (v : Value) : Prop := ∃ L, h[a]? = some (k, L) ∧ ¬ i < 0 ∧ L[i.toNatClampNeg]? = some v
def alen (h : AH) (a k n : Nat) : Prop := ∃ L, h[a]? = some (k, L) ∧ L.length = n
/-- a cell's slot gets a value -/
def stf (h : AH) (a j : Nat) (v : Value) : AH := match h[a]? with
  | some c => h.set a (c.1, c.2.set j v)
  | none => h
theorem stf_at {h : AH} {a j k : Nat} {v : Value} {fs : List Value} (hc : h[a]? = some (k, fs)) : stf h a j v = h.set a (k, fs.set j v) := by
  unfold stf
  rw [hc]
/-- a class: its words are among the good ones, its fields' types are read, their names differ -/
def KLS (q : vw_C) : Prop := (∀ w ∈ u_ws q.1 q.2.1 q.2.2, w ∈ gtbl) ∧ (∃ ty : Nat → FieldType, ∀ j, j < q.2.2 → parseFieldDescriptor (q.2.1 j).2.2.1 = some (ty j)) ∧ ∀ a, a < q.2.2 → ∀ b, b < q.2.2 → a ≠ b → (q.2.1 a).2.1 ≠ (q.2.1 b).2.1
/-- entry i of own's pool is the field j of the kind k -/
def FL (own : String) (i k j : Nat) (q : vw_C) : Prop := kls[k]? = some q ∧ k < 10 ∧ j < q.2.2 ∧ KLS q ∧
  (Cond.fieldLink own i (q.2.1 j).1 (q.2.1 j).2.1 (q.2.1 j).2.2.1 ∈ gtbl ∨ ∃ host, Cond.fieldLinkNest own i (q.2.1 j).1 (q.2.1 j).2.1 (q.2.1 j).2.2.1 host ∈ lw_tbl)
theorem cOK.kept {E : AE} {a : Nat} {c : AC} {H H1 : Heap} (h : cOK E a c H) (hq : c.1 < 14 → H1[ad E a]? = H[ad E a]?) : cOK E a c H1 :=
  ⟨fun hk => by
    obtain ⟨q, h1, h2, h3⟩ := h.1 hk
    exact ⟨q, h1, h2, h3.kept (hq (by omega))⟩, fun h1 h2 => (hq h2).trans (h.2.1 h1 h2), h.2.2⟩
theorem ad_ne {E : AE} {a b : Nat} (ha : a ≠ 0) (hb : b ≠ 0) (h : a ≠ b) : ad E a ≠ ad E b := by
  cases a with
  | zero => exact absurd rfl ha
  | succ a => cases b with
    | zero => exact absurd rfl hb
    | succ b => simp [ad]; omega
theorem ad_bs {E : AE} {a : Nat} (ha : a ≠ 0) : bs E ≤ ad E a := by
  cases a with
  | zero => exact absurd rfl ha
  | succ a => simp [ad, bs]
theorem Rel.ne0 {E : AE} {h : AH} {H : Heap} {a : Nat} {c : AC} (hR : Rel E h H) (hc : h[a]? = some c) (hk : c.1 < 14) : a ≠ 0 := fun z => by
  subst z
  have := hR.2.2.1 c hc
  omega
theorem Rel.set {E : AE} {h : AH} {H H1 : Heap} {a : Nat} {c c' : AC} (hR : Rel E h H) (hc : h[a]? = some c) (hk : c.1 < 14) (hz : H1.size = H.size) (ho : ∀ q, q ≠ ad E a → H1[q]? = H[q]?) (hn : cOK E a c' H1) : Rel E (h.set a c') H1 := by
  have ha := hR.ne0 hc hk
  refine ⟨by rw [List.length_set, hz]; exact hR.1, fun q hq => ?_, fun z hz0 => ?_, fun b z hb => ?_⟩
  · rw [ho q (by have := ad_bs (E := E) ha; omega)]
    exact hR.2.1 q hq
  · rw [List.getElem?_set_ne ha] at hz0
    exact hR.2.2.1 z hz0
  · rw [List.getElem?_set] at hb
    split at hb
    · split at hb
      · cases hb
        rename_i h1 _
        subst h1
        exact hn
      · cases hb
    · rename_i h1
      refine (hR.2.2.2 b z hb).kept (fun hzk => ho _ (ad_ne (hR.ne0 hb hzk) ha (Ne.symm h1)))
theorem Rel.lt {E : AE} {h : AH} {H : Heap} {a : Nat} {c : AC} (hR : Rel E h H) (hc : h[a]? = some c) (ha : a ≠ 0) : ad E a < H.size := by
  have h1 : a < h.length := (List.getElem?_eq_some_iff.mp hc).1
  have h2 := hR.1
  cases a with
  | zero => exact absurd rfl ha
  | succ a => simp only [ad]; unfold bs at h2; omega
section HEAP
variable {m : AM} {d mc ms pc : Nat} {ls st : List Value} {h : AH} {Q : AR → AH → Prop}
theorem vF_at {E : AE} {L : List Value} {j : Nat} {v : Value} (h : L[j]? = some v) : vF E L j = rv E v := by
  simp [vF, h]
theorem aw_get {i a k j : Nat} {v : Value} {q : vw_C} (hd : decode m.2.1 pc = .ok (.getfield i, 3)) (hf : FL m.1.cls i k j q) (hv : fld h a k j v) (kk : AW m d mc ms (pc + 3) ls (v :: st) h Q) : AW m d mc ms pc ls (.ref a :: st) h Q := by
  intro E p l e R s mi args below meth c QQ H locs cells slots lr hF hL hH hc hs hE
  have k9 := kk E p l e R s mi args below meth c QQ H locs cells slots lr hF hL hH hc hs hE
  obtain ⟨hk, hk10, hj, ⟨hin, -, -⟩, hlink⟩ := hf
  obtain ⟨fs, hcell, hfs⟩ := hv
  obtain ⟨q', e1, e2, cell, q1, q2, q3, q4⟩ := (hH.1.2.2.2 a _ hcell).1 hk10
  cases hk.symm.trans e1
  obtain ⟨a1, a2, a3, a4, a5, a6, a7, a8⟩ := hF
  have hKn := a7.1.1 k q hk
  obtain ⟨hS, hfc, kC, hkC, hkind⟩ := hKn
  obtain ⟨cf, kf, fi, f, hi, hsl⟩ := hS j hj
  have hst := (u_facts hfc hkC (u_lays a6 hin hj) hi).1
  have hslot : cell.slots[f.slot]? = some (rv E v) := by
    rw [hsl]
    exact (q4 j hj).trans (congrArg some (vF_at hfs))
  rcases hlink with hw | ⟨host, hw⟩
  · exact W.getf a1 a2 a5 (a6 _ hw) hi hst q1 (by rw [q3]; exact fun z => by cases z) hslot rfl rfl hd k9
  · exact va_Wgetf a1 a2 a5 (va_Nw.use rfl (a7.2.1 _ hw rfl)) hi hst q1 (by rw [q3]; exact fun z => by cases z) hslot rfl rfl hd k9
theorem aw_put {i a k j : Nat} {v v0 : Value} {q : vw_C} {ty : FieldType} (hd : decode m.2.1 pc = .ok (.putfield i, 3)) (hf : FL m.1.cls i k j q) (hfin : (q.2.1 j).2.2.2 = false ∨ ((q.2.1 j).1 = m.1.cls ∧ m.1.name = "<init>")) (hty : parseFieldDescriptor (q.2.1 j).2.2.1 = some ty) (hnr : ∀ E, narrow ty (rv E v) = rv E v) (hft : ∀ E, fits ty (rv E v) = true) (hv : fld h a k j v0) (kk : AW m d mc ms (pc + 3) ls st (stf h a j v) Q) : AW m d mc ms pc ls (v :: .ref a :: st) h Q := by
  intro E p l e R s mi args below meth c QQ H locs cells slots lr hF hL hH hc hs hE
  obtain ⟨hk, hk10, hj, ⟨hin, ⟨ty0, hty0⟩, hnm⟩, hlink⟩ := hf
  obtain ⟨fs, hcell, hfs⟩ := hv
  obtain ⟨q', e1, e2, cell, q1, q2, q3, q4⟩ := (hH.1.2.2.2 a _ hcell).1 hk10
  cases hk.symm.trans e1
  have hF0 := hF
  obtain ⟨a1, a2, a3, a4, a5, a6, a7, a8, a9, a10, a11, a12, a13, a14⟩ := hF
  have hap := va_apart (own := m.1.cls) a6 hin ty0 hty0 hnm a7.1 (ci := k) hk
  obtain ⟨hS, hfc, kC, hkC, hkind⟩ := a7.1.1 k q hk
  obtain ⟨cf, kf, fi, f, hi, hsl⟩ := hS j hj
  have hst := (u_facts hfc hkC (u_lays a6 hin hj) hi).1
  have h6 := u_fits hfc hkC hkind (u_lays a6 hin hj) hi hty (hnr E) (hft E)
  have hlay := a6 _ (hin _ (u_in_lay hj))
  have hfl : hasFlag f.accessFlags Acc.final = false ∨ (mi.cls = cf ∧ meth.name = "<init>") := by
    by_cases hfn : (q.2.1 j).2.2.2 = true
    · rcases hfin with z | ⟨z1, z2⟩
      · rw [hfn] at z; cases z
      · unfold u_lay at hlay
        rw [if_pos hfn] at hlay
        obtain ⟨_, _, c', _, _, _, -, -, hf', -, -, -, hown2, -⟩ := Cond.laysFinal_spec hlay
        have e1 : c' = cf := by have := hi.symm.trans hf'; simp at this; exact this.1.symm
        rw [z1] at hown2
        exact Or.inr ⟨by rw [← e1]; exact Option.some.inj (a5.symm.trans hown2), a13 z2⟩
    · unfold u_lay at hlay
      rw [if_neg hfn] at hlay
      exact Or.inl (u_store hfc hkC hkind hlay hi hty (hnr E) (hft E)).1
  have hlt : f.slot < cell.slots.size := by rw [hsl]; exact k2_hasslot (q4 j hj)
  have hltA : ad E a < H.size := (Array.getElem?_eq_some_iff.mp q1).1
  have hfl2 : j < fs.length := by rw [e2]; exact hj
  have hn0 := hH.1.ne0 hcell (show k < 14 by omega)
  have hsz : (H.setIfInBounds (ad E a) (cell.setSlot f.slot (rv E v))).size = H.size := by simp
  have hoth : ∀ x, x ≠ ad E a → (H.setIfInBounds (ad E a) (cell.setSlot f.slot (rv E v)))[x]? = H[x]? := fun x hx => by simp [Array.getElem?_setIfInBounds, Ne.symm hx]
  have hme : (H.setIfInBounds (ad E a) (cell.setSlot f.slot (rv E v)))[ad E a]? = some (cell.setSlot f.slot (rv E v)) := by simp [Array.getElem?_setIfInBounds, hltA]
  have hR : Rel E (stf h a j v) (H.setIfInBounds (ad E a) (cell.setSlot f.slot (rv E v))) := by
    rw [stf_at hcell]
    refine hH.1.set hcell (show k < 14 by omega) hsz hoth ⟨fun _ => ⟨q, hk, by rw [List.length_set]; exact e2, ?_⟩, fun z => absurd z (Nat.not_le.mpr hk10), fun z => absurd z (by show k ≠ 14; omega)⟩
    refine ⟨_, hme, q2, q3, fun x hx => ?_⟩
    have h9 := t_set (cell := cell) (N := q.2.2) (iS := (dG E).2 k) (V := vF E fs) q4 hap hj (rv E v) x hx
    rw [hsl, h9]
    congr 1
    by_cases hxj : x = j
    · subst hxj
      simp [updV, vF, hfl2]
    · simp [updV, vF, hxj, List.getElem?_set, Ne.symm hxj]
  have k9 := kk E p l e R s mi args below meth c QQ _ (locs ++ [⟨ad E a, f.slot⟩]) cells slots lr hF0 hL ⟨hR, by rw [hsz]; exact hH.2.1, fun z hz => by
    rcases List.mem_append.mp hz with z1 | z1
    · exact hH.2.2 z z1
    · rw [List.mem_singleton.mp z1]
      exact ad_bs hn0⟩ hc hs hE
  rcases hlink with hw | ⟨host, hw⟩
  · exact W.putf a1 a2 a5 (a6 _ hw) hi hst hfl q1 (by rw [q3]; exact fun z => by cases z) hlt h6.1 (by rw [q2, q3]; exact h6.2) rfl rfl hd k9
  · exact va_Wputf a1 a2 a5 (va_Nw.use rfl (a7.2.1 _ hw rfl)) hi hst hfl q1 (by rw [q3]; exact fun z => by cases z) hlt h6.1 (by rw [q2, q3]; exact h6.2) rfl rfl hd k9
end HEAP
end
section
/-! arrays, new cells -/
section ARR
variable {m : AM} {d mc ms pc : Nat} {ls st : List Value} {h : AH} {Q : AR → AH → Prop}
theorem vF_lt {E : AE} {L : List Value} {n : Nat} {v : Value} (cA : ClassId) (h : L[n]? = some v) : (arrV cA L.length (vF E L)).slots[n]? = some (rv E v) := by
  rw [arrV_read _ _ (List.getElem?_eq_some_iff.mp h).1, vF_at h]
theorem KS.arr {E : AE} {U : State} (hK : KS E U) {k : Nat} (h1 : 10 ≤ k) (h2 : k < 14) (n : Nat) (z : Nat → Value) : U.isArrayOf (arrV (dA E k) n z) (aty k) := by
  have h9 := hK.1.2
  rcases (show k = 10 ∨ k = 11 ∨ k = 12 ∨ k = 13 by omega) with rfl | rfl | rfl | rfl
  · exact (h9 0 _ rfl).1 n z
  · exact (h9 1 _ rfl).1 n z
  · exact (h9 2 _ rfl).1 n z
  · exact (h9 3 _ rfl).1 n z
theorem arr_in {E : AE} {L : List Value} {n : Nat} {i : Int32} {v : Value} (cA : ClassId) (h0 : ¬ i < 0) (h : L[i.toNatClampNeg]? = some v) : ¬ (i < 0 ∨ (arrV cA L.length (vF E L)).slots.size ≤ i.toNatClampNeg) := by
  rw [arrV_size]
  have := (List.getElem?_eq_some_iff.mp h).1
  rintro (z | z)
  · exact h0 z
  · omega
theorem aw_iaload {a : Nat} {i : Int32} {x : Int32} (hd : decode m.2.1 pc = .ok (.iaload, 1)) (hv : sel h a 10 i (.int x)) (kk : AW m d mc ms (pc + 1) ls (.int x :: st) h Q) : AW m d mc ms pc ls (.int i :: .ref a :: st) h Q := by
  intro E p l e R s mi args below meth c QQ H locs cells slots lr hF hL hH hc hs hE
  have k9 := kk E p l e R s mi args below meth c QQ H locs cells slots lr hF hL hH hc hs hE
  obtain ⟨L, hcell, h0, hL1⟩ := hv
  have h1 := (hH.1.2.2.2 a _ hcell).2.1 (by show 10 ≤ 10; omega) (by show 10 < 14; omega)
  exact W.iald (v := .int x) hF.1 hF.2.1 h1 (hF.2.2.2.2.2.2.1.arr (k := 10) (by omega) (by omega) _ _) (fun z => by cases z) (arr_in (n := 0) _ h0 hL1) (vF_lt _ hL1) rfl rfl hd k9
theorem aw_laload {a : Nat} {i : Int32} {x : Int64} (hd : decode m.2.1 pc = .ok (.laload, 1)) (hv : sel h a 11 i (.long x)) (kk : AW m d mc ms (pc + 1) ls (.long x :: st) h Q) : AW m d mc ms pc ls (.int i :: .ref a :: st) h Q := by
  intro E p l e R s mi args below meth c QQ H locs cells slots lr hF hL hH hc hs hE
  have k9 := kk E p l e R s mi args below meth c QQ H locs cells slots lr hF hL hH hc hs hE
  obtain ⟨L, hcell, h0, hL1⟩ := hv
  have h1 := (hH.1.2.2.2 a _ hcell).2.1 (by show 10 ≤ 11; omega) (by show 11 < 14; omega)
  exact W.lald (v := .long x) hF.1 hF.2.1 h1 (hF.2.2.2.2.2.2.1.arr (k := 11) (by omega) (by omega) _ _) (fun z => by cases z) (arr_in (n := 0) _ h0 hL1) (vF_lt _ hL1) rfl rfl hd k9
theorem aw_baload {a : Nat} {i : Int32} {x : Int32} (hd : decode m.2.1 pc = .ok (.baload, 1)) (hv : sel h a 12 i (.int x)) (kk : AW m d mc ms (pc + 1) ls (.int x :: st) h Q) : AW m d mc ms pc ls (.int i :: .ref a :: st) h Q := by
  intro E p l e R s mi args below meth c QQ H locs cells slots lr hF hL hH hc hs hE
  have k9 := kk E p l e R s mi args below meth c QQ H locs cells slots lr hF hL hH hc hs hE
  obtain ⟨L, hcell, h0, hL1⟩ := hv
  have h1 := (hH.1.2.2.2 a _ hcell).2.1 (by show 10 ≤ 12; omega) (by show 12 < 14; omega)
  exact W.zald (v := .int x) hF.1 hF.2.1 h1 (hF.2.2.2.2.2.2.1.arr (k := 12) (by omega) (by omega) _ _) (fun z => by cases z) (arr_in (n := 0) _ h0 hL1) (vF_lt _ hL1) rfl rfl hd k9
theorem aw_aaload {a b : Nat} {i : Int32} (hd : decode m.2.1 pc = .ok (.aaload, 1)) (hv : sel h a 13 i (.ref b)) (kk : AW m d mc ms (pc + 1) ls (.ref b :: st) h Q) : AW m d mc ms pc ls (.int i :: .ref a :: st) h Q := by
  intro E p l e R s mi args below meth c QQ H locs cells slots lr hF hL hH hc hs hE
  have k9 := kk E p l e R s mi args below meth c QQ H locs cells slots lr hF hL hH hc hs hE
  obtain ⟨L, hcell, h0, hL1⟩ := hv
  have h1 := (hH.1.2.2.2 a _ hcell).2.1 (by show 10 ≤ 13; omega) (by show 13 < 14; omega)
  exact W.aald (v := .ref (ad E b)) hF.1 hF.2.1 h1 (hF.2.2.2.2.2.2.1.arr (k := 13) (by omega) (by omega) _ _) rfl (fun z => by cases z) (arr_in (n := 0) _ h0 hL1) (vF_lt _ hL1) rfl rfl hd k9
/-- the script, that lies at the address 0 -/
theorem aw_sload {a : Nat} {i : Int32} {x : Int32} (hd : decode m.2.1 pc = .ok (.iaload, 1)) (hv : sel h a 14 i (.int x)) (kk : AW m d mc ms (pc + 1) ls (.int x :: st) h Q) : AW m d mc ms pc ls (.int i :: .ref a :: st) h Q := by
  intro E p l e R s mi args below meth c QQ H locs cells slots lr hF hL hH hc hs hE
  have k9 := kk E p l e R s mi args below meth c QQ H locs cells slots lr hF hL hH hc hs hE
  obtain ⟨L, hcell, h0, hL1⟩ := hv
  obtain ⟨rfl, h2⟩ := (hH.1.2.2.2 a _ hcell).2.2 rfl
  simp only at h2
  subst h2
  obtain ⟨-, -, -, -, -, -, -, ⟨scr, g1, g2, g3, g4, g5⟩, hb, -⟩ := hF.2.2.2.2.2.2.1
  rw [List.getElem?_map] at hL1
  have hlt : i.toNatClampNeg < E.2.2.1.length := by
    cases hq : E.2.2.1[i.toNatClampNeg]? with
    | none => rw [hq] at hL1; cases hL1
    | some w => exact (List.getElem?_eq_some_iff.mp hq).1
  have hx : E.2.2.1.getD i.toNatClampNeg 0 = x := by
    rw [List.getElem?_eq_getElem hlt] at hL1
    simp at hL1
    simp [hlt, hL1]
  refine W.iald (v := .int x) (cell := scr) hF.1 hF.2.1 (a := ad E 0) ((hH.1.2.1 _ hb).trans g1) g2 g3 ?_ ?_ rfl rfl hd k9
  · rw [g4]
    rintro (z | z)
    · exact h0 z
    · omega
  · exact (g5 _ hlt).trans (by show some (Value.int (E.2.2.1.getD i.toNatClampNeg 0)) = _; rw [hx])
theorem aw_slen {a n : Nat} (hd : decode m.2.1 pc = .ok (.arraylength, 1)) (hv : alen h a 14 n) (kk : AW m d mc ms (pc + 1) ls (.int (Int32.ofNat n) :: st) h Q) : AW m d mc ms pc ls (.ref a :: st) h Q := by
  intro E p l e R s mi args below meth c QQ H locs cells slots lr hF hL hH hc hs hE
  have k9 := kk E p l e R s mi args below meth c QQ H locs cells slots lr hF hL hH hc hs hE
  obtain ⟨L, hcell, hn⟩ := hv
  obtain ⟨rfl, h2⟩ := (hH.1.2.2.2 a _ hcell).2.2 rfl
  simp only at h2
  subst h2
  obtain ⟨-, -, -, -, -, -, -, ⟨scr, g1, g2, g3, g4, g5⟩, hb, -⟩ := hF.2.2.2.2.2.2.1
  rw [List.length_map] at hn
  exact W.alen (n := Int32.ofNat n) (cell := scr) hF.1 hF.2.1 (a := ad E 0) ((hH.1.2.1 _ hb).trans g1) g2 (by rw [g4, hn]) rfl rfl hd k9
theorem aw_alen {a k n : Nat} (hd : decode m.2.1 pc = .ok (.arraylength, 1)) (hk1 : 10 ≤ k) (hk2 : k < 14) (hv : alen h a k n) (kk : AW m d mc ms (pc + 1) ls (.int (Int32.ofNat n) :: st) h Q) : AW m d mc ms pc ls (.ref a :: st) h Q := by
  intro E p l e R s mi args below meth c QQ H locs cells slots lr hF hL hH hc hs hE
  have k9 := kk E p l e R s mi args below meth c QQ H locs cells slots lr hF hL hH hc hs hE
  obtain ⟨L, hcell, hn⟩ := hv
  have h1 := (hH.1.2.2.2 a _ hcell).2.1 hk1 hk2
  exact W.alen (n := Int32.ofNat n) hF.1 hF.2.1 h1 (hF.2.2.2.2.2.2.1.arr hk1 hk2 _ _) (by rw [arrV_size, ← hn]) rfl rfl hd k9
theorem arrV_congr (cA : ClassId) {n : Nat} {f g : Nat → Value} (hfg : ∀ j, j < n → f j = g j) : arrV cA n f = arrV cA n g := by
  unfold arrV
  congr 1
  apply Array.ext
  · simp
  · intro j h1 h2
    simp at h1
    simp [hfg j h1]
theorem vF_set {E : AE} {L : List Value} (cA : ClassId) {n : Nat} {v : Value} (hn : n < L.length) : (arrV cA L.length (vF E L)).setSlot n (rv E v) = arrV cA (L.set n v).length (vF E (L.set n v)) := by
  rw [arrV_store, List.length_set]
  refine arrV_congr cA fun j hj => ?_
  by_cases hjn : j = n
  · subst hjn
    simp [updV, vF, hn]
  · simp [updV, vF, hjn, List.getElem?_set, Ne.symm hjn]
theorem HOK.sta {E : AE} {s : State} {H H1 : Heap} {locs : List Loc} {a k n : Nat} {L : List Value} {v : Value} (hH : HOK E s h H locs) (hcell : h[a]? = some (k, L)) (hk1 : 10 ≤ k) (hk2 : k < 14) (hn : n < L.length) (e1 : H1[ad E a]? = some ((arrV (dA E k) L.length (vF E L)).setSlot n (rv E v))) (e2 : H1.size = H.size) (e3 : ∀ q, q ≠ ad E a → H1[q]? = H[q]?) : HOK E s (stf h a n v) H1 (locs ++ [⟨ad E a, n⟩]) := by
  have hn0 := hH.1.ne0 hcell hk2
  refine ⟨?_, by rw [e2]; exact hH.2.1, fun z hz => ?_⟩
  · rw [stf_at hcell]
    refine hH.1.set hcell hk2 e2 e3 ⟨fun z => absurd hk1 (Nat.not_le.mpr z), fun _ _ => ?_, fun z => absurd z (by show k ≠ 14; omega)⟩
    rw [e1, vF_set _ hn]
  · rcases List.mem_append.mp hz with z1 | z1
    · exact hH.2.2 z z1
    · rw [List.mem_singleton.mp z1]
      exact ad_bs hn0
theorem aw_iastore {a : Nat} {i x : Int32} {v0 : Value} (hd : decode m.2.1 pc = .ok (.iastore, 1)) (hv : sel h a 10 i v0) (kk : AW m d mc ms (pc + 1) ls st (stf h a i.toNatClampNeg (.int x)) Q) : AW m d mc ms pc ls (.int x :: .int i :: .ref a :: st) h Q := by
  intro E p l e R s mi args below meth c QQ H locs cells slots lr hF hL hH hc hs hE
  obtain ⟨L, hcell, h0, hL1⟩ := hv
  have h1 := (hH.1.2.2.2 a _ hcell).2.1 (by show 10 ≤ 10; omega) (by show 10 < 14; omega)
  exact W.iast hF.1 hF.2.1 h1 (hF.2.2.2.2.2.2.1.arr (k := 10) (by omega) (by omega) _ _) (fun z => by cases z) (arr_in (n := 0) _ h0 hL1) rfl rfl hd (fun H1 e1 e2 e3 =>
    kk E p l e R s mi args below meth c QQ H1 _ cells slots lr hF hL (hH.sta (v := .int x) hcell (by omega) (by omega) (List.getElem?_eq_some_iff.mp hL1).1 e1 e2 e3) hc hs hE)
theorem aw_lastore {a : Nat} {i : Int32} {x : Int64} {v0 : Value} (hd : decode m.2.1 pc = .ok (.lastore, 1)) (hv : sel h a 11 i v0) (kk : AW m d mc ms (pc + 1) ls st (stf h a i.toNatClampNeg (.long x)) Q) : AW m d mc ms pc ls (.long x :: .int i :: .ref a :: st) h Q := by
  intro E p l e R s mi args below meth c QQ H locs cells slots lr hF hL hH hc hs hE
  obtain ⟨L, hcell, h0, hL1⟩ := hv
  have h1 := (hH.1.2.2.2 a _ hcell).2.1 (by show 10 ≤ 11; omega) (by show 11 < 14; omega)
  exact W.last hF.1 hF.2.1 h1 (hF.2.2.2.2.2.2.1.arr (k := 11) (by omega) (by omega) _ _) (fun z => by cases z) (arr_in (n := 0) _ h0 hL1) rfl rfl hd (fun H1 e1 e2 e3 =>
    kk E p l e R s mi args below meth c QQ H1 _ cells slots lr hF hL (hH.sta (v := .long x) hcell (by omega) (by omega) (List.getElem?_eq_some_iff.mp hL1).1 e1 e2 e3) hc hs hE)
theorem aw_bastore {a : Nat} {i x : Int32} {v0 : Value} (hd : decode m.2.1 pc = .ok (.bastore, 1)) (hv : sel h a 12 i v0) (hx : narrow .boolean (.int x) = .int x) (kk : AW m d mc ms (pc + 1) ls st (stf h a i.toNatClampNeg (.int x)) Q) : AW m d mc ms pc ls (.int x :: .int i :: .ref a :: st) h Q := by
  intro E p l e R s mi args below meth c QQ H locs cells slots lr hF hL hH hc hs hE
  obtain ⟨L, hcell, h0, hL1⟩ := hv
  have h1 := (hH.1.2.2.2 a _ hcell).2.1 (by show 10 ≤ 12; omega) (by show 12 < 14; omega)
  exact W.zast hF.1 hF.2.1 h1 (hF.2.2.2.2.2.2.1.arr (k := 12) (by omega) (by omega) _ _) (fun z => by cases z) (arr_in (n := 0) _ h0 hL1) rfl rfl hd (fun H1 e1 e2 e3 =>
    kk E p l e R s mi args below meth c QQ H1 _ cells slots lr hF hL (hH.sta (v := .int x) hcell (by omega) (by omega) (List.getElem?_eq_some_iff.mp hL1).1 (by rw [hx] at e1; exact e1) e2 e3) hc hs hE)
/-- an object of the kind 0 into an array of such -/
theorem aw_aastore {a b : Nat} {i : Int32} {v0 : Value} {fs : List Value} (hd : decode m.2.1 pc = .ok (.aastore, 1)) (hv : sel h a 13 i v0) (hb : h[b]? = some (0, fs)) (kk : AW m d mc ms (pc + 1) ls st (stf h a i.toNatClampNeg (.ref b)) Q) : AW m d mc ms pc ls (.ref b :: .int i :: .ref a :: st) h Q := by
  intro E p l e R s mi args below meth c QQ H locs cells slots lr hF hL hH hc hs hE
  obtain ⟨L, hcell, h0, hL1⟩ := hv
  have h1 := (hH.1.2.2.2 a _ hcell).2.1 (by show 10 ≤ 13; omega) (by show 13 < 14; omega)
  obtain ⟨q, hq, -, cell, g1, g2, g3, -⟩ := (hH.1.2.2.2 b _ hb).1 (by show 0 < 10; omega)
  cases hq
  have hK := hF.2.2.2.2.2.2.1.1
  have hcls := (hK.1 0 _ rfl).2
  obtain ⟨kA, comp, k1, k2, k3, -⟩ := (hK.2 3 _ rfl).2
  have hcomp : comp = (dG E).1 0 := Option.some.inj (k3.symm.trans hcls.1)
  subst hcomp
  obtain ⟨kC, hkC, -⟩ := hcls.2
  have hlt := (List.getElem?_eq_some_iff.mp hL1).1
  exact W.aast hF.1 hF.2.1 h1 (fun q z => by cases z) (fun z => by cases z) k1 k2 rfl hkC ⟨h0, by rw [arrV_size]; exact hlt⟩ g1 (fun q z => by rw [g3] at z; cases z) (by rw [g2]; exact hkC) (by rw [g2]; exact va_assign hcls) rfl rfl hd (fun H1 e1 e2 e3 =>
    kk E p l e R s mi args below meth c QQ H1 _ cells slots lr hF hL (hH.sta (v := .ref b) hcell (by omega) (by omega) hlt e1 e2 e3) hc hs hE)
/-- a new cell behind the others -/
theorem HOK.push {E : AE} {s : State} {H H1 : Heap} {locs : List Loc} {c0 : AC} (hH : HOK E s h H locs) (e2 : H1.size = H.size + 1) (e3 : ∀ q, q < H.size → H1[q]? = H[q]?) (hne : h.length ≠ 0) (hn : cOK E h.length c0 H1) (hk : c0.1 ≠ 14) : HOK E s (h ++ [c0]) H1 locs ∧ ad E h.length = H.size := by
  have h1 := hH.1.1
  have had : ad E h.length = H.size := by
    cases hl : h.length with
    | zero => exact absurd hl hne
    | succ n => rw [hl] at h1; simp only [ad]; unfold bs at h1; omega
  have hbs : bs E ≤ H.size := by omega
  refine ⟨⟨⟨by rw [List.length_append, e2]; simp; omega, fun q hq => (e3 q (by omega)).trans (hH.1.2.1 q hq), fun c hc => ?_, fun b c hb => ?_⟩, by rw [e2]; have := hH.2.1; omega, hH.2.2⟩, had⟩
  · rw [List.getElem?_append_left (by omega)] at hc
    exact hH.1.2.2.1 c hc
  · by_cases hbl : b < h.length
    · rw [List.getElem?_append_left hbl] at hb
      refine (hH.1.2.2.2 b c hb).kept fun hk => e3 _ ?_
      exact hH.1.lt hb (hH.1.ne0 hb hk)
    · rw [List.getElem?_append_right (by omega)] at hb
      have hz := (List.getElem?_eq_some_iff.mp hb).1
      simp at hz
      have hbe : b = h.length := by omega
      subst hbe
      simp at hb
      subst hb
      exact hn
/-- the fields of a new object of the kind k -/
def fresh (k : Nat) (fs : List Value) : Prop := ∃ (q : vw_C) (ty : Nat → FieldType), kls[k]? = some q ∧ k < 10 ∧ fs.length = q.2.2 ∧ (∀ w ∈ u_ws q.1 q.2.1 q.2.2, w ∈ gtbl) ∧ (∀ j, j < q.2.2 → parseFieldDescriptor (q.2.1 j).2.2.1 = some (ty j)) ∧ (∀ E j, j < q.2.2 → defaultValue (ty j) = vF E fs j) ∧ Cond.instantiable q.1 q.2.2 ∈ gtbl ∧ Cond.initialized q.1 ∈ gtbl
theorem aw_new {i k n : Nat} {q : vw_C} {fs : List Value} (hd : decode m.2.1 pc = .ok (.new i, 3)) (hq : kls[k]? = some q) (hn : q.2.2 = n) (hf : fresh k fs) (hw : Cond.classLink m.1.cls i q.1 ∈ gtbl) (hne : h.length ≠ 0) (kk : AW m d mc ms (pc + 3) ls (.ref h.length :: st) (h ++ [(k, fs)]) Q) : AW m d (mc + 1) (ms + n) pc ls st h Q := by
  intro E p l e R s mi args below meth c QQ H locs cells slots lr hF hL hH hc hs hE
  obtain ⟨q', ty, e1, hk10, hlen, hin, hty, hdf, hins, hini⟩ := hf
  cases hq.symm.trans e1
  subst hn
  have hKn := hF.2.2.2.2.2.2.1.1.1 k q hq
  have a6 := hF.2.2.2.2.2.1
  refine W.newcK hF.1 hF.2.1 hF.2.2.2.2.1 (a6 _ hw) (a6 _ hins) (a6 _ hini) rfl hd (by omega) (by omega) hKn.2.1 rfl fun H1 kC hkC e1 z1 o1 => ?_
  have hb0 := u_born ty a6 hin hKn hkC e1 hty
  have had : ad E h.length = H.size := by
    have h1 := hH.1.1
    cases hl : h.length with
    | zero => exact absurd hl hne
    | succ n => rw [hl] at h1; simp only [ad]; unfold bs at h1; omega
  have hp := hH.push (c0 := (k, fs)) z1 o1 hne ⟨fun _ => ⟨q, hq, hlen, by rw [had]; exact hb0.to (fun j hj => hdf E j hj)⟩, fun z => absurd z (Nat.not_le.mpr hk10), fun z => absurd z (by show k ≠ 14; omega)⟩ (by show k ≠ 14; omega)
  have k9 := kk E p l e R s mi args below meth c QQ H1 locs (cells + 1) (slots + q.2.2) lr hF hL hp.1 (by omega) (by omega) hE
  have e9 : (Value.ref h.length :: st).map (rv E) = .ref H.size :: st.map (rv E) := by simp [rv, had]
  rw [e9] at k9
  exact k9
theorem aw_newarr {at9 : ArrayType} {k : Nat} {n : Int32} (hd : decode m.2.1 pc = .ok (.newarray at9, 2)) (hat : newarray.typeOf at9 = aty k) (hk1 : 10 ≤ k) (hk2 : k < 13) (hn : ¬ n < 0) (hw : Cond.arrayClass (aty k) ∈ gtbl) (hbt : n.toNatClampNeg * componentBytes (aty k) ≤ 536870912) (hne : h.length ≠ 0) (kk : AW m d mc ms (pc + 2) ls (.ref h.length :: st) (h ++ [(k, List.replicate n.toNatClampNeg (defaultValue (aty k)))]) Q) : AW m d (mc + 1) (ms + n.toNatClampNeg) pc ls (.int n :: st) h Q := by
  intro E p l e R s mi args below meth c QQ H locs cells slots lr hF hL hH hc hs hE
  have a6 := hF.2.2.2.2.2.1
  have hKt : va_RA s (dA E k) (aty k) := by
    have h9 := hF.2.2.2.2.2.2.1.1.2
    rcases (show k = 10 ∨ k = 11 ∨ k = 12 by omega) with rfl | rfl | rfl
    · exact (h9 0 _ rfl).2
    · exact (h9 1 _ rfl).2
    · exact (h9 2 _ rfl).2
  have hnm : s.vm.findClass ("[" ++ (aty k).toString) = some (dA E k) := by
    rcases (show k = 10 ∨ k = 11 ∨ k = 12 by omega) with rfl | rfl | rfl <;> exact hKt
  have had : ad E h.length = H.size := by
    have h1 := hH.1.1
    cases hl : h.length with
    | zero => exact absurd hl hne
    | succ n => rw [hl] at h1; simp only [ad]; unfold bs at h1; omega
  refine W.newa hF.1 hF.2.1 (by rw [hat]; exact a6 _ hw) rfl hd rfl hn (by rw [hat]; exact hbt) (by omega) (by omega) fun cA kA comp f1 f2 f3 => ?_
  rw [hat] at f1
  have hcA : cA = dA E k := Option.some.inj (f1.symm.trans hnm)
  subst hcA
  have hdv : rv E (defaultValue (aty k)) = defaultValue (aty k) := by
    rcases (show k = 10 ∨ k = 11 ∨ k = 12 by omega) with rfl | rfl | rfl <;> rfl
  have hcl : cOK E h.length (k, List.replicate n.toNatClampNeg (defaultValue (aty k))) (H.push { cls := dA E k, slots := Array.replicate n.toNatClampNeg (defaultValue (aty k)), vm := .none }) := by
    refine ⟨fun z => absurd hk1 (Nat.not_le.mpr z), fun _ _ => ?_, fun z => absurd z (by show k ≠ 14; omega)⟩
    rw [had, arrV_new]
    simp only [Array.getElem?_push_size, Option.some.injEq, List.length_replicate]
    refine arrV_congr _ fun j hj => ?_
    simp [vF, List.getElem?_replicate, hj, hdv]
  have hp := hH.push (H1 := H.push { cls := dA E k, slots := Array.replicate n.toNatClampNeg (defaultValue (aty k)), vm := .none }) (by simp) (fun q hq => by rw [Array.getElem?_push, if_neg (Nat.ne_of_lt hq)]) hne hcl (by show k ≠ 14; omega)
  have k9 := kk E p l e R s mi args below meth c QQ _ locs (cells + 1) (slots + n.toNatClampNeg) lr hF hL hp.1 (by omega) (by omega) hE
  have e9 : (Value.ref h.length :: st).map (rv E) = .ref H.size :: st.map (rv E) := by simp [rv, had]
  rw [e9] at k9
  rw [hat]
  exact k9
theorem aw_newrefs {i : Nat} {n : Int32} (hd : decode m.2.1 pc = .ok (.anewarray i, 3)) (hw : Cond.classLink m.1.cls i RX0 ∈ gtbl) (hn : ¬ n < 0) (hbt : n.toNatClampNeg * 4 ≤ 536870912) (hne : h.length ≠ 0) (kk : AW m d mc ms (pc + 3) ls (.ref h.length :: st) (h ++ [(13, List.replicate n.toNatClampNeg .null)]) Q) : AW m d (mc + 1) (ms + n.toNatClampNeg) pc ls (.int n :: st) h Q := by
  intro E p l e R s mi args below meth c QQ H locs cells slots lr hF hL hH hc hs hE
  have a6 := hF.2.2.2.2.2.1
  have hKS := hF.2.2.2.2.2.2.1
  obtain ⟨kA0, comp0, k1, k2, k3, hnm⟩ := (hKS.1.2 3 _ rfl).2
  have had : ad E h.length = H.size := by
    have h1 := hH.1.1
    cases hl : h.length with
    | zero => exact absurd hl hne
    | succ n => rw [hl] at h1; simp only [ad]; unfold bs at h1; omega
  refine W.anew hF.1 hF.2.1 hF.2.2.2.2.1 (a6 _ hw) (va_AO.use hKS.2.2.2.2.2.2.2.2.2) rfl hd rfl hn hbt (by omega) (by omega) fun cA kA comp f1 f2 f3 f4 => ?_
  have hcA : cA = dA E 13 := Option.some.inj (f1.symm.trans hnm)
  subst hcA
  have hcl : cOK E h.length (13, List.replicate n.toNatClampNeg .null) (H.push { cls := dA E 13, slots := Array.replicate n.toNatClampNeg .null, vm := .none }) := by
    refine ⟨fun z => absurd z (by show ¬ 13 < 10; omega), fun _ _ => ?_, fun z => absurd z (by show 13 ≠ 14; omega)⟩
    rw [had, arrV_new]
    simp only [Array.getElem?_push_size, Option.some.injEq, List.length_replicate]
    refine arrV_congr _ fun j hj => ?_
    simp [vF, List.getElem?_replicate, hj, rv]
  have hp := hH.push (H1 := H.push { cls := dA E 13, slots := Array.replicate n.toNatClampNeg .null, vm := .none }) (by simp) (fun q hq => by rw [Array.getElem?_push, if_neg (Nat.ne_of_lt hq)]) hne hcl (by show 13 ≠ 14; omega)
  have k9 := kk E p l e R s mi args below meth c QQ _ locs (cells + 1) (slots + n.toNatClampNeg) lr hF hL hp.1 (by omega) (by omega) hE
  have e9 : (Value.ref h.length :: st).map (rv E) = .ref H.size :: st.map (rv E) := by simp [rv, had]
  rw [e9] at k9
  exact k9
end ARR
end
section
/-! contracts and calls -/
def PcA (E : AE) (avs : List Value) (h : AH) : Array Value → State → Prop := fun v U => v = (avs.map (rv E)).toArray ∧ Rel E h U.heap ∧ KS E U
def QcA (E : AE) (Q : Option Value → AH → Prop) : Array Value → State → Outcome → State → Prop := fun _ st o t => ∃ (r : Option Value) (h : AH), o = .returned (r.map (rv E)) ∧ Q r h ∧ Rel E h t.heap ∧ st.heap.size ≤ t.heap.size
def junk (k : Nat) : AH := List.replicate k (15, [])
def XCA (E : AE) (Q : AR → AH → Prop) : String → State → State → Prop := fun cn st t => ∃ (x : Nat) (h : AH) (k : Nat), cn = exn x ∧ Q (.inr x) h ∧ Rel E (h ++ junk k) t.heap ∧ st.heap.size ≤ t.heap.size
def rmA (d mc ms : Nat) : Room := { frames := d, cells := mc, slots := ms, locals := 37 * d }
/-- what a method that throws nothing does -/
def Ct (m : AM) (d mc ms : Nat) (avs : List Value) (h : AH) (Q : Option Value → AH → Prop) : Prop :=
  ∀ (l : Launch) (E : AE), l.stackTraces = false → Met l m.1 (awsM m) (rmA d mc ms) (PcA E avs h) (QcA E Q) mc ms (fun q => bs E ≤ q)
/-- what a method that may throw does -/
def CtX (m : AM) (d mc ms : Nat) (avs : List Value) (h : AH) (Q : AR → AH → Prop) : Prop :=
  ∀ (l : Launch) (E : AE), l.stackTraces = false → vx_Met l m.1 (awsM m) (rmA d mc ms) (PcA E avs h) (QcA E (fun r => Q (.inl r))) (XCA E Q) mc ms (fun q => bs E ≤ q)
def nt (Q : Option Value → AH → Prop) : AR → AH → Prop := fun r h => ∃ v, r = .inl v ∧ Q v h
theorem nt.i {Q : Option Value → AH → Prop} {v : Option Value} {h : AH} (hq : Q v h) : nt Q (.inl v) h := ⟨v, rfl, hq⟩
def entL : List Value → List Value
  | [] => []
  | v :: t => if v.category = 2 then v :: vU :: entL t else v :: entL t
/-- the locals at a method's start -/
def ent (avs : List Value) (n : Nat) : List Value := entL avs ++ List.replicate (n - (entL avs).length) vU
theorem entL_len (E : AE) (avs : List Value) : (lg_sl (avs.map (rv E))).length = (entL avs).length := by
  induction avs with
  | nil => rfl
  | cons v t ih =>
    simp only [lg_sl, List.map_cons, List.flatMap_cons, List.length_append] at ih ⊢
    simp only [rv_cat, entL]
    split
    · simp [← ih]; omega
    · simp [← ih]; omega
theorem entL_mem (E : AE) (avs : List Value) : ∀ (k i : Nat) (v : Value), (entL avs)[i]? = some v → v ≠ vU → (k + i, rv E v) ∈ lv_args k (avs.map (rv E)) := by
  induction avs with
  | nil => intro k i v h; simp [entL] at h
  | cons w t ih =>
    intro k i v h hv
    simp only [entL] at h
    simp only [List.map_cons, lv_args, rv_cat]
    by_cases hc : w.category = 2
    · rw [if_pos hc] at h
      rw [if_pos hc]
      match i, h with
      | 0, h => simp at h; subst h; exact List.mem_cons_self
      | 1, h => simp at h; exact absurd h.symm hv
      | i + 2, h =>
        simp at h
        have := ih (k + 2) i v h hv
        rw [show k + (i + 2) = k + 2 + i by omega]
        exact List.mem_cons_of_mem _ this
    · rw [if_neg hc] at h
      rw [if_neg hc]
      match i, h with
      | 0, h => simp at h; subst h; exact List.mem_cons_self
      | i + 1, h =>
        simp at h
        have := ih (k + 1) i v h hv
        rw [show k + (i + 1) = k + 1 + i by omega]
        exact List.mem_cons_of_mem _ this
theorem ent_LOK {E : AE} {avs : List Value} {n : Nat} (hn : (entL avs).length ≤ n) : LOK E n (ent avs n) ((lg_sl (avs.map (rv E)) ++ List.replicate (n - (lg_sl (avs.map (rv E))).length) Slot.unset).toArray) := by
  have h := lv_entry (avs.map (rv E)) (n := n) (by rw [entL_len]; exact hn)
  refine ⟨by simp [ent]; omega, h.1, h.2.1, fun i v hi hv => ?_⟩
  unfold ent at hi
  by_cases hl : i < (entL avs).length
  · rw [List.getElem?_append_left hl] at hi
    have := entL_mem E avs 0 i v hi hv
    rw [Nat.zero_add] at this
    exact h.2.2 _ this
  · rw [List.getElem?_append_right (by omega), List.getElem?_replicate] at hi
    split at hi
    · cases hi; exact absurd rfl hv
    · cases hi
theorem Rel.bsz {E : AE} {h : AH} {H : Heap} (hR : Rel E h H) : bs E ≤ H.size ∧ h.length ≠ 0 := by
  have h1 := hR.1
  have h2 := hR.2.1
  have h3 : bs E ≤ H.size := by
    rcases Nat.lt_or_ge H.size (bs E) with q | q
    · have h4 := h2 H.size q
      rw [Array.getElem?_eq_none (Nat.le_refl _), Array.getElem?_eq_getElem (show H.size < E.2.1.size from q)] at h4
      cases h4
    · exact q
  exact ⟨h3, by omega⟩
/-- a method's own facts: its code and class among the good words -/
def MOK (m : AM) (n : Nat) : Prop := cwd m ∈ gtbl ∧ Cond.initialized m.1.cls ∈ gtbl ∧ (m.1.cls ≠ "java/lang/invoke/MethodHandle" ∧ m.1.cls ≠ "java/lang/invoke/VarHandle") ∧ plainName m.1.cls = true ∧ m.2.2.1 ≤ 18 ∧ (parseMethodDescriptor m.1.desc).map (fun d => d.parameters.length) = some n ∧ (m.2.2.2.2.2 = false → m.2.2.2.2.1 = [])
theorem cats_rv (E : AE) (st : List Value) : ((st.map (rv E)).map fun v => v.category).sum = (st.map fun v => v.category).sum := by
  rw [List.map_map]
  congr 1
  exact List.map_congr_left fun v _ => rv_cat E v
theorem PcA.blind {E : AE} {avs : List Value} {h : AH} : FrameBlind (PcA E avs h) := fun a U g mk q => ⟨q.1, q.2.1, KS.warm (s := U) (U := U.calling g mk a) (State.WarmedH.refl U) q.2.2⟩
theorem gtbl_good {m : AM} (h : cwd m ∈ gtbl) : GoodIn gtbl (awsM m) := fun w hw => by
  have hg : w ∈ gtbl := by
    rcases List.mem_cons.mp hw with e | e
    · rw [e]; exact h
    · exact e
  exact ⟨hg, good_of_word (List.mem_filter.mp hg).2⟩
section BODY
variable {m : AM} {d mc ms n : Nat} {avs : List Value} {h : AH}
theorem fr_of {Q : AR → AH → Prop} {l : Launch} {E : AE} (hst : l.stackTraces = false) (hm : MOK m n) {p : Program} {e : Env} {s : State} {mi : MethodId} {args : Array Value} {below : List Frame} {meth : Method} {c : Code} {s₁ : State} (B : BodyLoose p l m.1 (headSpec (awsM m) (rmA d mc ms)) m.2.1 m.2.2.1 m.2.2.2.1 e s mi args below meth c s₁) (hml : c.maxLocals = m.2.2.1) (hP : PcA E avs h args s) : Fr E m d p l (rmA d mc ms) s mi args meth c := by
  have hts := atoms_spec (ws := awsM m) B.pre
  have hcw := hts _ List.mem_cons_self
  have htab : c.exceptionTable.toList = tableOf m.2.2.2.2.1 := by
    obtain ⟨y, cb, mL, rt, hh, fl⟩ := m
    cases fl with
    | true =>
      obtain ⟨m9, meth9, c9, hn9, h1, h2, -, -, h6, -⟩ := Cond.codeWith_spec (show (Cond.codeWith y cb mL rt hh).before args s = true from hcw)
      cases Option.some.inj (hn9.symm.trans B.named)
      cases Option.some.inj (h1.symm.trans B.method)
      cases Option.some.inj (h2.symm.trans (Stand.of_body B).code)
      rw [← h6, table_eq]
    | false =>
      obtain ⟨meth9, c9, h1, h2, -, -, -, -, h7, -⟩ := Cond.code_spec B.named (show (Cond.code y cb mL rt).before args s = true from hcw)
      cases Option.some.inj (h1.symm.trans B.method)
      cases Option.some.inj (h2.symm.trans (Stand.of_body B).code)
      have e9 : hh = [] := hm.2.2.2.2.2.2 rfl
      subst e9
      rw [Array.isEmpty_iff.mp h7]
      rfl
  exact ⟨B.exec, B.bytes, hml, B.returns, findClass_of_methodNamed B.named, fun w hw => hts w (List.mem_cons_of_mem _ hw), hP.2.2, hP.2.1.2.1, hP.2.1.bsz.1, Nat.le_refl _, Nat.le_refl _, B.notSynchronized, fun z => (name_of_methodNamed B.named B.method).1.trans z, Or.inr htab, hst⟩
/-- the end of a body: what it answers -/
theorem end_ret {E : AE} {p : Program} {l : Launch} {e : Env} {R : Room} {s : State} {mi : MethodId} {args : Array Value} {below : List Frame} {meth : Method} {c : Code} {Q : Option Value → AH → Prop} (hF : Fr E m d p l R s mi args meth c) (r : Option Value) (h : AH) (H : Heap) (locs : List Loc) (cells slots pc : Nat) (lr : Array Slot) (i : Instr) (hq : Q r h) (hH : HOK E s h H locs) (hc : cells ≤ R.cells) (hs : slots ≤ R.slots) (hd : decode m.2.1 pc = .ok (i, 1)) (hr : retI m.2.2.2.1 r i) :
    W p l e R s mi args below meth c H locs cells slots (MQ below (QcA E Q) args s R.cells R.slots (fun q => bs E ≤ q)) (F0 mi pc lr (r.toList.map (rv E))) := by
  have hlk : meth.locks = false := hF.2.2.2.2.2.2.2.2.2.2.2.1
  have key : ∀ (t : State), t.heap = H → QcA E Q args s (.returned (r.map (rv E))) t := fun t ht => ⟨r, h, rfl, hq, by rw [ht]; exact hH.1, by rw [ht]; exact hH.2.1⟩
  rcases hr with ⟨e1, rfl, rfl⟩ | ⟨x, ty, e1, e2, rfl, rfl⟩ | ⟨x, e1, rfl, rfl⟩ | ⟨v, nm, e1, rfl, hv, rfl⟩
  · exact W.widen hc hs (W.vret hF.1 hF.2.1 (hF.2.2.2.1.trans e1) (fun t ht _ => key t ht) hH.2.2 hd hlk)
  · exact W.widen hc hs (W.zret hF.1 hF.2.1 (hF.2.2.2.1.trans e1) e2 (fun t ht _ => key t ht) hH.2.2 hd hlk)
  · exact W.widen hc hs (W.lret hF.1 hF.2.1 (hF.2.2.2.1.trans e1) (fun t ht _ => key t ht) hH.2.2 hd hlk)
  · refine W.widen hc hs (W.aret hF.1 hF.2.1 (hF.2.2.2.1.trans e1) (Or.inl ⟨_, rfl⟩) ?_ (fun t ht _ => key t ht) hH.2.2 hd hlk)
    rcases hv with rfl | ⟨a, rfl⟩
    · exact Or.inl rfl
    · exact Or.inr ⟨_, rfl⟩
theorem body_applies (hm : MOK m n) : ∀ (args : Array Value) (s : State) (mi : MethodId), (headSpec (awsM m) (rmA d mc ms)).pre.before args s = true → s.methodNamed? m.1 = some mi →
    ∃ (meth : Method) (c : Code), s.vm.method? mi = some meth ∧ meth.code = some c ∧ c.code = m.2.1 ∧ c.maxLocals = m.2.2.1 ∧ meth.sig.returnType = m.2.2.2.1 ∧ meth.locks = false := by
  intro args s mi h hn
  have hcw := atoms_spec (ws := awsM m) h _ List.mem_cons_self
  obtain ⟨y, cb, mL, rt, hh, fl⟩ := m
  cases fl with
  | true =>
    obtain ⟨m9, meth, c, hn9, h1, h2, h3, h4, -, h5, h6, -⟩ := Cond.codeWith_spec (show (Cond.codeWith y cb mL rt hh).before args s = true from hcw)
    cases hn.symm.trans hn9
    exact ⟨meth, c, h1, h2, h3, h4, h5, h6⟩
  | false =>
    obtain ⟨meth, c, h1, h2, h3, h4, h5, h6, -, -⟩ := Cond.code_spec hn (show (Cond.code y cb mL rt).before args s = true from hcw)
    exact ⟨meth, c, h1, h2, h3, h4, h5, h6⟩
theorem Ct.of {Q : Option Value → AH → Prop} (hm : MOK m n) {ls : List Value} (hl : ent avs m.2.2.1 = ls) (hn : (entL avs).length ≤ m.2.2.1) (k : AW m d mc ms 0 ls [] h (nt Q)) : Ct m d mc ms avs h Q := by
  intro l E hst
  subst hl
  refine MetFree.of_bodyS (code := m.2.1) (maxLocals := m.2.2.1) (ret := m.2.2.2.1) hm.2.2.2.1 (fun args s mi hp hnm => body_applies hm args s mi hp hnm) ?_
  intro p e s mi args below meth c s₁ B hml hP _
  have hF := fr_of (Q := nt Q) hst hm B hml hP
  have hh0 : s₁.heap = s.heap := by rw [B.state]; rfl
  obtain ⟨hav, hR, hKS⟩ := hP
  have hW := k E p l e (rmA d mc ms) s mi args below meth c (MQ below (QcA E Q) args s mc ms (fun q => bs E ≤ q)) s.heap [] 0 0 _ hF (ent_LOK hn) ⟨hR, Nat.le_refl _, fun z hz => nomatch hz⟩ (by show 0 + mc ≤ mc; omega) (by show 0 + ms ≤ ms; omega)
    ⟨fun r h' H' locs cells slots pc lr i hq hH hc hs hd hr => by
      obtain ⟨v, e1, e2⟩ := hq
      cases e1
      exact end_ret hF r h' H' locs cells slots pc lr i e2 hH hc hs hd hr, Or.inl (fun x h' hq => by obtain ⟨v, e1, -⟩ := hq; cases e1)⟩
  have hent : entryFrame mi args m.2.2.1 = F0 mi 0 ((lg_sl (avs.map (rv E)) ++ List.replicate (m.2.2.1 - (lg_sl (avs.map (rv E))).length) Slot.unset).toArray) [] := by rw [hav]; exact lg_entry_eq _ _ _
  obtain ⟨t, a1, o, b1, b2, b3⟩ := hW s₁ hh0 (Stand.of_body B)
  exact ⟨t, o, by rw [hent]; exact a1, b1, b2, ⟨b3.1, b3.2⟩⟩
theorem CtX.of {Q : AR → AH → Prop} (hm : MOK m n) {ls : List Value} (hl : ent avs m.2.2.1 = ls) (hn : (entL avs).length ≤ m.2.2.1) (k : AW m d mc ms 0 ls [] h Q) : CtX m d mc ms avs h Q := by
  intro l E hst
  subst hl
  refine MetFree.of_bodyS (code := m.2.1) (maxLocals := m.2.2.1) (ret := m.2.2.2.1) hm.2.2.2.1 (fun args s mi hp hnm => body_applies hm args s mi hp hnm) ?_
  intro p e s mi args below meth c s₁ B hml hP _
  have hF := fr_of (Q := Q) hst hm B hml hP
  have hh0 : s₁.heap = s.heap := by rw [B.state]; rfl
  obtain ⟨hav, hR, hKS⟩ := hP
  have hW := k E p l e (rmA d mc ms) s mi args below meth c (vx_MQ below (QcA E (fun r => Q (.inl r))) (XCA E Q) args s mc ms (fun q => bs E ≤ q)) s.heap [] 0 0 _ hF (ent_LOK hn) ⟨hR, Nat.le_refl _, fun z hz => nomatch hz⟩ (by show 0 + mc ≤ mc; omega) (by show 0 + ms ≤ ms; omega)
    ⟨fun r h' H' locs cells slots pc lr i hq hH hc hs hd hr => vx_ret (end_ret (Q := fun r => Q (.inl r)) hF r h' H' locs cells slots pc lr i hq hH hc hs hd hr), Or.inr ⟨_, _, rfl, fun x h' k t hq hR' hsz _ => ⟨x, h', k, rfl, hq, hR', hsz⟩⟩⟩
  have hent : entryFrame mi args m.2.2.1 = F0 mi 0 ((lg_sl (avs.map (rv E)) ++ List.replicate (m.2.2.1 - (lg_sl (avs.map (rv E))).length) Slot.unset).toArray) [] := by rw [hav]; exact lg_entry_eq _ _ _
  obtain ⟨t, a1, o, b1, b2, b3⟩ := hW s₁ hh0 (Stand.of_body B)
  exact ⟨t, o, by rw [hent]; exact a1, b1, b2, b3⟩
end BODY
/-- entry i of own's pool is the method y -/
def LK (own : String) (i : Nat) (y : MethodName) : Prop := Cond.methodLink own i y ∈ gtbl ∨ ∃ host, Cond.methodLinkNest own i y host ∈ lw_tbl
section CALLS
variable {m cal : AM} {d mc ms pc d' mc' ms' n : Nat} {ls st : List Value} {h : AH} {Q : AR → AH → Prop}
theorem run_of {E : AE} {p : Program} {l : Launch} {e : Env} {R : Room} {s : State} {mi : MethodId} {args : Array Value} {below : List Frame} {meth : Method} {c : Code} {H : Heap} {locs : List Loc} {cells slots : Nat} {lr : Array Slot} {QQ : State → Prop} {Q' : Option Value → AH → Prop} {a : Array Value} {st0 rest : List Value} (hH : HOK E s h H locs)
    (hr : va_Run p l e R s mi args below meth c H locs cells slots mc' ms' (F0 mi pc lr st0) rest (QcA E Q' a) (fun q => bs E ≤ q))
    (kk : ∀ (r : Option Value) (h' : AH) (H' : Heap) (locs' : List Loc), Q' r h' → HOK E s h' H' locs' → W p l e R s mi args below meth c H' locs' (cells + mc') (slots + ms') QQ (F0 mi (pc + 3) lr ((r.map (rv E)).toList ++ rest))) :
    W p l e R s mi args below meth c H locs cells slots QQ (F0 mi pc lr st0) := by
  intro T hT X
  obtain ⟨v, st₀, t, T', L, h0, X', hL, e1, e2, ⟨r, h', hv, hq, hR, hz⟩, stp⟩ := hr T hT X
  cases hv
  obtain ⟨t2, a1, b1⟩ := kk r h' T'.heap (locs ++ L) hq ⟨by rw [e1]; exact hR, by rw [h0] at hz; rw [e1]; exact Nat.le_trans hH.2.1 hz, fun z hz9 => by
    rcases List.mem_append.mp hz9 with g | g
    · exact hH.2.2 z g
    · exact hL z g⟩ T' rfl X'
  exact ⟨t2, stp t2 a1, b1⟩
theorem room_of {R : Room} (h1 : d' + 1 ≤ d) (h2 : d ≤ R.frames) (h3 : 37 * d ≤ R.locals) {k : Nat} (h4 : k ≤ 18) : (rmA d' mc' ms').frames + 1 ≤ R.frames ∧ 8 + (k + 11) + (rmA d' mc' ms').locals ≤ R.locals := by
  refine ⟨by show d' + 1 ≤ _; omega, by show 8 + (k + 11) + 37 * d' ≤ _; omega⟩
theorem par_of {desc : String} (h : (parseMethodDescriptor desc).map (fun d => d.parameters.length) = some n) : ∀ sig, parseMethodDescriptor desc = some sig → n = sig.parameters.length := fun sig hs => by
  rw [hs] at h
  exact (Option.some.inj h).symm
theorem pre_of {E : AE} {s : State} {avs : List Value} {H : Heap} {locs : List Loc} (hKS : KS E s) (hH : HOK E s h H locs) : ∀ U : State, U.heap = H → s.WarmedH U.vm → PcA E avs h (avs.map (rv E)).toArray U := fun U hU hW => ⟨rfl, by rw [hU]; exact hH.1, hKS.warm hW⟩
theorem cont_of {E : AE} {r : Option Value} {rest : List Value} : (r.map (rv E)).toList ++ rest.map (rv E) = (r.toList ++ rest).map (rv E) := by cases r <;> rfl
theorem aw_callV {i b k : Nat} {q : vw_C} {fs As rest : List Value} {Q' : Option Value → AH → Prop} (hd : decode m.2.1 pc = .ok (.invokevirtual i, 3)) (hl : LK m.1.cls i cal.1) (hm : MOK cal n) (hfl : cal.2.2.2.2.2 = false) (hin : Cond.instanceMethod cal.1 ∈ gtbl) (hse : Cond.selects cal.1.cls cal.1 cal.1 ∈ gtbl) (hC : Ct cal d' mc' ms' (.ref b :: As) h Q') (hdep : d' + 1 ≤ d) (hn : As.length = n) (hb : h[b]? = some (k, fs)) (hk : kls[k]? = some q) (hk10 : k < 10) (hq : q.1 = cal.1.cls) (hst : st = As.reverse ++ .ref b :: rest) (hrs : (rest.map fun v => v.category).sum ≤ 8)
    (kk : ∀ (r : Option Value) (h' : AH), Q' r h' → AW m d mc ms (pc + 3) ls (r.toList ++ rest) h' Q) : AW m d (mc' + mc) (ms' + ms) pc ls st h Q := by
  intro E p l e R s mi args below meth c QQ H locs cells slots lr hF hL hH hc hs hE
  subst hst
  have hF0 := hF
  obtain ⟨a1, a2, a3, a4, a5, a6, a7, a8, a9, a10, a11, a12, a13, a14, a15⟩ := hF
  have hM := hC l E a15
  have hcode : Cond.code cal.1 cal.2.1 cal.2.2.1 cal.2.2.2.1 ∈ gtbl := by
    have := hm.1
    unfold cwd at this
    rw [hfl] at this
    exact this
  have hws : awsM cal = Cond.code cal.1 cal.2.1 cal.2.2.1 cal.2.2.2.1 :: gtbl := by
    unfold awsM cwd
    rw [hfl]
  have hG := gtbl_good hm.1
  obtain ⟨hr1, hr2⟩ := room_of (mc' := mc') (ms' := ms') hdep a10 a11 hm.2.2.2.2.1
  have hrecv : ∃ cellB : Cell, H[ad E b]? = some cellB ∧ cellB.vm.isStatics = false ∧ s.vm.findClass cal.1.cls = some cellB.cls := by
    obtain ⟨q', g1, -, cell, g2, g3, g4, -⟩ := (hH.1.2.2.2 b _ hb).1 hk10
    cases hk.symm.trans g1
    exact ⟨cell, g2, by rw [g4]; rfl, by rw [← hq, g3]; exact (a7.1.1 k q hk).2.1⟩
  have e0 : (As.reverse ++ Value.ref b :: rest).map (rv E) = (As.map (rv E)).reverse ++ .ref (ad E b) :: rest.map (rv E) := by simp [rv]
  have hPre : ∀ U : State, U.heap = H → s.WarmedH U.vm → PcA E (.ref b :: As) h (Value.ref (ad E b) :: As.map (rv E)).toArray U := pre_of a7 hH
  have hcat : ((rest.map (rv E)).map fun v => v.category).sum ≤ 8 := by rw [cats_rv]; exact hrs
  rw [e0]
  have hfit : cells + mc' ≤ R.cells ∧ slots + ms' ≤ R.slots := ⟨by omega, by omega⟩
  refine run_of (mc' := mc') (ms' := ms') (rest := rest.map (rv E)) (Q' := Q') (a := (Value.ref (ad E b) :: As.map (rv E)).toArray) hH ?_ (fun r h' H' locs' hq' hH' => ?_)
  · rcases hl with hl | ⟨host, hl⟩
    · exact va_runV (C := cal.1.cls) ⟨a1, a2, a3, a5, a6⟩ hM ⟨⟨rfl, rfl, hr1, hr2, pay_in a6 hG, by rw [hws]; exact List.mem_cons_self, a6 _ hcode, a6 _ hm.2.1, hm.2.2.1, par_of hm.2.2.2.2.2.1, a6 _ hl⟩, a6 _ hin, a6 _ hse⟩ ⟨PcA.blind, hrecv, hPre⟩ rfl (by rw [List.length_map]; exact hn) hL.2.1 rfl (lv_room hcat) hd hfit
    · exact va_runVN (C := cal.1.cls) (host := host) ⟨a1, a2, a3, a5, a6⟩ hM ⟨⟨⟨rfl, rfl, hr1, hr2, pay_in a6 hG, by rw [hws]; exact List.mem_cons_self⟩, a6 _ hcode, a6 _ hm.2.1, hm.2.2.1, par_of hm.2.2.2.2.2.1, va_Nw.use rfl (a7.2.1 _ hl rfl)⟩, a6 _ hin, a6 _ hse⟩ ⟨PcA.blind, hrecv, hPre⟩ rfl (by rw [List.length_map]; exact hn) hL.2.1 rfl (lv_room hcat) hd hfit
  · rw [cont_of]
    exact kk r h' hq' E p l e R s mi args below meth c QQ H' locs' (cells + mc') (slots + ms') lr hF0 hL hH' (by omega) (by omega) hE
theorem aw_callS {i : Nat} {As rest : List Value} {Q' : Option Value → AH → Prop} (hd : decode m.2.1 pc = .ok (.invokestatic i, 3)) (hl : LK m.1.cls i cal.1) (hl2 : cal.2.2.2.2.2 = true → Cond.methodLink m.1.cls i cal.1 ∈ gtbl) (hm : MOK cal n) (hsta : Cond.static cal.1 ∈ gtbl) (hC : Ct cal d' mc' ms' As h Q') (hdep : d' + 1 ≤ d) (hn : As.length = n) (hst : st = As.reverse ++ rest) (hrs : (rest.map fun v => v.category).sum ≤ 8)
    (kk : ∀ (r : Option Value) (h' : AH), Q' r h' → AW m d mc ms (pc + 3) ls (r.toList ++ rest) h' Q) : AW m d (mc' + mc) (ms' + ms) pc ls st h Q := by
  intro E p l e R s mi args below meth c QQ H locs cells slots lr hF hL hH hc hs hE
  subst hst
  have hF0 := hF
  obtain ⟨a1, a2, a3, a4, a5, a6, a7, a8, a9, a10, a11, a12, a13, a14, a15⟩ := hF
  have hM := hC l E a15
  have hG := gtbl_good hm.1
  obtain ⟨hr1, hr2⟩ := room_of (mc' := mc') (ms' := ms') hdep a10 a11 hm.2.2.2.2.1
  have e0 : (As.reverse ++ rest).map (rv E) = (As.map (rv E)).reverse ++ rest.map (rv E) := by simp
  have hPre := pre_of (avs := As) a7 hH
  have hcat : ((rest.map (rv E)).map fun v => v.category).sum ≤ 8 := by rw [cats_rv]; exact hrs
  rw [e0]
  have hfit : cells + mc' ≤ R.cells ∧ slots + ms' ≤ R.slots := ⟨by omega, by omega⟩
  refine run_of (mc' := mc') (ms' := ms') (rest := rest.map (rv E)) (Q' := Q') (a := (As.map (rv E)).toArray) hH ?_ (fun r h' H' locs' hq' hH' => ?_)
  · cases hfl : cal.2.2.2.2.2 with
    | true =>
      have hcode : Cond.codeWith cal.1 cal.2.1 cal.2.2.1 cal.2.2.2.1 cal.2.2.2.2.1 ∈ gtbl := by
        have := hm.1
        unfold cwd at this
        rw [hfl] at this
        exact this
      have hws : awsM cal = Cond.codeWith cal.1 cal.2.1 cal.2.2.1 cal.2.2.2.1 cal.2.2.2.2.1 :: gtbl := by
        unfold awsM cwd
        rw [hfl]
      exact vx_runSW (hh := cal.2.2.2.2.1) ⟨a1, a2, a3, a5, a6⟩ hM ⟨⟨rfl, rfl, hr1, hr2, pay_in a6 hG, by rw [hws]; exact List.mem_cons_self⟩, a6 _ hcode, a6 _ hm.2.1, hm.2.2.1, par_of hm.2.2.2.2.2.1, a6 _ (hl2 hfl), a6 _ hsta⟩ ⟨PcA.blind, hPre⟩ rfl (by rw [List.length_map]; exact hn) hL.2.1 rfl (lv_room hcat) hd hfit
    | false =>
      have hcode : Cond.code cal.1 cal.2.1 cal.2.2.1 cal.2.2.2.1 ∈ gtbl := by
        have := hm.1
        unfold cwd at this
        rw [hfl] at this
        exact this
      have hws : awsM cal = Cond.code cal.1 cal.2.1 cal.2.2.1 cal.2.2.2.1 :: gtbl := by
        unfold awsM cwd
        rw [hfl]
      rcases hl with hl | ⟨host, hl⟩
      · exact va_runS ⟨a1, a2, a3, a5, a6⟩ hM ⟨⟨rfl, rfl, hr1, hr2, pay_in a6 hG, by rw [hws]; exact List.mem_cons_self, a6 _ hcode, a6 _ hm.2.1, hm.2.2.1, par_of hm.2.2.2.2.2.1, a6 _ hl⟩, a6 _ hsta⟩ ⟨PcA.blind, hPre⟩ rfl (by rw [List.length_map]; exact hn) hL.2.1 rfl (lv_room hcat) hd hfit
      · exact va_runSN (host := host) ⟨a1, a2, a3, a5, a6⟩ hM ⟨⟨⟨rfl, rfl, hr1, hr2, pay_in a6 hG, by rw [hws]; exact List.mem_cons_self⟩, a6 _ hcode, a6 _ hm.2.1, hm.2.2.1, par_of hm.2.2.2.2.2.1, va_Nw.use rfl (a7.2.1 _ hl rfl)⟩, a6 _ hsta, trivial⟩ ⟨PcA.blind, hPre⟩ rfl (by rw [List.length_map]; exact hn) hL.2.1 rfl (lv_room hcat) hd hfit
  · rw [cont_of]
    exact kk r h' hq' E p l e R s mi args below meth c QQ H' locs' (cells + mc') (slots + ms') lr hF0 hL hH' (by omega) (by omega) hE
theorem aw_callI {i b : Nat} {As rest : List Value} {Q' : Option Value → AH → Prop} (hd : decode m.2.1 pc = .ok (.invokespecial i, 3)) (hl : LK m.1.cls i cal.1) (hm : MOK cal n) (hfl : cal.2.2.2.2.2 = false) (hret : cal.2.2.2.1 = none) (hnm : cal.1.name = "<init>") (hin : Cond.instanceMethod cal.1 ∈ gtbl) (hC : Ct cal d' mc' ms' (.ref b :: As) h Q') (hdep : d' + 1 ≤ d) (hn : As.length = n) (hst : st = As.reverse ++ .ref b :: rest) (hrs : (rest.map fun v => v.category).sum ≤ 8)
    (kk : ∀ (r : Option Value) (h' : AH), Q' r h' → AW m d mc ms (pc + 3) ls (r.toList ++ rest) h' Q) : AW m d (mc' + mc) (ms' + ms) pc ls st h Q := by
  intro E p l e R s mi args below meth c QQ H locs cells slots lr hF hL hH hc hs hE
  subst hst
  have hF0 := hF
  obtain ⟨a1, a2, a3, a4, a5, a6, a7, a8, a9, a10, a11, a12, a13, a14, a15⟩ := hF
  have hM := hC l E a15
  have hcode : Cond.code cal.1 cal.2.1 cal.2.2.1 none ∈ gtbl := by
    have := hm.1
    unfold cwd at this
    rw [hfl, hret] at this
    exact this
  have hws : awsM cal = Cond.code cal.1 cal.2.1 cal.2.2.1 none :: gtbl := by
    unfold awsM cwd
    rw [hfl, hret]
  have hG := gtbl_good hm.1
  obtain ⟨hr1, hr2⟩ := room_of (mc' := mc') (ms' := ms') hdep a10 a11 hm.2.2.2.2.1
  have e0 : (As.reverse ++ Value.ref b :: rest).map (rv E) = (As.map (rv E)).reverse ++ .ref (ad E b) :: rest.map (rv E) := by simp [rv]
  have hPre : ∀ U : State, U.heap = H → s.WarmedH U.vm → PcA E (.ref b :: As) h (Value.ref (ad E b) :: As.map (rv E)).toArray U := pre_of a7 hH
  have hcat : ((rest.map (rv E)).map fun v => v.category).sum ≤ 8 := by rw [cats_rv]; exact hrs
  rw [e0]
  have hfit : cells + mc' ≤ R.cells ∧ slots + ms' ≤ R.slots := ⟨by omega, by omega⟩
  refine run_of (mc' := mc') (ms' := ms') (rest := rest.map (rv E)) (Q' := Q') (a := (Value.ref (ad E b) :: As.map (rv E)).toArray) hH ?_ (fun r h' H' locs' hq' hH' => ?_)
  · rcases hl with hl | ⟨host, hl⟩
    · exact va_runI ⟨a1, a2, a3, a5, a6⟩ hM ⟨⟨rfl, rfl, hr1, hr2, pay_in a6 hG, by rw [hws]; exact List.mem_cons_self, a6 _ hcode, a6 _ hm.2.1, hm.2.2.1, par_of hm.2.2.2.2.2.1, a6 _ hl⟩, hnm, a6 _ hin⟩ ⟨PcA.blind, hPre⟩ rfl (by rw [List.length_map]; exact hn) hL.2.1 rfl (lv_room hcat) hd hfit
    · exact va_runIN (host := host) ⟨a1, a2, a3, a5, a6⟩ hM ⟨⟨⟨rfl, rfl, hr1, hr2, pay_in a6 hG, by rw [hws]; exact List.mem_cons_self⟩, a6 _ hcode, a6 _ hm.2.1, hm.2.2.1, par_of hm.2.2.2.2.2.1, va_Nw.use rfl (a7.2.1 _ hl rfl)⟩, hnm, a6 _ hin⟩ ⟨PcA.blind, hPre⟩ rfl (by rw [List.length_map]; exact hn) hL.2.1 rfl (lv_room hcat) hd hfit
  · rw [cont_of]
    exact kk r h' hq' E p l e R s mi args below meth c QQ H' locs' (cells + mc') (slots + ms') lr hF0 hL hH' (by omega) (by omega) hE
/-- Object.<init> -/
theorem aw_objInit {i a : Nat} (hd : decode m.2.1 pc = .ok (.invokespecial i, 3)) (hl : Cond.methodLink m.1.cls i Lib.objectInit ∈ gtbl) (hin : Cond.instanceMethod Lib.objectInit ∈ gtbl) (hco : Cond.code Lib.objectInit ⟨#[0xb1]⟩ 1 none ∈ gtbl) (hdep : 1 ≤ d) (hrs : (st.map fun v => v.category).sum ≤ 8) (kk : AW m d mc ms (pc + 3) ls st h Q) : AW m d mc ms pc ls (.ref a :: st) h Q := by
  intro E p l e R s mi args below meth c QQ H locs cells slots lr hF hL hH hc hs hE
  have k9 := kk E p l e R s mi args below meth c QQ H locs cells slots lr hF hL hH hc hs hE
  obtain ⟨a1, a2, a3, a4, a5, a6, a7, a8, a9, a10, a11, a12⟩ := hF
  exact W.objInit a1 a2 a5 (a6 _ hl) (a6 _ hin) (a6 _ hco) rfl (by rw [a3]; exact hL.2.1) rfl hd (by omega) (by show 2 * 0 + _ + 12 ≤ _; rw [cats_rv]; omega) k9
end CALLS
end
section
/-! throws, catches, the library's own methods -/
abbrev nms : List String := ["java/lang/RuntimeException", "java/lang/Exception"]
/-- 'throw new (the x-th exception)(a text)' by these entries of own's pool -/
def TH (own : String) (i is ic x : Nat) : Prop := Cond.classLink own i (exn x) ∈ gtbl ∧ Cond.initialized (exn x) ∈ gtbl ∧ (∃ text, Cond.stringRef own is text ∈ lw_tbl) ∧ (∀ w ∈ (vx_atS own ic (exn x) nms).filter goodWord, w ∈ gtbl) ∧ (∀ w ∈ (vx_atS own ic (exn x) nms).filter (fun w => !goodWord w), w = Cond.castable (exn x) (exn x)) ∧ x < 3
theorem Rel.junk {E : AE} {h : AH} {H H1 : Heap} (hR : Rel E h H) (h1 : H.size ≤ H1.size) (h2 : ∀ q, q < H.size → H1[q]? = H[q]?) : Rel E (h ++ List.replicate (H1.size - H.size) (15, [])) H1 := by
  obtain ⟨hb, hl⟩ := hR.bsz
  refine ⟨by have := hR.1; simp; omega, fun q hq => (h2 q (by omega)).trans (hR.2.1 q hq), fun c hc => ?_, fun a c hc => ?_⟩
  · rw [List.getElem?_append_left (by omega)] at hc
    exact hR.2.2.1 c hc
  · by_cases ha : a < h.length
    · rw [List.getElem?_append_left ha] at hc
      exact (hR.2.2.2 a c hc).kept fun hk => h2 _ (hR.lt hc (hR.ne0 hc hk))
    · rw [List.getElem?_append_right (by omega), List.getElem?_replicate] at hc
      split at hc
      · cases hc
        exact ⟨fun z => absurd z (by show ¬ 15 < 10; omega), fun _ z => absurd z (by show ¬ 15 < 14; omega), fun z => absurd z (by show ¬ 15 = 14; omega)⟩
      · cases hc
section THROWS
variable {m cal : AM} {d mc ms pc d' mc' ms' n : Nat} {ls st : List Value} {h : AH} {Q : AR → AH → Prop}
theorem aw_throw {i is ic x : Nat} (d0 : decode m.2.1 pc = .ok (.new i, 3)) (d3 : decode m.2.1 (pc + 3) = .ok (.dup, 1)) (d4 : decode m.2.1 (pc + 4) = .ok (.ldc is, 2)) (d6 : decode m.2.1 (pc + 6) = .ok (.invokespecial ic, 3)) (d9 : decode m.2.1 (pc + 9) = .ok (.athrow, 1)) (hT : TH m.1.cls i is ic x) (hh : m.2.2.2.2.1 = []) (hnl : m.1.name ≠ "law") (hdep : 6 ≤ d) (hq : Q (.inr x) h) (hrs : (st.map fun v => v.category).sum ≤ 8) : AW m d (mc + 1) (ms + 6) pc ls st h Q := by
  intro E p l e R s mi args below meth c QQ H locs cells slots lr hF hL hH hc hs hE
  obtain ⟨a1, a2, a3, a4, a5, a6, a7, a8, a9, a10, a11, a12, a13, a14, a15⟩ := hF
  obtain ⟨t1, t2, ⟨text, t3⟩, t4, t5, t6⟩ := hT
  rcases hE.2 with z | ⟨Qc, XC, rfl, hX⟩
  · exact absurd hq (z x h)
  have htab : c.exceptionTable.toList = [] := by
    rcases a14 with z | z
    · exact absurd z hnl
    · rw [z, hh]; rfl
  obtain ⟨b1, b2, b3, b4, b5, b6, b7, b8, b9, b10⟩ := a7
  obtain ⟨sa, hsa⟩ := b3 _ _ _ t3
  have hatb : ∀ w ∈ vx_atS m.1.cls ic (exn x) nms, w.before args s = true := by
    intro w hw
    by_cases g : goodWord w = true
    · exact a6 _ (t4 w (List.mem_filter.mpr ⟨hw, g⟩))
    · rw [t5 w (List.mem_filter.mpr ⟨hw, by simpa using g⟩)]
      exact va_Nw.use rfl (b6 x t6)
  have hgood : ∀ w ∈ Cond.classLink m.1.cls i (exn x) :: Cond.initialized (exn x) :: vx_atS m.1.cls ic (exn x) nms, vx_ot w = true := by
    intro w hw
    have good : ∀ w, w ∈ gtbl → vx_ot w = true := fun w hw => by
      unfold vx_ot
      rw [(List.mem_filter.mp hw).2]
      simp
    rcases List.mem_cons.mp hw with rfl | hw
    · exact good _ t1
    · rcases List.mem_cons.mp hw with rfl | hw
      · exact good _ t2
      · by_cases g : goodWord w = true
        · exact good _ (t4 w (List.mem_filter.mpr ⟨hw, g⟩))
        · rw [t5 w (List.mem_filter.mpr ⟨hw, by simpa using g⟩)]
          rfl
  have hfit : Bundle.fit (exn x) = true := by
    rcases (show x = 0 ∨ x = 1 ∨ x = 2 by omega) with rfl | rfl | rfl <;> decide +kernel
  have hnms : ∀ n ∈ nms, Bundle.fit n = true := by decide +kernel
  have hkept : ∀ a : Nat, a < E.2.1.size → ¬ (fun q => bs E ≤ q) a → s.heap[a]? = E.2.1[a]? := fun a ha _ => a8 a ha
  refine vx_throwS (A := fun q => bs E ≤ q) (sa := sa) a1 a2 a15 a5 hfit hnms (a6 _ t1) (a6 _ t2) hsa hatb hgood (b4.kept hkept) (b5.kept hkept)
    ⟨hH.2.1, fun q hq hA => ?_, hH.2.2⟩ (by rw [a3]; exact hL.2.1) d0 d3 d4 d6 d9 (fun y hy => by rw [htab] at hy; cases hy) (by show 2 + 3 < _; omega) (by rw [cats_rv]; show _ + (13 * (2 + 1) + 43) ≤ _; omega) (by omega) (by omega) a12
    (fun t hal hsz hold => hX x h _ t hq (hH.1.junk hsz hold) (Nat.le_trans hH.2.1 hsz) hal) hH.2.2 (by omega) (by omega)
  have hb : q < bs E := Nat.not_le.mp hA
  exact (hH.1.2.1 q hb).trans (a8 q hb).symm
/-- which handler of the method takes the x-th exception thrown at pc -/
def CH (m : AM) (pc x hp : Nat) : Prop := ∃ (pre : List ExceptionTableEntry) (z : ExceptionTableEntry) (suf : List ExceptionTableEntry), tableOf m.2.2.2.2.1 = pre ++ z :: suf ∧ z.handlerPc = hp ∧ covers z pc = true ∧ z.catchType ≠ 0 ∧ x < 3 ∧ Cond.classLink m.1.cls z.catchType (exn x) ∈ gtbl ∧ ∀ y ∈ pre, y.catchType ≠ 0 ∧ ∃ x', x' < 3 ∧ x ≠ x' ∧ Cond.classLink m.1.cls y.catchType (exn x') ∈ gtbl
/-- a call that may throw, where the method has a handler for what it throws, whose first instruction lays the exception away -/
theorem aw_callVX {i b k : Nat} {q : vw_C} {fs As rest : List Value} {Q' : AR → AH → Prop} (hd : decode m.2.1 pc = .ok (.invokevirtual i, 3)) (hl : Cond.methodLink m.1.cls i cal.1 ∈ gtbl) (hnl : m.1.name ≠ "law") (hm : MOK cal n) (hfl : cal.2.2.2.2.2 = false) (hin : Cond.instanceMethod cal.1 ∈ gtbl) (hse : Cond.selects cal.1.cls cal.1 cal.1 ∈ gtbl) (hC : CtX cal d' mc' ms' (.ref b :: As) h Q') (hdep : d' + 1 ≤ d) (hn : As.length = n) (hb : h[b]? = some (k, fs)) (hk : kls[k]? = some q) (hk10 : k < 10) (hq : q.1 = cal.1.cls) (hst : st = As.reverse ++ .ref b :: rest) (hrs : (rest.map fun v => v.category).sum ≤ 8)
    (kx : ∀ (x : Nat) (h' : AH) (k : Nat), Q' (.inr x) h' → ∃ (hp : Nat) (j : Fin 4), CH m pc x hp ∧ decode m.2.1 hp = .ok (.astore_n j, 1) ∧ (j : Nat) < m.2.2.1 ∧ okS ls j = true ∧ AW m d mc ms (hp + 1) (ls.set j vU) [] (h' ++ junk k) Q)
    (kk : ∀ (r : Option Value) (h' : AH), Q' (.inl r) h' → AW m d mc ms (pc + 3) ls (r.toList ++ rest) h' Q) : AW m d (mc' + mc) (ms' + ms) pc ls st h Q := by
  intro E p l e R s mi args below meth c QQ H locs cells slots lr hF hL hH hc hs hE
  subst hst
  have hF0 := hF
  obtain ⟨a1, a2, a3, a4, a5, a6, a7, a8, a9, a10, a11, a12, a13, a14, a15⟩ := hF
  have hM := hC l E a15
  have hcode : Cond.code cal.1 cal.2.1 cal.2.2.1 cal.2.2.2.1 ∈ gtbl := by
    have := hm.1
    unfold cwd at this
    rw [hfl] at this
    exact this
  have hws : awsM cal = Cond.code cal.1 cal.2.1 cal.2.2.1 cal.2.2.2.1 :: gtbl := by
    unfold awsM cwd
    rw [hfl]
  have hG := gtbl_good hm.1
  obtain ⟨hr1, hr2⟩ := room_of (mc' := mc') (ms' := ms') hdep a10 a11 hm.2.2.2.2.1
  have hrecv : ∃ cellB : Cell, H[ad E b]? = some cellB ∧ cellB.vm.isStatics = false ∧ s.vm.findClass cal.1.cls = some cellB.cls := by
    obtain ⟨q', g1, -, cell, g2, g3, g4, -⟩ := (hH.1.2.2.2 b _ hb).1 hk10
    cases hk.symm.trans g1
    exact ⟨cell, g2, by rw [g4]; rfl, by rw [← hq, g3]; exact (a7.1.1 k q hk).2.1⟩
  have e0 : (As.reverse ++ Value.ref b :: rest).map (rv E) = (As.map (rv E)).reverse ++ .ref (ad E b) :: rest.map (rv E) := by simp [rv]
  have hPre : ∀ U : State, U.heap = H → s.WarmedH U.vm → PcA E (.ref b :: As) h (Value.ref (ad E b) :: As.map (rv E)).toArray U := pre_of a7 hH
  have hcat : ((rest.map (rv E)).map fun v => v.category).sum ≤ 8 := by rw [cats_rv]; exact hrs
  rw [e0]
  have hfit : cells + mc' ≤ R.cells ∧ slots + ms' ≤ R.slots := ⟨by omega, by omega⟩
  have hrun := vx_runV (C := cal.1.cls) ⟨a1, a2, a3, a5, a6⟩ hM ⟨⟨rfl, rfl, hr1, hr2, pay_in a6 hG, by rw [hws]; exact List.mem_cons_self, a6 _ hcode, a6 _ hm.2.1, hm.2.2.1, par_of hm.2.2.2.2.2.1, a6 _ hl⟩, a6 _ hin, a6 _ hse⟩ ⟨PcA.blind, hrecv, hPre⟩ (locs := locs) (cells := cells) (slots := slots) (p := p) (e := e) (below := below) (meth := meth) (g := F0 mi pc lr ((As.map (rv E)).reverse ++ .ref (ad E b) :: rest.map (rv E))) rfl (by rw [List.length_map]; exact hn) hL.2.1 rfl (lv_room hcat) hd hfit
  intro T hT X
  rcases hrun T hT X with ⟨v, st₀, t, T', L, h0, X', hLf, e1, e2, ⟨r, h', hv, hq', hR, hz⟩, stp⟩ | ⟨q9, st₀, t, T', L, En, ce, h0, X', hLf, e1, e2, ⟨x, h', kj, rfl, hq', hR, hz⟩, hce, hcv, hcl, stp⟩
  · cases hv
    have k9 := kk r h' hq' E p l e R s mi args below meth c QQ T'.heap (locs ++ L) (cells + mc') (slots + ms') lr hF0 hL ⟨by rw [e1]; exact hR, by rw [h0] at hz; rw [e1]; exact Nat.le_trans hH.2.1 hz, fun z hz9 => by
      rcases List.mem_append.mp hz9 with g | g
      · exact hH.2.2 z g
      · exact hLf z g⟩ (by omega) (by omega) hE
    rw [← cont_of] at k9
    obtain ⟨t2, g1, g2⟩ := k9 T' rfl X'
    exact ⟨t2, stp t2 g1, g2⟩
  · obtain ⟨hp, j, ⟨pre, z, suf, c1, c2, c3, c4, c5, c6, c7⟩, hdj, hj, ho, hk9⟩ := kx x h' kj hq'
    have htab : c.exceptionTable.toList = pre ++ z :: suf := by
      rcases a14 with z | z
      · exact absurd z hnl
      · rw [z]; exact c1
    have hH9 : HOK E s (h' ++ junk kj) T'.heap (locs ++ L) := ⟨by rw [e1]; exact hR, by rw [h0] at hz; rw [e1]; exact Nat.le_trans hH.2.1 hz, fun z hz9 => by
      rcases List.mem_append.mp hz9 with g | g
      · exact hH.2.2 z g
      · exact hLf z g⟩
    have hcat9 := vx_catch (own := m.1.cls) (name := exn x) (E := exn x) (ce := ce) (q := q9) (pc := pc) (ls := lr) (rest := rest.map (rv E)) (H := T'.heap) (locs := locs ++ L) (cells := cells + mc') (slots := slots + ms') (Q := QQ) (p := p) (l := l) (e := e) (R := R) (s := s) (m := mi) (args := args) (below := below) (meth := meth) (c := c) a5 pre z suf htab
      (fun y hy => Or.inr (by
        obtain ⟨y1, x', y2, y3, y4⟩ := c7 y hy
        exact ⟨y1, exn x', a6 _ y4, a7.2.2.2.2.2.2.1 x x' c5 y2 y3⟩)) c3 c4 (a6 _ c6) (va_Nw.use rfl (a7.2.2.2.2.2.1 x c5)) (by rw [e1]; exact hce) hcv hcl
      (by
        rw [c2]
        exact lv_astore_n a1 a2 hdj rfl hL.has hj rfl (fun lr' hL' => hk9 E p l e R s mi args below meth c QQ T'.heap (locs ++ L) (cells + mc') (slots + ms') lr' hF0 (hL.set1 ho (Or.inr rfl) hL') hH9 (by omega) (by omega) hE))
    obtain ⟨t2, g1, g2⟩ := hcat9 T' rfl X'
    exact ⟨t2, stp.trans g1, g2⟩
/-- the words of Math.max and min, of System.arraycopy -/
def MX (own : String) (i : Nat) : Prop := Cond.methodLink own i Lib.Math.max.name ∈ gtbl ∧ Cond.static Lib.Math.max.name ∈ gtbl ∧ Cond.initialized "java/lang/Math" ∈ gtbl ∧ Cond.code Lib.Math.max.name Lib.Math.max.code 2 (some .int) ∈ gtbl
def MN (own : String) (i : Nat) : Prop := Cond.methodLink own i Lib.Math.min.name ∈ gtbl ∧ Cond.static Lib.Math.min.name ∈ gtbl ∧ Cond.initialized "java/lang/Math" ∈ gtbl ∧ Cond.code Lib.Math.min.name Lib.Math.min.code 2 (some .int) ∈ gtbl
def AC9 (own : String) (i : Nat) : Prop := Cond.methodLink own i arraycopyName ∈ gtbl ∧ Cond.native arraycopyName ∈ gtbl ∧ Cond.static arraycopyName ∈ gtbl ∧ Cond.initialized "java/lang/System" ∈ gtbl
theorem aw_max {i : Nat} {x y : Int32} (hd : decode m.2.1 pc = .ok (.invokestatic i, 3)) (hw : MX m.1.cls i) (hdep : 1 ≤ d) (hrs : (st.map fun v => v.category).sum ≤ 8) (kk : AW m d mc ms (pc + 3) ls (.int (if x < y then y else x) :: st) h Q) : AW m d mc ms pc ls (.int y :: .int x :: st) h Q := by
  intro E p l e R s mi args below meth c QQ H locs cells slots lr hF hL hH hc hs hE
  have k9 := kk E p l e R s mi args below meth c QQ H locs cells slots lr hF hL hH hc hs hE
  obtain ⟨a1, a2, a3, a4, a5, a6, a7, a8, a9, a10, a11, a12⟩ := hF
  exact va_mmax a1 a2 (by rw [a3]; exact hL.2.1.symm) a5 (a6 _ hw.1) (a6 _ hw.2.1) (a6 _ hw.2.2.1) (a6 _ hw.2.2.2) (by omega) (by rw [cats_rv]; omega) (by omega) (by omega) hd k9
theorem aw_min {i : Nat} {x y : Int32} (hd : decode m.2.1 pc = .ok (.invokestatic i, 3)) (hw : MN m.1.cls i) (hdep : 1 ≤ d) (hrs : (st.map fun v => v.category).sum ≤ 8) (kk : AW m d mc ms (pc + 3) ls (.int (if y < x then y else x) :: st) h Q) : AW m d mc ms pc ls (.int y :: .int x :: st) h Q := by
  intro E p l e R s mi args below meth c QQ H locs cells slots lr hF hL hH hc hs hE
  have k9 := kk E p l e R s mi args below meth c QQ H locs cells slots lr hF hL hH hc hs hE
  obtain ⟨a1, a2, a3, a4, a5, a6, a7, a8, a9, a10, a11, a12⟩ := hF
  exact va_mmin a1 a2 (by rw [a3]; exact hL.2.1.symm) a5 (a6 _ hw.1) (a6 _ hw.2.1) (a6 _ hw.2.2.1) (a6 _ hw.2.2.2) (by omega) (by rw [cats_rv]; omega) (by omega) (by omega) hd k9
/-- the first n places of an int array over those of another -/
theorem aw_copy {i a b : Nat} {x : Int32} {L M : List Int32} (hd : decode m.2.1 pc = .ok (.invokestatic i, 3)) (hw : AC9 m.1.cls i) (hdep : 2 ≤ d) (ha : h[a]? = some (10, L.map Value.int)) (hb : h[b]? = some (10, M.map Value.int)) (hx : ¬ x < 0) (h4 : x.toNatClampNeg ≤ L.length) (h5 : x.toNatClampNeg ≤ M.length) (hrs : (st.map fun v => v.category).sum ≤ 8) (kk : AW m d mc ms (pc + 3) ls st (h.set b (10, (L.take x.toNatClampNeg ++ M.drop x.toNatClampNeg).map Value.int)) Q) : AW m d mc ms pc ls (.int x :: .int 0 :: .ref b :: .int 0 :: .ref a :: st) h Q := by
  intro E p l e R s mi args below meth c QQ H locs cells slots lr hF hL hH hc hs hE
  have hF0 := hF
  obtain ⟨a1, a2, a3, a4, a5, a6, a7, a8, a9, a10, a11, a12⟩ := hF
  have conv : ∀ (L : List Int32), arrV (dA E 10) (L.map Value.int).length (vF E (L.map Value.int)) = arrV (dA E 10) L.length (fun j => Value.int (L.getD j 0)) := by
    intro L
    rw [List.length_map]
    refine arrV_congr _ fun j hj => ?_
    simp [vF, hj, rv]
  have hc0 : H[ad E a]? = some (arrV (dA E 10) L.length (fun j => Value.int (L.getD j 0))) := by
    have := (hH.1.2.2.2 a _ ha).2.1 (by show 10 ≤ 10; omega) (by show 10 < 14; omega)
    rw [this, ← conv]
  have hc1 : H[ad E b]? = some (arrV (dA E 10) M.length (fun j => Value.int (M.getD j 0))) := by
    have := (hH.1.2.2.2 b _ hb).2.1 (by show 10 ≤ 10; omega) (by show 10 < 14; omega)
    rw [this, ← conv]
  obtain ⟨-, k0, hk0, cm0, hkk0⟩ := a7.arr (k := 10) (by omega) (by omega) L.length (fun j => Value.int (L.getD j 0))
  have nn : ∀ z : Int32, ¬ z < 0 → z.toInt = (z.toNatClampNeg : Int) := by
    intro z hz
    have hz0 : (0 : Int) ≤ z.toInt := by
      have := Int32.not_lt.mp hz
      simpa using Int32.le_iff_toInt_le.mp this
    show z.toInt = ((z.toInt.toNat : Nat) : Int)
    omega
  intro T hT X
  obtain ⟨vm', X', step⟩ := X.arraycopy a1 a5 (a6 _ hw.1) (a6 _ hw.2.1) (a6 _ hw.2.2.1) (a6 _ hw.2.2.2) (src := ad E a) (dst := ad E b) (cs := arrV (dA E 10) L.length (fun j => Value.int (L.getD j 0))) (cd := arrV (dA E 10) M.length (fun j => Value.int (M.getD j 0))) (srcPos := 0) (destPos := 0) (n := x) (by rw [hT]; exact hc0) (by rw [hT]; exact hc1)
    (fun _ h => by cases h) (fun _ h => by cases h) (fun h => by cases h) (fun h => by cases h) hk0 hk0 hkk0 hkk0 (by rfl) (by decide) (by decide) hx
    (by rw [nn x hx, arrV_size]; show ¬ (0 : Int) + _ > _; omega)
    (by rw [nn x hx, arrV_size]; show ¬ (0 : Int) + _ > _; omega)
    (fun vm₁ _ i hi => by
      have e : (arrV (dA E 10) L.length (fun j => Value.int (L.getD j 0))).slots.getD ((0 : Int32).toNatClampNeg + i) .null = .int (L.getD i 0) := by
        rw [Array.getD_eq_getD_getElem?, show (0 : Int32).toNatClampNeg + i = i by show 0 + i = i; omega, arrV_read _ _ (by omega)]
        rfl
      refine ⟨?_, ?_⟩
      · rw [e]; rfl
      · rw [e]; exact trivial)
    (g := F0 mi pc lr (.int x :: .int 0 :: .ref (ad E b) :: .int 0 :: .ref (ad E a) :: st.map (rv E))) rfl (by rw [a3]; exact hL.2.1) (rest := st.map (rv E)) rfl (by rw [a2]; exact hd) (by omega) (by show 2 * 0 + _ + _ ≤ _; rw [cats_rv]; have e9 : nativeFrameWords "java/lang/System" "arraycopy" 5 + 11 ≤ 66 := Nat.le_of_ble_eq_true rfl; omega)
  have e1 : copied (arrV (dA E 10) L.length (fun j => Value.int (L.getD j 0))) (arrV (dA E 10) M.length (fun j => Value.int (M.getD j 0))) 0 0 x = arrV (dA E 10) M.length (fun j => Value.int (va_cpy (fun j => L.getD j 0) (fun j => M.getD j 0) 0 0 x.toNatClampNeg j)) := va_copied (sp := 0) (dp := 0) (fun z => .int z) _ _ _ _ (by omega)
  rw [e1] at X' step
  have hl : ad E b < H.size := (Array.getElem?_eq_some_iff.mp hc1).1
  have hn0 := hH.1.ne0 hb (show 10 < 14 by omega)
  have e2 : arrV (dA E 10) M.length (fun j => Value.int (va_cpy (fun j => L.getD j 0) (fun j => M.getD j 0) 0 0 x.toNatClampNeg j)) = arrV (dA E 10) ((L.take x.toNatClampNeg ++ M.drop x.toNatClampNeg).map Value.int).length (vF E ((L.take x.toNatClampNeg ++ M.drop x.toNatClampNeg).map Value.int)) := by
    rw [conv]
    have hlen : (L.take x.toNatClampNeg ++ M.drop x.toNatClampNeg).length = M.length := by simp; omega
    rw [hlen]
    refine arrV_congr _ fun j hj => ?_
    congr 1
    by_cases hjx : j < x.toNatClampNeg
    · rw [pk_cpy_in (by omega) (by omega)]
      simp [List.getElem?_append, List.getElem?_take, hjx]
      rw [if_pos (by omega)]
    · rw [pk_cpy_out (by omega)]
      simp [List.getElem?_append, List.length_take, hjx]
      rw [if_neg (by omega)]
      congr 2
      omega
  rw [e2] at X' step
  generalize hcell : arrV (dA E 10) ((L.take x.toNatClampNeg ++ M.drop x.toNatClampNeg).map Value.int).length (vF E ((L.take x.toNatClampNeg ++ M.drop x.toNatClampNeg).map Value.int)) = cN at X' step
  have hheap : ((T.setVm vm').setCell (ad E b) cN).heap = H.setIfInBounds (ad E b) cN := by rw [← hT]; rfl
  have oq : ∀ q : Nat, q ≠ ad E b → (H.setIfInBounds (ad E b) cN)[q]? = H[q]? := fun q hq => by simp [Array.getElem?_setIfInBounds, Ne.symm hq]
  have hme : (H.setIfInBounds (ad E b) cN)[ad E b]? = some cN := by simp [Array.getElem?_setIfInBounds, hl]
  have hsz : (H.setIfInBounds (ad E b) cN).size = H.size := by simp
  have hR : Rel E (h.set b (10, (L.take x.toNatClampNeg ++ M.drop x.toNatClampNeg).map Value.int)) (H.setIfInBounds (ad E b) cN) :=
    hH.1.set hb (show 10 < 14 by omega) hsz oq ⟨fun z => absurd z (by show ¬ 10 < 10; omega), fun _ _ => by rw [hme, ← hcell], fun z => absurd z (by show ¬ 10 = 14; omega)⟩
  obtain ⟨t, g1, g2⟩ := kk E p l e R s mi args below meth c QQ _ _ cells slots lr hF0 hL ⟨hR, by rw [hsz]; exact hH.2.1, fun z hz => by
    rcases List.mem_append.mp hz with h9 | h9
    · exact hH.2.2 z h9
    · obtain ⟨z9, -, hz9⟩ := List.mem_map.mp h9
      rw [← hz9]
      exact ad_bs hn0⟩ hc hs hE _ hheap X'
  exact ⟨t, step t g1, g2⟩
end THROWS
end
