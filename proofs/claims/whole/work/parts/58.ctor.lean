/-! constructors: what they append to the heap, exactly -/
def zer (n : Nat) : List Value := (mk n (fun _ => 0)).map Value.int
def rowL (a n : Nat) : AH := [(4, [.ref (a + 1)]), (10, zer n)]
def tntL (a : Nat) : AH := (6, [.int 0, .ref (a + 1), .ref (a + 3), .ref (a + 5), .ref (a + 7)]) :: (((rowL (a + 1) 24 ++ rowL (a + 3) 24) ++ rowL (a + 5) 24) ++ rowL (a + 7) 24)
def frmL (a : Nat) : AH := (2, [.int 0, .ref (a + 1), .ref (a + 3)]) :: (rowL (a + 1) 8 ++ rowL (a + 3) 8)
def fldL (a : Nat) : AH := (1, [.int 0, .ref (a + 1), .ref (a + 3), .ref (a + 5), .ref (a + 7)]) :: (((rowL (a + 1) 51 ++ rowL (a + 3) 51) ++ rowL (a + 5) 51) ++ rowL (a + 7) 51)
def cmpL (a : Nat) : AH := (0, [.int (iN 16), .int (iN 32), .int (iN 1), .int 0, .int 0, .int 0, .int 0, .ref (a + 1), .ref (a + 3), .ref (a + 12), .ref (a + 17), .ref (a + 26)]) :: ((((rowL (a + 1) 256 ++ tntL (a + 3)) ++ frmL (a + 12)) ++ fldL (a + 17)) ++ fldL (a + 26))
def cmpsL (b : Nat) : Nat → AH
  | 0 => []
  | k + 1 => cmpsL b k ++ cmpL (b + 35 * k)
def shfL (a n : Nat) : AH := (5, [.ref (a + 1)]) :: (13, (List.range n).map (fun j => Value.ref (a + 2 + 35 * j))) :: cmpsL (a + 2) n
def hisL (a : Nat) : AH := (3, [.int 0, .int 0, .ref (a + 1)]) :: shfL (a + 1) 14
def txtL (a : Nat) : AH := (7, [.int 0, .ref (a + 1), .int 0, .int 0, .int 0, .int 0, .int 0]) :: rowL (a + 1) 100
def tcL (x : Nat) : AH := (8, [.ref (x + 1), .ref (x + 36), .ref (x + 71), .ref (x + 564), .ref (x + 567), .ref (x + 639)]) :: (((((cmpL (x + 1) ++ cmpL (x + 36)) ++ hisL (x + 71)) ++ txtL (x + 564)) ++ shfL (x + 567) 2) ++ rowL (x + 639) 2)
theorem rowL_len (a n : Nat) : (rowL a n).length = 2 := rfl
theorem tntL_len (a : Nat) : (tntL a).length = 9 := rfl
theorem frmL_len (a : Nat) : (frmL a).length = 5 := rfl
theorem fldL_len (a : Nat) : (fldL a).length = 9 := rfl
theorem cmpL_len (a : Nat) : (cmpL a).length = 35 := rfl
theorem cmpsL_len (b : Nat) : ∀ k : Nat, (cmpsL b k).length = 35 * k
  | 0 => rfl
  | k + 1 => by
    simp only [cmpsL, List.length_append, cmpL_len]
    rw [cmpsL_len b k]; omega
theorem shfL_len (a n : Nat) : (shfL a n).length = 35 * n + 2 := by
  simp only [shfL, List.length_cons, cmpsL_len]
theorem hisL_len (a : Nat) : (hisL a).length = 493 := by
  simp only [hisL, List.length_cons, shfL_len]
theorem txtL_len (a : Nat) : (txtL a).length = 3 := rfl
theorem tcL_len (a : Nat) : (tcL a).length = 641 := by
  simp only [tcL, List.length_cons, List.length_append, cmpL_len, hisL_len, txtL_len, shfL_len, rowL_len]
theorem stA (H : AH) (k : Nat) (fs : List Value) (T : AH) (j : Nat) (v : Value) : stf (H ++ (k, fs) :: T) H.length j v = H ++ (k, fs.set j v) :: T := by
  have e : (H ++ (k, fs) :: T)[H.length]? = some (k, fs) := by simp
  rw [stf_at e]; simp
theorem fldA {H : AH} {k : Nat} {fs : List Value} {T : AH} {j : Nat} {v : Value} (e : fs[j]? = some v) : fld (H ++ (k, fs) :: T) H.length k j v := ⟨fs, by simp, e⟩
theorem neA {H : AH} {c : AC} {T : AH} : (H ++ c :: T).length ≠ 0 := by simp
theorem neS {H : AH} {k : Nat} {fs : List Value} {T : AH} {j : Nat} {v : Value} : (stf (H ++ (k, fs) :: T) H.length j v).length ≠ 0 := by rw [stA]; simp
theorem apA (H : AH) (c : AC) (T L : AH) : (H ++ c :: T) ++ L = H ++ c :: (T ++ L) := by simp
section CTOR
theorem s_X4_init (H : AH) (a n : Nat) (ha : H.length = a) (hn : n ≤ 1000) : CtV mX4_init 1 1 n [.ref a, .int (iN n)] (H ++ [(4, df_4)]) (fun h' => h' = H ++ rowL a n) := by
  have e : (if iN (n : Int) < iN 0 then (0 : Int) else (n : Int)) = n := if_neg (fun q => by have := (iN_lt (by omega)).mp q; omega)
  have et : ((if iN (n : Int) < iN 0 then (0 : Int) else (n : Int)) : Int).toNat = n := by rw [e, Int.toNat_natCast]
  subst ha
  refine en_X4_init ?_
  have B := b_X4_init_0 (mc := 0) (ms := 0) (l0 := H.length) (l1 := (n : Int)) (h := H ++ [(4, df_4)]) (Q := qV (fun h' => h' = H ++ rowL H.length n)) (by rw [e]; omega) neA (w4 := .null) (by rw [apA]; exact fldA rfl) (rV (by
    rw [apA, stA, et]
    show H ++ (4, [Value.ref (H ++ [(4, df_4)]).length]) :: ([] ++ [(10, List.replicate n (defaultValue (aty 10)))]) = _
    have e2 : List.replicate n (defaultValue (aty 10)) = zer n := by
      unfold zer mk
      apply List.ext_getElem?
      intro k
      by_cases hk : k < n
      · simp [hk]; decide
      · simp [hk]
    rw [e2]
    simp [rowL]))
  rw [et] at B
  exact B.room (by omega) (by omega)

theorem s_X6_init (H : AH) (a : Nat) (ha : H.length = a) : CtV mX6_init 2 8 100 [.ref a] (H ++ [(6, df_6)]) (fun h' => h' = H ++ tntL a) := by
  subst ha
  refine en_X6_init ?_
  refine b_X6_init_0 (mc := 7) (ms := 99) neA ?_
  rw [show List.length (H ++ [(6, df_6)] : AH) = H.length + 1 by simp]
  refine b_X6_init_8 (mc9 := 1) (ms9 := 24) (mc := 6) (ms := 75) (s_X4_init (H ++ [(6, df_6)]) (H.length + 1) 24 (by simp [rowL_len, tntL_len, frmL_len, fldL_len, cmpL_len, hisL_len, txtL_len, shfL_len]) (by omega)) (fun h0 hv => ?_)
  subst hv
  rw [apA, List.nil_append]
  refine b_X6_init_14 (mc := 5) (ms := 74) (fldA rfl) neS ?_
  rw [stA]
  change AW mX6_init 2 5 74 21 [.ref H.length] [.ref (H ++ (6, [.int 0, .ref (H.length + 1), .null, .null, .null]) :: (rowL (H.length + 1) 24)).length, .ref H.length] ((H ++ (6, [.int 0, .ref (H.length + 1), .null, .null, .null]) :: (rowL (H.length + 1) 24)) ++ [(4, df_4)]) _
  rw [show (H ++ (6, [.int 0, .ref (H.length + 1), .null, .null, .null]) :: (rowL (H.length + 1) 24)).length = H.length + 3 by simp [rowL_len, tntL_len, frmL_len, fldL_len, cmpL_len, hisL_len, txtL_len, shfL_len]]
  refine b_X6_init_21 (mc9 := 1) (ms9 := 24) (mc := 4) (ms := 50) (s_X4_init (H ++ (6, [.int 0, .ref (H.length + 1), .null, .null, .null]) :: (rowL (H.length + 1) 24)) (H.length + 3) 24 (by simp [rowL_len, tntL_len, frmL_len, fldL_len, cmpL_len, hisL_len, txtL_len, shfL_len]) (by omega)) (fun h1 hv => ?_)
  subst hv
  rw [apA]
  refine b_X6_init_27 (mc := 3) (ms := 49) (fldA rfl) neS ?_
  rw [stA]
  change AW mX6_init 2 3 49 34 [.ref H.length] [.ref (H ++ (6, [.int 0, .ref (H.length + 1), .ref (H.length + 3), .null, .null]) :: ((rowL (H.length + 1) 24) ++ rowL (H.length + 3) 24)).length, .ref H.length] ((H ++ (6, [.int 0, .ref (H.length + 1), .ref (H.length + 3), .null, .null]) :: ((rowL (H.length + 1) 24) ++ rowL (H.length + 3) 24)) ++ [(4, df_4)]) _
  rw [show (H ++ (6, [.int 0, .ref (H.length + 1), .ref (H.length + 3), .null, .null]) :: ((rowL (H.length + 1) 24) ++ rowL (H.length + 3) 24)).length = H.length + 5 by simp [rowL_len, tntL_len, frmL_len, fldL_len, cmpL_len, hisL_len, txtL_len, shfL_len]]
  refine b_X6_init_34 (mc9 := 1) (ms9 := 24) (mc := 2) (ms := 25) (s_X4_init (H ++ (6, [.int 0, .ref (H.length + 1), .ref (H.length + 3), .null, .null]) :: ((rowL (H.length + 1) 24) ++ rowL (H.length + 3) 24)) (H.length + 5) 24 (by simp [rowL_len, tntL_len, frmL_len, fldL_len, cmpL_len, hisL_len, txtL_len, shfL_len]) (by omega)) (fun h2 hv => ?_)
  subst hv
  rw [apA]
  refine b_X6_init_40 (mc := 1) (ms := 24) (fldA rfl) neS ?_
  rw [stA]
  change AW mX6_init 2 1 24 47 [.ref H.length] [.ref (H ++ (6, [.int 0, .ref (H.length + 1), .ref (H.length + 3), .ref (H.length + 5), .null]) :: (((rowL (H.length + 1) 24) ++ rowL (H.length + 3) 24) ++ rowL (H.length + 5) 24)).length, .ref H.length] ((H ++ (6, [.int 0, .ref (H.length + 1), .ref (H.length + 3), .ref (H.length + 5), .null]) :: (((rowL (H.length + 1) 24) ++ rowL (H.length + 3) 24) ++ rowL (H.length + 5) 24)) ++ [(4, df_4)]) _
  rw [show (H ++ (6, [.int 0, .ref (H.length + 1), .ref (H.length + 3), .ref (H.length + 5), .null]) :: (((rowL (H.length + 1) 24) ++ rowL (H.length + 3) 24) ++ rowL (H.length + 5) 24)).length = H.length + 7 by simp [rowL_len, tntL_len, frmL_len, fldL_len, cmpL_len, hisL_len, txtL_len, shfL_len]]
  refine b_X6_init_47 (mc9 := 1) (ms9 := 24) (mc := 0) (ms := 0) (s_X4_init (H ++ (6, [.int 0, .ref (H.length + 1), .ref (H.length + 3), .ref (H.length + 5), .null]) :: (((rowL (H.length + 1) 24) ++ rowL (H.length + 3) 24) ++ rowL (H.length + 5) 24)) (H.length + 7) 24 (by simp [rowL_len, tntL_len, frmL_len, fldL_len, cmpL_len, hisL_len, txtL_len, shfL_len]) (by omega)) (fun h3 hv => ?_)
  subst hv
  rw [apA]
  exact b_X6_init_53 (fldA rfl) (rV (by rw [stA]; rfl))

theorem s_X2_init (H : AH) (a : Nat) (ha : H.length = a) : CtV mX2_init 2 4 18 [.ref a] (H ++ [(2, df_2)]) (fun h' => h' = H ++ frmL a) := by
  subst ha
  refine en_X2_init ?_
  refine b_X2_init_0 (mc := 3) (ms := 17) neA ?_
  rw [show List.length (H ++ [(2, df_2)] : AH) = H.length + 1 by simp]
  refine b_X2_init_8 (mc9 := 1) (ms9 := 8) (mc := 2) (ms := 9) (s_X4_init (H ++ [(2, df_2)]) (H.length + 1) 8 (by simp [rowL_len, tntL_len, frmL_len, fldL_len, cmpL_len, hisL_len, txtL_len, shfL_len]) (by omega)) (fun h0 hv => ?_)
  subst hv
  rw [apA, List.nil_append]
  refine b_X2_init_14 (mc := 1) (ms := 8) (fldA rfl) neS ?_
  rw [stA]
  change AW mX2_init 2 1 8 21 [.ref H.length] [.ref (H ++ (2, [.int 0, .ref (H.length + 1), .null]) :: (rowL (H.length + 1) 8)).length, .ref H.length] ((H ++ (2, [.int 0, .ref (H.length + 1), .null]) :: (rowL (H.length + 1) 8)) ++ [(4, df_4)]) _
  rw [show (H ++ (2, [.int 0, .ref (H.length + 1), .null]) :: (rowL (H.length + 1) 8)).length = H.length + 3 by simp [rowL_len, tntL_len, frmL_len, fldL_len, cmpL_len, hisL_len, txtL_len, shfL_len]]
  refine b_X2_init_21 (mc9 := 1) (ms9 := 8) (mc := 0) (ms := 0) (s_X4_init (H ++ (2, [.int 0, .ref (H.length + 1), .null]) :: (rowL (H.length + 1) 8)) (H.length + 3) 8 (by simp [rowL_len, tntL_len, frmL_len, fldL_len, cmpL_len, hisL_len, txtL_len, shfL_len]) (by omega)) (fun h1 hv => ?_)
  subst hv
  rw [apA]
  exact b_X2_init_27 (fldA rfl) (rV (by rw [stA]; rfl))

theorem s_X1_init (H : AH) (a : Nat) (ha : H.length = a) : CtV mX1_init 2 8 208 [.ref a] (H ++ [(1, df_1)]) (fun h' => h' = H ++ fldL a) := by
  subst ha
  refine en_X1_init ?_
  refine b_X1_init_0 (mc := 7) (ms := 207) neA ?_
  rw [show List.length (H ++ [(1, df_1)] : AH) = H.length + 1 by simp]
  refine b_X1_init_8 (mc9 := 1) (ms9 := 51) (mc := 6) (ms := 156) (s_X4_init (H ++ [(1, df_1)]) (H.length + 1) 51 (by simp [rowL_len, tntL_len, frmL_len, fldL_len, cmpL_len, hisL_len, txtL_len, shfL_len]) (by omega)) (fun h0 hv => ?_)
  subst hv
  rw [apA, List.nil_append]
  refine b_X1_init_14 (mc := 5) (ms := 155) (fldA rfl) neS ?_
  rw [stA]
  change AW mX1_init 2 5 155 21 [.ref H.length] [.ref (H ++ (1, [.int 0, .ref (H.length + 1), .null, .null, .null]) :: (rowL (H.length + 1) 51)).length, .ref H.length] ((H ++ (1, [.int 0, .ref (H.length + 1), .null, .null, .null]) :: (rowL (H.length + 1) 51)) ++ [(4, df_4)]) _
  rw [show (H ++ (1, [.int 0, .ref (H.length + 1), .null, .null, .null]) :: (rowL (H.length + 1) 51)).length = H.length + 3 by simp [rowL_len, tntL_len, frmL_len, fldL_len, cmpL_len, hisL_len, txtL_len, shfL_len]]
  refine b_X1_init_21 (mc9 := 1) (ms9 := 51) (mc := 4) (ms := 104) (s_X4_init (H ++ (1, [.int 0, .ref (H.length + 1), .null, .null, .null]) :: (rowL (H.length + 1) 51)) (H.length + 3) 51 (by simp [rowL_len, tntL_len, frmL_len, fldL_len, cmpL_len, hisL_len, txtL_len, shfL_len]) (by omega)) (fun h1 hv => ?_)
  subst hv
  rw [apA]
  refine b_X1_init_27 (mc := 3) (ms := 103) (fldA rfl) neS ?_
  rw [stA]
  change AW mX1_init 2 3 103 34 [.ref H.length] [.ref (H ++ (1, [.int 0, .ref (H.length + 1), .ref (H.length + 3), .null, .null]) :: ((rowL (H.length + 1) 51) ++ rowL (H.length + 3) 51)).length, .ref H.length] ((H ++ (1, [.int 0, .ref (H.length + 1), .ref (H.length + 3), .null, .null]) :: ((rowL (H.length + 1) 51) ++ rowL (H.length + 3) 51)) ++ [(4, df_4)]) _
  rw [show (H ++ (1, [.int 0, .ref (H.length + 1), .ref (H.length + 3), .null, .null]) :: ((rowL (H.length + 1) 51) ++ rowL (H.length + 3) 51)).length = H.length + 5 by simp [rowL_len, tntL_len, frmL_len, fldL_len, cmpL_len, hisL_len, txtL_len, shfL_len]]
  refine b_X1_init_34 (mc9 := 1) (ms9 := 51) (mc := 2) (ms := 52) (s_X4_init (H ++ (1, [.int 0, .ref (H.length + 1), .ref (H.length + 3), .null, .null]) :: ((rowL (H.length + 1) 51) ++ rowL (H.length + 3) 51)) (H.length + 5) 51 (by simp [rowL_len, tntL_len, frmL_len, fldL_len, cmpL_len, hisL_len, txtL_len, shfL_len]) (by omega)) (fun h2 hv => ?_)
  subst hv
  rw [apA]
  refine b_X1_init_40 (mc := 1) (ms := 51) (fldA rfl) neS ?_
  rw [stA]
  change AW mX1_init 2 1 51 47 [.ref H.length] [.ref (H ++ (1, [.int 0, .ref (H.length + 1), .ref (H.length + 3), .ref (H.length + 5), .null]) :: (((rowL (H.length + 1) 51) ++ rowL (H.length + 3) 51) ++ rowL (H.length + 5) 51)).length, .ref H.length] ((H ++ (1, [.int 0, .ref (H.length + 1), .ref (H.length + 3), .ref (H.length + 5), .null]) :: (((rowL (H.length + 1) 51) ++ rowL (H.length + 3) 51) ++ rowL (H.length + 5) 51)) ++ [(4, df_4)]) _
  rw [show (H ++ (1, [.int 0, .ref (H.length + 1), .ref (H.length + 3), .ref (H.length + 5), .null]) :: (((rowL (H.length + 1) 51) ++ rowL (H.length + 3) 51) ++ rowL (H.length + 5) 51)).length = H.length + 7 by simp [rowL_len, tntL_len, frmL_len, fldL_len, cmpL_len, hisL_len, txtL_len, shfL_len]]
  refine b_X1_init_47 (mc9 := 1) (ms9 := 51) (mc := 0) (ms := 0) (s_X4_init (H ++ (1, [.int 0, .ref (H.length + 1), .ref (H.length + 3), .ref (H.length + 5), .null]) :: (((rowL (H.length + 1) 51) ++ rowL (H.length + 3) 51) ++ rowL (H.length + 5) 51)) (H.length + 7) 51 (by simp [rowL_len, tntL_len, frmL_len, fldL_len, cmpL_len, hisL_len, txtL_len, shfL_len]) (by omega)) (fun h3 hv => ?_)
  subst hv
  rw [apA]
  exact b_X1_init_53 (fldA rfl) (rV (by rw [stA]; rfl))

theorem s_X0_init (H : AH) (a : Nat) (ha : H.length = a) : CtV mX0_init 3 34 809 [.ref a] (H ++ [(0, df_0)]) (fun h' => h' = H ++ cmpL a) := by
  subst ha
  refine en_X0_init ?_
  have s1 : stf (H ++ [(0, df_0)]) H.length 0 (.int (iN 16)) = H ++ [(0, df_0.set 0 (.int (iN 16)))] := stA _ _ _ _ _ _
  have s2 : stf (H ++ [(0, df_0.set 0 (.int (iN 16)))]) H.length 1 (.int (iN 32)) = H ++ [(0, (df_0.set 0 (.int (iN 16))).set 1 (.int (iN 32)))] := stA _ _ _ _ _ _
  have s3 : stf (H ++ [(0, (df_0.set 0 (.int (iN 16))).set 1 (.int (iN 32)))]) H.length 2 (.int (iN 1)) = H ++ [(0, [.int (iN 16), .int (iN 32), .int (iN 1), .int 0, .int 0, .int 0, .int 0, .null, .null, .null, .null, .null])] := stA _ _ _ _ _ _
  refine b_X0_init_0 (mc := 33) (ms := 808) (w2 := .int 0) (w4 := .int 0) (w6 := .int 0) (fldA rfl) (by rw [s1]; exact fldA rfl) (by rw [s1, s2]; exact fldA rfl) (by rw [s1, s2, s3]; exact neA) ?_
  rw [s1, s2, s3]
  rw [show (H ++ [(0, [Value.int (iN 16), .int (iN 32), .int (iN 1), .int 0, .int 0, .int 0, .int 0, .null, .null, .null, .null, .null])] : AH).length = H.length + 1 by simp]
  refine b_X0_init_25 (mc9 := 1) (ms9 := 256) (mc := 32) (ms := 552) (s_X4_init (H ++ [(0, [.int (iN 16), .int (iN 32), .int (iN 1), .int 0, .int 0, .int 0, .int 0, .null, .null, .null, .null, .null])]) (H.length + 1) 256 (by simp [rowL_len, tntL_len, frmL_len, fldL_len, cmpL_len, hisL_len, txtL_len, shfL_len]) (by omega)) (fun h0 hv => ?_)
  subst hv
  rw [apA, List.nil_append]
  refine b_X0_init_32 (mc := 31) (ms := 547) (fldA rfl) neS ?_
  rw [stA]
  change AW mX0_init 3 31 547 39 [.ref H.length] [.ref (H ++ (0, [.int (iN 16), .int (iN 32), .int (iN 1), .int 0, .int 0, .int 0, .int 0, .ref (H.length + 1), .null, .null, .null, .null]) :: (rowL (H.length + 1) 256)).length, .ref H.length] ((H ++ (0, [.int (iN 16), .int (iN 32), .int (iN 1), .int 0, .int 0, .int 0, .int 0, .ref (H.length + 1), .null, .null, .null, .null]) :: (rowL (H.length + 1) 256)) ++ [(6, df_6)]) _
  rw [show (H ++ (0, [.int (iN 16), .int (iN 32), .int (iN 1), .int 0, .int 0, .int 0, .int 0, .ref (H.length + 1), .null, .null, .null, .null]) :: (rowL (H.length + 1) 256)).length = H.length + 3 by simp [rowL_len, tntL_len, frmL_len, fldL_len, cmpL_len, hisL_len, txtL_len, shfL_len]]
  refine b_X0_init_39 (mc9 := 8) (ms9 := 100) (mc := 23) (ms := 447) (s_X6_init (H ++ (0, [.int (iN 16), .int (iN 32), .int (iN 1), .int 0, .int 0, .int 0, .int 0, .ref (H.length + 1), .null, .null, .null, .null]) :: (rowL (H.length + 1) 256)) (H.length + 3) (by simp [rowL_len, tntL_len, frmL_len, fldL_len, cmpL_len, hisL_len, txtL_len, shfL_len])) (fun h1 hv => ?_)
  subst hv
  rw [apA]
  refine b_X0_init_43 (mc := 22) (ms := 444) (fldA rfl) neS ?_
  rw [stA]
  change AW mX0_init 3 22 444 50 [.ref H.length] [.ref (H ++ (0, [.int (iN 16), .int (iN 32), .int (iN 1), .int 0, .int 0, .int 0, .int 0, .ref (H.length + 1), .ref (H.length + 3), .null, .null, .null]) :: ((rowL (H.length + 1) 256) ++ tntL (H.length + 3))).length, .ref H.length] ((H ++ (0, [.int (iN 16), .int (iN 32), .int (iN 1), .int 0, .int 0, .int 0, .int 0, .ref (H.length + 1), .ref (H.length + 3), .null, .null, .null]) :: ((rowL (H.length + 1) 256) ++ tntL (H.length + 3))) ++ [(2, df_2)]) _
  rw [show (H ++ (0, [.int (iN 16), .int (iN 32), .int (iN 1), .int 0, .int 0, .int 0, .int 0, .ref (H.length + 1), .ref (H.length + 3), .null, .null, .null]) :: ((rowL (H.length + 1) 256) ++ tntL (H.length + 3))).length = H.length + 12 by simp [rowL_len, tntL_len, frmL_len, fldL_len, cmpL_len, hisL_len, txtL_len, shfL_len]]
  refine b_X0_init_50 (mc9 := 4) (ms9 := 18) (mc := 18) (ms := 426) (s_X2_init (H ++ (0, [.int (iN 16), .int (iN 32), .int (iN 1), .int 0, .int 0, .int 0, .int 0, .ref (H.length + 1), .ref (H.length + 3), .null, .null, .null]) :: ((rowL (H.length + 1) 256) ++ tntL (H.length + 3))) (H.length + 12) (by simp [rowL_len, tntL_len, frmL_len, fldL_len, cmpL_len, hisL_len, txtL_len, shfL_len])) (fun h2 hv => ?_)
  subst hv
  rw [apA]
  refine b_X0_init_54 (mc := 17) (ms := 421) (fldA rfl) neS ?_
  rw [stA]
  change AW mX0_init 3 17 421 61 [.ref H.length] [.ref (H ++ (0, [.int (iN 16), .int (iN 32), .int (iN 1), .int 0, .int 0, .int 0, .int 0, .ref (H.length + 1), .ref (H.length + 3), .ref (H.length + 12), .null, .null]) :: (((rowL (H.length + 1) 256) ++ tntL (H.length + 3)) ++ frmL (H.length + 12))).length, .ref H.length] ((H ++ (0, [.int (iN 16), .int (iN 32), .int (iN 1), .int 0, .int 0, .int 0, .int 0, .ref (H.length + 1), .ref (H.length + 3), .ref (H.length + 12), .null, .null]) :: (((rowL (H.length + 1) 256) ++ tntL (H.length + 3)) ++ frmL (H.length + 12))) ++ [(1, df_1)]) _
  rw [show (H ++ (0, [.int (iN 16), .int (iN 32), .int (iN 1), .int 0, .int 0, .int 0, .int 0, .ref (H.length + 1), .ref (H.length + 3), .ref (H.length + 12), .null, .null]) :: (((rowL (H.length + 1) 256) ++ tntL (H.length + 3)) ++ frmL (H.length + 12))).length = H.length + 17 by simp [rowL_len, tntL_len, frmL_len, fldL_len, cmpL_len, hisL_len, txtL_len, shfL_len]]
  refine b_X0_init_61 (mc9 := 8) (ms9 := 208) (mc := 9) (ms := 213) (s_X1_init (H ++ (0, [.int (iN 16), .int (iN 32), .int (iN 1), .int 0, .int 0, .int 0, .int 0, .ref (H.length + 1), .ref (H.length + 3), .ref (H.length + 12), .null, .null]) :: (((rowL (H.length + 1) 256) ++ tntL (H.length + 3)) ++ frmL (H.length + 12))) (H.length + 17) (by simp [rowL_len, tntL_len, frmL_len, fldL_len, cmpL_len, hisL_len, txtL_len, shfL_len])) (fun h3 hv => ?_)
  subst hv
  rw [apA]
  refine b_X0_init_65 (mc := 8) (ms := 208) (fldA rfl) neS ?_
  rw [stA]
  change AW mX0_init 3 8 208 72 [.ref H.length] [.ref (H ++ (0, [.int (iN 16), .int (iN 32), .int (iN 1), .int 0, .int 0, .int 0, .int 0, .ref (H.length + 1), .ref (H.length + 3), .ref (H.length + 12), .ref (H.length + 17), .null]) :: ((((rowL (H.length + 1) 256) ++ tntL (H.length + 3)) ++ frmL (H.length + 12)) ++ fldL (H.length + 17))).length, .ref H.length] ((H ++ (0, [.int (iN 16), .int (iN 32), .int (iN 1), .int 0, .int 0, .int 0, .int 0, .ref (H.length + 1), .ref (H.length + 3), .ref (H.length + 12), .ref (H.length + 17), .null]) :: ((((rowL (H.length + 1) 256) ++ tntL (H.length + 3)) ++ frmL (H.length + 12)) ++ fldL (H.length + 17))) ++ [(1, df_1)]) _
  rw [show (H ++ (0, [.int (iN 16), .int (iN 32), .int (iN 1), .int 0, .int 0, .int 0, .int 0, .ref (H.length + 1), .ref (H.length + 3), .ref (H.length + 12), .ref (H.length + 17), .null]) :: ((((rowL (H.length + 1) 256) ++ tntL (H.length + 3)) ++ frmL (H.length + 12)) ++ fldL (H.length + 17))).length = H.length + 26 by simp [rowL_len, tntL_len, frmL_len, fldL_len, cmpL_len, hisL_len, txtL_len, shfL_len]]
  refine b_X0_init_72 (mc9 := 8) (ms9 := 208) (mc := 0) (ms := 0) (s_X1_init (H ++ (0, [.int (iN 16), .int (iN 32), .int (iN 1), .int 0, .int 0, .int 0, .int 0, .ref (H.length + 1), .ref (H.length + 3), .ref (H.length + 12), .ref (H.length + 17), .null]) :: ((((rowL (H.length + 1) 256) ++ tntL (H.length + 3)) ++ frmL (H.length + 12)) ++ fldL (H.length + 17))) (H.length + 26) (by simp [rowL_len, tntL_len, frmL_len, fldL_len, cmpL_len, hisL_len, txtL_len, shfL_len])) (fun h4 hv => ?_)
  subst hv
  rw [apA]
  exact b_X0_init_76 (fldA rfl) (rV (by rw [stA]; rfl))

/-- the shelf's row while camps are made -/
def refI (b n i : Nat) : List Value := (List.range n).map (fun j => if j < i then Value.ref (b + 35 * j) else Value.null)
theorem refI_0 (b n : Nat) : List.replicate n Value.null = refI b n 0 := by
  unfold refI
  apply List.ext_getElem?
  intro k
  by_cases hk : k < n
  · simp [hk]
  · simp [hk]
theorem refI_s (b n i : Nat) (hi : i < n) : (refI b n i).set i (.ref (b + 35 * i)) = refI b n (i + 1) := by
  unfold refI
  apply List.ext_getElem?
  intro k
  rw [List.getElem?_set]
  by_cases hk : k < n
  · by_cases e : i = k
    · subst e
      simp [hk]
    · rw [if_neg e]
      simp only [List.getElem?_map, List.getElem?_range hk, Option.map_some]
      by_cases q : k < i
      · rw [if_pos q, if_pos (by omega)]
      · rw [if_neg q, if_neg (by omega)]
  · simp [hk]
    intro q; omega
theorem refI_e (b n : Nat) : refI b n n = (List.range n).map (fun j => Value.ref (b + 35 * j)) := by
  unfold refI
  apply List.map_congr_left
  intro j hj
  rw [if_pos (List.mem_range.mp hj)]
theorem stB (H : AH) (c : AC) (k : Nat) (fs : List Value) (T : AH) (j : Nat) (v : Value) : stf (H ++ c :: (k, fs) :: T) (H.length + 1) j v = H ++ c :: (k, fs.set j v) :: T := by
  have e : (H ++ c :: (k, fs) :: T)[H.length + 1]? = some (k, fs) := by simp
  rw [stf_at e]; simp
theorem s_X5_init (H : AH) (a n : Nat) (ha : H.length = a) (hn : n ≤ 100) : CtV mX5_init 4 (1 + 35 * n) (822 * n) [.ref a, .int (iN n)] (H ++ [(5, df_5)]) (fun h' => h' = H ++ shfL a n) := by
  have e : (if iN (n : Int) < iN 0 then (0 : Int) else (n : Int)) = n := if_neg (fun q => by have := (iN_lt (by omega)).mp q; omega)
  have et : ((if iN (n : Int) < iN 0 then (0 : Int) else (n : Int)) : Int).toNat = n := by rw [e, Int.toNat_natCast]
  subst ha
  refine en_X5_init ?_
  have L : ∀ (k i : Nat), i + k = n → AW mX5_init 4 (35 * k) (821 * k) 18 [.ref H.length, .int (iN n), .int (iN (i : Int))] [] (H ++ (5, [Value.ref (H.length + 1)]) :: (13, refI (H.length + 2) n i) :: cmpsL (H.length + 2) i) (qV (fun h' => h' = H ++ shfL H.length n)) := by
    intro k
    induction k with
    | zero =>
      intro i hi
      obtain rfl : i = n := by omega
      refine b_X5_init_18 (fldA rfl) (n3 := i) ⟨refI (H.length + 2) i i, by simp, by simp [refI]⟩ (fun _ => ?_) (fun q => absurd ((iN_le (by omega)).mpr (by omega)) q)
      refine b_X5_init_46 (rV ?_)
      rw [refI_e]; rfl
    | succ k ih =>
      intro i hi
      have l1 : (H ++ (5, [Value.ref (H.length + 1)]) :: (13, refI (H.length + 2) n i) :: cmpsL (H.length + 2) i).length = H.length + 2 + 35 * i := by
        simp [cmpsL_len]; omega
      refine b_X5_init_18 (fldA rfl) (n3 := n) ⟨refI (H.length + 2) n i, by simp, by simp [refI]⟩ (fun q => by have := (iN_le (by omega)).mp q; omega) (fun _ => ?_)
      have B := b_X5_init_27 (mc := 34 + 35 * k) (ms := 809 + 821 * k) (l0 := H.length) (l1 := (n : Int)) (l2 := (i : Int)) (h := H ++ (5, [Value.ref (H.length + 1)]) :: (13, refI (H.length + 2) n i) :: cmpsL (H.length + 2) i) (Q := qV (fun h' => h' = H ++ shfL H.length n)) (r1 := H.length + 1) (fldA rfl) neA (by
        rw [l1]
        refine b_X5_init_35 (mc9 := 34) (ms9 := 809) (s_X0_init _ (H.length + 2 + 35 * i) l1) (fun h1 hv => ?_)
        subst hv
        rw [show (H ++ (5, [Value.ref (H.length + 1)]) :: (13, refI (H.length + 2) n i) :: cmpsL (H.length + 2) i) ++ cmpL (H.length + 2 + 35 * i) = H ++ (5, [Value.ref (H.length + 1)]) :: (13, refI (H.length + 2) n i) :: cmpsL (H.length + 2) (i + 1) by simp [cmpsL]]
        have oc : ∃ f4, (H ++ (5, [Value.ref (H.length + 1)]) :: (13, refI (H.length + 2) n i) :: cmpsL (H.length + 2) (i + 1))[H.length + 2 + 35 * i]? = some (0, f4) := by
          rw [List.getElem?_append_right (by omega), show H.length + 2 + 35 * i - H.length = 35 * i + 1 + 1 by omega, List.getElem?_cons_succ, List.getElem?_cons_succ]
          simp only [cmpsL]
          rw [List.getElem?_append_right (by rw [cmpsL_len]; omega), cmpsL_len, Nat.sub_self]
          exact ⟨_, rfl⟩
        obtain ⟨f4, oc⟩ := oc
        refine b_X5_init_39 (w2 := .null) ⟨refI (H.length + 2) n i, by simp, by omega, ?_⟩ oc ?_
        · rw [Int.toNat_natCast]
          simp [refI, show i < n by omega]
        · rw [Int.toNat_natCast, stB, refI_s _ _ _ (by omega), show (i : Int) + 1 = ((i + 1 : Nat) : Int) by omega]
          exact ih (i + 1) (by omega))
      exact B.room (by omega) (by omega)
  have B := b_X5_init_0 (mc := 35 * n) (ms := 821 * n) (l0 := H.length) (l1 := (n : Int)) (h := H ++ [(5, df_5)]) (Q := qV (fun h' => h' = H ++ shfL H.length n)) (by rw [e]; omega) neA (by
    rw [apA, et, List.nil_append, show List.length (H ++ [(5, df_5)] : AH) = H.length + 1 by simp]
    refine b_X5_init_13 (fldA rfl) ?_
    rw [stA, refI_0 (H.length + 2)]
    exact L n 0 (by omega))
  rw [et] at B
  exact B.room (by omega) (by omega)

theorem s_X3_init (H : AH) (a : Nat) (ha : H.length = a) : CtV mX3_init 5 492 11509 [.ref a] (H ++ [(3, df_3)]) (fun h' => h' = H ++ hisL a) := by
  subst ha
  refine en_X3_init ?_
  refine b_X3_init_0 (mc := 491) (ms := 11508) neA ?_
  rw [show List.length (H ++ [(3, df_3)] : AH) = H.length + 1 by simp]
  refine b_X3_init_8 (mc9 := 491) (ms9 := 11508) (mc := 0) (ms := 0) (s_X5_init (H ++ [(3, df_3)]) (H.length + 1) 14 (by simp [rowL_len, tntL_len, frmL_len, fldL_len, cmpL_len, hisL_len, txtL_len, shfL_len]) (by omega)) (fun h0 hv => ?_)
  subst hv
  rw [apA, List.nil_append]
  exact b_X3_init_14 (fldA rfl) (rV (by rw [stA]; rfl))

theorem s_X7_init (H : AH) (a : Nat) (ha : H.length = a) : CtV mX7_init 2 2 101 [.ref a] (H ++ [(7, df_7)]) (fun h' => h' = H ++ txtL a) := by
  subst ha
  refine en_X7_init ?_
  refine b_X7_init_0 (mc := 1) (ms := 100) neA ?_
  rw [show List.length (H ++ [(7, df_7)] : AH) = H.length + 1 by simp]
  refine b_X7_init_8 (mc9 := 1) (ms9 := 100) (mc := 0) (ms := 0) (s_X4_init (H ++ [(7, df_7)]) (H.length + 1) 100 (by simp [rowL_len, tntL_len, frmL_len, fldL_len, cmpL_len, hisL_len, txtL_len, shfL_len]) (by omega)) (fun h0 hv => ?_)
  subst hv
  rw [apA, List.nil_append]
  exact b_X7_init_14 (fldA rfl) (rV (by rw [stA]; rfl))

theorem s_X8_init (H : AH) (a : Nat) (ha : H.length = a) : CtV mX8_init 6 640 14910 [.ref a] (H ++ [(8, df_8)]) (fun h' => h' = H ++ tcL a) := by
  subst ha
  refine en_X8_init ?_
  refine b_X8_init_0 (mc := 639) (ms := 14898) neA ?_
  rw [show List.length (H ++ [(8, df_8)] : AH) = H.length + 1 by simp]
  refine b_X8_init_8 (mc9 := 34) (ms9 := 809) (mc := 605) (ms := 14089) (s_X0_init (H ++ [(8, df_8)]) (H.length + 1) (by simp [rowL_len, tntL_len, frmL_len, fldL_len, cmpL_len, hisL_len, txtL_len, shfL_len])) (fun h0 hv => ?_)
  subst hv
  rw [apA, List.nil_append]
  refine b_X8_init_12 (mc := 604) (ms := 14077) (fldA rfl) neS ?_
  rw [stA]
  change AW mX8_init 6 604 14077 19 [.ref H.length] [.ref (H ++ (8, [.ref (H.length + 1), .null, .null, .null, .null, .null]) :: (cmpL (H.length + 1))).length, .ref H.length] ((H ++ (8, [.ref (H.length + 1), .null, .null, .null, .null, .null]) :: (cmpL (H.length + 1))) ++ [(0, df_0)]) _
  rw [show (H ++ (8, [.ref (H.length + 1), .null, .null, .null, .null, .null]) :: (cmpL (H.length + 1))).length = H.length + 36 by simp [rowL_len, tntL_len, frmL_len, fldL_len, cmpL_len, hisL_len, txtL_len, shfL_len]]
  refine b_X8_init_19 (mc9 := 34) (ms9 := 809) (mc := 570) (ms := 13268) (s_X0_init (H ++ (8, [.ref (H.length + 1), .null, .null, .null, .null, .null]) :: (cmpL (H.length + 1))) (H.length + 36) (by simp [rowL_len, tntL_len, frmL_len, fldL_len, cmpL_len, hisL_len, txtL_len, shfL_len])) (fun h1 hv => ?_)
  subst hv
  rw [apA]
  refine b_X8_init_23 (mc := 569) (ms := 13265) (fldA rfl) neS ?_
  rw [stA]
  change AW mX8_init 6 569 13265 30 [.ref H.length] [.ref (H ++ (8, [.ref (H.length + 1), .ref (H.length + 36), .null, .null, .null, .null]) :: ((cmpL (H.length + 1)) ++ cmpL (H.length + 36))).length, .ref H.length] ((H ++ (8, [.ref (H.length + 1), .ref (H.length + 36), .null, .null, .null, .null]) :: ((cmpL (H.length + 1)) ++ cmpL (H.length + 36))) ++ [(3, df_3)]) _
  rw [show (H ++ (8, [.ref (H.length + 1), .ref (H.length + 36), .null, .null, .null, .null]) :: ((cmpL (H.length + 1)) ++ cmpL (H.length + 36))).length = H.length + 71 by simp [rowL_len, tntL_len, frmL_len, fldL_len, cmpL_len, hisL_len, txtL_len, shfL_len]]
  refine b_X8_init_30 (mc9 := 492) (ms9 := 11509) (mc := 77) (ms := 1756) (s_X3_init (H ++ (8, [.ref (H.length + 1), .ref (H.length + 36), .null, .null, .null, .null]) :: ((cmpL (H.length + 1)) ++ cmpL (H.length + 36))) (H.length + 71) (by simp [rowL_len, tntL_len, frmL_len, fldL_len, cmpL_len, hisL_len, txtL_len, shfL_len])) (fun h2 hv => ?_)
  subst hv
  rw [apA]
  refine b_X8_init_34 (mc := 76) (ms := 1749) (fldA rfl) neS ?_
  rw [stA]
  change AW mX8_init 6 76 1749 41 [.ref H.length] [.ref (H ++ (8, [.ref (H.length + 1), .ref (H.length + 36), .ref (H.length + 71), .null, .null, .null]) :: (((cmpL (H.length + 1)) ++ cmpL (H.length + 36)) ++ hisL (H.length + 71))).length, .ref H.length] ((H ++ (8, [.ref (H.length + 1), .ref (H.length + 36), .ref (H.length + 71), .null, .null, .null]) :: (((cmpL (H.length + 1)) ++ cmpL (H.length + 36)) ++ hisL (H.length + 71))) ++ [(7, df_7)]) _
  rw [show (H ++ (8, [.ref (H.length + 1), .ref (H.length + 36), .ref (H.length + 71), .null, .null, .null]) :: (((cmpL (H.length + 1)) ++ cmpL (H.length + 36)) ++ hisL (H.length + 71))).length = H.length + 564 by simp [rowL_len, tntL_len, frmL_len, fldL_len, cmpL_len, hisL_len, txtL_len, shfL_len]]
  refine b_X8_init_41 (mc9 := 2) (ms9 := 101) (mc := 74) (ms := 1648) (s_X7_init (H ++ (8, [.ref (H.length + 1), .ref (H.length + 36), .ref (H.length + 71), .null, .null, .null]) :: (((cmpL (H.length + 1)) ++ cmpL (H.length + 36)) ++ hisL (H.length + 71))) (H.length + 564) (by simp [rowL_len, tntL_len, frmL_len, fldL_len, cmpL_len, hisL_len, txtL_len, shfL_len])) (fun h3 hv => ?_)
  subst hv
  rw [apA]
  refine b_X8_init_45 (mc := 73) (ms := 1647) (fldA rfl) neS ?_
  rw [stA]
  change AW mX8_init 6 73 1647 52 [.ref H.length] [.ref (H ++ (8, [.ref (H.length + 1), .ref (H.length + 36), .ref (H.length + 71), .ref (H.length + 564), .null, .null]) :: ((((cmpL (H.length + 1)) ++ cmpL (H.length + 36)) ++ hisL (H.length + 71)) ++ txtL (H.length + 564))).length, .ref H.length] ((H ++ (8, [.ref (H.length + 1), .ref (H.length + 36), .ref (H.length + 71), .ref (H.length + 564), .null, .null]) :: ((((cmpL (H.length + 1)) ++ cmpL (H.length + 36)) ++ hisL (H.length + 71)) ++ txtL (H.length + 564))) ++ [(5, df_5)]) _
  rw [show (H ++ (8, [.ref (H.length + 1), .ref (H.length + 36), .ref (H.length + 71), .ref (H.length + 564), .null, .null]) :: ((((cmpL (H.length + 1)) ++ cmpL (H.length + 36)) ++ hisL (H.length + 71)) ++ txtL (H.length + 564))).length = H.length + 567 by simp [rowL_len, tntL_len, frmL_len, fldL_len, cmpL_len, hisL_len, txtL_len, shfL_len]]
  refine b_X8_init_52 (mc9 := 71) (ms9 := 1644) (mc := 2) (ms := 3) (s_X5_init (H ++ (8, [.ref (H.length + 1), .ref (H.length + 36), .ref (H.length + 71), .ref (H.length + 564), .null, .null]) :: ((((cmpL (H.length + 1)) ++ cmpL (H.length + 36)) ++ hisL (H.length + 71)) ++ txtL (H.length + 564))) (H.length + 567) 2 (by simp [rowL_len, tntL_len, frmL_len, fldL_len, cmpL_len, hisL_len, txtL_len, shfL_len]) (by omega)) (fun h4 hv => ?_)
  subst hv
  rw [apA]
  refine b_X8_init_57 (mc := 1) (ms := 2) (fldA rfl) neS ?_
  rw [stA]
  change AW mX8_init 6 1 2 64 [.ref H.length] [.ref (H ++ (8, [.ref (H.length + 1), .ref (H.length + 36), .ref (H.length + 71), .ref (H.length + 564), .ref (H.length + 567), .null]) :: (((((cmpL (H.length + 1)) ++ cmpL (H.length + 36)) ++ hisL (H.length + 71)) ++ txtL (H.length + 564)) ++ shfL (H.length + 567) 2)).length, .ref H.length] ((H ++ (8, [.ref (H.length + 1), .ref (H.length + 36), .ref (H.length + 71), .ref (H.length + 564), .ref (H.length + 567), .null]) :: (((((cmpL (H.length + 1)) ++ cmpL (H.length + 36)) ++ hisL (H.length + 71)) ++ txtL (H.length + 564)) ++ shfL (H.length + 567) 2)) ++ [(4, df_4)]) _
  rw [show (H ++ (8, [.ref (H.length + 1), .ref (H.length + 36), .ref (H.length + 71), .ref (H.length + 564), .ref (H.length + 567), .null]) :: (((((cmpL (H.length + 1)) ++ cmpL (H.length + 36)) ++ hisL (H.length + 71)) ++ txtL (H.length + 564)) ++ shfL (H.length + 567) 2)).length = H.length + 639 by simp [rowL_len, tntL_len, frmL_len, fldL_len, cmpL_len, hisL_len, txtL_len, shfL_len]]
  refine b_X8_init_64 (mc9 := 1) (ms9 := 2) (mc := 0) (ms := 0) (s_X4_init (H ++ (8, [.ref (H.length + 1), .ref (H.length + 36), .ref (H.length + 71), .ref (H.length + 564), .ref (H.length + 567), .null]) :: (((((cmpL (H.length + 1)) ++ cmpL (H.length + 36)) ++ hisL (H.length + 71)) ++ txtL (H.length + 564)) ++ shfL (H.length + 567) 2)) (H.length + 639) 2 (by simp [rowL_len, tntL_len, frmL_len, fldL_len, cmpL_len, hisL_len, txtL_len, shfL_len]) (by omega)) (fun h5 hv => ?_)
  subst hv
  rw [apA]
  exact b_X8_init_69 (fldA rfl) (rV (by rw [stA]; rfl))

end CTOR
