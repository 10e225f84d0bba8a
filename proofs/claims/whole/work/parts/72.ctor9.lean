/-! the reference's constructor -/
theorem rep_z (n : Nat) : List.replicate n (defaultValue (aty 10)) = zer n := by
  unfold zer mk
  apply List.ext_getElem?
  intro k
  by_cases hk : k < n
  · simp [hk]; decide
  · simp [hk]
theorem Z100 : (100 : Int).toNat = 100 := rfl
theorem Z690 : (690 : Int).toNat = 690 := rfl
theorem Z9660 : (9660 : Int).toNat = 9660 := rfl
theorem Z1380 : (1380 : Int).toNat = 1380 := rfl
def mL9 (a : Nat) : AH := [(9, [.int 0, .ref (a + 1), .int 0, .int 0, .int 0, .int 0, .ref (a + 2), .ref (a + 3), .ref (a + 4), .ref (a + 5), .int 0, .ref (a + 6), .ref (a + 7)]), (10, zer 100), (10, zer 690), (10, zer 690), (10, zer 690), (10, zer 9660), (10, zer 1380), (12, [.int 0, .int 0])]
theorem s_X9_init (H : AH) : CtV mX9_init 1 7 13212 [.ref H.length] (H ++ [(9, df_9)]) (fun h' => RA (H ++ mL9 H.length) (H.length + 3) (clean 16 32) h') := by
  refine en_X9_init ?_
  refine b_X9_init_0 (mc := 6) (ms := 13112) neA ?_
  change AW mX9_init 1 6 13112 9 [.ref H.length] [.ref (H ++ (9, [.int 0, .null, .int 0, .int 0, .int 0, .int 0, .null, .null, .null, .null, .int 0, .null, .null]) :: [] : AH).length, .ref H.length] ((H ++ (9, [.int 0, .null, .int 0, .int 0, .int 0, .int 0, .null, .null, .null, .null, .int 0, .null, .null]) :: [] : AH) ++ [(10, List.replicate 100 (defaultValue (aty 10)))]) _
  rw [show (H ++ (9, [.int 0, .null, .int 0, .int 0, .int 0, .int 0, .null, .null, .null, .null, .int 0, .null, .null]) :: [] : AH).length = H.length + 1 by simp]
  rw [rep_z]
  rw [apA]
  change AW mX9_init 1 6 13112 9 [.ref H.length] [.ref (H.length + 1), .ref H.length] (H ++ (9, [.int 0, .null, .int 0, .int 0, .int 0, .int 0, .null, .null, .null, .null, .int 0, .null, .null]) :: [(10, zer 100)] : AH) _
  refine b_X9_init_9 (mc := 5) (ms := 12422) (fldA rfl) neS ?_
  rw [stA]
  change AW mX9_init 1 5 12422 18 [.ref H.length] [.ref (H ++ (9, [.int 0, .ref (H.length + 1), .int 0, .int 0, .int 0, .int 0, .null, .null, .null, .null, .int 0, .null, .null]) :: [(10, zer 100)] : AH).length, .ref H.length] ((H ++ (9, [.int 0, .ref (H.length + 1), .int 0, .int 0, .int 0, .int 0, .null, .null, .null, .null, .int 0, .null, .null]) :: [(10, zer 100)] : AH) ++ [(10, List.replicate 690 (defaultValue (aty 10)))]) _
  rw [show (H ++ (9, [.int 0, .ref (H.length + 1), .int 0, .int 0, .int 0, .int 0, .null, .null, .null, .null, .int 0, .null, .null]) :: [(10, zer 100)] : AH).length = H.length + 2 by simp]
  rw [rep_z]
  rw [apA]
  change AW mX9_init 1 5 12422 18 [.ref H.length] [.ref (H.length + 2), .ref H.length] (H ++ (9, [.int 0, .ref (H.length + 1), .int 0, .int 0, .int 0, .int 0, .null, .null, .null, .null, .int 0, .null, .null]) :: [(10, zer 100), (10, zer 690)] : AH) _
  refine b_X9_init_18 (mc := 4) (ms := 11732) (fldA rfl) neS ?_
  rw [stA]
  change AW mX9_init 1 4 11732 27 [.ref H.length] [.ref (H ++ (9, [.int 0, .ref (H.length + 1), .int 0, .int 0, .int 0, .int 0, .ref (H.length + 2), .null, .null, .null, .int 0, .null, .null]) :: [(10, zer 100), (10, zer 690)] : AH).length, .ref H.length] ((H ++ (9, [.int 0, .ref (H.length + 1), .int 0, .int 0, .int 0, .int 0, .ref (H.length + 2), .null, .null, .null, .int 0, .null, .null]) :: [(10, zer 100), (10, zer 690)] : AH) ++ [(10, List.replicate 690 (defaultValue (aty 10)))]) _
  rw [show (H ++ (9, [.int 0, .ref (H.length + 1), .int 0, .int 0, .int 0, .int 0, .ref (H.length + 2), .null, .null, .null, .int 0, .null, .null]) :: [(10, zer 100), (10, zer 690)] : AH).length = H.length + 3 by simp]
  rw [rep_z]
  rw [apA]
  change AW mX9_init 1 4 11732 27 [.ref H.length] [.ref (H.length + 3), .ref H.length] (H ++ (9, [.int 0, .ref (H.length + 1), .int 0, .int 0, .int 0, .int 0, .ref (H.length + 2), .null, .null, .null, .int 0, .null, .null]) :: [(10, zer 100), (10, zer 690), (10, zer 690)] : AH) _
  refine b_X9_init_27 (mc := 3) (ms := 11042) (fldA rfl) neS ?_
  rw [stA]
  change AW mX9_init 1 3 11042 36 [.ref H.length] [.ref (H ++ (9, [.int 0, .ref (H.length + 1), .int 0, .int 0, .int 0, .int 0, .ref (H.length + 2), .ref (H.length + 3), .null, .null, .int 0, .null, .null]) :: [(10, zer 100), (10, zer 690), (10, zer 690)] : AH).length, .ref H.length] ((H ++ (9, [.int 0, .ref (H.length + 1), .int 0, .int 0, .int 0, .int 0, .ref (H.length + 2), .ref (H.length + 3), .null, .null, .int 0, .null, .null]) :: [(10, zer 100), (10, zer 690), (10, zer 690)] : AH) ++ [(10, List.replicate 690 (defaultValue (aty 10)))]) _
  rw [show (H ++ (9, [.int 0, .ref (H.length + 1), .int 0, .int 0, .int 0, .int 0, .ref (H.length + 2), .ref (H.length + 3), .null, .null, .int 0, .null, .null]) :: [(10, zer 100), (10, zer 690), (10, zer 690)] : AH).length = H.length + 4 by simp]
  rw [rep_z]
  rw [apA]
  change AW mX9_init 1 3 11042 36 [.ref H.length] [.ref (H.length + 4), .ref H.length] (H ++ (9, [.int 0, .ref (H.length + 1), .int 0, .int 0, .int 0, .int 0, .ref (H.length + 2), .ref (H.length + 3), .null, .null, .int 0, .null, .null]) :: [(10, zer 100), (10, zer 690), (10, zer 690), (10, zer 690)] : AH) _
  refine b_X9_init_36 (mc := 2) (ms := 1382) (fldA rfl) neS ?_
  rw [stA]
  change AW mX9_init 1 2 1382 45 [.ref H.length] [.ref (H ++ (9, [.int 0, .ref (H.length + 1), .int 0, .int 0, .int 0, .int 0, .ref (H.length + 2), .ref (H.length + 3), .ref (H.length + 4), .null, .int 0, .null, .null]) :: [(10, zer 100), (10, zer 690), (10, zer 690), (10, zer 690)] : AH).length, .ref H.length] ((H ++ (9, [.int 0, .ref (H.length + 1), .int 0, .int 0, .int 0, .int 0, .ref (H.length + 2), .ref (H.length + 3), .ref (H.length + 4), .null, .int 0, .null, .null]) :: [(10, zer 100), (10, zer 690), (10, zer 690), (10, zer 690)] : AH) ++ [(10, List.replicate 9660 (defaultValue (aty 10)))]) _
  rw [show (H ++ (9, [.int 0, .ref (H.length + 1), .int 0, .int 0, .int 0, .int 0, .ref (H.length + 2), .ref (H.length + 3), .ref (H.length + 4), .null, .int 0, .null, .null]) :: [(10, zer 100), (10, zer 690), (10, zer 690), (10, zer 690)] : AH).length = H.length + 5 by simp]
  rw [rep_z]
  rw [apA]
  change AW mX9_init 1 2 1382 45 [.ref H.length] [.ref (H.length + 5), .ref H.length] (H ++ (9, [.int 0, .ref (H.length + 1), .int 0, .int 0, .int 0, .int 0, .ref (H.length + 2), .ref (H.length + 3), .ref (H.length + 4), .null, .int 0, .null, .null]) :: [(10, zer 100), (10, zer 690), (10, zer 690), (10, zer 690), (10, zer 9660)] : AH) _
  refine b_X9_init_45 (mc := 1) (ms := 2) (fldA rfl) neS ?_
  rw [stA]
  change AW mX9_init 1 1 2 54 [.ref H.length] [.ref (H ++ (9, [.int 0, .ref (H.length + 1), .int 0, .int 0, .int 0, .int 0, .ref (H.length + 2), .ref (H.length + 3), .ref (H.length + 4), .ref (H.length + 5), .int 0, .null, .null]) :: [(10, zer 100), (10, zer 690), (10, zer 690), (10, zer 690), (10, zer 9660)] : AH).length, .ref H.length] ((H ++ (9, [.int 0, .ref (H.length + 1), .int 0, .int 0, .int 0, .int 0, .ref (H.length + 2), .ref (H.length + 3), .ref (H.length + 4), .ref (H.length + 5), .int 0, .null, .null]) :: [(10, zer 100), (10, zer 690), (10, zer 690), (10, zer 690), (10, zer 9660)] : AH) ++ [(10, List.replicate 1380 (defaultValue (aty 10)))]) _
  rw [show (H ++ (9, [.int 0, .ref (H.length + 1), .int 0, .int 0, .int 0, .int 0, .ref (H.length + 2), .ref (H.length + 3), .ref (H.length + 4), .ref (H.length + 5), .int 0, .null, .null]) :: [(10, zer 100), (10, zer 690), (10, zer 690), (10, zer 690), (10, zer 9660)] : AH).length = H.length + 6 by simp]
  rw [rep_z]
  rw [apA]
  change AW mX9_init 1 1 2 54 [.ref H.length] [.ref (H.length + 6), .ref H.length] (H ++ (9, [.int 0, .ref (H.length + 1), .int 0, .int 0, .int 0, .int 0, .ref (H.length + 2), .ref (H.length + 3), .ref (H.length + 4), .ref (H.length + 5), .int 0, .null, .null]) :: [(10, zer 100), (10, zer 690), (10, zer 690), (10, zer 690), (10, zer 9660), (10, zer 1380)] : AH) _
  refine b_X9_init_54 (mc := 0) (ms := 0) (fldA rfl) neS ?_
  rw [stA]
  change AW mX9_init 1 0 0 61 [.ref H.length] [.ref (H ++ (9, [.int 0, .ref (H.length + 1), .int 0, .int 0, .int 0, .int 0, .ref (H.length + 2), .ref (H.length + 3), .ref (H.length + 4), .ref (H.length + 5), .int 0, .ref (H.length + 6), .null]) :: [(10, zer 100), (10, zer 690), (10, zer 690), (10, zer 690), (10, zer 9660), (10, zer 1380)] : AH).length, .ref H.length] ((H ++ (9, [.int 0, .ref (H.length + 1), .int 0, .int 0, .int 0, .int 0, .ref (H.length + 2), .ref (H.length + 3), .ref (H.length + 4), .ref (H.length + 5), .int 0, .ref (H.length + 6), .null]) :: [(10, zer 100), (10, zer 690), (10, zer 690), (10, zer 690), (10, zer 9660), (10, zer 1380)] : AH) ++ [(12, List.replicate 2 (defaultValue (aty 12)))]) _
  rw [show (H ++ (9, [.int 0, .ref (H.length + 1), .int 0, .int 0, .int 0, .int 0, .ref (H.length + 2), .ref (H.length + 3), .ref (H.length + 4), .ref (H.length + 5), .int 0, .ref (H.length + 6), .null]) :: [(10, zer 100), (10, zer 690), (10, zer 690), (10, zer 690), (10, zer 9660), (10, zer 1380)] : AH).length = H.length + 7 by simp]
  rw [apA]
  change AW mX9_init 1 0 0 61 [.ref H.length] [.ref (H.length + 7), .ref H.length] (H ++ (9, [.int 0, .ref (H.length + 1), .int 0, .int 0, .int 0, .int 0, .ref (H.length + 2), .ref (H.length + 3), .ref (H.length + 4), .ref (H.length + 5), .int 0, .ref (H.length + 6), .null]) :: [(10, zer 100), (10, zer 690), (10, zer 690), (10, zer 690), (10, zer 9660), (10, zer 1380), (12, [.int 0, .int 0])] : AH) _
  refine b_X9_init_61 (P := RA (H ++ mL9 H.length) (H.length + 3) (clean 16 32)) (r3 := H.length + 3) (fldA rfl) ?_ ?_ (fun h9 hq => ?_)
  · rw [stA]; exact fldA rfl
  · rw [stA]
    refine s_clean (r := fun _ => 0) ?_ 16 32
    change (H ++ mL9 H.length)[H.length + 3]? = _
    rw [List.getElem?_append_right (by omega), Nat.add_sub_cancel_left]
    rfl
  · exact b_X9_init_75 (rV hq)
theorem RW_new {h : AH} {m : Nat} (t : Sits h m (mL9 m)) (D K : Nat → Nat → Int) : RW (wr h (m + 3) 690 (clean 16 32)) m (clean 16 32) 0 D 0 z0 (fun _ => false) K 0 := by
  have hd := t.hd
  have u1 := t.tl.hd
  have u2 := t.tl.tl.hd
  have u3 := t.tl.tl.tl.hd
  have u4 := t.tl.tl.tl.tl.hd
  have u5 := t.tl.tl.tl.tl.tl.hd
  have u6 := t.tl.tl.tl.tl.tl.tl.hd
  have u7 := t.tl.tl.tl.tl.tl.tl.tl.hd
  have len : m + 3 < h.length := (List.getElem?_eq_some_iff.mp u3).1
  refine ⟨⟨0, 0, 0, ?_⟩, ?_, ⟨fun _ => 0, ?_⟩, ?_, ⟨fun _ => 0, ?_⟩, ⟨fun _ => 0, ?_, fun i hi => absurd hi (Nat.not_lt_zero i)⟩, ⟨fun _ => 0, ?_, fun i _ q => nomatch q⟩, ?_⟩
  · exact (wr_ne (by omega)).trans hd
  · exact (wr_ne (by omega)).trans u1
  · exact (wr_ne (by omega)).trans u2
  · exact wr_at len
  · exact (wr_ne (by omega)).trans u4
  · exact (wr_ne (by omega)).trans u5
  · exact (wr_ne (by omega)).trans u6
  · exact (wr_ne (by omega)).trans u7
