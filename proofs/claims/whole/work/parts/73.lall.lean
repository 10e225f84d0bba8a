/-! the law from its first byte to its end, in the picture -/
theorem law_all {ws : List Int32} (hw : ws.length ≤ 2048) {Q : AR → AH → Prop} (hq : ∀ h, Q (.inl (some (.int (iN 1)))) h) : AW mL_law 10 1162 31214 0 [.ref 0, vU, vU, vU, vU, vU, vU] [] [(14, ws.map Value.int)] Q := by
  refine b_L_law_0 (mc := 1161) (ms := 31208) (by simp) ?_
  change AW mL_law 10 1161 31208 3 [.ref 0, vU, vU, vU, vU, vU, vU] [.ref 1] ([(14, ws.map Value.int)] ++ [(8, df_8)]) Q
  refine b_L_law_3 (mc9 := 640) (ms9 := 14910) (mc := 521) (ms := 16298) (s_X8_init [(14, ws.map Value.int)] 1 rfl) (fun h1 e1 => ?_)
  subst e1
  have len8 : ([(14, ws.map Value.int)] ++ tcL 1 : AH).length = 642 := by
    rw [List.length_append, tcL_len]; rfl
  refine b_L_law_7 (mc := 520) (ms := 16285) (by rw [len8]; omega) ?_
  refine b_L_law_11 (mc9 := 7) (ms9 := 13212) (mc := 513) (ms := 3073) (s_X9_init ([(14, ws.map Value.int)] ++ tcL 1)) (fun h2 ra => ?_)
  rw [len8] at ra
  have e2 := ra.2
  have lenG : ([(14, ws.map Value.int)] ++ tcL 1 ++ mL9 642 : AH).length = 650 := by
    rw [List.length_append, len8]; rfl
  have len9 : h2.length = 650 := by rw [e2, wr_len, lenG]
  have I : Inv (clean 16 32) := InvClean (by omega) (by omega)
  have s8 : Sits ([(14, ws.map Value.int)] ++ tcL 1 ++ mL9 642 : AH) 1 (tcL 1) := Sits.app [(14, ws.map Value.int)] (tcL 1) (mL9 642)
  have s9 : Sits ([(14, ws.map Value.int)] ++ tcL 1 ++ mL9 642 : AH) 642 (mL9 642) := by
    have q := Sits.app ([(14, ws.map Value.int)] ++ tcL 1) (mL9 642) []
    rw [len8, List.append_nil] at q
    exact q
  have c8 : cw ([(14, ws.map Value.int)] ++ tcL 1 ++ mL9 642 : AH) (mkS (clean 16 32) 0 (fun _ _ => 0) 0 z0 (fun _ => false) (fun _ _ => 0)) := CW_new s8 (fun _ _ => 0) (fun _ _ => 0)
  have c9 : rw9 h2 (mkS (clean 16 32) 0 (fun _ _ => 0) 0 z0 (fun _ => false) (fun _ _ => 0)) 0 := by
    rw [e2]; exact RW_new s9 (fun _ _ => 0) (fun _ _ => 0)
  have k1 : Kp ([(14, ws.map Value.int)] ++ tcL 1 ++ mL9 642 : AH) h2 645 646 := (ra.off 645 646).kp
  have sc0 : h2[0]? = some (14, ws.map Value.int) := k1 _ _ (by omega) rfl
  rw [len8]
  refine b_L_law_15 (mc := 512) (ms := 3072) (by omega) ?_
  rw [len9]
  refine b_L_law_19 ?_
  have k2 : Kp h2 (h2 ++ [(11, List.replicate (1 : Int).toNat (defaultValue (aty 11)))]) 0 0 := fun q c _ e => by
    rw [List.getElem?_append_left (List.getElem?_eq_some_iff.mp e).1]; exact e
  refine law_loop (Q := Q) hq hw 512 0 _ (mkS (clean 16 32) 0 (fun _ _ => 0) 0 z0 (fun _ => false) (fun _ _ => 0)) 0 (by omega) (by omega) ⟨CW.kp (CW.kp c8 k1) k2, RW.kp c9 k2, k2 _ _ (by omega) sc0, 0, ?_⟩ ⟨I, Nat.zero_le _, fun i hi => absurd hi (Nat.not_lt_zero i), Nat.zero_le _, fun i hi => absurd hi (Nat.not_lt_zero i), fun j _ q => nomatch q⟩
  rw [List.getElem?_append_right (by omega), len9]
  rfl
