/-! the reference's small questions -/
section REFI
variable {h : AH} {m : Nat} {r : Nat → Int} {rf sz sp gd lf ac : Int}
theorem s_isTent (hm : mob h m rf sz sp gd lf ac) (hn : ari h (m + 3) 690 r) (h0 : 0 ≤ r 0 ∧ r 0 ≤ 1000) {t : Int} (ht : -2147483648 ≤ t ∧ t < 2147483648) : CtZ mX9_isTent 1 0 0 [.ref m, .int (iN t)] h (fun v h' => v = decide (0 ≤ t ∧ t < r 0) ∧ h' = h) := by
  have e := iN_T ht
  have e0 : (iN (r 0 - 1)).toInt = r 0 - 1 := iN_T (by omega)
  refine en_X9_isTent (b_X9_isTent_0 hm.r7 (hn.g 0) (s_in (by omega) (by omega) (by omega)) (fun v h' hv => ?_))
  obtain ⟨rfl, rfl⟩ := hv
  refine b_X9_isTent_15 (zb_b _) (rZ ⟨?_, rfl⟩)
  rw [e, e0]
  by_cases q : 0 ≤ t ∧ t < r 0
  · rw [decide_eq_true q, decide_eq_true (by omega)]
  · rw [decide_eq_false q, decide_eq_false (by omega)]
theorem s_isField (hm : mob h m rf sz sp gd lf ac) (hn : ari h (m + 3) 690 r) (h0 : 0 ≤ r 1 ∧ r 1 ≤ 1000) {t : Int} (ht : -2147483648 ≤ t ∧ t < 2147483648) : CtZ mX9_isField 1 0 0 [.ref m, .int (iN t)] h (fun v h' => v = decide (0 ≤ t ∧ t < r 1) ∧ h' = h) := by
  have e := iN_T ht
  have e0 : (iN (r 1 - 1)).toInt = r 1 - 1 := iN_T (by omega)
  refine en_X9_isField (b_X9_isField_0 hm.r7 (hn.g 1) (s_in (by omega) (by omega) (by omega)) (fun v h' hv => ?_))
  obtain ⟨rfl, rfl⟩ := hv
  refine b_X9_isField_15 (zb_b _) (rZ ⟨?_, rfl⟩)
  rw [e, e0]
  by_cases q : 0 ≤ t ∧ t < r 1
  · rw [decide_eq_true q, decide_eq_true (by omega)]
  · rw [decide_eq_false q, decide_eq_false (by omega)]
theorem s_isFrame (hm : mob h m rf sz sp gd lf ac) (hn : ari h (m + 3) 690 r) (h0 : 0 ≤ r 3 ∧ r 3 ≤ 1000) {t : Int} (ht : -2147483648 ≤ t ∧ t < 2147483648) : CtZ mX9_isFrame 1 0 0 [.ref m, .int (iN t)] h (fun v h' => v = decide (0 ≤ t ∧ t < r 3) ∧ h' = h) := by
  have e := iN_T ht
  have e0 : (iN (r 3 - 1)).toInt = r 3 - 1 := iN_T (by omega)
  refine en_X9_isFrame (b_X9_isFrame_0 hm.r7 (hn.g 3) (s_in (by omega) (by omega) (by omega)) (fun v h' hv => ?_))
  obtain ⟨rfl, rfl⟩ := hv
  refine b_X9_isFrame_15 (zb_b _) (rZ ⟨?_, rfl⟩)
  rw [e, e0]
  by_cases q : 0 ≤ t ∧ t < r 3
  · rw [decide_eq_true q, decide_eq_true (by omega)]
  · rw [decide_eq_false q, decide_eq_false (by omega)]
/-- the last frame that tent t lies behind -/
def frOf (r : Nat → Int) (t : Int) : Int := lst (fun i => if r (418 + 2 * i) ≤ t then 0 else 1) (nR r)
theorem s_frameOf (hm : mob h m rf sz sp gd lf ac) (hn : ari h (m + 3) 690 r) (hI : Inv r) {t : Int} (ht : 0 ≤ t ∧ t ≤ 1000) : CtI mX9_frameOf 1 0 0 [.ref m, .int (iN t)] h (fun v h' => v = frOf r t ∧ h' = h) := by
  have h3 := hI.2.2.2.1.1
  have h0 := hI.2.1.1
  have n3 : r 3 = (nR r : Int) := by unfold nR; omega
  refine en_X9_frameOf (b_X9_frameOf_0 ?_)
  have H : ∀ (q i : Nat), i + q = nR r → AW mX9_frameOf 1 0 0 4 [.ref m, .int (iN t), .int (iN (lst (fun i => if r (418 + 2 * i) ≤ t then 0 else 1) i)), .int (iN (i : Int))] [] h (qI (fun v h' => v = frOf r t ∧ h' = h)) := by
    intro q
    induction q with
    | zero =>
      intro i hi
      refine b_X9_frameOf_4 hm.r7 (hn.g 3) (fun _ => ?_) (fun w => absurd ((iN_le (by omega)).mpr (by omega)) w)
      exact b_X9_frameOf_40 (rI ⟨by unfold frOf; rw [show nR r = i by omega], rfl⟩)
    | succ q ih =>
      intro i hi
      have fi := (hI.2.2.2.2.2.2.2 i (by omega)).1
      have e : ((i : Int) + 1) = ((i + 1 : Nat) : Int) := by omega
      have hk := ih (i + 1) (by omega)
      refine b_X9_frameOf_4 hm.r7 (hn.g 3) (fun w => ?_) (fun _ => ?_)
      · have := (iN_le (by omega)).mp w; omega
      refine b_X9_frameOf_14 hm.r7 s_frameAt (fun v h' hv => ?_)
      obtain ⟨rfl, rfl⟩ := hv
      refine b_X9_frameOf_23 (hn.g (418 + 2 * i)) (fun w => ?_) (fun w => ?_)
      · have := (iN_lt (by omega)).mp w
        refine b_X9_frameOf_32 ?_
        rw [show lst (fun i => if r (418 + 2 * i) ≤ t then 0 else 1) (i + 1) = lst (fun i => if r (418 + 2 * i) ≤ t then 0 else 1) i by simp [lst, show ¬ r (418 + 2 * i) ≤ t by omega]] at hk
        rw [e]; exact hk
      · have : r (418 + 2 * i) ≤ t := by
          rcases Int.lt_or_le t (r (418 + 2 * i)) with y | y
          · exact absurd ((iN_lt (by omega)).mpr y) w
          · exact y
        refine b_X9_frameOf_28 ?_
        rw [show lst (fun i => if r (418 + 2 * i) ≤ t then 0 else 1) (i + 1) = (i : Int) by simp [lst, this]] at hk
        rw [e]; exact hk
  exact H (nR r) 0 (by omega)
theorem s_tentsOn (hm : mob h m rf sz sp gd lf ac) (hn : ari h (m + 3) 690 r) (hI : Inv r) {f : Int} (hf : 0 ≤ f ∧ f ≤ 1000) : CtI mX9_tentsOn 1 0 0 [.ref m, .int (iN f)] h (fun v h' => v = cnt (fun t => r (10 + 4 * t)) f 0 (nT r) ∧ h' = h) := by
  have h0 := hI.2.1.1
  have h1 := hI.1.k.1
  have n0 : r 0 = (nT r : Int) := by unfold nT; omega
  refine en_X9_tentsOn (b_X9_tentsOn_0 ?_)
  have H : ∀ (q i : Nat), i + q = nT r → AW mX9_tentsOn 1 0 0 4 [.ref m, .int (iN f), .int (iN (cnt (fun t => r (10 + 4 * t)) f 0 i)), .int (iN (i : Int))] [] h (qI (fun v h' => v = cnt (fun t => r (10 + 4 * t)) f 0 (nT r) ∧ h' = h)) := by
    intro q
    induction q with
    | zero =>
      intro i hi
      refine b_X9_tentsOn_4 hm.r7 (hn.g 0) (fun _ => ?_) (fun w => absurd ((iN_le (by omega)).mpr (by omega)) w)
      exact b_X9_tentsOn_42 (rI ⟨by rw [show nT r = i by omega], rfl⟩)
    | succ q ih =>
      intro i hi
      have ti := (hI.2.1.2 i (by omega)).1
      have e : ((i : Int) + 1) = ((i + 1 : Nat) : Int) := by omega
      have hk := ih (i + 1) (by omega)
      simp only [cnt, Nat.zero_add] at hk
      refine b_X9_tentsOn_4 hm.r7 (hn.g 0) (fun w => ?_) (fun _ => ?_)
      · have := (iN_le (by omega)).mp w; omega
      refine b_X9_tentsOn_14 hm.r7 s_tentAt (fun v h' hv => ?_)
      obtain ⟨rfl, rfl⟩ := hv
      refine b_X9_tentsOn_24 (hn.g (10 + 4 * i)) (fun w => ?_) (fun w => ?_)
      · refine b_X9_tentsOn_33 ?_
        rw [if_neg (fun z => w (by rw [z]))] at hk
        rw [e]; exact hk
      · refine b_X9_tentsOn_29 ?_
        rw [if_pos ((iN_eq (by omega)).mp w)] at hk
        rw [e]; exact hk
  exact H (nT r) 0 (by omega)
end REFI
