/-! the reference's actions -/
section RACT
variable {h h' : AH} {m n l : Nat} {r r' s : Nat → Int} {D K : Nat → Nat → Int} {b : Nat → Bool} {rf : Int}
theorem r_pitch (w : RW h m r n D l s b K rf) (ok : OKS r n D l s b K) {z t : Int} (hz : -2147483648 ≤ z ∧ z < 2147483648) (ht : -2147483648 ≤ t ∧ t < 2147483648) :
    CtI mX9_pitch 6 0 0 [.ref m, .int (iN z), .int (iN t)] h (fun v h' => (ptK r z t = 0 → v = r 0) ∧ (if ptK r z t = 0 then RW h' m (pitchIn r z t) (rmN n) (rmD r D) l s b K (ptK r z t) else RW h' m r n D l s b K (ptK r z t)) ∧ Off h h' m (m + 8)) := by
  have I := ok.1
  have r0 := I.r0
  obtain ⟨gN1, gN2, gN3⟩ := I.2.2.2.1
  have Thr : ∀ (k l3 : Int), 0 < k → ptK r z t = k → ∀ h2, RW h2 m r n D l s b K k ∧ Off h h2 m (m + 8) → AW mX9_pitch 6 0 0 49 [.ref m, .int (iN z), .int (iN t), .int (iN l3)] [.int (iN (bI (decide ((0 : Int) < k))))] h2 (qI (fun v h' => (ptK r z t = 0 → v = r 0) ∧ (if ptK r z t = 0 then RW h' m (pitchIn r z t) (rmN n) (rmD r D) l s b K (ptK r z t) else RW h' m r n D l s b K (ptK r z t)) ∧ Off h h' m (m + 8))) := by
    intro k l3 hk e h2 w2
    rw [decide_eq_true hk]
    refine b_X9_pitch_49 (fun y => absurd y (by decide)) (fun _ => ?_)
    exact b_X9_pitch_52 (rI ⟨fun z => by omega, by rw [if_neg (by omega), e]; exact w2.1, w2.2⟩)
  have Bad : isKnd z t = false → AW mX9_pitch 6 0 0 18 [.ref m, .int (iN z), .int (iN t), vU] [] h (qI (fun v h' => (ptK r z t = 0 → v = r 0) ∧ (if ptK r z t = 0 then RW h' m (pitchIn r z t) (rmN n) (rmD r D) l s b K (ptK r z t) else RW h' m r n D l s b K (ptK r z t)) ∧ Off h h' m (m + 8))) := by
    intro q
    have e : ptK r z t = 1 := by unfold ptK; rw [if_pos q]
    refine b_X9_pitch_18 (fun y => absurd rfl y) (fun _ => ?_)
    refine b_X9_pitch_25 w.o (s_ref w (k := 1) (by omega)) (fun v h2 hv => ?_)
    obtain ⟨rfl, w2⟩ := hv
    exact Thr 1 _ (by omega) e h2 w2
  refine en_X9_pitch (b_X9_pitch_0 (s_isTentSize hz) (fun v h1 hv => ?_))
  obtain ⟨rfl, rfl⟩ := hv
  by_cases q : 1 ≤ z ∧ z ≤ 40
  · rw [decide_eq_true q]
    refine b_X9_pitch_4 (fun y => absurd y (by decide)) (fun _ => ?_)
    refine b_X9_pitch_7 (s_risStep ht) (fun v h2 hv => ?_)
    obtain ⟨rfl, rfl⟩ := hv
    cases q2 : isStp t
    · exact b_X9_pitch_11 (fun _ => Bad (by
        unfold isStp at q2
        unfold isKnd
        exact decide_eq_false (fun z => absurd z.2 (of_decide_eq_false q2)))) (fun y => absurd rfl y)
    · have st := isStp_T q2
      have hk : isKnd z t = true := by unfold isKnd; rw [decide_eq_true ⟨q, st⟩]
      refine b_X9_pitch_11 (fun y => absurd y (by decide)) (fun _ => ?_)
      refine b_X9_pitch_14 (fun _ => ?_) (fun y => absurd y (by decide))
      refine b_X9_pitch_29 w.r7 (s_canPitch w.nw I.1.k r0 q (by omega)) (fun v h3 hv => ?_)
      obtain ⟨rfl, rfl⟩ := hv
      by_cases q3 : r 0 < 24 ∧ whereIn r z t ≠ 3
      · have e : ptK r z t = 0 := by unfold ptK; rw [if_neg (by rw [hk]; decide), if_pos q3]
        rw [decide_eq_true q3]
        refine b_X9_pitch_38 (fun y => absurd y (by decide)) (fun _ => ?_)
        refine b_X9_pitch_41 w.o (s_ref w (k := 0) (by omega)) (fun v h4 hv => ?_)
        obtain ⟨rfl, w2, o2⟩ := hv
        refine b_X9_pitch_49 (fun _ => ?_) (fun y => absurd rfl y)
        refine b_X9_pitch_54 w2.o (w_rrem w2 ok.2.1) (fun h5 hv => ?_)
        obtain ⟨w3, o3⟩ := hv
        refine b_X9_pitch_58 w3.r7 (s_pitchIn w3.nw I.1 (by have := I.1.k.ap; omega) ⟨r0.1, q3.1⟩ (by omega) (fun t ht => by have := (I.2.1.2 t ht).2.2.1; omega) q (by omega)) (fun v h6 hv => ?_)
        obtain ⟨rfl, ra⟩ := hv
        obtain ⟨w4, o4⟩ := w3.now ra
        exact b_X9_pitch_67 (rI ⟨fun _ => rfl, by rw [if_pos e, e]; exact w4, (o2.tr o3 m (m + 8)).tr o4 m (m + 8)⟩)
      · have e : ptK r z t = 2 := by unfold ptK; rw [if_neg (by rw [hk]; decide), if_neg q3]
        rw [decide_eq_false q3]
        refine b_X9_pitch_38 (fun _ => ?_) (fun y => absurd rfl y)
        refine b_X9_pitch_45 w.o (s_ref w (k := 2) (by omega)) (fun v h2 hv => ?_)
        obtain ⟨rfl, w2⟩ := hv
        exact Thr 2 _ (by omega) e h2 w2
  · rw [decide_eq_false q]
    exact b_X9_pitch_4 (fun _ => Bad (by unfold isKnd; exact decide_eq_false (fun z => q z.1))) (fun y => absurd rfl y)
theorem r_fill (w : RW h m r n D l s b K rf) (ok : OKS r n D l s b K) {t v : Int} (ht : -2147483648 ≤ t ∧ t < 2147483648) (hv : -2147483648 ≤ v ∧ v < 2147483648) :
    CtI mX9_fill 2 0 0 [.ref m, .int (iN t), .int (iN v)] h (fun u h' => (flK r t v = 0 → u = fillV r t.toNat) ∧ (if flK r t v = 0 then RW h' m (fillIn r t.toNat v) (rmN n) (rmD r D) l s b K (flK r t v) else RW h' m r n D l s b K (flK r t v)) ∧ Off h h' m (m + 8)) := by
  have I := ok.1
  have r0 := I.r0
  have eT := iN_T hv
  obtain ⟨sp, gd, lf, hm⟩ := w.1
  have Thr : ∀ (k : Int), 0 < k → flK r t v = k → ∀ h2, RW h2 m r n D l s b K k ∧ Off h h2 m (m + 8) → AW mX9_fill 2 0 0 33 [.ref m, .int (iN t), .int (iN v)] [.int (iN (bI (decide ((0 : Int) < k))))] h2 (qI (fun u h' => (flK r t v = 0 → u = fillV r t.toNat) ∧ (if flK r t v = 0 then RW h' m (fillIn r t.toNat v) (rmN n) (rmD r D) l s b K (flK r t v) else RW h' m r n D l s b K (flK r t v)) ∧ Off h h' m (m + 8))) := by
    intro k hk e h2 w2
    rw [decide_eq_true hk]
    refine b_X9_fill_33 (fun y => absurd y (by decide)) (fun _ => ?_)
    exact b_X9_fill_36 (rI ⟨fun z => by omega, by rw [if_neg (by omega), e]; exact w2.1, w2.2⟩)
  refine en_X9_fill (b_X9_fill_0 w.o (s_isTent hm w.nw (by omega) ht) (fun v1 h1 hv1 => ?_))
  obtain ⟨rfl, rfl⟩ := hv1
  by_cases q : 0 ≤ t ∧ t < r 0
  · rw [decide_eq_true q]
    refine b_X9_fill_6 (fun _ => ?_) (fun y => absurd y (by decide))
    refine b_X9_fill_13 (s_in (by omega) (by omega) (by omega)) (fun v2 h2 hv2 => ?_)
    obtain ⟨rfl, rfl⟩ := hv2
    rw [eT]
    by_cases q2 : 0 ≤ v ∧ v ≤ 99
    · have e : flK r t v = 0 := by unfold flK; rw [if_neg (fun z => z q), if_pos q2]
      rw [decide_eq_true q2]
      refine b_X9_fill_22 (fun y => absurd y (by decide)) (fun _ => ?_)
      refine b_X9_fill_25 w.o (s_ref w (k := 0) (by omega)) (fun v3 h3 hv3 => ?_)
      obtain ⟨rfl, w2, o2⟩ := hv3
      refine b_X9_fill_33 (fun _ => ?_) (fun y => absurd rfl y)
      refine b_X9_fill_38 w2.o (w_rrem w2 ok.2.1) (fun h5 hv5 => ?_)
      obtain ⟨w3, o3⟩ := hv5
      have F := s_fillIn w3.nw I.1 I.2.2.1 (t := t.toNat) (I.2.1.2 _ (by unfold nT; omega)) (by omega) v
      rw [show ((t.toNat : Nat) : Int) = t by omega] at F
      refine b_X9_fill_42 w3.r7 F (fun v6 h6 hv6 => ?_)
      obtain ⟨rfl, ra⟩ := hv6
      obtain ⟨w4, o4⟩ := w3.now ra
      exact b_X9_fill_51 (rI ⟨fun _ => rfl, by rw [if_pos e, e]; exact w4, (o2.tr o3 m (m + 8)).tr o4 m (m + 8)⟩)
    · have e : flK r t v = 2 := by unfold flK; rw [if_neg (fun z => z q), if_neg q2]
      rw [decide_eq_false q2]
      refine b_X9_fill_22 (fun _ => ?_) (fun y => absurd rfl y)
      refine b_X9_fill_29 w.o (s_ref w (k := 2) (by omega)) (fun v3 h3 hv3 => ?_)
      obtain ⟨rfl, w2⟩ := hv3
      exact Thr 2 (by omega) e h3 w2
  · have e : flK r t v = 1 := by unfold flK; rw [if_pos q]
    rw [decide_eq_false q]
    refine b_X9_fill_6 (fun y => absurd rfl y) (fun _ => ?_)
    refine b_X9_fill_9 w.o (s_ref w (k := 1) (by omega)) (fun v3 h3 hv3 => ?_)
    obtain ⟨rfl, w2⟩ := hv3
    exact Thr 1 (by omega) e h3 w2
theorem r_enter (w : RW h m r n D l s b K rf) (ok : OKS r n D l s b K) :
    CtI mX9_enter 2 0 0 [.ref m] h (fun u h' => (enK r = 0 → u = r 3) ∧ (if enK r = 0 then RW h' m (enterIn r) (rmN n) (rmD r D) l s b K (enK r) else RW h' m r n D l s b K (enK r)) ∧ Off h h' m (m + 8)) := by
  have I := ok.1
  have r3 := I.r3
  refine en_X9_enter (b_X9_enter_0 w.r7 (w.nw.g 3) (fun y => ?_) (fun y => ?_))
  · have q : r 3 < 8 := by
      rcases Int.lt_or_le (r 3) 8 with z | z
      · exact z
      · exact absurd ((iN_eq (by omega)).mpr (by omega)) y
    have e : enK r = 0 := by unfold enK; rw [if_pos q]
    refine b_X9_enter_16 w.o (s_ref w (k := 0) (by omega)) (fun v3 h3 hv3 => ?_)
    obtain ⟨rfl, w2, o2⟩ := hv3
    refine b_X9_enter_20 (fun _ => ?_) (fun y => absurd rfl y)
    refine b_X9_enter_25 w2.o (w_rrem w2 ok.2.1) (fun h5 hv5 => ?_)
    obtain ⟨w3, o3⟩ := hv5
    refine b_X9_enter_29 w3.r7 (s_enterIn w3.nw ⟨r3.1, q⟩) (fun h6 ra => ?_)
    obtain ⟨w4, o4⟩ := w3.now ra
    have e3 : enterIn r 3 = r 3 + 1 := up_same _ _ _
    refine b_X9_enter_36 w4.r7 (w4.nw.g 3) (rI ⟨fun _ => by rw [e3]; omega, by rw [if_pos e, e]; exact w4, (o2.tr o3 m (m + 8)).tr o4 m (m + 8)⟩)
  · have q := (iN_eq (by omega)).mp y
    have e : enK r = 1 := by unfold enK; rw [if_neg (by omega)]
    refine b_X9_enter_12 w.o (s_ref w (k := 1) (by omega)) (fun v3 h3 hv3 => ?_)
    obtain ⟨rfl, w2, o2⟩ := hv3
    refine b_X9_enter_20 (fun y => absurd y (by decide)) (fun _ => ?_)
    exact b_X9_enter_23 (rI ⟨fun z => by omega, by rw [if_neg (by omega), e]; exact w2, o2⟩)
theorem r_leave (w : RW h m r n D l s b K rf) (ok : OKS r n D l s b K) :
    CtI mX9_leave 6 0 0 [.ref m] h (fun u h' => (leK r = 0 → u = strV r (nR r - 1)) ∧ (if leK r = 0 then RW h' m (leaveIn r) (rmN n) (rmD r D) l s b K (leK r) else RW h' m r n D l s b K (leK r)) ∧ Off h h' m (m + 8)) := by
  have I := ok.1
  have r3 := I.r3
  have n3 : (nR r : Int) = r 3 := by unfold nR; omega
  refine en_X9_leave (b_X9_leave_0 w.r7 (w.nw.g 3) (fun y => ?_) (fun y => ?_))
  · have q : 0 < r 3 := by
      rcases Int.lt_or_le 0 (r 3) with z | z
      · exact z
      · exact absurd ((iN_eq (by omega)).mpr (by omega)) y
    have e : leK r = 0 := by unfold leK; rw [if_pos q]
    refine b_X9_leave_14 w.o (s_ref w (k := 0) (by omega)) (fun v3 h3 hv3 => ?_)
    obtain ⟨rfl, w2, o2⟩ := hv3
    refine b_X9_leave_18 (fun _ => ?_) (fun y => absurd rfl y)
    refine b_X9_leave_23 w2.o (w_rrem w2 ok.2.1) (fun h5 hv5 => ?_)
    obtain ⟨w3, o3⟩ := hv5
    refine b_X9_leave_27 w3.r7 (s_leaveIn w3.nw ⟨q, r3.2⟩ (I.J (i := nR r - 1) (by omega)).1) (fun v6 h6 hv6 => ?_)
    obtain ⟨rfl, ra⟩ := hv6
    obtain ⟨w4, o4⟩ := w3.now ra
    exact b_X9_leave_34 (rI ⟨fun _ => rfl, by rw [if_pos e, e]; exact w4, (o2.tr o3 m (m + 8)).tr o4 m (m + 8)⟩)
  · have q := (iN_eq (by omega)).mp y
    have e : leK r = 1 := by unfold leK; rw [if_neg (by omega)]
    refine b_X9_leave_10 w.o (s_ref w (k := 1) (by omega)) (fun v3 h3 hv3 => ?_)
    obtain ⟨rfl, w2, o2⟩ := hv3
    refine b_X9_leave_18 (fun y => absurd y (by decide)) (fun _ => ?_)
    exact b_X9_leave_21 (rI ⟨fun z => by omega, by rw [if_neg (by omega), e]; exact w2, o2⟩)
theorem r_jump (w : RW h m r n D l s b K rf) (ok : OKS r n D l s b K) {i : Int} (hi : -2147483648 ≤ i ∧ i < 2147483648) :
    CtI mX9_jump 6 0 0 [.ref m, .int (iN i)] h (fun u h' => (juK r i = 0 → u = strV r i.toNat) ∧ (if juK r i = 0 then RW h' m (jumpIn r i.toNat) (rmN n) (rmD r D) l s b K (juK r i) else RW h' m r n D l s b K (juK r i)) ∧ Off h h' m (m + 8)) := by
  have I := ok.1
  have r3 := I.r3
  obtain ⟨sp, gd, lf, hm⟩ := w.1
  refine en_X9_jump (b_X9_jump_0 w.o (s_isFrame hm w.nw (by omega) hi) (fun v1 h1 hv1 => ?_))
  obtain ⟨rfl, rfl⟩ := hv1
  by_cases q : 0 ≤ i ∧ i < r 3
  · have e : juK r i = 0 := by unfold juK; rw [if_pos q]
    rw [decide_eq_true q]
    refine b_X9_jump_6 (fun y => absurd y (by decide)) (fun _ => ?_)
    refine b_X9_jump_9 w.o (s_ref w (k := 0) (by omega)) (fun v3 h3 hv3 => ?_)
    obtain ⟨rfl, w2, o2⟩ := hv3
    refine b_X9_jump_17 (fun _ => ?_) (fun y => absurd rfl y)
    refine b_X9_jump_22 w2.o (w_rrem w2 ok.2.1) (fun h5 hv5 => ?_)
    obtain ⟨w3, o3⟩ := hv5
    have F := s_jumpIn w3.nw (i := i.toNat) (by omega) (I.J (by omega)).1
    rw [show ((i.toNat : Nat) : Int) = i by omega] at F
    refine b_X9_jump_26 w3.r7 F (fun v6 h6 hv6 => ?_)
    obtain ⟨rfl, ra⟩ := hv6
    obtain ⟨w4, o4⟩ := w3.now ra
    exact b_X9_jump_34 (rI ⟨fun _ => rfl, by rw [if_pos e, e]; exact w4, (o2.tr o3 m (m + 8)).tr o4 m (m + 8)⟩)
  · have e : juK r i = 1 := by unfold juK; rw [if_neg q]
    rw [decide_eq_false q]
    refine b_X9_jump_6 (fun _ => ?_) (fun y => absurd rfl y)
    refine b_X9_jump_13 w.o (s_ref w (k := 1) (by omega)) (fun v3 h3 hv3 => ?_)
    obtain ⟨rfl, w2, o2⟩ := hv3
    refine b_X9_jump_17 (fun y => absurd y (by decide)) (fun _ => ?_)
    exact b_X9_jump_20 (rI ⟨fun z => by omega, by rw [if_neg (by omega), e]; exact w2, o2⟩)
theorem r_set (w : RW h m r n D l s b K rf) (ok : OKS r n D l s b K) {a v : Int} (ha : -2147483648 ≤ a ∧ a < 2147483648) (hv : -2147483648 ≤ v ∧ v < 2147483648) :
    CtI mX9_set 2 0 0 [.ref m, .int (iN a), .int (iN v)] h (fun u h' => (seK a v = 0 → u = r (7 + a).toNat) ∧ (if seK a v = 0 then RW h' m (up r (7 + a).toNat v) (rmN n) (rmD r D) l s b K (seK a v) else RW h' m r n D l s b K (seK a v)) ∧ Off h h' m (m + 8)) := by
  have eT := iN_T hv
  have Good : isSet a v = true → AW mX9_set 2 0 0 50 [.ref m, .int (iN a), .int (iN v), vU, vU] [] h (qI (fun u h' => (seK a v = 0 → u = r (7 + a).toNat) ∧ (if seK a v = 0 then RW h' m (up r (7 + a).toNat v) (rmN n) (rmD r D) l s b K (seK a v) else RW h' m r n D l s b K (seK a v)) ∧ Off h h' m (m + 8))) := by
    intro q
    have e : seK a v = 0 := by unfold seK; rw [if_pos q]
    have hs : (a = 0 ∧ 8 ≤ v ∧ v ≤ 64) ∨ (a = 1 ∧ 0 ≤ v ∧ v ≤ 128) ∨ (a = 2 ∧ 0 ≤ v ∧ v ≤ 1) := by unfold isSet at q; exact of_decide_eq_true q
    refine b_X9_set_50 (fun y => absurd y (by decide)) (fun _ => ?_)
    refine b_X9_set_61 w.o (s_ref w (k := 0) (by omega)) (fun v3 h3 hv3 => ?_)
    obtain ⟨rfl, w2, o2⟩ := hv3
    refine b_X9_set_69 (fun _ => ?_) (fun y => absurd rfl y)
    refine b_X9_set_74 w2.o (w_rrem w2 ok.2.1) (fun h5 hv5 => ?_)
    obtain ⟨w3, o3⟩ := hv5
    have ra := (RA.st w3.nw).s (7 + a).toNat (v := v) (z := 7 + a)
    obtain ⟨w4, o4⟩ := w3.now ra
    exact b_X9_set_78 w3.r7 (w3.nw.g (7 + a).toNat) w3.r7 (w3.nw.g (7 + a).toNat) (rI ⟨fun _ => rfl, by rw [if_pos e, e]; exact w4, (o2.tr o3 m (m + 8)).tr o4 m (m + 8)⟩)
  have Bad : isSet a v = false → AW mX9_set 2 0 0 54 [.ref m, .int (iN a), .int (iN v), vU, vU] [] h (qI (fun u h' => (seK a v = 0 → u = r (7 + a).toNat) ∧ (if seK a v = 0 then RW h' m (up r (7 + a).toNat v) (rmN n) (rmD r D) l s b K (seK a v) else RW h' m r n D l s b K (seK a v)) ∧ Off h h' m (m + 8))) := by
    intro q
    have e : seK a v = 1 := by unfold seK; rw [if_neg (by rw [q]; decide)]
    refine b_X9_set_54 (fun _ => ?_) (fun y => absurd rfl y)
    refine b_X9_set_65 w.o (s_ref w (k := 1) (by omega)) (fun v3 h3 hv3 => ?_)
    obtain ⟨rfl, w2, o2⟩ := hv3
    refine b_X9_set_69 (fun y => absurd y (by decide)) (fun _ => ?_)
    exact b_X9_set_72 (rI ⟨fun z => by omega, by rw [if_neg (by omega), e]; exact w2, o2⟩)
  have B2 : ¬ a = 0 → ¬ a = 1 → AW mX9_set 2 0 0 35 [.ref m, .int (iN a), .int (iN v), vU, vU] [] h (qI (fun u h' => (seK a v = 0 → u = r (7 + a).toNat) ∧ (if seK a v = 0 then RW h' m (up r (7 + a).toNat v) (rmN n) (rmD r D) l s b K (seK a v) else RW h' m r n D l s b K (seK a v)) ∧ Off h h' m (m + 8))) := by
    intro n0 n1
    refine b_X9_set_35 (fun y => ?_) (fun y => ?_)
    · have y1 : ¬ a = 2 := fun z => y (by rw [z])
      exact Bad (by unfold isSet; exact decide_eq_false (by omega))
    · have y1 := (iN_eq (by omega)).mp y
      refine b_X9_set_40 (s_in (by omega) (by omega) (by omega)) (fun v2 h2 hv2 => ?_)
      obtain ⟨rfl, rfl⟩ := hv2
      rw [eT]
      by_cases q : 0 ≤ v ∧ v ≤ 1
      · rw [decide_eq_true q]
        exact b_X9_set_47 (fun y => absurd y (by decide)) (fun _ => Good (by unfold isSet; exact decide_eq_true (by omega)))
      · rw [decide_eq_false q]
        exact b_X9_set_47 (fun _ => Bad (by unfold isSet; exact decide_eq_false (by omega))) (fun y => absurd rfl y)
  have B1 : ¬ a = 0 → AW mX9_set 2 0 0 18 [.ref m, .int (iN a), .int (iN v), vU, vU] [] h (qI (fun u h' => (seK a v = 0 → u = r (7 + a).toNat) ∧ (if seK a v = 0 then RW h' m (up r (7 + a).toNat v) (rmN n) (rmD r D) l s b K (seK a v) else RW h' m r n D l s b K (seK a v)) ∧ Off h h' m (m + 8))) := by
    intro n0
    refine b_X9_set_18 (fun y => B2 n0 (fun z => y (by rw [z]))) (fun y => ?_)
    have y1 := (iN_eq (by omega)).mp y
    refine b_X9_set_23 (s_in (by omega) (by omega) (by omega)) (fun v2 h2 hv2 => ?_)
    obtain ⟨rfl, rfl⟩ := hv2
    rw [eT]
    by_cases q : 0 ≤ v ∧ v ≤ 128
    · rw [decide_eq_true q]
      exact b_X9_set_32 (fun _ => Good (by unfold isSet; exact decide_eq_true (by omega))) (fun y => absurd y (by decide))
    · rw [decide_eq_false q]
      refine b_X9_set_32 (fun y => absurd rfl y) (fun _ => ?_)
      refine b_X9_set_35 (fun y => Bad (by unfold isSet; exact decide_eq_false (by omega))) (fun y => ?_)
      have := (iN_eq (by omega)).mp y
      omega
  refine en_X9_set (b_X9_set_0 (fun y => B1 (fun z => y (by rw [z]))) (fun y => ?_))
  have y1 := (iN_eq (by omega)).mp y
  refine b_X9_set_4 (s_in (by omega) (by omega) (by omega)) (fun v2 h2 hv2 => ?_)
  obtain ⟨rfl, rfl⟩ := hv2
  rw [eT]
  by_cases q : 8 ≤ v ∧ v ≤ 64
  · rw [decide_eq_true q]
    exact b_X9_set_15 (fun _ => Good (by unfold isSet; exact decide_eq_true (by omega))) (fun y => absurd y (by decide))
  · rw [decide_eq_false q]
    refine b_X9_set_15 (fun y => absurd rfl y) (fun _ => ?_)
    refine b_X9_set_18 (fun _ => ?_) (fun y => by have := (iN_eq (by omega)).mp y; omega)
    refine b_X9_set_35 (fun y => Bad (by unfold isSet; exact decide_eq_false (by omega))) (fun y => ?_)
    have := (iN_eq (by omega)).mp y
    omega
theorem r_undo (w : RW h m r n D l s b K rf) (ok : OKS r n D l s b K) :
    CtI mX9_undo 1 0 0 [.ref m] h (fun u h' => (unK n = 0 → u = (n : Int) - 1) ∧ (if unK n = 0 then RW h' m (D 0) (n - 1) (fun i => D (i + 1)) l s b K (unK n) else RW h' m r n D l s b K (unK n)) ∧ Off h h' m (m + 8)) := by
  have w9 := w
  obtain ⟨⟨sp, gd, lf, hm⟩, hs, ⟨rd, hrd⟩, hn, ⟨tr, htr⟩, ⟨d, hd, hD⟩, ⟨e, he, hK⟩, hb⟩ := w
  rcases Nat.eq_zero_or_pos n with z | z
  · have ek : unK n = 1 := by unfold unK; rw [if_pos z]
    subst z
    refine Ct.moI (s_rundo0 hm) (fun v h9 q => ?_)
    obtain ⟨-, q2, q4⟩ := q
    refine ⟨fun y => by omega, ?_, q4.up m (m + 8)⟩
    rw [if_neg (by omega), ek]
    exact ⟨⟨sp, gd, lf, q2⟩, (q4.2 _ (by omega)).trans hs, ⟨rd, (q4.2 _ (by omega)).trans hrd⟩, (q4.2 _ (by omega)).trans hn, ⟨tr, (q4.2 _ (by omega)).trans htr⟩, ⟨d, (q4.2 _ (by omega)).trans hd, hD⟩, ⟨e, (q4.2 _ (by omega)).trans he, hK⟩, hb.off q4⟩
  · have ek : unK n = 0 := by unfold unK; rw [if_neg (by omega)]
    refine Ct.moI (s_rundo hm hn hd ok.2.1 z hD) (fun v h9 q => ?_)
    obtain ⟨q1, q2, q3, q4, q5, q6⟩ := q
    refine ⟨fun _ => by rw [q1]; omega, ?_, q5⟩
    rw [if_pos ek, ek]
    exact ⟨⟨sp, gd, lf, q2⟩, (q6 _ (by omega) (by omega)).trans hs, ⟨rd, (q6 _ (by omega) (by omega)).trans hrd⟩, q3, ⟨tr, (q6 _ (by omega) (by omega)).trans htr⟩, ⟨d, (q6 _ (by omega) (by omega)).trans hd, q4⟩, ⟨e, (q6 _ (by omega) (by omega)).trans he, hK⟩, (q6 _ (by omega) (by omega)).trans hb⟩
theorem r_where (w : RW h m r n D l s b K rf) (I : Inv r) {z t : Int} (hz : -2147483648 ≤ z ∧ z < 2147483648) (ht : -2147483648 ≤ t ∧ t < 2147483648) :
    CtI mX9_where 4 0 0 [.ref m, .int (iN z), .int (iN t)] h (fun v h' => (knK z t = 0 → v = whereIn r z t) ∧ RW h' m r n D l s b K (knK z t) ∧ Off h h' m (m + 8)) := by
  have Bad : isKnd z t = false → AW mX9_where 4 0 0 18 [.ref m, .int (iN z), .int (iN t), vU] [] h (qI (fun v h' => (knK z t = 0 → v = whereIn r z t) ∧ RW h' m r n D l s b K (knK z t) ∧ Off h h' m (m + 8))) := by
    intro q
    have e : knK z t = 1 := by unfold knK; rw [if_neg (by rw [q]; decide)]
    refine b_X9_where_18 (fun _ => ?_) (fun y => absurd rfl y)
    refine b_X9_where_29 w.o (s_ref w (k := 1) (by omega)) (fun v h2 hv => ?_)
    obtain ⟨rfl, w2, o2⟩ := hv
    refine b_X9_where_33 (fun y => absurd y (by decide)) (fun _ => ?_)
    exact b_X9_where_36 (rI ⟨fun z => by omega, by rw [e]; exact w2, o2⟩)
  refine en_X9_where (b_X9_where_0 (s_isTentSize hz) (fun v h1 hv => ?_))
  obtain ⟨rfl, rfl⟩ := hv
  by_cases q : 1 ≤ z ∧ z ≤ 40
  · rw [decide_eq_true q]
    refine b_X9_where_4 (fun y => absurd y (by decide)) (fun _ => ?_)
    refine b_X9_where_7 (s_risStep ht) (fun v h2 hv => ?_)
    obtain ⟨rfl, rfl⟩ := hv
    cases q2 : isStp t
    · exact b_X9_where_11 (fun _ => Bad (by
        unfold isStp at q2
        unfold isKnd
        exact decide_eq_false (fun z => absurd z.2 (of_decide_eq_false q2)))) (fun y => absurd rfl y)
    · have st := isStp_T q2
      have hk : isKnd z t = true := by unfold isKnd; rw [decide_eq_true ⟨q, st⟩]
      have e : knK z t = 0 := by unfold knK; rw [if_pos hk]
      refine b_X9_where_11 (fun y => absurd y (by decide)) (fun _ => ?_)
      refine b_X9_where_14 (fun y => absurd y (by decide)) (fun _ => ?_)
      refine b_X9_where_25 w.o (s_ref w (k := 0) (by omega)) (fun v h3 hv => ?_)
      obtain ⟨rfl, w2, o2⟩ := hv
      refine b_X9_where_33 (fun _ => ?_) (fun y => absurd rfl y)
      refine b_X9_where_40 w2.r7 (s_whereIn w2.nw I.1.k q (by omega)) (fun v h4 hv => ?_)
      obtain ⟨rfl, rfl⟩ := hv
      exact b_X9_where_49 (rI ⟨fun _ => rfl, by rw [e]; exact w2, o2⟩)
  · rw [decide_eq_false q]
    exact b_X9_where_4 (fun _ => Bad (by unfold isKnd; exact decide_eq_false (fun z => q z.1))) (fun y => absurd rfl y)
theorem w_begin (w : RW h m r n D l s b K rf) : CtV mX9_begin 1 0 0 [.ref m] h (fun h' => RW h' m r n D l s b K rf ∧ ari h' (m + 4) 690 r ∧ Off h h' m (m + 8)) := by
  have w9 := w
  obtain ⟨⟨sp, gd, lf, hm⟩, hs, ⟨rd, hrd⟩, hn, ⟨tr, htr⟩, ⟨d, hd, hD⟩, ⟨e, he, hK⟩, hb⟩ := w
  refine Ct.moV (s_begin hm hn htr) (fun h' ra => ?_)
  have t := w9.tri ra
  exact ⟨t.1, ra.a, t.2⟩
theorem r_givenUp (w : RW h m r n D l s b K rf) (I : Inv r) {i : Int} (hi : -2147483648 ≤ i ∧ i < 2147483648) :
    CtI mX9_givenUp 6 0 0 [.ref m, .int (iN i)] h (fun u h' => (juK r i = 0 → u = allP r - allP (jumpIn r i.toNat)) ∧ RW h' m r n D l s b K (juK r i) ∧ Off h h' m (m + 8)) := by
  have r3 := I.r3
  have hk := I.1.k
  obtain ⟨sp, gd, lf, hm⟩ := w.1
  refine en_X9_givenUp (b_X9_givenUp_0 w.o (s_isFrame hm w.nw (by omega) hi) (fun v1 h1 hv1 => ?_))
  obtain ⟨rfl, rfl⟩ := hv1
  by_cases q : 0 ≤ i ∧ i < r 3
  · have e : juK r i = 0 := by unfold juK; rw [if_pos q]
    rw [decide_eq_true q]
    refine b_X9_givenUp_6 (fun y => absurd y (by decide)) (fun _ => ?_)
    refine b_X9_givenUp_9 w.o (s_ref w (k := 0) (by omega)) (fun v3 h3 hv3 => ?_)
    obtain ⟨rfl, w2, o2⟩ := hv3
    refine b_X9_givenUp_17 (fun _ => ?_) (fun y => absurd rfl y)
    refine b_X9_givenUp_22 w2.o (w_begin w2) (fun h5 hv5 => ?_)
    obtain ⟨w3, t3, o3⟩ := hv5
    have F := s_jumpIn t3 (i := i.toNat) (by omega) (I.J (by omega)).1
    rw [show ((i.toNat : Nat) : Int) = i by omega] at F
    have IJ := I.jump (i := i.toNat) (by omega)
    have hkJ := IJ.1.k
    refine b_X9_givenUp_26 w3.r8 F (fun v6 h6 hv6 => ?_)
    obtain ⟨-, ra⟩ := hv6
    obtain ⟨w4, o4⟩ := w3.tri ra
    refine b_X9_givenUp_34 w4.r7 (s_allPlaces w4.nw ⟨hk.1.1, by have := hk.1.2; omega⟩ ⟨hk.2.1.1, by have := hk.2.1.2; omega⟩) (fun v7 h7 hv7 => ?_)
    obtain ⟨rfl, rfl⟩ := hv7
    refine b_X9_givenUp_42 w4.r8 (s_allPlaces ra.a ⟨hkJ.1.1, by have := hkJ.1.2; omega⟩ ⟨hkJ.2.1.1, by have := hkJ.2.1.2; omega⟩) (fun v8 h8 hv8 => ?_)
    obtain ⟨rfl, rfl⟩ := hv8
    exact b_X9_givenUp_49 (rI ⟨fun _ => rfl, by rw [e]; exact w4, (o2.tr o3 m (m + 8)).tr o4 m (m + 8)⟩)
  · have e : juK r i = 1 := by unfold juK; rw [if_neg q]
    rw [decide_eq_false q]
    refine b_X9_givenUp_6 (fun _ => ?_) (fun y => absurd rfl y)
    refine b_X9_givenUp_13 w.o (s_ref w (k := 1) (by omega)) (fun v3 h3 hv3 => ?_)
    obtain ⟨rfl, w2, o2⟩ := hv3
    refine b_X9_givenUp_17 (fun y => absurd y (by decide)) (fun _ => ?_)
    exact b_X9_givenUp_20 (rI ⟨fun z => by omega, by rw [e]; exact w2, o2⟩)
theorem r_bestSize (w : RW h m r n D l s b K rf) (I : Inv r) : CtI mX9_bestSize 7 0 0 [.ref m] h (fun v h' => v = (bst r 57).1 ∧ RW h' m r n D l s b K 0 ∧ Off h h' m (m + 8)) := by
  obtain ⟨⟨sp, gd, lf, hm⟩, hs, ⟨rd, hrd⟩, hn, ⟨tr, htr⟩, ⟨d, hd, hD⟩, ⟨e, he, hK⟩, hb⟩ := w
  refine Ct.moI (s_rbestSize hm hn htr I) (fun v h9 q => ?_)
  obtain ⟨q1, q2, q3, q5, q6⟩ := q
  exact ⟨q1, ⟨⟨sp, gd, lf, q2⟩, (q6 _ (by omega) (by omega)).trans hs, ⟨rd, (q6 _ (by omega) (by omega)).trans hrd⟩, (q6 _ (by omega) (by omega)).trans hn, q3, ⟨d, (q6 _ (by omega) (by omega)).trans hd, hD⟩, ⟨e, (q6 _ (by omega) (by omega)).trans he, hK⟩, (q6 _ (by omega) (by omega)).trans hb⟩, q5⟩
theorem r_more (w : RW h m r n D l s b K rf) (I : Inv r) {z t : Int} (hz : -2147483648 ≤ z ∧ z < 2147483648) (ht : -2147483648 ≤ t ∧ t < 2147483648) :
    CtI mX9_more 5 0 0 [.ref m, .int (iN z), .int (iN t)] h (fun v h' => (knK z t = 0 → v = mrV z t 257 r) ∧ RW h' m r n D l s b K (knK z t) ∧ Off h h' m (m + 8)) := by
  have Bad : isKnd z t = false → AW mX9_more 5 0 0 18 [.ref m, .int (iN z), .int (iN t), vU, vU] [] h (qI (fun v h' => (knK z t = 0 → v = mrV z t 257 r) ∧ RW h' m r n D l s b K (knK z t) ∧ Off h h' m (m + 8))) := by
    intro q
    have e : knK z t = 1 := by unfold knK; rw [if_neg (by rw [q]; decide)]
    refine b_X9_more_18 (fun _ => ?_) (fun y => absurd rfl y)
    refine b_X9_more_29 w.o (s_ref w (k := 1) (by omega)) (fun v h2 hv => ?_)
    obtain ⟨rfl, w2, o2⟩ := hv
    refine b_X9_more_33 (fun y => absurd y (by decide)) (fun _ => ?_)
    exact b_X9_more_36 (rI ⟨fun z => by omega, by rw [e]; exact w2, o2⟩)
  refine en_X9_more (b_X9_more_0 (s_isTentSize hz) (fun v h1 hv => ?_))
  obtain ⟨rfl, rfl⟩ := hv
  by_cases q : 1 ≤ z ∧ z ≤ 40
  · rw [decide_eq_true q]
    refine b_X9_more_4 (fun y => absurd y (by decide)) (fun _ => ?_)
    refine b_X9_more_7 (s_risStep ht) (fun v h2 hv => ?_)
    obtain ⟨rfl, rfl⟩ := hv
    cases q2 : isStp t
    · exact b_X9_more_11 (fun _ => Bad (by
        unfold isStp at q2
        unfold isKnd
        exact decide_eq_false (fun z => absurd z.2 (of_decide_eq_false q2)))) (fun y => absurd rfl y)
    · have st := isStp_T q2
      have hk : isKnd z t = true := by unfold isKnd; rw [decide_eq_true ⟨q, st⟩]
      have e : knK z t = 0 := by unfold knK; rw [if_pos hk]
      refine b_X9_more_11 (fun y => absurd y (by decide)) (fun _ => ?_)
      refine b_X9_more_14 (fun y => absurd y (by decide)) (fun _ => ?_)
      refine b_X9_more_25 w.o (s_ref w (k := 0) (by omega)) (fun v h3 hv => ?_)
      obtain ⟨rfl, w2, o2⟩ := hv
      refine b_X9_more_33 (fun _ => ?_) (fun y => absurd rfl y)
      refine b_X9_more_38 w2.o (w_begin w2) (fun h4 hv => ?_)
      obtain ⟨w3, t3, o3⟩ := hv
      refine b_X9_more_42 ?_
      obtain ⟨sp3, gd3, lf3, hm3⟩ := w3.1
      refine s_moreR hm3 t3 I.1 ⟨I.2.2.2.1.2.1.1, I.2.2.2.1.2.1.2⟩ q (by omega) (fun h5 g5 => ?_)
      obtain ⟨g, ra⟩ := g5
      obtain ⟨w4, o4⟩ := w3.tri ra
      exact rI ⟨fun _ => rfl, by rw [e]; exact w4, (o2.tr o3 m (m + 8)).tr o4 m (m + 8)⟩
  · rw [decide_eq_false q]
    exact b_X9_more_4 (fun _ => Bad (by unfold isKnd; exact decide_eq_false (fun z => q z.1))) (fun y => absurd rfl y)
theorem r_save (w : RW h m r n D l s b K rf) {i : Int} (hi : -2147483648 ≤ i ∧ i < 2147483648) :
    CtI mX9_save 1 0 0 [.ref m, .int (iN i)] h (fun u h' => (saK i = 0 → u = r 0) ∧ (if saK i = 0 then RW h' m r n D l s (fun j => if j = i.toNat then true else b j) (fun j => if j = i.toNat then r else K j) (saK i) else RW h' m r n D l s b K (saK i)) ∧ Off h h' m (m + 8)) := by
  obtain ⟨⟨sp, gd, lf, hm⟩, hs, ⟨rd, hrd⟩, hn, ⟨tr, htr⟩, ⟨d, hd, hD⟩, ⟨e, he, hK⟩, hb⟩ := w
  by_cases q : 0 ≤ i ∧ i ≤ 1
  · have ek : saK i = 0 := by unfold saK; rw [if_pos q]
    have S := s_rsave hm hn he hb hK (s := i.toNat) (by omega)
    rw [show ((i.toNat : Nat) : Int) = i by omega] at S
    refine Ct.moI S (fun v h9 z => ?_)
    obtain ⟨q1, q2, q3, q4, q5, q6⟩ := z
    refine ⟨fun _ => q1, ?_, q5⟩
    rw [if_pos ek, ek]
    exact ⟨⟨sp, gd, lf, q2⟩, (q6 _ (by omega) (by omega) (by omega)).trans hs, ⟨rd, (q6 _ (by omega) (by omega) (by omega)).trans hrd⟩, (q6 _ (by omega) (by omega) (by omega)).trans hn, ⟨tr, (q6 _ (by omega) (by omega) (by omega)).trans htr⟩, ⟨d, (q6 _ (by omega) (by omega) (by omega)).trans hd, hD⟩, q4, q3⟩
  · have ek : saK i = 1 := by unfold saK; rw [if_neg q]
    refine Ct.moI (s_rsaveN hm hi q) (fun v h9 z => ?_)
    obtain ⟨-, q2, q4⟩ := z
    refine ⟨fun y => by omega, ?_, q4.up m (m + 8)⟩
    rw [if_neg (by omega), ek]
    exact ⟨⟨sp, gd, lf, q2⟩, (q4.2 _ (by omega)).trans hs, ⟨rd, (q4.2 _ (by omega)).trans hrd⟩, (q4.2 _ (by omega)).trans hn, ⟨tr, (q4.2 _ (by omega)).trans htr⟩, ⟨d, (q4.2 _ (by omega)).trans hd, hD⟩, ⟨e, (q4.2 _ (by omega)).trans he, hK⟩, hb.off q4⟩
theorem r_restore (w : RW h m r n D l s b K rf) {i : Int} (hi : -2147483648 ≤ i ∧ i < 2147483648) :
    CtI mX9_restore 1 0 0 [.ref m, .int (iN i)] h (fun u h' => (reK b i = 0 → u = K i.toNat 0) ∧ (if reK b i = 0 then RW h' m (K i.toNat) 0 D l s b K (reK b i) else RW h' m r n D l s b K (reK b i)) ∧ Off h h' m (m + 8)) := by
  obtain ⟨⟨sp, gd, lf, hm⟩, hs, ⟨rd, hrd⟩, hn, ⟨tr, htr⟩, ⟨d, hd, hD⟩, ⟨e, he, hK⟩, hb⟩ := w
  have Fin : ∀ (k : Int) (h9 : AH), reK b i = k → k ≠ 0 → mob h9 m k l sp gd lf n → Off h h9 m (m + 1) → ∀ v, (fun (u : Int) h' => (reK b i = 0 → u = K i.toNat 0) ∧ (if reK b i = 0 then RW h' m (K i.toNat) 0 D l s b K (reK b i) else RW h' m r n D l s b K (reK b i)) ∧ Off h h' m (m + 8)) v h9 := by
    intro k h9 ek k0 q2 q4 v
    refine ⟨fun y => by omega, ?_, q4.up m (m + 8)⟩
    rw [if_neg (by omega), ek]
    exact ⟨⟨sp, gd, lf, q2⟩, (q4.2 _ (by omega)).trans hs, ⟨rd, (q4.2 _ (by omega)).trans hrd⟩, (q4.2 _ (by omega)).trans hn, ⟨tr, (q4.2 _ (by omega)).trans htr⟩, ⟨d, (q4.2 _ (by omega)).trans hd, hD⟩, ⟨e, (q4.2 _ (by omega)).trans he, hK⟩, hb.off q4⟩
  by_cases q : 0 ≤ i ∧ i ≤ 1
  · have ei : ((i.toNat : Nat) : Int) = i := by omega
    cases z : b i.toNat
    · have ek : reK b i = 2 := by unfold reK; rw [if_neg (fun y => y q), if_neg (by rw [z]; decide)]
      have S := s_rrestE hm hb (s := i.toNat) (by omega) z
      rw [ei] at S
      exact Ct.moI S (fun v h9 y => Fin 2 h9 ek (by omega) y.2.1 y.2.2 v)
    · have ek : reK b i = 0 := by unfold reK; rw [if_neg (fun y => y q), if_pos z]
      have S := s_rrest hm hn he hb hK (s := i.toNat) (by omega) z
      rw [ei] at S
      refine Ct.moI S (fun v h9 y => ?_)
      obtain ⟨q1, q2, q3, q5, q6⟩ := y
      refine ⟨fun _ => q1, ?_, q5⟩
      rw [if_pos ek, ek]
      exact ⟨⟨sp, gd, lf, q2⟩, (q6 _ (by omega) (by omega)).trans hs, ⟨rd, (q6 _ (by omega) (by omega)).trans hrd⟩, q3, ⟨tr, (q6 _ (by omega) (by omega)).trans htr⟩, ⟨d, (q6 _ (by omega) (by omega)).trans hd, fun i hi => by omega⟩, ⟨e, (q6 _ (by omega) (by omega)).trans he, hK⟩, (q6 _ (by omega) (by omega)).trans hb⟩
  · have ek : reK b i = 1 := by unfold reK; rw [if_pos q]
    exact Ct.moI (s_rrestN hm hi q) (fun v h9 y => Fin 1 h9 ek (by omega) y.2.1 y.2.2 v)
theorem r_runScript (w : RW h m r n D l s b K rf) (I : Inv r) {a t : Int} (ha : -2147483648 ≤ a ∧ a < 2147483648) (ht : -9223372036854775808 ≤ t ∧ t < 9223372036854775808) :
    CtI mX9_runScript 8 0 0 [.ref m, .int (iN a), .long (jN t)] h (fun v h' => (rsK a t = 0 → v = rsV a t r) ∧ RW h' m r n D l s b K (rsK a t) ∧ Off h h' m (m + 8)) := by
  have eT := iN_T ha
  have Bad : rsK a t = 1 → ∀ l4 : Int, AW mX9_runScript 8 0 0 46 [.ref m, .int (iN a), .long (jN t), vU, .int (iN l4), vU] [.ref m] h (qI (fun v h' => (rsK a t = 0 → v = rsV a t r) ∧ RW h' m r n D l s b K (rsK a t) ∧ Off h h' m (m + 8))) := by
    intro e l4
    refine b_X9_runScript_46 w.o (s_ref w (k := 1) (by omega)) (fun v h2 hv => ?_)
    obtain ⟨rfl, w2, o2⟩ := hv
    refine b_X9_runScript_50 (fun y => absurd y (by decide)) (fun _ => ?_)
    exact b_X9_runScript_53 (rI ⟨fun z => by omega, by rw [e]; exact w2, o2⟩)
  refine en_X9_runScript (b_X9_runScript_0 (s_in (by omega) (by omega) (by omega)) (fun v h1 hv => ?_))
  obtain ⟨rfl, rfl⟩ := hv
  rw [eT]
  by_cases q : 1 ≤ a ∧ a ≤ 3
  · rw [decide_eq_true q]
    have ea : a = ((a.toNat : Nat) : Int) := by omega
    have pr := pw_rg (j := a.toNat) (by omega)
    refine b_X9_runScript_9 (fun y => absurd y (by decide)) (fun _ => ?_)
    refine b_X9_runScript_17 (fun y => absurd y (by decide)) (fun _ => ?_)
    have T := s_tenTo (h := h1) a.toNat (by omega)
    rw [show ((5 * a.toNat : Nat) : Int) = 5 * a by omega] at T
    refine b_X9_runScript_24 T (fun v h2 hv => ?_)
    obtain ⟨rfl, rfl⟩ := hv
    refine b_X9_runScript_34 (s_in ht (by omega) (by omega)) (fun v h3 hv => ?_)
    obtain ⟨rfl, rfl⟩ := hv
    by_cases q2 : 0 ≤ t ∧ t ≤ pw a.toNat - 1
    · have e : rsK a t = 0 := by unfold rsK; rw [if_pos ⟨q, q2.1, by omega⟩]
      rw [decide_eq_true q2]
      refine b_X9_runScript_39 (fun y => absurd y (by decide)) (fun _ => ?_)
      refine b_X9_runScript_42 w.o (s_ref w (k := 0) (by omega)) (fun v h4 hv => ?_)
      obtain ⟨rfl, w2, o2⟩ := hv
      refine b_X9_runScript_50 (fun _ => ?_) (fun y => absurd rfl y)
      refine b_X9_runScript_55 w2.o (w_begin w2) (fun h5 hv => ?_)
      obtain ⟨w3, t3, o3⟩ := hv
      refine b_X9_runScript_59 ?_
      have H : ∀ (j k : Nat) (h6 : AH) (r3 : Nat → Int), k + j = a.toNat → RW h6 m r n D l s b K 0 ∧ Off h3 h6 m (m + 8) → ari h6 (m + 4) 690 r3 → Inv r3 → rsV a t r = (rsL t a.toNat j k r3).1 → AW mX9_runScript 8 0 0 62 [.ref m, .int (iN a), .long (jN t), vU, .int (iN (bI true)), .int (iN (k : Int))] [] h6 (qI (fun v h' => (rsK a t = 0 → v = rsV a t r) ∧ RW h' m r n D l s b K (rsK a t) ∧ Off h3 h' m (m + 8))) := by
        intro j
        induction j with
        | zero =>
          intro k h6 r3 hk W t6 I6 ev
          refine b_X9_runScript_62 (fun _ => ?_) (fun z => absurd ((iN_le (by omega)).mpr (by omega)) z)
          exact b_X9_runScript_102 (rI ⟨fun _ => ev.symm, by rw [e]; exact W.1, W.2⟩)
        | succ j ih =>
          intro k h6 r3 hk W t6 I6 ev
          have pk := pw_rg (j := a.toNat - 1 - k) (by omega)
          have k0 := jN_div (a := t) (b := pw (a.toNat - 1 - k)) (by omega) (by omega)
          have q0 : 0 ≤ t / pw (a.toNat - 1 - k) := Int.ediv_nonneg (by omega) (by omega)
          have q1 : t / pw (a.toNat - 1 - k) ≤ t := Int.ediv_le_self _ (by omega)
          have m0 := jN_rem (a := t / pw (a.toNat - 1 - k)) (b := 100000) (by omega) (by omega)
          have g0 : 0 ≤ t / pw (a.toNat - 1 - k) % 100000 ∧ t / pw (a.toNat - 1 - k) % 100000 < 100000 := by omega
          have gi := j2i (a := t / pw (a.toNat - 1 - k) % 100000) (by omega)
          have nz : ¬ jN (pw (a.toNat - 1 - k)) = 0 := fun z => by
            have : (jN (pw (a.toNat - 1 - k))).toInt = 0 := by rw [z]; rfl
            rw [jN_T (by omega)] at this
            omega
          have er : rsL t a.toNat (j + 1) k r3 = if (doM (t / pw (a.toNat - 1 - k) % 100000) r3).1 = true then rsL t a.toNat j (k + 1) (doM (t / pw (a.toNat - 1 - k) % 100000) r3).2 else ((k : Int), (doM (t / pw (a.toNat - 1 - k) % 100000) r3).2) := rfl
          rw [er] at ev
          obtain ⟨sp6, gd6, lf6, hm6⟩ := W.1.1
          have G := s_does hm6 t6 I6 g0
          rw [← gi, ← m0, ← k0] at G
          refine b_X9_runScript_62 (fun z => by have := (iN_le (by omega)).mp z; omega) (fun _ => ?_)
          have T := s_tenTo (h := h6) (a.toNat - 1 - k) (by omega)
          rw [show ((5 * (a.toNat - 1 - k) : Nat) : Int) = 5 * ((a - 1) - (k : Int)) by omega] at T
          refine b_X9_runScript_68 T (fun v h7 hv => ?_)
          obtain ⟨rfl, rfl⟩ := hv
          refine b_X9_runScript_81 nz W.1.o G (fun v h8 hv => ?_)
          rw [k0, m0, gi] at hv
          obtain ⟨rfl, ra⟩ := hv
          obtain ⟨w8, o8⟩ := W.1.tri ra
          have W5 : RW h8 m r n D l s b K 0 ∧ Off h3 h8 m (m + 8) := ⟨w8, W.2.tr o8 m (m + 8)⟩
          cases hd : (doM (t / pw (a.toNat - 1 - k) % 100000) r3).1
          · rw [hd, if_neg (by decide)] at ev
            refine b_X9_runScript_90 (fun y => absurd rfl y) (fun _ => ?_)
            exact b_X9_runScript_93 (rI ⟨fun _ => ev.symm, by rw [e]; exact W5.1, W5.2⟩)
          · rw [hd, if_pos rfl] at ev
            refine b_X9_runScript_90 (fun _ => ?_) (fun y => absurd y (by decide))
            refine b_X9_runScript_96 ?_
            rw [show (k : Int) + 1 = ((k + 1 : Nat) : Int) by omega]
            exact ih (k + 1) h8 _ (by omega) W5 ra.a (doM_inv I6 g0) ev
      exact H a.toNat 0 h5 r (by omega) ⟨w3, o2.tr o3 m (m + 8)⟩ t3 I rfl
    · have e : rsK a t = 1 := by unfold rsK; rw [if_neg (by omega)]
      rw [decide_eq_false q2]
      exact b_X9_runScript_39 (fun _ => Bad e _) (fun y => absurd rfl y)
  · have e : rsK a t = 1 := by unfold rsK; rw [if_neg (fun z => q z.1)]
    rw [decide_eq_false q]
    exact b_X9_runScript_9 (fun _ => Bad e _) (fun y => absurd rfl y)
theorem r_simulate (w : RW h m r n D l s b K rf) (I : Inv r) {a t : Int} (ha : -2147483648 ≤ a ∧ a < 2147483648) :
    CtI mX9_simulate 8 0 0 [.ref m, .long (jN t), .int (iN a)] h (fun v h' => (siK a = 0 → v = siV t a r) ∧ RW h' m r n D l s b K (siK a) ∧ Off h h' m (m + 8)) := by
  have eT := iN_T ha
  refine en_X9_simulate (b_X9_simulate_0 (s_in (by omega) (by omega) (by omega)) (fun v h1 hv => ?_))
  obtain ⟨rfl, rfl⟩ := hv
  rw [eT]
  by_cases q : 1 ≤ a ∧ a ≤ 99
  · have e : siK a = 0 := by unfold siK; rw [if_pos q]
    rw [decide_eq_true q]
    refine b_X9_simulate_10 (fun y => absurd y (by decide)) (fun _ => ?_)
    refine b_X9_simulate_13 w.o (s_ref w (k := 0) (by omega)) (fun v h4 hv => ?_)
    obtain ⟨rfl, w2, o2⟩ := hv
    refine b_X9_simulate_21 (fun _ => ?_) (fun y => absurd rfl y)
    refine b_X9_simulate_26 w2.o (w_begin w2) (fun h5 hv => ?_)
    obtain ⟨w3, t3, o3⟩ := hv
    refine b_X9_simulate_30 ?_
    have H : ∀ (j k : Nat) (h6 : AH) (r3 : Nat → Int) (u : Int), k + j = a.toNat → RW h6 m r n D l s b K 0 ∧ Off h1 h6 m (m + 8) → ari h6 (m + 4) 690 r3 → Inv r3 → smL a.toNat t r = smL j u r3 → AW mX9_simulate 8 0 0 36 [.ref m, .long (jN t), vU, .int (iN a), .long (jN u), vU, .int (iN (k : Int))] [] h6 (qI (fun v h' => (siK a = 0 → v = siV t a r) ∧ RW h' m r n D l s b K (siK a) ∧ Off h1 h' m (m + 8))) := by
      intro j
      induction j with
      | zero =>
        intro k h6 r3 u hk W t6 I6 ev
        have ev : smL a.toNat t r = r3 := ev
        have k6 := I6.1.k
        refine b_X9_simulate_36 (fun _ => ?_) (fun z => absurd ((iN_le (by omega)).mpr (by omega)) z)
        refine b_X9_simulate_70 W.1.r8 (t6.g 6) W.1.r7 (W.1.nw.g 6) W.1.r8 (s_allPlaces t6 ⟨k6.1.1, by have := k6.1.2; omega⟩ ⟨k6.2.1.1, by have := k6.2.1.2; omega⟩) (fun v h7 hv => ?_)
        obtain ⟨rfl, rfl⟩ := hv
        exact b_X9_simulate_96 (rI ⟨fun _ => by unfold siV; rw [ev], by rw [e]; exact W.1, W.2⟩)
      | succ j ih =>
        intro k h6 r3 u hk W t6 I6 ev
        have er : smL (j + 1) u r3 = smL j (gen u) (stM (rnd (gen u)) r3) := rfl
        rw [er] at ev
        obtain ⟨sp6, gd6, lf6, hm6⟩ := W.1.1
        have rg := rnd_rg (gen u)
        refine b_X9_simulate_36 (fun z => by have := (iN_le (by omega)).mp z; omega) (fun _ => ?_)
        refine b_X9_simulate_42 W.1.o (s_stir hm6 t6 I6 (z := rnd (gen u)) rg) (fun h7 ra => ?_)
        refine b_X9_simulate_64 ?_
        rw [show (k : Int) + 1 = ((k + 1 : Nat) : Int) by omega]
        obtain ⟨w7, o7⟩ := W.1.tri ra
        exact ih (k + 1) h7 _ _ (by omega) ⟨w7, W.2.tr o7 m (m + 8)⟩ ra.a (stM_inv I6 rg.1) ev
    exact H a.toNat 0 h5 r t (by omega) ⟨w3, o2.tr o3 m (m + 8)⟩ t3 I rfl
  · have e : siK a = 1 := by unfold siK; rw [if_neg q]
    rw [decide_eq_false q]
    refine b_X9_simulate_10 (fun _ => ?_) (fun y => absurd rfl y)
    refine b_X9_simulate_17 w.o (s_ref w (k := 1) (by omega)) (fun v h4 hv => ?_)
    obtain ⟨rfl, w2, o2⟩ := hv
    refine b_X9_simulate_21 (fun y => absurd y (by decide)) (fun _ => ?_)
    exact b_X9_simulate_24 (rI ⟨fun z => by omega, by rw [e]; exact w2, o2⟩)
end RACT
