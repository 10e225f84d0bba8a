/-! scripts and simulations: the reference's side -/
def pkR (z s : Int) (t : Nat → Int) : Bool × (Nat → Int) := if isKnd z s = true ∧ t 0 < 24 ∧ whereIn t z s ≠ 3 then (true, pitchIn t z s) else (false, t)
section SCR2
variable {h h' : AH} {m : Nat} {r : Nat → Int} {rf sz sp gd lf ac : Int}
theorem s_pitches (hm : mob h m rf sz sp gd lf ac) (hr : ari h (m + 4) 690 r) (hI : Inv r) {z s : Int} (hz : -2147483648 ≤ z ∧ z < 2147483648) (hs : -2147483648 ≤ s ∧ s < 2147483648) :
    CtZ mX9_pitches 6 0 0 [.ref m, .int (iN z), .int (iN s)] h (fun v h' => v = (pkR z s r).1 ∧ RA h (m + 4) (pkR z s r).2 h') := by
  have r0 := hI.r0
  obtain ⟨gN1, gN2, gN3⟩ := hI.2.2.2.1
  have No : ¬ (isKnd z s = true ∧ r 0 < 24 ∧ whereIn r z s ≠ 3) → AW mX9_pitches 6 0 0 26 [.ref m, .int (iN z), .int (iN s)] [] h (qZ (fun v h' => v = (pkR z s r).1 ∧ RA h (m + 4) (pkR z s r).2 h')) := by
    intro q
    have e : pkR z s r = (false, r) := by unfold pkR; rw [if_neg q]
    rw [e]
    exact b_X9_pitches_26 (rZ0 ⟨rfl, RA.st hr⟩)
  refine en_X9_pitches (b_X9_pitches_0 (s_isTentSize hz) (fun v h1 hv => ?_))
  obtain ⟨rfl, rfl⟩ := hv
  by_cases q : 1 ≤ z ∧ z ≤ 40
  · rw [decide_eq_true q]
    refine b_X9_pitches_4 (fun y => absurd y (by decide)) (fun _ => ?_)
    refine b_X9_pitches_7 (s_risStep hs) (fun v h2 hv => ?_)
    obtain ⟨rfl, rfl⟩ := hv
    cases q2 : isStp s
    · exact b_X9_pitches_11 (fun _ => No (fun y => by
        have := (isKnd_T y.1).2
        unfold isStp at q2
        exact absurd this (of_decide_eq_false q2))) (fun y => absurd rfl y)
    · have st := isStp_T q2
      have hk : isKnd z s = true := by unfold isKnd; rw [decide_eq_true ⟨q, st⟩]
      refine b_X9_pitches_11 (fun y => absurd y (by decide)) (fun _ => ?_)
      refine b_X9_pitches_14 hm.r8 (s_canPitch hr hI.1.k r0 q (by omega)) (fun v h3 hv => ?_)
      obtain ⟨rfl, rfl⟩ := hv
      by_cases q3 : r 0 < 24 ∧ whereIn r z s ≠ 3
      · rw [decide_eq_true q3]
        have e : pkR z s r = (true, pitchIn r z s) := by unfold pkR; rw [if_pos ⟨hk, q3⟩]
        rw [e]
        refine b_X9_pitches_23 (fun _ => ?_) (fun y => absurd y (by decide))
        refine b_X9_pitches_28 hm.r8 (s_pitchIn hr hI.1 (by have := hI.1.k.ap; omega) ⟨r0.1, q3.1⟩ (by omega) (fun t ht => by have := (hI.2.1.2 t ht).2.2.1; omega) q (by omega)) (fun v h4 hv => ?_)
        obtain ⟨-, ra⟩ := hv
        exact b_X9_pitches_37 (rZ1 ⟨rfl, ra⟩)
      · rw [decide_eq_false q3]
        exact b_X9_pitches_23 (fun y => absurd rfl y) (fun _ => No (fun y => q3 y.2))
  · rw [decide_eq_false q]
    exact b_X9_pitches_4 (fun _ => No (fun y => q (isKnd_T y.1).1)) (fun y => absurd rfl y)
theorem s_enters (hm : mob h m rf sz sp gd lf ac) (hr : ari h (m + 4) 690 r) (hI : Inv r) : CtZ mX9_enters 2 0 0 [.ref m] h (fun v h' => v = decide (r 3 < 8) ∧ RA h (m + 4) (inR r) h') := by
  have r3 := hI.r3
  refine en_X9_enters (b_X9_enters_0 hm.r8 (hr.g 3) (fun y => ?_) (fun y => ?_))
  · have q : r 3 < 8 := by
      rcases Int.lt_or_le (r 3) 8 with z | z
      · exact z
      · exact absurd ((iN_eq (by omega)).mpr (by omega)) y
    have e : inR r = enterIn r := by unfold inR; rw [if_pos q]
    rw [e]
    refine b_X9_enters_13 hm.r8 (s_enterIn hr ⟨r3.1, q⟩) (fun h2 ra => ?_)
    exact b_X9_enters_20 (rZ1 ⟨(decide_eq_true q).symm, ra⟩)
  · have q := (iN_eq (by omega)).mp y
    have e : inR r = r := by unfold inR; rw [if_neg (by omega)]
    rw [e]
    exact b_X9_enters_11 (rZ0 ⟨(decide_eq_false (by omega)).symm, RA.st hr⟩)
theorem s_leaves (hm : mob h m rf sz sp gd lf ac) (hr : ari h (m + 4) 690 r) (hI : Inv r) : CtZ mX9_leaves 6 0 0 [.ref m] h (fun v h' => v = decide (0 < r 3) ∧ RA h (m + 4) (outR r) h') := by
  have r3 := hI.r3
  have n3 : (nR r : Int) = r 3 := by unfold nR; omega
  refine en_X9_leaves (b_X9_leaves_0 hm.r8 (hr.g 3) (fun y => ?_) (fun y => ?_))
  · have q : 0 < r 3 := by
      rcases Int.lt_or_le 0 (r 3) with z | z
      · exact z
      · exact absurd ((iN_eq (by omega)).mpr (by omega)) y
    have e : outR r = leaveIn r := by unfold outR; rw [if_pos q]
    rw [e]
    refine b_X9_leaves_11 hm.r8 (s_leaveIn hr ⟨q, r3.2⟩ (hI.J (i := nR r - 1) (by omega)).1) (fun v h2 hv => ?_)
    exact b_X9_leaves_18 (rZ1 ⟨(decide_eq_true q).symm, hv.2⟩)
  · have q := (iN_eq (by omega)).mp y
    have e : outR r = r := by unfold outR; rw [if_neg (by omega)]
    rw [e]
    exact b_X9_leaves_9 (rZ0 ⟨(decide_eq_false (by omega)).symm, RA.st hr⟩)
theorem s_jumps (hm : mob h m rf sz sp gd lf ac) (hr : ari h (m + 4) 690 r) (hI : Inv r) {i : Int} (hi : 0 ≤ i ∧ i ≤ 1000) : CtZ mX9_jumps 6 0 0 [.ref m, .int (iN i)] h (fun v h' => v = decide (i < r 3) ∧ RA h (m + 4) (bakR r i) h') := by
  have r3 := hI.r3
  refine en_X9_jumps (b_X9_jumps_0 hm.r8 (hr.g 3) (fun y => ?_) (fun y => ?_))
  · have q := (iN_lt (by omega)).mp y
    have e : bakR r i = jumpIn r i.toNat := by unfold bakR; rw [if_pos (by omega)]
    rw [e]
    have F := s_jumpIn hr (i := i.toNat) (by omega) (hI.J (by omega)).1
    rw [show ((i.toNat : Nat) : Int) = i by omega] at F
    refine b_X9_jumps_12 hm.r8 F (fun v h2 hv => ?_)
    exact b_X9_jumps_20 (rZ1 ⟨(decide_eq_true q).symm, hv.2⟩)
  · have q : ¬ i < r 3 := fun z => y ((iN_lt (by omega)).mpr z)
    have e : bakR r i = r := by unfold bakR; rw [if_neg (by omega)]
    rw [e]
    exact b_X9_jumps_10 (rZ0 ⟨(decide_eq_false q).symm, RA.st hr⟩)
theorem s_does (hm : mob h m rf sz sp gd lf ac) (hr : ari h (m + 4) 690 r) (hI : Inv r) {g : Int} (hg : 0 ≤ g ∧ g < 100000) : CtZ mX9_does 7 0 0 [.ref m, .int (iN g)] h (fun v h' => v = (doM g r).1 ∧ RA h (m + 4) (doM g r).2 h') := by
  have r0 := hI.r0
  have r3 := hI.r3
  have r12 := hI.r1
  have d10 := iN_div (a := g) (b := 10) (by omega) (by omega)
  have e10 := iN_rem (a := g) (b := 10) (by omega) (by omega)
  have d100 := iN_div (a := g) (b := 100) (by omega) (by omega)
  have e100 := iN_rem (a := g) (b := 100) (by omega) (by omega)
  have d1000 := iN_div (a := g) (b := 1000) (by omega) (by omega)
  have e1000 := iN_rem (a := g) (b := 1000) (by omega) (by omega)
  have dQ := iN_div (a := g) (b := 10000) (by omega) (by omega)
  have f1 := iN_rem (a := g / 1000) (b := 10) (by omega) (by omega)
  have f2 := iN_rem (a := g / 100) (b := 100) (by omega) (by omega)
  have f3 := iN_rem (a := g / 10) (b := 100) (by omega) (by omega)
  generalize ht : g % 10000 = t at *
  have t0 : 0 ≤ t ∧ t < 10000 := by omega
  have dm : ∀ q : Int, g / 10000 = q → doM g r =
    if q = 1 then (if isKnd (t / 10) (t % 10) = true ∧ r 0 < 24 ∧ whereIn r (t / 10) (t % 10) ≠ 3 then (true, pitchIn r (t / 10) (t % 10)) else (false, r)) else
    if q = 2 then (if t = 0 ∧ r 3 < 8 then (true, enterIn r) else if t = 1 ∧ 0 < r 3 then (true, leaveIn r) else (false, r)) else
    if q = 3 then (if t < r 3 then (true, jumpIn r t.toNat) else (false, r)) else
    if q = 4 then (if t / 100 < r 0 then (true, fillIn r (t / 100).toNat (t % 100)) else (false, r)) else
    if q = 5 then (decide (t < 1000 ∧ tentP r ≤ t), r) else
    if q = 6 then (decide (t < 1000 ∧ ¬ iN t < iN (gapsV r)), r) else
    if q = 7 then (decide (t % 100 < 10 ∧ t / 100 < r 0 ∧ r (10 + 4 * (t / 100).toNat) = t % 100), r) else
    if q = 8 then (decide (t / 100 = 0 ∧ r 2 ≤ t % 100), r) else
    if q = 9 then (decide (t / 100 = 0 ∧ t % 100 ≤ r 0), r) else (false, r) := by
    intro q e
    unfold doM
    rw [e, ht]
  have Nope : ∀ d9 : Bool, d9 = false → (doM g r = (d9, r)) → qZ (fun v h' => v = (doM g r).1 ∧ RA h (m + 4) (doM g r).2 h') (.inl (some (.int (iN 0)))) h := by
    intro d9 e e2
    rw [e2, e]
    exact rZ0 ⟨rfl, RA.st hr⟩
  have Yup : ∀ d9 : Bool, d9 = true → (doM g r = (d9, r)) → qZ (fun v h' => v = (doM g r).1 ∧ RA h (m + 4) (doM g r).2 h') (.inl (some (.int (iN 1)))) h := by
    intro d9 e e2
    rw [e2, e]
    exact rZ1 ⟨rfl, RA.st hr⟩
  have g1 : g / 100 % 100 = t / 100 := by omega
  have g2 : g % 100 = t % 100 := by omega
  have g3 : g % 1000 = t % 1000 := by omega
  have g4 : g / 1000 % 10 = t / 1000 := by omega
  have g5 : g / 10 % 100 = t / 10 % 100 := by omega
  have g6 : g % 10 = t % 10 := by omega
  rw [g1] at f2
  rw [g2] at e100
  rw [g3] at e1000
  rw [g4] at f1
  rw [g5] at f3
  rw [g6] at e10
  -- from the switch on; w: the thousands are 0
  have Main : ∀ w : Bool, w = decide (t / 1000 = 0) →
      ((g / 10000 = 1 → AW mX9_does 7 0 0 96 [.ref m, .int (iN g), .int (iN (g / 10000)), .int (iN (t / 100)), .int (iN (t % 100)), .int (iN (t % 1000)), .int (iN (bI w))] [] h (qZ (fun v h' => v = (doM g r).1 ∧ RA h (m + 4) (doM g r).2 h'))) ∧
      (g / 10000 = 2 → AW mX9_does 7 0 0 125 [.ref m, .int (iN g), .int (iN (g / 10000)), .int (iN (t / 100)), .int (iN (t % 100)), .int (iN (t % 1000)), .int (iN (bI w))] [] h (qZ (fun v h' => v = (doM g r).1 ∧ RA h (m + 4) (doM g r).2 h'))) ∧
      (g / 10000 = 3 → AW mX9_does 7 0 0 160 [.ref m, .int (iN g), .int (iN (g / 10000)), .int (iN (t / 100)), .int (iN (t % 100)), .int (iN (t % 1000)), .int (iN (bI w))] [] h (qZ (fun v h' => v = (doM g r).1 ∧ RA h (m + 4) (doM g r).2 h'))) ∧
      (g / 10000 = 4 → AW mX9_does 7 0 0 186 [.ref m, .int (iN g), .int (iN (g / 10000)), .int (iN (t / 100)), .int (iN (t % 100)), .int (iN (t % 1000)), .int (iN (bI w))] [] h (qZ (fun v h' => v = (doM g r).1 ∧ RA h (m + 4) (doM g r).2 h'))) ∧
      (g / 10000 = 5 → AW mX9_does 7 0 0 211 [.ref m, .int (iN g), .int (iN (g / 10000)), .int (iN (t / 100)), .int (iN (t % 100)), .int (iN (t % 1000)), .int (iN (bI w))] [] h (qZ (fun v h' => v = (doM g r).1 ∧ RA h (m + 4) (doM g r).2 h'))) ∧
      (g / 10000 = 6 → AW mX9_does 7 0 0 235 [.ref m, .int (iN g), .int (iN (g / 10000)), .int (iN (t / 100)), .int (iN (t % 100)), .int (iN (t % 1000)), .int (iN (bI w))] [] h (qZ (fun v h' => v = (doM g r).1 ∧ RA h (m + 4) (doM g r).2 h'))) ∧
      (g / 10000 = 7 → AW mX9_does 7 0 0 258 [.ref m, .int (iN g), .int (iN (g / 10000)), .int (iN (t / 100)), .int (iN (t % 100)), .int (iN (t % 1000)), .int (iN (bI w))] [] h (qZ (fun v h' => v = (doM g r).1 ∧ RA h (m + 4) (doM g r).2 h'))) ∧
      (g / 10000 = 8 → AW mX9_does 7 0 0 296 [.ref m, .int (iN g), .int (iN (g / 10000)), .int (iN (t / 100)), .int (iN (t % 100)), .int (iN (t % 1000)), .int (iN (bI w))] [] h (qZ (fun v h' => v = (doM g r).1 ∧ RA h (m + 4) (doM g r).2 h'))) ∧
      (g / 10000 = 9 → AW mX9_does 7 0 0 317 [.ref m, .int (iN g), .int (iN (g / 10000)), .int (iN (t / 100)), .int (iN (t % 100)), .int (iN (t % 1000)), .int (iN (bI w))] [] h (qZ (fun v h' => v = (doM g r).1 ∧ RA h (m + 4) (doM g r).2 h'))) ∧
      (g / 10000 < 1 ∨ 9 < g / 10000 → AW mX9_does 7 0 0 338 [.ref m, .int (iN g), .int (iN (g / 10000)), .int (iN (t / 100)), .int (iN (t % 100)), .int (iN (t % 1000)), .int (iN (bI w))] [] h (qZ (fun v h' => v = (doM g r).1 ∧ RA h (m + 4) (doM g r).2 h')))) := by
    intro w ew
    have wT : ¬ iN (bI w) = iN 0 → t < 1000 := fun y => by
      have := bI_n0 y
      rw [ew] at this
      have := of_decide_eq_true this
      omega
    have wF : iN (bI w) = iN 0 → 1000 ≤ t := fun y => by
      have := bI_0.mp y
      rw [ew] at this
      have := of_decide_eq_false this
      omega
    refine ⟨fun q => ?_, fun q => ?_, fun q => ?_, fun q => ?_, fun q => ?_, fun q => ?_, fun q => ?_, fun q => ?_, fun q => ?_, fun q => ?_⟩
    · have d := dm 1 q
      rw [if_pos rfl] at d
      refine b_X9_does_96 (fun y => ?_) (fun y => ?_)
      · have := wF y
        rw [if_neg (fun z => by have := (isKnd_T z.1).1; omega)] at d
        exact b_X9_does_123 (Nope false rfl d)
      · have y1 := wT y
        have e : t / 10 % 100 = t / 10 := by omega
        have S := s_pitches hm hr hI (z := t / 10) (s := t % 10) (by omega) (by omega)
        rw [← e10, ← e, ← f3, ← d10] at S
        refine b_X9_does_101 hm.o S (fun v h2 hv => ?_)
        rw [d10, f3, e, e10] at hv
        obtain ⟨rfl, ra⟩ := hv
        have d' : doM g r = pkR (t / 10) (t % 10) r := d
        rw [d']
        cases z : (pkR (t / 10) (t % 10) r).1
        · exact b_X9_does_116 (fun _ => b_X9_does_123 (rZ0 ⟨rfl, ra⟩)) (fun y => absurd rfl y)
        · exact b_X9_does_116 (fun y => absurd y (by decide)) (fun _ => b_X9_does_119 (rZ1 ⟨rfl, ra⟩))
    · have d := dm 2 q
      rw [if_neg (by decide), if_pos rfl] at d
      have N2 : ¬ (t = 0 ∧ r 3 < 8) → ¬ (t = 1 ∧ 0 < r 3) → doM g r = (false, r) := fun y1 y2 => by rw [d, if_neg y1, if_neg y2]
      refine b_X9_does_125 (fun y => ?_) (fun y => ?_)
      · have : ¬ t / 100 = 0 := fun z => y (by rw [z])
        exact b_X9_does_158 (Nope false rfl (N2 (by omega) (by omega)))
      · have y0 := (iN_eq (by omega)).mp y
        have L : ∀ h1 : AH, h1 = h → ¬ (t = 0 ∧ r 3 < 8) → AW mX9_does 7 0 0 141 [.ref m, .int (iN g), .int (iN (g / 10000)), .int (iN (t / 100)), .int (iN (t % 100)), .int (iN (t % 1000)), .int (iN (bI w))] [] h1 (qZ (fun v h' => v = (doM g r).1 ∧ RA h (m + 4) (doM g r).2 h')) := by
          rintro _ rfl yn
          refine b_X9_does_141 (fun y2 => ?_) (fun y2 => ?_)
          · have : ¬ t % 100 = 1 := fun z => y2 (by rw [z])
            exact b_X9_does_158 (Nope false rfl (N2 yn (by omega)))
          · have y3 := (iN_eq (by omega)).mp y2
            refine b_X9_does_147 hm.o (s_leaves hm hr hI) (fun v h2 hv => ?_)
            obtain ⟨rfl, ra⟩ := hv
            unfold outR at ra
            by_cases y4 : 0 < r 3
            · rw [decide_eq_true y4]
              rw [if_pos y4] at ra
              have e : doM g r = (true, leaveIn r) := by rw [d, if_neg yn, if_pos ⟨by omega, y4⟩]
              rw [e]
              exact b_X9_does_151 (fun z => absurd z (by decide)) (fun _ => b_X9_does_154 (rZ1 ⟨rfl, ra⟩))
            · rw [decide_eq_false y4]
              rw [if_neg y4] at ra
              rw [N2 yn (fun z => y4 z.2)]
              exact b_X9_does_151 (fun _ => b_X9_does_158 (rZ0 ⟨rfl, ra⟩)) (fun z => absurd rfl z)
        refine b_X9_does_129 (fun y2 => ?_) (fun y2 => ?_)
        · have : ¬ t % 100 = 0 := fun z => y2 (by rw [z])
          exact L h rfl (by omega)
        · have y3 := (iN_eq (by omega)).mp y2
          refine b_X9_does_134 hm.o (s_enters hm hr hI) (fun v h2 hv => ?_)
          obtain ⟨rfl, ra⟩ := hv
          unfold inR at ra
          by_cases y4 : r 3 < 8
          · rw [decide_eq_true y4]
            rw [if_pos y4] at ra
            have e : doM g r = (true, enterIn r) := by rw [d, if_pos ⟨by omega, y4⟩]
            rw [e]
            exact b_X9_does_138 (fun _ => b_X9_does_154 (rZ1 ⟨rfl, ra⟩)) (fun z => absurd z (by decide))
          · rw [decide_eq_false y4]
            rw [if_neg y4] at ra
            have eh : h2 = h := by rw [ra.2, wr_same hr]
            exact b_X9_does_138 (fun z => absurd rfl z) (fun _ => L h2 eh (fun z => y4 z.2))
    · have d := dm 3 q
      rw [if_neg (by decide), if_neg (by decide), if_pos rfl] at d
      refine b_X9_does_160 (fun y => ?_) (fun y => ?_)
      · have : ¬ t / 100 = 0 := fun z => y (by rw [z])
        rw [if_neg (by omega)] at d
        exact b_X9_does_184 (Nope false rfl d)
      · have y0 := (iN_eq (by omega)).mp y
        refine b_X9_does_164 (fun y2 => ?_) (fun y2 => ?_)
        · have := (iN_le (by omega)).mp y2
          rw [if_neg (by omega)] at d
          exact b_X9_does_184 (Nope false rfl d)
        · have y3 : ¬ 10 ≤ t % 100 := fun z => y2 ((iN_le (by omega)).mpr z)
          have e : t % 100 = t := by omega
          refine b_X9_does_171 hm.o (s_jumps hm hr hI (i := t % 100) (by omega)) (fun v h2 hv => ?_)
          rw [e] at hv
          obtain ⟨rfl, ra⟩ := hv
          unfold bakR at ra
          by_cases y4 : t < r 3
          · rw [decide_eq_true y4]
            rw [if_pos (by omega)] at ra
            rw [if_pos y4] at d
            rw [d]
            exact b_X9_does_177 (fun z => absurd z (by decide)) (fun _ => b_X9_does_180 (rZ1 ⟨rfl, ra⟩))
          · rw [decide_eq_false y4]
            rw [if_neg (by omega)] at ra
            rw [if_neg y4] at d
            rw [d]
            exact b_X9_does_177 (fun _ => b_X9_does_184 (rZ0 ⟨rfl, ra⟩)) (fun z => absurd rfl z)
    · have d := dm 4 q
      rw [if_neg (by decide), if_neg (by decide), if_neg (by decide), if_pos rfl] at d
      refine b_X9_does_186 hm.r8 (hr.g 0) (fun y => ?_) (fun y => ?_)
      · have y1 := (iN_lt (by omega)).mp y
        rw [if_pos y1] at d
        have tl : (t / 100).toNat < nT r := by unfold nT; omega
        have F := s_fillIn hr hI.1 hI.2.2.1 (hI.2.1.2 _ tl) (by omega) (t % 100)
        rw [show (((t / 100).toNat : Nat) : Int) = t / 100 by omega] at F
        refine b_X9_does_198 hm.r8 F (fun v h2 hv => ?_)
        rw [d]
        exact b_X9_does_208 (rZ1 ⟨rfl, hv.2⟩)
      · have y1 : ¬ t / 100 < r 0 := fun z => y ((iN_lt (by omega)).mpr z)
        rw [if_neg y1] at d
        exact b_X9_does_196 (Nope false rfl d)
    · have d := dm 5 q
      rw [if_neg (by decide), if_neg (by decide), if_neg (by decide), if_neg (by decide), if_pos rfl] at d
      refine b_X9_does_211 (fun y => ?_) (fun y => ?_)
      · have := wF y
        exact b_X9_does_233 (Nope _ (decide_eq_false (by omega)) d)
      · have y1 := wT y
        have e : t % 1000 = t := by omega
        refine b_X9_does_216 hm.r8 (s_tentPlaces hr 0 r0 (by omega)) (fun v h2 hv => ?_)
        obtain ⟨rfl, rfl⟩ := hv
        have es : smf (fun t => r (12 + 4 * t)) 0 (nT r) = tentP r := smf_0 _ _
        have tr : 0 ≤ tentP r ∧ tentP r ≤ 960 := by
          have h1 := sm_ge (g := fun k => r (12 + 4 * k)) (B := 0) (n := nT r) (fun k hk => by have := (hI.2.1.2 k hk).2.2.1; omega)
          have h2 : ∀ n, n ≤ nT r → sm (fun k => r (12 + 4 * k)) n ≤ 40 * n := by
            intro n
            induction n with
            | zero => intro _; exact Int.le_refl _
            | succ n ih =>
              intro hn
              have := ih (by omega)
              have := (hI.2.1.2 n (by omega)).2.2.1
              simp only [sm]; omega
          have h3 := h2 (nT r) (Nat.le_refl _)
          unfold tentP
          unfold nT at h3 ⊢
          unfold nT at h1
          omega
        rw [es, e]
        refine b_X9_does_224 (fun y => ?_) (fun y => ?_)
        · have := (iN_lt (by omega)).mp y
          exact b_X9_does_233 (Nope _ (decide_eq_false (by omega)) d)
        · have y2 : ¬ t < tentP r := fun z => y ((iN_lt (by omega)).mpr z)
          exact b_X9_does_229 (Yup _ (decide_eq_true (by omega)) d)
    · have d := dm 6 q
      rw [if_neg (by decide), if_neg (by decide), if_neg (by decide), if_neg (by decide), if_neg (by decide), if_pos rfl] at d
      refine b_X9_does_235 (fun y => ?_) (fun y => ?_)
      · have := wF y
        exact b_X9_does_256 (Nope _ (decide_eq_false (by omega)) d)
      · have y1 := wT y
        have e : t % 1000 = t := by omega
        refine b_X9_does_240 hm.r8 (s_gaps hr hI.1 hI.2.1) (fun v h2 hv => ?_)
        obtain ⟨rfl, rfl⟩ := hv
        rw [e]
        exact b_X9_does_247 (fun y => b_X9_does_256 (Nope _ (decide_eq_false (fun z => z.2 y)) d)) (fun y => b_X9_does_252 (Yup _ (decide_eq_true ⟨y1, y⟩) d))
    · have d := dm 7 q
      rw [if_neg (by decide), if_neg (by decide), if_neg (by decide), if_neg (by decide), if_neg (by decide), if_neg (by decide), if_pos rfl] at d
      refine b_X9_does_258 hm.r8 (hr.g 0) (fun y => ?_) (fun y => ?_)
      · have := (iN_le (by omega)).mp y
        exact b_X9_does_294 (Nope _ (decide_eq_false (by omega)) d)
      · have y1 : ¬ r 0 ≤ t / 100 := fun z => y ((iN_le (by omega)).mpr z)
        refine b_X9_does_268 (fun y => ?_) (fun y => ?_)
        · have := (iN_le (by omega)).mp y
          exact b_X9_does_294 (Nope _ (decide_eq_false (by omega)) d)
        · have y2 : ¬ 10 ≤ t % 100 := fun z => y ((iN_le (by omega)).mpr z)
          have tn := (hI.2.1.2 (t / 100).toNat (by unfold nT; omega)).1
          refine b_X9_does_275 hm.r8 s_tentAt (fun v h2 hv => ?_)
          obtain ⟨rfl, rfl⟩ := hv
          refine b_X9_does_284 (hr.g (10 + 4 * (t / 100).toNat)) (fun z => ?_) (fun z => ?_)
          · exact b_X9_does_294 (Nope _ (decide_eq_false (fun w => z (by rw [w.2.2]))) d)
          · have := (iN_eq (by omega)).mp z
            exact b_X9_does_290 (Yup _ (decide_eq_true ⟨by omega, by omega, this⟩) d)
    · have d := dm 8 q
      rw [if_neg (by decide), if_neg (by decide), if_neg (by decide), if_neg (by decide), if_neg (by decide), if_neg (by decide), if_neg (by decide), if_pos rfl] at d
      refine b_X9_does_296 (fun y => ?_) (fun y => ?_)
      · have : ¬ t / 100 = 0 := fun z => y (by rw [z])
        exact b_X9_does_315 (Nope _ (decide_eq_false (by omega)) d)
      · have y0 := (iN_eq (by omega)).mp y
        refine b_X9_does_300 hm.r8 (hr.g 2) (fun y => ?_) (fun y => ?_)
        · have := (iN_lt (by omega)).mp y
          exact b_X9_does_315 (Nope _ (decide_eq_false (by omega)) d)
        · have : ¬ t % 100 < r 2 := fun z => y ((iN_lt (by omega)).mpr z)
          exact b_X9_does_311 (Yup _ (decide_eq_true (by omega)) d)
    · have d := dm 9 q
      rw [if_neg (by decide), if_neg (by decide), if_neg (by decide), if_neg (by decide), if_neg (by decide), if_neg (by decide), if_neg (by decide), if_neg (by decide), if_pos rfl] at d
      refine b_X9_does_317 (fun y => ?_) (fun y => ?_)
      · have : ¬ t / 100 = 0 := fun z => y (by rw [z])
        exact b_X9_does_336 (Nope _ (decide_eq_false (by omega)) d)
      · have y0 := (iN_eq (by omega)).mp y
        refine b_X9_does_321 hm.r8 (hr.g 0) (fun y => ?_) (fun y => ?_)
        · have := (iN_lt (by omega)).mp y
          exact b_X9_does_336 (Nope _ (decide_eq_false (by omega)) d)
        · have : ¬ r 0 < t % 100 := fun z => y ((iN_lt (by omega)).mpr z)
          exact b_X9_does_332 (Yup _ (decide_eq_true (by omega)) d)
    · have d := dm (g / 10000) rfl
      rw [if_neg (by omega), if_neg (by omega), if_neg (by omega), if_neg (by omega), if_neg (by omega), if_neg (by omega), if_neg (by omega), if_neg (by omega), if_neg (by omega)] at d
      exact b_X9_does_338 (Nope false rfl d)
  have eI := iN_T (z := g / 10000) (by omega)
  refine en_X9_does (b_X9_does_0 (fun y => ?_) (fun y => ?_))
  · rw [d1000, f1] at y
    rw [dQ, d100, f2, e100, e1000]
    have M := Main false (decide_eq_false (fun z => y (by rw [z]))).symm
    exact b_X9_does_42 (fun q => M.1 (eI.symm.trans q)) (fun q => M.2.1 (eI.symm.trans q)) (fun q => M.2.2.1 (eI.symm.trans q)) (fun q => M.2.2.2.1 (eI.symm.trans q)) (fun q => M.2.2.2.2.1 (eI.symm.trans q)) (fun q => M.2.2.2.2.2.1 (eI.symm.trans q)) (fun q => M.2.2.2.2.2.2.1 (eI.symm.trans q)) (fun q => M.2.2.2.2.2.2.2.1 (eI.symm.trans q)) (fun q => M.2.2.2.2.2.2.2.2.1 (eI.symm.trans q)) (fun q => M.2.2.2.2.2.2.2.2.2 (by rw [eI] at q; exact q))
  · rw [d1000, f1] at y
    have y0 := (iN_eq (by omega)).mp y
    rw [dQ, d100, f2, e100, e1000]
    have M := Main true (decide_eq_true y0).symm
    exact b_X9_does_38 (fun q => M.1 (eI.symm.trans q)) (fun q => M.2.1 (eI.symm.trans q)) (fun q => M.2.2.1 (eI.symm.trans q)) (fun q => M.2.2.2.1 (eI.symm.trans q)) (fun q => M.2.2.2.2.1 (eI.symm.trans q)) (fun q => M.2.2.2.2.2.1 (eI.symm.trans q)) (fun q => M.2.2.2.2.2.2.1 (eI.symm.trans q)) (fun q => M.2.2.2.2.2.2.2.1 (eI.symm.trans q)) (fun q => M.2.2.2.2.2.2.2.2.1 (eI.symm.trans q)) (fun q => M.2.2.2.2.2.2.2.2.2 (by rw [eI] at q; exact q))
theorem s_stir (hm : mob h m rf sz sp gd lf ac) (hr : ari h (m + 4) 690 r) (hI : Inv r) {z : Int} (hz : 0 ≤ z ∧ z < 2147483648) : CtV mX9_stir 7 0 0 [.ref m, .int (iN z)] h (fun h' => RA h (m + 4) (stM z r) h') := by
  have e8 := iN_rem (a := z) (b := 8) (by omega) (by omega)
  have d8 := iN_div (a := z) (b := 8) (by omega) (by omega)
  have d256 := iN_div (a := z) (b := 256) (by omega) (by omega)
  have f8 := iN_rem (a := z / 8) (b := 8) (by omega) (by omega)
  have f20 := iN_rem (a := z / 8) (b := 20) (by omega) (by omega)
  have f4 := iN_rem (a := z / 256) (b := 4) (by omega) (by omega)
  refine en_X9_stir (b_X9_stir_0 (fun q => ?_) (fun q => ?_) (fun q => ?_) (fun q => ?_) (fun q => ?_)) <;> rw [e8, iN_T (by omega)] at q
  · refine b_X9_stir_36 hm.o (s_enters hm hr hI) (fun v h2 hv => ?_)
    have e : stM z r = inR r := by unfold stM; rw [if_pos (Or.inl q)]
    rw [e]; exact b_X9_stir_40 (rV hv.2)
  · refine b_X9_stir_36 hm.o (s_enters hm hr hI) (fun v h2 hv => ?_)
    have e : stM z r = inR r := by unfold stM; rw [if_pos (Or.inr q)]
    rw [e]; exact b_X9_stir_40 (rV hv.2)
  · refine b_X9_stir_44 hm.o (s_leaves hm hr hI) (fun v h2 hv => ?_)
    have e : stM z r = outR r := by unfold stM; rw [if_neg (by omega), if_pos q]
    rw [e]; exact b_X9_stir_48 (rV hv.2)
  · have G := s_jumps hm hr hI (i := z / 8 % 8) (by omega)
    rw [← f8, ← d8] at G
    refine b_X9_stir_52 hm.o G (fun v h2 hv => ?_)
    rw [d8, f8] at hv
    have e : stM z r = bakR r (z / 8 % 8) := by unfold stM; rw [if_neg (by omega), if_neg (by omega), if_pos q]
    rw [e]; exact b_X9_stir_63 (rV hv.2)
  · have G := s_pitches hm hr hI (z := 1 + z / 8 % 20) (s := st4 (z / 256 % 4)) (by omega) (by have := st4_rg (z / 256 % 4); omega)
    rw [← sh4 (by omega), ← f20, ← f4, ← d8, ← d256] at G
    refine b_X9_stir_67 hm.o G (fun v h2 hv => ?_)
    rw [d8, d256, f20, f4, sh4 (by omega)] at hv
    have hk : isKnd (1 + z / 8 % 20) (st4 (z / 256 % 4)) = true := by unfold isKnd; rw [decide_eq_true ⟨by omega, st4_rg _⟩]
    have e : stM z r = (pkR (1 + z / 8 % 20) (st4 (z / 256 % 4)) r).2 := by
      unfold stM pkR puR
      rw [if_neg (by omega), if_neg (by omega), if_neg (by omega)]
      by_cases y : r 0 < 24 ∧ whereIn r (1 + z / 8 % 20) (st4 (z / 256 % 4)) ≠ 3
      · rw [if_pos y, if_pos ⟨hk, y⟩]
      · rw [if_neg y, if_neg (fun w => y w.2)]
    rw [e]; exact b_X9_stir_89 (rV hv.2)
theorem stM_inv (hI : Inv r) {z : Int} (hz : 0 ≤ z) : Inv (stM z r) := by
  unfold stM
  split
  · unfold inR; split
    · rename_i w; exact hI.enter w
    · exact hI
  · split
    · unfold outR; split
      · rename_i w; exact hI.leave w
      · exact hI
    · split
      · unfold bakR; split
        · rename_i w; exact hI.jump (by omega)
        · exact hI
      · exact (hI.pu (by omega) (st4_rg _)).1
theorem s_tenTo (j : Nat) (hj : j ≤ 3) : CtL mX9_tenTo 0 0 0 [.int (iN ((5 * j : Nat) : Int))] h (fun v h' => v = pw j ∧ h' = h) := by
  have tp : ∀ k : Nat, tenP (k + 1) = tenP k * 10 := fun _ => rfl
  have tw : tenP (5 * j) = pw j := by
    rcases (show j = 0 ∨ j = 1 ∨ j = 2 ∨ j = 3 by omega) with rfl | rfl | rfl | rfl <;> simp [tenP, pw]
  refine en_X9_tenTo (b_X9_tenTo_0 ?_)
  have H : ∀ (k i : Nat), i + k = 5 * j → AW mX9_tenTo 0 0 0 4 [.int (iN ((5 * j : Nat) : Int)), .long (jN (tenP i)), vU, .int (iN (i : Int))] [] h (qL (fun v h' => v = pw j ∧ h' = h)) := by
    intro k
    induction k with
    | zero =>
      intro i hi
      refine b_X9_tenTo_4 (fun _ => ?_) (fun z => absurd ((iN_le (by omega)).mpr (by omega)) z)
      refine b_X9_tenTo_21 (rL ⟨?_, rfl⟩)
      rw [show i = 5 * j by omega, tw]
    | succ k ih =>
      intro i hi
      refine b_X9_tenTo_4 (fun z => by have := (iN_le (by omega)).mp z; omega) (fun _ => ?_)
      refine b_X9_tenTo_9 ?_
      have := ih (i + 1) (by omega)
      rw [tp, show ((i + 1 : Nat) : Int) = (i : Int) + 1 by omega] at this
      exact this
  exact H (5 * j) 0 (by omega)
end SCR2
