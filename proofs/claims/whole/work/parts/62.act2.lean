/-! the class's actions -/
def rmN (n : Nat) : Nat := if n < 14 then n + 1 else 14
def rmD (r : Nat → Int) (D : Nat → Nat → Int) : Nat → Nat → Int := fun i => if i = 0 then r else D (i - 1)
def ptK (r : Nat → Int) (z s : Int) : Int := if isKnd z s = false then 1 else if r 0 < 24 ∧ whereIn r z s ≠ 3 then 0 else 2
def flK (r : Nat → Int) (t v : Int) : Int := if ¬ (0 ≤ t ∧ t < r 0) then 1 else if 0 ≤ v ∧ v ≤ 99 then 0 else 2
def enK (r : Nat → Int) : Int := if r 3 < 8 then 0 else 1
def leK (r : Nat → Int) : Int := if 0 < r 3 then 0 else 1
def juK (r : Nat → Int) (i : Int) : Int := if 0 ≤ i ∧ i < r 3 then 0 else 1
def isSet (w v : Int) : Bool := decide ((w = 0 ∧ 8 ≤ v ∧ v ≤ 64) ∨ (w = 1 ∧ 0 ≤ v ∧ v ≤ 128) ∨ (w = 2 ∧ 0 ≤ v ∧ v ≤ 1))
def seK (w v : Int) : Int := if isSet w v = true then 0 else 1
def unK (n : Nat) : Int := if n = 0 then 1 else 0
def knK (z s : Int) : Int := if isKnd z s = true then 0 else 1
def saK (i : Int) : Int := if 0 ≤ i ∧ i ≤ 1 then 0 else 1
def reK (b : Nat → Bool) (i : Int) : Int := if ¬ (0 ≤ i ∧ i ≤ 1) then 1 else if b i.toNat = true then 0 else 2
section ACT2
variable {h h' : AH} {x n l : Nat} {r r' s : Nat → Int} {D K : Nat → Nat → Int} {b : Nat → Bool}
theorem CW.act (w : CW h x r n D l s b K) (hc : cmp h' (x + 1) r') (o : Off h h' (x + 1) (x + 1 + 35)) : CW h' x r' n D l s b K ∧ Off h h' x (x + 641) := by
  obtain ⟨w1, w2, ⟨N, X, w3⟩, ⟨xh, w4⟩, ⟨p, w0, kd, f1, f2, w5⟩, w6, w7, w8⟩ := w
  refine ⟨⟨w1.off o, hc, ⟨N, X, w3.off o⟩, ⟨xh, w4.off o⟩, ⟨_, _, _, _, _, w5.off o⟩, w6.off o, fun j hj => ?_, w8.off o⟩, o.up x (x + 641)⟩
  obtain ⟨N, X, u1, u2⟩ := w7 j hj
  exact ⟨N, X, u1.off o, u2⟩
theorem CW.tri (w : CW h x r n D l s b K) {N : Nat → Int} {X : Nat → Nat → Int} (hc : campX h' (x + 36) N X) (o : Off h h' (x + 36) (x + 71)) : CW h' x r n D l s b K ∧ Off h h' x (x + 641) := by
  obtain ⟨w1, w2, -, ⟨xh, w4⟩, ⟨p, w0, kd, f1, f2, w5⟩, w6, w7, w8⟩ := w
  refine ⟨⟨w1.off o, w2.off o, ⟨N, X, hc⟩, ⟨xh, w4.off o⟩, ⟨_, _, _, _, _, w5.off o⟩, w6.off o, fun j hj => ?_, w8.off o⟩, o.up x (x + 641)⟩
  obtain ⟨N, X, u1, u2⟩ := w7 j hj
  exact ⟨N, X, u1.off o, u2⟩
theorem CW.his (w : CW h x r n D l s b K) {n' xh' : Nat} {D' : Nat → Nat → Int} (hh : hist h' (x + 71) n' xh' D') (o : Off h h' (x + 71) (x + 71 + 493)) : CW h' x r n' D' l s b K ∧ Off h h' x (x + 641) := by
  obtain ⟨w1, w2, ⟨N, X, w3⟩, -, ⟨p, w0, kd, f1, f2, w5⟩, w6, w7, w8⟩ := w
  refine ⟨⟨w1.off o, w2.off o, ⟨N, X, w3.off o⟩, ⟨xh', hh⟩, ⟨_, _, _, _, _, w5.off o⟩, w6.off o, fun j hj => ?_, w8.off o⟩, o.up x (x + 641)⟩
  obtain ⟨N, X, u1, u2⟩ := w7 j hj
  exact ⟨N, X, u1.off o, u2⟩
theorem Ct.moI {m : AM} {d mc ms : Nat} {avs : List Value} {P P' : Int → AH → Prop} (k : CtI m d mc ms avs h P) (hq : ∀ v h', P v h' → P' v h') : CtI m d mc ms avs h P' :=
  Ct.mono k (fun r9 h9 q => by obtain ⟨v, e, q⟩ := q; exact ⟨v, e, hq _ _ q⟩)
theorem Ct.moV {m : AM} {d mc ms : Nat} {avs : List Value} {P P' : AH → Prop} (k : CtV m d mc ms avs h P) (hq : ∀ h', P h' → P' h') : CtV m d mc ms avs h P' :=
  Ct.mono k (fun r9 h9 q => ⟨q.1, hq _ q.2⟩)
theorem w_rem (w : CW h x r n D l s b K) : CtV mX3_remember 6 0 0 [.ref (x + 71), .ref (x + 1)] h (fun h' => CW h' x r (rmN n) (rmD r D) l s b K ∧ Off h h' x (x + 641)) := by
  have w9 := w
  obtain ⟨w1, w2, w3, ⟨xh, w4⟩, w5, w6, w7, w8⟩ := w
  exact Ct.moV (s_cremember w4 w2.1 (by omega)) (fun h' hv => w9.his hv.1 hv.2)
theorem isKnd_T {z s : Int} (q : isKnd z s = true) : (1 ≤ z ∧ z ≤ 40) ∧ (s = 1 ∨ s = 2 ∨ s = 4 ∨ s = 8) := by
  unfold isKnd at q; exact of_decide_eq_true q
theorem c_pitch (w : CW h x r n D l s b K) {z t : Int} (hz : -2147483648 ≤ z ∧ z < 2147483648) (ht : -2147483648 ≤ t ∧ t < 2147483648) :
    CtX mX8_pitch 7 1 6 [.ref x, .int (iN z), .int (iN t)] h (oX 0 1 (ptK r z t) (r 0) (fun h' => (if ptK r z t = 0 then CW h' x (pitchIn r z t) (rmN n) (rmD r D) l s b K else CW h' x r n D l s b K) ∧ Off h h' x (x + 641))) := by
  have I := w.2.1.2
  have r0 := I.r0
  refine en_X8_pitch (b_X8_pitch_0 (s_isTentKind hz ht) (fun v h1 hv => ?_))
  obtain ⟨rfl, rfl⟩ := hv
  cases q : isKnd z t
  · have e : ptK r z t = 1 := by unfold ptK; rw [if_pos q]
    refine b_X8_pitch_5 (fun y => absurd rfl y) (fun _ => ?_)
    exact b_X8_pitch_8 (by omega) (by omega) (oX.a e ⟨by rw [if_neg (by omega)]; exact w, Off.rf⟩)
  · have hk := isKnd_T q
    have Bad : ¬ (r 0 < 24 ∧ whereIn r z t ≠ 3) → AW mX8_pitch 7 1 6 46 [.ref x, .int (iN z), .int (iN t)] [] h1 (oX 0 1 (ptK r z t) (r 0) (fun h' => (if ptK r z t = 0 then CW h' x (pitchIn r z t) (rmN n) (rmD r D) l s b K else CW h' x r n D l s b K) ∧ Off h1 h' x (x + 641))) := by
      intro y
      have e : ptK r z t = 2 := by unfold ptK; rw [if_neg (by rw [q]; decide), if_neg y]
      exact b_X8_pitch_46 (by omega) (by omega) (oX.w e ⟨by rw [if_neg (by omega)]; exact w, Off.rf⟩)
    refine b_X8_pitch_5 (fun _ => ?_) (fun y => absurd y (by decide))
    obtain ⟨⟨N, X, hX, hA⟩, -⟩ := w.2.1
    have a7 : N 7 = r 0 := hA.nums.2.2.2.2.2.2.2.1
    refine b_X8_pitch_18 w.1.f0 hX.rt hX.t.n0 (fun y => ?_) (fun y => ?_)
    · rw [a7] at y
      have := (iN_le (by omega)).mp y
      exact Bad (fun z => by omega)
    · rw [a7] at y
      have y1 : ¬ 24 ≤ r 0 := fun z => y ((iN_le (by omega)).mpr z)
      refine b_X8_pitch_33 w.1.f0 hX.o (s_siteFor hX hA I.1.k hk.1 hk.2) (fun v h2 hv => ?_)
      obtain ⟨rfl, rfl⟩ := hv
      have wr := where_rg r z t
      refine b_X8_pitch_42 (fun y => ?_) (fun y => ?_)
      · have y2 : whereIn r z t ≠ 3 := fun z9 => y (by rw [z9])
        have e : ptK r z t = 0 := by unfold ptK; rw [if_neg (by rw [q]; decide), if_pos ⟨by omega, y2⟩]
        refine b_X8_pitch_56 w.1.f2 w.1.f0 (by obtain ⟨xh, w4⟩ := w.2.2.2.1; exact w4.o) (w_rem w) (fun h3 hv => ?_)
        obtain ⟨w3, o3⟩ := hv
        refine b_X8_pitch_67 w3.1.f0 w3.2.1.o (w_putUp w3.2.1 hk.1 hk.2) (fun v h4 hv => ?_)
        obtain ⟨rfl, c4, o4⟩ := hv
        have er : puR r z t = pitchIn r z t := by unfold puR; rw [if_pos ⟨by omega, y2⟩]
        have ev : puV r z t = r 0 := by unfold puV; rw [if_pos ⟨by omega, y2⟩]
        rw [er] at c4
        have W := w3.act c4 o4
        exact b_X8_pitch_76 (oX.ve e ev ⟨by rw [if_pos e]; exact W.1, o3.tr W.2 x (x + 641)⟩)
      · have := (iN_eq (by omega)).mp y
        exact Bad (fun z => z.2 this)
theorem c_fill (w : CW h x r n D l s b K) {t v : Int} (ht : -2147483648 ≤ t ∧ t < 2147483648) (hv : -2147483648 ≤ v ∧ v < 2147483648) :
    CtX mX8_fill 7 1 6 [.ref x, .int (iN t), .int (iN v)] h (oX 2 0 (flK r t v) (fillV r t.toNat) (fun h' => (if flK r t v = 0 then CW h' x (fillIn r t.toNat v) (rmN n) (rmD r D) l s b K else CW h' x r n D l s b K) ∧ Off h h' x (x + 641))) := by
  have I := w.2.1.2
  have r0 := I.r0
  obtain ⟨⟨N, X, hX, hA⟩, -⟩ := w.2.1
  have hT := hX.tt hA r0.1
  have eN : ((nT r : Nat) : Int) = r 0 := by unfold nT; omega
  have S := s_thas hT ht (by omega)
  rw [eN] at S
  refine en_X8_fill (b_X8_fill_0 w.1.f0 hX.rt hX.t.o S (fun v1 h1 hv1 => ?_))
  obtain ⟨rfl, rfl⟩ := hv1
  by_cases q : 0 ≤ t ∧ t < r 0
  · rw [decide_eq_true q]
    have Bad : ¬ (0 ≤ v ∧ v ≤ 99) → AW mX8_fill 7 1 6 34 [.ref x, .int (iN t), .int (iN v)] [] h1 (oX 2 0 (flK r t v) (fillV r t.toNat) (fun h' => (if flK r t v = 0 then CW h' x (fillIn r t.toNat v) (rmN n) (rmD r D) l s b K else CW h' x r n D l s b K) ∧ Off h1 h' x (x + 641))) := by
      intro y
      have e : flK r t v = 2 := by unfold flK; rw [if_neg (fun z => z q), if_neg y]
      exact b_X8_fill_34 (by omega) (by omega) (oX.w e ⟨by rw [if_neg (by omega)]; exact w, Off.rf⟩)
    refine b_X8_fill_11 (fun _ => ?_) (fun y => absurd y (by decide))
    refine b_X8_fill_24 (fun y => Bad (by have := (iN_lt (by omega)).mp y; omega)) (fun y => ?_)
    have y1 : ¬ v < 0 := fun z => y ((iN_lt (by omega)).mpr z)
    refine b_X8_fill_28 (fun y => ?_) (fun y => Bad (fun z => y ((iN_le (by omega)).mpr z.2)))
    have y2 := (iN_le (by omega)).mp y
    have e : flK r t v = 0 := by unfold flK; rw [if_neg (fun z => z q), if_pos (by omega)]
    refine b_X8_fill_44 w.1.f2 w.1.f0 (by obtain ⟨xh, w4⟩ := w.2.2.2.1; exact w4.o) (w_rem w) (fun h3 hv => ?_)
    obtain ⟨w3, o3⟩ := hv
    refine b_X8_fill_55 w3.1.f0 w3.2.1.o (w_strew w3.2.1 ht (by omega)) (fun v4 h4 hv => ?_)
    obtain ⟨rfl, c4, o4⟩ := hv
    have er : filR r t v = fillIn r t.toNat v := by unfold filR; rw [if_pos q]
    have ev : filV r t = fillV r t.toNat := by unfold filV; rw [if_pos q]
    rw [er] at c4
    have W := w3.act c4 o4
    exact b_X8_fill_64 (oX.ve e ev ⟨by rw [if_pos e]; exact W.1, o3.tr W.2 x (x + 641)⟩)
  · have e : flK r t v = 1 := by unfold flK; rw [if_pos q]
    rw [decide_eq_false q]
    refine b_X8_fill_11 (fun y => absurd rfl y) (fun _ => ?_)
    exact b_X8_fill_14 (by omega) (by omega) (oX.a e ⟨by rw [if_neg (by omega)]; exact w, Off.rf⟩)
theorem c_enter (w : CW h x r n D l s b K) :
    CtX mX8_enter 7 1 6 [.ref x] h (oX 1 1 (enK r) (r 3) (fun h' => (if enK r = 0 then CW h' x (enterIn r) (rmN n) (rmD r D) l s b K else CW h' x r n D l s b K) ∧ Off h h' x (x + 641))) := by
  have I := w.2.1.2
  have r3 := I.r3
  obtain ⟨⟨N, X, hX, hA⟩, -⟩ := w.2.1
  have a8 : N 8 = r 3 := hA.nums.2.2.2.2.2.2.2.2.1
  refine en_X8_enter (b_X8_enter_0 w.1.f0 hX.rf hX.f.n0 (fun y => ?_) (fun y => ?_))
  · rw [a8] at y
    have q := (iN_lt (by omega)).mp y
    have e : enK r = 0 := by unfold enK; rw [if_pos q]
    refine b_X8_enter_25 w.1.f2 w.1.f0 (by obtain ⟨xh, w4⟩ := w.2.2.2.1; exact w4.o) (w_rem w) (fun h3 hv => ?_)
    obtain ⟨w3, o3⟩ := hv
    refine b_X8_enter_36 w3.1.f0 w3.2.1.o (w_goIn w3.2.1) (fun v4 h4 hv => ?_)
    obtain ⟨rfl, c4, o4⟩ := hv
    have er : inR r = enterIn r := by unfold inR; rw [if_pos q]
    have ev : inV r = r 3 := by unfold inV; rw [if_pos q]
    rw [er] at c4
    have W := w3.act c4 o4
    exact b_X8_enter_43 (oX.ve e ev ⟨by rw [if_pos e]; exact W.1, o3.tr W.2 x (x + 641)⟩)
  · rw [a8] at y
    have q : ¬ r 3 < 8 := fun z => y ((iN_lt (by omega)).mpr z)
    have e : enK r = 1 := by unfold enK; rw [if_neg q]
    exact b_X8_enter_15 (by omega) (by omega) (oX.a e ⟨by rw [if_neg (by omega)]; exact w, Off.rf⟩)
theorem c_leave (w : CW h x r n D l s b K) :
    CtX mX8_leave 7 1 6 [.ref x] h (oX 1 1 (leK r) (strV r (nR r - 1)) (fun h' => (if leK r = 0 then CW h' x (leaveIn r) (rmN n) (rmD r D) l s b K else CW h' x r n D l s b K) ∧ Off h h' x (x + 641))) := by
  have I := w.2.1.2
  have r3 := I.r3
  obtain ⟨⟨N, X, hX, hA⟩, -⟩ := w.2.1
  have a8 : N 8 = r 3 := hA.nums.2.2.2.2.2.2.2.2.1
  refine en_X8_leave (b_X8_leave_0 w.1.f0 hX.rf hX.f.n0 (fun y => ?_) (fun y => ?_))
  · rw [a8] at y
    have q : 0 < r 3 := by
      rcases Int.lt_or_le 0 (r 3) with z | z
      · exact z
      · exact absurd ((iN_eq (by omega)).mpr (by omega)) y
    have e : leK r = 0 := by unfold leK; rw [if_pos q]
    refine b_X8_leave_24 w.1.f2 w.1.f0 (by obtain ⟨xh, w4⟩ := w.2.2.2.1; exact w4.o) (w_rem w) (fun h3 hv => ?_)
    obtain ⟨w3, o3⟩ := hv
    refine b_X8_leave_35 w3.1.f0 w3.2.1.o (w_goOut w3.2.1) (fun v4 h4 hv => ?_)
    obtain ⟨rfl, c4, o4⟩ := hv
    have er : outR r = leaveIn r := by unfold outR; rw [if_pos q]
    have ev : outV r = strV r (nR r - 1) := by unfold outV; rw [if_pos q]
    rw [er] at c4
    have W := w3.act c4 o4
    exact b_X8_leave_42 (oX.ve e ev ⟨by rw [if_pos e]; exact W.1, o3.tr W.2 x (x + 641)⟩)
  · rw [a8] at y
    have q := (iN_eq (by omega)).mp y
    have e : leK r = 1 := by unfold leK; rw [if_neg (by omega)]
    exact b_X8_leave_13 (by omega) (by omega) (oX.a e ⟨by rw [if_neg (by omega)]; exact w, Off.rf⟩)
theorem c_jump (w : CW h x r n D l s b K) {i : Int} (hi : -2147483648 ≤ i ∧ i < 2147483648) :
    CtX mX8_jump 7 1 6 [.ref x, .int (iN i)] h (oX 2 2 (juK r i) (strV r i.toNat) (fun h' => (if juK r i = 0 then CW h' x (jumpIn r i.toNat) (rmN n) (rmD r D) l s b K else CW h' x r n D l s b K) ∧ Off h h' x (x + 641))) := by
  have I := w.2.1.2
  have r3 := I.r3
  obtain ⟨⟨N, X, hX, hA⟩, -⟩ := w.2.1
  have hF := hX.ff hA r3.1
  have eN : ((nR r : Nat) : Int) = r 3 := by unfold nR; omega
  have S := s_rhas hF hi (by omega)
  rw [eN] at S
  refine en_X8_jump (b_X8_jump_0 w.1.f0 hX.rf hX.f.o S (fun v1 h1 hv1 => ?_))
  obtain ⟨rfl, rfl⟩ := hv1
  by_cases q : 0 ≤ i ∧ i < r 3
  · rw [decide_eq_true q]
    have e : juK r i = 0 := by unfold juK; rw [if_pos q]
    refine b_X8_jump_11 (fun _ => ?_) (fun y => absurd y (by decide))
    refine b_X8_jump_24 w.1.f2 w.1.f0 (by obtain ⟨xh, w4⟩ := w.2.2.2.1; exact w4.o) (w_rem w) (fun h3 hv => ?_)
    obtain ⟨w3, o3⟩ := hv
    refine b_X8_jump_35 w3.1.f0 w3.2.1.o (w_goBack w3.2.1 hi) (fun v4 h4 hv => ?_)
    obtain ⟨rfl, c4, o4⟩ := hv
    have er : bakR r i = jumpIn r i.toNat := by unfold bakR; rw [if_pos q]
    have ev : bakV r i = strV r i.toNat := by unfold bakV; rw [if_pos q]
    rw [er] at c4
    have W := w3.act c4 o4
    exact b_X8_jump_43 (oX.ve e ev ⟨by rw [if_pos e]; exact W.1, o3.tr W.2 x (x + 641)⟩)
  · have e : juK r i = 1 := by unfold juK; rw [if_neg q]
    rw [decide_eq_false q]
    refine b_X8_jump_11 (fun y => absurd rfl y) (fun _ => ?_)
    exact b_X8_jump_14 (by omega) (by omega) (oX.a e ⟨by rw [if_neg (by omega)]; exact w, Off.rf⟩)
theorem s_isSetting {w v : Int} (hw : -2147483648 ≤ w ∧ w < 2147483648) (hv : -2147483648 ≤ v ∧ v < 2147483648) : CtZ mX8_isSetting 0 0 0 [.int (iN w), .int (iN v)] h (fun u h' => u = isSet w v ∧ h' = h) := by
  have eT := iN_T hw
  have Y : ((w = 0 ∧ 8 ≤ v ∧ v ≤ 64) ∨ (w = 1 ∧ 0 ≤ v ∧ v ≤ 128) ∨ (w = 2 ∧ 0 ≤ v ∧ v ≤ 1)) → isSet w v = true := fun q => by unfold isSet; rw [decide_eq_true q]
  have No : ¬ ((w = 0 ∧ 8 ≤ v ∧ v ≤ 64) ∨ (w = 1 ∧ 0 ≤ v ∧ v ≤ 128) ∨ (w = 2 ∧ 0 ≤ v ∧ v ≤ 1)) → isSet w v = false := fun q => by unfold isSet; rw [decide_eq_false q]
  refine en_X8_isSetting (b_X8_isSetting_0 (fun q => ?_) (fun q => ?_) (fun q => ?_) (fun q => ?_)) <;> rw [eT] at q
  · refine b_X8_isSetting_28 (fun y => b_X8_isSetting_44 (rZ0 ⟨(No (by have := (iN_lt (by omega)).mp y; omega)).symm, rfl⟩)) (fun y => ?_)
    have y1 : ¬ v < 8 := fun z => y ((iN_lt (by omega)).mpr z)
    refine b_X8_isSetting_34 (fun y => b_X8_isSetting_44 (rZ0 ⟨(No (by have := (iN_lt (by omega)).mp y; omega)).symm, rfl⟩)) (fun y => ?_)
    have y2 : ¬ 64 < v := fun z => y ((iN_lt (by omega)).mpr z)
    exact b_X8_isSetting_40 (rZ1 ⟨(Y (by omega)).symm, rfl⟩)
  · refine b_X8_isSetting_46 (fun y => b_X8_isSetting_61 (rZ0 ⟨(No (by have := (iN_lt (by omega)).mp y; omega)).symm, rfl⟩)) (fun y => ?_)
    have y1 : ¬ v < 0 := fun z => y ((iN_lt (by omega)).mpr z)
    refine b_X8_isSetting_50 (fun y => b_X8_isSetting_61 (rZ0 ⟨(No (by have := (iN_lt (by omega)).mp y; omega)).symm, rfl⟩)) (fun y => ?_)
    have y2 : ¬ 128 < v := fun z => y ((iN_lt (by omega)).mpr z)
    exact b_X8_isSetting_57 (rZ1 ⟨(Y (by omega)).symm, rfl⟩)
  · refine b_X8_isSetting_63 (fun y => b_X8_isSetting_72 (rZ1 ⟨(Y (by have := (iN_eq (by omega)).mp y; omega)).symm, rfl⟩)) (fun y => ?_)
    have y1 : ¬ v = 0 := fun z => y (by rw [z])
    refine b_X8_isSetting_67 (fun y => ?_) (fun y => b_X8_isSetting_72 (rZ1 ⟨(Y (by have := (iN_eq (by omega)).mp y; omega)).symm, rfl⟩))
    have y2 : ¬ v = 1 := fun z => y (by rw [z])
    exact b_X8_isSetting_76 (rZ0 ⟨(No (by omega)).symm, rfl⟩)
  · exact b_X8_isSetting_78 (rZ0 ⟨(No (by omega)).symm, rfl⟩)
/-- one of the three settings -/
theorem Agr.set {k m k' : Int} {N N' : Nat → Int} {X : Nat → Nat → Int} (ha : Agr k m N X r) (j : Nat) (hj : 7 ≤ j ∧ j ≤ 9) (v : Int) (e : ∀ i, i ≠ 0 → i ≠ 1 → i ≠ 2 → N' i = N i) (e0 : N' 0 = up r j v 7) (e1 : N' 1 = k') (e2 : N' 2 = up r j v 9) : Agr k' m N' X (up r j v) := by
  obtain ⟨⟨a0, a1, a2, a3, a4, a5, a6, a7, a8, a9, a10⟩, b0, b1, b2, b3, b4⟩ := ha
  have U : ∀ c, c < 7 ∨ 10 ≤ c → up r j v c = r c := fun c hc => up_ne _ _ (by omega)
  have eA : allP (up r j v) = allP r := by
    unfold allP useP sparP nF nS
    rw [U 1 (by omega), U 2 (by omega)]
    congr 1
    · exact sm_congr (fun f hf => U _ (by omega))
    · exact sm_congr (fun f hf => U _ (by omega))
  unfold Agr
  rw [eA, U 6 (by omega), U 4 (by omega), U 0 (by omega), U 3 (by omega), U 1 (by omega), U 2 (by omega), e 3 (by omega) (by omega) (by omega), e 4 (by omega) (by omega) (by omega), e 5 (by omega) (by omega) (by omega), e 6 (by omega) (by omega) (by omega), e 7 (by omega) (by omega) (by omega), e 8 (by omega) (by omega) (by omega), e 9 (by omega) (by omega) (by omega), e 10 (by omega) (by omega) (by omega)]
  refine ⟨⟨e0, e1, e2, a3, a4, a5, a6, a7, a8, a9, a10⟩, fun j hj => ?_, fun t ht => ?_, fun i hi => ?_, fun f hf => ?_, fun i hi => ?_⟩
  · rw [U _ (by omega)]; exact b0 j hj
  · rw [U _ (by omega), U _ (by omega), U _ (by omega), U _ (by omega)]; exact b1 t ht
  · rw [U _ (by omega), U _ (by omega)]; exact b2 i hi
  · rw [U _ (by omega), U _ (by omega), U _ (by omega), U _ (by omega)]; exact b3 f hf
  · rw [U _ (by omega), U _ (by omega)]; exact b4 i hi
theorem c_set (w : CW h x r n D l s b K) {a v : Int} (ha : -2147483648 ≤ a ∧ a < 2147483648) (hv : -2147483648 ≤ v ∧ v < 2147483648) :
    CtX mX8_set 7 1 6 [.ref x, .int (iN a), .int (iN v)] h (oX 0 0 (seK a v) (r (7 + a).toNat) (fun h' => (if seK a v = 0 then CW h' x (up r (7 + a).toNat v) (rmN n) (rmD r D) l s b K else CW h' x r n D l s b K) ∧ Off h h' x (x + 641))) := by
  refine en_X8_set (b_X8_set_0 (s_isSetting ha hv) (fun v1 h1 hv1 => ?_))
  obtain ⟨rfl, rfl⟩ := hv1
  cases q : isSet a v
  · have e : seK a v = 1 := by unfold seK; rw [if_neg (by rw [q]; decide)]
    refine b_X8_set_5 (fun y => absurd rfl y) (fun _ => ?_)
    exact b_X8_set_8 (by omega) (by omega) (oX.a e ⟨by rw [if_neg (by omega)]; exact w, Off.rf⟩)
  · have e : seK a v = 0 := by unfold seK; rw [if_pos q]
    have hs : (a = 0 ∧ 8 ≤ v ∧ v ≤ 64) ∨ (a = 1 ∧ 0 ≤ v ∧ v ≤ 128) ∨ (a = 2 ∧ 0 ≤ v ∧ v ≤ 1) := by unfold isSet at q; exact of_decide_eq_true q
    refine b_X8_set_5 (fun _ => ?_) (fun y => absurd y (by decide))
    refine b_X8_set_19 w.1.f2 w.1.f0 (by obtain ⟨xh, w4⟩ := w.2.2.2.1; exact w4.o) (w_rem w) (fun h3 hv3 => ?_)
    obtain ⟨w3, o3⟩ := hv3
    obtain ⟨⟨N, X, hX, hA⟩, I⟩ := w3.2.1
    have nu := hA.nums
    have Fin : ∀ (j : Nat) (N' : Nat → Int) (h4 : AH), (7 + a).toNat = 7 + j → j < 3 → h4 = stf h3 (x + 1) j (.int (iN v)) → N' = up N j v → (if seK a v = 0 then CW h4 x (up r (7 + a).toNat v) (rmN n) (rmD r D) l s b K else CW h4 x r n D l s b K) ∧ Off h1 h4 x (x + 641) := by
      rintro j _ _ ej hj rfl rfl
      rw [if_pos e, ej]
      have o4 : Off h3 (stf h3 (x + 1) j (.int (iN v))) (x + 1) (x + 1 + 1) := Off.ofs
      have I' : Inv (up r (7 + j) v) := by
        rcases (show j = 0 ∨ j = 1 ∨ j = 2 by omega) with rfl | rfl | rfl
        · exact I.set7 (by omega)
        · exact I.set8 (by omega)
        · exact I.set9 (by omega)
      have A' : Agr (up r (7 + j) v 8) (up r (7 + j) v 5) (up N j v) X (up r (7 + j) v) := by
        rw [show up r (7 + j) v 5 = r 5 from up_ne _ _ (by omega)]
        refine hA.set (N' := up N j v) (k' := up r (7 + j) v 8) (7 + j) (by omega) v (fun i i0 i1 i2 => up_ne _ _ (by omega)) ?_ ?_ ?_
        · rcases (show j = 0 ∨ j = 1 ∨ j = 2 by omega) with rfl | rfl | rfl
          · rfl
          · exact nu.1
          · exact nu.1
        · rcases (show j = 0 ∨ j = 1 ∨ j = 2 by omega) with rfl | rfl | rfl
          · exact nu.2.1
          · rfl
          · exact nu.2.1
        · rcases (show j = 0 ∨ j = 1 ∨ j = 2 by omega) with rfl | rfl | rfl
          · exact nu.2.2.1
          · exact nu.2.2.1
          · rfl
      have W := w3.act (r' := up r (7 + j) v) (h' := stf h3 (x + 1) j (.int (iN v))) ⟨⟨_, _, hX.setn j v, A'⟩, I'⟩ (o4.up _ _)
      exact ⟨W.1, o3.tr W.2 x (x + 641)⟩
    refine b_X8_set_30 (fun y => ?_) (fun y => ?_) (fun y y2 => ?_)
    · have := (iN_eq (by omega)).mp y
      refine b_X8_set_60 w3.1.f0 hX.n0 w3.1.f0 hX.n0 (oX.ve e ?_ (Fin 0 _ _ (by omega) (by omega) rfl rfl))
      rw [nu.1]; congr 1; omega
    · have := (iN_eq (by omega)).mp y
      refine b_X8_set_79 w3.1.f0 hX.n1 w3.1.f0 hX.n1 (oX.ve e ?_ (Fin 1 _ _ (by omega) (by omega) rfl rfl))
      rw [nu.2.1]; congr 1; omega
    · have a2 : a = 2 := by
        rcases hs with z | z | z
        · exact absurd (by rw [z.1]) y
        · exact absurd (by rw [z.1]) y2
        · exact z.1
      refine b_X8_set_98 w3.1.f0 hX.n2 w3.1.f0 hX.n2 (oX.ve e ?_ (Fin 2 _ _ (by omega) (by omega) rfl rfl))
      rw [nu.2.2.1]; congr 1; omega
theorem c_undo (w : CW h x r n D l s b K) (ok : OKS r n D l s b K) :
    CtX mX8_undo 7 1 6 [.ref x] h (oX 1 1 (unK n) ((n : Int) - 1) (fun h' => (if unK n = 0 then CW h' x (D 0) (n - 1) (fun i => D (i + 1)) l s b K else CW h' x r n D l s b K) ∧ Off h h' x (x + 641))) := by
  obtain ⟨xh, w4⟩ := w.2.2.2.1
  have n14 := ok.2.1
  refine en_X8_undo (b_X8_undo_0 w.1.f2 w4.n0 (fun y => ?_) (fun y => ?_))
  · have q : 0 < n := by
      rcases Nat.eq_zero_or_pos n with z | z
      · exact absurd (by rw [z]; rfl) y
      · exact z
    have e : unK n = 0 := by unfold unK; rw [if_neg (by omega)]
    refine b_X8_undo_21 w.1.f2 w.1.f0 w4.o (s_takeBack w4 q w.2.1.1 (by omega)) (fun h3 hv => ?_)
    obtain ⟨k1, k2, h2, o2, o3⟩ := hv
    obtain ⟨w1, w2, ⟨N, X, w3⟩, -, ⟨p, w0, kd, f1, f2, w5⟩, w6, w7, w8⟩ := w
    have o : Off h h3 x (x + 641) := (o2.up x (x + 641)).tr o3 x (x + 641)
    have W : CW h3 x (D 0) (n - 1) (fun i => D (i + 1)) l s b K := by
      refine ⟨(w1.off o2).off o3, ⟨k2, ok.2.2.1 0 q⟩, ⟨N, X, (w3.off o2).off o3⟩, ⟨_, k1⟩, ⟨_, _, _, _, _, (w5.off o2).off o3⟩, (w6.off o2).off o3, fun j hj => ?_, (w8.off o2).off o3⟩
      obtain ⟨N, X, u1, u2⟩ := w7 j hj
      exact ⟨N, X, (u1.off o2).off o3, u2⟩
    exact b_X8_undo_32 W.1.f2 k1.n0 (oX.ve e (by omega) ⟨by rw [if_pos e]; exact W, o⟩)
  · have q := (iN_eq (by omega)).mp y
    have e : unK n = 1 := by unfold unK; rw [if_pos (by omega)]
    exact b_X8_undo_10 (by omega) (by omega) (oX.a e ⟨by rw [if_neg (by omega)]; exact w, Off.rf⟩)
theorem c_where (hx : tco h x) (hc : cmp h (x + 1) r) {z t : Int} (hz : -2147483648 ≤ z ∧ z < 2147483648) (ht : -2147483648 ≤ t ∧ t < 2147483648) :
    CtX mX8_where 6 1 6 [.ref x, .int (iN z), .int (iN t)] h (oX 0 0 (knK z t) (whereIn r z t) (fun h' => h' = h)) := by
  obtain ⟨⟨N, X, hX, hA⟩, I⟩ := hc
  refine en_X8_where (b_X8_where_0 (s_isTentKind hz ht) (fun v h1 hv => ?_))
  obtain ⟨rfl, rfl⟩ := hv
  cases q : isKnd z t
  · have e : knK z t = 1 := by unfold knK; rw [if_neg (by rw [q]; decide)]
    refine b_X8_where_5 (fun y => absurd rfl y) (fun _ => ?_)
    exact b_X8_where_8 (by omega) (by omega) (oX.a e rfl)
  · have e : knK z t = 0 := by unfold knK; rw [if_pos q]
    have hk := isKnd_T q
    refine b_X8_where_5 (fun _ => ?_) (fun y => absurd y (by decide))
    refine b_X8_where_18 hx.f0 hX.o (s_siteFor hX hA I.1.k hk.1 hk.2) (fun v h2 hv => ?_)
    obtain ⟨rfl, rfl⟩ := hv
    exact b_X8_where_27 (oX.v e rfl)
theorem c_givenUp (w : CW h x r n D l s b K) {i : Int} (hi : -2147483648 ≤ i ∧ i < 2147483648) :
    CtX mX8_givenUp 6 1 6 [.ref x, .int (iN i)] h (oX 2 2 (juK r i) (allP r - allP (jumpIn r i.toNat)) (fun h' => CW h' x r n D l s b K ∧ Off h h' x (x + 641))) := by
  have I := w.2.1.2
  have r3 := I.r3
  obtain ⟨⟨N, X, hX, hA⟩, -⟩ := w.2.1
  have hF := hX.ff hA r3.1
  have eN : ((nR r : Nat) : Int) = r 3 := by unfold nR; omega
  have S := s_rhas hF hi (by omega)
  rw [eN] at S
  refine en_X8_givenUp (b_X8_givenUp_0 w.1.f0 hX.rf hX.f.o S (fun v1 h1 hv1 => ?_))
  obtain ⟨rfl, rfl⟩ := hv1
  by_cases q : 0 ≤ i ∧ i < r 3
  · rw [decide_eq_true q]
    have e : juK r i = 0 := by unfold juK; rw [if_pos q]
    obtain ⟨Nt, Xt, ht⟩ := w.2.2.1
    refine b_X8_givenUp_11 (fun _ => ?_) (fun y => absurd y (by decide))
    refine b_X8_givenUp_24 w.1.f1 w.1.f0 ht.o (s_ccopy ht hX (by omega)) (fun h2 hv => ?_)
    obtain ⟨t2, o2⟩ := hv
    have W2 := w.tri t2 o2
    refine b_X8_givenUp_35 W2.1.1.f1 t2.o (w_goBack (r := r) ⟨⟨N, X, t2, hA⟩, I⟩ hi) (fun v3 h3 hv => ?_)
    obtain ⟨-, c3, o3⟩ := hv
    have er : bakR r i = jumpIn r i.toNat := by unfold bakR; rw [if_pos q]
    rw [er] at c3
    obtain ⟨⟨N3, X3, t3, A3⟩, -⟩ := c3
    have W3 := W2.1.tri t3 o3
    obtain ⟨⟨N4, X4, c4, A4⟩, -⟩ := W3.1.2.1
    refine b_X8_givenUp_43 W3.1.1.f0 c4.n6 W3.1.1.f1 t3.n6 (oX.ve e ?_ ⟨W3.1, W2.2.tr W3.2 x (x + 641)⟩)
    rw [A4.nums.2.2.2.2.2.2.1, A3.nums.2.2.2.2.2.2.1]
  · have e : juK r i = 1 := by unfold juK; rw [if_neg q]
    rw [decide_eq_false q]
    refine b_X8_givenUp_11 (fun y => absurd rfl y) (fun _ => ?_)
    exact b_X8_givenUp_14 (by omega) (by omega) (oX.a e ⟨w, Off.rf⟩)
theorem c_more (w : CW h x r n D l s b K) {z t : Int} (hz : -2147483648 ≤ z ∧ z < 2147483648) (ht : -2147483648 ≤ t ∧ t < 2147483648) :
    CtX mX8_more 6 1 6 [.ref x, .int (iN z), .int (iN t)] h (oX 0 0 (knK z t) (mrV z t 257 r) (fun h' => CW h' x r n D l s b K ∧ Off h h' x (x + 641))) := by
  have I := w.2.1.2
  obtain ⟨⟨N, X, hX, hA⟩, -⟩ := w.2.1
  refine en_X8_more (b_X8_more_0 (s_isTentKind hz ht) (fun v h1 hv => ?_))
  obtain ⟨rfl, rfl⟩ := hv
  cases q : isKnd z t
  · have e : knK z t = 1 := by unfold knK; rw [if_neg (by rw [q]; decide)]
    refine b_X8_more_5 (fun y => absurd rfl y) (fun _ => ?_)
    exact b_X8_more_8 (by omega) (by omega) (oX.a e ⟨w, Off.rf⟩)
  · have e : knK z t = 0 := by unfold knK; rw [if_pos q]
    have hk := isKnd_T q
    obtain ⟨Nt, Xt, ht⟩ := w.2.2.1
    refine b_X8_more_5 (fun _ => ?_) (fun y => absurd y (by decide))
    refine b_X8_more_18 w.1.f1 w.1.f0 ht.o (s_ccopy ht hX (by omega)) (fun h2 hv => ?_)
    obtain ⟨t2, o2⟩ := hv
    have W2 := w.tri t2 o2
    refine b_X8_more_29 ?_
    refine s_moreC W2.1.1 t2 hA I.1 ⟨I.2.2.2.1.2.1.1, I.2.2.2.1.2.1.2⟩ I.r0 I.r3 hk.1 hk.2 (fun h3 t3 o3 => ?_)
    obtain ⟨N3, X3, t3⟩ := t3
    have W3 := W2.1.tri t3 o3
    exact oX.v e ⟨W3.1, W2.2.tr W3.2 x (x + 641)⟩
theorem c_save (w : CW h x r n D l s b K) {i : Int} (hi : -2147483648 ≤ i ∧ i < 2147483648) :
    CtX mX8_save 6 1 6 [.ref x, .int (iN i)] h (oX 2 2 (saK i) (r 0) (fun h' => (if saK i = 0 then CW h' x r n D l s (fun j => if j = i.toNat then true else b j) (fun j => if j = i.toNat then r else K j) else CW h' x r n D l s b K) ∧ Off h h' x (x + 641))) := by
  have Bad : ¬ (0 ≤ i ∧ i ≤ 1) → AW mX8_save 6 1 6 9 [.ref x, .int (iN i)] [] h (oX 2 2 (saK i) (r 0) (fun h' => (if saK i = 0 then CW h' x r n D l s (fun j => if j = i.toNat then true else b j) (fun j => if j = i.toNat then r else K j) else CW h' x r n D l s b K) ∧ Off h h' x (x + 641))) := by
    intro q
    have e : saK i = 1 := by unfold saK; rw [if_neg q]
    exact b_X8_save_9 (by omega) (by omega) (oX.a e ⟨by rw [if_neg (by omega)]; exact w, Off.rf⟩)
  refine en_X8_save (b_X8_save_0 (fun y => Bad (by have := (iN_lt (by omega)).mp y; omega)) (fun y => ?_))
  have y1 : ¬ i < 0 := fun z => y ((iN_lt (by omega)).mpr z)
  refine b_X8_save_4 (fun y => ?_) (fun y => Bad (fun z => y ((iN_lt (by omega)).mpr (by omega))))
  have y2 := (iN_lt (by omega)).mp y
  have e : saK i = 0 := by unfold saK; rw [if_pos (by omega)]
  have ei : i = ((i.toNat : Nat) : Int) := by omega
  obtain ⟨w1, w2, ⟨Nt, Xt, w3⟩, ⟨xh, w4⟩, ⟨p, w0, kd, f1, f2, w5⟩, w6, w7, w8⟩ := w
  obtain ⟨N9, X9, u1, -⟩ := w7 i.toNat (by omega)
  obtain ⟨⟨N, X, hX, hA⟩, I⟩ := w2
  have ea : x + 567 + 2 + 35 * i.toNat = x + 569 + 35 * i.toNat := by omega
  have L := s_lay w6 (j := i.toNat) (by omega) (by omega) (by rw [ea]; exact u1) hX (by omega)
  rw [← ei, ea] at L
  refine b_X8_save_20 w1.f4 w1.f0 w6.o L (fun h1 hv => ?_)
  obtain ⟨k1, o1⟩ := hv
  have v8 := w8.off o1
  refine b_X8_save_32 (w1.off o1).f5 v8.o (s_put v8 (z := i) (v := 1) (by omega) (by omega)) (fun h2 e2 => ?_)
  have o2 : Off h1 h2 (x + 640) (x + 641) := Off.eqw e2 (x + 640) (x + 641)
  have hX2 := (hX.off o1).off o2
  have a7 : N 7 = r 0 := hA.nums.2.2.2.2.2.2.2.1
  have o : Off h h2 x (x + 641) := (o1.up x (x + 641)).tr o2 x (x + 641)
  refine b_X8_save_41 ((w1.off o1).off o2).f0 hX2.rt hX2.t.n0 (oX.ve e a7 ⟨?_, o⟩)
  rw [if_pos e]
  refine ⟨(w1.off o1).off o2, ⟨⟨N, X, hX2, hA⟩, I⟩, ⟨Nt, Xt, (w3.off o1).off o2⟩, ⟨xh, (w4.off o1).off o2⟩, ⟨_, _, _, _, _, (w5.off o1).off o2⟩, (w6.off o1).off o2, fun j hj => ?_, ?_⟩
  · by_cases q : j = i.toNat
    · refine ⟨N, X, by rw [q]; exact k1.off o2, fun _ => ?_⟩
      show Agr ((if j = i.toNat then r else K j) 8) ((if j = i.toNat then r else K j) 5) N X (if j = i.toNat then r else K j)
      rw [if_pos q]; exact hA
    · obtain ⟨N', X', v1, v2⟩ := w7 j hj
      refine ⟨N', X', (v1.off o1).off o2, fun z => ?_⟩
      show Agr ((if j = i.toNat then r else K j) 8) ((if j = i.toNat then r else K j) 5) N' X' (if j = i.toNat then r else K j)
      rw [if_neg q]
      exact v2 (by simpa [q] using z)
  · rw [e2]
    refine (v8.w _).congr (fun j hj => ?_)
    unfold up
    by_cases q : j = i.toNat
    · rw [if_pos q]
      show (1 : Int) = bI (if j = i.toNat then true else b j)
      rw [if_pos q]; rfl
    · rw [if_neg q]
      show bI (b j) = bI (if j = i.toNat then true else b j)
      rw [if_neg q]
theorem c_restore (w : CW h x r n D l s b K) (ok : OKS r n D l s b K) {i : Int} (hi : -2147483648 ≤ i ∧ i < 2147483648) :
    CtX mX8_restore 6 1 6 [.ref x, .int (iN i)] h (oX 2 1 (reK b i) (K i.toNat 0) (fun h' => (if reK b i = 0 then CW h' x (K i.toNat) 0 D l s b K else CW h' x r n D l s b K) ∧ Off h h' x (x + 641))) := by
  have Bad : ¬ (0 ≤ i ∧ i ≤ 1) → AW mX8_restore 6 1 6 9 [.ref x, .int (iN i)] [] h (oX 2 1 (reK b i) (K i.toNat 0) (fun h' => (if reK b i = 0 then CW h' x (K i.toNat) 0 D l s b K else CW h' x r n D l s b K) ∧ Off h h' x (x + 641))) := by
    intro q
    have e : reK b i = 1 := by unfold reK; rw [if_pos q]
    exact b_X8_restore_9 (by omega) (by omega) (oX.a e ⟨by rw [if_neg (by omega)]; exact w, Off.rf⟩)
  refine en_X8_restore (b_X8_restore_0 (fun y => Bad (by have := (iN_lt (by omega)).mp y; omega)) (fun y => ?_))
  have y1 : ¬ i < 0 := fun z => y ((iN_lt (by omega)).mpr z)
  refine b_X8_restore_4 (fun y => ?_) (fun y => Bad (fun z => y ((iN_lt (by omega)).mpr (by omega))))
  have y2 := (iN_lt (by omega)).mp y
  have ei : i = ((i.toNat : Nat) : Int) := by omega
  have w9 := w
  obtain ⟨w1, w2, ⟨Nt, Xt, w3⟩, ⟨xh, w4⟩, ⟨p, w0, kd, f1, f2, w5⟩, w6, w7, w8⟩ := w
  refine b_X8_restore_20 w1.f5 w8.o (s_get w8 (z := i) (by omega) (by omega)) (fun v h1 hv => ?_)
  obtain ⟨rfl, rfl⟩ := hv
  cases q : b i.toNat
  · have e : reK b i = 2 := by unfold reK; rw [if_neg (fun z => z (by omega)), if_neg (by rw [q]; decide)]
    refine b_X8_restore_28 (fun y => absurd rfl y) (fun _ => ?_)
    exact b_X8_restore_31 (by omega) (by omega) (oX.w e ⟨by rw [if_neg (by omega)]; exact w9, Off.rf⟩)
  · have e : reK b i = 0 := by unfold reK; rw [if_neg (fun z => z (by omega)), if_pos q]
    obtain ⟨N9, X9, u1, u2⟩ := w7 i.toNat (by omega)
    have uA := u2 q
    have IK := ok.2.2.2.2.2 i.toNat (by omega) q
    obtain ⟨⟨N, X, hX, hA⟩, I⟩ := w2
    have ea : x + 567 + 2 + 35 * i.toNat = x + 569 + 35 * i.toNat := by omega
    have F := s_fetch w6 (j := i.toNat) (by omega) (by omega) (by rw [ea]; exact u1) hX (by omega)
    rw [← ei] at F
    refine b_X8_restore_28 (fun _ => ?_) (fun y => absurd y (by decide))
    refine b_X8_restore_42 w1.f4 w1.f0 w6.o F (fun h2 hv => ?_)
    obtain ⟨k2, o2⟩ := hv
    have W2 := w9.act (r' := K i.toNat) ⟨⟨N9, X9, k2, uA⟩, IK⟩ o2
    obtain ⟨xh2, v4⟩ := W2.1.2.2.2.1
    refine b_X8_restore_54 W2.1.1.f2 v4.o (s_forgetAll v4 D) (fun h3 hv => ?_)
    obtain ⟨v43, o3⟩ := hv
    have W3 := W2.1.his v43 (o3.up _ _)
    obtain ⟨⟨N4, X4, c4, A4⟩, -⟩ := W3.1.2.1
    have a7 : N4 7 = K i.toNat 0 := A4.nums.2.2.2.2.2.2.2.1
    exact b_X8_restore_61 W3.1.1.f0 c4.rt c4.t.n0 (oX.ve e a7 ⟨by rw [if_pos e]; exact W3.1, W2.2.tr W3.2 x (x + 641)⟩)
end ACT2
