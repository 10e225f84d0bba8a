/-! the reference's object -/
section MOB
variable {h h' : AH} {m q p n n' lo hi : Nat} {f g : Nat → Int}
/-- count numbers of one array come into another -/
def cpD (f g : Nat → Int) (s t c : Nat) : Nat → Int := fun k => if t ≤ k ∧ k < t + c then f (s + (k - t)) else g k
theorem s_cpD (ha : ari h q n f) (hb : ari h p n' g) (hd : q ≠ p) (s t c : Nat) (h1 : s + c ≤ n) (h2 : t + c ≤ n') (hn : n ≤ 100000) (hn' : n' ≤ 100000) : CtV mX9_copy 0 0 0 [.ref q, .int (iN s), .ref p, .int (iN t), .int (iN c)] h (fun h' => h' = wr h p n' (cpD f g s t c)) := by
  refine en_X9_copy (b_X9_copy_0 ?_)
  have H : ∀ (k i : Nat) (h1 : AH), i + k = c → h1 = wr h p n' (cpD f g s t i) → AW mX9_copy 0 0 0 3 [.ref q, .int (iN s), .ref p, .int (iN t), .int (iN c), .int (iN (i : Int))] [] h1 (qV (fun h' => h' = wr h p n' (cpD f g s t c))) := by
    intro k
    induction k with
    | zero =>
      intro i h1 hi e1
      refine b_X9_copy_3 (fun _ => ?_) (fun w => absurd ((iN_le (by omega)).mpr (by omega)) w)
      rw [show c = i by omega]
      exact b_X9_copy_28 (rV e1)
    | succ k ih =>
      intro i h1 hi e1
      refine b_X9_copy_3 (fun w => ?_) (fun _ => ?_)
      · have := (iN_le (by omega)).mp w; omega
      have hq : ari h1 q n f := by rw [e1]; exact (wr_ne hd).trans ha
      have hp : ari h1 p n' (cpD f g s t i) := by rw [e1]; exact wr_at hb.lt
      refine b_X9_copy_10 (hq.g (s + i)) (hp.g (t + i)) ?_
      have e : ((i : Int) + 1) = ((i + 1 : Nat) : Int) := by omega
      rw [e]
      refine ih (i + 1) _ (by omega) ?_
      rw [show ((t : Int) + (i : Int)).toNat = t + i by omega, hp.st, e1, wr_wr]
      refine wr_congr fun j hj => ?_
      unfold up cpD
      by_cases hh : j = t + i
      · rw [if_pos hh, if_pos (by omega)]; congr 1; omega
      · rw [if_neg hh]
        by_cases h2 : t ≤ j ∧ j < t + i
        · rw [if_pos h2, if_pos (by omega)]
        · rw [if_neg h2, if_neg (by omega)]
  refine H c 0 h (by omega) ?_
  rw [wr_congr (g := g) (fun j _ => by unfold cpD; rw [if_neg (by omega)]), wr_same hb]
theorem s_cpS (ha : ari h q n f) (s t c : Nat) (hp : t ≤ s) (h1 : s + c ≤ n) (hn : n ≤ 100000) : CtV mX9_copy 0 0 0 [.ref q, .int (iN s), .ref q, .int (iN t), .int (iN c)] h (fun h' => h' = wr h q n (cpy f s t c)) := by
  refine en_X9_copy (b_X9_copy_0 ?_)
  have H : ∀ (k i : Nat) (h1 : AH), i + k = c → h1 = wr h q n (cpy f s t i) → AW mX9_copy 0 0 0 3 [.ref q, .int (iN s), .ref q, .int (iN t), .int (iN c), .int (iN (i : Int))] [] h1 (qV (fun h' => h' = wr h q n (cpy f s t c))) := by
    intro k
    induction k with
    | zero =>
      intro i h1 hi e1
      refine b_X9_copy_3 (fun _ => ?_) (fun w => absurd ((iN_le (by omega)).mpr (by omega)) w)
      rw [show c = i by omega]
      exact b_X9_copy_28 (rV e1)
    | succ k ih =>
      intro i h1 hi e1
      refine b_X9_copy_3 (fun w => ?_) (fun _ => ?_)
      · have := (iN_le (by omega)).mp w; omega
      have hq : ari h1 q n (cpy f s t i) := by rw [e1]; exact wr_at ha.lt
      refine b_X9_copy_10 (hq.g (s + i)) (hq.g (t + i)) ?_
      have e : ((i : Int) + 1) = ((i + 1 : Nat) : Int) := by omega
      rw [e]
      refine ih (i + 1) _ (by omega) ?_
      rw [show ((t : Int) + (i : Int)).toNat = t + i by omega, hq.st, e1, wr_wr]
      refine wr_congr fun j hj => ?_
      rw [cpy_out f s t i (k := s + i) (by omega)]
      unfold up cpy
      by_cases hh : j = t + i
      · rw [if_pos hh, if_pos (by omega)]; congr 1; omega
      · rw [if_neg hh]
        by_cases h2 : t ≤ j ∧ j < t + i
        · rw [if_pos h2, if_pos (by omega)]
        · rw [if_neg h2, if_neg (by omega)]
  refine H c 0 h (by omega) ?_
  rw [wr_congr (g := f) (fun j _ => by unfold cpy; rw [if_neg (by omega)]), wr_same ha]
theorem s_in {v a b : Int} (hv : -9223372036854775808 ≤ v ∧ v < 9223372036854775808) (ha : -9223372036854775808 ≤ a ∧ a < 9223372036854775808) (hb : -9223372036854775808 ≤ b ∧ b < 9223372036854775808) : CtZ mX9_in 0 0 0 [.long (jN v), .long (jN a), .long (jN b)] h (fun w h' => w = decide (a ≤ v ∧ v ≤ b) ∧ h' = h) := by
  refine en_X9_in (b_X9_in_0 (fun w => ?_) (fun w => ?_))
  · have := (jN_lt ⟨hv, ha⟩).mp w
    exact b_X9_in_17 (rZ0 ⟨by rw [decide_eq_false (by omega)], rfl⟩)
  have w1 : ¬ v < a := fun q => w ((jN_lt ⟨hv, ha⟩).mpr q)
  refine b_X9_in_6 (fun w => ?_) (fun w => ?_)
  · have := (jN_lt ⟨hb, hv⟩).mp w
    exact b_X9_in_17 (rZ0 ⟨by rw [decide_eq_false (by omega)], rfl⟩)
  have w2 : ¬ b < v := fun q => w ((jN_lt ⟨hb, hv⟩).mpr q)
  exact b_X9_in_13 (rZ1 ⟨by rw [decide_eq_true (by omega)], rfl⟩)
/-- the object: refusal, size of the text, spot, isGood, leftOut, acts -/
def mob (h : AH) (m : Nat) (rf sz sp gd lf ac : Int) : Prop :=
  h[m]? = some (9, [.int (iN rf), .ref (m + 1), .int (iN sz), .int (iN sp), .int (iN gd), .int (iN lf), .ref (m + 2), .ref (m + 3), .ref (m + 4), .ref (m + 5), .int (iN ac), .ref (m + 6), .ref (m + 7)])
variable {rf sz sp gd lf ac : Int}
theorem mob.o (hm : mob h m rf sz sp gd lf ac) : isO h m 9 := ⟨_, hm⟩
theorem mob.n0 (hm : mob h m rf sz sp gd lf ac) : fld h m 9 0 (.int (iN rf)) := ⟨_, hm, rfl⟩
theorem mob.n2 (hm : mob h m rf sz sp gd lf ac) : fld h m 9 2 (.int (iN sz)) := ⟨_, hm, rfl⟩
theorem mob.n3 (hm : mob h m rf sz sp gd lf ac) : fld h m 9 3 (.int (iN sp)) := ⟨_, hm, rfl⟩
theorem mob.n4 (hm : mob h m rf sz sp gd lf ac) : fld h m 9 4 (.int (iN gd)) := ⟨_, hm, rfl⟩
theorem mob.n5 (hm : mob h m rf sz sp gd lf ac) : fld h m 9 5 (.int (iN lf)) := ⟨_, hm, rfl⟩
theorem mob.n10 (hm : mob h m rf sz sp gd lf ac) : fld h m 9 10 (.int (iN ac)) := ⟨_, hm, rfl⟩
theorem mob.r1 (hm : mob h m rf sz sp gd lf ac) : fld h m 9 1 (.ref (m + 1)) := ⟨_, hm, rfl⟩
theorem mob.r6 (hm : mob h m rf sz sp gd lf ac) : fld h m 9 6 (.ref (m + 2)) := ⟨_, hm, rfl⟩
theorem mob.r7 (hm : mob h m rf sz sp gd lf ac) : fld h m 9 7 (.ref (m + 3)) := ⟨_, hm, rfl⟩
theorem mob.r8 (hm : mob h m rf sz sp gd lf ac) : fld h m 9 8 (.ref (m + 4)) := ⟨_, hm, rfl⟩
theorem mob.r9 (hm : mob h m rf sz sp gd lf ac) : fld h m 9 9 (.ref (m + 5)) := ⟨_, hm, rfl⟩
theorem mob.r11 (hm : mob h m rf sz sp gd lf ac) : fld h m 9 11 (.ref (m + 6)) := ⟨_, hm, rfl⟩
theorem mob.r12 (hm : mob h m rf sz sp gd lf ac) : fld h m 9 12 (.ref (m + 7)) := ⟨_, hm, rfl⟩
theorem mob.off (hm : mob h m rf sz sp gd lf ac) (ho : Off h h' lo hi) (hd : m < lo ∨ hi ≤ m := by omega) : mob h' m rf sz sp gd lf ac := (ho.2 m (by omega)).trans hm
theorem mob.s0 (hm : mob h m rf sz sp gd lf ac) (v : Int) : mob (stf h m 0 (.int (iN v))) m v sz sp gd lf ac := by
  unfold mob; rw [stf_at hm]; simp [(List.getElem?_eq_some_iff.mp hm).1]
theorem mob.s2 (hm : mob h m rf sz sp gd lf ac) (v : Int) : mob (stf h m 2 (.int (iN v))) m rf v sp gd lf ac := by
  unfold mob; rw [stf_at hm]; simp [(List.getElem?_eq_some_iff.mp hm).1]
theorem mob.s3 (hm : mob h m rf sz sp gd lf ac) (v : Int) : mob (stf h m 3 (.int (iN v))) m rf sz v gd lf ac := by
  unfold mob; rw [stf_at hm]; simp [(List.getElem?_eq_some_iff.mp hm).1]
theorem mob.s4 (hm : mob h m rf sz sp gd lf ac) (v : Int) : mob (stf h m 4 (.int (iN v))) m rf sz sp v lf ac := by
  unfold mob; rw [stf_at hm]; simp [(List.getElem?_eq_some_iff.mp hm).1]
theorem mob.s5 (hm : mob h m rf sz sp gd lf ac) (v : Int) : mob (stf h m 5 (.int (iN v))) m rf sz sp gd v ac := by
  unfold mob; rw [stf_at hm]; simp [(List.getElem?_eq_some_iff.mp hm).1]
theorem mob.s10 (hm : mob h m rf sz sp gd lf ac) (v : Int) : mob (stf h m 10 (.int (iN v))) m rf sz sp gd lf v := by
  unfold mob; rw [stf_at hm]; simp [(List.getElem?_eq_some_iff.mp hm).1]
theorem s_refused (hm : mob h m rf sz sp gd lf ac) {w : Int} (hw : 0 ≤ w ∧ w ≤ 10) : CtZ mX9_refused 0 0 0 [.ref m, .int (iN w)] h (fun v h' => v = decide (0 < w) ∧ h' = stf h m 0 (.int (iN w))) := by
  refine en_X9_refused (b_X9_refused_0 hm.n0 (fun q => ?_) (fun q => ?_))
  · have := (iN_le (by omega)).mp q
    exact b_X9_refused_13 (rZ0 ⟨by rw [decide_eq_false (by omega)], rfl⟩)
  · have : ¬ w ≤ 0 := fun z => q ((iN_le (by omega)).mpr z)
    exact b_X9_refused_9 (rZ1 ⟨by rw [decide_eq_true (by omega)], rfl⟩)
end MOB
