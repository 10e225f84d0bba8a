/-! the class's text and its reader -/
def txt (h : AH) (a : Nat) (n p w kd f1 f2 : Int) (s : Nat → Int) : Prop :=
  h[a]? = some (7, [.int (iN n), .ref (a + 1), .int (iN p), .int (iN w), .int (iN kd), .int (iN f1), .int (iN f2)]) ∧ row h (a + 1) 100 s
/-- the sign at p; -1 behind the end -/
def sgn (s : Nat → Int) (n p : Nat) : Int := if p < n then s p else -1
def dig (s : Nat → Int) (n p : Nat) : Int := if 48 ≤ sgn s n p ∧ sgn s n p ≤ 57 then sgn s n p - 48 else -1
def tenP : Nat → Int
  | 0 => 1
  | k + 1 => tenP k * 10
/-- a number of j digits more, num so far -/
def rN (s : Nat → Int) (n : Nat) (lo hi : Int) : Nat → Int → Nat → Bool → Int × Nat × Bool
  | 0, num, p, w => (num, p, w)
  | j + 1, num, p, w => if w = true then (num, p, w) else
      if dig s n p = -1 ∨ hi < num + dig s n p * tenP j ∨ num + dig s n p * tenP j + tenP j - 1 < lo then (num, p, true) else rN s n lo hi j (num + dig s n p * tenP j) (p + 1) false
theorem dig_rg (s : Nat → Int) (n p : Nat) : -1 ≤ dig s n p ∧ dig s n p ≤ 9 := by
  unfold dig; split <;> omega
section TEXT
variable {h h' : AH} {a lo hi : Nat} {n p w kd f1 f2 : Int} {s : Nat → Int}
theorem txt.off (ht : txt h a n p w kd f1 f2 s) (ho : Off h h' lo hi) (hd : a + 3 ≤ lo ∨ hi ≤ a := by omega) : txt h' a n p w kd f1 f2 s := ⟨(ho.2 a (by omega)).trans ht.1, ht.2.off ho⟩
theorem txt.o (ht : txt h a n p w kd f1 f2 s) : isO h a 7 := ⟨_, ht.1⟩
theorem txt.n0 (ht : txt h a n p w kd f1 f2 s) : fld h a 7 0 (.int (iN n)) := ⟨_, ht.1, rfl⟩
theorem txt.r1 (ht : txt h a n p w kd f1 f2 s) : fld h a 7 1 (.ref (a + 1)) := ⟨_, ht.1, rfl⟩
theorem txt.n2 (ht : txt h a n p w kd f1 f2 s) : fld h a 7 2 (.int (iN p)) := ⟨_, ht.1, rfl⟩
theorem txt.n3 (ht : txt h a n p w kd f1 f2 s) : fld h a 7 3 (.int (iN w)) := ⟨_, ht.1, rfl⟩
theorem txt.n4 (ht : txt h a n p w kd f1 f2 s) : fld h a 7 4 (.int (iN kd)) := ⟨_, ht.1, rfl⟩
theorem txt.n5 (ht : txt h a n p w kd f1 f2 s) : fld h a 7 5 (.int (iN f1)) := ⟨_, ht.1, rfl⟩
theorem txt.n6 (ht : txt h a n p w kd f1 f2 s) : fld h a 7 6 (.int (iN f2)) := ⟨_, ht.1, rfl⟩
theorem txt.s0 (ht : txt h a n p w kd f1 f2 s) (v : Int) : txt (stf h a 0 (.int (iN v))) a v p w kd f1 f2 s := by
  refine ⟨?_, ht.2.off (Off.ofs (a := a))⟩
  rw [stf_at ht.1]; simp [(List.getElem?_eq_some_iff.mp ht.1).1]
theorem txt.s2 (ht : txt h a n p w kd f1 f2 s) (v : Int) : txt (stf h a 2 (.int (iN v))) a n v w kd f1 f2 s := by
  refine ⟨?_, ht.2.off (Off.ofs (a := a))⟩
  rw [stf_at ht.1]; simp [(List.getElem?_eq_some_iff.mp ht.1).1]
theorem txt.s3 (ht : txt h a n p w kd f1 f2 s) (v : Int) : txt (stf h a 3 (.int (iN v))) a n p v kd f1 f2 s := by
  refine ⟨?_, ht.2.off (Off.ofs (a := a))⟩
  rw [stf_at ht.1]; simp [(List.getElem?_eq_some_iff.mp ht.1).1]
theorem txt.s4 (ht : txt h a n p w kd f1 f2 s) (v : Int) : txt (stf h a 4 (.int (iN v))) a n p w v f1 f2 s := by
  refine ⟨?_, ht.2.off (Off.ofs (a := a))⟩
  rw [stf_at ht.1]; simp [(List.getElem?_eq_some_iff.mp ht.1).1]
theorem txt.s5 (ht : txt h a n p w kd f1 f2 s) (v : Int) : txt (stf h a 5 (.int (iN v))) a n p w kd v f2 s := by
  refine ⟨?_, ht.2.off (Off.ofs (a := a))⟩
  rw [stf_at ht.1]; simp [(List.getElem?_eq_some_iff.mp ht.1).1]
theorem txt.s6 (ht : txt h a n p w kd f1 f2 s) (v : Int) : txt (stf h a 6 (.int (iN v))) a n p w kd f1 v s := by
  refine ⟨?_, ht.2.off (Off.ofs (a := a))⟩
  rw [stf_at ht.1]; simp [(List.getElem?_eq_some_iff.mp ht.1).1]
theorem s_tadd {n : Nat} (ht : txt h a n p w kd f1 f2 s) (hn : n < 100) (c : Int) : CtV mX7_add 1 0 0 [.ref a, .int (iN c)] h (fun h' => txt h' a ((n : Int) + 1) p w kd f1 f2 (up s n c) ∧ Off h h' a (a + 3)) := by
  refine en_X7_add (b_X7_add_0 ht.r1 ht.n0 ht.2.o (s_put ht.2 (z := (n : Int)) (by omega) (by omega)) (fun h1 e1 => ?_))
  rw [Int.toNat_natCast] at e1
  have o1 : Off h h1 (a + 2) (a + 3) := Off.eqw e1 (a + 2) (a + 3)
  have ht1 : txt h1 a n p w kd f1 f2 (up s n c) := ⟨(o1.2 a (by omega)).trans ht.1, by rw [e1]; exact ht.2.w _⟩
  exact b_X7_add_12 ht1.n0 ht1.n0 (rV ⟨ht1.s0 _, o1.tr (Off.ofs (a := a)) a (a + 3)⟩)
theorem s_goesOn {n p : Nat} {w : Bool} (ht : txt h a n p (bI w) kd f1 f2 s) (hn : n ≤ 100) (hp : p ≤ 1000) : CtZ mX7_goesOn 0 0 0 [.ref a] h (fun v h' => v = (!w && decide (p < n)) ∧ h' = h) := by
  refine en_X7_goesOn (b_X7_goesOn_0 ht.n3 (fun q => ?_) (fun q => ?_))
  · have : w = true := by
      cases w
      · exact absurd rfl q
      · rfl
    subst this
    exact b_X7_goesOn_22 (rZ0 ⟨rfl, rfl⟩)
  · have hw := bI_0.mp q
    subst hw
    refine b_X7_goesOn_7 ht.n2 ht.n0 (fun q => ?_) (fun q => ?_)
    · have := (iN_le (by omega)).mp q
      exact b_X7_goesOn_22 (rZ0 ⟨by rw [decide_eq_false (by omega)]; rfl, rfl⟩)
    · have : ¬ (n : Int) ≤ p := fun z => q ((iN_le (by omega)).mpr z)
      exact b_X7_goesOn_18 (rZ1 ⟨by rw [decide_eq_true (by omega)]; rfl, rfl⟩)
theorem s_digitHere {n p : Nat} (ht : txt h a n p w kd f1 f2 s) (hn : n ≤ 100) (hp : p ≤ 1000) (hs : ∀ k, k < n → 0 ≤ s k ∧ s k ≤ 255) : CtI mX7_digitHere 1 0 0 [.ref a] h (fun v h' => v = dig s n p ∧ h' = h) := by
  have K : ∀ x, -1 ≤ x ∧ x ≤ 255 → sgn s n p = x → AW mX7_digitHere 1 0 0 46 [.ref a, .int (iN x)] [] h (qI (fun v h' => v = -1 ∧ h' = h)) := fun x _ _ => b_X7_digitHere_46 (rI ⟨rfl, rfl⟩)
  refine en_X7_digitHere (b_X7_digitHere_0 ht.n2 ht.n0 (fun q => ?_) (fun q => ?_))
  · have := (iN_le (by omega)).mp q
    have e : sgn s n p = -1 := by unfold sgn; rw [if_neg (by omega)]
    have ed : dig s n p = -1 := by unfold dig; rw [e, if_neg (by omega)]
    rw [ed]
    exact b_X7_digitHere_25 (fun _ => b_X7_digitHere_46 (rI ⟨rfl, rfl⟩)) (fun y => absurd (by decide) y)
  · have hpn : p < n := by
      rcases Nat.lt_or_ge p n with y | y
      · exact y
      · exact absurd ((iN_le (by omega)).mpr (by omega)) q
    have e : sgn s n p = s p := by unfold sgn; rw [if_pos hpn]
    have hsp := hs p hpn
    refine b_X7_digitHere_11 ht.r1 ht.n2 ht.2.o (s_get ht.2 (z := (p : Int)) (by omega) (by omega)) (fun v h1 hv => ?_)
    obtain ⟨rfl, rfl⟩ := hv
    rw [Int.toNat_natCast]
    refine b_X7_digitHere_22 (fun y => ?_) (fun y => ?_)
    · have := (iN_lt (by omega)).mp y
      exact b_X7_digitHere_46 (rI ⟨by unfold dig; rw [e, if_neg (by omega)], rfl⟩)
    · have y1 : ¬ s p < 48 := fun z => y ((iN_lt (by omega)).mpr z)
      refine b_X7_digitHere_33 (fun y => ?_) (fun y => ?_)
      · have := (iN_lt (by omega)).mp y
        exact b_X7_digitHere_46 (rI ⟨by unfold dig; rw [e, if_neg (by omega)], rfl⟩)
      · have y2 : ¬ 57 < s p := fun z => y ((iN_lt (by omega)).mpr z)
        exact b_X7_digitHere_39 (rI ⟨by unfold dig; rw [e, if_pos (by omega)], rfl⟩)
end TEXT
