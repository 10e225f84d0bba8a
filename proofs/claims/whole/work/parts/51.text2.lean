/-! the class's reader: letters, numbers, steps -/
section TEXT2
variable {h h' : AH} {a : Nat} {kd f1 f2 : Int} {s : Nat → Int}
theorem bI_n0 {b : Bool} (q : ¬ iN (bI b) = iN 0) : b = true := by
  cases b
  · exact absurd rfl q
  · rfl
theorem s_failAt {n p w : Int} (ht : txt h a n p w kd f1 f2 s) (x : Int) : CtV mX7_failAt 0 0 0 [.ref a, .int (iN x)] h (fun h' => txt h' a n x 1 kd f1 f2 s ∧ Off h h' a (a + 1)) :=
  en_X7_failAt (b_X7_failAt_0 ht.n2 (ht.s2 x).n3 (rV ⟨(ht.s2 x).s3 1, (Off.ofs (a := a)).tr Off.ofs a (a + 1)⟩))
theorem s_readLetter {n p : Nat} {w : Bool} (ht : txt h a n p (bI w) kd f1 f2 s) (hn : n ≤ 100) (hp : p ≤ 1000) : CtI mX7_readLetter 1 0 0 [.ref a] h (fun v h' => v = (if w = false then sgn s n p else -1) ∧ txt h' a n ((if w = false ∧ p < n then p + 1 else p : Nat) : Int) (bI w) kd f1 f2 s ∧ Off h h' a (a + 1)) := by
  refine en_X7_readLetter (b_X7_readLetter_0 ht.o (s_goesOn ht hn hp) (fun v h1 hv => ?_))
  obtain ⟨rfl, rfl⟩ := hv
  by_cases q : w = false ∧ p < n
  · rw [show (!w && decide (p < n)) = true by rw [q.1, decide_eq_true q.2]; rfl]
    refine b_X7_readLetter_4 (fun _ => ?_) (fun y => absurd y (by decide))
    refine b_X7_readLetter_9 ht.r1 ht.n2 ht.2.o (s_get ht.2 (z := (p : Int)) (by omega) (by omega)) (fun v h2 hv => ?_)
    obtain ⟨rfl, rfl⟩ := hv
    rw [if_pos q, if_pos q.1]
    exact b_X7_readLetter_20 ht.n2 ht.n2 (rI ⟨by unfold sgn; rw [if_pos q.2, Int.toNat_natCast], by have := ht.s2 ((p : Int) + 1); exact this, Off.ofs⟩)
  · have e : (!w && decide (p < n)) = false := by
      cases w
      · have : ¬ p < n := fun y => q ⟨rfl, y⟩
        rw [decide_eq_false this]; rfl
      · rfl
    rw [e]
    refine b_X7_readLetter_4 (fun y => absurd rfl y) (fun _ => ?_)
    rw [if_neg q]
    refine b_X7_readLetter_7 (rI ⟨?_, ht, Off.rf⟩)
    cases w
    · have : ¬ p < n := fun y => q ⟨rfl, y⟩
      rw [if_pos rfl]; unfold sgn; rw [if_neg this]
    · rfl
theorem rN_w (s : Nat → Int) (n : Nat) (lo hi : Int) (j : Nat) (num : Int) (p : Nat) : rN s n lo hi j num p true = (num, p, true) := by
  cases j <;> simp [rN]
theorem tenP_rg (j : Nat) (h : j ≤ 3) : 1 ≤ tenP j ∧ tenP j ≤ 1000 ∧ (0 < j → tenP j / 10 = tenP (j - 1)) := by
  rcases (show j = 0 ∨ j = 1 ∨ j = 2 ∨ j = 3 by omega) with rfl | rfl | rfl | rfl <;> simp [tenP]
theorem s_readNumber {n p : Nat} {w : Bool} (ht : txt h a n p (bI w) kd f1 f2 s) (hn : n ≤ 100) (hp : p ≤ 900) (hs : ∀ k, k < n → 0 ≤ s k ∧ s k ≤ 255) (j : Nat) (hj : 1 ≤ j ∧ j ≤ 3) {lo hi : Int} (hl : 0 ≤ lo ∧ lo ≤ 1000) (hh : 0 ≤ hi ∧ hi ≤ 1000) :
    CtI mX7_readNumber 2 0 0 [.ref a, .int (iN j), .int (iN lo), .int (iN hi)] h (fun v h' => v = (rN s n lo hi j 0 p w).1 ∧ txt h' a n ((rN s n lo hi j 0 p w).2.1 : Int) (bI (rN s n lo hi j 0 p w).2.2) kd f1 f2 s ∧ Off h h' a (a + 1)) := by
  refine en_X7_readNumber (b_X7_readNumber_0 ?_)
  -- the loop of the span
  have H1 : ∀ (k i : Nat), i + k = j → AW mX7_readNumber 2 0 0 25 [.ref a, .int (iN j), .int (iN lo), .int (iN hi), .int (iN (tenP j)), .int (iN (j : Int)), vU, vU, vU] [] h (qI (fun v h' => v = (rN s n lo hi j 0 p w).1 ∧ txt h' a n ((rN s n lo hi j 0 p w).2.1 : Int) (bI (rN s n lo hi j 0 p w).2.2) kd f1 f2 s ∧ Off h h' a (a + 1))) → AW mX7_readNumber 2 0 0 6 [.ref a, .int (iN j), .int (iN lo), .int (iN hi), .int (iN (tenP i)), .int (iN (i : Int)), vU, vU, vU] [] h (qI (fun v h' => v = (rN s n lo hi j 0 p w).1 ∧ txt h' a n ((rN s n lo hi j 0 p w).2.1 : Int) (bI (rN s n lo hi j 0 p w).2.2) kd f1 f2 s ∧ Off h h' a (a + 1))) := by
    intro k
    induction k with
    | zero =>
      intro i hi9 fin
      obtain rfl : i = j := by omega
      exact b_X7_readNumber_6 (fun _ => fin) (fun y => absurd ((iN_le (by omega)).mpr (by omega)) y)
    | succ k ih =>
      intro i hi9 fin
      refine b_X7_readNumber_6 (fun y => by have := (iN_le (by omega)).mp y; omega) (fun _ => ?_)
      refine b_X7_readNumber_12 ?_
      have := ih (i + 1) (by omega) fin
      rw [show ((i + 1 : Nat) : Int) = (i : Int) + 1 by omega] at this
      exact this
  refine H1 j 0 (by omega) ?_
  refine b_X7_readNumber_25 ?_
  -- the digits
  have H2 : ∀ (k i : Nat) (h1 : AH) (num : Int) (p1 : Nat) (w1 : Bool), i + k = j → txt h1 a n p1 (bI w1) kd f1 f2 s → Off h h1 a (a + 1) → p1 ≤ 900 + i → (0 ≤ num ∧ num ≤ hi) → rN s n lo hi j 0 p w = rN s n lo hi k num p1 w1 →
      AW mX7_readNumber 2 0 0 31 [.ref a, .int (iN j), .int (iN lo), .int (iN hi), .int (iN (tenP k)), .int (iN num), .int (iN (i : Int)), vU, vU] [] h1 (qI (fun v h' => v = (rN s n lo hi j 0 p w).1 ∧ txt h' a n ((rN s n lo hi j 0 p w).2.1 : Int) (bI (rN s n lo hi j 0 p w).2.2) kd f1 f2 s ∧ Off h h' a (a + 1))) := by
    intro k
    induction k with
    | zero =>
      intro i h1 num p1 w1 hi9 ht1 o1 hp1 hnum e
      refine b_X7_readNumber_31 (fun _ => ?_) (fun y => absurd ((iN_le (by omega)).mpr (by omega)) y)
      rw [e]
      exact b_X7_readNumber_118 (rI ⟨rfl, ht1, o1⟩)
    | succ k ih =>
      intro i h1 num p1 w1 hi9 ht1 o1 hp1 hnum e
      have tk := tenP_rg (k + 1) (by omega)
      have tk1 := tenP_rg k (by omega)
      have eT : (iN (tenP (k + 1)) / iN 10).toInt = tenP k := by
        rw [iN_div (by omega) (by omega)]
        exact tk.2.2 (by omega)
      have e1 : ((i : Int) + 1) = ((i + 1 : Nat) : Int) := by omega
      refine b_X7_readNumber_31 (fun y => by have := (iN_le (by omega)).mp y; omega) (fun _ => ?_)
      refine b_X7_readNumber_37 ht1.n3 (fun y => ?_) (fun y => ?_)
      · have hw := bI_n0 y
        subst hw
        rw [e, rN_w]
        exact b_X7_readNumber_118 (rI ⟨rfl, ht1, o1⟩)
      · have hw := bI_0.mp y
        subst hw
        have hd := dig_rg s n p1
        have hm : -1 * 1000 ≤ dig s n p1 * tenP k ∧ dig s n p1 * tenP k ≤ 9 * 1000 := by
          constructor
          · have := Int.mul_le_mul_of_nonneg_right hd.1 (show 0 ≤ tenP k by omega)
            omega
          · have := Int.mul_le_mul_of_nonneg_right hd.2 (show 0 ≤ tenP k by omega)
            omega
        have eR : rN s n lo hi (k + 1) num p1 false = if dig s n p1 = -1 ∨ hi < num + dig s n p1 * tenP k ∨ num + dig s n p1 * tenP k + tenP k - 1 < lo then (num, p1, true) else rN s n lo hi k (num + dig s n p1 * tenP k) (p1 + 1) false := by
          simp only [rN]; rfl
        have Bad : (dig s n p1 = -1 ∨ hi < num + dig s n p1 * tenP k ∨ num + dig s n p1 * tenP k + tenP k - 1 < lo) → ∀ l7 l8, AW mX7_readNumber 2 0 0 90 [.ref a, .int (iN j), .int (iN lo), .int (iN hi), .int (iN (tenP k)), .int (iN num), .int (iN (i : Int)), .int (iN l7), .int (iN l8)] [] h1 (qI (fun v h' => v = (rN s n lo hi j 0 p w).1 ∧ txt h' a n ((rN s n lo hi j 0 p w).2.1 : Int) (bI (rN s n lo hi j 0 p w).2.2) kd f1 f2 s ∧ Off h h' a (a + 1))) := by
          intro hb l7 l8
          refine b_X7_readNumber_90 ht1.n3 ?_
          rw [e1]
          refine ih (i + 1) _ num p1 true (by omega) (ht1.s3 1) (o1.tr Off.ofs a (a + 1)) (by omega) hnum ?_
          rw [e, eR, if_pos hb, rN_w]
        refine b_X7_readNumber_44 ht1.o (s_digitHere ht1 hn (by omega) hs) (fun v h2 hv => ?_)
        obtain ⟨rfl, rfl⟩ := hv
        rw [eT]
        refine b_X7_readNumber_55 (fun y => Bad (Or.inl ((iN_eq (by omega)).mp y)) _ _) (fun y => ?_)
        have y1 : dig s n p1 ≠ -1 := fun z => y (by rw [z])
        refine b_X7_readNumber_73 (fun y => Bad (Or.inr (Or.inl ((iN_lt (by omega)).mp y))) _ _) (fun y => ?_)
        have y2 : ¬ hi < num + dig s n p1 * tenP k := fun z => y ((iN_lt (by omega)).mpr z)
        refine b_X7_readNumber_79 (fun y => ?_) (fun y => ?_)
        · have y3 := (iN_le (by omega)).mp y
          refine b_X7_readNumber_98 ht1.n2 ht1.n2 ?_
          rw [e1]
          have t2 := ht1.s2 ((p1 : Int) + 1)
          have hm0 : 0 ≤ dig s n p1 * tenP k := Int.mul_nonneg (by omega) (by omega)
          refine ih (i + 1) _ _ (p1 + 1) false (by omega) (by rw [show ((p1 + 1 : Nat) : Int) = (p1 : Int) + 1 by omega]; exact t2) (o1.tr Off.ofs a (a + 1)) (by omega) (by omega) ?_
          rw [e, eR, if_neg (by omega)]
        · have y3 : ¬ lo ≤ num + dig s n p1 * tenP k + tenP k - 1 := fun z => y ((iN_le (by omega)).mpr z)
          exact Bad (Or.inr (Or.inr (by omega))) _ _
  exact H2 j 0 h 0 p w (by omega) ht Off.rf (by omega) (by omega) rfl
/-- a step -/
def stp (s : Nat → Int) (n p : Nat) (w : Bool) : Int × Nat × Bool :=
  if w = false ∧ isStp (dig s n p) = true then (dig s n p, p + 1, false) else ((if w = false then dig s n p else -1), p, true)
theorem s_readStep {n p : Nat} {w : Bool} (ht : txt h a n p (bI w) kd f1 f2 s) (hn : n ≤ 100) (hp : p ≤ 1000) (hs : ∀ k, k < n → 0 ≤ s k ∧ s k ≤ 255) : CtI mX7_readStep 2 0 0 [.ref a] h (fun v h' => v = (stp s n p w).1 ∧ txt h' a n ((stp s n p w).2.1 : Int) (bI (stp s n p w).2.2) kd f1 f2 s ∧ Off h h' a (a + 1)) := by
  have hd := dig_rg s n p
  have Bad : ∀ d9, stp s n p w = (d9, p, true) → AW mX7_readStep 2 0 0 36 [.ref a, .int (iN d9)] [] h (qI (fun v h' => v = (stp s n p w).1 ∧ txt h' a n ((stp s n p w).2.1 : Int) (bI (stp s n p w).2.2) kd f1 f2 s ∧ Off h h' a (a + 1))) := by
    intro d9 e
    rw [e]
    exact b_X7_readStep_36 ht.n3 (rI ⟨rfl, ht.s3 1, Off.ofs⟩)
  refine en_X7_readStep (b_X7_readStep_0 ht.n3 (fun y => ?_) (fun y => ?_))
  · have hw := bI_0.mp y
    subst hw
    refine b_X7_readStep_11 ht.o (s_digitHere ht hn hp hs) (fun v h2 hv => ?_)
    obtain ⟨rfl, rfl⟩ := hv
    refine b_X7_readStep_15 (s_cisStep (by omega)) (fun v h3 hv => ?_)
    obtain ⟨rfl, rfl⟩ := hv
    by_cases q : isStp (dig s n p) = true
    · rw [q]
      refine b_X7_readStep_20 (fun y => absurd y (by decide)) (fun _ => ?_)
      have e : stp s n p false = (dig s n p, p + 1, false) := by unfold stp; rw [if_pos ⟨rfl, q⟩]
      rw [e]
      have t2 := ht.s2 ((p : Int) + 1)
      exact b_X7_readStep_23 ht.n2 ht.n2 (rI ⟨rfl, by rw [show ((p + 1 : Nat) : Int) = (p : Int) + 1 by omega]; exact t2, Off.ofs⟩)
    · rw [show isStp (dig s n p) = false by simpa using q]
      refine b_X7_readStep_20 (fun _ => ?_) (fun y => absurd rfl y)
      refine Bad _ ?_
      unfold stp; rw [if_neg (fun z => q z.2), if_pos rfl]
  · have hw := bI_n0 y
    subst hw
    refine b_X7_readStep_7 (s_cisStep (by omega)) (fun v h3 hv => ?_)
    obtain ⟨rfl, rfl⟩ := hv
    refine b_X7_readStep_20 (fun _ => ?_) (fun y => absurd (by decide) y)
    exact Bad _ rfl
end TEXT2
