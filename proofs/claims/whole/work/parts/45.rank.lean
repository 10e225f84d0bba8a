/-! the rank of a spare field -/
/-- how many of the first n are ahead of f: smaller ones, and like ones before it -/
def ahd (z : Nat → Int) (f : Nat) : Nat → Int
  | 0 => 0
  | g + 1 => ahd z f g + if z g < z f ∨ (z g = z f ∧ g < f) then 1 else 0
theorem ahd_rg (z : Nat → Int) (f : Nat) : ∀ n : Nat, 0 ≤ ahd z f n ∧ ahd z f n ≤ n
  | 0 => by simp [ahd]
  | n + 1 => by
    have := ahd_rg z f n
    simp only [ahd]
    split <;> omega
/-- the first with this rank, from i on, k of them -/
def rnk (z : Nat → Int) (n : Nat) (q : Int) : Nat → Nat → Int
  | 0, _ => -1
  | k + 1, i => if ahd z i n = q then i else rnk z n q k (i + 1)
section RANK
variable {h : AH} {a : Nat} {s z b e : Nat → Int}
theorem s_countAhead (n : Nat) (hf : fields h a n s z b e) (hn : n ≤ 51) (hz : ∀ k, k < n → 0 ≤ z k ∧ z k ≤ 1000) {f : Nat} (hfn : f < n) : CtI mX1_countAheadOf 1 0 0 [.ref a, .int (iN f)] h (fun r h' => r = ahd z f n ∧ h' = h) := by
  have hzf := hz f hfn
  refine en_X1_countAheadOf (b_X1_countAheadOf_0 ?_)
  have H : ∀ (q i : Nat), i + q = n → AW mX1_countAheadOf 1 0 0 4 [.ref a, .int (iN f), .int (iN (ahd z f i)), .int (iN (i : Int))] [] h (qI (fun r h' => r = ahd z f n ∧ h' = h)) := by
    intro q
    induction q with
    | zero =>
      intro i hi
      refine b_X1_countAheadOf_4 hf.n0 (fun _ => ?_) (fun w => absurd ((iN_le (by omega)).mpr (by omega)) w)
      exact b_X1_countAheadOf_64 (rI ⟨by rw [show n = i by omega], rfl⟩)
    | succ q ih =>
      intro i hi
      have hzi := hz i (by omega)
      have e1 : ((i : Int) + 1) = ((i + 1 : Nat) : Int) := by omega
      have hk := ih (i + 1) (by omega)
      simp only [ahd] at hk
      have Yes : (z i < z f ∨ (z i = z f ∧ i < f)) → AW mX1_countAheadOf 1 0 0 55 [.ref a, .int (iN f), .int (iN (ahd z f i)), .int (iN (i : Int))] [] h (qI (fun r h' => r = ahd z f n ∧ h' = h)) := by
        intro y
        rw [if_pos y] at hk
        refine b_X1_countAheadOf_55 ?_
        rw [e1]; exact hk
      have No : ¬ (z i < z f ∨ (z i = z f ∧ i < f)) → AW mX1_countAheadOf 1 0 0 58 [.ref a, .int (iN f), .int (iN (ahd z f i)), .int (iN (i : Int))] [] h (qI (fun r h' => r = ahd z f n ∧ h' = h)) := by
        intro y
        rw [if_neg y, Int.add_zero] at hk
        refine b_X1_countAheadOf_58 ?_
        rw [e1]; exact hk
      refine b_X1_countAheadOf_4 hf.n0 (fun w => ?_) (fun _ => ?_)
      · have := (iN_le (by omega)).mp w; omega
      refine b_X1_countAheadOf_12 hf.f2 hf.2.2.1.o (s_get hf.2.2.1 (z := (i : Int)) (by omega) (by omega)) (fun v h' hv => ?_)
      obtain ⟨rfl, rfl⟩ := hv
      refine b_X1_countAheadOf_20 hf.f2 hf.2.2.1.o (s_get hf.2.2.1 (z := (f : Int)) (by omega) (by omega)) (fun v h' hv => ?_)
      obtain ⟨rfl, rfl⟩ := hv
      rw [Int.toNat_natCast, Int.toNat_natCast]
      refine b_X1_countAheadOf_28 (fun w => Yes (Or.inl ((iN_lt (by omega)).mp w))) (fun w => ?_)
      have w1 : ¬ z i < z f := fun y => w ((iN_lt (by omega)).mpr y)
      refine b_X1_countAheadOf_31 hf.f2 hf.2.2.1.o (s_get hf.2.2.1 (z := (i : Int)) (by omega) (by omega)) (fun v h' hv => ?_)
      obtain ⟨rfl, rfl⟩ := hv
      refine b_X1_countAheadOf_39 hf.f2 hf.2.2.1.o (s_get hf.2.2.1 (z := (f : Int)) (by omega) (by omega)) (fun v h' hv => ?_)
      obtain ⟨rfl, rfl⟩ := hv
      rw [Int.toNat_natCast, Int.toNat_natCast]
      refine b_X1_countAheadOf_47 (fun w => No (fun y => by
        rcases y with y | y
        · exact w1 y
        · exact w (by rw [y.1]))) (fun w => ?_)
      have w2 := (iN_eq (by omega)).mp w
      refine b_X1_countAheadOf_50 (fun w => No (by have := (iN_le (by omega)).mp w; omega)) (fun w => Yes (Or.inr ⟨w2, ?_⟩))
      rcases Nat.lt_or_ge i f with y | y
      · exact y
      · exact absurd ((iN_le (by omega)).mpr (by omega)) w
  exact H n 0 (Nat.zero_add _)
theorem s_withRank (n : Nat) (hf : fields h a n s z b e) (hn : n ≤ 51) (hz : ∀ k, k < n → 0 ≤ z k ∧ z k ≤ 1000) {x : Int} (hx : 0 ≤ x ∧ x < 2147483648) : CtI mX1_withRank 2 0 0 [.ref a, .int (iN x)] h (fun r h' => r = rnk z n x n 0 ∧ h' = h) := by
  refine en_X1_withRank (b_X1_withRank_0 ?_)
  have H : ∀ (q i : Nat), i + q = n → rnk z n x n 0 = rnk z n x q i → AW mX1_withRank 2 0 0 2 [.ref a, .int (iN x), .int (iN (i : Int))] [] h (qI (fun r h' => r = rnk z n x n 0 ∧ h' = h)) := by
    intro q
    induction q with
    | zero =>
      intro i hi er
      refine b_X1_withRank_2 hf.n0 (fun _ => ?_) (fun w => absurd ((iN_le (by omega)).mpr (by omega)) w)
      exact b_X1_withRank_27 (rI ⟨er.symm, rfl⟩)
    | succ q ih =>
      intro i hi er
      have e1 : ((i : Int) + 1) = ((i + 1 : Nat) : Int) := by omega
      have hr := ahd_rg z i n
      simp only [rnk] at er
      refine b_X1_withRank_2 hf.n0 (fun w => ?_) (fun _ => ?_)
      · have := (iN_le (by omega)).mp w; omega
      refine b_X1_withRank_10 hf.o (s_countAhead n hf hn hz (by omega)) (fun v h' hv => ?_)
      obtain ⟨rfl, rfl⟩ := hv
      refine b_X1_withRank_15 (fun w => ?_) (fun w => ?_)
      · have hne : ¬ ahd z i n = x := fun y => w (by rw [y])
        rw [if_neg hne] at er
        refine b_X1_withRank_21 ?_
        rw [e1]; exact ih (i + 1) (by omega) er
      · have heq := (iN_eq (by omega)).mp w
        rw [if_pos heq] at er
        exact b_X1_withRank_19 (rI ⟨er.symm, rfl⟩)
  exact H n 0 (Nat.zero_add _) rfl
end RANK
