/-! the reference's reader: digits, numbers -/
def g1 (s : Nat → Int) (n : Nat) (lo hi : Int) (p : Nat) (w : Bool) : Int × Nat × Bool :=
  if w = false ∧ dig s n p ≠ -1 ∧ lo ≤ dig s n p ∧ dig s n p ≤ hi then (dig s n p, p + 1, false) else (lo, p, true)
def g2 (s : Nat → Int) (n : Nat) (lo hi : Int) (p : Nat) (w : Bool) : Int × Nat × Bool :=
  (10 * (g1 s n (lo / 10) (hi / 10) p w).1 + (g1 s n (if 0 ≤ lo - 10 * (g1 s n (lo / 10) (hi / 10) p w).1 then lo - 10 * (g1 s n (lo / 10) (hi / 10) p w).1 else 0) (if hi - 10 * (g1 s n (lo / 10) (hi / 10) p w).1 ≤ 9 then hi - 10 * (g1 s n (lo / 10) (hi / 10) p w).1 else 9) (g1 s n (lo / 10) (hi / 10) p w).2.1 (g1 s n (lo / 10) (hi / 10) p w).2.2).1,
   (g1 s n (if 0 ≤ lo - 10 * (g1 s n (lo / 10) (hi / 10) p w).1 then lo - 10 * (g1 s n (lo / 10) (hi / 10) p w).1 else 0) (if hi - 10 * (g1 s n (lo / 10) (hi / 10) p w).1 ≤ 9 then hi - 10 * (g1 s n (lo / 10) (hi / 10) p w).1 else 9) (g1 s n (lo / 10) (hi / 10) p w).2.1 (g1 s n (lo / 10) (hi / 10) p w).2.2).2)
theorem g1_w (s : Nat → Int) (n : Nat) (lo hi : Int) (p : Nat) : g1 s n lo hi p true = (lo, p, true) := by
  unfold g1; rw [if_neg (fun z => absurd z.1 (by decide))]
theorem g1_g (s : Nat → Int) (n : Nat) {lo hi : Int} {p : Nat} (q : dig s n p ≠ -1 ∧ lo ≤ dig s n p ∧ dig s n p ≤ hi) : g1 s n lo hi p false = (dig s n p, p + 1, false) := by
  unfold g1; rw [if_pos ⟨rfl, q⟩]
theorem g1_b (s : Nat → Int) (n : Nat) {lo hi : Int} {p : Nat} (q : ¬ (dig s n p ≠ -1 ∧ lo ≤ dig s n p ∧ dig s n p ≤ hi)) : g1 s n lo hi p false = (lo, p, true) := by
  unfold g1; rw [if_neg (fun z => q z.2)]
theorem g1_rg (s : Nat → Int) (n : Nat) {lo hi : Int} (hl : 0 ≤ lo ∧ lo ≤ 9) (p : Nat) (w : Bool) : (0 ≤ (g1 s n lo hi p w).1 ∧ (g1 s n lo hi p w).1 ≤ 9) ∧ p ≤ (g1 s n lo hi p w).2.1 ∧ (g1 s n lo hi p w).2.1 ≤ p + 1 := by
  have := dig_rg s n p
  unfold g1
  split
  · rename_i q
    exact ⟨by show 0 ≤ dig s n p ∧ _; exact ⟨by omega, this.2⟩, by show p ≤ p + 1; omega, Nat.le_refl _⟩
  · exact ⟨hl, Nat.le_refl _, by show p ≤ p + 1; omega⟩
theorem rN_1 (s : Nat → Int) (n : Nat) (lo hi : Int) (j : Nat) (num : Int) (p : Nat) : rN s n lo hi (j + 1) num p false = if dig s n p = -1 ∨ hi < num + dig s n p * tenP j ∨ num + dig s n p * tenP j + tenP j - 1 < lo then (num, p, true) else rN s n lo hi j (num + dig s n p * tenP j) (p + 1) false := by
  simp only [rN]; rfl
theorem rN_0 (s : Nat → Int) (n : Nat) (lo hi : Int) (num : Int) (p : Nat) (w : Bool) : rN s n lo hi 0 num p w = (num, p, w) := rfl
theorem g1_rN (s : Nat → Int) (n : Nat) {lo hi : Int} (p : Nat) (w : Bool) : (g1 s n lo hi p w).2 = (rN s n lo hi 1 0 p w).2 ∧ ((rN s n lo hi 1 0 p w).2.2 = false → (g1 s n lo hi p w).1 = (rN s n lo hi 1 0 p w).1) := by
  cases w
  · rw [rN_1, rN_0]
    have t0 : tenP 0 = 1 := rfl
    rw [t0]
    by_cases q : dig s n p ≠ -1 ∧ lo ≤ dig s n p ∧ dig s n p ≤ hi
    · rw [g1_g s n q, if_neg (by omega)]
      exact ⟨rfl, fun _ => by show dig s n p = 0 + dig s n p * 1; omega⟩
    · rw [g1_b s n q, if_pos (by omega)]
      exact ⟨rfl, fun z => tnf z⟩
  · rw [g1_w, rN_w]
    exact ⟨rfl, fun z => tnf z⟩
theorem g2_w (s : Nat → Int) (n : Nat) (lo hi : Int) (p : Nat) : (g2 s n lo hi p true).2 = (p, true) := by
  unfold g2
  simp only [g1_w]
theorem g2_rN (s : Nat → Int) (n : Nat) {lo hi : Int} (hl : 0 ≤ lo ∧ lo ≤ hi ∧ hi ≤ 99) (p : Nat) (w : Bool) : (g2 s n lo hi p w).2 = (rN s n lo hi 2 0 p w).2 ∧ ((rN s n lo hi 2 0 p w).2.2 = false → (g2 s n lo hi p w).1 = (rN s n lo hi 2 0 p w).1) := by
  have t0 : tenP 0 = 1 := rfl
  have t1 : tenP 1 = 10 := rfl
  cases w
  · have d1 := dig_rg s n p
    have d2 := dig_rg s n (p + 1)
    rw [rN_1, t1]
    by_cases q : dig s n p ≠ -1 ∧ lo / 10 ≤ dig s n p ∧ dig s n p ≤ hi / 10
    · rw [if_neg (by omega), rN_1, rN_0, t0]
      unfold g2
      rw [g1_g s n q]
      simp only []
      generalize hx : (if 0 ≤ lo - 10 * dig s n p then lo - 10 * dig s n p else 0) = x
      generalize hy : (if hi - 10 * dig s n p ≤ 9 then hi - 10 * dig s n p else 9) = y
      have hx1 : lo - 10 * dig s n p ≤ x ∧ 0 ≤ x ∧ (x = lo - 10 * dig s n p ∨ x = 0) := by
        rw [← hx]; split <;> omega
      have hy1 : y ≤ hi - 10 * dig s n p ∧ y ≤ 9 ∧ (y = hi - 10 * dig s n p ∨ y = 9) := by
        rw [← hy]; split <;> omega
      by_cases q2 : dig s n (p + 1) ≠ -1 ∧ lo ≤ 10 * dig s n p + dig s n (p + 1) ∧ 10 * dig s n p + dig s n (p + 1) ≤ hi
      · rw [if_neg (by omega), g1_g s n (by omega)]
        exact ⟨rfl, fun _ => by show 10 * dig s n p + dig s n (p + 1) = 0 + dig s n p * 10 + dig s n (p + 1) * 1; omega⟩
      · rw [if_pos (by omega), g1_b s n (by omega)]
        exact ⟨rfl, fun z => tnf z⟩
    · rw [if_pos (by omega)]
      refine ⟨?_, fun z => tnf z⟩
      unfold g2
      rw [g1_b s n q]
      simp only [g1_w]
  · rw [g2_w, rN_w]
    exact ⟨rfl, fun z => tnf z⟩
/-- the keeps: a digit, then two -/
def g3 (s : Nat → Int) (n : Nat) (p : Nat) (w : Bool) : Int × Nat × Bool :=
  (100 * (g1 s n 0 1 p w).1 + (g2 s n 0 (if (g1 s n 0 1 p w).1 = 1 then 28 else 99) (g1 s n 0 1 p w).2.1 (g1 s n 0 1 p w).2.2).1,
   (g2 s n 0 (if (g1 s n 0 1 p w).1 = 1 then 28 else 99) (g1 s n 0 1 p w).2.1 (g1 s n 0 1 p w).2.2).2)
theorem g3_rN (s : Nat → Int) (n : Nat) (p : Nat) (w : Bool) : (g3 s n p w).2 = (rN s n 0 128 3 0 p w).2 ∧ ((rN s n 0 128 3 0 p w).2.2 = false → (g3 s n p w).1 = (rN s n 0 128 3 0 p w).1) := by
  have t0 : tenP 0 = 1 := rfl
  have t1 : tenP 1 = 10 := rfl
  have t2 : tenP 2 = 100 := rfl
  cases w
  · have d1 := dig_rg s n p
    have d2 := dig_rg s n (p + 1)
    have d3 := dig_rg s n (p + 2)
    rw [rN_1, t2]
    by_cases q : dig s n p ≠ -1 ∧ 0 ≤ dig s n p ∧ dig s n p ≤ 1
    · rw [if_neg (by omega)]
      unfold g3
      rw [g1_g s n q]
      simp only []
      generalize hy : (if dig s n p = 1 then (28 : Int) else 99) = y
      have hy1 : (dig s n p = 1 ∧ y = 28) ∨ (dig s n p ≠ 1 ∧ y = 99) := by
        rw [← hy]; split <;> omega
      have G := g2_rN s n (lo := 0) (hi := y) (by omega) (p + 1) false
      have E : (rN s n 0 128 2 (0 + dig s n p * 100) (p + 1) false).2 = (rN s n 0 y 2 0 (p + 1) false).2 ∧ ((rN s n 0 128 2 (0 + dig s n p * 100) (p + 1) false).2.2 = false → (rN s n 0 128 2 (0 + dig s n p * 100) (p + 1) false).1 = 100 * dig s n p + (rN s n 0 y 2 0 (p + 1) false).1) := by
        rw [rN_1 s n 0 128 1 (0 + dig s n p * 100) (p + 1), rN_1 s n 0 y 1 0 (p + 1), t1]
        by_cases q2 : dig s n (p + 1) = -1 ∨ 128 < 0 + dig s n p * 100 + dig s n (p + 1) * 10
        · rw [if_pos (by omega), if_pos (by omega)]
          exact ⟨rfl, fun z => tnf z⟩
        · rw [if_neg (by omega), if_neg (by omega), rN_1 s n 0 128 0 (0 + dig s n p * 100 + dig s n (p + 1) * 10) (p + 1 + 1), rN_1 s n 0 y 0 (0 + dig s n (p + 1) * 10) (p + 1 + 1), rN_0, rN_0, t0]
          by_cases q3 : dig s n (p + 1 + 1) = -1 ∨ 128 < 0 + dig s n p * 100 + dig s n (p + 1) * 10 + dig s n (p + 1 + 1) * 1
          · rw [if_pos (by omega), if_pos (by have := dig_rg s n (p + 1 + 1); omega)]
            exact ⟨rfl, fun z => tnf z⟩
          · have d4 := dig_rg s n (p + 1 + 1)
            rw [if_neg (by omega), if_neg (by omega)]
            exact ⟨rfl, fun _ => by show 0 + dig s n p * 100 + dig s n (p + 1) * 10 + dig s n (p + 1 + 1) * 1 = 100 * dig s n p + (0 + dig s n (p + 1) * 10 + dig s n (p + 1 + 1) * 1); omega⟩
      refine ⟨G.1.trans E.1.symm, fun z => ?_⟩
      rw [E.2 z]
      rw [E.1] at z
      show 100 * dig s n p + _ = _
      rw [G.2 z]
    · rw [if_pos (by omega)]
      refine ⟨?_, fun z => tnf z⟩
      unfold g3
      rw [g1_b s n q]
      simp only []
      exact g2_w _ _ _ _ _
  · rw [rN_w]
    refine ⟨?_, fun z => tnf z⟩
    unfold g3
    rw [g1_w]
    simp only []
    exact g2_w _ _ _ _ _
theorem g2_rg (s : Nat → Int) (n : Nat) {lo hi : Int} (hl : 0 ≤ lo ∧ lo ≤ hi ∧ hi ≤ 99) (p : Nat) (w : Bool) : p ≤ (g2 s n lo hi p w).2.1 ∧ (g2 s n lo hi p w).2.1 ≤ p + 2 := by
  have := rN_rg s n lo hi 2 0 p w
  rw [(g2_rN s n hl p w).1]
  exact ⟨this.1, this.2.1⟩
section REFR
variable {h h' : AH} {m : Nat} {sc : Nat → Int} {rf lf ac : Int}
theorem s_isNext {n p : Nat} {gd : Int} (hm : mob h m rf n p gd lf ac) (hs : ari h (m + 1) 100 sc) (hn : n ≤ 100) (hp : p ≤ 1000) (hc : ∀ k, k < n → 0 ≤ sc k ∧ sc k ≤ 255) {c : Int} (hc0 : 0 ≤ c ∧ c ≤ 255) : CtZ mX9_isNext 0 0 0 [.ref m, .int (iN c)] h (fun v h' => v = decide (sgn sc n p = c) ∧ h' = h) := by
  refine en_X9_isNext (b_X9_isNext_0 hm.n3 hm.n2 (fun q => ?_) (fun q => ?_))
  · have := (iN_le (by omega)).mp q
    have e : sgn sc n p = -1 := by unfold sgn; rw [if_neg (by omega)]
    exact b_X9_isNext_28 (rZ0 ⟨by rw [e, decide_eq_false (by omega)], rfl⟩)
  · have hpn : p < n := by
      rcases Nat.lt_or_ge p n with y | y
      · exact y
      · exact absurd ((iN_le (by omega)).mpr (by omega)) q
    have e : sgn sc n p = sc p := by unfold sgn; rw [if_pos hpn]
    have hsp := hc p hpn
    refine b_X9_isNext_11 hm.r1 hm.n3 (hs.g p) (fun q => ?_) (fun q => ?_)
    · have : sc p ≠ c := fun z => q (by rw [z])
      exact b_X9_isNext_28 (rZ0 ⟨by rw [e, decide_eq_false this], rfl⟩)
    · have := (iN_eq (by omega)).mp q
      exact b_X9_isNext_24 (rZ1 ⟨by rw [e, decide_eq_true this], rfl⟩)
theorem s_accept {p : Nat} {sz : Int} {g : Bool} (hm : mob h m rf sz p (bI g) lf ac) (b : Bool) : CtV mX9_accept 0 0 0 [.ref m, .int (iN (bI b))] h (fun h' => mob h' m rf sz ((if (g && b) = true then p + 1 else p : Nat) : Int) (bI (g && b)) lf ac ∧ Off h h' m (m + 1)) := by
  have No : (g && b) = false → AW mX9_accept 0 0 0 16 [.ref m, .int (iN (bI b))] [.ref m] h (qV (fun h' => mob h' m rf sz ((if (g && b) = true then p + 1 else p : Nat) : Int) (bI (g && b)) lf ac ∧ Off h h' m (m + 1))) := by
    intro e
    have m1 := hm.s4 0
    rw [e]
    refine b_X9_accept_16 hm.n4 m1.n3 m1.n4 (fun _ => ?_) (fun y => absurd rfl y)
    refine b_X9_accept_36 m1.n3 (rV ⟨?_, (Off.ofs (a := m)).tr Off.ofs m (m + 1)⟩)
    have := m1.s3 ((p : Int) + 0)
    rw [if_neg (by decide)]
    rw [Int.add_zero] at this ⊢
    exact this
  refine en_X9_accept (b_X9_accept_0 hm.n4 (fun q => ?_) (fun q => ?_))
  · have := bI_0.mp q
    exact No (by rw [this]; rfl)
  · have hg := bI_n0 q
    refine b_X9_accept_8 (fun q => ?_) (fun q => ?_)
    · have := bI_0.mp q
      exact No (by rw [this]; simp)
    · have hb := bI_n0 q
      subst hg
      subst hb
      have m1 := hm.s4 1
      refine b_X9_accept_12 hm.n4 m1.n3 m1.n4 (fun y => absurd y (by decide)) (fun _ => ?_)
      refine b_X9_accept_32 m1.n3 (rV ⟨?_, (Off.ofs (a := m)).tr Off.ofs m (m + 1)⟩)
      exact m1.s3 ((p : Int) + 1)
theorem s_digit {n p : Nat} {w : Bool} (hm : mob h m rf n p (bI (!w)) lf ac) (hs : ari h (m + 1) 100 sc) (hn : n ≤ 100) (hp : p ≤ 1000) (hc : ∀ k, k < n → 0 ≤ sc k ∧ sc k ≤ 255) {lo hi : Int} (hl : -1000 ≤ lo ∧ lo ≤ 1000) (hh : -1000 ≤ hi ∧ hi ≤ 1000) :
    CtI mX9_digit 1 0 0 [.ref m, .int (iN lo), .int (iN hi)] h (fun v h' => v = (g1 sc n lo hi p w).1 ∧ mob h' m rf n ((g1 sc n lo hi p w).2.1 : Int) (bI (!(g1 sc n lo hi p w).2.2)) lf ac ∧ Off h h' m (m + 1)) := by
  have dr := dig_rg sc n p
  have el := iN_T (z := lo) (by omega)
  have eh := iN_T (z := hi) (by omega)
  -- refused
  have Bad : (w = true ∨ ¬ (dig sc n p ≠ -1 ∧ lo ≤ dig sc n p ∧ dig sc n p ≤ hi)) → ∀ l3, AW mX9_digit 1 0 0 57 [.ref m, .int (iN lo), .int (iN hi), .int (iN l3)] [.ref m] h (qI (fun v h' => v = (g1 sc n lo hi p w).1 ∧ mob h' m rf n ((g1 sc n lo hi p w).2.1 : Int) (bI (!(g1 sc n lo hi p w).2.2)) lf ac ∧ Off h h' m (m + 1))) := by
    intro q l3
    have e : g1 sc n lo hi p w = (lo, p, true) := by
      cases w
      · rcases q with q | q
        · exact tnf q.symm
        · exact g1_b sc n q
      · exact g1_w sc n lo hi p
    rw [e]
    refine b_X9_digit_57 hm.o (s_accept hm false) (fun h1 hv => ?_)
    obtain ⟨m1, o1⟩ := hv
    rw [Bool.and_false] at m1
    exact b_X9_digit_61 m1.n4 (fun _ => b_X9_digit_72 (rI ⟨rfl, m1, o1⟩)) (fun y => absurd rfl y)
  -- once the sign is known
  have K : ∀ l3 : Int, -48 ≤ l3 → l3 ≤ 207 → (dig sc n p = if 0 ≤ l3 ∧ l3 ≤ 9 then l3 else -1) → ∀ b : Bool, b = decide (0 ≤ l3 ∧ l3 ≤ 9) → AW mX9_digit 1 0 0 38 [.ref m, .int (iN lo), .int (iN hi), .int (iN l3)] [.int (iN (bI b)), .ref m] h (qI (fun v h' => v = (g1 sc n lo hi p w).1 ∧ mob h' m rf n ((g1 sc n lo hi p w).2.1 : Int) (bI (!(g1 sc n lo hi p w).2.2)) lf ac ∧ Off h h' m (m + 1))) := by
    rintro l3 l0 l1 ed b rfl
    have e3 := iN_T (z := l3) (by omega)
    by_cases q : 0 ≤ l3 ∧ l3 ≤ 9
    · rw [if_pos q] at ed
      rw [decide_eq_true q]
      refine b_X9_digit_38 (fun y => absurd y (by decide)) (fun _ => ?_)
      refine b_X9_digit_41 (s_in (by omega) (by omega) (by omega)) (fun v h1 hv => ?_)
      obtain ⟨rfl, rfl⟩ := hv
      rw [e3, el, eh]
      by_cases q2 : lo ≤ l3 ∧ l3 ≤ hi
      · rw [decide_eq_true q2]
        refine b_X9_digit_50 (fun y => absurd y (by decide)) (fun _ => ?_)
        refine b_X9_digit_53 hm.o (s_accept hm true) (fun h1 hv => ?_)
        obtain ⟨m1, o1⟩ := hv
        rw [Bool.and_true] at m1
        cases w
        · have e : g1 sc n lo hi p false = (dig sc n p, p + 1, false) := g1_g sc n (by omega)
          rw [e]
          exact b_X9_digit_61 m1.n4 (fun y => absurd y (by decide)) (fun _ => b_X9_digit_68 (rI ⟨ed.symm, m1, o1⟩))
        · rw [g1_w]
          exact b_X9_digit_61 m1.n4 (fun _ => b_X9_digit_72 (rI ⟨rfl, m1, o1⟩)) (fun y => absurd rfl y)
      · rw [decide_eq_false q2]
        exact b_X9_digit_50 (fun _ => Bad (Or.inr (by omega)) _) (fun y => absurd rfl y)
    · rw [if_neg q] at ed
      rw [decide_eq_false q]
      exact b_X9_digit_38 (fun _ => Bad (Or.inr (by omega)) _) (fun y => absurd rfl y)
  refine en_X9_digit (b_X9_digit_0 hm.n3 hm.n2 (fun q => ?_) (fun q => ?_))
  · have := (iN_le (by omega)).mp q
    have e : sgn sc n p = -1 := by unfold sgn; rw [if_neg (by omega)]
    have e1 := iN_T (z := -1) (by omega)
    refine b_X9_digit_26 (s_in (by omega) (by omega) (by omega)) (fun v h1 hv => ?_)
    obtain ⟨rfl, rfl⟩ := hv
    rw [e1]
    exact K (-1) (by omega) (by omega) (by unfold dig; rw [e, if_neg (by omega), if_neg (by omega)]) _ rfl
  · have hpn : p < n := by
      rcases Nat.lt_or_ge p n with y | y
      · exact y
      · exact absurd ((iN_le (by omega)).mpr (by omega)) q
    have e : sgn sc n p = sc p := by unfold sgn; rw [if_pos hpn]
    have hsp := hc p hpn
    have e1 := iN_T (z := sc p - 48) (by omega)
    refine b_X9_digit_11 hm.r1 hm.n3 (hs.g p) (s_in (by omega) (by omega) (by omega)) (fun v h1 hv => ?_)
    obtain ⟨rfl, rfl⟩ := hv
    rw [e1]
    refine K (sc p - 48) (by omega) (by omega) ?_ _ rfl
    unfold dig; rw [e]
    by_cases z : 48 ≤ sc p ∧ sc p ≤ 57
    · rw [if_pos z, if_pos (by omega)]
    · rw [if_neg z, if_neg (by omega)]
theorem s_two {n p : Nat} {w : Bool} (hm : mob h m rf n p (bI (!w)) lf ac) (hs : ari h (m + 1) 100 sc) (hn : n ≤ 100) (hp : p ≤ 900) (hc : ∀ k, k < n → 0 ≤ sc k ∧ sc k ≤ 255) {lo hi : Int} (hl : 0 ≤ lo ∧ lo ≤ hi ∧ hi ≤ 99) :
    CtI mX9_two 2 0 0 [.ref m, .int (iN lo), .int (iN hi)] h (fun v h' => v = (g2 sc n lo hi p w).1 ∧ mob h' m rf n ((g2 sc n lo hi p w).2.1 : Int) (bI (!(g2 sc n lo hi p w).2.2)) lf ac ∧ Off h h' m (m + 1)) := by
  have el := iN_div (a := lo) (b := 10) (by omega) (by omega)
  have eh := iN_div (a := hi) (b := 10) (by omega) (by omega)
  have rg := g1_rg sc n (lo := lo / 10) (hi := hi / 10) (by omega) p w
  refine en_X9_two (b_X9_two_0 hm.o (s_digit (lo := (iN lo / iN 10).toInt) (hi := (iN hi / iN 10).toInt) hm hs hn (by omega) hc (by rw [el]; omega) (by rw [eh]; omega)) (fun v h1 hv => ?_))
  rw [el, eh] at hv
  obtain ⟨rfl, m1, o1⟩ := hv
  have hs1 : ari h1 (m + 1) 100 sc := (o1.2 _ (by omega)).trans hs
  generalize hT : (g1 sc n (lo / 10) (hi / 10) p w) = T at m1 rg ⊢
  have E : ∀ (x y : Int), x = (if 0 ≤ lo - 10 * T.1 then lo - 10 * T.1 else 0) → y = (if hi - 10 * T.1 ≤ 9 then hi - 10 * T.1 else 9) → g2 sc n lo hi p w = (10 * T.1 + (g1 sc n x y T.2.1 T.2.2).1, (g1 sc n x y T.2.1 T.2.2).2) := by
    rintro x y rfl rfl
    unfold g2
    rw [hT]
  have Fin : ∀ x y l3 l4 l5 : Int, x = (if 0 ≤ lo - 10 * T.1 then lo - 10 * T.1 else 0) → y = (if hi - 10 * T.1 ≤ 9 then hi - 10 * T.1 else 9) → ∀ (P : Int → AH → Prop), (∀ v h', P v h' ↔ v = (g1 sc n x y T.2.1 T.2.2).1 ∧ mob h' m rf n ((g1 sc n x y T.2.1 T.2.2).2.1 : Int) (bI (!(g1 sc n x y T.2.1 T.2.2).2.2)) lf ac ∧ Off h1 h' m (m + 1)) → ∀ v h', P v h' → AW mX9_two 2 0 0 62 [.ref m, .int (iN lo), .int (iN hi), .int (iN l3), .int (iN l4), .int (iN l5)] [.int (iN v), .int (iN (10 * T.1))] h' (qI (fun v h' => v = (g2 sc n lo hi p w).1 ∧ mob h' m rf n ((g2 sc n lo hi p w).2.1 : Int) (bI (!(g2 sc n lo hi p w).2.2)) lf ac ∧ Off h h' m (m + 1))) := by
    intro x y l3 l4 l5 ex ey P hP v h2 hv
    obtain ⟨rfl, m2, o2⟩ := (hP _ _).mp hv
    rw [E x y ex ey]
    exact b_X9_two_62 (rI ⟨rfl, m2, o1.tr o2 m (m + 1)⟩)
  have hx : ∀ x : Int, x = (if 0 ≤ lo - 10 * T.1 then lo - 10 * T.1 else 0) → -1000 ≤ x ∧ x ≤ 1000 := by
    intro x ex; rw [ex]; split <;> omega
  have G : ∀ x : Int, x = (if 0 ≤ lo - 10 * T.1 then lo - 10 * T.1 else 0) → (iN (hi - 10 * T.1) ≤ iN 9 → AW mX9_two 2 0 0 57 [.ref m, .int (iN lo), .int (iN hi), .int (iN T.1), .int (iN (lo - 10 * T.1)), .int (iN (hi - 10 * T.1))] [.int (iN x), .ref m, .int (iN (10 * T.1))] h1 (qI (fun v h' => v = (g2 sc n lo hi p w).1 ∧ mob h' m rf n ((g2 sc n lo hi p w).2.1 : Int) (bI (!(g2 sc n lo hi p w).2.2)) lf ac ∧ Off h h' m (m + 1)))) ∧ (¬ iN (hi - 10 * T.1) ≤ iN 9 → AW mX9_two 2 0 0 52 [.ref m, .int (iN lo), .int (iN hi), .int (iN T.1), .int (iN (lo - 10 * T.1)), .int (iN (hi - 10 * T.1))] [.int (iN x), .ref m, .int (iN (10 * T.1))] h1 (qI (fun v h' => v = (g2 sc n lo hi p w).1 ∧ mob h' m rf n ((g2 sc n lo hi p w).2.1 : Int) (bI (!(g2 sc n lo hi p w).2.2)) lf ac ∧ Off h h' m (m + 1)))) := by
    intro x ex
    have hx1 := hx x ex
    refine ⟨fun q => ?_, fun q => ?_⟩
    · have := (iN_le (by omega)).mp q
      exact b_X9_two_57 m1.o (s_digit (lo := x) (hi := hi - 10 * T.1) m1 hs1 hn (by omega) hc hx1 (by omega)) (fun v h2 hv => Fin x (hi - 10 * T.1) _ _ _ ex (by rw [if_pos this]) _ (fun _ _ => Iff.rfl) v h2 hv)
    · have : ¬ hi - 10 * T.1 ≤ 9 := fun z => q ((iN_le (by omega)).mpr z)
      exact b_X9_two_52 m1.o (s_digit (lo := x) (hi := 9) m1 hs1 hn (by omega) hc hx1 (by omega)) (fun v h2 hv => Fin x 9 _ _ _ ex (by rw [if_neg this]) _ (fun _ _ => Iff.rfl) v h2 hv)
  refine b_X9_two_12 (fun q => ?_) (fun q => ?_)
  · have := (iN_le (by omega)).mp q
    have g := G (lo - 10 * T.1) (by rw [if_pos this])
    exact b_X9_two_43 g.1 g.2
  · have : ¬ 0 ≤ lo - 10 * T.1 := fun z => q ((iN_le (by omega)).mpr z)
    have g := G 0 (by rw [if_neg this])
    exact b_X9_two_39 g.1 g.2
theorem s_stepRead {n p : Nat} {w : Bool} (hm : mob h m rf n p (bI (!w)) lf ac) (hs : ari h (m + 1) 100 sc) (hn : n ≤ 100) (hp : p ≤ 1000) (hc : ∀ k, k < n → 0 ≤ sc k ∧ sc k ≤ 255) :
    CtI mX9_stepRead 1 0 0 [.ref m] h (fun v h' => ((stp sc n p w).2.2 = false → v = (stp sc n p w).1) ∧ mob h' m rf n ((stp sc n p w).2.1 : Int) (bI (!(stp sc n p w).2.2)) lf ac ∧ Off h h' m (m + 1)) := by
  have K : ∀ l1 : Int, isStp l1 = isStp (dig sc n p) → (isStp l1 = true → l1 = dig sc n p) → AW mX9_stepRead 1 0 0 33 [.ref m, .int (iN l1)] [.int (iN (bI (isStp l1))), .ref m] h (qI (fun v h' => ((stp sc n p w).2.2 = false → v = (stp sc n p w).1) ∧ mob h' m rf n ((stp sc n p w).2.1 : Int) (bI (!(stp sc n p w).2.2)) lf ac ∧ Off h h' m (m + 1))) := by
    intro l1 e1 e2
    refine b_X9_stepRead_33 hm.o (s_accept hm (isStp l1)) (fun h1 hv => ?_)
    obtain ⟨m1, o1⟩ := hv
    by_cases q : w = false ∧ isStp (dig sc n p) = true
    · have e : stp sc n p w = (dig sc n p, p + 1, false) := by unfold stp; rw [if_pos q]
      rw [e]
      rw [e1, q.1, q.2] at m1
      exact b_X9_stepRead_36 m1.n4 (fun y => absurd y (by decide)) (fun _ => b_X9_stepRead_43 (rI ⟨fun _ => e2 (by rw [e1]; exact q.2), m1, o1⟩))
    · have e : (stp sc n p w).2 = (p, true) := by unfold stp; rw [if_neg q]
      rw [e]
      have eg : (!w && isStp l1) = false := by
        rw [e1]
        cases w
        · have : ¬ isStp (dig sc n p) = true := fun z => q ⟨rfl, z⟩
          simpa using this
        · rfl
      rw [eg] at m1
      exact b_X9_stepRead_36 m1.n4 (fun _ => b_X9_stepRead_47 (rI ⟨fun z => tnf z, m1, o1⟩)) (fun y => absurd rfl y)
  refine en_X9_stepRead (b_X9_stepRead_0 hm.n3 hm.n2 (fun q => ?_) (fun q => ?_))
  · have := (iN_le (by omega)).mp q
    have e : dig sc n p = -1 := by unfold dig sgn; rw [if_neg (show ¬ p < n by omega), if_neg (by omega)]
    refine b_X9_stepRead_26 (s_risStep (by omega)) (fun v h1 hv => ?_)
    obtain ⟨rfl, rfl⟩ := hv
    exact K (-1) (by rw [e]) (fun _ => e.symm)
  · have hpn : p < n := by
      rcases Nat.lt_or_ge p n with y | y
      · exact y
      · exact absurd ((iN_le (by omega)).mpr (by omega)) q
    have hsp := hc p hpn
    have e : dig sc n p = if 48 ≤ sc p ∧ sc p ≤ 57 then sc p - 48 else -1 := by unfold dig sgn; rw [if_pos hpn]
    refine b_X9_stepRead_11 hm.r1 hm.n3 (hs.g p) (s_risStep (by omega)) (fun v h1 hv => ?_)
    obtain ⟨rfl, rfl⟩ := hv
    by_cases z : 48 ≤ sc p ∧ sc p ≤ 57
    · rw [if_pos z] at e
      exact K (sc p - 48) (by rw [e]) (fun _ => e.symm)
    · rw [if_neg z] at e
      have n1 : isStp (sc p - 48) = false := by unfold isStp; rw [decide_eq_false (by omega)]
      refine K (sc p - 48) ?_ (fun y => ?_)
      · rw [n1, e]; rfl
      · rw [n1] at y; exact absurd y (by decide)
end REFR
