/-! steps, sizes; the best usual size -/
section BEST2
variable {h : AH} {x m : Nat} {r : Nat → Int}
def isStp (s : Int) : Bool := decide (s = 1 ∨ s = 2 ∨ s = 4 ∨ s = 8)
def isKnd (z s : Int) : Bool := decide ((1 ≤ z ∧ z ≤ 40) ∧ (s = 1 ∨ s = 2 ∨ s = 4 ∨ s = 8))
theorem s_cisStep {s : Int} (hs : -2147483648 ≤ s ∧ s < 2147483648) : CtZ mX8_isStep 0 0 0 [.int (iN s)] h (fun v h' => v = isStp s ∧ h' = h) := by
  have Y : (s = 1 ∨ s = 2 ∨ s = 4 ∨ s = 8) → AW mX8_isStep 0 0 0 21 [.int (iN s)] [] h (qZ fun v h' => v = isStp s ∧ h' = h) := fun q => b_X8_isStep_21 (rZ1 ⟨by unfold isStp; rw [decide_eq_true q], rfl⟩)
  refine en_X8_isStep (b_X8_isStep_0 (fun w => Y (Or.inl ((iN_eq (by omega)).mp w))) (fun w1 => ?_))
  refine b_X8_isStep_5 (fun w => Y (Or.inr (Or.inl ((iN_eq (by omega)).mp w)))) (fun w2 => ?_)
  refine b_X8_isStep_10 (fun w => Y (Or.inr (Or.inr (Or.inl ((iN_eq (by omega)).mp w))))) (fun w3 => ?_)
  refine b_X8_isStep_15 (fun w4 => ?_) (fun w => Y (Or.inr (Or.inr (Or.inr ((iN_eq (by omega)).mp w)))))
  refine b_X8_isStep_25 (rZ0 ⟨?_, rfl⟩)
  unfold isStp
  rw [decide_eq_false]
  rintro (rfl | rfl | rfl | rfl)
  · exact w1 rfl
  · exact w2 rfl
  · exact w3 rfl
  · exact w4 rfl
theorem s_risStep {s : Int} (hs : -2147483648 ≤ s ∧ s < 2147483648) : CtZ mX9_isStep 0 0 0 [.int (iN s)] h (fun v h' => v = isStp s ∧ h' = h) := by
  have Y : (s = 1 ∨ s = 2 ∨ s = 4 ∨ s = 8) → AW mX9_isStep 0 0 0 21 [.int (iN s)] [] h (qZ fun v h' => v = isStp s ∧ h' = h) := fun q => b_X9_isStep_21 (rZ1 ⟨by unfold isStp; rw [decide_eq_true q], rfl⟩)
  refine en_X9_isStep (b_X9_isStep_0 (fun w => Y (Or.inl ((iN_eq (by omega)).mp w))) (fun w1 => ?_))
  refine b_X9_isStep_5 (fun w => Y (Or.inr (Or.inl ((iN_eq (by omega)).mp w)))) (fun w2 => ?_)
  refine b_X9_isStep_10 (fun w => Y (Or.inr (Or.inr (Or.inl ((iN_eq (by omega)).mp w))))) (fun w3 => ?_)
  refine b_X9_isStep_15 (fun w4 => ?_) (fun w => Y (Or.inr (Or.inr (Or.inr ((iN_eq (by omega)).mp w)))))
  refine b_X9_isStep_25 (rZ0 ⟨?_, rfl⟩)
  unfold isStp
  rw [decide_eq_false]
  rintro (rfl | rfl | rfl | rfl)
  · exact w1 rfl
  · exact w2 rfl
  · exact w3 rfl
  · exact w4 rfl
theorem s_isTentKind {z s : Int} (hz : -2147483648 ≤ z ∧ z < 2147483648) (hs : -2147483648 ≤ s ∧ s < 2147483648) : CtZ mX8_isTentKind 1 0 0 [.int (iN z), .int (iN s)] h (fun v h' => v = isKnd z s ∧ h' = h) := by
  have No : ¬ ((1 ≤ z ∧ z ≤ 40) ∧ (s = 1 ∨ s = 2 ∨ s = 4 ∨ s = 8)) → AW mX8_isTentKind 1 0 0 22 [.int (iN z), .int (iN s)] [] h (qZ fun v h' => v = isKnd z s ∧ h' = h) := fun q => b_X8_isTentKind_22 (rZ0 ⟨by unfold isKnd; rw [decide_eq_false q], rfl⟩)
  refine en_X8_isTentKind (b_X8_isTentKind_0 (fun w => No (by have := (iN_lt (by omega)).mp w; omega)) (fun w1 => ?_))
  have h1 : ¬ z < 1 := fun q => w1 ((iN_lt (by omega)).mpr q)
  refine b_X8_isTentKind_5 (fun w => No (by have := (iN_lt (by omega)).mp w; omega)) (fun w2 => ?_)
  have h2 : ¬ 40 < z := fun q => w2 ((iN_lt (by omega)).mpr q)
  refine b_X8_isTentKind_11 (s_cisStep hs) (fun v h' hv => ?_)
  obtain ⟨rfl, rfl⟩ := hv
  by_cases q : s = 1 ∨ s = 2 ∨ s = 4 ∨ s = 8
  · have e : isStp s = true := by unfold isStp; rw [decide_eq_true q]
    rw [e]
    refine b_X8_isTentKind_15 (fun w => absurd w (by decide)) (fun _ => ?_)
    exact b_X8_isTentKind_18 (rZ1 ⟨by unfold isKnd; rw [decide_eq_true ⟨by omega, q⟩], rfl⟩)
  · have e : isStp s = false := by unfold isStp; rw [decide_eq_false q]
    rw [e]
    exact b_X8_isTentKind_15 (fun _ => No (fun z => q z.2)) (fun w => absurd rfl w)
theorem s_isTentSize {z : Int} (hz : -2147483648 ≤ z ∧ z < 2147483648) : CtZ mX9_isTentSize 1 0 0 [.int (iN z)] h (fun v h' => v = decide (1 ≤ z ∧ z ≤ 40) ∧ h' = h) := by
  have e := iN_T hz
  refine en_X9_isTentSize (b_X9_isTentSize_0 (s_in (by omega) (by omega) (by omega)) (fun v h' hv => ?_))
  obtain ⟨rfl, rfl⟩ := hv
  refine b_X9_isTentSize_9 (zb_b _) (rZ ⟨?_, rfl⟩)
  rw [e]
theorem pA_inv {z s : Nat → Int} : ∀ (k t : Nat) {r : Nat → Int}, Inv r → (∀ j, j < t + k → (1 ≤ z j ∧ z j ≤ 40) ∧ (s j = 1 ∨ s j = 2 ∨ s j = 4 ∨ s j = 8)) → Inv (pA z s k t r).2
  | 0, _, _, hI, _ => hI
  | k + 1, t, r, hI, hz => by
    simp only [pA]
    split
    · rename_i w
      have := hz t (by omega)
      exact pA_inv k (t + 1) (hI.pitch w.1 this.1 this.2 w.2) (fun j hj => hz j (by omega))
    · exact hI
theorem pA_cg {z s z' s' : Nat → Int} : ∀ (k t : Nat) (r : Nat → Int), (∀ j, j < t + k → z j = z' j ∧ s j = s' j) → pA z s k t r = pA z' s' k t r
  | 0, _, _, _ => rfl
  | k + 1, t, r, h => by
    have := h t (by omega)
    simp only [pA]
    rw [this.1, this.2, pA_cg k (t + 1) _ (fun j hj => h j (by omega))]
/-- all tents with the usual size u -/
def pU (r : Nat → Int) (u : Int) : Bool × (Nat → Int) := pA (fun t => r (12 + 4 * t)) (fun t => r (13 + 4 * t)) (nT r) 0 (clean u 0)
def bst (r : Nat → Int) : Nat → Int × Int
  | 0 => (-1, 257)
  | k + 1 => if (pU r (8 + k)).1 = true ∧ allP (pU r (8 + k)).2 < (bst r k).2 then (8 + k, allP (pU r (8 + k)).2) else bst r k
theorem pU_inv (hI : Inv r) {u : Int} (hu : 8 ≤ u ∧ u ≤ 64) : Inv (pU r u).2 :=
  pA_inv _ _ (InvClean hu (by omega)) (fun j hj => by have := hI.2.1.2 j (by omega); exact ⟨this.2.2.1, this.2.2.2.2⟩)
theorem Inv.ap (hI : Inv r) : 0 ≤ allP r ∧ allP r ≤ 256 := ⟨hI.1.k.ap.1, hI.1.1.2.2.2⟩
theorem bst_rg (hI : Inv r) : ∀ k : Nat, k ≤ 57 → ((bst r k).1 = -1 ∧ (bst r k).2 = 257) ∨ ((8 ≤ (bst r k).1 ∧ (bst r k).1 ≤ 64) ∧ 0 ≤ (bst r k).2 ∧ (bst r k).2 ≤ 256)
  | 0, _ => Or.inl ⟨rfl, rfl⟩
  | k + 1, h => by
    have ih := bst_rg hI k (by omega)
    have := (pU_inv hI (u := 8 + k) (by omega)).ap
    simp only [bst]
    split
    · right; exact ⟨by show 8 ≤ (8 + (k : Int)) ∧ _; show _ ∧ (8 + (k : Int)) ≤ 64; omega, this⟩
    · exact ih
theorem s_rbestSize {rf sz sp gd lf ac : Int} {tr : Nat → Int} (hm : mob h m rf sz sp gd lf ac) (hn : ari h (m + 3) 690 r) (ht : ari h (m + 4) 690 tr) (hI : Inv r) :
    CtI mX9_bestSize 7 0 0 [.ref m] h (fun v h' => v = (bst r 57).1 ∧ mob h' m 0 sz sp gd lf ac ∧ (∃ tr', ari h' (m + 4) 690 tr') ∧ Off h h' m (m + 8) ∧ ∀ q, q ≠ m → q ≠ m + 4 → h'[q]? = h[q]?) := by
  have hm0 := hm.s0 0
  have o0 : Off h (stf h m 0 (.int (iN 0))) m (m + 1) := Off.ofs
  refine en_X9_bestSize (b_X9_bestSize_0 hm.n0 ?_)
  have H : ∀ (q k : Nat) (h1 : AH) (l : Int), k + q = 57 → mob h1 m 0 sz sp gd lf ac → ari h1 (m + 3) 690 r → (∃ tr', ari h1 (m + 4) 690 tr') → (l = (bst r k).2 ∨ (bst r k).1 = -1 ∧ l = 0) → Off h h1 m (m + 8) → (∀ q, q ≠ m → q ≠ m + 4 → h1[q]? = h[q]?) → AW mX9_bestSize 7 0 0 12 [.ref m, .int (iN (bst r k).1), .int (iN l), .int (iN (8 + (k : Int))), vU] [] h1 (qI (fun v h' => v = (bst r 57).1 ∧ mob h' m 0 sz sp gd lf ac ∧ (∃ tr', ari h' (m + 4) 690 tr') ∧ Off h h' m (m + 8) ∧ ∀ q, q ≠ m → q ≠ m + 4 → h'[q]? = h[q]?)) := by
    intro q
    induction q with
    | zero =>
      intro k h1 l hk hm hn ht hl o1 oo
      refine b_X9_bestSize_12 (fun _ => ?_) (fun w => absurd ((iN_lt (by omega)).mpr (by omega)) w)
      obtain rfl : k = 57 := by omega
      exact b_X9_bestSize_53 (rI ⟨rfl, hm, ht, o1, oo⟩)
    | succ q ih =>
      intro k h1 l hk hm hn ht hl o1 oo
      obtain ⟨tr', ht⟩ := ht
      have hb := bst_rg hI k (by omega)
      have hu := (pU_inv hI (u := 8 + (k : Int)) (by omega)).ap
      refine b_X9_bestSize_12 (fun w => ?_) (fun _ => ?_)
      · have := (iN_lt (by omega)).mp w; omega
      refine b_X9_bestSize_18 hm.o (s_needs hm hn ht hI (u := 8 + (k : Int)) (by omega)) (fun v h2 hv => ?_)
      obtain ⟨rfl, ra⟩ := hv
      change AW _ _ _ _ _ _ [.int (iN (if (pU r (8 + (k : Int))).1 then allP (pU r (8 + (k : Int))).2 else -1))] _ _
      have o2 := ra.off (m + 4) (m + 5)
      have hm2 := hm.off o2
      have hn2 : ari h2 (m + 3) 690 r := (o2.2 _ (by omega)).trans hn
      have o3 : Off h h2 m (m + 8) := o1.tr o2 m (m + 8)
      have oo3 : ∀ q, q ≠ m → q ≠ m + 4 → h2[q]? = h[q]? := fun q q1 q2 => (o2.2 q (by omega)).trans (oo q q1 q2)
      have e : (8 + (k : Int) + 1) = 8 + ((k + 1 : Nat) : Int) := by omega
      have nx := ih (k + 1) h2
      have eb : bst r (k + 1) = if (pU r (8 + (k : Int))).1 = true ∧ allP (pU r (8 + (k : Int))).2 < (bst r k).2 then (8 + (k : Int), allP (pU r (8 + (k : Int))).2) else bst r k := rfl
      rw [eb] at nx
      cases hp : (pU r (8 + (k : Int))).1
      · rw [hp] at nx
        rw [if_neg (by simp)]
        refine b_X9_bestSize_23 (fun _ => ?_) (fun w => absurd rfl w)
        refine b_X9_bestSize_47 ?_
        rw [e]
        rw [if_neg (by simp)] at nx
        exact nx l (by omega) hm2 hn2 ⟨_, ra.a⟩ hl o3 oo3
      · rw [hp] at nx
        rw [if_pos rfl]
        simp only [true_and] at nx
        refine b_X9_bestSize_23 (fun w => ?_) (fun _ => ?_)
        · have := (iN_eq (by omega)).mp w; omega
        have Yes : allP (pU r (8 + (k : Int))).2 < (bst r k).2 → AW mX9_bestSize 7 0 0 42 [.ref m, .int (iN (bst r k).1), .int (iN l), .int (iN (8 + (k : Int))), .int (iN (allP (pU r (8 + (k : Int))).2))] [] h2 (qI (fun v h' => v = (bst r 57).1 ∧ mob h' m 0 sz sp gd lf ac ∧ (∃ tr', ari h' (m + 4) 690 tr') ∧ Off h h' m (m + 8) ∧ ∀ q, q ≠ m → q ≠ m + 4 → h'[q]? = h[q]?)) := by
          intro lt
          refine b_X9_bestSize_42 ?_
          rw [e]
          rw [if_pos lt] at nx
          exact nx _ (by omega) hm2 hn2 ⟨_, ra.a⟩ (Or.inl rfl) o3 oo3
        refine b_X9_bestSize_31 (fun w => ?_) (fun w => ?_)
        · have := (iN_eq (by omega)).mp w
          exact Yes (by omega)
        · have hne : (bst r k).1 ≠ -1 := fun z => w (by rw [z])
          refine b_X9_bestSize_36 (fun w => ?_) (fun w => ?_)
          · have := (iN_le (by omega)).mp w
            refine b_X9_bestSize_47 ?_
            rw [e]
            rw [if_neg (by omega)] at nx
            exact nx l (by omega) hm2 hn2 ⟨_, ra.a⟩ hl o3 oo3
          · refine Yes ?_
            rcases Int.lt_or_le (allP (pU r (8 + (k : Int))).2) (bst r k).2 with y | y
            · exact y
            · exact absurd ((iN_le (by omega)).mpr (by omega)) w
  exact H 57 0 _ 0 (by omega) hm0 ((o0.2 _ (by omega)).trans hn) ⟨_, (o0.2 _ (by omega)).trans ht⟩ (Or.inr ⟨rfl, rfl⟩) (o0.up _ _) (fun q q1 q2 => o0.2 q (by omega))
end BEST2
