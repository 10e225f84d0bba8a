/-! the reference's text buffer -/
section APP
variable {h : AH} {m : Nat} {sc : Nat → Int} {rf sz sp gd lf ac : Int}
/-- what append says: 1, 2 or 0 -/
def apR (c : Int) (n : Nat) : Int := if ¬ (0 ≤ c ∧ c ≤ 255) then 1 else if n = 100 then 2 else 0
theorem s_rappend {n : Nat} (hm : mob h m rf n sp gd lf ac) (hs : ari h (m + 1) 100 sc) (hn : n ≤ 100) {c : Int} (hc : -2147483648 ≤ c ∧ c < 2147483648) :
    CtI mX9_append 1 0 0 [.ref m, .int (iN c)] h (fun v h' => v = (if apR c n = 0 then (n : Int) + 1 else 0) ∧ mob h' m (apR c n) (if apR c n = 0 then (n : Int) + 1 else n) sp gd lf ac ∧ ari h' (m + 1) 100 (if apR c n = 0 then up sc n c else sc) ∧ Off h h' m (m + 2)) := by
  have e := iN_T hc
  have R : ∀ w : Int, 0 < w → w ≤ 10 → apR c n = w → ∀ h1, h1 = stf h m 0 (.int (iN w)) → AW mX9_append 1 0 0 34 [.ref m, .int (iN c)] [.int (iN (bI (decide (0 < w))))] h1 (qI (fun v h' => v = (if apR c n = 0 then (n : Int) + 1 else 0) ∧ mob h' m (apR c n) (if apR c n = 0 then (n : Int) + 1 else n) sp gd lf ac ∧ ari h' (m + 1) 100 (if apR c n = 0 then up sc n c else sc) ∧ Off h h' m (m + 2))) := by
    rintro w w0 w1 ew _ rfl
    rw [decide_eq_true w0]
    have o1 : Off h (stf h m 0 (.int (iN w))) m (m + 1) := Off.ofs
    refine b_X9_append_34 (fun y => absurd y (by decide)) (fun _ => ?_)
    rw [ew, if_neg (by omega), if_neg (by omega), if_neg (by omega)]
    exact b_X9_append_37 (rI ⟨rfl, hm.s0 w, (o1.2 _ (by omega)).trans hs, o1.up _ _⟩)
  refine en_X9_append (b_X9_append_0 (s_in (by omega) (by omega) (by omega)) (fun v h1 hv => ?_))
  obtain ⟨rfl, rfl⟩ := hv
  rw [e]
  by_cases q : 0 ≤ c ∧ c ≤ 255
  · rw [decide_eq_true q]
    refine b_X9_append_10 (fun _ => ?_) (fun w => absurd w (by decide))
    refine b_X9_append_17 hm.n2 (fun w => ?_) (fun w => ?_)
    · have hne : n ≠ 100 := fun y => w (by rw [y]; rfl)
      have ea : apR c n = 0 := by unfold apR; rw [if_neg (fun y => y q), if_neg hne]
      refine b_X9_append_30 hm.o (s_refused hm (w := 0) (by omega)) (fun v h2 hv => ?_)
      obtain ⟨rfl, rfl⟩ := hv
      have o1 : Off h1 (stf h1 m 0 (.int (iN 0))) m (m + 1) := Off.ofs
      have hm1 := hm.s0 0
      have hs1 : ari (stf h1 m 0 (.int (iN 0))) (m + 1) 100 sc := (o1.2 _ (by omega)).trans hs
      refine b_X9_append_34 (fun _ => ?_) (fun w => absurd rfl w)
      rw [ea, if_pos rfl, if_pos rfl, if_pos rfl]
      have o2 : Off (stf h1 m 0 (.int (iN 0))) (stf (stf h1 m 0 (.int (iN 0))) (m + 1) ((n : Int)).toNat (.int (iN c))) (m + 1) (m + 2) := Off.ofs
      have hm2 := hm1.off o2
      have hs2 : ari (stf (stf h1 m 0 (.int (iN 0))) (m + 1) ((n : Int)).toNat (.int (iN c))) (m + 1) 100 (up sc n c) := by
        rw [Int.toNat_natCast, hs1.st]; exact wr_at hs1.lt
      have hm3 := hm2.s2 ((n : Int) + 1)
      have o3 : Off (stf (stf h1 m 0 (.int (iN 0))) (m + 1) ((n : Int)).toNat (.int (iN c))) (stf (stf (stf h1 m 0 (.int (iN 0))) (m + 1) ((n : Int)).toNat (.int (iN c))) m 2 (.int (iN ((n : Int) + 1)))) m (m + 1) := Off.ofs
      exact b_X9_append_39 hm1.r1 hm1.n2 (hs1.g n) hm2.n2 hm2.n2 hm3.n2 (rI ⟨rfl, hm3, (o3.2 _ (by omega)).trans hs2, (o1.tr o2 m (m + 2)).tr o3 m (m + 2)⟩)
    · have h100 : n = 100 := by have := (iN_eq (by omega)).mp w; omega
      have ea : apR c n = 2 := by unfold apR; rw [if_neg (fun y => y q), if_pos h100]
      refine b_X9_append_26 hm.o (s_refused hm (w := 2) (by omega)) (fun v h2 hv => ?_)
      obtain ⟨rfl, rfl⟩ := hv
      exact R 2 (by omega) (by omega) ea _ rfl
  · rw [decide_eq_false q]
    have ea : apR c n = 1 := by unfold apR; rw [if_pos q]
    refine b_X9_append_10 (fun w => absurd rfl w) (fun _ => ?_)
    refine b_X9_append_13 hm.o (s_refused hm (w := 1) (by omega)) (fun v h2 hv => ?_)
    obtain ⟨rfl, rfl⟩ := hv
    exact R 1 (by omega) (by omega) ea _ rfl
theorem s_rclearText (hm : mob h m rf sz sp gd lf ac) : CtI mX9_clearText 0 0 0 [.ref m] h (fun v h' => v = sz ∧ mob h' m 0 0 sp gd lf ac ∧ Off h h' m (m + 1)) := by
  have o1 : Off h (stf h m 0 (.int (iN 0))) m (m + 1) := Off.ofs
  have hm1 := hm.s0 0
  have hm2 := hm1.s2 0
  exact en_X9_clearText (b_X9_clearText_0 hm.n0 hm1.n2 hm1.n2 (rI ⟨rfl, hm2, o1.tr Off.ofs m (m + 1)⟩))
end APP
