/-! shelves of camps; the history -/
def shelf (h : AH) (p n : Nat) : Prop := h[p]? = some (5, [.ref (p + 1)]) ∧ h[p + 1]? = some (13, (List.range n).map (fun j => Value.ref (p + 2 + 35 * j)))
section HIST
variable {h h' : AH} {p n a lo hi : Nat}
theorem shelf.off (hs : shelf h p n) (ho : Off h h' lo hi) (hd : p + 2 ≤ lo ∨ hi ≤ p := by omega) : shelf h' p n :=
  ⟨(ho.2 p (by omega)).trans hs.1, (ho.2 (p + 1) (by omega)).trans hs.2⟩
theorem shelf.o (hs : shelf h p n) : isO h p 5 := ⟨_, hs.1⟩
theorem shelf.c (hs : shelf h p n) : fld h p 5 0 (.ref (p + 1)) := ⟨_, hs.1, rfl⟩
theorem s_at (hs : shelf h p n) {j : Nat} (hj : j < n) (hn : n ≤ 14) : CtR mX5_at 0 0 0 [.ref p, .int (iN j)] h (fun v h' => v = p + 2 + 35 * j ∧ h' = h) := by
  refine en_X5_at (b_X5_at_0 (fun w => ?_) (fun _ => ?_))
  · have := (iN_lt (by omega)).mp w; omega
  refine b_X5_at_4 hs.c (n3 := n) ⟨_, hs.2, by simp⟩ (fun w => ?_) (fun _ => ?_)
  · have := (iN_le (by omega)).mp w; omega
  refine b_X5_at_13 hs.c (x3 := p + 2 + 35 * j) ⟨_, hs.2, by omega, ?_⟩ (rR ⟨rfl, rfl⟩)
  rw [Int.toNat_natCast, List.getElem?_map, List.getElem?_range hj]; rfl
theorem s_lay (hs : shelf h p n) {j : Nat} (hj : j < n) (hn : n ≤ 14) {N N' : Nat → Int} {X X' : Nat → Nat → Int} {d : Nat} (hc : campX h (p + 2 + 35 * j) N X) (hd : campX h d N' X') (hdis : p + 2 + 35 * j + 35 ≤ d ∨ d + 35 ≤ p + 2 + 35 * j) : CtV mX5_lay 5 0 0 [.ref p, .int (iN j), .ref d] h (fun h' => campX h' (p + 2 + 35 * j) N' X' ∧ Off h h' (p + 2 + 35 * j) (p + 2 + 35 * j + 35)) := by
  refine en_X5_lay (b_X5_lay_0 hs.o (s_at hs hj hn) (fun v h1 hv => ?_))
  obtain ⟨rfl, rfl⟩ := hv
  refine b_X5_lay_5 hc.o (s_ccopy hc hd hdis) (fun h2 hv => ?_)
  exact b_X5_lay_15 (rV hv)
theorem s_fetch (hs : shelf h p n) {j : Nat} (hj : j < n) (hn : n ≤ 14) {N N' : Nat → Int} {X X' : Nat → Nat → Int} {d : Nat} (hc : campX h (p + 2 + 35 * j) N X) (hd : campX h d N' X') (hdis : p + 2 + 35 * j + 35 ≤ d ∨ d + 35 ≤ p + 2 + 35 * j) : CtV mX5_fetch 5 0 0 [.ref p, .int (iN j), .ref d] h (fun h' => campX h' d N X ∧ Off h h' d (d + 35)) := by
  refine en_X5_fetch (b_X5_fetch_0 hs.o (s_at hs hj hn) (fun v h1 hv => ?_))
  obtain ⟨rfl, rfl⟩ := hv
  refine b_X5_fetch_5 hd.o (s_ccopy hd hc (by omega)) (fun h2 hv => ?_)
  exact b_X5_fetch_15 (rV hv)
/-- the history: n states, D i is the i-th newest; the next one goes to slot x -/
def hist (h : AH) (a n x : Nat) (D : Nat → Nat → Int) : Prop :=
  h[a]? = some (3, [.int (iN n), .int (iN x), .ref (a + 1)]) ∧ shelf h (a + 1) 14 ∧ x < 14 ∧ n ≤ 14 ∧
  ∀ j, j < 14 → ∃ N X, campX h (a + 3 + 35 * j) N X ∧ ∀ i, i < n → j = (x + 13 - i) % 14 → Agr (D i 8) (D i 5) N X (D i)
theorem hist.off {x : Nat} {D : Nat → Nat → Int} (hh : hist h a n x D) (ho : Off h h' lo hi) (hd : a + 493 ≤ lo ∨ hi ≤ a := by omega) : hist h' a n x D := by
  obtain ⟨h1, h2, h3, h4, h5⟩ := hh
  refine ⟨(ho.2 a (by omega)).trans h1, h2.off ho, h3, h4, fun j hj => ?_⟩
  obtain ⟨N, X, q1, q2⟩ := h5 j hj
  exact ⟨N, X, q1.off ho, q2⟩
theorem hist.o {x : Nat} {D : Nat → Nat → Int} (hh : hist h a n x D) : isO h a 3 := ⟨_, hh.1⟩
theorem hist.n0 {x : Nat} {D : Nat → Nat → Int} (hh : hist h a n x D) : fld h a 3 0 (.int (iN n)) := ⟨_, hh.1, rfl⟩
theorem hist.n1 {x : Nat} {D : Nat → Nat → Int} (hh : hist h a n x D) : fld h a 3 1 (.int (iN x)) := ⟨_, hh.1, rfl⟩
theorem hist.c {x : Nat} {D : Nat → Nat → Int} (hh : hist h a n x D) : fld h a 3 2 (.ref (a + 1)) := ⟨_, hh.1, rfl⟩
theorem hcell {n x : Int} {j : Nat} {v : Int} (h1 : h[a]? = some (3, [.int (iN n), .int (iN x), .ref (a + 1)])) (hj : j < 2) : (stf h a j (.int (iN v)))[a]? = some (3, [.int (iN (if j = 0 then v else n)), .int (iN (if j = 1 then v else x)), .ref (a + 1)]) := by
  rw [stf_at h1]
  have hl := (List.getElem?_eq_some_iff.mp h1).1
  rcases (show j = 0 ∨ j = 1 by omega) with rfl | rfl <;> simp [hl]
theorem s_forgetAll {x : Nat} {D : Nat → Nat → Int} (hh : hist h a n x D) (D' : Nat → Nat → Int) : CtV mX3_forgetAll 0 0 0 [.ref a] h (fun h' => hist h' a 0 x D' ∧ Off h h' a (a + 1)) := by
  have h0 := hh.n0
  obtain ⟨h1, h2, h3, h4, h5⟩ := hh
  have o1 : Off h (stf h a 0 (.int (iN 0))) a (a + 1) := Off.ofs
  refine en_X3_forgetAll (b_X3_forgetAll_0 h0 (rV ⟨⟨?_, h2.off o1, h3, by omega, fun j hj => ?_⟩, o1⟩))
  · exact hcell h1 (by omega)
  · obtain ⟨N, X, q1, q2⟩ := h5 j hj
    exact ⟨N, X, q1.off o1, fun i hi => by omega⟩
/-- one more state, the oldest of 14 goes -/
theorem s_cremember {x : Nat} {D : Nat → Nat → Int} (hh : hist h a n x D) {c : Nat} {r : Nat → Int} (hc : camp h c (r 8) (r 5) r) (hdis : a + 493 ≤ c ∨ c + 35 ≤ a) : CtV mX3_remember 6 0 0 [.ref a, .ref c] h (fun h' => hist h' a (if n < 14 then n + 1 else 14) (if x < 13 then x + 1 else 0) (fun i => if i = 0 then r else D (i - 1)) ∧ Off h h' a (a + 493)) := by
  have hn0 := hh.n0
  have hn1 := hh.n1
  have hcc := hh.c
  have hh9 := hh
  obtain ⟨h1, h2, h3, h4, h5⟩ := hh
  obtain ⟨Nc, Xc, c1, c2⟩ := hc
  obtain ⟨N, X, q1, q2⟩ := h5 x h3
  have ea : a + 1 + 2 + 35 * x = a + 3 + 35 * x := by omega
  refine en_X3_remember (b_X3_remember_0 hcc hn1 h2.o (s_lay h2 h3 (by omega) (by rw [ea]; exact q1) c1 (by omega)) (fun h6 hv => ?_))
  rw [ea] at hv
  obtain ⟨k1, o1⟩ := hv
  have g1 : h6[a]? = some (3, [.int (iN n), .int (iN x), .ref (a + 1)]) := (o1.2 a (by omega)).trans h1
  have f0 : fld h6 a 3 0 (.int (iN n)) := ⟨_, g1, rfl⟩
  have f1 : fld h6 a 3 1 (.int (iN x)) := ⟨_, g1, rfl⟩
  -- the two stores
  have K : ∀ (x' n' : Int) (X9 N9 : Nat), x' = (X9 : Int) → n' = (N9 : Int) → X9 = (if x < 13 then x + 1 else 0) → N9 = (if n < 14 then n + 1 else 14) → hist (stf (stf h6 a 1 (.int (iN x'))) a 0 (.int (iN n'))) a N9 X9 (fun i => if i = 0 then r else D (i - 1)) ∧ Off h (stf (stf h6 a 1 (.int (iN x'))) a 0 (.int (iN n'))) a (a + 493) := by
    rintro _ _ X9 N9 rfl rfl eX eN
    have o2 : Off h6 (stf h6 a 1 (.int (iN (X9 : Int)))) a (a + 1) := Off.ofs
    have o3 : Off (stf h6 a 1 (.int (iN (X9 : Int)))) (stf (stf h6 a 1 (.int (iN (X9 : Int)))) a 0 (.int (iN (N9 : Int)))) a (a + 1) := Off.ofs
    have o4 := o2.tr o3 a (a + 1)
    have g2 := hcell (j := 1) (v := (X9 : Int)) g1 (by omega)
    rw [if_neg (by omega), if_pos rfl] at g2
    have g3 := hcell (j := 0) (v := (N9 : Int)) g2 (by omega)
    rw [if_pos rfl, if_neg (by omega)] at g3
    refine ⟨⟨g3, (h2.off o1).off o4, by rw [eX]; split <;> omega, by rw [eN]; split <;> omega, fun j hj => ?_⟩, (o1.up a (a + 493)).tr o4 a (a + 493)⟩
    by_cases q : j = x
    · subst q
      refine ⟨Nc, Xc, k1.off o4, fun i hi he => ?_⟩
      have : i = 0 := by rw [eX] at he; rw [eN] at hi; split at he <;> split at hi <;> omega
      subst this
      exact c2
    · obtain ⟨N', X', u1, u2⟩ := h5 j hj
      refine ⟨N', X', (u1.off o1).off o4, fun i hi he => ?_⟩
      have i0 : i ≠ 0 := by
        intro z; subst z
        rw [eX] at he; split at he <;> omega
      show Agr ((if i = 0 then r else D (i - 1)) 8) ((if i = 0 then r else D (i - 1)) 5) N' X' (if i = 0 then r else D (i - 1))
      rw [if_neg i0]
      have hi14 : i < 14 := by rw [eN] at hi; split at hi <;> omega
      refine u2 (i - 1) ?_ ?_
      · rw [eN] at hi
        rw [eX] at he
        split at hi <;> split at he <;> omega
      · rw [eX] at he; split at he <;> omega
  refine b_X3_remember_12 f1 (fun w => ?_) (fun w => ?_)
  · have hx := (iN_le (by omega)).mp w
    have g2 := hcell (j := 1) (v := 0) g1 (by omega)
    refine b_X3_remember_33 f1 (x3 := (n : Int)) ⟨_, g2, rfl⟩ ⟨_, g2, rfl⟩ (rV ?_)
    have := K 0 (if iN 14 < iN ((n : Int) + 1) then 14 else (n : Int) + 1) 0 (if n < 14 then n + 1 else 14) rfl ?_ (by rw [if_neg (by omega)]) rfl
    · rw [if_neg (show ¬ x < 13 by omega)]; exact this
    · by_cases q : n < 14
      · rw [if_neg (fun w => by have := (iN_lt (by omega)).mp w; omega), if_pos q]; omega
      · rw [if_pos ((iN_lt (by omega)).mpr (by omega)), if_neg q]; rfl
  · have hx : x < 13 := by
      rcases Nat.lt_or_ge x 13 with y | y
      · exact y
      · exact absurd ((iN_le (by omega)).mpr (by omega)) w
    have g2 := hcell (j := 1) (v := (x : Int) + 1) g1 (by omega)
    refine b_X3_remember_24 f1 f1 (x5 := (n : Int)) ⟨_, g2, rfl⟩ ⟨_, g2, rfl⟩ (rV ?_)
    have := K ((x : Int) + 1) (if iN 14 < iN ((n : Int) + 1) then 14 else (n : Int) + 1) (x + 1) (if n < 14 then n + 1 else 14) (by omega) ?_ (by rw [if_pos hx]) rfl
    · rw [if_pos hx]; exact this
    · by_cases q : n < 14
      · rw [if_neg (fun w => by have := (iN_lt (by omega)).mp w; omega), if_pos q]; omega
      · rw [if_pos ((iN_lt (by omega)).mpr (by omega)), if_neg q]; rfl
/-- the newest state comes back -/
theorem s_takeBack {x : Nat} {D : Nat → Nat → Int} (hh : hist h a n x D) (hn : 0 < n) {c : Nat} {k m : Int} {r : Nat → Int} (hc : camp h c k m r) (hdis : a + 493 ≤ c ∨ c + 35 ≤ a) : CtV mX3_takeBack 6 0 0 [.ref a, .ref c] h (fun h' => hist h' a (n - 1) (if 0 < x then x - 1 else 13) (fun i => D (i + 1)) ∧ camp h' c (D 0 8) (D 0 5) (D 0) ∧ ∃ h1, Off h h1 a (a + 1) ∧ Off h1 h' c (c + 35)) := by
  have hn0 := hh.n0
  have hn1 := hh.n1
  have hcc := hh.c
  obtain ⟨h1, h2, h3, h4, h5⟩ := hh
  obtain ⟨Nc, Xc, c1, c2⟩ := hc
  have K : ∀ (x' n' : Int) (X9 : Nat), x' = (X9 : Int) → n' = ((n - 1 : Nat) : Int) → X9 = (if 0 < x then x - 1 else 13) →
      (stf (stf h a 1 (.int (iN x'))) a 0 (.int (iN n')))[a]? = some (3, [.int (iN ((n - 1 : Nat) : Int)), .int (iN (X9 : Int)), .ref (a + 1)]) ∧ Off h (stf (stf h a 1 (.int (iN x'))) a 0 (.int (iN n'))) a (a + 1) ∧
      ∃ P : AH → Prop, CtV mX5_fetch 5 0 0 [.ref (a + 1), .int (iN (X9 : Int)), .ref c] (stf (stf h a 1 (.int (iN x'))) a 0 (.int (iN n'))) P ∧ ∀ h', P h' → hist h' a (n - 1) X9 (fun i => D (i + 1)) ∧ camp h' c (D 0 8) (D 0 5) (D 0) ∧ ∃ h1, Off h h1 a (a + 1) ∧ Off h1 h' c (c + 35) := by
    rintro _ _ X9 rfl rfl eX
    have o2 : Off h (stf h a 1 (.int (iN (X9 : Int)))) a (a + 1) := Off.ofs
    have o3 : Off (stf h a 1 (.int (iN (X9 : Int)))) (stf (stf h a 1 (.int (iN (X9 : Int)))) a 0 (.int (iN ((n - 1 : Nat) : Int)))) a (a + 1) := Off.ofs
    have o4 := o2.tr o3 a (a + 1)
    have g2 := hcell (j := 1) (v := (X9 : Int)) h1 (by omega)
    rw [if_neg (by omega), if_pos rfl] at g2
    have g3 := hcell (j := 0) (v := ((n - 1 : Nat) : Int)) g2 (by omega)
    rw [if_pos rfl, if_neg (by omega)] at g3
    have x14 : X9 < 14 := by rw [eX]; split <;> omega
    have ex : X9 = (x + 13 - 0) % 14 := by rw [eX]; split <;> omega
    obtain ⟨N, X, q1, q2⟩ := h5 X9 x14
    have ea : a + 1 + 2 + 35 * X9 = a + 3 + 35 * X9 := by omega
    have F := s_fetch (h2.off o4) x14 (by omega) (by rw [ea]; exact q1.off o4) (c1.off o4) (by omega)
    refine ⟨g3, o4, _, F, fun h7 hv => ?_⟩
    obtain ⟨k1, o5⟩ := hv
    refine ⟨⟨(o5.2 a (by omega)).trans g3, (h2.off o4).off o5, x14, by omega, fun j hj => ?_⟩, ⟨N, X, k1, q2 0 hn ex⟩, _, o4, o5⟩
    obtain ⟨N', X', u1, u2⟩ := h5 j hj
    refine ⟨N', X', (u1.off o4).off o5, fun i hi he => u2 (i + 1) (by omega) ?_⟩
    rw [eX] at he; split at he <;> omega
  have en : (if iN ((n : Int) - 1) < iN 0 then 0 else (n : Int) - 1) = ((n - 1 : Nat) : Int) := by
    rw [if_neg (fun w => by have := (iN_lt (by omega)).mp w; omega)]; omega
  refine en_X3_takeBack (b_X3_takeBack_0 hn1 (fun w => ?_) (fun w => ?_))
  · have hx := (iN_le (by omega)).mp w
    obtain ⟨g3, o4, P, F, hP⟩ := K 13 (if iN ((n : Int) - 1) < iN 0 then 0 else (n : Int) - 1) 13 rfl en (by rw [if_neg (by omega)])
    have g2 := hcell (j := 1) (v := 13) h1 (by omega)
    refine b_X3_takeBack_17 hn1 (x3 := (n : Int)) ⟨_, g2, rfl⟩ ⟨_, g2, rfl⟩ (r7 := a + 1) ⟨_, g3, rfl⟩ (x9 := 13) ⟨_, g3, rfl⟩ (h2.off o4).o F (fun h7 hv => ?_)
    refine b_X3_takeBack_48 (rV ?_)
    rw [if_neg (by omega)]; exact hP h7 hv
  · have hx : 0 < x := by
      rcases Nat.eq_zero_or_pos x with y | y
      · exact absurd ((iN_le (by omega)).mpr (by omega)) w
      · exact y
    obtain ⟨g3, o4, P, F, hP⟩ := K ((x : Int) - 1) (if iN ((n : Int) - 1) < iN 0 then 0 else (n : Int) - 1) (x - 1) (by omega) en (by rw [if_pos hx])
    have g2 := hcell (j := 1) (v := (x : Int) - 1) h1 (by omega)
    refine b_X3_takeBack_8 hn1 hn1 (x5 := (n : Int)) ⟨_, g2, rfl⟩ ⟨_, g2, rfl⟩ (r9 := a + 1) ⟨_, g3, rfl⟩ (x11 := ((x - 1 : Nat) : Int)) ⟨_, g3, rfl⟩ (h2.off o4).o F (fun h7 hv => ?_)
    refine b_X3_takeBack_48 (rV ?_)
    rw [if_pos hx]; exact hP h7 hv
end HIST
