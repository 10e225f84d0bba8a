/-! the reference's static methods: ends, giving up, striking behind a frame -/
section REFD
variable {h : AH} {q : Nat} {r : Nat → Int}
theorem s_layEnds (ha : ari h q 690 r) (hg : okG r) (ht : okT r) : CtV mX9_layEnds 1 0 0 [.ref q] h (fun h' => RA h q (layE r) h') := by
  have hn := hg.n
  have h1 := hg.1.1
  have h0 := ht.1
  have n1 : r 1 = (nF r : Int) := by unfold nF; omega
  have n0 : r 0 = (nT r : Int) := by unfold nT; omega
  have T : ∀ t, t < nT r → (r (10 + 4 * t)).toNat < nF r := by
    intro t h1
    have := (ht.2 t h1).1; omega
  have H2 : ∀ (k i : Nat) (h1 : AH), i + k = nT r → RA h q (layT (lay0 r (nF r)) i) h1 → AW mX9_layEnds 1 0 0 25 [.ref q, .int (iN (i : Int))] [] h1 (qV fun h1 => RA h q (layE r) h1) := by
    intro k
    induction k with
    | zero =>
      intro i h1 hi ra
      have L : ∀ c, c < 106 → layT (lay0 r (nF r)) i c = r c := fun c hc => by
        rw [layT_out (lay0 r (nF r)) (nF r) (by omega), lay0_out (by omega)]
        intro t h2
        rw [lay0_out (by omega)]; exact T t (by omega)
      refine b_X9_layEnds_25 (ra.a.gv 0 (L 0 (by omega))) (fun _ => ?_) (fun w => absurd ((iN_le (by omega)).mpr (by omega)) w)
      refine b_X9_layEnds_66 (rV ?_)
      unfold layE; rw [show nT r = i by omega]; exact ra
    | succ k ih =>
      intro i h1 hi ra
      have hti := ht.2 i (by omega)
      have L : ∀ c, c < 106 → layT (lay0 r (nF r)) i c = r c := fun c hc => by
        rw [layT_out (lay0 r (nF r)) (nF r) (by omega), lay0_out (by omega)]
        intro t h2
        rw [lay0_out (by omega)]; exact T t (by omega)
      have e : ((i : Int) + 1) = ((i + 1 : Nat) : Int) := by omega
      refine b_X9_layEnds_25 (ra.a.gv 0 (L 0 (by omega))) (fun w => ?_) (fun _ => ?_)
      · have := (iN_le (by omega)).mp w; omega
      have hT := T i (by omega)
      refine b_X9_layEnds_32 s_tentAt (fun v h' hv => ?_)
      obtain ⟨rfl, rfl⟩ := hv
      refine b_X9_layEnds_39 (ra.a.gv (10 + 4 * i) (L _ (by omega))) s_fieldAt (fun v h' hv => ?_)
      obtain ⟨rfl, rfl⟩ := hv
      refine b_X9_layEnds_44 s_tentAt (fun v h' hv => ?_)
      obtain ⟨rfl, rfl⟩ := hv
      refine b_X9_layEnds_50 (ra.a.gv (11 + 4 * i) (L _ (by omega))) s_tentAt (fun v h' hv => ?_)
      obtain ⟨rfl, rfl⟩ := hv
      have hp := hti.1.1
      refine b_X9_layEnds_57 (ra.a.gv (12 + 4 * i) (L _ (by omega))) (ra.a.g (108 + 4 * (r (10 + 4 * i)).toNat)) ?_
      rw [e]
      refine ih (i + 1) _ (by omega) ((ra.s (108 + 4 * (r (10 + 4 * i)).toNat)).eq ?_)
      show _ = up _ _ _
      rw [lay0_out (by omega), lay0_out (by omega), lay0_out (by omega)]
  refine en_X9_layEnds (b_X9_layEnds_0 ?_)
  have H1 : ∀ (k i : Nat) (h1 : AH), i + k = nF r → RA h q (lay0 r i) h1 → AW mX9_layEnds 1 0 0 2 [.ref q, .int (iN (i : Int))] [] h1 (qV fun h1 => RA h q (layE r) h1) := by
    intro k
    induction k with
    | zero =>
      intro i h1 hi ra
      refine b_X9_layEnds_2 (ra.a.gv 1 (lay0_out (by omega))) (fun _ => ?_) (fun w => absurd ((iN_le (by omega)).mpr (by omega)) w)
      refine b_X9_layEnds_23 ?_
      exact H2 (nT r) 0 h1 (by omega) (by rw [show nF r = i by omega]; exact ra)
    | succ k ih =>
      intro i h1 hi ra
      have e : ((i : Int) + 1) = ((i + 1 : Nat) : Int) := by omega
      refine b_X9_layEnds_2 (ra.a.gv 1 (lay0_out (by omega))) (fun w => ?_) (fun _ => ?_)
      · have := (iN_le (by omega)).mp w; omega
      refine b_X9_layEnds_9 s_fieldAt (fun v h' hv => ?_)
      obtain ⟨rfl, rfl⟩ := hv
      refine b_X9_layEnds_15 (ra.a.g (108 + 4 * i)) ?_
      rw [e]
      refine ih (i + 1) _ (by omega) ((ra.s (108 + 4 * i)).eq ?_)
      funext c
      unfold up lay0
      by_cases hc : c = 108 + 4 * i
      · rw [if_pos hc, if_pos (by omega)]
      · rw [if_neg hc]
        by_cases hd : 108 ≤ c ∧ c < 106 + 4 * i ∧ c % 4 = 0
        · rw [if_pos hd, if_pos (by omega)]
        · rw [if_neg hd, if_neg (by omega)]
  refine H1 (nF r) 0 h (by omega) ((RA.st ha).eq ?_)
  funext c
  unfold lay0; rw [if_neg (by omega)]
theorem s_greatestSpare (ha : ari h q 690 r) (hk : okR r) (hS : 0 < nS r) : CtI mX9_greatestSpare 1 0 0 [.ref q] h (fun v h' => v = (grtS r : Int) ∧ h' = h) := by
  have h2 := hk.2.1
  have n2 : r 2 = (nS r : Int) := by unfold nS; omega
  refine en_X9_greatestSpare (b_X9_greatestSpare_0 ?_)
  have H : ∀ (k i : Nat), i + k = nS r → 0 < i → AW mX9_greatestSpare 1 0 0 4 [.ref q, .int (iN (grt (fun i => r (314 + 2 * i)) i)), .int (iN (i : Int))] [] h (qI fun v h' => v = (grtS r : Int) ∧ h' = h) := by
    intro k
    induction k with
    | zero =>
      intro i hi h0
      refine b_X9_greatestSpare_4 (ha.g 2) (fun _ => ?_) (fun w => absurd ((iN_le (by omega)).mpr (by omega)) w)
      refine b_X9_greatestSpare_40 (rI ⟨?_, rfl⟩)
      have := grt_rg (fun i => r (314 + 2 * i)) i
      unfold grtS; rw [show nS r = i by omega]; omega
    | succ k ih =>
      intro i hi h0
      have hg := grt_rg (fun i => r (314 + 2 * i)) i
      have z1 := hk.2.2.2.2 i (by omega)
      have z2 := hk.2.2.2.2 (grt (fun i => r (314 + 2 * i)) i).toNat (by omega)
      have e : ((i : Int) + 1) = ((i + 1 : Nat) : Int) := by omega
      have hk9 := ih (i + 1) (by omega) (by omega)
      simp only [grt] at hk9
      refine b_X9_greatestSpare_4 (ha.g 2) (fun w => ?_) (fun _ => ?_)
      · have := (iN_le (by omega)).mp w; omega
      refine b_X9_greatestSpare_11 s_spareAt (fun v h' hv => ?_)
      obtain ⟨rfl, rfl⟩ := hv
      refine b_X9_greatestSpare_17 (ha.g (314 + 2 * i)) s_spareAt (fun v h' hv => ?_)
      obtain ⟨rfl, rfl⟩ := hv
      refine b_X9_greatestSpare_24 (ha.g (314 + 2 * (grt (fun i => r (314 + 2 * i)) i).toNat)) (fun w => ?_) (fun w => ?_)
      · have := (iN_lt (by omega)).mp w
        refine b_X9_greatestSpare_32 ?_
        rw [if_neg (by omega)] at hk9
        rw [e]; exact hk9
      · have : r (314 + 2 * (grt (fun i => r (314 + 2 * i)) i).toNat) ≤ r (314 + 2 * i) := by
          rcases Int.lt_or_le (r (314 + 2 * i)) (r (314 + 2 * (grt (fun i => r (314 + 2 * i)) i).toNat)) with y | y
          · exact absurd ((iN_lt (by omega)).mpr y) w
          · exact y
        refine b_X9_greatestSpare_28 ?_
        rw [if_pos (by omega)] at hk9
        rw [e]; exact hk9
  exact H (nS r - 1) 1 (by omega) (by omega)
theorem s_giveUp (ha : ari h q 690 r) (hg : okG r) {i : Nat} (hi : i < nS r) : CtV mX9_giveUp 3 0 0 [.ref q, .int (iN i)] h (fun h' => RA h q (gvU r i) h') := by
  have hn := hg.n
  have h1 := hg.1.1
  have h2 := hg.1.2.1
  have hap := hg.1.2.2.2
  have hap2 := hg.k.ap
  have hs := hg.s hi
  have n1 : r 1 = (nF r : Int) := by unfold nF; omega
  have n2 : r 2 = (nS r : Int) := by unfold nS; omega
  generalize hz : r (314 + 2 * i) = z at hs
  generalize hx : r (315 + 2 * i) = s at hs
  refine en_X9_giveUp (b_X9_giveUp_0 s_spareAt (fun v h' hv => ?_))
  obtain ⟨rfl, rfl⟩ := hv
  refine b_X9_giveUp_6 (ha.gv (314 + 2 * i) hz) s_spareAt (fun v h' hv => ?_)
  obtain ⟨rfl, rfl⟩ := hv
  refine b_X9_giveUp_14 (ha.gv (315 + 2 * i) hx) (s_allPlaces ha (by omega) (by omega)) (fun v h' hv => ?_)
  obtain ⟨rfl, rfl⟩ := hv
  have e1 : (434 + s + z : Int) = ((434 + s.toNat + z.toNat : Nat) : Int) := by omega
  have e2 : (434 + s : Int) = ((434 + s.toNat : Nat) : Int) := by omega
  have e3 : (allP r - s - z : Int) = (((allP r).toNat - s.toNat - z.toNat : Nat) : Int) := by omega
  refine b_X9_giveUp_20 (by rw [e1, e2, e3]; exact s_copyL ha _ _ _ (by omega) (by omega)) (fun h3 ra => ?_)
  refine b_X9_giveUp_45 s_spareAt (fun v h4 hv => ?_)
  obtain ⟨rfl, rfl⟩ := hv
  refine b_X9_giveUp_53 s_spareAt (fun v h4 hv => ?_)
  obtain ⟨rfl, rfl⟩ := hv
  have e5 : (2 * (r 2 - 1 - i) : Int) = ((2 * (nS r - 1 - i) : Nat) : Int) := by omega
  have e6 : (314 + 2 * ((i : Int) + 1) + 0) = ((316 + 2 * i : Nat) : Int) := by omega
  have e7 : (314 + 2 * (i : Int) + 0) = ((314 + 2 * i : Nat) : Int) := by omega
  refine b_X9_giveUp_59 (ra.a.gv 2 (cpy_out _ _ _ _ (by omega))) (by rw [e5, e6, e7]; exact s_copyL ra.a _ _ _ (by omega) (by omega)) (fun h5 rb => ?_)
  have rc := ra.tr rb
  have rd := rc.s 2 (v := r 2 - 1) (z := 2)
  have g2 : (cpy (cpy r (434 + s.toNat + z.toNat) (434 + s.toNat) ((allP r).toNat - s.toNat - z.toNat)) (316 + 2 * i) (314 + 2 * i) (2 * (nS r - 1 - i))) 2 = r 2 := by
    rw [cpy_out _ _ _ _ (by omega), cpy_out _ _ _ _ (by omega)]
  have g1 : (up (cpy (cpy r (434 + s.toNat + z.toNat) (434 + s.toNat) ((allP r).toNat - s.toNat - z.toNat)) (316 + 2 * i) (314 + 2 * i) (2 * (nS r - 1 - i))) 2 (r 2 - 1)) 1 = r 1 := by
    rw [up_ne _ _ (by omega), cpy_out _ _ _ _ (by omega), cpy_out _ _ _ _ (by omega)]
  refine b_X9_giveUp_71 (rc.a.gv 2 g2) (rc.a.g 2) ?_
  have eG : gvU r i = shF (shS (up (cpy (cpy r (434 + s.toNat + z.toNat) (434 + s.toNat) ((allP r).toNat - s.toNat - z.toNat)) (316 + 2 * i) (314 + 2 * i) (2 * (nS r - 1 - i))) 2 (r 2 - 1)) (nS r - 1) s z) (nF r) s z := by
    unfold gvU; rw [hz, hx]
  rw [eG]
  have VS : ∀ k, k < nS r - 1 → 0 ≤ (up (cpy (cpy r (434 + s.toNat + z.toNat) (434 + s.toNat) ((allP r).toNat - s.toNat - z.toNat)) (316 + 2 * i) (314 + 2 * i) (2 * (nS r - 1 - i))) 2 (r 2 - 1)) (315 + 2 * k) ∧ (up (cpy (cpy r (434 + s.toNat + z.toNat) (434 + s.toNat) ((allP r).toNat - s.toNat - z.toNat)) (316 + 2 * i) (314 + 2 * i) (2 * (nS r - 1 - i))) 2 (r 2 - 1)) (315 + 2 * k) ≤ 256 := by
    intro k hk
    rw [up_ne _ _ (by omega)]
    by_cases q : k < i
    · rw [cpy_out _ _ _ _ (by omega), cpy_out _ _ _ _ (by omega)]
      have := hg.s (i := k) (by omega); omega
    · rw [cpy_in _ _ _ _ (by omega), cpy_out _ _ _ _ (by omega)]
      have := hg.s (i := k + 1) (by omega)
      rw [show 316 + 2 * i + (315 + 2 * k - (314 + 2 * i)) = 315 + 2 * (k + 1) by omega]; omega
  have VF : ∀ f, f < nF r → (up (cpy (cpy r (434 + s.toNat + z.toNat) (434 + s.toNat) ((allP r).toNat - s.toNat - z.toNat)) (316 + 2 * i) (314 + 2 * i) (2 * (nS r - 1 - i))) 2 (r 2 - 1)) (109 + 4 * f) = r (109 + 4 * f) := by
    intro f hf
    rw [up_ne _ _ (by omega), cpy_out _ _ _ _ (by omega), cpy_out _ _ _ _ (by omega)]
  have V1 : (up (cpy (cpy r (434 + s.toNat + z.toNat) (434 + s.toNat) ((allP r).toNat - s.toNat - z.toNat)) (316 + 2 * i) (314 + 2 * i) (2 * (nS r - 1 - i))) 2 (r 2 - 1)) 2 = r 2 - 1 := up_same _ _ _
  generalize hG : up (cpy (cpy r (434 + s.toNat + z.toNat) (434 + s.toNat) ((allP r).toNat - s.toNat - z.toNat)) (316 + 2 * i) (314 + 2 * i) (2 * (nS r - 1 - i))) 2 (r 2 - 1) = g at rd g1 VS VF V1
  have H2 : ∀ (k j : Nat) (h1 : AH), j + k = nF r → RA h' q (shF (shS g (nS r - 1) s z) j s z) h1 → AW mX9_giveUp 3 0 0 126 [.ref q, .int (iN i), .int (iN z), .int (iN s), .int (iN (allP r)), .int (iN (j : Int))] [] h1 (qV fun h1 => RA h' q (shF (shS g (nS r - 1) s z) (nF r) s z) h1) := by
    intro k
    induction k with
    | zero =>
      intro j h1 hj ra
      have c1 : shF (shS g (nS r - 1) s z) j s z 1 = r 1 := by
        unfold shF shS; rw [if_neg (by omega), if_neg (by omega), g1]
      refine b_X9_giveUp_126 (ra.a.gv 1 c1) (fun _ => ?_) (fun w => absurd ((iN_le (by omega)).mpr (by omega)) w)
      refine b_X9_giveUp_168 (rV ?_)
      rw [show nF r = j by omega]; exact ra
    | succ k ih =>
      intro j h1 hj ra
      have hfj := hg.f (f := j) (by omega)
      have e : ((j : Int) + 1) = ((j + 1 : Nat) : Int) := by omega
      have c1 : shF (shS g (nS r - 1) s z) j s z 1 = r 1 := by
        unfold shF shS; rw [if_neg (by omega), if_neg (by omega), g1]
      have c9 : shF (shS g (nS r - 1) s z) j s z (109 + 4 * j) = r (109 + 4 * j) := by
        unfold shF shS; rw [if_neg (by omega), if_neg (by omega)]; exact VF j (by omega)
      refine b_X9_giveUp_126 (ra.a.gv 1 c1) (fun w => ?_) (fun _ => ?_)
      · have := (iN_le (by omega)).mp w; omega
      have cg : ∀ v, v = (if s < r (109 + 4 * j) then r (109 + 4 * j) - z else r (109 + 4 * j)) → up (shF (shS g (nS r - 1) s z) j s z) (109 + 4 * j) v = shF (shS g (nS r - 1) s z) (j + 1) s z := by
        rintro _ rfl
        funext c
        by_cases hc : c = 109 + 4 * j
        · rw [hc, up_same]
          have e9 : shS g (nS r - 1) s z (109 + 4 * j) = r (109 + 4 * j) := by unfold shS; rw [if_neg (by omega)]; exact VF j (by omega)
          unfold shF
          rw [e9]
          by_cases hq : s < r (109 + 4 * j)
          · rw [if_pos hq, if_pos (by omega)]
          · rw [if_neg hq, if_neg (by omega)]
        · rw [up_ne _ _ hc]
          unfold shF
          by_cases hd : (109 ≤ c ∧ c < 106 + 4 * j ∧ c % 4 = 1) ∧ s < shS g (nS r - 1) s z c
          · rw [if_pos hd, if_pos (by omega)]
          · rw [if_neg hd, if_neg (by omega)]
      refine b_X9_giveUp_134 s_fieldAt (fun v h3 hv => ?_)
      obtain ⟨rfl, rfl⟩ := hv
      refine b_X9_giveUp_141 (ra.a.gv (109 + 4 * j) c9) s_fieldAt (fun v h3 hv => ?_)
      obtain ⟨rfl, rfl⟩ := hv
      refine b_X9_giveUp_150 (ra.a.gv (109 + 4 * j) c9) (fun w => ?_) (fun w => ?_)
      · have := (iN_le (by omega)).mp w
        refine b_X9_giveUp_159 (ra.a.g (109 + 4 * j)) ?_
        rw [e]
        exact ih (j + 1) _ (by omega) ((ra.s (109 + 4 * j)).eq (cg _ (by rw [if_neg (by omega)]; omega)))
      · have : s < r (109 + 4 * j) := by
          rcases Int.lt_or_le s (r (109 + 4 * j)) with y | y
          · exact y
          · exact absurd ((iN_le (by omega)).mpr y) w
        refine b_X9_giveUp_155 (ra.a.g (109 + 4 * j)) ?_
        rw [e]
        exact ih (j + 1) _ (by omega) ((ra.s (109 + 4 * j)).eq (cg _ (by rw [if_pos this])))
  have H1 : ∀ (k j : Nat) (h1 : AH), j + k = nS r - 1 → RA h' q (shS g j s z) h1 → AW mX9_giveUp 3 0 0 81 [.ref q, .int (iN i), .int (iN z), .int (iN s), .int (iN (allP r)), .int (iN (j : Int))] [] h1 (qV fun h1 => RA h' q (shF (shS g (nS r - 1) s z) (nF r) s z) h1) := by
    intro k
    induction k with
    | zero =>
      intro j h1 hj ra
      have c2 : shS g j s z 2 = r 2 - 1 := by unfold shS; rw [if_neg (by omega), V1]
      refine b_X9_giveUp_81 (ra.a.gv 2 c2) (fun _ => ?_) (fun w => absurd ((iN_le (by omega)).mpr (by omega)) w)
      refine b_X9_giveUp_123 ?_
      refine H2 (nF r) 0 h1 (by omega) ?_
      rw [show nS r - 1 = j by omega]
      refine ra.eq ?_
      funext c
      show _ = shF (shS g j s z) 0 s z c
      unfold shF; rw [if_neg (by omega)]
    | succ k ih =>
      intro j h1 hj ra
      have vj := VS j (by omega)
      have e : ((j : Int) + 1) = ((j + 1 : Nat) : Int) := by omega
      have c2 : shS g j s z 2 = r 2 - 1 := by unfold shS; rw [if_neg (by omega), V1]
      have c9 : shS g j s z (315 + 2 * j) = g (315 + 2 * j) := by unfold shS; rw [if_neg (by omega)]
      refine b_X9_giveUp_81 (ra.a.gv 2 c2) (fun w => ?_) (fun _ => ?_)
      · have := (iN_le (by omega)).mp w; omega
      have cg : ∀ v, v = (if s < g (315 + 2 * j) then g (315 + 2 * j) - z else g (315 + 2 * j)) → up (shS g j s z) (315 + 2 * j) v = shS g (j + 1) s z := by
        rintro _ rfl
        funext c
        by_cases hc : c = 315 + 2 * j
        · rw [hc, up_same]
          unfold shS
          by_cases hq : s < g (315 + 2 * j)
          · rw [if_pos hq, if_pos (by omega)]
          · rw [if_neg hq, if_neg (by omega)]
        · rw [up_ne _ _ hc]
          unfold shS
          by_cases hd : (315 ≤ c ∧ c < 314 + 2 * j ∧ c % 2 = 1) ∧ s < g c
          · rw [if_pos hd, if_pos (by omega)]
          · rw [if_neg hd, if_neg (by omega)]
      refine b_X9_giveUp_89 s_spareAt (fun v h3 hv => ?_)
      obtain ⟨rfl, rfl⟩ := hv
      refine b_X9_giveUp_96 (ra.a.gv (315 + 2 * j) c9) s_spareAt (fun v h3 hv => ?_)
      obtain ⟨rfl, rfl⟩ := hv
      refine b_X9_giveUp_105 (ra.a.gv (315 + 2 * j) c9) (fun w => ?_) (fun w => ?_)
      · have := (iN_le (by omega)).mp w
        refine b_X9_giveUp_114 (ra.a.g (315 + 2 * j)) ?_
        rw [e]
        exact ih (j + 1) _ (by omega) ((ra.s (315 + 2 * j)).eq (cg _ (by rw [if_neg (by omega)]; omega)))
      · have : s < g (315 + 2 * j) := by
          rcases Int.lt_or_le s (g (315 + 2 * j)) with y | y
          · exact y
          · exact absurd ((iN_le (by omega)).mpr y) w
        refine b_X9_giveUp_110 (ra.a.g (315 + 2 * j)) ?_
        rw [e]
        exact ih (j + 1) _ (by omega) ((ra.s (315 + 2 * j)).eq (cg _ (by rw [if_pos this])))
  refine H1 (nS r - 1) 0 _ (by omega) (rd.eq ?_)
  funext c
  unfold shS; rw [if_neg (by omega)]
end REFD
