/-! the reference's static methods: tents, striking -/
section REFC
variable {h : AH} {q : Nat} {r : Nat → Int}
theorem s_canPitch (ha : ari h q 690 r) (hk : okR r) (h0 : 0 ≤ r 0 ∧ r 0 ≤ 24) {z s : Int} (hz : 1 ≤ z ∧ z ≤ 40) (hs : 1 ≤ s ∧ s ≤ 8) : CtZ mX9_canPitch 4 0 0 [.ref q, .int (iN z), .int (iN s)] h (fun v h' => v = decide (r 0 < 24 ∧ whereIn r z s ≠ 3) ∧ h' = h) := by
  have hw := where_rg r z s
  refine en_X9_canPitch (b_X9_canPitch_0 (ha.g 0) (fun w => ?_) (fun w => ?_))
  · have := (iN_le (by omega)).mp w
    exact b_X9_canPitch_22 (rZ0 ⟨by rw [decide_eq_false (by omega)], rfl⟩)
  · have h1 : r 0 < 24 := by
      rcases Int.lt_or_le (r 0) 24 with y | y
      · exact y
      · exact absurd ((iN_le (by omega)).mpr y) w
    refine b_X9_canPitch_8 (s_whereIn ha hk hz hs) (fun v h' hv => ?_)
    obtain ⟨rfl, rfl⟩ := hv
    refine b_X9_canPitch_14 (fun w => ?_) (fun w => ?_)
    · have := (iN_le (by omega)).mp w
      exact b_X9_canPitch_22 (rZ0 ⟨by rw [decide_eq_false (by omega)], rfl⟩)
    · have : whereIn r z s ≠ 3 := fun e => w ((iN_le (by omega)).mpr (by omega))
      exact b_X9_canPitch_18 (rZ1 ⟨by rw [decide_eq_true ⟨h1, this⟩], rfl⟩)
theorem pitchOn_lo {z s : Int} (hg : okG r) {c : Nat} (h : c < 106) (h1 : c ≠ 1) (h2 : c ≠ 2) (h5 : c ≠ 5) : pitchOn r z s c = r c := by
  have hn := hg.n
  rcases where_rg r z s with e | e | e | e
  · rw [pitchOn_0 e, up_ne _ _ (by omega)]
  · obtain ⟨p1, p2, -⟩ := spare_sp hg (where_1.mp e).2
    rw [pitchOn_1 e, maxF_c _ h5, addF_tk p1 (by omega), if_neg h1, if_neg (by omega), if_neg (by omega), if_neg h2, if_neg (by omega), if_neg (by omega), if_neg (by omega)]
  · rw [pitchOn_2 e, maxF_c _ h5, addF_mk, if_neg h1, if_neg (by omega), if_neg (by omega), if_neg (by omega), if_neg (by omega), if_neg (by omega)]
  · rw [pitchOn_3 e]
theorem s_pitchIn (ha : ari h q 690 r) (hg : okG r) (h5 : 0 ≤ r 5 ∧ r 5 ≤ 1000) (h0 : 0 ≤ r 0 ∧ r 0 < 24) (h4 : 0 ≤ r 4 ∧ r 4 ≤ 100000) (ht : ∀ t, t < nT r → 0 ≤ r (12 + 4 * t) ∧ r (12 + 4 * t) ≤ 40) {z s : Int} (hz : 1 ≤ z ∧ z ≤ 40) (hs : 1 ≤ s ∧ s ≤ 8) : CtI mX9_pitchIn 5 0 0 [.ref q, .int (iN z), .int (iN s)] h (fun v h' => v = r 0 ∧ RA h q (pitchIn r z s) h') := by
  have hk := hg.k
  have hw := where_rg r z s
  have hp := pitchOn_ok hg hz hs
  have e0 : pitchOn r z s 0 = r 0 := pitchOn_lo hg (by omega) (by omega) (by omega) (by omega)
  have e4 : pitchOn r z s 4 = r 4 := pitchOn_lo hg (by omega) (by omega) (by omega) (by omega)
  have eT : nT (pitchOn r z s) = nT r := by unfold nT; rw [e0]
  have n0 : r 0 = (nT r : Int) := by unfold nT; omega
  -- from the stores on
  have K : ∀ (h1 : AH) (w f : Int), RA h q (up (pitchOn r z s) (10 + 4 * nT r) f) h1 → AW mX9_pitchIn 5 0 0 59 [.ref q, .int (iN z), .int (iN s), .int (iN w), .int (iN (pitchV r z s)), .int (iN (r 0)), vU] [.int (iN (10 + 4 * r 0 + 1)), .ref q] h1 (qI fun v h' => v = r 0 ∧ RA h q (maxT (addT (pitchOn r z s) f (pitchV r z s) z s)) h') := by
    intro h1 w f ra
    have rb := ra.s (11 + 4 * nT r) (v := pitchV r z s) (z := 10 + 4 * r 0 + 1)
    refine b_X9_pitchIn_59 (ra.a.g (11 + 4 * nT r)) s_tentAt (fun v h2 hv => ?_)
    obtain ⟨rfl, rfl⟩ := hv
    have rc := rb.s (12 + 4 * nT r) (v := z) (z := 10 + 4 * r 0 + 2)
    refine b_X9_pitchIn_69 (rb.a.g (12 + 4 * nT r)) s_tentAt (fun v h2 hv => ?_)
    obtain ⟨rfl, rfl⟩ := hv
    have rd := rc.s (13 + 4 * nT r) (v := s) (z := 10 + 4 * r 0 + 3)
    have ed : (up (up (up (up (pitchOn r z s) (10 + 4 * nT r) f) (11 + 4 * nT r) (pitchV r z s)) (12 + 4 * nT r) z) (13 + 4 * nT r) s) 0 = r 0 := by
      rw [up_ne _ _ (by omega), up_ne _ _ (by omega), up_ne _ _ (by omega), up_ne _ _ (by omega), e0]
    have re := rd.s 0 (v := r 0 + 1) (z := 0)
    have eA : addT (pitchOn r z s) f (pitchV r z s) z s = (up (up (up (up (up (pitchOn r z s) (10 + 4 * nT r) f) (11 + 4 * nT r) (pitchV r z s)) (12 + 4 * nT r) z) (13 + 4 * nT r) s) 0 (r 0 + 1)) := by
      unfold addT; rw [eT, e0]
    rw [← eA] at re
    have A0 : addT (pitchOn r z s) f (pitchV r z s) z s 0 = r 0 + 1 := by rw [eA, up_same]
    have A4 : addT (pitchOn r z s) f (pitchV r z s) z s 4 = r 4 := by
      rw [eA, up_ne _ _ (by omega), up_ne _ _ (by omega), up_ne _ _ (by omega), up_ne _ _ (by omega), up_ne _ _ (by omega), e4]
    have AT : tentP (addT (pitchOn r z s) f (pitchV r z s) z s) = sm (fun t => r (12 + 4 * t)) (nT r) + z := by
      unfold tentP
      have : nT (addT (pitchOn r z s) f (pitchV r z s) z s) = nT r + 1 := by unfold nT; rw [A0]; omega
      rw [this, eA]
      simp only [sm]
      rw [up_ne _ _ (by omega), up_ne _ _ (by omega), up_same]
      congr 1
      exact sm_congr (fun t h1 => by
        rw [up_ne _ _ (by omega), up_ne _ _ (by omega), up_ne _ _ (by omega), up_ne _ _ (by omega), up_ne _ _ (by omega)]
        exact pitchOn_lo hg (by omega) (by omega) (by omega) (by omega))
    have Ar := sm_rg (g := fun t => r (12 + 4 * t)) (B := 40) (by omega) (n := nT r) (fun t h1 => ht t h1)
    refine b_X9_pitchIn_78 (rc.a.g (13 + 4 * nT r)) (rd.a.gv (z := 0) 0 ed) (rd.a.g (z := 0) 0) (s_tentPlaces re.a 0 (by omega) (by omega)) (fun v h2 hv => ?_)
    obtain ⟨rfl, rfl⟩ := hv
    rw [smf_0]
    change AW _ _ _ _ _ _ [.int (iN (tentP (addT (pitchOn r z s) f (pitchV r z s) z s)))] _ _
    refine b_X9_pitchIn_92 (re.a.gv 4 A4) (fun w => ?_) (fun w => ?_)
    · have := (iN_le (by omega)).mp w
      refine b_X9_pitchIn_109 (re.a.g 4) (re.a.g 4) (rI ⟨rfl, ?_⟩)
      refine (re.s 4).eq ?_
      unfold maxT; rw [if_neg (by omega)]
    · have : r 4 < tentP (addT (pitchOn r z s) f (pitchV r z s) z s) := by
        rcases Int.lt_or_le (r 4) (tentP (addT (pitchOn r z s) f (pitchV r z s) z s)) with y | y
        · exact y
        · exact absurd ((iN_le (by omega)).mpr y) w
      refine b_X9_pitchIn_104 (re.a.g 4) (rI ⟨rfl, ?_⟩)
      refine (re.s 4).eq ?_
      unfold maxT; rw [if_pos (by omega)]
  refine en_X9_pitchIn (b_X9_pitchIn_0 (s_whereIn ha hk hz hs) (fun v h' hv => ?_))
  obtain ⟨rfl, rfl⟩ := hv
  refine b_X9_pitchIn_6 (fun w => ?_) (fun w => ?_)
  · have w0 : ¬ whereIn r z s = 0 := fun e => w (by rw [e])
    refine b_X9_pitchIn_13 (s_pitchOn ha hg h5 hz hs) (fun v h1 hv => ?_)
    obtain ⟨rfl, ra⟩ := hv
    refine b_X9_pitchIn_21 (ra.a.gv 0 e0) s_tentAt (fun v h2 hv => ?_)
    obtain ⟨rfl, rfl⟩ := hv
    refine b_X9_pitchIn_35 (fun _ => ?_) (fun w => absurd rfl w)
    have rb := ra.s (10 + 4 * nT r) (v := pitchOn r z s 1 - 1) (z := 10 + 4 * r 0 + 0)
    refine b_X9_pitchIn_46 (ra.a.g 1) (ra.a.g (10 + 4 * nT r)) s_tentAt (fun v h2 hv => ?_)
    obtain ⟨rfl, rfl⟩ := hv
    unfold pitchIn; rw [if_neg w0]
    exact K _ _ _ rb
  · have w0 : whereIn r z s = 0 := (iN_eq (by omega)).mp w
    refine b_X9_pitchIn_9 (s_pitchOn ha hg h5 hz hs) (fun v h1 hv => ?_)
    obtain ⟨rfl, ra⟩ := hv
    refine b_X9_pitchIn_21 (ra.a.gv 0 e0) s_tentAt (fun v h2 hv => ?_)
    obtain ⟨rfl, rfl⟩ := hv
    refine b_X9_pitchIn_35 (fun w => absurd w (by decide)) (fun _ => ?_)
    have hpk := hp.k
    refine b_X9_pitchIn_39 (s_rlastUsual ra.a ⟨hpk.1.1, by have := hpk.1.2; omega⟩ (fun k h => (hpk.2.2.2.1 k h).1)) (fun v h2 hv => ?_)
    obtain ⟨rfl, rfl⟩ := hv
    have rb := ra.s (10 + 4 * nT r) (v := lastU (pitchOn r z s)) (z := 10 + 4 * r 0 + 0)
    refine b_X9_pitchIn_43 (ra.a.g (10 + 4 * nT r)) s_tentAt (fun v h2 hv => ?_)
    obtain ⟨rfl, rfl⟩ := hv
    unfold pitchIn; rw [if_pos w0]
    exact K _ _ _ rb
theorem s_fillIn (ha : ari h q 690 r) (hg : okG r) (hv : okV r) {t : Nat} (ht : tnt r t) (h24 : t < 24) (v : Int) : CtI mX9_fillIn 1 0 0 [.ref q, .int (iN t), .int (iN v)] h (fun w h' => w = fillV r t ∧ RA h q (fillIn r t v) h') := by
  obtain ⟨f1, f2, f3, f4, f5⟩ := tnt.fm hg ht
  have hz := ht.2.2.1
  have hn := hg.n
  have hap := hg.1.2.2.2
  have h1 := hg.1.1
  have hb := ht.1.1
  refine en_X9_fillIn (b_X9_fillIn_0 s_tentAt (fun v h' hv => ?_))
  obtain ⟨rfl, rfl⟩ := hv
  refine b_X9_fillIn_10 (ha.g (10 + 4 * t)) s_fieldAt (fun v h' hv => ?_)
  obtain ⟨rfl, rfl⟩ := hv
  refine b_X9_fillIn_15 (ha.g (109 + 4 * (r (10 + 4 * t)).toNat)) s_tentAt (fun v h' hv => ?_)
  obtain ⟨rfl, rfl⟩ := hv
  refine b_X9_fillIn_23 (ha.g (11 + 4 * t)) ?_
  have H : ∀ (k i : Nat) (h1 : AH), i + k = (r (12 + 4 * t)).toNat → RA h' q (strw r v (frm r t) (frm r t + i)) h1 → AW mX9_fillIn 1 0 0 32 [.ref q, .int (iN t), .int (iN v), .int (iN (frm r t : Int)), .int (iN (cnt r 100 (frm r t) i)), .int (iN (i : Int))] [] h1 (qI fun w h1 => w = fillV r t ∧ RA h' q (fillIn r t v) h1) := by
    intro k
    induction k with
    | zero =>
      intro i h1 hi ra
      refine b_X9_fillIn_32 s_tentAt (fun v h' hv => ?_)
      obtain ⟨rfl, rfl⟩ := hv
      refine b_X9_fillIn_40 (ra.a.gv (12 + 4 * t) (strw_out _ _ _ _ (by omega))) (fun _ => ?_) (fun w => absurd ((iN_le (by omega)).mpr (by omega)) w)
      refine b_X9_fillIn_78 (rI ⟨?_, ?_⟩)
      · unfold fillV; rw [show (r (12 + 4 * t)).toNat = i by omega]
      · unfold fillIn; rw [show (r (12 + 4 * t)).toNat = i by omega]; exact ra
    | succ k ih =>
      intro i h1 hi ra
      have vr := hv (frm r t + i - 434) (by omega)
      rw [show 434 + (frm r t + i - 434) = frm r t + i by omega] at vr
      have e : ((i : Int) + 1) = ((i + 1 : Nat) : Int) := by omega
      refine b_X9_fillIn_32 s_tentAt (fun v h3 hv => ?_)
      obtain ⟨rfl, rfl⟩ := hv
      refine b_X9_fillIn_40 (ra.a.gv (12 + 4 * t) (strw_out _ _ _ _ (by omega))) (fun w => ?_) (fun _ => ?_)
      · have := (iN_le (by omega)).mp w; omega
      have M : ∀ n, n = cnt r 100 (frm r t) (i + 1) → AW mX9_fillIn 1 0 0 32 [.ref q, .int (iN t), .int (iN v), .int (iN (frm r t : Int)), .int (iN n), .int (iN ((i : Int) + 1))] [] (stf h3 q ((frm r t : Int) + i).toNat (.int (iN v))) (qI fun w h1 => w = fillV r t ∧ RA h' q (fillIn r t v) h1) := by
        rintro _ rfl
        rw [e]
        refine ih (i + 1) _ (by omega) ((ra.s (frm r t + i)).eq ?_)
        funext k9
        by_cases hh : k9 = frm r t + i
        · rw [hh, up_same, strw_in _ _ _ _ (by omega)]
        · rw [up_ne _ _ hh]
          unfold strw
          by_cases h2 : frm r t ≤ k9 ∧ k9 < frm r t + i
          · rw [if_pos h2, if_pos (by omega)]
          · rw [if_neg h2, if_neg (by omega)]
      refine b_X9_fillIn_44 (ra.a.gv (frm r t + i) (strw_out _ _ _ _ (by omega))) (fun w => ?_) (fun w => ?_)
      · refine b_X9_fillIn_61 (ra.a.g (frm r t + i)) (M _ ?_)
        simp only [cnt]
        rw [if_neg (fun z => w (by rw [z]))]
      · refine b_X9_fillIn_57 (ra.a.g (frm r t + i)) (M _ ?_)
        simp only [cnt]
        rw [if_pos ((iN_eq (by omega)).mp w)]
  have e : (434 + r (109 + 4 * (r (10 + 4 * t)).toNat) + r (11 + 4 * t) : Int) = (frm r t : Int) := by omega
  rw [e]
  refine H (r (12 + 4 * t)).toNat 0 h' (by omega) ((RA.st ha).eq ?_)
  funext k9
  unfold strw; rw [if_neg (by omega)]
theorem s_strike (ha : ari h q 690 r) (hg : okG r) (ht : okT r) (h0 : 0 < r 0) (h9 : r 9 = 0 ∨ r 9 = 1) : CtV mX9_strike 1 0 0 [.ref q] h (fun h' => RA h q (strk r) h') := by
  have n0 : r 0 = ((nT r - 1 : Nat) : Int) + 1 := by unfold nT; omega
  have h24 : nT r - 1 < 24 := by have := ht.1; unfold nT; omega
  have ht1 : tnt r (nT r - 1) := ht.2 _ (by unfold nT; omega)
  obtain ⟨f1, f2, f3, f4, f5⟩ := tnt.fm hg ht1
  have hz := ht1.2.2.1
  have hn := hg.n
  have hap := hg.1.2.2.2
  have h1 := hg.1.1
  have hb := ht1.1.1
  generalize hT : nT r - 1 = t at *
  have e1 : r 0 - 1 = (t : Int) := by omega
  refine en_X9_strike (b_X9_strike_0 (ha.g 0) (by rw [e1]; exact s_tentAt) (fun v h' hv => ?_))
  obtain ⟨rfl, rfl⟩ := hv
  rw [e1]
  refine b_X9_strike_12 (ha.g (10 + 4 * t)) s_fieldAt (fun v h' hv => ?_)
  obtain ⟨rfl, rfl⟩ := hv
  refine b_X9_strike_23 (ha.g (109 + 4 * (r (10 + 4 * t)).toNat)) s_tentAt (fun v h' hv => ?_)
  obtain ⟨rfl, rfl⟩ := hv
  refine b_X9_strike_31 (ha.g (11 + 4 * t)) ?_
  have e : (434 + r (109 + 4 * (r (10 + 4 * t)).toNat) + r (11 + 4 * t) : Int) = (frm r t : Int) := by omega
  rw [e]
  have E : ∀ (g : Nat → Int) (h1 : AH) (i w : Int), RA h' q g h1 → (if r 9 = 1 then fillIn r (nT r - 1) 100 else r) = g → AW mX9_strike 1 0 0 71 [.ref q, .int (iN t), .int (iN w), .int (iN (frm r t : Int)), .int (iN i)] [] h1 (qV fun h1 => RA h' q (strk r) h1) := by
    intro g h1 i w ra hgg
    have g0 : g 0 = r 0 := by rw [← hgg]; split; exact fillIn_lo (by omega); rfl
    have g6 : g 6 = r 6 := by rw [← hgg]; split; exact fillIn_lo (by omega); rfl
    have rb := ra.s 0 (v := r 0 - 1) (z := 0)
    have rc := rb.s 6 (v := r 6 + 1) (z := 6)
    refine b_X9_strike_71 (ra.a.gv 0 g0) (ra.a.g 0) (rb.a.gv 6 (by rw [up_ne _ _ (by omega), g6])) (rb.a.g 6) (rV ?_)
    unfold strk
    rw [hgg]; exact rc
  have H : ∀ (k i : Nat) (h1 : AH), i + k = (r (12 + 4 * t)).toNat → (r 9 = 1 ∨ i = 0) → RA h' q (strw r 100 (frm r t) (frm r t + i)) h1 → AW mX9_strike 1 0 0 37 [.ref q, .int (iN t), .int (iN (r (10 + 4 * t))), .int (iN (frm r t : Int)), .int (iN (i : Int))] [] h1 (qV fun h1 => RA h' q (strk r) h1) := by
    intro k
    induction k with
    | zero =>
      intro i h1 hi h9i ra
      have h91 : r 9 = 1 := by omega
      refine b_X9_strike_37 s_tentAt (fun v h' hv => ?_)
      obtain ⟨rfl, rfl⟩ := hv
      refine b_X9_strike_45 (ra.a.gv (12 + 4 * t) (strw_out _ _ _ _ (by omega))) (fun _ => ?_) (fun w => absurd ((iN_le (by omega)).mpr (by omega)) w)
      refine E _ _ _ _ ra ?_
      rw [if_pos h91, hT]
      unfold fillIn; rw [show (r (12 + 4 * t)).toNat = i by omega]
    | succ k ih =>
      intro i h1 hi h9i ra
      have e : ((i : Int) + 1) = ((i + 1 : Nat) : Int) := by omega
      refine b_X9_strike_37 s_tentAt (fun v h' hv => ?_)
      obtain ⟨rfl, rfl⟩ := hv
      refine b_X9_strike_45 (ra.a.gv (12 + 4 * t) (strw_out _ _ _ _ (by omega))) (fun w => ?_) (fun _ => ?_)
      · have := (iN_le (by omega)).mp w; omega
      refine b_X9_strike_49 (ra.a.gv 9 (strw_out _ _ _ _ (by omega))) (fun w => ?_) (fun w => ?_)
      · have h90 : ¬ r 9 = 1 := fun z => w (by rw [z])
        obtain rfl : i = 0 := by omega
        refine E _ _ _ _ ra ?_
        rw [if_neg h90]
        funext k9
        unfold strw; rw [if_neg (by omega)]
      · have h91 : r 9 = 1 := (iN_eq (by omega)).mp w
        refine b_X9_strike_57 (ra.a.g (frm r t + i)) ?_
        rw [e]
        refine ih (i + 1) _ (by omega) (Or.inl h91) ((ra.s (frm r t + i)).eq ?_)
        funext k9
        by_cases hh : k9 = frm r t + i
        · rw [hh, up_same, strw_in _ _ _ _ (by omega)]
        · rw [up_ne _ _ hh]
          unfold strw
          by_cases h2 : frm r t ≤ k9 ∧ k9 < frm r t + i
          · rw [if_pos h2, if_pos (by omega)]
          · rw [if_neg h2, if_neg (by omega)]
  refine H (r (12 + 4 * t)).toNat 0 h' (by omega) (Or.inr rfl) ((RA.st ha).eq ?_)
  funext k9
  unfold strw; rw [if_neg (by omega)]
end REFC
