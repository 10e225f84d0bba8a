/-! the reference's static methods: behind a frame; gaps -/
section REFE
variable {h : AH} {q : Nat} {r : Nat → Int}
/-- what striking behind frame i needs -/
def okB (r : Nat → Int) (i : Nat) : Prop :=
  okG r ∧ okT r ∧ (0 ≤ r 8 ∧ r 8 ≤ 128) ∧ (r 9 = 0 ∨ r 9 = 1) ∧ (0 ≤ r (418 + 2 * i) ∧ r (418 + 2 * i) ≤ r 0) ∧ (0 ≤ r (419 + 2 * i) ∧ r (419 + 2 * i) ≤ r 1) ∧ (∀ t : Nat, (t : Int) < r (418 + 2 * i) → r (10 + 4 * t) < r (419 + 2 * i))
/-- the row once the tents and fields behind frame i are gone -/
def sbA (r : Nat → Int) (i : Nat) : Nat → Int := strks (nT r - (r (418 + 2 * i)).toNat) r
def sbB (r : Nat → Int) (i : Nat) : Nat → Int := movs (nF r - (r (419 + 2 * i)).toNat) (sbA r i)
theorem okB.a {i : Nat} (hb : okB r i) : okG (sbA r i) ∧ okT (sbA r i) ∧ allP (sbA r i) = allP r ∧ (∀ c, c < 434 → sbA r i c = if c = 6 then r 6 + strV r i else if c = 0 then r (418 + 2 * i) else r c) := by
  obtain ⟨hg, ht, -, -, h3, -⟩ := hb
  have h0 := ht.1
  obtain ⟨a1, a2, a3, a4⟩ := strks_ok (nT r - (r (418 + 2 * i)).toNat) hg ht (by unfold nT; omega)
  refine ⟨a1, a2, a3, fun c hc => ?_⟩
  unfold sbA
  rw [a4 c hc]
  have e : ((nT r - (r (418 + 2 * i)).toNat : Nat) : Int) = r 0 - r (418 + 2 * i) := by unfold nT; omega
  rw [e]
  unfold strV
  split
  · rfl
  · split
    · omega
    · rfl
theorem okB.b {i : Nat} (hi : i < 8) (hb : okB r i) : okG (sbB r i) ∧ okT (sbB r i) ∧ allP (sbB r i) = allP r ∧ sbB r i 1 = r (419 + 2 * i) ∧ sbB r i 2 = r 2 + (r 1 - r (419 + 2 * i)) ∧
    (∀ c, c ≠ 0 → c ≠ 1 → c ≠ 2 → c ≠ 6 → c < 314 + 2 * nS r ∨ 418 ≤ c ∧ c < 434 → sbB r i c = r c) ∧ sbB r i 0 = r (418 + 2 * i) ∧ sbB r i 6 = r 6 + strV r i ∧
    (∀ j, j < nF r - (r (419 + 2 * i)).toNat → sbB r i (314 + 2 * (nS r + j)) = r (106 + 4 * (nF r - 1 - j)) ∧ sbB r i (315 + 2 * (nS r + j)) = r (109 + 4 * (nF r - 1 - j))) ∧
    (∀ k, sbB r i (434 + k) = sbA r i (434 + k)) := by
  obtain ⟨a1, a2, a3, a4⟩ := hb.a
  obtain ⟨hg, ht, -, -, h3, h4, h5⟩ := hb
  have hn := hg.n
  have h0 := ht.1
  have h1 := hg.1.1
  have h2 := hg.1.2.1
  have eF : nF (sbA r i) = nF r := by unfold nF; rw [a4 1 (by omega), if_neg (by omega), if_neg (by omega)]
  have eS : nS (sbA r i) = nS r := by unfold nS; rw [a4 2 (by omega), if_neg (by omega), if_neg (by omega)]
  obtain ⟨m1, m2, m3, m4, m5, m6⟩ := movs_ok (nF r - (r (419 + 2 * i)).toNat) a1 (by omega)
  rw [eS] at m5 m6
  rw [eF] at m6
  have e1 : ((nF r - (r (419 + 2 * i)).toNat : Nat) : Int) = r 1 - r (419 + 2 * i) := by unfold nF; omega
  rw [e1, a4 1 (by omega), if_neg (by omega), if_neg (by omega)] at m3
  rw [e1, a4 2 (by omega), if_neg (by omega), if_neg (by omega)] at m4
  have nFr : r 1 = (nF r : Int) := by unfold nF; omega
  have cc : ∀ c, c ≠ 0 → c ≠ 1 → c ≠ 2 → c ≠ 6 → c < 314 + 2 * nS r ∨ 418 ≤ c ∧ c < 434 → sbB r i c = r c := by
    intro c q0 q1 q2 q6 q
    unfold sbB
    rw [m5 c q1 q2 (by omega), a4 c (by omega), if_neg q6, if_neg q0]
  have c0 : sbB r i 0 = r (418 + 2 * i) := by
    unfold sbB
    rw [m5 0 (by omega) (by omega) (by omega), a4 0 (by omega), if_neg (by omega), if_pos rfl]
  refine ⟨m1, ⟨by rw [c0]; omega, fun t htt => ?_⟩, m2.trans a3, by unfold sbB; omega, by unfold sbB; omega, cc, c0, ?_, fun j hj => ?_, fun k => ?_⟩
  · have tb : (t : Int) < r (418 + 2 * i) := by unfold nT at htt; rw [c0] at htt; omega
    have htr := ht.2 t (by unfold nT; omega)
    have hfm := tnt.fm hg htr
    refine htr.cg ?_ (fun c c1 c2 => cc c (by omega) (by omega) (by omega) (by omega) (by omega)) (cc _ (by omega) (by omega) (by omega) (by omega) (by omega))
    have := h5 t tb
    unfold sbB; omega
  · unfold sbB
    rw [m5 6 (by omega) (by omega) (by omega), a4 6 (by omega), if_pos rfl]
  · have := m6 j hj
    unfold sbB
    rw [this.1, this.2, a4 _ (by omega), a4 _ (by omega), if_neg (by omega), if_neg (by omega), if_neg (by omega), if_neg (by omega)]
    exact ⟨rfl, rfl⟩
  · unfold sbB
    rw [m5 _ (by omega) (by omega) (by omega)]
theorem s_strikeBehind (ha : ari h q 690 r) {i : Nat} (hi : i < 8) (hb : okB r i) : CtI mX9_strikeBehind 4 0 0 [.ref q, .int (iN i)] h (fun v h' => v = strV r i ∧ RA h q (strikeB r i) h') := by
  obtain ⟨a1, a2, a3, a4⟩ := hb.a
  obtain ⟨b1, b2, b3, b4, b5, b6, b7, b8, b9, b10⟩ := hb.b hi
  obtain ⟨hg, ht, h8, h9, h3, h4, h5⟩ := hb
  have hn := hg.n
  have h0 := ht.1
  have h1 := hg.1.1
  have h2 := hg.1.2.1
  have n0 : r 0 = (nT r : Int) := by unfold nT; omega
  have n1 : r 1 = (nF r : Int) := by unfold nF; omega
  generalize hTi : r (418 + 2 * i) = T at *
  generalize hFi : r (419 + 2 * i) = F at *
  -- the last loop
  have H4 : ∀ (n : Nat) (g : Nat → Int) (h1 : AH), okG g → nS g ≤ n → 0 ≤ g 8 ∧ g 8 ≤ 1000 → RA h q g h1 → AW mX9_strikeBehind 4 0 0 102 [.ref q, .int (iN i), .int (iN (strV r i))] [] h1 (qI fun v h' => v = strV r i ∧ RA h q (gvs n g) h') := by
    intro n
    induction n with
    | zero =>
      intro g h1 og hs g8 ra
      have okr := og.k
      have s0 : sparP g = 0 := by unfold sparP; rw [show nS g = 0 by omega]; rfl
      refine b_X9_strikeBehind_102 (s_sparePlaces ra.a ⟨okr.2.1.1, by have := okr.2.1.2; omega⟩) (fun v h2 hv => ?_)
      obtain ⟨rfl, rfl⟩ := hv
      refine b_X9_strikeBehind_106 (ra.a.g 8) (fun _ => ?_) (fun w => absurd ((iN_le (by omega)).mpr (by omega)) w)
      exact b_X9_strikeBehind_124 (rI ⟨rfl, ra⟩)
    | succ n ih =>
      intro g h1 og hs g8 ra
      have okr := og.k
      have hsp := okr.sp
      refine b_X9_strikeBehind_102 (s_sparePlaces ra.a ⟨okr.2.1.1, by have := okr.2.1.2; omega⟩) (fun v h2 hv => ?_)
      obtain ⟨rfl, rfl⟩ := hv
      show AW _ _ _ _ _ _ _ _ (qI fun v h' => v = strV r i ∧ RA h q (if g 8 < sparP g then gvs n (gvU g (grtS g)) else g) h')
      refine b_X9_strikeBehind_106 (ra.a.g 8) (fun w => ?_) (fun w => ?_)
      · have := (iN_le (by omega)).mp w
        rw [if_neg (by omega)]
        exact b_X9_strikeBehind_124 (rI ⟨rfl, ra⟩)
      · have lt : g 8 < sparP g := by
          rcases Int.lt_or_le (g 8) (sparP g) with y | y
          · exact y
          · exact absurd ((iN_le (by omega)).mpr y) w
        rw [if_pos lt]
        have hS : 0 < nS g := by
          rcases Nat.eq_zero_or_pos (nS g) with z | z
          · unfold sparP at lt; rw [z] at lt; simp [sm] at lt; omega
          · exact z
        have hi9 := grtS_lt hS
        obtain ⟨o1, o2⟩ := gv_ok og hi9
        refine b_X9_strikeBehind_113 (s_greatestSpare ra.a okr hS) (fun v h3 hv => ?_)
        obtain ⟨rfl, rfl⟩ := hv
        refine b_X9_strikeBehind_118 (s_giveUp ra.a og hi9) (fun h4 rb => ?_)
        refine b_X9_strikeBehind_121 ?_
        refine ih _ _ o1 ?_ (by rw [gv_lo (by omega), if_neg (by omega)]; exact g8) (ra.tr rb)
        have : gvU g (grtS g) 2 = g 2 - 1 := by rw [gv_lo (by omega), if_pos rfl]
        unfold nS at hs ⊢; omega
  -- the fields
  have H3 : ∀ (k : Nat) (g : Nat → Int) (h1 : AH), okG g → okT (movs k g) → (g 1 = F + k) → (∀ c, c = 8 ∨ 418 ≤ c ∧ c < 434 → g c = r c) → RA h q g h1 → AW mX9_strikeBehind 4 0 0 32 [.ref q, .int (iN i), .int (iN (strV r i))] [] h1 (qI fun v h' => v = strV r i ∧ RA h q (gvs 51 (layE (movs k g))) h') := by
    intro k
    induction k with
    | zero =>
      intro g h1 og ot gF gc ra
      have ogn := og.n
      have eF : g (419 + 2 * i) = F := by rw [gc _ (by omega)]; exact hFi
      refine b_X9_strikeBehind_32 (ra.a.g 1) s_frameAt (fun v h2 hv => ?_)
      obtain ⟨rfl, rfl⟩ := hv
      have g1 : g 1 = F := by omega
      have gF9 : 0 ≤ g 1 ∧ g 1 ≤ 51 := og.k.1
      refine b_X9_strikeBehind_41 (ra.a.gv (419 + 2 * i) eF) (fun _ => ?_) (fun w => absurd ((iN_le (by omega)).mpr (by omega)) w)
      refine b_X9_strikeBehind_98 (s_layEnds ra.a og ot) (fun h3 rb => ?_)
      have ok := layE_ok og ot
      have okn := ok.1.n
      refine H4 51 (layE g) h3 ok.1 (by omega) ?_ (ra.tr rb)
      rw [layE_out og ot (by omega), gc 8 (by omega)]; exact ⟨h8.1, by omega⟩
    | succ k ih =>
      intro g h1 og ot gF gc ra
      have ogn := og.n
      have gF9 : 0 ≤ g 1 ∧ g 1 ≤ 51 := og.k.1
      have gS9 : 0 ≤ g 2 ∧ g 2 ≤ 51 := og.k.2.1
      have m1 : g 1 = (nF g : Int) := by unfold nF; omega
      have m2 : g 2 = (nS g : Int) := by unfold nS; omega
      have eF : g (419 + 2 * i) = F := by rw [gc _ (by omega)]; exact hFi
      refine b_X9_strikeBehind_32 (ra.a.g 1) s_frameAt (fun v h2 hv => ?_)
      obtain ⟨rfl, rfl⟩ := hv
      refine b_X9_strikeBehind_41 (ra.a.gv (419 + 2 * i) eF) (fun w => ?_) (fun _ => ?_)
      · have := (iN_le (by omega)).mp w; omega
      have rb := ra.s 1 (v := g 1 - 1) (z := 1)
      refine b_X9_strikeBehind_45 (ra.a.g 1) (ra.a.g 1) (rb.a.gv 2 (up_ne _ _ (by omega))) s_spareAt (fun v h3 hv => ?_)
      obtain ⟨rfl, rfl⟩ := hv
      refine b_X9_strikeBehind_60 (rb.a.gv 1 (up_same _ _ _)) s_fieldAt (fun v h3 hv => ?_)
      obtain ⟨rfl, rfl⟩ := hv
      have rc := rb.s (314 + 2 * nS g) (v := g (106 + 4 * (nF g - 1))) (z := 314 + 2 * g 2 + 0)
      refine b_X9_strikeBehind_68 (rb.a.gv (106 + 4 * (nF g - 1)) (up_ne _ _ (by omega))) (rb.a.g (314 + 2 * nS g)) (rc.a.gv 2 (v := g 2) (by rw [up_ne _ _ (by omega), up_ne _ _ (by omega)])) s_spareAt (fun v h3 hv => ?_)
      obtain ⟨rfl, rfl⟩ := hv
      refine b_X9_strikeBehind_78 (rc.a.gv 1 (v := g 1 - 1) (by rw [up_ne _ _ (by omega), up_same])) s_fieldAt (fun v h3 hv => ?_)
      obtain ⟨rfl, rfl⟩ := hv
      have rd := rc.s (315 + 2 * nS g) (v := g (109 + 4 * (nF g - 1))) (z := 314 + 2 * g 2 + 1)
      have re := rd.s 2 (v := g 2 + 1) (z := 2)
      refine b_X9_strikeBehind_86 (rc.a.gv (109 + 4 * (nF g - 1)) (v := g (109 + 4 * (nF g - 1))) (by rw [up_ne _ _ (by omega), up_ne _ _ (by omega)])) (rc.a.g (315 + 2 * nS g)) (rd.a.gv 2 (v := g 2) (by rw [up_ne _ _ (by omega), up_ne _ _ (by omega), up_ne _ _ (by omega)])) (rd.a.g 2) ?_
      have hF9 : 0 < nF g := by omega
      have ok := movF_ok og hF9
      refine ih (movF g) _ ok.1 ot ?_ (fun c hc => ?_) re
      · show up _ _ _ 1 = _
        rw [up_ne _ _ (by omega), up_ne _ _ (by omega), up_ne _ _ (by omega), up_same]; omega
      · rw [← gc c hc, movF_at hF9 ogn, if_neg (by omega), if_neg (by omega), if_neg (by omega), if_neg (by omega)]
  -- the tents
  have H2 : ∀ (k : Nat) (g : Nat → Int) (h1 : AH), okG g → okT g → (g 0 = T + k) → (g 9 = 0 ∨ g 9 = 1) → (∀ c, 1 ≤ c → c ≠ 6 → c < 434 → g c = r c) → sbA r i = strks k g → RA h q g h1 → AW mX9_strikeBehind 4 0 0 12 [.ref q, .int (iN i), .int (iN (strV r i))] [] h1 (qI fun v h' => v = strV r i ∧ RA h q (strikeB r i) h') := by
    intro k
    induction k with
    | zero =>
      intro g h1 og ot g0 g9 gc es ra
      have eT : g (418 + 2 * i) = T := by rw [gc _ (by omega) (by omega) (by omega)]; exact hTi
      refine b_X9_strikeBehind_12 (ra.a.g 0) s_frameAt (fun v h2 hv => ?_)
      obtain ⟨rfl, rfl⟩ := hv
      refine b_X9_strikeBehind_21 (ra.a.gv (418 + 2 * i) eT) (fun _ => ?_) (fun w => absurd ((iN_le (by omega)).mpr (by omega)) w)
      have e1 : g 1 = r 1 := gc 1 (by omega) (by omega) (by omega)
      have es2 : sbA r i = g := es
      have eSB : strikeB r i = gvs 51 (layE (movs (nF r - F.toNat) g)) := by
        unfold strikeB
        rw [hFi]
        show gvs 51 (layE (movs _ (sbA r i))) = _
        rw [es2]
      rw [eSB]
      refine H3 (nF r - F.toNat) g h2 og ?_ (by omega) (fun c hc => gc c (by omega) (by omega) (by omega)) ra
      unfold sbB at b2; rw [hFi, es2] at b2; exact b2
    | succ k ih =>
      intro g h1 og ot g0 g9 gc es ra
      have eT : g (418 + 2 * i) = T := by rw [gc _ (by omega) (by omega) (by omega)]; exact hTi
      have ot0 := ot.1
      refine b_X9_strikeBehind_12 (ra.a.g 0) s_frameAt (fun v h2 hv => ?_)
      obtain ⟨rfl, rfl⟩ := hv
      refine b_X9_strikeBehind_21 (ra.a.gv (418 + 2 * i) eT) (fun w => ?_) (fun _ => ?_)
      · have := (iN_le (by omega)).mp w; omega
      have o := strk_ok og ot (by omega)
      refine b_X9_strikeBehind_25 (s_strike ra.a og ot (by omega) g9) (fun h3 rb => ?_)
      refine b_X9_strikeBehind_29 ?_
      refine ih (strk g) h3 o.1 o.2.1 ?_ ?_ (fun c c1 c2 c3 => ?_) es (ra.tr rb)
      · rw [strk_lo (by omega), if_neg (by omega), if_pos rfl]; omega
      · rw [strk_lo (by omega), if_neg (by omega), if_neg (by omega)]; exact g9
      · rw [strk_lo c3, if_neg c2, if_neg (by omega)]; exact gc c c1 c2 c3
  refine en_X9_strikeBehind (b_X9_strikeBehind_0 (ha.g 0) s_frameAt (fun v h2 hv => ?_))
  obtain ⟨rfl, rfl⟩ := hv
  refine b_X9_strikeBehind_9 (ha.gv (418 + 2 * i) hTi) ?_
  have eV : r 0 - T = strV r i := by unfold strV; rw [hTi]
  rw [eV]
  refine H2 (nT r - T.toNat) r h2 hg ht (by omega) h9 (fun _ _ _ _ => rfl) ?_ (RA.st ha)
  unfold sbA; rw [hTi]
theorem s_enterIn (ha : ari h q 690 r) (h3 : 0 ≤ r 3 ∧ r 3 < 8) : CtV mX9_enterIn 1 0 0 [.ref q] h (fun h' => RA h q (enterIn r) h') := by
  have n3 : r 3 = (nR r : Int) := by unfold nR; omega
  refine en_X9_enterIn (b_X9_enterIn_0 (ha.g 3) s_frameAt (fun v h2 hv => ?_))
  obtain ⟨rfl, rfl⟩ := hv
  have ra := (RA.st ha).s (418 + 2 * nR r) (v := r 0) (z := 418 + 2 * r 3 + 0)
  refine b_X9_enterIn_8 (ha.g 0) (ha.g (418 + 2 * nR r)) (ra.a.gv 3 (up_ne _ _ (by omega))) s_frameAt (fun v h2 hv => ?_)
  obtain ⟨rfl, rfl⟩ := hv
  have rb := ra.s (419 + 2 * nR r) (v := r 1) (z := 418 + 2 * r 3 + 1)
  refine b_X9_enterIn_20 (ra.a.gv 1 (up_ne _ _ (by omega))) (ra.a.g (419 + 2 * nR r)) (rb.a.gv 3 (v := r 3) (by rw [up_ne _ _ (by omega), up_ne _ _ (by omega)])) (rb.a.g 3) (rV ?_)
  exact rb.s 3
theorem s_jumpIn (ha : ari h q 690 r) {i : Nat} (hi : i < 8) (hb : okB r i) : CtI mX9_jumpIn 5 0 0 [.ref q, .int (iN i)] h (fun v h' => v = strV r i ∧ RA h q (jumpIn r i) h') := by
  refine en_X9_jumpIn (b_X9_jumpIn_0 (s_strikeBehind ha hi hb) (fun v h2 hv => ?_))
  obtain ⟨rfl, ra⟩ := hv
  exact b_X9_jumpIn_5 (ra.a.g 3) (rI ⟨rfl, ra.s 3⟩)
theorem strB_c {i : Nat} (hi : i < 8) (hb : okB r i) (c : Nat) (hc : 3 ≤ c) (h6 : c ≠ 6) (hcc : c < 106 ∨ 418 ≤ c ∧ c < 434) : strikeB r i c = r c := by
  obtain ⟨b1, b2, b3, b4, b5, b6, b7, b8, b9, b10⟩ := hb.b hi
  have ok := layE_ok b1 b2
  have bn := b1.n
  have e8 : layE (sbB r i) 8 = r 8 := by rw [layE_out b1 b2 (by omega), b6 8 (by omega) (by omega) (by omega) (by omega) (by omega)]
  have g := gvs_ok 51 ok.1 (by rw [e8]; exact hb.2.2.1.1)
  have e : gvs 51 (layE (sbB r i)) c = layE (sbB r i) c := by
    rcases hcc with q | q
    · exact g.2.2.1.1 c (by omega) (by omega)
    · exact g.2.2.1.2.2 c q.1 q.2
  show gvs 51 (layE (sbB r i)) c = r c
  rw [e, layE_out b1 b2 (by omega), b6 c (by omega) (by omega) (by omega) h6 (by omega)]
theorem s_leaveIn (ha : ari h q 690 r) (h3 : 0 < r 3 ∧ r 3 ≤ 8) (hb : okB r (nR r - 1)) : CtI mX9_leaveIn 5 0 0 [.ref q] h (fun v h' => v = strV r (nR r - 1) ∧ RA h q (leaveIn r) h') := by
  have n3 : r 3 - 1 = ((nR r - 1 : Nat) : Int) := by unfold nR; omega
  have n4 : nR r - 1 < 8 := by unfold nR; omega
  refine en_X9_leaveIn (b_X9_leaveIn_0 (ha.g 3) (by rw [n3]; exact s_strikeBehind ha n4 hb) (fun v h2 hv => ?_))
  obtain ⟨rfl, ra⟩ := hv
  have e := strB_c n4 hb 3 (by omega) (by omega) (by omega)
  refine b_X9_leaveIn_9 (ra.a.gv 3 e) (ra.a.g 3) (rI ⟨rfl, ?_⟩)
  exact ra.s 3
theorem s_onField (ha : ari h q 690 r) (ht : okT r) {f : Int} (hf : 0 ≤ f ∧ f ≤ 1000) (h1 : r 1 ≤ 1000) : CtI mX9_onField 1 0 0 [.ref q, .int (iN f)] h (fun v h' => v = onF r f (nT r) ∧ h' = h) := by
  have h0 := ht.1
  have n0 : r 0 = (nT r : Int) := by unfold nT; omega
  refine en_X9_onField (b_X9_onField_0 ?_)
  have H : ∀ (k i : Nat), i + k = nT r → AW mX9_onField 1 0 0 4 [.ref q, .int (iN f), .int (iN (onF r f i)), .int (iN (i : Int))] [] h (qI fun v h' => v = onF r f (nT r) ∧ h' = h) := by
    intro k
    induction k with
    | zero =>
      intro i hi
      refine b_X9_onField_4 (ha.g 0) (fun _ => ?_) (fun w => absurd ((iN_le (by omega)).mpr (by omega)) w)
      exact b_X9_onField_42 (rI ⟨by rw [show nT r = i by omega], rfl⟩)
    | succ k ih =>
      intro i hi
      have ht1 := (ht.2 i (by omega)).1
      have e : ((i : Int) + 1) = ((i + 1 : Nat) : Int) := by omega
      have hk := ih (i + 1) (by omega)
      simp only [onF] at hk
      refine b_X9_onField_4 (ha.g 0) (fun w => ?_) (fun _ => ?_)
      · have := (iN_le (by omega)).mp w; omega
      refine b_X9_onField_11 s_tentAt (fun v h' hv => ?_)
      obtain ⟨rfl, rfl⟩ := hv
      refine b_X9_onField_18 (ha.g (10 + 4 * i)) (fun w => ?_) (fun w => ?_)
      · refine b_X9_onField_33 ?_
        rw [if_neg (fun z => w (by rw [z]))] at hk
        rw [e]; exact hk
      · rw [if_pos ((iN_eq (by omega)).mp w)] at hk
        refine b_X9_onField_23 s_tentAt (fun v h' hv => ?_)
        obtain ⟨rfl, rfl⟩ := hv
        refine b_X9_onField_29 (ha.g (12 + 4 * i)) ?_
        rw [e]; exact hk
  exact H (nT r) 0 (by omega)
theorem s_gaps (ha : ari h q 690 r) (hg : okG r) (ht : okT r) : CtI mX9_gaps 2 0 0 [.ref q] h (fun v h' => v = gapsV r ∧ h' = h) := by
  have hk := hg.k
  have hl := hk.lu
  have h1 := hk.1
  have n1 : r 1 = (nF r : Int) := by unfold nF; omega
  refine en_X9_gaps (b_X9_gaps_0 (s_rlastUsual ha (by omega) (fun k h => (hk.2.2.2.1 k h).1)) (fun v h' hv => ?_))
  obtain ⟨rfl, rfl⟩ := hv
  refine b_X9_gaps_4 ?_
  have H : ∀ (k i : Nat), i + k = (lastU r + 1).toNat → AW mX9_gaps 2 0 0 9 [.ref q, .int (iN (lastU r)), .int (iN (gapF r i)), .int (iN (i : Int)), vU] [] h' (qI fun v h1 => v = gapsV r ∧ h1 = h') := by
    intro k
    induction k with
    | zero =>
      intro i hi
      refine b_X9_gaps_9 (fun _ => ?_) (fun w => absurd ((iN_lt (by omega)).mpr (by omega)) w)
      exact b_X9_gaps_69 (rI ⟨by unfold gapsV; rw [show (lastU r + 1).toNat = i by omega], rfl⟩)
    | succ k ih =>
      intro i hi
      have hfi := (hk.2.2.2.1 i (by omega)).1
      have e : ((i : Int) + 1) = ((i + 1 : Nat) : Int) := by omega
      have hk9 := ih (i + 1) (by omega)
      simp only [gapF] at hk9
      have K : ∀ x, x = (if (i : Int) = lastU r then r (108 + 4 * i) else r (106 + 4 * i)) → AW mX9_gaps 2 0 0 45 [.ref q, .int (iN (lastU r)), .int (iN (gapF r i)), .int (iN (i : Int)), .int (iN x)] [.int (iN (106 + 4 * (i : Int) + 1)), .ref q, .int (iN (gapF r i))] h' (qI fun v h1 => v = gapsV r ∧ h1 = h') := by
        rintro _ rfl
        refine b_X9_gaps_45 (ha.g (107 + 4 * i)) (fun w => ?_) (fun w => ?_)
        · refine b_X9_gaps_60 ?_
          rw [if_neg (fun z => w (by rw [z]))] at hk9
          rw [e]; exact hk9
        · rw [if_pos ((iN_eq (by omega)).mp w)] at hk9
          refine b_X9_gaps_49 (s_onField ha ht (by omega) (by omega)) (fun v h2 hv => ?_)
          obtain ⟨rfl, rfl⟩ := hv
          refine b_X9_gaps_56 ?_
          rw [e]; exact hk9
      refine b_X9_gaps_9 (fun w => ?_) (fun _ => ?_)
      · have := (iN_lt (by omega)).mp w; omega
      refine b_X9_gaps_14 (fun w => ?_) (fun w => ?_)
      · have hne : ¬ (i : Int) = lastU r := fun z => w (by rw [z])
        refine b_X9_gaps_29 s_fieldAt (fun v h2 hv => ?_)
        obtain ⟨rfl, rfl⟩ := hv
        refine b_X9_gaps_35 (ha.g (106 + 4 * i)) s_fieldAt (fun v h2 hv => ?_)
        obtain ⟨rfl, rfl⟩ := hv
        exact K _ (by rw [if_neg hne])
      · have heq : (i : Int) = lastU r := (iN_eq (by omega)).mp w
        refine b_X9_gaps_19 s_fieldAt (fun v h2 hv => ?_)
        obtain ⟨rfl, rfl⟩ := hv
        refine b_X9_gaps_25 (ha.g (108 + 4 * i)) s_fieldAt (fun v h2 hv => ?_)
        obtain ⟨rfl, rfl⟩ := hv
        exact K _ (by rw [if_pos heq])
  exact H (lastU r + 1).toNat 0 (by omega)
theorem s_clean (ha : ari h q 690 r) (u k : Int) : CtV mX9_clean 0 0 0 [.ref q, .int (iN u), .int (iN k)] h (fun h' => RA h q (clean u k) h') := by
  refine en_X9_clean (b_X9_clean_0 ?_)
  have H : ∀ (n i : Nat) (h1 : AH), i + n = 690 → RA h q (fun c => if c < i then 0 else r c) h1 → AW mX9_clean 0 0 0 2 [.ref q, .int (iN u), .int (iN k), .int (iN (i : Int))] [] h1 (qV fun h' => RA h q (clean u k) h') := by
    intro n
    induction n with
    | zero =>
      intro i h1 hi ra
      refine b_X9_clean_2 (fun _ => ?_) (fun w => absurd ((iN_le (by omega)).mpr (by omega)) w)
      have rb := ra.s 7 (v := u) (z := 7)
      have rc := rb.s 8 (v := k) (z := 8)
      refine b_X9_clean_19 (ra.a.g 7) (rb.a.g 8) (rc.a.g 9) (rV ?_)
      refine (rc.s 9).cg (fun c hc => ?_)
      unfold up clean
      by_cases h7 : c = 7
      · subst h7; simp
      by_cases h8 : c = 8
      · subst h8; simp
      by_cases h9 : c = 9
      · subst h9; simp
      rw [if_neg h9, if_neg h8, if_neg h7, if_neg h7, if_neg h8, if_neg h9]
      exact if_pos (by omega)
    | succ n ih =>
      intro i h1 hi ra
      have e : ((i : Int) + 1) = ((i + 1 : Nat) : Int) := by omega
      refine b_X9_clean_2 (fun w => ?_) (fun _ => ?_)
      · have := (iN_le (by omega)).mp w; omega
      refine b_X9_clean_9 (ra.a.g i) ?_
      rw [e]
      refine ih (i + 1) _ (by omega) ((ra.s i).eq ?_)
      funext c
      unfold up
      by_cases hc : c = i
      · rw [if_pos hc, if_pos (by omega)]
      · rw [if_neg hc]
        by_cases hd : c < i
        · show (if c < i then 0 else r c) = _
          rw [if_pos hd, if_pos (by omega)]
        · show (if c < i then 0 else r c) = _
          rw [if_neg hd, if_neg (by omega)]
  refine H 690 0 h (by omega) ((RA.st ha).eq ?_)
  funext c
  rw [if_neg (by omega)]
end REFE
