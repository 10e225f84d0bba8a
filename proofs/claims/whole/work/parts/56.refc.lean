/-! the reference's reader: commands, the whole text -/
/-- nothing but two cells is changed -/
def Ch (h h' : AH) (a b : Nat) : Prop := h'.length = h.length ∧ ∀ q, q ≠ a → q ≠ b → h'[q]? = h[q]?
theorem Ch.rf (h : AH) (a b : Nat) : Ch h h a b := ⟨rfl, fun _ _ _ => rfl⟩
theorem Ch.tr {h h1 h2 : AH} {a b : Nat} (x : Ch h h1 a b) (y : Ch h1 h2 a b) : Ch h h2 a b := ⟨y.1.trans x.1, fun q q1 q2 => (y.2 q q1 q2).trans (x.2 q q1 q2)⟩
theorem Off.c1 {h h' : AH} {a : Nat} (o : Off h h' a (a + 1)) (b : Nat) : Ch h h' a b := ⟨o.1, fun q q1 q2 => o.2 q (by omega)⟩
theorem RA.c2 {h h' : AH} {b : Nat} {f : Nat → Int} (o : RA h b f h') (a : Nat) : Ch h h' a b := ⟨by rw [o.2, wr_len], fun q q1 q2 => by rw [o.2]; exact wr_ne q2⟩
/-- a text with a sound head is loaded -/
def lodX (s : Nat → Int) (n : Nat) : Nat × Bool × (Nat → Int) × Int := rdX s n 100 (hB s n).2.1 false (clean (hA s n).1 (hB s n).1) 0
/-- the row and the count of left out ones behind a command -/
def rcX (s : Nat → Int) (n p : Nat) (r : Nat → Int) (l : Int) : (Nat → Int) × Int :=
  if (cB s n p (s p)).2.2 = true then (r, l) else ((exC (s p) (cA s n p (s p)).1 (cB s n p (s p)).1 r).1, l + (exC (s p) (cA s n p (s p)).1 (cB s n p (s p)).1 r).2)
section REFC2
variable {h h' : AH} {m : Nat} {sc r : Nat → Int} {rf lf ac : Int}
theorem s_readPitch {n p : Nat} (hm : mob h m rf n p (bI (!false)) lf ac) (hs : ari h (m + 1) 100 sc) (hr : ari h (m + 2) 690 r) (hI : Inv r) (hn : n ≤ 100) (hp : p < n) (hc : ∀ k, k < n → 0 ≤ sc k ∧ sc k ≤ 255) (e112 : sc p = 112) :
    CtV mX9_readPitch 6 0 0 [.ref m] h (fun h' => mob h' m rf n ((cB sc n p (sc p)).2.1 : Int) (bI (!(cB sc n p (sc p)).2.2)) (rcX sc n p r lf).2 ac ∧ ari h' (m + 2) 690 (rcX sc n p r lf).1 ∧ Ch h h' m (m + 2)) := by
  have r0 := hI.r0
  unfold rcX
  rw [e112]
  have eA : cA sc n p 112 = rN sc n 1 40 2 0 (p + 1) false := rfl
  have eB : cB sc n p 112 = stp sc n (cA sc n p 112).2.1 (cA sc n p 112).2.2 := rfl
  have G := g2_rN sc n (lo := 1) (hi := 40) (by omega) (p + 1) false
  rw [← eA] at G
  have rg := cA_rg sc n p 112
  have cr := cmd_rg sc n p 112
  refine en_X9_readPitch (b_X9_readPitch_0 hm.o (s_accept hm true) (fun h1 hv => ?_))
  obtain ⟨m1, o1⟩ := hv
  change mob h1 m rf n ((p + 1 : Nat) : Int) (bI (!false)) lf ac at m1
  have hs1 : ari h1 (m + 1) 100 sc := (o1.2 _ (by omega)).trans hs
  refine b_X9_readPitch_5 m1.o (s_two (w := false) m1 hs1 hn (by omega) hc (lo := 1) (hi := 40) (by omega)) (fun v h2 hv => ?_)
  obtain ⟨ev, m2, o2⟩ := hv
  rw [G.1] at m2
  have hs2 : ari h2 (m + 1) 100 sc := (o2.2 _ (by omega)).trans hs1
  refine b_X9_readPitch_12 m2.o (s_stepRead m2 hs2 hn (by omega) hc) (fun v2 h3 hv => ?_)
  obtain ⟨ev2, m3, o3⟩ := hv
  rw [← eB] at m3 ev2
  have o123 : Ch h h3 m (m + 2) := ((o1.c1 _).tr (o2.c1 _)).tr (o3.c1 _)
  have hr3 : ari h3 (m + 2) 690 r := (o3.2 _ (by omega)).trans ((o2.2 _ (by omega)).trans ((o1.2 _ (by omega)).trans hr))
  cases hw : (cB sc n p 112).2.2
  · rw [hw] at m3
    have c2 := (cr hw).2.1 rfl
    have c1 := (cB_rg sc n p 112).2.2 hw
    have e1 : v = (cA sc n p 112).1 := ev.trans (G.2 c1.1)
    have e2 : v2 = (cB sc n p 112).1 := ev2 hw
    subst e1
    subst e2
    rw [if_neg (by decide)]
    have hst := isStp_T c2.2
    have ex : exC 112 (cA sc n p 112).1 (cB sc n p 112).1 r = if r 0 < 24 ∧ whereIn r (cA sc n p 112).1 (cB sc n p 112).1 ≠ 3 then (pitchIn r (cA sc n p 112).1 (cB sc n p 112).1, 0) else (r, 1) := by
      unfold exC; rw [if_pos rfl]
    rw [ex]
    refine b_X9_readPitch_17 m3.n4 (fun y => absurd y (by decide)) (fun _ => ?_)
    refine b_X9_readPitch_25 m3.r6 (s_canPitch hr3 hI.1.k r0 c2.1 (by omega)) (fun b h4 hv => ?_)
    obtain ⟨rfl, rfl⟩ := hv
    by_cases q : r 0 < 24 ∧ whereIn r (cA sc n p 112).1 (cB sc n p 112).1 ≠ 3
    · rw [decide_eq_true q, if_pos q]
      refine b_X9_readPitch_34 m3.n5 (fun y => absurd y (by decide)) (fun _ => ?_)
      have m4 := m3.s5 (lf + 0)
      have o4 : Off h4 (stf h4 m 5 (.int (iN (lf + 0)))) m (m + 1) := Off.ofs
      have hr4 : ari (stf h4 m 5 (.int (iN (lf + 0)))) (m + 2) 690 r := (o4.2 _ (by omega)).trans hr3
      obtain ⟨gN1, gN2, gN3⟩ := hI.2.2.2.1
      refine b_X9_readPitch_44 m3.n5 (fun y => absurd y (by decide)) (fun _ => ?_)
      refine b_X9_readPitch_57 m4.r6 (s_pitchIn hr4 hI.1 (by have := hI.1.k.ap; omega) ⟨r0.1, q.1⟩ (by omega) (fun t ht => by have := (hI.2.1.2 t ht).2.2.1; omega) c2.1 (by omega)) (fun v h5 hv => ?_)
      obtain ⟨-, ra⟩ := hv
      exact b_X9_readPitch_66 (rV ⟨m4.off (ra.off (m + 2) (m + 3)), ra.a, (o123.tr (o4.c1 _)).tr (ra.c2 m)⟩)
    · rw [decide_eq_false q, if_neg q]
      refine b_X9_readPitch_34 m3.n5 (fun _ => ?_) (fun y => absurd rfl y)
      have m4 := m3.s5 (lf + 1)
      have o4 : Off h4 (stf h4 m 5 (.int (iN (lf + 1)))) m (m + 1) := Off.ofs
      refine b_X9_readPitch_48 m3.n5 (fun _ => ?_) (fun y => absurd rfl y)
      exact b_X9_readPitch_67 (rV ⟨m4, (o4.2 _ (by omega)).trans hr3, o123.tr (o4.c1 _)⟩)
  · rw [hw] at m3
    rw [if_pos rfl]
    exact b_X9_readPitch_17 m3.n4 (fun _ => b_X9_readPitch_67 (rV ⟨m3, hr3, o123⟩)) (fun y => absurd rfl y)
theorem s_readFill {n p : Nat} (hm : mob h m rf n p (bI (!false)) lf ac) (hs : ari h (m + 1) 100 sc) (hr : ari h (m + 2) 690 r) (hI : Inv r) (hn : n ≤ 100) (hp : p < n) (hc : ∀ k, k < n → 0 ≤ sc k ∧ sc k ≤ 255) (e102 : sc p = 102) :
    CtV mX9_readFill 3 0 0 [.ref m] h (fun h' => mob h' m rf n ((cB sc n p (sc p)).2.1 : Int) (bI (!(cB sc n p (sc p)).2.2)) (rcX sc n p r lf).2 ac ∧ ari h' (m + 2) 690 (rcX sc n p r lf).1 ∧ Ch h h' m (m + 2)) := by
  have r0 := hI.r0
  unfold rcX
  rw [e102]
  have eA : cA sc n p 102 = rN sc n 0 23 2 0 (p + 1) false := rfl
  have eB : cB sc n p 102 = rN sc n 0 99 2 0 (cA sc n p 102).2.1 (cA sc n p 102).2.2 := rfl
  have G := g2_rN sc n (lo := 0) (hi := 23) (by omega) (p + 1) false
  rw [← eA] at G
  have G2 := g2_rN sc n (lo := 0) (hi := 99) (by omega) (cA sc n p 102).2.1 (cA sc n p 102).2.2
  rw [← eB] at G2
  have rg := cA_rg sc n p 102
  have cr := cmd_rg sc n p 102
  refine en_X9_readFill (b_X9_readFill_0 hm.o (s_accept hm true) (fun h1 hv => ?_))
  obtain ⟨m1, o1⟩ := hv
  change mob h1 m rf n ((p + 1 : Nat) : Int) (bI (!false)) lf ac at m1
  have hs1 : ari h1 (m + 1) 100 sc := (o1.2 _ (by omega)).trans hs
  refine b_X9_readFill_5 m1.o (s_two (w := false) m1 hs1 hn (by omega) hc (lo := 0) (hi := 23) (by omega)) (fun v h2 hv => ?_)
  obtain ⟨ev, m2, o2⟩ := hv
  rw [G.1] at m2
  have hs2 : ari h2 (m + 1) 100 sc := (o2.2 _ (by omega)).trans hs1
  refine b_X9_readFill_12 m2.o (s_two m2 hs2 hn (by omega) hc (lo := 0) (hi := 99) (by omega)) (fun v2 h3 hv => ?_)
  obtain ⟨ev2, m3, o3⟩ := hv
  rw [G2.1] at m3
  have o123 : Ch h h3 m (m + 2) := ((o1.c1 _).tr (o2.c1 _)).tr (o3.c1 _)
  have hr3 : ari h3 (m + 2) 690 r := (o3.2 _ (by omega)).trans ((o2.2 _ (by omega)).trans ((o1.2 _ (by omega)).trans hr))
  cases hw : (cB sc n p 102).2.2
  · rw [hw] at m3
    have c2 := (cr hw).2.2.1 rfl
    have c1 := (cB_rg sc n p 102).2.2 hw
    have e1 : v = (cA sc n p 102).1 := ev.trans (G.2 c1.1)
    have e2 : v2 = (cB sc n p 102).1 := ev2.trans (G2.2 hw)
    subst e1
    subst e2
    rw [if_neg (by decide)]
    have ex : exC 102 (cA sc n p 102).1 (cB sc n p 102).1 r = if 0 ≤ (cA sc n p 102).1 ∧ (cA sc n p 102).1 < r 0 then (fillIn r (cA sc n p 102).1.toNat (cB sc n p 102).1, 0) else (r, 1) := by
      unfold exC; rw [if_neg (by decide), if_pos rfl]
    rw [ex]
    refine b_X9_readFill_20 m3.n4 (fun y => absurd y (by decide)) (fun _ => ?_)
    refine b_X9_readFill_28 m3.r6 (hr3.g 0) (fun q => ?_) (fun q => ?_)
    · have := (iN_le (by omega)).mp q
      rw [if_neg (by omega)]
      have m4 := m3.s5 (lf + 1)
      have o4 : Off h3 (stf h3 m 5 (.int (iN (lf + 1)))) m (m + 1) := Off.ofs
      refine b_X9_readFill_42 m3.n5 (fun _ => ?_) (fun y => absurd rfl y)
      refine b_X9_readFill_57 m3.n5 (fun _ => ?_) (fun y => absurd rfl y)
      exact b_X9_readFill_76 (rV ⟨m4, (o4.2 _ (by omega)).trans hr3, o123.tr (o4.c1 _)⟩)
    · have q1 : ¬ r 0 ≤ (cA sc n p 102).1 := fun z => q ((iN_le (by omega)).mpr z)
      rw [if_pos (by omega)]
      have m4 := m3.s5 (lf + 0)
      have o4 : Off h3 (stf h3 m 5 (.int (iN (lf + 0)))) m (m + 1) := Off.ofs
      have hr4 : ari (stf h3 m 5 (.int (iN (lf + 0)))) (m + 2) 690 r := (o4.2 _ (by omega)).trans hr3
      have tl : (cA sc n p 102).1.toNat < nT r := by unfold nT; omega
      have et : (cA sc n p 102).1 = (((cA sc n p 102).1.toNat : Nat) : Int) := by omega
      have F := s_fillIn hr4 hI.1 hI.2.2.1 (hI.2.1.2 _ tl) (by omega) (cB sc n p 102).1
      rw [← et] at F
      refine b_X9_readFill_38 m3.n5 (fun y => absurd y (by decide)) (fun _ => ?_)
      refine b_X9_readFill_53 m3.n5 (fun y => absurd y (by decide)) (fun _ => ?_)
      refine b_X9_readFill_66 m4.r6 F (fun v h5 hv => ?_)
      obtain ⟨-, ra⟩ := hv
      exact b_X9_readFill_75 (rV ⟨m4.off (ra.off (m + 2) (m + 3)), ra.a, (o123.tr (o4.c1 _)).tr (ra.c2 m)⟩)
  · rw [hw] at m3
    rw [if_pos rfl]
    exact b_X9_readFill_20 m3.n4 (fun _ => b_X9_readFill_76 (rV ⟨m3, hr3, o123⟩)) (fun y => absurd rfl y)
theorem s_readEL {n p : Nat} (hm : mob h m rf n p (bI (!false)) lf ac) (hr : ari h (m + 2) 690 r) (hI : Inv r) (b : Bool) (e1 : sc p = if b then 101 else 108) :
    CtV mX9_readFrame 6 0 0 [.ref m, .int (iN (bI b)), .int (iN (bI false))] h (fun h' => mob h' m rf n ((cB sc n p (sc p)).2.1 : Int) (bI (!(cB sc n p (sc p)).2.2)) (rcX sc n p r lf).2 ac ∧ ari h' (m + 2) 690 (rcX sc n p r lf).1 ∧ Ch h h' m (m + 2)) := by
  have r3 := hI.r3
  have n3 : (nR r : Int) = r 3 := by unfold nR; omega
  have eB : cB sc n p (sc p) = (0, p + 1, false) := by
    unfold cB cA
    rw [e1]
    cases b <;> rfl
  unfold rcX
  rw [eB, if_neg (fun z => tnf (Eq.symm z))]
  refine en_X9_readFrame (b_X9_readFrame_0 hm.o (s_accept hm true) (fun h1 hv => ?_))
  obtain ⟨m1, o1⟩ := hv
  change mob h1 m rf n ((p + 1 : Nat) : Int) (bI (!false)) lf ac at m1
  have hr1 : ari h1 (m + 2) 690 r := (o1.2 _ (by omega)).trans hr
  refine b_X9_readFrame_5 (fun _ => ?_) (fun y => absurd rfl y)
  refine b_X9_readFrame_19 m1.n4 (fun _ => ?_) (fun y => absurd y (by decide))
  have m0 := m1.s5 (lf + 0)
  have o0 : Off h1 (stf h1 m 5 (.int (iN (lf + 0)))) m (m + 1) := Off.ofs
  have hr0 : ari (stf h1 m 5 (.int (iN (lf + 0)))) (m + 2) 690 r := (o0.2 _ (by omega)).trans hr1
  have m2 := m1.s5 (lf + 1)
  have o2 : Off h1 (stf h1 m 5 (.int (iN (lf + 1)))) m (m + 1) := Off.ofs
  have hr2 : ari (stf h1 m 5 (.int (iN (lf + 1)))) (m + 2) 690 r := (o2.2 _ (by omega)).trans hr1
  cases b
  · have ec : sc p = 108 := e1
    rw [ec]
    have ex : exC 108 (cA sc n p 108).1 (0, p + 1, false).1 r = if 0 < r 3 then (leaveIn r, 0) else (r, 1) := by
      unfold exC; rw [if_neg (by decide), if_neg (by decide), if_neg (by decide), if_pos rfl]
    rw [ex]
    refine b_X9_readFrame_29 (fun _ => ?_) (fun y => absurd rfl y)
    refine b_X9_readFrame_52 (fun _ => ?_) (fun y => absurd rfl y)
    refine b_X9_readFrame_74 m1.r6 (hr1.g 3) (fun q => ?_) (fun q => ?_)
    · have := (iN_le (by omega)).mp q
      rw [if_neg (by omega)]
      refine b_X9_readFrame_87 m1.n5 (fun _ => ?_) (fun y => absurd rfl y)
      refine b_X9_readFrame_104 m1.n5 (fun _ => ?_) (fun y => absurd rfl y)
      refine b_X9_readFrame_128 (fun _ => ?_) (fun y => absurd rfl y)
      refine b_X9_readFrame_149 (fun _ => ?_) (fun y => absurd rfl y)
      exact b_X9_readFrame_162 (rV ⟨m2, hr2, (o1.c1 _).tr (o2.c1 _)⟩)
    · have q1 : ¬ r 3 ≤ 0 := fun z => q ((iN_le (by omega)).mpr z)
      rw [if_pos (by omega)]
      refine b_X9_readFrame_83 m1.n5 (fun y => absurd y (by decide)) (fun _ => ?_)
      refine b_X9_readFrame_100 m1.n5 (fun y => absurd y (by decide)) (fun _ => ?_)
      refine b_X9_readFrame_114 (fun _ => ?_) (fun y => absurd rfl y)
      refine b_X9_readFrame_128 (fun y => absurd y (by decide)) (fun _ => ?_)
      refine b_X9_readFrame_133 (fun _ => ?_) (fun y => absurd rfl y)
      refine b_X9_readFrame_149 (fun y => absurd y (by decide)) (fun _ => ?_)
      refine b_X9_readFrame_154 m0.r6 (s_leaveIn hr0 (by omega) (hI.J (i := nR r - 1) (by omega)).1) (fun v h5 hv => ?_)
      obtain ⟨-, ra⟩ := hv
      exact b_X9_readFrame_161 (rV ⟨m0.off (ra.off (m + 2) (m + 3)), ra.a, ((o1.c1 _).tr (o0.c1 _)).tr (ra.c2 m)⟩)
  · have ec : sc p = 101 := e1
    rw [ec]
    have ex : exC 101 (cA sc n p 101).1 (0, p + 1, false).1 r = if r 3 < 8 then (enterIn r, 0) else (r, 1) := by
      unfold exC; rw [if_neg (by decide), if_neg (by decide), if_pos rfl]
    rw [ex]
    refine b_X9_readFrame_29 (fun y => absurd y (by decide)) (fun _ => ?_)
    refine b_X9_readFrame_33 m1.r6 (hr1.g 3) (fun q => ?_) (fun q => ?_)
    · have := (iN_le (by omega)).mp q
      rw [if_neg (by omega)]
      refine b_X9_readFrame_48 m1.n5 (fun _ => ?_) (fun y => absurd rfl y)
      refine b_X9_readFrame_104 m1.n5 (fun _ => ?_) (fun y => absurd rfl y)
      refine b_X9_readFrame_128 (fun _ => ?_) (fun y => absurd rfl y)
      refine b_X9_readFrame_149 (fun _ => ?_) (fun y => absurd rfl y)
      exact b_X9_readFrame_162 (rV ⟨m2, hr2, (o1.c1 _).tr (o2.c1 _)⟩)
    · have q1 : ¬ 8 ≤ r 3 := fun z => q ((iN_le (by omega)).mpr z)
      rw [if_pos (by omega)]
      refine b_X9_readFrame_44 m1.n5 (fun y => absurd y (by decide)) (fun _ => ?_)
      refine b_X9_readFrame_100 m1.n5 (fun y => absurd y (by decide)) (fun _ => ?_)
      refine b_X9_readFrame_114 (fun y => absurd y (by decide)) (fun _ => ?_)
      refine b_X9_readFrame_118 m0.r6 (s_enterIn hr0 (by omega)) (fun h5 ra => ?_)
      exact b_X9_readFrame_125 (rV ⟨m0.off (ra.off (m + 2) (m + 3)), ra.a, ((o1.c1 _).tr (o0.c1 _)).tr (ra.c2 m)⟩)
theorem s_readJ {n p : Nat} (hm : mob h m rf n p (bI (!false)) lf ac) (hs : ari h (m + 1) 100 sc) (hr : ari h (m + 2) 690 r) (hI : Inv r) (hn : n ≤ 100) (hp : p < n) (hc : ∀ k, k < n → 0 ≤ sc k ∧ sc k ≤ 255) (e106 : sc p = 106) :
    CtV mX9_readFrame 6 0 0 [.ref m, .int (iN (bI false)), .int (iN (bI true))] h (fun h' => mob h' m rf n ((cB sc n p (sc p)).2.1 : Int) (bI (!(cB sc n p (sc p)).2.2)) (rcX sc n p r lf).2 ac ∧ ari h' (m + 2) 690 (rcX sc n p r lf).1 ∧ Ch h h' m (m + 2)) := by
  have r3 := hI.r3
  unfold rcX
  rw [e106]
  have eA : cA sc n p 106 = rN sc n 0 7 1 0 (p + 1) false := rfl
  have eB : cB sc n p 106 = (0, (cA sc n p 106).2.1, (cA sc n p 106).2.2) := rfl
  have G := g1_rN sc n (lo := 0) (hi := 7) (p + 1) false
  rw [← eA] at G
  have cr := cmd_rg sc n p 106
  refine en_X9_readFrame (b_X9_readFrame_0 hm.o (s_accept hm true) (fun h1 hv => ?_))
  obtain ⟨m1, o1⟩ := hv
  change mob h1 m rf n ((p + 1 : Nat) : Int) (bI (!false)) lf ac at m1
  have hs1 : ari h1 (m + 1) 100 sc := (o1.2 _ (by omega)).trans hs
  refine b_X9_readFrame_5 (fun y => absurd y (by decide)) (fun _ => ?_)
  refine b_X9_readFrame_9 m1.o (s_digit (w := false) m1 hs1 hn (by omega) hc (lo := 0) (hi := 7) (by omega) (by omega)) (fun v h3 hv => ?_)
  obtain ⟨ev, m3, o3⟩ := hv
  rw [G.1] at m3
  have o123 : Ch h h3 m (m + 2) := (o1.c1 _).tr (o3.c1 _)
  have hr3 : ari h3 (m + 2) 690 r := (o3.2 _ (by omega)).trans ((o1.2 _ (by omega)).trans hr)
  cases hw : (cB sc n p 106).2.2
  · have hw1 : (cA sc n p 106).2.2 = false := hw
    rw [hw1] at m3
    have c2 := (cr hw).2.2.2 rfl
    have e1 : v = (cA sc n p 106).1 := ev.trans (G.2 hw1)
    subst e1
    rw [if_neg (by decide)]
    have ex : exC 106 (cA sc n p 106).1 (cB sc n p 106).1 r = if 0 ≤ (cA sc n p 106).1 ∧ (cA sc n p 106).1 < r 3 then (jumpIn r (cA sc n p 106).1.toNat, 0) else (r, 1) := by
      unfold exC; rw [if_neg (by decide), if_neg (by decide), if_neg (by decide), if_neg (by decide), if_pos rfl]
    rw [ex]
    refine b_X9_readFrame_16 m3.n4 (fun _ => ?_) (fun y => absurd y (by decide))
    refine b_X9_readFrame_29 (fun _ => ?_) (fun y => absurd rfl y)
    refine b_X9_readFrame_52 (fun y => absurd y (by decide)) (fun _ => ?_)
    refine b_X9_readFrame_56 m3.r6 (hr3.g 3) (fun q => ?_) (fun q => ?_)
    · have := (iN_le (by omega)).mp q
      rw [if_neg (by omega)]
      have m4 := m3.s5 (lf + 1)
      have o4 : Off h3 (stf h3 m 5 (.int (iN (lf + 1)))) m (m + 1) := Off.ofs
      refine b_X9_readFrame_70 m3.n5 (fun _ => ?_) (fun y => absurd rfl y)
      refine b_X9_readFrame_104 m3.n5 (fun _ => ?_) (fun y => absurd rfl y)
      refine b_X9_readFrame_128 (fun _ => ?_) (fun y => absurd rfl y)
      refine b_X9_readFrame_149 (fun _ => ?_) (fun y => absurd rfl y)
      exact b_X9_readFrame_162 (rV ⟨m4, (o4.2 _ (by omega)).trans hr3, o123.tr (o4.c1 _)⟩)
    · have q1 : ¬ r 3 ≤ (cA sc n p 106).1 := fun z => q ((iN_le (by omega)).mpr z)
      rw [if_pos (by omega)]
      have m4 := m3.s5 (lf + 0)
      have o4 : Off h3 (stf h3 m 5 (.int (iN (lf + 0)))) m (m + 1) := Off.ofs
      have hr4 : ari (stf h3 m 5 (.int (iN (lf + 0)))) (m + 2) 690 r := (o4.2 _ (by omega)).trans hr3
      have et : (cA sc n p 106).1 = (((cA sc n p 106).1.toNat : Nat) : Int) := by omega
      have F := s_jumpIn hr4 (i := (cA sc n p 106).1.toNat) (by omega) (hI.J (by omega)).1
      rw [← et] at F
      refine b_X9_readFrame_66 m3.n5 (fun y => absurd y (by decide)) (fun _ => ?_)
      refine b_X9_readFrame_100 m3.n5 (fun y => absurd y (by decide)) (fun _ => ?_)
      refine b_X9_readFrame_114 (fun _ => ?_) (fun y => absurd rfl y)
      refine b_X9_readFrame_128 (fun y => absurd y (by decide)) (fun _ => ?_)
      refine b_X9_readFrame_133 (fun y => absurd y (by decide)) (fun _ => ?_)
      refine b_X9_readFrame_137 m4.r6 F (fun v h5 hv => ?_)
      obtain ⟨-, ra⟩ := hv
      exact b_X9_readFrame_145 (rV ⟨m4.off (ra.off (m + 2) (m + 3)), ra.a, (o123.tr (o4.c1 _)).tr (ra.c2 m)⟩)
  · have hw1 : (cA sc n p 106).2.2 = true := hw
    rw [hw1] at m3
    rw [if_pos rfl]
    exact b_X9_readFrame_16 m3.n4 (fun y => absurd rfl y) (fun _ => b_X9_readFrame_28 (rV ⟨m3, hr3, o123⟩))
theorem up_self (r : Nat → Int) (i : Nat) : up r i (r i) = r := by
  funext k
  unfold up
  split
  · rename_i q; rw [q]
  · rfl
theorem s_rreadCommand {n p : Nat} (hm : mob h m rf n p (bI (!false)) lf ac) (hs : ari h (m + 1) 100 sc) (hr : ari h (m + 2) 690 r) (hI : Inv r) (hn : n ≤ 100) (hp : p < n) (hc : ∀ k, k < n → 0 ≤ sc k ∧ sc k ≤ 255) :
    CtV mX9_readCommand 7 0 0 [.ref m] h (fun h' => mob h' m rf n ((cB sc n p (sc p)).2.1 : Int) (bI (!(cB sc n p (sc p)).2.2)) (rcX sc n p r lf).2 ac ∧ ari h' (m + 2) 690 (rcX sc n p r lf).1 ∧ Ch h h' m (m + 2)) := by
  have es : sgn sc n p = sc p := by unfold sgn; rw [if_pos hp]
  have N : ∀ c, 0 ≤ c ∧ c ≤ 255 → CtZ mX9_isNext 0 0 0 [.ref m, .int (iN c)] h (fun v h' => v = decide (sc p = c) ∧ h' = h) := by
    intro c h0
    have := s_isNext hm hs hn (by omega) hc h0
    rw [es] at this
    exact this
  refine en_X9_readCommand (b_X9_readCommand_0 hm.o (N 112 (by omega)) (fun v h1 hv => ?_))
  obtain ⟨rfl, rfl⟩ := hv
  by_cases c1 : sc p = 112
  · rw [decide_eq_true c1]
    refine b_X9_readCommand_6 (fun y => absurd y (by decide)) (fun _ => ?_)
    exact b_X9_readCommand_9 hm.o (s_readPitch hm hs hr hI hn hp hc c1) (fun h2 hv => b_X9_readCommand_13 (rV hv))
  rw [decide_eq_false c1]
  refine b_X9_readCommand_6 (fun _ => ?_) (fun y => absurd rfl y)
  refine b_X9_readCommand_16 hm.o (N 102 (by omega)) (fun v h2 hv => ?_)
  obtain ⟨rfl, rfl⟩ := hv
  by_cases c2 : sc p = 102
  · rw [decide_eq_true c2]
    refine b_X9_readCommand_22 (fun y => absurd y (by decide)) (fun _ => ?_)
    exact b_X9_readCommand_25 hm.o (s_readFill hm hs hr hI hn hp hc c2) (fun h2 hv => b_X9_readCommand_29 (rV hv))
  rw [decide_eq_false c2]
  refine b_X9_readCommand_22 (fun _ => ?_) (fun y => absurd rfl y)
  -- a frame's command
  have F : (sc p = 101 ∨ sc p = 108 ∨ sc p = 106) → AW mX9_readCommand 7 0 0 59 [.ref m] [] h2 (qV (fun h' => mob h' m rf n ((cB sc n p (sc p)).2.1 : Int) (bI (!(cB sc n p (sc p)).2.2)) (rcX sc n p r lf).2 ac ∧ ari h' (m + 2) 690 (rcX sc n p r lf).1 ∧ Ch h2 h' m (m + 2))) := by
    intro q
    refine b_X9_readCommand_59 hm.o (N 101 (by omega)) (fun v h3 hv => ?_)
    obtain ⟨rfl, rfl⟩ := hv
    refine b_X9_readCommand_66 hm.o (N 106 (by omega)) (fun v h4 hv => ?_)
    obtain ⟨rfl, rfl⟩ := hv
    rcases q with q | q | q
    · rw [decide_eq_true q, decide_eq_false (show ¬ sc p = 106 by omega)]
      exact b_X9_readCommand_72 hm.o (s_readEL hm hr hI true q) (fun h5 hv => b_X9_readCommand_75 (rV hv))
    · rw [decide_eq_false (show ¬ sc p = 101 by omega), decide_eq_false (show ¬ sc p = 106 by omega)]
      exact b_X9_readCommand_72 hm.o (s_readEL hm hr hI false q) (fun h5 hv => b_X9_readCommand_75 (rV hv))
    · rw [decide_eq_false (show ¬ sc p = 101 by omega), decide_eq_true q]
      exact b_X9_readCommand_72 hm.o (s_readJ hm hs hr hI hn hp hc q) (fun h5 hv => b_X9_readCommand_75 (rV hv))
  refine b_X9_readCommand_32 hm.o (N 101 (by omega)) (fun v h3 hv => ?_)
  obtain ⟨rfl, rfl⟩ := hv
  by_cases c3 : sc p = 101
  · rw [decide_eq_true c3]
    exact b_X9_readCommand_38 (fun _ => F (Or.inl c3)) (fun y => absurd y (by decide))
  rw [decide_eq_false c3]
  refine b_X9_readCommand_38 (fun y => absurd rfl y) (fun _ => ?_)
  refine b_X9_readCommand_41 hm.o (N 108 (by omega)) (fun v h4 hv => ?_)
  obtain ⟨rfl, rfl⟩ := hv
  by_cases c4 : sc p = 108
  · rw [decide_eq_true c4]
    exact b_X9_readCommand_47 (fun _ => F (Or.inr (Or.inl c4))) (fun y => absurd y (by decide))
  rw [decide_eq_false c4]
  refine b_X9_readCommand_47 (fun y => absurd rfl y) (fun _ => ?_)
  refine b_X9_readCommand_50 hm.o (N 106 (by omega)) (fun v h5 hv => ?_)
  obtain ⟨rfl, rfl⟩ := hv
  by_cases c5 : sc p = 106
  · rw [decide_eq_true c5]
    exact b_X9_readCommand_56 (fun y => absurd y (by decide)) (fun _ => F (Or.inr (Or.inr c5)))
  rw [decide_eq_false c5]
  refine b_X9_readCommand_56 (fun _ => ?_) (fun y => absurd rfl y)
  refine b_X9_readCommand_78 hm.o (N 120 (by omega)) (fun v h6 hv => ?_)
  obtain ⟨rfl, rfl⟩ := hv
  refine b_X9_readCommand_85 hm.o (s_accept hm (decide (sc p = 120))) (fun h7 hv => ?_)
  obtain ⟨m1, o1⟩ := hv
  have hr1 : ari h7 (m + 2) 690 r := (o1.2 _ (by omega)).trans hr
  by_cases c6 : sc p = 120
  · have eB : cB sc n p (sc p) = (0, p + 1, false) := by
      unfold cB cA; rw [c6]; rfl
    unfold rcX
    rw [eB, if_neg (fun z => tnf (Eq.symm z))]
    have ex : ∀ a b, exC (sc p) a b r = (up r 9 (1 - r 9), 0) := by
      intro a b
      unfold exC; rw [if_neg c1, if_neg c2, if_neg c3, if_neg c4, if_neg c5]
    rw [ex]
    rw [decide_eq_true c6] at m1
    refine b_X9_readCommand_88 m1.r6 m1.n4 (fun y => absurd y (by decide)) (fun _ => ?_)
    have ra := (RA.st hr1).s 9 (v := 1 - r 9) (z := 9)
    refine b_X9_readCommand_101 m1.r6 (hr1.g 9) (hr1.g 9) (rV ⟨?_, ra.a, (o1.c1 _).tr (ra.c2 m)⟩)
    have := m1.off (ra.off (m + 2) (m + 3))
    rw [Int.add_zero]
    exact this
  · have eB : cB sc n p (sc p) = (0, p, true) := by
      unfold cB cA
      rw [if_neg c1, if_neg c2, if_neg c1, if_neg c2, if_neg c5, if_neg (by omega)]
    unfold rcX
    rw [eB, if_pos rfl]
    rw [decide_eq_false c6] at m1
    refine b_X9_readCommand_88 m1.r6 m1.n4 (fun _ => ?_) (fun y => absurd rfl y)
    have ra := (RA.st hr1).s 9 (v := r 9) (z := 9)
    rw [up_self] at ra
    exact b_X9_readCommand_113 m1.r6 (hr1.g 9) (hr1.g 9) (rV ⟨m1.off (ra.off (m + 2) (m + 3)), ra.a, (o1.c1 _).tr (ra.c2 m)⟩)
/-- the whole text -/
theorem s_readText {n : Nat} {sp gd : Int} {rd : Nat → Int} (hm : mob h m rf n sp gd lf ac) (hs : ari h (m + 1) 100 sc) (hr : ari h (m + 2) 690 rd) (hn : n ≤ 100) (hc : ∀ k, k < n → 0 ≤ sc k ∧ sc k ≤ 255) :
    CtI mX9_readText 8 0 0 [.ref m] h (fun v h' => v = fpV sc n ∧ Ch h h' m (m + 2) ∧ ∃ sp' gd' lf' rd', mob h' m rf n sp' gd' lf' ac ∧ ari h' (m + 2) 690 rd' ∧ (fpV sc n = -1 → rd' = (lodX sc n).2.2.1 ∧ lf' = (lodX sc n).2.2.2 ∧ Inv rd' ∧ (hB sc n).2.2 = false ∧ (lodX sc n).2.1 = false)) := by
  have m1 := ((hm.s3 0).s4 1).s5 0
  have o1 : Off h (stf (stf (stf h m 3 (.int (iN 0))) m 4 (.int (iN 1))) m 5 (.int (iN 0))) m (m + 1) := ((Off.ofs (a := m)).tr (Off.ofs (a := m)) m (m + 1)).tr Off.ofs m (m + 1)
  have hs1 : ari (stf (stf (stf h m 3 (.int (iN 0))) m 4 (.int (iN 1))) m 5 (.int (iN 0))) (m + 1) 100 sc := (o1.2 _ (by omega)).trans hs
  refine en_X9_readText (b_X9_readText_0 hm.n3 (hm.s3 0).n4 ((hm.s3 0).s4 1).n5 m1.o (s_isNext (p := 0) m1 hs1 hn (by omega) hc (c := 84) (by omega)) (fun v h2 hv => ?_))
  obtain ⟨rfl, rfl⟩ := hv
  refine b_X9_readText_22 m1.o (s_accept (p := 0) (g := true) m1 (decide (sgn sc n 0 = 84))) (fun h3 hv => ?_)
  obtain ⟨m3, o3⟩ := hv
  have hs3 : ari h3 (m + 1) 100 sc := (o3.2 _ (by omega)).trans hs1
  have e0 : ((if (true && decide (sgn sc n 0 = 84)) = true then 0 + 1 else 0 : Nat) : Int) = ((hd0 sc n).1 : Int) ∧ (true && decide (sgn sc n 0 = 84)) = (!(hd0 sc n).2) := by
    unfold hd0
    by_cases q : sgn sc n 0 = 84
    · rw [if_pos q, decide_eq_true q]; exact ⟨rfl, rfl⟩
    · rw [if_neg q, decide_eq_false q]; exact ⟨rfl, rfl⟩
  rw [e0.1, e0.2] at m3
  have p1 : (hd0 sc n).1 ≤ 1 := by
    unfold hd0; split
    · exact Nat.le_refl _
    · exact Nat.zero_le _
  have GA := g2_rN sc n (lo := 8) (hi := 64) (by omega) (hd0 sc n).1 (hd0 sc n).2
  change _ = (hA sc n).2 ∧ ((hA sc n).2.2 = false → _ = (hA sc n).1) at GA
  have GB := g3_rN sc n (hA sc n).2.1 (hA sc n).2.2
  change _ = (hB sc n).2 ∧ ((hB sc n).2.2 = false → _ = (hB sc n).1) at GB
  have ra := rN_rg sc n 8 64 2 0 (hd0 sc n).1 (hd0 sc n).2
  change _ ≤ (hA sc n).2.1 ∧ (hA sc n).2.1 ≤ _ ∧ _ at ra
  refine b_X9_readText_25 m3.o (s_two m3 hs3 hn (by omega) hc (lo := 8) (hi := 64) (by omega)) (fun v h4 hv => ?_)
  obtain ⟨ev, m4, o4⟩ := hv
  rw [GA.1] at m4
  have hs4 : ari h4 (m + 1) 100 sc := (o4.2 _ (by omega)).trans hs3
  refine b_X9_readText_33 m4.o (s_digit m4 hs4 hn (by omega) hc (lo := 0) (hi := 1) (by omega) (by omega)) (fun v5 h5 hv => ?_)
  obtain ⟨ev5, m5, o5⟩ := hv
  have hs5 : ari h5 (m + 1) 100 sc := (o5.2 _ (by omega)).trans hs4
  have r5 := g1_rg sc n (lo := 0) (hi := 1) (by omega) (hA sc n).2.1 (hA sc n).2.2
  rw [← ev5] at r5
  have o15 : Off h h5 m (m + 1) := ((o1.tr o3 m (m + 1)).tr o4 m (m + 1)).tr o5 m (m + 1)
  -- the rest, once all three numbers are read
  have Rest : ∀ (h6 : AH) (w l2 : Int), w = (g2 sc n 0 (if v5 = 1 then 28 else 99) (g1 sc n 0 1 (hA sc n).2.1 (hA sc n).2.2).2.1 (g1 sc n 0 1 (hA sc n).2.1 (hA sc n).2.2).2.2).1 →
      mob h6 m rf n ((g2 sc n 0 (if v5 = 1 then 28 else 99) (g1 sc n 0 1 (hA sc n).2.1 (hA sc n).2.2).2.1 (g1 sc n 0 1 (hA sc n).2.1 (hA sc n).2.2).2.2).2.1 : Int) (bI (!(g2 sc n 0 (if v5 = 1 then 28 else 99) (g1 sc n 0 1 (hA sc n).2.1 (hA sc n).2.2).2.1 (g1 sc n 0 1 (hA sc n).2.1 (hA sc n).2.2).2.2).2.2)) 0 ac → Off h h6 m (m + 1) →
      AW mX9_readText 8 0 0 62 [.ref m, .int (iN v), .int (iN l2), vU] [.int (iN w), .int (iN (100 * v5))] h6 (qI (fun v h' => v = fpV sc n ∧ Ch h h' m (m + 2) ∧ ∃ sp' gd' lf' rd', mob h' m rf n sp' gd' lf' ac ∧ ari h' (m + 2) 690 rd' ∧ (fpV sc n = -1 → rd' = (lodX sc n).2.2.1 ∧ lf' = (lodX sc n).2.2.2 ∧ Inv rd' ∧ (hB sc n).2.2 = false ∧ (lodX sc n).2.1 = false))) := by
    intro h6 w l2 ew m6 o6
    have e3 : g3 sc n (hA sc n).2.1 (hA sc n).2.2 = (100 * v5 + w, (g2 sc n 0 (if v5 = 1 then 28 else 99) (g1 sc n 0 1 (hA sc n).2.1 (hA sc n).2.2).2.1 (g1 sc n 0 1 (hA sc n).2.1 (hA sc n).2.2).2.2).2) := by
      unfold g3
      rw [← ev5, ← ew]
    rw [e3] at GB
    have GB1 : (g2 sc n 0 (if v5 = 1 then 28 else 99) (g1 sc n 0 1 (hA sc n).2.1 (hA sc n).2.2).2.1 (g1 sc n 0 1 (hA sc n).2.1 (hA sc n).2.2).2.2).2 = (hB sc n).2 := GB.1
    rw [GB1] at m6
    have hr6 : ari h6 (m + 2) 690 rd := (o6.2 _ (by omega)).trans hr
    have hs6 : ari h6 (m + 1) 100 sc := (o6.2 _ (by omega)).trans hs
    have hb := hB_rg sc n
    refine b_X9_readText_62 m6.r6 (s_clean hr6 v (100 * v5 + w)) (fun h7 r7 => ?_)
    have m7 := m6.off (r7.off (m + 2) (m + 3))
    have o7 : Ch h h7 m (m + 2) := (o6.c1 _).tr (r7.c2 m)
    have hs7 : ari h7 (m + 1) 100 sc := ((r7.off (m + 2) (m + 3)).2 _ (by omega)).trans hs6
    cases hw : (hB sc n).2.2
    · -- sound so far
      rw [hw] at m7
      have hg := hb.2 hw
      have aw : (hA sc n).2.2 = false := ((rN_rg sc n 0 128 3 0 (hA sc n).2.1 (hA sc n).2.2).2.2 hw).1
      have evA : v = (hA sc n).1 := ev.trans (GA.2 aw)
      have evB : 100 * v5 + w = (hB sc n).1 := GB.2 hw
      have hr7 : ari h7 (m + 2) 690 (clean (hA sc n).1 (hB sc n).1) := by rw [← evA, ← evB]; exact r7.a
      have I7 : Inv (clean (hA sc n).1 (hB sc n).1) := InvClean hg.2.1 hg.2.2
      have Fin : ∀ (h8 : AH) (p2 : Nat) (w2 : Bool) (r2 : Nat → Int) (l : Int) (a2 a3 : Int), mob h8 m rf n p2 (bI (!w2)) l ac → ari h8 (m + 2) 690 r2 → Inv r2 → Ch h h8 m (m + 2) → lodX sc n = (p2, w2, r2, l) →
          AW mX9_readText 8 0 0 98 [.ref m, .int (iN v), .int (iN a2), .int (iN a3)] [] h8 (qI (fun v h' => v = fpV sc n ∧ Ch h h' m (m + 2) ∧ ∃ sp' gd' lf' rd', mob h' m rf n sp' gd' lf' ac ∧ ari h' (m + 2) 690 rd' ∧ (fpV sc n = -1 → rd' = (lodX sc n).2.2.1 ∧ lf' = (lodX sc n).2.2.2 ∧ Inv rd' ∧ (false : Bool) = false ∧ (lodX sc n).2.1 = false))) := by
        intro h8 p2 w2 r2 l a2 a3 m8 hr8 I8 o8 e
        have eP := rdX_P sc n 100 (hB sc n).2.1 false (clean (hA sc n).1 (hB sc n).1) 0
        change ((lodX sc n).1, (lodX sc n).2.1) = _ at eP
        rw [e] at eP
        have ef : fpV sc n = if w2 = true then (p2 : Int) else -1 := by
          unfold fpV rdF
          rw [hw, ← eP]
        refine b_X9_readText_98 m8.n4 (fun y => ?_) (fun y => ?_)
        · have : w2 = true := by
            have := bI_0.mp y
            cases w2
            · exact absurd this (by decide)
            · rfl
          subst this
          rw [if_pos rfl] at ef
          refine b_X9_readText_109 m8.n3 (rI ⟨ef.symm, o8, _, _, _, _, m8, hr8, fun z => by omega⟩)
        · have : w2 = false := by
            have := bI_n0 y
            cases w2
            · rfl
            · exact absurd this (by decide)
          subst this
          rw [if_neg (by decide)] at ef
          refine b_X9_readText_105 (rI ⟨ef.symm, o8, _, _, _, _, m8, hr8, fun z => ?_⟩)
          rw [e]
          exact ⟨rfl, rfl, I8, rfl, rfl⟩
      have H : ∀ (k : Nat) (h8 : AH) (p2 : Nat) (w2 : Bool) (r2 : Nat → Int) (l : Int) (a2 a3 : Int), (w2 = false → 100 ≤ p2 + k) → p2 ≤ 200 → mob h8 m rf n p2 (bI (!w2)) l ac → ari h8 (m + 2) 690 r2 → Inv r2 → Ch h h8 m (m + 2) → ari h8 (m + 1) 100 sc → lodX sc n = rdX sc n k p2 w2 r2 l →
          AW mX9_readText 8 0 0 73 [.ref m, .int (iN v), .int (iN a2), .int (iN a3)] [] h8 (qI (fun v h' => v = fpV sc n ∧ Ch h h' m (m + 2) ∧ ∃ sp' gd' lf' rd', mob h' m rf n sp' gd' lf' ac ∧ ari h' (m + 2) 690 rd' ∧ (fpV sc n = -1 → rd' = (lodX sc n).2.2.1 ∧ lf' = (lodX sc n).2.2.2 ∧ Inv rd' ∧ (false : Bool) = false ∧ (lodX sc n).2.1 = false))) := by
        intro k
        induction k with
        | zero =>
          intro h8 p2 w2 r2 l a2 a3 hk hp2 m8 hr8 I8 o8 hs8 e
          cases w2
          · have := hk rfl
            refine b_X9_readText_73 m8.n4 (fun y => absurd y (by decide)) (fun _ => ?_)
            refine b_X9_readText_80 m8.n3 m8.n2 (fun _ => Fin h8 p2 false r2 l a2 a3 m8 hr8 I8 o8 e) (fun y => absurd ((iN_le (by omega)).mpr (by omega)) y)
          · exact b_X9_readText_73 m8.n4 (fun _ => Fin h8 p2 true r2 l a2 a3 m8 hr8 I8 o8 e) (fun y => absurd rfl y)
        | succ k ih =>
          intro h8 p2 w2 r2 l a2 a3 hk hp2 m8 hr8 I8 o8 hs8 e
          rw [rdX_s] at e
          cases w2
          · refine b_X9_readText_73 m8.n4 (fun y => absurd y (by decide)) (fun _ => ?_)
            refine b_X9_readText_80 m8.n3 m8.n2 (fun y => ?_) (fun y => ?_)
            · have := (iN_le (by omega)).mp y
              rw [if_neg (fun z => by omega)] at e
              exact Fin h8 p2 false r2 l a2 a3 m8 hr8 I8 o8 e
            · have hpn : p2 < n := by
                rcases Nat.lt_or_ge p2 n with z | z
                · exact z
                · exact absurd ((iN_le (by omega)).mpr (by omega)) y
              rw [if_pos ⟨rfl, hpn⟩] at e
              have rb := cB_rg sc n p2 (sc p2)
              refine b_X9_readText_91 m8.o (s_rreadCommand m8 hs8 hr8 I8 hn hpn hc) (fun h9 hv => ?_)
              obtain ⟨m9, hr9, o9⟩ := hv
              refine b_X9_readText_95 ?_
              have hs9 : ari h9 (m + 1) 100 sc := (o9.2 _ (by omega) (by omega)).trans hs8
              unfold rcX at m9 hr9
              cases hw9 : (cB sc n p2 (sc p2)).2.2
              · rw [hw9, if_neg (by decide)] at e m9
                rw [hw9, if_neg (by decide)] at hr9
                have cr := cmd_rg sc n p2 (sc p2) hw9
                exact ih h9 _ false _ _ a2 a3 (fun _ => by have := rb.2.2 hw9; have := hk rfl; omega) (by omega) m9 hr9 (exC_inv I8 cr) (o8.tr o9) hs9 e
              · rw [hw9, if_pos rfl] at e m9
                rw [hw9, if_pos rfl] at hr9
                refine ih h9 _ true _ _ a2 a3 (fun z => tnf z) (by omega) m9 hr9 I8 (o8.tr o9) hs9 ?_
                rw [e]
                cases k
                · rfl
                · rw [rdX_s, if_neg (fun z => tnf z.1)]
          · refine b_X9_readText_73 m8.n4 (fun _ => ?_) (fun y => absurd rfl y)
            rw [if_neg (fun z => tnf z.1)] at e
            exact Fin h8 p2 true r2 l a2 a3 m8 hr8 I8 o8 e
      exact H 100 h7 _ false _ 0 _ _ (fun _ => by omega) (by omega) m7 hr7 I7 o7 hs7 rfl
    · -- the head is wrong
      rw [hw] at m7
      have ef : fpV sc n = ((hB sc n).2.1 : Int) := by
        unfold fpV rdF
        rw [hw, rdP_w]; rfl
      refine b_X9_readText_73 m7.n4 (fun _ => ?_) (fun y => absurd rfl y)
      refine b_X9_readText_98 m7.n4 (fun _ => ?_) (fun y => absurd rfl y)
      exact b_X9_readText_109 m7.n3 (rI ⟨ef.symm, o7, _, _, _, _, m7, r7.a, fun z => by omega⟩)
  refine b_X9_readText_40 (fun q => ?_) (fun q => ?_)
  · have q1 : ¬ v5 = 1 := fun z => q (by rw [z])
    refine b_X9_readText_57 m5.o (s_two m5 hs5 hn (by omega) hc (lo := 0) (hi := 99) (by omega)) (fun v6 h6 hv => ?_)
    obtain ⟨ev6, m6, o6⟩ := hv
    have ei : (if v5 = 1 then (28 : Int) else 99) = 99 := if_neg q1
    exact Rest h6 v6 v5 (by rw [ei]; exact ev6) (by rw [ei]; exact m6) (o15.tr o6 m (m + 1))
  · have q1 := (iN_eq (by omega)).mp q
    refine b_X9_readText_52 m5.o (s_two m5 hs5 hn (by omega) hc (lo := 0) (hi := 28) (by omega)) (fun v6 h6 hv => ?_)
    obtain ⟨ev6, m6, o6⟩ := hv
    have ei : (if v5 = 1 then (28 : Int) else 99) = 28 := if_pos q1
    exact Rest h6 v6 v5 (by rw [ei]; exact ev6) (by rw [ei]; exact m6) (o15.tr o6 m (m + 1))
end REFC2
