/-! takeSite -/
section SITE
variable {h : AH} {c : Nat} {N : Nat → Int} {X : Nat → Nat → Int} {k m : Int} {r : Nat → Int}
def tsV (r : Nat → Int) (z s : Int) : Int := if whereIn r z s = 3 then -1 else if whereIn r z s = 0 then lastU r else r 1
theorem p0_c {z s : Int} (hg : okG r) (w : whereIn r z s = 0) {c : Nat} (hc : c % 4 ≠ 0 ∨ c < 106 ∨ 314 ≤ c) : pitchOn r z s c = r c := by
  have hr := roomOn_sp (where_0.mp w)
  have hl := last_sp hg hr.1
  have hn := hg.n
  rw [pitchOn_0 w, up_ne _ _ (by omega)]
theorem p0_e {z s : Int} (hg : okG r) (w : whereIn r z s = 0) : pitchOn r z s (108 + 4 * (lastU r).toNat) = roomOn r z s + z := by
  rw [pitchOn_0 w, up_same]
theorem Agr.nums (ha : Agr k m N X r) : N 0 = r 7 ∧ N 1 = k ∧ N 2 = r 9 ∧ N 3 = r 6 ∧ N 4 = r 4 ∧ N 5 = m ∧ N 6 = allP r ∧ N 7 = r 0 ∧ N 8 = r 3 ∧ N 9 = r 1 ∧ N 10 = r 2 := ha.1
theorem campX.uu (hc : campX h c N X) (ha : Agr k m N X r) (hg : okG r) : fields h (c + 17) (nF r) (X 7) (X 8) (X 9) (X 10) := by
  have : ((nF r : Nat) : Int) = N 9 := by rw [ha.nums.2.2.2.2.2.2.2.2.2.1]; have := hg.1.1; unfold nF; omega
  rw [this]; exact hc.u
theorem campX.ss (hc : campX h c N X) (ha : Agr k m N X r) (hg : okG r) : fields h (c + 26) (nS r) (X 11) (X 12) (X 13) (X 14) := by
  have : ((nS r : Nat) : Int) = N 10 := by rw [ha.nums.2.2.2.2.2.2.2.2.2.2]; have := hg.1.2.1; unfold nS; omega
  rw [this]; exact hc.s
theorem campX.tt (hc : campX h c N X) (ha : Agr k m N X r) (h0 : 0 ≤ r 0) : tents h (c + 3) (nT r) (X 1) (X 2) (X 3) (X 4) := by
  have : ((nT r : Nat) : Int) = N 7 := by rw [ha.nums.2.2.2.2.2.2.2.1]; unfold nT; omega
  rw [this]; exact hc.t
theorem campX.ff (hc : campX h c N X) (ha : Agr k m N X r) (h0 : 0 ≤ r 3) : frames h (c + 12) (nR r) (X 5) (X 6) := by
  have : ((nR r : Nat) : Int) = N 8 := by rw [ha.nums.2.2.2.2.2.2.2.2.1]; unfold nR; omega
  rw [this]; exact hc.f
theorem s_takeSite (hc : campX h c N X) (ha : Agr k m N X r) (hg : okG r) (h0 : 0 ≤ r 0 ∧ r 0 ≤ 24) (h3 : 0 ≤ r 3 ∧ r 3 ≤ 8) {z s : Int} (hz : 1 ≤ z ∧ z ≤ 40) (hs : s = 1 ∨ s = 2 ∨ s = 4 ∨ s = 8) : CtI mX0_takeSite 3 0 0 [.ref c, .int (iN z), .int (iN s)] h (fun v h' => v = tsV r z s ∧ (∃ N' X', campX h' c N' X' ∧ Agr k m N' X' (pitchOn r z s)) ∧ Off h h' c (c + 35)) := by
  have hk := hg.k
  have h1 := hk.1
  have h2 := hk.2.1
  have hn := hg.n
  have hap := hk.ap
  have n1 : r 1 = (nF r : Int) := by unfold nF; omega
  have n2 : r 2 = (nS r : Int) := by unfold nS; omega
  have hu := hc.uu ha hg
  have hsp := hc.ss ha hg
  obtain ⟨a0, a1, a2, a3, a4, a5, a6, a7, a8, a9, a10⟩ := ha.nums
  obtain ⟨-, av, at', af, au, as'⟩ := ha
  have ha : Agr k m N X r := ⟨⟨a0, a1, a2, a3, a4, a5, a6, a7, a8, a9, a10⟩, av, at', af, au, as'⟩
  have eL : lst (X 9) (nF r) = lastU r := lst_congr (fun f hf => (au f (by omega)).2.2.1)
  have eS : sml (X 12) z (nS r) = spareFor r z := sml_congr (fun i hi => (as' i (by omega)).2)
  have bX : ∀ f, f < nF r → X 9 f = 0 ∨ X 9 f = 1 := fun f hf => by rw [(au f (by omega)).2.2.1]; exact (hk.2.2.2.1 f hf).1
  have zX : ∀ i, i < nS r → 0 ≤ X 12 i ∧ X 12 i ≤ 1000 := fun i hi => by
    rw [(as' i (by omega)).2]
    have := hk.2.2.2.2 i hi; omega
  have hw := where_rg r z s
  have tw : (iN (whereIn r z s)).toInt = whereIn r z s := iN_T (by omega)
  have plo : ∀ c, c < 106 → c ≠ 1 → c ≠ 2 → c ≠ 5 → pitchOn r z s c = r c := fun c q1 q2 q3 q4 => pitchOn_lo hg q1 q2 q3 q4
  refine en_X0_takeSite (b_X0_takeSite_0 hc.o (s_siteFor hc ha hk hz hs) (fun v h' hv => ?_))
  obtain ⟨rfl, rfl⟩ := hv
  refine b_X0_takeSite_6 (fun w => ?_) (fun w => ?_) (fun w => ?_) (fun w => ?_)
  · rw [tw] at w
    have hr := roomOn_sp (where_0.mp w)
    obtain ⟨l1, l2, l3⟩ := last_sp hg hr.1
    have lb : (lastU r).toNat < 51 := by omega
    refine b_X0_takeSite_32 hc.ru hu.o (s_lastUsual (nF r) hu (by omega) bX) (fun v h2 hv => ?_)
    obtain ⟨rfl, rfl⟩ := hv
    rw [eL]
    refine b_X0_takeSite_39 hc.ru hu.f4 hc.o (by rw [l3]; exact s_openPlace hc ha hk l1 hs) (fun v h2 hv => ?_)
    obtain ⟨rfl, rfl⟩ := hv
    refine b_X0_takeSite_54 hu.2.2.2.2.o (s_put hu.2.2.2.2 (z := lastU r) (by omega) (by omega)) (fun h3 e3 => ?_)
    have hu3 : fields h3 (c + 17) (nF r) (X 7) (X 8) (X 9) (up (X 10) (lastU r).toNat (openP (r (108 + 4 * (lastU r).toNat)) s + z)) := by rw [e3]; exact hu.w4 _
    have o3 : Off h2 h3 (c + 17) (c + 26) := Off.eqw e3 (c + 17) (c + 26)
    have hc3 := hc.wu hu3 o3
    refine b_X0_takeSite_59 (rI ⟨?_, ⟨_, _, hc3, ?_⟩, o3.up c (c + 35)⟩)
    · unfold tsV; rw [if_neg (by omega), if_pos w]
    have eA : allP (pitchOn r z s) = allP r := by
      unfold allP useP sparP nF nS
      rw [p0_c hg w (c := 1) (by omega), p0_c hg w (c := 2) (by omega)]
      congr 1
      · exact sm_congr (fun f hf => p0_c hg w (by omega))
      · exact sm_congr (fun f hf => p0_c hg w (by omega))
    refine ⟨⟨?_, a1, ?_, ?_, ?_, a5, ?_, ?_, ?_, ?_, ?_⟩, fun j hj => ?_, fun t ht => ?_, fun i hi => ?_, fun f hf => ?_, fun i hi => ?_⟩
    · exact a0.trans (p0_c hg w (by omega)).symm
    · exact a2.trans (p0_c hg w (by omega)).symm
    · exact a3.trans (p0_c hg w (by omega)).symm
    · exact a4.trans (p0_c hg w (by omega)).symm
    · exact a6.trans eA.symm
    · exact a7.trans (p0_c hg w (by omega)).symm
    · exact a8.trans (p0_c hg w (by omega)).symm
    · exact n1.symm.trans (p0_c hg w (by omega)).symm
    · exact a10.trans (p0_c hg w (by omega)).symm
    · rw [eA] at hj; rw [p0_c hg w (by omega)]; exact av j hj
    · rw [p0_c hg w (by omega)] at ht
      rw [p0_c hg w (by omega), p0_c hg w (by omega), p0_c hg w (by omega), p0_c hg w (by omega)]; exact at' t ht
    · rw [p0_c hg w (by omega)] at hi
      rw [p0_c hg w (by omega), p0_c hg w (by omega)]; exact af i hi
    · rw [p0_c hg w (by omega)] at hf
      have := au f hf
      rw [p0_c hg w (by omega), p0_c hg w (by omega), p0_c hg w (by omega)]
      refine ⟨this.1, this.2.1, this.2.2.1, ?_⟩
      show up (X 10) _ _ f = _
      by_cases q : f = (lastU r).toNat
      · rw [q, up_same, p0_e hg w, hr.2.1]
      · rw [up_ne _ _ q, pitchOn_0 w, up_ne _ _ (by omega)]; exact this.2.2.2
    · rw [p0_c hg w (by omega)] at hi
      rw [p0_c hg w (by omega), p0_c hg w (by omega)]; exact as' i hi
  · rw [tw] at w
    obtain ⟨p1, p2, p3⟩ := spare_sp hg (where_1.mp w).2
    generalize hi9 : (spareFor r z).toNat = i at *
    have hi : i < nS r := p1
    refine b_X0_takeSite_61 hc.rs hsp.o (s_smallestFor (nS r) hsp (by omega) zX (by omega)) (fun v h2 hv => ?_)
    obtain ⟨rfl, rfl⟩ := hv
    rw [eS, p3]
    have asi := as' i (by omega)
    refine b_X0_takeSite_69 hc.ru hc.rs hsp.f1 hsp.2.1.o (s_get hsp.2.1 (z := (i : Int)) (by omega) (by omega)) (fun v h2 hv => ?_)
    obtain ⟨rfl, rfl⟩ := hv
    refine b_X0_takeSite_87 hc.rs hsp.f2 hsp.2.2.1.o (s_get hsp.2.2.1 (z := (i : Int)) (by omega) (by omega)) (fun v h2 hv => ?_)
    obtain ⟨rfl, rfl⟩ := hv
    refine b_X0_takeSite_99 hc.o (s_wantsBig hc ha hk (by omega)) (fun v h2 hv => ?_)
    obtain ⟨rfl, rfl⟩ := hv
    rw [Int.toNat_natCast, asi.1, asi.2]
    refine b_X0_takeSite_104 hu.o (s_add (nF r) hu (by omega)) (fun h3 hv => ?_)
    obtain ⟨hu3, o3⟩ := hv
    have hc3 := hc.wu hu3 (o3.up _ _)
    have hs3 := hsp.off o3
    refine b_X0_takeSite_108 hc3.rs hs3.o (s_remove (nS r) i hs3 (by omega) hi) (fun h4 hv => ?_)
    obtain ⟨hs4, o4⟩ := hv
    have hc4 := hc3.ws hs4 (o4.up _ _)
    refine b_X0_takeSite_117 hc4.ru hc4.u.n0 (rI ⟨?_, ⟨_, _, hc4, ?_⟩, (o3.tr o4 c (c + 35))⟩)
    · show (nF r : Int) + 1 - 1 = _
      unfold tsV; rw [if_neg (by omega), if_neg (by omega)]; omega
    have C : ∀ c, c ≠ 5 → pitchOn r z s c =
        if c = 1 then r 1 + 1 else if c = 108 + 4 * nF r then z else if c = 107 + 4 * nF r then bI (isBig r z) else
        if c = 2 then r 2 - 1 else if 314 + 2 * i ≤ c ∧ c < 312 + 2 * nS r then r (c + 2) else
        if c = 109 + 4 * nF r then r (315 + 2 * i) else if c = 106 + 4 * nF r then r (314 + 2 * i) else r c := by
      intro c hc
      rw [pitchOn_1 w, maxF_c _ hc, hi9, addF_tk hi (by omega)]
    have eA : allP (pitchOn r z s) = allP r := by
      rw [pitchOn_1 w, hi9, (maxF_ok (tk_ok hg hi (by omega) p2).1).2, (tk_ok hg hi (by omega) p2).2]
    have c1 : pitchOn r z s 1 = r 1 + 1 := by rw [C 1 (by omega), if_pos rfl]
    have c2 : pitchOn r z s 2 = r 2 - 1 := by rw [C 2 (by omega), if_neg (by omega), if_neg (by omega), if_neg (by omega), if_pos rfl]
    have hi' : ∀ c, 418 ≤ c → pitchOn r z s c = r c := fun c hc => by
      rw [C c (by omega), if_neg (by omega), if_neg (by omega), if_neg (by omega), if_neg (by omega), if_neg (by omega), if_neg (by omega), if_neg (by omega)]
    refine ⟨⟨a0.trans (plo 7 (by omega) (by omega) (by omega) (by omega)).symm, a1, a2.trans (plo 9 (by omega) (by omega) (by omega) (by omega)).symm, a3.trans (plo 6 (by omega) (by omega) (by omega) (by omega)).symm, a4.trans (plo 4 (by omega) (by omega) (by omega) (by omega)).symm, a5, a6.trans eA.symm, a7.trans (plo 0 (by omega) (by omega) (by omega) (by omega)).symm, a8.trans (plo 3 (by omega) (by omega) (by omega) (by omega)).symm, ?_, ?_⟩, fun j hj => ?_, fun t ht => ?_, fun i hi => ?_, fun f hf => ?_, fun j hj => ?_⟩
    · show (nF r : Int) + 1 = _; rw [c1]; omega
    · show (nS r : Int) - 1 = _; rw [c2]; omega
    · rw [eA] at hj; rw [hi' _ (by omega)]; exact av j hj
    · rw [plo 0 (by omega) (by omega) (by omega) (by omega)] at ht
      rw [plo _ (by omega) (by omega) (by omega) (by omega), plo _ (by omega) (by omega) (by omega) (by omega), plo _ (by omega) (by omega) (by omega) (by omega), plo _ (by omega) (by omega) (by omega) (by omega)]; exact at' t ht
    · rw [plo 3 (by omega) (by omega) (by omega) (by omega)] at hi
      rw [hi' _ (by omega), hi' _ (by omega)]; exact af i hi
    · rw [c1] at hf
      show up (X 7) _ _ f = _ ∧ up (X 8) _ _ f = _ ∧ up (X 9) _ _ f = _ ∧ up (X 10) _ _ f = _
      by_cases q : f = nF r
      · rw [q, up_same, up_same, up_same, up_same, C _ (by omega), C _ (by omega), C _ (by omega), C _ (by omega)]
        simp (disch := omega) only [if_neg, if_pos, if_true, and_self]
      · have := au f (by omega)
        rw [up_ne _ _ q, up_ne _ _ q, up_ne _ _ q, up_ne _ _ q, C _ (by omega), C _ (by omega), C _ (by omega), C _ (by omega)]
        simp (disch := omega) only [if_neg, if_pos]
        exact this
    · rw [c2] at hj
      show cutf (X 11) i 1 51 j = _ ∧ cutf (X 12) i 1 51 j = _
      unfold cutf
      rw [C _ (by omega), C _ (by omega)]
      by_cases q : j < i
      · have := as' j (by omega)
        simp (disch := omega) only [if_neg, if_pos]
        exact this
      · have := as' (j + 1) (by omega)
        simp (disch := omega) only [if_neg, if_pos]
        exact this
  · rw [tw] at w
    have w2 := where_2.mp w
    have hns := newSz_lo hg hz
    have ok := mk_ok hg (z := z) (by omega) hns.2.2 ⟨hns.1, hns.2.1⟩ w2.2.2
    have C : ∀ c, c ≠ 5 → pitchOn r z s c =
        if c = 1 then r 1 + 1 else if c = 108 + 4 * nF r then z else if c = 107 + 4 * nF r then bI (isBig r z) else
        if 434 + (allP r).toNat ≤ c ∧ c < 434 + (allP r).toNat + (newSz r z).toNat then 0 else
        if c = 109 + 4 * nF r then allP r else if c = 106 + 4 * nF r then newSz r z else r c := by
      intro c hc
      rw [pitchOn_2 w, maxF_c _ hc, addF_mk]
    have eA : allP (pitchOn r z s) = allP r + newSz r z := by
      rw [pitchOn_2 w, (maxF_ok ok.1).2, ok.2]
    have c1 : pitchOn r z s 1 = r 1 + 1 := by rw [C 1 (by omega), if_pos rfl]
    have n50 : nF r ≤ 50 := by
      have := (pitchOn_ok hg hz (s := s) (by omega)).n
      have e : nF (pitchOn r z s) = nF r + 1 := by unfold nF; rw [c1]; omega
      omega
    have c2 : pitchOn r z s 2 = r 2 := by rw [C 2 (by omega)]; simp (disch := omega) only [if_neg]
    refine b_X0_takeSite_127 hc.o (s_newFieldSize hc ha hk (by omega)) (fun v h2 hv => ?_)
    obtain ⟨rfl, rfl⟩ := hv
    have eP : ((allP r).toNat : Int) = allP r := by omega
    have eQ : (((allP r).toNat + (newSz r z).toNat : Nat) : Int) = allP r + newSz r z := by omega
    refine b_X0_takeSite_132 hc.rv (hc.n6.ev a6) (hc.n6.ev a6) hc.v.o (by rw [← eQ, ← eP]; exact s_strew hc.v (p := (allP r).toNat) (q := (allP r).toNat + (newSz r z).toNat) (by omega) (by omega)) (fun h3 e3 => ?_)
    have o3 : Off h2 h3 (c + 1) (c + 3) := Off.eqw e3 (c + 1) (c + 3)
    have hc3 := hc.wv (g := strw (X 0) 0 (allP r).toNat ((allP r).toNat + (newSz r z).toNat)) (by rw [e3]; exact hc.v.w _) o3
    have ha3 : Agr k m N (upX X 0 (strw (X 0) 0 (allP r).toNat ((allP r).toNat + (newSz r z).toNat))) r := by
      refine ⟨⟨a0, a1, a2, a3, a4, a5, a6, a7, a8, a9, a10⟩, fun j hj => ?_, at', af, au, as'⟩
      show strw _ _ _ _ j = _
      rw [strw_out _ _ _ _ (by omega)]; exact av j hj
    refine b_X0_takeSite_153 hc3.ru (hc3.n6.ev a6) hc3.o (s_wantsBig hc3 ha3 hk (by omega)) (fun v h4 hv => ?_)
    obtain ⟨rfl, rfl⟩ := hv
    have hu3 := hu.off o3
    refine b_X0_takeSite_168 hu3.o (s_add (nF r) hu3 (by omega)) (fun h5 hv => ?_)
    obtain ⟨hu5, o5⟩ := hv
    have hc5 := hc3.wu hu5 (o5.up _ _)
    have hc6 := hc5.setn 6 (allP r + newSz r z)
    refine b_X0_takeSite_172 (hc5.n6.ev a6) hc5.n6 hc6.ru hc6.u.n0 (rI ⟨?_, ⟨_, _, hc6, ?_⟩, ((o3.tr o5 c (c + 35)).tr (Off.ofs (a := c)) c (c + 35))⟩)
    · show (nF r : Int) + 1 - 1 = _
      unfold tsV; rw [if_neg (by omega), if_neg (by omega)]; omega
    refine ⟨⟨a0.trans (plo 7 (by omega) (by omega) (by omega) (by omega)).symm, a1, a2.trans (plo 9 (by omega) (by omega) (by omega) (by omega)).symm, a3.trans (plo 6 (by omega) (by omega) (by omega) (by omega)).symm, a4.trans (plo 4 (by omega) (by omega) (by omega) (by omega)).symm, a5, eA.symm, a7.trans (plo 0 (by omega) (by omega) (by omega) (by omega)).symm, a8.trans (plo 3 (by omega) (by omega) (by omega) (by omega)).symm, ?_, a10.trans c2.symm⟩, fun j hj => ?_, fun t ht => ?_, fun i hi => ?_, fun f hf => ?_, fun j hj => ?_⟩
    · show (nF r : Int) + 1 = _; rw [c1]; omega
    · rw [eA] at hj
      show strw (X 0) 0 _ _ j = _
      rw [C _ (by omega)]
      by_cases q : j < (allP r).toNat
      · rw [strw_out _ _ _ _ (by omega)]
        simp (disch := omega) only [if_neg]
        exact av j (by omega)
      · rw [strw_in _ _ _ _ (by omega)]
        simp (disch := omega) only [if_neg, if_pos]
    · rw [plo 0 (by omega) (by omega) (by omega) (by omega)] at ht
      rw [plo _ (by omega) (by omega) (by omega) (by omega), plo _ (by omega) (by omega) (by omega) (by omega), plo _ (by omega) (by omega) (by omega) (by omega), plo _ (by omega) (by omega) (by omega) (by omega)]; exact at' t ht
    · rw [plo 3 (by omega) (by omega) (by omega) (by omega)] at hi
      rw [C _ (by omega), C _ (by omega)]
      simp (disch := omega) only [if_neg]
      exact af i hi
    · rw [c1] at hf
      show up (X 7) _ _ f = _ ∧ up (X 8) _ _ f = _ ∧ up (X 9) _ _ f = _ ∧ up (X 10) _ _ f = _
      by_cases q : f = nF r
      · rw [q, up_same, up_same, up_same, up_same, C _ (by omega), C _ (by omega), C _ (by omega), C _ (by omega)]
        simp (disch := omega) only [if_neg, if_pos, if_true, and_self]
      · have := au f (by omega)
        rw [up_ne _ _ q, up_ne _ _ q, up_ne _ _ q, up_ne _ _ q, C _ (by omega), C _ (by omega), C _ (by omega), C _ (by omega)]
        simp (disch := omega) only [if_neg, if_pos]
        exact this
    · rw [c2] at hj
      show X 11 j = _ ∧ X 12 j = _
      rw [C _ (by omega), C _ (by omega)]
      simp (disch := omega) only [if_neg]
      exact as' j hj
  · rw [tw] at w
    have w3 : whereIn r z s = 3 := by omega
    refine b_X0_takeSite_193 (rI ⟨by unfold tsV; rw [if_pos w3], ⟨_, _, hc, by rw [pitchOn_3 w3]; exact ha⟩, Off.rf⟩)
end SITE
