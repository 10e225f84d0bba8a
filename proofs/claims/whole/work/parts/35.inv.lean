/-! what stays true of a row -/
section INV
variable {r : Nat → Int}
def frmOK (r : Nat → Int) (i : Nat) : Prop :=
  (0 ≤ r (418 + 2 * i) ∧ r (418 + 2 * i) ≤ r 0) ∧ (0 ≤ r (419 + 2 * i) ∧ r (419 + 2 * i) ≤ r 1) ∧ (∀ t : Nat, (t : Int) < r (418 + 2 * i) → r (10 + 4 * t) < r (419 + 2 * i)) ∧
  hasT r (r (418 + 2 * i)) (r (419 + 2 * i)) ∧ (∀ j : Nat, j < i → r (418 + 2 * j) ≤ r (418 + 2 * i) ∧ r (419 + 2 * j) ≤ r (419 + 2 * i))
def Inv (r : Nat → Int) : Prop :=
  okG r ∧ okT r ∧ okV r ∧ okN r ∧ (0 ≤ r 8 ∧ r 8 ≤ 128) ∧ (r 9 = 0 ∨ r 9 = 1) ∧ hasT r (r 0) (r 1) ∧ (∀ i : Nat, (i : Int) < r 3 → frmOK r i)
theorem Inv.J (hI : Inv r) {i : Nat} (hi : (i : Int) < r 3) : okJ r i := by
  obtain ⟨hg, ht, hv, hN, h8, h9, hh, hf⟩ := hI
  obtain ⟨f1, f2, f3, f4, f5⟩ := hf i hi
  exact ⟨⟨hg, ht, h8, h9, f1, f2, f3⟩, hv, hN.1, f4⟩
theorem hasT.cg {g : Nat → Int} {T F : Int} (h : hasT r T F) (hT : T ≤ 24) (e : ∀ c, 10 ≤ c → c < 106 → g c = r c) : hasT g T F := by
  intro f hf
  obtain ⟨t, h1, h2⟩ := h f hf
  exact ⟨t, h1, by rw [e _ (by omega) (by omega)]; exact h2⟩
theorem frmOK.cg {g : Nat → Int} {i : Nat} (hf : frmOK r i) (hi : i < 8) (h0 : r 0 ≤ 24) (e : ∀ c : Nat, 10 ≤ c → c < 106 → (c : Int) < 10 + 4 * r 0 → g c = r c) (e2 : ∀ c, 418 ≤ c → c < 420 + 2 * i → g c = r c) (l0 : r (418 + 2 * i) ≤ g 0) (l1 : r (419 + 2 * i) ≤ g 1) : frmOK g i := by
  obtain ⟨f1, f2, f3, f4, f5⟩ := hf
  unfold frmOK
  rw [e2 (418 + 2 * i) (by omega) (by omega), e2 (419 + 2 * i) (by omega) (by omega)]
  refine ⟨⟨f1.1, l0⟩, ⟨f2.1, l1⟩, fun t ht => ?_, fun f hf => ?_, fun j hj => ?_⟩
  · rw [e _ (by omega) (by omega) (by omega)]; exact f3 t ht
  · obtain ⟨t, t1, t2⟩ := f4 f hf
    exact ⟨t, t1, by rw [e _ (by omega) (by omega) (by omega)]; exact t2⟩
  · rw [e2 _ (by omega) (by omega), e2 _ (by omega) (by omega)]; exact f5 j hj
theorem InvClean {u k : Int} (hu : 8 ≤ u ∧ u ≤ 64) (hk : 0 ≤ k ∧ k ≤ 128) : Inv (clean u k) := by
  have c0 : ∀ c, c ≠ 7 → c ≠ 8 → c ≠ 9 → clean u k c = 0 := fun c h1 h2 h3 => by unfold clean; rw [if_neg h1, if_neg h2, if_neg h3]
  have z0 := c0 0 (by omega) (by omega) (by omega)
  have z1 := c0 1 (by omega) (by omega) (by omega)
  have z2 := c0 2 (by omega) (by omega) (by omega)
  have z3 := c0 3 (by omega) (by omega) (by omega)
  have z4 := c0 4 (by omega) (by omega) (by omega)
  have z5 := c0 5 (by omega) (by omega) (by omega)
  have e7 : clean u k 7 = u := rfl
  have e8 : clean u k 8 = k := rfl
  have e9 : clean u k 9 = 1 := rfl
  have eF : nF (clean u k) = 0 := by unfold nF; rw [z1]; rfl
  have eS : nS (clean u k) = 0 := by unfold nS; rw [z2]; rfl
  have eT : nT (clean u k) = 0 := by unfold nT; rw [z0]; rfl
  have eA := allP_clean u k
  refine ⟨⟨⟨by omega, by omega, by omega, by omega⟩, fun f hf => by omega, fun j hj => by omega, fun i j hi => by omega⟩, ⟨by omega, fun t ht => by omega⟩, fun j hj => ?_, ⟨by omega, by omega, by omega⟩, by omega, by omega, fun f hf => by omega, fun i hi => by omega⟩
  rw [c0 _ (by omega) (by omega) (by omega)]; omega
theorem Inv.pitch (hI : Inv r) (h24 : r 0 < 24) {z s : Int} (hz : 1 ≤ z ∧ z ≤ 40) (hs : s = 1 ∨ s = 2 ∨ s = 4 ∨ s = 8) (w3 : whereIn r z s ≠ 3) : Inv (pitchIn r z s) := by
  obtain ⟨hg, ht, hv, hN, h8, h9, hh, hf⟩ := hI
  have hs8 : 1 ≤ s ∧ s ≤ 8 := by omega
  have h0 := ht.1
  have n0 : r 0 = (nT r : Int) := by unfold nT; omega
  have h1 := hg.k.1
  have hn := hg.n
  have n1 : r 1 = (nF r : Int) := by unfold nF; omega
  have hp := pitchOn_ok hg hz hs8
  have hpn := hp.n
  have hw := where_rg r z s
  have plo : ∀ c, c < 106 → c ≠ 1 → c ≠ 2 → c ≠ 5 → pitchOn r z s c = r c := fun c q1 q2 q3 q4 => pitchOn_lo hg q1 q2 q3 q4
  have pc : ∀ c, c ≠ 0 → c ≠ 4 → (c < 10 + 4 * nT r ∨ 14 + 4 * nT r ≤ c) → pitchIn r z s c = pitchOn r z s c := fun c q1 q2 q3 => pitchIn_c hg q1 q2 q3
  have G := hp.cg (g := pitchIn r z s) (pc 1 (by omega) (by omega) (by omega)) (pc 2 (by omega) (by omega) (by omega)) (pc 7 (by omega) (by omega) (by omega)) (fun c q1 q2 _ => pc c (by omega) (by omega) (by omega)) (fun f hf => by rw [pc _ (by omega) (by omega) (by omega)]; exact (hp.2.1 f hf).2)
  obtain ⟨q0, qf, qp, qz, qs⟩ := pitchIn_t (z := z) (s := s) hg
  obtain ⟨f1, f2, f3, f4⟩ := pF_sp hg w3 hz hs8
  have hp1 := hp.k.1
  -- the fields that were there keep their sizes
  have szs : ∀ f, f < nF r → pitchOn r z s (106 + 4 * f) = r (106 + 4 * f) := by
    intro f hf
    rcases hw with w | w | w | w
    · exact p0_c hg w (by omega)
    · obtain ⟨p1, p2, p3⟩ := spare_sp hg (where_1.mp w).2
      rw [pitchOn_1 w, maxF_c _ (by omega), addF_tk p1 (by omega)]
      simp (disch := omega) only [if_neg]
    · rw [pitchOn_2 w, maxF_c _ (by omega), addF_mk]
      simp (disch := omega) only [if_neg]
    · exact absurd w w3
  have r1le : r 1 ≤ pitchOn r z s 1 := by
    by_cases w : whereIn r z s = 0
    · rw [p0_c hg w (by omega)]; omega
    · rw [p1_eq hg (by omega)]; omega
  have p1 : pitchIn r z s 1 = pitchOn r z s 1 := pc 1 (by omega) (by omega) (by omega)
  have frc : ∀ c, 418 ≤ c → c < 434 → pitchOn r z s c = r c := by
    intro c c1 c2
    rcases hw with w | w | w | w
    · exact p0_c hg w (by omega)
    · obtain ⟨p1, p2, p3⟩ := spare_sp hg (where_1.mp w).2
      rw [pitchOn_1 w, maxF_c _ (by omega), addF_tk p1 (by omega)]
      simp (disch := omega) only [if_neg]
    · rw [pitchOn_2 w, maxF_c _ (by omega), addF_mk]
      simp (disch := omega) only [if_neg]
    · exact absurd w w3
  refine ⟨G.1, ⟨by omega, fun t htt => ?_⟩, fun j hj => ?_, ⟨?_, ?_, ?_⟩, ?_, ?_, ?_, fun i hi => ?_⟩
  · by_cases q : t = nT r
    · subst q
      unfold tnt
      rw [qf, qp, qz, qs, p1, pc _ (by omega) (by omega) (by omega)]
      refine ⟨⟨f1, f2⟩, f4, hz, ?_, hs⟩
      rw [← f3]
      exact (hp.2.1 _ (by unfold nF; omega)).2.2
    · have htr : t < nT r := by unfold nT at htt; rw [q0] at htt; omega
      have tt := ht.2 t htr
      refine tt.cg (by rw [p1]; have := tt.1; omega) (fun c c1 c2 => ?_) ?_
      · rw [pc _ (by omega) (by omega) (by omega)]; exact plo c (by omega) (by omega) (by omega) (by omega)
      · have hfm := (tnt.fm hg tt).2.2.2.2
        rw [pc _ (by omega) (by omega) (by omega)]; exact szs _ hfm
  · rw [pc _ (by omega) (by omega) (by omega)]
    have := hv j hj
    rcases hw with w | w | w | w
    · rw [p0_c hg w (by omega)]; exact this
    · obtain ⟨p1, p2, p3⟩ := spare_sp hg (where_1.mp w).2
      rw [pitchOn_1 w, maxF_c _ (by omega), addF_tk p1 (by omega)]
      simp (disch := omega) only [if_neg]; exact this
    · rw [pitchOn_2 w, maxF_c _ (by omega), addF_mk]
      rw [if_neg (by omega), if_neg (by omega), if_neg (by omega)]
      split
      · omega
      · simp (disch := omega) only [if_neg]; exact this
    · exact absurd w w3
  · rw [pc 3 (by omega) (by omega) (by omega), plo 3 (by omega) (by omega) (by omega) (by omega)]; exact hN.1
  · rw [G.2, pc 5 (by omega) (by omega) (by omega), p_5 hg hN.2.1.1 hz hs8]
    have a1 := p_all2 hg hz hs8
    have a2 := hN.2.1
    split <;> omega
  · rw [pitchIn_4 hg ⟨h0.1, h24⟩]
    have hsum := sm_rg (g := fun t => r (12 + 4 * t)) (B := 40) (by omega) (n := nT r) (fun t q => by have := (ht.2 t q).2.2.1; omega)
    have hsum2 : 0 ≤ tentP r ∧ tentP r ≤ 1000 := by unfold tentP; omega
    have a2 := hN.2.2
    split <;> omega
  · rw [pc 8 (by omega) (by omega) (by omega), plo 8 (by omega) (by omega) (by omega) (by omega)]; exact h8
  · rw [pc 9 (by omega) (by omega) (by omega), plo 9 (by omega) (by omega) (by omega) (by omega)]; exact h9
  · rw [q0, p1]
    intro f hf
    by_cases q : (f : Int) < r 1
    · obtain ⟨t, t1, t2⟩ := hh f q
      refine ⟨t, by omega, ?_⟩
      rw [pc _ (by omega) (by omega) (by omega), plo _ (by omega) (by omega) (by omega) (by omega)]; exact t2
    · refine ⟨nT r, by omega, ?_⟩
      rw [qf, pF_ts hg w3]
      unfold tsV
      rw [if_neg w3]
      by_cases w : whereIn r z s = 0
      · rw [p0_c hg w (by omega)] at hf; omega
      · rw [if_neg w]
        rw [p1_eq hg (by omega)] at hf; omega
  · rw [pc 3 (by omega) (by omega) (by omega), plo 3 (by omega) (by omega) (by omega) (by omega)] at hi
    have hfi := hf i hi
    have i8 : i < 8 := by have := hN.1.2; omega
    refine hfi.cg i8 h0.2 (fun c c1 c2 c3 => ?_) (fun c c1 c2 => ?_) (by rw [q0]; have := hfi.1; omega) (by rw [p1]; have := hfi.2.1; omega)
    · rw [pc _ (by omega) (by omega) (by omega)]; exact plo c (by omega) (by omega) (by omega) (by omega)
    · rw [pc _ (by omega) (by omega) (by omega)]; exact frc c c1 (by omega)
theorem Inv.low {g : Nat → Int} (hI : Inv r) (e : ∀ c, c < 434 → c ≠ 3 → c ≠ 6 → c ≠ 7 → c ≠ 8 → c ≠ 9 → c < 418 ∨ c < 418 + 2 * nR g → g c = r c) (h3 : 0 ≤ g 3 ∧ g 3 ≤ r 3) (h7 : 8 ≤ g 7 ∧ g 7 ≤ 64) (h8 : 0 ≤ g 8 ∧ g 8 ≤ 128) (h9 : g 9 = 0 ∨ g 9 = 1) (hv : okV g) : Inv g := by
  obtain ⟨hg, ht, -, hN, -, -, hh, hf⟩ := hI
  have h0 := ht.1
  have h1 := hg.k.1
  have hn := hg.n
  have e0 : g 0 = r 0 := e 0 (by omega) (by omega) (by omega) (by omega) (by omega) (by omega) (by omega)
  have e1 : g 1 = r 1 := e 1 (by omega) (by omega) (by omega) (by omega) (by omega) (by omega) (by omega)
  have e2 : g 2 = r 2 := e 2 (by omega) (by omega) (by omega) (by omega) (by omega) (by omega) (by omega)
  have e4 : g 4 = r 4 := e 4 (by omega) (by omega) (by omega) (by omega) (by omega) (by omega) (by omega)
  have e5 : g 5 = r 5 := e 5 (by omega) (by omega) (by omega) (by omega) (by omega) (by omega) (by omega)
  have L : ∀ c, 10 ≤ c → c < 418 → g c = r c := fun c c1 c2 => e c (by omega) (by omega) (by omega) (by omega) (by omega) (by omega) (by omega)
  have eF : nF g = nF r := by unfold nF; rw [e1]
  have eS : nS g = nS r := by unfold nS; rw [e2]
  have eA : allP g = allP r := by
    unfold allP useP sparP
    rw [eF, eS]
    congr 1
    · exact sm_congr (fun f hf => L _ (by omega) (by omega))
    · exact sm_congr (fun f hf => L _ (by omega) (by omega))
  have eZ : ∀ j, j < nF r + nS r → gZ g j = gZ r j := by
    intro j hj; unfold gZ; rw [eF]
    split
    · exact L _ (by omega) (by omega)
    · exact L _ (by omega) (by omega)
  have eSt : ∀ j, j < nF r + nS r → gS g j = gS r j := by
    intro j hj; unfold gS; rw [eF]
    split
    · exact L _ (by omega) (by omega)
    · exact L _ (by omega) (by omega)
  refine ⟨⟨⟨by rw [e1]; exact hg.1.1, by rw [e2]; exact hg.1.2.1, h7, by rw [eA]; exact hg.1.2.2.2⟩, fun f q => ?_, fun j q => ?_, fun i j q1 q2 q3 => ?_⟩, ⟨by rw [e0]; exact h0, fun t q => ?_⟩, hv, ⟨⟨h3.1, by have := hN.1; omega⟩, by rw [eA, e5]; exact hN.2.1, by rw [e4]; exact hN.2.2⟩, h8, h9, ?_, fun i hi => ?_⟩
  · rw [eF] at q
    rw [L _ (by omega) (by omega), L (108 + 4 * f) (by omega) (by omega), L (106 + 4 * f) (by omega) (by omega)]; exact hg.2.1 f q
  · rw [eF, eS] at q
    rw [eZ j q, eSt j q, eA]; exact hg.2.2.1 j q
  · rw [eF, eS] at q1 q2
    rw [eZ j q2, eSt j q2, eZ i q1, eSt i q1]; exact hg.2.2.2 i j q1 q2 q3
  · unfold nT at q; rw [e0] at q
    have tt := ht.2 t q
    have hfm := (tnt.fm hg tt).2.2.2.2
    exact tt.cg (by rw [e1]; exact tt.1.2) (fun c c1 c2 => L c (by omega) (by omega)) (L _ (by omega) (by omega))
  · rw [e0, e1]; exact hh.cg h0.2 (fun c c1 c2 => L c c1 (by omega))
  · have hfi := hf i (by omega)
    have i8 : i < 8 := by have := hN.1.2; omega
    have hR : i < nR g := by unfold nR; omega
    exact hfi.cg i8 h0.2 (fun c c1 c2 c3 => L c c1 (by omega)) (fun c c1 c2 => e c (by omega) (by omega) (by omega) (by omega) (by omega) (by omega) (by omega)) (by rw [e0]; exact hfi.1.2) (by rw [e1]; exact hfi.2.1.2)
theorem Inv.set7 (hI : Inv r) {v : Int} (hv : 8 ≤ v ∧ v ≤ 64) : Inv (up r 7 v) :=
  hI.low (fun c _ _ _ h _ _ _ => up_ne _ _ h) (by rw [up_ne _ _ (by omega)]; have := hI.2.2.2.1.1; omega) (by rw [up_same]; exact hv) (by rw [up_ne _ _ (by omega)]; exact hI.2.2.2.2.1) (by rw [up_ne _ _ (by omega)]; exact hI.2.2.2.2.2.1) (fun j hj => by rw [up_ne _ _ (by omega)]; exact hI.2.2.1 j hj)
theorem Inv.set8 (hI : Inv r) {v : Int} (hv : 0 ≤ v ∧ v ≤ 128) : Inv (up r 8 v) :=
  hI.low (fun c _ _ _ _ h _ _ => up_ne _ _ h) (by rw [up_ne _ _ (by omega)]; have := hI.2.2.2.1.1; omega) (by rw [up_ne _ _ (by omega)]; exact hI.1.1.2.2.1) (by rw [up_same]; exact hv) (by rw [up_ne _ _ (by omega)]; exact hI.2.2.2.2.2.1) (fun j hj => by rw [up_ne _ _ (by omega)]; exact hI.2.2.1 j hj)
theorem Inv.set9 (hI : Inv r) {v : Int} (hv : v = 0 ∨ v = 1) : Inv (up r 9 v) :=
  hI.low (fun c _ _ _ _ _ h _ => up_ne _ _ h) (by rw [up_ne _ _ (by omega)]; have := hI.2.2.2.1.1; omega) (by rw [up_ne _ _ (by omega)]; exact hI.1.1.2.2.1) (by rw [up_ne _ _ (by omega)]; exact hI.2.2.2.2.1) (by rw [up_same]; exact hv) (fun j hj => by rw [up_ne _ _ (by omega)]; exact hI.2.2.1 j hj)
theorem Inv.fill (hI : Inv r) {t : Nat} {v : Int} (hv : 0 ≤ v ∧ v ≤ 100) : Inv (fillIn r t v) :=
  hI.low (fun c h _ _ _ _ _ _ => fillIn_lo h) (by rw [fillIn_lo (by omega)]; have := hI.2.2.2.1.1; omega) (by rw [fillIn_lo (by omega)]; exact hI.1.1.2.2.1) (by rw [fillIn_lo (by omega)]; exact hI.2.2.2.2.1) (by rw [fillIn_lo (by omega)]; exact hI.2.2.2.2.2.1) (fill_ok hI.1 hI.2.1 hI.2.2.1 hv).2.2
theorem Inv.enter (hI : Inv r) (h3 : r 3 < 8) : Inv (enterIn r) := by
  obtain ⟨hg, ht, hv, hN, h8, h9, hh, hf⟩ := hI
  have hI : Inv r := ⟨hg, ht, hv, hN, h8, h9, hh, hf⟩
  have h30 := hN.1.1
  have h0 := ht.1
  have hn := hg.n
  have n3 : r 3 = (nR r : Int) := by unfold nR; omega
  have E : ∀ c, c ≠ 3 → c ≠ 418 + 2 * nR r → c ≠ 419 + 2 * nR r → enterIn r c = r c := fun c q1 q2 q3 => by
    unfold enterIn; rw [up_ne _ _ q1, up_ne _ _ q3, up_ne _ _ q2]
  have E3 : enterIn r 3 = r 3 + 1 := up_same _ _ _
  have ET : enterIn r (418 + 2 * nR r) = r 0 := by unfold enterIn; rw [up_ne _ _ (by omega), up_ne _ _ (by omega), up_same]
  have EF : enterIn r (419 + 2 * nR r) = r 1 := by unfold enterIn; rw [up_ne _ _ (by omega), up_same]
  -- with one frame less it is as before
  have hJ : Inv (up (enterIn r) 3 (r 3)) := by
    refine hI.low (fun c c1 c3 c6 c7 c8 c9 q => ?_) ?_ ?_ ?_ ?_ (fun j hj => ?_)
    · rw [up_ne _ _ c3]
      have : nR (up (enterIn r) 3 (r 3)) = nR r := by unfold nR; rw [up_same]
      exact E c c3 (by omega) (by omega)
    · rw [up_same]; omega
    · rw [up_ne _ _ (by omega), E 7 (by omega) (by omega) (by omega)]; exact hg.1.2.2.1
    · rw [up_ne _ _ (by omega), E 8 (by omega) (by omega) (by omega)]; exact h8
    · rw [up_ne _ _ (by omega), E 9 (by omega) (by omega) (by omega)]; exact h9
    · rw [up_ne _ _ (by omega), E _ (by omega) (by omega) (by omega)]; exact hv j hj
  have U : ∀ c, c ≠ 3 → up (enterIn r) 3 (r 3) c = enterIn r c := fun c hc => up_ne _ _ hc
  obtain ⟨kg, kt, kv, kN, k8, k9, kh, kf⟩ := hJ
  have eA : allP (up (enterIn r) 3 (r 3)) = allP (enterIn r) := by
    unfold allP useP sparP nF nS
    rw [U 1 (by omega), U 2 (by omega)]
    congr 1
    · exact sm_congr (fun f hf => U _ (by omega))
    · exact sm_congr (fun f hf => U _ (by omega))
  refine ⟨(kg.cg (g := enterIn r) (U 1 (by omega)).symm (U 2 (by omega)).symm (U 7 (by omega)).symm (fun c _ _ _ => (U c (by omega)).symm) (fun f hf => by rw [← U _ (by omega)]; exact (kg.2.1 f hf).2)).1, ⟨by rw [← U 0 (by omega)]; exact kt.1, fun t htt => ?_⟩, fun j hj => by rw [← U _ (by omega)]; exact kv j hj, ⟨by omega, ?_, ?_⟩, by rw [← U 8 (by omega)]; exact k8, by rw [← U 9 (by omega)]; exact k9, ?_, fun i hi => ?_⟩
  · unfold nT at htt; rw [← U 0 (by omega)] at htt
    exact (kt.2 t htt).cg (by rw [← U 1 (by omega)]; exact (kt.2 t htt).1.2) (fun c _ _ => (U c (by omega)).symm) (U _ (by omega)).symm
  · rw [← eA, ← U 5 (by omega)]; exact kN.2.1
  · rw [← U 4 (by omega)]; exact kN.2.2
  · have := kh
    rw [U 0 (by omega), U 1 (by omega)] at this
    exact this.cg (by rw [E 0 (by omega) (by omega) (by omega)]; exact h0.2) (fun c _ _ => (U c (by omega)).symm)
  · rw [E3] at hi
    by_cases q : i = nR r
    · subst q
      unfold frmOK
      rw [ET, EF, E 0 (by omega) (by omega) (by omega), E 1 (by omega) (by omega) (by omega)]
      refine ⟨⟨h0.1, Int.le_refl _⟩, ⟨hg.1.1, Int.le_refl _⟩, fun t q => ?_, hh.cg h0.2 (fun c _ _ => E c (by omega) (by omega) (by omega)), fun j hj => ?_⟩
      · rw [E _ (by omega) (by omega) (by omega)]
        exact (ht.2 t (by unfold nT; omega)).1.2
      · rw [E _ (by omega) (by omega) (by omega), E _ (by omega) (by omega) (by omega)]
        have := hf j (by omega)
        exact ⟨this.1.2, this.2.1.2⟩
    · have hfi := hf i (by omega)
      exact hfi.cg (by omega) h0.2 (fun c c1 c2 c3 => E c (by omega) (by omega) (by omega)) (fun c c1 c2 => E c (by omega) (by omega) (by omega)) (by rw [E 0 (by omega) (by omega) (by omega)]; exact hfi.1.2) (by rw [E 1 (by omega) (by omega) (by omega)]; exact hfi.2.1.2)
theorem Inv.strike (hI : Inv r) {i : Nat} (hi : (i : Int) < r 3) : Inv (strikeB r i) ∧ strikeB r i 3 = r 3 ∧ False ∨ Inv (jumpIn r i) := by
  right
  have hJ := hI.J hi
  obtain ⟨hg, ht, hv, hN, h8, h9, hh, hf⟩ := hI
  have i8 : i < 8 := by have := hN.1.2; omega
  have hb := hJ.1
  obtain ⟨c1, c2, c3, c4, c5, c6, c7, c8, c9, c10⟩ := hb.b i8
  have hfi := hf i hi
  obtain ⟨f1, f2, f3, f4, f5⟩ := hfi
  have h0 := ht.1
  have hn := hg.n
  have bn := c1.n
  obtain ⟨l1, l2⟩ := layE_ok c1 c2
  have e8 : layE (sbB r i) 8 = r 8 := by rw [layE_out c1 c2 (by omega), c6 8 (by omega) (by omega) (by omega) (by omega) (by omega)]
  obtain ⟨g1, g2, g3, g4⟩ := gvs_ok 51 l1 (by rw [e8]; exact h8.1)
  change okG (strikeB r i) at g1
  change allP (strikeB r i) ≤ _ at g2
  change okV _ → okV (strikeB r i) at g4
  have nFB : nF (sbB r i) = (r (419 + 2 * i)).toNat := by unfold nF; rw [c4]
  have S : ∀ c, c < 109 ∨ (c < 314 ∧ c % 4 ≠ 1) ∨ (418 ≤ c ∧ c < 434) → c ≠ 2 → strikeB r i c = layE (sbB r i) c := by
    intro c q q2
    rcases q with q | q | q
    · exact g3.1 c q q2
    · rcases Nat.lt_or_ge c 109 with y | y
      · exact g3.1 c y q2
      · exact g3.2.1 c y q.1 q.2
    · exact g3.2.2 c q.1 q.2
  have L : ∀ c, c ≠ 0 → c ≠ 1 → c ≠ 2 → c ≠ 6 → c < 106 ∨ (106 ≤ c ∧ c < 314 ∧ c % 4 ≠ 1 ∧ c % 4 ≠ 0) ∨ (418 ≤ c ∧ c < 434) → strikeB r i c = r c := by
    intro c q0 q1 q2 q6 q
    rw [S c (by omega) q2, layE_out c1 c2 (by omega), c6 c q0 q1 q2 q6 (by omega)]
  have s0 : strikeB r i 0 = r (418 + 2 * i) := by rw [S 0 (by omega) (by omega), layE_out c1 c2 (by omega), c7]
  have s1 : strikeB r i 1 = r (419 + 2 * i) := by rw [S 1 (by omega) (by omega), layE_out c1 c2 (by omega), c4]
  have U : ∀ c, c ≠ 3 → jumpIn r i c = strikeB r i c := fun c hc => up_ne _ _ hc
  have U3 : jumpIn r i 3 = (i : Int) + 1 := up_same _ _ _
  have G := g1.cg (g := jumpIn r i) (U 1 (by omega)) (U 2 (by omega)) (U 7 (by omega)) (fun c _ _ _ => U c (by omega)) (fun f hf => by rw [U _ (by omega)]; exact (g1.2.1 f hf).2)
  have SV : okV (strikeB r i) := by
    refine g4 (fun k hk => ?_)
    rw [layE_out c1 c2 (by have := bn; omega), c10 k]
    exact strks_v _ hv k hk
  refine ⟨G.1, ⟨by rw [U 0 (by omega), s0]; omega, fun t htt => ?_⟩, fun k hk => by rw [U _ (by omega)]; exact SV k hk, ⟨by omega, ?_, ?_⟩, ?_, ?_, ?_, fun j hj => ?_⟩
  · unfold nT at htt; rw [U 0 (by omega), s0] at htt
    have tt := ht.2 t (by unfold nT; omega)
    have hfm := (tnt.fm hg tt).2.2.2.2
    refine tt.cg ?_ (fun c c1 c2 => ?_) ?_
    · rw [U 1 (by omega), s1]; exact f3 t (by omega)
    · rw [U c (by omega), L c (by omega) (by omega) (by omega) (by omega) (by omega)]
    · rw [U _ (by omega), L _ (by omega) (by omega) (by omega) (by omega) (by omega)]
  · rw [G.2, U 5 (by omega), L 5 (by omega) (by omega) (by omega) (by omega) (by omega)]
    rw [l2, c3] at g2
    have := hN.2.1; omega
  · rw [U 4 (by omega), L 4 (by omega) (by omega) (by omega) (by omega) (by omega)]; exact hN.2.2
  · rw [U 8 (by omega), L 8 (by omega) (by omega) (by omega) (by omega) (by omega)]; exact h8
  · rw [U 9 (by omega), L 9 (by omega) (by omega) (by omega) (by omega) (by omega)]; exact h9
  · rw [U 0 (by omega), U 1 (by omega), s0, s1]
    exact f4.cg (by omega) (fun c c1 c2 => by rw [U c (by omega), L c (by omega) (by omega) (by omega) (by omega) (by omega)])
  · rw [U3] at hj
    have hfj := hf j (by omega)
    have le : r (418 + 2 * j) ≤ r (418 + 2 * i) ∧ r (419 + 2 * j) ≤ r (419 + 2 * i) := by
      rcases Nat.lt_or_ge j i with y | y
      · exact f5 j y
      · obtain rfl : j = i := by omega
        exact ⟨Int.le_refl _, Int.le_refl _⟩
    exact hfj.cg (by omega) h0.2 (fun c c1 c2 _ => by rw [U c (by omega), L c (by omega) (by omega) (by omega) (by omega) (by omega)]) (fun c c1 c2 => by rw [U c (by omega), L c (by omega) (by omega) (by omega) (by omega) (by omega)]) (by rw [U 0 (by omega), s0]; exact le.1) (by rw [U 1 (by omega), s1]; exact le.2)
theorem Inv.jump (hI : Inv r) {i : Nat} (hi : (i : Int) < r 3) : Inv (jumpIn r i) := (hI.strike hi).resolve_left (fun z => z.2.2)
theorem Inv.leave (hI : Inv r) (h3 : 0 < r 3) : Inv (leaveIn r) := by
  have n3 : (nR r : Int) = r 3 := by unfold nR; omega
  have hJ := hI.jump (i := nR r - 1) (by omega)
  have hr3 := hI.2.2.2.1.1
  have i8 : nR r - 1 < 8 := by omega
  have s3 : strikeB r (nR r - 1) 3 = r 3 := strB_c i8 (hI.J (by omega)).1 3 (by omega) (by omega) (by omega)
  have L : ∀ c, c ≠ 3 → leaveIn r c = jumpIn r (nR r - 1) c := fun c hc => by
    unfold leaveIn jumpIn
    rw [up_ne _ _ hc, up_ne _ _ hc]
  have L3 : leaveIn r 3 = r 3 - 1 := up_same _ _ _
  have J3 : jumpIn r (nR r - 1) 3 = r 3 := by
    show up _ 3 _ 3 = _
    rw [up_same]; omega
  refine hJ.low (fun c _ c3 _ _ _ _ _ => L c c3) (by omega) ?_ ?_ ?_ (fun j hj => ?_)
  · rw [L 7 (by omega)]; exact hJ.1.1.2.2.1
  · rw [L 8 (by omega)]; exact hJ.2.2.2.2.1
  · rw [L 9 (by omega)]; exact hJ.2.2.2.2.2.1
  · rw [L _ (by omega)]; exact hJ.2.2.1 j hj
end INV
