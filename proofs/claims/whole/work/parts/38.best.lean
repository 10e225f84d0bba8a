/-! all tents of a camp on another ground -/
def pA (z s : Nat → Int) : Nat → Nat → (Nat → Int) → Bool × (Nat → Int)
  | 0, _, r => (true, r)
  | k + 1, t, r => if r 0 < 24 ∧ whereIn r (z t) (s t) ≠ 3 then pA z s k (t + 1) (pitchIn r (z t) (s t)) else (false, r)
section BEST
variable {h : AH} {c : Nat} {k : Int} {r : Nat → Int}
theorem s_putUpAll {b n : Nat} {f p z s : Nat → Int} (hc : camp h c k (r 5) r) (hI : Inv r) (hT : tents h b n f p z s) (hn : n ≤ 24) (hd : b + 9 ≤ c ∨ c + 35 ≤ b) (hz : ∀ t, t < n → (1 ≤ z t ∧ z t ≤ 40) ∧ (s t = 1 ∨ s t = 2 ∨ s t = 4 ∨ s t = 8)) :
    CtZ mX0_putUpAll 5 0 0 [.ref c, .ref b] h (fun v h' => v = (pA z s n 0 r).1 ∧ camp h' c k ((pA z s n 0 r).2 5) (pA z s n 0 r).2 ∧ Off h h' c (c + 35)) := by
  refine en_X0_putUpAll (b_X0_putUpAll_0 ?_)
  have H : ∀ (q i : Nat) (h1 : AH) (g : Nat → Int), i + q = n → camp h1 c k (g 5) g → Inv g → Off h h1 c (c + 35) → pA z s n 0 r = pA z s q i g → AW mX0_putUpAll 5 0 0 2 [.ref c, .ref b, .int (iN (i : Int))] [] h1 (qZ (fun v h' => v = (pA z s n 0 r).1 ∧ camp h' c k ((pA z s n 0 r).2 5) (pA z s n 0 r).2 ∧ Off h h' c (c + 35))) := by
    intro q
    induction q with
    | zero =>
      intro i h1 g hi hc hI o1 e
      have hT1 := hT.off o1
      refine b_X0_putUpAll_2 hT1.n0 (fun _ => ?_) (fun w => absurd ((iN_le (by omega)).mpr (by omega)) w)
      rw [e]
      exact b_X0_putUpAll_42 (rZ1 ⟨rfl, hc, o1⟩)
    | succ q ih =>
      intro i h1 g hi hc hI o1 e
      have hT1 := hT.off o1
      have e1 : ((i : Int) + 1) = ((i + 1 : Nat) : Int) := by omega
      have hzi := hz i (by omega)
      have h0 := hI.2.1.1
      refine b_X0_putUpAll_2 hT1.n0 (fun w => ?_) (fun _ => ?_)
      · have := (iN_le (by omega)).mp w; omega
      refine b_X0_putUpAll_10 hT1.f3 hT1.2.2.2.1.o (s_get hT1.2.2.2.1 (z := (i : Int)) (by omega) (by omega)) (fun v h2 hv => ?_)
      obtain ⟨rfl, rfl⟩ := hv
      refine b_X0_putUpAll_19 hT1.f4 hT1.2.2.2.2.o (s_get hT1.2.2.2.2 (z := (i : Int)) (by omega) (by omega)) (fun v h3 hv => ?_)
      obtain ⟨rfl, rfl⟩ := hv
      rw [Int.toNat_natCast]
      refine b_X0_putUpAll_27 hc.o (s_putUp hc hI.1 hI.2.1 hI.2.2.2.1 hzi.1 hzi.2) (fun v h4 hv => ?_)
      obtain ⟨rfl, hc4, o4⟩ := hv
      simp only [pA] at e
      by_cases w : g 0 < 24 ∧ whereIn g (z i) (s i) ≠ 3
      · have ev : puV g (z i) (s i) = g 0 := by unfold puV; rw [if_pos w]
        have er : puR g (z i) (s i) = pitchIn g (z i) (s i) := by unfold puR; rw [if_pos w]
        rw [if_pos w] at e
        rw [ev]
        rw [er] at hc4
        refine b_X0_putUpAll_30 (fun _ => ?_) (fun y => by have := (iN_eq (by omega)).mp y; omega)
        refine b_X0_putUpAll_36 ?_
        rw [e1]
        exact ih (i + 1) h4 _ (by omega) hc4 (hI.pitch w.1 hzi.1 hzi.2 w.2) (o1.tr o4 c (c + 35)) e
      · have ev : puV g (z i) (s i) = -1 := by unfold puV; rw [if_neg w]
        have er : puR g (z i) (s i) = g := by unfold puR; rw [if_neg w]
        rw [if_neg w] at e
        rw [ev]
        rw [er] at hc4
        refine b_X0_putUpAll_30 (fun y => absurd rfl y) (fun _ => ?_)
        rw [e]
        exact b_X0_putUpAll_34 (rZ0 ⟨rfl, hc4, o1.tr o4 c (c + 35)⟩)
  exact H n 0 h r (by omega) hc hI Off.rf rfl
/-- the reference: how many places all tents need; its trial row is written -/
theorem s_needs {m : Nat} {rf sz sp gd lf ac : Int} {tr : Nat → Int} (hm : mob h m rf sz sp gd lf ac) (hn : ari h (m + 3) 690 r) (ht : ari h (m + 4) 690 tr) (hI : Inv r) {u : Int} (hu : 8 ≤ u ∧ u ≤ 64) :
    CtI mX9_needs 6 0 0 [.ref m, .int (iN u)] h (fun v h' => v = (if (pA (fun t => r (12 + 4 * t)) (fun t => r (13 + 4 * t)) (nT r) 0 (clean u 0)).1 then allP (pA (fun t => r (12 + 4 * t)) (fun t => r (13 + 4 * t)) (nT r) 0 (clean u 0)).2 else -1) ∧ RA h (m + 4) (pA (fun t => r (12 + 4 * t)) (fun t => r (13 + 4 * t)) (nT r) 0 (clean u 0)).2 h') := by
  have h0 := hI.2.1.1
  have n0 : r 0 = (nT r : Int) := by unfold nT; omega
  refine en_X9_needs (b_X9_needs_0 hm.r8 (s_clean ht u 0) (fun h1 ra => ?_))
  refine b_X9_needs_9 ?_
  have H : ∀ (q i : Nat) (h1 : AH) (g : Nat → Int), i + q = nT r → RA h (m + 4) g h1 → Inv g → pA (fun t => r (12 + 4 * t)) (fun t => r (13 + 4 * t)) (nT r) 0 (clean u 0) = pA (fun t => r (12 + 4 * t)) (fun t => r (13 + 4 * t)) q i g → AW mX9_needs 6 0 0 11 [.ref m, .int (iN u), .int (iN (i : Int))] [] h1 (qI (fun v h' => v = (if (pA (fun t => r (12 + 4 * t)) (fun t => r (13 + 4 * t)) (nT r) 0 (clean u 0)).1 then allP (pA (fun t => r (12 + 4 * t)) (fun t => r (13 + 4 * t)) (nT r) 0 (clean u 0)).2 else -1) ∧ RA h (m + 4) (pA (fun t => r (12 + 4 * t)) (fun t => r (13 + 4 * t)) (nT r) 0 (clean u 0)).2 h')) := by
    intro q
    induction q with
    | zero =>
      intro i h1 g hi ra hI e
      have o1 := ra.off (m + 4) (m + 5)
      have hm1 := hm.off o1
      have hn1 : ari h1 (m + 3) 690 r := (o1.2 _ (by omega)).trans hn
      refine b_X9_needs_11 hm1.r7 (hn1.g 0) (fun _ => ?_) (fun w => absurd ((iN_le (by omega)).mpr (by omega)) w)
      have gk := hI.1.k
      refine b_X9_needs_87 hm1.r8 (s_allPlaces ra.a ⟨gk.1.1, by have := gk.1.2; omega⟩ ⟨gk.2.1.1, by have := gk.2.1.2; omega⟩) (fun v h2 hv => ?_)
      obtain ⟨rfl, rfl⟩ := hv
      refine b_X9_needs_94 (rI ?_)
      rw [e]
      exact ⟨rfl, ra⟩
    | succ q ih =>
      intro i h1 g hi ra hI' e
      have o1 := ra.off (m + 4) (m + 5)
      have hm1 := hm.off o1
      have hn1 : ari h1 (m + 3) 690 r := (o1.2 _ (by omega)).trans hn
      have e1 : ((i : Int) + 1) = ((i + 1 : Nat) : Int) := by omega
      have ti := hI.2.1.2 i (by omega)
      have g0 := hI'.2.1.1
      obtain ⟨gN1, gN2, gN3⟩ := hI'.2.2.2.1
      have gap := hI'.1.k.ap
      refine b_X9_needs_11 hm1.r7 (hn1.g 0) (fun w => ?_) (fun _ => ?_)
      · have := (iN_le (by omega)).mp w; omega
      refine b_X9_needs_21 hm1.r8 hm1.r7 s_tentAt (fun v h2 hv => ?_)
      obtain ⟨rfl, rfl⟩ := hv
      refine b_X9_needs_34 (hn1.g (12 + 4 * i)) hm1.r7 s_tentAt (fun v h2 hv => ?_)
      obtain ⟨rfl, rfl⟩ := hv
      have hs8 : 1 ≤ r (13 + 4 * i) ∧ r (13 + 4 * i) ≤ 8 := by have := ti.2.2.2.2; omega
      refine b_X9_needs_44 (hn1.g (13 + 4 * i)) (s_canPitch ra.a hI'.1.k g0 ti.2.2.1 hs8) (fun v h2 hv => ?_)
      obtain ⟨rfl, rfl⟩ := hv
      simp only [pA] at e
      by_cases w : g 0 < 24 ∧ whereIn g (r (12 + 4 * i)) (r (13 + 4 * i)) ≠ 3
      · rw [if_pos w] at e
        rw [decide_eq_true w]
        refine b_X9_needs_48 (fun _ => ?_) (fun y => absurd y (by decide))
        refine b_X9_needs_53 hm1.r8 hm1.r7 s_tentAt (fun v h2 hv => ?_)
        obtain ⟨rfl, rfl⟩ := hv
        refine b_X9_needs_66 (hn1.g (12 + 4 * i)) hm1.r7 s_tentAt (fun v h2 hv => ?_)
        obtain ⟨rfl, rfl⟩ := hv
        refine b_X9_needs_76 (hn1.g (13 + 4 * i)) (s_pitchIn ra.a hI'.1 (by omega) ⟨g0.1, w.1⟩ (by omega) (fun t ht => by have := (hI'.2.1.2 t ht).2.2.1; omega) ti.2.2.1 hs8) (fun v h2 hv => ?_)
        obtain ⟨rfl, rb⟩ := hv
        refine b_X9_needs_80 ?_
        rw [e1]
        exact ih (i + 1) _ _ (by omega) (ra.tr rb) (hI'.pitch w.1 ti.2.2.1 ti.2.2.2.2 w.2) e
      · rw [if_neg w] at e
        rw [decide_eq_false w]
        refine b_X9_needs_48 (fun y => absurd rfl y) (fun _ => ?_)
        refine b_X9_needs_51 (rI ?_)
        rw [e]
        exact ⟨rfl, ra⟩
  exact H (nT r) 0 h1 (clean u 0) (by omega) ra (InvClean hu (by omega)) rfl
end BEST
