/-! how many more tents of a kind: the ground alone -/
section MORE
variable {h : AH} {c : Nat} {k m : Int} {r : Nat → Int}
def endS (r : Nat → Int) : Int := sm (fun f => r (108 + 4 * f)) (nF r)
theorem endS_le (hg : okG r) : 0 ≤ endS r ∧ endS r ≤ 256 := by
  have hk := hg.k
  have h1 := sm_ge (g := fun f => r (108 + 4 * f)) (B := 0) (n := nF r) (fun f hf => (hg.2.1 f hf).2.1)
  have h2 : ∀ n, n ≤ nF r → sm (fun f => r (108 + 4 * f)) n ≤ sm (fun f => r (106 + 4 * f)) n := by
    intro n
    induction n with
    | zero => intro _; exact Int.le_refl _
    | succ n ih =>
      intro hn
      have := ih (by omega)
      have h3 := (hg.2.1 n (by omega)).2.2
      simp only [sm]; omega
  have h3 := h2 (nF r) (Nat.le_refl _)
  have h4 := hk.sp
  have h5 := hg.1.2.2.2
  have h6 : allP r = sm (fun f => r (106 + 4 * f)) (nF r) + sparP r := rfl
  unfold endS
  omega
theorem sm_up {g : Nat → Int} {i : Nat} {v : Int} : ∀ {n : Nat}, i < n → sm (up g i v) n = sm g n - g i + v
  | 0, h => by omega
  | n + 1, h => by
    simp only [sm]
    by_cases q : i = n
    · subst q
      rw [up_same]
      have : sm (up g i v) i = sm g i := sm_congr (fun k hk => up_ne _ _ (by omega))
      rw [this]; omega
    · rw [up_ne _ _ (by omega), sm_up (by omega)]; omega
theorem endS_up (hg : okG r) {z s : Int} (hz : 1 ≤ z ∧ z ≤ 40) (hs : 1 ≤ s ∧ s ≤ 8) (w3 : whereIn r z s ≠ 3) : endS r + 1 ≤ endS (pitchOn r z s) := by
  have h1 := hg.1.1
  have hn := hg.n
  have hw := where_rg r z s
  by_cases w : whereIn r z s = 0
  · have hr := roomOn_sp (where_0.mp w)
    obtain ⟨l1, l2, l3⟩ := last_sp hg hr.1
    have hf := hg.k.2.2.2.1 _ l1
    have ho := openP_rg hf.2.2 hs
    have eF : nF (pitchOn r z s) = nF r := by unfold nF; rw [p0_c hg w (by omega)]
    unfold endS
    rw [eF]
    have e : sm (fun f => pitchOn r z s (108 + 4 * f)) (nF r) = sm (up (fun f => r (108 + 4 * f)) (lastU r).toNat (roomOn r z s + z)) (nF r) := sm_congr (fun f hf => by
      unfold up
      by_cases q : f = (lastU r).toNat
      · rw [if_pos q, q, p0_e hg w]
      · rw [if_neg q, pitchOn_0 w, up_ne _ _ (by omega)])
    rw [e, sm_up l1, hr.2.1]
    omega
  · have w12 : whereIn r z s = 1 ∨ whereIn r z s = 2 := by omega
    have eF : nF (pitchOn r z s) = nF r + 1 := by unfold nF; rw [p1_eq hg w12]; omega
    unfold endS
    rw [eF]
    simp only [sm]
    have e : ∀ f, f < nF r + 1 → pitchOn r z s (108 + 4 * f) = if f = nF r then z else r (108 + 4 * f) := by
      intro f hf
      rcases w12 with w | w
      · obtain ⟨p1, p2, p3⟩ := spare_sp hg (where_1.mp w).2
        rw [pitchOn_1 w, maxF_c _ (by omega), addF_tk p1 (by omega), if_neg (by omega)]
        by_cases q : f = nF r
        · rw [if_pos (by omega), if_pos q]
        · rw [if_neg (by omega), if_neg q]
          simp (disch := omega) only [if_neg]
      · rw [pitchOn_2 w, maxF_c _ (by omega), addF_mk, if_neg (by omega)]
        by_cases q : f = nF r
        · rw [if_pos (by omega), if_pos q]
        · rw [if_neg (by omega), if_neg q]
          simp (disch := omega) only [if_neg]
    rw [e (nF r) (by omega), if_pos rfl]
    have e2 : sm (fun f => pitchOn r z s (108 + 4 * f)) (nF r) = sm (fun f => r (108 + 4 * f)) (nF r) := sm_congr (fun f hf => by rw [e f (by omega), if_neg (by omega)])
    rw [e2]; omega
/-- how often a tent can be pitched, at most n times -/
def mrV (z s : Int) : Nat → (Nat → Int) → Int
  | 0, _ => 0
  | n + 1, r => if whereIn r z s = 3 then 0 else 1 + mrV z s n (pitchOn r z s)
theorem mr_step {g : Nat → Int} (hg : okG g) (h5 : allP g ≤ g 5 ∧ g 5 ≤ 256) {z s : Int} (hz : 1 ≤ z ∧ z ≤ 40) (hs : 1 ≤ s ∧ s ≤ 8) : okG (pitchOn g z s) ∧ (allP (pitchOn g z s) ≤ pitchOn g z s 5 ∧ pitchOn g z s 5 ≤ 256) ∧ pitchOn g z s 0 = g 0 ∧ pitchOn g z s 3 = g 3 := by
  have h1 := p_5 hg h5.1 hz hs
  have h2 := p_all2 hg hz hs
  refine ⟨pitchOn_ok hg hz hs, ?_, pitchOn_lo hg (by omega) (by omega) (by omega) (by omega), pitchOn_lo hg (by omega) (by omega) (by omega) (by omega)⟩
  rw [h1]; split <;> omega
theorem s_moreC {x : Nat} {z s : Int} (ht : tco h x) {N : Nat → Int} {X : Nat → Nat → Int} (hc : campX h (x + 36) N X) (ha : Agr k m N X r) (hg : okG r) (h5 : allP r ≤ r 5 ∧ r 5 ≤ 256) (h0 : 0 ≤ r 0 ∧ r 0 ≤ 24) (h3 : 0 ≤ r 3 ∧ r 3 ≤ 8) (hz : 1 ≤ z ∧ z ≤ 40) (hs : s = 1 ∨ s = 2 ∨ s = 4 ∨ s = 8) {mc ms : Nat} {Q : AR → AH → Prop}
    (hQ : ∀ h', (∃ N X, campX h' (x + 36) N X) → Off h h' (x + 36) (x + 71) → Q (.inl (some (.int (iN (mrV z s 257 r))))) h') : AW mX8_more 6 mc ms 31 [.ref x, .int (iN z), .int (iN s), .int (iN 0)] [] h Q := by
  have H : ∀ (q i : Nat) (h1 : AH) (g : Nat → Int) (N : Nat → Int) (X : Nat → Nat → Int), i + q = 256 → campX h1 (x + 36) N X → Agr k m N X g → okG g → (allP g ≤ g 5 ∧ g 5 ≤ 256) → g 0 = r 0 → g 3 = r 3 → (i : Int) ≤ endS g → mrV z s 257 r = i + mrV z s (q + 1) g → Off h h1 (x + 36) (x + 71) → AW mX8_more 6 mc ms 31 [.ref x, .int (iN z), .int (iN s), .int (iN (i : Int))] [] h1 Q := by
    intro q
    induction q with
    | zero =>
      intro i h1 g N X hi hc ha og g5 g0 g3 he e o1
      refine b_X8_more_31 (fun _ => ?_) (fun w => absurd ((iN_le (by omega)).mpr (by omega)) w)
      have w3 : whereIn g z s = 3 := by
        rcases Classical.em (whereIn g z s = 3) with y | y
        · exact y
        · have a1 := endS_up og hz (s := s) (by omega) y
          have a2 := endS_le (pitchOn_ok og hz (s := s) (by omega))
          omega
      have ev : mrV z s (0 + 1) g = 0 := by simp only [mrV]; rw [if_pos w3]
      rw [ev] at e
      have fin := hQ h1 ⟨N, X, hc⟩ o1
      rw [e, Int.add_zero] at fin
      exact b_X8_more_57 fin
    | succ q ih =>
      intro i h1 g N X hi hc ha og g5 g0 g3 he e o1
      have ht1 := ht.off o1
      have e1 : ((i : Int) + 1) = ((i + 1 : Nat) : Int) := by omega
      have ew : mrV z s (q + 1 + 1) g = if whereIn g z s = 3 then 0 else 1 + mrV z s (q + 1) (pitchOn g z s) := rfl
      rw [ew] at e
      have hl := og.k.lu
      have hw := where_rg g z s
      have o11 := og.k.1
      refine b_X8_more_31 (fun w => ?_) (fun _ => ?_)
      · have := (iN_le (by omega)).mp w; omega
      refine b_X8_more_38 ht1.f1 hc.o (s_takeSite hc ha og (by omega) (by omega) hz hs) (fun v h2 hv => ?_)
      obtain ⟨rfl, ⟨N2, X2, hc2, ha2⟩, o2⟩ := hv
      have oo : Off h h2 (x + 36) (x + 71) := o1.tr o2 (x + 36) (x + 71)
      by_cases w3 : whereIn g z s = 3
      · have et : tsV g z s = -1 := by unfold tsV; rw [if_pos w3]
        rw [if_pos w3] at e
        rw [et]
        refine b_X8_more_47 (fun _ => ?_) (fun w => absurd rfl w)
        have fin := hQ h2 ⟨N2, X2, hc2⟩ oo
        rw [e, Int.add_zero] at fin
        exact b_X8_more_57 fin
      · rw [if_neg w3] at e
        have f := pF_sp og w3 hz (s := s) (by omega)
        rw [pF_ts og w3] at f
        obtain ⟨q1, q2, q3, q4⟩ := mr_step og g5 hz (s := s) (by omega)
        have q5 := q1.k.1
        refine b_X8_more_47 (fun w => ?_) (fun _ => ?_)
        · have := (iN_eq (by omega)).mp w; omega
        refine b_X8_more_51 ?_
        rw [e1]
        have a1 := endS_up og hz (s := s) (by omega) w3
        exact ih (i + 1) h2 _ N2 X2 (by omega) hc2 ha2 q1 q2 (by omega) (by omega) (by omega) (by omega) oo
  exact H 256 0 h r N X rfl hc ha hg h5 rfl rfl (endS_le hg).1 (by simp) Off.rf
end MORE
