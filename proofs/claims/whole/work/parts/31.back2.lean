/-! fields go back among the spare ones; too much is given up -/
section BACK2
variable {h : AH} {c : Nat} {N : Nat → Int} {X : Nat → Nat → Int} {k m : Int} {r : Nat → Int}
theorem s_clearFields (hc : campX h c N X) (ha : Agr k m N X r) (hg : okG r) (h0 : 0 ≤ r 0 ∧ r 0 ≤ 24) (h3 : 0 ≤ r 3 ∧ r 3 ≤ 8) {F : Nat} (hF : F ≤ nF r) (ot : okT (movs (nF r - F) r)) (hit : ∀ f, f < F → ∃ t, t < nT r ∧ (r (10 + 4 * t)).toNat = f) : CtV mX0_clearFields 2 0 0 [.ref c, .int (iN F)] h (fun h' => (∃ N' X', campX h' c N' X' ∧ Agr k m N' X' (layE (movs (nF r - F) r))) ∧ Off h h' c (c + 35)) := by
  have n0 : r 0 = (nT r : Int) := by unfold nT; omega
  have h1 := hg.k.1
  have h2 := hg.k.2.1
  have hn := hg.n
  have hap := hg.k.ap
  have n1 : r 1 = (nF r : Int) := by unfold nF; omega
  have n2 : r 2 = (nS r : Int) := by unfold nS; omega
  obtain ⟨m1, m2, m3, m4, m5, m6⟩ := movs_ok (nF r - F) hg (by omega)
  obtain ⟨l1, l2⟩ := layE_ok m1 ot
  generalize hM : movs (nF r - F) r = M at *
  have M1 : M 1 = (F : Int) := by rw [m3]; omega
  have M2 : M 2 = ((nS r + (nF r - F) : Nat) : Int) := by rw [m4]; omega
  have MF : nF M = F := by unfold nF; rw [M1]; omega
  have M0 : M 0 = r 0 := m5 0 (by omega) (by omega) (by omega)
  have MT : nT M = nT r := by unfold nT; rw [M0]
  obtain ⟨⟨b0, b1, b2, b3, b4, b5, b6, b7, b8, b9, b10⟩, bv, bt, bf, bu, bs⟩ := ha
  have hU : fields h (c + 17) (nF r) (X 7) (X 8) (X 9) (X 10) := by rw [← n1, ← b9]; exact hc.u
  have hTt : tents h (c + 3) (nT r) (X 1) (X 2) (X 3) (X 4) := by rw [← n0, ← b7]; exact hc.t
  -- second loop
  have H2 : ∀ (n i : Nat) (h1 : AH) (N' : Nat → Int) (X' : Nat → Nat → Int), i + n = nT r → campX h1 c N' X' → (∀ j, j < 9 → N' j = N j) → N' 9 = (F : Int) → N' 10 = M 2 → (∀ a, a < 10 → X' a = X a) → X' 10 = endT r (X 10) i →
      (∀ j : Nat, (j : Int) < M 2 → X' 11 j = M (315 + 2 * j) ∧ X' 12 j = M (314 + 2 * j)) → Off h h1 c (c + 35) → AW mX0_clearFields 2 0 0 62 [.ref c, .int (iN F), .int (iN (i : Int))] [] h1 (qV fun h' => (∃ N' X', campX h' c N' X' ∧ Agr k m N' X' (layE M)) ∧ Off h h' c (c + 35)) := by
    intro n
    induction n with
    | zero =>
      intro i h1 N' X' hi hc eN e9 e10 eX eE es o1
      have hT : tents h1 (c + 3) (nT r) (X' 1) (X' 2) (X' 3) (X' 4) := by rw [← n0, ← b7, ← eN 7 (by omega)]; exact hc.t
      refine b_X0_clearFields_62 hc.rt hT.n0 (fun _ => ?_) (fun w => absurd ((iN_le (by omega)).mpr (by omega)) w)
      refine b_X0_clearFields_108 (rV ⟨⟨N', X', hc, ?_⟩, o1⟩)
      have L : ∀ c, c < 108 ∨ c % 4 ≠ 0 ∨ 106 + 4 * F ≤ c → layE M c = M c := fun c q => layE_out m1 ot (by rw [MF]; exact q)
      have P : ∀ c, c ≠ 1 → c ≠ 2 → c < 314 + 2 * nS r ∨ 418 ≤ c → M c = r c := fun c q1 q2 q3 => m5 c q1 q2 (by omega)
      refine ⟨⟨?_, ?_, ?_, ?_, ?_, ?_, ?_, ?_, ?_, ?_, ?_⟩, fun j hj => ?_, fun t q => ?_, fun i hi => ?_, fun f hf => ?_, fun i hi => ?_⟩
      · rw [eN 0 (by omega), L 7 (by omega), P 7 (by omega) (by omega) (by omega)]; exact b0
      · rw [eN 1 (by omega)]; exact b1
      · rw [eN 2 (by omega), L 9 (by omega), P 9 (by omega) (by omega) (by omega)]; exact b2
      · rw [eN 3 (by omega), L 6 (by omega), P 6 (by omega) (by omega) (by omega)]; exact b3
      · rw [eN 4 (by omega), L 4 (by omega), P 4 (by omega) (by omega) (by omega)]; exact b4
      · rw [eN 5 (by omega)]; exact b5
      · rw [eN 6 (by omega), l2, m2]; exact b6
      · rw [eN 7 (by omega), L 0 (by omega), M0]; exact b7
      · rw [eN 8 (by omega), L 3 (by omega), P 3 (by omega) (by omega) (by omega)]; exact b8
      · rw [e9, L 1 (by omega), M1]
      · rw [e10, L 2 (by omega)]
      · rw [l2, m2] at hj
        rw [eX 0 (by omega), L _ (by omega), P _ (by omega) (by omega) (by omega)]; exact bv j hj
      · rw [L 0 (by omega), M0] at q
        rw [eX 1 (by omega), eX 2 (by omega), eX 3 (by omega), eX 4 (by omega), L _ (by omega), L _ (by omega), L _ (by omega), L _ (by omega), P _ (by omega) (by omega) (by omega), P _ (by omega) (by omega) (by omega), P _ (by omega) (by omega) (by omega), P _ (by omega) (by omega) (by omega)]
        exact bt t q
      · rw [L 3 (by omega), P 3 (by omega) (by omega) (by omega)] at hi
        rw [eX 5 (by omega), eX 6 (by omega), L _ (by omega), L _ (by omega), P _ (by omega) (by omega) (by omega), P _ (by omega) (by omega) (by omega)]; exact bf i hi
      · rw [L 1 (by omega), M1] at hf
        rw [eX 7 (by omega), eX 8 (by omega), eX 9 (by omega), L (109 + 4 * f) (by omega), L (106 + 4 * f) (by omega), L (107 + 4 * f) (by omega), P _ (by omega) (by omega) (by omega), P _ (by omega) (by omega) (by omega), P _ (by omega) (by omega) (by omega)]
        have := bu f (by omega)
        refine ⟨this.1, this.2.1, this.2.2.1, ?_⟩
        rw [eE, layE_end ot (by rw [MF]; omega), MT, show i = nT r by omega]
        rw [endT_hit r (X 10) (fun _ => 0) f (nT r) (hit f (by omega))]
        refine endT_cg _ _ _ _ _ _ (fun t q => ?_) rfl
        rw [P _ (by omega) (by omega) (by omega), P _ (by omega) (by omega) (by omega), P _ (by omega) (by omega) (by omega)]
        exact ⟨rfl, rfl, rfl⟩
      · rw [L 2 (by omega)] at hi
        rw [L _ (by omega), L _ (by omega)]
        exact es i hi
    | succ n ih =>
      intro i h1 N' X' hi hc eN e9 e10 eX eE es o1
      have hT : tents h1 (c + 3) (nT r) (X' 1) (X' 2) (X' 3) (X' 4) := by rw [← n0, ← b7, ← eN 7 (by omega)]; exact hc.t
      have hU : fields h1 (c + 17) F (X' 7) (X' 8) (X' 9) (X' 10) := by rw [← e9]; exact hc.u
      have e : ((i : Int) + 1) = ((i + 1 : Nat) : Int) := by omega
      have bti := bt i (by omega)
      have oti := (ot.2 i (by omega)).1
      have P : ∀ c, c < 106 → c ≠ 1 → c ≠ 2 → M c = r c := fun c q3 q1 q2 => m5 c q1 q2 (by omega)
      rw [P _ (by omega) (by omega) (by omega), M1] at oti
      refine b_X0_clearFields_62 hc.rt hT.n0 (fun w => ?_) (fun _ => ?_)
      · have := (iN_le (by omega)).mp w; omega
      refine b_X0_clearFields_73 hc.ru hU.f4 hc.rt hT.f1 hT.2.1.o (s_get hT.2.1 (z := (i : Int)) (by omega) (by omega)) (fun v h2 hv => ?_)
      obtain ⟨rfl, rfl⟩ := hv
      rw [Int.toNat_natCast, eX 1 (by omega), bti.1]
      refine b_X0_clearFields_91 hc.rt hT.o (s_end hT (x := (i : Int)) (by omega)) (fun v h2 hv => ?_)
      obtain ⟨rfl, rfl⟩ := hv
      rw [Int.toNat_natCast, eX 2 (by omega), eX 3 (by omega), bti.2.1, bti.2.2.1]
      refine b_X0_clearFields_99 hU.2.2.2.2.o (s_put hU.2.2.2.2 (z := r (10 + 4 * i)) (by omega) (by omega)) (fun h3 e3 => ?_)
      have hU3 : fields h3 (c + 17) F (X' 7) (X' 8) (X' 9) (up (X' 10) (r (10 + 4 * i)).toNat (r (11 + 4 * i) + r (12 + 4 * i))) := by rw [e3]; exact hU.w4 _
      have o3 : Off h2 h3 (c + 17) (c + 26) := Off.eqw e3 (c + 17) (c + 26)
      have hc3 := hc.wu hU3 o3
      refine b_X0_clearFields_102 ?_
      rw [e]
      refine ih (i + 1) h3 _ _ (by omega) hc3 (fun j hj => ?_) rfl ?_ (fun a ha => ?_) ?_ (fun j hj => es j hj) (o1.tr o3 c (c + 35))
      · rw [up_ne _ _ (by omega)]; exact eN j hj
      · rw [up_ne _ _ (by omega)]; exact e10
      · rw [← eX a ha]
        unfold upX
        by_cases q9 : a = 9
        · subst q9; simp
        by_cases q8 : a = 8
        · subst q8; simp
        by_cases q7 : a = 7
        · subst q7; simp
        rw [if_neg (by omega), if_neg q9, if_neg q8, if_neg q7]
      · rw [upX_same, eE]; rfl
  -- first loop
  have H1 : ∀ (n i : Nat) (h1 : AH) (N' : Nat → Int) (X' : Nat → Nat → Int), i + n = nF r - F → campX h1 c N' X' → (∀ j, j < 10 → N' j = N j) → N' 10 = ((nS r + i : Nat) : Int) → (∀ a, a < 11 → X' a = X a) →
      (∀ j : Nat, j < nS r + i → X' 11 j = M (315 + 2 * j) ∧ X' 12 j = M (314 + 2 * j)) → Off h h1 c (c + 35) → AW mX0_clearFields 2 0 0 10 [.ref c, .int (iN F), .int (iN ((nF r : Int) - 1 - i))] [] h1 (qV fun h' => (∃ N' X', campX h' c N' X' ∧ Agr k m N' X' (layE M)) ∧ Off h h' c (c + 35)) := by
    intro n
    induction n with
    | zero =>
      intro i h1 N' X' hi hc eN e10 eX es o1
      refine b_X0_clearFields_10 (fun _ => ?_) (fun w => absurd ((iN_lt (by omega)).mpr (by omega)) w)
      have hU : fields h1 (c + 17) (nF r) (X' 7) (X' 8) (X' 9) (X' 10) := by rw [← n1, ← b9, ← eN 9 (by omega)]; exact hc.u
      have hU2 := hU.setc (F : Int)
      have o2 : Off h1 (stf h1 (c + 17) 0 (.int (iN (F : Int)))) (c + 17) (c + 26) := Off.ofs.up _ _
      have hc2 := hc.wu hU2 o2
      refine b_X0_clearFields_52 hc.ru hU.n0 ?_
      refine H2 (nT r) 0 _ _ _ (by omega) hc2 (fun j hj => ?_) rfl ?_ (fun a ha => ?_) ?_ (fun j hj => ?_) (o1.tr o2 c (c + 35))
      · rw [up_ne _ _ (by omega)]; exact eN j (by omega)
      · rw [up_ne _ _ (by omega), e10, M2, show i = nF r - F by omega]
      · rw [← eX a (by omega)]
        unfold upX
        by_cases q9 : a = 9
        · subst q9; simp
        by_cases q8 : a = 8
        · subst q8; simp
        by_cases q7 : a = 7
        · subst q7; simp
        rw [if_neg (by omega), if_neg q9, if_neg q8, if_neg q7]
      · rw [upX_same, eX 10 (by omega)]; rfl
      · rw [M2] at hj
        exact es j (by omega)
    | succ n ih =>
      intro i h1 N' X' hi hc eN e10 eX es o1
      have hU : fields h1 (c + 17) (nF r) (X' 7) (X' 8) (X' 9) (X' 10) := by rw [← n1, ← b9, ← eN 9 (by omega)]; exact hc.u
      have hS : fields h1 (c + 26) ((nS r + i : Nat) : Int) (X' 11) (X' 12) (X' 13) (X' 14) := by rw [← e10]; exact hc.s
      have hx : ((nF r : Int) - 1 - i).toNat = nF r - 1 - i := by omega
      refine b_X0_clearFields_10 (fun w => ?_) (fun _ => ?_)
      · have := (iN_lt (by omega)).mp w; omega
      refine b_X0_clearFields_15 hc.rs hc.ru hU.f1 hU.2.1.o (s_get hU.2.1 (z := (nF r : Int) - 1 - i) (by omega) (by omega)) (fun v h2 hv => ?_)
      obtain ⟨rfl, rfl⟩ := hv
      refine b_X0_clearFields_30 hc.ru hU.f2 hU.2.2.1.o (s_get hU.2.2.1 (z := (nF r : Int) - 1 - i) (by omega) (by omega)) (fun v h2 hv => ?_)
      obtain ⟨rfl, rfl⟩ := hv
      have bui := bu (nF r - 1 - i) (by omega)
      rw [hx, eX 7 (by omega), eX 8 (by omega), bui.1, bui.2.1]
      refine b_X0_clearFields_41 hS.o (s_add (nS r + i) hS (by omega) (bg := false)) (fun h3 hv => ?_)
      obtain ⟨hS3, o3⟩ := hv
      have hc3 := hc.ws hS3 (o3.up _ _)
      refine b_X0_clearFields_46 ?_
      rw [show (nF r : Int) - 1 - i + (-1) = (nF r : Int) - 1 - ((i + 1 : Nat) : Int) by omega]
      refine ih (i + 1) h3 _ _ (by omega) hc3 (fun j hj => ?_) ?_ (fun a ha => ?_) (fun j hj => ?_) (o1.tr o3 c (c + 35))
      · rw [up_ne _ _ (by omega)]; exact eN j hj
      · rw [up_same]; omega
      · rw [← eX a ha]
        unfold upX
        rw [if_neg (by omega), if_neg (by omega), if_neg (by omega), if_neg (by omega)]
      · show up (X' 11) _ _ j = _ ∧ up (X' 12) _ _ j = _
        by_cases q : j = nS r + i
        · rw [q, up_same, up_same, (m6 i (by omega)).1, (m6 i (by omega)).2]
          exact ⟨rfl, rfl⟩
        · rw [up_ne _ _ q, up_ne _ _ q]
          exact es j (by omega)
  refine en_X0_clearFields (b_X0_clearFields_0 hc.ru hU.n0 ?_)
  have s0 : ((nF r : Int) - 1) = (nF r : Int) - 1 - ((0 : Nat) : Int) := by omega
  rw [s0]
  refine H1 (nF r - F) 0 h N X (by omega) hc (fun _ _ => rfl) (by rw [b10, n2]; rfl) (fun _ _ => rfl) (fun j hj => ?_) Off.rf
  rw [m5 _ (by omega) (by omega) (by omega), m5 _ (by omega) (by omega) (by omega)]
  exact bs j (by omega)
end BACK2
