section LCASE
variable {h : AH} {sc : List Value} {σ σ1 : ST} {rf K V l4 : Int} {P : AH → Prop} {mc ms : Nat} {Q : AR → AH → Prop}
theorem LW.se {h : AH} {sc : List Value} {σ τ : ST} {rf i : Int} {v : Value} (w : LW h sc σ τ rf) (hi : 0 ≤ i ∧ i < 2147483648) (e : sc[i.toNat]? = some v) : sei h 0 14 i v := ⟨sc, w.2.2.1, hi, e⟩
theorem LW.cl {h h2 : AH} {sc : List Value} {σ τ ω : ST} {rf rf2 : Int} (w : LW h sc σ τ rf) (r : rw9 h2 ω rf2) (o : Off h h2 642 650) : LW h2 sc σ ω rf2 := by
  obtain ⟨w1, w2, w3, z, w4⟩ := w
  exact ⟨CW.kp w1 o.kp, r, o.kp _ _ (by omega) w3, z, o.kp _ _ (by omega) w4⟩
theorem k_no {K : Int} (hk : K = 0 ∨ K = 1 ∨ K = 2) (q : iN K = iN 0) : K = 0 := by
  rcases hk with e | e | e
  · exact e
  · rw [e] at q; exact absurd q (by decide)
  · rw [e] at q; exact absurd q (by decide)
theorem g_append {a : Int} (hw : LW h sc σ σ rf) (hl : 0 ≤ l4 ∧ l4 < 2000000000) (e1 : sc[(l4 + 1).toNat]? = some (.int (iN a))) (c : CtX mX8_append 6 1 6 [.ref 1, .int (iN a)] h (oX 0 1 K V P)) (hP : ∀ h1, P h1 → cw h1 σ1 ∧ Off h h1 1 642)
    (rc : ∀ h1 rf, LW h1 sc σ1 σ rf → CtI mX9_append 1 0 0 [.ref 642, .int (iN a)] h1 (fun v h2 => (K = 0 → v = V) ∧ rw9 h2 σ1 K ∧ Off h1 h2 642 650))
    (k : ∀ h2, LW h2 sc σ1 σ1 K → AW mL_law 10 mc ms 23 [.ref 0, .ref 1, .ref 642, .ref 650, .int (iN (l4 + 4)), vU, vU] [] h2 Q) :
    AW mL_law 10 (1 + mc) (6 + ms) 152 [.ref 0, .ref 1, .ref 642, .ref 650, .int (iN l4), vU, vU] [] h Q := by
  refine b_L_law_152 (hw.se (by omega) e1) (l_append hw c hP) (fun w h1 hm => ?_)
  obtain ⟨rfl, w1, ho, hk⟩ := hm
  refine b_L_law_163 (w1.se (by omega) e1) w1.o9 (rc h1 _ w1) (fun v h2 hr => ?_)
  obtain ⟨hv, w2, f2⟩ := hr
  have w3 := w1.cl w2 f2
  refine b_L_law_175 w3.o9 (r_thrown w3.2.1) (fun u h3 hu => ?_)
  obtain ⟨rfl, rfl⟩ := hu
  refine b_L_law_181 (fun _ => ?_) (fun q => absurd rfl q)
  refine b_L_law_188 (fun _ => b_L_law_205 (k _ w3)) (fun q => ?_)
  have k0 := k_no hk q
  refine b_L_law_193 (x1 := (iN V).toInt) ⟨_, f2.kp _ _ (by omega) (ho k0), by omega, rfl⟩ (fun _ => b_L_law_205 (k _ w3)) (fun q => absurd ?_ q)
  rw [hv k0]
theorem g_load (hw : LW h sc σ σ rf) (hK : K ≠ 2) (c : CtX mX8_load 7 1 6 [.ref 1] h (oX 1 1 K V P)) (hP : ∀ h1, P h1 → cw h1 σ1 ∧ Off h h1 1 642)
    (rc : ∀ h1 rf, LW h1 sc σ1 σ rf → CtI mX9_load 9 0 0 [.ref 642] h1 (fun v h2 => (K = 0 → v = V) ∧ rw9 h2 σ1 K ∧ Off h1 h2 642 650))
    (k : ∀ h2, LW h2 sc σ1 σ1 K → AW mL_law 10 mc ms 23 [.ref 0, .ref 1, .ref 642, .ref 650, .int (iN (l4 + 4)), vU, vU] [] h2 Q) :
    AW mL_law 10 (1 + mc) (6 + ms) 234 [.ref 0, .ref 1, .ref 642, .ref 650, .int (iN l4), vU, vU] [] h Q := by
  refine b_L_law_234 (l_load hw hK c hP) (fun w h1 hm => ?_)
  obtain ⟨rfl, w1, ho, hk⟩ := hm
  refine b_L_law_239 w1.o9 (rc h1 _ w1) (fun v h2 hr => ?_)
  obtain ⟨hv, w2, f2⟩ := hr
  have w3 := w1.cl w2 f2
  refine b_L_law_245 w3.o9 (r_thrown w3.2.1) (fun u h3 hu => ?_)
  obtain ⟨rfl, rfl⟩ := hu
  refine b_L_law_251 (fun _ => ?_) (fun q => absurd rfl q)
  refine b_L_law_258 (fun _ => b_L_law_275 (k _ w3)) (fun q => ?_)
  have k0 := k_no hk q
  refine b_L_law_263 (x1 := (iN V).toInt) ⟨_, f2.kp _ _ (by omega) (ho k0), by omega, rfl⟩ (fun _ => b_L_law_275 (k _ w3)) (fun q => absurd ?_ q)
  rw [hv k0]
theorem g_about {a : Int} (hw : LW h sc σ σ rf) (hl : 0 ≤ l4 ∧ l4 < 2000000000) (e1 : sc[(l4 + 1).toNat]? = some (.int (iN a))) (hK : K ≠ 2) (c : CtX mX8_about 6 1 6 [.ref 1, .int (iN a)] h (oX 0 0 K V P)) (hP : ∀ h1, P h1 → cw h1 σ1 ∧ Off h h1 1 642)
    (rc : ∀ h1 rf, LW h1 sc σ1 σ rf → CtI mX9_about 3 0 0 [.ref 642, .int (iN a)] h1 (fun v h2 => (K = 0 → v = V) ∧ rw9 h2 σ1 K ∧ Off h1 h2 642 650))
    (k : ∀ h2, LW h2 sc σ1 σ1 K → AW mL_law 10 mc ms 23 [.ref 0, .ref 1, .ref 642, .ref 650, .int (iN (l4 + 4)), vU, vU] [] h2 Q) :
    AW mL_law 10 (1 + mc) (6 + ms) 278 [.ref 0, .ref 1, .ref 642, .ref 650, .int (iN l4), vU, vU] [] h Q := by
  refine b_L_law_278 (hw.se (by omega) e1) (l_about hw hK c hP) (fun w h1 hm => ?_)
  obtain ⟨rfl, w1, ho, hk⟩ := hm
  refine b_L_law_289 (w1.se (by omega) e1) w1.o9 (rc h1 _ w1) (fun v h2 hr => ?_)
  obtain ⟨hv, w2, f2⟩ := hr
  have w3 := w1.cl w2 f2
  refine b_L_law_301 w3.o9 (r_thrown w3.2.1) (fun u h3 hu => ?_)
  obtain ⟨rfl, rfl⟩ := hu
  refine b_L_law_307 (fun _ => ?_) (fun q => absurd rfl q)
  refine b_L_law_314 (fun _ => b_L_law_331 (k _ w3)) (fun q => ?_)
  have k0 := k_no hk q
  refine b_L_law_319 (x1 := (iN V).toInt) ⟨_, f2.kp _ _ (by omega) (ho k0), by omega, rfl⟩ (fun _ => b_L_law_331 (k _ w3)) (fun q => absurd ?_ q)
  rw [hv k0]
theorem g_tent {a b : Int} (hw : LW h sc σ σ rf) (hl : 0 ≤ l4 ∧ l4 < 2000000000) (e1 : sc[(l4 + 1).toNat]? = some (.int (iN a))) (e2 : sc[(l4 + 2).toNat]? = some (.int (iN b))) (c : CtX mX8_tent 6 1 6 [.ref 1, .int (iN a), .int (iN b)] h (oX 2 0 K V P)) (hP : ∀ h1, P h1 → cw h1 σ1 ∧ Off h h1 1 642)
    (rc : ∀ h1 rf, LW h1 sc σ1 σ rf → CtI mX9_tent 2 0 0 [.ref 642, .int (iN a), .int (iN b)] h1 (fun v h2 => (K = 0 → v = V) ∧ rw9 h2 σ1 K ∧ Off h1 h2 642 650))
    (k : ∀ h2, LW h2 sc σ1 σ1 K → AW mL_law 10 mc ms 23 [.ref 0, .ref 1, .ref 642, .ref 650, .int (iN (l4 + 4)), vU, vU] [] h2 Q) :
    AW mL_law 10 (1 + mc) (6 + ms) 334 [.ref 0, .ref 1, .ref 642, .ref 650, .int (iN l4), vU, vU] [] h Q := by
  refine b_L_law_334 (hw.se (by omega) e1) (hw.se (by omega) e2) (l_tent hw c hP) (fun w h1 hm => ?_)
  obtain ⟨rfl, w1, ho, hk⟩ := hm
  refine b_L_law_351 (w1.se (by omega) e1) (w1.se (by omega) e2) w1.o9 (rc h1 _ w1) (fun v h2 hr => ?_)
  obtain ⟨hv, w2, f2⟩ := hr
  have w3 := w1.cl w2 f2
  refine b_L_law_369 w3.o9 (r_thrown w3.2.1) (fun u h3 hu => ?_)
  obtain ⟨rfl, rfl⟩ := hu
  refine b_L_law_375 (fun _ => ?_) (fun q => absurd rfl q)
  refine b_L_law_382 (fun _ => b_L_law_399 (k _ w3)) (fun q => ?_)
  have k0 := k_no hk q
  refine b_L_law_387 (x1 := (iN V).toInt) ⟨_, f2.kp _ _ (by omega) (ho k0), by omega, rfl⟩ (fun _ => b_L_law_399 (k _ w3)) (fun q => absurd ?_ q)
  rw [hv k0]
theorem g_field {a b : Int} (hw : LW h sc σ σ rf) (hl : 0 ≤ l4 ∧ l4 < 2000000000) (e1 : sc[(l4 + 1).toNat]? = some (.int (iN a))) (e2 : sc[(l4 + 2).toNat]? = some (.int (iN b))) (c : CtX mX8_field 6 1 6 [.ref 1, .int (iN a), .int (iN b)] h (oX 2 0 K V P)) (hP : ∀ h1, P h1 → cw h1 σ1 ∧ Off h h1 1 642)
    (rc : ∀ h1 rf, LW h1 sc σ1 σ rf → CtI mX9_field 2 0 0 [.ref 642, .int (iN a), .int (iN b)] h1 (fun v h2 => (K = 0 → v = V) ∧ rw9 h2 σ1 K ∧ Off h1 h2 642 650))
    (k : ∀ h2, LW h2 sc σ1 σ1 K → AW mL_law 10 mc ms 23 [.ref 0, .ref 1, .ref 642, .ref 650, .int (iN (l4 + 4)), vU, vU] [] h2 Q) :
    AW mL_law 10 (1 + mc) (6 + ms) 402 [.ref 0, .ref 1, .ref 642, .ref 650, .int (iN l4), vU, vU] [] h Q := by
  refine b_L_law_402 (hw.se (by omega) e1) (hw.se (by omega) e2) (l_field hw c hP) (fun w h1 hm => ?_)
  obtain ⟨rfl, w1, ho, hk⟩ := hm
  refine b_L_law_419 (w1.se (by omega) e1) (w1.se (by omega) e2) w1.o9 (rc h1 _ w1) (fun v h2 hr => ?_)
  obtain ⟨hv, w2, f2⟩ := hr
  have w3 := w1.cl w2 f2
  refine b_L_law_437 w3.o9 (r_thrown w3.2.1) (fun u h3 hu => ?_)
  obtain ⟨rfl, rfl⟩ := hu
  refine b_L_law_443 (fun _ => ?_) (fun q => absurd rfl q)
  refine b_L_law_450 (fun _ => b_L_law_467 (k _ w3)) (fun q => ?_)
  have k0 := k_no hk q
  refine b_L_law_455 (x1 := (iN V).toInt) ⟨_, f2.kp _ _ (by omega) (ho k0), by omega, rfl⟩ (fun _ => b_L_law_467 (k _ w3)) (fun q => absurd ?_ q)
  rw [hv k0]
theorem g_place {a b : Int} (hw : LW h sc σ σ rf) (hl : 0 ≤ l4 ∧ l4 < 2000000000) (e1 : sc[(l4 + 1).toNat]? = some (.int (iN a))) (e2 : sc[(l4 + 2).toNat]? = some (.int (iN b))) (hK : K ≠ 2) (c : CtX mX8_place 6 1 6 [.ref 1, .int (iN a), .int (iN b)] h (oX 2 2 K V P)) (hP : ∀ h1, P h1 → cw h1 σ1 ∧ Off h h1 1 642)
    (rc : ∀ h1 rf, LW h1 sc σ1 σ rf → CtI mX9_place 2 0 0 [.ref 642, .int (iN a), .int (iN b)] h1 (fun v h2 => (K = 0 → v = V) ∧ rw9 h2 σ1 K ∧ Off h1 h2 642 650))
    (k : ∀ h2, LW h2 sc σ1 σ1 K → AW mL_law 10 mc ms 23 [.ref 0, .ref 1, .ref 642, .ref 650, .int (iN (l4 + 4)), vU, vU] [] h2 Q) :
    AW mL_law 10 (1 + mc) (6 + ms) 470 [.ref 0, .ref 1, .ref 642, .ref 650, .int (iN l4), vU, vU] [] h Q := by
  refine b_L_law_470 (hw.se (by omega) e1) (hw.se (by omega) e2) (l_place hw hK c hP) (fun w h1 hm => ?_)
  obtain ⟨rfl, w1, ho, hk⟩ := hm
  refine b_L_law_487 (w1.se (by omega) e1) (w1.se (by omega) e2) w1.o9 (rc h1 _ w1) (fun v h2 hr => ?_)
  obtain ⟨hv, w2, f2⟩ := hr
  have w3 := w1.cl w2 f2
  refine b_L_law_505 w3.o9 (r_thrown w3.2.1) (fun u h3 hu => ?_)
  obtain ⟨rfl, rfl⟩ := hu
  refine b_L_law_511 (fun _ => ?_) (fun q => absurd rfl q)
  refine b_L_law_518 (fun _ => b_L_law_535 (k _ w3)) (fun q => ?_)
  have k0 := k_no hk q
  refine b_L_law_523 (x1 := (iN V).toInt) ⟨_, f2.kp _ _ (by omega) (ho k0), by omega, rfl⟩ (fun _ => b_L_law_535 (k _ w3)) (fun q => absurd ?_ q)
  rw [hv k0]
theorem g_spare {a : Int} (hw : LW h sc σ σ rf) (hl : 0 ≤ l4 ∧ l4 < 2000000000) (e1 : sc[(l4 + 1).toNat]? = some (.int (iN a))) (hK : K ≠ 2) (c : CtX mX8_spare 6 1 6 [.ref 1, .int (iN a)] h (oX 0 0 K V P)) (hP : ∀ h1, P h1 → cw h1 σ1 ∧ Off h h1 1 642)
    (rc : ∀ h1 rf, LW h1 sc σ1 σ rf → CtI mX9_spare 1 0 0 [.ref 642, .int (iN a)] h1 (fun v h2 => (K = 0 → v = V) ∧ rw9 h2 σ1 K ∧ Off h1 h2 642 650))
    (k : ∀ h2, LW h2 sc σ1 σ1 K → AW mL_law 10 mc ms 23 [.ref 0, .ref 1, .ref 642, .ref 650, .int (iN (l4 + 4)), vU, vU] [] h2 Q) :
    AW mL_law 10 (1 + mc) (6 + ms) 538 [.ref 0, .ref 1, .ref 642, .ref 650, .int (iN l4), vU, vU] [] h Q := by
  refine b_L_law_538 (hw.se (by omega) e1) (l_spare hw hK c hP) (fun w h1 hm => ?_)
  obtain ⟨rfl, w1, ho, hk⟩ := hm
  refine b_L_law_549 (w1.se (by omega) e1) w1.o9 (rc h1 _ w1) (fun v h2 hr => ?_)
  obtain ⟨hv, w2, f2⟩ := hr
  have w3 := w1.cl w2 f2
  refine b_L_law_561 w3.o9 (r_thrown w3.2.1) (fun u h3 hu => ?_)
  obtain ⟨rfl, rfl⟩ := hu
  refine b_L_law_567 (fun _ => ?_) (fun q => absurd rfl q)
  refine b_L_law_574 (fun _ => b_L_law_591 (k _ w3)) (fun q => ?_)
  have k0 := k_no hk q
  refine b_L_law_579 (x1 := (iN V).toInt) ⟨_, f2.kp _ _ (by omega) (ho k0), by omega, rfl⟩ (fun _ => b_L_law_591 (k _ w3)) (fun q => absurd ?_ q)
  rw [hv k0]
theorem g_frame {a b : Int} (hw : LW h sc σ σ rf) (hl : 0 ≤ l4 ∧ l4 < 2000000000) (e1 : sc[(l4 + 1).toNat]? = some (.int (iN a))) (e2 : sc[(l4 + 2).toNat]? = some (.int (iN b))) (c : CtX mX8_frame 6 1 6 [.ref 1, .int (iN a), .int (iN b)] h (oX 2 0 K V P)) (hP : ∀ h1, P h1 → cw h1 σ1 ∧ Off h h1 1 642)
    (rc : ∀ h1 rf, LW h1 sc σ1 σ rf → CtI mX9_frame 2 0 0 [.ref 642, .int (iN a), .int (iN b)] h1 (fun v h2 => (K = 0 → v = V) ∧ rw9 h2 σ1 K ∧ Off h1 h2 642 650))
    (k : ∀ h2, LW h2 sc σ1 σ1 K → AW mL_law 10 mc ms 23 [.ref 0, .ref 1, .ref 642, .ref 650, .int (iN (l4 + 4)), vU, vU] [] h2 Q) :
    AW mL_law 10 (1 + mc) (6 + ms) 594 [.ref 0, .ref 1, .ref 642, .ref 650, .int (iN l4), vU, vU] [] h Q := by
  refine b_L_law_594 (hw.se (by omega) e1) (hw.se (by omega) e2) (l_frame hw c hP) (fun w h1 hm => ?_)
  obtain ⟨rfl, w1, ho, hk⟩ := hm
  refine b_L_law_611 (w1.se (by omega) e1) (w1.se (by omega) e2) w1.o9 (rc h1 _ w1) (fun v h2 hr => ?_)
  obtain ⟨hv, w2, f2⟩ := hr
  have w3 := w1.cl w2 f2
  refine b_L_law_629 w3.o9 (r_thrown w3.2.1) (fun u h3 hu => ?_)
  obtain ⟨rfl, rfl⟩ := hu
  refine b_L_law_635 (fun _ => ?_) (fun q => absurd rfl q)
  refine b_L_law_642 (fun _ => b_L_law_659 (k _ w3)) (fun q => ?_)
  have k0 := k_no hk q
  refine b_L_law_647 (x1 := (iN V).toInt) ⟨_, f2.kp _ _ (by omega) (ho k0), by omega, rfl⟩ (fun _ => b_L_law_659 (k _ w3)) (fun q => absurd ?_ q)
  rw [hv k0]
theorem g_pitch {a b : Int} (hw : LW h sc σ σ rf) (hl : 0 ≤ l4 ∧ l4 < 2000000000) (e1 : sc[(l4 + 1).toNat]? = some (.int (iN a))) (e2 : sc[(l4 + 2).toNat]? = some (.int (iN b))) (c : CtX mX8_pitch 7 1 6 [.ref 1, .int (iN a), .int (iN b)] h (oX 0 1 K V P)) (hP : ∀ h1, P h1 → cw h1 σ1 ∧ Off h h1 1 642)
    (rc : ∀ h1 rf, LW h1 sc σ1 σ rf → CtI mX9_pitch 6 0 0 [.ref 642, .int (iN a), .int (iN b)] h1 (fun v h2 => (K = 0 → v = V) ∧ rw9 h2 σ1 K ∧ Off h1 h2 642 650))
    (k : ∀ h2, LW h2 sc σ1 σ1 K → AW mL_law 10 mc ms 23 [.ref 0, .ref 1, .ref 642, .ref 650, .int (iN (l4 + 4)), vU, vU] [] h2 Q) :
    AW mL_law 10 (1 + mc) (6 + ms) 662 [.ref 0, .ref 1, .ref 642, .ref 650, .int (iN l4), vU, vU] [] h Q := by
  refine b_L_law_662 (hw.se (by omega) e1) (hw.se (by omega) e2) (l_pitch hw c hP) (fun w h1 hm => ?_)
  obtain ⟨rfl, w1, ho, hk⟩ := hm
  refine b_L_law_679 (w1.se (by omega) e1) (w1.se (by omega) e2) w1.o9 (rc h1 _ w1) (fun v h2 hr => ?_)
  obtain ⟨hv, w2, f2⟩ := hr
  have w3 := w1.cl w2 f2
  refine b_L_law_697 w3.o9 (r_thrown w3.2.1) (fun u h3 hu => ?_)
  obtain ⟨rfl, rfl⟩ := hu
  refine b_L_law_703 (fun _ => ?_) (fun q => absurd rfl q)
  refine b_L_law_710 (fun _ => b_L_law_727 (k _ w3)) (fun q => ?_)
  have k0 := k_no hk q
  refine b_L_law_715 (x1 := (iN V).toInt) ⟨_, f2.kp _ _ (by omega) (ho k0), by omega, rfl⟩ (fun _ => b_L_law_727 (k _ w3)) (fun q => absurd ?_ q)
  rw [hv k0]
theorem g_fill {a b : Int} (hw : LW h sc σ σ rf) (hl : 0 ≤ l4 ∧ l4 < 2000000000) (e1 : sc[(l4 + 1).toNat]? = some (.int (iN a))) (e2 : sc[(l4 + 2).toNat]? = some (.int (iN b))) (c : CtX mX8_fill 7 1 6 [.ref 1, .int (iN a), .int (iN b)] h (oX 2 0 K V P)) (hP : ∀ h1, P h1 → cw h1 σ1 ∧ Off h h1 1 642)
    (rc : ∀ h1 rf, LW h1 sc σ1 σ rf → CtI mX9_fill 2 0 0 [.ref 642, .int (iN a), .int (iN b)] h1 (fun v h2 => (K = 0 → v = V) ∧ rw9 h2 σ1 K ∧ Off h1 h2 642 650))
    (k : ∀ h2, LW h2 sc σ1 σ1 K → AW mL_law 10 mc ms 23 [.ref 0, .ref 1, .ref 642, .ref 650, .int (iN (l4 + 4)), vU, vU] [] h2 Q) :
    AW mL_law 10 (1 + mc) (6 + ms) 730 [.ref 0, .ref 1, .ref 642, .ref 650, .int (iN l4), vU, vU] [] h Q := by
  refine b_L_law_730 (hw.se (by omega) e1) (hw.se (by omega) e2) (l_fill hw c hP) (fun w h1 hm => ?_)
  obtain ⟨rfl, w1, ho, hk⟩ := hm
  refine b_L_law_747 (w1.se (by omega) e1) (w1.se (by omega) e2) w1.o9 (rc h1 _ w1) (fun v h2 hr => ?_)
  obtain ⟨hv, w2, f2⟩ := hr
  have w3 := w1.cl w2 f2
  refine b_L_law_765 w3.o9 (r_thrown w3.2.1) (fun u h3 hu => ?_)
  obtain ⟨rfl, rfl⟩ := hu
  refine b_L_law_771 (fun _ => ?_) (fun q => absurd rfl q)
  refine b_L_law_778 (fun _ => b_L_law_795 (k _ w3)) (fun q => ?_)
  have k0 := k_no hk q
  refine b_L_law_783 (x1 := (iN V).toInt) ⟨_, f2.kp _ _ (by omega) (ho k0), by omega, rfl⟩ (fun _ => b_L_law_795 (k _ w3)) (fun q => absurd ?_ q)
  rw [hv k0]
theorem g_enter (hw : LW h sc σ σ rf) (hK : K ≠ 2) (c : CtX mX8_enter 7 1 6 [.ref 1] h (oX 1 1 K V P)) (hP : ∀ h1, P h1 → cw h1 σ1 ∧ Off h h1 1 642)
    (rc : ∀ h1 rf, LW h1 sc σ1 σ rf → CtI mX9_enter 2 0 0 [.ref 642] h1 (fun v h2 => (K = 0 → v = V) ∧ rw9 h2 σ1 K ∧ Off h1 h2 642 650))
    (k : ∀ h2, LW h2 sc σ1 σ1 K → AW mL_law 10 mc ms 23 [.ref 0, .ref 1, .ref 642, .ref 650, .int (iN (l4 + 4)), vU, vU] [] h2 Q) :
    AW mL_law 10 (1 + mc) (6 + ms) 798 [.ref 0, .ref 1, .ref 642, .ref 650, .int (iN l4), vU, vU] [] h Q := by
  refine b_L_law_798 (l_enter hw hK c hP) (fun w h1 hm => ?_)
  obtain ⟨rfl, w1, ho, hk⟩ := hm
  refine b_L_law_803 w1.o9 (rc h1 _ w1) (fun v h2 hr => ?_)
  obtain ⟨hv, w2, f2⟩ := hr
  have w3 := w1.cl w2 f2
  refine b_L_law_809 w3.o9 (r_thrown w3.2.1) (fun u h3 hu => ?_)
  obtain ⟨rfl, rfl⟩ := hu
  refine b_L_law_815 (fun _ => ?_) (fun q => absurd rfl q)
  refine b_L_law_822 (fun _ => b_L_law_839 (k _ w3)) (fun q => ?_)
  have k0 := k_no hk q
  refine b_L_law_827 (x1 := (iN V).toInt) ⟨_, f2.kp _ _ (by omega) (ho k0), by omega, rfl⟩ (fun _ => b_L_law_839 (k _ w3)) (fun q => absurd ?_ q)
  rw [hv k0]
theorem g_leave (hw : LW h sc σ σ rf) (hK : K ≠ 2) (c : CtX mX8_leave 7 1 6 [.ref 1] h (oX 1 1 K V P)) (hP : ∀ h1, P h1 → cw h1 σ1 ∧ Off h h1 1 642)
    (rc : ∀ h1 rf, LW h1 sc σ1 σ rf → CtI mX9_leave 6 0 0 [.ref 642] h1 (fun v h2 => (K = 0 → v = V) ∧ rw9 h2 σ1 K ∧ Off h1 h2 642 650))
    (k : ∀ h2, LW h2 sc σ1 σ1 K → AW mL_law 10 mc ms 23 [.ref 0, .ref 1, .ref 642, .ref 650, .int (iN (l4 + 4)), vU, vU] [] h2 Q) :
    AW mL_law 10 (1 + mc) (6 + ms) 842 [.ref 0, .ref 1, .ref 642, .ref 650, .int (iN l4), vU, vU] [] h Q := by
  refine b_L_law_842 (l_leave hw hK c hP) (fun w h1 hm => ?_)
  obtain ⟨rfl, w1, ho, hk⟩ := hm
  refine b_L_law_847 w1.o9 (rc h1 _ w1) (fun v h2 hr => ?_)
  obtain ⟨hv, w2, f2⟩ := hr
  have w3 := w1.cl w2 f2
  refine b_L_law_853 w3.o9 (r_thrown w3.2.1) (fun u h3 hu => ?_)
  obtain ⟨rfl, rfl⟩ := hu
  refine b_L_law_859 (fun _ => ?_) (fun q => absurd rfl q)
  refine b_L_law_866 (fun _ => b_L_law_883 (k _ w3)) (fun q => ?_)
  have k0 := k_no hk q
  refine b_L_law_871 (x1 := (iN V).toInt) ⟨_, f2.kp _ _ (by omega) (ho k0), by omega, rfl⟩ (fun _ => b_L_law_883 (k _ w3)) (fun q => absurd ?_ q)
  rw [hv k0]
theorem g_jump {a : Int} (hw : LW h sc σ σ rf) (hl : 0 ≤ l4 ∧ l4 < 2000000000) (e1 : sc[(l4 + 1).toNat]? = some (.int (iN a))) (hK : K ≠ 2) (c : CtX mX8_jump 7 1 6 [.ref 1, .int (iN a)] h (oX 2 2 K V P)) (hP : ∀ h1, P h1 → cw h1 σ1 ∧ Off h h1 1 642)
    (rc : ∀ h1 rf, LW h1 sc σ1 σ rf → CtI mX9_jump 6 0 0 [.ref 642, .int (iN a)] h1 (fun v h2 => (K = 0 → v = V) ∧ rw9 h2 σ1 K ∧ Off h1 h2 642 650))
    (k : ∀ h2, LW h2 sc σ1 σ1 K → AW mL_law 10 mc ms 23 [.ref 0, .ref 1, .ref 642, .ref 650, .int (iN (l4 + 4)), vU, vU] [] h2 Q) :
    AW mL_law 10 (1 + mc) (6 + ms) 886 [.ref 0, .ref 1, .ref 642, .ref 650, .int (iN l4), vU, vU] [] h Q := by
  refine b_L_law_886 (hw.se (by omega) e1) (l_jump hw hK c hP) (fun w h1 hm => ?_)
  obtain ⟨rfl, w1, ho, hk⟩ := hm
  refine b_L_law_897 (w1.se (by omega) e1) w1.o9 (rc h1 _ w1) (fun v h2 hr => ?_)
  obtain ⟨hv, w2, f2⟩ := hr
  have w3 := w1.cl w2 f2
  refine b_L_law_909 w3.o9 (r_thrown w3.2.1) (fun u h3 hu => ?_)
  obtain ⟨rfl, rfl⟩ := hu
  refine b_L_law_915 (fun _ => ?_) (fun q => absurd rfl q)
  refine b_L_law_922 (fun _ => b_L_law_939 (k _ w3)) (fun q => ?_)
  have k0 := k_no hk q
  refine b_L_law_927 (x1 := (iN V).toInt) ⟨_, f2.kp _ _ (by omega) (ho k0), by omega, rfl⟩ (fun _ => b_L_law_939 (k _ w3)) (fun q => absurd ?_ q)
  rw [hv k0]
theorem g_set {a b : Int} (hw : LW h sc σ σ rf) (hl : 0 ≤ l4 ∧ l4 < 2000000000) (e1 : sc[(l4 + 1).toNat]? = some (.int (iN a))) (e2 : sc[(l4 + 2).toNat]? = some (.int (iN b))) (hK : K ≠ 2) (c : CtX mX8_set 7 1 6 [.ref 1, .int (iN a), .int (iN b)] h (oX 0 0 K V P)) (hP : ∀ h1, P h1 → cw h1 σ1 ∧ Off h h1 1 642)
    (rc : ∀ h1 rf, LW h1 sc σ1 σ rf → CtI mX9_set 2 0 0 [.ref 642, .int (iN a), .int (iN b)] h1 (fun v h2 => (K = 0 → v = V) ∧ rw9 h2 σ1 K ∧ Off h1 h2 642 650))
    (k : ∀ h2, LW h2 sc σ1 σ1 K → AW mL_law 10 mc ms 23 [.ref 0, .ref 1, .ref 642, .ref 650, .int (iN (l4 + 4)), vU, vU] [] h2 Q) :
    AW mL_law 10 (1 + mc) (6 + ms) 942 [.ref 0, .ref 1, .ref 642, .ref 650, .int (iN l4), vU, vU] [] h Q := by
  refine b_L_law_942 (hw.se (by omega) e1) (hw.se (by omega) e2) (l_set hw hK c hP) (fun w h1 hm => ?_)
  obtain ⟨rfl, w1, ho, hk⟩ := hm
  refine b_L_law_959 (w1.se (by omega) e1) (w1.se (by omega) e2) w1.o9 (rc h1 _ w1) (fun v h2 hr => ?_)
  obtain ⟨hv, w2, f2⟩ := hr
  have w3 := w1.cl w2 f2
  refine b_L_law_977 w3.o9 (r_thrown w3.2.1) (fun u h3 hu => ?_)
  obtain ⟨rfl, rfl⟩ := hu
  refine b_L_law_983 (fun _ => ?_) (fun q => absurd rfl q)
  refine b_L_law_990 (fun _ => b_L_law_1007 (k _ w3)) (fun q => ?_)
  have k0 := k_no hk q
  refine b_L_law_995 (x1 := (iN V).toInt) ⟨_, f2.kp _ _ (by omega) (ho k0), by omega, rfl⟩ (fun _ => b_L_law_1007 (k _ w3)) (fun q => absurd ?_ q)
  rw [hv k0]
theorem g_undo (hw : LW h sc σ σ rf) (hK : K ≠ 2) (c : CtX mX8_undo 7 1 6 [.ref 1] h (oX 1 1 K V P)) (hP : ∀ h1, P h1 → cw h1 σ1 ∧ Off h h1 1 642)
    (rc : ∀ h1 rf, LW h1 sc σ1 σ rf → CtI mX9_undo 1 0 0 [.ref 642] h1 (fun v h2 => (K = 0 → v = V) ∧ rw9 h2 σ1 K ∧ Off h1 h2 642 650))
    (k : ∀ h2, LW h2 sc σ1 σ1 K → AW mL_law 10 mc ms 23 [.ref 0, .ref 1, .ref 642, .ref 650, .int (iN (l4 + 4)), vU, vU] [] h2 Q) :
    AW mL_law 10 (1 + mc) (6 + ms) 1010 [.ref 0, .ref 1, .ref 642, .ref 650, .int (iN l4), vU, vU] [] h Q := by
  refine b_L_law_1010 (l_undo hw hK c hP) (fun w h1 hm => ?_)
  obtain ⟨rfl, w1, ho, hk⟩ := hm
  refine b_L_law_1015 w1.o9 (rc h1 _ w1) (fun v h2 hr => ?_)
  obtain ⟨hv, w2, f2⟩ := hr
  have w3 := w1.cl w2 f2
  refine b_L_law_1021 w3.o9 (r_thrown w3.2.1) (fun u h3 hu => ?_)
  obtain ⟨rfl, rfl⟩ := hu
  refine b_L_law_1027 (fun _ => ?_) (fun q => absurd rfl q)
  refine b_L_law_1034 (fun _ => b_L_law_1051 (k _ w3)) (fun q => ?_)
  have k0 := k_no hk q
  refine b_L_law_1039 (x1 := (iN V).toInt) ⟨_, f2.kp _ _ (by omega) (ho k0), by omega, rfl⟩ (fun _ => b_L_law_1051 (k _ w3)) (fun q => absurd ?_ q)
  rw [hv k0]
theorem g_where {a b : Int} (hw : LW h sc σ σ rf) (hl : 0 ≤ l4 ∧ l4 < 2000000000) (e1 : sc[(l4 + 1).toNat]? = some (.int (iN a))) (e2 : sc[(l4 + 2).toNat]? = some (.int (iN b))) (hK : K ≠ 2) (c : CtX mX8_where 6 1 6 [.ref 1, .int (iN a), .int (iN b)] h (oX 0 0 K V P)) (hP : ∀ h1, P h1 → cw h1 σ1 ∧ Off h h1 1 642)
    (rc : ∀ h1 rf, LW h1 sc σ1 σ rf → CtI mX9_where 4 0 0 [.ref 642, .int (iN a), .int (iN b)] h1 (fun v h2 => (K = 0 → v = V) ∧ rw9 h2 σ1 K ∧ Off h1 h2 642 650))
    (k : ∀ h2, LW h2 sc σ1 σ1 K → AW mL_law 10 mc ms 23 [.ref 0, .ref 1, .ref 642, .ref 650, .int (iN (l4 + 4)), vU, vU] [] h2 Q) :
    AW mL_law 10 (1 + mc) (6 + ms) 1054 [.ref 0, .ref 1, .ref 642, .ref 650, .int (iN l4), vU, vU] [] h Q := by
  refine b_L_law_1054 (hw.se (by omega) e1) (hw.se (by omega) e2) (l_where hw hK c hP) (fun w h1 hm => ?_)
  obtain ⟨rfl, w1, ho, hk⟩ := hm
  refine b_L_law_1071 (w1.se (by omega) e1) (w1.se (by omega) e2) w1.o9 (rc h1 _ w1) (fun v h2 hr => ?_)
  obtain ⟨hv, w2, f2⟩ := hr
  have w3 := w1.cl w2 f2
  refine b_L_law_1089 w3.o9 (r_thrown w3.2.1) (fun u h3 hu => ?_)
  obtain ⟨rfl, rfl⟩ := hu
  refine b_L_law_1095 (fun _ => ?_) (fun q => absurd rfl q)
  refine b_L_law_1102 (fun _ => b_L_law_1119 (k _ w3)) (fun q => ?_)
  have k0 := k_no hk q
  refine b_L_law_1107 (x1 := (iN V).toInt) ⟨_, f2.kp _ _ (by omega) (ho k0), by omega, rfl⟩ (fun _ => b_L_law_1119 (k _ w3)) (fun q => absurd ?_ q)
  rw [hv k0]
theorem g_givenUp {a : Int} (hw : LW h sc σ σ rf) (hl : 0 ≤ l4 ∧ l4 < 2000000000) (e1 : sc[(l4 + 1).toNat]? = some (.int (iN a))) (hK : K ≠ 2) (c : CtX mX8_givenUp 6 1 6 [.ref 1, .int (iN a)] h (oX 2 2 K V P)) (hP : ∀ h1, P h1 → cw h1 σ1 ∧ Off h h1 1 642)
    (rc : ∀ h1 rf, LW h1 sc σ1 σ rf → CtI mX9_givenUp 6 0 0 [.ref 642, .int (iN a)] h1 (fun v h2 => (K = 0 → v = V) ∧ rw9 h2 σ1 K ∧ Off h1 h2 642 650))
    (k : ∀ h2, LW h2 sc σ1 σ1 K → AW mL_law 10 mc ms 23 [.ref 0, .ref 1, .ref 642, .ref 650, .int (iN (l4 + 4)), vU, vU] [] h2 Q) :
    AW mL_law 10 (1 + mc) (6 + ms) 1122 [.ref 0, .ref 1, .ref 642, .ref 650, .int (iN l4), vU, vU] [] h Q := by
  refine b_L_law_1122 (hw.se (by omega) e1) (l_givenUp hw hK c hP) (fun w h1 hm => ?_)
  obtain ⟨rfl, w1, ho, hk⟩ := hm
  refine b_L_law_1133 (w1.se (by omega) e1) w1.o9 (rc h1 _ w1) (fun v h2 hr => ?_)
  obtain ⟨hv, w2, f2⟩ := hr
  have w3 := w1.cl w2 f2
  refine b_L_law_1145 w3.o9 (r_thrown w3.2.1) (fun u h3 hu => ?_)
  obtain ⟨rfl, rfl⟩ := hu
  refine b_L_law_1151 (fun _ => ?_) (fun q => absurd rfl q)
  refine b_L_law_1158 (fun _ => b_L_law_1175 (k _ w3)) (fun q => ?_)
  have k0 := k_no hk q
  refine b_L_law_1163 (x1 := (iN V).toInt) ⟨_, f2.kp _ _ (by omega) (ho k0), by omega, rfl⟩ (fun _ => b_L_law_1175 (k _ w3)) (fun q => absurd ?_ q)
  rw [hv k0]
theorem g_more {a b : Int} (hw : LW h sc σ σ rf) (hl : 0 ≤ l4 ∧ l4 < 2000000000) (e1 : sc[(l4 + 1).toNat]? = some (.int (iN a))) (e2 : sc[(l4 + 2).toNat]? = some (.int (iN b))) (hK : K ≠ 2) (c : CtX mX8_more 6 1 6 [.ref 1, .int (iN a), .int (iN b)] h (oX 0 0 K V P)) (hP : ∀ h1, P h1 → cw h1 σ1 ∧ Off h h1 1 642)
    (rc : ∀ h1 rf, LW h1 sc σ1 σ rf → CtI mX9_more 5 0 0 [.ref 642, .int (iN a), .int (iN b)] h1 (fun v h2 => (K = 0 → v = V) ∧ rw9 h2 σ1 K ∧ Off h1 h2 642 650))
    (k : ∀ h2, LW h2 sc σ1 σ1 K → AW mL_law 10 mc ms 23 [.ref 0, .ref 1, .ref 642, .ref 650, .int (iN (l4 + 4)), vU, vU] [] h2 Q) :
    AW mL_law 10 (1 + mc) (6 + ms) 1191 [.ref 0, .ref 1, .ref 642, .ref 650, .int (iN l4), vU, vU] [] h Q := by
  refine b_L_law_1191 (hw.se (by omega) e1) (hw.se (by omega) e2) (l_more hw hK c hP) (fun w h1 hm => ?_)
  obtain ⟨rfl, w1, ho, hk⟩ := hm
  refine b_L_law_1208 (w1.se (by omega) e1) (w1.se (by omega) e2) w1.o9 (rc h1 _ w1) (fun v h2 hr => ?_)
  obtain ⟨hv, w2, f2⟩ := hr
  have w3 := w1.cl w2 f2
  refine b_L_law_1226 w3.o9 (r_thrown w3.2.1) (fun u h3 hu => ?_)
  obtain ⟨rfl, rfl⟩ := hu
  refine b_L_law_1232 (fun _ => ?_) (fun q => absurd rfl q)
  refine b_L_law_1239 (fun _ => b_L_law_1256 (k _ w3)) (fun q => ?_)
  have k0 := k_no hk q
  refine b_L_law_1244 (x1 := (iN V).toInt) ⟨_, f2.kp _ _ (by omega) (ho k0), by omega, rfl⟩ (fun _ => b_L_law_1256 (k _ w3)) (fun q => absurd ?_ q)
  rw [hv k0]
theorem g_runScript {a b d : Int} (hw : LW h sc σ σ rf) (hl : 0 ≤ l4 ∧ l4 < 2000000000) (e1 : sc[(l4 + 1).toNat]? = some (.int (iN a))) (e2 : sc[(l4 + 2).toNat]? = some (.int (iN b))) (e3 : sc[(l4 + 3).toNat]? = some (.int (iN d))) (hK : K ≠ 2) (c : CtX mX8_runScript 7 1 6 [.ref 1, .int (iN a), .long (jN (jN (jN (iN b).toInt <<< ((iN 32).toInt64 &&& 63)).toInt ||| jN (jN (iN d).toInt &&& jN 4294967295).toInt).toInt)] h (oX 0 0 K V P)) (hP : ∀ h1, P h1 → cw h1 σ1 ∧ Off h h1 1 642)
    (rc : ∀ h1 rf, LW h1 sc σ1 σ rf → CtI mX9_runScript 8 0 0 [.ref 642, .int (iN a), .long (jN (jN (jN (iN b).toInt <<< ((iN 32).toInt64 &&& 63)).toInt ||| jN (jN (iN d).toInt &&& jN 4294967295).toInt).toInt)] h1 (fun v h2 => (K = 0 → v = V) ∧ rw9 h2 σ1 K ∧ Off h1 h2 642 650))
    (k : ∀ h2, LW h2 sc σ1 σ1 K → AW mL_law 10 mc ms 23 [.ref 0, .ref 1, .ref 642, .ref 650, .int (iN (l4 + 4)), vU, vU] [] h2 Q) :
    AW mL_law 10 (1 + mc) (6 + ms) 1259 [.ref 0, .ref 1, .ref 642, .ref 650, .int (iN l4), vU, vU] [] h Q := by
  refine b_L_law_1259 (hw.se (by omega) e1) (hw.se (by omega) e2) (hw.se (by omega) e3) (l_runScript hw hK c hP) (fun w h1 hm => ?_)
  obtain ⟨rfl, w1, ho, hk⟩ := hm
  refine b_L_law_1292 (w1.se (by omega) e1) (w1.se (by omega) e2) (w1.se (by omega) e3) w1.o9 (rc h1 _ w1) (fun v h2 hr => ?_)
  obtain ⟨hv, w2, f2⟩ := hr
  have w3 := w1.cl w2 f2
  refine b_L_law_1326 w3.o9 (r_thrown w3.2.1) (fun u h3 hu => ?_)
  obtain ⟨rfl, rfl⟩ := hu
  refine b_L_law_1332 (fun _ => ?_) (fun q => absurd rfl q)
  refine b_L_law_1339 (fun _ => b_L_law_1356 (k _ w3)) (fun q => ?_)
  have k0 := k_no hk q
  refine b_L_law_1344 (x1 := (iN V).toInt) ⟨_, f2.kp _ _ (by omega) (ho k0), by omega, rfl⟩ (fun _ => b_L_law_1356 (k _ w3)) (fun q => absurd ?_ q)
  rw [hv k0]
theorem g_simulate {a b d : Int} (hw : LW h sc σ σ rf) (hl : 0 ≤ l4 ∧ l4 < 2000000000) (e1 : sc[(l4 + 1).toNat]? = some (.int (iN a))) (e2 : sc[(l4 + 2).toNat]? = some (.int (iN b))) (e3 : sc[(l4 + 3).toNat]? = some (.int (iN d))) (hK : K ≠ 2) (c : CtX mX8_simulate 7 1 6 [.ref 1, .long (jN (jN (jN (iN a).toInt <<< ((iN 32).toInt64 &&& 63)).toInt ||| jN (jN (iN b).toInt &&& jN 4294967295).toInt).toInt), .int (iN d)] h (oX 0 0 K V P)) (hP : ∀ h1, P h1 → cw h1 σ1 ∧ Off h h1 1 642)
    (rc : ∀ h1 rf, LW h1 sc σ1 σ rf → CtI mX9_simulate 8 0 0 [.ref 642, .long (jN (jN (jN (iN a).toInt <<< ((iN 32).toInt64 &&& 63)).toInt ||| jN (jN (iN b).toInt &&& jN 4294967295).toInt).toInt), .int (iN d)] h1 (fun v h2 => (K = 0 → v = V) ∧ rw9 h2 σ1 K ∧ Off h1 h2 642 650))
    (k : ∀ h2, LW h2 sc σ1 σ1 K → AW mL_law 10 mc ms 23 [.ref 0, .ref 1, .ref 642, .ref 650, .int (iN (l4 + 4)), vU, vU] [] h2 Q) :
    AW mL_law 10 (1 + mc) (6 + ms) 1359 [.ref 0, .ref 1, .ref 642, .ref 650, .int (iN l4), vU, vU] [] h Q := by
  refine b_L_law_1359 (hw.se (by omega) e1) (hw.se (by omega) e2) (hw.se (by omega) e3) (l_simulate hw hK c hP) (fun w h1 hm => ?_)
  obtain ⟨rfl, w1, ho, hk⟩ := hm
  refine b_L_law_1392 (w1.se (by omega) e1) (w1.se (by omega) e2) (w1.se (by omega) e3) w1.o9 (rc h1 _ w1) (fun v h2 hr => ?_)
  obtain ⟨hv, w2, f2⟩ := hr
  have w3 := w1.cl w2 f2
  refine b_L_law_1426 w3.o9 (r_thrown w3.2.1) (fun u h3 hu => ?_)
  obtain ⟨rfl, rfl⟩ := hu
  refine b_L_law_1432 (fun _ => ?_) (fun q => absurd rfl q)
  refine b_L_law_1439 (fun _ => b_L_law_1456 (k _ w3)) (fun q => ?_)
  have k0 := k_no hk q
  refine b_L_law_1444 (x1 := (iN V).toInt) ⟨_, f2.kp _ _ (by omega) (ho k0), by omega, rfl⟩ (fun _ => b_L_law_1456 (k _ w3)) (fun q => absurd ?_ q)
  rw [hv k0]
theorem g_save {a : Int} (hw : LW h sc σ σ rf) (hl : 0 ≤ l4 ∧ l4 < 2000000000) (e1 : sc[(l4 + 1).toNat]? = some (.int (iN a))) (hK : K ≠ 2) (c : CtX mX8_save 6 1 6 [.ref 1, .int (iN a)] h (oX 2 2 K V P)) (hP : ∀ h1, P h1 → cw h1 σ1 ∧ Off h h1 1 642)
    (rc : ∀ h1 rf, LW h1 sc σ1 σ rf → CtI mX9_save 1 0 0 [.ref 642, .int (iN a)] h1 (fun v h2 => (K = 0 → v = V) ∧ rw9 h2 σ1 K ∧ Off h1 h2 642 650))
    (k : ∀ h2, LW h2 sc σ1 σ1 K → AW mL_law 10 mc ms 23 [.ref 0, .ref 1, .ref 642, .ref 650, .int (iN (l4 + 4)), vU, vU] [] h2 Q) :
    AW mL_law 10 (1 + mc) (6 + ms) 1459 [.ref 0, .ref 1, .ref 642, .ref 650, .int (iN l4), vU, vU] [] h Q := by
  refine b_L_law_1459 (hw.se (by omega) e1) (l_save hw hK c hP) (fun w h1 hm => ?_)
  obtain ⟨rfl, w1, ho, hk⟩ := hm
  refine b_L_law_1470 (w1.se (by omega) e1) w1.o9 (rc h1 _ w1) (fun v h2 hr => ?_)
  obtain ⟨hv, w2, f2⟩ := hr
  have w3 := w1.cl w2 f2
  refine b_L_law_1482 w3.o9 (r_thrown w3.2.1) (fun u h3 hu => ?_)
  obtain ⟨rfl, rfl⟩ := hu
  refine b_L_law_1488 (fun _ => ?_) (fun q => absurd rfl q)
  refine b_L_law_1495 (fun _ => b_L_law_1512 (k _ w3)) (fun q => ?_)
  have k0 := k_no hk q
  refine b_L_law_1500 (x1 := (iN V).toInt) ⟨_, f2.kp _ _ (by omega) (ho k0), by omega, rfl⟩ (fun _ => b_L_law_1512 (k _ w3)) (fun q => absurd ?_ q)
  rw [hv k0]
theorem g_restore {a : Int} (hw : LW h sc σ σ rf) (hl : 0 ≤ l4 ∧ l4 < 2000000000) (e1 : sc[(l4 + 1).toNat]? = some (.int (iN a))) (c : CtX mX8_restore 6 1 6 [.ref 1, .int (iN a)] h (oX 2 1 K V P)) (hP : ∀ h1, P h1 → cw h1 σ1 ∧ Off h h1 1 642)
    (rc : ∀ h1 rf, LW h1 sc σ1 σ rf → CtI mX9_restore 1 0 0 [.ref 642, .int (iN a)] h1 (fun v h2 => (K = 0 → v = V) ∧ rw9 h2 σ1 K ∧ Off h1 h2 642 650))
    (k : ∀ h2, LW h2 sc σ1 σ1 K → AW mL_law 10 mc ms 23 [.ref 0, .ref 1, .ref 642, .ref 650, .int (iN (l4 + 4)), vU, vU] [] h2 Q) :
    AW mL_law 10 (1 + mc) (6 + ms) 1515 [.ref 0, .ref 1, .ref 642, .ref 650, .int (iN l4), vU, vU] [] h Q := by
  refine b_L_law_1515 (hw.se (by omega) e1) (l_restore hw c hP) (fun w h1 hm => ?_)
  obtain ⟨rfl, w1, ho, hk⟩ := hm
  refine b_L_law_1526 (w1.se (by omega) e1) w1.o9 (rc h1 _ w1) (fun v h2 hr => ?_)
  obtain ⟨hv, w2, f2⟩ := hr
  have w3 := w1.cl w2 f2
  refine b_L_law_1538 w3.o9 (r_thrown w3.2.1) (fun u h3 hu => ?_)
  obtain ⟨rfl, rfl⟩ := hu
  refine b_L_law_1544 (fun _ => ?_) (fun q => absurd rfl q)
  refine b_L_law_1551 (fun _ => b_L_law_1568 (k _ w3)) (fun q => ?_)
  have k0 := k_no hk q
  refine b_L_law_1556 (x1 := (iN V).toInt) ⟨_, f2.kp _ _ (by omega) (ho k0), by omega, rfl⟩ (fun _ => b_L_law_1568 (k _ w3)) (fun q => absurd ?_ q)
  rw [hv k0]
end LCASE
