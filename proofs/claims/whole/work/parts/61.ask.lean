/-! the class's questions -/
def abK (w : Int) : Int := if 0 ≤ w ∧ w ≤ 13 then 0 else 1
def abV (r : Nat → Int) (w : Int) : Int :=
  if w = 4 then tentP r else if w = 5 then useP r else if w = 6 then sparP r else if w = 7 then gapsV r else if w ≤ 3 then r w.toNat else r (w - 4).toNat
def tnK (r : Nat → Int) (t w : Int) : Int := if ¬ (0 ≤ t ∧ t < r 0) then 1 else if 0 ≤ w ∧ w ≤ 4 then 0 else 2
def tnV (r : Nat → Int) (t w : Int) : Int := if w = 4 then frOf r t else r (10 + 4 * t + w).toNat
def fdK (r : Nat → Int) (f w : Int) : Int := if ¬ (0 ≤ f ∧ f < r 1) then 1 else if 0 ≤ w ∧ w ≤ 4 then 0 else 2
def fdV (r : Nat → Int) (f w : Int) : Int :=
  if w = 0 then r (106 + 4 * f.toNat) else if w = 1 then r (107 + 4 * f.toNat) else if w = 2 then cnt (fun t => r (10 + 4 * t)) f 0 (nT r) else
  if w = 3 then r (106 + 4 * f.toNat) - r (108 + 4 * f.toNat) else cnt r 100 (434 + (r (109 + 4 * f.toNat)).toNat) (r (106 + 4 * f.toNat)).toNat
def plK (r : Nat → Int) (f k : Int) : Int := if (0 ≤ f ∧ f < r 1) ∧ 0 ≤ k ∧ k < r (106 + 4 * f.toNat) then 0 else 1
def plV (r : Nat → Int) (f k : Int) : Int := r (434 + (r (109 + 4 * f.toNat)).toNat + k.toNat)
def frK (r : Nat → Int) (i w : Int) : Int := if ¬ (0 ≤ i ∧ i < r 3) then 1 else if 0 ≤ w ∧ w ≤ 2 then 0 else 2
def frV (r : Nat → Int) (i w : Int) : Int :=
  if w = 0 then r (418 + 2 * i.toNat) else if w = 1 then r (419 + 2 * i.toNat) else smf (fun t => r (12 + 4 * t)) (r (418 + 2 * i.toNat)).toNat (nT r)
def spK (i : Int) : Int := if 0 ≤ i then 0 else 1
section ASK
variable {h : AH} {x : Nat} {r : Nat → Int}
theorem Inv.fr (hI : Inv r) {i : Nat} (hi : (i : Int) < r 3) : frmOK r i := hI.2.2.2.2.2.2.2 i hi
theorem c_about (hx : tco h x) (hc : cmp h (x + 1) r) {w : Int} (hw : -2147483648 ≤ w ∧ w < 2147483648) : CtX mX8_about 6 1 6 [.ref x, .int (iN w)] h (oX 0 0 (abK w) (abV r w) (fun h' => h' = h)) := by
  obtain ⟨⟨N, X, hX, hA⟩, I⟩ := hc
  have eT := iN_T hw
  have r0 := I.r0
  have hg := I.1
  obtain ⟨a0, a1, a2, a3, a4, a5, a6, a7, a8, a9, a10⟩ := hA.1
  have k0 : ∀ w', w = w' → (0 ≤ w' ∧ w' ≤ 13) → abK w = 0 := fun w' e hh => by unfold abK; rw [if_pos (by omega)]
  have gr : ∀ v, w = v → (v ≤ 3 ∧ 0 ≤ v) → abV r w = r v.toNat := fun v e hh => by
    unfold abV; rw [if_neg (by omega), if_neg (by omega), if_neg (by omega), if_neg (by omega), if_pos (by omega), e]
  have gq : ∀ v, w = v → 8 ≤ v → abV r w = r (v - 4).toNat := fun v e hh => by
    unfold abV; rw [if_neg (by omega), if_neg (by omega), if_neg (by omega), if_neg (by omega), if_neg (by omega), e]
  refine en_X8_about (b_X8_about_0 (fun q => ?_) (fun q => ?_) (fun q => ?_) (fun q => ?_) (fun q => ?_) (fun q => ?_) (fun q => ?_) (fun q => ?_) (fun q => ?_) (fun q => ?_) (fun q => ?_) (fun q => ?_) (fun q => ?_) (fun q => ?_) (fun q => ?_)) <;> rw [eT] at q
  · exact b_X8_about_72 hx.f0 hX.rt (hX.t.n0) (oX.ve (k0 0 q (by omega)) (by rw [gr 0 q (by omega)]; exact a7) rfl)
  · exact b_X8_about_83 hx.f0 hX.ru (hX.u.n0) (oX.ve (k0 1 q (by omega)) (by rw [gr 1 q (by omega)]; exact a9) rfl)
  · exact b_X8_about_94 hx.f0 hX.rs (hX.s.n0) (oX.ve (k0 2 q (by omega)) (by rw [gr 2 q (by omega)]; exact a10) rfl)
  · exact b_X8_about_105 hx.f0 hX.rf (hX.f.n0) (oX.ve (k0 3 q (by omega)) (by rw [gr 3 q (by omega)]; exact a8) rfl)
  · refine b_X8_about_116 hx.f0 hX.rt hX.t.o (s_placesFrom (nT r) 0 (hX.tt hA r0.1) (by unfold nT; omega) (by omega)) (fun v h1 hv => ?_)
    obtain ⟨rfl, rfl⟩ := hv
    refine b_X8_about_127 (oX.ve (k0 4 q (by omega)) ?_ rfl)
    unfold abV
    rw [if_pos q, smf_0]
    exact sm_congr (fun k hk => (hA.2.2.1 k (by unfold nT at hk; omega)).2.2.1)
  · refine b_X8_about_128 hx.f0 hX.ru hX.u.o (s_places (nF r) (hX.uu hA hg) (by have := hg.n; omega) (fun k hk => ?_)) (fun v h1 hv => ?_)
    · rw [(hA.2.2.2.2.1 k (by unfold nF at hk; omega)).2.1]
      have := (hg.f hk).1; omega
    · obtain ⟨rfl, rfl⟩ := hv
      refine b_X8_about_138 (oX.ve (k0 5 q (by omega)) ?_ rfl)
      unfold abV useP
      rw [if_neg (by omega), if_pos q]
      exact sm_congr (fun k hk => (hA.2.2.2.2.1 k (by unfold nF at hk; omega)).2.1)
  · refine b_X8_about_139 hx.f0 hX.rs hX.s.o (s_places (nS r) (hX.ss hA hg) (by have := hg.n; omega) (fun k hk => ?_)) (fun v h1 hv => ?_)
    · rw [(hA.2.2.2.2.2 k (by unfold nS at hk; omega)).2]
      have := (hg.s hk).1; omega
    · obtain ⟨rfl, rfl⟩ := hv
      refine b_X8_about_149 (oX.ve (k0 6 q (by omega)) ?_ rfl)
      unfold abV sparP
      rw [if_neg (by omega), if_neg (by omega), if_pos q]
      exact sm_congr (fun k hk => (hA.2.2.2.2.2 k (by unfold nS at hk; omega)).2)
  · refine b_X8_about_150 hx.f0 hX.o (s_cgaps hX hA hg I.2.1) (fun v h1 hv => ?_)
    obtain ⟨rfl, rfl⟩ := hv
    refine b_X8_about_157 (oX.ve (k0 7 q (by omega)) ?_ rfl)
    unfold abV
    rw [if_neg (by omega), if_neg (by omega), if_neg (by omega), if_pos q]
  · exact b_X8_about_158 hx.f0 hX.n4 (oX.ve (k0 8 q (by omega)) (by rw [gq 8 q (by omega)]; exact a4) rfl)
  · exact b_X8_about_166 hx.f0 hX.n5 (oX.ve (k0 9 q (by omega)) (by rw [gq 9 q (by omega)]; exact a5) rfl)
  · exact b_X8_about_174 hx.f0 hX.n3 (oX.ve (k0 10 q (by omega)) (by rw [gq 10 q (by omega)]; exact a3) rfl)
  · exact b_X8_about_182 hx.f0 hX.n0 (oX.ve (k0 11 q (by omega)) (by rw [gq 11 q (by omega)]; exact a0) rfl)
  · exact b_X8_about_190 hx.f0 hX.n1 (oX.ve (k0 12 q (by omega)) (by rw [gq 12 q (by omega)]; exact a1) rfl)
  · exact b_X8_about_198 hx.f0 hX.n2 (oX.ve (k0 13 q (by omega)) (by rw [gq 13 q (by omega)]; exact a2) rfl)
  · exact b_X8_about_206 (by omega) (by omega) (oX.a (by unfold abK; rw [if_neg (by omega)]) rfl)
theorem c_tent (hx : tco h x) (hc : cmp h (x + 1) r) {t w : Int} (ht : -2147483648 ≤ t ∧ t < 2147483648) (hw : -2147483648 ≤ w ∧ w < 2147483648) : CtX mX8_tent 6 1 6 [.ref x, .int (iN t), .int (iN w)] h (oX 2 0 (tnK r t w) (tnV r t w) (fun h' => h' = h)) := by
  obtain ⟨⟨N, X, hX, hA⟩, I⟩ := hc
  have eT := iN_T hw
  have r0 := I.r0
  have r3 := I.r3
  have a7 : N 7 = r 0 := hA.nums.2.2.2.2.2.2.2.1
  have hT := hX.tt hA r0.1
  have eN : ((nT r : Nat) : Int) = r 0 := by unfold nT; omega
  have S := s_thas hT ht (by omega)
  rw [eN] at S
  refine en_X8_tent (b_X8_tent_0 hx.f0 hX.rt hX.t.o S (fun v h1 hv => ?_))
  obtain ⟨rfl, rfl⟩ := hv
  by_cases q : 0 ≤ t ∧ t < r 0
  · rw [decide_eq_true q]
    have G : ∀ {f : Nat → Int} {b9 : Nat}, row h1 b9 24 f → CtI mX4_get 0 0 0 [.ref b9, .int (iN t)] h1 (fun v h' => v = f t.toNat ∧ h' = h1) := fun hr => s_get hr q.1 (by omega)
    have T := hA.2.2.1 t.toNat (by omega)
    have k0 : 0 ≤ w ∧ w ≤ 4 → tnK r t w = 0 := fun z => by unfold tnK; rw [if_neg (fun y => y q), if_pos z]
    have e0 : ∀ v : Int, w = v → v ≠ 4 → 0 ≤ v → tnV r t w = r (10 + 4 * t.toNat + v.toNat) := fun v e n4 v0 => by
      unfold tnV; rw [if_neg (by omega)]; congr 1; omega
    refine b_X8_tent_11 (fun _ => ?_) (fun y => absurd y (by decide))
    refine b_X8_tent_24 (fun y => ?_) (fun y => ?_) (fun y => ?_) (fun y => ?_) (fun y => ?_) (fun y => ?_) <;> rw [eT] at y
    · refine b_X8_tent_60 hx.f0 hX.rt hX.t.f1 hX.t.2.1.o (G hX.t.2.1) (fun v h2 hv => ?_)
      obtain ⟨rfl, rfl⟩ := hv
      exact b_X8_tent_74 (oX.ve (k0 (by omega)) (by rw [e0 0 y (by omega) (by omega)]; exact T.1) rfl)
    · refine b_X8_tent_75 hx.f0 hX.rt hX.t.f2 hX.t.2.2.1.o (G hX.t.2.2.1) (fun v h2 hv => ?_)
      obtain ⟨rfl, rfl⟩ := hv
      exact b_X8_tent_89 (oX.ve (k0 (by omega)) (by rw [e0 1 y (by omega) (by omega), show 10 + 4 * t.toNat + (1 : Int).toNat = 11 + 4 * t.toNat by omega]; exact T.2.1) rfl)
    · refine b_X8_tent_90 hx.f0 hX.rt hX.t.f3 hX.t.2.2.2.1.o (G hX.t.2.2.2.1) (fun v h2 hv => ?_)
      obtain ⟨rfl, rfl⟩ := hv
      exact b_X8_tent_104 (oX.ve (k0 (by omega)) (by rw [e0 2 y (by omega) (by omega), show 10 + 4 * t.toNat + (2 : Int).toNat = 12 + 4 * t.toNat by omega]; exact T.2.2.1) rfl)
    · refine b_X8_tent_105 hx.f0 hX.rt hX.t.f4 hX.t.2.2.2.2.o (G hX.t.2.2.2.2) (fun v h2 hv => ?_)
      obtain ⟨rfl, rfl⟩ := hv
      exact b_X8_tent_119 (oX.ve (k0 (by omega)) (by rw [e0 3 y (by omega) (by omega), show 10 + 4 * t.toNat + (3 : Int).toNat = 13 + 4 * t.toNat by omega]; exact T.2.2.2) rfl)
    · have hF := hX.ff hA r3.1
      have eR : ∀ k, k < nR r → X 5 k = r (418 + 2 * k) := fun k hk => (hA.2.2.2.1 k (by unfold nR at hk; omega)).1
      refine b_X8_tent_120 hx.f0 hX.rf hX.f.o (s_lastAhead (nR r) hF (by unfold nR; omega) (x := t) (by omega) (fun k hk => ?_)) (fun v h2 hv => ?_)
      · rw [eR k hk]
        have := (I.fr (i := k) (by unfold nR at hk; omega)).1
        omega
      · obtain ⟨rfl, rfl⟩ := hv
        refine b_X8_tent_131 (oX.ve (k0 (by omega)) ?_ rfl)
        unfold tnV
        rw [if_pos y]
        exact lst_congr (fun k hk => by simp only [eR k hk])
    · exact b_X8_tent_132 (by omega) (by omega) (oX.w (by unfold tnK; rw [if_neg (fun z => z q), if_neg (by omega)]) rfl)
  · rw [decide_eq_false q]
    refine b_X8_tent_11 (fun y => absurd rfl y) (fun _ => ?_)
    exact b_X8_tent_14 (by omega) (by omega) (oX.a (by unfold tnK; rw [if_pos q]) rfl)
theorem c_field (hx : tco h x) (hc : cmp h (x + 1) r) {f w : Int} (hf : -2147483648 ≤ f ∧ f < 2147483648) (hw : -2147483648 ≤ w ∧ w < 2147483648) : CtX mX8_field 6 1 6 [.ref x, .int (iN f), .int (iN w)] h (oX 2 0 (fdK r f w) (fdV r f w) (fun h' => h' = h)) := by
  obtain ⟨⟨N, X, hX, hA⟩, I⟩ := hc
  have eT := iN_T hw
  have r0 := I.r0
  have r1 := I.r1
  have hg := I.1
  have hU := hX.uu hA hg
  have eN : ((nF r : Nat) : Int) = r 1 := by unfold nF; omega
  have S := s_fhas hU hf (by omega)
  rw [eN] at S
  refine en_X8_field (b_X8_field_0 hx.f0 hX.ru hX.u.o S (fun v h1 hv => ?_))
  obtain ⟨rfl, rfl⟩ := hv
  by_cases q : 0 ≤ f ∧ f < r 1
  · rw [decide_eq_true q]
    have G : ∀ {g : Nat → Int} {b9 : Nat}, row h1 b9 51 g → CtI mX4_get 0 0 0 [.ref b9, .int (iN f)] h1 (fun v h' => v = g f.toNat ∧ h' = h1) := fun hr => s_get hr q.1 (by omega)
    have T := hA.2.2.2.2.1 f.toNat (by omega)
    have fs := hg.f (f := f.toNat) (by unfold nF; omega)
    have ap := hg.1.2.2.2
    have k0 : 0 ≤ w ∧ w ≤ 4 → fdK r f w = 0 := fun z => by unfold fdK; rw [if_neg (fun y => y q), if_pos z]
    refine b_X8_field_11 (fun _ => ?_) (fun y => absurd y (by decide))
    refine b_X8_field_24 hx.f0 hX.ru hX.u.f1 hX.u.2.1.o (G hX.u.2.1) (fun v h2 hv => ?_)
    obtain ⟨rfl, rfl⟩ := hv
    refine b_X8_field_38 hx.f0 hX.ru hX.u.f2 hX.u.2.2.1.o (G hX.u.2.2.1) (fun v h2 hv => ?_)
    obtain ⟨rfl, rfl⟩ := hv
    rw [T.1, T.2.1]
    refine b_X8_field_53 (fun y => ?_) (fun y => ?_) (fun y => ?_) (fun y => ?_) (fun y => ?_) (fun y => ?_) <;> rw [eT] at y
    · exact b_X8_field_92 (oX.ve (k0 (by omega)) (by unfold fdV; rw [if_pos y]) rfl)
    · refine b_X8_field_95 hx.f0 hX.ru hX.u.f3 hX.u.2.2.2.1.o (G hX.u.2.2.2.1) (fun v h2 hv => ?_)
      obtain ⟨rfl, rfl⟩ := hv
      exact b_X8_field_109 (oX.ve (k0 (by omega)) (by unfold fdV; rw [if_neg (by omega), if_pos y]; exact T.2.2.1) rfl)
    · have eX : ∀ k, k < nT r → X 1 k = r (10 + 4 * k) := fun k hk => (hA.2.2.1 k (by unfold nT at hk; omega)).1
      refine b_X8_field_110 hx.f0 hX.rt hX.t.o (s_countOn (nT r) (hX.tt hA r0.1) (by unfold nT; omega) (x := f) (by omega) (fun k hk => ?_)) (fun v h2 hv => ?_)
      · rw [eX k hk]
        have := (I.2.1.2 k hk).1
        omega
      · obtain ⟨rfl, rfl⟩ := hv
        refine b_X8_field_121 (oX.ve (k0 (by omega)) ?_ rfl)
        unfold fdV
        rw [if_neg (by omega), if_neg (by omega), if_pos y]
        exact cnt_cg (fun i hi => eX _ (by omega))
    · refine b_X8_field_122 hx.f0 hX.ru hX.u.f4 hX.u.2.2.2.2.o (G hX.u.2.2.2.2) (fun v h2 hv => ?_)
      obtain ⟨rfl, rfl⟩ := hv
      refine b_X8_field_138 (oX.ve (k0 (by omega)) ?_ rfl)
      unfold fdV
      rw [if_neg (by omega), if_neg (by omega), if_neg (by omega), if_pos y, T.2.2.2]
    · have eV : ∀ j : Nat, (j : Int) < allP r → X 0 j = r (434 + j) := hA.2.1
      have es : r (109 + 4 * f.toNat) = (((r (109 + 4 * f.toNat)).toNat : Nat) : Int) := by omega
      have ez : r (109 + 4 * f.toNat) + r (106 + 4 * f.toNat) = (((r (109 + 4 * f.toNat)).toNat + (r (106 + 4 * f.toNat)).toNat : Nat) : Int) := by omega
      have C := s_countOf (v := 100) (p := (r (109 + 4 * f.toNat)).toNat) (q := (r (109 + 4 * f.toNat)).toNat + (r (106 + 4 * f.toNat)).toNat) hX.v (by omega) (by omega) (by omega) (fun k k1 k2 => by
        rw [eV k (by omega)]
        have := I.2.2.1 k (by omega)
        omega)
      rw [← es, ← ez] at C
      refine b_X8_field_140 hx.f0 hX.rv hX.v.o C (fun v h2 hv => ?_)
      obtain ⟨rfl, rfl⟩ := hv
      refine b_X8_field_157 (oX.ve (k0 (by omega)) ?_ rfl)
      unfold fdV
      rw [if_neg (by omega), if_neg (by omega), if_neg (by omega), if_neg (by omega), Nat.add_sub_cancel_left]
      exact cnt_cg (fun i hi => by rw [eV _ (by omega)]; congr 1; omega)
    · exact b_X8_field_158 (by omega) (by omega) (oX.w (by unfold fdK; rw [if_neg (fun z => z q), if_neg (by omega)]) rfl)
  · rw [decide_eq_false q]
    refine b_X8_field_11 (fun y => absurd rfl y) (fun _ => ?_)
    exact b_X8_field_14 (by omega) (by omega) (oX.a (by unfold fdK; rw [if_pos q]) rfl)
theorem c_place (hx : tco h x) (hc : cmp h (x + 1) r) {f k : Int} (hf : -2147483648 ≤ f ∧ f < 2147483648) (hk : -2147483648 ≤ k ∧ k < 2147483648) : CtX mX8_place 6 1 6 [.ref x, .int (iN f), .int (iN k)] h (oX 2 2 (plK r f k) (plV r f k) (fun h' => h' = h)) := by
  obtain ⟨⟨N, X, hX, hA⟩, I⟩ := hc
  have r1 := I.r1
  have hg := I.1
  have hU := hX.uu hA hg
  have eN : ((nF r : Nat) : Int) = r 1 := by unfold nF; omega
  have S := s_fhas hU hf (by omega)
  rw [eN] at S
  refine en_X8_place (b_X8_place_0 hx.f0 hX.ru hX.u.o S (fun v h1 hv => ?_))
  obtain ⟨rfl, rfl⟩ := hv
  by_cases q : 0 ≤ f ∧ f < r 1
  · rw [decide_eq_true q]
    have G : ∀ {g : Nat → Int} {b9 : Nat}, row h1 b9 51 g → CtI mX4_get 0 0 0 [.ref b9, .int (iN f)] h1 (fun v h' => v = g f.toNat ∧ h' = h1) := fun hr => s_get hr q.1 (by omega)
    have T := hA.2.2.2.2.1 f.toNat (by omega)
    have fs := hg.f (f := f.toNat) (by unfold nF; omega)
    have ap := hg.1.2.2.2
    have No : ¬ (0 ≤ k ∧ k < r (106 + 4 * f.toNat)) → plK r f k = 1 := fun z => by unfold plK; rw [if_neg (fun y => z y.2)]
    refine b_X8_place_11 (fun _ => ?_) (fun y => absurd y (by decide))
    refine b_X8_place_24 (fun y => ?_) (fun y => ?_)
    · have := (iN_lt (by omega)).mp y
      exact b_X8_place_46 (by omega) (by omega) (oX.a (No (by omega)) rfl)
    have y1 : ¬ k < 0 := fun z => y ((iN_lt (by omega)).mpr z)
    refine b_X8_place_28 hx.f0 hX.ru hX.u.f2 hX.u.2.2.1.o (G hX.u.2.2.1) (fun v h2 hv => ?_)
    obtain ⟨rfl, rfl⟩ := hv
    rw [T.2.1]
    refine b_X8_place_43 (fun y => ?_) (fun y => ?_)
    · have y2 := (iN_lt (by omega)).mp y
      refine b_X8_place_56 hx.f0 hX.rv hx.f0 hX.ru hX.u.f1 hX.u.2.1.o (G hX.u.2.1) (fun v h2 hv => ?_)
      obtain ⟨rfl, rfl⟩ := hv
      rw [T.1]
      refine b_X8_place_77 hX.v.o (s_get hX.v (z := r (109 + 4 * f.toNat) + k) (by omega) (by omega)) (fun v h2 hv => ?_)
      obtain ⟨rfl, rfl⟩ := hv
      refine b_X8_place_82 (oX.ve (by unfold plK; rw [if_pos ⟨q, by omega⟩]) ?_ rfl)
      rw [hA.2.1 _ (by omega)]
      unfold plV
      congr 1; omega
    · have y2 : ¬ k < r (106 + 4 * f.toNat) := fun z => y ((iN_lt (by omega)).mpr z)
      exact b_X8_place_46 (by omega) (by omega) (oX.a (No (by omega)) rfl)
  · rw [decide_eq_false q]
    refine b_X8_place_11 (fun y => absurd rfl y) (fun _ => ?_)
    exact b_X8_place_14 (by omega) (by omega) (oX.a (by unfold plK; rw [if_neg (fun z => q z.1)]) rfl)
theorem c_frame (hx : tco h x) (hc : cmp h (x + 1) r) {i w : Int} (hi : -2147483648 ≤ i ∧ i < 2147483648) (hw : -2147483648 ≤ w ∧ w < 2147483648) : CtX mX8_frame 6 1 6 [.ref x, .int (iN i), .int (iN w)] h (oX 2 0 (frK r i w) (frV r i w) (fun h' => h' = h)) := by
  obtain ⟨⟨N, X, hX, hA⟩, I⟩ := hc
  have eT := iN_T hw
  have r0 := I.r0
  have r3 := I.r3
  have hF := hX.ff hA r3.1
  have eN : ((nR r : Nat) : Int) = r 3 := by unfold nR; omega
  have S := s_rhas hF hi (by omega)
  rw [eN] at S
  refine en_X8_frame (b_X8_frame_0 hx.f0 hX.rf hX.f.o S (fun v h1 hv => ?_))
  obtain ⟨rfl, rfl⟩ := hv
  by_cases q : 0 ≤ i ∧ i < r 3
  · rw [decide_eq_true q]
    have G : ∀ {g : Nat → Int} {b9 : Nat}, row h1 b9 8 g → CtI mX4_get 0 0 0 [.ref b9, .int (iN i)] h1 (fun v h' => v = g i.toNat ∧ h' = h1) := fun hr => s_get hr q.1 (by omega)
    have T := hA.2.2.2.1 i.toNat (by omega)
    have fo := (I.fr (i := i.toNat) (by omega)).1
    have k0 : 0 ≤ w ∧ w ≤ 2 → frK r i w = 0 := fun z => by unfold frK; rw [if_neg (fun y => y q), if_pos z]
    refine b_X8_frame_11 (fun _ => ?_) (fun y => absurd y (by decide))
    refine b_X8_frame_24 (fun y => ?_) (fun y => ?_) (fun y => ?_) (fun y => ?_) <;> rw [eT] at y
    · refine b_X8_frame_52 hx.f0 hX.rf hX.f.f1 hX.f.2.1.o (G hX.f.2.1) (fun v h2 hv => ?_)
      obtain ⟨rfl, rfl⟩ := hv
      exact b_X8_frame_66 (oX.ve (k0 (by omega)) (by unfold frV; rw [if_pos y]; exact T.1) rfl)
    · refine b_X8_frame_67 hx.f0 hX.rf hX.f.f2 hX.f.2.2.o (G hX.f.2.2) (fun v h2 hv => ?_)
      obtain ⟨rfl, rfl⟩ := hv
      exact b_X8_frame_81 (oX.ve (k0 (by omega)) (by unfold frV; rw [if_neg (by omega), if_pos y]; exact T.2) rfl)
    · refine b_X8_frame_82 hx.f0 hX.rt hx.f0 hX.rf hX.f.f1 hX.f.2.1.o (G hX.f.2.1) (fun v h2 hv => ?_)
      obtain ⟨rfl, rfl⟩ := hv
      rw [T.1]
      have em : r (418 + 2 * i.toNat) = (((r (418 + 2 * i.toNat)).toNat : Nat) : Int) := by omega
      have P := s_placesFrom (nT r) (r (418 + 2 * i.toNat)).toNat (hX.tt hA r0.1) (by unfold nT; omega) (by omega)
      rw [← em] at P
      refine b_X8_frame_103 hX.t.o P (fun v h2 hv => ?_)
      obtain ⟨rfl, rfl⟩ := hv
      refine b_X8_frame_106 (oX.ve (k0 (by omega)) ?_ rfl)
      unfold frV smf
      rw [if_neg (by omega), if_neg (by omega)]
      exact sm_congr (fun k hk => (hA.2.2.1 _ (by unfold nT at hk; omega)).2.2.1)
    · exact b_X8_frame_107 (by omega) (by omega) (oX.w (by unfold frK; rw [if_neg (fun z => z q), if_neg (by omega)]) rfl)
  · rw [decide_eq_false q]
    refine b_X8_frame_11 (fun y => absurd rfl y) (fun _ => ?_)
    exact b_X8_frame_14 (by omega) (by omega) (oX.a (by unfold frK; rw [if_pos q]) rfl)
theorem c_spare (hx : tco h x) (hc : cmp h (x + 1) r) {i : Int} (hi : -2147483648 ≤ i ∧ i < 2147483648) : CtX mX8_spare 6 1 6 [.ref x, .int (iN i)] h (oX 0 0 (spK i) (spV r i) (fun h' => h' = h)) := by
  obtain ⟨⟨N, X, hX, hA⟩, I⟩ := hc
  have hg := I.1
  have hS := hX.ss hA hg
  have hn := hg.n
  have eX : ∀ k, k < nS r → X 12 k = r (314 + 2 * k) := fun k hk => (hA.2.2.2.2.2 k (by unfold nS at hk; omega)).2
  refine en_X8_spare (b_X8_spare_0 (fun q => ?_) (fun q => ?_))
  · have q1 := (iN_le (by omega)).mp q
    have hz : ∀ k, k < nS r → 0 ≤ X 12 k ∧ X 12 k ≤ 256 := fun k hk => by
      rw [eX k hk]
      have := (hg.s hk).1; omega
    have R := spV_rnk (X 12) hz (i := i) q1
    have e : fsz (X 12) (nS r) i 257 0 = spV r i := fsz_cg i eX 257 0
    rw [e] at R
    have sp := rnk_sp (X 12) (nS r) i (nS r) 0 (by omega)
    have k0 : spK i = 0 := by unfold spK; rw [if_pos q1]
    refine b_X8_spare_14 hx.f0 hX.rs hX.s.o (s_withRank (nS r) hS (by omega) (fun k hk => by have := hz k hk; omega) (x := i) (by omega)) (fun v h1 hv => ?_)
    obtain ⟨rfl, rfl⟩ := hv
    rcases sp with ⟨a, -⟩ | ⟨g, a, b9, -⟩
    · rw [a] at R ⊢
      rw [if_pos rfl] at R
      exact b_X8_spare_25 (fun y => absurd rfl y) (fun _ => b_X8_spare_31 (oX.ve k0 R.symm rfl))
    · rw [a] at R ⊢
      rw [if_neg (by omega), Int.toNat_natCast] at R
      refine b_X8_spare_25 (fun _ => ?_) (fun y => by have := (iN_eq (by omega)).mp y; omega)
      refine b_X8_spare_35 hx.f0 hX.rs hX.s.f2 hX.s.2.2.1.o (s_get hX.s.2.2.1 (z := (g : Int)) (by omega) (by omega)) (fun v h2 hv => ?_)
      obtain ⟨rfl, rfl⟩ := hv
      rw [Int.toNat_natCast]
      exact b_X8_spare_49 (oX.ve k0 R.symm rfl)
  · have q1 : ¬ 0 ≤ i := fun z => q ((iN_le (by omega)).mpr z)
    exact b_X8_spare_4 (by omega) (by omega) (oX.a (by unfold spK; rw [if_neg q1]) rfl)
end ASK
