/-! a camp of the class, and what it has in common with the model's row -/
def upX (X : Nat → Nat → Int) (j : Nat) (g : Nat → Int) : Nat → Nat → Int := fun i => if i = j then g else X i
def campX (h : AH) (c : Nat) (N : Nat → Int) (X : Nat → Nat → Int) : Prop :=
  h[c]? = some (0, [.int (iN (N 0)), .int (iN (N 1)), .int (iN (N 2)), .int (iN (N 3)), .int (iN (N 4)), .int (iN (N 5)), .int (iN (N 6)), .ref (c + 1), .ref (c + 3), .ref (c + 12), .ref (c + 17), .ref (c + 26)]) ∧
  row h (c + 1) 256 (X 0) ∧ tents h (c + 3) (N 7) (X 1) (X 2) (X 3) (X 4) ∧ frames h (c + 12) (N 8) (X 5) (X 6) ∧ fields h (c + 17) (N 9) (X 7) (X 8) (X 9) (X 10) ∧ fields h (c + 26) (N 10) (X 11) (X 12) (X 13) (X 14)
theorem fld.ev {h : AH} {a k j : Nat} {x y : Int} (hf : fld h a k j (.int (iN x))) (e : x = y) : fld h a k j (.int (iN y)) := e ▸ hf
section CAMPX
variable {h h' : AH} {c lo hi : Nat} {N : Nat → Int} {X : Nat → Nat → Int}
theorem campX.o (k : campX h c N X) : isO h c 0 := ⟨_, k.1⟩
theorem campX.n0 (k : campX h c N X) : fld h c 0 0 (.int (iN (N 0))) := ⟨_, k.1, rfl⟩
theorem campX.n1 (k : campX h c N X) : fld h c 0 1 (.int (iN (N 1))) := ⟨_, k.1, rfl⟩
theorem campX.n2 (k : campX h c N X) : fld h c 0 2 (.int (iN (N 2))) := ⟨_, k.1, rfl⟩
theorem campX.n3 (k : campX h c N X) : fld h c 0 3 (.int (iN (N 3))) := ⟨_, k.1, rfl⟩
theorem campX.n4 (k : campX h c N X) : fld h c 0 4 (.int (iN (N 4))) := ⟨_, k.1, rfl⟩
theorem campX.n5 (k : campX h c N X) : fld h c 0 5 (.int (iN (N 5))) := ⟨_, k.1, rfl⟩
theorem campX.n6 (k : campX h c N X) : fld h c 0 6 (.int (iN (N 6))) := ⟨_, k.1, rfl⟩
theorem campX.rv (k : campX h c N X) : fld h c 0 7 (.ref (c + 1)) := ⟨_, k.1, rfl⟩
theorem campX.rt (k : campX h c N X) : fld h c 0 8 (.ref (c + 3)) := ⟨_, k.1, rfl⟩
theorem campX.rf (k : campX h c N X) : fld h c 0 9 (.ref (c + 12)) := ⟨_, k.1, rfl⟩
theorem campX.ru (k : campX h c N X) : fld h c 0 10 (.ref (c + 17)) := ⟨_, k.1, rfl⟩
theorem campX.rs (k : campX h c N X) : fld h c 0 11 (.ref (c + 26)) := ⟨_, k.1, rfl⟩
theorem campX.v (k : campX h c N X) : row h (c + 1) 256 (X 0) := k.2.1
theorem campX.t (k : campX h c N X) : tents h (c + 3) (N 7) (X 1) (X 2) (X 3) (X 4) := k.2.2.1
theorem campX.f (k : campX h c N X) : frames h (c + 12) (N 8) (X 5) (X 6) := k.2.2.2.1
theorem campX.u (k : campX h c N X) : fields h (c + 17) (N 9) (X 7) (X 8) (X 9) (X 10) := k.2.2.2.2.1
theorem campX.s (k : campX h c N X) : fields h (c + 26) (N 10) (X 11) (X 12) (X 13) (X 14) := k.2.2.2.2.2
theorem campX.off (k : campX h c N X) (ho : Off h h' lo hi) (hd : c + 35 ≤ lo ∨ hi ≤ c := by omega) : campX h' c N X :=
  ⟨(ho.2 c (by omega)).trans k.1, k.v.off ho, k.t.off ho, k.f.off ho, k.u.off ho, k.s.off ho⟩
theorem campX.wv (k : campX h c N X) {g : Nat → Int} (hr : row h' (c + 1) 256 g) (ho : Off h h' (c + 1) (c + 3)) : campX h' c N (upX X 0 g) :=
  ⟨(ho.2 c (by omega)).trans k.1, hr, k.t.off ho, k.f.off ho, k.u.off ho, k.s.off ho⟩
theorem campX.wt (k : campX h c N X) {n : Int} {f p z s : Nat → Int} (hr : tents h' (c + 3) n f p z s) (ho : Off h h' (c + 3) (c + 12)) : campX h' c (up N 7 n) (upX (upX (upX (upX X 1 f) 2 p) 3 z) 4 s) :=
  ⟨(ho.2 c (by omega)).trans k.1, k.v.off ho, hr, k.f.off ho, k.u.off ho, k.s.off ho⟩
theorem campX.wf (k : campX h c N X) {n : Int} {t f : Nat → Int} (hr : frames h' (c + 12) n t f) (ho : Off h h' (c + 12) (c + 17)) : campX h' c (up N 8 n) (upX (upX X 5 t) 6 f) :=
  ⟨(ho.2 c (by omega)).trans k.1, k.v.off ho, k.t.off ho, hr, k.u.off ho, k.s.off ho⟩
theorem campX.wu (k : campX h c N X) {n : Int} {s z b e : Nat → Int} (hr : fields h' (c + 17) n s z b e) (ho : Off h h' (c + 17) (c + 26)) : campX h' c (up N 9 n) (upX (upX (upX (upX X 7 s) 8 z) 9 b) 10 e) :=
  ⟨(ho.2 c (by omega)).trans k.1, k.v.off ho, k.t.off ho, k.f.off ho, hr, k.s.off ho⟩
theorem campX.ws (k : campX h c N X) {n : Int} {s z b e : Nat → Int} (hr : fields h' (c + 26) n s z b e) (ho : Off h h' (c + 26) (c + 35)) : campX h' c (up N 10 n) (upX (upX (upX (upX X 11 s) 12 z) 13 b) 14 e) :=
  ⟨(ho.2 c (by omega)).trans k.1, k.v.off ho, k.t.off ho, k.f.off ho, k.u.off ho, hr⟩
theorem campX.cells (k : campX h c N X) {N' : Nat → Int} (h1 : h'[c]? = some (0, [.int (iN (N' 0)), .int (iN (N' 1)), .int (iN (N' 2)), .int (iN (N' 3)), .int (iN (N' 4)), .int (iN (N' 5)), .int (iN (N' 6)), .ref (c + 1), .ref (c + 3), .ref (c + 12), .ref (c + 17), .ref (c + 26)])) (ho : Off h h' c (c + 1)) (h7 : ∀ j, 7 ≤ j → N' j = N j) : campX h' c N' X := by
  refine ⟨h1, k.v.off ho, ?_, ?_, ?_, ?_⟩
  · rw [h7 7 (by omega)]; exact k.t.off ho
  · rw [h7 8 (by omega)]; exact k.f.off ho
  · rw [h7 9 (by omega)]; exact k.u.off ho
  · rw [h7 10 (by omega)]; exact k.s.off ho
theorem campX.setn (k : campX h c N X) (j : Nat) (v : Int) (hj : j < 7 := by omega) : campX (stf h c j (.int (iN v))) c (up N j v) X := by
  refine k.cells ?_ Off.ofs (fun i hi => up_ne _ _ (by omega))
  rw [stf_at k.1]
  have hl := (List.getElem?_eq_some_iff.mp k.1).1
  rcases (show j = 0 ∨ j = 1 ∨ j = 2 ∨ j = 3 ∨ j = 4 ∨ j = 5 ∨ j = 6 by omega) with rfl | rfl | rfl | rfl | rfl | rfl | rfl <;> simp [hl, up]
end CAMPX
/-- the numbers of the model's row that a camp has; its keeps and most places of fields apart -/
def Agr (k m : Int) (N : Nat → Int) (X : Nat → Nat → Int) (r : Nat → Int) : Prop :=
  (N 0 = r 7 ∧ N 1 = k ∧ N 2 = r 9 ∧ N 3 = r 6 ∧ N 4 = r 4 ∧ N 5 = m ∧ N 6 = allP r ∧ N 7 = r 0 ∧ N 8 = r 3 ∧ N 9 = r 1 ∧ N 10 = r 2) ∧
  (∀ j : Nat, (j : Int) < allP r → X 0 j = r (434 + j)) ∧
  (∀ t : Nat, (t : Int) < r 0 → X 1 t = r (10 + 4 * t) ∧ X 2 t = r (11 + 4 * t) ∧ X 3 t = r (12 + 4 * t) ∧ X 4 t = r (13 + 4 * t)) ∧
  (∀ i : Nat, (i : Int) < r 3 → X 5 i = r (418 + 2 * i) ∧ X 6 i = r (419 + 2 * i)) ∧
  (∀ f : Nat, (f : Int) < r 1 → X 7 f = r (109 + 4 * f) ∧ X 8 f = r (106 + 4 * f) ∧ X 9 f = r (107 + 4 * f) ∧ X 10 f = r (108 + 4 * f)) ∧
  (∀ i : Nat, (i : Int) < r 2 → X 11 i = r (315 + 2 * i) ∧ X 12 i = r (314 + 2 * i))
def camp (h : AH) (c : Nat) (k m : Int) (r : Nat → Int) : Prop := ∃ N X, campX h c N X ∧ Agr k m N X r
theorem camp.off {h h' : AH} {c lo hi : Nat} {k m : Int} {r : Nat → Int} (hc : camp h c k m r) (ho : Off h h' lo hi) (hd : c + 35 ≤ lo ∨ hi ≤ c := by omega) : camp h' c k m r := by
  obtain ⟨N, X, h1, h2⟩ := hc
  exact ⟨N, X, h1.off ho hd, h2⟩
theorem camp.o {h : AH} {c : Nat} {k m : Int} {r : Nat → Int} (hc : camp h c k m r) : isO h c 0 := by
  obtain ⟨N, X, h1, h2⟩ := hc; exact h1.o
section CAMPM
variable {h : AH} {c : Nat} {N : Nat → Int} {X : Nat → Nat → Int} {k m : Int} {r : Nat → Int}
theorem s_wantsBig (hc : campX h c N X) (ha : Agr k m N X r) (hk : okR r) {z : Int} (hz : 0 ≤ z ∧ z ≤ 1000) : CtZ mX0_wantsBig 0 0 0 [.ref c, .int (iN z)] h (fun v h' => v = isBig r z ∧ h' = h) := by
  have h7 := hk.2.2.1
  have e : (iN (r 7) / iN 2).toInt = r 7 / 2 := iN_div (by omega) (by omega)
  refine en_X0_wantsBig (b_X0_wantsBig_0 (hc.n0.ev ha.1.1) (fun w => ?_) (fun w => ?_))
  · rw [e] at w
    have := (iN_le (by omega)).mp w
    exact b_X0_wantsBig_14 (rZ0 ⟨by unfold isBig; simp; omega, rfl⟩)
  · rw [e] at w
    have : r 7 / 2 < z := by
      rcases Int.lt_or_le (r 7 / 2) z with y | y
      · exact y
      · exact absurd ((iN_le (by omega)).mpr y) w
    exact b_X0_wantsBig_10 (rZ1 ⟨by unfold isBig; simp; omega, rfl⟩)
theorem s_newFieldSize (hc : campX h c N X) (ha : Agr k m N X r) (hk : okR r) {z : Int} (hz : 0 ≤ z ∧ z ≤ 1000) : CtI mX0_newFieldSize 1 0 0 [.ref c, .int (iN z)] h (fun v h' => v = newSz r z ∧ h' = h) := by
  refine en_X0_newFieldSize (b_X0_newFieldSize_0 hc.o (s_wantsBig hc ha hk hz) (fun v h' hv => ?_))
  obtain ⟨rfl, rfl⟩ := hv
  refine b_X0_newFieldSize_5 (fun w => ?_) (fun w => ?_)
  · have hb := bI_0.mp w
    refine b_X0_newFieldSize_12 (hc.n0.ev ha.1.1) (rI ⟨?_, rfl⟩)
    unfold newSz; rw [hb]; rfl
  · have hb : isBig r z = true := by
      cases hbb : isBig r z
      · exact absurd (bI_0.mpr hbb) w
      · rfl
    refine b_X0_newFieldSize_8 (rI ⟨?_, rfl⟩)
    unfold newSz; rw [hb]; rfl
theorem and_step {x s : Int} (hx : 0 ≤ x ∧ x < 80) (hs : s = 1 ∨ s = 2 ∨ s = 4 ∨ s = 8) : (iN x &&& iN (-s)).toInt = x / s * s := by
  have H : ∀ n : Nat, n < 80 → (iN (n : Int) &&& iN (-1)).toInt = (n : Int) / 1 * 1 ∧ (iN (n : Int) &&& iN (-2)).toInt = (n : Int) / 2 * 2 ∧ (iN (n : Int) &&& iN (-4)).toInt = (n : Int) / 4 * 4 ∧ (iN (n : Int) &&& iN (-8)).toInt = (n : Int) / 8 * 8 := by decide
  have := H x.toNat (by omega)
  rw [show ((x.toNat : Nat) : Int) = x by omega] at this
  rcases hs with rfl | rfl | rfl | rfl
  · exact this.1
  · exact this.2.1
  · exact this.2.2.1
  · exact this.2.2.2
theorem s_openPlace (hc : campX h c N X) (ha : Agr k m N X r) (hk : okR r) {f : Nat} (hf : f < nF r) {s : Int} (hs : s = 1 ∨ s = 2 ∨ s = 4 ∨ s = 8) : CtI mX0_openPlace 1 0 0 [.ref c, .int (iN f), .int (iN s)] h (fun v h' => v = openP (r (108 + 4 * f)) s ∧ h' = h) := by
  have h1 := hk.1
  have he := (hk.2.2.2.1 f hf).2.2
  have e := (ha.2.2.2.2.1 f (by unfold nF at hf; omega)).2.2.2
  have hf51 : f < 51 := by unfold nF at hf; omega
  refine en_X0_openPlace (b_X0_openPlace_0 hc.ru hc.u.f4 hc.u.2.2.2.2.o (s_get hc.u.2.2.2.2 (z := (f : Int)) (by omega) (by omega)) (fun v h' hv => ?_))
  obtain ⟨rfl, rfl⟩ := hv
  rw [Int.toNat_natCast, e]
  refine b_X0_openPlace_11 (rI ⟨?_, rfl⟩)
  rw [and_step (by omega) hs]; rfl
theorem s_siteFor (hc : campX h c N X) (ha : Agr k m N X r) (hk : okR r) {z s : Int} (hz : 1 ≤ z ∧ z ≤ 40) (hs : s = 1 ∨ s = 2 ∨ s = 4 ∨ s = 8) : CtI mX0_siteFor 2 0 0 [.ref c, .int (iN z), .int (iN s)] h (fun v h' => v = whereIn r z s ∧ h' = h) := by
  have h1 := hk.1
  have h2 := hk.2.1
  have hl := hk.lu
  have hsf := hk.sf z
  have hap := hk.ap
  have hns := newSz_rg hk hz
  have n1 : r 1 = (nF r : Int) := by unfold nF; omega
  have n2 : r 2 = (nS r : Int) := by unfold nS; omega
  have hu : fields h (c + 17) (nF r) (X 7) (X 8) (X 9) (X 10) := by rw [← n1, ← ha.1.2.2.2.2.2.2.2.2.2.1]; exact hc.u
  have hsp : fields h (c + 26) (nS r) (X 11) (X 12) (X 13) (X 14) := by rw [← n2, ← ha.1.2.2.2.2.2.2.2.2.2.2]; exact hc.s
  have eL : lst (X 9) (nF r) = lastU r := lst_congr (fun f hf => (ha.2.2.2.2.1 f (by omega)).2.2.1)
  have eS : sml (X 12) z (nS r) = spareFor r z := sml_congr (fun i hi => (ha.2.2.2.2.2 i (by omega)).2)
  have bX : ∀ f, f < nF r → X 9 f = 0 ∨ X 9 f = 1 := fun f hf => by rw [(ha.2.2.2.2.1 f (by omega)).2.2.1]; exact (hk.2.2.2.1 f hf).1
  have zX : ∀ i, i < nS r → 0 ≤ X 12 i ∧ X 12 i ≤ 1000 := fun i hi => by
    rw [(ha.2.2.2.2.2 i (by omega)).2]
    have := hk.2.2.2.2 i hi; omega
  have K : roomOn r z s = -1 → ∀ w, AW mX0_siteFor 2 0 0 37 [.ref c, .int (iN z), .int (iN s), .int (iN w)] [] h (qI fun v h' => v = whereIn r z s ∧ h' = h) := by
    intro hr1 w
    refine b_X0_siteFor_37 hc.rs hsp.o (s_smallestFor (nS r) hsp (by omega) zX (by omega)) (fun v h' hv => ?_)
    obtain ⟨rfl, rfl⟩ := hv
    rw [eS]
    refine b_X0_siteFor_45 (fun w => ?_) (fun w => ?_)
    · have hs1 := (iN_eq (by omega)).mp w
      refine b_X0_siteFor_51 (hc.n6.ev ha.1.2.2.2.2.2.2.1) hc.o (s_newFieldSize hc ha hk (by omega)) (fun v h2 hv => ?_)
      obtain ⟨rfl, rfl⟩ := hv
      refine b_X0_siteFor_60 (fun w => ?_) (fun w => ?_)
      · have := (iN_lt (by omega)).mp w
        exact b_X0_siteFor_71 (rI ⟨by unfold whereIn; rw [if_neg (by omega), if_neg (by omega), if_neg (by omega)], rfl⟩)
      · have : allP r + newSz r z ≤ 256 := by
          rcases Int.lt_or_le 256 (allP r + newSz r z) with y | y
          · exact absurd ((iN_lt (by omega)).mpr y) w
          · exact y
        exact b_X0_siteFor_67 (rI ⟨by unfold whereIn; rw [if_neg (by omega), if_neg (by omega), if_pos this], rfl⟩)
    · have hne : ¬ spareFor r z = -1 := fun z => w (by rw [z])
      exact b_X0_siteFor_49 (rI ⟨by unfold whereIn; rw [if_neg (by omega), if_pos hne], rfl⟩)
  refine en_X0_siteFor (b_X0_siteFor_0 hc.ru hu.o (s_lastUsual (nF r) hu (by omega) bX) (fun v h' hv => ?_))
  obtain ⟨rfl, rfl⟩ := hv
  rw [eL]
  refine b_X0_siteFor_7 (fun w => ?_) (fun w => ?_)
  · have := (iN_eq (by omega)).mp w
    exact K (by unfold roomOn; rw [if_pos this]) _
  · have hne : ¬ lastU r = -1 := fun z => w (by rw [z])
    have hln : lastU r = ((lastU r).toNat : Int) := by omega
    have hf := hk.2.2.2.1 (lastU r).toNat (by omega)
    have ho := openP_rg hf.2.2 (s := s) (by omega)
    have e8 := (ha.2.2.2.2.1 (lastU r).toNat (by omega)).2.1
    refine b_X0_siteFor_13 hc.o (by rw [hln]; exact s_openPlace hc ha hk (by omega) hs) (fun v h2 hv => ?_)
    obtain ⟨rfl, rfl⟩ := hv
    refine b_X0_siteFor_19 hc.ru hu.f2 hu.2.2.1.o (s_get hu.2.2.1 (z := lastU r) (by omega) (by omega)) (fun v h2 hv => ?_)
    obtain ⟨rfl, rfl⟩ := hv
    rw [e8]
    refine b_X0_siteFor_32 (fun w => ?_) (fun w => ?_)
    · have := (iN_lt (by omega)).mp w
      exact K (by unfold roomOn; rw [if_neg hne, if_neg (by omega)]) _
    · have : openP (r (108 + 4 * (lastU r).toNat)) s + z ≤ r (106 + 4 * (lastU r).toNat) := by
        rcases Int.lt_or_le (r (106 + 4 * (lastU r).toNat)) (openP (r (108 + 4 * (lastU r).toNat)) s + z) with y | y
        · exact absurd ((iN_lt (by omega)).mpr y) w
        · exact y
      refine b_X0_siteFor_35 (rI ⟨?_, rfl⟩)
      rw [where_0.mpr]
      unfold roomOn; rw [if_neg hne, if_pos this]; omega
end CAMPM
