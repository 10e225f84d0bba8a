/-! the reference's static methods: what they answer -/
section REFA
variable {h : AH} {q : Nat} {r : Nat → Int}
theorem s_tentAt {a b : Int} : CtI mX9_tentAt 0 0 0 [.int (iN a), .int (iN b)] h (fun v h' => v = 10 + 4 * a + b ∧ h' = h) := en_X9_tentAt (b_X9_tentAt_0 (rI ⟨rfl, rfl⟩))
theorem s_fieldAt {a b : Int} : CtI mX9_fieldAt 0 0 0 [.int (iN a), .int (iN b)] h (fun v h' => v = 106 + 4 * a + b ∧ h' = h) := en_X9_fieldAt (b_X9_fieldAt_0 (rI ⟨rfl, rfl⟩))
theorem s_spareAt {a b : Int} : CtI mX9_spareAt 0 0 0 [.int (iN a), .int (iN b)] h (fun v h' => v = 314 + 2 * a + b ∧ h' = h) := en_X9_spareAt (b_X9_spareAt_0 (rI ⟨rfl, rfl⟩))
theorem s_frameAt {a b : Int} : CtI mX9_frameAt 0 0 0 [.int (iN a), .int (iN b)] h (fun v h' => v = 418 + 2 * a + b ∧ h' = h) := en_X9_frameAt (b_X9_frameAt_0 (rI ⟨rfl, rfl⟩))
theorem s_tentPlaces (ha : ari h q 690 r) (m : Nat) (h0 : 0 ≤ r 0 ∧ r 0 ≤ 24) (hm : m ≤ 1000) : CtI mX9_tentPlaces 1 0 0 [.ref q, .int (iN m)] h (fun v h' => v = smf (fun t => r (12 + 4 * t)) m (nT r) ∧ h' = h) := by
  have hn : r 0 = (nT r : Int) := by unfold nT; omega
  refine en_X9_tentPlaces (b_X9_tentPlaces_0 ?_)
  have H : ∀ (k i : Nat), i + k = nT r - m → AW mX9_tentPlaces 1 0 0 4 [.ref q, .int (iN m), .int (iN (sm (fun k => r (12 + 4 * (m + k))) i)), .int (iN ((m + i : Nat) : Int))] [] h (qI (fun v h' => v = smf (fun t => r (12 + 4 * t)) m (nT r) ∧ h' = h)) := by
    intro k
    induction k with
    | zero =>
      intro i hi
      refine b_X9_tentPlaces_4 (ha.g 0) (fun _ => ?_) (fun w => absurd ((iN_le (by omega)).mpr (by omega)) w)
      exact b_X9_tentPlaces_27 (rI ⟨by unfold smf; rw [show nT r - m = i by omega], rfl⟩)
    | succ k ih =>
      intro i hi
      refine b_X9_tentPlaces_4 (ha.g 0) (fun w => ?_) (fun _ => ?_)
      · have := (iN_le (by omega)).mp w; omega
      refine b_X9_tentPlaces_11 s_tentAt (fun v h' hv => ?_)
      obtain ⟨rfl, rfl⟩ := hv
      refine b_X9_tentPlaces_18 (ha.g (12 + 4 * (m + i))) ?_
      have e : (((m + i : Nat) : Int) + 1) = ((m + (i + 1) : Nat) : Int) := by omega
      rw [e]
      exact ih (i + 1) (by omega)
  exact H (nT r - m) 0 (by omega)
theorem s_usedPlaces (ha : ari h q 690 r) (h0 : 0 ≤ r 1 ∧ r 1 ≤ 52) : CtI mX9_usedPlaces 1 0 0 [.ref q] h (fun v h' => v = useP r ∧ h' = h) := by
  have hn : r 1 = (nF r : Int) := by unfold nF; omega
  refine en_X9_usedPlaces (b_X9_usedPlaces_0 ?_)
  have H : ∀ (k i : Nat), i + k = nF r → AW mX9_usedPlaces 1 0 0 4 [.ref q, .int (iN (sm (fun k => r (106 + 4 * k)) i)), .int (iN (i : Int))] [] h (qI (fun v h' => v = useP r ∧ h' = h)) := by
    intro k
    induction k with
    | zero =>
      intro i hi
      refine b_X9_usedPlaces_4 (ha.g 1) (fun _ => ?_) (fun w => absurd ((iN_le (by omega)).mpr (by omega)) w)
      exact b_X9_usedPlaces_27 (rI ⟨by unfold useP; rw [show nF r = i by omega], rfl⟩)
    | succ k ih =>
      intro i hi
      refine b_X9_usedPlaces_4 (ha.g 1) (fun w => ?_) (fun _ => ?_)
      · have := (iN_le (by omega)).mp w; omega
      refine b_X9_usedPlaces_11 s_fieldAt (fun v h' hv => ?_)
      obtain ⟨rfl, rfl⟩ := hv
      refine b_X9_usedPlaces_18 (ha.g (106 + 4 * i)) ?_
      have e : ((i : Int) + 1) = ((i + 1 : Nat) : Int) := by omega
      rw [e]
      exact ih (i + 1) (by omega)
  exact H (nF r) 0 (by omega)
theorem s_sparePlaces (ha : ari h q 690 r) (h0 : 0 ≤ r 2 ∧ r 2 ≤ 52) : CtI mX9_sparePlaces 1 0 0 [.ref q] h (fun v h' => v = sparP r ∧ h' = h) := by
  have hn : r 2 = (nS r : Int) := by unfold nS; omega
  refine en_X9_sparePlaces (b_X9_sparePlaces_0 ?_)
  have H : ∀ (k i : Nat), i + k = nS r → AW mX9_sparePlaces 1 0 0 4 [.ref q, .int (iN (sm (fun k => r (314 + 2 * k)) i)), .int (iN (i : Int))] [] h (qI (fun v h' => v = sparP r ∧ h' = h)) := by
    intro k
    induction k with
    | zero =>
      intro i hi
      refine b_X9_sparePlaces_4 (ha.g 2) (fun _ => ?_) (fun w => absurd ((iN_le (by omega)).mpr (by omega)) w)
      exact b_X9_sparePlaces_27 (rI ⟨by unfold sparP; rw [show nS r = i by omega], rfl⟩)
    | succ k ih =>
      intro i hi
      refine b_X9_sparePlaces_4 (ha.g 2) (fun w => ?_) (fun _ => ?_)
      · have := (iN_le (by omega)).mp w; omega
      refine b_X9_sparePlaces_11 s_spareAt (fun v h' hv => ?_)
      obtain ⟨rfl, rfl⟩ := hv
      refine b_X9_sparePlaces_18 (ha.g (314 + 2 * i)) ?_
      have e : ((i : Int) + 1) = ((i + 1 : Nat) : Int) := by omega
      rw [e]
      exact ih (i + 1) (by omega)
  exact H (nS r) 0 (by omega)
theorem s_allPlaces (ha : ari h q 690 r) (h1 : 0 ≤ r 1 ∧ r 1 ≤ 52) (h2 : 0 ≤ r 2 ∧ r 2 ≤ 52) : CtI mX9_allPlaces 2 0 0 [.ref q] h (fun v h' => v = allP r ∧ h' = h) := by
  refine en_X9_allPlaces (b_X9_allPlaces_0 (s_usedPlaces ha h1) (fun v h' hv => ?_))
  obtain ⟨rfl, rfl⟩ := hv
  refine b_X9_allPlaces_4 (s_sparePlaces ha h2) (fun v h' hv => ?_)
  obtain ⟨rfl, rfl⟩ := hv
  exact b_X9_allPlaces_8 (rI ⟨rfl, rfl⟩)
theorem s_rlastUsual (ha : ari h q 690 r) (h1 : 0 ≤ r 1 ∧ r 1 ≤ 52) (hb : ∀ k, k < nF r → r (107 + 4 * k) = 0 ∨ r (107 + 4 * k) = 1) : CtI mX9_lastUsual 1 0 0 [.ref q] h (fun v h' => v = lastU r ∧ h' = h) := by
  have hn : r 1 = (nF r : Int) := by unfold nF; omega
  refine en_X9_lastUsual (b_X9_lastUsual_0 ?_)
  have H : ∀ (k i : Nat), i + k = nF r → AW mX9_lastUsual 1 0 0 4 [.ref q, .int (iN (lst (fun k => r (107 + 4 * k)) i)), .int (iN (i : Int))] [] h (qI (fun v h' => v = lastU r ∧ h' = h)) := by
    intro k
    induction k with
    | zero =>
      intro i hi
      refine b_X9_lastUsual_4 (ha.g 1) (fun _ => ?_) (fun w => absurd ((iN_le (by omega)).mpr (by omega)) w)
      exact b_X9_lastUsual_33 (rI ⟨by unfold lastU; rw [show nF r = i by omega], rfl⟩)
    | succ k ih =>
      intro i hi
      have hb1 := hb i (by omega)
      refine b_X9_lastUsual_4 (ha.g 1) (fun w => ?_) (fun _ => ?_)
      · have := (iN_le (by omega)).mp w; omega
      refine b_X9_lastUsual_11 s_fieldAt (fun v h' hv => ?_)
      obtain ⟨rfl, rfl⟩ := hv
      have e : ((i : Int) + 1) = ((i + 1 : Nat) : Int) := by omega
      have hk := ih (i + 1) (by omega)
      simp only [lst] at hk
      refine b_X9_lastUsual_17 (ha.g (107 + 4 * i)) (fun w => ?_) (fun w => ?_)
      · refine b_X9_lastUsual_25 ?_
        rw [e]
        rw [if_neg (fun z => w (by rw [z]))] at hk
        exact hk
      · refine b_X9_lastUsual_21 ?_
        rw [e]
        rw [if_pos ((iN_eq (by omega)).mp w)] at hk
        exact hk
  exact H (nF r) 0 (by omega)
theorem s_spareFor (ha : ari h q 690 r) (h2 : 0 ≤ r 2 ∧ r 2 ≤ 52) (hz : ∀ k, k < nS r → 0 ≤ r (314 + 2 * k) ∧ r (314 + 2 * k) ≤ 1000) {x : Int} (hx : 0 ≤ x ∧ x ≤ 1000) : CtI mX9_spareFor 1 0 0 [.ref q, .int (iN x)] h (fun v h' => v = spareFor r x ∧ h' = h) := by
  have hn : r 2 = (nS r : Int) := by unfold nS; omega
  refine en_X9_spareFor (b_X9_spareFor_0 ?_)
  have H : ∀ (k i : Nat), i + k = nS r → AW mX9_spareFor 1 0 0 4 [.ref q, .int (iN x), .int (iN (sml (fun k => r (314 + 2 * k)) x i)), .int (iN (i : Int)), vU] [] h (qI (fun v h' => v = spareFor r x ∧ h' = h)) := by
    intro k
    induction k with
    | zero =>
      intro i hi
      refine b_X9_spareFor_4 (ha.g 2) (fun _ => ?_) (fun w => absurd ((iN_le (by omega)).mpr (by omega)) w)
      exact b_X9_spareFor_68 (rI ⟨by unfold spareFor; rw [show nS r = i by omega], rfl⟩)
    | succ k ih =>
      intro i hi
      have hz1 := hz i (by omega)
      have hr := sml_rg (fun k => r (314 + 2 * k)) x i
      have e : ((i : Int) + 1) = ((i + 1 : Nat) : Int) := by omega
      have hk := ih (i + 1) (by omega)
      simp only [sml] at hk
      have no : ¬ (x ≤ r (314 + 2 * i) ∧ (sml (fun k => r (314 + 2 * k)) x i = -1 ∨ r (314 + 2 * i) < r (314 + 2 * (sml (fun k => r (314 + 2 * k)) x i).toNat))) → AW mX9_spareFor 1 0 0 48 [.ref q, .int (iN x), .int (iN (sml (fun k => r (314 + 2 * k)) x i)), .int (iN (i : Int)), vU] [] h (qI (fun v h' => v = spareFor r x ∧ h' = h)) := by
        intro hno
        rw [if_neg hno] at hk
        refine b_X9_spareFor_48 (fun _ => ?_) (fun w => absurd rfl w)
        refine b_X9_spareFor_60 ?_
        rw [e]; exact hk
      have yes : (x ≤ r (314 + 2 * i) ∧ (sml (fun k => r (314 + 2 * k)) x i = -1 ∨ r (314 + 2 * i) < r (314 + 2 * (sml (fun k => r (314 + 2 * k)) x i).toNat))) → AW mX9_spareFor 1 0 0 44 [.ref q, .int (iN x), .int (iN (sml (fun k => r (314 + 2 * k)) x i)), .int (iN (i : Int)), vU] [] h (qI (fun v h' => v = spareFor r x ∧ h' = h)) := by
        intro hyes
        rw [if_pos hyes] at hk
        refine b_X9_spareFor_44 (fun w => absurd w (by decide)) (fun _ => ?_)
        refine b_X9_spareFor_56 ?_
        rw [e]; exact hk
      refine b_X9_spareFor_4 (ha.g 2) (fun w => ?_) (fun _ => ?_)
      · have := (iN_le (by omega)).mp w; omega
      refine b_X9_spareFor_11 s_spareAt (fun v h' hv => ?_)
      obtain ⟨rfl, rfl⟩ := hv
      refine b_X9_spareFor_17 (ha.g (314 + 2 * i)) (fun w => ?_) (fun w => ?_)
      · have := (iN_lt (by omega)).mp w
        exact no (by omega)
      have hle : x ≤ r (314 + 2 * i) := by
        rcases Int.lt_or_le (r (314 + 2 * i)) x with z | z
        · exact absurd ((iN_lt (by omega)).mpr z) w
        · exact z
      refine b_X9_spareFor_22 (fun w => ?_) (fun w => ?_)
      · exact yes ⟨hle, Or.inl ((iN_eq (by omega)).mp w)⟩
      have hne : ¬ sml (fun k => r (314 + 2 * k)) x i = -1 := fun z => w (by rw [z])
      have hz2 := hz (sml (fun k => r (314 + 2 * k)) x i).toNat (by omega)
      refine b_X9_spareFor_27 s_spareAt (fun v h' hv => ?_)
      obtain ⟨rfl, rfl⟩ := hv
      refine b_X9_spareFor_33 (ha.g (314 + 2 * i)) s_spareAt (fun v h' hv => ?_)
      obtain ⟨rfl, rfl⟩ := hv
      refine b_X9_spareFor_40 (ha.g (314 + 2 * (sml (fun k => r (314 + 2 * k)) x i).toNat)) (fun w => ?_) (fun w => ?_)
      · have := (iN_le (by omega)).mp w
        exact no (by omega)
      · refine yes ⟨hle, Or.inr ?_⟩
        rcases Int.lt_or_le (r (314 + 2 * i)) (r (314 + 2 * (sml (fun k => r (314 + 2 * k)) x i).toNat)) with z | z
        · exact z
        · exact absurd ((iN_le (by omega)).mpr z) w
  exact H (nS r) 0 (by omega)
theorem s_risBig (ha : ari h q 690 r) (h7 : 0 ≤ r 7 ∧ r 7 ≤ 1000) {x : Int} (hx : 0 ≤ x ∧ x ≤ 1000) : CtZ mX9_isBig 0 0 0 [.ref q, .int (iN x)] h (fun v h' => v = isBig r x ∧ h' = h) := by
  have e : (iN (r 7) / iN 2).toInt = r 7 / 2 := iN_div (by omega) (by omega)
  refine en_X9_isBig (b_X9_isBig_0 (ha.g 7) (fun w => ?_) (fun w => ?_))
  · rw [e] at w
    have := (iN_le (by omega)).mp w
    exact b_X9_isBig_14 (rZ0 ⟨by unfold isBig; simp; omega, rfl⟩)
  · rw [e] at w
    have : r 7 / 2 < x := by
      rcases Int.lt_or_le (r 7 / 2) x with z | z
      · exact z
      · exact absurd ((iN_le (by omega)).mpr z) w
    exact b_X9_isBig_10 (rZ1 ⟨by unfold isBig; simp; omega, rfl⟩)
theorem okR.ro (hk : okR r) {z s : Int} (hs : 1 ≤ s ∧ s ≤ 8) : -1 ≤ roomOn r z s ∧ roomOn r z s ≤ 100 := by
  have h1 := hk.lu
  unfold roomOn
  by_cases h : lastU r = -1
  · rw [if_pos h]; omega
  · rw [if_neg h]
    have h2 := (hk.2.2.2.1 (lastU r).toNat (by unfold nF; omega)).2.2
    have h3 := openP_rg h2 hs
    split <;> omega
theorem s_roomOn (ha : ari h q 690 r) (hk : okR r) {z s : Int} (hz : 1 ≤ z ∧ z ≤ 40) (hs : 1 ≤ s ∧ s ≤ 8) : CtI mX9_roomOn 2 0 0 [.ref q, .int (iN z), .int (iN s)] h (fun v h' => v = roomOn r z s ∧ h' = h) := by
  have hl := hk.lu
  have h1 := hk.1
  have hn : r 1 = (nF r : Int) := by unfold nF; omega
  refine en_X9_roomOn (b_X9_roomOn_0 (s_rlastUsual ha (by omega) (fun k h => (hk.2.2.2.1 k h).1)) (fun v h' hv => ?_))
  obtain ⟨rfl, rfl⟩ := hv
  refine b_X9_roomOn_4 (fun w => ?_) (fun w => ?_)
  · have hne : ¬ lastU r = -1 := fun z => w (by rw [z])
    have hf := (hk.2.2.2.1 (lastU r).toNat (by omega)).2
    have ho := openP_rg hf.2 hs
    refine b_X9_roomOn_12 s_fieldAt (fun v h' hv => ?_)
    obtain ⟨rfl, rfl⟩ := hv
    refine b_X9_roomOn_18 (ha.g (108 + 4 * (lastU r).toNat)) (fun w => ?_) s_fieldAt (fun v h' hv => ?_)
    · have := (iN_eq (b := 0) (by omega)).mp w; omega
    obtain ⟨rfl, rfl⟩ := hv
    rw [iN_div (by omega) (by omega)]
    show AW _ _ _ _ _ [_, _, _, _, .int (iN (openP (r (108 + 4 * (lastU r).toNat)) s))] [_, _, .int (iN (openP (r (108 + 4 * (lastU r).toNat)) s + z))] _ _
    refine b_X9_roomOn_39 (ha.g (106 + 4 * (lastU r).toNat)) (fun w => ?_) (fun w => ?_)
    · have := (iN_lt (by omega)).mp w
      exact b_X9_roomOn_48 (rI ⟨by unfold roomOn; rw [if_neg hne, if_neg (by omega)], rfl⟩)
    · refine b_X9_roomOn_43 (rI ⟨?_, rfl⟩)
      have : openP (r (108 + 4 * (lastU r).toNat)) s + z ≤ r (106 + 4 * (lastU r).toNat) := by
        rcases Int.lt_or_le (r (106 + 4 * (lastU r).toNat)) (openP (r (108 + 4 * (lastU r).toNat)) s + z) with y | y
        · exact absurd ((iN_lt (by omega)).mpr y) w
        · exact y
      unfold roomOn
      rw [if_neg hne, if_pos this]
  · have := (iN_eq (by omega)).mp w
    exact b_X9_roomOn_10 (rI ⟨by unfold roomOn; rw [if_pos this], rfl⟩)
theorem newSz_rg (hk : okR r) {z : Int} (hz : 1 ≤ z ∧ z ≤ 40) : 1 ≤ newSz r z ∧ newSz r z ≤ 64 := by
  have := hk.2.2.1
  unfold newSz; split <;> omega
theorem s_whereIn (ha : ari h q 690 r) (hk : okR r) {z s : Int} (hz : 1 ≤ z ∧ z ≤ 40) (hs : 1 ≤ s ∧ s ≤ 8) : CtI mX9_whereIn 3 0 0 [.ref q, .int (iN z), .int (iN s)] h (fun v h' => v = whereIn r z s ∧ h' = h) := by
  have h1 := hk.1
  have h2 := hk.2.1
  have h7 := hk.2.2.1
  have hr := hk.ro (z := z) hs
  have hsf := hk.sf z
  have hap := hk.ap
  have hns := newSz_rg hk hz
  refine en_X9_whereIn (b_X9_whereIn_0 (s_roomOn ha hk hz hs) (fun v h' hv => ?_))
  obtain ⟨rfl, rfl⟩ := hv
  refine b_X9_whereIn_6 (fun w => ?_) (fun w => ?_)
  · have hr1 := (iN_eq (by omega)).mp w
    refine b_X9_whereIn_12 (s_spareFor ha (by omega) (fun k h => by have := hk.2.2.2.2 k h; omega) (by omega)) (fun v h' hv => ?_)
    obtain ⟨rfl, rfl⟩ := hv
    refine b_X9_whereIn_17 (fun w => ?_) (fun w => ?_)
    · have hs1 := (iN_eq (by omega)).mp w
      have K : AW mX9_whereIn 3 0 0 44 [.ref q, .int (iN z), .int (iN s), .int (iN (newSz r z))] [.int (iN (allP r))] h' (qI (fun v h1 => v = whereIn r z s ∧ h1 = h')) := by
        refine b_X9_whereIn_44 (fun w => ?_) (fun w => ?_)
        · have := (iN_lt (by omega)).mp w
          exact b_X9_whereIn_56 (rI ⟨by unfold whereIn; rw [if_neg (by omega), if_neg (by omega), if_neg (by omega)], rfl⟩)
        · refine b_X9_whereIn_52 (rI ⟨?_, rfl⟩)
          have : allP r + newSz r z ≤ 256 := by
            rcases Int.lt_or_le 256 (allP r + newSz r z) with y | y
            · exact absurd ((iN_lt (by omega)).mpr y) w
            · exact y
          unfold whereIn; rw [if_neg (by omega), if_neg (by omega), if_pos this]
      refine b_X9_whereIn_23 (s_risBig ha (by omega) (by omega)) (fun v h' hv => ?_)
      obtain ⟨rfl, rfl⟩ := hv
      refine b_X9_whereIn_28 (fun w => ?_) (fun w => ?_)
      · have hb : isBig r z = false := by
          cases hbb : isBig r z
          · rfl
          · rw [hbb] at w; exact absurd w (by decide)
        refine b_X9_whereIn_35 (ha.g 7) (s_allPlaces ha (by omega) (by omega)) (fun v h' hv => ?_)
        obtain ⟨rfl, rfl⟩ := hv
        unfold newSz at K; rw [hb] at K; exact K
      · have hb : isBig r z = true := by
          cases hbb : isBig r z
          · rw [hbb] at w; exact absurd rfl w
          · rfl
        refine b_X9_whereIn_31 (s_allPlaces ha (by omega) (by omega)) (fun v h' hv => ?_)
        obtain ⟨rfl, rfl⟩ := hv
        unfold newSz at K; rw [hb] at K; exact K
    · have hne : ¬ spareFor r z = -1 := fun z => w (by rw [z])
      exact b_X9_whereIn_21 (rI ⟨by unfold whereIn; rw [if_neg (by omega), if_pos hne], rfl⟩)
  · have hne : ¬ roomOn r z s = -1 := fun z => w (by rw [z])
    exact b_X9_whereIn_10 (rI ⟨by unfold whereIn; rw [if_pos hne], rfl⟩)
/-- copying within one array, to the left, or onto itself -/
theorem s_copyL (ha : ari h q 690 r) (p t n : Nat) (hp : t ≤ p) (h1 : p + n ≤ 690) : CtV mX9_copy 0 0 0 [.ref q, .int (iN p), .ref q, .int (iN t), .int (iN n)] h (fun h' => RA h q (cpy r p t n) h') := by
  refine en_X9_copy (b_X9_copy_0 ?_)
  have H : ∀ (k i : Nat) (h1 : AH), i + k = n → RA h q (cpy r p t i) h1 → AW mX9_copy 0 0 0 3 [.ref q, .int (iN p), .ref q, .int (iN t), .int (iN n), .int (iN (i : Int))] [] h1 (qV (fun h' => RA h q (cpy r p t n) h')) := by
    intro k
    induction k with
    | zero =>
      intro i h1 hi ra
      refine b_X9_copy_3 (fun _ => ?_) (fun w => absurd ((iN_le (by omega)).mpr (by omega)) w)
      rw [show n = i by omega]
      exact b_X9_copy_28 (rV ra)
    | succ k ih =>
      intro i h1 hi ra
      refine b_X9_copy_3 (fun w => ?_) (fun _ => ?_)
      · have := (iN_le (by omega)).mp w; omega
      refine b_X9_copy_10 (ra.a.g (p + i)) (ra.a.g (t + i)) ?_
      have e : ((i : Int) + 1) = ((i + 1 : Nat) : Int) := by omega
      rw [e]
      refine ih (i + 1) _ (by omega) ((ra.s (t + i)).eq ?_)
      rw [cpy_out r p t i (k := p + i) (by omega)]
      funext k9
      unfold up cpy
      by_cases h : k9 = t + i
      · subst h; rw [if_pos rfl, if_pos (by omega)]; congr 1; omega
      · rw [if_neg h]
        by_cases h2 : t ≤ k9 ∧ k9 < t + i
        · rw [if_pos h2, if_pos (by omega)]
        · rw [if_neg h2, if_neg (by omega)]
  refine H n 0 h (by omega) ((RA.st ha).eq ?_)
  funext k9
  unfold cpy; rw [if_neg (by omega)]
theorem s_takeSpare (ha : ari h q 690 r) (hk : okR r) (i : Nat) (hi : i < nS r) (hF : r 1 ≤ 50) : CtV mX9_takeSpare 1 0 0 [.ref q, .int (iN i)] h (fun h' => RA h q (tkS r i) h') := by
  have h1 := hk.1
  have h2 := hk.2.1
  have hn : r 1 = (nF r : Int) := by unfold nF; omega
  have hm : r 2 = (nS r : Int) := by unfold nS; omega
  refine en_X9_takeSpare (b_X9_takeSpare_0 (ha.g 1) s_fieldAt (fun v h' hv => ?_))
  obtain ⟨rfl, rfl⟩ := hv
  refine b_X9_takeSpare_10 s_spareAt (fun v h' hv => ?_)
  obtain ⟨rfl, rfl⟩ := hv
  have ra := (RA.st ha).s (106 + 4 * nF r) (v := r (314 + 2 * i)) (z := 106 + 4 * r 1 + 0)
  refine b_X9_takeSpare_16 (ha.g (314 + 2 * i)) (ha.g (106 + 4 * nF r)) s_fieldAt (fun v h1 hv => ?_)
  obtain ⟨rfl, rfl⟩ := hv
  refine b_X9_takeSpare_24 s_spareAt (fun v h1 hv => ?_)
  obtain ⟨rfl, rfl⟩ := hv
  have rb := ra.s (109 + 4 * nF r) (v := up r (106 + 4 * nF r) (r (314 + 2 * i)) (315 + 2 * i)) (z := 106 + 4 * r 1 + 3)
  refine b_X9_takeSpare_30 (ra.a.g (315 + 2 * i)) (ra.a.g (109 + 4 * nF r)) s_spareAt (fun v h1 hv => ?_)
  obtain ⟨rfl, rfl⟩ := hv
  rw [up_ne _ _ (show 315 + 2 * i ≠ 106 + 4 * nF r by omega)] at rb ⊢
  refine b_X9_takeSpare_40 s_spareAt (fun v h1 hv => ?_)
  obtain ⟨rfl, rfl⟩ := hv
  have e1 : (2 * (((up (up r (106 + 4 * nF r) (r (314 + 2 * i))) (109 + 4 * nF r) (r (315 + 2 * i))) 2 - 1) - i) : Int) = ((2 * (nS r - 1 - i) : Nat) : Int) := by
    rw [up_ne _ _ (by omega), up_ne _ _ (by omega)]; omega
  have e2 : (314 + 2 * ((i : Int) + 1) + 0) = ((316 + 2 * i : Nat) : Int) := by omega
  have e3 : (314 + 2 * (i : Int) + 0) = ((314 + 2 * i : Nat) : Int) := by omega
  refine b_X9_takeSpare_46 (rb.a.g 2) (by rw [e1, e2, e3]; exact s_copyL rb.a _ _ _ (by omega) (by omega)) (fun h2 hv => ?_)
  have rc := rb.tr hv
  refine b_X9_takeSpare_58 (rc.a.g 2) (rc.a.g 2) (rV ?_)
  refine (rc.s 2).eq ?_
  unfold tkS
  rw [cpy_out _ _ _ _ (by omega), up_ne _ _ (by omega), up_ne _ _ (by omega)]
theorem s_makeField (ha : ari h q 690 r) (hk : okR r) (hF : r 1 ≤ 50) {z : Int} (hz : 0 ≤ z) (hall : allP r + z ≤ 256) : CtV mX9_makeField 3 0 0 [.ref q, .int (iN z)] h (fun h' => RA h q (makeF r z) h') := by
  have h1 := hk.1
  have h2 := hk.2.1
  have hap := hk.ap
  have hn : r 1 = (nF r : Int) := by unfold nF; omega
  refine en_X9_makeField (b_X9_makeField_0 (ha.g 1) (s_allPlaces ha (by omega) (by omega)) (fun v h' hv => ?_))
  obtain ⟨rfl, rfl⟩ := hv
  refine b_X9_makeField_8 s_fieldAt (fun v h' hv => ?_)
  obtain ⟨rfl, rfl⟩ := hv
  have ra := (RA.st ha).s (106 + 4 * nF r) (v := z) (z := 106 + 4 * r 1 + 0)
  refine b_X9_makeField_15 (ha.g (106 + 4 * nF r)) s_fieldAt (fun v h1 hv => ?_)
  obtain ⟨rfl, rfl⟩ := hv
  have rb := ra.s (109 + 4 * nF r) (v := allP r) (z := 106 + 4 * r 1 + 3)
  refine b_X9_makeField_23 (ra.a.g (109 + 4 * nF r)) ?_
  have H : ∀ (k i : Nat) (h1 : AH), i + k = z.toNat → RA h' q (strw (up (up r (106 + 4 * nF r) z) (109 + 4 * nF r) (allP r)) 0 (434 + (allP r).toNat) (434 + (allP r).toNat + i)) h1 → AW mX9_makeField 3 0 0 28 [.ref q, .int (iN z), .int (iN (r 1)), .int (iN (allP r)), .int (iN (i : Int))] [] h1 (qV (fun h1 => RA h' q (makeF r z) h1)) := by
    intro k
    induction k with
    | zero =>
      intro i h1 hi ra
      refine b_X9_makeField_28 (fun _ => ?_) (fun w => absurd ((iN_le (by omega)).mpr (by omega)) w)
      refine b_X9_makeField_51 (rV ?_)
      unfold makeF
      rw [show z.toNat = i by omega]
      exact ra
    | succ k ih =>
      intro i h1 hi ra
      refine b_X9_makeField_28 (fun w => ?_) (fun _ => ?_)
      · have := (iN_le (by omega)).mp w; omega
      refine b_X9_makeField_34 (ra.a.g (434 + (allP r).toNat + i)) ?_
      have e : ((i : Int) + 1) = ((i + 1 : Nat) : Int) := by omega
      rw [e]
      refine ih (i + 1) _ (by omega) ((ra.s (434 + (allP r).toNat + i)).eq ?_)
      funext k9
      by_cases h : k9 = 434 + (allP r).toNat + i
      · rw [h, up_same, strw_in _ _ _ _ (by omega)]
      · rw [up_ne _ _ h]
        unfold strw
        by_cases h2 : 434 + (allP r).toNat ≤ k9 ∧ k9 < 434 + (allP r).toNat + i
        · rw [if_pos h2, if_pos (by omega)]
        · rw [if_neg h2, if_neg (by omega)]
  refine H z.toNat 0 _ (by omega) (rb.eq ?_)
  funext k9
  unfold strw; rw [if_neg (by omega)]
end REFA
