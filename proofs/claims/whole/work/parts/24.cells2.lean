/-! pitchOn keeps the ground -/
section CELLS2
variable {r : Nat → Int}
theorem newSz_lo (hg : okG r) {z : Int} (hz : 1 ≤ z ∧ z ≤ 40) : 5 ≤ newSz r z ∧ newSz r z ≤ 64 ∧ z ≤ newSz r z := by
  have := hg.1.2.2.1
  unfold newSz isBig
  by_cases h : r 7 / 2 < z
  · rw [decide_eq_true h, if_pos rfl]; omega
  · rw [decide_eq_false h]; simp; omega
theorem maxF_c (c : Nat) (h : c ≠ 5) : maxF r c = r c := by rw [maxF_at, if_neg h]
theorem maxF_ok (hg : okG r) : okG (maxF r) ∧ allP (maxF r) = allP r := by
  refine hg.cg (maxF_c _ (by omega)) (maxF_c _ (by omega)) (maxF_c _ (by omega)) (fun c h1 h2 _ => maxF_c _ (by omega)) (fun f hf => ?_)
  rw [maxF_c _ (by omega)]
  exact (hg.2.1 f hf).2
theorem roomOn_sp {z s : Int} (h : roomOn r z s ≠ -1) : lastU r ≠ -1 ∧ roomOn r z s = openP (r (108 + 4 * (lastU r).toNat)) s ∧ openP (r (108 + 4 * (lastU r).toNat)) s + z ≤ r (106 + 4 * (lastU r).toNat) := by
  unfold roomOn at h ⊢
  by_cases h1 : lastU r = -1
  · rw [if_pos h1] at h; exact absurd rfl h
  · rw [if_neg h1] at h ⊢
    split at h
    · rename_i q; rw [if_pos q]; exact ⟨h1, rfl, q⟩
    · exact absurd rfl h
theorem where_0 {z s : Int} : whereIn r z s = 0 ↔ roomOn r z s ≠ -1 := by
  unfold whereIn
  constructor
  · intro h h2
    rw [if_neg (by omega)] at h
    split at h
    · omega
    · split at h <;> omega
  · intro h; rw [if_pos h]
theorem where_1 {z s : Int} : whereIn r z s = 1 ↔ roomOn r z s = -1 ∧ spareFor r z ≠ -1 := by
  unfold whereIn
  constructor
  · intro h
    split at h
    · omega
    · rename_i q
      split at h
      · rename_i q2; exact ⟨by omega, q2⟩
      · split at h <;> omega
  · intro h; rw [if_neg (by omega), if_pos h.2]
theorem where_2 {z s : Int} : whereIn r z s = 2 ↔ roomOn r z s = -1 ∧ spareFor r z = -1 ∧ allP r + newSz r z ≤ 256 := by
  unfold whereIn
  constructor
  · intro h
    split at h
    · omega
    · rename_i q
      split at h
      · omega
      · rename_i q2
        split at h
        · rename_i q3; exact ⟨by omega, by omega, q3⟩
        · omega
  · intro h; rw [if_neg (by omega), if_neg (by omega), if_pos h.2.2]
theorem where_rg (r : Nat → Int) (z s : Int) : whereIn r z s = 0 ∨ whereIn r z s = 1 ∨ whereIn r z s = 2 ∨ whereIn r z s = 3 := by
  unfold whereIn
  split
  · exact Or.inl rfl
  · split
    · exact Or.inr (Or.inl rfl)
    · split
      · exact Or.inr (Or.inr (Or.inl rfl))
      · exact Or.inr (Or.inr (Or.inr rfl))
theorem spare_sp (hg : okG r) {z : Int} (h : spareFor r z ≠ -1) : (spareFor r z).toNat < nS r ∧ z ≤ r (314 + 2 * (spareFor r z).toNat) ∧ spareFor r z = ((spareFor r z).toNat : Int) := by
  have h1 := hg.k.sf z
  have h2 := sml_sp (fun i => r (314 + 2 * i)) z (nS r) h
  have h3 := hg.1.2.1
  refine ⟨by unfold nS; omega, h2, by omega⟩
theorem last_sp (hg : okG r) (h : lastU r ≠ -1) : (lastU r).toNat < nF r ∧ r (107 + 4 * (lastU r).toNat) = 0 ∧ lastU r = ((lastU r).toNat : Int) := by
  have h1 := hg.k.lu
  have h2 := lst_sp (fun f => r (107 + 4 * f)) (nF r) h
  have h3 := hg.1.1
  refine ⟨by unfold nF; omega, h2, by omega⟩
/-- what pitchOn does, case by case -/
theorem pitchOn_0 {z s : Int} (h : whereIn r z s = 0) : pitchOn r z s = up r (108 + 4 * (lastU r).toNat) (roomOn r z s + z) := by
  unfold pitchOn; rw [if_neg (by omega), if_pos h]
theorem pitchOn_1 {z s : Int} (h : whereIn r z s = 1) : pitchOn r z s = maxF (addF (tkS r (spareFor r z).toNat) z) := by
  unfold pitchOn; rw [if_neg (by omega), if_neg (by omega), if_pos h]
theorem pitchOn_2 {z s : Int} (h : whereIn r z s = 2) : pitchOn r z s = maxF (addF (makeF r (newSz r z)) z) := by
  unfold pitchOn; rw [if_neg (by omega), if_neg (by omega), if_neg (by omega)]
theorem pitchOn_3 {z s : Int} (h : whereIn r z s = 3) : pitchOn r z s = r := by
  unfold pitchOn; rw [if_pos h]
theorem pitchOn_ok (hg : okG r) {z s : Int} (hz : 1 ≤ z ∧ z ≤ 40) (hs : 1 ≤ s ∧ s ≤ 8) : okG (pitchOn r z s) := by
  rcases where_rg r z s with h | h | h | h
  · rw [pitchOn_0 h]
    obtain ⟨h1, h2, h3⟩ := roomOn_sp (where_0.mp h)
    obtain ⟨h4, h5, h6⟩ := last_sp hg h1
    have h7 := (hg.2.1 _ h4).2
    have h8 := (hg.f h4).1
    have h9 := openP_rg (e := r (108 + 4 * (lastU r).toNat)) (by omega) hs
    refine (hg.cg (up_ne _ _ (by omega)) (up_ne _ _ (by omega)) (up_ne _ _ (by omega)) (fun c c1 c2 c3 => up_ne _ _ ?_) (fun f hf => ?_)).1
    · have := hg.n; omega
    · by_cases q : f = (lastU r).toNat
      · subst q; rw [up_same, h2]; omega
      · rw [up_ne _ _ (by omega)]; exact (hg.2.1 f hf).2
  · rw [pitchOn_1 h]
    have h1 := where_1.mp h
    obtain ⟨h2, h3, -⟩ := spare_sp hg h1.2
    exact (maxF_ok (tk_ok hg h2 (by omega) h3).1).1
  · rw [pitchOn_2 h]
    have h1 := where_2.mp h
    have h2 := newSz_lo hg hz
    exact (maxF_ok (mk_ok hg (by omega) h2.2.2 ⟨h2.1, h2.2.1⟩ h1.2.2).1).1
  · rw [pitchOn_3 h]; exact hg
/-- the cells of a row that only new ground changes -/
theorem addF_tk {i : Nat} (hi : i < nS r) (hF : nF r ≤ 51) {z : Int} (c : Nat) : addF (tkS r i) z c =
    if c = 1 then r 1 + 1 else if c = 108 + 4 * nF r then z else if c = 107 + 4 * nF r then bI (isBig r z) else
    if c = 2 then r 2 - 1 else if 314 + 2 * i ≤ c ∧ c < 312 + 2 * nS r then r (c + 2) else
    if c = 109 + 4 * nF r then r (315 + 2 * i) else if c = 106 + 4 * nF r then r (314 + 2 * i) else r c := by
  have T := fun c => tkS_at (r := r) hi hF c
  have t1 : tkS r i 1 = r 1 := by rw [T, if_neg (by omega), if_neg (by omega), if_neg (by omega), if_neg (by omega)]
  have t7 : tkS r i 7 = r 7 := by rw [T, if_neg (by omega), if_neg (by omega), if_neg (by omega), if_neg (by omega)]
  have tF : nF (tkS r i) = nF r := by unfold nF; rw [t1]
  rw [addF_at, tF, t1, isBig_cg t7, T]
theorem addF_mk {y z : Int} (c : Nat) : addF (makeF r y) z c =
    if c = 1 then r 1 + 1 else if c = 108 + 4 * nF r then z else if c = 107 + 4 * nF r then bI (isBig r z) else
    if 434 + (allP r).toNat ≤ c ∧ c < 434 + (allP r).toNat + y.toNat then 0 else
    if c = 109 + 4 * nF r then allP r else if c = 106 + 4 * nF r then y else r c := by
  have T := fun c => makeF_at (r := r) (z := y) c
  have t1 : makeF r y 1 = r 1 := by rw [T, if_neg (by omega), if_neg (by omega), if_neg (by omega)]
  have t7 : makeF r y 7 = r 7 := by rw [T, if_neg (by omega), if_neg (by omega), if_neg (by omega)]
  have tF : nF (makeF r y) = nF r := by unfold nF; rw [t1]
  rw [addF_at, tF, t1, isBig_cg t7, T]
theorem smf_0 (z : Nat → Int) (n : Nat) : smf z 0 n = sm z n := by unfold smf; simp
end CELLS2
