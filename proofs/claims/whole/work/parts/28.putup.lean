/-! putUp, putUpAll, strewTent, goIn -/
section PUT
variable {h : AH} {c : Nat} {N : Nat → Int} {X : Nat → Nat → Int} {k m : Int} {r : Nat → Int}
/-- counts and maxima in range -/
def okN (r : Nat → Int) : Prop := (0 ≤ r 3 ∧ r 3 ≤ 8) ∧ (allP r ≤ r 5 ∧ r 5 ≤ 256) ∧ (0 ≤ r 4 ∧ r 4 ≤ 10000)
theorem p_all {z s : Int} (hg : okG r) (hz : 1 ≤ z ∧ z ≤ 40) (hs : 1 ≤ s ∧ s ≤ 8) : allP (pitchOn r z s) = if whereIn r z s = 2 then allP r + newSz r z else allP r := by
  rcases where_rg r z s with w | w | w | w
  · rw [if_neg (by omega)]
    unfold allP useP sparP nF nS
    rw [p0_c hg w (c := 1) (by omega), p0_c hg w (c := 2) (by omega)]
    congr 1
    · exact sm_congr (fun f hf => p0_c hg w (by omega))
    · exact sm_congr (fun f hf => p0_c hg w (by omega))
  · rw [if_neg (by omega)]
    obtain ⟨p1, p2, p3⟩ := spare_sp hg (where_1.mp w).2
    have ok := tk_ok hg p1 (z := z) (by omega) p2
    rw [pitchOn_1 w, (maxF_ok ok.1).2, ok.2]
  · rw [if_pos w]
    have w2 := where_2.mp w
    have hns := newSz_lo hg hz
    have ok := mk_ok hg (z := z) (by omega) hns.2.2 ⟨hns.1, hns.2.1⟩ w2.2.2
    rw [pitchOn_2 w, (maxF_ok ok.1).2, ok.2]
  · rw [if_neg (by omega), pitchOn_3 w]
theorem p_all2 {z s : Int} (hg : okG r) (hz : 1 ≤ z ∧ z ≤ 40) (hs : 1 ≤ s ∧ s ≤ 8) : allP r ≤ allP (pitchOn r z s) ∧ allP (pitchOn r z s) ≤ 256 := by
  have h1 := newSz_lo hg hz
  have h2 := (pitchOn_ok hg hz hs).1.2.2.2
  have h3 := p_all hg hz hs
  refine ⟨?_, h2⟩
  rw [h3]; split <;> omega
theorem p_5 {z s : Int} (hg : okG r) (h5 : allP r ≤ r 5) (hz : 1 ≤ z ∧ z ≤ 40) (hs : 1 ≤ s ∧ s ≤ 8) : pitchOn r z s 5 = if r 5 < allP (pitchOn r z s) then allP (pitchOn r z s) else r 5 := by
  rcases where_rg r z s with w | w | w | w
  · rw [p_all hg hz hs, if_neg (by omega), p0_c hg w (by omega)]
  · rw [p_all hg hz hs, if_neg (by omega), pitchOn_1 w]
    obtain ⟨p1, p2, p3⟩ := spare_sp hg (where_1.mp w).2
    have ok := tk_ok hg p1 (z := z) (by omega) p2
    have hn := hg.n
    have e5 : addF (tkS r (spareFor r z).toNat) z 5 = r 5 := by
      rw [addF_tk p1 (by omega)]; simp (disch := omega) only [if_neg]
    rw [maxF_at, if_pos rfl, e5, ok.2, if_neg (by omega)]
  · have w2 := where_2.mp w
    have hns := newSz_lo hg hz
    have hap := hg.k.ap
    have ok := mk_ok hg (z := z) (by omega) hns.2.2 ⟨hns.1, hns.2.1⟩ w2.2.2
    have e5 : addF (makeF r (newSz r z)) z 5 = r 5 := by
      rw [addF_mk]; simp (disch := omega) only [if_neg]
    rw [p_all hg hz hs, if_pos w, pitchOn_2 w, maxF_at, if_pos rfl, e5, ok.2]
  · rw [p_all hg hz hs, if_neg (by omega), pitchOn_3 w]
/-- the first free place of the field that the new tent stands on -/
def pF (r : Nat → Int) (z s : Int) : Int := if whereIn r z s = 0 then lastU (pitchOn r z s) else pitchOn r z s 1 - 1
theorem p1_eq {z s : Int} (hg : okG r) (w : whereIn r z s = 1 ∨ whereIn r z s = 2) : pitchOn r z s 1 = r 1 + 1 := by
  have hn := hg.n
  rcases w with w | w
  · obtain ⟨p1, p2, p3⟩ := spare_sp hg (where_1.mp w).2
    rw [pitchOn_1 w, maxF_c _ (by omega), addF_tk p1 (by omega), if_pos rfl]
  · rw [pitchOn_2 w, maxF_c _ (by omega), addF_mk, if_pos rfl]
theorem pF_ts {z s : Int} (hg : okG r) (w3 : whereIn r z s ≠ 3) : pF r z s = tsV r z s := by
  have hw := where_rg r z s
  unfold pF tsV
  rw [if_neg w3]
  by_cases w : whereIn r z s = 0
  · rw [if_pos w, if_pos w]
    unfold lastU nF
    rw [p0_c hg w (c := 1) (by omega)]
    exact lst_congr (fun f hf => p0_c hg w (by omega))
  · rw [if_neg w, if_neg w, p1_eq hg (by omega)]; omega
/-- the field of the new tent, and where the tent lies on it -/
theorem pF_sp {z s : Int} (hg : okG r) (w3 : whereIn r z s ≠ 3) (hz : 1 ≤ z ∧ z ≤ 40) (hs : 1 ≤ s ∧ s ≤ 8) : 0 ≤ pF r z s ∧ pF r z s < pitchOn r z s 1 ∧ pitchOn r z s (108 + 4 * (pF r z s).toNat) = pitchV r z s + z ∧ 0 ≤ pitchV r z s := by
  have hw := where_rg r z s
  have h1 := hg.1.1
  have hn := hg.n
  have n1 : r 1 = (nF r : Int) := by unfold nF; omega
  rw [pF_ts hg w3]
  unfold tsV pitchV
  rw [if_neg w3, if_neg w3]
  by_cases w : whereIn r z s = 0
  · have hr := roomOn_sp (where_0.mp w)
    obtain ⟨l1, l2, l3⟩ := last_sp hg hr.1
    have hf := hg.k.2.2.2.1 _ l1
    have ho := openP_rg hf.2.2 hs
    rw [if_pos w, if_pos w, p0_e hg w, p0_c hg w (by omega)]
    omega
  · rw [if_neg w, if_neg w, p1_eq hg (by omega), n1, Int.toNat_natCast]
    refine ⟨by omega, by omega, ?_, by omega⟩
    rcases (show whereIn r z s = 1 ∨ whereIn r z s = 2 by omega) with w | w
    · obtain ⟨p1, p2, p3⟩ := spare_sp hg (where_1.mp w).2
      rw [pitchOn_1 w, maxF_c _ (by omega), addF_tk p1 (by omega)]
      simp (disch := omega) only [if_neg, if_true]; omega
    · rw [pitchOn_2 w, maxF_c _ (by omega), addF_mk]
      simp (disch := omega) only [if_neg, if_true]; omega
theorem pitchIn_c {z s : Int} (hg : okG r) {c : Nat} (h0 : c ≠ 0) (h4 : c ≠ 4) (ht : c < 10 + 4 * nT r ∨ 14 + 4 * nT r ≤ c) : pitchIn r z s c = pitchOn r z s c := by
  have e0 : pitchOn r z s 0 = r 0 := pitchOn_lo hg (by omega) (by omega) (by omega) (by omega)
  have eT : nT (pitchOn r z s) = nT r := by unfold nT; rw [e0]
  unfold pitchIn maxT addT
  rw [eT, up_ne _ _ h4, up_ne _ _ h0, up_ne _ _ (by omega), up_ne _ _ (by omega), up_ne _ _ (by omega), up_ne _ _ (by omega)]
theorem pitchIn_t {z s : Int} (hg : okG r) : pitchIn r z s 0 = r 0 + 1 ∧ pitchIn r z s (10 + 4 * nT r) = pF r z s ∧ pitchIn r z s (11 + 4 * nT r) = pitchV r z s ∧ pitchIn r z s (12 + 4 * nT r) = z ∧ pitchIn r z s (13 + 4 * nT r) = s := by
  have e0 : pitchOn r z s 0 = r 0 := pitchOn_lo hg (by omega) (by omega) (by omega) (by omega)
  have eT : nT (pitchOn r z s) = nT r := by unfold nT; rw [e0]
  unfold pitchIn maxT addT pF
  rw [eT, e0]
  refine ⟨?_, ?_, ?_, ?_, ?_⟩
  · rw [up_ne _ _ (by omega), up_same]
  · rw [up_ne _ _ (by omega), up_ne _ _ (by omega), up_ne _ _ (by omega), up_ne _ _ (by omega), up_ne _ _ (by omega), up_same]
  · rw [up_ne _ _ (by omega), up_ne _ _ (by omega), up_ne _ _ (by omega), up_ne _ _ (by omega), up_same]
  · rw [up_ne _ _ (by omega), up_ne _ _ (by omega), up_ne _ _ (by omega), up_same]
  · rw [up_ne _ _ (by omega), up_ne _ _ (by omega), up_same]
theorem pitchIn_4 {z s : Int} (hg : okG r) (h0 : 0 ≤ r 0 ∧ r 0 < 24) : pitchIn r z s 4 = if r 4 < tentP r + z then tentP r + z else r 4 := by
  have e0 : pitchOn r z s 0 = r 0 := pitchOn_lo hg (by omega) (by omega) (by omega) (by omega)
  have e4 : pitchOn r z s 4 = r 4 := pitchOn_lo hg (by omega) (by omega) (by omega) (by omega)
  have eT : nT (pitchOn r z s) = nT r := by unfold nT; rw [e0]
  have n0 : r 0 = (nT r : Int) := by unfold nT; omega
  unfold pitchIn
  generalize (if whereIn r z s = 0 then lastU (pitchOn r z s) else pitchOn r z s 1 - 1) = f
  generalize pitchV r z s = pv
  have A0 : addT (pitchOn r z s) f pv z s 0 = r 0 + 1 := by unfold addT; rw [up_same, e0]
  have A4 : addT (pitchOn r z s) f pv z s 4 = r 4 := by
    unfold addT
    rw [up_ne _ _ (by omega), up_ne _ _ (by omega), up_ne _ _ (by omega), up_ne _ _ (by omega), up_ne _ _ (by omega), e4]
  have AT : tentP (addT (pitchOn r z s) f pv z s) = tentP r + z := by
    unfold tentP
    have : nT (addT (pitchOn r z s) f pv z s) = nT r + 1 := by unfold nT; rw [A0]; omega
    rw [this]
    unfold addT
    rw [eT]
    simp only [sm]
    rw [up_ne _ _ (by omega), up_ne _ _ (by omega), up_same]
    congr 1
    exact sm_congr (fun t h1 => by
      rw [up_ne _ _ (by omega), up_ne _ _ (by omega), up_ne _ _ (by omega), up_ne _ _ (by omega), up_ne _ _ (by omega)]
      exact pitchOn_lo hg (by omega) (by omega) (by omega) (by omega))
  unfold maxT
  rw [up_same, AT, A4]
theorem pitchIn_allP {z s : Int} (hg : okG r) (h0 : 0 ≤ r 0 ∧ r 0 < 24) : allP (pitchIn r z s) = allP (pitchOn r z s) := by
  have n0 : nT r < 24 := by unfold nT; omega
  unfold allP useP sparP nF nS
  rw [pitchIn_c hg (c := 1) (by omega) (by omega) (by omega), pitchIn_c hg (c := 2) (by omega) (by omega) (by omega)]
  congr 1
  · exact sm_congr (fun f hf => pitchIn_c hg (by omega) (by omega) (by omega))
  · exact sm_congr (fun f hf => pitchIn_c hg (by omega) (by omega) (by omega))
end PUT
