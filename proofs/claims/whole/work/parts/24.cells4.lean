/-! giving up a spare field -/
section CELLS4
variable {r : Nat → Int}
/-- what a start becomes -/
def dn (s z v : Int) : Int := if s < v then v - z else v
theorem grt_sp (g : Nat → Int) : ∀ n : Nat, 0 < n → (grt g n).toNat < n := by
  intro n hn
  have := grt_rg g n
  omega
theorem gv_lo {i : Nat} {c : Nat} (h : c < 106) : gvU r i c = if c = 2 then r 2 - 1 else r c := by
  unfold gvU shF shS
  rw [if_neg (by omega), if_neg (by omega)]
  unfold up
  by_cases h2 : c = 2
  · rw [if_pos h2, if_pos h2]
  · rw [if_neg h2, if_neg h2, cpy_out _ _ _ _ (by omega), cpy_out _ _ _ _ (by omega)]
theorem gv_f {i : Nat} {c : Nat} (h : 106 ≤ c ∧ c < 314) : gvU r i c = if c < 106 + 4 * nF r ∧ c % 4 = 1 then dn (r (315 + 2 * i)) (r (314 + 2 * i)) (r c) else r c := by
  have e : shS (up (cpy (cpy r (434 + (r (315 + 2 * i)).toNat + (r (314 + 2 * i)).toNat) (434 + (r (315 + 2 * i)).toNat) ((allP r).toNat - (r (315 + 2 * i)).toNat - (r (314 + 2 * i)).toNat)) (316 + 2 * i) (314 + 2 * i) (2 * (nS r - 1 - i))) 2 (r 2 - 1)) (nS r - 1) (r (315 + 2 * i)) (r (314 + 2 * i)) c = r c := by
    unfold shS
    rw [if_neg (by omega), up_ne _ _ (by omega), cpy_out _ _ _ _ (by omega), cpy_out _ _ _ _ (by omega)]
  unfold gvU shF dn
  rw [e]
  by_cases q : c < 106 + 4 * nF r ∧ c % 4 = 1
  · rw [if_pos q]
    by_cases q2 : r (315 + 2 * i) < r c
    · rw [if_pos q2, if_pos (by omega)]
    · rw [if_neg q2, if_neg (by omega)]
  · rw [if_neg q, if_neg (by omega)]
theorem gv_s {i : Nat} (hi : i < nS r) (hn : nF r + nS r ≤ 51) {k : Nat} (hk : k < nS r - 1) : gvU r i (314 + 2 * k) = r (314 + 2 * (if k < i then k else k + 1)) ∧ gvU r i (315 + 2 * k) = dn (r (315 + 2 * i)) (r (314 + 2 * i)) (r (315 + 2 * (if k < i then k else k + 1))) := by
  have e : ∀ c, 314 ≤ c → c < 312 + 2 * nS r → (up (cpy (cpy r (434 + (r (315 + 2 * i)).toNat + (r (314 + 2 * i)).toNat) (434 + (r (315 + 2 * i)).toNat) ((allP r).toNat - (r (315 + 2 * i)).toNat - (r (314 + 2 * i)).toNat)) (316 + 2 * i) (314 + 2 * i) (2 * (nS r - 1 - i))) 2 (r 2 - 1)) c = r (if c < 314 + 2 * i then c else c + 2) := by
    intro c h1 h2
    rw [up_ne _ _ (by omega)]
    by_cases q : c < 314 + 2 * i
    · rw [if_pos q, cpy_out _ _ _ _ (by omega), cpy_out _ _ _ _ (by omega)]
    · rw [if_neg q, cpy_in _ _ _ _ (by omega), cpy_out _ _ _ _ (by omega)]
      congr 1; omega
  constructor
  · unfold gvU shF shS
    rw [if_neg (by omega), if_neg (by omega), e _ (by omega) (by omega)]
    congr 1
    by_cases q : k < i
    · rw [if_pos q, if_pos (by omega)]
    · rw [if_neg q, if_neg (by omega)]; omega
  · have e2 : (if 315 + 2 * k < 314 + 2 * i then 315 + 2 * k else 315 + 2 * k + 2) = 315 + 2 * (if k < i then k else k + 1) := by
      by_cases q : k < i
      · rw [if_pos q, if_pos (by omega)]
      · rw [if_neg q, if_neg (by omega)]; omega
    unfold gvU shF
    rw [if_neg (by omega)]
    unfold shS dn
    rw [e _ (by omega) (by omega), e2]
    by_cases q2 : r (315 + 2 * i) < r (315 + 2 * (if k < i then k else k + 1))
    · rw [if_pos q2, if_pos (by omega)]
    · rw [if_neg q2, if_neg (by omega)]
theorem gv_m {i : Nat} (hi : i < nS r) (hn : nF r + nS r ≤ 51) {c : Nat} (h : 418 ≤ c ∧ c < 434) : gvU r i c = r c := by
  unfold gvU shF shS
  rw [if_neg (by omega), if_neg (by omega), up_ne _ _ (by omega), cpy_out _ _ _ _ (by omega), cpy_out _ _ _ _ (by omega)]
theorem gv_v (hg : okG r) {i : Nat} (hi : i < nS r) (k : Nat) : gvU r i (434 + k) = r (434 + (if r (315 + 2 * i) ≤ k ∧ (k : Int) < allP r - r (314 + 2 * i) then k + (r (314 + 2 * i)).toNat else k)) := by
  have hn := hg.n
  have hs := hg.s hi
  unfold gvU shF shS
  rw [if_neg (by omega), if_neg (by omega), up_ne _ _ (by omega), cpy_out _ _ _ _ (by omega)]
  by_cases q : r (315 + 2 * i) ≤ k ∧ (k : Int) < allP r - r (314 + 2 * i)
  · rw [if_pos q, cpy_in _ _ _ _ (by omega)]
    congr 1; omega
  · rw [if_neg q, cpy_out _ _ _ _ (by omega)]
theorem gv_ok (hg : okG r) {i : Nat} (hi : i < nS r) : okG (gvU r i) ∧ allP (gvU r i) = allP r - r (314 + 2 * i) := by
  have hn := hg.n
  have h1 := hg.1.1
  have h2 := hg.1.2.1
  have hm2 : r 2 = (nS r : Int) := by unfold nS; omega
  have hs := hg.s hi
  have a1 : gvU r i 1 = r 1 := by rw [gv_lo (by omega), if_neg (by omega)]
  have a2 : gvU r i 2 = r 2 - 1 := by rw [gv_lo (by omega), if_pos rfl]
  have a7 : gvU r i 7 = r 7 := by rw [gv_lo (by omega), if_neg (by omega)]
  have aF : nF (gvU r i) = nF r := by unfold nF; rw [a1]
  have aS : nS (gvU r i) = nS r - 1 := by unfold nS; rw [a2]; omega
  let φ : Nat → Nat := fun j => if j < nF r + i then j else j + 1
  have hφ : ∀ j, j < nF r + nS r - 1 → φ j < nF r + nS r ∧ φ j ≠ nF r + i := by
    intro j hj; simp only [φ]; split <;> omega
  have hZ : ∀ j, j < nF r + nS r - 1 → gZ (gvU r i) j = gZ r (φ j) := by
    intro j hj
    simp only [φ]
    unfold gZ
    rw [aF]
    by_cases q1 : j < nF r
    · rw [if_pos q1, if_pos (show j < nF r + i by omega), if_pos q1, gv_f (by omega), if_neg (by omega)]
    · rw [if_neg q1, (gv_s hi hn (k := j - nF r) (by omega)).1]
      by_cases q2 : j < nF r + i
      · rw [if_pos q2, if_neg q1, if_pos (by omega)]
      · rw [if_neg q2, if_neg (by omega), if_neg (by omega)]
        congr 2; omega
  have hS : ∀ j, j < nF r + nS r - 1 → gS (gvU r i) j = dn (r (315 + 2 * i)) (r (314 + 2 * i)) (gS r (φ j)) := by
    intro j hj
    simp only [φ]
    unfold gS
    rw [aF]
    by_cases q1 : j < nF r
    · rw [if_pos q1, if_pos (show j < nF r + i by omega), if_pos q1, gv_f (by omega), if_pos (by omega)]
    · rw [if_neg q1, (gv_s hi hn (k := j - nF r) (by omega)).2]
      by_cases q2 : j < nF r + i
      · rw [if_pos q2, if_neg q1, if_pos (by omega)]
      · rw [if_neg q2, if_neg (by omega), if_neg (by omega), show j - nF r + 1 = j + 1 - nF r by omega]
  have eA : allP (gvU r i) = allP r - r (314 + 2 * i) := by
    unfold allP useP sparP
    rw [aF, aS]
    have e1 : sm (fun f => gvU r i (106 + 4 * f)) (nF r) = sm (fun f => r (106 + 4 * f)) (nF r) := sm_congr (fun k hk => by rw [gv_f (by omega), if_neg (by omega)])
    have e2 : sm (fun f => gvU r i (314 + 2 * f)) (nS r - 1) = sm (fun k => if k < i then (fun f => r (314 + 2 * f)) k else (fun f => r (314 + 2 * f)) (k + 1)) (nS r - 1) := sm_congr (fun k hk => by
      rw [(gv_s hi hn hk).1]
      by_cases q : k < i
      · rw [if_pos q, if_pos q]
      · rw [if_neg q, if_neg q])
    rw [e1, e2, sm_del _ _ (by omega), show nS r - 1 + 1 = nS r by omega]
    omega
  have gi : gS r (nF r + i) = r (315 + 2 * i) ∧ gZ r (nF r + i) = r (314 + 2 * i) := by
    unfold gS gZ
    rw [if_neg (by omega), if_neg (by omega), Nat.add_sub_cancel_left]
    exact ⟨rfl, rfl⟩
  refine ⟨⟨⟨by omega, by omega, by rw [a7]; exact hg.1.2.2.1, by rw [eA]; have := hg.1.2.2.2; omega⟩, fun f hf => ?_, fun j hj => ?_, fun a b ha hb hab => ?_⟩, eA⟩
  · rw [aF] at hf
    rw [gv_f (by omega), gv_f (by omega), gv_f (by omega), if_neg (by omega), if_neg (by omega), if_neg (by omega)]
    exact hg.2.1 f hf
  · rw [aF, aS] at hj
    rw [hZ j (by omega), hS j (by omega), eA]
    obtain ⟨p1, p2⟩ := hφ j (by omega)
    have q1 := hg.2.2.1 _ p1
    have q2 := hg.2.2.2 _ _ p1 (show nF r + i < nF r + nS r by omega) p2
    rw [gi.1, gi.2] at q2
    unfold dn
    split <;> omega
  · rw [aF, aS] at ha hb
    rw [hZ a (by omega), hS a (by omega), hZ b (by omega), hS b (by omega)]
    obtain ⟨p1, p2⟩ := hφ a (by omega)
    obtain ⟨p3, p4⟩ := hφ b (by omega)
    have q1 := hg.2.2.1 _ p1
    have q3 := hg.2.2.1 _ p3
    have q2 := hg.2.2.2 _ _ p1 (show nF r + i < nF r + nS r by omega) p2
    have q4 := hg.2.2.2 _ _ p3 (show nF r + i < nF r + nS r by omega) p4
    have q5 := hg.2.2.2 _ _ p1 p3 (by simp only [φ]; split <;> split <;> omega)
    rw [gi.1, gi.2] at q2 q4
    unfold dn
    split <;> split <;> omega
theorem gv_vv (hg : okG r) {i : Nat} (hi : i < nS r) (hv : okV r) : okV (gvU r i) := by
  intro k hk
  have hs := hg.s hi
  have := hg.1.2.2.2
  rw [gv_v hg hi]
  split
  · exact hv _ (by omega)
  · exact hv _ hk
/-- what giving up leaves as it was -/
def same (g r : Nat → Int) : Prop := (∀ c, c < 109 → c ≠ 2 → g c = r c) ∧ (∀ c, 109 ≤ c → c < 314 → c % 4 ≠ 1 → g c = r c) ∧ (∀ c, 418 ≤ c → c < 434 → g c = r c)
theorem same.rf (r : Nat → Int) : same r r := ⟨fun _ _ _ => rfl, fun _ _ _ _ => rfl, fun _ _ _ => rfl⟩
theorem gv_same (hg : okG r) {i : Nat} (hi : i < nS r) : same (gvU r i) r := by
  have hn := hg.n
  refine ⟨fun c h1 h2 => ?_, fun c h1 h2 h3 => ?_, fun c h1 h2 => gv_m hi hn ⟨h1, h2⟩⟩
  · rcases Nat.lt_or_ge c 106 with q | q
    · rw [gv_lo q, if_neg h2]
    · rw [gv_f (by omega), if_neg (by omega)]
  · rw [gv_f (by omega), if_neg (by omega)]
theorem grtS_lt (h : 0 < nS r) : grtS r < nS r := grt_sp _ _ h
theorem gvs_ok : ∀ (n : Nat) {r : Nat → Int}, okG r → 0 ≤ r 8 → okG (gvs n r) ∧ allP (gvs n r) ≤ allP r ∧ same (gvs n r) r ∧ (okV r → okV (gvs n r))
  | 0, r, hg, _ => ⟨hg, Int.le_refl _, same.rf r, fun h => h⟩
  | n + 1, r, hg, h8 => by
    show okG (if _ then _ else _) ∧ allP (if _ then _ else _) ≤ _ ∧ same (if _ then _ else _) _ ∧ (_ → okV (if _ then _ else _))
    by_cases q : r 8 < sparP r
    · rw [if_pos q]
      have hS : 0 < nS r := by
        rcases Nat.eq_zero_or_pos (nS r) with z | z
        · unfold sparP at q; rw [z] at q; simp [sm] at q; omega
        · exact z
      have hi := grtS_lt hS
      obtain ⟨h1, h2⟩ := gv_ok hg hi
      have h3 := gv_same hg hi
      obtain ⟨h4, h5, h6, h7⟩ := gvs_ok n h1 (by rw [h3.1 8 (by omega) (by omega)]; exact h8)
      have := (hg.s hi).1
      refine ⟨h4, by omega, ⟨fun c c1 c2 => (h6.1 c c1 c2).trans (h3.1 c c1 c2), fun c c1 c2 c3 => (h6.2.1 c c1 c2 c3).trans (h3.2.1 c c1 c2 c3), fun c c1 c2 => (h6.2.2 c c1 c2).trans (h3.2.2 c c1 c2)⟩, fun hv => h7 (gv_vv hg hi hv)⟩
    · rw [if_neg q]; exact ⟨hg, Int.le_refl _, same.rf r, fun h => h⟩
end CELLS4
