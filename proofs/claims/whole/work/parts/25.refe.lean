/-! the reference's static methods: behind a frame; gaps -/
section REFE
variable {h : AH} {q : Nat} {r : Nat → Int}
/-- what striking behind frame i needs -/
def okB (r : Nat → Int) (i : Nat) : Prop :=
  okG r ∧ okT r ∧ (0 ≤ r 8) ∧ (r 9 = 0 ∨ r 9 = 1) ∧ (0 ≤ r (418 + 2 * i) ∧ r (418 + 2 * i) ≤ r 0) ∧ (0 ≤ r (419 + 2 * i) ∧ r (419 + 2 * i) ≤ r 1) ∧ (∀ t, (t : Int) < r (418 + 2 * i) → r (10 + 4 * t) < r (419 + 2 * i))
/-- the row once the tents and fields behind frame i are gone -/
def sbA (r : Nat → Int) (i : Nat) : Nat → Int := strks (nT r - (r (418 + 2 * i)).toNat) r
def sbB (r : Nat → Int) (i : Nat) : Nat → Int := movs (nF r - (r (419 + 2 * i)).toNat) (sbA r i)
theorem okB.a {i : Nat} (hb : okB r i) : okG (sbA r i) ∧ okT (sbA r i) ∧ allP (sbA r i) = allP r ∧ (∀ c, c < 434 → sbA r i c = if c = 6 then r 6 + strV r i else if c = 0 then r (418 + 2 * i) else r c) := by
  obtain ⟨hg, ht, -, -, h3, -⟩ := hb
  have h0 := ht.1
  obtain ⟨a1, a2, a3, a4⟩ := strks_ok (nT r - (r (418 + 2 * i)).toNat) hg ht (by unfold nT; omega)
  refine ⟨a1, a2, a3, fun c hc => ?_⟩
  unfold sbA
  rw [a4 c hc]
  have e : ((nT r - (r (418 + 2 * i)).toNat : Nat) : Int) = r 0 - r (418 + 2 * i) := by unfold nT; omega
  rw [e]
  unfold strV
  split
  · rfl
  · split
    · omega
    · rfl
theorem okB.b {i : Nat} (hi : i < 8) (hb : okB r i) : okG (sbB r i) ∧ okT (sbB r i) ∧ allP (sbB r i) = allP r ∧ sbB r i 1 = r (419 + 2 * i) ∧ sbB r i 2 = r 2 + (r 1 - r (419 + 2 * i)) ∧
    (∀ c, c ≠ 0 → c ≠ 1 → c ≠ 2 → c ≠ 6 → c < 314 + 2 * nS r ∨ 418 ≤ c ∧ c < 434 → sbB r i c = r c) ∧ sbB r i 0 = r (418 + 2 * i) ∧ sbB r i 6 = r 6 + strV r i ∧
    (∀ j, j < nF r - (r (419 + 2 * i)).toNat → sbB r i (314 + 2 * (nS r + j)) = r (106 + 4 * (nF r - 1 - j)) ∧ sbB r i (315 + 2 * (nS r + j)) = r (109 + 4 * (nF r - 1 - j))) ∧
    (∀ k, sbB r i (434 + k) = sbA r i (434 + k)) := by
  obtain ⟨a1, a2, a3, a4⟩ := hb.a
  obtain ⟨hg, ht, -, -, h3, h4, h5⟩ := hb
  have hn := hg.n
  have h0 := ht.1
  have h1 := hg.1.1
  have h2 := hg.1.2.1
  have eF : nF (sbA r i) = nF r := by unfold nF; rw [a4 1 (by omega), if_neg (by omega), if_neg (by omega)]
  have eS : nS (sbA r i) = nS r := by unfold nS; rw [a4 2 (by omega), if_neg (by omega), if_neg (by omega)]
  obtain ⟨m1, m2, m3, m4, m5, m6⟩ := movs_ok (nF r - (r (419 + 2 * i)).toNat) a1 (by omega)
  rw [eS] at m5 m6
  rw [eF] at m6
  have e1 : ((nF r - (r (419 + 2 * i)).toNat : Nat) : Int) = r 1 - r (419 + 2 * i) := by unfold nF; omega
  rw [e1, a4 1 (by omega), if_neg (by omega), if_neg (by omega)] at m3
  rw [e1, a4 2 (by omega), if_neg (by omega), if_neg (by omega)] at m4
  have nFr : r 1 = (nF r : Int) := by unfold nF; omega
  have cc : ∀ c, c ≠ 0 → c ≠ 1 → c ≠ 2 → c ≠ 6 → c < 314 + 2 * nS r ∨ 418 ≤ c ∧ c < 434 → sbB r i c = r c := by
    intro c q0 q1 q2 q6 q
    unfold sbB
    rw [m5 c q1 q2 (by omega), a4 c (by omega), if_neg q6, if_neg q0]
  have c0 : sbB r i 0 = r (418 + 2 * i) := by
    unfold sbB
    rw [m5 0 (by omega) (by omega) (by omega), a4 0 (by omega), if_neg (by omega), if_pos rfl]
  refine ⟨m1, ⟨by rw [c0]; omega, fun t htt => ?_⟩, m2.trans a3, by unfold sbB; omega, by unfold sbB; omega, cc, c0, ?_, fun j hj => ?_, fun k => ?_⟩
  · have tb : (t : Int) < r (418 + 2 * i) := by unfold nT at htt; rw [c0] at htt; omega
    have htr := ht.2 t (by unfold nT; omega)
    have hfm := tnt.fm hg htr
    refine htr.cg ?_ (fun c c1 c2 => cc c (by omega) (by omega) (by omega) (by omega) (by omega)) (cc _ (by omega) (by omega) (by omega) (by omega) (by omega))
    have := h5 t tb
    unfold sbB; omega
  · unfold sbB
    rw [m5 6 (by omega) (by omega) (by omega), a4 6 (by omega), if_pos rfl]
  · have := m6 j hj
    unfold sbB
    rw [this.1, this.2, a4 _ (by omega), a4 _ (by omega), if_neg (by omega), if_neg (by omega), if_neg (by omega), if_neg (by omega)]
    exact ⟨rfl, rfl⟩
  · unfold sbB
    rw [m5 _ (by omega) (by omega) (by omega)]
theorem s_strikeBehind (ha : ari h q 690 r) {i : Nat} (hi : i < 8) (hb : okB r i) : CtI mX9_strikeBehind 4 0 0 [.ref q, .int (iN i)] h (fun v h' => v = strV r i ∧ RA h q (strikeB r i) h') := by
  obtain ⟨a1, a2, a3, a4⟩ := hb.a
  obtain ⟨b1, b2, b3, b4, b5, b6, b7, b8, b9, b10⟩ := hb.b hi
  obtain ⟨hg, ht, h8, h9, h3, h4, h5⟩ := hb
  have hn := hg.n
  have h0 := ht.1
  have h1 := hg.1.1
  have h2 := hg.1.2.1
  have n0 : r 0 = (nT r : Int) := by unfold nT; omega
  have n1 : r 1 = (nF r : Int) := by unfold nF; omega
  generalize hTi : r (418 + 2 * i) = T at *
  generalize hFi : r (419 + 2 * i) = F at *
  -- the last loop
  have H4 : ∀ (n : Nat) (g : Nat → Int) (h1 : AH), okG g → nS g ≤ n → 0 ≤ g 8 ∧ g 8 ≤ 1000 → RA h q g h1 → AW mX9_strikeBehind 4 0 0 102 [.ref q, .int (iN i), .int (iN (strV r i))] [] h1 (qI fun v h' => v = strV r i ∧ RA h q (gvs n g) h') := by
    intro n
    induction n with
    | zero =>
      intro g h1 og hs g8 ra
      have okr := og.k
      have s0 : sparP g = 0 := by unfold sparP; rw [show nS g = 0 by omega]; rfl
      refine b_X9_strikeBehind_102 (s_sparePlaces ra.a ⟨okr.2.1.1, by have := okr.2.1.2; omega⟩) (fun v h2 hv => ?_)
      obtain ⟨rfl, rfl⟩ := hv
      refine b_X9_strikeBehind_106 (ra.a.g 8) (fun _ => ?_) (fun w => absurd ((iN_le (by omega)).mpr (by omega)) w)
      exact b_X9_strikeBehind_124 (rI ⟨rfl, ra⟩)
    | succ n ih =>
      intro g h1 og hs g8 ra
      have okr := og.k
      have hsp := okr.sp
      refine b_X9_strikeBehind_102 (s_sparePlaces ra.a ⟨okr.2.1.1, by have := okr.2.1.2; omega⟩) (fun v h2 hv => ?_)
      obtain ⟨rfl, rfl⟩ := hv
      show AW _ _ _ _ _ _ _ _ (qI fun v h' => v = strV r i ∧ RA h q (if g 8 < sparP g then gvs n (gvU g (grtS g)) else g) h')
      refine b_X9_strikeBehind_106 (ra.a.g 8) (fun w => ?_) (fun w => ?_)
      · have := (iN_le (by omega)).mp w
        rw [if_neg (by omega)]
        exact b_X9_strikeBehind_124 (rI ⟨rfl, ra⟩)
      · have lt : g 8 < sparP g := by
          rcases Int.lt_or_le (g 8) (sparP g) with y | y
          · exact y
          · exact absurd ((iN_le (by omega)).mpr y) w
        rw [if_pos lt]
        have hS : 0 < nS g := by
          rcases Nat.eq_zero_or_pos (nS g) with z | z
          · unfold sparP at lt; rw [z] at lt; simp [sm] at lt; omega
          · exact z
        have hi9 := grtS_lt hS
        obtain ⟨o1, o2⟩ := gv_ok og hi9
        refine b_X9_strikeBehind_113 (s_greatestSpare ra.a okr hS) (fun v h3 hv => ?_)
        obtain ⟨rfl, rfl⟩ := hv
        refine b_X9_strikeBehind_118 (s_giveUp ra.a og hi9) (fun h4 rb => ?_)
        refine b_X9_strikeBehind_121 ?_
        refine ih _ _ o1 ?_ (by rw [gv_lo (by omega), if_neg (by omega)]; exact g8) (ra.tr rb)
        have : gvU g (grtS g) 2 = g 2 - 1 := by rw [gv_lo (by omega), if_pos rfl]
        unfold nS at hs ⊢; omega
  sorry
end REFE
