/-! the reference's static methods, on -/
section REFB
variable {h : AH} {q : Nat} {r : Nat → Int}
theorem bI_0 {b : Bool} : iN (bI b) = iN 0 ↔ b = false := by cases b <;> decide
theorem s_pitchOn (ha : ari h q 690 r) (hg : okG r) (h5 : 0 ≤ r 5 ∧ r 5 ≤ 1000) {z s : Int} (hz : 1 ≤ z ∧ z ≤ 40) (hs : 1 ≤ s ∧ s ≤ 8) : CtI mX9_pitchOn 4 0 0 [.ref q, .int (iN z), .int (iN s)] h (fun v h' => v = pitchV r z s ∧ RA h q (pitchOn r z s) h') := by
  have hk := hg.k
  have h1 := hk.1
  have h2 := hk.2.1
  have hn := hg.n
  have K : ∀ (g : Nat → Int) (h1 : AH) (w : Int), RA h q g h1 → okG (addF g z) → 0 ≤ g 1 → nF g ≤ 50 → (0 ≤ g 7 ∧ g 7 ≤ 1000) → g 5 = r 5 → AW mX9_pitchOn 4 0 0 88 [.ref q, .int (iN z), .int (iN s), .int (iN w), vU] [.int (iN (106 + 4 * g 1 + 1)), .ref q] h1 (qI fun v h' => v = 0 ∧ RA h q (maxF (addF g z)) h') := by
    intro g h1 w ra ok g1 gn g7 g5
    have hgn : g 1 = (nF g : Int) := by unfold nF; omega
    have K2 : ∀ h1, RA h q (up g (107 + 4 * nF g) (bI (isBig g z))) h1 → AW mX9_pitchOn 4 0 0 110 [.ref q, .int (iN z), .int (iN s), .int (iN w), vU] [.int (iN (106 + 4 * g 1 + 2)), .ref q] h1 (qI fun v h' => v = 0 ∧ RA h q (maxF (addF g z)) h') := by
      intro h1 rb
      have rc := rb.s (108 + 4 * nF g) (v := z) (z := 106 + 4 * g 1 + 2)
      have e1 : (up (up g (107 + 4 * nF g) (bI (isBig g z))) (108 + 4 * nF g) z) 1 = g 1 := by rw [up_ne _ _ (by omega), up_ne _ _ (by omega)]
      have rd := rc.s 1 (v := g 1 + 1) (z := 1)
      have hap := ok.k.ap
      have e5 : addF g z 5 = r 5 := by rw [addF_at, if_neg (by omega), if_neg (by omega), if_neg (by omega), g5]
      have okr := ok.k
      refine b_X9_pitchOn_110 (rb.a.g (108 + 4 * nF g)) (rc.a.gv (z := 1) 1 e1) (rc.a.g 1) (s_allPlaces (r := addF g z) rd.a ⟨okr.1.1, by have := okr.1.2; omega⟩ ⟨okr.2.1.1, by have := okr.2.1.2; omega⟩) (fun v h2 hv => ?_)
      obtain ⟨rfl, rfl⟩ := hv
      have rd : RA h q (addF g z) _ := rd
      refine b_X9_pitchOn_123 (rd.a.g 5) (fun w => ?_) (fun w => ?_)
      · rw [e5] at w
        have := (iN_le (by omega)).mp w
        refine b_X9_pitchOn_140 (rd.a.g 5) (rd.a.g 5) (rI ⟨rfl, ?_⟩)
        refine (rd.s 5).eq ?_
        unfold maxF; rw [if_neg (by omega)]
      · rw [e5] at w
        have : r 5 < allP (addF g z) := by
          rcases Int.lt_or_le (r 5) (allP (addF g z)) with y | y
          · exact y
          · exact absurd ((iN_le (by omega)).mpr y) w
        refine b_X9_pitchOn_135 (rd.a.g 5) (rI ⟨rfl, ?_⟩)
        refine (rd.s 5).eq ?_
        unfold maxF; rw [if_pos (by omega)]
    have e7 := fun v => up_ne g v (show 1 ≠ 107 + 4 * nF g by omega)
    refine b_X9_pitchOn_88 (s_risBig ra.a g7 (by omega)) (fun v h2 hv => ?_)
    obtain ⟨rfl, rfl⟩ := hv
    refine b_X9_pitchOn_93 (fun w => ?_) (fun w => ?_)
    · have hb := bI_0.mp w
      rw [hb] at K2
      have rb := ra.s (107 + 4 * nF g) (v := 0) (z := 106 + 4 * g 1 + 1)
      refine b_X9_pitchOn_100 (ra.a.g (107 + 4 * nF g)) (rb.a.gv (z := 1) 1 (e7 0)) s_fieldAt (fun v h3 hv => ?_)
      obtain ⟨rfl, rfl⟩ := hv
      exact K2 _ rb
    · have hb : isBig g z = true := by
        cases hbb : isBig g z
        · exact absurd (bI_0.mpr hbb) w
        · rfl
      rw [hb] at K2
      have rb := ra.s (107 + 4 * nF g) (v := 1) (z := 106 + 4 * g 1 + 1)
      refine b_X9_pitchOn_96 (ra.a.g (107 + 4 * nF g)) (rb.a.gv (z := 1) 1 (e7 1)) s_fieldAt (fun v h3 hv => ?_)
      obtain ⟨rfl, rfl⟩ := hv
      exact K2 _ rb
  refine en_X9_pitchOn (b_X9_pitchOn_0 (s_whereIn ha hk hz hs) (fun v h' hv => ?_))
  obtain ⟨rfl, rfl⟩ := hv
  have hw := where_rg r z s
  refine b_X9_pitchOn_6 (fun w => ?_) (fun w => ?_)
  · have w3 : ¬ whereIn r z s = 3 := fun e => w (by rw [e])
    refine b_X9_pitchOn_14 (fun w => ?_) (fun w => ?_)
    · have w0 : ¬ whereIn r z s = 0 := fun e => w (by rw [e])
      have ev : pitchV r z s = 0 := by unfold pitchV; rw [if_neg w3, if_neg w0]
      rw [ev]
      refine b_X9_pitchOn_43 (fun w => ?_) (fun w => ?_)
      · have w1 : ¬ whereIn r z s = 1 := fun e => w (by rw [e])
        have w2 : whereIn r z s = 2 := by omega
        rw [pitchOn_2 w2]
        have hw2 := where_2.mp w2
        have hns := newSz_lo hg hz
        have ok := (mk_ok hg (z := z) (by omega) hns.2.2 ⟨hns.1, hns.2.1⟩ hw2.2.2).1
        have cc : ∀ c, c < 106 → makeF r (newSz r z) c = r c := fun c hc => by rw [makeF_at, if_neg (by omega), if_neg (by omega), if_neg (by omega)]
        have n50 : nF r ≤ 50 := by
          have := ok.n
          have e : nF (addF (makeF r (newSz r z)) z) = nF r + 1 := by unfold nF; rw [addF_at, if_pos rfl, cc 1 (by omega)]; omega
          omega
        have M : ∀ h1, RA h' q (makeF r (newSz r z)) h1 → AW mX9_pitchOn 4 0 0 80 [.ref q, .int (iN z), .int (iN s), .int (iN (whereIn r z s)), vU] [] h1 (qI fun v h1 => v = 0 ∧ RA h' q (maxF (addF (makeF r (newSz r z)) z)) h1) := by
          intro h1 ra
          refine b_X9_pitchOn_80 (ra.a.g 1) s_fieldAt (fun v h3 hv => ?_)
          obtain ⟨rfl, rfl⟩ := hv
          have := hk.2.2.1
          exact K _ _ _ ra ok (by rw [cc 1 (by omega)]; omega) (by unfold nF at n50 ⊢; rw [cc 1 (by omega)]; omega) (by rw [cc 7 (by omega)]; omega) (cc 5 (by omega))
        refine b_X9_pitchOn_60 (s_risBig ha (by have := hk.2.2.1; omega) (by omega)) (fun v h3 hv => ?_)
        obtain ⟨rfl, rfl⟩ := hv
        have n51 : r 1 ≤ 50 := by unfold nF at n50; omega
        refine b_X9_pitchOn_66 (fun w => ?_) (fun w => ?_)
        · have hb := bI_0.mp w
          have e : newSz r z = r 7 := by unfold newSz; rw [hb]; rfl
          refine b_X9_pitchOn_73 (ha.g 7) (s_makeField ha hk n51 (z := r 7) (by omega) (by omega)) (fun h4 hv => ?_)
          exact M _ (by rw [e]; exact hv)
        · have hb : isBig r z = true := by
            cases hbb : isBig r z
            · exact absurd (bI_0.mpr hbb) w
            · rfl
          have e : newSz r z = z := by unfold newSz; rw [hb]; rfl
          refine b_X9_pitchOn_69 (s_makeField ha hk n51 (z := z) (by omega) (by omega)) (fun h4 hv => ?_)
          exact M _ (by rw [e]; exact hv)
      · have w1 : whereIn r z s = 1 := (iN_eq (by omega)).mp w
        rw [pitchOn_1 w1]
        have hw1 := where_1.mp w1
        obtain ⟨hs1, hs2, hs3⟩ := spare_sp hg hw1.2
        have ok := (tk_ok hg hs1 (by omega) hs2).1
        have cc : ∀ c, c < 106 → c ≠ 2 → tkS r (spareFor r z).toNat c = r c := fun c hc c2 => by rw [tkS_at hs1 (by omega), if_neg c2, if_neg (by omega), if_neg (by omega), if_neg (by omega)]
        refine b_X9_pitchOn_48 (s_spareFor ha (by omega) (fun k h => by have := hk.2.2.2.2 k h; omega) (by omega)) (fun v h3 hv => ?_)
        obtain ⟨rfl, rfl⟩ := hv
        have n50 : r 1 ≤ 50 := by unfold nF at hn; omega
        refine b_X9_pitchOn_54 (by rw [hs3]; exact s_takeSpare ha hk _ hs1 n50) (fun h4 ra => ?_)
        refine b_X9_pitchOn_57 (ra.a.g 1) s_fieldAt (fun v h3 hv => ?_)
        obtain ⟨rfl, rfl⟩ := hv
        have := hk.2.2.1
        exact K _ _ _ ra ok (by rw [cc 1 (by omega) (by omega)]; omega) (by unfold nF; rw [cc 1 (by omega) (by omega)]; omega) (by rw [cc 7 (by omega) (by omega)]; omega) (cc 5 (by omega) (by omega))
    · have w0 : whereIn r z s = 0 := (iN_eq (by omega)).mp w
      rw [pitchOn_0 w0]
      have hr := roomOn_sp (where_0.mp w0)
      obtain ⟨hl1, hl2, hl3⟩ := last_sp hg hr.1
      refine b_X9_pitchOn_18 (s_roomOn ha hk hz hs) (fun v h3 hv => ?_)
      obtain ⟨rfl, rfl⟩ := hv
      refine b_X9_pitchOn_24 (s_rlastUsual ha (by omega) (fun k h => (hk.2.2.2.1 k h).1)) (fun v h3 hv => ?_)
      obtain ⟨rfl, rfl⟩ := hv
      refine b_X9_pitchOn_31 s_fieldAt (fun v h3 hv => ?_)
      obtain ⟨rfl, rfl⟩ := hv
      refine b_X9_pitchOn_35 (ha.g (108 + 4 * (lastU r).toNat)) (rI ⟨?_, ?_⟩)
      · unfold pitchV; rw [if_neg w3, if_pos w0]
      · exact (RA.st ha).s (108 + 4 * (lastU r).toNat)
  · have w3 := (iN_eq (by omega)).mp w
    exact b_X9_pitchOn_12 (rI ⟨by unfold pitchV; rw [if_pos w3], by rw [pitchOn_3 w3]; exact RA.st ha⟩)
end REFB
