/-! putUp, strewTent, goIn: the code -/
section PUT2
variable {h : AH} {c : Nat} {N : Nat → Int} {X : Nat → Nat → Int} {k m : Int} {r : Nat → Int}
def puV (r : Nat → Int) (z s : Int) : Int := if r 0 < 24 ∧ whereIn r z s ≠ 3 then r 0 else -1
def puR (r : Nat → Int) (z s : Int) : Nat → Int := if r 0 < 24 ∧ whereIn r z s ≠ 3 then pitchIn r z s else r
theorem s_putUp (hc : camp h c k (r 5) r) (hg : okG r) (ht : okT r) (hN : okN r) {z s : Int} (hz : 1 ≤ z ∧ z ≤ 40) (hs : s = 1 ∨ s = 2 ∨ s = 4 ∨ s = 8) : CtI mX0_putUp 4 0 0 [.ref c, .int (iN z), .int (iN s)] h (fun v h' => v = puV r z s ∧ camp h' c k (puR r z s 5) (puR r z s) ∧ Off h h' c (c + 35)) := by
  obtain ⟨N, X, hc, ha⟩ := hc
  have h0 := ht.1
  have hs8 : 1 ≤ s ∧ s ≤ 8 := by omega
  have hw := where_rg r z s
  have n0 : r 0 = (nT r : Int) := by unfold nT; omega
  have h1 := hg.k.1
  have hlu := hg.k.lu
  refine en_X0_putUp (b_X0_putUp_0 hc.rt (hc.tt ha h0.1).n0 (fun w => ?_) (fun w => ?_))
  · have h24 : r 0 < 24 := by have := (iN_lt (by omega)).mp w; omega
    refine b_X0_putUp_14 hc.o (s_takeSite hc ha hg h0 hN.1 hz hs) (fun v h2 hv => ?_)
    obtain ⟨rfl, ⟨N1, X1, hc1, ha1⟩, o1⟩ := hv
    have hp := pitchOn_ok hg hz hs8
    have plo : ∀ c, c < 106 → c ≠ 1 → c ≠ 2 → c ≠ 5 → pitchOn r z s c = r c := fun c q1 q2 q3 q4 => pitchOn_lo hg q1 q2 q3 q4
    have e0 : pitchOn r z s 0 = r 0 := plo 0 (by omega) (by omega) (by omega) (by omega)
    have eT : nT (pitchOn r z s) = nT r := by unfold nT; rw [e0]
    by_cases w3 : whereIn r z s = 3
    · have e : tsV r z s = -1 := by unfold tsV; rw [if_pos w3]
      rw [e]
      refine b_X0_putUp_20 (fun w => absurd rfl w) (fun _ => ?_)
      refine b_X0_putUp_26 (rI ⟨?_, ?_, o1⟩)
      · unfold puV; rw [if_neg (by omega)]
      · unfold puR; rw [if_neg (by omega)]
        rw [pitchOn_3 w3] at ha1
        exact ⟨N1, X1, hc1, ha1⟩
    obtain ⟨f1, f2, f3, f4⟩ := pF_sp hg w3 hz hs8
    rw [pF_ts hg w3] at f1 f2 f3
    have hp1 := hp.k.1
    have hl9 : tsV r z s ≠ -1 := by omega
    refine b_X0_putUp_20 (fun _ => ?_) (fun w => absurd ((iN_eq (by omega)).mp w) hl9)
    have ht1 := hc1.tt ha1 (by rw [e0]; exact h0.1)
    rw [eT] at ht1
    have ht24 : (nT r : Int) < 24 := by omega
    refine b_X0_putUp_28 hc1.rt ht1.n0 hc1.rt ht1.f1 ht1.2.1.o (s_put ht1.2.1 (z := (nT r : Int)) (by omega) (by omega)) (fun h3 e3 => ?_)
    have ht3 : tents h3 (c + 3) (nT r) (up (X1 1) (nT r) (tsV r z s)) (X1 2) (X1 3) (X1 4) := by rw [e3, Int.toNat_natCast]; exact ht1.w1 _
    have o3 : Off h2 h3 (c + 3) (c + 12) := Off.eqw e3 (c + 3) (c + 12)
    have hc3 := hc1.wt ht3 o3
    have hu3 := (hc1.uu ha1 hp).off o3
    have efX : X1 10 (tsV r z s).toNat = pitchV r z s + z := by
      rw [(ha1.2.2.2.2.1 (tsV r z s).toNat (by omega)).2.2.2, f3]
    refine b_X0_putUp_50 hc3.rt ht3.f2 hc3.ru hu3.f4 hu3.2.2.2.2.o (s_get hu3.2.2.2.2 (z := tsV r z s) (by omega) (by omega)) (fun v h4 hv => ?_)
    obtain ⟨rfl, rfl⟩ := hv
    rw [efX]
    refine b_X0_putUp_70 ht3.2.2.1.o (s_put ht3.2.2.1 (z := (nT r : Int)) (by omega) (by omega)) (fun h5 e5 => ?_)
    rw [show pitchV r z s + z - z = pitchV r z s by omega, Int.toNat_natCast] at e5
    have ht5 : tents h5 (c + 3) (nT r) (up (X1 1) (nT r) (tsV r z s)) (up (X1 2) (nT r) (pitchV r z s)) (X1 3) (X1 4) := by rw [e5]; exact ht3.w2 _
    have o5 : Off h4 h5 (c + 3) (c + 12) := Off.eqw e5 (c + 3) (c + 12)
    have hc5 := hc3.wt ht5 o5
    refine b_X0_putUp_75 hc5.rt ht5.f3 ht5.2.2.2.1.o (s_put ht5.2.2.2.1 (z := (nT r : Int)) (by omega) (by omega)) (fun h6 e6 => ?_)
    rw [Int.toNat_natCast] at e6
    have ht6 : tents h6 (c + 3) (nT r) (up (X1 1) (nT r) (tsV r z s)) (up (X1 2) (nT r) (pitchV r z s)) (up (X1 3) (nT r) z) (X1 4) := by rw [e6]; exact ht5.w3 _
    have o6 : Off h5 h6 (c + 3) (c + 12) := Off.eqw e6 (c + 3) (c + 12)
    have hc6 := hc5.wt ht6 o6
    refine b_X0_putUp_88 hc6.rt ht6.f4 ht6.2.2.2.2.o (s_put ht6.2.2.2.2 (z := (nT r : Int)) (by omega) (by omega)) (fun h7 e7 => ?_)
    rw [Int.toNat_natCast] at e7
    have ht7 : tents h7 (c + 3) (nT r) (up (X1 1) (nT r) (tsV r z s)) (up (X1 2) (nT r) (pitchV r z s)) (up (X1 3) (nT r) z) (up (X1 4) (nT r) s) := by rw [e7]; exact ht6.w4 _
    have o7 : Off h6 h7 (c + 3) (c + 12) := Off.eqw e7 (c + 3) (c + 12)
    have hc7 := hc6.wt ht7 o7
    have ht8 := ht7.setc ((nT r : Int) + 1)
    have o8 : Off h7 (stf h7 (c + 3) 0 (.int (iN ((nT r : Int) + 1)))) (c + 3) (c + 12) := Off.ofs.up _ _
    have hc8 := hc7.wt ht8 o8
    have ht8' : tents (stf h7 (c + 3) 0 (.int (iN ((nT r : Int) + 1)))) (c + 3) ((nT r + 1 : Nat) : Int) (up (X1 1) (nT r) (tsV r z s)) (up (X1 2) (nT r) (pitchV r z s)) (up (X1 3) (nT r) z) (up (X1 4) (nT r) s) := by
      rw [show ((nT r + 1 : Nat) : Int) = (nT r : Int) + 1 by omega]; exact ht8
    have eSum : smf (up (X1 3) (nT r) z) 0 (nT r + 1) = tentP r + z := by
      rw [smf_0]
      simp only [sm]
      rw [up_same]
      unfold tentP
      congr 1
      exact sm_congr (fun t q => by
        rw [up_ne _ _ (by omega), (ha1.2.2.1 t (by omega)).2.2.1]
        exact plo _ (by omega) (by omega) (by omega) (by omega))
    have n8 : N1 4 = r 4 := ha1.nums.2.2.2.2.1.trans (plo 4 (by omega) (by omega) (by omega) (by omega))
    refine b_X0_putUp_101 hc7.rt ht7.n0 ht7.n0 (hc8.n4.ev n8) hc8.rt ht8.o (s_placesFrom (nT r + 1) 0 ht8' (by omega) (by omega)) (fun v h9 hv => ?_)
    obtain ⟨rfl, rfl⟩ := hv
    rw [eSum]
    have hsum := sm_rg (g := fun t => r (12 + 4 * t)) (B := 40) (by omega) (n := nT r) (fun t q => by have := (ht.2 t q).2.2.1; omega)
    have hsum2 : 0 ≤ tentP r ∧ tentP r ≤ 1000 := by unfold tentP; omega
    have hN4 := hN.2.2
    have E4 : (if iN (r 4) < iN (tentP r + z) then tentP r + z else r 4) = pitchIn r z s 4 := by
      rw [pitchIn_4 hg ⟨h0.1, h24⟩]
      by_cases q : r 4 < tentP r + z
      · rw [if_pos ((iN_lt (by omega)).mpr q), if_pos q]
      · rw [if_neg (fun y => q ((iN_lt (by omega)).mp y)), if_neg q]
    have hc9 := hc8.setn 4 (if iN (r 4) < iN (tentP r + z) then tentP r + z else r 4)
    have hpa := p_all2 hg hz hs8
    have hpp := hp.k.ap
    have hN5 := hN.2.1
    have hap := hg.k.ap
    have E5 : (if iN (r 5) < iN (allP (pitchOn r z s)) then allP (pitchOn r z s) else r 5) = pitchIn r z s 5 := by
      rw [pitchIn_c hg (by omega) (by omega) (by omega), p_5 hg hN5.1 hz hs8]
      by_cases q : r 5 < allP (pitchOn r z s)
      · rw [if_pos ((iN_lt (by omega)).mpr q), if_pos q]
      · rw [if_neg (fun y => q ((iN_lt (by omega)).mp y)), if_neg q]
    have hc10 := hc9.setn 5 (if iN (r 5) < iN (allP (pitchOn r z s)) then allP (pitchOn r z s) else r 5)
    refine b_X0_putUp_127 hc8.n4 (hc9.n5.ev (y := r 5) ha1.nums.2.2.2.2.2.1) (hc9.n6.ev (y := allP (pitchOn r z s)) ha1.nums.2.2.2.2.2.2.1) hc9.n5 (rI ⟨?_, ⟨_, _, hc10, ?_⟩, ?_⟩)
    · unfold puV; rw [if_pos ⟨h24, w3⟩, n0]
    · obtain ⟨q0, qf, qp, qz, qs⟩ := pitchIn_t (z := z) (s := s) hg
      have pc : ∀ c, c ≠ 0 → c ≠ 4 → (c < 10 + 4 * nT r ∨ 14 + 4 * nT r ≤ c) → pitchIn r z s c = pitchOn r z s c := fun c q1 q2 q3 => pitchIn_c hg q1 q2 q3
      obtain ⟨⟨b0, b1, b2, b3, b4, b5, b6, b7, b8, b9, b10⟩, bv, bt, bf, bu, bs⟩ := ha1
      have eA := pitchIn_allP (z := z) (s := s) hg ⟨h0.1, h24⟩
      have eR : puR r z s = pitchIn r z s := by unfold puR; rw [if_pos ⟨h24, w3⟩]
      rw [eR]
      refine ⟨⟨?_, b1, ?_, ?_, E4, E5, ?_, ?_, ?_, ?_, ?_⟩, fun j hj => ?_, fun t q => ?_, fun i hi => ?_, fun f hf => ?_, fun i hi => ?_⟩
      · rw [pc 7 (by omega) (by omega) (by omega)]; exact b0
      · rw [pc 9 (by omega) (by omega) (by omega)]; exact b2
      · rw [pc 6 (by omega) (by omega) (by omega)]; exact b3
      · rw [eA]; exact b6
      · show (nT r : Int) + 1 = _; rw [q0]; omega
      · rw [pc 3 (by omega) (by omega) (by omega)]; exact b8
      · rw [pc 1 (by omega) (by omega) (by omega)]; exact b9
      · rw [pc 2 (by omega) (by omega) (by omega)]; exact b10
      · rw [eA] at hj; rw [pc _ (by omega) (by omega) (by omega)]; exact bv j hj
      · show up (X1 1) _ _ t = _ ∧ up (X1 2) _ _ t = _ ∧ up (X1 3) _ _ t = _ ∧ up (X1 4) _ _ t = _
        by_cases q9 : t = nT r
        · rw [q9, up_same, up_same, up_same, up_same, qf, qp, qz, qs, pF_ts hg w3]
          exact ⟨rfl, rfl, rfl, rfl⟩
        · rw [q0] at q
          rw [up_ne _ _ q9, up_ne _ _ q9, up_ne _ _ q9, up_ne _ _ q9, pc _ (by omega) (by omega) (by omega), pc _ (by omega) (by omega) (by omega), pc _ (by omega) (by omega) (by omega), pc _ (by omega) (by omega) (by omega)]
          exact bt t (by omega)
      · rw [pc 3 (by omega) (by omega) (by omega)] at hi
        rw [pc _ (by omega) (by omega) (by omega), pc _ (by omega) (by omega) (by omega)]; exact bf i hi
      · rw [pc 1 (by omega) (by omega) (by omega)] at hf
        rw [pc _ (by omega) (by omega) (by omega), pc _ (by omega) (by omega) (by omega), pc _ (by omega) (by omega) (by omega), pc _ (by omega) (by omega) (by omega)]; exact bu f hf
      · rw [pc 2 (by omega) (by omega) (by omega)] at hi
        rw [pc _ (by omega) (by omega) (by omega), pc _ (by omega) (by omega) (by omega)]; exact bs i hi
    · have a1 := (((o1.tr o3 c (c + 35)).tr o5 c (c + 35)).tr o6 c (c + 35)).tr o7 c (c + 35)
      exact ((a1.tr o8 c (c + 35)).tr (Off.ofs (a := c)) c (c + 35)).tr (Off.ofs (a := c)) c (c + 35)
  · have h24 : ¬ r 0 < 24 := fun q => w ((iN_lt (by omega)).mpr (by omega))
    refine b_X0_putUp_12 (rI ⟨?_, ?_, Off.rf⟩)
    · unfold puV; rw [if_neg (by omega)]
    · unfold puR; rw [if_neg (by omega)]; exact ⟨N, X, hc, ha⟩
theorem cnt_cg {f g : Nat → Int} {v : Int} {p p' : Nat} : ∀ {n : Nat}, (∀ i, i < n → f (p + i) = g (p' + i)) → cnt f v p n = cnt g v p' n
  | 0, _ => rfl
  | n + 1, h => by
    simp only [cnt]
    rw [cnt_cg (fun i hi => h i (by omega)), h n (by omega)]
theorem upX_same (X : Nat → Nat → Int) (j : Nat) (g : Nat → Int) : upX X j g j = g := if_pos rfl
/-- poison of a tent is counted, then all its places get v -/
theorem s_strewT (hc : campX h c N X) (ha : Agr k m N X r) (hg : okG r) (ht : okT r) (hv : okV r) {t : Nat} (ht1 : t < nT r) (v : Int) : CtI mX0_strewTent 2 0 0 [.ref c, .int (iN t), .int (iN v)] h (fun w h' => w = fillV r t ∧ campX h' c N (upX X 0 (strw (X 0) v (frm r t - 434) (frm r t - 434 + (r (12 + 4 * t)).toNat))) ∧ Off h h' c (c + 35)) := by
  have h0 := ht.1
  have n0 : r 0 = (nT r : Int) := by unfold nT; omega
  have h1 := hg.k.1
  have tt := ht.2 t ht1
  obtain ⟨f1, f2, f3, f4, f5⟩ := tnt.fm hg tt
  have hap := hg.1.2.2.2
  have hap2 := hg.k.ap
  have hz := tt.2.2.1
  have hb := tt.1
  have hn := hg.n
  have atx := ha.2.2.1 t (by omega)
  have hT := hc.tt ha h0.1
  have hU := hc.uu ha hg
  have t24 : (t : Int) < 24 := by omega
  refine en_X0_strewTent (b_X0_strewTent_0 hc.rt hT.o (s_thas hT (x := (t : Int)) (by omega) (by omega)) (fun w h2 hv => ?_))
  obtain ⟨rfl, rfl⟩ := hv
  rw [decide_eq_true (by omega)]
  refine b_X0_strewTent_8 (fun _ => ?_) (fun w => absurd w (by decide))
  refine b_X0_strewTent_13 hc.ru hU.f1 hc.rt hT.f1 hT.2.1.o (s_get hT.2.1 (z := (t : Int)) (by omega) (by omega)) (fun w h3 hv => ?_)
  obtain ⟨rfl, rfl⟩ := hv
  rw [Int.toNat_natCast, atx.1]
  refine b_X0_strewTent_31 hU.2.1.o (s_get hU.2.1 (z := r (10 + 4 * t)) (by omega) (by omega)) (fun w h3 hv => ?_)
  obtain ⟨rfl, rfl⟩ := hv
  rw [(ha.2.2.2.2.1 (r (10 + 4 * t)).toNat (by omega)).1]
  refine b_X0_strewTent_34 hc.rt hT.f2 hT.2.2.1.o (s_get hT.2.2.1 (z := (t : Int)) (by omega) (by omega)) (fun w h3 hv => ?_)
  obtain ⟨rfl, rfl⟩ := hv
  rw [Int.toNat_natCast, atx.2.1]
  refine b_X0_strewTent_47 hc.rt hT.o (s_end hT (x := (t : Int)) (by omega)) (fun w h3 hv => ?_)
  obtain ⟨rfl, rfl⟩ := hv
  rw [Int.toNat_natCast, atx.2.1, atx.2.2.1]
  generalize hp : frm r t - 434 = p
  have e1 : r (109 + 4 * (r (10 + 4 * t)).toNat) + r (11 + 4 * t) = (p : Int) := by omega
  have e2 : r (109 + 4 * (r (10 + 4 * t)).toNat) + (r (11 + 4 * t) + r (12 + 4 * t)) = ((p + (r (12 + 4 * t)).toNat : Nat) : Int) := by omega
  rw [e1]
  refine b_X0_strewTent_59 hc.rv hc.v.o (by rw [e2]; exact s_countOf hc.v (by omega) (by omega) (by omega) (fun j j1 j2 => by
    rw [ha.2.1 j (by omega)]
    have := hv j (by omega); omega)) (fun w h3 hv => ?_)
  obtain ⟨rfl, rfl⟩ := hv
  rw [e2, show p + (r (12 + 4 * t)).toNat - p = (r (12 + 4 * t)).toNat by omega]
  refine b_X0_strewTent_75 hc.rv hc.v.o (s_strew hc.v (by omega) (by omega)) (fun h4 e4 => ?_)
  have o4 : Off h3 h4 (c + 1) (c + 3) := Off.eqw e4 (c + 1) (c + 3)
  refine b_X0_strewTent_89 (rI ⟨?_, hc.wv (by rw [e4]; exact hc.v.w _) o4, o4.up c (c + 35)⟩)
  unfold fillV
  refine cnt_cg (fun i hi => ?_)
  rw [ha.2.1 _ (by omega), show 434 + (p + i) = frm r t + i by omega]
theorem s_strewN (hc : campX h c N X) (ha : Agr k m N X r) (h0 : 0 ≤ r 0 ∧ r 0 ≤ 24) {t : Int} (hr : -2147483648 ≤ t ∧ t < 2147483648) (ht1 : ¬ (0 ≤ t ∧ t < r 0)) (v : Int) : CtI mX0_strewTent 2 0 0 [.ref c, .int (iN t), .int (iN v)] h (fun w h' => w = -1 ∧ h' = h) := by
  have hT := hc.tt ha h0.1
  have n0 : r 0 = (nT r : Int) := by unfold nT; omega
  refine en_X0_strewTent (b_X0_strewTent_0 hc.rt hT.o (s_thas hT (x := t) hr (by omega)) (fun w h2 hv => ?_))
  obtain ⟨rfl, rfl⟩ := hv
  rw [decide_eq_false (by omega)]
  refine b_X0_strewTent_8 (fun w => absurd rfl w) (fun _ => ?_)
  exact b_X0_strewTent_11 (rI ⟨rfl, rfl⟩)
theorem fill_Agr (ha : Agr k m N X r) (hg : okG r) (ht : okT r) (h3 : r 3 ≤ 8) {t : Nat} (ht1 : t < nT r) (v : Int) : Agr k m N (upX X 0 (strw (X 0) v (frm r t - 434) (frm r t - 434 + (r (12 + 4 * t)).toNat))) (fillIn r t v) ∧ okG (fillIn r t v) ∧ allP (fillIn r t v) = allP r := by
  have h0 := ht.1
  have hn := hg.n
  have tt := ht.2 t ht1
  obtain ⟨f1, f2, f3, f4, f5⟩ := tnt.fm hg tt
  have L : ∀ c, c < 434 → fillIn r t v c = r c := fun c hc => fillIn_lo hc
  obtain ⟨g1, g2⟩ := hg.cg (g := fillIn r t v) (L _ (by omega)) (L _ (by omega)) (L _ (by omega)) (fun c _ q _ => L c (by omega)) (fun f hf => by rw [L _ (by omega)]; exact (hg.2.1 f hf).2)
  obtain ⟨⟨b0, b1, b2, b3, b4, b5, b6, b7, b8, b9, b10⟩, bv, bt, bf, bu, bs⟩ := ha
  have h1 := hg.k.1
  have h2 := hg.k.2.1
  refine ⟨⟨⟨?_, b1, ?_, ?_, ?_, b5, ?_, ?_, ?_, ?_, ?_⟩, fun j hj => ?_, fun t q => ?_, fun i hi => ?_, fun f hf => ?_, fun i hi => ?_⟩, g1, g2⟩
  · rw [L 7 (by omega)]; exact b0
  · rw [L 9 (by omega)]; exact b2
  · rw [L 6 (by omega)]; exact b3
  · rw [L 4 (by omega)]; exact b4
  · rw [g2]; exact b6
  · rw [L 0 (by omega)]; exact b7
  · rw [L 3 (by omega)]; exact b8
  · rw [L 1 (by omega)]; exact b9
  · rw [L 2 (by omega)]; exact b10
  · rw [g2] at hj
    rw [upX_same]
    unfold fillIn strw
    by_cases q : frm r t - 434 ≤ j ∧ j < frm r t - 434 + (r (12 + 4 * t)).toNat
    · rw [if_pos q, if_pos (by omega)]
    · rw [if_neg q, if_neg (by omega)]; exact bv j hj
  · rw [L 0 (by omega)] at q
    rw [L _ (by omega), L _ (by omega), L _ (by omega), L _ (by omega)]; exact bt t q
  · rw [L 3 (by omega)] at hi
    rw [L _ (by omega), L _ (by omega)]; exact bf i hi
  · rw [L 1 (by omega)] at hf
    rw [L _ (by omega), L _ (by omega), L _ (by omega), L _ (by omega)]; exact bu f hf
  · rw [L 2 (by omega)] at hi
    rw [L _ (by omega), L _ (by omega)]; exact bs i hi
end PUT2
