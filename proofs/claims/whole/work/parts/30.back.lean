/-! striking behind a frame, in the class -/
section BACK
variable {h : AH} {c : Nat} {N : Nat → Int} {X : Nat → Nat → Int} {k m : Int} {r : Nat → Int}
/-- a place of one of the tents a to b -/
def cov (r : Nat → Int) (a b j : Nat) : Prop := ∃ t, a ≤ t ∧ t < b ∧ frm r t ≤ j ∧ j < frm r t + (r (12 + 4 * t)).toNat
theorem frm_cg {g : Nat → Int} {t : Nat} (h : ∀ c, 7 ≤ c → c < 434 → g c = r c) (ht : t < 24) (hf : (r (10 + 4 * t)).toNat < 52) : frm g t = frm r t ∧ g (12 + 4 * t) = r (12 + 4 * t) := by
  unfold frm
  rw [h (10 + 4 * t) (by omega) (by omega), h (109 + 4 * _) (by omega) (by omega), h (11 + 4 * t) (by omega) (by omega), h (12 + 4 * t) (by omega) (by omega)]
  exact ⟨rfl, rfl⟩
theorem cov_cg {g : Nat → Int} {a b j : Nat} (h : ∀ c, 7 ≤ c → c < 434 → g c = r c) (hb : b ≤ 24) (hf : ∀ t, t < b → (r (10 + 4 * t)).toNat < 52) : cov g a b j ↔ cov r a b j := by
  unfold cov
  constructor
  · rintro ⟨t, h1, h2, h3⟩
    have := frm_cg h (t := t) (by omega) (hf t h2)
    rw [this.1, this.2] at h3
    exact ⟨t, h1, h2, h3⟩
  · rintro ⟨t, h1, h2, h3⟩
    have := frm_cg h (t := t) (by omega) (hf t h2)
    refine ⟨t, h1, h2, ?_⟩
    rw [this.1, this.2]; exact h3
theorem okT.f52 (hg : okG r) (ht : okT r) : ∀ t, t < nT r → (r (10 + 4 * t)).toNat < 52 := by
  intro t h1
  have := (tnt.fm hg (ht.2 t h1)).2.2.2.2
  have := hg.n; omega
theorem strks_vals : ∀ (k : Nat) {r : Nat → Int}, okG r → okT r → (k : Int) ≤ r 0 → ∀ c, 434 ≤ c → (r 9 = 1 → cov r (nT r - k) (nT r) c → strks k r c = 100) ∧ ((r 9 ≠ 1 ∨ ¬ cov r (nT r - k) (nT r) c) → strks k r c = r c)
  | 0, r, _, _, _, c, _ => ⟨fun _ ⟨t, h1, h2, _⟩ => by omega, fun _ => rfl⟩
  | k + 1, r, hg, ht, h0, c, hc => by
    have n0 : r 0 = (nT r : Int) := by have := ht.1; unfold nT; omega
    have h24 : nT r ≤ 24 := by have := ht.1; omega
    obtain ⟨o1, o2, o3⟩ := strk_ok hg ht (by omega)
    have L : ∀ c, 7 ≤ c → c < 434 → strk r c = r c := fun c h1 h2 => by rw [strk_lo h2, if_neg (by omega), if_neg (by omega)]
    have e0 : strk r 0 = r 0 - 1 := by rw [strk_lo (by omega), if_neg (by omega), if_pos rfl]
    have eT : nT (strk r) = nT r - 1 := by unfold nT; rw [e0]; omega
    have ih := strks_vals k o1 o2 (by omega) c hc
    rw [L 9 (by omega) (by omega), eT, show nT r - 1 - k = nT r - (k + 1) by omega] at ih
    rw [cov_cg L (by omega) (fun t h => okT.f52 hg ht t (by omega))] at ih
    show (r 9 = 1 → _ → strks k (strk r) c = 100) ∧ (_ → strks k (strk r) c = _)
    have eh : strk r c = (if r 9 = 1 then fillIn r (nT r - 1) 100 else r) c := strk_hi hc
    have sp : cov r (nT r - (k + 1)) (nT r) c ↔ cov r (nT r - (k + 1)) (nT r - 1) c ∨ (frm r (nT r - 1) ≤ c ∧ c < frm r (nT r - 1) + (r (12 + 4 * (nT r - 1))).toNat) := by
      unfold cov
      constructor
      · rintro ⟨t, h1, h2, h3⟩
        by_cases q : t = nT r - 1
        · right; rw [← q]; exact h3
        · left; exact ⟨t, h1, by omega, h3⟩
      · rintro (⟨t, h1, h2, h3⟩ | h3)
        · exact ⟨t, h1, by omega, h3⟩
        · exact ⟨nT r - 1, by omega, by omega, h3⟩
    constructor
    · intro h9 hcv
      by_cases q : cov r (nT r - (k + 1)) (nT r - 1) c
      · exact ih.1 h9 q
      · rw [ih.2 (Or.inr q), eh, if_pos h9]
        have := (sp.mp hcv).resolve_left q
        exact strw_in _ _ _ _ this
    · intro hn
      rw [ih.2 (by
        rcases hn with q | q
        · exact Or.inl q
        · exact Or.inr (fun z => q (sp.mpr (Or.inl z)))), eh]
      rcases hn with q | q
      · rw [if_neg q]
      · by_cases h9 : r 9 = 1
        · rw [if_pos h9]
          refine strw_out _ _ _ _ ?_
          have : ¬ (frm r (nT r - 1) ≤ c ∧ c < frm r (nT r - 1) + (r (12 + 4 * (nT r - 1))).toNat) := fun z => q (sp.mpr (Or.inr z))
          omega
        · rw [if_neg h9]
/-- tents from T on get poison, one by one -/
def fills (r : Nat → Int) (T : Nat) : Nat → Nat → Int
  | 0 => r
  | i + 1 => fillIn (fills r T i) (T + i) 100
theorem fills_lo {T : Nat} : ∀ {i c : Nat}, c < 434 → fills r T i c = r c
  | 0, _, _ => rfl
  | i + 1, c, h => by
    show fillIn (fills r T i) (T + i) 100 c = _
    rw [fillIn_lo h]; exact fills_lo h
theorem fills_vals {T : Nat} (hg : okG r) (ht : okT r) : ∀ i : Nat, T + i ≤ nT r → ∀ c, 434 ≤ c → (cov r T (T + i) c → fills r T i c = 100) ∧ (¬ cov r T (T + i) c → fills r T i c = r c)
  | 0, _, c, _ => ⟨fun ⟨t, h1, h2, _⟩ => by omega, fun _ => rfl⟩
  | i + 1, hi, c, hc => by
    have ih := fills_vals (T := T) hg ht i (by omega) c hc
    have h24 : nT r ≤ 24 := by have := ht.1; unfold nT; omega
    obtain ⟨f1, f2⟩ := frm_cg (r := r) (g := fills r T i) (t := T + i) (fun c _ h => fills_lo h) (by omega) (okT.f52 hg ht _ (by omega))
    have sp : cov r T (T + (i + 1)) c ↔ cov r T (T + i) c ∨ (frm r (T + i) ≤ c ∧ c < frm r (T + i) + (r (12 + 4 * (T + i))).toNat) := by
      unfold cov
      constructor
      · rintro ⟨t, h1, h2, h3⟩
        by_cases q : t = T + i
        · right; rw [← q]; exact h3
        · left; exact ⟨t, h1, by omega, h3⟩
      · rintro (⟨t, h1, h2, h3⟩ | h3)
        · exact ⟨t, h1, by omega, h3⟩
        · exact ⟨T + i, by omega, by omega, h3⟩
    show (_ → fillIn (fills r T i) (T + i) 100 c = 100) ∧ (_ → fillIn (fills r T i) (T + i) 100 c = r c)
    unfold fillIn
    rw [f1, f2]
    by_cases q : frm r (T + i) ≤ c ∧ c < frm r (T + i) + (r (12 + 4 * (T + i))).toNat
    · rw [strw_in _ _ _ _ q]
      exact ⟨fun _ => rfl, fun z => absurd (sp.mpr (Or.inr q)) z⟩
    · rw [strw_out _ _ _ _ (by omega)]
      exact ⟨fun z => ih.1 ((sp.mp z).resolve_right q), fun z => ih.2 (fun y => z (sp.mpr (Or.inl y)))⟩
theorem fill_ok (hg : okG r) (ht : okT r) (hv : okV r) {t : Nat} {v : Int} (hv1 : 0 ≤ v ∧ v ≤ 100) : okG (fillIn r t v) ∧ okT (fillIn r t v) ∧ okV (fillIn r t v) := by
  have L : ∀ c, c < 434 → fillIn r t v c = r c := fun c hc => fillIn_lo hc
  have hn := hg.n
  obtain ⟨g1, g2⟩ := hg.cg (g := fillIn r t v) (L _ (by omega)) (L _ (by omega)) (L _ (by omega)) (fun c _ q _ => L c (by omega)) (fun f hf => by rw [L _ (by omega)]; exact (hg.2.1 f hf).2)
  refine ⟨g1, ⟨by rw [L 0 (by omega)]; exact ht.1, fun u hu => ?_⟩, fun j hj => ?_⟩
  · have h0 := ht.1
    unfold nT at hu; rw [L 0 (by omega)] at hu
    have tu := ht.2 u hu
    have hfm := tnt.fm hg tu
    exact tu.cg (by rw [L 1 (by omega)]; exact tu.1.2) (fun c _ _ => L c (by omega)) (L _ (by omega))
  · have := hv j hj
    unfold fillIn strw
    split <;> omega
theorem s_strikeTents (hc : campX h c N X) (ha : Agr k m N X r) (hg : okG r) (ht : okT r) (hv : okV r) (h3 : 0 ≤ r 3 ∧ r 3 ≤ 8) (h9 : r 9 = 0 ∨ r 9 = 1) {T : Nat} (hT : T ≤ nT r) : CtI mX0_strikeTents 3 0 0 [.ref c, .int (iN T)] h (fun v h' => v = r 0 - T ∧ (∃ N' X', campX h' c N' X' ∧ Agr k m N' X' (strks (nT r - T) r)) ∧ Off h h' c (c + 35)) := by
  have h0 := ht.1
  have n0 : r 0 = (nT r : Int) := by unfold nT; omega
  obtain ⟨s1, s2, s3, s4⟩ := strks_ok (nT r - T) hg ht (by omega)
  have sv := strks_vals (nT r - T) hg ht (by omega)
  rw [show nT r - (nT r - T) = T by omega] at sv
  have h1 := hg.k.1
  have h2 := hg.k.2.1
  have hap := hg.k.ap
  -- at the end
  have E : ∀ (h1 : AH) (N X) (r9 : Nat → Int), campX h1 c N X → Agr k m N X r9 → Off h h1 c (c + 35) → (∀ c, c < 434 → r9 c = r c) → allP r9 = allP r → (∀ c, 434 ≤ c → r9 c = strks (nT r - T) r c) → AW mX0_strikeTents 3 0 0 45 [.ref c, .int (iN T), .int (iN (r 0 - T)), vU] [] h1 (qI fun v h' => v = r 0 - T ∧ (∃ N' X', campX h' c N' X' ∧ Agr k m N' X' (strks (nT r - T) r)) ∧ Off h h' c (c + 35)) := by
    intro h1 N X r9 hc ha o1 lo eA hi
    obtain ⟨⟨b0, b1, b2, b3, b4, b5, b6, b7, b8, b9, b10⟩, bv, bt, bf, bu, bs⟩ := ha
    have ht9 := hc.t.setc (T : Int)
    have o2 : Off h1 (stf h1 (c + 3) 0 (.int (iN (T : Int)))) (c + 3) (c + 12) := Off.ofs.up _ _
    have hc2 := hc.wt ht9 o2
    have hc3 := hc2.setn 3 (r 6 + (r 0 - T))
    have e3 : N 3 = r 6 := b3.trans (lo 6 (by omega))
    refine b_X0_strikeTents_45 hc.rt hc.t.n0 (hc2.n3.ev e3) hc2.n3 (rI ⟨rfl, ⟨_, _, hc3, ?_⟩, (o1.tr o2 c (c + 35)).tr (Off.ofs (a := c)) c (c + 35)⟩)
    have S : ∀ c, c < 434 → c ≠ 0 → c ≠ 6 → strks (nT r - T) r c = r9 c := fun c q1 q2 q3 => by rw [s4 c q1, if_neg q3, if_neg q2, lo c q1]
    have S0 : strks (nT r - T) r 0 = (T : Int) := by rw [s4 0 (by omega), if_neg (by omega), if_pos rfl]; omega
    have S6 : strks (nT r - T) r 6 = r 6 + (r 0 - T) := by rw [s4 6 (by omega), if_pos rfl]; omega
    refine ⟨⟨?_, b1, ?_, S6.symm, ?_, b5, ?_, S0.symm, ?_, ?_, ?_⟩, fun j hj => ?_, fun t q => ?_, fun i hi => ?_, fun f hf => ?_, fun i hi => ?_⟩
    · rw [S 7 (by omega) (by omega) (by omega)]; exact b0
    · rw [S 9 (by omega) (by omega) (by omega)]; exact b2
    · rw [S 4 (by omega) (by omega) (by omega)]; exact b4
    · rw [s3, ← eA]; exact b6
    · rw [S 3 (by omega) (by omega) (by omega)]; exact b8
    · rw [S 1 (by omega) (by omega) (by omega)]; exact b9
    · rw [S 2 (by omega) (by omega) (by omega)]; exact b10
    · rw [← hi _ (by omega)]; rw [s3, ← eA] at hj; exact bv j hj
    · rw [S0] at q
      rw [S _ (by omega) (by omega) (by omega), S _ (by omega) (by omega) (by omega), S _ (by omega) (by omega) (by omega), S _ (by omega) (by omega) (by omega)]
      exact bt t (by rw [lo 0 (by omega)]; omega)
    · rw [S 3 (by omega) (by omega) (by omega)] at hi
      have := lo 3 (by omega)
      rw [S _ (by omega) (by omega) (by omega), S _ (by omega) (by omega) (by omega)]; exact bf i hi
    · rw [S 1 (by omega) (by omega) (by omega)] at hf
      have := lo 1 (by omega)
      rw [S _ (by omega) (by omega) (by omega), S _ (by omega) (by omega) (by omega), S _ (by omega) (by omega) (by omega), S _ (by omega) (by omega) (by omega)]; exact bu f hf
    · rw [S 2 (by omega) (by omega) (by omega)] at hi
      have := lo 2 (by omega)
      rw [S _ (by omega) (by omega) (by omega), S _ (by omega) (by omega) (by omega)]; exact bs i hi
  -- the loop
  have H : ∀ (n i : Nat) (h1 : AH) (X : Nat → Nat → Int), r 9 = 1 → T + i + n = nT r → campX h1 c N X → Agr k m N X (fills r T i) → okG (fills r T i) → okT (fills r T i) → okV (fills r T i) → allP (fills r T i) = allP r → Off h h1 c (c + 35) → AW mX0_strikeTents 3 0 0 20 [.ref c, .int (iN T), .int (iN (r 0 - T)), .int (iN ((T + i : Nat) : Int))] [] h1 (qI fun v h' => v = r 0 - T ∧ (∃ N' X', campX h' c N' X' ∧ Agr k m N' X' (strks (nT r - T) r)) ∧ Off h h' c (c + 35)) := by
    intro n
    induction n with
    | zero =>
      intro i h1 X h91 hi hc ha og ot ov eA o1
      have hT9 := hc.tt ha (by rw [fills_lo (by omega)]; exact h0.1)
      have eT : nT (fills r T i) = nT r := by unfold nT; rw [fills_lo (by omega)]
      rw [eT] at hT9
      refine b_X0_strikeTents_20 hc.rt hT9.n0 (fun _ => ?_) (fun w => absurd ((iN_le (by omega)).mpr (by omega)) w)
      refine E h1 N X _ hc ha o1 (fun c q => fills_lo q) eA (fun c q => ?_)
      have f := fills_vals (T := T) hg ht i (by omega) c q
      rw [show T + i = nT r by omega] at f
      by_cases q9 : cov r T (nT r) c
      · rw [f.1 q9, (sv c q).1 h91 q9]
      · rw [f.2 q9, (sv c q).2 (Or.inr q9)]
    | succ n ih =>
      intro i h1 X h91 hi hc ha og ot ov eA o1
      have hT9 := hc.tt ha (by rw [fills_lo (by omega)]; exact h0.1)
      have eT : nT (fills r T i) = nT r := by unfold nT; rw [fills_lo (by omega)]
      rw [eT] at hT9
      refine b_X0_strikeTents_20 hc.rt hT9.n0 (fun w => ?_) (fun _ => ?_)
      · have := (iN_le (by omega)).mp w; omega
      refine b_X0_strikeTents_31 hc.o (s_strewT hc ha og ot ov (t := T + i) (by rw [eT]; omega) 100) (fun v h2 hv => ?_)
      obtain ⟨-, hc2, o2⟩ := hv
      refine b_X0_strikeTents_38 ?_
      have e : (((T + i : Nat) : Int) + 1) = ((T + (i + 1) : Nat) : Int) := by omega
      rw [e]
      obtain ⟨p1, p2, p3⟩ := fill_Agr ha og ot (by rw [fills_lo (by omega)]; exact h3.2) (t := T + i) (by rw [eT]; omega) 100
      obtain ⟨q1, q2, q3⟩ := fill_ok (t := T + i) (v := 100) og ot ov (by omega)
      exact ih (i + 1) h2 _ h91 (by omega) hc2 p1 q1 q2 q3 (p3.trans eA) (o1.tr o2 c (c + 35))
  refine en_X0_strikeTents (b_X0_strikeTents_0 hc.rt (hc.tt ha h0.1).n0 (hc.n2.ev ha.nums.2.2.1) (fun w => ?_) (fun w => ?_))
  · rw [← n0]
    have h90 : r 9 ≠ 1 := fun z => w (by rw [z])
    refine E h N X r hc ha Off.rf (fun _ _ => rfl) rfl (fun c q => ?_)
    rw [(sv c q).2 (Or.inl h90)]
  · rw [← n0]
    have h91 : r 9 = 1 := (iN_eq (by omega)).mp w
    refine b_X0_strikeTents_18 ?_
    exact H (nT r - T) 0 h X h91 (by omega) hc ha hg ht hv rfl Off.rf
end BACK
