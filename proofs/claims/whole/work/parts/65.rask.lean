/-! the reference's public methods -/
section RASK
variable {h h' : AH} {m n l : Nat} {r r' s : Nat → Int} {D K : Nat → Nat → Int} {b : Nat → Bool} {rf : Int}
theorem RW.mb (w : RW h m r n D l s b K rf) : ∃ sp gd lf, mob h m rf l sp gd lf n := w.1
theorem RW.o (w : RW h m r n D l s b K rf) : isO h m 9 := by
  obtain ⟨sp, gd, lf, hm⟩ := w.1; exact hm.o
theorem RW.r7 (w : RW h m r n D l s b K rf) : fld h m 9 7 (.ref (m + 3)) := by
  obtain ⟨sp, gd, lf, hm⟩ := w.1; exact hm.r7
theorem RW.r8 (w : RW h m r n D l s b K rf) : fld h m 9 8 (.ref (m + 4)) := by
  obtain ⟨sp, gd, lf, hm⟩ := w.1; exact hm.r8
theorem RW.nw (w : RW h m r n D l s b K rf) : ari h (m + 3) 690 r := w.2.2.2.1
theorem RW.ref (w : RW h m r n D l s b K rf) (v : Int) : RW (stf h m 0 (.int (iN v))) m r n D l s b K v ∧ Off h (stf h m 0 (.int (iN v))) m (m + 8) := by
  obtain ⟨⟨sp, gd, lf, hm⟩, hs, ⟨rd, hrd⟩, hn, ⟨tr, htr⟩, ⟨d, hd, hD⟩, ⟨e, he, hK⟩, hb⟩ := w
  have o : Off h (stf h m 0 (.int (iN v))) m (m + 1) := Off.ofs
  exact ⟨⟨⟨sp, gd, lf, hm.s0 v⟩, (o.2 _ (by omega)).trans hs, ⟨rd, (o.2 _ (by omega)).trans hrd⟩, (o.2 _ (by omega)).trans hn, ⟨tr, (o.2 _ (by omega)).trans htr⟩, ⟨d, (o.2 _ (by omega)).trans hd, hD⟩, ⟨e, (o.2 _ (by omega)).trans he, hK⟩, hb.off o⟩, o.up m (m + 8)⟩
theorem RW.now (w : RW h m r n D l s b K rf) (ra : RA h (m + 3) r' h') : RW h' m r' n D l s b K rf ∧ Off h h' m (m + 8) := by
  obtain ⟨⟨sp, gd, lf, hm⟩, hs, ⟨rd, hrd⟩, hn, ⟨tr, htr⟩, ⟨d, hd, hD⟩, ⟨e, he, hK⟩, hb⟩ := w
  have o := ra.off (m + 3) (m + 4)
  exact ⟨⟨⟨sp, gd, lf, hm.off o⟩, (o.2 _ (by omega)).trans hs, ⟨rd, (o.2 _ (by omega)).trans hrd⟩, ra.a, ⟨tr, (o.2 _ (by omega)).trans htr⟩, ⟨d, (o.2 _ (by omega)).trans hd, hD⟩, ⟨e, (o.2 _ (by omega)).trans he, hK⟩, hb.off o⟩, o.up m (m + 8)⟩
theorem RW.tri (w : RW h m r n D l s b K rf) (ra : RA h (m + 4) r' h') : RW h' m r n D l s b K rf ∧ Off h h' m (m + 8) := by
  obtain ⟨⟨sp, gd, lf, hm⟩, hs, ⟨rd, hrd⟩, hn, ⟨tr, htr⟩, ⟨d, hd, hD⟩, ⟨e, he, hK⟩, hb⟩ := w
  have o := ra.off (m + 4) (m + 5)
  exact ⟨⟨⟨sp, gd, lf, hm.off o⟩, (o.2 _ (by omega)).trans hs, ⟨rd, (o.2 _ (by omega)).trans hrd⟩, (o.2 _ (by omega)).trans hn, ⟨r', ra.a⟩, ⟨d, (o.2 _ (by omega)).trans hd, hD⟩, ⟨e, (o.2 _ (by omega)).trans he, hK⟩, hb.off o⟩, o.up m (m + 8)⟩
theorem s_ref (w : RW h m r n D l s b K rf) {k : Int} (hk : 0 ≤ k ∧ k ≤ 10) : CtZ mX9_refused 0 0 0 [.ref m, .int (iN k)] h (fun v h' => v = decide (0 < k) ∧ RW h' m r n D l s b K k ∧ Off h h' m (m + 8)) := by
  obtain ⟨sp, gd, lf, hm⟩ := w.1
  refine Ct.mono (s_refused hm hk) (fun r9 h9 q => ?_)
  obtain ⟨v, e, q1, q2⟩ := q
  rw [q2]
  exact ⟨v, e, q1, w.ref k⟩
theorem w_rrem (w : RW h m r n D l s b K rf) (hn14 : n ≤ 14) : CtV mX9_remember 1 0 0 [.ref m] h (fun h' => RW h' m r (rmN n) (rmD r D) l s b K rf ∧ Off h h' m (m + 8)) := by
  obtain ⟨⟨sp, gd, lf, hm⟩, hs, ⟨rd, hrd⟩, hn, ⟨tr, htr⟩, ⟨d, hd, hD⟩, ⟨e, he, hK⟩, hb⟩ := w
  refine Ct.mono (s_remember hm hn hd hn14 hD) (fun r9 h9 q => ⟨q.1, ?_⟩)
  obtain ⟨-, k1, ⟨d', k2, k3⟩, k4, k5⟩ := q
  exact ⟨⟨⟨sp, gd, lf, k1⟩, (k5 _ (by omega) (by omega)).trans hs, ⟨rd, (k5 _ (by omega) (by omega)).trans hrd⟩, (k5 _ (by omega) (by omega)).trans hn, ⟨tr, (k5 _ (by omega) (by omega)).trans htr⟩, ⟨d', k2, k3⟩, ⟨e, (k5 _ (by omega) (by omega)).trans he, hK⟩, (k5 _ (by omega) (by omega)).trans hb⟩, k4⟩
theorem r_thrown (w : RW h m r n D l s b K rf) : CtI mX9_thrown 0 0 0 [.ref m] h (fun v h' => v = rf ∧ h' = h) := by
  obtain ⟨sp, gd, lf, hm⟩ := w.1
  exact en_X9_thrown (b_X9_thrown_0 hm.n0 (rI ⟨rfl, rfl⟩))
theorem r_append (w : RW h m r n D l s b K rf) (ok : OKS r n D l s b K) {c : Int} (hc : -2147483648 ≤ c ∧ c < 2147483648) :
    CtI mX9_append 1 0 0 [.ref m, .int (iN c)] h (fun v h' => (apR c l = 0 → v = (l : Int) + 1) ∧ RW h' m r n D (if apR c l = 0 then l + 1 else l) (if apR c l = 0 then up s l c else s) b K (apR c l) ∧ Off h h' m (m + 8)) := by
  obtain ⟨⟨sp, gd, lf, hm⟩, hs, ⟨rd, hrd⟩, hn, ⟨tr, htr⟩, ⟨d, hd, hD⟩, ⟨e, he, hK⟩, hb⟩ := w
  refine Ct.moI (s_rappend hm hs ok.2.2.2.1 hc) (fun v h9 q => ?_)
  obtain ⟨q1, q2, q3, q4⟩ := q
  have e9 : (if apR c l = 0 then (l : Int) + 1 else l) = ((if apR c l = 0 then l + 1 else l : Nat) : Int) := by split <;> simp
  rw [e9] at q2
  exact ⟨fun z => by rw [q1, if_pos z], ⟨⟨sp, gd, lf, q2⟩, q3, ⟨rd, (q4.2 _ (by omega)).trans hrd⟩, (q4.2 _ (by omega)).trans hn, ⟨tr, (q4.2 _ (by omega)).trans htr⟩, ⟨d, (q4.2 _ (by omega)).trans hd, hD⟩, ⟨e, (q4.2 _ (by omega)).trans he, hK⟩, (q4.2 _ (by omega)).trans hb⟩, q4.up m (m + 8)⟩
theorem r_clearText (w : RW h m r n D l s b K rf) : CtI mX9_clearText 0 0 0 [.ref m] h (fun v h' => v = l ∧ RW h' m r n D 0 s b K 0 ∧ Off h h' m (m + 8)) := by
  obtain ⟨⟨sp, gd, lf, hm⟩, hs, ⟨rd, hrd⟩, hn, ⟨tr, htr⟩, ⟨d, hd, hD⟩, ⟨e, he, hK⟩, hb⟩ := w
  refine Ct.moI (s_rclearText hm) (fun v h9 q => ?_)
  obtain ⟨q1, q2, q4⟩ := q
  exact ⟨q1, ⟨⟨sp, gd, lf, q2⟩, (q4.2 _ (by omega)).trans hs, ⟨rd, (q4.2 _ (by omega)).trans hrd⟩, (q4.2 _ (by omega)).trans hn, ⟨tr, (q4.2 _ (by omega)).trans htr⟩, ⟨d, (q4.2 _ (by omega)).trans hd, hD⟩, ⟨e, (q4.2 _ (by omega)).trans he, hK⟩, (q4.2 _ (by omega)).trans hb⟩, q4.up m (m + 8)⟩
/-- the reader leaves all but the read row -/
theorem w_read (w : RW h m r n D l s b K rf) (ok : OKS r n D l s b K) : CtI mX9_readText 8 0 0 [.ref m] h (fun v h' => v = fpV s l ∧ RW h' m r n D l s b K rf ∧ Off h h' m (m + 8) ∧ (fpV s l = -1 → ari h' (m + 2) 690 (lodX s l).2.2.1 ∧ Inv (lodX s l).2.2.1 ∧ ∃ sp gd, mob h' m rf l sp gd (lodX s l).2.2.2 n)) := by
  obtain ⟨⟨sp, gd, lf, hm⟩, hs, ⟨rd, hrd⟩, hn, ⟨tr, htr⟩, ⟨d, hd, hD⟩, ⟨e, he, hK⟩, hb⟩ := w
  refine Ct.moI (s_readText hm hs hrd ok.2.2.2.1 ok.2.2.2.2.1) (fun v h9 q => ?_)
  obtain ⟨q1, q2, sp', gd', lf', rd', q3, q4, q5⟩ := q
  have O : ∀ q, q ≠ m → q ≠ m + 2 → h9[q]? = h[q]? := q2.2
  refine ⟨q1, ⟨⟨sp', gd', lf', q3⟩, (O _ (by omega) (by omega)).trans hs, ⟨rd', q4⟩, (O _ (by omega) (by omega)).trans hn, ⟨tr, (O _ (by omega) (by omega)).trans htr⟩, ⟨d, (O _ (by omega) (by omega)).trans hd, hD⟩, ⟨e, (O _ (by omega) (by omega)).trans he, hK⟩, (O _ (by omega) (by omega)).trans hb⟩, ⟨q2.1, fun q hq => O q (by omega) (by omega)⟩, fun z => ?_⟩
  obtain ⟨e1, e2, e3, -, -⟩ := q5 z
  rw [← e1]
  exact ⟨q4, e3, sp', gd', by rw [← e2]; exact q3⟩
theorem r_errorPosition (w : RW h m r n D l s b K rf) (ok : OKS r n D l s b K) : CtI mX9_errorPosition 9 0 0 [.ref m] h (fun v h' => v = fpV s l ∧ RW h' m r n D l s b K 0 ∧ Off h h' m (m + 8)) := by
  have w0 := w.ref 0
  obtain ⟨sp, gd, lf, hm⟩ := w.1
  refine en_X9_errorPosition (b_X9_errorPosition_0 hm.n0 w0.1.o (w_read w0.1 ok) (fun v h1 hv => ?_))
  obtain ⟨q1, q2, q3, -⟩ := hv
  exact b_X9_errorPosition_9 (rI ⟨q1, q2, w0.2.tr q3 m (m + 8)⟩)
theorem r_load (w : RW h m r n D l s b K rf) (ok : OKS r n D l s b K) : CtI mX9_load 9 0 0 [.ref m] h (fun v h' => (ldK s l = 0 → v = (lodX s l).2.2.2) ∧ (if ldK s l = 0 then RW h' m (lodX s l).2.2.1 0 D l s (fun _ => false) K (ldK s l) else RW h' m r n D l s b K (ldK s l)) ∧ Off h h' m (m + 8) ∧ (ldK s l = 0 → Inv (lodX s l).2.2.1)) := by
  refine en_X9_load (b_X9_load_0 w.o (w_read w ok) (fun v h1 hv => ?_))
  obtain ⟨rfl, w1, o1, good⟩ := hv
  have bad : fpV s l ≠ -1 → ∀ h2, RW h2 m r n D l s b K 1 ∧ Off h1 h2 m (m + 8) → AW mX9_load 9 0 0 17 [.ref m] [.int (iN (bI (decide ((0 : Int) < 1))))] h2 (qI (fun v h' => (ldK s l = 0 → v = (lodX s l).2.2.2) ∧ (if ldK s l = 0 then RW h' m (lodX s l).2.2.1 0 D l s (fun _ => false) K (ldK s l) else RW h' m r n D l s b K (ldK s l)) ∧ Off h h' m (m + 8) ∧ (ldK s l = 0 → Inv (lodX s l).2.2.1))) := by
    intro q h2 w2
    have e : ldK s l = 1 := by unfold ldK; rw [if_neg q]
    refine b_X9_load_17 (fun y => absurd y (by decide)) (fun _ => ?_)
    refine b_X9_load_20 (rI ⟨fun z => by omega, ?_, o1.tr w2.2 m (m + 8), fun z => by omega⟩)
    rw [if_neg (by omega), e]; exact w2.1
  by_cases q : fpV s l = -1
  · have e : ldK s l = 0 := by unfold ldK; rw [if_pos q]
    obtain ⟨g1, g2, sp, gd, g3⟩ := good q
    rw [q]
    refine b_X9_load_5 (fun y => absurd rfl y) (fun _ => ?_)
    refine b_X9_load_9 w1.o (s_refused g3 (w := 0) (by omega)) (fun v h2 hv => ?_)
    obtain ⟨rfl, rfl⟩ := hv
    have o2 : Off h1 (stf h1 m 0 (.int (iN 0))) m (m + 1) := Off.ofs
    obtain ⟨w2, o2'⟩ := w1.ref 0
    have m2 := g3.s0 0
    have g12 : ari (stf h1 m 0 (.int (iN 0))) (m + 2) 690 (lodX s l).2.2.1 := (o2.2 _ (by omega)).trans g1
    generalize stf h1 m 0 (.int (iN 0)) = h2 at o2 w2 o2' m2 g12 ⊢
    refine b_X9_load_17 (fun _ => ?_) (fun y => absurd rfl y)
    refine b_X9_load_22 m2.r6 m2.r7 (s_cpD g12 w2.nw (by omega) 0 0 690 (by omega) (by omega) (by omega) (by omega)) (fun h3 e3 => ?_)
    have o3 : Off h2 h3 (m + 3) (m + 4) := Off.eqw e3 (m + 3) (m + 4)
    have m3 := m2.off o3
    have n3 : ari h3 (m + 3) 690 (lodX s l).2.2.1 := by
      rw [e3]
      refine (wr_at w2.nw.lt).congr (fun k hk => ?_)
      unfold cpD
      rw [if_pos (by omega), Nat.sub_zero, Nat.zero_add]
    have m4 := m3.s10 0
    have o4 : Off h3 (stf h3 m 10 (.int (iN 0))) m (m + 1) := Off.ofs
    obtain ⟨-, hs, ⟨rd, hrd⟩, -, ⟨tr, htr⟩, ⟨d, hd, hD⟩, ⟨e9, he, hK⟩, hb⟩ := w2
    have hb4 : bk (stf h3 m 10 (.int (iN 0))) (m + 7) b := (hb.off o3).off o4
    have st : ∀ {hh : AH} {bb : Nat → Bool} (j : Nat), j < 2 → bk hh (m + 7) bb → bk (stf hh (m + 7) ((j : Int)).toNat (.int (iN 0))) (m + 7) (fun i => if i = j then false else bb i) := by
      intro hh bb j hj hbb
      unfold bk
      rw [Int.toNat_natCast, stf_at hbb]
      have hl := (List.getElem?_eq_some_iff.mp hbb).1
      rcases (show j = 0 ∨ j = 1 by omega) with rfl | rfl <;> simp [hl, bI]
    have b5 := st 0 (by omega) hb4
    have o5 : Off (stf h3 m 10 (.int (iN 0))) (stf (stf h3 m 10 (.int (iN 0))) (m + 7) ((0 : Nat) : Int).toNat (.int (iN 0))) (m + 7) (m + 8) := Off.ofs
    have b6 := st 1 (by omega) b5
    have o6 : Off (stf (stf h3 m 10 (.int (iN 0))) (m + 7) ((0 : Nat) : Int).toNat (.int (iN 0))) (stf (stf (stf h3 m 10 (.int (iN 0))) (m + 7) ((0 : Nat) : Int).toNat (.int (iN 0))) (m + 7) ((1 : Nat) : Int).toNat (.int (iN 0))) (m + 7) (m + 8) := Off.ofs
    have m5 := m4.off o5
    have m6 := m5.off o6
    have O : Off h2 (stf (stf (stf h3 m 10 (.int (iN 0))) (m + 7) ((0 : Nat) : Int).toNat (.int (iN 0))) (m + 7) ((1 : Nat) : Int).toNat (.int (iN 0))) m (m + 8) := (((o3.up m (m + 8)).tr o4 m (m + 8)).tr o5 m (m + 8)).tr o6 m (m + 8)
    have L : ∀ q, q ≠ m → q ≠ m + 3 → q ≠ m + 7 → (stf (stf (stf h3 m 10 (.int (iN 0))) (m + 7) ((0 : Nat) : Int).toNat (.int (iN 0))) (m + 7) ((1 : Nat) : Int).toNat (.int (iN 0)))[q]? = h2[q]? := fun q q1 q2 q3 => (o6.2 q (by omega)).trans ((o5.2 q (by omega)).trans ((o4.2 q (by omega)).trans (o3.2 q (by omega))))
    refine b_X9_load_38 m3.n10 m4.r12 (hb4.g (s := 0) (by omega)) m5.r12 (b5.g (s := 1) (by omega)) m6.n5 (rI ⟨fun _ => rfl, ?_, o1.tr (o2'.tr O m (m + 8)) m (m + 8), fun _ => g2⟩)
    rw [if_pos e, e]
    refine ⟨⟨sp, gd, _, m6⟩, (L _ (by omega) (by omega) (by omega)).trans hs, ⟨rd, (L _ (by omega) (by omega) (by omega)).trans hrd⟩, (o6.2 _ (by omega)).trans ((o5.2 _ (by omega)).trans ((o4.2 _ (by omega)).trans n3)), ⟨tr, (L _ (by omega) (by omega) (by omega)).trans htr⟩, ⟨d, (L _ (by omega) (by omega) (by omega)).trans hd, fun i hi => by omega⟩, ⟨e9, (L _ (by omega) (by omega) (by omega)).trans he, fun i hi hb9 => tnf hb9.symm⟩, ?_⟩
    exact b6
  · refine b_X9_load_5 (fun _ => ?_) (fun y => ?_)
    · refine b_X9_load_13 w1.o (s_ref w1 (k := 1) (by omega)) (fun v h2 hv => ?_)
      obtain ⟨rfl, w2⟩ := hv
      exact bad q h2 w2
    · exfalso
      have fr : -1 ≤ fpV s l ∧ fpV s l ≤ 2000 := by
        unfold fpV
        split
        · have : ∀ k p w, (rdP s l k p w).1 ≤ p + 5 * k := by
            intro k
            induction k with
            | zero => intro p w; exact Nat.le_refl _
            | succ k ih =>
              intro p w
              rw [rdP_s]
              split
              · have := ih (cB s l p (s p)).2.1 (cB s l p (s p)).2.2
                have := cB_rg s l p (s p)
                omega
              · show p ≤ _; omega
          have := this 100 (hB s l).2.1 (hB s l).2.2
          have := (hB_rg s l).1
          unfold rdF
          omega
        · omega
      exact q ((iN_eq (by omega)).mp y)
theorem r_about (w : RW h m r n D l s b K rf) (I : Inv r) {a : Int} (ha : -2147483648 ≤ a ∧ a < 2147483648) : CtI mX9_about 3 0 0 [.ref m, .int (iN a)] h (fun v h' => (abK a = 0 → v = abV r a) ∧ RW h' m r n D l s b K (abK a) ∧ Off h h' m (m + 8)) := by
  have eT := iN_T ha
  have r0 := I.r0
  have hk := I.1.k
  refine en_X9_about (b_X9_about_0 (s_in (by omega) (by omega) (by omega)) (fun v h1 hv => ?_))
  obtain ⟨rfl, rfl⟩ := hv
  rw [eT]
  by_cases q : 0 ≤ a ∧ a ≤ 13
  · have e : abK a = 0 := by unfold abK; rw [if_pos q]
    rw [decide_eq_true q]
    refine b_X9_about_10 (fun y => absurd y (by decide)) (fun _ => ?_)
    refine b_X9_about_13 w.o (s_ref w (k := 0) (by omega)) (fun v h2 hv => ?_)
    obtain ⟨rfl, w2, o2⟩ := hv
    refine b_X9_about_21 (fun _ => ?_) (fun y => absurd rfl y)
    have F : ∀ v, v = abV r a → (fun v h' => (abK a = 0 → v = abV r a) ∧ RW h' m r n D l s b K (abK a) ∧ Off h1 h' m (m + 8)) v h2 := fun v ev => ⟨fun _ => ev, by rw [e]; exact w2, o2⟩
    have lo : (a = 0 ∨ a = 1 ∨ a = 2 ∨ a = 3) → AW mX9_about 3 0 0 105 [.ref m, .int (iN a)] [] h2 (qI (fun v h' => (abK a = 0 → v = abV r a) ∧ RW h' m r n D l s b K (abK a) ∧ Off h1 h' m (m + 8))) := fun z =>
      b_X9_about_105 w2.r7 (w2.nw.g a.toNat) (rI (F _ (by unfold abV; rw [if_neg (by omega), if_neg (by omega), if_neg (by omega), if_neg (by omega), if_pos (by omega)])))
    refine b_X9_about_26 (fun y => ?_) (fun y => ?_) (fun y => ?_) (fun y => ?_) (fun y => ?_) (fun y => ?_) (fun y => ?_) (fun y => ?_) (fun y => ?_) <;> rw [eT] at y
    · exact lo (by omega)
    · exact lo (by omega)
    · exact lo (by omega)
    · exact lo (by omega)
    · refine b_X9_about_72 w2.r7 (s_tentPlaces w2.nw 0 r0 (by omega)) (fun v h3 hv => ?_)
      obtain ⟨rfl, rfl⟩ := hv
      exact b_X9_about_80 (rI (F _ (by unfold abV; rw [if_pos y]; exact smf_0 _ _)))
    · refine b_X9_about_81 w2.r7 (s_usedPlaces w2.nw ⟨hk.1.1, by have := hk.1.2; omega⟩) (fun v h3 hv => ?_)
      obtain ⟨rfl, rfl⟩ := hv
      exact b_X9_about_88 (rI (F _ (by unfold abV; rw [if_neg (by omega), if_pos y])))
    · refine b_X9_about_89 w2.r7 (s_sparePlaces w2.nw ⟨hk.2.1.1, by have := hk.2.1.2; omega⟩) (fun v h3 hv => ?_)
      obtain ⟨rfl, rfl⟩ := hv
      exact b_X9_about_96 (rI (F _ (by unfold abV; rw [if_neg (by omega), if_neg (by omega), if_pos y])))
    · refine b_X9_about_97 w2.r7 (s_gaps w2.nw I.1 I.2.1) (fun v h3 hv => ?_)
      obtain ⟨rfl, rfl⟩ := hv
      exact b_X9_about_104 (rI (F _ (by unfold abV; rw [if_neg (by omega), if_neg (by omega), if_neg (by omega), if_pos y])))
    · exact b_X9_about_112 w2.r7 (w2.nw.g (a - 4).toNat) (rI (F _ (by unfold abV; rw [if_neg (by omega), if_neg (by omega), if_neg (by omega), if_neg (by omega), if_neg (by omega)])))
  · have e : abK a = 1 := by unfold abK; rw [if_neg q]
    rw [decide_eq_false q]
    refine b_X9_about_10 (fun _ => ?_) (fun y => absurd rfl y)
    refine b_X9_about_17 w.o (s_ref w (k := 1) (by omega)) (fun v h2 hv => ?_)
    obtain ⟨rfl, w2, o2⟩ := hv
    refine b_X9_about_21 (fun y => absurd y (by decide)) (fun _ => ?_)
    exact b_X9_about_24 (rI ⟨fun z => by omega, by rw [e]; exact w2, o2⟩)
theorem r_tent (w : RW h m r n D l s b K rf) (I : Inv r) {t a : Int} (ht : -2147483648 ≤ t ∧ t < 2147483648) (ha : -2147483648 ≤ a ∧ a < 2147483648) : CtI mX9_tent 2 0 0 [.ref m, .int (iN t), .int (iN a)] h (fun v h' => (tnK r t a = 0 → v = tnV r t a) ∧ RW h' m r n D l s b K (tnK r t a) ∧ Off h h' m (m + 8)) := by
  have eT := iN_T ha
  have r0 := I.r0
  obtain ⟨sp, gd, lf, hm⟩ := w.1
  refine en_X9_tent (b_X9_tent_0 w.o (s_isTent hm w.nw (by omega) ht) (fun v h1 hv => ?_))
  obtain ⟨rfl, rfl⟩ := hv
  by_cases q : 0 ≤ t ∧ t < r 0
  · rw [decide_eq_true q]
    refine b_X9_tent_6 (fun _ => ?_) (fun y => absurd y (by decide))
    refine b_X9_tent_13 (s_in (by omega) (by omega) (by omega)) (fun v h2 hv => ?_)
    obtain ⟨rfl, rfl⟩ := hv
    rw [eT]
    by_cases q2 : 0 ≤ a ∧ a ≤ 4
    · have e : tnK r t a = 0 := by unfold tnK; rw [if_neg (fun z => z q), if_pos q2]
      rw [decide_eq_true q2]
      refine b_X9_tent_22 (fun y => absurd y (by decide)) (fun _ => ?_)
      refine b_X9_tent_25 w.o (s_ref w (k := 0) (by omega)) (fun v h3 hv => ?_)
      obtain ⟨rfl, w3, o3⟩ := hv
      obtain ⟨sp3, gd3, lf3, hm3⟩ := w3.1
      refine b_X9_tent_33 (fun _ => ?_) (fun y => absurd rfl y)
      refine b_X9_tent_38 (fun y => ?_) (fun y => ?_)
      · have y1 : ¬ a = 4 := fun z => y (by rw [z])
        refine b_X9_tent_51 w3.r7 s_tentAt (fun v h4 hv => ?_)
        obtain ⟨rfl, rfl⟩ := hv
        exact b_X9_tent_60 (w3.nw.g (10 + 4 * t + a).toNat) (rI ⟨fun _ => by unfold tnV; rw [if_neg y1], by rw [e]; exact w3, o3⟩)
      · have y1 := (iN_eq (by omega)).mp y
        refine b_X9_tent_43 w3.o (s_frameOf hm3 w3.nw I (t := t) (by omega)) (fun v h4 hv => ?_)
        obtain ⟨rfl, rfl⟩ := hv
        exact b_X9_tent_48 (rI ⟨fun _ => by unfold tnV; rw [if_pos y1], by rw [e]; exact w3, o3⟩)
    · have e : tnK r t a = 2 := by unfold tnK; rw [if_neg (fun z => z q), if_neg q2]
      rw [decide_eq_false q2]
      refine b_X9_tent_22 (fun _ => ?_) (fun y => absurd rfl y)
      refine b_X9_tent_29 w.o (s_ref w (k := 2) (by omega)) (fun v h3 hv => ?_)
      obtain ⟨rfl, w3, o3⟩ := hv
      refine b_X9_tent_33 (fun y => absurd y (by decide)) (fun _ => ?_)
      exact b_X9_tent_36 (rI ⟨fun z => by omega, by rw [e]; exact w3, o3⟩)
  · have e : tnK r t a = 1 := by unfold tnK; rw [if_pos q]
    rw [decide_eq_false q]
    refine b_X9_tent_6 (fun y => absurd rfl y) (fun _ => ?_)
    refine b_X9_tent_9 w.o (s_ref w (k := 1) (by omega)) (fun v h3 hv => ?_)
    obtain ⟨rfl, w3, o3⟩ := hv
    refine b_X9_tent_33 (fun y => absurd y (by decide)) (fun _ => ?_)
    exact b_X9_tent_36 (rI ⟨fun z => by omega, by rw [e]; exact w3, o3⟩)
theorem r_field (w : RW h m r n D l s b K rf) (I : Inv r) {f a : Int} (hf : -2147483648 ≤ f ∧ f < 2147483648) (ha : -2147483648 ≤ a ∧ a < 2147483648) : CtI mX9_field 2 0 0 [.ref m, .int (iN f), .int (iN a)] h (fun v h' => (fdK r f a = 0 → v = fdV r f a) ∧ RW h' m r n D l s b K (fdK r f a) ∧ Off h h' m (m + 8)) := by
  have eT := iN_T ha
  have r1 := I.r1
  obtain ⟨sp, gd, lf, hm⟩ := w.1
  refine en_X9_field (b_X9_field_0 w.o (s_isField hm w.nw (by omega) hf) (fun v h1 hv => ?_))
  obtain ⟨rfl, rfl⟩ := hv
  by_cases q : 0 ≤ f ∧ f < r 1
  · rw [decide_eq_true q]
    refine b_X9_field_6 (fun _ => ?_) (fun y => absurd y (by decide))
    refine b_X9_field_13 (s_in (by omega) (by omega) (by omega)) (fun v h2 hv => ?_)
    obtain ⟨rfl, rfl⟩ := hv
    rw [eT]
    by_cases q2 : 0 ≤ a ∧ a ≤ 4
    · have e : fdK r f a = 0 := by unfold fdK; rw [if_neg (fun z => z q), if_pos q2]
      rw [decide_eq_true q2]
      refine b_X9_field_22 (fun y => absurd y (by decide)) (fun _ => ?_)
      refine b_X9_field_25 w.o (s_ref w (k := 0) (by omega)) (fun v h3 hv => ?_)
      obtain ⟨rfl, w3, o3⟩ := hv
      obtain ⟨sp3, gd3, lf3, hm3⟩ := w3.1
      have ef : ((f.toNat : Nat) : Int) = f := by omega
      refine b_X9_field_33 (fun _ => ?_) (fun y => absurd rfl y)
      refine b_X9_field_38 (fun y => ?_) (fun y => ?_) (fun y => ?_) (fun y => ?_) (fun y => ?_) <;> rw [eT] at y
      · refine b_X9_field_68 w3.r7 s_fieldAt (fun v h4 hv => ?_)
        obtain ⟨rfl, rfl⟩ := hv
        exact b_X9_field_77 (w3.nw.g (106 + 4 * f.toNat)) (rI ⟨fun _ => by unfold fdV; rw [if_pos y], by rw [e]; exact w3, o3⟩)
      · refine b_X9_field_68 w3.r7 s_fieldAt (fun v h4 hv => ?_)
        obtain ⟨rfl, rfl⟩ := hv
        exact b_X9_field_77 (w3.nw.g (107 + 4 * f.toNat)) (rI ⟨fun _ => by unfold fdV; rw [if_neg (by omega), if_pos y], by rw [e]; exact w3, o3⟩)
      · refine b_X9_field_79 w3.o (s_tentsOn hm3 w3.nw I (f := f) (by omega)) (fun v h4 hv => ?_)
        obtain ⟨rfl, rfl⟩ := hv
        exact b_X9_field_84 (rI ⟨fun _ => by unfold fdV; rw [if_neg (by omega), if_neg (by omega), if_pos y], by rw [e]; exact w3, o3⟩)
      · refine b_X9_field_85 w3.r7 s_fieldAt (fun v h4 hv => ?_)
        obtain ⟨rfl, rfl⟩ := hv
        refine b_X9_field_94 (w3.nw.g (106 + 4 * f.toNat)) w3.r7 s_fieldAt (fun v h5 hv => ?_)
        obtain ⟨rfl, rfl⟩ := hv
        exact b_X9_field_104 (w3.nw.g (108 + 4 * f.toNat)) (rI ⟨fun _ => by unfold fdV; rw [if_neg (by omega), if_neg (by omega), if_neg (by omega), if_pos y], by rw [e]; exact w3, o3⟩)
      · have P := s_poisonOn hm3 w3.nw I (f := f.toNat) (by unfold nF; omega)
        rw [ef] at P
        refine b_X9_field_107 w3.o P (fun v h4 hv => ?_)
        obtain ⟨rfl, rfl⟩ := hv
        exact b_X9_field_112 (rI ⟨fun _ => by unfold fdV; rw [if_neg (by omega), if_neg (by omega), if_neg (by omega), if_neg (by omega)], by rw [e]; exact w3, o3⟩)
    · have e : fdK r f a = 2 := by unfold fdK; rw [if_neg (fun z => z q), if_neg q2]
      rw [decide_eq_false q2]
      refine b_X9_field_22 (fun _ => ?_) (fun y => absurd rfl y)
      refine b_X9_field_29 w.o (s_ref w (k := 2) (by omega)) (fun v h3 hv => ?_)
      obtain ⟨rfl, w3, o3⟩ := hv
      refine b_X9_field_33 (fun y => absurd y (by decide)) (fun _ => ?_)
      exact b_X9_field_36 (rI ⟨fun z => by omega, by rw [e]; exact w3, o3⟩)
  · have e : fdK r f a = 1 := by unfold fdK; rw [if_pos q]
    rw [decide_eq_false q]
    refine b_X9_field_6 (fun y => absurd rfl y) (fun _ => ?_)
    refine b_X9_field_9 w.o (s_ref w (k := 1) (by omega)) (fun v h3 hv => ?_)
    obtain ⟨rfl, w3, o3⟩ := hv
    refine b_X9_field_33 (fun y => absurd y (by decide)) (fun _ => ?_)
    exact b_X9_field_36 (rI ⟨fun z => by omega, by rw [e]; exact w3, o3⟩)
theorem r_place (w : RW h m r n D l s b K rf) (I : Inv r) {f k : Int} (hf : -2147483648 ≤ f ∧ f < 2147483648) (hk : -2147483648 ≤ k ∧ k < 2147483648) : CtI mX9_place 2 0 0 [.ref m, .int (iN f), .int (iN k)] h (fun v h' => (plK r f k = 0 → v = plV r f k) ∧ RW h' m r n D l s b K (plK r f k) ∧ Off h h' m (m + 8)) := by
  have eT := iN_T hk
  have r1 := I.r1
  obtain ⟨sp, gd, lf, hm⟩ := w.1
  have Bad : plK r f k = 1 → AW mX9_place 2 0 0 46 [.ref m, .int (iN f), .int (iN k), vU] [] h (qI (fun v h' => (plK r f k = 0 → v = plV r f k) ∧ RW h' m r n D l s b K (plK r f k) ∧ Off h h' m (m + 8))) := by
    intro e
    refine b_X9_place_46 (fun _ => ?_) (fun y => absurd rfl y)
    refine b_X9_place_57 w.o (s_ref w (k := 1) (by omega)) (fun v h3 hv => ?_)
    obtain ⟨rfl, w3, o3⟩ := hv
    refine b_X9_place_61 (fun y => absurd y (by decide)) (fun _ => ?_)
    exact b_X9_place_64 (rI ⟨fun z => by omega, by rw [e]; exact w3, o3⟩)
  refine en_X9_place (b_X9_place_0 w.o (s_isField hm w.nw (by omega) hf) (fun v h1 hv => ?_))
  obtain ⟨rfl, rfl⟩ := hv
  by_cases q : 0 ≤ f ∧ f < r 1
  · rw [decide_eq_true q]
    have fs := I.1.f (f := f.toNat) (by unfold nF; omega)
    have ap := I.ap
    refine b_X9_place_5 (fun y => absurd y (by decide)) (fun _ => ?_)
    refine b_X9_place_8 w.r7 w.o (s_isField hm w.nw (by omega) hf) (fun v h2 hv => ?_)
    obtain ⟨rfl, rfl⟩ := hv
    rw [decide_eq_true q]
    refine b_X9_place_20 (fun y => absurd y (by decide)) (fun _ => ?_)
    refine b_X9_place_23 s_fieldAt (fun v h3 hv => ?_)
    obtain ⟨rfl, rfl⟩ := hv
    have e1 : (iN (r (106 + 4 * f.toNat) - 1)).toInt = r (106 + 4 * f.toNat) - 1 := iN_T (by omega)
    refine b_X9_place_32 (w.nw.g (106 + 4 * f.toNat)) (s_in (by omega) (by omega) (by omega)) (fun v h4 hv => ?_)
    obtain ⟨rfl, rfl⟩ := hv
    rw [eT, e1]
    by_cases q2 : 0 ≤ k ∧ k ≤ r (106 + 4 * f.toNat) - 1
    · have e : plK r f k = 0 := by unfold plK; rw [if_pos ⟨q, by omega⟩]
      rw [decide_eq_true q2]
      refine b_X9_place_39 (fun y => absurd y (by decide)) (fun _ => ?_)
      refine b_X9_place_42 (fun y => absurd y (by decide)) (fun _ => ?_)
      refine b_X9_place_53 w.o (s_ref w (k := 0) (by omega)) (fun v h5 hv => ?_)
      obtain ⟨rfl, w3, o3⟩ := hv
      refine b_X9_place_61 (fun _ => ?_) (fun y => absurd rfl y)
      refine b_X9_place_68 w3.r7 w3.r7 s_fieldAt (fun v h6 hv => ?_)
      obtain ⟨rfl, rfl⟩ := hv
      exact b_X9_place_84 (w3.nw.g (109 + 4 * f.toNat)) (w3.nw.g (434 + (r (109 + 4 * f.toNat)).toNat + k.toNat)) (rI ⟨fun _ => rfl, by rw [e]; exact w3, o3⟩)
    · have e : plK r f k = 1 := by unfold plK; rw [if_neg (fun z => q2 ⟨z.2.1, by omega⟩)]
      rw [decide_eq_false q2]
      exact b_X9_place_39 (fun _ => Bad e) (fun y => absurd rfl y)
  · have e : plK r f k = 1 := by unfold plK; rw [if_neg (fun z => q z.1)]
    rw [decide_eq_false q]
    exact b_X9_place_5 (fun _ => Bad e) (fun y => absurd rfl y)
theorem r_frame (w : RW h m r n D l s b K rf) (I : Inv r) {i a : Int} (hi : -2147483648 ≤ i ∧ i < 2147483648) (ha : -2147483648 ≤ a ∧ a < 2147483648) : CtI mX9_frame 2 0 0 [.ref m, .int (iN i), .int (iN a)] h (fun v h' => (frK r i a = 0 → v = frV r i a) ∧ RW h' m r n D l s b K (frK r i a) ∧ Off h h' m (m + 8)) := by
  have eT := iN_T ha
  have r0 := I.r0
  have r3 := I.r3
  obtain ⟨sp, gd, lf, hm⟩ := w.1
  refine en_X9_frame (b_X9_frame_0 w.o (s_isFrame hm w.nw (by omega) hi) (fun v h1 hv => ?_))
  obtain ⟨rfl, rfl⟩ := hv
  by_cases q : 0 ≤ i ∧ i < r 3
  · rw [decide_eq_true q]
    have fo := (I.fr (i := i.toNat) (by omega)).1
    refine b_X9_frame_6 (fun _ => ?_) (fun y => absurd y (by decide))
    refine b_X9_frame_13 (s_in (by omega) (by omega) (by omega)) (fun v h2 hv => ?_)
    obtain ⟨rfl, rfl⟩ := hv
    rw [eT]
    by_cases q2 : 0 ≤ a ∧ a ≤ 2
    · have e : frK r i a = 0 := by unfold frK; rw [if_neg (fun z => z q), if_pos q2]
      rw [decide_eq_true q2]
      refine b_X9_frame_22 (fun y => absurd y (by decide)) (fun _ => ?_)
      refine b_X9_frame_25 w.o (s_ref w (k := 0) (by omega)) (fun v h3 hv => ?_)
      obtain ⟨rfl, w3, o3⟩ := hv
      refine b_X9_frame_33 (fun _ => ?_) (fun y => absurd rfl y)
      refine b_X9_frame_38 (fun y => ?_) (fun y => ?_)
      · have y1 := (iN_le (by omega)).mp y
        refine b_X9_frame_56 w3.r7 w3.r7 s_frameAt (fun v h4 hv => ?_)
        obtain ⟨rfl, rfl⟩ := hv
        have T := s_tentPlaces w3.nw (r (418 + 2 * i.toNat)).toNat r0 (by omega)
        rw [show (((r (418 + 2 * i.toNat)).toNat : Nat) : Int) = r (418 + 2 * i.toNat) by omega] at T
        refine b_X9_frame_69 (w3.nw.g (418 + 2 * i.toNat)) T (fun v h5 hv => ?_)
        obtain ⟨rfl, rfl⟩ := hv
        exact b_X9_frame_73 (rI ⟨fun _ => by unfold frV; rw [if_neg (by omega), if_neg (by omega)], by rw [e]; exact w3, o3⟩)
      · have y1 : ¬ 2 ≤ a := fun z => y ((iN_le (by omega)).mpr z)
        refine b_X9_frame_43 w3.r7 s_frameAt (fun v h4 hv => ?_)
        obtain ⟨rfl, rfl⟩ := hv
        by_cases z : a = 0
        · exact b_X9_frame_52 (w3.nw.g (418 + 2 * i.toNat)) (rI ⟨fun _ => by unfold frV; rw [if_pos z], by rw [e]; exact w3, o3⟩)
        · exact b_X9_frame_52 (w3.nw.g (419 + 2 * i.toNat)) (rI ⟨fun _ => by unfold frV; rw [if_neg z, if_pos (by omega)], by rw [e]; exact w3, o3⟩)
    · have e : frK r i a = 2 := by unfold frK; rw [if_neg (fun z => z q), if_neg q2]
      rw [decide_eq_false q2]
      refine b_X9_frame_22 (fun _ => ?_) (fun y => absurd rfl y)
      refine b_X9_frame_29 w.o (s_ref w (k := 2) (by omega)) (fun v h3 hv => ?_)
      obtain ⟨rfl, w3, o3⟩ := hv
      refine b_X9_frame_33 (fun y => absurd y (by decide)) (fun _ => ?_)
      exact b_X9_frame_36 (rI ⟨fun z => by omega, by rw [e]; exact w3, o3⟩)
  · have e : frK r i a = 1 := by unfold frK; rw [if_pos q]
    rw [decide_eq_false q]
    refine b_X9_frame_6 (fun y => absurd rfl y) (fun _ => ?_)
    refine b_X9_frame_9 w.o (s_ref w (k := 1) (by omega)) (fun v h3 hv => ?_)
    obtain ⟨rfl, w3, o3⟩ := hv
    refine b_X9_frame_33 (fun y => absurd y (by decide)) (fun _ => ?_)
    exact b_X9_frame_36 (rI ⟨fun z => by omega, by rw [e]; exact w3, o3⟩)
theorem r_spare (w : RW h m r n D l s b K rf) (I : Inv r) {i : Int} (hi : -2147483648 ≤ i ∧ i < 2147483648) : CtI mX9_spare 1 0 0 [.ref m, .int (iN i)] h (fun v h' => (spK i = 0 → v = spV r i) ∧ RW h' m r n D l s b K (spK i) ∧ Off h h' m (m + 8)) := by
  have w9 := w
  obtain ⟨⟨sp, gd, lf, hm⟩, hs, ⟨rd, hrd⟩, hn, ⟨tr, htr⟩, ⟨d, hd, hD⟩, ⟨e, he, hK⟩, hb⟩ := w
  have Fin : ∀ (k : Int) (h9 : AH), mob h9 m k l sp gd lf n → Off h h9 m (m + 1) → RW h9 m r n D l s b K k ∧ Off h h9 m (m + 8) := fun k h9 q2 q4 =>
    ⟨⟨⟨sp, gd, lf, q2⟩, (q4.2 _ (by omega)).trans hs, ⟨rd, (q4.2 _ (by omega)).trans hrd⟩, (q4.2 _ (by omega)).trans hn, ⟨tr, (q4.2 _ (by omega)).trans htr⟩, ⟨d, (q4.2 _ (by omega)).trans hd, hD⟩, ⟨e, (q4.2 _ (by omega)).trans he, hK⟩, hb.off q4⟩, q4.up m (m + 8)⟩
  by_cases q : 0 ≤ i
  · have ek : spK i = 0 := by unfold spK; rw [if_pos q]
    refine Ct.moI (s_rspare hm hn I (i := i) (by omega)) (fun v h9 z => ?_)
    rw [ek]
    exact ⟨fun _ => z.1, Fin 0 h9 z.2.1 z.2.2⟩
  · have ek : spK i = 1 := by unfold spK; rw [if_neg q]
    refine Ct.moI (s_rspareN hm (i := i) (by omega)) (fun v h9 z => ?_)
    rw [ek]
    exact ⟨fun y => by omega, Fin 1 h9 z.2.1 z.2.2⟩
end RASK
