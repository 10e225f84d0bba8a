/-! the class's methods: the text -/
/-- an answer v (k is 0) or a throw (k is 1 or 2: of the first or second kind that is listed) -/
def oX (e1 e2 : Nat) (k v : Int) (P : AH → Prop) : AR → AH → Prop := fun R h => ((k = 0 ∧ R = .inl (some (.int (iN v)))) ∨ (k = 1 ∧ R = .inr e1) ∨ (k = 2 ∧ R = .inr e2)) ∧ P h
section CLS
variable {h : AH} {x n l : Nat} {r s : Nat → Int} {D K : Nat → Nat → Int} {b : Nat → Bool}
theorem oX.v {e1 e2 : Nat} {k v : Int} {P : AH → Prop} (hk : k = 0) (hp : P h) : oX e1 e2 k v P (.inl (some (.int (iN v)))) h := ⟨Or.inl ⟨hk, rfl⟩, hp⟩
theorem oX.ve {e1 e2 : Nat} {k v v' : Int} {P : AH → Prop} (hk : k = 0) (e : v' = v) (hp : P h) : oX e1 e2 k v P (.inl (some (.int (iN v')))) h := ⟨Or.inl ⟨hk, by rw [e]⟩, hp⟩
theorem oX.a {e1 e2 : Nat} {k v : Int} {P : AH → Prop} (hk : k = 1) (hp : P h) : oX e1 e2 k v P (.inr e1) h := ⟨Or.inr (Or.inl ⟨hk, rfl⟩), hp⟩
theorem oX.w {e1 e2 : Nat} {k v : Int} {P : AH → Prop} (hk : k = 2) (hp : P h) : oX e1 e2 k v P (.inr e2) h := ⟨Or.inr (Or.inr ⟨hk, rfl⟩), hp⟩
theorem c_append (w : CW h x r n D l s b K) (ok : OKS r n D l s b K) {c : Int} (hc : -2147483648 ≤ c ∧ c < 2147483648) :
    CtX mX8_append 6 1 6 [.ref x, .int (iN c)] h (oX 0 1 (apR c l) ((l : Int) + 1) (fun h' => CW h' x r n D (if apR c l = 0 then l + 1 else l) (if apR c l = 0 then up s l c else s) b K ∧ Off h h' x (x + 641))) := by
  have l1 := ok.2.2.2.1
  have w9 := w
  obtain ⟨w1, w2, w3, w4, ⟨p, w0, kd, f1, f2, w5⟩, w6, w7, w8⟩ := w
  have Bad : ¬ (0 ≤ c ∧ c ≤ 255) → AW mX8_append 6 1 6 11 [.ref x, .int (iN c)] [] h (oX 0 1 (apR c l) ((l : Int) + 1) (fun h' => CW h' x r n D (if apR c l = 0 then l + 1 else l) (if apR c l = 0 then up s l c else s) b K ∧ Off h h' x (x + 641))) := by
    intro q
    have e : apR c l = 1 := by unfold apR; rw [if_pos q]
    rw [e, if_neg (by omega), if_neg (by omega)]
    exact b_X8_append_11 (by omega) (by omega) (oX.a rfl ⟨w9, Off.rf⟩)
  refine en_X8_append (b_X8_append_0 (fun q => Bad (by have := (iN_lt (by omega)).mp q; omega)) (fun q => ?_))
  have q1 : ¬ c < 0 := fun z => q ((iN_lt (by omega)).mpr z)
  refine b_X8_append_4 (fun q => ?_) (fun q => Bad (fun z => q ((iN_le (by omega)).mpr z.2)))
  have q2 := (iN_le (by omega)).mp q
  refine b_X8_append_21 w1.f3 w5.n0 (fun q => ?_) (fun q => ?_)
  · have q3 := (iN_lt (by omega)).mp q
    have e : apR c l = 0 := by unfold apR; rw [if_neg (by omega), if_neg (by omega)]
    rw [e, if_pos rfl, if_pos rfl]
    refine b_X8_append_43 w1.f3 w5.o (s_tadd w5 (by omega) c) (fun h1 hv => ?_)
    obtain ⟨t1, o1⟩ := hv
    have o2 : Off h h1 x (x + 641) := o1.up x (x + 641)
    refine b_X8_append_51 (w1.off o1).f3 t1.n0 (oX.v rfl ⟨⟨w1.off o1, w2.off o1, ?_, ?_, ⟨_, _, _, _, _, t1⟩, w6.off o1, fun j hj => ?_, w8.off o1⟩, o2⟩)
    · obtain ⟨N, X, w3⟩ := w3; exact ⟨N, X, w3.off o1⟩
    · obtain ⟨xh, w4⟩ := w4; exact ⟨xh, w4.off o1⟩
    · obtain ⟨N, X, u1, u2⟩ := w7 j hj; exact ⟨N, X, u1.off o1, u2⟩
  · have q3 : ¬ (l : Int) < 100 := fun z => q ((iN_lt (by omega)).mpr z)
    have e : apR c l = 2 := by unfold apR; rw [if_neg (by omega), if_pos (by omega)]
    rw [e, if_neg (by omega), if_neg (by omega)]
    exact b_X8_append_33 (by omega) (by omega) (oX.w rfl ⟨w9, Off.rf⟩)
theorem c_clearText (w : CW h x r n D l s b K) : CtI mX8_clearText 0 0 0 [.ref x] h (fun v h' => v = l ∧ CW h' x r n D 0 s b K ∧ Off h h' x (x + 641)) := by
  obtain ⟨w1, w2, w3, w4, ⟨p, w0, kd, f1, f2, w5⟩, w6, w7, w8⟩ := w
  have o1 : Off h (stf h (x + 564) 0 (.int (iN 0))) (x + 564) (x + 565) := Off.ofs
  refine en_X8_clearText (b_X8_clearText_0 w1.f3 w5.n0 w1.f3 w5.n0 (rI ⟨rfl, ⟨w1.off o1, w2.off o1, ?_, ?_, ⟨_, _, _, _, _, w5.s0 0⟩, w6.off o1, fun j hj => ?_, w8.off o1⟩, o1.up x (x + 641)⟩))
  · obtain ⟨N, X, w3⟩ := w3; exact ⟨N, X, w3.off o1⟩
  · obtain ⟨xh, w4⟩ := w4; exact ⟨xh, w4.off o1⟩
  · obtain ⟨N, X, u1, u2⟩ := w7 j hj; exact ⟨N, X, u1.off o1, u2⟩
theorem c_errorPosition (w : CW h x r n D l s b K) (ok : OKS r n D l s b K) : CtI mX8_errorPosition 5 0 0 [.ref x] h (fun v h' => v = fpV s l ∧ CW h' x r n D l s b K ∧ Off h h' x (x + 641)) := by
  obtain ⟨w1, w2, w3, w4, ⟨p, w0, kd, f1, f2, w5⟩, w6, w7, w8⟩ := w
  refine en_X8_errorPosition (b_X8_errorPosition_0 w1.f3 w5.o (s_faultPosition w5 ok.2.2.2.1 ok.2.2.2.2.1) (fun v h1 hv => ?_))
  obtain ⟨rfl, t1, o1⟩ := hv
  refine b_X8_errorPosition_7 (rI ⟨rfl, ⟨w1.off o1, w2.off o1, ?_, ?_, t1, w6.off o1, fun j hj => ?_, w8.off o1⟩, o1.up x (x + 641)⟩)
  · obtain ⟨N, X, w3⟩ := w3; exact ⟨N, X, w3.off o1⟩
  · obtain ⟨xh, w4⟩ := w4; exact ⟨xh, w4.off o1⟩
  · obtain ⟨N, X, u1, u2⟩ := w7 j hj; exact ⟨N, X, u1.off o1, u2⟩
/-- what load leaves and says -/
def ldK (s : Nat → Int) (l : Nat) : Int := if fpV s l = -1 then 0 else 1
theorem fpV_ok {s : Nat → Int} {l : Nat} (e : fpV s l = -1) : (hB s l).2.2 = false ∧ (lodX s l).2.1 = false := by
  unfold fpV at e
  have f : (rdF s l).2 = false := by
    cases q : (rdF s l).2
    · rfl
    · rw [q, if_pos rfl] at e; omega
  have hw : (hB s l).2.2 = false := by
    cases q : (hB s l).2.2
    · rfl
    · unfold rdF at f
      rw [q, rdP_w] at f
      exact tnf f
  have eP := rdX_P s l 100 (hB s l).2.1 false (clean (hA s l).1 (hB s l).1) 0
  change ((lodX s l).1, (lodX s l).2.1) = _ at eP
  unfold rdF at f
  rw [hw, ← eP] at f
  exact ⟨hw, f⟩
theorem c_load (w : CW h x r n D l s b K) (ok : OKS r n D l s b K) :
    CtX mX8_load 7 1 6 [.ref x] h (oX 1 1 (ldK s l) (lodX s l).2.2.2 (fun h' => (if ldK s l = 0 then CW h' x (lodX s l).2.2.1 0 D l s (fun _ => false) K else CW h' x r n D l s b K) ∧ Off h h' x (x + 641))) := by
  have l1 := ok.2.2.2.1
  have ls := ok.2.2.2.2.1
  obtain ⟨w1, w2, ⟨Nt, Xt, w3⟩, ⟨xh, w4⟩, ⟨p, w0, kd, f1, f2, w5⟩, w6, w7, w8⟩ := w
  refine en_X8_load (b_X8_load_0 w1.f3 w5.o (s_faultPosition w5 l1 ls) (fun v h1 hv => ?_))
  obtain ⟨rfl, ⟨p1, w01, kd1, f11, f21, t1⟩, o1⟩ := hv
  refine b_X8_load_7 (fun q => ?_) (fun q => ?_)
  · have fr : -1 ≤ fpV s l ∧ fpV s l ≤ 2000 := by
      unfold fpV
      split
      · have : ∀ k p w, (rdP s l k p w).1 ≤ p + 5 * k := by
          intro k
          induction k with
          | zero => intro p w; exact Nat.le_refl _
          | succ k ih =>
            intro p w
            rw [rdP_s]
            split
            · have := ih (cB s l p (s p)).2.1 (cB s l p (s p)).2.2
              have := cB_rg s l p (s p)
              omega
            · show p ≤ _; omega
        have := this 100 (hB s l).2.1 (hB s l).2.2
        have := (hB_rg s l).1
        unfold rdF
        omega
      · omega
    have e := (iN_eq (by omega)).mp q
    have ek : ldK s l = 0 := by unfold ldK; rw [if_pos e]
    obtain ⟨hw, hg⟩ := fpV_ok e
    have hb := (hB_rg s l).2 hw
    have v1 := w1.off o1
    have v4 := w4.off o1
    refine b_X8_load_21 v1.f2 v4.o (s_forgetAll v4 D) (fun h2 hv => ?_)
    obtain ⟨v42, o2⟩ := hv
    have v2 := v1.off o2
    have v8 := (w8.off o1).off o2
    refine b_X8_load_28 v2.f5 v8.o (s_strew v8 (p := 0) (q := 2) (by omega) (by omega)) (fun h3 e3 => ?_)
    have o3 : Off h2 h3 (x + 640) (x + 641) := Off.eqw e3 (x + 640) (x + 641)
    have v83 : row h3 (x + 639) 2 (fun j => bI false) := by
      rw [e3]
      refine (v8.w _).congr (fun j hj => ?_)
      unfold strw; rw [if_pos (by omega)]; rfl
    have v3 := v2.off o3
    have t3 := (t1.off o2).off o3
    refine b_X8_load_38 v3.f3 t3.o (s_readHead t3 l1 ls) (fun h4 hv => ?_)
    obtain ⟨kd4, t4, o4⟩ := hv
    have v14 := v3.off o4
    have c4 := (((w2.off o1).off o2).off o3).off o4
    obtain ⟨⟨Nc, Xc, cx4, -⟩, -⟩ := c4
    refine b_X8_load_45 v14.f0 v14.f3 t4.n5 v14.f3 t4.n6 cx4.o (s_beginAnew cx4 (hA s l).1 (hB s l).1 (hB s l).1) (fun h5 hv => ?_)
    obtain ⟨⟨N5, X5, c5, a5⟩, o5⟩ := hv
    refine b_X8_load_66 ?_
    have I5 : Inv (clean (hA s l).1 (hB s l).1) := InvClean hb.2.1 hb.2.2
    have cm5 : cmp h5 (x + 1) (clean (hA s l).1 (hB s l).1) := ⟨⟨N5, X5, c5, a5⟩, I5⟩
    have t5 := t4.off o5
    rw [hw] at t5
    refine s_loadL (v14.off o5) l1 ls cm5 t5 (by omega) (T := lodX s l) rfl hg (fun h6 t6 c6 k6 => ?_)
    have K6 : ∀ q c, q ≠ x + 564 → (q < x + 1 ∨ x + 36 ≤ q) → h5[q]? = some c → h6[q]? = some c := fun q c q1 q2 e => (k6.2 q q2 q1).trans e
    have kA : Kp h5 h6 (x + 1) (x + 565) := fun q c q1 e => K6 q c (by omega) (by omega) e
    have kB : ∀ q c, x + 36 ≤ q → q < x + 564 → h5[q]? = some c → h6[q]? = some c := fun q c q1 q2 e => K6 q c (by omega) (by omega) e
    -- trial and history lie between: a picture of the heap in which they stand apart
    have o15 : Off h h5 x (x + 641) := ((((o1.up x (x + 641)).tr o2 x (x + 641)).tr o3 x (x + 641)).tr o4 x (x + 641)).tr o5 x (x + 641)
    have tr5 : campX h5 (x + 36) Nt Xt := ((((w3.off o1).off o2).off o3).off o4).off o5
    have hi5 : hist h5 (x + 71) 0 xh D := ((v42.off o3).off o4).off o5
    have o6 : Off h5 h6 x (x + 641) := ⟨k6.1, fun q hq => k6.2 q (by omega) (by omega)⟩
    refine oX.v ek ⟨?_, o15.tr o6 x (x + 641)⟩
    rw [if_pos ek]
    refine ⟨kA _ _ (by omega) (v14.off o5), c6, ⟨Nt, Xt, ?_⟩, ⟨xh, ?_⟩, t6, (((((w6.off o1).off o2).off o3).off o4).off o5).kp kA, fun j hj => ?_, ((v83.off o4).off o5).kp kA⟩
    · have km : Kp (h5.take (x + 564)) h6 (x + 1) (x + 36) := fun q c q1 e => by
        have hl := (List.getElem?_eq_some_iff.mp e).1
        rw [List.length_take] at hl
        rw [List.getElem?_take_of_lt (by omega)] at e
        exact K6 q c (by omega) q1 e
      have T5 : Kp h5 (h5.take (x + 564)) (x + 564) (h5.length + x + 564) := fun q c q1 e => by
        have hl := (List.getElem?_eq_some_iff.mp e).1
        rw [List.getElem?_take_of_lt (by omega)]; exact e
      exact (tr5.kp T5).kp km
    · have km : Kp (h5.take (x + 564)) h6 (x + 1) (x + 36) := fun q c q1 e => by
        have hl := (List.getElem?_eq_some_iff.mp e).1
        rw [List.length_take] at hl
        rw [List.getElem?_take_of_lt (by omega)] at e
        exact K6 q c (by omega) q1 e
      have T5 : Kp h5 (h5.take (x + 564)) (x + 564) (h5.length + x + 564) := fun q c q1 e => by
        have hl := (List.getElem?_eq_some_iff.mp e).1
        rw [List.getElem?_take_of_lt (by omega)]; exact e
      exact (hi5.kp T5).kp km
    · obtain ⟨N, X, u1, u2⟩ := w7 j hj
      exact ⟨N, X, (((((u1.off o1).off o2).off o3).off o4).off o5).kp kA, fun z => tnf z.symm⟩
  · have e : ldK s l = 1 := by unfold ldK; rw [if_neg (fun z => q (by rw [z]))]
    refine b_X8_load_11 (by omega) (by omega) (oX.a e ⟨?_, o1.up x (x + 641)⟩)
    rw [if_neg (by omega)]
    refine ⟨w1.off o1, w2.off o1, ⟨Nt, Xt, w3.off o1⟩, ⟨xh, w4.off o1⟩, ⟨_, _, _, _, _, t1⟩, w6.off o1, fun j hj => ?_, w8.off o1⟩
    obtain ⟨N, X, u1, u2⟩ := w7 j hj
    exact ⟨N, X, u1.off o1, u2⟩
end CLS
