/-! gaps, copy, beginAnew, putUpAll: the code -/
section CAMP4
variable {h : AH} {c : Nat} {N : Nat → Int} {X : Nat → Nat → Int} {k m : Int} {r : Nat → Int}
theorem s_cgaps (hc : campX h c N X) (ha : Agr k m N X r) (hg : okG r) (ht : okT r) : CtI mX0_gaps 2 0 0 [.ref c] h (fun v h' => v = gapsV r ∧ h' = h) := by
  have hk := hg.k
  have hl := hk.lu
  have h0 := ht.1
  have h1 := hk.1
  have n0 : r 0 = (nT r : Int) := by unfold nT; omega
  have n1 : r 1 = (nF r : Int) := by unfold nF; omega
  have hU := hc.uu ha hg
  have hT := hc.tt ha h0.1
  have au := ha.2.2.2.2.1
  have at' := ha.2.2.1
  have eL : lst (X 9) (nF r) = lastU r := lst_congr (fun f hf => (au f (by omega)).2.2.1)
  have bX : ∀ f, f < nF r → X 9 f = 0 ∨ X 9 f = 1 := fun f hf => by rw [(au f (by omega)).2.2.1]; exact (hk.2.2.2.1 f hf).1
  refine en_X0_gaps (b_X0_gaps_0 hc.ru hU.o (s_lastUsual (nF r) hU (by omega) bX) (fun v h2 hv => ?_))
  obtain ⟨rfl, rfl⟩ := hv
  rw [eL]
  refine b_X0_gaps_7 ?_
  have H2 : ∀ (n i : Nat), i + n = nT r → AW mX0_gaps 2 0 0 72 [.ref c, .int (iN (lastU r)), .int (iN (tnS r (gapS r (lastU r + 1).toNat) i)), .int (iN (i : Int))] [] h2 (qI fun v h1 => v = gapsV r ∧ h1 = h2) := by
    intro n
    induction n with
    | zero =>
      intro i hi
      refine b_X0_gaps_72 hc.rt hT.n0 (fun _ => ?_) (fun w => absurd ((iN_le (by omega)).mpr (by omega)) w)
      refine b_X0_gaps_127 (rI ⟨?_, rfl⟩)
      rw [← gaps_eq hg ht, show nT r = i by omega]
    | succ n ih =>
      intro i hi
      have e : ((i : Int) + 1) = ((i + 1 : Nat) : Int) := by omega
      have hk9 := ih (i + 1) (by omega)
      simp only [tnS] at hk9
      have ti := (ht.2 i (by omega)).1
      have ati := at' i (by omega)
      have fb := (hk.2.2.2.1 (r (10 + 4 * i)).toNat (by omega)).1
      refine b_X0_gaps_72 hc.rt hT.n0 (fun w => ?_) (fun _ => ?_)
      · have := (iN_le (by omega)).mp w; omega
      refine b_X0_gaps_83 hc.ru hU.f3 hc.rt hT.f1 hT.2.1.o (s_get hT.2.1 (z := (i : Int)) (by omega) (by omega)) (fun v h3 hv => ?_)
      obtain ⟨rfl, rfl⟩ := hv
      rw [Int.toNat_natCast, ati.1]
      refine b_X0_gaps_101 hU.2.2.2.1.o (s_get hU.2.2.2.1 (z := r (10 + 4 * i)) (by omega) (by omega)) (fun v h3 hv => ?_)
      obtain ⟨rfl, rfl⟩ := hv
      rw [(au (r (10 + 4 * i)).toNat (by omega)).2.2.1]
      refine b_X0_gaps_104 (fun w => ?_) (fun w => ?_)
      · refine b_X0_gaps_121 ?_
        rw [if_neg (fun z => w (by rw [z]))] at hk9
        rw [e]; exact hk9
      · rw [if_pos ((iN_eq (by omega)).mp w)] at hk9
        refine b_X0_gaps_107 hc.rt hT.f3 hT.2.2.2.1.o (s_get hT.2.2.2.1 (z := (i : Int)) (by omega) (by omega)) (fun v h3 hv => ?_)
        obtain ⟨rfl, rfl⟩ := hv
        rw [Int.toNat_natCast, ati.2.2.1]
        refine b_X0_gaps_119 ?_
        rw [e]; exact hk9
  have H1 : ∀ (n i : Nat), i + n = (lastU r + 1).toNat → AW mX0_gaps 2 0 0 12 [.ref c, .int (iN (lastU r)), .int (iN (gapS r i)), .int (iN (i : Int))] [] h2 (qI fun v h1 => v = gapsV r ∧ h1 = h2) := by
    intro n
    induction n with
    | zero =>
      intro i hi
      refine b_X0_gaps_12 (fun _ => ?_) (fun w => absurd ((iN_lt (by omega)).mpr (by omega)) w)
      refine b_X0_gaps_70 ?_
      rw [show i = (lastU r + 1).toNat by omega]
      exact H2 (nT r) 0 (by omega)
    | succ n ih =>
      intro i hi
      have e : ((i : Int) + 1) = ((i + 1 : Nat) : Int) := by omega
      have hk9 := ih (i + 1) (by omega)
      simp only [gapS] at hk9
      have fb := (hk.2.2.2.1 i (by omega)).1
      have aui := au i (by omega)
      refine b_X0_gaps_12 (fun w => ?_) (fun _ => ?_)
      · have := (iN_lt (by omega)).mp w; omega
      refine b_X0_gaps_17 hc.ru hU.f3 hU.2.2.2.1.o (s_get hU.2.2.2.1 (z := (i : Int)) (by omega) (by omega)) (fun v h3 hv => ?_)
      obtain ⟨rfl, rfl⟩ := hv
      rw [Int.toNat_natCast, aui.2.2.1]
      refine b_X0_gaps_28 (fun w => ?_) (fun w => ?_)
      · rw [if_neg (fun z => w (by rw [z])), Int.add_zero] at hk9
        refine b_X0_gaps_64 ?_
        rw [e]; exact hk9
      · rw [if_pos ((iN_eq (by omega)).mp w)] at hk9
        refine b_X0_gaps_31 (fun w => ?_) (fun w => ?_)
        · have hne : ¬ (i : Int) = lastU r := fun z => w (by rw [z])
          rw [if_neg hne] at hk9
          refine b_X0_gaps_51 hc.ru hU.f2 hU.2.2.1.o (s_get hU.2.2.1 (z := (i : Int)) (by omega) (by omega)) (fun v h3 hv => ?_)
          obtain ⟨rfl, rfl⟩ := hv
          rw [Int.toNat_natCast, aui.2.1]
          refine b_X0_gaps_62 ?_
          rw [e]; exact hk9
        · have heq : (i : Int) = lastU r := (iN_eq (by omega)).mp w
          rw [if_pos heq] at hk9
          refine b_X0_gaps_37 hc.ru hU.f4 hU.2.2.2.2.o (s_get hU.2.2.2.2 (z := (i : Int)) (by omega) (by omega)) (fun v h3 hv => ?_)
          obtain ⟨rfl, rfl⟩ := hv
          rw [Int.toNat_natCast, aui.2.2.2]
          refine b_X0_gaps_48 ?_
          rw [e]; exact hk9
  exact H1 (lastU r + 1).toNat 0 (by omega)
theorem campX.cg {N' : Nat → Int} {X' : Nat → Nat → Int} (hc : campX h c N X) (hN : ∀ j, j < 11 → N j = N' j) (hX : ∀ j, j < 15 → X j = X' j) : campX h c N' X' := by
  unfold campX at *
  rw [← hN 0 (by omega), ← hN 1 (by omega), ← hN 2 (by omega), ← hN 3 (by omega), ← hN 4 (by omega), ← hN 5 (by omega), ← hN 6 (by omega), ← hN 7 (by omega), ← hN 8 (by omega), ← hN 9 (by omega), ← hN 10 (by omega)]
  rw [← hX 0 (by omega), ← hX 1 (by omega), ← hX 2 (by omega), ← hX 3 (by omega), ← hX 4 (by omega), ← hX 5 (by omega), ← hX 6 (by omega), ← hX 7 (by omega), ← hX 8 (by omega), ← hX 9 (by omega), ← hX 10 (by omega), ← hX 11 (by omega), ← hX 12 (by omega), ← hX 13 (by omega), ← hX 14 (by omega)]
  exact hc
theorem s_ccopy {d : Nat} {N' : Nat → Int} {X' : Nat → Nat → Int} (hc : campX h c N X) (hd : campX h d N' X') (hdis : c + 35 ≤ d ∨ d + 35 ≤ c) : CtV mX0_copy 4 0 0 [.ref c, .ref d] h (fun h' => campX h' c N' X' ∧ Off h h' c (c + 35)) := by
  have O : ∀ (h : AH) (j : Nat) (v : Int), Off h (stf h c j (.int (iN v))) c (c + 1) := fun _ _ _ => Off.ofs
  have c1 := hc.setn 0 (N' 0); have d1 := hd.off (O _ 0 (N' 0))
  have c2 := c1.setn 1 (N' 1); have d2 := d1.off (O _ 1 (N' 1))
  have c3 := c2.setn 2 (N' 2); have d3 := d2.off (O _ 2 (N' 2))
  have c4 := c3.setn 3 (N' 3); have d4 := d3.off (O _ 3 (N' 3))
  have c5 := c4.setn 4 (N' 4); have d5 := d4.off (O _ 4 (N' 4))
  have c6 := c5.setn 5 (N' 5); have d6 := d5.off (O _ 5 (N' 5))
  have c7 := c6.setn 6 (N' 6); have d7 := d6.off (O _ 6 (N' 6))
  have o7 := ((((((O h 0 (N' 0)).tr (O _ 1 (N' 1)) c (c + 35)).tr (O _ 2 (N' 2)) c (c + 35)).tr (O _ 3 (N' 3)) c (c + 35)).tr (O _ 4 (N' 4)) c (c + 35)).tr (O _ 5 (N' 5)) c (c + 35)).tr (O _ 6 (N' 6)) c (c + 35)
  refine en_X0_copy (b_X0_copy_0 hd.n0 hc.n0 d1.n1 c1.n1 d2.n2 c2.n2 d3.n3 c3.n3 d4.n4 c4.n4 d5.n5 c5.n5 d6.n6 c6.n6 c7.rv d7.rv c7.v.o (s_rcopy c7.v d7.v) (fun h8 e8 => ?_))
  have o8 := Off.eqw e8 (c + 1) (c + 3)
  have c8 := c7.wv (g := X' 0) (by rw [e8]; exact c7.v.w _) o8
  have d8 := d7.off o8
  refine b_X0_copy_67 c8.rt d8.rt c8.t.o (s_tcopy c8.t d8.t (by omega)) (fun h9 hv => ?_)
  obtain ⟨t9, o9⟩ := hv
  have c9 := c8.wt t9 (o9.up _ _)
  have d9 := d8.off o9
  refine b_X0_copy_78 c9.rf d9.rf c9.f.o (s_frcopy c9.f d9.f (by omega)) (fun h10 hv => ?_)
  obtain ⟨t10, o10⟩ := hv
  have c10 := c9.wf t10 (o10.up _ _)
  have d10 := d9.off o10
  refine b_X0_copy_89 c10.ru d10.ru c10.u.o (s_fcopy c10.u d10.u (by omega)) (fun h11 hv => ?_)
  obtain ⟨t11, o11⟩ := hv
  have c11 := c10.wu t11 (o11.up _ _)
  have d11 := d10.off o11
  refine b_X0_copy_100 c11.rs d11.rs c11.s.o (s_fcopy c11.s d11.s (by omega)) (fun h12 hv => ?_)
  obtain ⟨t12, o12⟩ := hv
  have c12 := c11.ws t12 (o12.up _ _)
  refine b_X0_copy_111 (rV ⟨?_, ((((o7.tr o8 c (c + 35)).tr o9 c (c + 35)).tr o10 c (c + 35)).tr o11 c (c + 35)).tr o12 c (c + 35)⟩)
  refine c12.cg (fun j hj => ?_) (fun j hj => ?_)
  · rcases (show j = 0 ∨ j = 1 ∨ j = 2 ∨ j = 3 ∨ j = 4 ∨ j = 5 ∨ j = 6 ∨ j = 7 ∨ j = 8 ∨ j = 9 ∨ j = 10 by omega) with rfl | rfl | rfl | rfl | rfl | rfl | rfl | rfl | rfl | rfl | rfl <;> rfl
  · rcases (show j = 0 ∨ j = 1 ∨ j = 2 ∨ j = 3 ∨ j = 4 ∨ j = 5 ∨ j = 6 ∨ j = 7 ∨ j = 8 ∨ j = 9 ∨ j = 10 ∨ j = 11 ∨ j = 12 ∨ j = 13 ∨ j = 14 by omega) with rfl | rfl | rfl | rfl | rfl | rfl | rfl | rfl | rfl | rfl | rfl | rfl | rfl | rfl | rfl <;> rfl
theorem allP_clean (u k : Int) : allP (clean u k) = 0 := rfl
theorem s_beginAnew (hc : campX h c N X) (u k k9 : Int) : CtV mX0_beginAnew 0 0 0 [.ref c, .int (iN u), .int (iN k)] h (fun h' => (∃ N' X', campX h' c N' X' ∧ Agr k 0 N' X' (clean u k9)) ∧ Off h h' c (c + 35)) := by
  have O : ∀ (h : AH) (a j : Nat) (v : Int), Off h (stf h a j (.int (iN v))) a (a + 1) := fun _ _ _ _ => Off.ofs
  have c1 := hc.setn 0 u
  have c2 := c1.setn 1 k
  have c3 := c2.setn 2 1
  have c4 := c3.setn 3 0
  have c5 := c4.setn 4 0
  have c6 := c5.setn 5 0
  have c7 := c6.setn 6 0
  have c8 := c7.wt (c7.t.setc 0) ((O _ (c + 3) 0 0).up _ _)
  have c9 := c8.wf (c8.f.setc 0) ((O _ (c + 12) 0 0).up _ _)
  have c10 := c9.wu (c9.u.setc 0) ((O _ (c + 17) 0 0).up _ _)
  have c11 := c10.ws (c10.s.setc 0) ((O _ (c + 26) 0 0).up _ _)
  have o7 := ((((((O h c 0 u).tr (O _ c 1 k) c (c + 35)).tr (O _ c 2 1) c (c + 35)).tr (O _ c 3 0) c (c + 35)).tr (O _ c 4 0) c (c + 35)).tr (O _ c 5 0) c (c + 35)).tr (O _ c 6 0) c (c + 35)
  have o11 := (((o7.tr (O _ (c + 3) 0 0) c (c + 35)).tr (O _ (c + 12) 0 0) c (c + 35)).tr (O _ (c + 17) 0 0) c (c + 35)).tr (O _ (c + 26) 0 0) c (c + 35)
  refine en_X0_beginAnew (b_X0_beginAnew_0 hc.n0 c1.n1 c2.n2 c3.n3 c4.n4 c5.n5 c6.n6 c7.rt c7.t.n0 c8.rf c8.f.n0 c9.ru c9.u.n0 c10.rs c10.s.n0 (rV ⟨⟨_, _, c11, ?_⟩, o11⟩))
  refine ⟨⟨rfl, rfl, rfl, rfl, rfl, rfl, rfl, rfl, rfl, rfl, rfl⟩, fun j hj => ?_, fun t q => ?_, fun i hi => ?_, fun f hf => ?_, fun j hj => ?_⟩
  · rw [allP_clean] at hj; omega
  · change (t : Int) < 0 at q; omega
  · change (i : Int) < 0 at hi; omega
  · change (f : Int) < 0 at hf; omega
  · change (j : Int) < 0 at hj; omega
end CAMP4
