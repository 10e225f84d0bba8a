/-! entering, leaving, gaps, copies, a camp begun anew -/
section CAMP3
variable {h : AH} {c : Nat} {N : Nat → Int} {X : Nat → Nat → Int} {k m : Int} {r : Nat → Int}
/-- rows that differ at the frames and their count alone -/
theorem Agr.fr {g : Nat → Int} {N' : Nat → Int} {X' : Nat → Nat → Int} (ha : Agr k m N X r) (hr : ∀ c, c ≠ 3 → c < 418 ∨ 434 ≤ c → g c = r c) (hg : okG r) (h0 : r 0 ≤ 24)
    (hN : ∀ j, j ≠ 8 → N' j = N j) (hX : ∀ j, j ≠ 5 → j ≠ 6 → X' j = X j) (h8 : N' 8 = g 3) (hf : ∀ i : Nat, (i : Int) < g 3 → X' 5 i = g (418 + 2 * i) ∧ X' 6 i = g (419 + 2 * i)) : Agr k m N' X' g := by
  have hn := hg.n
  have h1 := hg.k.1
  have h2 := hg.k.2.1
  obtain ⟨⟨b0, b1, b2, b3, b4, b5, b6, b7, b8, b9, b10⟩, bv, bt, bf, bu, bs⟩ := ha
  have e1 : g 1 = r 1 := hr 1 (by omega) (by omega)
  have e2 : g 2 = r 2 := hr 2 (by omega) (by omega)
  have eA : allP g = allP r := by
    unfold allP useP sparP nF nS
    rw [e1, e2]
    congr 1
    · exact sm_congr (fun f hf => hr _ (by omega) (by omega))
    · exact sm_congr (fun f hf => hr _ (by omega) (by omega))
  refine ⟨⟨?_, ?_, ?_, ?_, ?_, ?_, ?_, ?_, h8, ?_, ?_⟩, fun j hj => ?_, fun t q => ?_, hf, fun f hf => ?_, fun i hi => ?_⟩
  · rw [hN 0 (by omega), hr 7 (by omega) (by omega)]; exact b0
  · rw [hN 1 (by omega)]; exact b1
  · rw [hN 2 (by omega), hr 9 (by omega) (by omega)]; exact b2
  · rw [hN 3 (by omega), hr 6 (by omega) (by omega)]; exact b3
  · rw [hN 4 (by omega), hr 4 (by omega) (by omega)]; exact b4
  · rw [hN 5 (by omega)]; exact b5
  · rw [hN 6 (by omega), eA]; exact b6
  · rw [hN 7 (by omega), hr 0 (by omega) (by omega)]; exact b7
  · rw [hN 9 (by omega), e1]; exact b9
  · rw [hN 10 (by omega), e2]; exact b10
  · rw [eA] at hj; rw [hX 0 (by omega) (by omega), hr _ (by omega) (by omega)]; exact bv j hj
  · rw [hr 0 (by omega) (by omega)] at q
    rw [hX 1 (by omega) (by omega), hX 2 (by omega) (by omega), hX 3 (by omega) (by omega), hX 4 (by omega) (by omega), hr _ (by omega) (by omega), hr _ (by omega) (by omega), hr _ (by omega) (by omega), hr _ (by omega) (by omega)]; exact bt t q
  · rw [e1] at hf
    rw [hX 7 (by omega) (by omega), hX 8 (by omega) (by omega), hX 9 (by omega) (by omega), hX 10 (by omega) (by omega), hr _ (by omega) (by omega), hr _ (by omega) (by omega), hr _ (by omega) (by omega), hr _ (by omega) (by omega)]; exact bu f hf
  · rw [e2] at hi
    rw [hX 11 (by omega) (by omega), hX 12 (by omega) (by omega), hr _ (by omega) (by omega), hr _ (by omega) (by omega)]; exact bs i hi
theorem s_goIn (hc : campX h c N X) (ha : Agr k m N X r) (hg : okG r) (h0 : 0 ≤ r 0 ∧ r 0 ≤ 24) (h3 : 0 ≤ r 3 ∧ r 3 < 8) : CtI mX0_goIn 1 0 0 [.ref c] h (fun v h' => v = r 3 ∧ (∃ N' X', campX h' c N' X' ∧ Agr k m N' X' (enterIn r)) ∧ Off h h' c (c + 35)) := by
  have n3 : r 3 = (nR r : Int) := by unfold nR; omega
  have hF := hc.ff ha h3.1
  obtain ⟨b0, b1, b2, b3, b4, b5, b6, b7, b8, b9, b10⟩ := ha.nums
  refine en_X0_goIn (b_X0_goIn_0 hc.rf hF.n0 (fun _ => ?_) (fun w => absurd ((iN_lt (by omega)).mpr (by omega)) w))
  refine b_X0_goIn_14 hc.rf hF.n0 hc.rf hF.f1 hc.rt hc.t.n0 hF.2.1.o (s_put hF.2.1 (z := (nR r : Int)) (by omega) (by omega)) (fun h1 e1 => ?_)
  rw [Int.toNat_natCast, b7] at e1
  have hF1 : frames h1 (c + 12) (nR r) (up (X 5) (nR r) (r 0)) (X 6) := by rw [e1]; exact hF.w1 _
  have o1 : Off h h1 (c + 12) (c + 17) := Off.eqw e1 (c + 12) (c + 17)
  have hc1 := hc.wf hF1 o1
  refine b_X0_goIn_40 hc1.rf hF1.f2 hc1.ru hc1.u.n0 hF1.2.2.o (s_put hF1.2.2 (z := (nR r : Int)) (by omega) (by omega)) (fun h2 e2 => ?_)
  rw [Int.toNat_natCast] at e2
  have e9 : up N 8 (nR r : Int) 9 = r 1 := b9
  rw [e9] at e2
  have hF2 : frames h2 (c + 12) (nR r) (up (X 5) (nR r) (r 0)) (up (X 6) (nR r) (r 1)) := by rw [e2]; exact hF1.w2 _
  have o2 : Off h1 h2 (c + 12) (c + 17) := Off.eqw e2 (c + 12) (c + 17)
  have hc2 := hc1.wf hF2 o2
  have hF3 := hF2.setc ((nR r : Int) + 1)
  have o3 : Off h2 (stf h2 (c + 12) 0 (.int (iN ((nR r : Int) + 1)))) (c + 12) (c + 17) := Off.ofs.up _ _
  have hc3 := hc2.wf hF3 o3
  refine b_X0_goIn_58 hc2.rf hF2.n0 hF2.n0 (rI ⟨n3.symm, ⟨_, _, hc3, ?_⟩, (o1.tr o2 c (c + 35)).tr o3 c (c + 35)⟩)
  refine ha.fr (fun c q1 q2 => ?_) hg h0.2 (fun j hj => ?_) (fun j q5 q6 => ?_) ?_ (fun i hi => ?_)
  · unfold enterIn
    rw [up_ne _ _ q1, up_ne _ _ (by omega), up_ne _ _ (by omega)]
  · rw [up_ne _ _ hj, up_ne _ _ hj, up_ne _ _ hj]
  · unfold upX
    rw [if_neg q6, if_neg q5, if_neg q6, if_neg q5, if_neg q6, if_neg q5]
  · show (nR r : Int) + 1 = up _ 3 _ 3
    rw [up_same, n3]
  · unfold enterIn at hi ⊢
    rw [up_same] at hi
    rw [up_ne _ _ (by omega), up_ne _ _ (show 419 + 2 * i ≠ 3 by omega)]
    show up (X 5) _ _ i = _ ∧ up (X 6) _ _ i = _
    by_cases q : i = nR r
    · rw [q, up_same, up_same, up_ne _ _ (by omega), up_same, up_same]
      exact ⟨rfl, rfl⟩
    · rw [up_ne _ _ q, up_ne _ _ q, up_ne _ _ (by omega), up_ne _ _ (by omega), up_ne _ _ (by omega), up_ne _ _ (by omega)]
      exact ha.2.2.2.1 i (by omega)
theorem s_goInN (hc : campX h c N X) (ha : Agr k m N X r) (h3 : r 3 = 8) : CtI mX0_goIn 1 0 0 [.ref c] h (fun v h' => v = -1 ∧ h' = h) := by
  have hF := hc.ff ha (by omega)
  have n3 : r 3 = (nR r : Int) := by unfold nR; omega
  refine en_X0_goIn (b_X0_goIn_0 hc.rf hF.n0 (fun w => ?_) (fun _ => ?_))
  · have := (iN_lt (by omega)).mp w; omega
  · exact b_X0_goIn_12 (rI ⟨rfl, rfl⟩)
theorem s_goOut (hc : campX h c N X) (ha : Agr (r 8) m N X r) (h3 : 0 < r 3 ∧ r 3 ≤ 8) (hj : okJ r (nR r - 1)) : CtI mX0_goOut 5 0 0 [.ref c] h (fun v h' => v = strV r (nR r - 1) ∧ (∃ N' X', campX h' c N' X' ∧ Agr (r 8) m N' X' (leaveIn r)) ∧ Off h h' c (c + 35)) := by
  have hF := hc.ff ha (by omega)
  have n3 : (nR r : Int) - 1 = ((nR r - 1 : Nat) : Int) := by unfold nR; omega
  have n4 : r 3 = (nR r : Int) := by unfold nR; omega
  have hb := hj.1
  have h38 : nR r - 1 < 8 := by omega
  have hv : 0 ≤ strV r (nR r - 1) ∧ strV r (nR r - 1) ≤ 24 := by
    have h1 := hb.2.2.2.2.1
    have h2 := hb.2.1.1
    unfold strV; omega
  refine en_X0_goOut (b_X0_goOut_0 hc.rf hF.n0 hc.o (by rw [n3]; exact s_goBackX hc ha (by omega) hj) (fun v h1 hv => ?_))
  obtain ⟨rfl, ⟨N1, X1, hc1, ha1⟩, o1⟩ := hv
  refine b_X0_goOut_13 (fun w => ?_) (fun _ => ?_)
  · have := (iN_eq (by omega)).mp w; omega
  have J3 : jumpIn r (nR r - 1) 3 = r 3 := by
    show up _ 3 _ 3 = _
    rw [up_same]; omega
  have n8 : N1 8 = r 3 := ha1.nums.2.2.2.2.2.2.2.2.1.trans J3
  have hF1 := hc1.f.setc (r 3 - 1)
  have o2 : Off h1 (stf h1 (c + 12) 0 (.int (iN (r 3 - 1)))) (c + 12) (c + 17) := Off.ofs.up _ _
  have hc2 := hc1.wf hF1 o2
  have hf0 : fld h1 (c + 12) 2 0 (.int (iN (r 3))) := hc1.f.n0.ev n8
  refine b_X0_goOut_19 hc1.rf hf0 hf0 (rI ⟨rfl, ⟨_, _, hc2, ?_⟩, o1.tr o2 c (c + 35)⟩)
  have s3 : strikeB r (nR r - 1) 3 = r 3 := strB_c h38 hb 3 (by omega) (by omega) (by omega)
  have L : ∀ c, c ≠ 3 → leaveIn r c = jumpIn r (nR r - 1) c := fun c hc => by
    unfold leaveIn jumpIn
    rw [up_ne _ _ hc, up_ne _ _ hc]
  have L3 : leaveIn r 3 = r 3 - 1 := up_same _ _ _
  obtain ⟨⟨b0, b1, b2, b3, b4, b5, b6, b7, b8, b9, b10⟩, bv, bt, bf, bu, bs⟩ := ha1
  have eA : allP (leaveIn r) = allP (jumpIn r (nR r - 1)) := by
    unfold allP useP sparP nF nS
    rw [L 1 (by omega), L 2 (by omega)]
    congr 1
    · exact sm_congr (fun f _ => L _ (by omega))
    · exact sm_congr (fun f _ => L _ (by omega))
  refine ⟨⟨?_, b1, ?_, ?_, ?_, b5, ?_, ?_, ?_, ?_, ?_⟩, fun j hj => ?_, fun t q => ?_, fun i' hi' => ?_, fun f hf => ?_, fun j hj => ?_⟩
  · rw [L 7 (by omega)]; exact b0
  · rw [L 9 (by omega)]; exact b2
  · rw [L 6 (by omega)]; exact b3
  · rw [L 4 (by omega)]; exact b4
  · rw [eA]; exact b6
  · rw [L 0 (by omega)]; exact b7
  · rw [L3]; rfl
  · rw [L 1 (by omega)]; exact b9
  · rw [L 2 (by omega)]; exact b10
  · rw [eA] at hj; rw [L _ (by omega)]; exact bv j hj
  · rw [L 0 (by omega)] at q
    rw [L _ (by omega), L _ (by omega), L _ (by omega), L _ (by omega)]; exact bt t q
  · rw [L3] at hi'
    rw [L _ (by omega), L _ (by omega)]; exact bf i' (by omega)
  · rw [L 1 (by omega)] at hf
    rw [L _ (by omega), L _ (by omega), L _ (by omega), L _ (by omega)]; exact bu f hf
  · rw [L 2 (by omega)] at hj
    rw [L _ (by omega), L _ (by omega)]; exact bs j hj
theorem s_goOutN (hc : campX h c N X) (ha : Agr k m N X r) (h3 : r 3 = 0) : CtI mX0_goOut 5 0 0 [.ref c] h (fun v h' => v = -1 ∧ h' = h) := by
  have hF := hc.ff ha (by omega)
  have n3 : nR r = 0 := by unfold nR; omega
  refine en_X0_goOut (b_X0_goOut_0 hc.rf hF.n0 hc.o (by rw [n3]; exact s_goBackN hc ha (by omega) (i := -1) (by omega) (by omega)) (fun v h1 hv => ?_))
  obtain ⟨rfl, rfl⟩ := hv
  exact b_X0_goOut_13 (fun _ => b_X0_goOut_32 (rI ⟨rfl, rfl⟩)) (fun w => absurd rfl w)
/-! gaps -/
def gapS (r : Nat → Int) : Nat → Int
  | 0 => 0
  | f + 1 => gapS r f + if r (107 + 4 * f) = 0 then (if (f : Int) = lastU r then r (108 + 4 * f) else r (106 + 4 * f)) else 0
def tnS (r : Nat → Int) (s : Int) : Nat → Int
  | 0 => s
  | t + 1 => if r (107 + 4 * (r (10 + 4 * t)).toNat) = 0 then tnS r s t - r (12 + 4 * t) else tnS r s t
/-- tents on usual ones of the first M fields -/
def usT (r : Nat → Int) (M : Nat) : Nat → Int
  | 0 => 0
  | t + 1 => usT r M t + if r (107 + 4 * (r (10 + 4 * t)).toNat) = 0 ∧ r (10 + 4 * t) < M then r (12 + 4 * t) else 0
theorem usT_s (M : Nat) : ∀ n : Nat, (∀ t, t < n → 0 ≤ r (10 + 4 * t)) → usT r (M + 1) n = usT r M n + if r (107 + 4 * M) = 0 then onF r M n else 0
  | 0, _ => by simp [usT, onF]
  | n + 1, h => by
    have ih := usT_s M n (fun t ht => h t (by omega))
    have h0 := h n (by omega)
    simp only [usT, onF]
    rw [ih]
    by_cases q : r (10 + 4 * n) = M
    · have e : (r (10 + 4 * n)).toNat = M := by omega
      rw [e]
      repeat' split
      all_goals omega
    · repeat' split
      all_goals omega
theorem gap_s (hp : ∀ t, t < nT r → 0 ≤ r (10 + 4 * t)) : ∀ M : Nat, gapF r M = gapS r M - usT r M (nT r)
  | 0 => by
    have : ∀ n : Nat, (∀ t, t < n → 0 ≤ r (10 + 4 * t)) → usT r 0 n = 0 := by
      intro n
      induction n with
      | zero => intro _; rfl
      | succ n ih =>
        intro h
        have h0 := h n (by omega)
        simp only [usT]
        rw [ih (fun t ht => h t (by omega)), if_neg (by omega)]; rfl
    rw [this _ hp]; rfl
  | M + 1 => by
    have ih := gap_s hp M
    simp only [gapF, gapS]
    rw [usT_s M _ hp, ih]
    split <;> omega
theorem lst_le (g : Nat → Int) : ∀ {n f : Nat}, f < n → g f = 0 → (f : Int) ≤ lst g n
  | 0, _, h, _ => by omega
  | n + 1, f, h, h0 => by
    simp only [lst]
    by_cases q : f = n
    · rw [← q, if_pos h0]; exact Int.le_refl _
    · split
      · omega
      · exact lst_le g (by omega) h0
theorem tn_us (s : Int) (M : Nat) : ∀ n : Nat, (∀ t, t < n → r (107 + 4 * (r (10 + 4 * t)).toNat) = 0 → r (10 + 4 * t) < M) → tnS r s n = s - usT r M n
  | 0, _ => by simp [tnS, usT]
  | n + 1, h => by
    simp only [tnS, usT]
    rw [tn_us s M n (fun t ht => h t (by omega))]
    by_cases b : r (107 + 4 * (r (10 + 4 * n)).toNat) = 0
    · rw [if_pos b, if_pos ⟨b, h n (by omega) b⟩]; omega
    · rw [if_neg b, if_neg (fun z => b z.1)]; omega
theorem gaps_eq (hg : okG r) (ht : okT r) : tnS r (gapS r (lastU r + 1).toNat) (nT r) = gapsV r := by
  have hl := hg.k.lu
  rw [tn_us _ (lastU r + 1).toNat]
  · unfold gapsV
    rw [gap_s (fun t h => (ht.2 t h).1.1)]
  · intro t h b
    have h1 := (ht.2 t h).1
    have := lst_le (fun f => r (107 + 4 * f)) (n := nF r) (f := (r (10 + 4 * t)).toNat) (by unfold nF; omega) b
    unfold lastU at hl ⊢; omega
end CAMP3
