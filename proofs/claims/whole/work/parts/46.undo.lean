/-! the reference's undo -/
section UNDO
variable {h : AH} {m : Nat} {r d : Nat → Int} {rf sz sp gd lf : Int}
theorem s_rundo0 (hm : mob h m rf sz sp gd lf ((0 : Nat) : Int)) : CtI mX9_undo 1 0 0 [.ref m] h (fun v h' => v = 0 ∧ mob h' m 1 sz sp gd lf ((0 : Nat) : Int) ∧ Off h h' m (m + 1)) := by
  refine en_X9_undo (b_X9_undo_0 hm.n10 (fun w => absurd rfl w) (fun _ => ?_))
  refine b_X9_undo_8 hm.o (s_refused hm (w := 1) (by omega)) (fun v h1 hv => ?_)
  obtain ⟨rfl, rfl⟩ := hv
  refine b_X9_undo_16 (fun w => absurd w (by decide)) (fun _ => ?_)
  exact b_X9_undo_19 (rI ⟨rfl, hm.s0 1, Off.ofs⟩)
theorem s_rundo {n : Nat} {D : Nat → Nat → Int} (hm : mob h m rf sz sp gd lf n) (hn : ari h (m + 3) 690 r) (hd : ari h (m + 5) 9660 d) (hn14 : n ≤ 14) (hn0 : 0 < n) (hD : DR d n D) :
    CtI mX9_undo 1 0 0 [.ref m] h (fun v h' => v = ((n - 1 : Nat) : Int) ∧ mob h' m 0 sz sp gd lf ((n - 1 : Nat) : Int) ∧ ari h' (m + 3) 690 (D 0) ∧ DR d (n - 1) (fun i => D (i + 1)) ∧ Off h h' m (m + 8) ∧ ∀ q, q ≠ m → q ≠ m + 3 → h'[q]? = h[q]?) := by
  have e1 : (n : Int) - 1 = ((n - 1 : Nat) : Int) := by omega
  refine en_X9_undo (b_X9_undo_0 hm.n10 (fun _ => ?_) (fun w => by have := (iN_eq (b := 0) (by omega)).mp w; omega))
  refine b_X9_undo_12 hm.o (s_refused hm (w := 0) (by omega)) (fun v h1 hv => ?_)
  obtain ⟨rfl, rfl⟩ := hv
  have o1 : Off h (stf h m 0 (.int (iN 0))) m (m + 1) := Off.ofs
  have hm1 := hm.s0 0
  refine b_X9_undo_16 (fun _ => ?_) (fun w => absurd rfl w)
  have hm2 := hm1.s10 ((n : Int) - 1)
  have o2 : Off (stf h m 0 (.int (iN 0))) (stf (stf h m 0 (.int (iN 0))) m 10 (.int (iN ((n : Int) - 1)))) m (m + 1) := Off.ofs
  have o3 := o1.tr o2 m (m + 1)
  have hn3 : ari (stf (stf h m 0 (.int (iN 0))) m 10 (.int (iN ((n : Int) - 1)))) (m + 3) 690 r := (o3.2 _ (by omega)).trans hn
  have hd3 : ari (stf (stf h m 0 (.int (iN 0))) m 10 (.int (iN ((n : Int) - 1)))) (m + 5) 9660 d := (o3.2 _ (by omega)).trans hd
  have e5 : (690 * ((n : Int) - 1)) = ((690 * (n - 1) : Nat) : Int) := by omega
  refine b_X9_undo_21 hm1.n10 hm1.n10 hm2.r9 hm2.n10 hm2.r7 (by rw [e5]; exact s_cpD hd3 hn3 (by omega) (690 * (n - 1)) 0 690 (by omega) (by omega) (by omega) (by omega)) (fun h4 e4 => ?_)
  have o4 : Off (stf (stf h m 0 (.int (iN 0))) m 10 (.int (iN ((n : Int) - 1)))) h4 (m + 3) (m + 4) := Off.eqw e4 (m + 3) (m + 4)
  have hm4 := hm2.off o4
  have hn4 : ari h4 (m + 3) 690 (cpD d r (690 * (n - 1)) 0 690) := by rw [e4]; exact wr_at hn3.lt
  refine b_X9_undo_54 hm4.n10 (rI ⟨e1, by rw [← e1]; exact hm4, hn4.congr (fun k hk => ?_), fun i hi k hk => ?_, o3.tr o4 m (m + 8), fun q q1 q2 => (o4.2 q (by omega)).trans (o3.2 q (by omega))⟩)
  · unfold cpD
    rw [if_pos (by omega), Nat.sub_zero, hD (n - 1) (by omega) k hk, show n - 1 - (n - 1) = 0 by omega]
  · rw [hD i (by omega) k hk, show n - 1 - i = n - 1 - 1 - i + 1 by omega]
end UNDO
