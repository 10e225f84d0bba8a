/-! the reference's restore -/
section RESTORE
variable {h : AH} {m : Nat} {r d : Nat → Int} {b : Nat → Bool} {K : Nat → Nat → Int} {rf sz sp gd lf ac : Int}
theorem s_rrestN (hm : mob h m rf sz sp gd lf ac) {s : Int} (hr : -2147483648 ≤ s ∧ s < 2147483648) (hs : ¬ (0 ≤ s ∧ s ≤ 1)) : CtI mX9_restore 1 0 0 [.ref m, .int (iN s)] h (fun v h' => v = 0 ∧ mob h' m 1 sz sp gd lf ac ∧ Off h h' m (m + 1)) := by
  have e := iN_T hr
  refine en_X9_restore (b_X9_restore_0 (s_in (by omega) (by omega) (by omega)) (fun v h1 hv => ?_))
  obtain ⟨rfl, rfl⟩ := hv
  rw [e, decide_eq_false hs]
  refine b_X9_restore_8 (fun w => absurd rfl w) (fun _ => ?_)
  refine b_X9_restore_11 hm.o (s_refused hm (w := 1) (by omega)) (fun v h2 hv => ?_)
  obtain ⟨rfl, rfl⟩ := hv
  refine b_X9_restore_32 (fun w => absurd w (by decide)) (fun _ => ?_)
  exact b_X9_restore_35 (rI ⟨rfl, hm.s0 1, Off.ofs⟩)
theorem s_rrestE (hm : mob h m rf sz sp gd lf ac) (hb : bk h (m + 7) b) {s : Nat} (hs : s < 2) (he : b s = false) : CtI mX9_restore 1 0 0 [.ref m, .int (iN s)] h (fun v h' => v = 0 ∧ mob h' m 2 sz sp gd lf ac ∧ Off h h' m (m + 1)) := by
  have e := iN_T (z := (s : Int)) (by omega)
  refine en_X9_restore (b_X9_restore_0 (s_in (by omega) (by omega) (by omega)) (fun v h1 hv => ?_))
  obtain ⟨rfl, rfl⟩ := hv
  rw [e, decide_eq_true (by omega)]
  refine b_X9_restore_8 (fun _ => ?_) (fun w => absurd w (by decide))
  refine b_X9_restore_15 hm.r12 (hb.g hs) (fun _ => ?_) (fun w => absurd (bI_0.mpr he) w)
  refine b_X9_restore_28 hm.o (s_refused hm (w := 2) (by omega)) (fun v h2 hv => ?_)
  obtain ⟨rfl, rfl⟩ := hv
  refine b_X9_restore_32 (fun w => absurd w (by decide)) (fun _ => ?_)
  exact b_X9_restore_35 (rI ⟨rfl, hm.s0 2, Off.ofs⟩)
theorem s_rrest (hm : mob h m rf sz sp gd lf ac) (hn : ari h (m + 3) 690 r) (hd : ari h (m + 6) 1380 d) (hb : bk h (m + 7) b) (hK : KR d b K) {s : Nat} (hs : s < 2) (he : b s = true) :
    CtI mX9_restore 1 0 0 [.ref m, .int (iN s)] h (fun v h' => v = K s 0 ∧ mob h' m 0 sz sp gd lf 0 ∧ ari h' (m + 3) 690 (K s) ∧ Off h h' m (m + 8) ∧ ∀ q, q ≠ m → q ≠ m + 3 → h'[q]? = h[q]?) := by
  have e := iN_T (z := (s : Int)) (by omega)
  refine en_X9_restore (b_X9_restore_0 (s_in (by omega) (by omega) (by omega)) (fun v h1 hv => ?_))
  obtain ⟨rfl, rfl⟩ := hv
  rw [e, decide_eq_true (by omega)]
  refine b_X9_restore_8 (fun _ => ?_) (fun w => absurd w (by decide))
  refine b_X9_restore_15 hm.r12 (hb.g hs) (fun w => by rw [bI_0.mp w] at he; exact absurd he (by decide)) (fun _ => ?_)
  refine b_X9_restore_24 hm.o (s_refused hm (w := 0) (by omega)) (fun v h2 hv => ?_)
  obtain ⟨rfl, rfl⟩ := hv
  have o1 : Off h1 (stf h1 m 0 (.int (iN 0))) m (m + 1) := Off.ofs
  have hm1 := hm.s0 0
  have hn1 : ari (stf h1 m 0 (.int (iN 0))) (m + 3) 690 r := (o1.2 _ (by omega)).trans hn
  have hd1 : ari (stf h1 m 0 (.int (iN 0))) (m + 6) 1380 d := (o1.2 _ (by omega)).trans hd
  refine b_X9_restore_32 (fun _ => ?_) (fun w => absurd rfl w)
  have e5 : (690 * (s : Int)) = ((690 * s : Nat) : Int) := by omega
  refine b_X9_restore_37 hm1.r11 hm1.r7 (by rw [e5]; exact s_cpD hd1 hn1 (by omega) (690 * s) 0 690 (by omega) (by omega) (by omega) (by omega)) (fun h3 e3 => ?_)
  have o3 : Off (stf h1 m 0 (.int (iN 0))) h3 (m + 3) (m + 4) := Off.eqw e3 (m + 3) (m + 4)
  have hm3 := hm1.off o3
  have hn3 : ari h3 (m + 3) 690 (K s) := by
    have : ari h3 (m + 3) 690 (cpD d r (690 * s) 0 690) := by rw [e3]; exact wr_at hn1.lt
    refine this.congr (fun k hk => ?_)
    unfold cpD
    rw [if_pos (by omega), Nat.sub_zero, hK s hs he k hk]
  have hm4 := hm3.s10 0
  have o4 : Off h3 (stf h3 m 10 (.int (iN 0))) m (m + 1) := Off.ofs
  have hn4 : ari (stf h3 m 10 (.int (iN 0))) (m + 3) 690 (K s) := (o4.2 _ (by omega)).trans hn3
  exact b_X9_restore_57 hm3.n10 hm4.r7 (hn4.g 0) (rI ⟨rfl, hm4, hn4, (o1.tr o3 m (m + 8)).tr o4 m (m + 8), fun q q1 q2 => (o4.2 q (by omega)).trans ((o3.2 q (by omega)).trans (o1.2 q (by omega)))⟩)
end RESTORE
