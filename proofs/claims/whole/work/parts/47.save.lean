/-! the reference's save slots -/
def bk (h : AH) (q : Nat) (b : Nat → Bool) : Prop := h[q]? = some (12, [.int (iN (bI (b 0))), .int (iN (bI (b 1)))])
/-- the kept rows -/
def KR (d : Nat → Int) (b : Nat → Bool) (K : Nat → Nat → Int) : Prop := ∀ i, i < 2 → b i = true → ∀ k, k < 690 → d (690 * i + k) = K i k
section SAVE
variable {h h' : AH} {m q lo hi : Nat} {r d : Nat → Int} {b : Nat → Bool} {K : Nat → Nat → Int} {rf sz sp gd lf ac : Int}
theorem bk.off (hb : bk h q b) (ho : Off h h' lo hi) (hd : q < lo ∨ hi ≤ q := by omega) : bk h' q b := (ho.2 q (by omega)).trans hb
theorem bk.g (hb : bk h q b) {s : Nat} (hs : s < 2) : sei h q 12 (s : Int) (.int (iN (bI (b s)))) := by
  refine ⟨_, hb, by omega, ?_⟩
  rw [Int.toNat_natCast]
  rcases (show s = 0 ∨ s = 1 by omega) with rfl | rfl <;> rfl
theorem bk.w (hb : bk h q b) {s : Nat} (hs : s < 2) : bk (stf h q ((s : Int)).toNat (.int (iN 1))) q (fun i => if i = s then true else b i) := by
  unfold bk
  rw [Int.toNat_natCast, stf_at hb]
  have hl := (List.getElem?_eq_some_iff.mp hb).1
  rcases (show s = 0 ∨ s = 1 by omega) with rfl | rfl <;> simp [hl, bI]
theorem s_rsaveN (hm : mob h m rf sz sp gd lf ac) {s : Int} (hr : -2147483648 ≤ s ∧ s < 2147483648) (hs : ¬ (0 ≤ s ∧ s ≤ 1)) : CtI mX9_save 1 0 0 [.ref m, .int (iN s)] h (fun v h' => v = 0 ∧ mob h' m 1 sz sp gd lf ac ∧ Off h h' m (m + 1)) := by
  have e := iN_T hr
  refine en_X9_save (b_X9_save_0 (s_in (by omega) (by omega) (by omega)) (fun v h1 hv => ?_))
  obtain ⟨rfl, rfl⟩ := hv
  rw [e, decide_eq_false hs]
  refine b_X9_save_8 (fun _ => ?_) (fun w => absurd rfl w)
  refine b_X9_save_15 hm.o (s_refused hm (w := 1) (by omega)) (fun v h2 hv => ?_)
  obtain ⟨rfl, rfl⟩ := hv
  refine b_X9_save_19 (fun w => absurd w (by decide)) (fun _ => ?_)
  exact b_X9_save_22 (rI ⟨rfl, hm.s0 1, Off.ofs⟩)
theorem s_rsave (hm : mob h m rf sz sp gd lf ac) (hn : ari h (m + 3) 690 r) (hd : ari h (m + 6) 1380 d) (hb : bk h (m + 7) b) (hK : KR d b K) {s : Nat} (hs : s < 2) :
    CtI mX9_save 1 0 0 [.ref m, .int (iN s)] h (fun v h' => v = r 0 ∧ mob h' m 0 sz sp gd lf ac ∧ bk h' (m + 7) (fun i => if i = s then true else b i) ∧ (∃ d', ari h' (m + 6) 1380 d' ∧ KR d' (fun i => if i = s then true else b i) (fun i => if i = s then r else K i)) ∧ Off h h' m (m + 8) ∧ ∀ q, q ≠ m → q ≠ m + 6 → q ≠ m + 7 → h'[q]? = h[q]?) := by
  have e := iN_T (z := (s : Int)) (by omega)
  refine en_X9_save (b_X9_save_0 (s_in (by omega) (by omega) (by omega)) (fun v h1 hv => ?_))
  obtain ⟨rfl, rfl⟩ := hv
  rw [e, decide_eq_true (by omega)]
  refine b_X9_save_8 (fun w => absurd w (by decide)) (fun _ => ?_)
  refine b_X9_save_11 hm.o (s_refused hm (w := 0) (by omega)) (fun v h2 hv => ?_)
  obtain ⟨rfl, rfl⟩ := hv
  have o1 : Off h1 (stf h1 m 0 (.int (iN 0))) m (m + 1) := Off.ofs
  have hm1 := hm.s0 0
  have hn1 : ari (stf h1 m 0 (.int (iN 0))) (m + 3) 690 r := (o1.2 _ (by omega)).trans hn
  have hd1 : ari (stf h1 m 0 (.int (iN 0))) (m + 6) 1380 d := (o1.2 _ (by omega)).trans hd
  refine b_X9_save_19 (fun _ => ?_) (fun w => absurd rfl w)
  have e5 : (690 * (s : Int)) = ((690 * s : Nat) : Int) := by omega
  refine b_X9_save_24 hm1.r7 hm1.r11 (by rw [e5]; exact s_cpD hn1 hd1 (by omega) 0 (690 * s) 690 (by omega) (by omega) (by omega) (by omega)) (fun h3 e3 => ?_)
  have o3 : Off (stf h1 m 0 (.int (iN 0))) h3 (m + 6) (m + 7) := Off.eqw e3 (m + 6) (m + 7)
  have hm3 := hm1.off o3
  have hb3 := (hb.off o1).off o3
  have hd3 : ari h3 (m + 6) 1380 (cpD r d 0 (690 * s) 690) := by rw [e3]; exact wr_at hd1.lt
  have hn3 : ari h3 (m + 3) 690 r := (o3.2 _ (by omega)).trans hn1
  have o4 : Off h3 (stf h3 (m + 7) ((s : Int)).toNat (.int (iN 1))) (m + 7) (m + 8) := Off.ofs
  have hn4 : ari (stf h3 (m + 7) ((s : Int)).toNat (.int (iN 1))) (m + 3) 690 r := (o4.2 _ (by omega)).trans hn3
  refine b_X9_save_44 hm3.r12 (hb3.g hs) (hm3.off o4).r7 (hn4.g 0) (rI ⟨rfl, hm3.off o4, hb3.w hs, ⟨_, (o4.2 _ (by omega)).trans hd3, fun i hi hbi k hk => ?_⟩, (o1.tr o3 m (m + 8)).tr o4 m (m + 8), fun q q1 q2 q3 => (o4.2 q (by omega)).trans ((o3.2 q (by omega)).trans (o1.2 q (by omega)))⟩)
  show _ = (if i = s then r else K i) k
  unfold cpD
  by_cases q : i = s
  · subst q
    rw [if_pos (by omega), if_pos rfl, show 0 + (690 * i + k - 690 * i) = k by omega]
  · rw [if_neg (by omega), if_neg q]
    exact hK i hi (by simpa [q] using hbi) k hk
end SAVE
