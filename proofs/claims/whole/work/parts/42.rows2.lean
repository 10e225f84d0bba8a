/-! the reference: more, begin, remember -/
section ROWS2
variable {h : AH} {m : Nat} {r tr d : Nat → Int} {rf sz sp gd lf ac : Int}
theorem s_moreR {z s : Int} (hm : mob h m rf sz sp gd lf ac) (ht : ari h (m + 4) 690 r) (hg : okG r) (h5 : allP r ≤ r 5 ∧ r 5 ≤ 256) (hz : 1 ≤ z ∧ z ≤ 40) (hs : 1 ≤ s ∧ s ≤ 8) {mc ms : Nat} {w : Int} {Q : AR → AH → Prop}
    (hQ : ∀ h', (∃ g, RA h (m + 4) g h') → Q (.inl (some (.int (iN (mrV z s 257 r))))) h') : AW mX9_more 5 mc ms 45 [.ref m, .int (iN z), .int (iN s), .int (iN w), .int (iN 0)] [] h Q := by
  have H : ∀ (q i : Nat) (h1 : AH) (g : Nat → Int), i + q = 257 → RA h (m + 4) g h1 → okG g → (allP g ≤ g 5 ∧ g 5 ≤ 256) → (i : Int) ≤ endS g → mrV z s 257 r = i + mrV z s q g → AW mX9_more 5 mc ms 45 [.ref m, .int (iN z), .int (iN s), .int (iN w), .int (iN (i : Int))] [] h1 Q := by
    intro q
    induction q with
    | zero =>
      intro i h1 g hi ra og g5 he e
      have := endS_le og; omega
    | succ q ih =>
      intro i h1 g hi ra og g5 he e
      have hm1 := hm.off (ra.off (m + 4) (m + 5))
      have gap := og.k.ap
      have e1 : ((i : Int) + 1) = ((i + 1 : Nat) : Int) := by omega
      have ew : mrV z s (q + 1) g = if whereIn g z s = 3 then 0 else 1 + mrV z s q (pitchOn g z s) := rfl
      rw [ew] at e
      have hw := where_rg g z s
      refine b_X9_more_45 hm1.r8 (s_pitchOn ra.a og (by omega) hz hs) (fun v h2 hv => ?_)
      obtain ⟨rfl, rb⟩ := hv
      by_cases w3 : whereIn g z s = 3
      · have et : pitchV g z s = -1 := by unfold pitchV; rw [if_pos w3]
        rw [if_pos w3] at e
        rw [et]
        refine b_X9_more_54 (fun _ => ?_) (fun w => absurd rfl w)
        have fin := hQ h2 ⟨_, ra.tr rb⟩
        rw [e, Int.add_zero] at fin
        exact b_X9_more_64 fin
      · rw [if_neg w3] at e
        have f := pF_sp og w3 hz hs
        have hro := og.k.ro (z := z) hs
        obtain ⟨q1, q2, q3, q4⟩ := mr_step og g5 hz hs
        have a1 := endS_up og hz hs w3
        have pr : pitchV g z s ≤ 1000 := by
          unfold pitchV
          split
          · omega
          · split <;> omega
        refine b_X9_more_54 (fun w => ?_) (fun _ => ?_)
        · have := (iN_eq (by omega)).mp w; omega
        refine b_X9_more_58 ?_
        rw [e1]
        exact ih (i + 1) h2 _ (by omega) (ra.tr rb) q1 q2 (by omega) (by omega)
  exact H 257 0 h r rfl (RA.st ht) hg h5 (endS_le hg).1 (by simp)
theorem s_begin (hm : mob h m rf sz sp gd lf ac) (hn : ari h (m + 3) 690 r) (ht : ari h (m + 4) 690 tr) : CtV mX9_begin 1 0 0 [.ref m] h (fun h' => RA h (m + 4) r h') := by
  refine en_X9_begin (b_X9_begin_0 hm.r7 hm.r8 (s_cpD hn ht (by omega) 0 0 690 (by omega) (by omega) (by omega) (by omega)) (fun h1 e1 => ?_))
  refine b_X9_begin_16 (rV ⟨ht.lt, ?_⟩)
  rw [e1]
  refine wr_congr fun k hk => ?_
  unfold cpD
  rw [if_pos (by omega)]
  congr 1; omega
/-- the diary: n rows, D i is the i-th newest -/
def DR (d : Nat → Int) (n : Nat) (D : Nat → Nat → Int) : Prop := ∀ i, i < n → ∀ k, k < 690 → d (690 * i + k) = D (n - 1 - i) k
theorem s_remember {n : Nat} {D : Nat → Nat → Int} (hm : mob h m rf sz sp gd lf n) (hn : ari h (m + 3) 690 r) (hd : ari h (m + 5) 9660 d) (hn14 : n ≤ 14) (hD : DR d n D) :
    CtV mX9_remember 1 0 0 [.ref m] h (fun h' => mob h' m rf sz sp gd lf ((if n < 14 then n + 1 else 14 : Nat) : Int) ∧ (∃ d', ari h' (m + 5) 9660 d' ∧ DR d' (if n < 14 then n + 1 else 14) (fun i => if i = 0 then r else D (i - 1))) ∧ Off h h' m (m + 8) ∧ ∀ q, q ≠ m → q ≠ m + 5 → h'[q]? = h[q]?) := by
  refine en_X9_remember (b_X9_remember_0 hm.n10 (fun w => ?_) (fun w => ?_))
  · have hn13 : n < 14 := by
      rcases Nat.lt_or_ge n 14 with y | y
      · exact y
      · obtain rfl : n = 14 := by omega
        exact absurd rfl w
    rw [if_pos hn13]
    have e5 : (690 * (n : Int)) = ((690 * n : Nat) : Int) := by omega
    refine b_X9_remember_37 hm.r7 hm.r9 hm.n10 (by rw [e5]; exact s_cpD hn hd (by omega) 0 (690 * n) 690 (by omega) (by omega) (by omega) (by omega)) (fun h1 e1 => ?_)
    have o1 : Off h h1 (m + 5) (m + 6) := Off.eqw e1 (m + 5) (m + 6)
    have hm1 := hm.off o1
    have hm2 := hm1.s10 ((n : Int) + 1)
    have o2 : Off h1 (stf h1 m 10 (.int (iN ((n : Int) + 1)))) m (m + 1) := Off.ofs
    have hd1 : ari h1 (m + 5) 9660 (cpD r d 0 (690 * n) 690) := by rw [e1]; exact wr_at hd.lt
    refine b_X9_remember_60 hm1.n10 hm1.n10 (rV ⟨hm2, ⟨_, (o2.2 _ (by omega)).trans hd1, fun i hi k hk => ?_⟩, o1.tr o2 m (m + 8), fun q q1 q2 => (o2.2 q (by omega)).trans (o1.2 q (by omega))⟩)
    unfold cpD
    by_cases q : i = n
    · subst q
      rw [if_pos (by omega), show i + 1 - 1 - i = 0 by omega]
      show r _ = r k
      congr 1; omega
    · rw [if_neg (by omega), hD i (by omega) k hk]
      show _ = (if n + 1 - 1 - i = 0 then r else D (n + 1 - 1 - i - 1)) k
      rw [if_neg (by omega)]
      congr 1; omega
  · have hn13 : n = 14 := by have := (iN_eq (by omega)).mp w; omega
    subst hn13
    rw [if_neg (by omega)]
    refine b_X9_remember_9 hm.r9 hm.r9 (s_cpS hd 690 0 8970 (by omega) (by omega) (by omega)) (fun h1 e1 => ?_)
    have o1 : Off h h1 (m + 5) (m + 6) := Off.eqw e1 (m + 5) (m + 6)
    have hm1 := hm.off o1
    have hd1 : ari h1 (m + 5) 9660 (cpy d 690 0 8970) := by rw [e1]; exact wr_at hd.lt
    have hm2 := hm1.s10 (((14 : Nat) : Int) - 1)
    have o2 : Off h1 (stf h1 m 10 (.int (iN (((14 : Nat) : Int) - 1)))) m (m + 1) := Off.ofs
    have hd2 : ari (stf h1 m 10 (.int (iN (((14 : Nat) : Int) - 1)))) (m + 5) 9660 (cpy d 690 0 8970) := (o2.2 _ (by omega)).trans hd1
    have hn2 : ari (stf h1 m 10 (.int (iN (((14 : Nat) : Int) - 1)))) (m + 3) 690 r := (o2.2 _ (by omega)).trans ((o1.2 _ (by omega)).trans hn)
    refine b_X9_remember_27 hm1.n10 hm1.n10 hm2.r7 hm2.r9 hm2.n10 (s_cpD hn2 hd2 (by omega) 0 8970 690 (by omega) (by omega) (by omega) (by omega)) (fun h3 e3 => ?_)
    have o3 : Off (stf h1 m 10 (.int (iN (((14 : Nat) : Int) - 1)))) h3 (m + 5) (m + 6) := Off.eqw e3 (m + 5) (m + 6)
    have hm3 := hm2.off o3
    have hm4 := hm3.s10 (((14 : Nat) : Int) - 1 + 1)
    have o4 : Off h3 (stf h3 m 10 (.int (iN (((14 : Nat) : Int) - 1 + 1)))) m (m + 1) := Off.ofs
    have hd3 : ari h3 (m + 5) 9660 (cpD r (cpy d 690 0 8970) 0 8970 690) := by rw [e3]; exact wr_at hd2.lt
    refine b_X9_remember_60 hm3.n10 hm3.n10 (rV ⟨hm4, ⟨_, (o4.2 _ (by omega)).trans hd3, fun i hi k hk => ?_⟩, ((o1.tr o2 m (m + 8)).tr o3 m (m + 8)).tr o4 m (m + 8), fun q q1 q2 => (o4.2 q (by omega)).trans ((o3.2 q (by omega)).trans ((o2.2 q (by omega)).trans (o1.2 q (by omega))))⟩)
    unfold cpD
    by_cases q : i = 13
    · subst q
      rw [if_pos (by omega), show 0 + (690 * 13 + k - 8970) = k by omega]
      rfl
    · rw [if_neg (by omega), cpy_in _ _ _ _ (by omega), show 690 + (690 * i + k - 0) = 690 * (i + 1) + k by omega, hD (i + 1) (by omega) k hk]
      show _ = (if 14 - 1 - i = 0 then r else D (14 - 1 - i - 1)) k
      rw [if_neg (by omega)]
      congr 1
end ROWS2
