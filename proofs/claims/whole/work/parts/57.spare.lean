/-! spare: by rank, and by counting sizes -/
/-- how many of the first n are at most S -/
def cle (z : Nat → Int) (S : Int) : Nat → Int
  | 0 => 0
  | k + 1 => cle z S k + if z k ≤ S then 1 else 0
def eqc (z : Nat → Int) (S : Int) : Nat → Int
  | 0 => 0
  | k + 1 => eqc z S k + if z k = S then 1 else 0
theorem cle_rg (z : Nat → Int) (S : Int) : ∀ n : Nat, 0 ≤ cle z S n ∧ cle z S n ≤ n
  | 0 => by simp [cle]
  | n + 1 => by
    have := cle_rg z S n
    simp only [cle]
    split <;> omega
theorem cle_all (z : Nat → Int) (S : Int) : ∀ n : Nat, (∀ k, k < n → z k ≤ S) → cle z S n = n
  | 0, _ => rfl
  | n + 1, h => by
    have := cle_all z S n (fun k hk => h k (by omega))
    simp only [cle]
    rw [if_pos (h n (by omega))]; omega
theorem cle_none (z : Nat → Int) (S : Int) : ∀ n : Nat, (∀ k, k < n → S < z k) → cle z S n = 0
  | 0, _ => rfl
  | n + 1, h => by
    have := cle_none z S n (fun k hk => h k (by omega))
    simp only [cle]
    rw [if_neg (by have := h n (by omega); omega)]; omega
theorem cle_mono (z : Nat → Int) {S T : Int} (h : S ≤ T) : ∀ n : Nat, cle z S n ≤ cle z T n
  | 0 => Int.le_refl _
  | n + 1 => by
    have := cle_mono z h n
    simp only [cle]
    split <;> split <;> omega
theorem cle_eq (z : Nat → Int) (S : Int) : ∀ n : Nat, cle z S n = cle z (S - 1) n + eqc z S n
  | 0 => rfl
  | n + 1 => by
    have := cle_eq z S n
    simp only [cle, eqc]
    split <;> split <;> split <;> omega
/-- the rank: smaller ones, and like ones before it -/
theorem ahd_eq (z : Nat → Int) (f : Nat) : ∀ n : Nat, ahd z f n = cle z (z f - 1) n + eqc z (z f) (if n ≤ f then n else f)
  | 0 => rfl
  | n + 1 => by
    have ih := ahd_eq z f n
    simp only [ahd, cle]
    by_cases q : n < f
    · rw [if_pos (show n ≤ f by omega)] at ih
      rw [if_pos (show n + 1 ≤ f by omega)]
      simp only [eqc]
      split <;> split <;> split <;> omega
    · have e : (if n ≤ f then n else f) = f := by split <;> omega
      rw [e] at ih
      rw [if_neg (show ¬ n + 1 ≤ f by omega)]
      split <;> split <;> omega
/-- each count up to the last one is met -/
theorem eqc_hit (z : Nat → Int) (S : Int) : ∀ (n : Nat) (j : Int), 0 ≤ j → j < eqc z S n → ∃ f, f < n ∧ z f = S ∧ eqc z S f = j
  | 0, j, h0, h1 => by simp only [eqc] at h1; omega
  | n + 1, j, h0, h1 => by
    simp only [eqc] at h1
    by_cases q : j < eqc z S n
    · obtain ⟨f, f1, f2, f3⟩ := eqc_hit z S n j h0 q
      exact ⟨f, by omega, f2, f3⟩
    · by_cases w : z n = S
      · rw [if_pos w] at h1
        exact ⟨n, by omega, w, by omega⟩
      · rw [if_neg w] at h1; omega
/-- a field of rank i has the first size with more than i at most as great -/
theorem rank_sp (z : Nat → Int) {n f : Nat} (hf : f < n) : ahd z f n < cle z (z f) n ∧ ∀ S, S < z f → cle z S n ≤ ahd z f n := by
  have e := ahd_eq z f n
  rw [if_neg (by omega)] at e
  have e2 := cle_eq z (z f) n
  have lt : ∀ m, f < m → eqc z (z f) f < eqc z (z f) m := by
    intro m
    induction m with
    | zero => intro h; omega
    | succ m ih =>
      intro h
      simp only [eqc]
      by_cases q : f < m
      · have := ih q
        split <;> omega
      · obtain rfl : f = m := by omega
        rw [if_pos rfl]; omega
  have ge : 0 ≤ eqc z (z f) f := by
    have : ∀ m, 0 ≤ eqc z (z f) m := by
      intro m
      induction m with
      | zero => exact Int.le_refl _
      | succ m ih => simp only [eqc]; split <;> omega
    exact this f
  have := lt n hf
  refine ⟨by omega, fun S hS => ?_⟩
  have := cle_mono z (show S ≤ z f - 1 by omega) n
  omega
theorem rank_ex (z : Nat → Int) {n : Nat} (hz : ∀ k, k < n → 0 ≤ z k ∧ z k ≤ 256) {i : Int} (hi : 0 ≤ i ∧ i < n) : ∃ f, f < n ∧ ahd z f n = i := by
  -- the first size that holds more than i
  have F : ∀ S : Nat, i < cle z S n → ∃ T : Nat, i < cle z T n ∧ cle z ((T : Int) - 1) n ≤ i := by
    intro S
    induction S with
    | zero =>
      intro h
      refine ⟨0, h, ?_⟩
      rw [cle_none z _ n (fun k hk => by have := hz k hk; omega)]; omega
    | succ S ih =>
      intro h
      by_cases q : i < cle z (S : Int) n
      · exact ih q
      · exact ⟨S + 1, h, by rw [show ((S + 1 : Nat) : Int) - 1 = (S : Int) by omega]; omega⟩
  obtain ⟨T, t1, t2⟩ := F 256 (by rw [show ((256 : Nat) : Int) = 256 from rfl, cle_all z _ n (fun k hk => (hz k hk).2)]; exact hi.2)
  have e := cle_eq z (T : Int) n
  obtain ⟨f, f1, f2, f3⟩ := eqc_hit z (T : Int) n (i - cle z ((T : Int) - 1) n) (by omega) (by omega)
  refine ⟨f, f1, ?_⟩
  have e2 := ahd_eq z f n
  rw [if_neg (by omega), f2, f3] at e2
  omega
/-- what rnk finds -/
theorem rnk_sp (z : Nat → Int) (n : Nat) (q : Int) : ∀ (k i : Nat), i + k = n → (rnk z n q k i = -1 ∧ ∀ f, i ≤ f → f < n → ahd z f n ≠ q) ∨ (∃ f : Nat, rnk z n q k i = f ∧ f < n ∧ ahd z f n = q)
  | 0, i, h => Or.inl ⟨rfl, fun f h1 h2 => by omega⟩
  | k + 1, i, h => by
    simp only [rnk]
    by_cases w : ahd z i n = q
    · rw [if_pos w]
      exact Or.inr ⟨i, rfl, by omega, w⟩
    · rw [if_neg w]
      rcases rnk_sp z n q k (i + 1) (by omega) with ⟨a, b⟩ | a
      · refine Or.inl ⟨a, fun f h1 h2 => ?_⟩
        by_cases e : f = i
        · rw [e]; exact w
        · exact b f (by omega) h2
      · exact Or.inr a
/-- the first size from S on, k of them, with more than i at most as great -/
def fsz (z : Nat → Int) (n : Nat) (i : Int) : Nat → Int → Int
  | 0, _ => -1
  | k + 1, S => if i < cle z S n then S else fsz z n i k (S + 1)
theorem fsz_sp (z : Nat → Int) (n : Nat) (i : Int) : ∀ (k : Nat) (S : Int), (fsz z n i k S = -1 ∧ ∀ T, S ≤ T → T < S + k → cle z T n ≤ i) ∨ (i < cle z (fsz z n i k S) n ∧ S ≤ fsz z n i k S ∧ ∀ T, S ≤ T → T < fsz z n i k S → cle z T n ≤ i)
  | 0, S => Or.inl ⟨rfl, fun T h1 h2 => by omega⟩
  | k + 1, S => by
    simp only [fsz]
    by_cases w : i < cle z S n
    · rw [if_pos w]
      exact Or.inr ⟨w, Int.le_refl _, fun T h1 h2 => by omega⟩
    · rw [if_neg w]
      rcases fsz_sp z n i k (S + 1) with ⟨a, b⟩ | ⟨a, b, c⟩
      · refine Or.inl ⟨a, fun T h1 h2 => ?_⟩
        by_cases e : T = S
        · rw [e]; omega
        · exact b T (by omega) (by omega)
      · refine Or.inr ⟨a, by omega, fun T h1 h2 => ?_⟩
        by_cases e : T = S
        · rw [e]; omega
        · exact c T (by omega) h2
/-- what spare answers -/
def spV (r : Nat → Int) (i : Int) : Int := fsz (fun k => r (314 + 2 * k)) (nS r) i 257 0
theorem spV_rnk (z : Nat → Int) {n : Nat} (hz : ∀ k, k < n → 0 ≤ z k ∧ z k ≤ 256) {i : Int} (hi : 0 ≤ i) : fsz z n i 257 0 = if rnk z n i n 0 = -1 then -1 else z (rnk z n i n 0).toNat := by
  rcases rnk_sp z n i n 0 (by omega) with ⟨a, b⟩ | ⟨f, a, b, c⟩
  · rw [a, if_pos rfl]
    rcases fsz_sp z n i 257 0 with ⟨d, -⟩ | ⟨d, -, -⟩
    · exact d
    · have := cle_rg z (fsz z n i 257 0) n
      obtain ⟨f, f1, f2⟩ := rank_ex z hz (i := i) ⟨hi, by omega⟩
      exact absurd f2 (b f (by omega) f1)
  · rw [a, if_neg (by omega), Int.toNat_natCast]
    have s := rank_sp z b
    rw [c] at s
    have zf := hz f b
    rcases fsz_sp z n i 257 0 with ⟨d, e⟩ | ⟨d, e, g⟩
    · have := e (z f) (by omega) (by omega)
      omega
    · rcases Int.lt_or_le (fsz z n i 257 0) (z f) with y | y
      · have := s.2 _ y; omega
      · rcases Int.lt_or_le (z f) (fsz z n i 257 0) with y2 | y2
        · have := g (z f) (by omega) y2; omega
        · omega
theorem cle_cg {z z' : Nat → Int} (S : Int) : ∀ {n : Nat}, (∀ k, k < n → z k = z' k) → cle z S n = cle z' S n
  | 0, _ => rfl
  | n + 1, h => by
    simp only [cle]
    rw [cle_cg S (fun k hk => h k (by omega)), h n (by omega)]
theorem fsz_cg {z z' : Nat → Int} {n : Nat} (i : Int) (h : ∀ k, k < n → z k = z' k) : ∀ (k : Nat) (S : Int), fsz z n i k S = fsz z' n i k S
  | 0, _ => rfl
  | k + 1, S => by
    simp only [fsz]
    rw [cle_cg S h, fsz_cg i h k (S + 1)]
section SPARE
variable {h : AH} {m : Nat} {r : Nat → Int} {rf sz sp gd lf ac : Int}
theorem s_rspareN (hm : mob h m rf sz sp gd lf ac) {i : Int} (hi : -2147483648 ≤ i ∧ i < 0) : CtI mX9_spare 1 0 0 [.ref m, .int (iN i)] h (fun v h' => v = 0 ∧ mob h' m 1 sz sp gd lf ac ∧ Off h h' m (m + 1)) := by
  refine en_X9_spare (b_X9_spare_0 (fun q => by have := (iN_le (by omega)).mp q; omega) (fun _ => ?_))
  refine b_X9_spare_5 hm.o (s_refused hm (w := 1) (by omega)) (fun v h2 hv => ?_)
  obtain ⟨rfl, rfl⟩ := hv
  refine b_X9_spare_13 (fun w => absurd w (by decide)) (fun _ => ?_)
  exact b_X9_spare_16 (rI ⟨rfl, hm.s0 1, Off.ofs⟩)
theorem s_rspare (hm : mob h m rf sz sp gd lf ac) (hn : ari h (m + 3) 690 r) (hI : Inv r) {i : Int} (hi : 0 ≤ i ∧ i < 2147483648) : CtI mX9_spare 1 0 0 [.ref m, .int (iN i)] h (fun v h' => v = spV r i ∧ mob h' m 0 sz sp gd lf ac ∧ Off h h' m (m + 1)) := by
  have r2 := hI.r1.2
  have n2 : r 2 = (nS r : Int) := by unfold nS; omega
  have hk := hI.1.k
  refine en_X9_spare (b_X9_spare_0 (fun _ => ?_) (fun q => absurd ((iN_le (by omega)).mpr (by omega)) q))
  refine b_X9_spare_9 hm.o (s_refused hm (w := 0) (by omega)) (fun v h2 hv => ?_)
  obtain ⟨rfl, rfl⟩ := hv
  refine b_X9_spare_13 (fun _ => ?_) (fun w => absurd rfl w)
  have m1 := hm.s0 0
  have o1 : Off h (stf h m 0 (.int (iN 0))) m (m + 1) := Off.ofs
  have hn1 : ari (stf h m 0 (.int (iN 0))) (m + 3) 690 r := (o1.2 _ (by omega)).trans hn
  generalize stf h m 0 (.int (iN 0)) = h1 at m1 o1 hn1 ⊢
  refine b_X9_spare_18 ?_
  have H : ∀ (k S : Nat), S + k = 257 → spV r i = fsz (fun k => r (314 + 2 * k)) (nS r) i k S → AW mX9_spare 1 0 0 20 [.ref m, .int (iN i), .int (iN (S : Int)), vU, vU] [] h1 (qI (fun v h' => v = spV r i ∧ mob h' m 0 sz sp gd lf ac ∧ Off h h' m (m + 1))) := by
    intro k
    induction k with
    | zero =>
      intro S hS e
      refine b_X9_spare_20 (fun _ => ?_) (fun q => absurd ((iN_lt (by omega)).mpr (by omega)) q)
      exact b_X9_spare_85 (rI ⟨e.symm, m1, o1⟩)
    | succ k ih =>
      intro S hS e
      have es : fsz (fun k => r (314 + 2 * k)) (nS r) i (k + 1) S = if i < cle (fun k => r (314 + 2 * k)) S (nS r) then (S : Int) else fsz (fun k => r (314 + 2 * k)) (nS r) i k (S + 1) := rfl
      rw [es] at e
      refine b_X9_spare_20 (fun q => by have := (iN_lt (by omega)).mp q; omega) (fun _ => ?_)
      refine b_X9_spare_27 ?_
      have L : ∀ (a j : Nat), j + a = nS r → AW mX9_spare 1 0 0 32 [.ref m, .int (iN i), .int (iN (S : Int)), .int (iN (cle (fun k => r (314 + 2 * k)) S j)), .int (iN (j : Int))] [] h1 (qI (fun v h' => v = spV r i ∧ mob h' m 0 sz sp gd lf ac ∧ Off h h' m (m + 1))) := by
        intro a
        induction a with
        | zero =>
          intro j hj
          obtain rfl : j = nS r := by omega
          have cr := cle_rg (fun k => r (314 + 2 * k)) S (nS r)
          refine b_X9_spare_32 m1.r7 (hn1.g 2) (fun _ => ?_) (fun q => absurd ((iN_le (by omega)).mpr (by omega)) q)
          refine b_X9_spare_72 (fun q => ?_) (fun q => ?_)
          · have := (iN_le (by omega)).mp q
            rw [if_neg (by omega)] at e
            refine b_X9_spare_79 ?_
            rw [show (S : Int) + 1 = ((S + 1 : Nat) : Int) by omega]
            exact ih (S + 1) (by omega) e
          · have q1 : ¬ cle (fun k => r (314 + 2 * k)) S (nS r) ≤ i := fun z => q ((iN_le (by omega)).mpr z)
            rw [if_pos (by omega)] at e
            exact b_X9_spare_77 (rI ⟨e.symm, m1, o1⟩)
        | succ a ia =>
          intro j hj
          have cr := cle_rg (fun k => r (314 + 2 * k)) S j
          have zj := hk.2.2.2.2 j (by omega)
          have nx := ia (j + 1) (by omega)
          have ec : cle (fun k => r (314 + 2 * k)) S (j + 1) = cle (fun k => r (314 + 2 * k)) S j + if r (314 + 2 * j) ≤ (S : Int) then 1 else 0 := rfl
          rw [ec] at nx
          refine b_X9_spare_32 m1.r7 (hn1.g 2) (fun q => by have := (iN_le (by omega)).mp q; omega) (fun _ => ?_)
          refine b_X9_spare_43 m1.r7 s_spareAt (fun v h2 hv => ?_)
          obtain ⟨rfl, rfl⟩ := hv
          refine b_X9_spare_54 (hn1.g (314 + 2 * j)) (fun q => ?_) (fun q => ?_)
          · have := (iN_lt (by omega)).mp q
            rw [if_neg (by omega)] at nx
            refine b_X9_spare_63 ?_
            rw [show (j : Int) + 1 = ((j + 1 : Nat) : Int) by omega]
            exact nx
          · have q1 : ¬ (S : Int) < r (314 + 2 * j) := fun z => q ((iN_lt (by omega)).mpr z)
            rw [if_pos (by omega)] at nx
            refine b_X9_spare_59 ?_
            rw [show (j : Int) + 1 = ((j + 1 : Nat) : Int) by omega]
            exact nx
      exact L (nS r) 0 (by omega)
  exact H 257 0 (by omega) rfl
end SPARE
