/-! tents, striking, giving up -/
section CELLS3
variable {r : Nat → Int}
def tnt (r : Nat → Int) (t : Nat) : Prop :=
  (0 ≤ r (10 + 4 * t) ∧ r (10 + 4 * t) < r 1) ∧ 0 ≤ r (11 + 4 * t) ∧ (1 ≤ r (12 + 4 * t) ∧ r (12 + 4 * t) ≤ 40) ∧
  r (11 + 4 * t) + r (12 + 4 * t) ≤ r (106 + 4 * (r (10 + 4 * t)).toNat) ∧ (r (13 + 4 * t) = 1 ∨ r (13 + 4 * t) = 2 ∨ r (13 + 4 * t) = 4 ∨ r (13 + 4 * t) = 8)
def okT (r : Nat → Int) : Prop := (0 ≤ r 0 ∧ r 0 ≤ 24) ∧ ∀ t, t < nT r → tnt r t
def okV (r : Nat → Int) : Prop := ∀ k, k < 256 → 0 ≤ r (434 + k) ∧ r (434 + k) ≤ 100
theorem tnt.fm (hg : okG r) {t : Nat} (ht : tnt r t) : (frm r t : Int) = 434 + r (109 + 4 * (r (10 + 4 * t)).toNat) + r (11 + 4 * t) ∧ 434 ≤ frm r t ∧ frm r t + (r (12 + 4 * t)).toNat ≤ 434 + (allP r).toNat ∧ 0 ≤ r (109 + 4 * (r (10 + 4 * t)).toNat) ∧ (r (10 + 4 * t)).toNat < nF r := by
  have hf : (r (10 + 4 * t)).toNat < nF r := by have := ht.1; unfold nF; omega
  have h1 := hg.f hf
  obtain ⟨h2, h3, h4, h5, -⟩ := ht
  unfold frm
  omega
theorem tnt.cg {g : Nat → Int} {t : Nat} (ht : tnt r t) (h1 : r (10 + 4 * t) < g 1) (h2 : ∀ c, 10 + 4 * t ≤ c → c < 14 + 4 * t → g c = r c) (h3 : g (106 + 4 * (r (10 + 4 * t)).toNat) = r (106 + 4 * (r (10 + 4 * t)).toNat)) : tnt g t := by
  unfold tnt at *
  rw [h2 (10 + 4 * t) (by omega) (by omega), h2 (11 + 4 * t) (by omega) (by omega), h2 (12 + 4 * t) (by omega) (by omega), h2 (13 + 4 * t) (by omega) (by omega), h3]
  exact ⟨⟨ht.1.1, h1⟩, ht.2⟩
/-! strike -/
theorem fillIn_lo {t : Nat} {v : Int} {c : Nat} (h : c < 434) : fillIn r t v c = r c := strw_out _ _ _ _ (by unfold frm; omega)
theorem strk_lo {c : Nat} (h : c < 434) : strk r c = if c = 6 then r 6 + 1 else if c = 0 then r 0 - 1 else r c := by
  unfold strk
  by_cases h6 : c = 6
  · rw [if_pos h6, h6, up_same]
  rw [if_neg h6, up_ne _ _ h6]
  by_cases h0 : c = 0
  · rw [if_pos h0, h0, up_same]
  rw [if_neg h0, up_ne _ _ h0]
  split
  · exact fillIn_lo h
  · rfl
theorem strk_hi {c : Nat} (h : 434 ≤ c) : strk r c = (if r 9 = 1 then fillIn r (nT r - 1) 100 else r) c := by
  unfold strk
  rw [up_ne _ _ (by omega), up_ne _ _ (by omega)]
theorem strk_v (hv : okV r) : okV (strk r) := by
  intro k hk
  rw [strk_hi (by omega)]
  have := hv k hk
  split
  · unfold fillIn strw; split <;> omega
  · exact this
theorem strk_ok (hg : okG r) (ht : okT r) (h0 : 0 < r 0) : okG (strk r) ∧ okT (strk r) ∧ allP (strk r) = allP r := by
  have hn := hg.n
  have L : ∀ c, 1 ≤ c → c ≠ 6 → c < 434 → strk r c = r c := fun c h1 h2 h3 => by rw [strk_lo h3, if_neg h2, if_neg (by omega)]
  have G := hg.cg (g := strk r) (L 1 (by omega) (by omega) (by omega)) (L 2 (by omega) (by omega) (by omega)) (L 7 (by omega) (by omega) (by omega)) (fun c h1 h2 _ => L c (by omega) (by omega) (by omega)) (fun f hf => by rw [L _ (by omega) (by omega) (by omega)]; exact (hg.2.1 f hf).2)
  have e0 : strk r 0 = r 0 - 1 := by rw [strk_lo (by omega), if_neg (by omega), if_pos rfl]
  refine ⟨G.1, ⟨by rw [e0]; have := ht.1; omega, fun t h => ?_⟩, G.2⟩
  have ht0 := ht.1
  have h' : t < nT r := by unfold nT at h ⊢; rw [e0] at h; omega
  have h24 : t < 24 := by unfold nT at h'; omega
  have ht1 := ht.2 t h'
  have hfm := tnt.fm hg ht1
  refine ht1.cg ?_ (fun c c1 c2 => L c (by omega) (by omega) (by omega)) (L _ (by omega) (by omega) (by omega))
  rw [L 1 (by omega) (by omega) (by omega)]; exact ht1.1.2
theorem strks_ok : ∀ (k : Nat) {r : Nat → Int}, okG r → okT r → (k : Int) ≤ r 0 → okG (strks k r) ∧ okT (strks k r) ∧ allP (strks k r) = allP r ∧ (∀ c, c < 434 → strks k r c = if c = 6 then r 6 + k else if c = 0 then r 0 - k else r c)
  | 0, r, hg, ht, h0 => ⟨hg, ht, rfl, fun c hc => by
      show r c = _
      split
      · subst c; omega
      · split
        · subst c; omega
        · rfl⟩
  | k + 1, r, hg, ht, h0 => by
    obtain ⟨h1, h2, h3⟩ := strk_ok hg ht (by omega)
    have e0 : strk r 0 = r 0 - 1 := by rw [strk_lo (by omega), if_neg (by omega), if_pos rfl]
    have e6 : strk r 6 = r 6 + 1 := by rw [strk_lo (by omega), if_pos rfl]
    obtain ⟨h4, h5, h6, h7⟩ := strks_ok k h1 h2 (by omega)
    refine ⟨h4, h5, h6.trans h3, fun c hc => ?_⟩
    show strks k (strk r) c = _
    rw [h7 c hc, e0, e6]
    split
    · omega
    · split
      · omega
      · rename_i q1 q2
        rw [strk_lo hc, if_neg q1, if_neg q2]
theorem strks_v : ∀ (k : Nat) {r : Nat → Int}, okV r → okV (strks k r)
  | 0, _, h => h
  | k + 1, _, h => strks_v k (strk_v h)
/-! a field becomes a spare one -/
theorem movF_at (hF : 0 < nF r) (hn : nF r + nS r ≤ 51) (c : Nat) : movF r c =
    if c = 2 then r 2 + 1 else if c = 315 + 2 * nS r then r (109 + 4 * (nF r - 1)) else
    if c = 314 + 2 * nS r then r (106 + 4 * (nF r - 1)) else if c = 1 then r 1 - 1 else r c := rfl
theorem movF_ok (hg : okG r) (hF : 0 < nF r) : okG (movF r) ∧ allP (movF r) = allP r := by
  have hn := hg.n
  have h1 := hg.1.1
  have h2 := hg.1.2.1
  have hm1 : r 1 = (nF r : Int) := by unfold nF; omega
  have hm2 : r 2 = (nS r : Int) := by unfold nS; omega
  have M := fun c => movF_at hF hn c
  have a1 : movF r 1 = r 1 - 1 := by rw [M, if_neg (by omega), if_neg (by omega), if_neg (by omega), if_pos rfl]
  have a2 : movF r 2 = r 2 + 1 := by rw [M, if_pos rfl]
  have aF : nF (movF r) = nF r - 1 := by unfold nF; rw [a1]; omega
  have aS : nS (movF r) = nS r + 1 := by unfold nS; rw [a2]; omega
  have cc : ∀ c, 3 ≤ c → c ≠ 314 + 2 * nS r → c ≠ 315 + 2 * nS r → movF r c = r c := fun c h1 h2 h3 => by rw [M, if_neg (by omega), if_neg h3, if_neg h2, if_neg (by omega)]
  have c4 : movF r (314 + 2 * nS r) = r (106 + 4 * (nF r - 1)) := by rw [M, if_neg (by omega), if_neg (by omega), if_pos rfl]
  have c5 : movF r (315 + 2 * nS r) = r (109 + 4 * (nF r - 1)) := by rw [M, if_neg (by omega), if_pos rfl]
  let φ : Nat → Nat := fun j => if j < nF r - 1 then j else if j < nF r - 1 + nS r then j + 1 else if j = nF r - 1 + nS r then nF r - 1 else j
  have hZ : ∀ j, j < nF r + nS r → gZ (movF r) j = gZ r (φ j) := by
    intro j hj
    simp only [φ]
    unfold gZ
    rw [aF]
    by_cases q1 : j < nF r - 1
    · rw [if_pos q1, if_pos q1, if_pos (by omega), cc _ (by omega) (by omega) (by omega)]
    rw [if_neg q1, if_neg q1]
    by_cases q2 : j < nF r - 1 + nS r
    · rw [if_pos q2, if_neg (by omega), cc _ (by omega) (by omega) (by omega)]
      congr 2; omega
    · rw [if_neg q2, if_pos (show j = nF r - 1 + nS r by omega), if_pos (by omega), show 314 + 2 * (j - (nF r - 1)) = 314 + 2 * nS r by omega, c4]
  have hS : ∀ j, j < nF r + nS r → gS (movF r) j = gS r (φ j) := by
    intro j hj
    simp only [φ]
    unfold gS
    rw [aF]
    by_cases q1 : j < nF r - 1
    · rw [if_pos q1, if_pos q1, if_pos (by omega), cc _ (by omega) (by omega) (by omega)]
    rw [if_neg q1, if_neg q1]
    by_cases q2 : j < nF r - 1 + nS r
    · rw [if_pos q2, if_neg (by omega), cc _ (by omega) (by omega) (by omega)]
      congr 2; omega
    · rw [if_neg q2, if_pos (show j = nF r - 1 + nS r by omega), if_pos (by omega), show 315 + 2 * (j - (nF r - 1)) = 315 + 2 * nS r by omega, c5]
  have eA : allP (movF r) = allP r := by
    unfold allP useP sparP
    rw [aF, aS]
    have e0 : sm (fun f => r (106 + 4 * f)) (nF r) = sm (fun f => r (106 + 4 * f)) (nF r - 1) + r (106 + 4 * (nF r - 1)) := by
      rw [show nF r = (nF r - 1) + 1 by omega]; rfl
    simp only [sm]
    rw [c4, e0]
    have e1 : sm (fun f => movF r (106 + 4 * f)) (nF r - 1) = sm (fun f => r (106 + 4 * f)) (nF r - 1) := sm_congr (fun k hk => cc _ (by omega) (by omega) (by omega))
    have e2 : sm (fun f => movF r (314 + 2 * f)) (nS r) = sm (fun f => r (314 + 2 * f)) (nS r) := sm_congr (fun k hk => cc _ (by omega) (by omega) (by omega))
    rw [e1, e2]; omega
  refine ⟨hg.ph φ (by omega) (by omega) (by omega) (cc 7 (by omega) (by omega) (by omega)) eA ?_ ?_ hZ hS ?_, eA⟩
  · intro j hj; simp only [φ]; repeat' split
    all_goals omega
  · intro i j hi hj hij; simp only [φ]; repeat' split
    all_goals omega
  · intro f hf
    rw [aF] at hf
    rw [cc _ (by omega) (by omega) (by omega), cc (108 + 4 * f) (by omega) (by omega) (by omega), cc (106 + 4 * f) (by omega) (by omega) (by omega)]
    exact hg.2.1 f (by omega)
theorem movs_ok : ∀ (k : Nat) {r : Nat → Int}, okG r → k ≤ nF r → okG (movs k r) ∧ allP (movs k r) = allP r ∧ movs k r 1 = r 1 - k ∧ movs k r 2 = r 2 + k ∧
      (∀ c, c ≠ 1 → c ≠ 2 → c < 314 + 2 * nS r ∨ 314 + 2 * (nS r + k) ≤ c → movs k r c = r c) ∧
      (∀ j, j < k → movs k r (314 + 2 * (nS r + j)) = r (106 + 4 * (nF r - 1 - j)) ∧ movs k r (315 + 2 * (nS r + j)) = r (109 + 4 * (nF r - 1 - j)))
  | 0, r, hg, hk => ⟨hg, rfl, by show r 1 = _; omega, by show r 2 = _; omega, fun c _ _ _ => rfl, fun j hj => by omega⟩
  | k + 1, r, hg, hk => by
    obtain ⟨h1, h2⟩ := movF_ok hg (by omega)
    have hn := hg.n
    have q1 := hg.1.1
    have q2 := hg.1.2.1
    have M := fun c => movF_at (r := r) (by omega) hn c
    have a1 : movF r 1 = r 1 - 1 := by rw [M, if_neg (by omega), if_neg (by omega), if_neg (by omega), if_pos rfl]
    have a2 : movF r 2 = r 2 + 1 := by rw [M, if_pos rfl]
    have aF : nF (movF r) = nF r - 1 := by unfold nF; rw [a1]; omega
    have aS : nS (movF r) = nS r + 1 := by unfold nS; rw [a2]; omega
    obtain ⟨h3, h4, h5, h6, h7, h8⟩ := movs_ok k h1 (by omega)
    rw [aS] at h7 h8
    refine ⟨h3, h4.trans h2, ?_, ?_, fun c c1 c2 c3 => ?_, fun j hj => ?_⟩
    · show movs k (movF r) 1 = _; omega
    · show movs k (movF r) 2 = _; omega
    · show movs k (movF r) c = _
      rw [h7 c c1 c2 (by omega), M, if_neg c2, if_neg (by omega), if_neg (by omega), if_neg c1]
    · show movs k (movF r) _ = _ ∧ movs k (movF r) _ = _
      by_cases hj0 : j = 0
      · subst hj0
        rw [h7 _ (by omega) (by omega) (by omega), h7 _ (by omega) (by omega) (by omega), M, M]
        simp only [Nat.add_zero, Nat.sub_zero, if_true]
        rw [if_neg (by omega), if_neg (by omega), if_neg (by omega)]
        exact ⟨rfl, rfl⟩
      · have h9 := h8 (j - 1) (by omega)
        rw [aF] at h9
        rw [show nS r + j = nS r + 1 + (j - 1) by omega, h9.1, h9.2, M, M, show nF r - 1 - 1 - (j - 1) = nF r - 1 - j by omega]
        rw [if_neg (by omega), if_neg (by omega), if_neg (by omega), if_neg (by omega), if_neg (by omega), if_neg (by omega), if_neg (by omega), if_neg (by omega)]
        exact ⟨rfl, rfl⟩
/-! the ends are laid anew -/
def endT (r e : Nat → Int) : Nat → Nat → Int
  | 0 => e
  | k + 1 => up (endT r e k) (r (10 + 4 * k)).toNat (r (11 + 4 * k) + r (12 + 4 * k))
theorem layT_end (r : Nat → Int) (f : Nat) : ∀ k : Nat, layT r k (108 + 4 * f) = endT r (fun f => r (108 + 4 * f)) k f
  | 0 => rfl
  | k + 1 => by
    show up _ _ _ _ = up _ _ _ _
    unfold up
    by_cases h : f = (r (10 + 4 * k)).toNat
    · rw [if_pos (by omega), if_pos h]
    · rw [if_neg (by omega), if_neg h]; exact layT_end r f k
theorem layT_out (r : Nat → Int) {c : Nat} (N : Nat) (h : c < 108 ∨ c % 4 ≠ 0 ∨ 106 + 4 * N ≤ c) : ∀ k : Nat, (∀ t, t < k → (r (10 + 4 * t)).toNat < N) → layT r k c = r c
  | 0, _ => rfl
  | k + 1, ht => by
    have := ht k (by omega)
    show up _ _ _ _ = _
    rw [up_ne _ _ (by omega)]
    exact layT_out r N h k (fun t h => ht t (by omega))
theorem endT_hit (r e e' : Nat → Int) (f : Nat) : ∀ k : Nat, (∃ t, t < k ∧ (r (10 + 4 * t)).toNat = f) → endT r e k f = endT r e' k f
  | 0, h => by obtain ⟨t, h1, -⟩ := h; omega
  | k + 1, h => by
    show up _ _ _ _ = up _ _ _ _
    unfold up
    by_cases q : f = (r (10 + 4 * k)).toNat
    · rw [if_pos q, if_pos q]
    · rw [if_neg q, if_neg q]
      obtain ⟨t, h1, h2⟩ := h
      exact endT_hit r e e' f k ⟨t, by rcases Nat.lt_or_ge t k with z | z
                                       · exact z
                                       · obtain rfl : t = k := by omega
                                         exact absurd h2.symm q, h2⟩
theorem endT_cg (r r' e e' : Nat → Int) (f : Nat) : ∀ k : Nat, (∀ t, t < k → r (10 + 4 * t) = r' (10 + 4 * t) ∧ r (11 + 4 * t) = r' (11 + 4 * t) ∧ r (12 + 4 * t) = r' (12 + 4 * t)) → e f = e' f → endT r e k f = endT r' e' k f
  | 0, _, h => h
  | k + 1, h, he => by
    have h1 := h k (by omega)
    show up _ _ _ _ = up _ _ _ _
    rw [h1.1, h1.2.1, h1.2.2]
    unfold up
    split
    · rfl
    · exact endT_cg r r' e e' f k (fun t ht => h t (by omega)) he
theorem endT_sp (r e : Nat → Int) (f : Nat) : ∀ k : Nat, endT r e k f = e f ∨ ∃ t, t < k ∧ (r (10 + 4 * t)).toNat = f ∧ endT r e k f = r (11 + 4 * t) + r (12 + 4 * t)
  | 0 => Or.inl rfl
  | k + 1 => by
    show up _ _ _ _ = _ ∨ ∃ t, t < k + 1 ∧ _ ∧ up _ _ _ _ = _
    by_cases q : f = (r (10 + 4 * k)).toNat
    · refine Or.inr ⟨k, by omega, q.symm, ?_⟩
      rw [← q, up_same]
    · rw [up_ne _ _ q]
      rcases endT_sp r e f k with h | ⟨t, h1, h2, h3⟩
      · exact Or.inl h
      · exact Or.inr ⟨t, by omega, h2, h3⟩
theorem lay0_out {n c : Nat} (h : c < 108 ∨ c % 4 ≠ 0 ∨ 106 + 4 * n ≤ c) : lay0 r n c = r c := by
  unfold lay0; rw [if_neg (by omega)]
theorem layE_out (hg : okG r) (ht : okT r) {c : Nat} (h : c < 108 ∨ c % 4 ≠ 0 ∨ 106 + 4 * nF r ≤ c) : layE r c = r c := by
  unfold layE
  have h0 := ht.1
  rw [layT_out (lay0 r (nF r)) (nF r) h, lay0_out h]
  intro t h1
  have h2 := (ht.2 t h1).1
  have h24 : t < 24 := by unfold nT at h1; omega
  rw [lay0_out (by omega)]
  unfold nF; omega
theorem layE_end (ht : okT r) {f : Nat} (hf : f < nF r) : layE r (108 + 4 * f) = endT r (fun _ => 0) (nT r) f := by
  unfold layE
  rw [layT_end]
  have h0 := ht.1
  refine endT_cg _ _ _ _ _ _ (fun t h1 => ?_) ?_
  · have h24 : t < 24 := by unfold nT at h1; omega
    rw [lay0_out (by omega), lay0_out (by omega), lay0_out (by omega)]
    exact ⟨rfl, rfl, rfl⟩
  · show lay0 r (nF r) (108 + 4 * f) = 0
    unfold lay0; rw [if_pos (by omega)]
theorem layE_ok (hg : okG r) (ht : okT r) : okG (layE r) ∧ allP (layE r) = allP r := by
  have hn := hg.n
  refine hg.cg (layE_out hg ht (by omega)) (layE_out hg ht (by omega)) (layE_out hg ht (by omega)) (fun c h1 h2 h3 => layE_out hg ht (by omega)) (fun f hf => ?_)
  rw [layE_end ht hf]
  have h5 := (hg.f hf).1
  rcases endT_sp r (fun _ => 0) f (nT r) with h | ⟨t, h1, h2, h3⟩
  · rw [h]; omega
  · rw [h3]
    obtain ⟨q1, q2, q3, q4, -⟩ := ht.2 t h1
    rw [h2] at q4
    omega
end CELLS3
