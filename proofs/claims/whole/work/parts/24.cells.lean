/-! cells of the model's rows; the ground: fields in use and spare ones -/
theorem sm_del (g : Nat → Int) (i : Nat) : ∀ {n : Nat}, i ≤ n → sm (fun k => if k < i then g k else g (k + 1)) n = sm g (n + 1) - g i
  | 0, h => by
    obtain rfl : i = 0 := by omega
    simp [sm]
  | n + 1, h => by
    simp only [sm]
    by_cases hi : i = n + 1
    · subst hi
      rw [if_pos (by omega)]
      have e : sm (fun k => if k < n + 1 then g k else g (k + 1)) n = sm g n := sm_congr (fun k hk => by rw [if_pos (by omega)])
      rw [e]; omega
    · have := sm_del g i (n := n) (by omega)
      rw [if_neg (by omega), this]
      simp only [sm]; omega
theorem sm_add (g : Nat → Int) (a : Nat) : ∀ b : Nat, sm g (a + b) = sm g a + sm (fun k => g (a + k)) b
  | 0 => by simp [sm]
  | b + 1 => by
    rw [← Nat.add_assoc]
    simp only [sm]
    rw [sm_add g a b]; omega
theorem sm_ge {g : Nat → Int} {B : Int} : ∀ {n : Nat}, (∀ k, k < n → B ≤ g k) → n * B ≤ sm g n
  | 0, _ => by simp [sm]
  | n + 1, h => by
    have h1 := sm_ge (n := n) (fun k hk => h k (by omega))
    have h2 := h n (by omega)
    simp only [sm]
    have : ((n + 1 : Nat) : Int) * B = n * B + B := by rw [Int.natCast_add, Int.add_mul]; simp
    omega
theorem sml_sp (g : Nat → Int) (p : Int) : ∀ n : Nat, sml g p n ≠ -1 → p ≤ g (sml g p n).toNat
  | 0, h => by simp [sml] at h
  | n + 1, h => by
    simp only [sml] at h ⊢
    split
    · rename_i q
      simpa using q.1
    · rename_i q
      rw [if_neg q] at h
      exact sml_sp g p n h
theorem lst_sp (g : Nat → Int) : ∀ n : Nat, lst g n ≠ -1 → g (lst g n).toNat = 0
  | 0, h => by simp [lst] at h
  | n + 1, h => by
    simp only [lst] at h ⊢
    split
    · rename_i q
      simpa using q
    · rename_i q
      rw [if_neg q] at h
      exact lst_sp g n h
theorem lst_no (g : Nat → Int) : ∀ n : Nat, lst g n = -1 → ∀ k, k < n → g k ≠ 0
  | 0, _, k, hk => by omega
  | n + 1, h, k, hk => by
    simp only [lst] at h
    split at h
    · omega
    · by_cases e : k = n
      · rw [e]; assumption
      · exact lst_no g n h k (by omega)
section CELLS
variable {r : Nat → Int}
/-- what the methods below need of a row: counts, sizes, ends -/
def okR (r : Nat → Int) : Prop :=
  (0 ≤ r 1 ∧ r 1 ≤ 51) ∧ (0 ≤ r 2 ∧ r 2 ≤ 51) ∧ (8 ≤ r 7 ∧ r 7 ≤ 64) ∧
  (∀ k, k < nF r → (r (107 + 4 * k) = 0 ∨ r (107 + 4 * k) = 1) ∧ (0 ≤ r (106 + 4 * k) ∧ r (106 + 4 * k) ≤ 64) ∧ 0 ≤ r (108 + 4 * k) ∧ r (108 + 4 * k) ≤ 64) ∧
  (∀ k, k < nS r → 0 ≤ r (314 + 2 * k) ∧ r (314 + 2 * k) ≤ 64)
theorem okR.lu (hk : okR r) : -1 ≤ lastU r ∧ lastU r < r 1 := by
  have := lst_rg (fun f => r (107 + 4 * f)) (nF r)
  have h1 := hk.1
  unfold lastU nF at *
  omega
theorem okR.sf (hk : okR r) (x : Int) : -1 ≤ spareFor r x ∧ spareFor r x < r 2 := by
  have := sml_rg (fun i => r (314 + 2 * i)) x (nS r)
  have h1 := hk.2.1
  unfold spareFor nS at *
  omega
theorem okR.up (hk : okR r) : 0 ≤ useP r ∧ useP r ≤ 3264 := by
  have h1 := hk.1
  have := sm_rg (g := fun f => r (106 + 4 * f)) (B := 64) (by omega) (n := nF r) (fun k h => (hk.2.2.2.1 k h).2.1)
  unfold useP
  have : nF r ≤ 51 := by unfold nF; omega
  omega
theorem okR.sp (hk : okR r) : 0 ≤ sparP r ∧ sparP r ≤ 3264 := by
  have h1 := hk.2.1
  have := sm_rg (g := fun i => r (314 + 2 * i)) (B := 64) (by omega) (n := nS r) (fun k h => hk.2.2.2.2 k h)
  unfold sparP
  have : nS r ≤ 51 := by unfold nS; omega
  omega
theorem okR.ap (hk : okR r) : 0 ≤ allP r ∧ allP r ≤ 6528 := by
  have h1 := hk.up
  have h2 := hk.sp
  unfold allP; omega
theorem openP_rg {e s : Int} (he : 0 ≤ e ∧ e ≤ 64) (hs : 1 ≤ s ∧ s ≤ 8) : e ≤ openP e s ∧ openP e s ≤ e + 7 ∧ 0 ≤ openP e s := by
  unfold openP
  have h3 := Int.mul_ediv_add_emod (e + s - 1) s
  have h4 := Int.emod_nonneg (e + s - 1) (b := s) (by omega)
  have h5 := Int.emod_lt_of_pos (e + s - 1) (b := s) (by omega)
  have h6 : (e + s - 1) / s * s = s * ((e + s - 1) / s) := Int.mul_comm _ _
  omega
theorem tkS_at {i : Nat} (hi : i < nS r) (hF : nF r ≤ 51) (c : Nat) : tkS r i c =
    if c = 2 then r 2 - 1 else if 314 + 2 * i ≤ c ∧ c < 312 + 2 * nS r then r (c + 2) else
    if c = 109 + 4 * nF r then r (315 + 2 * i) else if c = 106 + 4 * nF r then r (314 + 2 * i) else r c := by
  unfold tkS
  by_cases h2 : c = 2
  · subst h2; rw [up_same, if_pos rfl]
  rw [up_ne _ _ h2, if_neg h2]
  by_cases h3 : 314 + 2 * i ≤ c ∧ c < 312 + 2 * nS r
  · rw [if_pos h3, cpy_in _ _ _ _ (by omega), up_ne _ _ (by omega), up_ne _ _ (by omega)]
    congr 1; omega
  rw [if_neg h3, cpy_out _ _ _ _ (by omega)]
  by_cases h4 : c = 109 + 4 * nF r
  · rw [if_pos h4, h4, up_same]
  rw [if_neg h4, up_ne _ _ h4]
  by_cases h5 : c = 106 + 4 * nF r
  · rw [if_pos h5, h5, up_same]
  rw [if_neg h5, up_ne _ _ h5]
theorem makeF_at {z : Int} (c : Nat) : makeF r z c =
    if 434 + (allP r).toNat ≤ c ∧ c < 434 + (allP r).toNat + z.toNat then 0 else
    if c = 109 + 4 * nF r then allP r else if c = 106 + 4 * nF r then z else r c := rfl
theorem addF_at {z : Int} (c : Nat) : addF r z c =
    if c = 1 then r 1 + 1 else if c = 108 + 4 * nF r then z else if c = 107 + 4 * nF r then bI (isBig r z) else r c := rfl
theorem maxF_at (c : Nat) : maxF r c = if c = 5 then (if r 5 < allP r then allP r else r 5) else r c := rfl
def gS (r : Nat → Int) (j : Nat) : Int := if j < nF r then r (109 + 4 * j) else r (315 + 2 * (j - nF r))
def gZ (r : Nat → Int) (j : Nat) : Int := if j < nF r then r (106 + 4 * j) else r (314 + 2 * (j - nF r))
theorem allP_sm (r : Nat → Int) : allP r = sm (gZ r) (nF r + nS r) := by
  rw [sm_add]
  unfold allP useP sparP
  congr 1
  · exact sm_congr (fun k hk => by unfold gZ; rw [if_pos hk])
  · exact sm_congr (fun k hk => by unfold gZ; rw [if_neg (by omega), Nat.add_sub_cancel_left])
/-- the ground is sound -/
def okG (r : Nat → Int) : Prop :=
  (0 ≤ r 1 ∧ 0 ≤ r 2 ∧ (8 ≤ r 7 ∧ r 7 ≤ 64) ∧ allP r ≤ 256) ∧
  (∀ f, f < nF r → (r (107 + 4 * f) = 0 ∨ r (107 + 4 * f) = 1) ∧ 0 ≤ r (108 + 4 * f) ∧ r (108 + 4 * f) ≤ r (106 + 4 * f)) ∧
  (∀ j, j < nF r + nS r → (5 ≤ gZ r j ∧ gZ r j ≤ 64) ∧ 0 ≤ gS r j ∧ gS r j + gZ r j ≤ allP r) ∧
  (∀ i j, i < nF r + nS r → j < nF r + nS r → i ≠ j → gS r i + gZ r i ≤ gS r j ∨ gS r j + gZ r j ≤ gS r i)
theorem okG.n (hg : okG r) : nF r + nS r ≤ 51 := by
  have h1 := sm_ge (g := gZ r) (B := 5) (n := nF r + nS r) (fun k hk => (hg.2.2.1 k hk).1.1)
  rw [← allP_sm] at h1
  have := hg.1.2.2.2
  omega
theorem okG.f (hg : okG r) {f : Nat} (hf : f < nF r) : (5 ≤ r (106 + 4 * f) ∧ r (106 + 4 * f) ≤ 64) ∧ 0 ≤ r (109 + 4 * f) ∧ r (109 + 4 * f) + r (106 + 4 * f) ≤ allP r := by
  have := hg.2.2.1 f (by omega)
  unfold gZ gS at this
  rw [if_pos hf, if_pos hf] at this
  exact this
theorem okG.s (hg : okG r) {i : Nat} (hi : i < nS r) : (5 ≤ r (314 + 2 * i) ∧ r (314 + 2 * i) ≤ 64) ∧ 0 ≤ r (315 + 2 * i) ∧ r (315 + 2 * i) + r (314 + 2 * i) ≤ allP r := by
  have := hg.2.2.1 (nF r + i) (by omega)
  unfold gZ gS at this
  rw [if_neg (by omega), if_neg (by omega), Nat.add_sub_cancel_left] at this
  exact this
theorem okG.k (hg : okG r) : okR r := by
  have hn := hg.n
  refine ⟨⟨hg.1.1, ?_⟩, ⟨hg.1.2.1, ?_⟩, hg.1.2.2.1, fun k hk => ?_, fun k hk => ?_⟩
  · unfold nF at hn; omega
  · unfold nS at hn; omega
  · have h1 := hg.2.1 k hk
    have h2 := (hg.f hk).1
    exact ⟨h1.1, by omega, by omega, by omega⟩
  · have h2 := (hg.s hk).1
    omega
/-- the ground does not change when only other cells do -/
theorem okG.cg {g : Nat → Int} (hg : okG r) (h1 : g 1 = r 1) (h2 : g 2 = r 2) (h7 : g 7 = r 7)
    (hc : ∀ c, 106 ≤ c → c < 418 → c % 4 ≠ 0 ∨ 314 ≤ c → g c = r c) (he : ∀ f, f < nF r → 0 ≤ g (108 + 4 * f) ∧ g (108 + 4 * f) ≤ r (106 + 4 * f)) : okG g ∧ allP g = allP r := by
  have hn := hg.n
  have eF : nF g = nF r := by unfold nF; rw [h1]
  have eS : nS g = nS r := by unfold nS; rw [h2]
  have eZ : ∀ j, j < nF r + nS r → gZ g j = gZ r j := by
    intro j hj
    unfold gZ
    rw [eF]
    by_cases hjf : j < nF r
    · rw [if_pos hjf, if_pos hjf, hc _ (by omega) (by omega) (by omega)]
    · rw [if_neg hjf, if_neg hjf, hc _ (by omega) (by omega) (by omega)]
  have eS2 : ∀ j, j < nF r + nS r → gS g j = gS r j := by
    intro j hj
    unfold gS
    rw [eF]
    by_cases hjf : j < nF r
    · rw [if_pos hjf, if_pos hjf, hc _ (by omega) (by omega) (by omega)]
    · rw [if_neg hjf, if_neg hjf, hc _ (by omega) (by omega) (by omega)]
  have eA : allP g = allP r := by
    rw [allP_sm, allP_sm, eF, eS]
    exact sm_congr eZ
  refine ⟨⟨?_, ?_, ?_, ?_⟩, eA⟩
  · rw [h1, h2, h7, eA]; exact hg.1
  · intro f hf
    rw [eF] at hf
    have := hg.2.1 f hf
    rw [hc (107 + 4 * f) (by omega) (by omega) (by omega), hc (106 + 4 * f) (by omega) (by omega) (by omega)]
    exact ⟨this.1, he f hf⟩
  · intro j hj
    rw [eF, eS] at hj
    rw [eZ j hj, eS2 j hj, eA]
    exact hg.2.2.1 j hj
  · intro i j hi hj hij
    rw [eF, eS] at hi hj
    rw [eZ j hj, eS2 j hj, eZ i hi, eS2 i hi]
    exact hg.2.2.2 i j hi hj hij
/-- the same parts in another order -/
theorem okG.ph {g : Nat → Int} (hg : okG r) (φ : Nat → Nat) (h1 : 0 ≤ g 1) (h2 : 0 ≤ g 2) (hn : nF g + nS g = nF r + nS r) (h7 : g 7 = r 7) (hA : allP g = allP r)
    (hφ : ∀ j, j < nF r + nS r → φ j < nF r + nS r) (hi : ∀ i j, i < nF r + nS r → j < nF r + nS r → i ≠ j → φ i ≠ φ j)
    (hZ : ∀ j, j < nF r + nS r → gZ g j = gZ r (φ j)) (hS : ∀ j, j < nF r + nS r → gS g j = gS r (φ j))
    (he : ∀ f, f < nF g → (g (107 + 4 * f) = 0 ∨ g (107 + 4 * f) = 1) ∧ 0 ≤ g (108 + 4 * f) ∧ g (108 + 4 * f) ≤ g (106 + 4 * f)) : okG g := by
  refine ⟨⟨h1, h2, ?_, ?_⟩, he, ?_, ?_⟩
  · rw [h7]; exact hg.1.2.2.1
  · rw [hA]; exact hg.1.2.2.2
  · intro j hj
    rw [hn] at hj
    rw [hZ j hj, hS j hj, hA]
    exact hg.2.2.1 _ (hφ j hj)
  · intro i j hi2 hj hij
    rw [hn] at hi2 hj
    rw [hZ j hj, hS j hj, hZ i hi2, hS i hi2]
    exact hg.2.2.2 _ _ (hφ i hi2) (hφ j hj) (hi i j hi2 hj hij)
theorem bI_01 (b : Bool) : bI b = 0 ∨ bI b = 1 := by cases b <;> simp [bI]
theorem isBig_cg {g : Nat → Int} (h7 : g 7 = r 7) (z : Int) : isBig g z = isBig r z := by unfold isBig; rw [h7]
/-- a spare field comes into use -/
theorem tk_ok (hg : okG r) {i : Nat} (hi : i < nS r) {z : Int} (hz : 0 ≤ z) (hzi : z ≤ r (314 + 2 * i)) : okG (addF (tkS r i) z) ∧ allP (addF (tkS r i) z) = allP r := by
  have hn := hg.n
  have hF : nF r ≤ 51 := by omega
  have h1 := hg.1.1
  have h2 := hg.1.2.1
  have hm : r 2 = (nS r : Int) := by unfold nS; omega
  have T := fun c => tkS_at (r := r) hi hF c
  have t1 : tkS r i 1 = r 1 := by rw [T, if_neg (by omega), if_neg (by omega), if_neg (by omega), if_neg (by omega)]
  have tF : nF (tkS r i) = nF r := by unfold nF; rw [t1]
  have A := fun c => addF_at (r := tkS r i) (z := z) c
  simp only [tF] at A
  have a1 : addF (tkS r i) z 1 = r 1 + 1 := by rw [A, if_pos rfl, t1]
  have a2 : addF (tkS r i) z 2 = r 2 - 1 := by rw [A, if_neg (by omega), if_neg (by omega), if_neg (by omega), T, if_pos rfl]
  have aF : nF (addF (tkS r i) z) = nF r + 1 := by unfold nF; rw [a1]; omega
  have aS : nS (addF (tkS r i) z) = nS r - 1 := by unfold nS; rw [a2]; omega
  have cc : ∀ c, 3 ≤ c → c < 314 + 2 * i → c ≠ 106 + 4 * nF r → c ≠ 107 + 4 * nF r → c ≠ 108 + 4 * nF r → c ≠ 109 + 4 * nF r → addF (tkS r i) z c = r c := by
    intro c h3 h4 h5 h6 h7 h8
    rw [A, if_neg (by omega), if_neg h7, if_neg h6, T, if_neg (by omega), if_neg (by omega), if_neg h8, if_neg h5]
  have cs : ∀ c, 314 + 2 * i ≤ c → c < 312 + 2 * nS r → addF (tkS r i) z c = r (c + 2) := by
    intro c h3 h4
    rw [A, if_neg (by omega), if_neg (by omega), if_neg (by omega), T, if_neg (by omega), if_pos (by omega)]
  have c6 : addF (tkS r i) z (106 + 4 * nF r) = r (314 + 2 * i) := by
    rw [A, if_neg (by omega), if_neg (by omega), if_neg (by omega), T, if_neg (by omega), if_neg (by omega), if_neg (by omega), if_pos rfl]
  have c9 : addF (tkS r i) z (109 + 4 * nF r) = r (315 + 2 * i) := by
    rw [A, if_neg (by omega), if_neg (by omega), if_neg (by omega), T, if_neg (by omega), if_neg (by omega), if_pos rfl]
  have c7 : addF (tkS r i) z (107 + 4 * nF r) = bI (isBig (tkS r i) z) := by
    rw [A, if_neg (by omega), if_neg (by omega), if_pos rfl]
  have c8 : addF (tkS r i) z (108 + 4 * nF r) = z := by
    rw [A, if_neg (by omega), if_pos rfl]
  let φ : Nat → Nat := fun j => if j < nF r then j else if j = nF r then nF r + i else if j ≤ nF r + i then j - 1 else j
  have hZ : ∀ j, j < nF r + nS r → gZ (addF (tkS r i) z) j = gZ r (φ j) := by
    intro j hj
    simp only [φ]
    unfold gZ
    rw [aF]
    by_cases q1 : j < nF r
    · rw [if_pos (by omega), if_pos q1, if_pos q1, cc _ (by omega) (by omega) (by omega) (by omega) (by omega) (by omega)]
    by_cases q2 : j = nF r
    · rw [if_pos (by omega), if_neg q1, if_pos q2, if_neg (by omega), q2, c6]
      congr 2; omega
    by_cases q3 : j ≤ nF r + i
    · rw [if_neg (by omega), if_neg q1, if_neg q2, if_pos q3, if_neg (by omega), cc _ (by omega) (by omega) (by omega) (by omega) (by omega) (by omega)]
      congr 2; omega
    · rw [if_neg (by omega), if_neg q1, if_neg q2, if_neg q3, if_neg (by omega), cs _ (by omega) (by omega)]
      congr 1; omega
  have hS : ∀ j, j < nF r + nS r → gS (addF (tkS r i) z) j = gS r (φ j) := by
    intro j hj
    simp only [φ]
    unfold gS
    rw [aF]
    by_cases q1 : j < nF r
    · rw [if_pos (by omega), if_pos q1, if_pos q1, cc _ (by omega) (by omega) (by omega) (by omega) (by omega) (by omega)]
    by_cases q2 : j = nF r
    · rw [if_pos (by omega), if_neg q1, if_pos q2, if_neg (by omega), q2, c9]
      congr 2; omega
    by_cases q3 : j ≤ nF r + i
    · rw [if_neg (by omega), if_neg q1, if_neg q2, if_pos q3, if_neg (by omega), cc _ (by omega) (by omega) (by omega) (by omega) (by omega) (by omega)]
      congr 2; omega
    · rw [if_neg (by omega), if_neg q1, if_neg q2, if_neg q3, if_neg (by omega), cs _ (by omega) (by omega)]
      congr 1; omega
  have eA : allP (addF (tkS r i) z) = allP r := by
    unfold allP useP sparP
    rw [aF, aS]
    simp only [sm]
    rw [c6]
    have e1 : sm (fun f => addF (tkS r i) z (106 + 4 * f)) (nF r) = sm (fun f => r (106 + 4 * f)) (nF r) := sm_congr (fun k hk => cc _ (by omega) (by omega) (by omega) (by omega) (by omega) (by omega))
    have e2 : sm (fun f => addF (tkS r i) z (314 + 2 * f)) (nS r - 1) = sm (fun k => if k < i then (fun f => r (314 + 2 * f)) k else (fun f => r (314 + 2 * f)) (k + 1)) (nS r - 1) := sm_congr (fun k hk => by
      by_cases q : k < i
      · rw [if_pos q, cc _ (by omega) (by omega) (by omega) (by omega) (by omega) (by omega)]
      · rw [if_neg q, cs _ (by omega) (by omega)]
        show r _ = r _
        congr 1)
    rw [e1, e2, sm_del _ _ (by omega), show nS r - 1 + 1 = nS r by omega]
    omega
  refine ⟨hg.ph φ (by omega) (by omega) (by omega) (cc 7 (by omega) (by omega) (by omega) (by omega) (by omega) (by omega)) eA ?_ ?_ hZ hS ?_, eA⟩
  · intro j hj; simp only [φ]; repeat' split
    all_goals omega
  · intro i j hi hj hij; simp only [φ]; repeat' split
    all_goals omega
  · intro f hf
    rw [aF] at hf
    by_cases q : f = nF r
    · rw [q, c7, c8, c6]
      exact ⟨bI_01 _, hz, hzi⟩
    · rw [cc _ (by omega) (by omega) (by omega) (by omega) (by omega) (by omega), cc (108 + 4 * f) (by omega) (by omega) (by omega) (by omega) (by omega) (by omega), cc (106 + 4 * f) (by omega) (by omega) (by omega) (by omega) (by omega) (by omega)]
      exact hg.2.1 f (by omega)
/-- a new field -/
theorem mk_ok (hg : okG r) {z y : Int} (hz : 0 ≤ z) (hzy : z ≤ y) (hy : 5 ≤ y ∧ y ≤ 64) (hA : allP r + y ≤ 256) : okG (addF (makeF r y) z) ∧ allP (addF (makeF r y) z) = allP r + y := by
  have hn := hg.n
  have h1 := hg.1.1
  have h2 := hg.1.2.1
  have hap := hg.k.ap
  have T := fun c => makeF_at (r := r) (z := y) c
  have t1 : makeF r y 1 = r 1 := by rw [T, if_neg (by omega), if_neg (by omega), if_neg (by omega)]
  have tF : nF (makeF r y) = nF r := by unfold nF; rw [t1]
  have A := fun c => addF_at (r := makeF r y) (z := z) c
  simp only [tF] at A
  have cc : ∀ c, 2 ≤ c → c < 434 → c ≠ 106 + 4 * nF r → c ≠ 107 + 4 * nF r → c ≠ 108 + 4 * nF r → c ≠ 109 + 4 * nF r → addF (makeF r y) z c = r c := by
    intro c h3 h4 h5 h6 h7 h8
    rw [A, if_neg (by omega), if_neg h7, if_neg h6, T, if_neg (by omega), if_neg h8, if_neg h5]
  have a1 : addF (makeF r y) z 1 = r 1 + 1 := by rw [A, if_pos rfl, t1]
  have a2 : addF (makeF r y) z 2 = r 2 := cc 2 (by omega) (by omega) (by omega) (by omega) (by omega) (by omega)
  have aF : nF (addF (makeF r y) z) = nF r + 1 := by unfold nF; rw [a1]; omega
  have aS : nS (addF (makeF r y) z) = nS r := by unfold nS; rw [a2]
  have c6 : addF (makeF r y) z (106 + 4 * nF r) = y := by
    rw [A, if_neg (by omega), if_neg (by omega), if_neg (by omega), T, if_neg (by omega), if_neg (by omega), if_pos rfl]
  have c9 : addF (makeF r y) z (109 + 4 * nF r) = allP r := by
    rw [A, if_neg (by omega), if_neg (by omega), if_neg (by omega), T, if_neg (by omega), if_pos rfl]
  have c7 : addF (makeF r y) z (107 + 4 * nF r) = bI (isBig (makeF r y) z) := by
    rw [A, if_neg (by omega), if_neg (by omega), if_pos rfl]
  have c8 : addF (makeF r y) z (108 + 4 * nF r) = z := by
    rw [A, if_neg (by omega), if_pos rfl]
  have hZ : ∀ j, j < nF r + nS r + 1 → gZ (addF (makeF r y) z) j = if j = nF r then y else gZ r (if j < nF r then j else j - 1) := by
    intro j q3
    by_cases q2 : j = nF r
    · rw [if_pos q2]; unfold gZ; rw [aF, if_pos (by omega), q2, c6]
    rw [if_neg q2]
    unfold gZ
    rw [aF]
    by_cases q1 : j < nF r
    · rw [if_pos (by omega), if_pos q1, if_pos q1, cc _ (by omega) (by omega) (by omega) (by omega) (by omega) (by omega)]
    · rw [if_neg (by omega), if_neg q1, if_neg (by omega), cc _ (by omega) (by omega) (by omega) (by omega) (by omega) (by omega)]
      congr 2; omega
  have hS : ∀ j, j < nF r + nS r + 1 → gS (addF (makeF r y) z) j = if j = nF r then allP r else gS r (if j < nF r then j else j - 1) := by
    intro j q3
    by_cases q2 : j = nF r
    · rw [if_pos q2]; unfold gS; rw [aF, if_pos (by omega), q2, c9]
    rw [if_neg q2]
    unfold gS
    rw [aF]
    by_cases q1 : j < nF r
    · rw [if_pos (by omega), if_pos q1, if_pos q1, cc _ (by omega) (by omega) (by omega) (by omega) (by omega) (by omega)]
    · rw [if_neg (by omega), if_neg q1, if_neg (by omega), cc _ (by omega) (by omega) (by omega) (by omega) (by omega) (by omega)]
      congr 2; omega
  have eA : allP (addF (makeF r y) z) = allP r + y := by
    unfold allP useP sparP
    rw [aF, aS]
    simp only [sm]
    rw [c6]
    have e1 : sm (fun f => addF (makeF r y) z (106 + 4 * f)) (nF r) = sm (fun f => r (106 + 4 * f)) (nF r) := sm_congr (fun k hk => cc _ (by omega) (by omega) (by omega) (by omega) (by omega) (by omega))
    have e2 : sm (fun f => addF (makeF r y) z (314 + 2 * f)) (nS r) = sm (fun f => r (314 + 2 * f)) (nS r) := sm_congr (fun k hk => cc _ (by omega) (by omega) (by omega) (by omega) (by omega) (by omega))
    rw [e1, e2]; omega
  refine ⟨⟨⟨by omega, by omega, ?_, by omega⟩, ?_, ?_, ?_⟩, eA⟩
  · rw [cc 7 (by omega) (by omega) (by omega) (by omega) (by omega) (by omega)]; exact hg.1.2.2.1
  · intro f hf
    rw [aF] at hf
    by_cases q : f = nF r
    · rw [q, c7, c8, c6]
      exact ⟨bI_01 _, hz, hzy⟩
    · rw [cc _ (by omega) (by omega) (by omega) (by omega) (by omega) (by omega), cc (108 + 4 * f) (by omega) (by omega) (by omega) (by omega) (by omega) (by omega), cc (106 + 4 * f) (by omega) (by omega) (by omega) (by omega) (by omega) (by omega)]
      exact hg.2.1 f (by omega)
  · intro j hj
    rw [aF, aS] at hj
    rw [hZ j (by omega), hS j (by omega), eA]
    by_cases q : j = nF r
    · rw [if_pos q, if_pos q]; omega
    · rw [if_neg q, if_neg q]
      have := hg.2.2.1 (if j < nF r then j else j - 1) (by split <;> omega)
      omega
  · intro i j hi hj hij
    rw [aF, aS] at hi hj
    rw [hZ i (by omega), hZ j (by omega), hS i (by omega), hS j (by omega)]
    by_cases q : j = nF r
    · rw [if_pos q, if_pos q, if_neg (show ¬ i = nF r by omega), if_neg (show ¬ i = nF r by omega)]
      have := hg.2.2.1 (if i < nF r then i else i - 1) (by split <;> omega)
      omega
    · rw [if_neg q, if_neg q]
      by_cases q9 : i = nF r
      · rw [if_pos q9, if_pos q9]
        have := hg.2.2.1 (if j < nF r then j else j - 1) (by split <;> omega)
        omega
      · rw [if_neg q9, if_neg q9]
        exact hg.2.2.2 (if i < nF r then i else i - 1) (if j < nF r then j else j - 1) (by split <;> omega) (by split <;> omega) (by split <;> split <;> omega)
end CELLS
