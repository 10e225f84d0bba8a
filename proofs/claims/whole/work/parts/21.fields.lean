/-! fields, tents, frames: what their methods do -/
def sm (g : Nat → Int) : Nat → Int
  | 0 => 0
  | k + 1 => sm g k + g k
/-- the last place that holds 0; none -/
def lst (g : Nat → Int) : Nat → Int
  | 0 => -1
  | k + 1 => if g k = 0 then k else lst g k
/-- the place of the smallest that is p or more, the first of like ones; none -/
def sml (g : Nat → Int) (p : Int) : Nat → Int
  | 0 => -1
  | k + 1 => if p ≤ g k ∧ (sml g p k = -1 ∨ g k < g (sml g p k).toNat) then k else sml g p k
/-- the place of the greatest, the last of like ones; none -/
def grt (g : Nat → Int) : Nat → Int
  | 0 => -1
  | k + 1 => if grt g k = -1 ∨ g (grt g k).toNat ≤ g k then k else grt g k
theorem lst_rg (g : Nat → Int) : ∀ n : Nat, -1 ≤ lst g n ∧ lst g n < n
  | 0 => by simp [lst]
  | k + 1 => by
    have := lst_rg g k
    simp only [lst]
    split <;> omega
theorem sml_rg (g : Nat → Int) (p : Int) : ∀ n : Nat, -1 ≤ sml g p n ∧ sml g p n < n
  | 0 => by simp [sml]
  | k + 1 => by
    have := sml_rg g p k
    simp only [sml]
    split <;> omega
theorem grt_rg (g : Nat → Int) : ∀ n : Nat, -1 ≤ grt g n ∧ grt g n < n ∧ (0 < n → 0 ≤ grt g n)
  | 0 => by simp [grt]
  | k + 1 => by
    have := grt_rg g k
    simp only [grt]
    split
    · omega
    · rename_i h
      have : ¬ grt g k = -1 := fun q => h (Or.inl q)
      omega
theorem sm_congr {g g' : Nat → Int} : ∀ {n : Nat}, (∀ k, k < n → g k = g' k) → sm g n = sm g' n
  | 0, _ => rfl
  | n + 1, h => by simp only [sm]; rw [sm_congr (fun k hk => h k (by omega)), h n (by omega)]
theorem lst_congr {g g' : Nat → Int} : ∀ {n : Nat}, (∀ k, k < n → g k = g' k) → lst g n = lst g' n
  | 0, _ => rfl
  | n + 1, h => by simp only [lst]; rw [lst_congr (fun k hk => h k (by omega)), h n (by omega)]
theorem sml_congr {g g' : Nat → Int} {p : Int} : ∀ {n : Nat}, (∀ k, k < n → g k = g' k) → sml g p n = sml g' p n
  | 0, _ => rfl
  | n + 1, h => by
    have e := sml_congr (p := p) (n := n) (fun k hk => h k (by omega))
    have r := sml_rg g' p n
    simp only [sml]
    rw [e, h n (by omega)]
    by_cases hs : sml g' p n = -1
    · simp [hs]
    · rw [h (sml g' p n).toNat (by omega)]
theorem grt_congr {g g' : Nat → Int} : ∀ {n : Nat}, (∀ k, k < n → g k = g' k) → grt g n = grt g' n
  | 0, _ => rfl
  | n + 1, h => by
    have e := grt_congr (n := n) (fun k hk => h k (by omega))
    have r := grt_rg g' n
    simp only [grt]
    rw [e, h n (by omega)]
    by_cases hs : grt g' n = -1
    · simp [hs]
    · rw [h (grt g' n).toNat (by omega)]
theorem sm_rg {g : Nat → Int} {B : Int} (hB : 0 ≤ B) : ∀ {n : Nat}, (∀ k, k < n → 0 ≤ g k ∧ g k ≤ B) → 0 ≤ sm g n ∧ sm g n ≤ n * B
  | 0, _ => by simp [sm]
  | n + 1, h => by
    have h1 := sm_rg hB (n := n) (fun k hk => h k (by omega))
    have h2 := h n (by omega)
    simp only [sm]
    have : ((n + 1 : Nat) : Int) * B = n * B + B := by rw [Int.natCast_add, Int.add_mul]; simp
    omega
def fields (h : AH) (a : Nat) (c : Int) (s z b e : Nat → Int) : Prop := h[a]? = some (1, [.int (iN c), .ref (a + 1), .ref (a + 3), .ref (a + 5), .ref (a + 7)]) ∧ row h (a + 1) 51 s ∧ row h (a + 3) 51 z ∧ row h (a + 5) 51 b ∧ row h (a + 7) 51 e
def tents (h : AH) (a : Nat) (c : Int) (f p z s : Nat → Int) : Prop := h[a]? = some (6, [.int (iN c), .ref (a + 1), .ref (a + 3), .ref (a + 5), .ref (a + 7)]) ∧ row h (a + 1) 24 f ∧ row h (a + 3) 24 p ∧ row h (a + 5) 24 z ∧ row h (a + 7) 24 s
def frames (h : AH) (a : Nat) (c : Int) (t f : Nat → Int) : Prop := h[a]? = some (2, [.int (iN c), .ref (a + 1), .ref (a + 3)]) ∧ row h (a + 1) 8 t ∧ row h (a + 3) 8 f
section FTF
variable {h h' : AH} {a lo hi : Nat} {c : Int} {s z b e f p t : Nat → Int}
theorem fields.off (hf : fields h a c s z b e) (ho : Off h h' lo hi) (hd : a + 9 ≤ lo ∨ hi ≤ a := by omega) : fields h' a c s z b e :=
  ⟨(ho.2 a (by omega)).trans hf.1, hf.2.1.off ho, hf.2.2.1.off ho, hf.2.2.2.1.off ho, hf.2.2.2.2.off ho⟩
theorem tents.off (hf : tents h a c f p z s) (ho : Off h h' lo hi) (hd : a + 9 ≤ lo ∨ hi ≤ a := by omega) : tents h' a c f p z s :=
  ⟨(ho.2 a (by omega)).trans hf.1, hf.2.1.off ho, hf.2.2.1.off ho, hf.2.2.2.1.off ho, hf.2.2.2.2.off ho⟩
theorem frames.off (hf : frames h a c t f) (ho : Off h h' lo hi) (hd : a + 5 ≤ lo ∨ hi ≤ a := by omega) : frames h' a c t f :=
  ⟨(ho.2 a (by omega)).trans hf.1, hf.2.1.off ho, hf.2.2.off ho⟩
theorem fields.n0 (hf : fields h a c s z b e) : fld h a 1 0 (.int (iN c)) := ⟨_, hf.1, rfl⟩
theorem fields.f1 (hf : fields h a c s z b e) : fld h a 1 1 (.ref (a + 1)) := ⟨_, hf.1, rfl⟩
theorem fields.f2 (hf : fields h a c s z b e) : fld h a 1 2 (.ref (a + 3)) := ⟨_, hf.1, rfl⟩
theorem fields.f3 (hf : fields h a c s z b e) : fld h a 1 3 (.ref (a + 5)) := ⟨_, hf.1, rfl⟩
theorem fields.f4 (hf : fields h a c s z b e) : fld h a 1 4 (.ref (a + 7)) := ⟨_, hf.1, rfl⟩
theorem fields.o (hf : fields h a c s z b e) : isO h a 1 := ⟨_, hf.1⟩
theorem tents.n0 (hf : tents h a c f p z s) : fld h a 6 0 (.int (iN c)) := ⟨_, hf.1, rfl⟩
theorem tents.f1 (hf : tents h a c f p z s) : fld h a 6 1 (.ref (a + 1)) := ⟨_, hf.1, rfl⟩
theorem tents.f2 (hf : tents h a c f p z s) : fld h a 6 2 (.ref (a + 3)) := ⟨_, hf.1, rfl⟩
theorem tents.f3 (hf : tents h a c f p z s) : fld h a 6 3 (.ref (a + 5)) := ⟨_, hf.1, rfl⟩
theorem tents.f4 (hf : tents h a c f p z s) : fld h a 6 4 (.ref (a + 7)) := ⟨_, hf.1, rfl⟩
theorem tents.o (hf : tents h a c f p z s) : isO h a 6 := ⟨_, hf.1⟩
theorem frames.n0 (hf : frames h a c t f) : fld h a 2 0 (.int (iN c)) := ⟨_, hf.1, rfl⟩
theorem frames.f1 (hf : frames h a c t f) : fld h a 2 1 (.ref (a + 1)) := ⟨_, hf.1, rfl⟩
theorem frames.f2 (hf : frames h a c t f) : fld h a 2 2 (.ref (a + 3)) := ⟨_, hf.1, rfl⟩
theorem frames.o (hf : frames h a c t f) : isO h a 2 := ⟨_, hf.1⟩
/-- the count is changed -/
theorem fields.setc (hf : fields h a c s z b e) (v : Int) : fields (stf h a 0 (.int (iN v))) a v s z b e := by
  have ho : Off h (stf h a 0 (.int (iN v))) a (a + 1) := Off.ofs
  refine ⟨?_, hf.2.1.off ho, hf.2.2.1.off ho, hf.2.2.2.1.off ho, hf.2.2.2.2.off ho⟩
  rw [stf_at hf.1]
  simp [(List.getElem?_eq_some_iff.mp hf.1).1]
theorem tents.setc (hf : tents h a c f p z s) (v : Int) : tents (stf h a 0 (.int (iN v))) a v f p z s := by
  have ho : Off h (stf h a 0 (.int (iN v))) a (a + 1) := Off.ofs
  refine ⟨?_, hf.2.1.off ho, hf.2.2.1.off ho, hf.2.2.2.1.off ho, hf.2.2.2.2.off ho⟩
  rw [stf_at hf.1]
  simp [(List.getElem?_eq_some_iff.mp hf.1).1]
theorem frames.setc (hf : frames h a c t f) (v : Int) : frames (stf h a 0 (.int (iN v))) a v t f := by
  have ho : Off h (stf h a 0 (.int (iN v))) a (a + 1) := Off.ofs
  refine ⟨?_, hf.2.1.off ho, hf.2.2.off ho⟩
  rw [stf_at hf.1]
  simp [(List.getElem?_eq_some_iff.mp hf.1).1]
theorem Off.at {q n : Nat} {f : Nat → Int} (LO HI : Nat) (hq : LO ≤ q ∧ q < HI := by omega) : Off h (wr h q n f) LO HI := Off.ofw.up LO HI
theorem fields.w1 (hf : fields h a c s z b e) (g : Nat → Int) : fields (wr h (a + 2) 51 g) a c g z b e :=
  ⟨(Off.at (a + 2) (a + 3)).2 a (by omega) |>.trans hf.1, hf.2.1.w g, hf.2.2.1.off (Off.at (a + 2) (a + 3)), hf.2.2.2.1.off (Off.at (a + 2) (a + 3)), hf.2.2.2.2.off (Off.at (a + 2) (a + 3))⟩
theorem fields.w2 (hf : fields h a c s z b e) (g : Nat → Int) : fields (wr h (a + 4) 51 g) a c s g b e :=
  ⟨(Off.at (a + 4) (a + 5)).2 a (by omega) |>.trans hf.1, hf.2.1.off (Off.at (a + 4) (a + 5)), hf.2.2.1.w g, hf.2.2.2.1.off (Off.at (a + 4) (a + 5)), hf.2.2.2.2.off (Off.at (a + 4) (a + 5))⟩
theorem fields.w3 (hf : fields h a c s z b e) (g : Nat → Int) : fields (wr h (a + 6) 51 g) a c s z g e :=
  ⟨(Off.at (a + 6) (a + 7)).2 a (by omega) |>.trans hf.1, hf.2.1.off (Off.at (a + 6) (a + 7)), hf.2.2.1.off (Off.at (a + 6) (a + 7)), hf.2.2.2.1.w g, hf.2.2.2.2.off (Off.at (a + 6) (a + 7))⟩
theorem fields.w4 (hf : fields h a c s z b e) (g : Nat → Int) : fields (wr h (a + 8) 51 g) a c s z b g :=
  ⟨(Off.at (a + 8) (a + 9)).2 a (by omega) |>.trans hf.1, hf.2.1.off (Off.at (a + 8) (a + 9)), hf.2.2.1.off (Off.at (a + 8) (a + 9)), hf.2.2.2.1.off (Off.at (a + 8) (a + 9)), hf.2.2.2.2.w g⟩
theorem tents.w1 (hf : tents h a c f p z s) (g : Nat → Int) : tents (wr h (a + 2) 24 g) a c g p z s :=
  ⟨(Off.at (a + 2) (a + 3)).2 a (by omega) |>.trans hf.1, hf.2.1.w g, hf.2.2.1.off (Off.at (a + 2) (a + 3)), hf.2.2.2.1.off (Off.at (a + 2) (a + 3)), hf.2.2.2.2.off (Off.at (a + 2) (a + 3))⟩
theorem tents.w2 (hf : tents h a c f p z s) (g : Nat → Int) : tents (wr h (a + 4) 24 g) a c f g z s :=
  ⟨(Off.at (a + 4) (a + 5)).2 a (by omega) |>.trans hf.1, hf.2.1.off (Off.at (a + 4) (a + 5)), hf.2.2.1.w g, hf.2.2.2.1.off (Off.at (a + 4) (a + 5)), hf.2.2.2.2.off (Off.at (a + 4) (a + 5))⟩
theorem tents.w3 (hf : tents h a c f p z s) (g : Nat → Int) : tents (wr h (a + 6) 24 g) a c f p g s :=
  ⟨(Off.at (a + 6) (a + 7)).2 a (by omega) |>.trans hf.1, hf.2.1.off (Off.at (a + 6) (a + 7)), hf.2.2.1.off (Off.at (a + 6) (a + 7)), hf.2.2.2.1.w g, hf.2.2.2.2.off (Off.at (a + 6) (a + 7))⟩
theorem tents.w4 (hf : tents h a c f p z s) (g : Nat → Int) : tents (wr h (a + 8) 24 g) a c f p z g :=
  ⟨(Off.at (a + 8) (a + 9)).2 a (by omega) |>.trans hf.1, hf.2.1.off (Off.at (a + 8) (a + 9)), hf.2.2.1.off (Off.at (a + 8) (a + 9)), hf.2.2.2.1.off (Off.at (a + 8) (a + 9)), hf.2.2.2.2.w g⟩
theorem frames.w1 (hf : frames h a c t f) (g : Nat → Int) : frames (wr h (a + 2) 8 g) a c g f :=
  ⟨(Off.at (a + 2) (a + 3)).2 a (by omega) |>.trans hf.1, hf.2.1.w g, hf.2.2.off (Off.at (a + 2) (a + 3))⟩
theorem frames.w2 (hf : frames h a c t f) (g : Nat → Int) : frames (wr h (a + 4) 8 g) a c t g :=
  ⟨(Off.at (a + 4) (a + 5)).2 a (by omega) |>.trans hf.1, hf.2.1.off (Off.at (a + 4) (a + 5)), hf.2.2.w g⟩
/-! has -/
theorem s_fhas (hf : fields h a c s z b e) {x : Int} (hx : -2147483648 ≤ x ∧ x < 2147483648) (hc : 0 ≤ c ∧ c ≤ 1000) : CtZ mX1_has 0 0 0 [.ref a, .int (iN x)] h (fun r h' => r = decide (0 ≤ x ∧ x < c) ∧ h' = h) := by
  refine en_X1_has (b_X1_has_0 (fun q => ?_) (fun q => ?_))
  · have := (iN_lt (by omega)).mp q
    exact b_X1_has_16 (rZ0 ⟨by simp; omega, rfl⟩)
  refine b_X1_has_4 hf.n0 (fun q2 => ?_) (fun q2 => ?_)
  · have := (iN_le (by omega)).mp q2
    exact b_X1_has_16 (rZ0 ⟨by simp; omega, rfl⟩)
  · have h1 : ¬ x < 0 := fun w => q ((iN_lt (by omega)).mpr w)
    have h2 : ¬ c ≤ x := fun w => q2 ((iN_le (by omega)).mpr w)
    exact b_X1_has_12 (rZ1 ⟨by simp; omega, rfl⟩)
theorem s_thas (hf : tents h a c f p z s) {x : Int} (hx : -2147483648 ≤ x ∧ x < 2147483648) (hc : 0 ≤ c ∧ c ≤ 1000) : CtZ mX6_has 0 0 0 [.ref a, .int (iN x)] h (fun r h' => r = decide (0 ≤ x ∧ x < c) ∧ h' = h) := by
  refine en_X6_has (b_X6_has_0 (fun q => ?_) (fun q => ?_))
  · have := (iN_lt (by omega)).mp q
    exact b_X6_has_16 (rZ0 ⟨by simp; omega, rfl⟩)
  refine b_X6_has_4 hf.n0 (fun q2 => ?_) (fun q2 => ?_)
  · have := (iN_le (by omega)).mp q2
    exact b_X6_has_16 (rZ0 ⟨by simp; omega, rfl⟩)
  · have h1 : ¬ x < 0 := fun w => q ((iN_lt (by omega)).mpr w)
    have h2 : ¬ c ≤ x := fun w => q2 ((iN_le (by omega)).mpr w)
    exact b_X6_has_12 (rZ1 ⟨by simp; omega, rfl⟩)
theorem s_rhas (hf : frames h a c t f) {x : Int} (hx : -2147483648 ≤ x ∧ x < 2147483648) (hc : 0 ≤ c ∧ c ≤ 1000) : CtZ mX2_has 0 0 0 [.ref a, .int (iN x)] h (fun r h' => r = decide (0 ≤ x ∧ x < c) ∧ h' = h) := by
  refine en_X2_has (b_X2_has_0 (fun q => ?_) (fun q => ?_))
  · have := (iN_lt (by omega)).mp q
    exact b_X2_has_16 (rZ0 ⟨by simp; omega, rfl⟩)
  refine b_X2_has_4 hf.n0 (fun q2 => ?_) (fun q2 => ?_)
  · have := (iN_le (by omega)).mp q2
    exact b_X2_has_16 (rZ0 ⟨by simp; omega, rfl⟩)
  · have h1 : ¬ x < 0 := fun w => q ((iN_lt (by omega)).mpr w)
    have h2 : ¬ c ≤ x := fun w => q2 ((iN_le (by omega)).mpr w)
    exact b_X2_has_12 (rZ1 ⟨by simp; omega, rfl⟩)
/-! loops over fields -/
theorem s_places (n : Nat) (hf : fields h a n s z b e) (hn : n ≤ 51) (hz : ∀ k, k < n → 0 ≤ z k ∧ z k ≤ 1000) : CtI mX1_places 1 0 0 [.ref a] h (fun r h' => r = sm z n ∧ h' = h) := by
  refine en_X1_places (b_X1_places_0 ?_)
  have H : ∀ (k i : Nat), i + k = n → AW mX1_places 1 0 0 4 [.ref a, .int (iN (sm z i)), .int (iN (i : Int))] [] h (qI (fun r h' => r = sm z n ∧ h' = h)) := by
    intro k
    induction k with
    | zero =>
      intro i hi
      refine b_X1_places_4 hf.n0 (fun _ => ?_) (fun w => absurd ((iN_le (by omega)).mpr (by omega)) w)
      exact b_X1_places_29 (rI ⟨by rw [show n = i by omega], rfl⟩)
    | succ k ih =>
      intro i hi
      refine b_X1_places_4 hf.n0 (fun w => ?_) (fun _ => ?_)
      · have := (iN_le (by omega)).mp w; omega
      refine b_X1_places_12 hf.f2 hf.2.2.1.o (s_get hf.2.2.1 (z := (i : Int)) (by omega) (by omega)) (fun v h' hv => ?_)
      obtain ⟨rfl, rfl⟩ := hv
      refine b_X1_places_21 ?_
      have e : ((i : Int) + 1) = ((i + 1 : Nat) : Int) := by omega
      rw [e, Int.toNat_natCast]
      exact ih (i + 1) (by omega)
  exact H n 0 (by omega)
theorem s_lastUsual (n : Nat) (hf : fields h a n s z b e) (hn : n ≤ 51) (hb : ∀ k, k < n → b k = 0 ∨ b k = 1) : CtI mX1_lastUsual 1 0 0 [.ref a] h (fun r h' => r = lst b n ∧ h' = h) := by
  refine en_X1_lastUsual (b_X1_lastUsual_0 ?_)
  have H : ∀ (k i : Nat), i + k = n → AW mX1_lastUsual 1 0 0 4 [.ref a, .int (iN (lst b i)), .int (iN (i : Int))] [] h (qI (fun r h' => r = lst b n ∧ h' = h)) := by
    intro k
    induction k with
    | zero =>
      intro i hi
      refine b_X1_lastUsual_4 hf.n0 (fun _ => ?_) (fun w => absurd ((iN_le (by omega)).mpr (by omega)) w)
      exact b_X1_lastUsual_31 (rI ⟨by rw [show n = i by omega], rfl⟩)
    | succ k ih =>
      intro i hi
      have hb1 := hb i (by omega)
      refine b_X1_lastUsual_4 hf.n0 (fun w => ?_) (fun _ => ?_)
      · have := (iN_le (by omega)).mp w; omega
      refine b_X1_lastUsual_12 hf.f3 hf.2.2.2.1.o (s_get hf.2.2.2.1 (z := (i : Int)) (by omega) (by omega)) (fun v h' hv => ?_)
      obtain ⟨rfl, rfl⟩ := hv
      have e : ((i : Int) + 1) = ((i + 1 : Nat) : Int) := by omega
      have hk := ih (i + 1) (by omega)
      rw [Int.toNat_natCast]
      refine b_X1_lastUsual_20 (fun w => ?_) (fun w => ?_)
      · refine b_X1_lastUsual_25 ?_
        rw [e]
        simp only [lst] at hk
        rw [if_neg (fun q => w (by rw [q]))] at hk
        exact hk
      · refine b_X1_lastUsual_23 ?_
        rw [e]
        simp only [lst] at hk
        rw [if_pos ((iN_eq (by omega)).mp w)] at hk
        exact hk
  exact H n 0 (by omega)
theorem s_smallestFor (n : Nat) (hf : fields h a n s z b e) (hn : n ≤ 51) (hz : ∀ k, k < n → 0 ≤ z k ∧ z k ≤ 1000) {x : Int} (hx : 0 ≤ x ∧ x ≤ 1000) : CtI mX1_smallestFor 1 0 0 [.ref a, .int (iN x)] h (fun r h' => r = sml z x n ∧ h' = h) := by
  refine en_X1_smallestFor (b_X1_smallestFor_0 ?_)
  have H : ∀ (k i : Nat), i + k = n → AW mX1_smallestFor 1 0 0 4 [.ref a, .int (iN x), .int (iN (sml z x i)), .int (iN (i : Int))] [] h (qI (fun r h' => r = sml z x n ∧ h' = h)) := by
    intro k
    induction k with
    | zero =>
      intro i hi
      refine b_X1_smallestFor_4 hf.n0 (fun _ => ?_) (fun w => absurd ((iN_le (by omega)).mpr (by omega)) w)
      exact b_X1_smallestFor_56 (rI ⟨by rw [show n = i by omega], rfl⟩)
    | succ k ih =>
      intro i hi
      have hz1 := hz i (by omega)
      have r := sml_rg z x i
      refine b_X1_smallestFor_4 hf.n0 (fun w => ?_) (fun _ => ?_)
      · have := (iN_le (by omega)).mp w; omega
      refine b_X1_smallestFor_12 hf.f2 hf.2.2.1.o (s_get hf.2.2.1 (z := (i : Int)) (by omega) (by omega)) (fun v h' hv => ?_)
      obtain ⟨rfl, rfl⟩ := hv
      have e : ((i : Int) + 1) = ((i + 1 : Nat) : Int) := by omega
      have hk := ih (i + 1) (by omega)
      rw [Int.toNat_natCast]
      rw [← e] at hk
      simp only [sml] at hk
      refine b_X1_smallestFor_20 (fun w => ?_) (fun w => ?_)
      · have := (iN_lt (by omega)).mp w
        refine b_X1_smallestFor_50 ?_
        rw [if_neg (by omega)] at hk
        exact hk
      have hpz : x ≤ z i := by
        rcases Int.lt_or_le (z i) x with q | q
        · exact absurd ((iN_lt (by omega)).mpr q) w
        · exact q
      refine b_X1_smallestFor_24 (fun w2 => ?_) (fun w2 => ?_)
      · have := (iN_eq (by omega)).mp w2
        refine b_X1_smallestFor_48 ?_
        rw [if_pos ⟨hpz, Or.inl this⟩] at hk
        exact hk
      have hne : ¬ sml z x i = -1 := fun q => w2 (by rw [q])
      have hz2 := hz (sml z x i).toNat (by omega)
      refine b_X1_smallestFor_29 hf.f2 hf.2.2.1.o (s_get hf.2.2.1 (z := (i : Int)) (by omega) (by omega)) (fun v h' hv => ?_)
      obtain ⟨rfl, rfl⟩ := hv
      refine b_X1_smallestFor_37 hf.f2 hf.2.2.1.o (s_get hf.2.2.1 (z := sml z x i) (by omega) (by omega)) (fun v h' hv => ?_)
      obtain ⟨rfl, rfl⟩ := hv
      rw [Int.toNat_natCast]
      refine b_X1_smallestFor_45 (fun w3 => ?_) (fun w3 => ?_)
      · have := (iN_le (by omega)).mp w3
        refine b_X1_smallestFor_50 ?_
        rw [if_neg (by rintro ⟨-, q | q⟩ <;> omega)] at hk
        exact hk
      · have : ¬ z (sml z x i).toNat ≤ z i := fun q => w3 ((iN_le (by omega)).mpr q)
        refine b_X1_smallestFor_48 ?_
        rw [if_pos ⟨hpz, Or.inr (by omega)⟩] at hk
        exact hk
  exact H n 0 (by omega)
theorem s_greatest (n : Nat) (hf : fields h a n s z b e) (hn : n ≤ 51) (hz : ∀ k, k < n → 0 ≤ z k ∧ z k ≤ 1000) : CtI mX1_greatest 1 0 0 [.ref a] h (fun r h' => r = grt z n ∧ h' = h) := by
  refine en_X1_greatest (b_X1_greatest_0 ?_)
  have H : ∀ (k i : Nat), i + k = n → AW mX1_greatest 1 0 0 4 [.ref a, .int (iN (grt z i)), .int (iN (i : Int))] [] h (qI (fun r h' => r = grt z n ∧ h' = h)) := by
    intro k
    induction k with
    | zero =>
      intro i hi
      refine b_X1_greatest_4 hf.n0 (fun _ => ?_) (fun w => absurd ((iN_le (by omega)).mpr (by omega)) w)
      exact b_X1_greatest_44 (rI ⟨by rw [show n = i by omega], rfl⟩)
    | succ k ih =>
      intro i hi
      have hz1 := hz i (by omega)
      have r := grt_rg z i
      refine b_X1_greatest_4 hf.n0 (fun w => ?_) (fun _ => ?_)
      · have := (iN_le (by omega)).mp w; omega
      have e : ((i : Int) + 1) = ((i + 1 : Nat) : Int) := by omega
      have hk := ih (i + 1) (by omega)
      rw [← e] at hk
      simp only [grt] at hk
      refine b_X1_greatest_12 (fun w => ?_) (fun w => ?_)
      · have := (iN_eq (by omega)).mp w
        refine b_X1_greatest_36 ?_
        rw [if_pos (Or.inl this)] at hk
        exact hk
      have hne : ¬ grt z i = -1 := fun q => w (by rw [q])
      have hz2 := hz (grt z i).toNat (by omega)
      refine b_X1_greatest_17 hf.f2 hf.2.2.1.o (s_get hf.2.2.1 (z := (i : Int)) (by omega) (by omega)) (fun v h' hv => ?_)
      obtain ⟨rfl, rfl⟩ := hv
      refine b_X1_greatest_25 hf.f2 hf.2.2.1.o (s_get hf.2.2.1 (z := grt z i) (by omega) (by omega)) (fun v h' hv => ?_)
      obtain ⟨rfl, rfl⟩ := hv
      rw [Int.toNat_natCast]
      refine b_X1_greatest_33 (fun w3 => ?_) (fun w3 => ?_)
      · have := (iN_lt (by omega)).mp w3
        refine b_X1_greatest_38 ?_
        rw [if_neg (by rintro (q | q) <;> omega)] at hk
        exact hk
      · have : ¬ z i < z (grt z i).toNat := fun q => w3 ((iN_lt (by omega)).mpr q)
        refine b_X1_greatest_36 ?_
        rw [if_pos (Or.inr (by omega))] at hk
        exact hk
  exact H n 0 (by omega)
end FTF
