/-! scripts and simulations: the class's side -/
theorem jN_div {a b : Int} (ha : 0 ≤ a ∧ a < 9223372036854775808) (hb : 0 < b ∧ b < 9223372036854775808) : (jN a / jN b).toInt = a / b := by
  rw [Int64.toInt_div, jN_T (by omega), jN_T (by omega), Int.tdiv_eq_ediv_of_nonneg ha.1]
  have h1 : 0 ≤ a / b := Int.ediv_nonneg ha.1 (by omega)
  have h2 : a / b ≤ a := Int.ediv_le_self b ha.1
  rw [Int.bmod_eq_of_le] <;> omega
theorem jN_rem {a b : Int} (ha : 0 ≤ a ∧ a < 9223372036854775808) (hb : 0 < b ∧ b < 9223372036854775808) : (jN a - jN a / jN b * jN b).toInt = a % b := by
  have e : jN a / jN b = jN (a / b) := by rw [← jN_div ha hb, jN_toInt]
  rw [e, jN_mul, jN_sub]
  have h1 := Int.emod_nonneg a (b := b) (by omega)
  have h2 := Int.emod_lt_of_pos a (b := b) (by omega)
  have h3 := Int.mul_ediv_add_emod a b
  have h4 : a / b * b = b * (a / b) := Int.mul_comm _ _
  rw [jN_T (by omega)]
  omega
theorem j2i {a : Int} (ha : 0 ≤ a ∧ a < 2147483648) : (jN a).toInt32.toInt = a := by
  rw [Int64.toInt_toInt32, jN_T (by omega), Int.bmod_eq_of_le] <;> omega
/-- one group of a script: whether it succeeds, and the row behind it -/
def doM (g : Int) (r : Nat → Int) : Bool × (Nat → Int) :=
  if g / 10000 = 1 then (if isKnd (g % 10000 / 10) (g % 10000 % 10) = true ∧ r 0 < 24 ∧ whereIn r (g % 10000 / 10) (g % 10000 % 10) ≠ 3 then (true, pitchIn r (g % 10000 / 10) (g % 10000 % 10)) else (false, r)) else
  if g / 10000 = 2 then (if g % 10000 = 0 ∧ r 3 < 8 then (true, enterIn r) else if g % 10000 = 1 ∧ 0 < r 3 then (true, leaveIn r) else (false, r)) else
  if g / 10000 = 3 then (if g % 10000 < r 3 then (true, jumpIn r (g % 10000).toNat) else (false, r)) else
  if g / 10000 = 4 then (if g % 10000 / 100 < r 0 then (true, fillIn r (g % 10000 / 100).toNat (g % 10000 % 100)) else (false, r)) else
  if g / 10000 = 5 then (decide (g % 10000 < 1000 ∧ tentP r ≤ g % 10000), r) else
  if g / 10000 = 6 then (decide (g % 10000 < 1000 ∧ ¬ iN (g % 10000) < iN (gapsV r)), r) else
  if g / 10000 = 7 then (decide (g % 10000 % 100 < 10 ∧ g % 10000 / 100 < r 0 ∧ r (10 + 4 * (g % 10000 / 100).toNat) = g % 10000 % 100), r) else
  if g / 10000 = 8 then (decide (g % 10000 / 100 = 0 ∧ r 2 ≤ g % 10000 % 100), r) else
  if g / 10000 = 9 then (decide (g % 10000 / 100 = 0 ∧ g % 10000 % 100 ≤ r 0), r) else (false, r)
def pw : Nat → Int
  | 0 => 1
  | j + 1 => pw j * 100000
/-- j groups from the k-th of n on: the first that fails, or -1; the row behind it -/
def rsL (told : Int) (n : Nat) : Nat → Nat → (Nat → Int) → Int × (Nat → Int)
  | 0, _, r => (-1, r)
  | j + 1, k, r => if (doM (told / pw (n - 1 - k) % 100000) r).1 = true then rsL told n j (k + 1) (doM (told / pw (n - 1 - k) % 100000) r).2 else ((k : Int), (doM (told / pw (n - 1 - k) % 100000) r).2)
def rsK (n told : Int) : Int := if (1 ≤ n ∧ n ≤ 3) ∧ 0 ≤ told ∧ told < pw n.toNat then 0 else 1
def rsV (n told : Int) (r : Nat → Int) : Int := (rsL told n.toNat n.toNat 0 r).1
/-- what a generator's number gives -/
def rnd (z : Int) : Int := (jN ((jN z).toUInt64 >>> ((iN 33).toInt64.toUInt64 &&& Int64.toUInt64 63)).toInt64.toInt).toInt32.toInt
theorem rnd_rg (z : Int) : 0 ≤ rnd z ∧ rnd z < 2147483648 := by
  have k33 : ((iN 33).toInt64.toUInt64 &&& Int64.toUInt64 63) = 33 := by decide
  unfold rnd
  rw [k33]
  have e : ((jN z).toUInt64 >>> 33).toNat = (jN z).toUInt64.toNat / 8589934592 := by
    rw [UInt64.toNat_shiftRight, Nat.shiftRight_eq_div_pow]
    rfl
  have b : (jN z).toUInt64.toNat < 18446744073709551616 := UInt64.toNat_lt _
  have u : ((jN z).toUInt64 >>> 33).toNat < 2147483648 := by rw [e]; omega
  have t : ((jN z).toUInt64 >>> 33).toInt64.toInt = (((jN z).toUInt64 >>> 33).toNat : Int) := by
    show ((jN z).toUInt64 >>> 33).toBitVec.toInt = _
    exact BitVec.toInt_eq_toNat_of_lt (by show 2 * ((jN z).toUInt64 >>> 33).toNat < _; omega)
  rw [t, j2i (by omega)]
  omega
def st4 (j : Int) : Int := if j = 0 then 1 else if j = 1 then 2 else if j = 2 then 4 else 8
theorem sh4 {j : Int} (h : 0 ≤ j ∧ j < 4) : (iN 1 <<< (iN j &&& 31)).toInt = st4 j := by
  rcases (show j = 0 ∨ j = 1 ∨ j = 2 ∨ j = 3 by omega) with rfl | rfl | rfl | rfl <;> decide
theorem st4_rg (j : Int) : st4 j = 1 ∨ st4 j = 2 ∨ st4 j = 4 ∨ st4 j = 8 := by
  unfold st4; split
  · exact Or.inl rfl
  · split
    · exact Or.inr (Or.inl rfl)
    · split
      · exact Or.inr (Or.inr (Or.inl rfl))
      · exact Or.inr (Or.inr (Or.inr rfl))
/-- one step of a simulation -/
def stM (z : Int) (r : Nat → Int) : Nat → Int :=
  if z % 8 = 0 ∨ z % 8 = 1 then inR r else if z % 8 = 2 then outR r else if z % 8 = 3 then bakR r (z / 8 % 8) else puR r (1 + z / 8 % 20) (st4 (z / 256 % 4))
def gen (x : Int) : Int := (x * 6364136223846793005) + 1442695040888963407
def smL : Nat → Int → (Nat → Int) → Nat → Int
  | 0, _, r => r
  | k + 1, x, r => smL k (gen x) (stM (rnd (gen x)) r)
def siK (m : Int) : Int := if 1 ≤ m ∧ m ≤ 99 then 0 else 1
def siV (seed m : Int) (r : Nat → Int) : Int := (1000 * (smL m.toNat seed r 6 - r 6)) + allP (smL m.toNat seed r)
section SCR
variable {h h' : AH} {c x n l : Nat} {r s : Nat → Int} {D K : Nat → Nat → Int} {b : Nat → Bool}
theorem doM_inv (hI : Inv r) {g : Int} (hg : 0 ≤ g ∧ g < 100000) : Inv (doM g r).2 := by
  unfold doM
  split
  · split
    · rename_i w; have := isKnd_T w.1; exact hI.pitch w.2.1 this.1 this.2 w.2.2
    · exact hI
  · split
    · split
      · rename_i w; exact hI.enter w.2
      · split
        · rename_i w; exact hI.leave w.2
        · exact hI
    · split
      · split
        · rename_i w; exact hI.jump (by omega)
        · exact hI
      · split
        · split
          · exact hI.fill (by omega)
          · exact hI
        · split
          · exact hI
          · split
            · exact hI
            · split
              · exact hI
              · split
                · exact hI
                · split <;> exact hI
theorem s_succeeds (hc : cmp h c r) {g : Int} (hg : 0 ≤ g ∧ g < 100000) : CtZ mX8_succeeds 6 0 0 [.ref c, .int (iN g)] h (fun v h' => v = (doM g r).1 ∧ cmp h' c (doM g r).2 ∧ Off h h' c (c + 35)) := by
  have eQ := iN_div (a := g) (b := 10000) (by omega) (by omega)
  have eR := iN_rem (a := g) (b := 10000) (by omega) (by omega)
  generalize ht : g % 10000 = t at eR
  have t0 : 0 ≤ t ∧ t < 10000 := by omega
  have eH := iN_div (a := t) (b := 100) (by omega) (by omega)
  have eL := iN_rem (a := t) (b := 100) (by omega) (by omega)
  have eS := iN_div (a := t) (b := 10) (by omega) (by omega)
  have eE := iN_rem (a := t) (b := 10) (by omega) (by omega)
  have I := hc.2
  have r0 := I.r0
  have r3 := I.r3
  have r12 := I.r1
  obtain ⟨⟨N, X, hX, hA⟩, -⟩ := hc
  have hc : cmp h c r := ⟨⟨N, X, hX, hA⟩, I⟩
  have nu := hA.nums
  have a7 : N 7 = r 0 := nu.2.2.2.2.2.2.2.1
  have a10 : N 10 = r 2 := nu.2.2.2.2.2.2.2.2.2.2
  have fin : ∀ (q : Int), (g / 10000 = q) → (iN (g / 10000)).toInt = q := fun q e => by rw [iN_T (by omega)]; exact e
  have dm : ∀ q : Int, g / 10000 = q → doM g r =
    if q = 1 then (if isKnd (t / 10) (t % 10) = true ∧ r 0 < 24 ∧ whereIn r (t / 10) (t % 10) ≠ 3 then (true, pitchIn r (t / 10) (t % 10)) else (false, r)) else
    if q = 2 then (if t = 0 ∧ r 3 < 8 then (true, enterIn r) else if t = 1 ∧ 0 < r 3 then (true, leaveIn r) else (false, r)) else
    if q = 3 then (if t < r 3 then (true, jumpIn r t.toNat) else (false, r)) else
    if q = 4 then (if t / 100 < r 0 then (true, fillIn r (t / 100).toNat (t % 100)) else (false, r)) else
    if q = 5 then (decide (t < 1000 ∧ tentP r ≤ t), r) else
    if q = 6 then (decide (t < 1000 ∧ ¬ iN t < iN (gapsV r)), r) else
    if q = 7 then (decide (t % 100 < 10 ∧ t / 100 < r 0 ∧ r (10 + 4 * (t / 100).toNat) = t % 100), r) else
    if q = 8 then (decide (t / 100 = 0 ∧ r 2 ≤ t % 100), r) else
    if q = 9 then (decide (t / 100 = 0 ∧ t % 100 ≤ r 0), r) else (false, r) := by
    intro q e
    unfold doM
    rw [e, ht]
  have Nope : ∀ d9 : Bool, d9 = false → (doM g r = (d9, r)) → qZ (fun v h' => v = (doM g r).1 ∧ cmp h' c (doM g r).2 ∧ Off h h' c (c + 35)) (.inl (some (.int (iN 0)))) h := by
    intro d9 e e2
    rw [e2, e]
    exact rZ0 ⟨rfl, hc, Off.rf⟩
  have Yup : ∀ d9 : Bool, d9 = true → (doM g r = (d9, r)) → qZ (fun v h' => v = (doM g r).1 ∧ cmp h' c (doM g r).2 ∧ Off h h' c (c + 35)) (.inl (some (.int (iN 1)))) h := by
    intro d9 e e2
    rw [e2, e]
    exact rZ1 ⟨rfl, hc, Off.rf⟩
  refine en_X8_succeeds (b_X8_succeeds_0 (fun q => ?_) (fun q => ?_) (fun q => ?_) (fun q => ?_) (fun q => ?_) (fun q => ?_) (fun q => ?_) (fun q => ?_) (fun q => ?_) (fun q => ?_)) <;> rw [eQ, iN_T (by omega)] at q <;> rw [eR] <;> rw [eH, eL]
  · -- pitch
    have d := dm 1 q
    rw [if_pos rfl] at d
    refine b_X8_succeeds_72 (s_isTentKind (by rw [eS]; omega) (by rw [eE]; omega)) (fun v h1 hv => ?_)
    rw [eS, eE] at hv
    obtain ⟨rfl, rfl⟩ := hv
    cases w : isKnd (t / 10) (t % 10)
    · rw [w, if_neg (fun z => tnf z.1.symm)] at d
      exact b_X8_succeeds_83 (fun _ => b_X8_succeeds_106 (Nope false rfl d)) (fun y => absurd rfl y)
    · have hk := isKnd_T w
      refine b_X8_succeeds_83 (fun y => absurd y (by decide)) (fun _ => ?_)
      have P := w_putUp hc hk.1 hk.2
      rw [← eS, ← eE] at P
      refine b_X8_succeeds_86 hc.o P (fun v h2 hv => ?_)
      rw [eS, eE] at hv
      obtain ⟨rfl, c2, o2⟩ := hv
      unfold puR at c2
      unfold puV
      by_cases y : r 0 < 24 ∧ whereIn r (t / 10) (t % 10) ≠ 3
      · rw [if_pos ⟨w, y⟩] at d
        rw [if_pos y] at c2
        rw [if_pos y]
        refine b_X8_succeeds_98 (fun z => by have := (iN_eq (by omega)).mp z; omega) (fun _ => b_X8_succeeds_102 ?_)
        rw [d]; exact rZ1 ⟨rfl, c2, o2⟩
      · rw [if_neg (fun z => y z.2)] at d
        rw [if_neg y] at c2
        rw [if_neg y]
        refine b_X8_succeeds_98 (fun _ => b_X8_succeeds_106 ?_) (fun z => absurd rfl z)
        rw [d]; exact rZ0 ⟨rfl, c2, o2⟩
  · -- frames
    have d := dm 2 q
    rw [if_neg (by decide), if_pos rfl] at d
    refine b_X8_succeeds_108 (fun y => ?_) (fun y => ?_)
    · have y0 : ¬ t = 0 := fun z => y (by rw [z])
      rw [if_neg (fun z => y0 z.1)] at d
      refine b_X8_succeeds_120 (fun y2 => ?_) (fun y2 => ?_)
      · have y1 : ¬ t = 1 := fun z => y2 (by rw [z])
        rw [if_neg (fun z => y1 z.1)] at d
        exact b_X8_succeeds_137 (Nope false rfl d)
      · have y1 := (iN_eq (by omega)).mp y2
        refine b_X8_succeeds_125 hc.o (w_goOut hc) (fun v h2 hv => ?_)
        obtain ⟨rfl, c2, o2⟩ := hv
        unfold outR at c2
        unfold outV
        by_cases y3 : 0 < r 3
        · rw [if_pos ⟨y1, y3⟩] at d
          rw [if_pos y3] at c2
          rw [if_pos y3]
          have fv := strV_rg I (i := nR r - 1) (by unfold nR; omega)
          refine b_X8_succeeds_129 (fun z => by have := (iN_eq (by omega)).mp z; omega) (fun _ => b_X8_succeeds_133 ?_)
          rw [d]; exact rZ1 ⟨rfl, c2, o2⟩
        · rw [if_neg (fun z => y3 z.2)] at d
          rw [if_neg y3] at c2
          rw [if_neg y3]
          refine b_X8_succeeds_129 (fun _ => b_X8_succeeds_137 ?_) (fun z => absurd rfl z)
          rw [d]; exact rZ0 ⟨rfl, c2, o2⟩
    · have y0 := (iN_eq (by omega)).mp y
      refine b_X8_succeeds_112 hc.o (w_goIn hc) (fun v h2 hv => ?_)
      obtain ⟨rfl, c2, o2⟩ := hv
      unfold inR at c2
      unfold inV
      by_cases y3 : r 3 < 8
      · rw [if_pos ⟨y0, y3⟩] at d
        rw [if_pos y3] at c2
        rw [if_pos y3]
        refine b_X8_succeeds_116 (fun _ => b_X8_succeeds_133 ?_) (fun z => by have := (iN_eq (by omega)).mp z; omega)
        rw [d]; exact rZ1 ⟨rfl, c2, o2⟩
      · rw [if_neg (fun z => y3 z.2), if_neg (fun z => by omega)] at d
        rw [if_neg y3] at c2
        rw [if_neg y3]
        refine b_X8_succeeds_116 (fun z => absurd rfl z) (fun _ => ?_)
        refine b_X8_succeeds_120 (fun y2 => ?_) (fun y2 => by have := (iN_eq (by omega)).mp y2; omega)
        refine b_X8_succeeds_137 ?_
        rw [d]; exact rZ0 ⟨rfl, c2, o2⟩
  · -- jump
    have d := dm 3 q
    rw [if_neg (by decide), if_neg (by decide), if_pos rfl] at d
    refine b_X8_succeeds_139 hc.o (w_goBack hc (by omega)) (fun v h2 hv => ?_)
    obtain ⟨rfl, c2, o2⟩ := hv
    unfold bakR at c2
    unfold bakV
    by_cases y : t < r 3
    · rw [if_pos y] at d
      rw [if_pos (by omega)] at c2
      rw [if_pos (by omega)]
      have fv := strV_rg I (i := t.toNat) (by omega)
      refine b_X8_succeeds_144 (fun z => by have := (iN_eq (by omega)).mp z; omega) (fun _ => b_X8_succeeds_148 ?_)
      rw [d]; exact rZ1 ⟨rfl, c2, o2⟩
    · rw [if_neg y] at d
      rw [if_neg (by omega)] at c2
      rw [if_neg (by omega)]
      refine b_X8_succeeds_144 (fun _ => b_X8_succeeds_152 ?_) (fun z => absurd rfl z)
      rw [d]; exact rZ0 ⟨rfl, c2, o2⟩
  · -- fill
    have d := dm 4 q
    rw [if_neg (by decide), if_neg (by decide), if_neg (by decide), if_pos rfl] at d
    refine b_X8_succeeds_154 hc.o (w_strew hc (by omega) (by omega)) (fun v h2 hv => ?_)
    obtain ⟨rfl, c2, o2⟩ := hv
    unfold filR at c2
    unfold filV
    by_cases y : t / 100 < r 0
    · rw [if_pos y] at d
      rw [if_pos (by omega)] at c2
      rw [if_pos (by omega)]
      have fv := fillV_rg I (t := (t / 100).toNat) (by omega)
      refine b_X8_succeeds_161 (fun z => by have := (iN_eq (by omega)).mp z; omega) (fun _ => b_X8_succeeds_165 ?_)
      rw [d]; exact rZ1 ⟨rfl, c2, o2⟩
    · rw [if_neg y] at d
      rw [if_neg (by omega)] at c2
      rw [if_neg (by omega)]
      refine b_X8_succeeds_161 (fun _ => b_X8_succeeds_169 ?_) (fun z => absurd rfl z)
      rw [d]; exact rZ0 ⟨rfl, c2, o2⟩
  · -- places of tents
    have d := dm 5 q
    rw [if_neg (by decide), if_neg (by decide), if_neg (by decide), if_neg (by decide), if_pos rfl] at d
    refine b_X8_succeeds_171 (fun y => ?_) (fun y => ?_)
    · have := (iN_le (by omega)).mp y
      exact b_X8_succeeds_194 (Nope _ (decide_eq_false (by omega)) d)
    · have y1 : ¬ 1000 ≤ t := fun z => y ((iN_le (by omega)).mpr z)
      refine b_X8_succeeds_178 hX.rt hX.t.o (s_placesFrom (nT r) 0 (hX.tt hA r0.1) (by unfold nT; omega) (by omega)) (fun v h1 hv => ?_)
      obtain ⟨rfl, rfl⟩ := hv
      have es : smf (X 3) 0 (nT r) = tentP r := by
        rw [smf_0]
        exact sm_congr (fun k hk => (hA.2.2.1 k (by unfold nT at hk; omega)).2.2.1)
      have tr : 0 ≤ tentP r ∧ tentP r ≤ 960 := by
        have h1 := sm_ge (g := fun k => r (12 + 4 * k)) (B := 0) (n := nT r) (fun k hk => by have := (I.2.1.2 k hk).2.2.1; omega)
        have h2 : ∀ n, n ≤ nT r → sm (fun k => r (12 + 4 * k)) n ≤ 40 * n := by
          intro n
          induction n with
          | zero => intro _; exact Int.le_refl _
          | succ n ih =>
            intro hn
            have := ih (by omega)
            have := (I.2.1.2 n (by omega)).2.2.1
            simp only [sm]; omega
        have h3 := h2 (nT r) (Nat.le_refl _)
        unfold tentP
        unfold nT at h3 ⊢
        unfold nT at h1
        omega
      rw [es]
      refine b_X8_succeeds_186 (fun y => ?_) (fun y => ?_)
      · have := (iN_lt (by omega)).mp y
        exact b_X8_succeeds_194 (Nope _ (decide_eq_false (by omega)) d)
      · have y2 : ¬ t < tentP r := fun z => y ((iN_lt (by omega)).mpr z)
        exact b_X8_succeeds_190 (Yup _ (decide_eq_true (by omega)) d)
  · -- gaps
    have d := dm 6 q
    rw [if_neg (by decide), if_neg (by decide), if_neg (by decide), if_neg (by decide), if_neg (by decide), if_pos rfl] at d
    refine b_X8_succeeds_196 (fun y => ?_) (fun y => ?_)
    · have := (iN_le (by omega)).mp y
      exact b_X8_succeeds_215 (Nope _ (decide_eq_false (by omega)) d)
    · have y1 : ¬ 1000 ≤ t := fun z => y ((iN_le (by omega)).mpr z)
      refine b_X8_succeeds_203 hX.o (s_cgaps hX hA I.1 I.2.1) (fun v h1 hv => ?_)
      obtain ⟨rfl, rfl⟩ := hv
      refine b_X8_succeeds_207 (fun y => ?_) (fun y => ?_)
      · exact b_X8_succeeds_215 (Nope _ (decide_eq_false (fun z => z.2 y)) d)
      · exact b_X8_succeeds_211 (Yup _ (decide_eq_true ⟨by omega, y⟩) d)
  · -- a tent's field
    have d := dm 7 q
    rw [if_neg (by decide), if_neg (by decide), if_neg (by decide), if_neg (by decide), if_neg (by decide), if_neg (by decide), if_pos rfl] at d
    refine b_X8_succeeds_217 (fun y => ?_) (fun y => ?_)
    · have := (iN_le (by omega)).mp y
      exact b_X8_succeeds_255 (Nope _ (decide_eq_false (by omega)) d)
    · have y1 : ¬ 10 ≤ t % 100 := fun z => y ((iN_le (by omega)).mpr z)
      have S := s_thas (hX.tt hA r0.1) (x := t / 100) (by omega) (by unfold nT; omega)
      have eN : ((nT r : Nat) : Int) = r 0 := by unfold nT; omega
      rw [eN] at S
      refine b_X8_succeeds_224 hX.rt hX.t.o S (fun v h1 hv => ?_)
      obtain ⟨rfl, rfl⟩ := hv
      by_cases y2 : 0 ≤ t / 100 ∧ t / 100 < r 0
      · rw [decide_eq_true y2]
        refine b_X8_succeeds_232 (fun z => absurd z (by decide)) (fun _ => ?_)
        refine b_X8_succeeds_235 hX.rt hX.t.f1 hX.t.2.1.o (s_get hX.t.2.1 (z := t / 100) (by omega) (by omega)) (fun v h2 hv => ?_)
        obtain ⟨rfl, rfl⟩ := hv
        have e1 := (hA.2.2.1 (t / 100).toNat (by omega)).1
        have tn := (I.2.1.2 (t / 100).toNat (by unfold nT; omega)).1
        rw [e1]
        refine b_X8_succeeds_246 (fun z => ?_) (fun z => ?_)
        · exact b_X8_succeeds_255 (Nope _ (decide_eq_false (fun w => z (by rw [w.2.2]))) d)
        · have := (iN_eq (by omega)).mp z
          exact b_X8_succeeds_251 (Yup _ (decide_eq_true ⟨by omega, by omega, this⟩) d)
      · rw [decide_eq_false y2]
        exact b_X8_succeeds_232 (fun _ => b_X8_succeeds_255 (Nope _ (decide_eq_false (by omega)) d)) (fun z => absurd rfl z)
  · -- spare fields
    have d := dm 8 q
    rw [if_neg (by decide), if_neg (by decide), if_neg (by decide), if_neg (by decide), if_neg (by decide), if_neg (by decide), if_neg (by decide), if_pos rfl] at d
    refine b_X8_succeeds_257 (fun y => ?_) (fun y => ?_)
    · have : ¬ t / 100 = 0 := fun z => y (by rw [z])
      exact b_X8_succeeds_277 (Nope _ (decide_eq_false (by omega)) d)
    · have y0 := (iN_eq (by omega)).mp y
      refine b_X8_succeeds_261 hX.rs (hX.s.n0.ev a10) (fun y => ?_) (fun y => ?_)
      · have := (iN_lt (by omega)).mp y
        exact b_X8_succeeds_277 (Nope _ (decide_eq_false (by omega)) d)
      · have : ¬ t % 100 < r 2 := fun z => y ((iN_lt (by omega)).mpr z)
        exact b_X8_succeeds_273 (Yup _ (decide_eq_true (by omega)) d)
  · -- tents
    have d := dm 9 q
    rw [if_neg (by decide), if_neg (by decide), if_neg (by decide), if_neg (by decide), if_neg (by decide), if_neg (by decide), if_neg (by decide), if_neg (by decide), if_pos rfl] at d
    refine b_X8_succeeds_279 (fun y => ?_) (fun y => ?_)
    · have : ¬ t / 100 = 0 := fun z => y (by rw [z])
      exact b_X8_succeeds_299 (Nope _ (decide_eq_false (by omega)) d)
    · have y0 := (iN_eq (by omega)).mp y
      refine b_X8_succeeds_283 hX.rt (hX.t.n0.ev a7) (fun y => ?_) (fun y => ?_)
      · have := (iN_lt (by omega)).mp y
        exact b_X8_succeeds_299 (Nope _ (decide_eq_false (by omega)) d)
      · have : ¬ r 0 < t % 100 := fun z => y ((iN_lt (by omega)).mpr z)
        exact b_X8_succeeds_295 (Yup _ (decide_eq_true (by omega)) d)
  · have d := dm (g / 10000) rfl
    rw [if_neg (by omega), if_neg (by omega), if_neg (by omega), if_neg (by omega), if_neg (by omega), if_neg (by omega), if_neg (by omega), if_neg (by omega), if_neg (by omega)] at d
    exact b_X8_succeeds_301 (Nope false rfl d)
theorem s_stepOnce (hc : cmp h c r) {z : Int} (hz : 0 ≤ z ∧ z < 2147483648) : CtV mX8_stepOnce 6 0 0 [.ref c, .int (iN z)] h (fun h' => cmp h' c (stM z r) ∧ Off h h' c (c + 35)) := by
  have e8 := iN_rem (a := z) (b := 8) (by omega) (by omega)
  have d8 := iN_div (a := z) (b := 8) (by omega) (by omega)
  have d256 := iN_div (a := z) (b := 256) (by omega) (by omega)
  have f8 := iN_rem (a := z / 8) (b := 8) (by omega) (by omega)
  have f20 := iN_rem (a := z / 8) (b := 20) (by omega) (by omega)
  have f4 := iN_rem (a := z / 256) (b := 4) (by omega) (by omega)
  refine en_X8_stepOnce (b_X8_stepOnce_0 (fun q => ?_) (fun q => ?_) (fun q => ?_) (fun q => ?_) (fun q => ?_)) <;> rw [e8, iN_T (by omega)] at q
  · refine b_X8_stepOnce_36 hc.o (w_goIn hc) (fun v h2 hv => ?_)
    obtain ⟨-, c2, o2⟩ := hv
    have e : stM z r = inR r := by unfold stM; rw [if_pos (Or.inl q)]
    rw [e]; exact b_X8_stepOnce_40 (rV ⟨c2, o2⟩)
  · refine b_X8_stepOnce_36 hc.o (w_goIn hc) (fun v h2 hv => ?_)
    obtain ⟨-, c2, o2⟩ := hv
    have e : stM z r = inR r := by unfold stM; rw [if_pos (Or.inr q)]
    rw [e]; exact b_X8_stepOnce_40 (rV ⟨c2, o2⟩)
  · refine b_X8_stepOnce_44 hc.o (w_goOut hc) (fun v h2 hv => ?_)
    obtain ⟨-, c2, o2⟩ := hv
    have e : stM z r = outR r := by unfold stM; rw [if_neg (by omega), if_pos q]
    rw [e]; exact b_X8_stepOnce_48 (rV ⟨c2, o2⟩)
  · have G := w_goBack hc (i := z / 8 % 8) (by omega)
    rw [← f8, ← d8] at G
    refine b_X8_stepOnce_52 hc.o G (fun v h2 hv => ?_)
    obtain ⟨-, c2, o2⟩ := hv
    rw [d8, f8] at c2
    have e : stM z r = bakR r (z / 8 % 8) := by unfold stM; rw [if_neg (by omega), if_neg (by omega), if_pos q]
    rw [e]; exact b_X8_stepOnce_63 (rV ⟨c2, o2⟩)
  · have G := w_putUp hc (z := 1 + z / 8 % 20) (s := st4 (z / 256 % 4)) (by omega) (st4_rg _)
    rw [← sh4 (by omega), ← f20, ← f4, ← d8, ← d256] at G
    refine b_X8_stepOnce_67 hc.o G (fun v h2 hv => ?_)
    obtain ⟨-, c2, o2⟩ := hv
    rw [d8, d256, f20, f4, sh4 (by omega)] at c2
    have e : stM z r = puR r (1 + z / 8 % 20) (st4 (z / 256 % 4)) := by unfold stM; rw [if_neg (by omega), if_neg (by omega), if_neg (by omega)]
    rw [e]; exact b_X8_stepOnce_89 (rV ⟨c2, o2⟩)
theorem pw_rg {j : Nat} (h : j ≤ 3) : 1 ≤ pw j ∧ pw j ≤ 1000000000000000 := by
  rcases (show j = 0 ∨ j = 1 ∨ j = 2 ∨ j = 3 by omega) with rfl | rfl | rfl | rfl <;> simp [pw]
theorem pw_d (j : Nat) : pw (j + 1) / 100000 = pw j := by
  show pw j * 100000 / 100000 = pw j
  omega
theorem c_runScript (w : CW h x r n D l s b K) {a t : Int} (ha : -2147483648 ≤ a ∧ a < 2147483648) (ht : -9223372036854775808 ≤ t ∧ t < 9223372036854775808) :
    CtX mX8_runScript 7 1 6 [.ref x, .int (iN a), .long (jN t)] h (oX 0 0 (rsK a t) (rsV a t r) (fun h' => CW h' x r n D l s b K ∧ Off h h' x (x + 641))) := by
  refine en_X8_runScript (b_X8_runScript_0 (fun y => ?_) (fun y => ?_))
  · have := (iN_lt (by omega)).mp y
    exact b_X8_runScript_10 (by omega) (by omega) (oX.a (by unfold rsK; rw [if_neg (by omega)]) ⟨w, Off.rf⟩)
  have y1 : ¬ a < 1 := fun z => y ((iN_lt (by omega)).mpr z)
  refine b_X8_runScript_5 (fun y => ?_) (fun y => ?_)
  · have y2 := (iN_le (by omega)).mp y
    have ea : a = ((a.toNat : Nat) : Int) := by omega
    refine b_X8_runScript_21 ?_
    -- the unit
    have U : ∀ (k i : Nat), i + k = a.toNat → 1 ≤ i → AW mX8_runScript 7 1 6 47 [.ref x, .int (iN a), .long (jN t), vU, .long (jN (pw (a.toNat - 1))), vU, .int (iN a), vU] [] h (oX 0 0 (rsK a t) (rsV a t r) (fun h' => CW h' x r n D l s b K ∧ Off h h' x (x + 641))) → AW mX8_runScript 7 1 6 27 [.ref x, .int (iN a), .long (jN t), vU, .long (jN (pw (i - 1))), vU, .int (iN (i : Int)), vU] [] h (oX 0 0 (rsK a t) (rsV a t r) (fun h' => CW h' x r n D l s b K ∧ Off h h' x (x + 641))) := by
      intro k
      induction k with
      | zero =>
        intro i hi h1 fin
        obtain rfl : i = a.toNat := by omega
        rw [← ea]
        exact b_X8_runScript_27 (fun _ => fin) (fun z => absurd ((iN_le (by omega)).mpr (by omega)) z)
      | succ k ih =>
        intro i hi h1 fin
        refine b_X8_runScript_27 (fun z => by have := (iN_le (by omega)).mp z; omega) (fun _ => ?_)
        refine b_X8_runScript_33 ?_
        have := ih (i + 1) (by omega) (by omega) fin
        rw [show ((i + 1 : Nat) : Int) = (i : Int) + 1 by omega, show i + 1 - 1 = (i - 1) + 1 by omega] at this
        exact this
    refine U (a.toNat - 1) 1 (by omega) (by omega) ?_
    have pr := pw_rg (j := a.toNat - 1) (by omega)
    have p3 : pw a.toNat = pw (a.toNat - 1) * 100000 := by
      rw [show a.toNat = (a.toNat - 1) + 1 by omega]; rfl
    have nz : ∀ j, j ≤ 3 → ¬ jN (pw j) = 0 := fun j hj z => by
      have pj := pw_rg hj
      have : (jN (pw j)).toInt = 0 := by rw [z]; rfl
      rw [jN_T (by omega)] at this
      omega
    refine b_X8_runScript_47 (fun z => ?_) (fun z => ?_)
    · have := (jN_lt (by omega)).mp z
      exact b_X8_runScript_64 (by omega) (by omega) (oX.a (by unfold rsK; rw [if_neg (by omega)]) ⟨w, Off.rf⟩)
    have z1 : ¬ t < 0 := fun q => z ((jN_lt (by omega)).mpr q)
    have ed := jN_div (a := t) (b := pw (a.toNat - 1)) (by omega) (by omega)
    have d0 : 0 ≤ t / pw (a.toNat - 1) := Int.ediv_nonneg (by omega) (by omega)
    have d1 : t / pw (a.toNat - 1) ≤ t := Int.ediv_le_self _ (by omega)
    have dl : t / pw (a.toNat - 1) < 100000 ↔ t < pw a.toNat := by
      rw [p3, Int.ediv_lt_iff_lt_mul (by omega), Int.mul_comm]
    refine b_X8_runScript_53 (nz _ (by omega)) (fun z => ?_) (fun z => ?_)
    · rw [ed] at z
      have z2 := dl.mp ((jN_lt (by omega)).mp z)
      have e : rsK a t = 0 := by unfold rsK; rw [if_pos ⟨by omega, by omega, z2⟩]
      obtain ⟨⟨N, X, hX, hA⟩, I⟩ := w.2.1
      obtain ⟨Nt, Xt, htt⟩ := w.2.2.1
      refine b_X8_runScript_75 w.1.f1 w.1.f0 htt.o (s_ccopy htt hX (by omega)) (fun h2 hv => ?_)
      obtain ⟨t2, o2⟩ := hv
      have W2 := w.tri t2 o2
      refine b_X8_runScript_86 ?_
      have H : ∀ (j k : Nat) (h3 : AH) (r3 : Nat → Int) (u : Int), k + j = a.toNat → CW h3 x r n D l s b K ∧ Off h h3 x (x + 641) → cmp h3 (x + 36) r3 → (0 < j → u = pw (a.toNat - 1 - k)) → rsV a t r = (rsL t a.toNat j k r3).1 → AW mX8_runScript 7 1 6 89 [.ref x, .int (iN a), .long (jN t), vU, .long (jN u), vU, .int (iN (k : Int)), vU] [] h3 (oX 0 0 (rsK a t) (rsV a t r) (fun h' => CW h' x r n D l s b K ∧ Off h h' x (x + 641))) := by
        intro j
        induction j with
        | zero =>
          intro k h3 r3 u hk W c3 hu ev
          refine b_X8_runScript_89 (fun _ => ?_) (fun z => absurd ((iN_le (by omega)).mpr (by omega)) z)
          exact b_X8_runScript_139 (oX.ve e ev.symm W)
        | succ j ih =>
          intro k h3 r3 u hk W c3 hu ev
          have eu := hu (by omega)
          subst eu
          have pk := pw_rg (j := a.toNat - 1 - k) (by omega)
          have k0 := jN_div (a := t) (b := pw (a.toNat - 1 - k)) (by omega) (by omega)
          have q0 : 0 ≤ t / pw (a.toNat - 1 - k) := Int.ediv_nonneg (by omega) (by omega)
          have q1 : t / pw (a.toNat - 1 - k) ≤ t := Int.ediv_le_self _ (by omega)
          have m0 := jN_rem (a := t / pw (a.toNat - 1 - k)) (b := 100000) (by omega) (by omega)
          have er : rsL t a.toNat (j + 1) k r3 = if (doM (t / pw (a.toNat - 1 - k) % 100000) r3).1 = true then rsL t a.toNat j (k + 1) (doM (t / pw (a.toNat - 1 - k) % 100000) r3).2 else ((k : Int), (doM (t / pw (a.toNat - 1 - k) % 100000) r3).2) := rfl
          rw [er] at ev
          have g0 : 0 ≤ t / pw (a.toNat - 1 - k) % 100000 ∧ t / pw (a.toNat - 1 - k) % 100000 < 100000 := by omega
          have gi := j2i (a := t / pw (a.toNat - 1 - k) % 100000) (by omega)
          have G := s_succeeds c3 g0
          rw [← gi, ← m0, ← k0] at G
          refine b_X8_runScript_89 (fun z => by have := (iN_le (by omega)).mp z; omega) (fun _ => ?_)
          refine b_X8_runScript_95 (nz _ (by omega)) W.1.1.f1 G (fun v h4 hv => ?_)
          rw [k0, m0, gi] at hv
          obtain ⟨rfl, c4, o4⟩ := hv
          obtain ⟨⟨N4, X4, t4, A4⟩, I4⟩ := c4
          have W4 := W.1.tri t4 o4
          have W5 : CW h4 x r n D l s b K ∧ Off h h4 x (x + 641) := ⟨W4.1, W.2.tr W4.2 x (x + 641)⟩
          cases hd : (doM (t / pw (a.toNat - 1 - k) % 100000) r3).1
          · rw [hd, if_neg (by decide)] at ev
            refine b_X8_runScript_115 (fun y => absurd rfl y) (fun _ => ?_)
            exact b_X8_runScript_118 (oX.ve e ev.symm W5)
          · rw [hd, if_pos rfl] at ev
            refine b_X8_runScript_115 (fun _ => ?_) (fun y => absurd y (by decide))
            refine b_X8_runScript_121 ?_
            rw [show (k : Int) + 1 = ((k + 1 : Nat) : Int) by omega]
            refine ih (k + 1) h4 _ _ (by omega) W5 ⟨⟨N4, X4, t4, A4⟩, I4⟩ (fun hj => ?_) ev
            have p1 := pw_rg (j := a.toNat - 1 - (k + 1)) (by omega)
            have pe : pw (a.toNat - 1 - k) = pw (a.toNat - 1 - (k + 1)) * 100000 := by
              rw [show a.toNat - 1 - k = (a.toNat - 1 - (k + 1)) + 1 by omega]; rfl
            have e5 := jN_div (a := pw (a.toNat - 1 - k)) (b := 100000) (by omega) (by omega)
            rw [e5, pe, Int.mul_ediv_cancel _ (by decide)]
            by_cases q : 1 < pw (a.toNat - 1 - (k + 1))
            · rw [if_pos ((jN_lt (by omega)).mpr q)]
            · rw [if_neg (fun z => q ((jN_lt (by omega)).mp z))]; omega
      exact H a.toNat 0 h2 r (pw (a.toNat - 1)) (by omega) W2 ⟨⟨N, X, t2, hA⟩, I⟩ (fun _ => rfl) rfl
    · rw [ed] at z
      have z2 : ¬ t < pw a.toNat := fun q => z ((jN_lt (by omega)).mpr (dl.mpr q))
      exact b_X8_runScript_64 (by omega) (by omega) (oX.a (by unfold rsK; rw [if_neg (by omega)]) ⟨w, Off.rf⟩)
  · have y2 : ¬ a ≤ 3 := fun z => y ((iN_le (by omega)).mpr z)
    exact b_X8_runScript_10 (by omega) (by omega) (oX.a (by unfold rsK; rw [if_neg (by omega)]) ⟨w, Off.rf⟩)
theorem c_simulate (w : CW h x r n D l s b K) {a t : Int} (ha : -2147483648 ≤ a ∧ a < 2147483648) :
    CtX mX8_simulate 7 1 6 [.ref x, .long (jN t), .int (iN a)] h (oX 0 0 (siK a) (siV t a r) (fun h' => CW h' x r n D l s b K ∧ Off h h' x (x + 641))) := by
  refine en_X8_simulate (b_X8_simulate_0 (fun y => ?_) (fun y => ?_))
  · have := (iN_lt (by omega)).mp y
    exact b_X8_simulate_11 (by omega) (by omega) (oX.a (by unfold siK; rw [if_neg (by omega)]) ⟨w, Off.rf⟩)
  have y1 : ¬ a < 1 := fun z => y ((iN_lt (by omega)).mpr z)
  refine b_X8_simulate_5 (fun y => ?_) (fun y => ?_)
  · have y2 := (iN_le (by omega)).mp y
    have e : siK a = 0 := by unfold siK; rw [if_pos (by omega)]
    obtain ⟨⟨N, X, hX, hA⟩, I⟩ := w.2.1
    obtain ⟨Nt, Xt, htt⟩ := w.2.2.1
    refine b_X8_simulate_22 w.1.f1 w.1.f0 htt.o (s_ccopy htt hX (by omega)) (fun h2 hv => ?_)
    obtain ⟨t2, o2⟩ := hv
    have W2 := w.tri t2 o2
    refine b_X8_simulate_33 ?_
    have H : ∀ (j k : Nat) (h3 : AH) (r3 : Nat → Int) (u : Int), k + j = a.toNat → CW h3 x r n D l s b K ∧ Off h h3 x (x + 641) → cmp h3 (x + 36) r3 → smL a.toNat t r = smL j u r3 → AW mX8_simulate 7 1 6 39 [.ref x, .long (jN t), vU, .int (iN a), .long (jN u), vU, .int (iN (k : Int))] [] h3 (oX 0 0 (siK a) (siV t a r) (fun h' => CW h' x r n D l s b K ∧ Off h h' x (x + 641))) := by
      intro j
      induction j with
      | zero =>
        intro k h3 r3 u hk W c3 ev
        have ev : smL a.toNat t r = r3 := ev
        refine b_X8_simulate_39 (fun _ => ?_) (fun z => absurd ((iN_le (by omega)).mpr (by omega)) z)
        obtain ⟨⟨N3, X3, t3, A3⟩, -⟩ := c3
        obtain ⟨⟨N4, X4, t4, A4⟩, -⟩ := W.1.2.1
        refine b_X8_simulate_76 W.1.1.f1 t3.n3 W.1.1.f0 t4.n3 W.1.1.f1 t3.n6 (oX.ve e ?_ W)
        unfold siV
        rw [ev, A3.nums.2.2.2.1, A4.nums.2.2.2.1, A3.nums.2.2.2.2.2.2.1]
      | succ j ih =>
        intro k h3 r3 u hk W c3 ev
        have er : smL (j + 1) u r3 = smL j (gen u) (stM (rnd (gen u)) r3) := rfl
        rw [er] at ev
        refine b_X8_simulate_39 (fun z => by have := (iN_le (by omega)).mp z; omega) (fun _ => ?_)
        refine b_X8_simulate_45 W.1.1.f1 (s_stepOnce c3 (z := rnd (gen u)) (rnd_rg _)) (fun h4 hv => ?_)
        obtain ⟨c4, o4⟩ := hv
        refine b_X8_simulate_70 ?_
        rw [show (k : Int) + 1 = ((k + 1 : Nat) : Int) by omega]
        obtain ⟨⟨N4, X4, t4, A4⟩, I4⟩ := c4
        have W4 := W.1.tri t4 o4
        exact ih (k + 1) h4 _ _ (by omega) ⟨W4.1, W.2.tr W4.2 x (x + 641)⟩ ⟨⟨N4, X4, t4, A4⟩, I4⟩ ev
    exact H a.toNat 0 h2 r t (by omega) W2 ⟨⟨N, X, t2, hA⟩, I⟩ rfl
  · have y2 : ¬ a ≤ 99 := fun z => y ((iN_le (by omega)).mpr z)
    exact b_X8_simulate_11 (by omega) (by omega) (oX.a (by unfold siK; rw [if_neg (by omega)]) ⟨w, Off.rf⟩)
end SCR
