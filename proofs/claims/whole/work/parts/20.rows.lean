/-! int arrays and the class's rows -/
def mk (n : Nat) (f : Nat → Int) : List Int32 := (List.range n).map (fun k => iN (f k))
def up (f : Nat → Int) (i : Nat) (v : Int) : Nat → Int := fun k => if k = i then v else f k
theorem up_same (f : Nat → Int) (i : Nat) (v : Int) : up f i v i = v := by simp [up]
theorem up_ne (f : Nat → Int) {i k : Nat} (v : Int) (h : k ≠ i) : up f i v k = f k := by simp [up, h]
theorem mk_len (n : Nat) (f : Nat → Int) : (mk n f).length = n := by simp [mk]
theorem mk_at {n k : Nat} (f : Nat → Int) (h : k < n) : (mk n f)[k]? = some (iN (f k)) := by simp [mk, h]
theorem mk_congr {n : Nat} {f g : Nat → Int} (h : ∀ k, k < n → f k = g k) : mk n f = mk n g := by
  unfold mk
  exact List.map_congr_left fun k hk => by rw [h k (List.mem_range.mp hk)]
theorem mk_set {n i : Nat} (f : Nat → Int) (v : Int) : (mk n f).set i (iN v) = mk n (up f i v) := by
  apply List.ext_getElem?
  intro k
  rw [List.getElem?_set]
  by_cases hk : k < n
  · rw [mk_at _ hk, mk_at _ hk, mk_len]
    by_cases hik : i = k
    · subst hik; simp [up, hk]
    · simp [up, hik, Ne.symm hik]
  · simp [mk, hk]
    intro q; omega
/-- the int array at q, of n places, holds f -/
def ari (h : AH) (q n : Nat) (f : Nat → Int) : Prop := h[q]? = some (10, (mk n f).map Value.int)
def wr (h : AH) (q n : Nat) (f : Nat → Int) : AH := h.set q (10, (mk n f).map Value.int)
theorem ari.se {h : AH} {q n : Nat} {f : Nat → Int} (ha : ari h q n f) {z : Int} (h0 : 0 ≤ z) (h1 : z < n) (h2 : n ≤ 100000) : sei h q 10 z (.int (iN (f z.toNat))) :=
  ⟨_, ha, ⟨h0, by omega⟩, by rw [List.getElem?_map, mk_at _ (by omega)]; rfl⟩
theorem ari.al {h : AH} {q n : Nat} {f : Nat → Int} (ha : ari h q n f) : alen h q 10 n := ⟨_, ha, by simp [mk_len]⟩
theorem ari.st {h : AH} {q n i : Nat} {f : Nat → Int} (ha : ari h q n f) (v : Int) : stf h q i (.int (iN v)) = wr h q n (up f i v) := by
  rw [stf_at ha]
  unfold wr
  rw [← mk_set, List.map_set]
theorem ari.lt {h : AH} {q n : Nat} {f : Nat → Int} (ha : ari h q n f) : q < h.length := (List.getElem?_eq_some_iff.mp ha).1
theorem wr_at {h : AH} {q n : Nat} {f : Nat → Int} (hq : q < h.length) : ari (wr h q n f) q n f := by
  unfold ari wr
  simp [hq]
theorem wr_ne {h : AH} {q p n : Nat} {f : Nat → Int} (hq : p ≠ q) : (wr h q n f)[p]? = h[p]? := by
  unfold wr
  rw [List.getElem?_set_ne (Ne.symm hq)]
theorem wr_len (h : AH) (q n : Nat) (f : Nat → Int) : (wr h q n f).length = h.length := by simp [wr]
theorem wr_wr (h : AH) (q n : Nat) (f g : Nat → Int) : wr (wr h q n f) q n g = wr h q n g := by simp [wr]
theorem wr_same {h : AH} {q n : Nat} {f : Nat → Int} (ha : ari h q n f) : wr h q n f = h := by
  unfold wr
  apply List.ext_getElem?
  intro k
  rw [List.getElem?_set]
  by_cases hk : q = k
  · subst hk
    rw [if_pos rfl, if_pos ha.lt]
    exact ha.symm
  · rw [if_neg hk]
theorem wr_congr {h : AH} {q n : Nat} {f g : Nat → Int} (hk : ∀ k, k < n → f k = g k) : wr h q n f = wr h q n g := by
  unfold wr; rw [mk_congr hk]
theorem ari.congr {h : AH} {q n : Nat} {f g : Nat → Int} (ha : ari h q n f) (hk : ∀ k, k < n → f k = g k) : ari h q n g := by
  unfold ari; rw [← mk_congr hk]; exact ha
/-- outside lo to hi all is as it was -/
def Off (h h' : AH) (lo hi : Nat) : Prop := h'.length = h.length ∧ ∀ q, q < lo ∨ hi ≤ q → h'[q]? = h[q]?
theorem Off.rf {h : AH} {lo hi : Nat} : Off h h lo hi := ⟨rfl, fun _ _ => rfl⟩
theorem Off.tr {h h' h'' : AH} {lo hi lo' hi' : Nat} (a : Off h h' lo hi) (b : Off h' h'' lo' hi') (LO HI : Nat) (h1 : LO ≤ lo ∧ LO ≤ lo' ∧ hi ≤ HI ∧ hi' ≤ HI := by omega) : Off h h'' LO HI :=
  ⟨b.1.trans a.1, fun q hq => (b.2 q (by omega)).trans (a.2 q (by omega))⟩
theorem Off.up {h h' : AH} {lo hi : Nat} (a : Off h h' lo hi) (LO HI : Nat) (h1 : LO ≤ lo ∧ hi ≤ HI := by omega) : Off h h' LO HI := ⟨a.1, fun q hq => a.2 q (by omega)⟩
theorem Off.ofw {h : AH} {q n : Nat} {f : Nat → Int} : Off h (wr h q n f) q (q + 1) := ⟨wr_len _ _ _ _, fun p hp => wr_ne (by omega)⟩
theorem Off.ofs {h : AH} {a j : Nat} {v : Value} : Off h (stf h a j v) a (a + 1) := by
  unfold stf
  split
  · exact ⟨by simp, fun p hp => by rw [List.getElem?_set_ne (by omega)]⟩
  · exact Off.rf
/-- a Row: its object at a, its cells behind it -/
def row (h : AH) (a n : Nat) (f : Nat → Int) : Prop := h[a]? = some (4, [.ref (a + 1)]) ∧ ari h (a + 1) n f
theorem row.cells {h : AH} {a n : Nat} {f : Nat → Int} (hr : row h a n f) : fld h a 4 0 (.ref (a + 1)) := ⟨_, hr.1, rfl⟩
theorem row.o {h : AH} {a n : Nat} {f : Nat → Int} (hr : row h a n f) : isO h a 4 := ⟨_, hr.1⟩
theorem row.off {h h' : AH} {a n lo hi : Nat} {f : Nat → Int} (hr : row h a n f) (ho : Off h h' lo hi) (hd : a + 2 ≤ lo ∨ hi ≤ a := by omega) : row h' a n f :=
  ⟨(ho.2 a (by omega)).trans hr.1, (ho.2 (a + 1) (by omega)).trans hr.2⟩
theorem row.w {h : AH} {a n : Nat} {f : Nat → Int} (hr : row h a n f) (g : Nat → Int) : row (wr h (a + 1) n g) a n g :=
  ⟨(wr_ne (by omega)).trans hr.1, wr_at hr.2.lt⟩
theorem row.congr {h : AH} {a n : Nat} {f g : Nat → Int} (hr : row h a n f) (hk : ∀ k, k < n → f k = g k) : row h a n g := ⟨hr.1, hr.2.congr hk⟩
theorem s_get {h : AH} {a n : Nat} {f : Nat → Int} {z : Int} (hr : row h a n f) (h0 : 0 ≤ z) (h1 : z < n) (hn : n ≤ 1000 := by omega) : CtI mX4_get 0 0 0 [.ref a, .int (iN z)] h (fun v h' => v = f z.toNat ∧ h' = h) := by
  refine en_X4_get (b_X4_get_0 (fun q => ?_) (fun _ => ?_))
  · have := (iN_lt (by omega)).mp q; omega
  refine b_X4_get_4 hr.cells hr.2.al (fun q => ?_) (fun _ => ?_)
  · have := (iN_le (by omega)).mp q; omega
  exact b_X4_get_13 hr.cells (hr.2.se h0 h1 (by omega)) (rI ⟨rfl, rfl⟩)
theorem s_put {h : AH} {a n : Nat} {f : Nat → Int} {z v : Int} (hr : row h a n f) (h0 : 0 ≤ z) (h1 : z < n) (hn : n ≤ 1000 := by omega) : CtV mX4_put 0 0 0 [.ref a, .int (iN z), .int (iN v)] h (fun h' => h' = wr h (a + 1) n (up f z.toNat v)) := by
  refine en_X4_put (b_X4_put_0 (fun q => ?_) (fun _ => ?_))
  · have := (iN_lt (by omega)).mp q; omega
  refine b_X4_put_4 hr.cells hr.2.al (fun q => ?_) (fun _ => ?_)
  · have := (iN_le (by omega)).mp q; omega
  exact b_X4_put_13 hr.cells (hr.2.se h0 h1 (by omega)) (rV (hr.2.st v))
/-- the places p to q get v -/
def strw (f : Nat → Int) (v : Int) (p q : Nat) : Nat → Int := fun k => if p ≤ k ∧ k < q then v else f k
theorem s_strew {h : AH} {a n : Nat} {f : Nat → Int} {v : Int} {p q : Nat} (hr : row h a n f) (hq : q ≤ n) (hp : p ≤ q ∨ p ≤ 100000) (hn : n ≤ 1000 := by omega) : CtV mX4_strew 1 0 0 [.ref a, .int (iN v), .int (iN p), .int (iN q)] h (fun h' => h' = wr h (a + 1) n (strw f v p q)) := by
  refine en_X4_strew (b_X4_strew_0 hr.cells hr.2.al ?_)
  rw [if_neg (fun w => by have := (iN_lt (by omega)).mp w; omega), if_neg (fun w => by have := (iN_lt (by omega)).mp w; omega)]
  have H : ∀ (k i : Nat) (h : AH) (f0 : Nat → Int), row h a n f0 → q ≤ i + k → (∀ j, j < n → strw f0 v i q j = strw f v p q j) → p ≤ i → i ≤ 100000 → ∀ h0, wr h0 (a + 1) n f0 = h → AW mX4_strew 1 0 0 18 [.ref a, .int (iN v), .int (iN p), .int (iN q), .int (iN q), .int (iN i)] [] h (qV (fun h' => h' = wr h0 (a + 1) n (strw f v p q))) := by
    intro k
    induction k with
    | zero =>
      intro i h f0 hr hi hf hpi hi9 h0 hh
      refine b_X4_strew_18 (fun _ => ?_) (fun w => absurd ((iN_le (by omega)).mpr (by omega)) w)
      refine b_X4_strew_39 (rV ?_)
      rw [← hh]
      refine wr_congr fun j hj => ?_
      rw [← hf j hj]
      unfold strw
      rw [if_neg (by omega)]
    | succ k ih =>
      intro i h f0 hr hi hf hpi hi9 h0 hh
      refine b_X4_strew_18 (fun _ => ?_) (fun w => ?_)
      · refine b_X4_strew_39 (rV ?_)
        rename_i w
        have := (iN_le (by omega)).mp w
        rw [← hh]
        refine wr_congr fun j hj => ?_
        rw [← hf j hj]
        unfold strw
        rw [if_neg (by omega)]
      · have hlt : (i : Int) < q := by
          rcases Int.lt_or_le (i : Int) q with z | z
          · exact z
          · exact absurd ((iN_le (by omega)).mpr z) w
        refine b_X4_strew_25 hr.cells (hr.2.se (z := (i : Int)) (by omega) (by omega) (by omega)) ?_
        rw [hr.2.st]
        have e : ((i : Int) + 1) = ((i + 1 : Nat) : Int) := by omega
        rw [e]
        refine ih (i + 1) _ (up f0 i v) (hr.w _) (by omega) (fun j hj => ?_) (by omega) (by omega) h0 ?_
        · rw [← hf j hj]
          unfold strw up
          by_cases hj2 : j = i
          · subst hj2
            simp
            omega
          · by_cases h3 : i + 1 ≤ j ∧ j < q
            · rw [if_pos h3, if_pos (by omega)]
            · rw [if_neg h3, if_neg hj2, if_neg (by omega)]
        · rw [← hh, wr_wr]
  exact H q p h f hr (by omega) (fun _ _ => rfl) (Nat.le_refl _) (by omega) h (wr_same hr.2)
/-- how many of the places p to q hold v -/
def cnt (f : Nat → Int) (v : Int) (p : Nat) : Nat → Int
  | 0 => 0
  | k + 1 => cnt f v p k + if f (p + k) = v then 1 else 0
theorem cnt_rg (f : Nat → Int) (v : Int) (p : Nat) : ∀ k : Nat, 0 ≤ cnt f v p k ∧ cnt f v p k ≤ k
  | 0 => by simp [cnt]
  | k + 1 => by
    have := cnt_rg f v p k
    simp only [cnt]
    split <;> omega
theorem s_countOf {h : AH} {a n : Nat} {f : Nat → Int} {v : Int} {p q : Nat} (hr : row h a n f) (hq : q ≤ n) (hp : p ≤ q) (hv : -2147483648 ≤ v ∧ v < 2147483648) (hf : ∀ k, p ≤ k → k < q → -2147483648 ≤ f k ∧ f k < 2147483648) (hn : n ≤ 1000 := by omega) : CtI mX4_countOf 1 0 0 [.ref a, .int (iN v), .int (iN p), .int (iN q)] h (fun r h' => r = cnt f v p (q - p) ∧ h' = h) := by
  refine en_X4_countOf (b_X4_countOf_0 hr.cells hr.2.al ?_)
  rw [if_neg (fun w => by have := (iN_lt (by omega)).mp w; omega), if_neg (fun w => by have := (iN_lt (by omega)).mp w; omega)]
  have H : ∀ (k i : Nat), p + i + k = q → AW mX4_countOf 1 0 0 21 [.ref a, .int (iN v), .int (iN p), .int (iN q), .int (iN (cnt f v p i)), .int (iN q), .int (iN ((p + i : Nat) : Int))] [] h (qI (fun r h' => r = cnt f v p (q - p) ∧ h' = h)) := by
    intro k
    induction k with
    | zero =>
      intro i hi
      refine b_X4_countOf_21 (fun _ => ?_) (fun w => absurd ((iN_le (by omega)).mpr (by omega)) w)
      exact b_X4_countOf_48 (rI ⟨by rw [show q - p = i by omega], rfl⟩)
    | succ k ih =>
      intro i hi
      refine b_X4_countOf_21 (fun w => ?_) (fun _ => ?_)
      · have := (iN_le (by omega)).mp w; omega
      have hs := hr.2.se (z := ((p + i : Nat) : Int)) (by omega) (by omega) (by omega)
      rw [Int.toNat_natCast] at hs
      have hk := ih (i + 1) (by omega)
      have e : (((p + i : Nat) : Int) + 1) = ((p + (i + 1) : Nat) : Int) := by omega
      have hb := hf (p + i) (by omega) (by omega)
      refine b_X4_countOf_28 hr.cells hs (fun w => ?_) (fun w => ?_)
      · refine b_X4_countOf_42 ?_
        rw [e]
        simp only [cnt] at hk
        rw [if_neg (fun z => w (by rw [z])), Int.add_zero] at hk
        exact hk
      · refine b_X4_countOf_39 ?_
        rw [e]
        simp only [cnt] at hk
        rw [if_pos ((iN_eq (by omega)).mp (Classical.not_not.mp (by first | exact w | exact fun z => z w)))] at hk
        exact hk
  exact H (q - p) 0 (by omega)
/-- n places taken out at p: those behind close up, the last n stay as they are -/
def cutf (f : Nat → Int) (p n len : Nat) : Nat → Int := fun k => if p ≤ k ∧ k < len - n then f (k + n) else f k
theorem s_cut {h : AH} {a len : Nat} {f : Nat → Int} {p n : Nat} (hr : row h a len f) (hn1 : 1 ≤ n) (hpn : p + n ≤ len) (hn : len ≤ 1000 := by omega) : CtV mX4_cut 1 0 0 [.ref a, .int (iN p), .int (iN n)] h (fun h' => h' = wr h (a + 1) len (cutf f p n len)) := by
  refine en_X4_cut (b_X4_cut_0 (fun _ => ?_) (fun w => absurd ((iN_le (by omega)).mpr (by omega)) w))
  refine b_X4_cut_6 ?_
  rw [if_neg (fun w => by have := (iN_lt (by omega)).mp w; omega)]
  have H : ∀ (k i : Nat) (h : AH) (f0 : Nat → Int), row h a len f0 → i + k = len - n → (∀ j, i ≤ j → f0 j = f j) → (∀ j, j < i → f0 j = cutf f p n len j) → p ≤ i → ∀ h0, wr h0 (a + 1) len f0 = h → AW mX4_cut 1 0 0 12 [.ref a, .int (iN p), .int (iN n), .int (iN i)] [] h (qV (fun h' => h' = wr h0 (a + 1) len (cutf f p n len))) := by
    intro k
    induction k with
    | zero =>
      intro i h f0 hr hi hf hg hpi h0 hh
      refine b_X4_cut_12 hr.cells hr.2.al (fun _ => ?_) (fun w => absurd ((iN_le (by omega)).mpr (by omega)) w)
      refine b_X4_cut_43 (rV ?_)
      rw [← hh]
      refine wr_congr fun j hj => ?_
      by_cases hji : j < i
      · exact hg j hji
      · rw [hf j (by omega)]
        unfold cutf
        rw [if_neg (by omega)]
    | succ k ih =>
      intro i h f0 hr hi hf hg hpi h0 hh
      refine b_X4_cut_12 hr.cells hr.2.al (fun w => ?_) (fun _ => ?_)
      · have := (iN_le (by omega)).mp w; omega
      refine b_X4_cut_23 hr.cells hr.cells (hr.2.se (z := (i : Int) + n) (by omega) (by omega) (by omega)) (hr.2.se (z := (i : Int)) (by omega) (by omega) (by omega)) ?_
      rw [hr.2.st]
      have e : ((i : Int) + 1) = ((i + 1 : Nat) : Int) := by omega
      have e2 : ((i : Int) + n).toNat = i + n := by omega
      rw [e, e2]
      refine ih (i + 1) _ (up f0 i (f0 (i + n))) (hr.w _) (by omega) (fun j hj => ?_) (fun j hj => ?_) (by omega) h0 ?_
      · rw [up_ne _ _ (by omega), hf j (by omega)]
      · by_cases hji : j = i
        · subst hji
          rw [up_same, hf _ (by omega)]
          unfold cutf
          rw [if_pos (by omega)]
        · rw [up_ne _ _ hji, hg j (by omega)]
      · rw [← hh, wr_wr]
  refine H (len - n - p) p h f hr (by omega) (fun _ _ => rfl) (fun j hj => ?_) (Nat.le_refl _) h (wr_same hr.2)
  unfold cutf
  rw [if_neg (by omega)]
theorem s_rcopy {h : AH} {a b n : Nat} {f g : Nat → Int} (hr : row h a n f) (ho : row h b n g) (hn : n ≤ 1000 := by omega) : CtV mX4_copy 2 0 0 [.ref a, .ref b] h (fun h' => h' = wr h (a + 1) n g) := by
  have e : (if iN (n : Int) < iN (n : Int) then (n : Int) else n) = n := by split <;> rfl
  refine en_X4_copy (b_X4_copy_0 ho.cells hr.cells ho.cells ho.2.al hr.cells hr.2.al ho.2 hr.2 (by rw [e]; omega) (by rw [e, mk_len]; omega) (by rw [e, mk_len]; omega) (rV ?_))
  rw [e, Int.toNat_natCast, List.take_of_length_le (by rw [mk_len]; omega), List.drop_of_length_le (by rw [mk_len]; omega), List.append_nil]
  rfl
