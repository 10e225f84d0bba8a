/-! the law's world: both objects, the script, the answer's cell -/
/-- a state: row, how many remembered, which, text's length, signs, what is saved -/
def ST : Type := (Nat → Int) × Nat × (Nat → Nat → Int) × Nat × (Nat → Int) × (Nat → Bool) × (Nat → Nat → Int)
def cw (h : AH) (σ : ST) : Prop := CW h 1 σ.1 σ.2.1 σ.2.2.1 σ.2.2.2.1 σ.2.2.2.2.1 σ.2.2.2.2.2.1 σ.2.2.2.2.2.2
def rw9 (h : AH) (σ : ST) (rf : Int) : Prop := RW h 642 σ.1 σ.2.1 σ.2.2.1 σ.2.2.2.1 σ.2.2.2.2.1 σ.2.2.2.2.2.1 σ.2.2.2.2.2.2 rf
def oks (σ : ST) : Prop := OKS σ.1 σ.2.1 σ.2.2.1 σ.2.2.2.1 σ.2.2.2.2.1 σ.2.2.2.2.2.1 σ.2.2.2.2.2.2
def LW (h : AH) (sc : List Value) (σ τ : ST) (rf : Int) : Prop := cw h σ ∧ rw9 h τ rf ∧ h[0]? = some (14, sc) ∧ ∃ z : Int, h[650]? = some (11, [.long (jN z)])
/-- between: the class has answered K and V, the reference not yet -/
def MD (h : AH) (sc : List Value) (σ τ : ST) (rf K V : Int) : Prop := LW h sc σ τ rf ∧ (K = 0 → h[650]? = some (11, [.long (jN (iN V).toInt)])) ∧ (K = 0 ∨ K = 1 ∨ K = 2)
section LWORLD
variable {h h1 : AH} {sc : List Value} {σ τ σ1 : ST} {rf K V : Int} {P : AH → Prop} {e1 e2 : Nat}
theorem LW.o8 (w : LW h sc σ τ rf) : isO h 1 8 := ⟨_, w.1.1⟩
theorem LW.o9 (w : LW h sc σ τ rf) : isO h 642 9 := by
  obtain ⟨_, ⟨⟨sp, gd, lf, w1⟩, _⟩, _⟩ := w
  exact ⟨_, w1⟩
theorem LW.off (w : LW h sc σ τ rf) (c : cw h1 σ1) (o : Off h h1 1 642) : LW h1 sc σ1 τ rf := by
  obtain ⟨w1, w2, w3, z, w4⟩ := w
  exact ⟨c, RW.kp w2 o.kp, o.kp _ _ (by omega) w3, z, o.kp _ _ (by omega) w4⟩
theorem LW.jk (w : LW h sc σ τ rf) (n : Nat) : LW (h ++ junk n) sc σ τ rf := by
  obtain ⟨w1, w2, w3, z, w4⟩ := w
  have k : Kp h (h ++ junk n) 0 0 := Kp.junk h n 0 0
  exact ⟨CW.kp w1 k, RW.kp w2 k, k _ _ (by omega) w3, z, k _ _ (by omega) w4⟩
theorem LW.st (w : LW h sc σ τ rf) (z : Int) : LW (stf h 650 0 (.long (jN z))) sc σ τ rf ∧ (stf h 650 0 (.long (jN z)))[650]? = some (11, [.long (jN z)]) := by
  obtain ⟨w1, w2, w3, y, w4⟩ := w
  have k : Kp h (stf h 650 0 (.long (jN z))) 650 651 := (Off.ofs (h := h) (a := 650) (j := 0) (v := .long (jN z))).kp
  have e : (stf h 650 0 (.long (jN z)))[650]? = some (11, [.long (jN z)]) := by
    rw [stf_at w4, List.getElem?_set_self (List.getElem?_eq_some_iff.mp w4).1]
    rfl
  exact ⟨⟨CW.kp w1 k, RW.kp w2 k, k _ _ (by omega) w3, z, e⟩, e⟩
theorem LW.gj (w : LW h sc σ τ rf) (hP : ∀ h1, P h1 → cw h1 σ1 ∧ Off h h1 1 642) (p : P h1) (n : Nat) (hK : K = 1 ∨ K = 2) : MD (h1 ++ junk n) sc σ1 τ rf K V :=
  ⟨(w.off (hP h1 p).1 (hP h1 p).2).jk n, fun q => by omega, Or.inr hK⟩
theorem LW.gs (w : LW h sc σ τ rf) (hP : ∀ h1, P h1 → cw h1 σ1 ∧ Off h h1 1 642) (p : P h1) : ∃ z : Int, sei h1 650 11 0 (.long (jN z)) := by
  obtain ⟨_, _, _, z, w4⟩ := w.off (hP h1 p).1 (hP h1 p).2
  exact ⟨z, _, w4, by omega, rfl⟩
theorem LW.gv (w : LW h sc σ τ rf) (hP : ∀ h1, P h1 → cw h1 σ1 ∧ Off h h1 1 642) (p : P h1) {v : Int} (k0 : K = 0) (e : iN v = iN V) : MD (stf h1 650 (0 : Int).toNat (.long (jN (iN v).toInt))) sc σ1 τ rf K V := by
  have q := (w.off (hP h1 p).1 (hP h1 p).2).st (iN v).toInt
  refine ⟨q.1, fun _ => ?_, Or.inl k0⟩
  rw [← e]
  exact q.2
theorem oX.cv (r : Option Value) (h : AH) (q : oX e1 e2 K V P (.inl r) h) : ∃ v : Int, r = some (.int (iN v)) := by
  obtain ⟨⟨_, e⟩ | ⟨_, e⟩ | ⟨_, e⟩, _⟩ := q
  · exact ⟨V, by injection e⟩
  · exact nomatch e
  · exact nomatch e
theorem oX.cx {x : Nat} (q : oX e1 e2 K V P (.inr x) h) : x = e1 ∨ x = e2 := by
  obtain ⟨⟨_, e⟩ | ⟨_, e⟩ | ⟨_, e⟩, _⟩ := q
  · exact nomatch e
  · injection e with e; exact Or.inl e
  · injection e with e; exact Or.inr e
theorem oX.c1 {x : Nat} (q : oX e1 e1 K V P (.inr x) h) : x = e1 := by
  rcases oX.cx q with e | e <;> exact e
theorem oX.k0 {x : Nat} (q : oX e1 e1 K V P (.inr x) h) (hK : K ≠ 2) : K = 1 := by
  obtain ⟨⟨_, e⟩ | ⟨k, e⟩ | ⟨k, e⟩, _⟩ := q
  · exact nomatch e
  · exact k
  · exact absurd k hK
theorem oX.k1 {x : Nat} (q : oX e1 e2 K V P (.inr x) h) (hx : x ≠ e2) : K = 1 := by
  obtain ⟨⟨_, e⟩ | ⟨k, e⟩ | ⟨k, e⟩, _⟩ := q
  · exact nomatch e
  · exact k
  · injection e with e; exact absurd e hx
theorem oX.k2 {x : Nat} (q : oX e1 e2 K V P (.inr x) h) (hx : x ≠ e1) : K = 2 := by
  obtain ⟨⟨_, e⟩ | ⟨k, e⟩ | ⟨k, e⟩, _⟩ := q
  · exact nomatch e
  · injection e with e; exact absurd e hx
  · exact k
theorem oX.k {v : Int} (q : oX e1 e2 K V P (.inl (some (.int (iN v)))) h) : K = 0 ∧ iN v = iN V := by
  obtain ⟨⟨k, e⟩ | ⟨_, e⟩ | ⟨_, e⟩, _⟩ := q
  · injection e with e; injection e with e; injection e with e
    exact ⟨k, e⟩
  · exact nomatch e
  · exact nomatch e
end LWORLD
