/-! a command, the head, the whole text: what is read, without what it does -/
def cA (s : Nat → Int) (n p : Nat) (c : Int) : Int × Nat × Bool :=
  if c = 112 then rN s n 1 40 2 0 (p + 1) false else if c = 102 then rN s n 0 23 2 0 (p + 1) false else if c = 106 then rN s n 0 7 1 0 (p + 1) false else
  if c = 101 ∨ c = 108 ∨ c = 120 then (0, p + 1, false) else (0, p, true)
def cB (s : Nat → Int) (n p : Nat) (c : Int) : Int × Nat × Bool :=
  if c = 112 then stp s n (cA s n p c).2.1 (cA s n p c).2.2 else if c = 102 then rN s n 0 99 2 0 (cA s n p c).2.1 (cA s n p c).2.2 else (0, (cA s n p c).2.1, (cA s n p c).2.2)
def hd0 (s : Nat → Int) (n : Nat) : Nat × Bool := if sgn s n 0 = 84 then (1, false) else (0, true)
def hA (s : Nat → Int) (n : Nat) : Int × Nat × Bool := rN s n 8 64 2 0 (hd0 s n).1 (hd0 s n).2
def hB (s : Nat → Int) (n : Nat) : Int × Nat × Bool := rN s n 0 128 3 0 (hA s n).2.1 (hA s n).2.2
/-- all commands are read: where the reader ends, whether something was wrong -/
def rdP (s : Nat → Int) (n : Nat) : Nat → Nat → Bool → Nat × Bool
  | 0, p, w => (p, w)
  | k + 1, p, w => if w = false ∧ p < n then rdP s n k (cB s n p (s p)).2.1 (cB s n p (s p)).2.2 else (p, w)
def rdF (s : Nat → Int) (n : Nat) : Nat × Bool := rdP s n 100 (hB s n).2.1 (hB s n).2.2
def fpV (s : Nat → Int) (n : Nat) : Int := if (rdF s n).2 = true then ((rdF s n).1 : Int) else -1
theorem rdP_s (s : Nat → Int) (n k p : Nat) (w : Bool) : rdP s n (k + 1) p w = if w = false ∧ p < n then rdP s n k (cB s n p (s p)).2.1 (cB s n p (s p)).2.2 else (p, w) := rfl
theorem tnf {α : Prop} (q : true = false) : α := absurd q (by decide)
section CMD
variable {h h' : AH} {a : Nat} {kd f1 f2 : Int} {s : Nat → Int}
theorem rN_rg (s : Nat → Int) (n : Nat) (lo hi : Int) : ∀ (j : Nat) (num : Int) (p : Nat) (w : Bool), p ≤ (rN s n lo hi j num p w).2.1 ∧ (rN s n lo hi j num p w).2.1 ≤ p + j ∧ ((rN s n lo hi j num p w).2.2 = false → w = false ∧ (rN s n lo hi j num p w).2.1 = p + j ∧ (1 ≤ j → lo ≤ (rN s n lo hi j num p w).1 ∧ (rN s n lo hi j num p w).1 ≤ hi))
  | 0, num, p, w => ⟨Nat.le_refl _, Nat.le_refl _, fun q => ⟨q, rfl, fun z => by omega⟩⟩
  | j + 1, num, p, true => by
    rw [rN_w]
    exact ⟨Nat.le_refl _, by show p ≤ _; omega, fun q => tnf q⟩
  | j + 1, num, p, false => by
    have e : rN s n lo hi (j + 1) num p false = if dig s n p = -1 ∨ hi < num + dig s n p * tenP j ∨ num + dig s n p * tenP j + tenP j - 1 < lo then (num, p, true) else rN s n lo hi j (num + dig s n p * tenP j) (p + 1) false := by
      simp only [rN]; rfl
    rw [e]
    split
    · exact ⟨Nat.le_refl _, by show p ≤ _; omega, fun q => tnf q⟩
    · rename_i w
      have ih := rN_rg s n lo hi j (num + dig s n p * tenP j) (p + 1) false
      refine ⟨by omega, by omega, fun q => ?_⟩
      have i3 := ih.2.2 q
      refine ⟨rfl, by omega, fun _ => ?_⟩
      rcases Nat.eq_zero_or_pos j with z | z
      · subst z
        simp only [rN, tenP] at w ⊢
        omega
      · exact i3.2.2 z
theorem stp_rg (s : Nat → Int) (n p : Nat) (w : Bool) : p ≤ (stp s n p w).2.1 ∧ (stp s n p w).2.1 ≤ p + 1 ∧ ((stp s n p w).2.2 = false → w = false ∧ (stp s n p w).2.1 = p + 1 ∧ isStp (stp s n p w).1 = true) := by
  unfold stp
  split
  · rename_i q
    exact ⟨by show p ≤ p + 1; omega, Nat.le_refl _, fun _ => ⟨q.1, rfl, q.2⟩⟩
  · exact ⟨Nat.le_refl _, by show p ≤ p + 1; omega, fun q => tnf q⟩
theorem cA_rg (s : Nat → Int) (n p : Nat) (c : Int) : p ≤ (cA s n p c).2.1 ∧ (cA s n p c).2.1 ≤ p + 3 ∧ ((cA s n p c).2.2 = false → p + 1 ≤ (cA s n p c).2.1) := by
  unfold cA
  split
  · have := rN_rg s n 1 40 2 0 (p + 1) false; exact ⟨by omega, by omega, fun _ => this.1⟩
  · split
    · have := rN_rg s n 0 23 2 0 (p + 1) false; exact ⟨by omega, by omega, fun _ => this.1⟩
    · split
      · have := rN_rg s n 0 7 1 0 (p + 1) false; exact ⟨by omega, by omega, fun _ => this.1⟩
      · split
        · exact ⟨by show p ≤ p + 1; omega, by show p + 1 ≤ p + 3; omega, fun _ => Nat.le_refl _⟩
        · exact ⟨Nat.le_refl _, by show p ≤ p + 3; omega, fun q => tnf q⟩
theorem cB_rg (s : Nat → Int) (n p : Nat) (c : Int) : p ≤ (cB s n p c).2.1 ∧ (cB s n p c).2.1 ≤ p + 5 ∧ ((cB s n p c).2.2 = false → (cA s n p c).2.2 = false ∧ p + 1 ≤ (cB s n p c).2.1) := by
  have a := cA_rg s n p c
  unfold cB
  split
  · have := stp_rg s n (cA s n p c).2.1 (cA s n p c).2.2
    refine ⟨by omega, by omega, fun q => ?_⟩
    have q3 := this.2.2 q
    have q4 := a.2.2 q3.1
    exact ⟨q3.1, by omega⟩
  · split
    · have := rN_rg s n 0 99 2 0 (cA s n p c).2.1 (cA s n p c).2.2
      refine ⟨by omega, by omega, fun q => ?_⟩
      have q3 := this.2.2 q
      have q4 := a.2.2 q3.1
      exact ⟨q3.1, by omega⟩
    · exact ⟨a.1, by show (cA s n p c).2.1 ≤ _; omega, fun q => ⟨q, a.2.2 q⟩⟩
/-- the numbers of a sound command -/
theorem cmd_rg (s : Nat → Int) (n p : Nat) (c : Int) (hw : (cB s n p c).2.2 = false) :
    (c = 112 ∨ c = 102 ∨ c = 106 ∨ c = 101 ∨ c = 108 ∨ c = 120) ∧ (c = 112 → (1 ≤ (cA s n p c).1 ∧ (cA s n p c).1 ≤ 40) ∧ isStp (cB s n p c).1 = true) ∧ (c = 102 → (0 ≤ (cA s n p c).1 ∧ (cA s n p c).1 ≤ 23) ∧ 0 ≤ (cB s n p c).1 ∧ (cB s n p c).1 ≤ 99) ∧ (c = 106 → 0 ≤ (cA s n p c).1 ∧ (cA s n p c).1 ≤ 7) := by
  have b := (cB_rg s n p c).2.2 hw
  refine ⟨?_, fun q => ?_, fun q => ?_, fun q => ?_⟩
  · by_cases q1 : c = 112
    · exact Or.inl q1
    by_cases q2 : c = 102
    · exact Or.inr (Or.inl q2)
    by_cases q3 : c = 106
    · exact Or.inr (Or.inr (Or.inl q3))
    have := b.1
    unfold cA at this
    rw [if_neg q1, if_neg q2, if_neg q3] at this
    split at this
    · rename_i q4; omega
    · exact tnf this
  · subst q
    have e : cA s n p 112 = rN s n 1 40 2 0 (p + 1) false := rfl
    have e2 : cB s n p 112 = stp s n (cA s n p 112).2.1 (cA s n p 112).2.2 := rfl
    have h1 := (rN_rg s n 1 40 2 0 (p + 1) false).2.2 (by rw [← e]; exact b.1)
    have h2 := (stp_rg s n (cA s n p 112).2.1 (cA s n p 112).2.2).2.2 (by rw [← e2]; exact hw)
    refine ⟨?_, ?_⟩
    · rw [e]; exact h1.2.2 (by omega)
    · rw [e2]; exact h2.2.2
  · subst q
    have e : cA s n p 102 = rN s n 0 23 2 0 (p + 1) false := rfl
    have e2 : cB s n p 102 = rN s n 0 99 2 0 (cA s n p 102).2.1 (cA s n p 102).2.2 := rfl
    have h1 := (rN_rg s n 0 23 2 0 (p + 1) false).2.2 (by rw [← e]; exact b.1)
    have h2 := (rN_rg s n 0 99 2 0 (cA s n p 102).2.1 (cA s n p 102).2.2).2.2 (by rw [← e2]; exact hw)
    refine ⟨?_, ?_⟩
    · rw [e]; exact h1.2.2 (by omega)
    · rw [e2]; exact h2.2.2 (by omega)
  · subst q
    have e : cA s n p 106 = rN s n 0 7 1 0 (p + 1) false := rfl
    have h1 := (rN_rg s n 0 7 1 0 (p + 1) false).2.2 (by rw [← e]; exact b.1)
    rw [e]; exact h1.2.2 (by omega)
theorem s_readCommand {n p : Nat} (ht : txt h a n p (bI false) kd f1 f2 s) (hn : n ≤ 100) (hp : p < n) (hs : ∀ k, k < n → 0 ≤ s k ∧ s k ≤ 255) :
    CtV mX7_readCommand 3 0 0 [.ref a] h (fun h' => ∃ f1' f2', txt h' a n ((cB s n p (s p)).2.1 : Int) (bI (cB s n p (s p)).2.2) (s p) f1' f2' s ∧ (s p = 112 ∨ s p = 102 ∨ s p = 106 → f1' = (cA s n p (s p)).1) ∧ (s p = 112 ∨ s p = 102 → f2' = (cB s n p (s p)).1) ∧ Off h h' a (a + 1)) := by
  have hsp := hs p hp
  refine en_X7_readCommand (b_X7_readCommand_0 ht.n2 ht.o (s_readLetter (w := false) ht hn (by omega)) (fun v h1 hv => ?_))
  obtain ⟨rfl, t1, o1⟩ := hv
  rw [if_pos ⟨rfl, hp⟩] at t1
  have ev : sgn s n p = s p := by unfold sgn; rw [if_pos hp]
  rw [if_pos rfl, ev]
  have t2 := t1.s4 (s p)
  have o2 : Off h (stf h1 a 4 (.int (iN (s p)))) a (a + 1) := o1.tr Off.ofs a (a + 1)
  have eT : (iN (s p)).toInt = s p := iN_T (by omega)
  -- wrong letters
  have Bad : (s p ≠ 112 ∧ s p ≠ 102 ∧ s p ≠ 106 ∧ s p ≠ 101 ∧ s p ≠ 108) → ∀ h2, h2 = stf h1 a 4 (.int (iN (s p))) → s p ≠ 120 → AW mX7_readCommand 3 0 0 180 [.ref a, .int (iN (p : Int))] [] h2 (qV (fun h' => ∃ f1' f2', txt h' a n ((cB s n p (s p)).2.1 : Int) (bI (cB s n p (s p)).2.2) (s p) f1' f2' s ∧ (s p = 112 ∨ s p = 102 ∨ s p = 106 → f1' = (cA s n p (s p)).1) ∧ (s p = 112 ∨ s p = 102 → f2' = (cB s n p (s p)).1) ∧ Off h h' a (a + 1))) := by
    rintro q h2 rfl q6
    refine b_X7_readCommand_180 t2.o (s_failAt t2 (p : Int)) (fun h3 hv => ?_)
    obtain ⟨t3, o3⟩ := hv
    have e : cB s n p (s p) = (0, p, true) := by
      unfold cB cA
      rw [if_neg q.1, if_neg q.2.1, if_neg q.1, if_neg q.2.1, if_neg q.2.2.1, if_neg (by omega)]
    rw [e]
    exact b_X7_readCommand_185 (rV ⟨_, _, t3, fun z => by omega, fun z => by omega, o2.tr o3 a (a + 1)⟩)
  have Simple : (s p = 101 ∨ s p = 108 ∨ s p = 120) → AW mX7_readCommand 3 0 0 177 [.ref a, .int (iN (p : Int))] [] (stf h1 a 4 (.int (iN (s p)))) (qV (fun h' => ∃ f1' f2', txt h' a n ((cB s n p (s p)).2.1 : Int) (bI (cB s n p (s p)).2.2) (s p) f1' f2' s ∧ (s p = 112 ∨ s p = 102 ∨ s p = 106 → f1' = (cA s n p (s p)).1) ∧ (s p = 112 ∨ s p = 102 → f2' = (cB s n p (s p)).1) ∧ Off h h' a (a + 1))) := by
    intro q
    have e : cB s n p (s p) = (0, p + 1, false) := by
      unfold cB cA
      rw [if_neg (by omega), if_neg (by omega), if_neg (by omega), if_neg (by omega), if_neg (by omega), if_pos q]
    rw [e]
    exact b_X7_readCommand_177 (rV ⟨_, _, t2, fun z => by omega, fun z => by omega, o2⟩)
  refine b_X7_readCommand_10 t1.n4 t2.n4 (fun q => Simple (by omega)) (fun q => ?_) (fun q => Bad (by omega) _ rfl (by omega)) (fun q => Bad (by omega) _ rfl (by omega)) (fun q => Bad (by omega) _ rfl (by omega)) (fun q => ?_) (fun q => Bad (by omega) _ rfl (by omega)) (fun q => Simple (by omega)) (fun q => Bad (by omega) _ rfl (by omega)) (fun q => Bad (by omega) _ rfl (by omega)) (fun q => Bad (by omega) _ rfl (by omega)) (fun q => ?_) (fun q => Bad (by omega) _ rfl (by omega)) (fun q => Bad (by omega) _ rfl (by omega)) (fun q => Bad (by omega) _ rfl (by omega)) (fun q => Bad (by omega) _ rfl (by omega)) (fun q => Bad (by omega) _ rfl (by omega)) (fun q => Bad (by omega) _ rfl (by omega)) (fun q => Bad (by omega) _ rfl (by omega)) (fun q => Simple (by omega)) (fun q => Bad (by omega) _ rfl (by omega))
  · have ec : s p = 102 := by omega
    rw [ec] at t2 o2 ⊢
    have eA : cA s n p 102 = rN s n 0 23 2 0 (p + 1) false := rfl
    have eB : cB s n p 102 = rN s n 0 99 2 0 (cA s n p 102).2.1 (cA s n p 102).2.2 := rfl
    have rg := cA_rg s n p 102
    refine b_X7_readCommand_150 t2.o (s_readNumber (w := false) t2 hn (by omega) hs 2 (by omega) (lo := 0) (hi := 23) (by omega) (by omega)) (fun v h3 hv => ?_)
    obtain ⟨rfl, t3, o3⟩ := hv
    rw [← eA] at t3 ⊢
    have t4 := t3.s5 (cA s n p 102).1
    have o4 := o2.tr (o3.tr (Off.ofs (a := a) (j := 5) (v := .int (iN (cA s n p 102).1))) a (a + 1)) a (a + 1)
    refine b_X7_readCommand_159 t3.n5 t4.o (s_readNumber t4 hn (by omega) hs 2 (by omega) (lo := 0) (hi := 99) (by omega) (by omega)) (fun v h5 hv => ?_)
    obtain ⟨rfl, t5, o5⟩ := hv
    rw [← eB] at t5 ⊢
    exact b_X7_readCommand_171 t5.n6 (rV ⟨_, _, t5.s6 _, fun _ => rfl, fun _ => rfl, (o4.tr o5 a (a + 1)).tr Off.ofs a (a + 1)⟩)
  · have ec : s p = 106 := by omega
    rw [ec] at t2 o2 ⊢
    have eA : cA s n p 106 = rN s n 0 7 1 0 (p + 1) false := rfl
    have eB : cB s n p 106 = (0, (cA s n p 106).2.1, (cA s n p 106).2.2) := rfl
    refine b_X7_readCommand_135 t2.o (s_readNumber (w := false) t2 hn (by omega) hs 1 (by omega) (lo := 0) (hi := 7) (by omega) (by omega)) (fun v h3 hv => ?_)
    obtain ⟨rfl, t3, o3⟩ := hv
    rw [← eA] at t3 ⊢
    rw [eB]
    exact b_X7_readCommand_144 t3.n5 (rV ⟨_, _, t3.s5 _, fun _ => rfl, fun z => by omega, (o2.tr o3 a (a + 1)).tr Off.ofs a (a + 1)⟩)
  · have ec : s p = 112 := by omega
    rw [ec] at t2 o2 ⊢
    have eA : cA s n p 112 = rN s n 1 40 2 0 (p + 1) false := rfl
    have eB : cB s n p 112 = stp s n (cA s n p 112).2.1 (cA s n p 112).2.2 := rfl
    have rg := cA_rg s n p 112
    refine b_X7_readCommand_112 t2.o (s_readNumber (w := false) t2 hn (by omega) hs 2 (by omega) (lo := 1) (hi := 40) (by omega) (by omega)) (fun v h3 hv => ?_)
    obtain ⟨rfl, t3, o3⟩ := hv
    rw [← eA] at t3 ⊢
    have t4 := t3.s5 (cA s n p 112).1
    have o4 := o2.tr (o3.tr (Off.ofs (a := a) (j := 5) (v := .int (iN (cA s n p 112).1))) a (a + 1)) a (a + 1)
    refine b_X7_readCommand_121 t3.n5 t4.o (s_readStep t4 hn (by omega) hs) (fun v h5 hv => ?_)
    obtain ⟨rfl, t5, o5⟩ := hv
    rw [← eB] at t5 ⊢
    exact b_X7_readCommand_129 t5.n6 (rV ⟨_, _, t5.s6 _, fun _ => rfl, fun _ => rfl, (o4.tr o5 a (a + 1)).tr Off.ofs a (a + 1)⟩)
theorem s_readHead {n : Nat} {p w : Int} (ht : txt h a n p w kd f1 f2 s) (hn : n ≤ 100) (hs : ∀ k, k < n → 0 ≤ s k ∧ s k ≤ 255) :
    CtV mX7_readHead 3 0 0 [.ref a] h (fun h' => ∃ kd', txt h' a n ((hB s n).2.1 : Int) (bI (hB s n).2.2) kd' (hA s n).1 (hB s n).1 s ∧ Off h h' a (a + 1)) := by
  have t1 := (ht.s2 0).s3 0
  have o1 : Off h (stf (stf h a 2 (.int (iN 0))) a 3 (.int (iN 0))) a (a + 1) := (Off.ofs (a := a)).tr Off.ofs a (a + 1)
  -- the two numbers
  have Num : ∀ (h2 : AH) (kd' : Int) , txt h2 a n ((hd0 s n).1 : Int) (bI (hd0 s n).2) kd' f1 f2 s → Off h h2 a (a + 1) → AW mX7_readHead 3 0 0 32 [.ref a] [] h2 (qV (fun h' => ∃ kd', txt h' a n ((hB s n).2.1 : Int) (bI (hB s n).2.2) kd' (hA s n).1 (hB s n).1 s ∧ Off h h' a (a + 1))) := by
    intro h2 kd' t2 o2
    have p1 : (hd0 s n).1 ≤ 1 := by
      unfold hd0; split
      · exact Nat.le_refl _
      · exact Nat.zero_le _
    have rg := rN_rg s n 8 64 2 0 (hd0 s n).1 (hd0 s n).2
    refine b_X7_readHead_32 t2.o (s_readNumber t2 hn (by omega) hs 2 (by omega) (lo := 8) (hi := 64) (by omega) (by omega)) (fun v h3 hv => ?_)
    obtain ⟨rfl, t3, o3⟩ := hv
    have t4 := t3.s5 (hA s n).1
    have o4 := o2.tr (o3.tr (Off.ofs (a := a) (j := 5) (v := .int (iN (hA s n).1))) a (a + 1)) a (a + 1)
    refine b_X7_readHead_42 t3.n5 t4.o (s_readNumber t4 hn (by omega) hs 3 (by omega) (lo := 0) (hi := 128) (by omega) (by omega)) (fun v h5 hv => ?_)
    obtain ⟨rfl, t5, o5⟩ := hv
    exact b_X7_readHead_55 t5.n6 (rV ⟨_, t5.s6 _, (o4.tr o5 a (a + 1)).tr Off.ofs a (a + 1)⟩)
  refine en_X7_readHead (b_X7_readHead_0 ht.n2 (ht.s2 0).n3 t1.o (s_readLetter (w := false) (p := 0) t1 hn (by omega)) (fun v h2 hv => ?_))
  obtain ⟨rfl, t2, o2⟩ := hv
  rw [if_pos rfl]
  have t3 := t2.s4 (sgn s n 0)
  have o3 := (o1.tr o2 a (a + 1)).tr (Off.ofs (a := a) (j := 4) (v := .int (iN (sgn s n 0)))) a (a + 1)
  have rg : -1 ≤ sgn s n 0 ∧ sgn s n 0 ≤ 255 := by
    unfold sgn
    split
    · rename_i q; have := hs 0 q; omega
    · omega
  refine b_X7_readHead_15 t2.n4 t3.n4 (fun q => ?_) (fun q => ?_)
  · have q1 := (iN_eq (by omega)).mp q
    have h0n : 0 < n := by
      rcases Nat.eq_zero_or_pos n with z | z
      · unfold sgn at q1; rw [if_neg (by omega)] at q1; omega
      · exact z
    have e : hd0 s n = (1, false) := by unfold hd0; rw [if_pos q1]
    refine Num _ (sgn s n 0) ?_ o3
    rw [e]
    rw [if_pos ⟨rfl, h0n⟩] at t3
    exact t3
  · have q1 : ¬ sgn s n 0 = 84 := fun z => q (by rw [z])
    have e : hd0 s n = (0, true) := by unfold hd0; rw [if_neg q1]
    refine b_X7_readHead_27 t3.o (s_failAt t3 0) (fun h4 hv => ?_)
    obtain ⟨t4, o4⟩ := hv
    refine Num _ (sgn s n 0) ?_ (o3.tr o4 a (a + 1))
    rw [e]
    exact t4
theorem hB_rg (s : Nat → Int) (n : Nat) : (hB s n).2.1 ≤ 6 ∧ ((hB s n).2.2 = false → (hB s n).2.1 = 6 ∧ (8 ≤ (hA s n).1 ∧ (hA s n).1 ≤ 64) ∧ 0 ≤ (hB s n).1 ∧ (hB s n).1 ≤ 128) := by
  have a := rN_rg s n 8 64 2 0 (hd0 s n).1 (hd0 s n).2
  have b := rN_rg s n 0 128 3 0 (hA s n).2.1 (hA s n).2.2
  rw [show rN s n 8 64 2 0 (hd0 s n).1 (hd0 s n).2 = hA s n from rfl] at a
  rw [show rN s n 0 128 3 0 (hA s n).2.1 (hA s n).2.2 = hB s n from rfl] at b
  have p1 : (hd0 s n).1 ≤ 1 ∧ ((hd0 s n).2 = false → (hd0 s n).1 = 1) := by
    unfold hd0; split
    · exact ⟨Nat.le_refl _, fun _ => rfl⟩
    · exact ⟨Nat.zero_le _, fun q => tnf q⟩
  refine ⟨by omega, fun q => ?_⟩
  have b3 := b.2.2 q
  have a3 := a.2.2 b3.1
  have p3 := p1.2 a3.1
  exact ⟨by omega, a3.2.2 (by omega), b3.2.2 (by omega)⟩
theorem s_faultPosition {n : Nat} {p w : Int} (ht : txt h a n p w kd f1 f2 s) (hn : n ≤ 100) (hs : ∀ k, k < n → 0 ≤ s k ∧ s k ≤ 255) :
    CtI mX7_faultPosition 4 0 0 [.ref a] h (fun v h' => v = fpV s n ∧ (∃ p' w' kd' f1' f2', txt h' a n p' w' kd' f1' f2' s) ∧ Off h h' a (a + 1)) := by
  refine en_X7_faultPosition (b_X7_faultPosition_0 ht.o (s_readHead ht hn hs) (fun h1 hv => ?_))
  obtain ⟨kd1, t1, o1⟩ := hv
  refine b_X7_faultPosition_4 ?_
  have rg := hB_rg s n
  have Fin : ∀ (h2 : AH) (p2 : Nat) (w2 : Bool) (kd f1 f2 l : Int), txt h2 a n p2 (bI w2) kd f1 f2 s → Off h h2 a (a + 1) → rdF s n = (p2, w2) → AW mX7_faultPosition 4 0 0 29 [.ref a, .int (iN l)] [] h2 (qI (fun v h' => v = fpV s n ∧ (∃ p' w' kd' f1' f2', txt h' a n p' w' kd' f1' f2' s) ∧ Off h h' a (a + 1))) := by
    intro h2 p2 w2 kd f1 f2 l t2 o2 e
    refine b_X7_faultPosition_29 t2.n3 (fun q => ?_) (fun q => ?_)
    · have := bI_0.mp q
      subst this
      exact b_X7_faultPosition_43 (rI ⟨by unfold fpV; rw [e]; rfl, ⟨_, _, _, _, _, t2⟩, o2⟩)
    · have := bI_n0 q
      subst this
      exact b_X7_faultPosition_36 t2.n2 (rI ⟨by unfold fpV; rw [e]; rfl, ⟨_, _, _, _, _, t2⟩, o2⟩)
  have H : ∀ (k i : Nat) (h2 : AH) (p2 : Nat) (w2 : Bool) (kd f1 f2 : Int), i + k = 100 → txt h2 a n p2 (bI w2) kd f1 f2 s → Off h h2 a (a + 1) → p2 ≤ 900 → rdF s n = rdP s n k p2 w2 → AW mX7_faultPosition 4 0 0 6 [.ref a, .int (iN (i : Int))] [] h2 (qI (fun v h' => v = fpV s n ∧ (∃ p' w' kd' f1' f2', txt h' a n p' w' kd' f1' f2' s) ∧ Off h h' a (a + 1))) := by
    intro k
    induction k with
    | zero =>
      intro i h2 p2 w2 kd f1 f2 hi t2 o2 hp2 e
      exact b_X7_faultPosition_6 (fun _ => Fin _ _ _ _ _ _ _ t2 o2 e) (fun q => absurd ((iN_le (by omega)).mpr (by omega)) q)
    | succ k ih =>
      intro i h2 p2 w2 kd f1 f2 hi t2 o2 hp2 e
      refine b_X7_faultPosition_6 (fun q => by have := (iN_le (by omega)).mp q; omega) (fun _ => ?_)
      refine b_X7_faultPosition_12 t2.o (s_goesOn t2 hn (by omega)) (fun v h3 hv => ?_)
      obtain ⟨rfl, rfl⟩ := hv
      rw [rdP_s] at e
      by_cases q : w2 = false ∧ p2 < n
      · rw [if_pos q] at e
        obtain ⟨rfl, q2⟩ := q
        rw [show (!false && decide (p2 < n)) = true by rw [decide_eq_true q2]; rfl]
        refine b_X7_faultPosition_16 (fun y => absurd y (by decide)) (fun _ => ?_)
        refine b_X7_faultPosition_19 t2.o (s_readCommand t2 hn q2 hs) (fun h4 hv => ?_)
        obtain ⟨f1', f2', t4, -, -, o4⟩ := hv
        refine b_X7_faultPosition_23 ?_
        rw [show (i : Int) + 1 = ((i + 1 : Nat) : Int) by omega]
        have rb := cB_rg s n p2 (s p2)
        exact ih (i + 1) _ _ _ _ _ _ (by omega) t4 (o2.tr o4 a (a + 1)) (by omega) e
      · rw [if_neg q] at e
        have ee : (!w2 && decide (p2 < n)) = false := by
          cases w2
          · have : ¬ p2 < n := fun y => q ⟨rfl, y⟩
            rw [decide_eq_false this]; rfl
          · rfl
        rw [ee]
        exact b_X7_faultPosition_16 (fun _ => Fin _ _ _ _ _ _ _ t2 o2 e) (fun y => absurd rfl y)
  exact H 100 0 h1 _ _ _ _ _ (by omega) t1 o1 (by omega) rfl
end CMD
