/-! what a command does; a text is loaded -/
/-- the row behind it, and 1 if it is left out -/
def exC (c a b : Int) (r : Nat → Int) : (Nat → Int) × Int :=
  if c = 112 then (if r 0 < 24 ∧ whereIn r a b ≠ 3 then (pitchIn r a b, 0) else (r, 1)) else
  if c = 102 then (if 0 ≤ a ∧ a < r 0 then (fillIn r a.toNat b, 0) else (r, 1)) else
  if c = 101 then (if r 3 < 8 then (enterIn r, 0) else (r, 1)) else
  if c = 108 then (if 0 < r 3 then (leaveIn r, 0) else (r, 1)) else
  if c = 106 then (if 0 ≤ a ∧ a < r 3 then (jumpIn r a.toNat, 0) else (r, 1)) else (up r 9 (1 - r 9), 0)
/-- the numbers that a command may have -/
def okC (c a b : Int) : Prop :=
  (c = 112 ∨ c = 102 ∨ c = 106 ∨ c = 101 ∨ c = 108 ∨ c = 120) ∧ (c = 112 → (1 ≤ a ∧ a ≤ 40) ∧ isStp b = true) ∧ (c = 102 → (0 ≤ a ∧ a ≤ 23) ∧ 0 ≤ b ∧ b ≤ 99) ∧ (c = 106 → 0 ≤ a ∧ a ≤ 7)
def rdX (s : Nat → Int) (n : Nat) : Nat → Nat → Bool → (Nat → Int) → Int → Nat × Bool × (Nat → Int) × Int
  | 0, p, w, r, l => (p, w, r, l)
  | k + 1, p, w, r, l => if w = false ∧ p < n then (if (cB s n p (s p)).2.2 = true then ((cB s n p (s p)).2.1, true, r, l) else
      rdX s n k (cB s n p (s p)).2.1 false (exC (s p) (cA s n p (s p)).1 (cB s n p (s p)).1 r).1 (l + (exC (s p) (cA s n p (s p)).1 (cB s n p (s p)).1 r).2)) else (p, w, r, l)
theorem rdX_s (s : Nat → Int) (n k p : Nat) (w : Bool) (r : Nat → Int) (l : Int) : rdX s n (k + 1) p w r l = if w = false ∧ p < n then (if (cB s n p (s p)).2.2 = true then ((cB s n p (s p)).2.1, true, r, l) else
      rdX s n k (cB s n p (s p)).2.1 false (exC (s p) (cA s n p (s p)).1 (cB s n p (s p)).1 r).1 (l + (exC (s p) (cA s n p (s p)).1 (cB s n p (s p)).1 r).2)) else (p, w, r, l) := rfl
theorem rdP_w (s : Nat → Int) (n k p : Nat) : rdP s n k p true = (p, true) := by
  cases k
  · rfl
  · simp [rdP]
theorem rdX_P (s : Nat → Int) (n : Nat) : ∀ (k p : Nat) (w : Bool) (r : Nat → Int) (l : Int), ((rdX s n k p w r l).1, (rdX s n k p w r l).2.1) = rdP s n k p w
  | 0, p, w, r, l => rfl
  | k + 1, p, w, r, l => by
    rw [rdX_s, rdP_s]
    split
    · split
      · rename_i q
        rw [q, rdP_w]
      · rename_i q
        have q1 : (cB s n p (s p)).2.2 = false := by simpa using q
        rw [q1]
        exact rdX_P s n k _ _ _ _
    · rfl
theorem isStp_T {b : Int} (q : isStp b = true) : b = 1 ∨ b = 2 ∨ b = 4 ∨ b = 8 := by
  unfold isStp at q; exact of_decide_eq_true q
/-- nothing is changed but the camp and the text's object (its signs are not) -/
def Kp2 (h h' : AH) (x : Nat) : Prop := h'.length = h.length ∧ ∀ q, (q < x + 1 ∨ x + 36 ≤ q) → q ≠ x + 564 → h'[q]? = h[q]?
theorem Kp2.rf (h : AH) (x : Nat) : Kp2 h h x := ⟨rfl, fun _ _ _ => rfl⟩
theorem Kp2.tr2 {h h1 h2 h3 : AH} {x : Nat} (k : Kp2 h h1 x) (a : Off h1 h2 (x + 564) (x + 564 + 1)) (b : Off h2 h3 (x + 1) (x + 1 + 35)) : Kp2 h h3 x :=
  ⟨b.1.trans (a.1.trans k.1), fun q q1 q2 => (b.2 q (by omega)).trans ((a.2 q (by omega)).trans (k.2 q q1 q2))⟩
section EXE
variable {h h' : AH} {a c : Nat} {kd f1 f2 : Int} {s r : Nat → Int}
theorem exC_rg (c a b : Int) (r : Nat → Int) : (exC c a b r).2 = 0 ∨ (exC c a b r).2 = 1 := by
  unfold exC
  split
  · split
    · exact Or.inl rfl
    · exact Or.inr rfl
  · split
    · split
      · exact Or.inl rfl
      · exact Or.inr rfl
    · split
      · split
        · exact Or.inl rfl
        · exact Or.inr rfl
      · split
        · split
          · exact Or.inl rfl
          · exact Or.inr rfl
        · split
          · split
            · exact Or.inl rfl
            · exact Or.inr rfl
          · exact Or.inl rfl
theorem strV_rg (hI : Inv r) {i : Nat} (hi : (i : Int) < r 3) : 0 ≤ strV r i ∧ strV r i ≤ 24 := by
  have f := hI.2.2.2.2.2.2.2 i hi
  have h0 := hI.r0
  unfold strV
  have := f.1
  omega
theorem fillV_rg (hI : Inv r) {t : Nat} (ht : (t : Int) < r 0) : 0 ≤ fillV r t ∧ fillV r t ≤ 40 := by
  have tt := hI.2.1.2 t (by unfold nT; omega)
  have c := cnt_rg r 100 (frm r t) (r (12 + 4 * t)).toNat
  unfold fillV
  have := tt.2.2.1
  omega
theorem s_carryOut {n : Nat} {p w : Int} (hc : cmp h c r) (ht : txt h a n p w kd f1 f2 s) (ok : okC kd f1 f2) : CtZ mX8_carryOut 6 0 0 [.ref c, .ref a] h (fun v h' => v = decide ((exC kd f1 f2 r).2 = 0) ∧ cmp h' c (exC kd f1 f2 r).1 ∧ Off h h' c (c + 35)) := by
  have I := hc.2
  have r0 := I.r0
  have r3 := I.r3
  obtain ⟨o1, o2, o3, o4⟩ := ok
  have eT : (iN kd).toInt = kd := iN_T (by omega)
  have Poi : kd = 120 → AW mX8_carryOut 6 0 0 158 [.ref c, .ref a] [] h (qZ (fun v h' => v = decide ((exC kd f1 f2 r).2 = 0) ∧ cmp h' c (exC kd f1 f2 r).1 ∧ Off h h' c (c + 35))) := by
    intro q
    have e : exC kd f1 f2 r = (up r 9 (1 - r 9), 0) := by
      unfold exC
      rw [if_neg (by omega), if_neg (by omega), if_neg (by omega), if_neg (by omega), if_neg (by omega)]
    rw [e]
    obtain ⟨⟨N, X, hX, hA⟩, -⟩ := hc
    have n2 : N 2 = r 9 := hA.1.2.2.1
    refine b_X8_carryOut_158 (hX.n2.ev n2) hX.n2 (rZ1 ⟨rfl, ⟨?_, I.set9 (by have := I.r9; omega)⟩, (Off.ofs (a := c)).up c (c + 35)⟩)
    show camp _ c (up r 9 (1 - r 9) 8) (up r 9 (1 - r 9) 5) (up r 9 (1 - r 9))
    rw [up_ne _ _ (show (8 : Nat) ≠ 9 by omega), up_ne _ _ (show (5 : Nat) ≠ 9 by omega)]
    refine ⟨up N 2 (1 - r 9), X, hX.setn 2 _, ?_⟩
    obtain ⟨⟨a0, a1, a2, a3, a4, a5, a6, a7, a8, a9, a10⟩, b0, b1, b2, b3, b4⟩ := hA
    have eA : allP (up r 9 (1 - r 9)) = allP r := by
      unfold allP useP sparP nF nS
      rw [up_ne _ _ (show (1 : Nat) ≠ 9 by omega), up_ne _ _ (show (2 : Nat) ≠ 9 by omega)]
      congr 1
      · exact sm_congr (fun f hf => up_ne _ _ (by omega))
      · exact sm_congr (fun f hf => up_ne _ _ (by omega))
    have U : ∀ c, c ≠ 9 → up r 9 (1 - r 9) c = r c := fun c hc => up_ne _ _ hc
    have V : ∀ j, j ≠ 2 → up N 2 (1 - r 9) j = N j := fun j hj => up_ne _ _ hj
    unfold Agr
    rw [eA, U 7 (by omega), U 6 (by omega), U 4 (by omega), U 0 (by omega), U 3 (by omega), U 1 (by omega), U 2 (by omega), V 0 (by omega), V 1 (by omega), V 3 (by omega), V 4 (by omega), V 5 (by omega), V 6 (by omega), V 7 (by omega), V 8 (by omega), V 9 (by omega), V 10 (by omega), up_same, up_same]
    refine ⟨⟨a0, a1, rfl, a3, a4, a5, a6, a7, a8, a9, a10⟩, fun j hj => ?_, fun t ht => ?_, fun i hi => ?_, fun f hf => ?_, fun i hi => ?_⟩
    · rw [U _ (by omega)]; exact b0 j hj
    · rw [U _ (by omega), U _ (by omega), U _ (by omega), U _ (by omega)]; exact b1 t ht
    · rw [U _ (by omega), U _ (by omega)]; exact b2 i hi
    · rw [U _ (by omega), U _ (by omega), U _ (by omega), U _ (by omega)]; exact b3 f hf
    · rw [U _ (by omega), U _ (by omega)]; exact b4 i hi
  refine en_X8_carryOut (b_X8_carryOut_0 ht.n4 (fun q => ?_) (fun q => ?_) (fun q => by omega) (fun q => by omega) (fun q => by omega) (fun q => ?_) (fun q => by omega) (fun q => ?_) (fun q => by omega) (fun q => by omega) (fun q => by omega) (fun q => ?_) (fun q => Poi (by omega)))
  · -- enter
    have ek : kd = 101 := by omega
    have e : exC kd f1 f2 r = if r 3 < 8 then (enterIn r, 0) else (r, 1) := by
      unfold exC
      rw [if_neg (by omega), if_neg (by omega), if_pos ek]
    rw [e]
    refine b_X8_carryOut_90 hc.o (w_goIn hc) (fun v h1 hv => ?_)
    obtain ⟨rfl, k1, k2⟩ := hv
    unfold inR at k1
    unfold inV
    by_cases w : r 3 < 8
    · rw [if_pos w] at k1 ⊢
      rw [if_pos w]
      exact b_X8_carryOut_94 (fun y => by have := (iN_eq (by omega)).mp y; omega) (fun _ => b_X8_carryOut_98 (rZ1 ⟨rfl, k1, k2⟩))
    · rw [if_neg w] at k1 ⊢
      rw [if_neg w]
      exact b_X8_carryOut_94 (fun _ => b_X8_carryOut_102 (rZ0 ⟨rfl, k1, k2⟩)) (fun y => absurd rfl y)
  · -- fill
    have ek : kd = 102 := by omega
    have oo := o3 ek
    have e : exC kd f1 f2 r = if 0 ≤ f1 ∧ f1 < r 0 then (fillIn r f1.toNat f2, 0) else (r, 1) := by
      unfold exC
      rw [if_neg (by omega), if_pos ek]
    rw [e]
    refine b_X8_carryOut_136 ht.n5 ht.n6 hc.o (w_strew hc (by omega) (by omega)) (fun v h1 hv => ?_)
    obtain ⟨rfl, k1, k2⟩ := hv
    unfold filR at k1
    unfold filV
    by_cases w : 0 ≤ f1 ∧ f1 < r 0
    · rw [if_pos w] at k1 ⊢
      rw [if_pos w]
      have fv := fillV_rg I (t := f1.toNat) (by omega)
      exact b_X8_carryOut_148 (fun y => by have := (iN_eq (by omega)).mp y; omega) (fun _ => b_X8_carryOut_152 (rZ1 ⟨rfl, k1, k2⟩))
    · rw [if_neg w] at k1 ⊢
      rw [if_neg w]
      exact b_X8_carryOut_148 (fun _ => b_X8_carryOut_156 (rZ0 ⟨rfl, k1, k2⟩)) (fun y => absurd rfl y)
  · -- jump
    have ek : kd = 106 := by omega
    have oo := o4 ek
    have e : exC kd f1 f2 r = if 0 ≤ f1 ∧ f1 < r 3 then (jumpIn r f1.toNat, 0) else (r, 1) := by
      unfold exC
      rw [if_neg (by omega), if_neg (by omega), if_neg (by omega), if_neg (by omega), if_pos ek]
    rw [e]
    refine b_X8_carryOut_118 ht.n5 hc.o (w_goBack hc (by omega)) (fun v h1 hv => ?_)
    obtain ⟨rfl, k1, k2⟩ := hv
    unfold bakR at k1
    unfold bakV
    by_cases w : 0 ≤ f1 ∧ f1 < r 3
    · rw [if_pos w] at k1 ⊢
      rw [if_pos w]
      have fv := strV_rg I (i := f1.toNat) (by omega)
      exact b_X8_carryOut_126 (fun y => by have := (iN_eq (by omega)).mp y; omega) (fun _ => b_X8_carryOut_130 (rZ1 ⟨rfl, k1, k2⟩))
    · rw [if_neg w] at k1 ⊢
      rw [if_neg w]
      exact b_X8_carryOut_126 (fun _ => b_X8_carryOut_134 (rZ0 ⟨rfl, k1, k2⟩)) (fun y => absurd rfl y)
  · -- leave
    have ek : kd = 108 := by omega
    have e : exC kd f1 f2 r = if 0 < r 3 then (leaveIn r, 0) else (r, 1) := by
      unfold exC
      rw [if_neg (by omega), if_neg (by omega), if_neg (by omega), if_pos ek]
    rw [e]
    refine b_X8_carryOut_104 hc.o (w_goOut hc) (fun v h1 hv => ?_)
    obtain ⟨rfl, k1, k2⟩ := hv
    unfold outR at k1
    unfold outV
    by_cases w : 0 < r 3
    · rw [if_pos w] at k1 ⊢
      rw [if_pos w]
      have fv := strV_rg I (i := nR r - 1) (by unfold nR; omega)
      exact b_X8_carryOut_108 (fun y => by have := (iN_eq (by omega)).mp y; omega) (fun _ => b_X8_carryOut_112 (rZ1 ⟨rfl, k1, k2⟩))
    · rw [if_neg w] at k1 ⊢
      rw [if_neg w]
      exact b_X8_carryOut_108 (fun _ => b_X8_carryOut_116 (rZ0 ⟨rfl, k1, k2⟩)) (fun y => absurd rfl y)
  · -- pitch
    have ek : kd = 112 := by omega
    have oo := o2 ek
    have e : exC kd f1 f2 r = if r 0 < 24 ∧ whereIn r f1 f2 ≠ 3 then (pitchIn r f1 f2, 0) else (r, 1) := by
      unfold exC
      rw [if_pos ek]
    rw [e]
    refine b_X8_carryOut_68 ht.n5 ht.n6 hc.o (w_putUp hc oo.1 (isStp_T oo.2)) (fun v h1 hv => ?_)
    obtain ⟨rfl, k1, k2⟩ := hv
    unfold puR at k1
    unfold puV
    by_cases w : r 0 < 24 ∧ whereIn r f1 f2 ≠ 3
    · rw [if_pos w] at k1 ⊢
      rw [if_pos w]
      exact b_X8_carryOut_80 (fun y => by have := (iN_eq (by omega)).mp y; omega) (fun _ => b_X8_carryOut_84 (rZ1 ⟨rfl, k1, k2⟩))
    · rw [if_neg w] at k1 ⊢
      rw [if_neg w]
      exact b_X8_carryOut_80 (fun _ => b_X8_carryOut_88 (rZ0 ⟨rfl, k1, k2⟩)) (fun y => absurd rfl y)
theorem exC_inv (hI : Inv r) {c a b : Int} (ok : okC c a b) : Inv (exC c a b r).1 := by
  obtain ⟨o1, o2, o3, o4⟩ := ok
  have r9 := hI.r9
  unfold exC
  split
  · rename_i q
    have := o2 q
    split
    · rename_i w; exact hI.pitch w.1 this.1 (isStp_T this.2) w.2
    · exact hI
  · split
    · rename_i q
      have := o3 q
      split
      · exact hI.fill (by omega)
      · exact hI
    · split
      · split
        · rename_i w; exact hI.enter w
        · exact hI
      · split
        · split
          · rename_i w; exact hI.leave w
          · exact hI
        · split
          · split
            · rename_i w; exact hI.jump (by omega)
            · exact hI
          · exact hI.set9 (by omega)
/-- the loop of load -/
theorem s_loadL {x n : Nat} {mc ms : Nat} {Q : AR → AH → Prop} (hx : tco h x) (hn : n ≤ 100) (hs : ∀ k, k < n → 0 ≤ s k ∧ s k ≤ 255) {p0 : Nat} {r0 : Nat → Int} (hc : cmp h (x + 1) r0) (ht : txt h (x + 564) n p0 (bI false) kd f1 f2 s) (hp0 : p0 ≤ 900) {T : Nat × Bool × (Nat → Int) × Int} (hT : rdX s n 100 p0 false r0 0 = T) (hg : T.2.1 = false)
    (hQ : ∀ h', (∃ p' w' kd' f1' f2', txt h' (x + 564) n p' w' kd' f1' f2' s) → cmp h' (x + 1) T.2.2.1 → Kp2 h h' x → Q (.inl (some (.int (iN T.2.2.2)))) h') :
    AW mX8_load 7 mc ms 70 [.ref x, .int (iN 0), .int (iN 0)] [] h Q := by
  have H : ∀ (k i : Nat) (h2 : AH) (p2 : Nat) (r2 : Nat → Int) (l : Int) (kd f1 f2 : Int), i + k = 100 → cmp h2 (x + 1) r2 → txt h2 (x + 564) n p2 (bI false) kd f1 f2 s → Kp2 h h2 x → p2 ≤ 900 → T = rdX s n k p2 false r2 l → AW mX8_load 7 mc ms 70 [.ref x, .int (iN l), .int (iN (i : Int))] [] h2 Q := by
    intro k
    induction k with
    | zero =>
      intro i h2 p2 r2 l kd f1 f2 hi hc2 t2 o2 hp2 e
      refine b_X8_load_70 (fun _ => ?_) (fun q => absurd ((iN_le (by omega)).mpr (by omega)) q)
      have := hQ h2 ⟨_, _, _, _, _, t2⟩ (by rw [e]; exact hc2) o2
      rw [e] at this
      exact b_X8_load_116 this
    | succ k ih =>
      intro i h2 p2 r2 l kd f1 f2 hi hc2 t2 o2 hp2 e
      have hx2 : tco h2 x := (o2.2 x (by omega) (by omega)).trans hx
      refine b_X8_load_70 (fun q => by have := (iN_le (by omega)).mp q; omega) (fun _ => ?_)
      refine b_X8_load_76 hx2.f3 t2.o (s_goesOn t2 hn (by omega)) (fun v h3 hv => ?_)
      obtain ⟨rfl, rfl⟩ := hv
      rw [rdX_s] at e
      by_cases q : p2 < n
      · rw [if_pos ⟨rfl, q⟩] at e
        rw [show (!false && decide (p2 < n)) = true by rw [decide_eq_true q]; rfl]
        have hw : (cB s n p2 (s p2)).2.2 = false := by
          cases z : (cB s n p2 (s p2)).2.2
          · rfl
          · rw [if_pos z] at e
            rw [e] at hg
            exact tnf hg
        rw [if_neg (by rw [hw]; decide)] at e
        refine b_X8_load_83 (fun y => absurd y (by decide)) (fun _ => ?_)
        refine b_X8_load_86 hx2.f3 t2.o (s_readCommand t2 hn q hs) (fun h4 hv => ?_)
        obtain ⟨f1', f2', t4, g1, g2, o4⟩ := hv
        rw [hw] at t4
        have cr := cmd_rg s n p2 (s p2) hw
        have hx4 := hx2.off o4
        have hc4 := hc2.off o4
        have eC : exC (s p2) f1' f2' r2 = exC (s p2) (cA s n p2 (s p2)).1 (cB s n p2 (s p2)).1 r2 := by
          unfold exC
          by_cases z1 : s p2 = 112
          · rw [g1 (by omega), g2 (by omega)]
          · rw [if_neg z1, if_neg z1]
            by_cases z2 : s p2 = 102
            · rw [g1 (by omega), g2 (by omega)]
            · rw [if_neg z2, if_neg z2]
              by_cases z3 : s p2 = 106
              · rw [g1 (by omega)]
              · rw [if_neg z3, if_neg z3]
        have ok : okC (s p2) f1' f2' := by
          refine ⟨cr.1, fun z => ?_, fun z => ?_, fun z => ?_⟩
          · rw [g1 (by omega), g2 (by omega)]; exact cr.2.1 z
          · rw [g1 (by omega), g2 (by omega)]; exact cr.2.2.1 z
          · rw [g1 (by omega)]; exact cr.2.2.2 z
        refine b_X8_load_93 hx4.f0 hx4.f3 (s_carryOut hc4 t4 ok) (fun v h5 hv => ?_)
        obtain ⟨rfl, hc5, o5⟩ := hv
        have t5 := t4.off o5
        rw [eC] at hc5 ⊢
        have o6 : Kp2 h h5 x := o2.tr2 o4 o5
        have rb := cB_rg s n p2 (s p2)
        have E := exC_rg (s p2) (cA s n p2 (s p2)).1 (cB s n p2 (s p2)).1 r2
        rcases E with z | z
        · rw [z] at e ⊢
          rw [Int.add_zero] at e
          refine b_X8_load_104 (fun _ => ?_) (fun y => absurd y (by decide))
          refine b_X8_load_110 ?_
          rw [show (i : Int) + 1 = ((i + 1 : Nat) : Int) by omega]
          exact ih (i + 1) _ _ _ _ _ _ _ (by omega) hc5 t5 o6 (by omega) e
        · rw [z] at e ⊢
          refine b_X8_load_104 (fun y => absurd rfl y) (fun _ => ?_)
          refine b_X8_load_107 ?_
          rw [show (i : Int) + 1 = ((i + 1 : Nat) : Int) by omega]
          exact ih (i + 1) _ _ _ _ _ _ _ (by omega) hc5 t5 o6 (by omega) e
      · rw [if_neg (fun z => q z.2)] at e
        rw [show (!false && decide (p2 < n)) = false by rw [decide_eq_false q]; rfl]
        refine b_X8_load_83 (fun _ => ?_) (fun y => absurd rfl y)
        have := hQ h3 ⟨_, _, _, _, _, t2⟩ (by rw [e]; exact hc2) o2
        rw [e] at this
        exact b_X8_load_116 this
  exact H 100 0 h p0 r0 0 kd f1 f2 (by omega) hc ht (Kp2.rf h x) hp0 hT.symm
end EXE
