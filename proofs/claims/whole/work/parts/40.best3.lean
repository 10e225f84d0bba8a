/-! the class's best usual size -/
/-- the class's object: camp, trial, history, text, slots, slotFilled -/
def tco (h : AH) (x : Nat) : Prop := h[x]? = some (8, [.ref (x + 1), .ref (x + 36), .ref (x + 71), .ref (x + 564), .ref (x + 567), .ref (x + 639)])
section BEST3
variable {h h' : AH} {x lo hi : Nat} {r : Nat → Int}
theorem tco.o (ht : tco h x) : isO h x 8 := ⟨_, ht⟩
theorem tco.f0 (ht : tco h x) : fld h x 8 0 (.ref (x + 1)) := ⟨_, ht, rfl⟩
theorem tco.f1 (ht : tco h x) : fld h x 8 1 (.ref (x + 36)) := ⟨_, ht, rfl⟩
theorem tco.f2 (ht : tco h x) : fld h x 8 2 (.ref (x + 71)) := ⟨_, ht, rfl⟩
theorem tco.f3 (ht : tco h x) : fld h x 8 3 (.ref (x + 564)) := ⟨_, ht, rfl⟩
theorem tco.f4 (ht : tco h x) : fld h x 8 4 (.ref (x + 567)) := ⟨_, ht, rfl⟩
theorem tco.f5 (ht : tco h x) : fld h x 8 5 (.ref (x + 639)) := ⟨_, ht, rfl⟩
theorem tco.off (ht : tco h x) (ho : Off h h' lo hi) (hd : x < lo ∨ hi ≤ x := by omega) : tco h' x := (ho.2 x (by omega)).trans ht
theorem s_cbestSize (ht : tco h x) (hc : camp h (x + 1) (r 8) (r 5) r) {Nt : Nat → Int} {Xt : Nat → Nat → Int} (hq : campX h (x + 36) Nt Xt) (hI : Inv r) :
    CtI mX8_bestSize 6 0 0 [.ref x] h (fun v h' => v = (bst r 57).1 ∧ (∃ N X, campX h' (x + 36) N X) ∧ Off h h' (x + 36) (x + 71)) := by
  have h0 := hI.2.1.1
  have n0 : r 0 = (nT r : Int) := by unfold nT; omega
  obtain ⟨N, X, hc, ha⟩ := hc
  have hT := hc.tt ha h0.1
  refine en_X8_bestSize (b_X8_bestSize_0 ?_)
  have H : ∀ (q k : Nat) (h1 : AH), k + q = 57 → (∃ N X, campX h1 (x + 36) N X) → Off h h1 (x + 36) (x + 71) → AW mX8_bestSize 6 0 0 9 [.ref x, .int (iN (bst r k).1), .int (iN (bst r k).2), .int (iN (8 + (k : Int)))] [] h1 (qI (fun v h' => v = (bst r 57).1 ∧ (∃ N X, campX h' (x + 36) N X) ∧ Off h h' (x + 36) (x + 71))) := by
    intro q
    induction q with
    | zero =>
      intro k h1 hk ht o1
      refine b_X8_bestSize_9 (fun _ => ?_) (fun w => absurd ((iN_lt (by omega)).mpr (by omega)) w)
      obtain rfl : k = 57 := by omega
      exact b_X8_bestSize_69 (rI ⟨rfl, ht, o1⟩)
    | succ q ih =>
      intro k h1 hk hx o1
      obtain ⟨N9, X9, hx⟩ := hx
      have hb := bst_rg hI k (by omega)
      have hu := (pU_inv hI (u := 8 + (k : Int)) (by omega)).ap
      have ht1 := ht.off o1
      have hc1 := hc.off o1
      refine b_X8_bestSize_9 (fun w => ?_) (fun _ => ?_)
      · have := (iN_lt (by omega)).mp w; omega
      refine b_X8_bestSize_15 ht1.f1 hx.o (s_beginAnew hx (8 + (k : Int)) 32 0) (fun h2 hv => ?_)
      obtain ⟨⟨N2, X2, hx2, ha2⟩, o2⟩ := hv
      have ht2 := ht1.off o2
      have hc2 := hc1.off o2
      have hT2 := (hT.off o1).off o2
      have hcl : camp h2 (x + 36) 32 (clean (8 + (k : Int)) 0 5) (clean (8 + (k : Int)) 0) := ⟨N2, X2, hx2, ha2⟩
      have eP : pA (X 3) (X 4) (nT r) 0 (clean (8 + (k : Int)) 0) = pU r (8 + (k : Int)) := pA_cg _ _ _ (fun j hj => by
        have := ha.2.2.1 j (by omega)
        exact ⟨this.2.2.1, this.2.2.2⟩)
      have S := s_putUpAll hcl (InvClean (u := 8 + (k : Int)) (k := 0) (by omega) (by omega)) hT2 (by omega) (by omega) (fun t q => by
        have := ha.2.2.1 t (by omega)
        rw [this.2.2.1, this.2.2.2]
        have := hI.2.1.2 t q
        exact ⟨this.2.2.1, this.2.2.2.2⟩)
      rw [eP] at S
      refine b_X8_bestSize_25 ht2.f1 ht2.f0 hc2.rt hx2.o S (fun v h3 hv => ?_)
      obtain ⟨rfl, ⟨N3, X3, hx3, ha3⟩, o3⟩ := hv
      have oo : Off h h3 (x + 36) (x + 71) := (o1.tr o2 (x + 36) (x + 71)).tr o3 (x + 36) (x + 71)
      have ht3 := ht2.off o3
      have e : (8 + (k : Int) + 1) = 8 + ((k + 1 : Nat) : Int) := by omega
      have nx := ih (k + 1) h3 (by omega) ⟨N3, X3, hx3⟩ oo
      have eb : bst r (k + 1) = if (pU r (8 + (k : Int))).1 = true ∧ allP (pU r (8 + (k : Int))).2 < (bst r k).2 then (8 + (k : Int), allP (pU r (8 + (k : Int))).2) else bst r k := rfl
      rw [eb] at nx
      have n6 := ha3.nums.2.2.2.2.2.2.1
      cases hp : (pU r (8 + (k : Int))).1
      · rw [hp, if_neg (by simp)] at nx
        refine b_X8_bestSize_39 (fun _ => ?_) (fun w => absurd rfl w)
        refine b_X8_bestSize_63 ?_
        rw [e]; exact nx
      · rw [hp] at nx
        simp only [true_and] at nx
        refine b_X8_bestSize_39 (fun w => absurd w (by decide)) (fun _ => ?_)
        refine b_X8_bestSize_42 ht3.f1 (hx3.n6.ev n6) (fun w => ?_) (fun w => ?_)
        · have := (iN_le (by omega)).mp w
          rw [if_neg (by omega)] at nx
          refine b_X8_bestSize_63 ?_
          rw [e]; exact nx
        · have lt : allP (pU r (8 + (k : Int))).2 < (bst r k).2 := by
            rcases Int.lt_or_le (allP (pU r (8 + (k : Int))).2) (bst r k).2 with y | y
            · exact y
            · exact absurd ((iN_le (by omega)).mpr (by omega)) w
          rw [if_pos lt] at nx
          refine b_X8_bestSize_53 ht3.f1 (hx3.n6.ev n6) ?_
          rw [e]; exact nx
  exact H 57 0 h rfl ⟨Nt, Xt, hq⟩ Off.rf
end BEST3
