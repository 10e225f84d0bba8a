/-! poison on a field -/
section REFJ
variable {h : AH} {m : Nat} {r : Nat → Int} {rf sz sp gd lf ac : Int}
theorem s_poisonOn (hm : mob h m rf sz sp gd lf ac) (hn : ari h (m + 3) 690 r) (hI : Inv r) {f : Nat} (hf : f < nF r) : CtI mX9_poisonOn 1 0 0 [.ref m, .int (iN f)] h (fun v h' => v = cnt r 100 (434 + (r (109 + 4 * f)).toNat) (r (106 + 4 * f)).toNat ∧ h' = h) := by
  have h1 := hI.1.k.1
  have hfi := hI.1.f hf
  have hap := hI.ap
  have f51 : f < 51 := by unfold nF at hf; omega
  refine en_X9_poisonOn (b_X9_poisonOn_0 ?_)
  have H : ∀ (q i : Nat), i + q = (r (106 + 4 * f)).toNat → AW mX9_poisonOn 1 0 0 4 [.ref m, .int (iN f), .int (iN (cnt r 100 (434 + (r (109 + 4 * f)).toNat) i)), .int (iN (i : Int))] [] h (qI (fun v h' => v = cnt r 100 (434 + (r (109 + 4 * f)).toNat) (r (106 + 4 * f)).toNat ∧ h' = h)) := by
    intro q
    induction q with
    | zero =>
      intro i hi
      refine b_X9_poisonOn_4 hm.r7 s_fieldAt (fun v h' hv => ?_)
      obtain ⟨rfl, rfl⟩ := hv
      refine b_X9_poisonOn_14 (hn.g (106 + 4 * f)) (fun _ => ?_) (fun w => absurd ((iN_le (by omega)).mpr (by omega)) w)
      exact b_X9_poisonOn_58 (rI ⟨by rw [show (r (106 + 4 * f)).toNat = i by omega], rfl⟩)
    | succ q ih =>
      intro i hi
      have e : ((i : Int) + 1) = ((i + 1 : Nat) : Int) := by omega
      have vv := hI.2.2.1 ((r (109 + 4 * f)).toNat + i) (by omega)
      rw [← Nat.add_assoc] at vv
      have hk := ih (i + 1) (by omega)
      simp only [cnt] at hk
      refine b_X9_poisonOn_4 hm.r7 s_fieldAt (fun v h' hv => ?_)
      obtain ⟨rfl, rfl⟩ := hv
      refine b_X9_poisonOn_14 (hn.g (106 + 4 * f)) (fun w => ?_) (fun _ => ?_)
      · have := (iN_le (by omega)).mp w; omega
      refine b_X9_poisonOn_18 hm.r7 hm.r7 s_fieldAt (fun v h' hv => ?_)
      obtain ⟨rfl, rfl⟩ := hv
      refine b_X9_poisonOn_35 (hn.g (109 + 4 * f)) (hn.g (434 + (r (109 + 4 * f)).toNat + i)) (fun w => ?_) (fun w => ?_)
      · refine b_X9_poisonOn_49 ?_
        rw [if_neg (fun z => w (by rw [z]))] at hk
        rw [e]; exact hk
      · refine b_X9_poisonOn_45 ?_
        rw [if_pos ((iN_eq (by omega)).mp w)] at hk
        rw [e]; exact hk
  exact H _ 0 (Nat.zero_add _)
end REFJ
