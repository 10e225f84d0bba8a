/-! fields, tents, frames: changes and the rest -/
theorem Off.eqw {h h1 : AH} {q n : Nat} {f : Nat → Int} (e : h1 = wr h q n f) (LO HI : Nat) (hq : LO ≤ q ∧ q < HI := by omega) : Off h h1 LO HI := by
  rw [e]; exact Off.at LO HI
section FT2
variable {h h' : AH} {a lo hi : Nat} {c : Int} {s z b e f p t : Nat → Int}
/-- the starts behind x go back by k -/
def clo (s : Nat → Int) (x k : Int) (n : Nat) : Nat → Int := fun j => if j < n ∧ x < s j then s j - k else s j
theorem s_add (n : Nat) (hf : fields h a n s z b e) (hn : n < 51) {st sz en : Int} {bg : Bool} : CtV mX1_add 1 0 0 [.ref a, .int (iN st), .int (iN sz), .int (iN (bI bg)), .int (iN en)] h (fun h' => fields h' a ((n : Int) + 1) (up s n st) (up z n sz) (up b n (bI bg)) (up e n en) ∧ Off h h' a (a + 9)) := by
  refine en_X1_add (b_X1_add_0 hf.n0 (fun w => ?_) (fun _ => ?_))
  · have := (iN_le (by omega)).mp w; omega
  refine b_X1_add_9 hf.f1 hf.n0 hf.2.1.o (s_put hf.2.1 (by omega) (by omega)) (fun h1 e1 => ?_)
  rw [Int.toNat_natCast] at e1
  have hf1 : fields h1 a n (up s n st) z b e := by rw [e1]; exact hf.w1 _
  have o1 := Off.eqw e1 a (a + 9)
  refine b_X1_add_21 hf1.f2 hf1.n0 hf1.2.2.1.o (s_put hf1.2.2.1 (by omega) (by omega)) (fun h2 e2 => ?_)
  rw [Int.toNat_natCast] at e2
  have hf2 : fields h2 a n (up s n st) (up z n sz) b e := by rw [e2]; exact hf1.w2 _
  have o2 := Off.eqw e2 a (a + 9)
  have K : ∀ h3, h3 = wr h2 (a + 5 + 1) 51 (up b n (bI bg)) → AW mX1_add 1 0 0 53 [.ref a, .int (iN st), .int (iN sz), .int (iN (bI bg)), .int (iN en)] [] h3 (qV (fun h' => fields h' a ((n : Int) + 1) (up s n st) (up z n sz) (up b n (bI bg)) (up e n en) ∧ Off h h' a (a + 9))) := by
    intro h3 e3
    have hf3 : fields h3 a n (up s n st) (up z n sz) (up b n (bI bg)) e := by rw [e3]; exact hf2.w3 _
    have o3 := Off.eqw e3 a (a + 9)
    refine b_X1_add_53 hf3.f4 hf3.n0 hf3.2.2.2.2.o (s_put hf3.2.2.2.2 (by omega) (by omega)) (fun h4 e4 => ?_)
    rw [Int.toNat_natCast] at e4
    have hf4 : fields h4 a n (up s n st) (up z n sz) (up b n (bI bg)) (up e n en) := by rw [e4]; exact hf3.w4 _
    have o4 := Off.eqw e4 a (a + 9)
    refine b_X1_add_66 hf4.n0 hf4.n0 (rV ⟨hf4.setc _, ?_⟩)
    exact (((o1.tr o2 a (a + 9)).tr o3 a (a + 9)).tr o4 a (a + 9)).tr Off.ofs a (a + 9)
  refine b_X1_add_33 hf2.f3 hf2.n0 (fun w => ?_) (fun w => ?_)
  · have hb : bI bg = 0 := (iN_eq (by unfold bI; split <;> omega)).mp w
    refine b_X1_add_49 hf2.2.2.2.1.o (s_put hf2.2.2.2.1 (by omega) (by omega)) (fun h3 e3 => K h3 ?_)
    rw [e3, Int.toNat_natCast, hb]
  · have hb : bI bg = 1 := by
      unfold bI at w ⊢
      split
      · rfl
      · rename_i q; rw [if_neg q] at w; exact absurd rfl w
    refine b_X1_add_45 hf2.2.2.2.1.o (s_put hf2.2.2.2.1 (by omega) (by omega)) (fun h3 e3 => K h3 ?_)
    rw [e3, Int.toNat_natCast, hb]
theorem s_remove (n x : Nat) (hf : fields h a n s z b e) (hn : n ≤ 51) (hx : x < n) : CtV mX1_remove 2 0 0 [.ref a, .int (iN x)] h (fun h' => fields h' a ((n : Int) - 1) (cutf s x 1 51) (cutf z x 1 51) (cutf b x 1 51) (cutf e x 1 51) ∧ Off h h' a (a + 9)) := by
  refine en_X1_remove (b_X1_remove_0 hf.o (s_fhas hf (by omega) (by omega)) (fun v h1 hv => ?_))
  obtain ⟨rfl, rfl⟩ := hv
  refine b_X1_remove_5 (fun w => ?_) (fun _ => ?_)
  · rw [decide_eq_true (by omega)] at w
    exact absurd ((iN_eq (by unfold bI; simp)).mp w) (by simp [bI])
  refine b_X1_remove_8 hf.f1 hf.2.1.o (s_cut (n := 1) hf.2.1 (by omega) (by omega)) (fun h1 e1 => ?_)
  have hf1 : fields h1 a n (cutf s x 1 51) z b e := by rw [e1]; exact hf.w1 _
  have q1 := Off.eqw e1 a (a + 9)
  refine b_X1_remove_17 hf1.f2 hf1.2.2.1.o (s_cut (n := 1) hf1.2.2.1 (by omega) (by omega)) (fun h2 e2 => ?_)
  have hf2 : fields h2 a n (cutf s x 1 51) (cutf z x 1 51) b e := by rw [e2]; exact hf1.w2 _
  have q2 := Off.eqw e2 a (a + 9)
  refine b_X1_remove_26 hf2.f3 hf2.2.2.2.1.o (s_cut (n := 1) hf2.2.2.2.1 (by omega) (by omega)) (fun h3 e3 => ?_)
  have hf3 : fields h3 a n (cutf s x 1 51) (cutf z x 1 51) (cutf b x 1 51) e := by rw [e3]; exact hf2.w3 _
  have q3 := Off.eqw e3 a (a + 9)
  refine b_X1_remove_35 hf3.f4 hf3.2.2.2.2.o (s_cut (n := 1) hf3.2.2.2.2 (by omega) (by omega)) (fun h4 e4 => ?_)
  have hf4 : fields h4 a n (cutf s x 1 51) (cutf z x 1 51) (cutf b x 1 51) (cutf e x 1 51) := by rw [e4]; exact hf3.w4 _
  have q4 := Off.eqw e4 a (a + 9)
  refine b_X1_remove_44 hf4.n0 hf4.n0 (rV ⟨hf4.setc _, ?_⟩)
  exact (((q1.tr q2 a (a + 9)).tr q3 a (a + 9)).tr q4 a (a + 9)).tr Off.ofs a (a + 9)
theorem s_closeUp (n : Nat) (hf : fields h a n s z b e) (hn : n ≤ 51) (hs : ∀ k, k < n → 0 ≤ s k ∧ s k ≤ 1000) {x k9 : Int} (hx : 0 ≤ x ∧ x ≤ 1000) : CtV mX1_closeUp 1 0 0 [.ref a, .int (iN x), .int (iN k9)] h (fun h' => fields h' a n (clo s x k9 n) z b e ∧ Off h h' a (a + 9)) := by
  refine en_X1_closeUp (b_X1_closeUp_0 ?_)
  have H : ∀ (k i : Nat) (h1 : AH), i + k = n → fields h1 a n (clo s x k9 i) z b e → Off h h1 a (a + 9) → AW mX1_closeUp 1 0 0 2 [.ref a, .int (iN x), .int (iN k9), .int (iN (i : Int))] [] h1 (qV (fun h' => fields h' a n (clo s x k9 n) z b e ∧ Off h h' a (a + 9))) := by
    intro k
    induction k with
    | zero =>
      intro i h1 hi hf ho
      refine b_X1_closeUp_2 hf.n0 (fun _ => ?_) (fun w => absurd ((iN_le (by omega)).mpr (by omega)) w)
      rw [show n = i by omega] at hf ⊢
      exact b_X1_closeUp_46 (rV ⟨hf, ho⟩)
    | succ k ih =>
      intro i h1 hi hf ho
      have hs1 := hs i (by omega)
      have e : ((i : Int) + 1) = ((i + 1 : Nat) : Int) := by omega
      have ei : clo s x k9 i i = s i := by unfold clo; rw [if_neg (by omega)]
      refine b_X1_closeUp_2 hf.n0 (fun w => ?_) (fun _ => ?_)
      · have := (iN_le (by omega)).mp w; omega
      refine b_X1_closeUp_10 hf.f1 hf.2.1.o (s_get hf.2.1 (z := (i : Int)) (by omega) (by omega)) (fun v h' hv => ?_)
      obtain ⟨rfl, rfl⟩ := hv
      rw [Int.toNat_natCast, ei]
      refine b_X1_closeUp_18 (fun w => ?_) (fun w => ?_)
      · have := (iN_le (by omega)).mp w
        refine b_X1_closeUp_40 ?_
        rw [e]
        have ef : clo s x k9 (i + 1) = clo s x k9 i := by
          funext j
          unfold clo
          by_cases hj : j = i
          · subst hj; rw [if_neg (by omega), if_neg (by omega)]
          · by_cases hj2 : j < i ∧ x < s j
            · rw [if_pos hj2, if_pos (by omega)]
            · rw [if_neg hj2, if_neg (by omega)]
        exact ih (i + 1) _ (by omega) (by rw [ef]; exact hf) ho
      · have hlt : x < s i := by
          rcases Int.lt_or_le x (s i) with q | q
          · exact q
          · exact absurd ((iN_le (by omega)).mpr q) w
        refine b_X1_closeUp_22 hf.f1 hf.f1 hf.2.1.o (s_get hf.2.1 (z := (i : Int)) (by omega) (by omega)) (fun v h' hv => ?_)
        obtain ⟨rfl, rfl⟩ := hv
        rw [Int.toNat_natCast, ei]
        refine b_X1_closeUp_35 hf.2.1.o (s_put hf.2.1 (by omega) (by omega)) (fun h2 e2 => ?_)
        rw [Int.toNat_natCast] at e2
        refine b_X1_closeUp_40 ?_
        rw [e]
        have ef : up (clo s x k9 i) i (s i - k9) = clo s x k9 (i + 1) := by
          funext j
          unfold up clo
          by_cases hj : j = i
          · subst hj; rw [if_pos rfl, if_pos (by omega)]
          · rw [if_neg hj]
            by_cases hj2 : j < i ∧ x < s j
            · rw [if_pos hj2, if_pos (by omega)]
            · rw [if_neg hj2, if_neg (by omega)]
        refine ih (i + 1) h2 (by omega) (by rw [e2, ← ef]; exact hf.w1 _) (ho.tr (Off.eqw e2 a (a + 9)) a (a + 9))
  refine H n 0 h (by omega) ?_ Off.rf
  have ef : clo s x k9 0 = s := by funext j; unfold clo; rw [if_neg (by omega)]
  rw [ef]; exact hf
theorem s_fcopy {b9 : Nat} {n2 : Int} {s2 z2 b2 en2 : Nat → Int} (hf : fields h a c s z b e) (hg : fields h b9 n2 s2 z2 b2 en2) (hd : a + 9 ≤ b9 ∨ b9 + 9 ≤ a) : CtV mX1_copy 3 0 0 [.ref a, .ref b9] h (fun h' => fields h' a n2 s2 z2 b2 en2 ∧ Off h h' a (a + 9)) := by
  have o0 : Off h (stf h a 0 (.int (iN n2))) a (a + 9) := Off.ofs.up a (a + 9)
  have f0 := hf.setc n2
  have g0 := hg.off o0
  refine en_X1_copy (b_X1_copy_0 hg.n0 hf.n0 f0.f1 g0.f1 f0.2.1.o (s_rcopy f0.2.1 g0.2.1) (fun h1 e1 => ?_))
  have f1 : fields h1 a n2 s2 z b e := by rw [e1]; exact f0.w1 _
  have o1 := Off.eqw e1 a (a + 9)
  have g1 := g0.off o1
  refine b_X1_copy_19 f1.f2 g1.f2 f1.2.2.1.o (s_rcopy f1.2.2.1 g1.2.2.1) (fun h2 e2 => ?_)
  have f2 : fields h2 a n2 s2 z2 b e := by rw [e2]; exact f1.w2 _
  have o2 := Off.eqw e2 a (a + 9)
  have g2 := g1.off o2
  refine b_X1_copy_30 f2.f3 g2.f3 f2.2.2.2.1.o (s_rcopy f2.2.2.2.1 g2.2.2.2.1) (fun h3 e3 => ?_)
  have f3 : fields h3 a n2 s2 z2 b2 e := by rw [e3]; exact f2.w3 _
  have o3 := Off.eqw e3 a (a + 9)
  have g3 := g2.off o3
  refine b_X1_copy_41 f3.f4 g3.f4 f3.2.2.2.2.o (s_rcopy f3.2.2.2.2 g3.2.2.2.2) (fun h4 e4 => ?_)
  have o4 := Off.eqw e4 a (a + 9)
  refine b_X1_copy_52 (rV ⟨by rw [e4]; exact f3.w4 _, (((o0.tr o1 a (a + 9)).tr o2 a (a + 9)).tr o3 a (a + 9)).tr o4 a (a + 9)⟩)
theorem s_tcopy {b9 : Nat} {n2 : Int} {f2 p2 z2 s2 : Nat → Int} (hf : tents h a c f p z s) (hg : tents h b9 n2 f2 p2 z2 s2) (hd : a + 9 ≤ b9 ∨ b9 + 9 ≤ a) : CtV mX6_copy 3 0 0 [.ref a, .ref b9] h (fun h' => tents h' a n2 f2 p2 z2 s2 ∧ Off h h' a (a + 9)) := by
  have o0 : Off h (stf h a 0 (.int (iN n2))) a (a + 9) := Off.ofs.up a (a + 9)
  have k0 := hf.setc n2
  have g0 := hg.off o0
  refine en_X6_copy (b_X6_copy_0 hg.n0 hf.n0 k0.f1 g0.f1 k0.2.1.o (s_rcopy k0.2.1 g0.2.1) (fun h1 e1 => ?_))
  have k1 : tents h1 a n2 f2 p z s := by rw [e1]; exact k0.w1 _
  have o1 := Off.eqw e1 a (a + 9)
  have g1 := g0.off o1
  refine b_X6_copy_19 k1.f2 g1.f2 k1.2.2.1.o (s_rcopy k1.2.2.1 g1.2.2.1) (fun h2 e2 => ?_)
  have k2 : tents h2 a n2 f2 p2 z s := by rw [e2]; exact k1.w2 _
  have o2 := Off.eqw e2 a (a + 9)
  have g2 := g1.off o2
  refine b_X6_copy_30 k2.f3 g2.f3 k2.2.2.2.1.o (s_rcopy k2.2.2.2.1 g2.2.2.2.1) (fun h3 e3 => ?_)
  have k3 : tents h3 a n2 f2 p2 z2 s := by rw [e3]; exact k2.w3 _
  have o3 := Off.eqw e3 a (a + 9)
  have g3 := g2.off o3
  refine b_X6_copy_41 k3.f4 g3.f4 k3.2.2.2.2.o (s_rcopy k3.2.2.2.2 g3.2.2.2.2) (fun h4 e4 => ?_)
  have o4 := Off.eqw e4 a (a + 9)
  refine b_X6_copy_52 (rV ⟨by rw [e4]; exact k3.w4 _, (((o0.tr o1 a (a + 9)).tr o2 a (a + 9)).tr o3 a (a + 9)).tr o4 a (a + 9)⟩)
theorem s_frcopy {b9 : Nat} {n2 : Int} {t2 f2 : Nat → Int} (hf : frames h a c t f) (hg : frames h b9 n2 t2 f2) (hd : a + 5 ≤ b9 ∨ b9 + 5 ≤ a) : CtV mX2_copy 3 0 0 [.ref a, .ref b9] h (fun h' => frames h' a n2 t2 f2 ∧ Off h h' a (a + 5)) := by
  have o0 : Off h (stf h a 0 (.int (iN n2))) a (a + 5) := Off.ofs.up a (a + 5)
  have k0 := hf.setc n2
  have g0 := hg.off o0
  refine en_X2_copy (b_X2_copy_0 hg.n0 hf.n0 k0.f1 g0.f1 k0.2.1.o (s_rcopy k0.2.1 g0.2.1) (fun h1 e1 => ?_))
  have k1 : frames h1 a n2 t2 f := by rw [e1]; exact k0.w1 _
  have o1 := Off.eqw e1 a (a + 5)
  have g1 := g0.off o1
  refine b_X2_copy_19 k1.f2 g1.f2 k1.2.2.o (s_rcopy k1.2.2 g1.2.2) (fun h2 e2 => ?_)
  have o2 := Off.eqw e2 a (a + 5)
  refine b_X2_copy_30 (rV ⟨by rw [e2]; exact k1.w2 _, (o0.tr o1 a (a + 5)).tr o2 a (a + 5)⟩)
theorem s_end (hf : tents h a c f p z s) {x : Int} (hx : 0 ≤ x ∧ x < 24) : CtI mX6_end 1 0 0 [.ref a, .int (iN x)] h (fun v h' => v = p x.toNat + z x.toNat ∧ h' = h) := by
  refine en_X6_end (b_X6_end_0 hf.f2 hf.2.2.1.o (s_get hf.2.2.1 hx.1 (by omega)) (fun v h' hv => ?_))
  obtain ⟨rfl, rfl⟩ := hv
  refine b_X6_end_8 hf.f3 hf.2.2.2.1.o (s_get hf.2.2.2.1 hx.1 (by omega)) (fun v h' hv => ?_)
  obtain ⟨rfl, rfl⟩ := hv
  exact b_X6_end_16 (rI ⟨rfl, rfl⟩)
/-- the sum of the places m to n -/
def smf (z : Nat → Int) (m n : Nat) : Int := sm (fun k => z (m + k)) (n - m)
theorem s_placesFrom (n m : Nat) (hf : tents h a n f p z s) (hn : n ≤ 24) (hm : m ≤ 100000) : CtI mX6_placesFrom 1 0 0 [.ref a, .int (iN m)] h (fun r h' => r = smf z m n ∧ h' = h) := by
  refine en_X6_placesFrom (b_X6_placesFrom_0 ?_)
  have H : ∀ (k i : Nat), i + k = n - m → AW mX6_placesFrom 1 0 0 4 [.ref a, .int (iN m), .int (iN (sm (fun k => z (m + k)) i)), .int (iN ((m + i : Nat) : Int))] [] h (qI (fun r h' => r = smf z m n ∧ h' = h)) := by
    intro k
    induction k with
    | zero =>
      intro i hi
      refine b_X6_placesFrom_4 hf.n0 (fun _ => ?_) (fun w => absurd ((iN_le (by omega)).mpr (by omega)) w)
      exact b_X6_placesFrom_29 (rI ⟨by unfold smf; rw [show n - m = i by omega], rfl⟩)
    | succ k ih =>
      intro i hi
      refine b_X6_placesFrom_4 hf.n0 (fun w => ?_) (fun _ => ?_)
      · have := (iN_le (by omega)).mp w; omega
      refine b_X6_placesFrom_12 hf.f3 hf.2.2.2.1.o (s_get hf.2.2.2.1 (z := ((m + i : Nat) : Int)) (by omega) (by omega)) (fun v h' hv => ?_)
      obtain ⟨rfl, rfl⟩ := hv
      refine b_X6_placesFrom_21 ?_
      have e : (((m + i : Nat) : Int) + 1) = ((m + (i + 1) : Nat) : Int) := by omega
      rw [e, Int.toNat_natCast]
      exact ih (i + 1) (by omega)
  exact H (n - m) 0 (by omega)
theorem s_countOn (n : Nat) (hf : tents h a n f p z s) (hn : n ≤ 24) {x : Int} (hx : 0 ≤ x ∧ x ≤ 1000) (hb : ∀ k, k < n → 0 ≤ f k ∧ f k ≤ 1000) : CtI mX6_countOn 2 0 0 [.ref a, .int (iN x)] h (fun r h' => r = cnt f x 0 n ∧ h' = h) := by
  refine en_X6_countOn (b_X6_countOn_0 hf.f1 hf.n0 hf.2.1.o (s_countOf (p := 0) (q := n) hf.2.1 (by omega) (by omega) (by omega) (fun k _ hk => by have := hb k hk; omega)) (fun v h' hv => ?_))
  obtain ⟨rfl, rfl⟩ := hv
  exact b_X6_countOn_13 (rI ⟨rfl, rfl⟩)
theorem s_lastAhead (n : Nat) (hf : frames h a n t f) (hn : n ≤ 8) {x : Int} (hx : 0 ≤ x ∧ x ≤ 1000) (hb : ∀ k, k < n → 0 ≤ t k ∧ t k ≤ 1000) : CtI mX2_lastAheadOf 1 0 0 [.ref a, .int (iN x)] h (fun r h' => r = lst (fun k => if t k ≤ x then 0 else 1) n ∧ h' = h) := by
  refine en_X2_lastAheadOf (b_X2_lastAheadOf_0 ?_)
  have H : ∀ (k i : Nat), i + k = n → AW mX2_lastAheadOf 1 0 0 4 [.ref a, .int (iN x), .int (iN (lst (fun k => if t k ≤ x then 0 else 1) i)), .int (iN (i : Int))] [] h (qI (fun r h' => r = lst (fun k => if t k ≤ x then 0 else 1) n ∧ h' = h)) := by
    intro k
    induction k with
    | zero =>
      intro i hi
      refine b_X2_lastAheadOf_4 hf.n0 (fun _ => ?_) (fun w => absurd ((iN_le (by omega)).mpr (by omega)) w)
      exact b_X2_lastAheadOf_32 (rI ⟨by rw [show n = i by omega], rfl⟩)
    | succ k ih =>
      intro i hi
      have hb1 := hb i (by omega)
      refine b_X2_lastAheadOf_4 hf.n0 (fun w => ?_) (fun _ => ?_)
      · have := (iN_le (by omega)).mp w; omega
      refine b_X2_lastAheadOf_12 hf.f1 hf.2.1.o (s_get hf.2.1 (z := (i : Int)) (by omega) (by omega)) (fun v h' hv => ?_)
      obtain ⟨rfl, rfl⟩ := hv
      have e : ((i : Int) + 1) = ((i + 1 : Nat) : Int) := by omega
      have hk := ih (i + 1) (by omega)
      rw [Int.toNat_natCast]
      refine b_X2_lastAheadOf_20 (fun w => ?_) (fun w => ?_)
      · have := (iN_lt (by omega)).mp w
        refine b_X2_lastAheadOf_26 ?_
        rw [e]
        rw [show lst (fun k => if t k ≤ x then 0 else 1) (i + 1) = lst (fun k => if t k ≤ x then 0 else 1) i by simp [lst, show ¬ t i ≤ x by omega]] at hk
        exact hk
      · have : t i ≤ x := by
          rcases Int.lt_or_le x (t i) with q | q
          · exact absurd ((iN_lt (by omega)).mpr q) w
          · exact q
        refine b_X2_lastAheadOf_24 ?_
        rw [e]
        rw [show lst (fun k => if t k ≤ x then 0 else 1) (i + 1) = (i : Int) by simp [lst, this]] at hk
        exact hk
  exact H n 0 (by omega)
end FT2
