/-! one step of the law's loop -/
def mkS (r : Nat → Int) (n : Nat) (D : Nat → Nat → Int) (l : Nat) (s : Nat → Int) (b : Nat → Bool) (M : Nat → Nat → Int) : ST := (r, n, D, l, s, b, M)
/-- the four numbers of a step -/
def fed (sc : List Value) (l4 : Int) : Prop := (0 ≤ l4 ∧ l4 < 2000000000) ∧ ∀ i, l4 ≤ i ∧ i ≤ l4 + 3 → ∃ a : Int, (-2147483648 ≤ a ∧ a < 2147483648) ∧ sc[i.toNat]? = some (.int (iN a))
section LSTEP
variable {h : AH} {sc : List Value} {σ σ1 : ST} {rf l4 : Int} {mc ms : Nat} {Q : AR → AH → Prop} {r s : Nat → Int} {n l : Nat} {D M : Nat → Nat → Int} {b : Nat → Bool}
theorem ite_cw {c : Prop} [Decidable c] (a d : ST) (q : if c then cw h a else cw h d) : cw h (if c then a else d) := by
  by_cases e : c
  · rw [if_pos e] at q ⊢; exact q
  · rw [if_neg e] at q ⊢; exact q
theorem ite_rw {c : Prop} [Decidable c] (a d : ST) (k : Int) (q : if c then rw9 h a k else rw9 h d k) : rw9 h (if c then a else d) k := by
  by_cases e : c
  · rw [if_pos e] at q ⊢; exact q
  · rw [if_neg e] at q ⊢; exact q
theorem ite_ok {c : Prop} [Decidable c] {a d : ST} (w : cw h (if c then a else d)) (ha : c → Inv a.1 → oks a) (hd : oks d) : oks (if c then a else d) := by
  by_cases e : c
  · rw [if_pos e] at w ⊢; exact ha e w.2.1.2
  · rw [if_neg e]; exact hd
theorem ok_rm (ok : oks (mkS r n D l s b M)) {r' : Nat → Int} (I : Inv r') : oks (mkS r' (rmN n) (rmD r D) l s b M) := by
  obtain ⟨k1, k2, k3, k4, k5, k6⟩ := ok
  refine ⟨I, ?_, fun i hi => ?_, k4, k5, k6⟩
  · change rmN n ≤ 14
    unfold rmN
    split <;> omega
  · change Inv (rmD r D i)
    unfold rmD
    by_cases e : i = 0
    · rw [if_pos e]; exact k1
    · rw [if_neg e]
      have hi : i < rmN n := hi
      have k2 : n ≤ 14 := k2
      refine k3 (i - 1) ?_
      change i - 1 < n
      unfold rmN at hi
      split at hi <;> omega
theorem ok_ap (ok : oks (mkS r n D l s b M)) (a : Int) : oks (mkS r n D (if apR a l = 0 then l + 1 else l) (if apR a l = 0 then up s l a else s) b M) := by
  by_cases e : apR a l = 0
  · rw [if_pos e, if_pos e]
    obtain ⟨k1, k2, k3, k4, k5, k6⟩ := ok
    have k4 : l ≤ 100 := k4
    unfold apR at e
    by_cases q : 0 ≤ a ∧ a ≤ 255
    · rw [if_neg (fun z => z q)] at e
      by_cases q2 : l = 100
      · rw [if_pos q2] at e; omega
      · refine ⟨k1, k2, k3, ?_, fun i hi => ?_, k6⟩
        · change l + 1 ≤ 100
          omega
        · change 0 ≤ up s l a i ∧ up s l a i ≤ 255
          by_cases z : i = l
          · rw [z, up_same]; exact q
          · rw [up_ne _ _ (by omega)]
            have hi : i < l + 1 := hi
            exact k5 i (by change i < l; omega)
    · rw [if_pos q] at e; omega
  · rw [if_neg e, if_neg e]; exact ok
theorem ok_un (ok : oks (mkS r n D l s b M)) {r' : Nat → Int} (I : Inv r') : oks (mkS r' (n - 1) (fun i => D (i + 1)) l s b M) := by
  obtain ⟨k1, k2, k3, k4, k5, k6⟩ := ok
  have k2 : n ≤ 14 := k2
  refine ⟨I, ?_, fun i hi => ?_, k4, k5, k6⟩
  · change n - 1 ≤ 14
    omega
  · have hi : i < n - 1 := hi
    exact k3 (i + 1) (by change i + 1 < n; omega)
theorem ok_sv (ok : oks (mkS r n D l s b M)) (i : Nat) : oks (mkS r n D l s (fun j => if j = i then true else b j) (fun j => if j = i then r else M j)) := by
  obtain ⟨k1, k2, k3, k4, k5, k6⟩ := ok
  refine ⟨k1, k2, k3, k4, k5, fun j hj q => ?_⟩
  change Inv (if j = i then r else M j)
  by_cases z : j = i
  · rw [if_pos z]; exact k1
  · rw [if_neg z]
    refine k6 j hj ?_
    have q : (if j = i then true else b j) = true := q
    rw [if_neg z] at q
    exact q
theorem y_append (hw : LW h sc (mkS r n D l s b M) (mkS r n D l s b M) rf) (ok : oks (mkS r n D l s b M)) (fd : fed sc l4)
    (k : ∀ h2 (τ : ST) (rf2 : Int), LW h2 sc τ τ rf2 → oks τ → AW mL_law 10 mc ms 23 [.ref 0, .ref 1, .ref 642, .ref 650, .int (iN (l4 + 4)), vU, vU] [] h2 Q) :
    AW mL_law 10 (1 + mc) (6 + ms) 152 [.ref 0, .ref 1, .ref 642, .ref 650, .int (iN l4), vU, vU] [] h Q := by
  obtain ⟨hl, fd⟩ := fd
  obtain ⟨a, ha, e1⟩ := fd (l4 + 1) (by omega)
  refine g_append (σ1 := mkS r n D (if apR a l = 0 then l + 1 else l) (if apR a l = 0 then up s l a else s) b M) hw hl e1 (c_append hw.1 ok ha) (fun h1 q => q) (fun h1 rf1 w => r_append w.2.1 ok ha) (fun h2 w => k h2 _ _ w ?_)
  exact ok_ap ok a
theorem y_load (hw : LW h sc (mkS r n D l s b M) (mkS r n D l s b M) rf) (ok : oks (mkS r n D l s b M)) (fd : fed sc l4)
    (k : ∀ h2 (τ : ST) (rf2 : Int), LW h2 sc τ τ rf2 → oks τ → AW mL_law 10 mc ms 23 [.ref 0, .ref 1, .ref 642, .ref 650, .int (iN (l4 + 4)), vU, vU] [] h2 Q) :
    AW mL_law 10 (1 + mc) (6 + ms) 234 [.ref 0, .ref 1, .ref 642, .ref 650, .int (iN l4), vU, vU] [] h Q := by
  refine g_load (σ1 := if ldK s l = 0 then mkS (lodX s l).2.2.1 0 D l s (fun _ => false) M else (mkS r n D l s b M)) hw (by unfold ldK; split <;> omega) (c_load hw.1 ok) (fun h1 q => ⟨ite_cw (mkS (lodX s l).2.2.1 0 D l s (fun _ => false) M) (mkS r n D l s b M) q.1, q.2⟩) (fun h1 rf1 w => Ct.moI (r_load w.2.1 ok) (fun v h2 q => ⟨q.1, ite_rw (mkS (lodX s l).2.2.1 0 D l s (fun _ => false) M) (mkS r n D l s b M) _ q.2.1, q.2.2.1⟩)) (fun h2 w => k h2 _ _ w (ite_ok w.1 (fun z I => ?_) ok))
  exact ⟨I, Nat.zero_le _, fun i hi => absurd hi (Nat.not_lt_zero i), ok.2.2.2.1, ok.2.2.2.2.1, fun j _ q => nomatch q⟩
theorem y_about (hw : LW h sc (mkS r n D l s b M) (mkS r n D l s b M) rf) (ok : oks (mkS r n D l s b M)) (fd : fed sc l4)
    (k : ∀ h2 (τ : ST) (rf2 : Int), LW h2 sc τ τ rf2 → oks τ → AW mL_law 10 mc ms 23 [.ref 0, .ref 1, .ref 642, .ref 650, .int (iN (l4 + 4)), vU, vU] [] h2 Q) :
    AW mL_law 10 (1 + mc) (6 + ms) 278 [.ref 0, .ref 1, .ref 642, .ref 650, .int (iN l4), vU, vU] [] h Q := by
  obtain ⟨hl, fd⟩ := fd
  obtain ⟨a, ha, e1⟩ := fd (l4 + 1) (by omega)
  exact g_about (σ1 := (mkS r n D l s b M)) hw hl e1 (by unfold abK; split <;> omega) (c_about hw.1.1 hw.1.2.1 ha) (fun h1 q => ⟨q ▸ hw.1, q ▸ Off.rf⟩) (fun h1 rf1 w => r_about w.2.1 ok.1 ha) (fun h2 w => k h2 _ _ w ok)
theorem y_tent (hw : LW h sc (mkS r n D l s b M) (mkS r n D l s b M) rf) (ok : oks (mkS r n D l s b M)) (fd : fed sc l4)
    (k : ∀ h2 (τ : ST) (rf2 : Int), LW h2 sc τ τ rf2 → oks τ → AW mL_law 10 mc ms 23 [.ref 0, .ref 1, .ref 642, .ref 650, .int (iN (l4 + 4)), vU, vU] [] h2 Q) :
    AW mL_law 10 (1 + mc) (6 + ms) 334 [.ref 0, .ref 1, .ref 642, .ref 650, .int (iN l4), vU, vU] [] h Q := by
  obtain ⟨hl, fd⟩ := fd
  obtain ⟨a, ha, e1⟩ := fd (l4 + 1) (by omega)
  obtain ⟨d, hd, e2⟩ := fd (l4 + 2) (by omega)
  exact g_tent (σ1 := (mkS r n D l s b M)) hw hl e1 e2 (c_tent hw.1.1 hw.1.2.1 ha hd) (fun h1 q => ⟨q ▸ hw.1, q ▸ Off.rf⟩) (fun h1 rf1 w => r_tent w.2.1 ok.1 ha hd) (fun h2 w => k h2 _ _ w ok)
theorem y_field (hw : LW h sc (mkS r n D l s b M) (mkS r n D l s b M) rf) (ok : oks (mkS r n D l s b M)) (fd : fed sc l4)
    (k : ∀ h2 (τ : ST) (rf2 : Int), LW h2 sc τ τ rf2 → oks τ → AW mL_law 10 mc ms 23 [.ref 0, .ref 1, .ref 642, .ref 650, .int (iN (l4 + 4)), vU, vU] [] h2 Q) :
    AW mL_law 10 (1 + mc) (6 + ms) 402 [.ref 0, .ref 1, .ref 642, .ref 650, .int (iN l4), vU, vU] [] h Q := by
  obtain ⟨hl, fd⟩ := fd
  obtain ⟨a, ha, e1⟩ := fd (l4 + 1) (by omega)
  obtain ⟨d, hd, e2⟩ := fd (l4 + 2) (by omega)
  exact g_field (σ1 := (mkS r n D l s b M)) hw hl e1 e2 (c_field hw.1.1 hw.1.2.1 ha hd) (fun h1 q => ⟨q ▸ hw.1, q ▸ Off.rf⟩) (fun h1 rf1 w => r_field w.2.1 ok.1 ha hd) (fun h2 w => k h2 _ _ w ok)
theorem y_place (hw : LW h sc (mkS r n D l s b M) (mkS r n D l s b M) rf) (ok : oks (mkS r n D l s b M)) (fd : fed sc l4)
    (k : ∀ h2 (τ : ST) (rf2 : Int), LW h2 sc τ τ rf2 → oks τ → AW mL_law 10 mc ms 23 [.ref 0, .ref 1, .ref 642, .ref 650, .int (iN (l4 + 4)), vU, vU] [] h2 Q) :
    AW mL_law 10 (1 + mc) (6 + ms) 470 [.ref 0, .ref 1, .ref 642, .ref 650, .int (iN l4), vU, vU] [] h Q := by
  obtain ⟨hl, fd⟩ := fd
  obtain ⟨a, ha, e1⟩ := fd (l4 + 1) (by omega)
  obtain ⟨d, hd, e2⟩ := fd (l4 + 2) (by omega)
  exact g_place (σ1 := (mkS r n D l s b M)) hw hl e1 e2 (by unfold plK; split <;> omega) (c_place hw.1.1 hw.1.2.1 ha hd) (fun h1 q => ⟨q ▸ hw.1, q ▸ Off.rf⟩) (fun h1 rf1 w => r_place w.2.1 ok.1 ha hd) (fun h2 w => k h2 _ _ w ok)
theorem y_spare (hw : LW h sc (mkS r n D l s b M) (mkS r n D l s b M) rf) (ok : oks (mkS r n D l s b M)) (fd : fed sc l4)
    (k : ∀ h2 (τ : ST) (rf2 : Int), LW h2 sc τ τ rf2 → oks τ → AW mL_law 10 mc ms 23 [.ref 0, .ref 1, .ref 642, .ref 650, .int (iN (l4 + 4)), vU, vU] [] h2 Q) :
    AW mL_law 10 (1 + mc) (6 + ms) 538 [.ref 0, .ref 1, .ref 642, .ref 650, .int (iN l4), vU, vU] [] h Q := by
  obtain ⟨hl, fd⟩ := fd
  obtain ⟨a, ha, e1⟩ := fd (l4 + 1) (by omega)
  exact g_spare (σ1 := (mkS r n D l s b M)) hw hl e1 (by unfold spK; split <;> omega) (c_spare hw.1.1 hw.1.2.1 ha) (fun h1 q => ⟨q ▸ hw.1, q ▸ Off.rf⟩) (fun h1 rf1 w => r_spare w.2.1 ok.1 ha) (fun h2 w => k h2 _ _ w ok)
theorem y_frame (hw : LW h sc (mkS r n D l s b M) (mkS r n D l s b M) rf) (ok : oks (mkS r n D l s b M)) (fd : fed sc l4)
    (k : ∀ h2 (τ : ST) (rf2 : Int), LW h2 sc τ τ rf2 → oks τ → AW mL_law 10 mc ms 23 [.ref 0, .ref 1, .ref 642, .ref 650, .int (iN (l4 + 4)), vU, vU] [] h2 Q) :
    AW mL_law 10 (1 + mc) (6 + ms) 594 [.ref 0, .ref 1, .ref 642, .ref 650, .int (iN l4), vU, vU] [] h Q := by
  obtain ⟨hl, fd⟩ := fd
  obtain ⟨a, ha, e1⟩ := fd (l4 + 1) (by omega)
  obtain ⟨d, hd, e2⟩ := fd (l4 + 2) (by omega)
  exact g_frame (σ1 := (mkS r n D l s b M)) hw hl e1 e2 (c_frame hw.1.1 hw.1.2.1 ha hd) (fun h1 q => ⟨q ▸ hw.1, q ▸ Off.rf⟩) (fun h1 rf1 w => r_frame w.2.1 ok.1 ha hd) (fun h2 w => k h2 _ _ w ok)
theorem y_pitch (hw : LW h sc (mkS r n D l s b M) (mkS r n D l s b M) rf) (ok : oks (mkS r n D l s b M)) (fd : fed sc l4)
    (k : ∀ h2 (τ : ST) (rf2 : Int), LW h2 sc τ τ rf2 → oks τ → AW mL_law 10 mc ms 23 [.ref 0, .ref 1, .ref 642, .ref 650, .int (iN (l4 + 4)), vU, vU] [] h2 Q) :
    AW mL_law 10 (1 + mc) (6 + ms) 662 [.ref 0, .ref 1, .ref 642, .ref 650, .int (iN l4), vU, vU] [] h Q := by
  obtain ⟨hl, fd⟩ := fd
  obtain ⟨a, ha, e1⟩ := fd (l4 + 1) (by omega)
  obtain ⟨d, hd, e2⟩ := fd (l4 + 2) (by omega)
  refine g_pitch (σ1 := if ptK r a d = 0 then mkS (pitchIn r a d) (rmN n) (rmD r D) l s b M else (mkS r n D l s b M)) hw hl e1 e2 (c_pitch hw.1 ha hd) (fun h1 q => ⟨ite_cw (mkS (pitchIn r a d) (rmN n) (rmD r D) l s b M) (mkS r n D l s b M) q.1, q.2⟩) (fun h1 rf1 w => Ct.moI (r_pitch w.2.1 ok ha hd) (fun v h2 q => ⟨q.1, ite_rw (mkS (pitchIn r a d) (rmN n) (rmD r D) l s b M) (mkS r n D l s b M) _ q.2.1, q.2.2⟩)) (fun h2 w => k h2 _ _ w (ite_ok w.1 (fun z I => ?_) ok))
  exact ok_rm ok I
theorem y_fill (hw : LW h sc (mkS r n D l s b M) (mkS r n D l s b M) rf) (ok : oks (mkS r n D l s b M)) (fd : fed sc l4)
    (k : ∀ h2 (τ : ST) (rf2 : Int), LW h2 sc τ τ rf2 → oks τ → AW mL_law 10 mc ms 23 [.ref 0, .ref 1, .ref 642, .ref 650, .int (iN (l4 + 4)), vU, vU] [] h2 Q) :
    AW mL_law 10 (1 + mc) (6 + ms) 730 [.ref 0, .ref 1, .ref 642, .ref 650, .int (iN l4), vU, vU] [] h Q := by
  obtain ⟨hl, fd⟩ := fd
  obtain ⟨a, ha, e1⟩ := fd (l4 + 1) (by omega)
  obtain ⟨d, hd, e2⟩ := fd (l4 + 2) (by omega)
  refine g_fill (σ1 := if flK r a d = 0 then mkS (fillIn r a.toNat d) (rmN n) (rmD r D) l s b M else (mkS r n D l s b M)) hw hl e1 e2 (c_fill hw.1 ha hd) (fun h1 q => ⟨ite_cw (mkS (fillIn r a.toNat d) (rmN n) (rmD r D) l s b M) (mkS r n D l s b M) q.1, q.2⟩) (fun h1 rf1 w => Ct.moI (r_fill w.2.1 ok ha hd) (fun v h2 q => ⟨q.1, ite_rw (mkS (fillIn r a.toNat d) (rmN n) (rmD r D) l s b M) (mkS r n D l s b M) _ q.2.1, q.2.2⟩)) (fun h2 w => k h2 _ _ w (ite_ok w.1 (fun z I => ?_) ok))
  exact ok_rm ok I
theorem y_enter (hw : LW h sc (mkS r n D l s b M) (mkS r n D l s b M) rf) (ok : oks (mkS r n D l s b M)) (fd : fed sc l4)
    (k : ∀ h2 (τ : ST) (rf2 : Int), LW h2 sc τ τ rf2 → oks τ → AW mL_law 10 mc ms 23 [.ref 0, .ref 1, .ref 642, .ref 650, .int (iN (l4 + 4)), vU, vU] [] h2 Q) :
    AW mL_law 10 (1 + mc) (6 + ms) 798 [.ref 0, .ref 1, .ref 642, .ref 650, .int (iN l4), vU, vU] [] h Q := by
  refine g_enter (σ1 := if enK r = 0 then mkS (enterIn r) (rmN n) (rmD r D) l s b M else (mkS r n D l s b M)) hw (by unfold enK; split <;> omega) (c_enter hw.1) (fun h1 q => ⟨ite_cw (mkS (enterIn r) (rmN n) (rmD r D) l s b M) (mkS r n D l s b M) q.1, q.2⟩) (fun h1 rf1 w => Ct.moI (r_enter w.2.1 ok) (fun v h2 q => ⟨q.1, ite_rw (mkS (enterIn r) (rmN n) (rmD r D) l s b M) (mkS r n D l s b M) _ q.2.1, q.2.2⟩)) (fun h2 w => k h2 _ _ w (ite_ok w.1 (fun z I => ?_) ok))
  exact ok_rm ok I
theorem y_leave (hw : LW h sc (mkS r n D l s b M) (mkS r n D l s b M) rf) (ok : oks (mkS r n D l s b M)) (fd : fed sc l4)
    (k : ∀ h2 (τ : ST) (rf2 : Int), LW h2 sc τ τ rf2 → oks τ → AW mL_law 10 mc ms 23 [.ref 0, .ref 1, .ref 642, .ref 650, .int (iN (l4 + 4)), vU, vU] [] h2 Q) :
    AW mL_law 10 (1 + mc) (6 + ms) 842 [.ref 0, .ref 1, .ref 642, .ref 650, .int (iN l4), vU, vU] [] h Q := by
  refine g_leave (σ1 := if leK r = 0 then mkS (leaveIn r) (rmN n) (rmD r D) l s b M else (mkS r n D l s b M)) hw (by unfold leK; split <;> omega) (c_leave hw.1) (fun h1 q => ⟨ite_cw (mkS (leaveIn r) (rmN n) (rmD r D) l s b M) (mkS r n D l s b M) q.1, q.2⟩) (fun h1 rf1 w => Ct.moI (r_leave w.2.1 ok) (fun v h2 q => ⟨q.1, ite_rw (mkS (leaveIn r) (rmN n) (rmD r D) l s b M) (mkS r n D l s b M) _ q.2.1, q.2.2⟩)) (fun h2 w => k h2 _ _ w (ite_ok w.1 (fun z I => ?_) ok))
  exact ok_rm ok I
theorem y_jump (hw : LW h sc (mkS r n D l s b M) (mkS r n D l s b M) rf) (ok : oks (mkS r n D l s b M)) (fd : fed sc l4)
    (k : ∀ h2 (τ : ST) (rf2 : Int), LW h2 sc τ τ rf2 → oks τ → AW mL_law 10 mc ms 23 [.ref 0, .ref 1, .ref 642, .ref 650, .int (iN (l4 + 4)), vU, vU] [] h2 Q) :
    AW mL_law 10 (1 + mc) (6 + ms) 886 [.ref 0, .ref 1, .ref 642, .ref 650, .int (iN l4), vU, vU] [] h Q := by
  obtain ⟨hl, fd⟩ := fd
  obtain ⟨a, ha, e1⟩ := fd (l4 + 1) (by omega)
  refine g_jump (σ1 := if juK r a = 0 then mkS (jumpIn r a.toNat) (rmN n) (rmD r D) l s b M else (mkS r n D l s b M)) hw hl e1 (by unfold juK; split <;> omega) (c_jump hw.1 ha) (fun h1 q => ⟨ite_cw (mkS (jumpIn r a.toNat) (rmN n) (rmD r D) l s b M) (mkS r n D l s b M) q.1, q.2⟩) (fun h1 rf1 w => Ct.moI (r_jump w.2.1 ok ha) (fun v h2 q => ⟨q.1, ite_rw (mkS (jumpIn r a.toNat) (rmN n) (rmD r D) l s b M) (mkS r n D l s b M) _ q.2.1, q.2.2⟩)) (fun h2 w => k h2 _ _ w (ite_ok w.1 (fun z I => ?_) ok))
  exact ok_rm ok I
theorem y_set (hw : LW h sc (mkS r n D l s b M) (mkS r n D l s b M) rf) (ok : oks (mkS r n D l s b M)) (fd : fed sc l4)
    (k : ∀ h2 (τ : ST) (rf2 : Int), LW h2 sc τ τ rf2 → oks τ → AW mL_law 10 mc ms 23 [.ref 0, .ref 1, .ref 642, .ref 650, .int (iN (l4 + 4)), vU, vU] [] h2 Q) :
    AW mL_law 10 (1 + mc) (6 + ms) 942 [.ref 0, .ref 1, .ref 642, .ref 650, .int (iN l4), vU, vU] [] h Q := by
  obtain ⟨hl, fd⟩ := fd
  obtain ⟨a, ha, e1⟩ := fd (l4 + 1) (by omega)
  obtain ⟨d, hd, e2⟩ := fd (l4 + 2) (by omega)
  refine g_set (σ1 := if seK a d = 0 then mkS (up r (7 + a).toNat d) (rmN n) (rmD r D) l s b M else (mkS r n D l s b M)) hw hl e1 e2 (by unfold seK; split <;> omega) (c_set hw.1 ha hd) (fun h1 q => ⟨ite_cw (mkS (up r (7 + a).toNat d) (rmN n) (rmD r D) l s b M) (mkS r n D l s b M) q.1, q.2⟩) (fun h1 rf1 w => Ct.moI (r_set w.2.1 ok ha hd) (fun v h2 q => ⟨q.1, ite_rw (mkS (up r (7 + a).toNat d) (rmN n) (rmD r D) l s b M) (mkS r n D l s b M) _ q.2.1, q.2.2⟩)) (fun h2 w => k h2 _ _ w (ite_ok w.1 (fun z I => ?_) ok))
  exact ok_rm ok I
theorem y_undo (hw : LW h sc (mkS r n D l s b M) (mkS r n D l s b M) rf) (ok : oks (mkS r n D l s b M)) (fd : fed sc l4)
    (k : ∀ h2 (τ : ST) (rf2 : Int), LW h2 sc τ τ rf2 → oks τ → AW mL_law 10 mc ms 23 [.ref 0, .ref 1, .ref 642, .ref 650, .int (iN (l4 + 4)), vU, vU] [] h2 Q) :
    AW mL_law 10 (1 + mc) (6 + ms) 1010 [.ref 0, .ref 1, .ref 642, .ref 650, .int (iN l4), vU, vU] [] h Q := by
  refine g_undo (σ1 := if unK n = 0 then mkS (D 0) (n - 1) (fun i => D (i + 1)) l s b M else (mkS r n D l s b M)) hw (by unfold unK; split <;> omega) (c_undo hw.1 ok) (fun h1 q => ⟨ite_cw (mkS (D 0) (n - 1) (fun i => D (i + 1)) l s b M) (mkS r n D l s b M) q.1, q.2⟩) (fun h1 rf1 w => Ct.moI (r_undo w.2.1 ok) (fun v h2 q => ⟨q.1, ite_rw (mkS (D 0) (n - 1) (fun i => D (i + 1)) l s b M) (mkS r n D l s b M) _ q.2.1, q.2.2⟩)) (fun h2 w => k h2 _ _ w (ite_ok w.1 (fun z I => ?_) ok))
  exact ok_un ok I
theorem y_where (hw : LW h sc (mkS r n D l s b M) (mkS r n D l s b M) rf) (ok : oks (mkS r n D l s b M)) (fd : fed sc l4)
    (k : ∀ h2 (τ : ST) (rf2 : Int), LW h2 sc τ τ rf2 → oks τ → AW mL_law 10 mc ms 23 [.ref 0, .ref 1, .ref 642, .ref 650, .int (iN (l4 + 4)), vU, vU] [] h2 Q) :
    AW mL_law 10 (1 + mc) (6 + ms) 1054 [.ref 0, .ref 1, .ref 642, .ref 650, .int (iN l4), vU, vU] [] h Q := by
  obtain ⟨hl, fd⟩ := fd
  obtain ⟨a, ha, e1⟩ := fd (l4 + 1) (by omega)
  obtain ⟨d, hd, e2⟩ := fd (l4 + 2) (by omega)
  exact g_where (σ1 := (mkS r n D l s b M)) hw hl e1 e2 (by unfold knK; split <;> omega) (c_where hw.1.1 hw.1.2.1 ha hd) (fun h1 q => ⟨q ▸ hw.1, q ▸ Off.rf⟩) (fun h1 rf1 w => r_where w.2.1 ok.1 ha hd) (fun h2 w => k h2 _ _ w ok)
theorem y_givenUp (hw : LW h sc (mkS r n D l s b M) (mkS r n D l s b M) rf) (ok : oks (mkS r n D l s b M)) (fd : fed sc l4)
    (k : ∀ h2 (τ : ST) (rf2 : Int), LW h2 sc τ τ rf2 → oks τ → AW mL_law 10 mc ms 23 [.ref 0, .ref 1, .ref 642, .ref 650, .int (iN (l4 + 4)), vU, vU] [] h2 Q) :
    AW mL_law 10 (1 + mc) (6 + ms) 1122 [.ref 0, .ref 1, .ref 642, .ref 650, .int (iN l4), vU, vU] [] h Q := by
  obtain ⟨hl, fd⟩ := fd
  obtain ⟨a, ha, e1⟩ := fd (l4 + 1) (by omega)
  exact g_givenUp (σ1 := (mkS r n D l s b M)) hw hl e1 (by unfold juK; split <;> omega) (c_givenUp hw.1 ha) (fun h1 q => q) (fun h1 rf1 w => r_givenUp w.2.1 ok.1 ha) (fun h2 w => k h2 _ _ w ok)
theorem y_more (hw : LW h sc (mkS r n D l s b M) (mkS r n D l s b M) rf) (ok : oks (mkS r n D l s b M)) (fd : fed sc l4)
    (k : ∀ h2 (τ : ST) (rf2 : Int), LW h2 sc τ τ rf2 → oks τ → AW mL_law 10 mc ms 23 [.ref 0, .ref 1, .ref 642, .ref 650, .int (iN (l4 + 4)), vU, vU] [] h2 Q) :
    AW mL_law 10 (1 + mc) (6 + ms) 1191 [.ref 0, .ref 1, .ref 642, .ref 650, .int (iN l4), vU, vU] [] h Q := by
  obtain ⟨hl, fd⟩ := fd
  obtain ⟨a, ha, e1⟩ := fd (l4 + 1) (by omega)
  obtain ⟨d, hd, e2⟩ := fd (l4 + 2) (by omega)
  exact g_more (σ1 := (mkS r n D l s b M)) hw hl e1 e2 (by unfold knK; split <;> omega) (c_more hw.1 ha hd) (fun h1 q => q) (fun h1 rf1 w => r_more w.2.1 ok.1 ha hd) (fun h2 w => k h2 _ _ w ok)
theorem y_runScript (hw : LW h sc (mkS r n D l s b M) (mkS r n D l s b M) rf) (ok : oks (mkS r n D l s b M)) (fd : fed sc l4)
    (k : ∀ h2 (τ : ST) (rf2 : Int), LW h2 sc τ τ rf2 → oks τ → AW mL_law 10 mc ms 23 [.ref 0, .ref 1, .ref 642, .ref 650, .int (iN (l4 + 4)), vU, vU] [] h2 Q) :
    AW mL_law 10 (1 + mc) (6 + ms) 1259 [.ref 0, .ref 1, .ref 642, .ref 650, .int (iN l4), vU, vU] [] h Q := by
  obtain ⟨hl, fd⟩ := fd
  obtain ⟨a, ha, e1⟩ := fd (l4 + 1) (by omega)
  obtain ⟨d, hd, e2⟩ := fd (l4 + 2) (by omega)
  obtain ⟨e, he, e3⟩ := fd (l4 + 3) (by omega)
  exact g_runScript (σ1 := (mkS r n D l s b M)) hw hl e1 e2 e3 (by unfold rsK; split <;> omega) (c_runScript hw.1 ha (i64_rg _)) (fun h1 q => q) (fun h1 rf1 w => r_runScript w.2.1 ok.1 ha (i64_rg _)) (fun h2 w => k h2 _ _ w ok)
theorem y_simulate (hw : LW h sc (mkS r n D l s b M) (mkS r n D l s b M) rf) (ok : oks (mkS r n D l s b M)) (fd : fed sc l4)
    (k : ∀ h2 (τ : ST) (rf2 : Int), LW h2 sc τ τ rf2 → oks τ → AW mL_law 10 mc ms 23 [.ref 0, .ref 1, .ref 642, .ref 650, .int (iN (l4 + 4)), vU, vU] [] h2 Q) :
    AW mL_law 10 (1 + mc) (6 + ms) 1359 [.ref 0, .ref 1, .ref 642, .ref 650, .int (iN l4), vU, vU] [] h Q := by
  obtain ⟨hl, fd⟩ := fd
  obtain ⟨a, ha, e1⟩ := fd (l4 + 1) (by omega)
  obtain ⟨d, hd, e2⟩ := fd (l4 + 2) (by omega)
  obtain ⟨e, he, e3⟩ := fd (l4 + 3) (by omega)
  exact g_simulate (σ1 := (mkS r n D l s b M)) hw hl e1 e2 e3 (by unfold siK; split <;> omega) (c_simulate hw.1 he) (fun h1 q => q) (fun h1 rf1 w => r_simulate w.2.1 ok.1 he) (fun h2 w => k h2 _ _ w ok)
theorem y_save (hw : LW h sc (mkS r n D l s b M) (mkS r n D l s b M) rf) (ok : oks (mkS r n D l s b M)) (fd : fed sc l4)
    (k : ∀ h2 (τ : ST) (rf2 : Int), LW h2 sc τ τ rf2 → oks τ → AW mL_law 10 mc ms 23 [.ref 0, .ref 1, .ref 642, .ref 650, .int (iN (l4 + 4)), vU, vU] [] h2 Q) :
    AW mL_law 10 (1 + mc) (6 + ms) 1459 [.ref 0, .ref 1, .ref 642, .ref 650, .int (iN l4), vU, vU] [] h Q := by
  obtain ⟨hl, fd⟩ := fd
  obtain ⟨a, ha, e1⟩ := fd (l4 + 1) (by omega)
  refine g_save (σ1 := if saK a = 0 then mkS r n D l s (fun j => if j = a.toNat then true else b j) (fun j => if j = a.toNat then r else M j) else (mkS r n D l s b M)) hw hl e1 (by unfold saK; split <;> omega) (c_save hw.1 ha) (fun h1 q => ⟨ite_cw (mkS r n D l s (fun j => if j = a.toNat then true else b j) (fun j => if j = a.toNat then r else M j)) (mkS r n D l s b M) q.1, q.2⟩) (fun h1 rf1 w => Ct.moI (r_save w.2.1 ha) (fun v h2 q => ⟨q.1, ite_rw (mkS r n D l s (fun j => if j = a.toNat then true else b j) (fun j => if j = a.toNat then r else M j)) (mkS r n D l s b M) _ q.2.1, q.2.2⟩)) (fun h2 w => k h2 _ _ w (ite_ok w.1 (fun z I => ?_) ok))
  exact ok_sv ok _
theorem y_restore (hw : LW h sc (mkS r n D l s b M) (mkS r n D l s b M) rf) (ok : oks (mkS r n D l s b M)) (fd : fed sc l4)
    (k : ∀ h2 (τ : ST) (rf2 : Int), LW h2 sc τ τ rf2 → oks τ → AW mL_law 10 mc ms 23 [.ref 0, .ref 1, .ref 642, .ref 650, .int (iN (l4 + 4)), vU, vU] [] h2 Q) :
    AW mL_law 10 (1 + mc) (6 + ms) 1515 [.ref 0, .ref 1, .ref 642, .ref 650, .int (iN l4), vU, vU] [] h Q := by
  obtain ⟨hl, fd⟩ := fd
  obtain ⟨a, ha, e1⟩ := fd (l4 + 1) (by omega)
  refine g_restore (σ1 := if reK b a = 0 then mkS (M a.toNat) 0 D l s b M else (mkS r n D l s b M)) hw hl e1 (c_restore hw.1 ok ha) (fun h1 q => ⟨ite_cw (mkS (M a.toNat) 0 D l s b M) (mkS r n D l s b M) q.1, q.2⟩) (fun h1 rf1 w => Ct.moI (r_restore w.2.1 ha) (fun v h2 q => ⟨q.1, ite_rw (mkS (M a.toNat) 0 D l s b M) (mkS r n D l s b M) _ q.2.1, q.2.2⟩)) (fun h2 w => k h2 _ _ w (ite_ok w.1 (fun z I => ?_) ok))
  exact ⟨I, Nat.zero_le _, fun i hi => absurd hi (Nat.not_lt_zero i), ok.2.2.2⟩
theorem y_clearText (hw : LW h sc (mkS r n D l s b M) (mkS r n D l s b M) rf) (ok : oks (mkS r n D l s b M))
    (k : ∀ h2 (τ : ST) (rf2 : Int), LW h2 sc τ τ rf2 → oks τ → AW mL_law 10 mc ms 23 [.ref 0, .ref 1, .ref 642, .ref 650, .int (iN (l4 + 4)), vU, vU] [] h2 Q) :
    AW mL_law 10 mc ms 208 [.ref 0, .ref 1, .ref 642, .ref 650, .int (iN l4), vU, vU] [] h Q := by
  refine b_L_law_208 hw.o8 (c_clearText hw.1) (fun v h1 q => ?_)
  obtain ⟨rfl, q1, q2⟩ := q
  have w1 : LW h1 sc (mkS r n D 0 s b M) (mkS r n D l s b M) rf := hw.off q1 q2
  refine b_L_law_212 w1.o9 (r_clearText w1.2.1) (fun v h2 q => ?_)
  obtain ⟨rfl, q3, q4⟩ := q
  refine b_L_law_216 (fun _ => b_L_law_1571 (k h2 (mkS r n D 0 s b M) 0 (w1.cl q3 q4) ?_)) (fun z => absurd rfl z)
  exact ⟨ok.1, ok.2.1, ok.2.2.1, Nat.zero_le _, fun i hi => absurd hi (Nat.not_lt_zero i), ok.2.2.2.2.2⟩
theorem y_errorPosition (hw : LW h sc (mkS r n D l s b M) (mkS r n D l s b M) rf) (ok : oks (mkS r n D l s b M))
    (k : ∀ h2 (τ : ST) (rf2 : Int), LW h2 sc τ τ rf2 → oks τ → AW mL_law 10 mc ms 23 [.ref 0, .ref 1, .ref 642, .ref 650, .int (iN (l4 + 4)), vU, vU] [] h2 Q) :
    AW mL_law 10 mc ms 221 [.ref 0, .ref 1, .ref 642, .ref 650, .int (iN l4), vU, vU] [] h Q := by
  refine b_L_law_221 hw.o8 (c_errorPosition hw.1 ok) (fun v h1 q => ?_)
  obtain ⟨rfl, q1, q2⟩ := q
  have w1 : LW h1 sc (mkS r n D l s b M) (mkS r n D l s b M) rf := hw.off q1 q2
  refine b_L_law_225 w1.o9 (r_errorPosition w1.2.1 ok) (fun v h2 q => ?_)
  obtain ⟨rfl, q3, q4⟩ := q
  exact b_L_law_229 (fun _ => b_L_law_1571 (k h2 (mkS r n D l s b M) 0 (w1.cl q3 q4) ok)) (fun z => absurd rfl z)
theorem y_bestSize (hw : LW h sc (mkS r n D l s b M) (mkS r n D l s b M) rf) (ok : oks (mkS r n D l s b M))
    (k : ∀ h2 (τ : ST) (rf2 : Int), LW h2 sc τ τ rf2 → oks τ → AW mL_law 10 mc ms 23 [.ref 0, .ref 1, .ref 642, .ref 650, .int (iN (l4 + 4)), vU, vU] [] h2 Q) :
    AW mL_law 10 mc ms 1178 [.ref 0, .ref 1, .ref 642, .ref 650, .int (iN l4), vU, vU] [] h Q := by
  obtain ⟨N, X, hX⟩ := hw.1.2.2.1
  have I := hw.1.2.1.2
  refine b_L_law_1178 hw.o8 (s_cbestSize hw.1.1 hw.1.2.1.1 hX I) (fun v h1 q => ?_)
  obtain ⟨rfl, ⟨N1, X1, q1⟩, q2⟩ := q
  have q5 := CW.tri hw.1 q1 q2
  have w1 : LW h1 sc (mkS r n D l s b M) (mkS r n D l s b M) rf := hw.off q5.1 q5.2
  refine b_L_law_1182 w1.o9 (r_bestSize w1.2.1 ok.1) (fun v h2 q => ?_)
  obtain ⟨rfl, q3, q4⟩ := q
  exact b_L_law_1186 (fun _ => b_L_law_1571 (k h2 (mkS r n D l s b M) 0 (w1.cl q3 q4) ok)) (fun z => absurd rfl z)
end LSTEP
