/-! the law's loop -/
theorem fed_of {ws : List Int32} {l4 : Int} (h0 : 0 ≤ l4 ∧ l4 < 2000000000) (hl : l4 + 4 ≤ (ws.length : Int)) : fed (ws.map Value.int) l4 := by
  refine ⟨h0, fun i hi => ?_⟩
  have q : i.toNat < ws.length := by omega
  refine ⟨(ws[i.toNat]).toInt, i32_rg _, ?_⟩
  rw [List.getElem?_map, List.getElem?_eq_getElem q, iN_toInt]
  rfl
theorem law_loop {Q : AR → AH → Prop} (hq : ∀ h, Q (.inl (some (.int (iN 1)))) h) {ws : List Int32} (hw : ws.length ≤ 2048) : ∀ (k : Nat) (l4 : Int) (h : AH) (σ : ST) (rf : Int), 0 ≤ l4 ∧ l4 ≤ 4000 → (ws.length : Int) < l4 + 4 * (k + 1 : Nat) → LW h (ws.map Value.int) σ σ rf → oks σ →
    AW mL_law 10 k (6 * k) 23 [.ref 0, .ref 1, .ref 642, .ref 650, .int (iN l4), vU, vU] [] h Q := by
  intro k
  induction k with
  | zero =>
    intro l4 h σ rf hl hn w ok
    refine b_L_law_23 (n1 := ws.length) ⟨_, w.2.2.1, List.length_map _⟩ (fun _ => b_L_law_1577 (hq _)) (fun z => absurd ?_ z)
    rw [iN_lt (by omega)]
    omega
  | succ k ih =>
    intro l4 h σ rf hl hn w ok
    refine b_L_law_23 (n1 := ws.length) ⟨_, w.2.2.1, List.length_map _⟩ (fun _ => b_L_law_1577 (hq _)) (fun z => ?_)
    rw [iN_lt (by omega)] at z
    have fd := fed_of (ws := ws) (l4 := l4) (by omega) (by omega)
    have F : ∀ h2 (τ : ST) (rf2 : Int), LW h2 (ws.map Value.int) τ τ rf2 → oks τ → AW mL_law 10 k (6 * k) 23 [.ref 0, .ref 1, .ref 642, .ref 650, .int (iN (l4 + 4)), vU, vU] [] h2 Q := fun h2 τ rf2 w2 ok2 => ih (l4 + 4) h2 τ rf2 (by omega) (by omega) w2 ok2
    obtain ⟨a, ha, e⟩ := fd.2 l4 (by omega)
    obtain ⟨r, n, D, l, s, b, M⟩ := σ
    have w9 : LW h (ws.map Value.int) (mkS r n D l s b M) (mkS r n D l s b M) rf := w
    have ok9 : oks (mkS r n D l s b M) := ok
    rw [Nat.add_comm k 1, show 6 * (1 + k) = 6 + 6 * k by omega]
    have R : ∀ pc, AW mL_law 10 k (6 * k) pc [.ref 0, .ref 1, .ref 642, .ref 650, .int (iN l4), vU, vU] [] h Q → AW mL_law 10 (1 + k) (6 + 6 * k) pc [.ref 0, .ref 1, .ref 642, .ref 650, .int (iN l4), vU, vU] [] h Q := fun pc q => q.room (by omega) (by omega)
    exact b_L_law_32 (w9.se (by omega) e) (fun _ => y_append w9 ok9 fd F) (fun _ => R _ (y_clearText w9 ok9 F)) (fun _ => R _ (y_errorPosition w9 ok9 F)) (fun _ => y_load w9 ok9 fd F)
      (fun _ => y_about w9 ok9 fd F) (fun _ => y_tent w9 ok9 fd F) (fun _ => y_field w9 ok9 fd F) (fun _ => y_place w9 ok9 fd F) (fun _ => y_spare w9 ok9 fd F) (fun _ => y_frame w9 ok9 fd F)
      (fun _ => y_pitch w9 ok9 fd F) (fun _ => y_fill w9 ok9 fd F) (fun _ => y_enter w9 ok9 fd F) (fun _ => y_leave w9 ok9 fd F) (fun _ => y_jump w9 ok9 fd F) (fun _ => y_set w9 ok9 fd F)
      (fun _ => y_undo w9 ok9 fd F) (fun _ => y_where w9 ok9 fd F) (fun _ => y_givenUp w9 ok9 fd F) (fun _ => R _ (y_bestSize w9 ok9 F)) (fun _ => y_more w9 ok9 fd F) (fun _ => y_runScript w9 ok9 fd F)
      (fun _ => y_simulate w9 ok9 fd F) (fun _ => y_save w9 ok9 fd F) (fun _ => y_restore w9 ok9 fd F) (fun _ => R _ (b_L_law_1571 (F h _ rf w9 ok9)))
