section LHELP
variable {h : AH} {sc : List Value} {σ σ1 : ST} {rf K V : Int} {P : AH → Prop}
theorem l_append {a : Int} (hw : LW h sc σ σ rf) (c : CtX mX8_append 6 1 6 [.ref 1, .int (iN a)] h (oX 0 1 K V P)) (hP : ∀ h1, P h1 → cw h1 σ1 ∧ Off h h1 1 642) :
    CtI mL_append 7 1 6 [.ref 1, .int (iN a), .ref 650] h (fun w h1 => w = K ∧ MD h1 sc σ1 σ rf K V) := by
  refine en_L_append (b_L_append_0 (mc := 0) (ms := 0) hw.o8 c oX.cv ?_ ?_ ?_ ?_)
  · exact fun x h1 q => oX.cx q
  · exact fun h1 n q => b_L_append_13 (rI ⟨(oX.k1 q (by omega)).symm, hw.gj hP q.2 n (by rw [oX.k1 q (by omega)]; omega)⟩)
  · exact fun h1 n q => b_L_append_16 (rI ⟨(oX.k2 q (by omega)).symm, hw.gj hP q.2 n (by rw [oX.k2 q (by omega)]; omega)⟩)
  · intro v h1 q
    have e := oX.k q
    obtain ⟨z, g⟩ := hw.gs hP q.2
    exact b_L_append_7 g (rI ⟨e.1.symm, hw.gv hP q.2 e.1 e.2⟩)
theorem l_load (hw : LW h sc σ σ rf) (hK : K ≠ 2) (c : CtX mX8_load 7 1 6 [.ref 1] h (oX 1 1 K V P)) (hP : ∀ h1, P h1 → cw h1 σ1 ∧ Off h h1 1 642) :
    CtI mL_load 8 1 6 [.ref 1, .ref 650] h (fun w h1 => w = K ∧ MD h1 sc σ1 σ rf K V) := by
  refine en_L_load (b_L_load_0 (mc := 0) (ms := 0) hw.o8 c oX.cv ?_ ?_ ?_)
  · exact fun x h1 q => oX.c1 q
  · exact fun h1 n q => b_L_load_12 (rI ⟨(oX.k0 q hK).symm, hw.gj hP q.2 n (by rw [oX.k0 q hK]; omega)⟩)
  · intro v h1 q
    have e := oX.k q
    obtain ⟨z, g⟩ := hw.gs hP q.2
    exact b_L_load_6 g (rI ⟨e.1.symm, hw.gv hP q.2 e.1 e.2⟩)
theorem l_about {a : Int} (hw : LW h sc σ σ rf) (hK : K ≠ 2) (c : CtX mX8_about 6 1 6 [.ref 1, .int (iN a)] h (oX 0 0 K V P)) (hP : ∀ h1, P h1 → cw h1 σ1 ∧ Off h h1 1 642) :
    CtI mL_about 7 1 6 [.ref 1, .int (iN a), .ref 650] h (fun w h1 => w = K ∧ MD h1 sc σ1 σ rf K V) := by
  refine en_L_about (b_L_about_0 (mc := 0) (ms := 0) hw.o8 c oX.cv ?_ ?_ ?_)
  · exact fun x h1 q => oX.c1 q
  · exact fun h1 n q => b_L_about_13 (rI ⟨(oX.k0 q hK).symm, hw.gj hP q.2 n (by rw [oX.k0 q hK]; omega)⟩)
  · intro v h1 q
    have e := oX.k q
    obtain ⟨z, g⟩ := hw.gs hP q.2
    exact b_L_about_7 g (rI ⟨e.1.symm, hw.gv hP q.2 e.1 e.2⟩)
theorem l_tent {a b : Int} (hw : LW h sc σ σ rf) (c : CtX mX8_tent 6 1 6 [.ref 1, .int (iN a), .int (iN b)] h (oX 2 0 K V P)) (hP : ∀ h1, P h1 → cw h1 σ1 ∧ Off h h1 1 642) :
    CtI mL_tent 7 1 6 [.ref 1, .int (iN a), .int (iN b), .ref 650] h (fun w h1 => w = K ∧ MD h1 sc σ1 σ rf K V) := by
  refine en_L_tent (b_L_tent_0 (mc := 0) (ms := 0) hw.o8 c oX.cv ?_ ?_ ?_ ?_)
  · exact fun x h1 q => oX.cx q
  · exact fun h1 n q => b_L_tent_15 (rI ⟨(oX.k1 q (by omega)).symm, hw.gj hP q.2 n (by rw [oX.k1 q (by omega)]; omega)⟩)
  · exact fun h1 n q => b_L_tent_19 (rI ⟨(oX.k2 q (by omega)).symm, hw.gj hP q.2 n (by rw [oX.k2 q (by omega)]; omega)⟩)
  · intro v h1 q
    have e := oX.k q
    obtain ⟨z, g⟩ := hw.gs hP q.2
    exact b_L_tent_8 g (rI ⟨e.1.symm, hw.gv hP q.2 e.1 e.2⟩)
theorem l_field {a b : Int} (hw : LW h sc σ σ rf) (c : CtX mX8_field 6 1 6 [.ref 1, .int (iN a), .int (iN b)] h (oX 2 0 K V P)) (hP : ∀ h1, P h1 → cw h1 σ1 ∧ Off h h1 1 642) :
    CtI mL_field 7 1 6 [.ref 1, .int (iN a), .int (iN b), .ref 650] h (fun w h1 => w = K ∧ MD h1 sc σ1 σ rf K V) := by
  refine en_L_field (b_L_field_0 (mc := 0) (ms := 0) hw.o8 c oX.cv ?_ ?_ ?_ ?_)
  · exact fun x h1 q => oX.cx q
  · exact fun h1 n q => b_L_field_15 (rI ⟨(oX.k1 q (by omega)).symm, hw.gj hP q.2 n (by rw [oX.k1 q (by omega)]; omega)⟩)
  · exact fun h1 n q => b_L_field_19 (rI ⟨(oX.k2 q (by omega)).symm, hw.gj hP q.2 n (by rw [oX.k2 q (by omega)]; omega)⟩)
  · intro v h1 q
    have e := oX.k q
    obtain ⟨z, g⟩ := hw.gs hP q.2
    exact b_L_field_8 g (rI ⟨e.1.symm, hw.gv hP q.2 e.1 e.2⟩)
theorem l_place {a b : Int} (hw : LW h sc σ σ rf) (hK : K ≠ 2) (c : CtX mX8_place 6 1 6 [.ref 1, .int (iN a), .int (iN b)] h (oX 2 2 K V P)) (hP : ∀ h1, P h1 → cw h1 σ1 ∧ Off h h1 1 642) :
    CtI mL_place 7 1 6 [.ref 1, .int (iN a), .int (iN b), .ref 650] h (fun w h1 => w = K ∧ MD h1 sc σ1 σ rf K V) := by
  refine en_L_place (b_L_place_0 (mc := 0) (ms := 0) hw.o8 c oX.cv ?_ ?_ ?_)
  · exact fun x h1 q => oX.c1 q
  · exact fun h1 n q => b_L_place_15 (rI ⟨(oX.k0 q hK).symm, hw.gj hP q.2 n (by rw [oX.k0 q hK]; omega)⟩)
  · intro v h1 q
    have e := oX.k q
    obtain ⟨z, g⟩ := hw.gs hP q.2
    exact b_L_place_8 g (rI ⟨e.1.symm, hw.gv hP q.2 e.1 e.2⟩)
theorem l_spare {a : Int} (hw : LW h sc σ σ rf) (hK : K ≠ 2) (c : CtX mX8_spare 6 1 6 [.ref 1, .int (iN a)] h (oX 0 0 K V P)) (hP : ∀ h1, P h1 → cw h1 σ1 ∧ Off h h1 1 642) :
    CtI mL_spare 7 1 6 [.ref 1, .int (iN a), .ref 650] h (fun w h1 => w = K ∧ MD h1 sc σ1 σ rf K V) := by
  refine en_L_spare (b_L_spare_0 (mc := 0) (ms := 0) hw.o8 c oX.cv ?_ ?_ ?_)
  · exact fun x h1 q => oX.c1 q
  · exact fun h1 n q => b_L_spare_13 (rI ⟨(oX.k0 q hK).symm, hw.gj hP q.2 n (by rw [oX.k0 q hK]; omega)⟩)
  · intro v h1 q
    have e := oX.k q
    obtain ⟨z, g⟩ := hw.gs hP q.2
    exact b_L_spare_7 g (rI ⟨e.1.symm, hw.gv hP q.2 e.1 e.2⟩)
theorem l_frame {a b : Int} (hw : LW h sc σ σ rf) (c : CtX mX8_frame 6 1 6 [.ref 1, .int (iN a), .int (iN b)] h (oX 2 0 K V P)) (hP : ∀ h1, P h1 → cw h1 σ1 ∧ Off h h1 1 642) :
    CtI mL_frame 7 1 6 [.ref 1, .int (iN a), .int (iN b), .ref 650] h (fun w h1 => w = K ∧ MD h1 sc σ1 σ rf K V) := by
  refine en_L_frame (b_L_frame_0 (mc := 0) (ms := 0) hw.o8 c oX.cv ?_ ?_ ?_ ?_)
  · exact fun x h1 q => oX.cx q
  · exact fun h1 n q => b_L_frame_15 (rI ⟨(oX.k1 q (by omega)).symm, hw.gj hP q.2 n (by rw [oX.k1 q (by omega)]; omega)⟩)
  · exact fun h1 n q => b_L_frame_19 (rI ⟨(oX.k2 q (by omega)).symm, hw.gj hP q.2 n (by rw [oX.k2 q (by omega)]; omega)⟩)
  · intro v h1 q
    have e := oX.k q
    obtain ⟨z, g⟩ := hw.gs hP q.2
    exact b_L_frame_8 g (rI ⟨e.1.symm, hw.gv hP q.2 e.1 e.2⟩)
theorem l_pitch {a b : Int} (hw : LW h sc σ σ rf) (c : CtX mX8_pitch 7 1 6 [.ref 1, .int (iN a), .int (iN b)] h (oX 0 1 K V P)) (hP : ∀ h1, P h1 → cw h1 σ1 ∧ Off h h1 1 642) :
    CtI mL_pitch 8 1 6 [.ref 1, .int (iN a), .int (iN b), .ref 650] h (fun w h1 => w = K ∧ MD h1 sc σ1 σ rf K V) := by
  refine en_L_pitch (b_L_pitch_0 (mc := 0) (ms := 0) hw.o8 c oX.cv ?_ ?_ ?_ ?_)
  · exact fun x h1 q => oX.cx q
  · exact fun h1 n q => b_L_pitch_15 (rI ⟨(oX.k1 q (by omega)).symm, hw.gj hP q.2 n (by rw [oX.k1 q (by omega)]; omega)⟩)
  · exact fun h1 n q => b_L_pitch_19 (rI ⟨(oX.k2 q (by omega)).symm, hw.gj hP q.2 n (by rw [oX.k2 q (by omega)]; omega)⟩)
  · intro v h1 q
    have e := oX.k q
    obtain ⟨z, g⟩ := hw.gs hP q.2
    exact b_L_pitch_8 g (rI ⟨e.1.symm, hw.gv hP q.2 e.1 e.2⟩)
theorem l_fill {a b : Int} (hw : LW h sc σ σ rf) (c : CtX mX8_fill 7 1 6 [.ref 1, .int (iN a), .int (iN b)] h (oX 2 0 K V P)) (hP : ∀ h1, P h1 → cw h1 σ1 ∧ Off h h1 1 642) :
    CtI mL_fill 8 1 6 [.ref 1, .int (iN a), .int (iN b), .ref 650] h (fun w h1 => w = K ∧ MD h1 sc σ1 σ rf K V) := by
  refine en_L_fill (b_L_fill_0 (mc := 0) (ms := 0) hw.o8 c oX.cv ?_ ?_ ?_ ?_)
  · exact fun x h1 q => oX.cx q
  · exact fun h1 n q => b_L_fill_15 (rI ⟨(oX.k1 q (by omega)).symm, hw.gj hP q.2 n (by rw [oX.k1 q (by omega)]; omega)⟩)
  · exact fun h1 n q => b_L_fill_19 (rI ⟨(oX.k2 q (by omega)).symm, hw.gj hP q.2 n (by rw [oX.k2 q (by omega)]; omega)⟩)
  · intro v h1 q
    have e := oX.k q
    obtain ⟨z, g⟩ := hw.gs hP q.2
    exact b_L_fill_8 g (rI ⟨e.1.symm, hw.gv hP q.2 e.1 e.2⟩)
theorem l_enter (hw : LW h sc σ σ rf) (hK : K ≠ 2) (c : CtX mX8_enter 7 1 6 [.ref 1] h (oX 1 1 K V P)) (hP : ∀ h1, P h1 → cw h1 σ1 ∧ Off h h1 1 642) :
    CtI mL_enter 8 1 6 [.ref 1, .ref 650] h (fun w h1 => w = K ∧ MD h1 sc σ1 σ rf K V) := by
  refine en_L_enter (b_L_enter_0 (mc := 0) (ms := 0) hw.o8 c oX.cv ?_ ?_ ?_)
  · exact fun x h1 q => oX.c1 q
  · exact fun h1 n q => b_L_enter_12 (rI ⟨(oX.k0 q hK).symm, hw.gj hP q.2 n (by rw [oX.k0 q hK]; omega)⟩)
  · intro v h1 q
    have e := oX.k q
    obtain ⟨z, g⟩ := hw.gs hP q.2
    exact b_L_enter_6 g (rI ⟨e.1.symm, hw.gv hP q.2 e.1 e.2⟩)
theorem l_leave (hw : LW h sc σ σ rf) (hK : K ≠ 2) (c : CtX mX8_leave 7 1 6 [.ref 1] h (oX 1 1 K V P)) (hP : ∀ h1, P h1 → cw h1 σ1 ∧ Off h h1 1 642) :
    CtI mL_leave 8 1 6 [.ref 1, .ref 650] h (fun w h1 => w = K ∧ MD h1 sc σ1 σ rf K V) := by
  refine en_L_leave (b_L_leave_0 (mc := 0) (ms := 0) hw.o8 c oX.cv ?_ ?_ ?_)
  · exact fun x h1 q => oX.c1 q
  · exact fun h1 n q => b_L_leave_12 (rI ⟨(oX.k0 q hK).symm, hw.gj hP q.2 n (by rw [oX.k0 q hK]; omega)⟩)
  · intro v h1 q
    have e := oX.k q
    obtain ⟨z, g⟩ := hw.gs hP q.2
    exact b_L_leave_6 g (rI ⟨e.1.symm, hw.gv hP q.2 e.1 e.2⟩)
theorem l_jump {a : Int} (hw : LW h sc σ σ rf) (hK : K ≠ 2) (c : CtX mX8_jump 7 1 6 [.ref 1, .int (iN a)] h (oX 2 2 K V P)) (hP : ∀ h1, P h1 → cw h1 σ1 ∧ Off h h1 1 642) :
    CtI mL_jump 8 1 6 [.ref 1, .int (iN a), .ref 650] h (fun w h1 => w = K ∧ MD h1 sc σ1 σ rf K V) := by
  refine en_L_jump (b_L_jump_0 (mc := 0) (ms := 0) hw.o8 c oX.cv ?_ ?_ ?_)
  · exact fun x h1 q => oX.c1 q
  · exact fun h1 n q => b_L_jump_13 (rI ⟨(oX.k0 q hK).symm, hw.gj hP q.2 n (by rw [oX.k0 q hK]; omega)⟩)
  · intro v h1 q
    have e := oX.k q
    obtain ⟨z, g⟩ := hw.gs hP q.2
    exact b_L_jump_7 g (rI ⟨e.1.symm, hw.gv hP q.2 e.1 e.2⟩)
theorem l_set {a b : Int} (hw : LW h sc σ σ rf) (hK : K ≠ 2) (c : CtX mX8_set 7 1 6 [.ref 1, .int (iN a), .int (iN b)] h (oX 0 0 K V P)) (hP : ∀ h1, P h1 → cw h1 σ1 ∧ Off h h1 1 642) :
    CtI mL_set 8 1 6 [.ref 1, .int (iN a), .int (iN b), .ref 650] h (fun w h1 => w = K ∧ MD h1 sc σ1 σ rf K V) := by
  refine en_L_set (b_L_set_0 (mc := 0) (ms := 0) hw.o8 c oX.cv ?_ ?_ ?_)
  · exact fun x h1 q => oX.c1 q
  · exact fun h1 n q => b_L_set_15 (rI ⟨(oX.k0 q hK).symm, hw.gj hP q.2 n (by rw [oX.k0 q hK]; omega)⟩)
  · intro v h1 q
    have e := oX.k q
    obtain ⟨z, g⟩ := hw.gs hP q.2
    exact b_L_set_8 g (rI ⟨e.1.symm, hw.gv hP q.2 e.1 e.2⟩)
theorem l_undo (hw : LW h sc σ σ rf) (hK : K ≠ 2) (c : CtX mX8_undo 7 1 6 [.ref 1] h (oX 1 1 K V P)) (hP : ∀ h1, P h1 → cw h1 σ1 ∧ Off h h1 1 642) :
    CtI mL_undo 8 1 6 [.ref 1, .ref 650] h (fun w h1 => w = K ∧ MD h1 sc σ1 σ rf K V) := by
  refine en_L_undo (b_L_undo_0 (mc := 0) (ms := 0) hw.o8 c oX.cv ?_ ?_ ?_)
  · exact fun x h1 q => oX.c1 q
  · exact fun h1 n q => b_L_undo_12 (rI ⟨(oX.k0 q hK).symm, hw.gj hP q.2 n (by rw [oX.k0 q hK]; omega)⟩)
  · intro v h1 q
    have e := oX.k q
    obtain ⟨z, g⟩ := hw.gs hP q.2
    exact b_L_undo_6 g (rI ⟨e.1.symm, hw.gv hP q.2 e.1 e.2⟩)
theorem l_where {a b : Int} (hw : LW h sc σ σ rf) (hK : K ≠ 2) (c : CtX mX8_where 6 1 6 [.ref 1, .int (iN a), .int (iN b)] h (oX 0 0 K V P)) (hP : ∀ h1, P h1 → cw h1 σ1 ∧ Off h h1 1 642) :
    CtI mL_where 7 1 6 [.ref 1, .int (iN a), .int (iN b), .ref 650] h (fun w h1 => w = K ∧ MD h1 sc σ1 σ rf K V) := by
  refine en_L_where (b_L_where_0 (mc := 0) (ms := 0) hw.o8 c oX.cv ?_ ?_ ?_)
  · exact fun x h1 q => oX.c1 q
  · exact fun h1 n q => b_L_where_15 (rI ⟨(oX.k0 q hK).symm, hw.gj hP q.2 n (by rw [oX.k0 q hK]; omega)⟩)
  · intro v h1 q
    have e := oX.k q
    obtain ⟨z, g⟩ := hw.gs hP q.2
    exact b_L_where_8 g (rI ⟨e.1.symm, hw.gv hP q.2 e.1 e.2⟩)
theorem l_givenUp {a : Int} (hw : LW h sc σ σ rf) (hK : K ≠ 2) (c : CtX mX8_givenUp 6 1 6 [.ref 1, .int (iN a)] h (oX 2 2 K V P)) (hP : ∀ h1, P h1 → cw h1 σ1 ∧ Off h h1 1 642) :
    CtI mL_givenUp 7 1 6 [.ref 1, .int (iN a), .ref 650] h (fun w h1 => w = K ∧ MD h1 sc σ1 σ rf K V) := by
  refine en_L_givenUp (b_L_givenUp_0 (mc := 0) (ms := 0) hw.o8 c oX.cv ?_ ?_ ?_)
  · exact fun x h1 q => oX.c1 q
  · exact fun h1 n q => b_L_givenUp_13 (rI ⟨(oX.k0 q hK).symm, hw.gj hP q.2 n (by rw [oX.k0 q hK]; omega)⟩)
  · intro v h1 q
    have e := oX.k q
    obtain ⟨z, g⟩ := hw.gs hP q.2
    exact b_L_givenUp_7 g (rI ⟨e.1.symm, hw.gv hP q.2 e.1 e.2⟩)
theorem l_more {a b : Int} (hw : LW h sc σ σ rf) (hK : K ≠ 2) (c : CtX mX8_more 6 1 6 [.ref 1, .int (iN a), .int (iN b)] h (oX 0 0 K V P)) (hP : ∀ h1, P h1 → cw h1 σ1 ∧ Off h h1 1 642) :
    CtI mL_more 7 1 6 [.ref 1, .int (iN a), .int (iN b), .ref 650] h (fun w h1 => w = K ∧ MD h1 sc σ1 σ rf K V) := by
  refine en_L_more (b_L_more_0 (mc := 0) (ms := 0) hw.o8 c oX.cv ?_ ?_ ?_)
  · exact fun x h1 q => oX.c1 q
  · exact fun h1 n q => b_L_more_15 (rI ⟨(oX.k0 q hK).symm, hw.gj hP q.2 n (by rw [oX.k0 q hK]; omega)⟩)
  · intro v h1 q
    have e := oX.k q
    obtain ⟨z, g⟩ := hw.gs hP q.2
    exact b_L_more_8 g (rI ⟨e.1.symm, hw.gv hP q.2 e.1 e.2⟩)
theorem l_runScript {a b : Int} (hw : LW h sc σ σ rf) (hK : K ≠ 2) (c : CtX mX8_runScript 7 1 6 [.ref 1, .int (iN a), .long (jN b)] h (oX 0 0 K V P)) (hP : ∀ h1, P h1 → cw h1 σ1 ∧ Off h h1 1 642) :
    CtI mL_runScript 8 1 6 [.ref 1, .int (iN a), .long (jN b), .ref 650] h (fun w h1 => w = K ∧ MD h1 sc σ1 σ rf K V) := by
  refine en_L_runScript (b_L_runScript_0 (mc := 0) (ms := 0) hw.o8 c oX.cv ?_ ?_ ?_)
  · exact fun x h1 q => oX.c1 q
  · exact fun h1 n q => b_L_runScript_16 (rI ⟨(oX.k0 q hK).symm, hw.gj hP q.2 n (by rw [oX.k0 q hK]; omega)⟩)
  · intro v h1 q
    have e := oX.k q
    obtain ⟨z, g⟩ := hw.gs hP q.2
    exact b_L_runScript_9 g (rI ⟨e.1.symm, hw.gv hP q.2 e.1 e.2⟩)
theorem l_simulate {a b : Int} (hw : LW h sc σ σ rf) (hK : K ≠ 2) (c : CtX mX8_simulate 7 1 6 [.ref 1, .long (jN a), .int (iN b)] h (oX 0 0 K V P)) (hP : ∀ h1, P h1 → cw h1 σ1 ∧ Off h h1 1 642) :
    CtI mL_simulate 8 1 6 [.ref 1, .long (jN a), .int (iN b), .ref 650] h (fun w h1 => w = K ∧ MD h1 sc σ1 σ rf K V) := by
  refine en_L_simulate (b_L_simulate_0 (mc := 0) (ms := 0) hw.o8 c oX.cv ?_ ?_ ?_)
  · exact fun x h1 q => oX.c1 q
  · exact fun h1 n q => b_L_simulate_16 (rI ⟨(oX.k0 q hK).symm, hw.gj hP q.2 n (by rw [oX.k0 q hK]; omega)⟩)
  · intro v h1 q
    have e := oX.k q
    obtain ⟨z, g⟩ := hw.gs hP q.2
    exact b_L_simulate_9 g (rI ⟨e.1.symm, hw.gv hP q.2 e.1 e.2⟩)
theorem l_save {a : Int} (hw : LW h sc σ σ rf) (hK : K ≠ 2) (c : CtX mX8_save 6 1 6 [.ref 1, .int (iN a)] h (oX 2 2 K V P)) (hP : ∀ h1, P h1 → cw h1 σ1 ∧ Off h h1 1 642) :
    CtI mL_save 7 1 6 [.ref 1, .int (iN a), .ref 650] h (fun w h1 => w = K ∧ MD h1 sc σ1 σ rf K V) := by
  refine en_L_save (b_L_save_0 (mc := 0) (ms := 0) hw.o8 c oX.cv ?_ ?_ ?_)
  · exact fun x h1 q => oX.c1 q
  · exact fun h1 n q => b_L_save_13 (rI ⟨(oX.k0 q hK).symm, hw.gj hP q.2 n (by rw [oX.k0 q hK]; omega)⟩)
  · intro v h1 q
    have e := oX.k q
    obtain ⟨z, g⟩ := hw.gs hP q.2
    exact b_L_save_7 g (rI ⟨e.1.symm, hw.gv hP q.2 e.1 e.2⟩)
theorem l_restore {a : Int} (hw : LW h sc σ σ rf) (c : CtX mX8_restore 6 1 6 [.ref 1, .int (iN a)] h (oX 2 1 K V P)) (hP : ∀ h1, P h1 → cw h1 σ1 ∧ Off h h1 1 642) :
    CtI mL_restore 7 1 6 [.ref 1, .int (iN a), .ref 650] h (fun w h1 => w = K ∧ MD h1 sc σ1 σ rf K V) := by
  refine en_L_restore (b_L_restore_0 (mc := 0) (ms := 0) hw.o8 c oX.cv ?_ ?_ ?_ ?_)
  · exact fun x h1 q => oX.cx q
  · exact fun h1 n q => b_L_restore_13 (rI ⟨(oX.k1 q (by omega)).symm, hw.gj hP q.2 n (by rw [oX.k1 q (by omega)]; omega)⟩)
  · exact fun h1 n q => b_L_restore_16 (rI ⟨(oX.k2 q (by omega)).symm, hw.gj hP q.2 n (by rw [oX.k2 q (by omega)]; omega)⟩)
  · intro v h1 q
    have e := oX.k q
    obtain ⟨z, g⟩ := hw.gs hP q.2
    exact b_L_restore_7 g (rI ⟨e.1.symm, hw.gv hP q.2 e.1 e.2⟩)
end LHELP
