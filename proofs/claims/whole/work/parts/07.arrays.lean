/-! arrays, new cells -/
section ARR
variable {m : AM} {d mc ms pc : Nat} {ls st : List Value} {h : AH} {Q : AR → AH → Prop}
theorem vF_lt {E : AE} {L : List Value} {n : Nat} {v : Value} (cA : ClassId) (h : L[n]? = some v) : (arrV cA L.length (vF E L)).slots[n]? = some (rv E v) := by
  rw [arrV_read _ _ (List.getElem?_eq_some_iff.mp h).1, vF_at h]
theorem KS.arr {E : AE} {U : State} (hK : KS E U) {k : Nat} (h1 : 10 ≤ k) (h2 : k < 14) (n : Nat) (z : Nat → Value) : U.isArrayOf (arrV (dA E k) n z) (aty k) := by
  have h9 := hK.1.2
  rcases (show k = 10 ∨ k = 11 ∨ k = 12 ∨ k = 13 by omega) with rfl | rfl | rfl | rfl
  · exact (h9 0 _ rfl).1 n z
  · exact (h9 1 _ rfl).1 n z
  · exact (h9 2 _ rfl).1 n z
  · exact (h9 3 _ rfl).1 n z
theorem arr_in {E : AE} {L : List Value} {n : Nat} {i : Int32} {v : Value} (cA : ClassId) (h0 : ¬ i < 0) (h : L[i.toNatClampNeg]? = some v) : ¬ (i < 0 ∨ (arrV cA L.length (vF E L)).slots.size ≤ i.toNatClampNeg) := by
  rw [arrV_size]
  have := (List.getElem?_eq_some_iff.mp h).1
  rintro (z | z)
  · exact h0 z
  · omega
theorem aw_iaload {a : Nat} {i : Int32} {x : Int32} (hd : decode m.2.1 pc = .ok (.iaload, 1)) (hv : sel h a 10 i (.int x)) (kk : AW m d mc ms (pc + 1) ls (.int x :: st) h Q) : AW m d mc ms pc ls (.int i :: .ref a :: st) h Q := by
  intro E p l e R s mi args below meth c QQ H locs cells slots lr hF hL hH hc hs hE
  have k9 := kk E p l e R s mi args below meth c QQ H locs cells slots lr hF hL hH hc hs hE
  obtain ⟨L, hcell, h0, hL1⟩ := hv
  have h1 := (hH.1.2.2.2 a _ hcell).2.1 (by show 10 ≤ 10; omega) (by show 10 < 14; omega)
  exact W.iald (v := .int x) hF.1 hF.2.1 h1 (hF.2.2.2.2.2.2.1.arr (k := 10) (by omega) (by omega) _ _) (fun z => by cases z) (arr_in (n := 0) _ h0 hL1) (vF_lt _ hL1) rfl rfl hd k9
theorem aw_laload {a : Nat} {i : Int32} {x : Int64} (hd : decode m.2.1 pc = .ok (.laload, 1)) (hv : sel h a 11 i (.long x)) (kk : AW m d mc ms (pc + 1) ls (.long x :: st) h Q) : AW m d mc ms pc ls (.int i :: .ref a :: st) h Q := by
  intro E p l e R s mi args below meth c QQ H locs cells slots lr hF hL hH hc hs hE
  have k9 := kk E p l e R s mi args below meth c QQ H locs cells slots lr hF hL hH hc hs hE
  obtain ⟨L, hcell, h0, hL1⟩ := hv
  have h1 := (hH.1.2.2.2 a _ hcell).2.1 (by show 10 ≤ 11; omega) (by show 11 < 14; omega)
  exact W.lald (v := .long x) hF.1 hF.2.1 h1 (hF.2.2.2.2.2.2.1.arr (k := 11) (by omega) (by omega) _ _) (fun z => by cases z) (arr_in (n := 0) _ h0 hL1) (vF_lt _ hL1) rfl rfl hd k9
theorem aw_baload {a : Nat} {i : Int32} {x : Int32} (hd : decode m.2.1 pc = .ok (.baload, 1)) (hv : sel h a 12 i (.int x)) (kk : AW m d mc ms (pc + 1) ls (.int x :: st) h Q) : AW m d mc ms pc ls (.int i :: .ref a :: st) h Q := by
  intro E p l e R s mi args below meth c QQ H locs cells slots lr hF hL hH hc hs hE
  have k9 := kk E p l e R s mi args below meth c QQ H locs cells slots lr hF hL hH hc hs hE
  obtain ⟨L, hcell, h0, hL1⟩ := hv
  have h1 := (hH.1.2.2.2 a _ hcell).2.1 (by show 10 ≤ 12; omega) (by show 12 < 14; omega)
  exact W.zald (v := .int x) hF.1 hF.2.1 h1 (hF.2.2.2.2.2.2.1.arr (k := 12) (by omega) (by omega) _ _) (fun z => by cases z) (arr_in (n := 0) _ h0 hL1) (vF_lt _ hL1) rfl rfl hd k9
theorem aw_aaload {a b : Nat} {i : Int32} (hd : decode m.2.1 pc = .ok (.aaload, 1)) (hv : sel h a 13 i (.ref b)) (kk : AW m d mc ms (pc + 1) ls (.ref b :: st) h Q) : AW m d mc ms pc ls (.int i :: .ref a :: st) h Q := by
  intro E p l e R s mi args below meth c QQ H locs cells slots lr hF hL hH hc hs hE
  have k9 := kk E p l e R s mi args below meth c QQ H locs cells slots lr hF hL hH hc hs hE
  obtain ⟨L, hcell, h0, hL1⟩ := hv
  have h1 := (hH.1.2.2.2 a _ hcell).2.1 (by show 10 ≤ 13; omega) (by show 13 < 14; omega)
  exact W.aald (v := .ref (ad E b)) hF.1 hF.2.1 h1 (hF.2.2.2.2.2.2.1.arr (k := 13) (by omega) (by omega) _ _) rfl (fun z => by cases z) (arr_in (n := 0) _ h0 hL1) (vF_lt _ hL1) rfl rfl hd k9
/-- the script, that lies at the address 0 -/
theorem aw_sload {a : Nat} {i : Int32} {x : Int32} (hd : decode m.2.1 pc = .ok (.iaload, 1)) (hv : sel h a 14 i (.int x)) (kk : AW m d mc ms (pc + 1) ls (.int x :: st) h Q) : AW m d mc ms pc ls (.int i :: .ref a :: st) h Q := by
  intro E p l e R s mi args below meth c QQ H locs cells slots lr hF hL hH hc hs hE
  have k9 := kk E p l e R s mi args below meth c QQ H locs cells slots lr hF hL hH hc hs hE
  obtain ⟨L, hcell, h0, hL1⟩ := hv
  obtain ⟨rfl, h2⟩ := (hH.1.2.2.2 a _ hcell).2.2 rfl
  simp only at h2
  subst h2
  obtain ⟨-, -, -, -, -, -, -, ⟨scr, g1, g2, g3, g4, g5⟩, hb, -⟩ := hF.2.2.2.2.2.2.1
  rw [List.getElem?_map] at hL1
  have hlt : i.toNatClampNeg < E.2.2.1.length := by
    cases hq : E.2.2.1[i.toNatClampNeg]? with
    | none => rw [hq] at hL1; cases hL1
    | some w => exact (List.getElem?_eq_some_iff.mp hq).1
  have hx : E.2.2.1.getD i.toNatClampNeg 0 = x := by
    rw [List.getElem?_eq_getElem hlt] at hL1
    simp at hL1
    simp [hlt, hL1]
  refine W.iald (v := .int x) (cell := scr) hF.1 hF.2.1 (a := ad E 0) ((hH.1.2.1 _ hb).trans g1) g2 g3 ?_ ?_ rfl rfl hd k9
  · rw [g4]
    rintro (z | z)
    · exact h0 z
    · omega
  · exact (g5 _ hlt).trans (by show some (Value.int (E.2.2.1.getD i.toNatClampNeg 0)) = _; rw [hx])
theorem aw_slen {a n : Nat} (hd : decode m.2.1 pc = .ok (.arraylength, 1)) (hv : alen h a 14 n) (kk : AW m d mc ms (pc + 1) ls (.int (Int32.ofNat n) :: st) h Q) : AW m d mc ms pc ls (.ref a :: st) h Q := by
  intro E p l e R s mi args below meth c QQ H locs cells slots lr hF hL hH hc hs hE
  have k9 := kk E p l e R s mi args below meth c QQ H locs cells slots lr hF hL hH hc hs hE
  obtain ⟨L, hcell, hn⟩ := hv
  obtain ⟨rfl, h2⟩ := (hH.1.2.2.2 a _ hcell).2.2 rfl
  simp only at h2
  subst h2
  obtain ⟨-, -, -, -, -, -, -, ⟨scr, g1, g2, g3, g4, g5⟩, hb, -⟩ := hF.2.2.2.2.2.2.1
  rw [List.length_map] at hn
  exact W.alen (n := Int32.ofNat n) (cell := scr) hF.1 hF.2.1 (a := ad E 0) ((hH.1.2.1 _ hb).trans g1) g2 (by rw [g4, hn]) rfl rfl hd k9
theorem aw_alen {a k n : Nat} (hd : decode m.2.1 pc = .ok (.arraylength, 1)) (hk1 : 10 ≤ k) (hk2 : k < 14) (hv : alen h a k n) (kk : AW m d mc ms (pc + 1) ls (.int (Int32.ofNat n) :: st) h Q) : AW m d mc ms pc ls (.ref a :: st) h Q := by
  intro E p l e R s mi args below meth c QQ H locs cells slots lr hF hL hH hc hs hE
  have k9 := kk E p l e R s mi args below meth c QQ H locs cells slots lr hF hL hH hc hs hE
  obtain ⟨L, hcell, hn⟩ := hv
  have h1 := (hH.1.2.2.2 a _ hcell).2.1 hk1 hk2
  exact W.alen (n := Int32.ofNat n) hF.1 hF.2.1 h1 (hF.2.2.2.2.2.2.1.arr hk1 hk2 _ _) (by rw [arrV_size, ← hn]) rfl rfl hd k9
theorem arrV_congr (cA : ClassId) {n : Nat} {f g : Nat → Value} (hfg : ∀ j, j < n → f j = g j) : arrV cA n f = arrV cA n g := by
  unfold arrV
  congr 1
  apply Array.ext
  · simp
  · intro j h1 h2
    simp at h1
    simp [hfg j h1]
theorem vF_set {E : AE} {L : List Value} (cA : ClassId) {n : Nat} {v : Value} (hn : n < L.length) : (arrV cA L.length (vF E L)).setSlot n (rv E v) = arrV cA (L.set n v).length (vF E (L.set n v)) := by
  rw [arrV_store, List.length_set]
  refine arrV_congr cA fun j hj => ?_
  by_cases hjn : j = n
  · subst hjn
    simp [updV, vF, hn]
  · simp [updV, vF, hjn, List.getElem?_set, Ne.symm hjn]
theorem HOK.sta {E : AE} {s : State} {H H1 : Heap} {locs : List Loc} {a k n : Nat} {L : List Value} {v : Value} (hH : HOK E s h H locs) (hcell : h[a]? = some (k, L)) (hk1 : 10 ≤ k) (hk2 : k < 14) (hn : n < L.length) (e1 : H1[ad E a]? = some ((arrV (dA E k) L.length (vF E L)).setSlot n (rv E v))) (e2 : H1.size = H.size) (e3 : ∀ q, q ≠ ad E a → H1[q]? = H[q]?) : HOK E s (stf h a n v) H1 (locs ++ [⟨ad E a, n⟩]) := by
  have hn0 := hH.1.ne0 hcell hk2
  refine ⟨?_, by rw [e2]; exact hH.2.1, fun z hz => ?_⟩
  · rw [stf_at hcell]
    refine hH.1.set hcell hk2 e2 e3 ⟨fun z => absurd hk1 (Nat.not_le.mpr z), fun _ _ => ?_, fun z => absurd z (by show k ≠ 14; omega)⟩
    rw [e1, vF_set _ hn]
  · rcases List.mem_append.mp hz with z1 | z1
    · exact hH.2.2 z z1
    · rw [List.mem_singleton.mp z1]
      exact ad_bs hn0
theorem aw_iastore {a : Nat} {i x : Int32} {v0 : Value} (hd : decode m.2.1 pc = .ok (.iastore, 1)) (hv : sel h a 10 i v0) (kk : AW m d mc ms (pc + 1) ls st (stf h a i.toNatClampNeg (.int x)) Q) : AW m d mc ms pc ls (.int x :: .int i :: .ref a :: st) h Q := by
  intro E p l e R s mi args below meth c QQ H locs cells slots lr hF hL hH hc hs hE
  obtain ⟨L, hcell, h0, hL1⟩ := hv
  have h1 := (hH.1.2.2.2 a _ hcell).2.1 (by show 10 ≤ 10; omega) (by show 10 < 14; omega)
  exact W.iast hF.1 hF.2.1 h1 (hF.2.2.2.2.2.2.1.arr (k := 10) (by omega) (by omega) _ _) (fun z => by cases z) (arr_in (n := 0) _ h0 hL1) rfl rfl hd (fun H1 e1 e2 e3 =>
    kk E p l e R s mi args below meth c QQ H1 _ cells slots lr hF hL (hH.sta (v := .int x) hcell (by omega) (by omega) (List.getElem?_eq_some_iff.mp hL1).1 e1 e2 e3) hc hs hE)
theorem aw_lastore {a : Nat} {i : Int32} {x : Int64} {v0 : Value} (hd : decode m.2.1 pc = .ok (.lastore, 1)) (hv : sel h a 11 i v0) (kk : AW m d mc ms (pc + 1) ls st (stf h a i.toNatClampNeg (.long x)) Q) : AW m d mc ms pc ls (.long x :: .int i :: .ref a :: st) h Q := by
  intro E p l e R s mi args below meth c QQ H locs cells slots lr hF hL hH hc hs hE
  obtain ⟨L, hcell, h0, hL1⟩ := hv
  have h1 := (hH.1.2.2.2 a _ hcell).2.1 (by show 10 ≤ 11; omega) (by show 11 < 14; omega)
  exact W.last hF.1 hF.2.1 h1 (hF.2.2.2.2.2.2.1.arr (k := 11) (by omega) (by omega) _ _) (fun z => by cases z) (arr_in (n := 0) _ h0 hL1) rfl rfl hd (fun H1 e1 e2 e3 =>
    kk E p l e R s mi args below meth c QQ H1 _ cells slots lr hF hL (hH.sta (v := .long x) hcell (by omega) (by omega) (List.getElem?_eq_some_iff.mp hL1).1 e1 e2 e3) hc hs hE)
theorem aw_bastore {a : Nat} {i x : Int32} {v0 : Value} (hd : decode m.2.1 pc = .ok (.bastore, 1)) (hv : sel h a 12 i v0) (hx : narrow .boolean (.int x) = .int x) (kk : AW m d mc ms (pc + 1) ls st (stf h a i.toNatClampNeg (.int x)) Q) : AW m d mc ms pc ls (.int x :: .int i :: .ref a :: st) h Q := by
  intro E p l e R s mi args below meth c QQ H locs cells slots lr hF hL hH hc hs hE
  obtain ⟨L, hcell, h0, hL1⟩ := hv
  have h1 := (hH.1.2.2.2 a _ hcell).2.1 (by show 10 ≤ 12; omega) (by show 12 < 14; omega)
  exact W.zast hF.1 hF.2.1 h1 (hF.2.2.2.2.2.2.1.arr (k := 12) (by omega) (by omega) _ _) (fun z => by cases z) (arr_in (n := 0) _ h0 hL1) rfl rfl hd (fun H1 e1 e2 e3 =>
    kk E p l e R s mi args below meth c QQ H1 _ cells slots lr hF hL (hH.sta (v := .int x) hcell (by omega) (by omega) (List.getElem?_eq_some_iff.mp hL1).1 (by rw [hx] at e1; exact e1) e2 e3) hc hs hE)
/-- an object of the kind 0 into an array of such -/
theorem aw_aastore {a b : Nat} {i : Int32} {v0 : Value} {fs : List Value} (hd : decode m.2.1 pc = .ok (.aastore, 1)) (hv : sel h a 13 i v0) (hb : h[b]? = some (0, fs)) (kk : AW m d mc ms (pc + 1) ls st (stf h a i.toNatClampNeg (.ref b)) Q) : AW m d mc ms pc ls (.ref b :: .int i :: .ref a :: st) h Q := by
  intro E p l e R s mi args below meth c QQ H locs cells slots lr hF hL hH hc hs hE
  obtain ⟨L, hcell, h0, hL1⟩ := hv
  have h1 := (hH.1.2.2.2 a _ hcell).2.1 (by show 10 ≤ 13; omega) (by show 13 < 14; omega)
  obtain ⟨q, hq, -, cell, g1, g2, g3, -⟩ := (hH.1.2.2.2 b _ hb).1 (by show 0 < 10; omega)
  cases hq
  have hK := hF.2.2.2.2.2.2.1.1
  have hcls := (hK.1 0 _ rfl).2
  obtain ⟨kA, comp, k1, k2, k3, -⟩ := (hK.2 3 _ rfl).2
  have hcomp : comp = (dG E).1 0 := Option.some.inj (k3.symm.trans hcls.1)
  subst hcomp
  obtain ⟨kC, hkC, -⟩ := hcls.2
  have hlt := (List.getElem?_eq_some_iff.mp hL1).1
  exact W.aast hF.1 hF.2.1 h1 (fun q z => by cases z) (fun z => by cases z) k1 k2 rfl hkC ⟨h0, by rw [arrV_size]; exact hlt⟩ g1 (fun q z => by rw [g3] at z; cases z) (by rw [g2]; exact hkC) (by rw [g2]; exact va_assign hcls) rfl rfl hd (fun H1 e1 e2 e3 =>
    kk E p l e R s mi args below meth c QQ H1 _ cells slots lr hF hL (hH.sta (v := .ref b) hcell (by omega) (by omega) hlt e1 e2 e3) hc hs hE)
/-- a new cell behind the others -/
theorem HOK.push {E : AE} {s : State} {H H1 : Heap} {locs : List Loc} {c0 : AC} (hH : HOK E s h H locs) (e2 : H1.size = H.size + 1) (e3 : ∀ q, q < H.size → H1[q]? = H[q]?) (hne : h.length ≠ 0) (hn : cOK E h.length c0 H1) (hk : c0.1 ≠ 14) : HOK E s (h ++ [c0]) H1 locs ∧ ad E h.length = H.size := by
  have h1 := hH.1.1
  have had : ad E h.length = H.size := by
    cases hl : h.length with
    | zero => exact absurd hl hne
    | succ n => rw [hl] at h1; simp only [ad]; unfold bs at h1; omega
  have hbs : bs E ≤ H.size := by omega
  refine ⟨⟨⟨by rw [List.length_append, e2]; simp; omega, fun q hq => (e3 q (by omega)).trans (hH.1.2.1 q hq), fun c hc => ?_, fun b c hb => ?_⟩, by rw [e2]; have := hH.2.1; omega, hH.2.2⟩, had⟩
  · rw [List.getElem?_append_left (by omega)] at hc
    exact hH.1.2.2.1 c hc
  · by_cases hbl : b < h.length
    · rw [List.getElem?_append_left hbl] at hb
      refine (hH.1.2.2.2 b c hb).kept fun hk => e3 _ ?_
      exact hH.1.lt hb (hH.1.ne0 hb hk)
    · rw [List.getElem?_append_right (by omega)] at hb
      have hz := (List.getElem?_eq_some_iff.mp hb).1
      simp at hz
      have hbe : b = h.length := by omega
      subst hbe
      simp at hb
      subst hb
      exact hn
/-- the fields of a new object of the kind k -/
def fresh (k : Nat) (fs : List Value) : Prop := ∃ (q : vw_C) (ty : Nat → FieldType), kls[k]? = some q ∧ k < 10 ∧ fs.length = q.2.2 ∧ (∀ w ∈ u_ws q.1 q.2.1 q.2.2, w ∈ gtbl) ∧ (∀ j, j < q.2.2 → parseFieldDescriptor (q.2.1 j).2.2.1 = some (ty j)) ∧ (∀ E j, j < q.2.2 → defaultValue (ty j) = vF E fs j) ∧ Cond.instantiable q.1 q.2.2 ∈ gtbl ∧ Cond.initialized q.1 ∈ gtbl
theorem aw_new {i k n : Nat} {q : vw_C} {fs : List Value} (hd : decode m.2.1 pc = .ok (.new i, 3)) (hq : kls[k]? = some q) (hn : q.2.2 = n) (hf : fresh k fs) (hw : Cond.classLink m.1.cls i q.1 ∈ gtbl) (hne : h.length ≠ 0) (kk : AW m d mc ms (pc + 3) ls (.ref h.length :: st) (h ++ [(k, fs)]) Q) : AW m d (mc + 1) (ms + n) pc ls st h Q := by
  intro E p l e R s mi args below meth c QQ H locs cells slots lr hF hL hH hc hs hE
  obtain ⟨q', ty, e1, hk10, hlen, hin, hty, hdf, hins, hini⟩ := hf
  cases hq.symm.trans e1
  subst hn
  have hKn := hF.2.2.2.2.2.2.1.1.1 k q hq
  have a6 := hF.2.2.2.2.2.1
  refine W.newcK hF.1 hF.2.1 hF.2.2.2.2.1 (a6 _ hw) (a6 _ hins) (a6 _ hini) rfl hd (by omega) (by omega) hKn.2.1 rfl fun H1 kC hkC e1 z1 o1 => ?_
  have hb0 := u_born ty a6 hin hKn hkC e1 hty
  have had : ad E h.length = H.size := by
    have h1 := hH.1.1
    cases hl : h.length with
    | zero => exact absurd hl hne
    | succ n => rw [hl] at h1; simp only [ad]; unfold bs at h1; omega
  have hp := hH.push (c0 := (k, fs)) z1 o1 hne ⟨fun _ => ⟨q, hq, hlen, by rw [had]; exact hb0.to (fun j hj => hdf E j hj)⟩, fun z => absurd z (Nat.not_le.mpr hk10), fun z => absurd z (by show k ≠ 14; omega)⟩ (by show k ≠ 14; omega)
  have k9 := kk E p l e R s mi args below meth c QQ H1 locs (cells + 1) (slots + q.2.2) lr hF hL hp.1 (by omega) (by omega) hE
  have e9 : (Value.ref h.length :: st).map (rv E) = .ref H.size :: st.map (rv E) := by simp [rv, had]
  rw [e9] at k9
  exact k9
theorem aw_newarr {at9 : ArrayType} {k : Nat} {n : Int32} (hd : decode m.2.1 pc = .ok (.newarray at9, 2)) (hat : newarray.typeOf at9 = aty k) (hk1 : 10 ≤ k) (hk2 : k < 13) (hn : ¬ n < 0) (hw : Cond.arrayClass (aty k) ∈ gtbl) (hbt : n.toNatClampNeg * componentBytes (aty k) ≤ 536870912) (hne : h.length ≠ 0) (kk : AW m d mc ms (pc + 2) ls (.ref h.length :: st) (h ++ [(k, List.replicate n.toNatClampNeg (defaultValue (aty k)))]) Q) : AW m d (mc + 1) (ms + n.toNatClampNeg) pc ls (.int n :: st) h Q := by
  intro E p l e R s mi args below meth c QQ H locs cells slots lr hF hL hH hc hs hE
  have a6 := hF.2.2.2.2.2.1
  have hKt : va_RA s (dA E k) (aty k) := by
    have h9 := hF.2.2.2.2.2.2.1.1.2
    rcases (show k = 10 ∨ k = 11 ∨ k = 12 by omega) with rfl | rfl | rfl
    · exact (h9 0 _ rfl).2
    · exact (h9 1 _ rfl).2
    · exact (h9 2 _ rfl).2
  have hnm : s.vm.findClass ("[" ++ (aty k).toString) = some (dA E k) := by
    rcases (show k = 10 ∨ k = 11 ∨ k = 12 by omega) with rfl | rfl | rfl <;> exact hKt
  have had : ad E h.length = H.size := by
    have h1 := hH.1.1
    cases hl : h.length with
    | zero => exact absurd hl hne
    | succ n => rw [hl] at h1; simp only [ad]; unfold bs at h1; omega
  refine W.newa hF.1 hF.2.1 (by rw [hat]; exact a6 _ hw) rfl hd rfl hn (by rw [hat]; exact hbt) (by omega) (by omega) fun cA kA comp f1 f2 f3 => ?_
  rw [hat] at f1
  have hcA : cA = dA E k := Option.some.inj (f1.symm.trans hnm)
  subst hcA
  have hdv : rv E (defaultValue (aty k)) = defaultValue (aty k) := by
    rcases (show k = 10 ∨ k = 11 ∨ k = 12 by omega) with rfl | rfl | rfl <;> rfl
  have hcl : cOK E h.length (k, List.replicate n.toNatClampNeg (defaultValue (aty k))) (H.push { cls := dA E k, slots := Array.replicate n.toNatClampNeg (defaultValue (aty k)), vm := .none }) := by
    refine ⟨fun z => absurd hk1 (Nat.not_le.mpr z), fun _ _ => ?_, fun z => absurd z (by show k ≠ 14; omega)⟩
    rw [had, arrV_new]
    simp only [Array.getElem?_push_size, Option.some.injEq, List.length_replicate]
    refine arrV_congr _ fun j hj => ?_
    simp [vF, List.getElem?_replicate, hj, hdv]
  have hp := hH.push (H1 := H.push { cls := dA E k, slots := Array.replicate n.toNatClampNeg (defaultValue (aty k)), vm := .none }) (by simp) (fun q hq => by rw [Array.getElem?_push, if_neg (Nat.ne_of_lt hq)]) hne hcl (by show k ≠ 14; omega)
  have k9 := kk E p l e R s mi args below meth c QQ _ locs (cells + 1) (slots + n.toNatClampNeg) lr hF hL hp.1 (by omega) (by omega) hE
  have e9 : (Value.ref h.length :: st).map (rv E) = .ref H.size :: st.map (rv E) := by simp [rv, had]
  rw [e9] at k9
  rw [hat]
  exact k9
theorem aw_newrefs {i : Nat} {n : Int32} (hd : decode m.2.1 pc = .ok (.anewarray i, 3)) (hw : Cond.classLink m.1.cls i RX0 ∈ gtbl) (hn : ¬ n < 0) (hbt : n.toNatClampNeg * 4 ≤ 536870912) (hne : h.length ≠ 0) (kk : AW m d mc ms (pc + 3) ls (.ref h.length :: st) (h ++ [(13, List.replicate n.toNatClampNeg .null)]) Q) : AW m d (mc + 1) (ms + n.toNatClampNeg) pc ls (.int n :: st) h Q := by
  intro E p l e R s mi args below meth c QQ H locs cells slots lr hF hL hH hc hs hE
  have a6 := hF.2.2.2.2.2.1
  have hKS := hF.2.2.2.2.2.2.1
  obtain ⟨kA0, comp0, k1, k2, k3, hnm⟩ := (hKS.1.2 3 _ rfl).2
  have had : ad E h.length = H.size := by
    have h1 := hH.1.1
    cases hl : h.length with
    | zero => exact absurd hl hne
    | succ n => rw [hl] at h1; simp only [ad]; unfold bs at h1; omega
  refine W.anew hF.1 hF.2.1 hF.2.2.2.2.1 (a6 _ hw) (va_AO.use hKS.2.2.2.2.2.2.2.2.2) rfl hd rfl hn hbt (by omega) (by omega) fun cA kA comp f1 f2 f3 f4 => ?_
  have hcA : cA = dA E 13 := Option.some.inj (f1.symm.trans hnm)
  subst hcA
  have hcl : cOK E h.length (13, List.replicate n.toNatClampNeg .null) (H.push { cls := dA E 13, slots := Array.replicate n.toNatClampNeg .null, vm := .none }) := by
    refine ⟨fun z => absurd z (by show ¬ 13 < 10; omega), fun _ _ => ?_, fun z => absurd z (by show 13 ≠ 14; omega)⟩
    rw [had, arrV_new]
    simp only [Array.getElem?_push_size, Option.some.injEq, List.length_replicate]
    refine arrV_congr _ fun j hj => ?_
    simp [vF, List.getElem?_replicate, hj, rv]
  have hp := hH.push (H1 := H.push { cls := dA E 13, slots := Array.replicate n.toNatClampNeg .null, vm := .none }) (by simp) (fun q hq => by rw [Array.getElem?_push, if_neg (Nat.ne_of_lt hq)]) hne hcl (by show 13 ≠ 14; omega)
  have k9 := kk E p l e R s mi args below meth c QQ _ locs (cells + 1) (slots + n.toNatClampNeg) lr hF hL hp.1 (by omega) (by omega) hE
  have e9 : (Value.ref h.length :: st).map (rv E) = .ref H.size :: st.map (rv E) := by simp [rv, had]
  rw [e9] at k9
  exact k9
end ARR
