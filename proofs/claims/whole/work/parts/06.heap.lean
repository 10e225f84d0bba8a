/-! fields and arrays -/
/-- the field j of the object a, of the kind k, is v -/
def fld (h : AH) (a k j : Nat) (v : Value) : Prop := ∃ fs, h[a]? = some (k, fs) ∧ fs[j]? = some v
/-- the place i of the array a, of the kind k, is v -/
def sel (h : AH) (a k : Nat) (i : Int32) (v : Value) : Prop := ∃ L, h[a]? = some (k, L) ∧ ¬ i < 0 ∧ L[i.toNatClampNeg]? = some v
def alen (h : AH) (a k n : Nat) : Prop := ∃ L, h[a]? = some (k, L) ∧ L.length = n
/-- a cell's slot gets a value -/
def stf (h : AH) (a j : Nat) (v : Value) : AH := match h[a]? with
  | some c => h.set a (c.1, c.2.set j v)
  | none => h
theorem stf_at {h : AH} {a j k : Nat} {v : Value} {fs : List Value} (hc : h[a]? = some (k, fs)) : stf h a j v = h.set a (k, fs.set j v) := by
  unfold stf
  rw [hc]
/-- a class: its words are among the good ones, its fields' types are read, their names differ -/
def KLS (q : vw_C) : Prop := (∀ w ∈ u_ws q.1 q.2.1 q.2.2, w ∈ gtbl) ∧ (∃ ty : Nat → FieldType, ∀ j, j < q.2.2 → parseFieldDescriptor (q.2.1 j).2.2.1 = some (ty j)) ∧ ∀ a, a < q.2.2 → ∀ b, b < q.2.2 → a ≠ b → (q.2.1 a).2.1 ≠ (q.2.1 b).2.1
/-- entry i of own's pool is the field j of the kind k -/
def FL (own : String) (i k j : Nat) (q : vw_C) : Prop := kls[k]? = some q ∧ k < 10 ∧ j < q.2.2 ∧ KLS q ∧
  (Cond.fieldLink own i (q.2.1 j).1 (q.2.1 j).2.1 (q.2.1 j).2.2.1 ∈ gtbl ∨ ∃ host, Cond.fieldLinkNest own i (q.2.1 j).1 (q.2.1 j).2.1 (q.2.1 j).2.2.1 host ∈ lw_tbl)
theorem cOK.kept {E : AE} {a : Nat} {c : AC} {H H1 : Heap} (h : cOK E a c H) (hq : c.1 < 14 → H1[ad E a]? = H[ad E a]?) : cOK E a c H1 :=
  ⟨fun hk => by
    obtain ⟨q, h1, h2, h3⟩ := h.1 hk
    exact ⟨q, h1, h2, h3.kept (hq (by omega))⟩, fun h1 h2 => (hq h2).trans (h.2.1 h1 h2), h.2.2⟩
theorem ad_ne {E : AE} {a b : Nat} (ha : a ≠ 0) (hb : b ≠ 0) (h : a ≠ b) : ad E a ≠ ad E b := by
  cases a with
  | zero => exact absurd rfl ha
  | succ a => cases b with
    | zero => exact absurd rfl hb
    | succ b => simp [ad]; omega
theorem ad_bs {E : AE} {a : Nat} (ha : a ≠ 0) : bs E ≤ ad E a := by
  cases a with
  | zero => exact absurd rfl ha
  | succ a => simp [ad, bs]
theorem Rel.ne0 {E : AE} {h : AH} {H : Heap} {a : Nat} {c : AC} (hR : Rel E h H) (hc : h[a]? = some c) (hk : c.1 < 14) : a ≠ 0 := fun z => by
  subst z
  have := hR.2.2.1 c hc
  omega
theorem Rel.set {E : AE} {h : AH} {H H1 : Heap} {a : Nat} {c c' : AC} (hR : Rel E h H) (hc : h[a]? = some c) (hk : c.1 < 14) (hz : H1.size = H.size) (ho : ∀ q, q ≠ ad E a → H1[q]? = H[q]?) (hn : cOK E a c' H1) : Rel E (h.set a c') H1 := by
  have ha := hR.ne0 hc hk
  refine ⟨by rw [List.length_set, hz]; exact hR.1, fun q hq => ?_, fun z hz0 => ?_, fun b z hb => ?_⟩
  · rw [ho q (by have := ad_bs (E := E) ha; omega)]
    exact hR.2.1 q hq
  · rw [List.getElem?_set_ne ha] at hz0
    exact hR.2.2.1 z hz0
  · rw [List.getElem?_set] at hb
    split at hb
    · split at hb
      · cases hb
        rename_i h1 _
        subst h1
        exact hn
      · cases hb
    · rename_i h1
      refine (hR.2.2.2 b z hb).kept (fun hzk => ho _ (ad_ne (hR.ne0 hb hzk) ha (Ne.symm h1)))
theorem Rel.lt {E : AE} {h : AH} {H : Heap} {a : Nat} {c : AC} (hR : Rel E h H) (hc : h[a]? = some c) (ha : a ≠ 0) : ad E a < H.size := by
  have h1 : a < h.length := (List.getElem?_eq_some_iff.mp hc).1
  have h2 := hR.1
  cases a with
  | zero => exact absurd rfl ha
  | succ a => simp only [ad]; unfold bs at h2; omega
section HEAP
variable {m : AM} {d mc ms pc : Nat} {ls st : List Value} {h : AH} {Q : AR → AH → Prop}
theorem vF_at {E : AE} {L : List Value} {j : Nat} {v : Value} (h : L[j]? = some v) : vF E L j = rv E v := by
  simp [vF, h]
theorem aw_get {i a k j : Nat} {v : Value} {q : vw_C} (hd : decode m.2.1 pc = .ok (.getfield i, 3)) (hf : FL m.1.cls i k j q) (hv : fld h a k j v) (kk : AW m d mc ms (pc + 3) ls (v :: st) h Q) : AW m d mc ms pc ls (.ref a :: st) h Q := by
  intro E p l e R s mi args below meth c QQ H locs cells slots lr hF hL hH hc hs hE
  have k9 := kk E p l e R s mi args below meth c QQ H locs cells slots lr hF hL hH hc hs hE
  obtain ⟨hk, hk10, hj, ⟨hin, -, -⟩, hlink⟩ := hf
  obtain ⟨fs, hcell, hfs⟩ := hv
  obtain ⟨q', e1, e2, cell, q1, q2, q3, q4⟩ := (hH.1.2.2.2 a _ hcell).1 hk10
  cases hk.symm.trans e1
  obtain ⟨a1, a2, a3, a4, a5, a6, a7, a8⟩ := hF
  have hKn := a7.1.1 k q hk
  obtain ⟨hS, hfc, kC, hkC, hkind⟩ := hKn
  obtain ⟨cf, kf, fi, f, hi, hsl⟩ := hS j hj
  have hst := (u_facts hfc hkC (u_lays a6 hin hj) hi).1
  have hslot : cell.slots[f.slot]? = some (rv E v) := by
    rw [hsl]
    exact (q4 j hj).trans (congrArg some (vF_at hfs))
  rcases hlink with hw | ⟨host, hw⟩
  · exact W.getf a1 a2 a5 (a6 _ hw) hi hst q1 (by rw [q3]; exact fun z => by cases z) hslot rfl rfl hd k9
  · exact va_Wgetf a1 a2 a5 (va_Nw.use rfl (a7.2.1 _ hw rfl)) hi hst q1 (by rw [q3]; exact fun z => by cases z) hslot rfl rfl hd k9
theorem aw_put {i a k j : Nat} {v v0 : Value} {q : vw_C} {ty : FieldType} (hd : decode m.2.1 pc = .ok (.putfield i, 3)) (hf : FL m.1.cls i k j q) (hfin : (q.2.1 j).2.2.2 = false ∨ ((q.2.1 j).1 = m.1.cls ∧ m.1.name = "<init>")) (hty : parseFieldDescriptor (q.2.1 j).2.2.1 = some ty) (hnr : ∀ E, narrow ty (rv E v) = rv E v) (hft : ∀ E, fits ty (rv E v) = true) (hv : fld h a k j v0) (kk : AW m d mc ms (pc + 3) ls st (stf h a j v) Q) : AW m d mc ms pc ls (v :: .ref a :: st) h Q := by
  intro E p l e R s mi args below meth c QQ H locs cells slots lr hF hL hH hc hs hE
  obtain ⟨hk, hk10, hj, ⟨hin, ⟨ty0, hty0⟩, hnm⟩, hlink⟩ := hf
  obtain ⟨fs, hcell, hfs⟩ := hv
  obtain ⟨q', e1, e2, cell, q1, q2, q3, q4⟩ := (hH.1.2.2.2 a _ hcell).1 hk10
  cases hk.symm.trans e1
  have hF0 := hF
  obtain ⟨a1, a2, a3, a4, a5, a6, a7, a8, a9, a10, a11, a12, a13, a14⟩ := hF
  have hap := va_apart (own := m.1.cls) a6 hin ty0 hty0 hnm a7.1 (ci := k) hk
  obtain ⟨hS, hfc, kC, hkC, hkind⟩ := a7.1.1 k q hk
  obtain ⟨cf, kf, fi, f, hi, hsl⟩ := hS j hj
  have hst := (u_facts hfc hkC (u_lays a6 hin hj) hi).1
  have h6 := u_fits hfc hkC hkind (u_lays a6 hin hj) hi hty (hnr E) (hft E)
  have hlay := a6 _ (hin _ (u_in_lay hj))
  have hfl : hasFlag f.accessFlags Acc.final = false ∨ (mi.cls = cf ∧ meth.name = "<init>") := by
    by_cases hfn : (q.2.1 j).2.2.2 = true
    · rcases hfin with z | ⟨z1, z2⟩
      · rw [hfn] at z; cases z
      · unfold u_lay at hlay
        rw [if_pos hfn] at hlay
        obtain ⟨_, _, c', _, _, _, -, -, hf', -, -, -, hown2, -⟩ := Cond.laysFinal_spec hlay
        have e1 : c' = cf := by have := hi.symm.trans hf'; simp at this; exact this.1.symm
        rw [z1] at hown2
        exact Or.inr ⟨by rw [← e1]; exact Option.some.inj (a5.symm.trans hown2), a13 z2⟩
    · unfold u_lay at hlay
      rw [if_neg hfn] at hlay
      exact Or.inl (u_store hfc hkC hkind hlay hi hty (hnr E) (hft E)).1
  have hlt : f.slot < cell.slots.size := by rw [hsl]; exact k2_hasslot (q4 j hj)
  have hltA : ad E a < H.size := (Array.getElem?_eq_some_iff.mp q1).1
  have hfl2 : j < fs.length := by rw [e2]; exact hj
  have hn0 := hH.1.ne0 hcell (show k < 14 by omega)
  have hsz : (H.setIfInBounds (ad E a) (cell.setSlot f.slot (rv E v))).size = H.size := by simp
  have hoth : ∀ x, x ≠ ad E a → (H.setIfInBounds (ad E a) (cell.setSlot f.slot (rv E v)))[x]? = H[x]? := fun x hx => by simp [Array.getElem?_setIfInBounds, Ne.symm hx]
  have hme : (H.setIfInBounds (ad E a) (cell.setSlot f.slot (rv E v)))[ad E a]? = some (cell.setSlot f.slot (rv E v)) := by simp [Array.getElem?_setIfInBounds, hltA]
  have hR : Rel E (stf h a j v) (H.setIfInBounds (ad E a) (cell.setSlot f.slot (rv E v))) := by
    rw [stf_at hcell]
    refine hH.1.set hcell (show k < 14 by omega) hsz hoth ⟨fun _ => ⟨q, hk, by rw [List.length_set]; exact e2, ?_⟩, fun z => absurd z (Nat.not_le.mpr hk10), fun z => absurd z (by show k ≠ 14; omega)⟩
    refine ⟨_, hme, q2, q3, fun x hx => ?_⟩
    have h9 := t_set (cell := cell) (N := q.2.2) (iS := (dG E).2 k) (V := vF E fs) q4 hap hj (rv E v) x hx
    rw [hsl, h9]
    congr 1
    by_cases hxj : x = j
    · subst hxj
      simp [updV, vF, hfl2]
    · simp [updV, vF, hxj, List.getElem?_set, Ne.symm hxj]
  have k9 := kk E p l e R s mi args below meth c QQ _ (locs ++ [⟨ad E a, f.slot⟩]) cells slots lr hF0 hL ⟨hR, by rw [hsz]; exact hH.2.1, fun z hz => by
    rcases List.mem_append.mp hz with z1 | z1
    · exact hH.2.2 z z1
    · rw [List.mem_singleton.mp z1]
      exact ad_bs hn0⟩ hc hs hE
  rcases hlink with hw | ⟨host, hw⟩
  · exact W.putf a1 a2 a5 (a6 _ hw) hi hst hfl q1 (by rw [q3]; exact fun z => by cases z) hlt h6.1 (by rw [q2, q3]; exact h6.2) rfl rfl hd k9
  · exact va_Wputf a1 a2 a5 (va_Nw.use rfl (a7.2.1 _ hw rfl)) hi hst hfl q1 (by rw [q3]; exact fun z => by cases z) hlt h6.1 (by rw [q2, q3]; exact h6.2) rfl rfl hd k9
end HEAP
