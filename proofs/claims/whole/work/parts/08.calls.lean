/-! contracts and calls -/
def PcA (E : AE) (avs : List Value) (h : AH) : Array Value → State → Prop := fun v U => v = (avs.map (rv E)).toArray ∧ Rel E h U.heap ∧ KS E U
def QcA (E : AE) (Q : Option Value → AH → Prop) : Array Value → State → Outcome → State → Prop := fun _ st o t => ∃ (r : Option Value) (h : AH), o = .returned (r.map (rv E)) ∧ Q r h ∧ Rel E h t.heap ∧ st.heap.size ≤ t.heap.size
def junk (k : Nat) : AH := List.replicate k (15, [])
def XCA (E : AE) (Q : AR → AH → Prop) : String → State → State → Prop := fun cn st t => ∃ (x : Nat) (h : AH) (k : Nat), cn = exn x ∧ Q (.inr x) h ∧ Rel E (h ++ junk k) t.heap ∧ st.heap.size ≤ t.heap.size
def rmA (d mc ms : Nat) : Room := { frames := d, cells := mc, slots := ms, locals := 37 * d }
/-- what a method that throws nothing does -/
def Ct (m : AM) (d mc ms : Nat) (avs : List Value) (h : AH) (Q : Option Value → AH → Prop) : Prop :=
  ∀ (l : Launch) (E : AE), l.stackTraces = false → Met l m.1 (awsM m) (rmA d mc ms) (PcA E avs h) (QcA E Q) mc ms (fun q => bs E ≤ q)
/-- what a method that may throw does -/
def CtX (m : AM) (d mc ms : Nat) (avs : List Value) (h : AH) (Q : AR → AH → Prop) : Prop :=
  ∀ (l : Launch) (E : AE), l.stackTraces = false → vx_Met l m.1 (awsM m) (rmA d mc ms) (PcA E avs h) (QcA E (fun r => Q (.inl r))) (XCA E Q) mc ms (fun q => bs E ≤ q)
def nt (Q : Option Value → AH → Prop) : AR → AH → Prop := fun r h => ∃ v, r = .inl v ∧ Q v h
theorem nt.i {Q : Option Value → AH → Prop} {v : Option Value} {h : AH} (hq : Q v h) : nt Q (.inl v) h := ⟨v, rfl, hq⟩
def entL : List Value → List Value
  | [] => []
  | v :: t => if v.category = 2 then v :: vU :: entL t else v :: entL t
/-- the locals at a method's start -/
def ent (avs : List Value) (n : Nat) : List Value := entL avs ++ List.replicate (n - (entL avs).length) vU
theorem entL_len (E : AE) (avs : List Value) : (lg_sl (avs.map (rv E))).length = (entL avs).length := by
  induction avs with
  | nil => rfl
  | cons v t ih =>
    simp only [lg_sl, List.map_cons, List.flatMap_cons, List.length_append] at ih ⊢
    simp only [rv_cat, entL]
    split
    · simp [← ih]; omega
    · simp [← ih]; omega
theorem entL_mem (E : AE) (avs : List Value) : ∀ (k i : Nat) (v : Value), (entL avs)[i]? = some v → v ≠ vU → (k + i, rv E v) ∈ lv_args k (avs.map (rv E)) := by
  induction avs with
  | nil => intro k i v h; simp [entL] at h
  | cons w t ih =>
    intro k i v h hv
    simp only [entL] at h
    simp only [List.map_cons, lv_args, rv_cat]
    by_cases hc : w.category = 2
    · rw [if_pos hc] at h
      rw [if_pos hc]
      match i, h with
      | 0, h => simp at h; subst h; exact List.mem_cons_self
      | 1, h => simp at h; exact absurd h.symm hv
      | i + 2, h =>
        simp at h
        have := ih (k + 2) i v h hv
        rw [show k + (i + 2) = k + 2 + i by omega]
        exact List.mem_cons_of_mem _ this
    · rw [if_neg hc] at h
      rw [if_neg hc]
      match i, h with
      | 0, h => simp at h; subst h; exact List.mem_cons_self
      | i + 1, h =>
        simp at h
        have := ih (k + 1) i v h hv
        rw [show k + (i + 1) = k + 1 + i by omega]
        exact List.mem_cons_of_mem _ this
theorem ent_LOK {E : AE} {avs : List Value} {n : Nat} (hn : (entL avs).length ≤ n) : LOK E n (ent avs n) ((lg_sl (avs.map (rv E)) ++ List.replicate (n - (lg_sl (avs.map (rv E))).length) Slot.unset).toArray) := by
  have h := lv_entry (avs.map (rv E)) (n := n) (by rw [entL_len]; exact hn)
  refine ⟨by simp [ent]; omega, h.1, h.2.1, fun i v hi hv => ?_⟩
  unfold ent at hi
  by_cases hl : i < (entL avs).length
  · rw [List.getElem?_append_left hl] at hi
    have := entL_mem E avs 0 i v hi hv
    rw [Nat.zero_add] at this
    exact h.2.2 _ this
  · rw [List.getElem?_append_right (by omega), List.getElem?_replicate] at hi
    split at hi
    · cases hi; exact absurd rfl hv
    · cases hi
theorem Rel.bsz {E : AE} {h : AH} {H : Heap} (hR : Rel E h H) : bs E ≤ H.size ∧ h.length ≠ 0 := by
  have h1 := hR.1
  have h2 := hR.2.1
  have h3 : bs E ≤ H.size := by
    rcases Nat.lt_or_ge H.size (bs E) with q | q
    · have h4 := h2 H.size q
      rw [Array.getElem?_eq_none (Nat.le_refl _), Array.getElem?_eq_getElem (show H.size < E.2.1.size from q)] at h4
      cases h4
    · exact q
  exact ⟨h3, by omega⟩
/-- a method's own facts: its code and class among the good words -/
def MOK (m : AM) (n : Nat) : Prop := cwd m ∈ gtbl ∧ Cond.initialized m.1.cls ∈ gtbl ∧ (m.1.cls ≠ "java/lang/invoke/MethodHandle" ∧ m.1.cls ≠ "java/lang/invoke/VarHandle") ∧ plainName m.1.cls = true ∧ m.2.2.1 ≤ 18 ∧ (parseMethodDescriptor m.1.desc).map (fun d => d.parameters.length) = some n ∧ (m.2.2.2.2.2 = false → m.2.2.2.2.1 = [])
theorem cats_rv (E : AE) (st : List Value) : ((st.map (rv E)).map fun v => v.category).sum = (st.map fun v => v.category).sum := by
  rw [List.map_map]
  congr 1
  exact List.map_congr_left fun v _ => rv_cat E v
theorem PcA.blind {E : AE} {avs : List Value} {h : AH} : FrameBlind (PcA E avs h) := fun a U g mk q => ⟨q.1, q.2.1, KS.warm (s := U) (U := U.calling g mk a) (State.WarmedH.refl U) q.2.2⟩
theorem gtbl_good {m : AM} (h : cwd m ∈ gtbl) : GoodIn gtbl (awsM m) := fun w hw => by
  have hg : w ∈ gtbl := by
    rcases List.mem_cons.mp hw with e | e
    · rw [e]; exact h
    · exact e
  exact ⟨hg, good_of_word (List.mem_filter.mp hg).2⟩
section BODY
variable {m : AM} {d mc ms n : Nat} {avs : List Value} {h : AH}
theorem fr_of {Q : AR → AH → Prop} {l : Launch} {E : AE} (hst : l.stackTraces = false) (hm : MOK m n) {p : Program} {e : Env} {s : State} {mi : MethodId} {args : Array Value} {below : List Frame} {meth : Method} {c : Code} {s₁ : State} (B : BodyLoose p l m.1 (headSpec (awsM m) (rmA d mc ms)) m.2.1 m.2.2.1 m.2.2.2.1 e s mi args below meth c s₁) (hml : c.maxLocals = m.2.2.1) (hP : PcA E avs h args s) : Fr E m d p l (rmA d mc ms) s mi args meth c := by
  have hts := atoms_spec (ws := awsM m) B.pre
  have hcw := hts _ List.mem_cons_self
  have htab : c.exceptionTable.toList = tableOf m.2.2.2.2.1 := by
    obtain ⟨y, cb, mL, rt, hh, fl⟩ := m
    cases fl with
    | true =>
      obtain ⟨m9, meth9, c9, hn9, h1, h2, -, -, h6, -⟩ := Cond.codeWith_spec (show (Cond.codeWith y cb mL rt hh).before args s = true from hcw)
      cases Option.some.inj (hn9.symm.trans B.named)
      cases Option.some.inj (h1.symm.trans B.method)
      cases Option.some.inj (h2.symm.trans (Stand.of_body B).code)
      rw [← h6, table_eq]
    | false =>
      obtain ⟨meth9, c9, h1, h2, -, -, -, -, h7, -⟩ := Cond.code_spec B.named (show (Cond.code y cb mL rt).before args s = true from hcw)
      cases Option.some.inj (h1.symm.trans B.method)
      cases Option.some.inj (h2.symm.trans (Stand.of_body B).code)
      have e9 : hh = [] := hm.2.2.2.2.2.2 rfl
      subst e9
      rw [Array.isEmpty_iff.mp h7]
      rfl
  exact ⟨B.exec, B.bytes, hml, B.returns, findClass_of_methodNamed B.named, fun w hw => hts w (List.mem_cons_of_mem _ hw), hP.2.2, hP.2.1.2.1, hP.2.1.bsz.1, Nat.le_refl _, Nat.le_refl _, B.notSynchronized, fun z => (name_of_methodNamed B.named B.method).1.trans z, Or.inr htab, hst⟩
/-- the end of a body: what it answers -/
theorem end_ret {E : AE} {p : Program} {l : Launch} {e : Env} {R : Room} {s : State} {mi : MethodId} {args : Array Value} {below : List Frame} {meth : Method} {c : Code} {Q : Option Value → AH → Prop} (hF : Fr E m d p l R s mi args meth c) (r : Option Value) (h : AH) (H : Heap) (locs : List Loc) (cells slots pc : Nat) (lr : Array Slot) (i : Instr) (hq : Q r h) (hH : HOK E s h H locs) (hc : cells ≤ R.cells) (hs : slots ≤ R.slots) (hd : decode m.2.1 pc = .ok (i, 1)) (hr : retI m.2.2.2.1 r i) :
    W p l e R s mi args below meth c H locs cells slots (MQ below (QcA E Q) args s R.cells R.slots (fun q => bs E ≤ q)) (F0 mi pc lr (r.toList.map (rv E))) := by
  have hlk : meth.locks = false := hF.2.2.2.2.2.2.2.2.2.2.2.1
  have key : ∀ (t : State), t.heap = H → QcA E Q args s (.returned (r.map (rv E))) t := fun t ht => ⟨r, h, rfl, hq, by rw [ht]; exact hH.1, by rw [ht]; exact hH.2.1⟩
  rcases hr with ⟨e1, rfl, rfl⟩ | ⟨x, ty, e1, e2, rfl, rfl⟩ | ⟨x, e1, rfl, rfl⟩ | ⟨v, nm, e1, rfl, hv, rfl⟩
  · exact W.widen hc hs (W.vret hF.1 hF.2.1 (hF.2.2.2.1.trans e1) (fun t ht _ => key t ht) hH.2.2 hd hlk)
  · exact W.widen hc hs (W.zret hF.1 hF.2.1 (hF.2.2.2.1.trans e1) e2 (fun t ht _ => key t ht) hH.2.2 hd hlk)
  · exact W.widen hc hs (W.lret hF.1 hF.2.1 (hF.2.2.2.1.trans e1) (fun t ht _ => key t ht) hH.2.2 hd hlk)
  · refine W.widen hc hs (W.aret hF.1 hF.2.1 (hF.2.2.2.1.trans e1) (Or.inl ⟨_, rfl⟩) ?_ (fun t ht _ => key t ht) hH.2.2 hd hlk)
    rcases hv with rfl | ⟨a, rfl⟩
    · exact Or.inl rfl
    · exact Or.inr ⟨_, rfl⟩
theorem body_applies (hm : MOK m n) : ∀ (args : Array Value) (s : State) (mi : MethodId), (headSpec (awsM m) (rmA d mc ms)).pre.before args s = true → s.methodNamed? m.1 = some mi →
    ∃ (meth : Method) (c : Code), s.vm.method? mi = some meth ∧ meth.code = some c ∧ c.code = m.2.1 ∧ c.maxLocals = m.2.2.1 ∧ meth.sig.returnType = m.2.2.2.1 ∧ meth.locks = false := by
  intro args s mi h hn
  have hcw := atoms_spec (ws := awsM m) h _ List.mem_cons_self
  obtain ⟨y, cb, mL, rt, hh, fl⟩ := m
  cases fl with
  | true =>
    obtain ⟨m9, meth, c, hn9, h1, h2, h3, h4, -, h5, h6, -⟩ := Cond.codeWith_spec (show (Cond.codeWith y cb mL rt hh).before args s = true from hcw)
    cases hn.symm.trans hn9
    exact ⟨meth, c, h1, h2, h3, h4, h5, h6⟩
  | false =>
    obtain ⟨meth, c, h1, h2, h3, h4, h5, h6, -, -⟩ := Cond.code_spec hn (show (Cond.code y cb mL rt).before args s = true from hcw)
    exact ⟨meth, c, h1, h2, h3, h4, h5, h6⟩
theorem Ct.of {Q : Option Value → AH → Prop} (hm : MOK m n) {ls : List Value} (hl : ent avs m.2.2.1 = ls) (hn : (entL avs).length ≤ m.2.2.1) (k : AW m d mc ms 0 ls [] h (nt Q)) : Ct m d mc ms avs h Q := by
  intro l E hst
  subst hl
  refine MetFree.of_bodyS (code := m.2.1) (maxLocals := m.2.2.1) (ret := m.2.2.2.1) hm.2.2.2.1 (fun args s mi hp hnm => body_applies hm args s mi hp hnm) ?_
  intro p e s mi args below meth c s₁ B hml hP _
  have hF := fr_of (Q := nt Q) hst hm B hml hP
  have hh0 : s₁.heap = s.heap := by rw [B.state]; rfl
  obtain ⟨hav, hR, hKS⟩ := hP
  have hW := k E p l e (rmA d mc ms) s mi args below meth c (MQ below (QcA E Q) args s mc ms (fun q => bs E ≤ q)) s.heap [] 0 0 _ hF (ent_LOK hn) ⟨hR, Nat.le_refl _, fun z hz => nomatch hz⟩ (by show 0 + mc ≤ mc; omega) (by show 0 + ms ≤ ms; omega)
    ⟨fun r h' H' locs cells slots pc lr i hq hH hc hs hd hr => by
      obtain ⟨v, e1, e2⟩ := hq
      cases e1
      exact end_ret hF r h' H' locs cells slots pc lr i e2 hH hc hs hd hr, Or.inl (fun x h' hq => by obtain ⟨v, e1, -⟩ := hq; cases e1)⟩
  have hent : entryFrame mi args m.2.2.1 = F0 mi 0 ((lg_sl (avs.map (rv E)) ++ List.replicate (m.2.2.1 - (lg_sl (avs.map (rv E))).length) Slot.unset).toArray) [] := by rw [hav]; exact lg_entry_eq _ _ _
  obtain ⟨t, a1, o, b1, b2, b3⟩ := hW s₁ hh0 (Stand.of_body B)
  exact ⟨t, o, by rw [hent]; exact a1, b1, b2, ⟨b3.1, b3.2⟩⟩
theorem CtX.of {Q : AR → AH → Prop} (hm : MOK m n) {ls : List Value} (hl : ent avs m.2.2.1 = ls) (hn : (entL avs).length ≤ m.2.2.1) (k : AW m d mc ms 0 ls [] h Q) : CtX m d mc ms avs h Q := by
  intro l E hst
  subst hl
  refine MetFree.of_bodyS (code := m.2.1) (maxLocals := m.2.2.1) (ret := m.2.2.2.1) hm.2.2.2.1 (fun args s mi hp hnm => body_applies hm args s mi hp hnm) ?_
  intro p e s mi args below meth c s₁ B hml hP _
  have hF := fr_of (Q := Q) hst hm B hml hP
  have hh0 : s₁.heap = s.heap := by rw [B.state]; rfl
  obtain ⟨hav, hR, hKS⟩ := hP
  have hW := k E p l e (rmA d mc ms) s mi args below meth c (vx_MQ below (QcA E (fun r => Q (.inl r))) (XCA E Q) args s mc ms (fun q => bs E ≤ q)) s.heap [] 0 0 _ hF (ent_LOK hn) ⟨hR, Nat.le_refl _, fun z hz => nomatch hz⟩ (by show 0 + mc ≤ mc; omega) (by show 0 + ms ≤ ms; omega)
    ⟨fun r h' H' locs cells slots pc lr i hq hH hc hs hd hr => vx_ret (end_ret (Q := fun r => Q (.inl r)) hF r h' H' locs cells slots pc lr i hq hH hc hs hd hr), Or.inr ⟨_, _, rfl, fun x h' k t hq hR' hsz _ => ⟨x, h', k, rfl, hq, hR', hsz⟩⟩⟩
  have hent : entryFrame mi args m.2.2.1 = F0 mi 0 ((lg_sl (avs.map (rv E)) ++ List.replicate (m.2.2.1 - (lg_sl (avs.map (rv E))).length) Slot.unset).toArray) [] := by rw [hav]; exact lg_entry_eq _ _ _
  obtain ⟨t, a1, o, b1, b2, b3⟩ := hW s₁ hh0 (Stand.of_body B)
  exact ⟨t, o, by rw [hent]; exact a1, b1, b2, b3⟩
end BODY
/-- entry i of own's pool is the method y -/
def LK (own : String) (i : Nat) (y : MethodName) : Prop := Cond.methodLink own i y ∈ gtbl ∨ ∃ host, Cond.methodLinkNest own i y host ∈ lw_tbl
section CALLS
variable {m cal : AM} {d mc ms pc d' mc' ms' n : Nat} {ls st : List Value} {h : AH} {Q : AR → AH → Prop}
theorem run_of {E : AE} {p : Program} {l : Launch} {e : Env} {R : Room} {s : State} {mi : MethodId} {args : Array Value} {below : List Frame} {meth : Method} {c : Code} {H : Heap} {locs : List Loc} {cells slots : Nat} {lr : Array Slot} {QQ : State → Prop} {Q' : Option Value → AH → Prop} {a : Array Value} {st0 rest : List Value} (hH : HOK E s h H locs)
    (hr : va_Run p l e R s mi args below meth c H locs cells slots mc' ms' (F0 mi pc lr st0) rest (QcA E Q' a) (fun q => bs E ≤ q))
    (kk : ∀ (r : Option Value) (h' : AH) (H' : Heap) (locs' : List Loc), Q' r h' → HOK E s h' H' locs' → W p l e R s mi args below meth c H' locs' (cells + mc') (slots + ms') QQ (F0 mi (pc + 3) lr ((r.map (rv E)).toList ++ rest))) :
    W p l e R s mi args below meth c H locs cells slots QQ (F0 mi pc lr st0) := by
  intro T hT X
  obtain ⟨v, st₀, t, T', L, h0, X', hL, e1, e2, ⟨r, h', hv, hq, hR, hz⟩, stp⟩ := hr T hT X
  cases hv
  obtain ⟨t2, a1, b1⟩ := kk r h' T'.heap (locs ++ L) hq ⟨by rw [e1]; exact hR, by rw [h0] at hz; rw [e1]; exact Nat.le_trans hH.2.1 hz, fun z hz9 => by
    rcases List.mem_append.mp hz9 with g | g
    · exact hH.2.2 z g
    · exact hL z g⟩ T' rfl X'
  exact ⟨t2, stp t2 a1, b1⟩
theorem room_of {R : Room} (h1 : d' + 1 ≤ d) (h2 : d ≤ R.frames) (h3 : 37 * d ≤ R.locals) {k : Nat} (h4 : k ≤ 18) : (rmA d' mc' ms').frames + 1 ≤ R.frames ∧ 8 + (k + 11) + (rmA d' mc' ms').locals ≤ R.locals := by
  refine ⟨by show d' + 1 ≤ _; omega, by show 8 + (k + 11) + 37 * d' ≤ _; omega⟩
theorem par_of {desc : String} (h : (parseMethodDescriptor desc).map (fun d => d.parameters.length) = some n) : ∀ sig, parseMethodDescriptor desc = some sig → n = sig.parameters.length := fun sig hs => by
  rw [hs] at h
  exact (Option.some.inj h).symm
theorem pre_of {E : AE} {s : State} {avs : List Value} {H : Heap} {locs : List Loc} (hKS : KS E s) (hH : HOK E s h H locs) : ∀ U : State, U.heap = H → s.WarmedH U.vm → PcA E avs h (avs.map (rv E)).toArray U := fun U hU hW => ⟨rfl, by rw [hU]; exact hH.1, hKS.warm hW⟩
theorem cont_of {E : AE} {r : Option Value} {rest : List Value} : (r.map (rv E)).toList ++ rest.map (rv E) = (r.toList ++ rest).map (rv E) := by cases r <;> rfl
theorem aw_callV {i b k : Nat} {q : vw_C} {fs As rest : List Value} {Q' : Option Value → AH → Prop} (hd : decode m.2.1 pc = .ok (.invokevirtual i, 3)) (hl : LK m.1.cls i cal.1) (hm : MOK cal n) (hfl : cal.2.2.2.2.2 = false) (hin : Cond.instanceMethod cal.1 ∈ gtbl) (hse : Cond.selects cal.1.cls cal.1 cal.1 ∈ gtbl) (hC : Ct cal d' mc' ms' (.ref b :: As) h Q') (hdep : d' + 1 ≤ d) (hn : As.length = n) (hb : h[b]? = some (k, fs)) (hk : kls[k]? = some q) (hk10 : k < 10) (hq : q.1 = cal.1.cls) (hst : st = As.reverse ++ .ref b :: rest) (hrs : (rest.map fun v => v.category).sum ≤ 8)
    (kk : ∀ (r : Option Value) (h' : AH), Q' r h' → AW m d mc ms (pc + 3) ls (r.toList ++ rest) h' Q) : AW m d (mc' + mc) (ms' + ms) pc ls st h Q := by
  intro E p l e R s mi args below meth c QQ H locs cells slots lr hF hL hH hc hs hE
  subst hst
  have hF0 := hF
  obtain ⟨a1, a2, a3, a4, a5, a6, a7, a8, a9, a10, a11, a12, a13, a14, a15⟩ := hF
  have hM := hC l E a15
  have hcode : Cond.code cal.1 cal.2.1 cal.2.2.1 cal.2.2.2.1 ∈ gtbl := by
    have := hm.1
    unfold cwd at this
    rw [hfl] at this
    exact this
  have hws : awsM cal = Cond.code cal.1 cal.2.1 cal.2.2.1 cal.2.2.2.1 :: gtbl := by
    unfold awsM cwd
    rw [hfl]
  have hG := gtbl_good hm.1
  obtain ⟨hr1, hr2⟩ := room_of (mc' := mc') (ms' := ms') hdep a10 a11 hm.2.2.2.2.1
  have hrecv : ∃ cellB : Cell, H[ad E b]? = some cellB ∧ cellB.vm.isStatics = false ∧ s.vm.findClass cal.1.cls = some cellB.cls := by
    obtain ⟨q', g1, -, cell, g2, g3, g4, -⟩ := (hH.1.2.2.2 b _ hb).1 hk10
    cases hk.symm.trans g1
    exact ⟨cell, g2, by rw [g4]; rfl, by rw [← hq, g3]; exact (a7.1.1 k q hk).2.1⟩
  have e0 : (As.reverse ++ Value.ref b :: rest).map (rv E) = (As.map (rv E)).reverse ++ .ref (ad E b) :: rest.map (rv E) := by simp [rv]
  have hPre : ∀ U : State, U.heap = H → s.WarmedH U.vm → PcA E (.ref b :: As) h (Value.ref (ad E b) :: As.map (rv E)).toArray U := pre_of a7 hH
  have hcat : ((rest.map (rv E)).map fun v => v.category).sum ≤ 8 := by rw [cats_rv]; exact hrs
  rw [e0]
  have hfit : cells + mc' ≤ R.cells ∧ slots + ms' ≤ R.slots := ⟨by omega, by omega⟩
  refine run_of (mc' := mc') (ms' := ms') (rest := rest.map (rv E)) (Q' := Q') (a := (Value.ref (ad E b) :: As.map (rv E)).toArray) hH ?_ (fun r h' H' locs' hq' hH' => ?_)
  · rcases hl with hl | ⟨host, hl⟩
    · exact va_runV (C := cal.1.cls) ⟨a1, a2, a3, a5, a6⟩ hM ⟨⟨rfl, rfl, hr1, hr2, pay_in a6 hG, by rw [hws]; exact List.mem_cons_self, a6 _ hcode, a6 _ hm.2.1, hm.2.2.1, par_of hm.2.2.2.2.2.1, a6 _ hl⟩, a6 _ hin, a6 _ hse⟩ ⟨PcA.blind, hrecv, hPre⟩ rfl (by rw [List.length_map]; exact hn) hL.2.1 rfl (lv_room hcat) hd hfit
    · exact va_runVN (C := cal.1.cls) (host := host) ⟨a1, a2, a3, a5, a6⟩ hM ⟨⟨⟨rfl, rfl, hr1, hr2, pay_in a6 hG, by rw [hws]; exact List.mem_cons_self⟩, a6 _ hcode, a6 _ hm.2.1, hm.2.2.1, par_of hm.2.2.2.2.2.1, va_Nw.use rfl (a7.2.1 _ hl rfl)⟩, a6 _ hin, a6 _ hse⟩ ⟨PcA.blind, hrecv, hPre⟩ rfl (by rw [List.length_map]; exact hn) hL.2.1 rfl (lv_room hcat) hd hfit
  · rw [cont_of]
    exact kk r h' hq' E p l e R s mi args below meth c QQ H' locs' (cells + mc') (slots + ms') lr hF0 hL hH' (by omega) (by omega) hE
theorem aw_callS {i : Nat} {As rest : List Value} {Q' : Option Value → AH → Prop} (hd : decode m.2.1 pc = .ok (.invokestatic i, 3)) (hl : LK m.1.cls i cal.1) (hl2 : cal.2.2.2.2.2 = true → Cond.methodLink m.1.cls i cal.1 ∈ gtbl) (hm : MOK cal n) (hsta : Cond.static cal.1 ∈ gtbl) (hC : Ct cal d' mc' ms' As h Q') (hdep : d' + 1 ≤ d) (hn : As.length = n) (hst : st = As.reverse ++ rest) (hrs : (rest.map fun v => v.category).sum ≤ 8)
    (kk : ∀ (r : Option Value) (h' : AH), Q' r h' → AW m d mc ms (pc + 3) ls (r.toList ++ rest) h' Q) : AW m d (mc' + mc) (ms' + ms) pc ls st h Q := by
  intro E p l e R s mi args below meth c QQ H locs cells slots lr hF hL hH hc hs hE
  subst hst
  have hF0 := hF
  obtain ⟨a1, a2, a3, a4, a5, a6, a7, a8, a9, a10, a11, a12, a13, a14, a15⟩ := hF
  have hM := hC l E a15
  have hG := gtbl_good hm.1
  obtain ⟨hr1, hr2⟩ := room_of (mc' := mc') (ms' := ms') hdep a10 a11 hm.2.2.2.2.1
  have e0 : (As.reverse ++ rest).map (rv E) = (As.map (rv E)).reverse ++ rest.map (rv E) := by simp
  have hPre := pre_of (avs := As) a7 hH
  have hcat : ((rest.map (rv E)).map fun v => v.category).sum ≤ 8 := by rw [cats_rv]; exact hrs
  rw [e0]
  have hfit : cells + mc' ≤ R.cells ∧ slots + ms' ≤ R.slots := ⟨by omega, by omega⟩
  refine run_of (mc' := mc') (ms' := ms') (rest := rest.map (rv E)) (Q' := Q') (a := (As.map (rv E)).toArray) hH ?_ (fun r h' H' locs' hq' hH' => ?_)
  · cases hfl : cal.2.2.2.2.2 with
    | true =>
      have hcode : Cond.codeWith cal.1 cal.2.1 cal.2.2.1 cal.2.2.2.1 cal.2.2.2.2.1 ∈ gtbl := by
        have := hm.1
        unfold cwd at this
        rw [hfl] at this
        exact this
      have hws : awsM cal = Cond.codeWith cal.1 cal.2.1 cal.2.2.1 cal.2.2.2.1 cal.2.2.2.2.1 :: gtbl := by
        unfold awsM cwd
        rw [hfl]
      exact vx_runSW (hh := cal.2.2.2.2.1) ⟨a1, a2, a3, a5, a6⟩ hM ⟨⟨rfl, rfl, hr1, hr2, pay_in a6 hG, by rw [hws]; exact List.mem_cons_self⟩, a6 _ hcode, a6 _ hm.2.1, hm.2.2.1, par_of hm.2.2.2.2.2.1, a6 _ (hl2 hfl), a6 _ hsta⟩ ⟨PcA.blind, hPre⟩ rfl (by rw [List.length_map]; exact hn) hL.2.1 rfl (lv_room hcat) hd hfit
    | false =>
      have hcode : Cond.code cal.1 cal.2.1 cal.2.2.1 cal.2.2.2.1 ∈ gtbl := by
        have := hm.1
        unfold cwd at this
        rw [hfl] at this
        exact this
      have hws : awsM cal = Cond.code cal.1 cal.2.1 cal.2.2.1 cal.2.2.2.1 :: gtbl := by
        unfold awsM cwd
        rw [hfl]
      rcases hl with hl | ⟨host, hl⟩
      · exact va_runS ⟨a1, a2, a3, a5, a6⟩ hM ⟨⟨rfl, rfl, hr1, hr2, pay_in a6 hG, by rw [hws]; exact List.mem_cons_self, a6 _ hcode, a6 _ hm.2.1, hm.2.2.1, par_of hm.2.2.2.2.2.1, a6 _ hl⟩, a6 _ hsta⟩ ⟨PcA.blind, hPre⟩ rfl (by rw [List.length_map]; exact hn) hL.2.1 rfl (lv_room hcat) hd hfit
      · exact va_runSN (host := host) ⟨a1, a2, a3, a5, a6⟩ hM ⟨⟨⟨rfl, rfl, hr1, hr2, pay_in a6 hG, by rw [hws]; exact List.mem_cons_self⟩, a6 _ hcode, a6 _ hm.2.1, hm.2.2.1, par_of hm.2.2.2.2.2.1, va_Nw.use rfl (a7.2.1 _ hl rfl)⟩, a6 _ hsta, trivial⟩ ⟨PcA.blind, hPre⟩ rfl (by rw [List.length_map]; exact hn) hL.2.1 rfl (lv_room hcat) hd hfit
  · rw [cont_of]
    exact kk r h' hq' E p l e R s mi args below meth c QQ H' locs' (cells + mc') (slots + ms') lr hF0 hL hH' (by omega) (by omega) hE
theorem aw_callI {i b : Nat} {As rest : List Value} {Q' : Option Value → AH → Prop} (hd : decode m.2.1 pc = .ok (.invokespecial i, 3)) (hl : LK m.1.cls i cal.1) (hm : MOK cal n) (hfl : cal.2.2.2.2.2 = false) (hret : cal.2.2.2.1 = none) (hnm : cal.1.name = "<init>") (hin : Cond.instanceMethod cal.1 ∈ gtbl) (hC : Ct cal d' mc' ms' (.ref b :: As) h Q') (hdep : d' + 1 ≤ d) (hn : As.length = n) (hst : st = As.reverse ++ .ref b :: rest) (hrs : (rest.map fun v => v.category).sum ≤ 8)
    (kk : ∀ (r : Option Value) (h' : AH), Q' r h' → AW m d mc ms (pc + 3) ls (r.toList ++ rest) h' Q) : AW m d (mc' + mc) (ms' + ms) pc ls st h Q := by
  intro E p l e R s mi args below meth c QQ H locs cells slots lr hF hL hH hc hs hE
  subst hst
  have hF0 := hF
  obtain ⟨a1, a2, a3, a4, a5, a6, a7, a8, a9, a10, a11, a12, a13, a14, a15⟩ := hF
  have hM := hC l E a15
  have hcode : Cond.code cal.1 cal.2.1 cal.2.2.1 none ∈ gtbl := by
    have := hm.1
    unfold cwd at this
    rw [hfl, hret] at this
    exact this
  have hws : awsM cal = Cond.code cal.1 cal.2.1 cal.2.2.1 none :: gtbl := by
    unfold awsM cwd
    rw [hfl, hret]
  have hG := gtbl_good hm.1
  obtain ⟨hr1, hr2⟩ := room_of (mc' := mc') (ms' := ms') hdep a10 a11 hm.2.2.2.2.1
  have e0 : (As.reverse ++ Value.ref b :: rest).map (rv E) = (As.map (rv E)).reverse ++ .ref (ad E b) :: rest.map (rv E) := by simp [rv]
  have hPre : ∀ U : State, U.heap = H → s.WarmedH U.vm → PcA E (.ref b :: As) h (Value.ref (ad E b) :: As.map (rv E)).toArray U := pre_of a7 hH
  have hcat : ((rest.map (rv E)).map fun v => v.category).sum ≤ 8 := by rw [cats_rv]; exact hrs
  rw [e0]
  have hfit : cells + mc' ≤ R.cells ∧ slots + ms' ≤ R.slots := ⟨by omega, by omega⟩
  refine run_of (mc' := mc') (ms' := ms') (rest := rest.map (rv E)) (Q' := Q') (a := (Value.ref (ad E b) :: As.map (rv E)).toArray) hH ?_ (fun r h' H' locs' hq' hH' => ?_)
  · rcases hl with hl | ⟨host, hl⟩
    · exact va_runI ⟨a1, a2, a3, a5, a6⟩ hM ⟨⟨rfl, rfl, hr1, hr2, pay_in a6 hG, by rw [hws]; exact List.mem_cons_self, a6 _ hcode, a6 _ hm.2.1, hm.2.2.1, par_of hm.2.2.2.2.2.1, a6 _ hl⟩, hnm, a6 _ hin⟩ ⟨PcA.blind, hPre⟩ rfl (by rw [List.length_map]; exact hn) hL.2.1 rfl (lv_room hcat) hd hfit
    · exact va_runIN (host := host) ⟨a1, a2, a3, a5, a6⟩ hM ⟨⟨⟨rfl, rfl, hr1, hr2, pay_in a6 hG, by rw [hws]; exact List.mem_cons_self⟩, a6 _ hcode, a6 _ hm.2.1, hm.2.2.1, par_of hm.2.2.2.2.2.1, va_Nw.use rfl (a7.2.1 _ hl rfl)⟩, hnm, a6 _ hin⟩ ⟨PcA.blind, hPre⟩ rfl (by rw [List.length_map]; exact hn) hL.2.1 rfl (lv_room hcat) hd hfit
  · rw [cont_of]
    exact kk r h' hq' E p l e R s mi args below meth c QQ H' locs' (cells + mc') (slots + ms') lr hF0 hL hH' (by omega) (by omega) hE
/-- Object.<init> -/
theorem aw_objInit {i a : Nat} (hd : decode m.2.1 pc = .ok (.invokespecial i, 3)) (hl : Cond.methodLink m.1.cls i Lib.objectInit ∈ gtbl) (hin : Cond.instanceMethod Lib.objectInit ∈ gtbl) (hco : Cond.code Lib.objectInit ⟨#[0xb1]⟩ 1 none ∈ gtbl) (hdep : 1 ≤ d) (hrs : (st.map fun v => v.category).sum ≤ 8) (kk : AW m d mc ms (pc + 3) ls st h Q) : AW m d mc ms pc ls (.ref a :: st) h Q := by
  intro E p l e R s mi args below meth c QQ H locs cells slots lr hF hL hH hc hs hE
  have k9 := kk E p l e R s mi args below meth c QQ H locs cells slots lr hF hL hH hc hs hE
  obtain ⟨a1, a2, a3, a4, a5, a6, a7, a8, a9, a10, a11, a12⟩ := hF
  exact W.objInit a1 a2 a5 (a6 _ hl) (a6 _ hin) (a6 _ hco) rfl (by rw [a3]; exact hL.2.1) rfl hd (by omega) (by show 2 * 0 + _ + 12 ≤ _; rw [cats_rv]; omega) k9
end CALLS
