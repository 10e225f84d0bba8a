/-! throws, catches, the library's own methods -/
abbrev nms : List String := ["java/lang/RuntimeException", "java/lang/Exception"]
/-- 'throw new (the x-th exception)(a text)' by these entries of own's pool -/
def TH (own : String) (i is ic x : Nat) : Prop := Cond.classLink own i (exn x) ∈ gtbl ∧ Cond.initialized (exn x) ∈ gtbl ∧ (∃ text, Cond.stringRef own is text ∈ lw_tbl) ∧ (∀ w ∈ (vx_atS own ic (exn x) nms).filter goodWord, w ∈ gtbl) ∧ (∀ w ∈ (vx_atS own ic (exn x) nms).filter (fun w => !goodWord w), w ∈ lw_tbl ∧ (isNest w = true ∧ w.onTables = true)) ∧ x < 3
theorem Rel.junk {E : AE} {h : AH} {H H1 : Heap} (hR : Rel E h H) (h1 : H.size ≤ H1.size) (h2 : ∀ q, q < H.size → H1[q]? = H[q]?) : Rel E (h ++ List.replicate (H1.size - H.size) (15, [])) H1 := by
  obtain ⟨hb, hl⟩ := hR.bsz
  refine ⟨by have := hR.1; simp; omega, fun q hq => (h2 q (by omega)).trans (hR.2.1 q hq), fun c hc => ?_, fun a c hc => ?_⟩
  · rw [List.getElem?_append_left (by omega)] at hc
    exact hR.2.2.1 c hc
  · by_cases ha : a < h.length
    · rw [List.getElem?_append_left ha] at hc
      exact (hR.2.2.2 a c hc).kept fun hk => h2 _ (hR.lt hc (hR.ne0 hc hk))
    · rw [List.getElem?_append_right (by omega), List.getElem?_replicate] at hc
      split at hc
      · cases hc
        exact ⟨fun z => absurd z (by show ¬ 15 < 10; omega), fun _ z => absurd z (by show ¬ 15 < 14; omega), fun z => absurd z (by show ¬ 15 = 14; omega)⟩
      · cases hc
section THROWS
variable {m cal : AM} {d mc ms pc d' mc' ms' n : Nat} {ls st : List Value} {h : AH} {Q : AR → AH → Prop}
theorem aw_throw {i is ic x : Nat} (d0 : decode m.2.1 pc = .ok (.new i, 3)) (d3 : decode m.2.1 (pc + 3) = .ok (.dup, 1)) (d4 : decode m.2.1 (pc + 4) = .ok (.ldc is, 2)) (d6 : decode m.2.1 (pc + 6) = .ok (.invokespecial ic, 3)) (d9 : decode m.2.1 (pc + 9) = .ok (.athrow, 1)) (hT : TH m.1.cls i is ic x) (hh : m.2.2.2.2.1 = []) (hnl : m.1.name ≠ "law") (hdep : 6 ≤ d) (hq : Q (.inr x) h) (hrs : (st.map fun v => v.category).sum ≤ 8) : AW m d (mc + 1) (ms + 6) pc ls st h Q := by
  intro E p l e R s mi args below meth c QQ H locs cells slots lr hF hL hH hc hs hE
  obtain ⟨a1, a2, a3, a4, a5, a6, a7, a8, a9, a10, a11, a12, a13, a14, a15⟩ := hF
  obtain ⟨t1, t2, ⟨text, t3⟩, t4, t5, t6⟩ := hT
  rcases hE.2 with z | ⟨Qc, XC, rfl, hX⟩
  · exact absurd hq (z x h)
  have htab : c.exceptionTable.toList = [] := by
    rcases a14 with z | z
    · exact absurd z hnl
    · rw [z, hh]; rfl
  obtain ⟨b1, b2, b3, b4, b5, b6, b7, b8, b9, b10⟩ := a7
  obtain ⟨sa, hsa⟩ := b3 _ _ _ t3
  have hatb : ∀ w ∈ vx_atS m.1.cls ic (exn x) nms, w.before args s = true := by
    intro w hw
    by_cases g : goodWord w = true
    · exact a6 _ (t4 w (List.mem_filter.mpr ⟨hw, g⟩))
    · obtain ⟨g1, g2, g3⟩ := t5 w (List.mem_filter.mpr ⟨hw, by simpa using g⟩)
      exact va_Nw.use g3 (b2 w g1 g2)
  have hgood : ∀ w ∈ Cond.classLink m.1.cls i (exn x) :: Cond.initialized (exn x) :: vx_atS m.1.cls ic (exn x) nms, vx_ot w = true := by
    intro w hw
    have good : ∀ w, w ∈ gtbl → vx_ot w = true := fun w hw => by
      unfold vx_ot
      rw [(List.mem_filter.mp hw).2]
      simp
    rcases List.mem_cons.mp hw with rfl | hw
    · exact good _ t1
    · rcases List.mem_cons.mp hw with rfl | hw
      · exact good _ t2
      · by_cases g : goodWord w = true
        · exact good _ (t4 w (List.mem_filter.mpr ⟨hw, g⟩))
        · obtain ⟨g1, g2, g3⟩ := t5 w (List.mem_filter.mpr ⟨hw, by simpa using g⟩)
          unfold vx_ot
          rw [g3]
          rfl
  have hfit : Bundle.fit (exn x) = true := by
    rcases (show x = 0 ∨ x = 1 ∨ x = 2 by omega) with rfl | rfl | rfl <;> decide +kernel
  have hnms : ∀ n ∈ nms, Bundle.fit n = true := by decide +kernel
  have hkept : ∀ a : Nat, a < E.2.1.size → ¬ (fun q => bs E ≤ q) a → s.heap[a]? = E.2.1[a]? := fun a ha _ => a8 a ha
  refine vx_throwS (A := fun q => bs E ≤ q) (sa := sa) a1 a2 a15 a5 hfit hnms (a6 _ t1) (a6 _ t2) hsa hatb hgood (b4.kept hkept) (b5.kept hkept)
    ⟨hH.2.1, fun q hq hA => ?_, hH.2.2⟩ (by rw [a3]; exact hL.2.1) d0 d3 d4 d6 d9 (fun y hy => by rw [htab] at hy; cases hy) (by show 2 + 3 < _; omega) (by rw [cats_rv]; show _ + (13 * (2 + 1) + 43) ≤ _; omega) (by omega) (by omega) a12
    (fun t hal hsz hold => hX x h _ t hq (hH.1.junk hsz hold) (Nat.le_trans hH.2.1 hsz) hal) hH.2.2 (by omega) (by omega)
  have hb : q < bs E := Nat.not_le.mp hA
  exact (hH.1.2.1 q hb).trans (a8 q hb).symm
theorem aw_throwW {i is ic x : Nat} (d0 : decode m.2.1 pc = .ok (.new i, 3)) (d3 : decode m.2.1 (pc + 3) = .ok (.dup, 1)) (d4 : decode m.2.1 (pc + 4) = .ok (.ldc_w is, 3)) (d6 : decode m.2.1 (pc + 7) = .ok (.invokespecial ic, 3)) (d9 : decode m.2.1 (pc + 10) = .ok (.athrow, 1)) (hT : TH m.1.cls i is ic x) (hh : m.2.2.2.2.1 = []) (hnl : m.1.name ≠ "law") (hdep : 6 ≤ d) (hq : Q (.inr x) h) (hrs : (st.map fun v => v.category).sum ≤ 8) : AW m d (mc + 1) (ms + 6) pc ls st h Q := by
  intro E p l e R s mi args below meth c QQ H locs cells slots lr hF hL hH hc hs hE
  obtain ⟨a1, a2, a3, a4, a5, a6, a7, a8, a9, a10, a11, a12, a13, a14, a15⟩ := hF
  obtain ⟨t1, t2, ⟨text, t3⟩, t4, t5, t6⟩ := hT
  rcases hE.2 with z | ⟨Qc, XC, rfl, hX⟩
  · exact absurd hq (z x h)
  have htab : c.exceptionTable.toList = [] := by
    rcases a14 with z | z
    · exact absurd z hnl
    · rw [z, hh]; rfl
  obtain ⟨b1, b2, b3, b4, b5, b6, b7, b8, b9, b10⟩ := a7
  obtain ⟨sa, hsa⟩ := b3 _ _ _ t3
  have hatb : ∀ w ∈ vx_atS m.1.cls ic (exn x) nms, w.before args s = true := by
    intro w hw
    by_cases g : goodWord w = true
    · exact a6 _ (t4 w (List.mem_filter.mpr ⟨hw, g⟩))
    · obtain ⟨g1, g2, g3⟩ := t5 w (List.mem_filter.mpr ⟨hw, by simpa using g⟩)
      exact va_Nw.use g3 (b2 w g1 g2)
  have hgood : ∀ w ∈ Cond.classLink m.1.cls i (exn x) :: Cond.initialized (exn x) :: vx_atS m.1.cls ic (exn x) nms, vx_ot w = true := by
    intro w hw
    have good : ∀ w, w ∈ gtbl → vx_ot w = true := fun w hw => by
      unfold vx_ot
      rw [(List.mem_filter.mp hw).2]
      simp
    rcases List.mem_cons.mp hw with rfl | hw
    · exact good _ t1
    · rcases List.mem_cons.mp hw with rfl | hw
      · exact good _ t2
      · by_cases g : goodWord w = true
        · exact good _ (t4 w (List.mem_filter.mpr ⟨hw, g⟩))
        · obtain ⟨g1, g2, g3⟩ := t5 w (List.mem_filter.mpr ⟨hw, by simpa using g⟩)
          unfold vx_ot
          rw [g3]
          rfl
  have hfit : Bundle.fit (exn x) = true := by
    rcases (show x = 0 ∨ x = 1 ∨ x = 2 by omega) with rfl | rfl | rfl <;> decide +kernel
  have hnms : ∀ n ∈ nms, Bundle.fit n = true := by decide +kernel
  have hkept : ∀ a : Nat, a < E.2.1.size → ¬ (fun q => bs E ≤ q) a → s.heap[a]? = E.2.1[a]? := fun a ha _ => a8 a ha
  refine vx_throwSW (A := fun q => bs E ≤ q) (sa := sa) a1 a2 a15 a5 hfit hnms (a6 _ t1) (a6 _ t2) hsa hatb hgood (b4.kept hkept) (b5.kept hkept)
    ⟨hH.2.1, fun q hq hA => ?_, hH.2.2⟩ (by rw [a3]; exact hL.2.1) d0 d3 d4 d6 d9 (fun y hy => by rw [htab] at hy; cases hy) (by show 2 + 3 < _; omega) (by rw [cats_rv]; show _ + (13 * (2 + 1) + 43) ≤ _; omega) (by omega) (by omega) a12
    (fun t hal hsz hold => hX x h _ t hq (hH.1.junk hsz hold) (Nat.le_trans hH.2.1 hsz) hal) hH.2.2 (by omega) (by omega)
  have hb : q < bs E := Nat.not_le.mp hA
  exact (hH.1.2.1 q hb).trans (a8 q hb).symm
/-- which handler of the method takes the x-th exception thrown at pc -/
def CH (m : AM) (pc x hp : Nat) : Prop := ∃ (pre : List ExceptionTableEntry) (z : ExceptionTableEntry) (suf : List ExceptionTableEntry), tableOf m.2.2.2.2.1 = pre ++ z :: suf ∧ z.handlerPc = hp ∧ covers z pc = true ∧ z.catchType ≠ 0 ∧ x < 3 ∧ Cond.classLink m.1.cls z.catchType (exn x) ∈ gtbl ∧ ∀ y ∈ pre, y.catchType ≠ 0 ∧ ∃ x', x' < 3 ∧ x ≠ x' ∧ Cond.classLink m.1.cls y.catchType (exn x') ∈ gtbl
/-- an exception is laid away -/
def ASt (m : AM) (hp j ln : Nat) : Prop := (∃ i : Fin 4, (i : Nat) = j ∧ decode m.2.1 hp = .ok (.astore_n i, 1) ∧ ln = 1) ∨ (decode m.2.1 hp = .ok (.astore j, 2) ∧ ln = 2)
/-- a call that may throw, where the method has a handler for what it throws, whose first instruction lays the exception away -/
theorem aw_callVX {i b k : Nat} {q : vw_C} {fs As rest : List Value} {Q' : AR → AH → Prop} (hd : decode m.2.1 pc = .ok (.invokevirtual i, 3)) (hl : Cond.methodLink m.1.cls i cal.1 ∈ gtbl) (hnl : m.1.name ≠ "law") (hm : MOK cal n) (hfl : cal.2.2.2.2.2 = false) (hin : Cond.instanceMethod cal.1 ∈ gtbl) (hse : Cond.selects cal.1.cls cal.1 cal.1 ∈ gtbl) (hC : CtX cal d' mc' ms' (.ref b :: As) h Q') (hdep : d' + 1 ≤ d) (hn : As.length = n) (hb : h[b]? = some (k, fs)) (hk : kls[k]? = some q) (hk10 : k < 10) (hq : q.1 = cal.1.cls) (hst : st = As.reverse ++ .ref b :: rest) (hrs : (rest.map fun v => v.category).sum ≤ 8)
    (kx : ∀ (x : Nat) (h' : AH) (k : Nat), Q' (.inr x) h' → ∃ (hp j ln : Nat), CH m pc x hp ∧ ASt m hp j ln ∧ j < m.2.2.1 ∧ okS ls j = true ∧ AW m d mc ms (hp + ln) (ls.set j vU) [] (h' ++ junk k) Q)
    (kk : ∀ (r : Option Value) (h' : AH), Q' (.inl r) h' → AW m d mc ms (pc + 3) ls (r.toList ++ rest) h' Q) : AW m d (mc' + mc) (ms' + ms) pc ls st h Q := by
  intro E p l e R s mi args below meth c QQ H locs cells slots lr hF hL hH hc hs hE
  subst hst
  have hF0 := hF
  obtain ⟨a1, a2, a3, a4, a5, a6, a7, a8, a9, a10, a11, a12, a13, a14, a15⟩ := hF
  have hM := hC l E a15
  have hcode : Cond.code cal.1 cal.2.1 cal.2.2.1 cal.2.2.2.1 ∈ gtbl := by
    have := hm.1
    unfold cwd at this
    rw [hfl] at this
    exact this
  have hws : awsM cal = Cond.code cal.1 cal.2.1 cal.2.2.1 cal.2.2.2.1 :: gtbl := by
    unfold awsM cwd
    rw [hfl]
  have hG := gtbl_good hm.1
  obtain ⟨hr1, hr2⟩ := room_of (mc' := mc') (ms' := ms') hdep a10 a11 hm.2.2.2.2.1
  have hrecv : ∃ cellB : Cell, H[ad E b]? = some cellB ∧ cellB.vm.isStatics = false ∧ s.vm.findClass cal.1.cls = some cellB.cls := by
    obtain ⟨q', g1, -, cell, g2, g3, g4, -⟩ := (hH.1.2.2.2 b _ hb).1 hk10
    cases hk.symm.trans g1
    exact ⟨cell, g2, by rw [g4]; rfl, by rw [← hq, g3]; exact (a7.1.1 k q hk).2.1⟩
  have e0 : (As.reverse ++ Value.ref b :: rest).map (rv E) = (As.map (rv E)).reverse ++ .ref (ad E b) :: rest.map (rv E) := by simp [rv]
  have hPre : ∀ U : State, U.heap = H → s.WarmedH U.vm → PcA E (.ref b :: As) h (Value.ref (ad E b) :: As.map (rv E)).toArray U := pre_of a7 hH
  have hcat : ((rest.map (rv E)).map fun v => v.category).sum ≤ 8 := by rw [cats_rv]; exact hrs
  rw [e0]
  have hfit : cells + mc' ≤ R.cells ∧ slots + ms' ≤ R.slots := ⟨by omega, by omega⟩
  have hrun := vx_runV (C := cal.1.cls) ⟨a1, a2, a3, a5, a6⟩ hM ⟨⟨rfl, rfl, hr1, hr2, pay_in a6 hG, by rw [hws]; exact List.mem_cons_self, a6 _ hcode, a6 _ hm.2.1, hm.2.2.1, par_of hm.2.2.2.2.2.1, a6 _ hl⟩, a6 _ hin, a6 _ hse⟩ ⟨PcA.blind, hrecv, hPre⟩ (locs := locs) (cells := cells) (slots := slots) (p := p) (e := e) (below := below) (meth := meth) (g := F0 mi pc lr ((As.map (rv E)).reverse ++ .ref (ad E b) :: rest.map (rv E))) rfl (by rw [List.length_map]; exact hn) hL.2.1 rfl (lv_room hcat) hd hfit
  intro T hT X
  rcases hrun T hT X with ⟨v, st₀, t, T', L, h0, X', hLf, e1, e2, ⟨r, h', hv, hq', hR, hz⟩, stp⟩ | ⟨q9, st₀, t, T', L, En, ce, h0, X', hLf, e1, e2, ⟨x, h', kj, rfl, hq', hR, hz⟩, hce, hcv, hcl, stp⟩
  · cases hv
    have k9 := kk r h' hq' E p l e R s mi args below meth c QQ T'.heap (locs ++ L) (cells + mc') (slots + ms') lr hF0 hL ⟨by rw [e1]; exact hR, by rw [h0] at hz; rw [e1]; exact Nat.le_trans hH.2.1 hz, fun z hz9 => by
      rcases List.mem_append.mp hz9 with g | g
      · exact hH.2.2 z g
      · exact hLf z g⟩ (by omega) (by omega) hE
    rw [← cont_of] at k9
    obtain ⟨t2, g1, g2⟩ := k9 T' rfl X'
    exact ⟨t2, stp t2 g1, g2⟩
  · obtain ⟨hp, j, ln, ⟨pre, z, suf, c1, c2, c3, c4, c5, c6, c7⟩, hdj, hj, ho, hk9⟩ := kx x h' kj hq'
    have htab : c.exceptionTable.toList = pre ++ z :: suf := by
      rcases a14 with z | z
      · exact absurd z hnl
      · rw [z]; exact c1
    have hH9 : HOK E s (h' ++ junk kj) T'.heap (locs ++ L) := ⟨by rw [e1]; exact hR, by rw [h0] at hz; rw [e1]; exact Nat.le_trans hH.2.1 hz, fun z hz9 => by
      rcases List.mem_append.mp hz9 with g | g
      · exact hH.2.2 z g
      · exact hLf z g⟩
    have hcat9 := vx_catch (own := m.1.cls) (name := exn x) (E := exn x) (ce := ce) (q := q9) (pc := pc) (ls := lr) (rest := rest.map (rv E)) (H := T'.heap) (locs := locs ++ L) (cells := cells + mc') (slots := slots + ms') (Q := QQ) (p := p) (l := l) (e := e) (R := R) (s := s) (m := mi) (args := args) (below := below) (meth := meth) (c := c) a5 pre z suf htab
      (fun y hy => Or.inr (by
        obtain ⟨y1, x', y2, y3, y4⟩ := c7 y hy
        exact ⟨y1, exn x', a6 _ y4, a7.2.2.2.2.2.2.1 x x' c5 y2 y3⟩)) c3 c4 (a6 _ c6) (va_Nw.use rfl (a7.2.2.2.2.2.1 x c5)) (by rw [e1]; exact hce) hcv hcl
      (by
        rw [c2]
        rcases hdj with ⟨i9, hi9, hdj, rfl⟩ | ⟨hdj, rfl⟩
        · exact lv_astore_n a1 a2 hdj hi9 hL.has hj rfl (fun lr' hL' => hk9 E p l e R s mi args below meth c QQ T'.heap (locs ++ L) (cells + mc') (slots + ms') lr' hF0 (hL.set1 ho (Or.inr rfl) hL') hH9 (by omega) (by omega) hE)
        · exact lv_astore a1 a2 hdj hL.has hj rfl (fun lr' hL' => hk9 E p l e R s mi args below meth c QQ T'.heap (locs ++ L) (cells + mc') (slots + ms') lr' hF0 (hL.set1 ho (Or.inr rfl) hL') hH9 (by omega) (by omega) hE))
    obtain ⟨t2, g1, g2⟩ := hcat9 T' rfl X'
    exact ⟨t2, stp.trans g1, g2⟩
/-- the words of Math.max and min, of System.arraycopy -/
def MX (own : String) (i : Nat) : Prop := Cond.methodLink own i Lib.Math.max.name ∈ gtbl ∧ Cond.static Lib.Math.max.name ∈ gtbl ∧ Cond.initialized "java/lang/Math" ∈ gtbl ∧ Cond.code Lib.Math.max.name Lib.Math.max.code 2 (some .int) ∈ gtbl
def MN (own : String) (i : Nat) : Prop := Cond.methodLink own i Lib.Math.min.name ∈ gtbl ∧ Cond.static Lib.Math.min.name ∈ gtbl ∧ Cond.initialized "java/lang/Math" ∈ gtbl ∧ Cond.code Lib.Math.min.name Lib.Math.min.code 2 (some .int) ∈ gtbl
def AC9 (own : String) (i : Nat) : Prop := Cond.methodLink own i arraycopyName ∈ gtbl ∧ Cond.native arraycopyName ∈ gtbl ∧ Cond.static arraycopyName ∈ gtbl ∧ Cond.initialized "java/lang/System" ∈ gtbl
theorem aw_max {i : Nat} {x y : Int32} (hd : decode m.2.1 pc = .ok (.invokestatic i, 3)) (hw : MX m.1.cls i) (hdep : 1 ≤ d) (hrs : (st.map fun v => v.category).sum ≤ 8) (kk : AW m d mc ms (pc + 3) ls (.int (if x < y then y else x) :: st) h Q) : AW m d mc ms pc ls (.int y :: .int x :: st) h Q := by
  intro E p l e R s mi args below meth c QQ H locs cells slots lr hF hL hH hc hs hE
  have k9 := kk E p l e R s mi args below meth c QQ H locs cells slots lr hF hL hH hc hs hE
  obtain ⟨a1, a2, a3, a4, a5, a6, a7, a8, a9, a10, a11, a12⟩ := hF
  exact va_mmax a1 a2 (by rw [a3]; exact hL.2.1.symm) a5 (a6 _ hw.1) (a6 _ hw.2.1) (a6 _ hw.2.2.1) (a6 _ hw.2.2.2) (by omega) (by rw [cats_rv]; omega) (by omega) (by omega) hd k9
def ML (own : String) (i : Nat) : Prop := Cond.methodLink own i Lib.MathLoose.max_long.x ∈ gtbl ∧ Cond.static Lib.MathLoose.max_long.x ∈ gtbl ∧ Cond.initialized "java/lang/Math" ∈ gtbl ∧ Cond.code Lib.MathLoose.max_long.x Lib.MathLoose.max_long.code 4 (some .long) ∈ gtbl
theorem aw_maxL {i : Nat} {x y : Int64} (hd : decode m.2.1 pc = .ok (.invokestatic i, 3)) (hw : ML m.1.cls i) (hdep : 1 ≤ d) (hrs : (st.map fun v => v.category).sum ≤ 8) (kk : AW m d mc ms (pc + 3) ls (.long (if y < x then x else y) :: st) h Q) : AW m d mc ms pc ls (.long y :: .long x :: st) h Q := by
  intro E p l e R s mi args below meth c QQ H locs cells slots lr hF hL hH hc hs hE
  have k9 := kk E p l e R s mi args below meth c QQ H locs cells slots lr hF hL hH hc hs hE
  obtain ⟨a1, a2, a3, a4, a5, a6, a7, a8, a9, a10, a11, a12⟩ := hF
  exact va_mmax_long a1 a2 (by rw [a3]; exact hL.2.1.symm) a5 (a6 _ hw.1) (a6 _ hw.2.1) (a6 _ hw.2.2.1) (a6 _ hw.2.2.2) (by omega) (by rw [cats_rv]; omega) (by omega) (by omega) hd k9
theorem aw_min {i : Nat} {x y : Int32} (hd : decode m.2.1 pc = .ok (.invokestatic i, 3)) (hw : MN m.1.cls i) (hdep : 1 ≤ d) (hrs : (st.map fun v => v.category).sum ≤ 8) (kk : AW m d mc ms (pc + 3) ls (.int (if y < x then y else x) :: st) h Q) : AW m d mc ms pc ls (.int y :: .int x :: st) h Q := by
  intro E p l e R s mi args below meth c QQ H locs cells slots lr hF hL hH hc hs hE
  have k9 := kk E p l e R s mi args below meth c QQ H locs cells slots lr hF hL hH hc hs hE
  obtain ⟨a1, a2, a3, a4, a5, a6, a7, a8, a9, a10, a11, a12⟩ := hF
  exact va_mmin a1 a2 (by rw [a3]; exact hL.2.1.symm) a5 (a6 _ hw.1) (a6 _ hw.2.1) (a6 _ hw.2.2.1) (a6 _ hw.2.2.2) (by omega) (by rw [cats_rv]; omega) (by omega) (by omega) hd k9
/-- the first n places of an int array over those of another -/
theorem aw_copy {i a b : Nat} {x : Int32} {L M : List Int32} (hd : decode m.2.1 pc = .ok (.invokestatic i, 3)) (hw : AC9 m.1.cls i) (hdep : 2 ≤ d) (ha : h[a]? = some (10, L.map Value.int)) (hb : h[b]? = some (10, M.map Value.int)) (hx : ¬ x < 0) (h4 : x.toNatClampNeg ≤ L.length) (h5 : x.toNatClampNeg ≤ M.length) (hrs : (st.map fun v => v.category).sum ≤ 8) (kk : AW m d mc ms (pc + 3) ls st (h.set b (10, (L.take x.toNatClampNeg ++ M.drop x.toNatClampNeg).map Value.int)) Q) : AW m d mc ms pc ls (.int x :: .int 0 :: .ref b :: .int 0 :: .ref a :: st) h Q := by
  intro E p l e R s mi args below meth c QQ H locs cells slots lr hF hL hH hc hs hE
  have hF0 := hF
  obtain ⟨a1, a2, a3, a4, a5, a6, a7, a8, a9, a10, a11, a12⟩ := hF
  have conv : ∀ (L : List Int32), arrV (dA E 10) (L.map Value.int).length (vF E (L.map Value.int)) = arrV (dA E 10) L.length (fun j => Value.int (L.getD j 0)) := by
    intro L
    rw [List.length_map]
    refine arrV_congr _ fun j hj => ?_
    simp [vF, hj, rv]
  have hc0 : H[ad E a]? = some (arrV (dA E 10) L.length (fun j => Value.int (L.getD j 0))) := by
    have := (hH.1.2.2.2 a _ ha).2.1 (by show 10 ≤ 10; omega) (by show 10 < 14; omega)
    rw [this, ← conv]
  have hc1 : H[ad E b]? = some (arrV (dA E 10) M.length (fun j => Value.int (M.getD j 0))) := by
    have := (hH.1.2.2.2 b _ hb).2.1 (by show 10 ≤ 10; omega) (by show 10 < 14; omega)
    rw [this, ← conv]
  obtain ⟨-, k0, hk0, cm0, hkk0⟩ := a7.arr (k := 10) (by omega) (by omega) L.length (fun j => Value.int (L.getD j 0))
  have nn : ∀ z : Int32, ¬ z < 0 → z.toInt = (z.toNatClampNeg : Int) := by
    intro z hz
    have hz0 : (0 : Int) ≤ z.toInt := by
      have := Int32.not_lt.mp hz
      simpa using Int32.le_iff_toInt_le.mp this
    show z.toInt = ((z.toInt.toNat : Nat) : Int)
    omega
  intro T hT X
  obtain ⟨vm', X', step⟩ := X.arraycopy a1 a5 (a6 _ hw.1) (a6 _ hw.2.1) (a6 _ hw.2.2.1) (a6 _ hw.2.2.2) (src := ad E a) (dst := ad E b) (cs := arrV (dA E 10) L.length (fun j => Value.int (L.getD j 0))) (cd := arrV (dA E 10) M.length (fun j => Value.int (M.getD j 0))) (srcPos := 0) (destPos := 0) (n := x) (by rw [hT]; exact hc0) (by rw [hT]; exact hc1)
    (fun _ h => by cases h) (fun _ h => by cases h) (fun h => by cases h) (fun h => by cases h) hk0 hk0 hkk0 hkk0 (by rfl) (by decide) (by decide) hx
    (by rw [nn x hx, arrV_size]; show ¬ (0 : Int) + _ > _; omega)
    (by rw [nn x hx, arrV_size]; show ¬ (0 : Int) + _ > _; omega)
    (fun vm₁ _ i hi => by
      have e : (arrV (dA E 10) L.length (fun j => Value.int (L.getD j 0))).slots.getD ((0 : Int32).toNatClampNeg + i) .null = .int (L.getD i 0) := by
        rw [Array.getD_eq_getD_getElem?, show (0 : Int32).toNatClampNeg + i = i by show 0 + i = i; omega, arrV_read _ _ (by omega)]
        rfl
      refine ⟨?_, ?_⟩
      · rw [e]; rfl
      · rw [e]; exact trivial)
    (g := F0 mi pc lr (.int x :: .int 0 :: .ref (ad E b) :: .int 0 :: .ref (ad E a) :: st.map (rv E))) rfl (by rw [a3]; exact hL.2.1) (rest := st.map (rv E)) rfl (by rw [a2]; exact hd) (by omega) (by show 2 * 0 + _ + _ ≤ _; rw [cats_rv]; have e9 : nativeFrameWords "java/lang/System" "arraycopy" 5 + 11 ≤ 66 := Nat.le_of_ble_eq_true rfl; omega)
  have e1 : copied (arrV (dA E 10) L.length (fun j => Value.int (L.getD j 0))) (arrV (dA E 10) M.length (fun j => Value.int (M.getD j 0))) 0 0 x = arrV (dA E 10) M.length (fun j => Value.int (va_cpy (fun j => L.getD j 0) (fun j => M.getD j 0) 0 0 x.toNatClampNeg j)) := va_copied (sp := 0) (dp := 0) (fun z => .int z) _ _ _ _ (by omega)
  rw [e1] at X' step
  have hl : ad E b < H.size := (Array.getElem?_eq_some_iff.mp hc1).1
  have hn0 := hH.1.ne0 hb (show 10 < 14 by omega)
  have e2 : arrV (dA E 10) M.length (fun j => Value.int (va_cpy (fun j => L.getD j 0) (fun j => M.getD j 0) 0 0 x.toNatClampNeg j)) = arrV (dA E 10) ((L.take x.toNatClampNeg ++ M.drop x.toNatClampNeg).map Value.int).length (vF E ((L.take x.toNatClampNeg ++ M.drop x.toNatClampNeg).map Value.int)) := by
    rw [conv]
    have hlen : (L.take x.toNatClampNeg ++ M.drop x.toNatClampNeg).length = M.length := by simp; omega
    rw [hlen]
    refine arrV_congr _ fun j hj => ?_
    congr 1
    by_cases hjx : j < x.toNatClampNeg
    · rw [pk_cpy_in (by omega) (by omega)]
      simp [List.getElem?_append, List.getElem?_take, hjx]
      rw [if_pos (by omega)]
    · rw [pk_cpy_out (by omega)]
      simp [List.getElem?_append, List.length_take, hjx]
      rw [if_neg (by omega)]
      congr 2
      omega
  rw [e2] at X' step
  generalize hcell : arrV (dA E 10) ((L.take x.toNatClampNeg ++ M.drop x.toNatClampNeg).map Value.int).length (vF E ((L.take x.toNatClampNeg ++ M.drop x.toNatClampNeg).map Value.int)) = cN at X' step
  have hheap : ((T.setVm vm').setCell (ad E b) cN).heap = H.setIfInBounds (ad E b) cN := by rw [← hT]; rfl
  have oq : ∀ q : Nat, q ≠ ad E b → (H.setIfInBounds (ad E b) cN)[q]? = H[q]? := fun q hq => by simp [Array.getElem?_setIfInBounds, Ne.symm hq]
  have hme : (H.setIfInBounds (ad E b) cN)[ad E b]? = some cN := by simp [Array.getElem?_setIfInBounds, hl]
  have hsz : (H.setIfInBounds (ad E b) cN).size = H.size := by simp
  have hR : Rel E (h.set b (10, (L.take x.toNatClampNeg ++ M.drop x.toNatClampNeg).map Value.int)) (H.setIfInBounds (ad E b) cN) :=
    hH.1.set hb (show 10 < 14 by omega) hsz oq ⟨fun z => absurd z (by show ¬ 10 < 10; omega), fun _ _ => by rw [hme, ← hcell], fun z => absurd z (by show ¬ 10 = 14; omega)⟩
  obtain ⟨t, g1, g2⟩ := kk E p l e R s mi args below meth c QQ _ _ cells slots lr hF0 hL ⟨hR, by rw [hsz]; exact hH.2.1, fun z hz => by
    rcases List.mem_append.mp hz with h9 | h9
    · exact hH.2.2 z h9
    · obtain ⟨z9, -, hz9⟩ := List.mem_map.mp h9
      rw [← hz9]
      exact ad_bs hn0⟩ hc hs hE _ hheap X'
  exact ⟨t, step t g1, g2⟩
end THROWS
