/-! giving up too much, jumping, entering, leaving -/
section BACK3
variable {h : AH} {c : Nat} {N : Nat → Int} {X : Nat → Nat → Int} {k m : Int} {r : Nat → Int}
theorem s_giveUpTooMuch (hc : campX h c N X) (ha : Agr (r 8) m N X r) (hg : okG r) (h0 : 0 ≤ r 0 ∧ r 0 ≤ 24) (h3 : 0 ≤ r 3 ∧ r 3 ≤ 8) (h8 : 0 ≤ r 8 ∧ r 8 ≤ 1000) : CtV mX0_giveUpTooMuch 3 0 0 [.ref c] h (fun h' => (∃ N' X', campX h' c N' X' ∧ Agr (r 8) m N' X' (gvs 51 r)) ∧ Off h h' c (c + 35)) := by
  refine en_X0_giveUpTooMuch (b_X0_giveUpTooMuch_0 ?_)
  have H : ∀ (n i : Nat) (h1 : AH) (N : Nat → Int) (X : Nat → Nat → Int) (g : Nat → Int), i + n = 51 → campX h1 c N X → Agr (r 8) m N X g → okG g → g 0 = r 0 → g 3 = r 3 → g 8 = r 8 → gvs 51 r = gvs n g → Off h h1 c (c + 35) → AW mX0_giveUpTooMuch 3 0 0 2 [.ref c, .int (iN (i : Int)), vU, vU, vU] [] h1 (qV fun h' => (∃ N' X', campX h' c N' X' ∧ Agr (r 8) m N' X' (gvs 51 r)) ∧ Off h h' c (c + 35)) := by
    intro n
    induction n with
    | zero =>
      intro i h1 N X g hi hc ha og g0 g3 g8 eg o1
      refine b_X0_giveUpTooMuch_2 (fun _ => ?_) (fun w => absurd ((iN_le (by omega)).mpr (by omega)) w)
      refine b_X0_giveUpTooMuch_110 (rV ⟨⟨N, X, hc, ?_⟩, o1⟩)
      rw [eg]; exact ha
    | succ n ih =>
      intro i h1 N X g hi hc ha og g0 g3 g8 eg o1
      have okr := og.k
      have hn := og.n
      have q1 := okr.1
      have q2 := okr.2.1
      have n1 : g 1 = (nF g : Int) := by unfold nF; omega
      have n2 : g 2 = (nS g : Int) := by unfold nS; omega
      have hsp := okr.sp
      have hap := okr.ap
      have hU := hc.uu ha og
      have hS := hc.ss ha og
      have aH := ha
      obtain ⟨⟨b0, b1, b2, b3, b4, b5, b6, b7, b8, b9, b10⟩, bv, bt, bf, bu, bs⟩ := ha
      have e : ((i : Int) + 1) = ((i + 1 : Nat) : Int) := by omega
      have zX : ∀ j, j < nS g → 0 ≤ X 12 j ∧ X 12 j ≤ 1000 := fun j hj => by
        rw [(bs j (by omega)).2]
        have := okr.2.2.2.2 j hj; omega
      have eP : sm (X 12) (nS g) = sparP g := sm_congr (fun j hj => (bs j (by omega)).2)
      refine b_X0_giveUpTooMuch_2 (fun w => ?_) (fun _ => ?_)
      · have := (iN_le (by omega)).mp w; omega
      refine b_X0_giveUpTooMuch_8 hc.rs hS.o (s_places (nS g) hS (by omega) zX) (fun v h2 hv => ?_)
      obtain ⟨rfl, rfl⟩ := hv
      rw [eP]
      have eg2 : gvs (n + 1) g = if g 8 < sparP g then gvs n (gvU g (grtS g)) else g := rfl
      rw [eg2] at eg
      refine b_X0_giveUpTooMuch_15 (hc.n1.ev b1) (fun w => ?_) (fun w => ?_)
      · have := (iN_le (by omega)).mp w
        rw [if_neg (by omega)] at eg
        refine b_X0_giveUpTooMuch_110 (rV ⟨⟨N, X, hc, ?_⟩, o1⟩)
        rw [eg]; exact aH
      have lt : g 8 < sparP g := by
        rcases Int.lt_or_le (g 8) (sparP g) with y | y
        · exact y
        · exact absurd ((iN_le (by omega)).mpr (by omega)) w
      rw [if_pos lt] at eg
      have hS0 : 0 < nS g := by
        rcases Nat.eq_zero_or_pos (nS g) with z | z
        · unfold sparP at lt; rw [z] at lt; simp [sm] at lt; omega
        · exact z
      have hi9 := grtS_lt hS0
      have eG : grt (X 12) (nS g) = (grtS g : Int) := by
        have := grt_rg (fun i => g (314 + 2 * i)) (nS g)
        unfold grtS
        rw [grt_congr (g' := fun i => g (314 + 2 * i)) (fun j hj => (bs j (by omega)).2)]
        omega
      obtain ⟨o1', o2'⟩ := gv_ok og hi9
      have hs := og.s hi9
      have bsi := bs (grtS g) (by omega)
      have gsv := gv_v og hi9
      have gss := fun j hj => gv_s hi9 hn (k := j) hj
      have gsm : ∀ c, 418 ≤ c ∧ c < 434 → gvU g (grtS g) c = g c := fun c hc => gv_m hi9 hn hc
      have gsl : ∀ c, c < 106 → gvU g (grtS g) c = if c = 2 then g 2 - 1 else g c := fun c hc => gv_lo hc
      have gsf : ∀ c, 106 ≤ c ∧ c < 314 → gvU g (grtS g) c = if c < 106 + 4 * nF g ∧ c % 4 = 1 then dn (g (315 + 2 * grtS g)) (g (314 + 2 * grtS g)) (g c) else g c := fun c hc => gv_f hc
      refine b_X0_giveUpTooMuch_22 hc.rs hS.o (s_greatest (nS g) hS (by omega) zX) (fun v h2 hv => ?_)
      obtain ⟨rfl, rfl⟩ := hv
      rw [eG]
      generalize hG : gvU g (grtS g) = G at *
      generalize hx : grtS g = x at *
      refine b_X0_giveUpTooMuch_29 hc.rs hS.f1 hS.2.1.o (s_get hS.2.1 (z := (x : Int)) (by omega) (by omega)) (fun v h3 hv => ?_)
      obtain ⟨rfl, rfl⟩ := hv
      rw [Int.toNat_natCast, bsi.1]
      refine b_X0_giveUpTooMuch_41 hc.rs hS.f2 hS.2.2.1.o (s_get hS.2.2.1 (z := (x : Int)) (by omega) (by omega)) (fun v h3 hv => ?_)
      obtain ⟨rfl, rfl⟩ := hv
      rw [Int.toNat_natCast, bsi.2]
      generalize hz : g (314 + 2 * x) = z at *
      generalize hst : g (315 + 2 * x) = s at *
      refine b_X0_giveUpTooMuch_53 hc.rs hS.o (s_remove (nS g) x hS (by omega) hi9) (fun h4 hv => ?_)
      obtain ⟨hS4, o4⟩ := hv
      have hc4 := hc.ws hS4 (o4.up _ _)
      have es : s = (s.toNat : Int) := by omega
      have ez : z = (z.toNat : Int) := by omega
      have hg256 := og.1.2.2.2
      refine b_X0_giveUpTooMuch_63 hc4.rv hc4.v.o (by rw [es, ez]; exact s_cut hc4.v (p := s.toNat) (n := z.toNat) (by omega) (by omega)) (fun h5 e5 => ?_)
      have o5 : Off h4 h5 (c + 1) (c + 3) := Off.eqw e5 (c + 1) (c + 3)
      have hc5 := hc4.wv (g := cutf (X 0) s.toNat z.toNat 256) (by rw [e5]; exact hc4.v.w _) o5
      have hU5 := (hU.off o4).off o5
      have hS5 := hS4.off o5
      refine b_X0_giveUpTooMuch_73 hc5.ru hU5.o (s_closeUp (nF g) hU5 (by omega) (fun f hf => by
        have := og.f hf
        rw [(bu f (by omega)).1]; omega) (x := s) (k9 := z) (by omega)) (fun h6 hv => ?_)
      obtain ⟨hU6, o6⟩ := hv
      have hc6 := hc5.wu hU6 (o6.up _ _)
      have hS6 := hS5.off o6
      have hS6' : fields h6 (c + 26) ((nS g - 1 : Nat) : Int) (cutf (X 11) x 1 51) (cutf (X 12) x 1 51) (cutf (X 13) x 1 51) (cutf (X 14) x 1 51) := by
        rw [show ((nS g - 1 : Nat) : Int) = (nS g : Int) - 1 by omega]; exact hS6
      have cst : ∀ j, j < nS g - 1 → cutf (X 11) x 1 51 j = g (315 + 2 * (if j < x then j else j + 1)) ∧ cutf (X 12) x 1 51 j = g (314 + 2 * (if j < x then j else j + 1)) := by
        intro j hj
        unfold cutf
        by_cases q : j < x
        · rw [if_neg (show ¬ (x ≤ j ∧ j < 51 - 1) by omega), if_neg (show ¬ (x ≤ j ∧ j < 51 - 1) by omega), if_pos q]
          exact bs j (by omega)
        · rw [if_pos (show x ≤ j ∧ j < 51 - 1 by omega), if_pos (show x ≤ j ∧ j < 51 - 1 by omega), if_neg q]
          exact bs (j + 1) (by omega)
      refine b_X0_giveUpTooMuch_83 hc6.rs hS6'.o (s_closeUp (nS g - 1) hS6' (by omega) (fun j hj => by
        rw [(cst j hj).1]
        have := og.s (i := if j < x then j else j + 1) (by split <;> omega)
        omega) (x := s) (k9 := z) (by omega)) (fun h7 hv => ?_)
      obtain ⟨hS7, o7⟩ := hv
      have hc7 := hc6.ws hS7 (o7.up _ _)
      have hc8 := hc7.setn 6 (allP g - z)
      refine b_X0_giveUpTooMuch_93 (hc7.n6.ev b6) hc7.n6 ?_
      rw [e]
      have oo := ((((o4.tr o5 c (c + 35)).tr o6 c (c + 35)).tr o7 c (c + 35)).tr (Off.ofs (a := c) (j := 6) (v := .int (iN (allP g - z)))) c (c + 35))
      refine ih (i + 1) _ _ _ G (by omega) hc8 ?_ o1' ?_ ?_ ?_ eg (o1.tr oo c (c + 35))
      · refine ⟨⟨?_, b1, ?_, ?_, ?_, b5, ?_, ?_, ?_, ?_, ?_⟩, fun j hj => ?_, fun t q => ?_, fun i hi => ?_, fun f hf => ?_, fun j hj => ?_⟩
        · rw [gsl 7 (by omega), if_neg (by omega)]; exact b0
        · rw [gsl 9 (by omega), if_neg (by omega)]; exact b2
        · rw [gsl 6 (by omega), if_neg (by omega)]; exact b3
        · rw [gsl 4 (by omega), if_neg (by omega)]; exact b4
        · rw [o2']; exact up_same _ _ _
        · rw [gsl 0 (by omega), if_neg (by omega)]; exact b7
        · rw [gsl 3 (by omega), if_neg (by omega)]; exact b8
        · rw [gsl 1 (by omega), if_neg (by omega)]; exact n1.symm
        · rw [gsl 2 (by omega), if_pos rfl]
          show ((nS g - 1 : Nat) : Int) = _
          omega
        · rw [o2'] at hj
          show cutf (X 0) s.toNat z.toNat 256 j = _
          rw [gsv j]
          unfold cutf
          by_cases q : s ≤ j
          · rw [if_pos (by omega), if_pos (by omega), bv _ (by omega)]
          · rw [if_neg (by omega), if_neg (by omega), bv _ (by omega)]
        · rw [gsl 0 (by omega), if_neg (by omega)] at q
          rw [gsl _ (by omega), gsl _ (by omega), gsl _ (by omega), gsl _ (by omega), if_neg (by omega), if_neg (by omega), if_neg (by omega), if_neg (by omega)]
          exact bt t q
        · rw [gsl 3 (by omega), if_neg (by omega)] at hi
          rw [gsm _ (by omega), gsm _ (by omega)]
          exact bf i hi
        · rw [gsl 1 (by omega), if_neg (by omega)] at hf
          have bb := bu f hf
          rw [gsf (109 + 4 * f) (by omega), gsf (106 + 4 * f) (by omega), gsf (107 + 4 * f) (by omega), gsf (108 + 4 * f) (by omega), if_pos (by omega), if_neg (by omega), if_neg (by omega), if_neg (by omega)]
          refine ⟨?_, bb.2.1, bb.2.2.1, bb.2.2.2⟩
          show clo (X 7) s z (nF g) f = _
          unfold clo dn
          rw [bb.1]
          by_cases q : s < g (109 + 4 * f)
          · rw [if_pos (by omega), if_pos q]
          · rw [if_neg (by omega), if_neg q]
        · rw [gsl 2 (by omega), if_pos rfl] at hj
          have cj := cst j (by omega)
          rw [(gss j (by omega)).1, (gss j (by omega)).2]
          refine ⟨?_, cj.2⟩
          show clo (cutf (X 11) x 1 51) s z (nS g - 1) j = _
          unfold clo dn
          rw [cj.1]
          by_cases q : s < g (315 + 2 * (if j < x then j else j + 1))
          · rw [if_pos ⟨by omega, q⟩, if_pos q]
          · rw [if_neg (fun z => q z.2), if_neg q]
      · rw [gsl 0 (by omega), if_neg (by omega)]; exact g0
      · rw [gsl 3 (by omega), if_neg (by omega)]; exact g3
      · rw [gsl 8 (by omega), if_neg (by omega)]; exact g8
  exact H 51 0 h N X r (by omega) hc ha hg rfl rfl rfl rfl Off.rf
/-- every field below F has a tent below T -/
def hasT (r : Nat → Int) (T F : Int) : Prop := ∀ f : Nat, (f : Int) < F → ∃ t : Nat, (t : Int) < T ∧ r (10 + 4 * t) = f
/-- what jumping to frame i needs -/
def okJ (r : Nat → Int) (i : Nat) : Prop := okB r i ∧ okV r ∧ (0 ≤ r 3 ∧ r 3 ≤ 8) ∧ hasT r (r (418 + 2 * i)) (r (419 + 2 * i))
theorem s_goBackX (hc : campX h c N X) (ha : Agr (r 8) m N X r) {i : Nat} (hi : (i : Int) < r 3) (hj : okJ r i) : CtI mX0_goBack 4 0 0 [.ref c, .int (iN i)] h (fun v h' => v = strV r i ∧ (∃ N' X', campX h' c N' X' ∧ Agr (r 8) m N' X' (jumpIn r i)) ∧ Off h h' c (c + 35)) := by
  obtain ⟨hb, hv, h3, hit⟩ := hj
  have h38 : i < 8 := by omega
  obtain ⟨a1, a2, a3, a4⟩ := hb.a
  obtain ⟨c1, c2, c3, c4, c5, c6, c7, c8, c9, c10⟩ := hb.b h38
  have hb' := hb
  obtain ⟨hg, ht, h8, h9, hT, hF, hx⟩ := hb
  have h0 := ht.1
  have h1 := hg.k.1
  have n0 : r 0 = (nT r : Int) := by unfold nT; omega
  have n1 : r 1 = (nF r : Int) := by unfold nF; omega
  have hFr := hc.ff ha h3.1
  have n3 : r 3 = (nR r : Int) := by unfold nR; omega
  have af := ha.2.2.2.1 i hi
  refine en_X0_goBack (b_X0_goBack_0 hc.rf hFr.o (s_rhas hFr (x := (i : Int)) (by omega) (by omega)) (fun v h2 hv => ?_))
  obtain ⟨rfl, rfl⟩ := hv
  rw [decide_eq_true (by omega)]
  refine b_X0_goBack_8 (fun _ => ?_) (fun w => absurd w (by decide))
  refine b_X0_goBack_13 hc.rf hFr.f1 hFr.2.1.o (s_get hFr.2.1 (z := (i : Int)) (by omega) (by omega)) (fun v h9' hv => ?_)
  obtain ⟨rfl, rfl⟩ := hv
  rw [Int.toNat_natCast, af.1]
  have eT : r (418 + 2 * i) = ((r (418 + 2 * i)).toNat : Int) := by omega
  have eF : r (419 + 2 * i) = ((r (419 + 2 * i)).toNat : Int) := by omega
  refine b_X0_goBack_25 hc.o (by rw [eT]; exact s_strikeTents hc ha hg ht hv h3 h9 (T := (r (418 + 2 * i)).toNat) (by omega)) (fun v h4 hv => ?_)
  obtain ⟨rfl, ⟨N1, X1, hc1, ha1⟩, o1⟩ := hv
  rw [← eT]
  change Agr (r 8) m N1 X1 (sbA r i) at ha1
  have A : ∀ c, c < 434 → c ≠ 6 → c ≠ 0 → sbA r i c = r c := fun c q1 q2 q3 => by rw [a4 c q1, if_neg q2, if_neg q3]
  have A0 : sbA r i 0 = r (418 + 2 * i) := by rw [a4 0 (by omega), if_neg (by omega), if_pos rfl]
  have A3 := A 3 (by omega) (by omega) (by omega)
  have hFr1 := hc1.ff ha1 (by rw [A3]; exact h3.1)
  have af1 := ha1.2.2.2.1 i (by rw [A3]; exact hi)
  refine b_X0_goBack_28 hc1.rf hFr1.f2 hFr1.2.2.o (s_get hFr1.2.2 (z := (i : Int)) (by omega) (by omega)) (fun v h5 hv => ?_)
  obtain ⟨rfl, rfl⟩ := hv
  rw [Int.toNat_natCast, af1.2, A _ (by omega) (by omega) (by omega)]
  have eFn : nF (sbA r i) = nF r := by unfold nF; rw [A 1 (by omega) (by omega) (by omega)]
  have eTn : nT (sbA r i) = (r (418 + 2 * i)).toNat := by unfold nT; rw [A0]
  have hcl : movs (nF (sbA r i) - (r (419 + 2 * i)).toNat) (sbA r i) = sbB r i := by rw [eFn]; rfl
  refine b_X0_goBack_41 hc1.o (by
    rw [eF]
    exact s_clearFields hc1 ha1 a1 (by rw [A0]; omega) (by rw [A3]; exact h3) (F := (r (419 + 2 * i)).toNat) (by omega) (by rw [hcl]; exact c2) (fun f hf => by
      obtain ⟨t, t1, t2⟩ := hit f (by omega)
      refine ⟨t, by omega, ?_⟩
      rw [A _ (by omega) (by omega) (by omega), t2]; omega)) (fun h6 hv => ?_)
  rw [hcl] at hv
  obtain ⟨⟨N2, X2, hc2, ha2⟩, o2⟩ := hv
  obtain ⟨l1, l2⟩ := layE_ok c1 c2
  have B : ∀ c, c ≠ 0 → c ≠ 1 → c ≠ 2 → c ≠ 6 → c < 106 → layE (sbB r i) c = r c := fun c q1 q2 q3 q4 q5 => by
    rw [layE_out c1 c2 (by omega), c6 c q1 q2 q3 q4 (by omega)]
  have e8 : layE (sbB r i) 8 = r 8 := B 8 (by omega) (by omega) (by omega) (by omega) (by omega)
  have b0 : layE (sbB r i) 0 = r (418 + 2 * i) := by rw [layE_out c1 c2 (by omega), c7]
  have g := s_giveUpTooMuch (h := h6) (c := c) (m := m) (N := N2) (X := X2) (r := layE (sbB r i)) hc2 (by rw [e8]; exact ha2) l1 (by rw [b0]; omega) (by rw [B 3 (by omega) (by omega) (by omega) (by omega) (by omega)]; exact h3) (by rw [e8]; omega)
  rw [e8] at g
  refine b_X0_goBack_44 hc2.o g (fun h7 hv => ?_)
  obtain ⟨⟨N3, X3, hc3, ha3⟩, o3⟩ := hv
  change Agr (r 8) m N3 X3 (strikeB r i) at ha3
  have hf9 := hc3.f.setc ((i : Int) + 1)
  have o4 : Off h7 (stf h7 (c + 12) 0 (.int (iN ((i : Int) + 1)))) (c + 12) (c + 17) := Off.ofs.up _ _
  have hc4 := hc3.wf hf9 o4
  refine b_X0_goBack_48 hc3.rf hc3.f.n0 (rI ⟨rfl, ⟨_, _, hc4, ?_⟩, ((o1.tr o2 c (c + 35)).tr o3 c (c + 35)).tr o4 c (c + 35)⟩)
  have s3 : strikeB r i 3 = r 3 := strB_c h38 hb' 3 (by omega) (by omega) (by omega)
  obtain ⟨⟨b0, b1, b2, b3, b4, b5, b6, b7, b8, b9, b10⟩, bv, bt, bf, bu, bs⟩ := ha3
  have J : ∀ c, c ≠ 3 → jumpIn r i c = strikeB r i c := fun c hc => up_ne _ _ hc
  have J3 : jumpIn r i 3 = (i : Int) + 1 := up_same _ _ _
  have eA : allP (jumpIn r i) = allP (strikeB r i) := by
    unfold allP useP sparP nF nS
    rw [J 1 (by omega), J 2 (by omega)]
    congr 1
    · exact sm_congr (fun f _ => J _ (by omega))
    · exact sm_congr (fun f _ => J _ (by omega))
  refine ⟨⟨?_, b1, ?_, ?_, ?_, b5, ?_, ?_, ?_, ?_, ?_⟩, fun j hj => ?_, fun t q => ?_, fun i' hi' => ?_, fun f hf => ?_, fun j hj => ?_⟩
  · rw [J 7 (by omega)]; exact b0
  · rw [J 9 (by omega)]; exact b2
  · rw [J 6 (by omega)]; exact b3
  · rw [J 4 (by omega)]; exact b4
  · rw [eA]; exact b6
  · rw [J 0 (by omega)]; exact b7
  · rw [J3]; rfl
  · rw [J 1 (by omega)]; exact b9
  · rw [J 2 (by omega)]; exact b10
  · rw [eA] at hj; rw [J _ (by omega)]; exact bv j hj
  · rw [J 0 (by omega)] at q
    rw [J _ (by omega), J _ (by omega), J _ (by omega), J _ (by omega)]; exact bt t q
  · rw [J3] at hi'
    rw [J _ (by omega), J _ (by omega)]; exact bf i' (by omega)
  · rw [J 1 (by omega)] at hf
    rw [J _ (by omega), J _ (by omega), J _ (by omega), J _ (by omega)]; exact bu f hf
  · rw [J 2 (by omega)] at hj
    rw [J _ (by omega), J _ (by omega)]; exact bs j hj
/-- no such frame -/
theorem s_goBackN (hc : campX h c N X) (ha : Agr k m N X r) (h3 : 0 ≤ r 3 ∧ r 3 ≤ 8) {i : Int} (hr : -2147483648 ≤ i ∧ i < 2147483648) (hi : ¬ (0 ≤ i ∧ i < r 3)) : CtI mX0_goBack 4 0 0 [.ref c, .int (iN i)] h (fun v h' => v = -1 ∧ h' = h) := by
  have hFr := hc.ff ha h3.1
  have n3 : r 3 = (nR r : Int) := by unfold nR; omega
  refine en_X0_goBack (b_X0_goBack_0 hc.rf hFr.o (s_rhas hFr (x := i) hr (by omega)) (fun v h2 hv => ?_))
  obtain ⟨rfl, rfl⟩ := hv
  rw [decide_eq_false (by omega)]
  refine b_X0_goBack_8 (fun w => absurd rfl w) (fun _ => ?_)
  exact b_X0_goBack_11 (rI ⟨rfl, rfl⟩)
end BACK3
