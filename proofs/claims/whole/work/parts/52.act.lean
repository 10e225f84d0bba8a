/-! weaker ends of contracts; a camp with a sound row, and what an action makes of it -/
theorem Ct.mono {m : AM} {d mc ms : Nat} {avs : List Value} {h : AH} {Q Q' : Option Value → AH → Prop} (k : Ct m d mc ms avs h Q) (hq : ∀ r h', Q r h' → Q' r h') : Ct m d mc ms avs h Q' :=
  fun l E hst => MetFree.mono (k l E hst) (fun _ _ p => p) (fun _ _ _ _ _ p => p) (fun a s o s' _ q => ⟨by
    obtain ⟨⟨r, h', e1, e2, e3⟩, _⟩ := q
    exact ⟨r, h', e1, hq _ _ e2, e3⟩, q.2⟩)
def cmp (h : AH) (c : Nat) (r : Nat → Int) : Prop := camp h c (r 8) (r 5) r ∧ Inv r
def inV (r : Nat → Int) : Int := if r 3 < 8 then r 3 else -1
def inR (r : Nat → Int) : Nat → Int := if r 3 < 8 then enterIn r else r
def outV (r : Nat → Int) : Int := if 0 < r 3 then strV r (nR r - 1) else -1
def outR (r : Nat → Int) : Nat → Int := if 0 < r 3 then leaveIn r else r
def bakV (r : Nat → Int) (i : Int) : Int := if 0 ≤ i ∧ i < r 3 then strV r i.toNat else -1
def bakR (r : Nat → Int) (i : Int) : Nat → Int := if 0 ≤ i ∧ i < r 3 then jumpIn r i.toNat else r
def filV (r : Nat → Int) (t : Int) : Int := if 0 ≤ t ∧ t < r 0 then fillV r t.toNat else -1
def filR (r : Nat → Int) (t v : Int) : Nat → Int := if 0 ≤ t ∧ t < r 0 then fillIn r t.toNat v else r
section ACT
variable {h h' : AH} {c lo hi : Nat} {r : Nat → Int}
theorem cmp.o (hc : cmp h c r) : isO h c 0 := hc.1.o
theorem cmp.off (hc : cmp h c r) (ho : Off h h' lo hi) (hd : c + 35 ≤ lo ∨ hi ≤ c := by omega) : cmp h' c r := ⟨hc.1.off ho hd, hc.2⟩
theorem Inv.r0 (hI : Inv r) : 0 ≤ r 0 ∧ r 0 ≤ 24 := hI.2.1.1
theorem Inv.r3 (hI : Inv r) : 0 ≤ r 3 ∧ r 3 ≤ 8 := hI.2.2.2.1.1
theorem Inv.r1 (hI : Inv r) : (0 ≤ r 1 ∧ r 1 ≤ 51) ∧ (0 ≤ r 2 ∧ r 2 ≤ 51) := ⟨hI.1.k.1, hI.1.k.2.1⟩
theorem Inv.r9 (hI : Inv r) : r 9 = 0 ∨ r 9 = 1 := hI.2.2.2.2.2.1
theorem pitchIn_8 (hI : Inv r) {z s : Int} : pitchIn r z s 8 = r 8 := by
  have h0 := hI.r0
  rw [pitchIn_c hI.1 (by omega) (by omega) (by omega), pitchOn_lo hI.1 (by omega) (by omega) (by omega) (by omega)]
theorem Inv.pu (hI : Inv r) {z s : Int} (hz : 1 ≤ z ∧ z ≤ 40) (hs : s = 1 ∨ s = 2 ∨ s = 4 ∨ s = 8) : Inv (puR r z s) ∧ puR r z s 8 = r 8 := by
  unfold puR
  split
  · rename_i w
    exact ⟨hI.pitch w.1 hz hs w.2, pitchIn_8 hI⟩
  · exact ⟨hI, rfl⟩
theorem w_putUp (hc : cmp h c r) {z s : Int} (hz : 1 ≤ z ∧ z ≤ 40) (hs : s = 1 ∨ s = 2 ∨ s = 4 ∨ s = 8) : CtI mX0_putUp 4 0 0 [.ref c, .int (iN z), .int (iN s)] h (fun v h' => v = puV r z s ∧ cmp h' c (puR r z s) ∧ Off h h' c (c + 35)) := by
  have I := hc.2
  have P := I.pu hz hs
  refine Ct.mono (s_putUp hc.1 I.1 I.2.1 I.2.2.2.1 hz hs) (fun r9 h9 hq => ?_)
  obtain ⟨v, e, hv, k1, k2⟩ := hq
  refine ⟨v, e, hv, ⟨?_, P.1⟩, k2⟩
  rw [P.2]; exact k1
theorem w_strew (hc : cmp h c r) {t v : Int} (hr : -2147483648 ≤ t ∧ t < 2147483648) (hv : 0 ≤ v ∧ v ≤ 100) : CtI mX0_strewTent 2 0 0 [.ref c, .int (iN t), .int (iN v)] h (fun w h' => w = filV r t ∧ cmp h' c (filR r t v) ∧ Off h h' c (c + 35)) := by
  obtain ⟨⟨N, X, hX, hA⟩, I⟩ := hc
  have h0 := I.r0
  by_cases q : 0 ≤ t ∧ t < r 0
  · have et : t = ((t.toNat : Nat) : Int) := by omega
    have tl : t.toNat < nT r := by unfold nT; omega
    have S := s_strewT hX hA I.1 I.2.1 I.2.2.1 tl v
    rw [← et] at S
    refine Ct.mono S (fun r9 h9 hq => ?_)
    obtain ⟨w, e, hw, k1, k2⟩ := hq
    have F := fill_Agr hA I.1 I.2.1 I.r3.2 tl v
    have e8 : fillIn r t.toNat v 8 = r 8 := fillIn_lo (by omega)
    have e5 : fillIn r t.toNat v 5 = r 5 := fillIn_lo (by omega)
    unfold filV filR
    rw [if_pos q, if_pos q]
    refine ⟨w, e, hw, ⟨?_, I.fill hv⟩, k2⟩
    rw [e8, e5]
    exact ⟨_, _, k1, F.1⟩
  · refine Ct.mono (s_strewN hX hA h0 hr q v) (fun r9 h9 hq => ?_)
    obtain ⟨w, e, hw, k1⟩ := hq
    unfold filV filR
    rw [if_neg q, if_neg q, k1]
    exact ⟨w, e, hw, ⟨⟨N, X, hX, hA⟩, I⟩, Off.rf⟩
theorem enterIn_c (hI : Inv r) {c : Nat} (h3 : c ≠ 3) (h4 : c < 418) : enterIn r c = r c := by
  unfold enterIn
  rw [up_ne _ _ h3, up_ne _ _ (by omega), up_ne _ _ (by omega)]
theorem w_goIn (hc : cmp h c r) : CtI mX0_goIn 1 0 0 [.ref c] h (fun v h' => v = inV r ∧ cmp h' c (inR r) ∧ Off h h' c (c + 35)) := by
  obtain ⟨⟨N, X, hX, hA⟩, I⟩ := hc
  have h3 := I.r3
  unfold inV inR
  by_cases q : r 3 < 8
  · rw [if_pos q, if_pos q]
    refine Ct.mono (s_goIn hX hA I.1 I.r0 ⟨h3.1, q⟩) (fun r9 h9 hq => ?_)
    obtain ⟨w, e, hw, ⟨N', X', k1, k2⟩, k3⟩ := hq
    refine ⟨w, e, hw, ⟨?_, I.enter q⟩, k3⟩
    rw [enterIn_c I (by omega) (by omega), enterIn_c I (by omega) (by omega)]
    exact ⟨N', X', k1, k2⟩
  · rw [if_neg q, if_neg q]
    refine Ct.mono (s_goInN hX hA (by omega)) (fun r9 h9 hq => ?_)
    obtain ⟨w, e, hw, k1⟩ := hq
    rw [k1]
    exact ⟨w, e, hw, ⟨⟨N, X, hX, hA⟩, I⟩, Off.rf⟩
theorem jumpIn_c (hI : Inv r) {i : Nat} (hi : (i : Int) < r 3) {c : Nat} (h3 : 4 ≤ c) (h6 : c ≠ 6) (h4 : c < 106) : jumpIn r i c = r c := by
  have := hI.r3
  unfold jumpIn
  rw [up_ne _ _ (by omega)]
  exact strB_c (by omega) (hI.J hi).1 c (by omega) h6 (by omega)
theorem leaveIn_c (hI : Inv r) (h0 : 0 < r 3) {c : Nat} (h3 : 4 ≤ c) (h6 : c ≠ 6) (h4 : c < 106) : leaveIn r c = r c := by
  have := hI.r3
  have n3 : (nR r : Int) = r 3 := by unfold nR; omega
  unfold leaveIn
  rw [up_ne _ _ (by omega)]
  exact strB_c (by omega) (hI.J (i := nR r - 1) (by omega)).1 c (by omega) h6 (by omega)
theorem w_goOut (hc : cmp h c r) : CtI mX0_goOut 5 0 0 [.ref c] h (fun v h' => v = outV r ∧ cmp h' c (outR r) ∧ Off h h' c (c + 35)) := by
  obtain ⟨⟨N, X, hX, hA⟩, I⟩ := hc
  have h3 := I.r3
  have n3 : (nR r : Int) = r 3 := by unfold nR; omega
  unfold outV outR
  by_cases q : 0 < r 3
  · rw [if_pos q, if_pos q]
    have e8 := leaveIn_c I q (c := 8) (by omega) (by omega) (by omega)
    have e5 := leaveIn_c I q (c := 5) (by omega) (by omega) (by omega)
    refine Ct.mono (s_goOut hX hA ⟨q, h3.2⟩ (I.J (i := nR r - 1) (by omega))) (fun r9 h9 hq => ?_)
    obtain ⟨w, e, hw, ⟨N', X', k1, k2⟩, k3⟩ := hq
    refine ⟨w, e, hw, ⟨?_, I.leave q⟩, k3⟩
    rw [e8, e5]
    exact ⟨N', X', k1, k2⟩
  · rw [if_neg q, if_neg q]
    refine Ct.mono (s_goOutN hX hA (by omega)) (fun r9 h9 hq => ?_)
    obtain ⟨w, e, hw, k1⟩ := hq
    rw [k1]
    exact ⟨w, e, hw, ⟨⟨N, X, hX, hA⟩, I⟩, Off.rf⟩
theorem w_goBack (hc : cmp h c r) {i : Int} (hr : -2147483648 ≤ i ∧ i < 2147483648) : CtI mX0_goBack 4 0 0 [.ref c, .int (iN i)] h (fun v h' => v = bakV r i ∧ cmp h' c (bakR r i) ∧ Off h h' c (c + 35)) := by
  obtain ⟨⟨N, X, hX, hA⟩, I⟩ := hc
  have h3 := I.r3
  unfold bakV bakR
  by_cases q : 0 ≤ i ∧ i < r 3
  · rw [if_pos q, if_pos q]
    have ei : i = ((i.toNat : Nat) : Int) := by omega
    have li : ((i.toNat : Nat) : Int) < r 3 := by omega
    have e8 := jumpIn_c I li (c := 8) (by omega) (by omega) (by omega)
    have e5 := jumpIn_c I li (c := 5) (by omega) (by omega) (by omega)
    have S := s_goBackX hX hA li (I.J li)
    rw [← ei] at S
    refine Ct.mono S (fun r9 h9 hq => ?_)
    obtain ⟨w, e, hw, ⟨N', X', k1, k2⟩, k3⟩ := hq
    refine ⟨w, e, hw, ⟨?_, I.jump li⟩, k3⟩
    rw [e8, e5]
    exact ⟨N', X', k1, k2⟩
  · rw [if_neg q, if_neg q]
    refine Ct.mono (s_goBackN hX hA h3 hr q) (fun r9 h9 hq => ?_)
    obtain ⟨w, e, hw, k1⟩ := hq
    rw [k1]
    exact ⟨w, e, hw, ⟨⟨N, X, hX, hA⟩, I⟩, Off.rf⟩
end ACT
