/-! both worlds: the class's objects, the reference's object -/
/-- outside lo to hi all that was there is as it was; the heap may have grown -/
def Kp (h h' : AH) (lo hi : Nat) : Prop := ∀ q c, (q < lo ∨ hi ≤ q) → h[q]? = some c → h'[q]? = some c
theorem Off.kp {h h' : AH} {lo hi : Nat} (o : Off h h' lo hi) : Kp h h' lo hi := fun q c hq e => (o.2 q hq).trans e
theorem Kp.rf (h : AH) (lo hi : Nat) : Kp h h lo hi := fun _ _ _ e => e
theorem Kp.tr {h h1 h2 : AH} {lo hi lo' hi' : Nat} (a : Kp h h1 lo hi) (b : Kp h1 h2 lo' hi') (LO HI : Nat) (h1 : LO ≤ lo ∧ LO ≤ lo' ∧ hi ≤ HI ∧ hi' ≤ HI := by omega) : Kp h h2 LO HI := fun q c hq e => b q c (by omega) (a q c (by omega) e)
theorem Kp.junk (h : AH) (n lo hi : Nat) : Kp h (h ++ junk n) lo hi := fun q c _ e => by
  rw [List.getElem?_append_left (List.getElem?_eq_some_iff.mp e).1]; exact e
/-- the cells L lie at a -/
def Sits (h : AH) (a : Nat) (L : AH) : Prop := ∀ i c, L[i]? = some c → h[a + i]? = some c
theorem Sits.app (H L T : AH) : Sits (H ++ L ++ T) H.length L := fun i c e => by
  have := (List.getElem?_eq_some_iff.mp e).1
  rw [List.append_assoc, List.getElem?_append_right (by omega), Nat.add_sub_cancel_left, List.getElem?_append_left this]; exact e
theorem Sits.l {h : AH} {a : Nat} {L M : AH} (s : Sits h a (L ++ M)) : Sits h a L := fun i c e => s i c (by
  rw [List.getElem?_append_left (List.getElem?_eq_some_iff.mp e).1]; exact e)
theorem Sits.r {h : AH} {a : Nat} {L M : AH} (s : Sits h a (L ++ M)) (b : Nat) (hb : b = a + L.length) : Sits h b M := fun i c e => by
  rw [hb, Nat.add_assoc]
  refine s _ c ?_
  rw [List.getElem?_append_right (by omega), Nat.add_sub_cancel_left]; exact e
theorem Sits.hd {h : AH} {a : Nat} {c : AC} {L : AH} (s : Sits h a (c :: L)) : h[a]? = some c := s 0 c rfl
theorem Sits.tl {h : AH} {a : Nat} {c : AC} {L : AH} (s : Sits h a (c :: L)) : Sits h (a + 1) L := fun i d e => by
  rw [show a + 1 + i = a + (i + 1) by omega]
  exact s (i + 1) d e
section WORLD
variable {h h' : AH} {a c m n x lo hi : Nat}
theorem row.kp {f : Nat → Int} (hr : row h a n f) (k : Kp h h' lo hi) (hd : a + 2 ≤ lo ∨ hi ≤ a := by omega) : row h' a n f := ⟨k _ _ (by omega) hr.1, k _ _ (by omega) hr.2⟩
theorem tents.kp {N : Int} {f p z s : Nat → Int} (t : tents h a N f p z s) (k : Kp h h' lo hi) (hd : a + 9 ≤ lo ∨ hi ≤ a := by omega) : tents h' a N f p z s := ⟨k _ _ (by omega) t.1, t.2.1.kp k, t.2.2.1.kp k, t.2.2.2.1.kp k, t.2.2.2.2.kp k⟩
theorem fields.kp {N : Int} {s z b e : Nat → Int} (t : fields h a N s z b e) (k : Kp h h' lo hi) (hd : a + 9 ≤ lo ∨ hi ≤ a := by omega) : fields h' a N s z b e := ⟨k _ _ (by omega) t.1, t.2.1.kp k, t.2.2.1.kp k, t.2.2.2.1.kp k, t.2.2.2.2.kp k⟩
theorem frames.kp {N : Int} {t f : Nat → Int} (u : frames h a N t f) (k : Kp h h' lo hi) (hd : a + 5 ≤ lo ∨ hi ≤ a := by omega) : frames h' a N t f := ⟨k _ _ (by omega) u.1, u.2.1.kp k, u.2.2.kp k⟩
theorem campX.kp {N : Nat → Int} {X : Nat → Nat → Int} (u : campX h c N X) (k : Kp h h' lo hi) (hd : c + 35 ≤ lo ∨ hi ≤ c := by omega) : campX h' c N X :=
  ⟨k _ _ (by omega) u.1, u.2.1.kp k, u.2.2.1.kp k, u.2.2.2.1.kp k, u.2.2.2.2.1.kp k, u.2.2.2.2.2.kp k⟩
theorem cmp.kp {r : Nat → Int} (u : cmp h c r) (k : Kp h h' lo hi) (hd : c + 35 ≤ lo ∨ hi ≤ c := by omega) : cmp h' c r := by
  obtain ⟨⟨N, X, h1, h2⟩, h3⟩ := u
  exact ⟨⟨N, X, h1.kp k, h2⟩, h3⟩
theorem shelf.kp (u : shelf h a n) (k : Kp h h' lo hi) (hd : a + 2 ≤ lo ∨ hi ≤ a := by omega) : shelf h' a n := ⟨k _ _ (by omega) u.1, k _ _ (by omega) u.2⟩
theorem hist.kp {D : Nat → Nat → Int} (u : hist h a n x D) (k : Kp h h' lo hi) (hd : a + 493 ≤ lo ∨ hi ≤ a := by omega) : hist h' a n x D := by
  obtain ⟨h1, h2, h3, h4, h5⟩ := u
  refine ⟨k _ _ (by omega) h1, h2.kp k, h3, h4, fun j hj => ?_⟩
  obtain ⟨N, X, q1, q2⟩ := h5 j hj
  exact ⟨N, X, q1.kp k, q2⟩
theorem txt.kp {N p w kd f1 f2 : Int} {s : Nat → Int} (t : txt h a N p w kd f1 f2 s) (k : Kp h h' lo hi) (hd : a + 3 ≤ lo ∨ hi ≤ a := by omega) : txt h' a N p w kd f1 f2 s := ⟨k _ _ (by omega) t.1, t.2.kp k⟩
/-- the class's world: the row r, n remembered states D, the text (l signs s), what is saved (b, K) -/
def CW (h : AH) (x : Nat) (r : Nat → Int) (n : Nat) (D : Nat → Nat → Int) (l : Nat) (s : Nat → Int) (b : Nat → Bool) (K : Nat → Nat → Int) : Prop :=
  tco h x ∧ cmp h (x + 1) r ∧ (∃ N X, campX h (x + 36) N X) ∧ (∃ xh, hist h (x + 71) n xh D) ∧ (∃ p w kd f1 f2, txt h (x + 564) l p w kd f1 f2 s) ∧
  shelf h (x + 567) 2 ∧ (∀ j, j < 2 → ∃ N X, campX h (x + 569 + 35 * j) N X ∧ (b j = true → Agr (K j 8) (K j 5) N X (K j))) ∧ row h (x + 639) 2 (fun j => bI (b j))
/-- what is sound in both -/
def OKS (r : Nat → Int) (n : Nat) (D : Nat → Nat → Int) (l : Nat) (s : Nat → Int) (b : Nat → Bool) (K : Nat → Nat → Int) : Prop :=
  Inv r ∧ n ≤ 14 ∧ (∀ i, i < n → Inv (D i)) ∧ l ≤ 100 ∧ (∀ k, k < l → 0 ≤ s k ∧ s k ≤ 255) ∧ ∀ j, j < 2 → b j = true → Inv (K j)
/-- the reference's world -/
def RW (h : AH) (m : Nat) (r : Nat → Int) (n : Nat) (D : Nat → Nat → Int) (l : Nat) (s : Nat → Int) (b : Nat → Bool) (K : Nat → Nat → Int) (rf : Int) : Prop :=
  (∃ sp gd lf, mob h m rf l sp gd lf n) ∧ ari h (m + 1) 100 s ∧ (∃ rd, ari h (m + 2) 690 rd) ∧ ari h (m + 3) 690 r ∧ (∃ tr, ari h (m + 4) 690 tr) ∧
  (∃ d, ari h (m + 5) 9660 d ∧ DR d n D) ∧ (∃ e, ari h (m + 6) 1380 e ∧ KR e b K) ∧ bk h (m + 7) b
variable {r s : Nat → Int} {D K : Nat → Nat → Int} {b : Nat → Bool} {l : Nat} {rf : Int}
theorem CW.kp (w : CW h x r n D l s b K) (k : Kp h h' lo hi) (hd : x + 641 ≤ lo ∨ hi ≤ x := by omega) : CW h' x r n D l s b K := by
  obtain ⟨w1, w2, ⟨N, X, w3⟩, ⟨xh, w4⟩, ⟨p, w, kd, f1, f2, w5⟩, w6, w7, w8⟩ := w
  refine ⟨k _ _ (by omega) w1, w2.kp k, ⟨N, X, w3.kp k⟩, ⟨xh, w4.kp k⟩, ⟨p, w, kd, f1, f2, w5.kp k⟩, w6.kp k, fun j hj => ?_, w8.kp k⟩
  obtain ⟨N, X, q1, q2⟩ := w7 j hj
  exact ⟨N, X, q1.kp k, q2⟩
theorem RW.kp (w : RW h m r n D l s b K rf) (k : Kp h h' lo hi) (hd : m + 8 ≤ lo ∨ hi ≤ m := by omega) : RW h' m r n D l s b K rf := by
  obtain ⟨⟨sp, gd, lf, w1⟩, w2, ⟨rd, w3⟩, w4, ⟨tr, w5⟩, ⟨d, w6, w7⟩, ⟨e, w8, w9⟩, w10⟩ := w
  exact ⟨⟨sp, gd, lf, k _ _ (by omega) w1⟩, k _ _ (by omega) w2, ⟨rd, k _ _ (by omega) w3⟩, k _ _ (by omega) w4, ⟨tr, k _ _ (by omega) w5⟩, ⟨d, k _ _ (by omega) w6, w7⟩, ⟨e, k _ _ (by omega) w8, w9⟩, k _ _ (by omega) w10⟩
def z0 : Nat → Int := fun _ => 0
theorem row_of (t : Sits h a (rowL a n)) : row h a n z0 := ⟨t.hd, t.tl.hd⟩
theorem tents_of (t : Sits h a (tntL a)) : tents h a 0 z0 z0 z0 z0 := by
  have u := t.tl
  exact ⟨t.hd, row_of u.l.l.l, row_of (u.l.l.r (a + 3) rfl), row_of (u.l.r (a + 5) rfl), row_of (u.r (a + 7) rfl)⟩
theorem fields_of (t : Sits h a (fldL a)) : fields h a 0 z0 z0 z0 z0 := by
  have u := t.tl
  exact ⟨t.hd, row_of u.l.l.l, row_of (u.l.l.r (a + 3) rfl), row_of (u.l.r (a + 5) rfl), row_of (u.r (a + 7) rfl)⟩
theorem frames_of (t : Sits h a (frmL a)) : frames h a 0 z0 z0 := by
  have u := t.tl
  exact ⟨t.hd, row_of u.l, row_of (u.r (a + 3) rfl)⟩
/-- a fresh camp's numbers -/
def fN : Nat → Int := fun j => if j = 0 then 16 else if j = 1 then 32 else if j = 2 then 1 else 0
theorem campX_of (t : Sits h c (cmpL c)) : campX h c fN (fun _ => z0) := by
  have u := t.tl
  exact ⟨t.hd, row_of u.l.l.l.l, tents_of (u.l.l.l.r (c + 3) rfl), frames_of (u.l.l.r (c + 12) rfl), fields_of (u.l.r (c + 17) rfl), fields_of (u.r (c + 26) rfl)⟩
theorem Agr_new : Agr 32 0 fN (fun _ => z0) (clean 16 32) := by
  have c0 : ∀ c, c ≠ 7 → c ≠ 8 → c ≠ 9 → clean 16 32 c = 0 := fun c h1 h2 h3 => by unfold clean; rw [if_neg h1, if_neg h2, if_neg h3]
  have z0 := c0 0 (by omega) (by omega) (by omega)
  have z1 := c0 1 (by omega) (by omega) (by omega)
  have z2 := c0 2 (by omega) (by omega) (by omega)
  have z3 := c0 3 (by omega) (by omega) (by omega)
  refine ⟨⟨rfl, rfl, rfl, rfl, rfl, rfl, rfl, rfl, rfl, rfl, rfl⟩, fun j hj => ?_, fun t ht => ?_, fun i hi => ?_, fun f hf => ?_, fun i hi => ?_⟩
  · rw [allP_clean] at hj; omega
  · rw [z0] at ht; omega
  · rw [z3] at hi; omega
  · rw [z1] at hf; omega
  · rw [z2] at hi; omega
theorem cmps_of {p : Nat} : ∀ {k : Nat}, Sits h p (cmpsL p k) → ∀ j, j < k → campX h (p + 35 * j) fN (fun _ => z0)
  | 0, _, j, hj => by omega
  | k + 1, t, j, hj => by
    by_cases q : j < k
    · exact cmps_of (k := k) t.l j q
    · obtain rfl : j = k := by omega
      exact campX_of (t.r (p + 35 * j) (by rw [cmpsL_len]))
theorem shelf_of (t : Sits h a (shfL a n)) : shelf h a n ∧ ∀ j, j < n → campX h (a + 2 + 35 * j) fN (fun _ => z0) := ⟨⟨t.hd, t.tl.hd⟩, cmps_of t.tl.tl⟩
theorem hist_of (t : Sits h a (hisL a)) (D : Nat → Nat → Int) : hist h a 0 0 D := by
  have u := shelf_of t.tl
  exact ⟨t.hd, u.1, by omega, by omega, fun j hj => ⟨_, _, u.2 j hj, fun i hi => by omega⟩⟩
theorem CW_new (t : Sits h x (tcL x)) (D K : Nat → Nat → Int) : CW h x (clean 16 32) 0 D 0 z0 (fun _ => false) K := by
  have u := t.tl
  have I : Inv (clean 16 32) := InvClean (by omega) (by omega)
  have sh := shelf_of (u.l.r (x + 567) (by simp only [List.length_append, cmpL_len, hisL_len, txtL_len]))
  have tx := u.l.l.r (x + 564) (by simp only [List.length_append, cmpL_len, hisL_len])
  refine ⟨t.hd, ⟨⟨_, _, campX_of u.l.l.l.l.l, Agr_new⟩, I⟩, ⟨_, _, campX_of (u.l.l.l.l.r (x + 36) rfl)⟩, ⟨0, hist_of (u.l.l.l.r (x + 71) rfl) D⟩, ⟨0, 0, 0, 0, 0, tx.hd, row_of tx.tl⟩, sh.1, fun j hj => ⟨_, _, sh.2 j hj, fun q => tnf q.symm⟩, ?_⟩
  have rw9 := row_of (u.r (x + 639) (by simp only [List.length_append, cmpL_len, hisL_len, txtL_len, shfL_len]))
  exact rw9.congr (fun _ _ => rfl)
end WORLD
