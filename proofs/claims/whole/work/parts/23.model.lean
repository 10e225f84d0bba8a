/-! the model: the reference's row of 690 numbers, as a function -/
theorem iN_div {a b : Int} (ha : 0 ≤ a ∧ a < 2147483648) (hb : 0 < b ∧ b < 2147483648) : (iN a / iN b).toInt = a / b := by
  rw [Int32.toInt_div, iN_T (by omega), iN_T (by omega), Int.tdiv_eq_ediv_of_nonneg ha.1]
  have h1 : 0 ≤ a / b := Int.ediv_nonneg ha.1 (by omega)
  have h2 : a / b ≤ a := Int.ediv_le_self b ha.1
  rw [Int.bmod_eq_of_le] <;> omega
theorem iN_rem {a b : Int} (ha : 0 ≤ a ∧ a < 2147483648) (hb : 0 < b ∧ b < 2147483648) : (iN a - iN a / iN b * iN b).toInt = a % b := by
  have e : iN a / iN b = iN (a / b) := by
    rw [← iN_div ha hb, iN_toInt]
  rw [e, iN_mul, iN_sub]
  have h1 := Int.emod_nonneg a (b := b) (by omega)
  have h2 := Int.emod_lt_of_pos a (b := b) (by omega)
  have h3 := Int.mul_ediv_add_emod a b
  have h4 : a / b * b = b * (a / b) := Int.mul_comm _ _
  rw [iN_T (by omega)]
  omega
theorem ari.g {h : AH} {q n : Nat} {f : Nat → Int} (ha : ari h q n f) (i : Nat) {z : Int} (hz : z = i := by omega) (hi : i < n := by omega) (h2 : n ≤ 100000 := by omega) : sei h q 10 z (.int (iN (f i))) := by
  have := ha.se (z := z) (by omega) (by omega) h2
  rw [show z.toNat = i by omega] at this
  exact this
theorem ari.gv {h : AH} {q n : Nat} {f : Nat → Int} (ha : ari h q n f) (i : Nat) {v : Int} {z : Int} (hv : f i = v) (hz : z = i := by omega) (hi : i < n := by omega) (h2 : n ≤ 100000 := by omega) : sei h q 10 z (.int (iN v)) := by
  rw [← hv]; exact ha.g i hz hi h2
/-- at first h0, now the array at q holds f -/
def RA (h0 : AH) (q : Nat) (f : Nat → Int) (h : AH) : Prop := q < h0.length ∧ h = wr h0 q 690 f
theorem RA.a {h0 h : AH} {q : Nat} {f : Nat → Int} (ra : RA h0 q f h) : ari h q 690 f := by
  rw [ra.2]; exact wr_at ra.1
theorem RA.st {h : AH} {q : Nat} {f : Nat → Int} (ha : ari h q 690 f) : RA h q f h := ⟨ha.lt, (wr_same ha).symm⟩
theorem RA.s {h0 h : AH} {q : Nat} {f : Nat → Int} (ra : RA h0 q f h) (i : Nat) {v z : Int} (hz : z = i := by omega) : RA h0 q (up f i v) (stf h q z.toNat (.int (iN v))) := by
  refine ⟨ra.1, ?_⟩
  rw [show z.toNat = i by omega, ra.a.st, ra.2, wr_wr]
theorem RA.tr {h0 h h' : AH} {q : Nat} {f g : Nat → Int} (ra : RA h0 q f h) (rb : RA h q g h') : RA h0 q g h' := by
  refine ⟨ra.1, ?_⟩
  rw [rb.2, ra.2, wr_wr]
theorem RA.cg {h0 h : AH} {q : Nat} {f g : Nat → Int} (ra : RA h0 q f h) (e : ∀ k, k < 690 → f k = g k) : RA h0 q g h := ⟨ra.1, by rw [ra.2]; exact wr_congr e⟩
theorem RA.eq {h0 h : AH} {q : Nat} {f g : Nat → Int} (ra : RA h0 q f h) (e : f = g) : RA h0 q g h := e ▸ ra
theorem RA.off {h0 h : AH} {q : Nat} {f : Nat → Int} (ra : RA h0 q f h) (LO HI : Nat) (hq : LO ≤ q ∧ q < HI := by omega) : Off h0 h LO HI := by
  rw [ra.2]; exact Off.at LO HI
/-- n numbers from p on come to q -/
def cpy (f : Nat → Int) (p q n : Nat) : Nat → Int := fun k => if q ≤ k ∧ k < q + n then f (p + (k - q)) else f k
theorem cpy_out (f : Nat → Int) (p q n : Nat) {k : Nat} (h : k < q ∨ q + n ≤ k) : cpy f p q n k = f k := by
  unfold cpy; rw [if_neg (by omega)]
theorem cpy_in (f : Nat → Int) (p q n : Nat) {k : Nat} (h : q ≤ k ∧ k < q + n) : cpy f p q n k = f (p + (k - q)) := by
  unfold cpy; rw [if_pos h]
theorem strw_out (f : Nat → Int) (v : Int) (p q : Nat) {k : Nat} (h : k < p ∨ q ≤ k) : strw f v p q k = f k := by
  unfold strw; rw [if_neg (by omega)]
theorem strw_in (f : Nat → Int) (v : Int) (p q : Nat) {k : Nat} (h : p ≤ k ∧ k < q) : strw f v p q k = v := by
  unfold strw; rw [if_pos h]
def nT (r : Nat → Int) : Nat := (r 0).toNat
def nF (r : Nat → Int) : Nat := (r 1).toNat
def nS (r : Nat → Int) : Nat := (r 2).toNat
def nR (r : Nat → Int) : Nat := (r 3).toNat
def useP (r : Nat → Int) : Int := sm (fun f => r (106 + 4 * f)) (nF r)
def sparP (r : Nat → Int) : Int := sm (fun i => r (314 + 2 * i)) (nS r)
def allP (r : Nat → Int) : Int := useP r + sparP r
def tentP (r : Nat → Int) : Int := sm (fun t => r (12 + 4 * t)) (nT r)
def lastU (r : Nat → Int) : Int := lst (fun f => r (107 + 4 * f)) (nF r)
def openP (e s : Int) : Int := (e + s - 1) / s * s
def roomOn (r : Nat → Int) (z s : Int) : Int :=
  if lastU r = -1 then -1 else
    if openP (r (108 + 4 * (lastU r).toNat)) s + z ≤ r (106 + 4 * (lastU r).toNat) then openP (r (108 + 4 * (lastU r).toNat)) s else -1
def spareFor (r : Nat → Int) (z : Int) : Int := sml (fun i => r (314 + 2 * i)) z (nS r)
def isBig (r : Nat → Int) (z : Int) : Bool := decide (r 7 / 2 < z)
def newSz (r : Nat → Int) (z : Int) : Int := if isBig r z then z else r 7
def whereIn (r : Nat → Int) (z s : Int) : Int :=
  if roomOn r z s ≠ -1 then 0 else if spareFor r z ≠ -1 then 1 else if allP r + newSz r z ≤ 256 then 2 else 3
def tkS (r : Nat → Int) (i : Nat) : Nat → Int :=
  up (cpy (up (up r (106 + 4 * nF r) (r (314 + 2 * i))) (109 + 4 * nF r) (r (315 + 2 * i))) (316 + 2 * i) (314 + 2 * i) (2 * (nS r - 1 - i))) 2 (r 2 - 1)
def makeF (r : Nat → Int) (z : Int) : Nat → Int :=
  strw (up (up r (106 + 4 * nF r) z) (109 + 4 * nF r) (allP r)) 0 (434 + (allP r).toNat) (434 + (allP r).toNat + z.toNat)
def addF (r : Nat → Int) (z : Int) : Nat → Int :=
  up (up (up r (107 + 4 * nF r) (bI (isBig r z))) (108 + 4 * nF r) z) 1 (r 1 + 1)
def maxF (r : Nat → Int) : Nat → Int := up r 5 (if r 5 < allP r then allP r else r 5)
def pitchV (r : Nat → Int) (z s : Int) : Int :=
  if whereIn r z s = 3 then -1 else if whereIn r z s = 0 then roomOn r z s else 0
def pitchOn (r : Nat → Int) (z s : Int) : Nat → Int :=
  if whereIn r z s = 3 then r else
  if whereIn r z s = 0 then up r (108 + 4 * (lastU r).toNat) (roomOn r z s + z) else
  if whereIn r z s = 1 then maxF (addF (tkS r (spareFor r z).toNat) z) else
  maxF (addF (makeF r (newSz r z)) z)
def maxT (r : Nat → Int) : Nat → Int := up r 4 (if r 4 < tentP r then tentP r else r 4)
def addT (r : Nat → Int) (f p z s : Int) : Nat → Int :=
  up (up (up (up (up r (10 + 4 * nT r) f) (11 + 4 * nT r) p) (12 + 4 * nT r) z) (13 + 4 * nT r) s) 0 (r 0 + 1)
def pitchIn (r : Nat → Int) (z s : Int) : Nat → Int :=
  maxT (addT (pitchOn r z s) (if whereIn r z s = 0 then lastU (pitchOn r z s) else pitchOn r z s 1 - 1) (pitchV r z s) z s)
/-- where the values of a tent begin -/
def frm (r : Nat → Int) (t : Nat) : Nat := 434 + (r (109 + 4 * (r (10 + 4 * t)).toNat)).toNat + (r (11 + 4 * t)).toNat
def fillIn (r : Nat → Int) (t : Nat) (v : Int) : Nat → Int := strw r v (frm r t) (frm r t + (r (12 + 4 * t)).toNat)
def fillV (r : Nat → Int) (t : Nat) : Int := cnt r 100 (frm r t) (r (12 + 4 * t)).toNat
def strk (r : Nat → Int) : Nat → Int :=
  up (up (if r 9 = 1 then fillIn r (nT r - 1) 100 else r) 0 (r 0 - 1)) 6 (r 6 + 1)
def strks : Nat → (Nat → Int) → Nat → Int
  | 0, r => r
  | k + 1, r => strks k (strk r)
def movF (r : Nat → Int) : Nat → Int :=
  up (up (up (up r 1 (r 1 - 1)) (314 + 2 * nS r) (r (106 + 4 * (nF r - 1)))) (315 + 2 * nS r) (r (109 + 4 * (nF r - 1)))) 2 (r 2 + 1)
def movs : Nat → (Nat → Int) → Nat → Int
  | 0, r => r
  | k + 1, r => movs k (movF r)
/-- the ends of the first n fields are 0 -/
def lay0 (r : Nat → Int) (n : Nat) : Nat → Int := fun c => if 108 ≤ c ∧ c < 106 + 4 * n ∧ c % 4 = 0 then 0 else r c
def layT (r : Nat → Int) : Nat → Nat → Int
  | 0 => r
  | k + 1 => up (layT r k) (108 + 4 * (r (10 + 4 * k)).toNat) (r (11 + 4 * k) + r (12 + 4 * k))
def layE (r : Nat → Int) : Nat → Int := layT (lay0 r (nF r)) (nT r)
def shS (f : Nat → Int) (n : Nat) (s z : Int) : Nat → Int := fun c => if (315 ≤ c ∧ c < 314 + 2 * n ∧ c % 2 = 1) ∧ s < f c then f c - z else f c
def shF (f : Nat → Int) (n : Nat) (s z : Int) : Nat → Int := fun c => if (109 ≤ c ∧ c < 106 + 4 * n ∧ c % 4 = 1) ∧ s < f c then f c - z else f c
def gvU (r : Nat → Int) (i : Nat) : Nat → Int :=
  shF (shS (up (cpy (cpy r (434 + (r (315 + 2 * i)).toNat + (r (314 + 2 * i)).toNat) (434 + (r (315 + 2 * i)).toNat) ((allP r).toNat - (r (315 + 2 * i)).toNat - (r (314 + 2 * i)).toNat)) (316 + 2 * i) (314 + 2 * i) (2 * (nS r - 1 - i))) 2 (r 2 - 1)) (nS r - 1) (r (315 + 2 * i)) (r (314 + 2 * i))) (nF r) (r (315 + 2 * i)) (r (314 + 2 * i))
def grtS (r : Nat → Int) : Nat := (grt (fun i => r (314 + 2 * i)) (nS r)).toNat
def gvs : Nat → (Nat → Int) → Nat → Int
  | 0, r => r
  | n + 1, r => if r 8 < sparP r then gvs n (gvU r (grtS r)) else r
def strikeB (r : Nat → Int) (i : Nat) : Nat → Int :=
  gvs 51 (layE (movs (nF r - (r (419 + 2 * i)).toNat) (strks (nT r - (r (418 + 2 * i)).toNat) r)))
def enterIn (r : Nat → Int) : Nat → Int :=
  up (up (up r (418 + 2 * nR r) (r 0)) (419 + 2 * nR r) (r 1)) 3 (r 3 + 1)
def jumpIn (r : Nat → Int) (i : Nat) : Nat → Int := up (strikeB r i) 3 ((i : Int) + 1)
def strV (r : Nat → Int) (i : Nat) : Int := r 0 - r (418 + 2 * i)
def leaveIn (r : Nat → Int) : Nat → Int := up (strikeB r (nR r - 1)) 3 (r 3 - 1)
def clean (u k : Int) : Nat → Int := fun c => if c = 7 then u else if c = 8 then k else if c = 9 then 1 else 0
def onF (r : Nat → Int) (f : Int) : Nat → Int
  | 0 => 0
  | t + 1 => onF r f t + if r (10 + 4 * t) = f then r (12 + 4 * t) else 0
/-- gaps of the fields up to the last usual one -/
def gapF (r : Nat → Int) : Nat → Int
  | 0 => 0
  | f + 1 => gapF r f + if r (107 + 4 * f) = 0 then (if (f : Int) = lastU r then r (108 + 4 * f) else r (106 + 4 * f)) - onF r f (nT r) else 0
def gapsV (r : Nat → Int) : Int := gapF r (lastU r + 1).toNat
