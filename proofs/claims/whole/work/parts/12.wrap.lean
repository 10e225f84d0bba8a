/-! numbers: a cell's Int32 is iN of an Int, an Int64 jN of one -/
def iN (z : Int) : Int32 := Int32.ofInt z
def jN (z : Int) : Int64 := Int64.ofInt z
theorem iN_T {z : Int} (h : -2147483648 ≤ z ∧ z < 2147483648) : (iN z).toInt = z := Int32.toInt_ofInt_of_le h.1 h.2
theorem jN_T {z : Int} (h : -9223372036854775808 ≤ z ∧ z < 9223372036854775808) : (jN z).toInt = z := Int64.toInt_ofInt_of_le h.1 h.2
theorem iN_toInt (x : Int32) : iN x.toInt = x := Int32.ofInt_toInt x
theorem jN_toInt (x : Int64) : jN x.toInt = x := Int64.ofInt_toInt x
theorem i32_rg (x : Int32) : -2147483648 ≤ x.toInt ∧ x.toInt < 2147483648 := ⟨Int32.le_toInt x, Int32.toInt_lt x⟩
theorem i64_rg (x : Int64) : -9223372036854775808 ≤ x.toInt ∧ x.toInt < 9223372036854775808 := ⟨Int64.le_toInt x, Int64.toInt_lt x⟩
theorem iN_add (a b : Int) : iN a + iN b = iN (a + b) := (Int32.ofInt_add a b).symm
theorem iN_sub (a b : Int) : iN a - iN b = iN (a - b) := (Int32.ofInt_sub a b).symm
theorem iN_mul (a b : Int) : iN a * iN b = iN (a * b) := (Int32.ofInt_mul a b).symm
theorem iN_neg (a : Int) : -iN a = iN (-a) := (Int32.ofInt_neg a).symm
theorem jN_add (a b : Int) : jN a + jN b = jN (a + b) := (Int64.ofInt_add a b).symm
theorem jN_sub (a b : Int) : jN a - jN b = jN (a - b) := (Int64.ofInt_sub a b).symm
theorem jN_mul (a b : Int) : jN a * jN b = jN (a * b) := (Int64.ofInt_mul a b).symm
theorem iN_lt {a b : Int} (h : (-2147483648 ≤ a ∧ a < 2147483648) ∧ -2147483648 ≤ b ∧ b < 2147483648) : iN a < iN b ↔ a < b := by
  rw [Int32.lt_iff_toInt_lt, iN_T h.1, iN_T h.2]
theorem iN_le {a b : Int} (h : (-2147483648 ≤ a ∧ a < 2147483648) ∧ -2147483648 ≤ b ∧ b < 2147483648) : iN a ≤ iN b ↔ a ≤ b := by
  rw [Int32.le_iff_toInt_le, iN_T h.1, iN_T h.2]
theorem iN_eq {a b : Int} (h : (-2147483648 ≤ a ∧ a < 2147483648) ∧ -2147483648 ≤ b ∧ b < 2147483648) : iN a = iN b ↔ a = b := by
  rw [← Int32.toInt_inj, iN_T h.1, iN_T h.2]
theorem jN_lt {a b : Int} (h : (-9223372036854775808 ≤ a ∧ a < 9223372036854775808) ∧ -9223372036854775808 ≤ b ∧ b < 9223372036854775808) : jN a < jN b ↔ a < b := by
  rw [Int64.lt_iff_toInt_lt, jN_T h.1, jN_T h.2]
theorem iN_cl {z : Int} (h : 0 ≤ z ∧ z < 2147483648) : (iN z).toNatClampNeg = z.toNat := by
  show (iN z).toInt.toNat = _
  rw [iN_T (by omega)]
theorem iN_n0 {z : Int} (h : 0 ≤ z ∧ z < 2147483648) : ¬ iN z < 0 := fun q => by
  have := (iN_lt (a := z) (b := 0) (by omega)).mp q
  omega
theorem iN_nat (n : Nat) : Int32.ofNat n = iN n := by
  show _ = Int32.ofInt n
  exact (Int32.ofInt_eq_ofNat (n := n)).symm
/-! calls by the type of their answer -/
def bI (b : Bool) : Int := if b then 1 else 0
theorem zb_0 : narrow .boolean (.int (iN 0)) = .int (iN 0) := by decide
theorem zb_1 : narrow .boolean (.int (iN 1)) = .int (iN 1) := by decide
theorem zb_b (b : Bool) : narrow .boolean (.int (iN (bI b))) = .int (iN (bI b)) := by cases b <;> decide
def isO (h : AH) (a k : Nat) : Prop := ∃ fs, h[a]? = some (k, fs)
theorem fld.isO {h : AH} {a k j : Nat} {v : Value} (hf : fld h a k j v) : isO h a k := by
  obtain ⟨fs, h1, -⟩ := hf
  exact ⟨fs, h1⟩
def pV (P : AH → Prop) : Option Value → AH → Prop := fun r h => r = none ∧ P h
def pI (P : Int → AH → Prop) : Option Value → AH → Prop := fun r h => ∃ v, r = some (.int (iN v)) ∧ P v h
def pZ (P : Bool → AH → Prop) : Option Value → AH → Prop := fun r h => ∃ v, r = some (.int (iN (bI v))) ∧ P v h
def pL (P : Int → AH → Prop) : Option Value → AH → Prop := fun r h => ∃ v, r = some (.long (jN v)) ∧ P v h
def pR (P : Nat → AH → Prop) : Option Value → AH → Prop := fun r h => ∃ v, r = some (.ref v) ∧ P v h
def CtV (m : AM) (d mc ms : Nat) (avs : List Value) (h : AH) (P : AH → Prop) : Prop := Ct m d mc ms avs h (pV P)
def CtI (m : AM) (d mc ms : Nat) (avs : List Value) (h : AH) (P : Int → AH → Prop) : Prop := Ct m d mc ms avs h (pI P)
def CtZ (m : AM) (d mc ms : Nat) (avs : List Value) (h : AH) (P : Bool → AH → Prop) : Prop := Ct m d mc ms avs h (pZ P)
def CtL (m : AM) (d mc ms : Nat) (avs : List Value) (h : AH) (P : Int → AH → Prop) : Prop := Ct m d mc ms avs h (pL P)
def CtR (m : AM) (d mc ms : Nat) (avs : List Value) (h : AH) (P : Nat → AH → Prop) : Prop := Ct m d mc ms avs h (pR P)
def qV (P : AH → Prop) : AR → AH → Prop := nt (pV P)
def qI (P : Int → AH → Prop) : AR → AH → Prop := nt (pI P)
def qZ (P : Bool → AH → Prop) : AR → AH → Prop := nt (pZ P)
def qL (P : Int → AH → Prop) : AR → AH → Prop := nt (pL P)
def qR (P : Nat → AH → Prop) : AR → AH → Prop := nt (pR P)
theorem rV {P : AH → Prop} {h : AH} (hp : P h) : qV P (.inl none) h := ⟨_, rfl, rfl, hp⟩
theorem rI {P : Int → AH → Prop} {v : Int} {h : AH} (hp : P v h) : qI P (.inl (some (.int (iN v)))) h := ⟨_, rfl, v, rfl, hp⟩
theorem rZ {P : Bool → AH → Prop} {v : Bool} {h : AH} (hp : P v h) : qZ P (.inl (some (.int (iN (bI v))))) h := ⟨_, rfl, v, rfl, hp⟩
theorem rZ1 {P : Bool → AH → Prop} {h : AH} (hp : P true h) : qZ P (.inl (some (.int (iN 1)))) h := rZ hp
theorem rZ0 {P : Bool → AH → Prop} {h : AH} (hp : P false h) : qZ P (.inl (some (.int (iN 0)))) h := rZ hp
theorem rL {P : Int → AH → Prop} {v : Int} {h : AH} (hp : P v h) : qL P (.inl (some (.long (jN v)))) h := ⟨_, rfl, v, rfl, hp⟩
theorem rR {P : Nat → AH → Prop} {v : Nat} {h : AH} (hp : P v h) : qR P (.inl (some (.ref v))) h := ⟨_, rfl, v, rfl, hp⟩
section WRAP
variable {m cal : AM} {d mc ms pc d' mc' ms' n i : Nat} {ls st As rest : List Value} {h : AH} {Q : AR → AH → Prop}
theorem aw_inv {b k : Nat} {q : vw_C} {Q' : Option Value → AH → Prop} (hd : decode m.2.1 pc = .ok (.invokevirtual i, 3)) (hl : LK m.1.cls i cal.1) (hm : MOK cal n) (hfl : cal.2.2.2.2.2 = false) (hin : Cond.instanceMethod cal.1 ∈ gtbl) (hse : Cond.selects cal.1.cls cal.1 cal.1 ∈ gtbl) (hC : Ct cal d' 0 0 (.ref b :: As) h Q') (hdep : d' + 1 ≤ d) (hn : As.length = n) (hb : isO h b k) (hk : kls[k]? = some q) (hk10 : k < 10) (hq : q.1 = cal.1.cls) (hst : st = As.reverse ++ .ref b :: rest) (hrs : (rest.map fun v => v.category).sum ≤ 8)
    (kk : ∀ (r : Option Value) (h' : AH), Q' r h' → AW m d mc ms (pc + 3) ls (r.toList ++ rest) h' Q) : AW m d mc ms pc ls st h Q := by
  obtain ⟨fs, hb⟩ := hb
  exact (aw_callV hd hl hm hfl hin hse hC hdep hn hb hk hk10 hq hst hrs kk).room (by omega) (by omega)
theorem aw_sta {Q' : Option Value → AH → Prop} (hd : decode m.2.1 pc = .ok (.invokestatic i, 3)) (hl : LK m.1.cls i cal.1) (hl2 : cal.2.2.2.2.2 = true → Cond.methodLink m.1.cls i cal.1 ∈ gtbl) (hm : MOK cal n) (hsta : Cond.static cal.1 ∈ gtbl) (hC : Ct cal d' 0 0 As h Q') (hdep : d' + 1 ≤ d) (hn : As.length = n) (hst : st = As.reverse ++ rest) (hrs : (rest.map fun v => v.category).sum ≤ 8)
    (kk : ∀ (r : Option Value) (h' : AH), Q' r h' → AW m d mc ms (pc + 3) ls (r.toList ++ rest) h' Q) : AW m d mc ms pc ls st h Q :=
  (aw_callS hd hl hl2 hm hsta hC hdep hn hst hrs kk).room (by omega) (by omega)
theorem aw_invV {b k : Nat} {q : vw_C} {P : AH → Prop} (hd : decode m.2.1 pc = .ok (.invokevirtual i, 3)) (hl : LK m.1.cls i cal.1) (hm : MOK cal n) (hfl : cal.2.2.2.2.2 = false) (hin : Cond.instanceMethod cal.1 ∈ gtbl) (hse : Cond.selects cal.1.cls cal.1 cal.1 ∈ gtbl) (hC : CtV cal d' 0 0 (.ref b :: As) h P) (hdep : d' + 1 ≤ d) (hn : As.length = n) (hb : isO h b k) (hk : kls[k]? = some q) (hk10 : k < 10) (hq : q.1 = cal.1.cls) (hst : st = As.reverse ++ .ref b :: rest) (hrs : (rest.map fun v => v.category).sum ≤ 8)
    (kk : ∀ (h' : AH), P h' → AW m d mc ms (pc + 3) ls rest h' Q) : AW m d mc ms pc ls st h Q := aw_inv hd hl hm hfl hin hse hC hdep hn hb hk hk10 hq hst hrs (fun r h' hp => by obtain ⟨rfl, hp⟩ := hp; exact kk h' hp)
theorem aw_staV {P : AH → Prop} (hd : decode m.2.1 pc = .ok (.invokestatic i, 3)) (hl : LK m.1.cls i cal.1) (hl2 : cal.2.2.2.2.2 = true → Cond.methodLink m.1.cls i cal.1 ∈ gtbl) (hm : MOK cal n) (hsta : Cond.static cal.1 ∈ gtbl) (hC : CtV cal d' 0 0 As h P) (hdep : d' + 1 ≤ d) (hn : As.length = n) (hst : st = As.reverse ++ rest) (hrs : (rest.map fun v => v.category).sum ≤ 8)
    (kk : ∀ (h' : AH), P h' → AW m d mc ms (pc + 3) ls rest h' Q) : AW m d mc ms pc ls st h Q := aw_sta hd hl hl2 hm hsta hC hdep hn hst hrs (fun r h' hp => by obtain ⟨rfl, hp⟩ := hp; exact kk h' hp)
theorem aw_staAV {P : AH → Prop} (hd : decode m.2.1 pc = .ok (.invokestatic i, 3)) (hl : LK m.1.cls i cal.1) (hl2 : cal.2.2.2.2.2 = true → Cond.methodLink m.1.cls i cal.1 ∈ gtbl) (hm : MOK cal n) (hsta : Cond.static cal.1 ∈ gtbl) (hC : CtV cal d' mc' ms' As h P) (hdep : d' + 1 ≤ d) (hn : As.length = n) (hst : st = As.reverse ++ rest) (hrs : (rest.map fun v => v.category).sum ≤ 8)
    (kk : ∀ (h' : AH), P h' → AW m d mc ms (pc + 3) ls rest h' Q) : AW m d (mc' + mc) (ms' + ms) pc ls st h Q := aw_callS hd hl hl2 hm hsta hC hdep hn hst hrs (fun r h' hp => by obtain ⟨rfl, hp⟩ := hp; exact kk h' hp)
theorem aw_invI {b k : Nat} {q : vw_C} {P : Int → AH → Prop} (hd : decode m.2.1 pc = .ok (.invokevirtual i, 3)) (hl : LK m.1.cls i cal.1) (hm : MOK cal n) (hfl : cal.2.2.2.2.2 = false) (hin : Cond.instanceMethod cal.1 ∈ gtbl) (hse : Cond.selects cal.1.cls cal.1 cal.1 ∈ gtbl) (hC : CtI cal d' 0 0 (.ref b :: As) h P) (hdep : d' + 1 ≤ d) (hn : As.length = n) (hb : isO h b k) (hk : kls[k]? = some q) (hk10 : k < 10) (hq : q.1 = cal.1.cls) (hst : st = As.reverse ++ .ref b :: rest) (hrs : (rest.map fun v => v.category).sum ≤ 8)
    (kk : ∀ (v : Int) (h' : AH), P v h' → AW m d mc ms (pc + 3) ls (.int (iN v) :: rest) h' Q) : AW m d mc ms pc ls st h Q := aw_inv hd hl hm hfl hin hse hC hdep hn hb hk hk10 hq hst hrs (fun r h' hp => by obtain ⟨v, rfl, hp⟩ := hp; exact kk v h' hp)
theorem aw_staI {P : Int → AH → Prop} (hd : decode m.2.1 pc = .ok (.invokestatic i, 3)) (hl : LK m.1.cls i cal.1) (hl2 : cal.2.2.2.2.2 = true → Cond.methodLink m.1.cls i cal.1 ∈ gtbl) (hm : MOK cal n) (hsta : Cond.static cal.1 ∈ gtbl) (hC : CtI cal d' 0 0 As h P) (hdep : d' + 1 ≤ d) (hn : As.length = n) (hst : st = As.reverse ++ rest) (hrs : (rest.map fun v => v.category).sum ≤ 8)
    (kk : ∀ (v : Int) (h' : AH), P v h' → AW m d mc ms (pc + 3) ls (.int (iN v) :: rest) h' Q) : AW m d mc ms pc ls st h Q := aw_sta hd hl hl2 hm hsta hC hdep hn hst hrs (fun r h' hp => by obtain ⟨v, rfl, hp⟩ := hp; exact kk v h' hp)
theorem aw_staAI {P : Int → AH → Prop} (hd : decode m.2.1 pc = .ok (.invokestatic i, 3)) (hl : LK m.1.cls i cal.1) (hl2 : cal.2.2.2.2.2 = true → Cond.methodLink m.1.cls i cal.1 ∈ gtbl) (hm : MOK cal n) (hsta : Cond.static cal.1 ∈ gtbl) (hC : CtI cal d' mc' ms' As h P) (hdep : d' + 1 ≤ d) (hn : As.length = n) (hst : st = As.reverse ++ rest) (hrs : (rest.map fun v => v.category).sum ≤ 8)
    (kk : ∀ (v : Int) (h' : AH), P v h' → AW m d mc ms (pc + 3) ls (.int (iN v) :: rest) h' Q) : AW m d (mc' + mc) (ms' + ms) pc ls st h Q := aw_callS hd hl hl2 hm hsta hC hdep hn hst hrs (fun r h' hp => by obtain ⟨v, rfl, hp⟩ := hp; exact kk v h' hp)
theorem aw_invZ {b k : Nat} {q : vw_C} {P : Bool → AH → Prop} (hd : decode m.2.1 pc = .ok (.invokevirtual i, 3)) (hl : LK m.1.cls i cal.1) (hm : MOK cal n) (hfl : cal.2.2.2.2.2 = false) (hin : Cond.instanceMethod cal.1 ∈ gtbl) (hse : Cond.selects cal.1.cls cal.1 cal.1 ∈ gtbl) (hC : CtZ cal d' 0 0 (.ref b :: As) h P) (hdep : d' + 1 ≤ d) (hn : As.length = n) (hb : isO h b k) (hk : kls[k]? = some q) (hk10 : k < 10) (hq : q.1 = cal.1.cls) (hst : st = As.reverse ++ .ref b :: rest) (hrs : (rest.map fun v => v.category).sum ≤ 8)
    (kk : ∀ (v : Bool) (h' : AH), P v h' → AW m d mc ms (pc + 3) ls (.int (iN (bI v)) :: rest) h' Q) : AW m d mc ms pc ls st h Q := aw_inv hd hl hm hfl hin hse hC hdep hn hb hk hk10 hq hst hrs (fun r h' hp => by obtain ⟨v, rfl, hp⟩ := hp; exact kk v h' hp)
theorem aw_staZ {P : Bool → AH → Prop} (hd : decode m.2.1 pc = .ok (.invokestatic i, 3)) (hl : LK m.1.cls i cal.1) (hl2 : cal.2.2.2.2.2 = true → Cond.methodLink m.1.cls i cal.1 ∈ gtbl) (hm : MOK cal n) (hsta : Cond.static cal.1 ∈ gtbl) (hC : CtZ cal d' 0 0 As h P) (hdep : d' + 1 ≤ d) (hn : As.length = n) (hst : st = As.reverse ++ rest) (hrs : (rest.map fun v => v.category).sum ≤ 8)
    (kk : ∀ (v : Bool) (h' : AH), P v h' → AW m d mc ms (pc + 3) ls (.int (iN (bI v)) :: rest) h' Q) : AW m d mc ms pc ls st h Q := aw_sta hd hl hl2 hm hsta hC hdep hn hst hrs (fun r h' hp => by obtain ⟨v, rfl, hp⟩ := hp; exact kk v h' hp)
theorem aw_staAZ {P : Bool → AH → Prop} (hd : decode m.2.1 pc = .ok (.invokestatic i, 3)) (hl : LK m.1.cls i cal.1) (hl2 : cal.2.2.2.2.2 = true → Cond.methodLink m.1.cls i cal.1 ∈ gtbl) (hm : MOK cal n) (hsta : Cond.static cal.1 ∈ gtbl) (hC : CtZ cal d' mc' ms' As h P) (hdep : d' + 1 ≤ d) (hn : As.length = n) (hst : st = As.reverse ++ rest) (hrs : (rest.map fun v => v.category).sum ≤ 8)
    (kk : ∀ (v : Bool) (h' : AH), P v h' → AW m d mc ms (pc + 3) ls (.int (iN (bI v)) :: rest) h' Q) : AW m d (mc' + mc) (ms' + ms) pc ls st h Q := aw_callS hd hl hl2 hm hsta hC hdep hn hst hrs (fun r h' hp => by obtain ⟨v, rfl, hp⟩ := hp; exact kk v h' hp)
theorem aw_invL {b k : Nat} {q : vw_C} {P : Int → AH → Prop} (hd : decode m.2.1 pc = .ok (.invokevirtual i, 3)) (hl : LK m.1.cls i cal.1) (hm : MOK cal n) (hfl : cal.2.2.2.2.2 = false) (hin : Cond.instanceMethod cal.1 ∈ gtbl) (hse : Cond.selects cal.1.cls cal.1 cal.1 ∈ gtbl) (hC : CtL cal d' 0 0 (.ref b :: As) h P) (hdep : d' + 1 ≤ d) (hn : As.length = n) (hb : isO h b k) (hk : kls[k]? = some q) (hk10 : k < 10) (hq : q.1 = cal.1.cls) (hst : st = As.reverse ++ .ref b :: rest) (hrs : (rest.map fun v => v.category).sum ≤ 8)
    (kk : ∀ (v : Int) (h' : AH), P v h' → AW m d mc ms (pc + 3) ls (.long (jN v) :: rest) h' Q) : AW m d mc ms pc ls st h Q := aw_inv hd hl hm hfl hin hse hC hdep hn hb hk hk10 hq hst hrs (fun r h' hp => by obtain ⟨v, rfl, hp⟩ := hp; exact kk v h' hp)
theorem aw_staL {P : Int → AH → Prop} (hd : decode m.2.1 pc = .ok (.invokestatic i, 3)) (hl : LK m.1.cls i cal.1) (hl2 : cal.2.2.2.2.2 = true → Cond.methodLink m.1.cls i cal.1 ∈ gtbl) (hm : MOK cal n) (hsta : Cond.static cal.1 ∈ gtbl) (hC : CtL cal d' 0 0 As h P) (hdep : d' + 1 ≤ d) (hn : As.length = n) (hst : st = As.reverse ++ rest) (hrs : (rest.map fun v => v.category).sum ≤ 8)
    (kk : ∀ (v : Int) (h' : AH), P v h' → AW m d mc ms (pc + 3) ls (.long (jN v) :: rest) h' Q) : AW m d mc ms pc ls st h Q := aw_sta hd hl hl2 hm hsta hC hdep hn hst hrs (fun r h' hp => by obtain ⟨v, rfl, hp⟩ := hp; exact kk v h' hp)
theorem aw_staAL {P : Int → AH → Prop} (hd : decode m.2.1 pc = .ok (.invokestatic i, 3)) (hl : LK m.1.cls i cal.1) (hl2 : cal.2.2.2.2.2 = true → Cond.methodLink m.1.cls i cal.1 ∈ gtbl) (hm : MOK cal n) (hsta : Cond.static cal.1 ∈ gtbl) (hC : CtL cal d' mc' ms' As h P) (hdep : d' + 1 ≤ d) (hn : As.length = n) (hst : st = As.reverse ++ rest) (hrs : (rest.map fun v => v.category).sum ≤ 8)
    (kk : ∀ (v : Int) (h' : AH), P v h' → AW m d mc ms (pc + 3) ls (.long (jN v) :: rest) h' Q) : AW m d (mc' + mc) (ms' + ms) pc ls st h Q := aw_callS hd hl hl2 hm hsta hC hdep hn hst hrs (fun r h' hp => by obtain ⟨v, rfl, hp⟩ := hp; exact kk v h' hp)
theorem aw_invR {b k : Nat} {q : vw_C} {P : Nat → AH → Prop} (hd : decode m.2.1 pc = .ok (.invokevirtual i, 3)) (hl : LK m.1.cls i cal.1) (hm : MOK cal n) (hfl : cal.2.2.2.2.2 = false) (hin : Cond.instanceMethod cal.1 ∈ gtbl) (hse : Cond.selects cal.1.cls cal.1 cal.1 ∈ gtbl) (hC : CtR cal d' 0 0 (.ref b :: As) h P) (hdep : d' + 1 ≤ d) (hn : As.length = n) (hb : isO h b k) (hk : kls[k]? = some q) (hk10 : k < 10) (hq : q.1 = cal.1.cls) (hst : st = As.reverse ++ .ref b :: rest) (hrs : (rest.map fun v => v.category).sum ≤ 8)
    (kk : ∀ (v : Nat) (h' : AH), P v h' → AW m d mc ms (pc + 3) ls (.ref v :: rest) h' Q) : AW m d mc ms pc ls st h Q := aw_inv hd hl hm hfl hin hse hC hdep hn hb hk hk10 hq hst hrs (fun r h' hp => by obtain ⟨v, rfl, hp⟩ := hp; exact kk v h' hp)
theorem aw_staR {P : Nat → AH → Prop} (hd : decode m.2.1 pc = .ok (.invokestatic i, 3)) (hl : LK m.1.cls i cal.1) (hl2 : cal.2.2.2.2.2 = true → Cond.methodLink m.1.cls i cal.1 ∈ gtbl) (hm : MOK cal n) (hsta : Cond.static cal.1 ∈ gtbl) (hC : CtR cal d' 0 0 As h P) (hdep : d' + 1 ≤ d) (hn : As.length = n) (hst : st = As.reverse ++ rest) (hrs : (rest.map fun v => v.category).sum ≤ 8)
    (kk : ∀ (v : Nat) (h' : AH), P v h' → AW m d mc ms (pc + 3) ls (.ref v :: rest) h' Q) : AW m d mc ms pc ls st h Q := aw_sta hd hl hl2 hm hsta hC hdep hn hst hrs (fun r h' hp => by obtain ⟨v, rfl, hp⟩ := hp; exact kk v h' hp)
theorem aw_staAR {P : Nat → AH → Prop} (hd : decode m.2.1 pc = .ok (.invokestatic i, 3)) (hl : LK m.1.cls i cal.1) (hl2 : cal.2.2.2.2.2 = true → Cond.methodLink m.1.cls i cal.1 ∈ gtbl) (hm : MOK cal n) (hsta : Cond.static cal.1 ∈ gtbl) (hC : CtR cal d' mc' ms' As h P) (hdep : d' + 1 ≤ d) (hn : As.length = n) (hst : st = As.reverse ++ rest) (hrs : (rest.map fun v => v.category).sum ≤ 8)
    (kk : ∀ (v : Nat) (h' : AH), P v h' → AW m d mc ms (pc + 3) ls (.ref v :: rest) h' Q) : AW m d (mc' + mc) (ms' + ms) pc ls st h Q := aw_callS hd hl hl2 hm hsta hC hdep hn hst hrs (fun r h' hp => by obtain ⟨v, rfl, hp⟩ := hp; exact kk v h' hp)
theorem aw_invI0 {b : Nat} {P : AH → Prop} (hd : decode m.2.1 pc = .ok (.invokespecial i, 3)) (hl : LK m.1.cls i cal.1) (hm : MOK cal n) (hfl : cal.2.2.2.2.2 = false) (hret : cal.2.2.2.1 = none) (hnm : cal.1.name = "<init>") (hin : Cond.instanceMethod cal.1 ∈ gtbl) (hC : CtV cal d' mc' ms' (.ref b :: As) h P) (hdep : d' + 1 ≤ d) (hn : As.length = n) (hst : st = As.reverse ++ .ref b :: rest) (hrs : (rest.map fun v => v.category).sum ≤ 8)
    (kk : ∀ (h' : AH), P h' → AW m d mc ms (pc + 3) ls rest h' Q) : AW m d (mc' + mc) (ms' + ms) pc ls st h Q := aw_callI hd hl hm hfl hret hnm hin hC hdep hn hst hrs (fun r h' hp => by obtain ⟨rfl, hp⟩ := hp; exact kk h' hp)
end WRAP
/-! the rules once more, numbers as iN, jN -/
def sei (h : AH) (a k : Nat) (i : Int) (v : Value) : Prop := ∃ L, h[a]? = some (k, L) ∧ (0 ≤ i ∧ i < 2147483648) ∧ L[i.toNat]? = some v
theorem sei.sel {h : AH} {a k : Nat} {i : Int} {v : Value} (hs : sei h a k i v) : sel h a k (iN i) v := by
  obtain ⟨L, h1, h2, h3⟩ := hs
  exact ⟨L, h1, iN_n0 h2, by rw [iN_cl h2]; exact h3⟩
theorem sei.cl {h : AH} {a k : Nat} {i : Int} {v : Value} (hs : sei h a k i v) : (iN i).toNatClampNeg = i.toNat := by
  obtain ⟨L, h1, h2, h3⟩ := hs
  exact iN_cl h2
section NRULES
variable {m : AM} {d mc ms pc : Nat} {ls st : List Value} {h : AH} {Q : AR → AH → Prop} {x y : Int}
theorem an_iadd (hd : decode m.2.1 pc = .ok (.iadd, 1)) (k : AW m d mc ms (pc + 1) ls (.int (iN (x + y)) :: st) h Q) : AW m d mc ms pc ls (.int (iN y) :: .int (iN x) :: st) h Q := aw_iadd hd (by rw [iN_add]; exact k)
theorem an_isub (hd : decode m.2.1 pc = .ok (.isub, 1)) (k : AW m d mc ms (pc + 1) ls (.int (iN (x - y)) :: st) h Q) : AW m d mc ms pc ls (.int (iN y) :: .int (iN x) :: st) h Q := aw_isub hd (by rw [iN_sub]; exact k)
theorem an_imul (hd : decode m.2.1 pc = .ok (.imul, 1)) (k : AW m d mc ms (pc + 1) ls (.int (iN (x * y)) :: st) h Q) : AW m d mc ms pc ls (.int (iN y) :: .int (iN x) :: st) h Q := aw_imul hd (by rw [iN_mul]; exact k)
theorem an_ineg (hd : decode m.2.1 pc = .ok (.ineg, 1)) (k : AW m d mc ms (pc + 1) ls (.int (iN (-x)) :: st) h Q) : AW m d mc ms pc ls (.int (iN x) :: st) h Q := aw_ineg hd (by rw [iN_neg]; exact k)
theorem an_iand (hd : decode m.2.1 pc = .ok (.iand, 1)) (k : AW m d mc ms (pc + 1) ls (.int (iN (iN x &&& iN y).toInt) :: st) h Q) : AW m d mc ms pc ls (.int (iN y) :: .int (iN x) :: st) h Q := aw_iand hd (by rw [iN_toInt] at k; exact k)
theorem an_ishl (hd : decode m.2.1 pc = .ok (.ishl, 1)) (k : AW m d mc ms (pc + 1) ls (.int (iN (iN x <<< (iN y &&& 31)).toInt) :: st) h Q) : AW m d mc ms pc ls (.int (iN y) :: .int (iN x) :: st) h Q := aw_ishl hd (by rw [iN_toInt] at k; exact k)
theorem an_idiv (hd : decode m.2.1 pc = .ok (.idiv, 1)) (hn : ¬ iN y = 0) (k : AW m d mc ms (pc + 1) ls (.int (iN (iN x / iN y).toInt) :: st) h Q) : AW m d mc ms pc ls (.int (iN y) :: .int (iN x) :: st) h Q := aw_idiv hd hn (by rw [iN_toInt] at k; exact k)
theorem an_irem (hd : decode m.2.1 pc = .ok (.irem, 1)) (hn : ¬ iN y = 0) (k : AW m d mc ms (pc + 1) ls (.int (iN (iN x - iN x / iN y * iN y).toInt) :: st) h Q) : AW m d mc ms pc ls (.int (iN y) :: .int (iN x) :: st) h Q := aw_irem hd hn (by rw [iN_toInt] at k; exact k)
theorem an_ladd (hd : decode m.2.1 pc = .ok (.ladd, 1)) (k : AW m d mc ms (pc + 1) ls (.long (jN (x + y)) :: st) h Q) : AW m d mc ms pc ls (.long (jN y) :: .long (jN x) :: st) h Q := aw_ladd hd (by rw [jN_add]; exact k)
theorem an_lsub (hd : decode m.2.1 pc = .ok (.lsub, 1)) (k : AW m d mc ms (pc + 1) ls (.long (jN (x - y)) :: st) h Q) : AW m d mc ms pc ls (.long (jN y) :: .long (jN x) :: st) h Q := aw_lsub hd (by rw [jN_sub]; exact k)
theorem an_lmul (hd : decode m.2.1 pc = .ok (.lmul, 1)) (k : AW m d mc ms (pc + 1) ls (.long (jN (x * y)) :: st) h Q) : AW m d mc ms pc ls (.long (jN y) :: .long (jN x) :: st) h Q := aw_lmul hd (by rw [jN_mul]; exact k)
theorem an_land (hd : decode m.2.1 pc = .ok (.land, 1)) (k : AW m d mc ms (pc + 1) ls (.long (jN (jN x &&& jN y).toInt) :: st) h Q) : AW m d mc ms pc ls (.long (jN y) :: .long (jN x) :: st) h Q := aw_land hd (by rw [jN_toInt] at k; exact k)
theorem an_lor (hd : decode m.2.1 pc = .ok (.lor, 1)) (k : AW m d mc ms (pc + 1) ls (.long (jN (jN x ||| jN y).toInt) :: st) h Q) : AW m d mc ms pc ls (.long (jN y) :: .long (jN x) :: st) h Q := aw_lor hd (by rw [jN_toInt] at k; exact k)
theorem an_ldiv (hd : decode m.2.1 pc = .ok (.ldiv, 1)) (hn : ¬ jN y = 0) (k : AW m d mc ms (pc + 1) ls (.long (jN (jN x / jN y).toInt) :: st) h Q) : AW m d mc ms pc ls (.long (jN y) :: .long (jN x) :: st) h Q := aw_ldiv hd hn (by rw [jN_toInt] at k; exact k)
theorem an_lrem (hd : decode m.2.1 pc = .ok (.lrem, 1)) (hn : ¬ jN y = 0) (k : AW m d mc ms (pc + 1) ls (.long (jN (jN x - jN x / jN y * jN y).toInt) :: st) h Q) : AW m d mc ms pc ls (.long (jN y) :: .long (jN x) :: st) h Q := aw_lrem hd hn (by rw [jN_toInt] at k; exact k)
theorem an_lshl (hd : decode m.2.1 pc = .ok (.lshl, 1)) (k : AW m d mc ms (pc + 1) ls (.long (jN (jN x <<< ((iN y).toInt64 &&& 63)).toInt) :: st) h Q) : AW m d mc ms pc ls (.int (iN y) :: .long (jN x) :: st) h Q := aw_lshl hd (by rw [jN_toInt] at k; exact k)
theorem an_lushr (hd : decode m.2.1 pc = .ok (.lushr, 1)) (k : AW m d mc ms (pc + 1) ls (.long (jN ((jN x).toUInt64 >>> ((iN y).toInt64.toUInt64 &&& Int64.toUInt64 63)).toInt64.toInt) :: st) h Q) : AW m d mc ms pc ls (.int (iN y) :: .long (jN x) :: st) h Q := aw_lushr hd (by rw [jN_toInt] at k; exact k)
theorem an_i2l (hd : decode m.2.1 pc = .ok (.i2l, 1)) (k : AW m d mc ms (pc + 1) ls (.long (jN (iN x).toInt) :: st) h Q) : AW m d mc ms pc ls (.int (iN x) :: st) h Q := aw_i2l hd (by
  have e : (iN x).toInt64 = jN (iN x).toInt := by
    rw [← Int32.toInt_toInt64, jN_toInt]
  rw [e]; exact k)
theorem an_l2i (hd : decode m.2.1 pc = .ok (.l2i, 1)) (k : AW m d mc ms (pc + 1) ls (.int (iN (jN x).toInt32.toInt) :: st) h Q) : AW m d mc ms pc ls (.long (jN x) :: st) h Q := aw_l2i hd (by rw [iN_toInt] at k; exact k)
theorem an_lcmp (hd : decode m.2.1 pc = .ok (.lcmp, 1)) (k : AW m d mc ms (pc + 1) ls (.int (iN (lg_cmp (jN x) (jN y)).toInt) :: st) h Q) : AW m d mc ms pc ls (.long (jN y) :: .long (jN x) :: st) h Q := aw_lcmp hd (by rw [iN_toInt] at k; exact k)
theorem an_iinc {i : Nat} {n : Int} (hd : decode m.2.1 pc = .ok (.iinc i n, 3)) (hl : ls[i]? = some (.int (iN x))) (hi : i < m.2.2.1) (ho : okS ls i = true) (k : AW m d mc ms (pc + 3) (ls.set i (.int (iN (x + n)))) st h Q) : AW m d mc ms pc ls st h Q := aw_iinc hd hl rfl hi ho (by rw [show iN x + Int32.ofInt n = iN (x + n) from iN_add x n]; exact k)
theorem an_iaload {a : Nat} {i : Int} (hd : decode m.2.1 pc = .ok (.iaload, 1)) (hv : sei h a 10 i (.int (iN x))) (kk : AW m d mc ms (pc + 1) ls (.int (iN x) :: st) h Q) : AW m d mc ms pc ls (.int (iN i) :: .ref a :: st) h Q := aw_iaload hd hv.sel kk
theorem an_laload {a : Nat} {i : Int} (hd : decode m.2.1 pc = .ok (.laload, 1)) (hv : sei h a 11 i (.long (jN x))) (kk : AW m d mc ms (pc + 1) ls (.long (jN x) :: st) h Q) : AW m d mc ms pc ls (.int (iN i) :: .ref a :: st) h Q := aw_laload hd hv.sel kk
theorem an_baload {a : Nat} {i : Int} (hd : decode m.2.1 pc = .ok (.baload, 1)) (hv : sei h a 12 i (.int (iN x))) (kk : AW m d mc ms (pc + 1) ls (.int (iN x) :: st) h Q) : AW m d mc ms pc ls (.int (iN i) :: .ref a :: st) h Q := aw_baload hd hv.sel kk
theorem an_aaload {a b : Nat} {i : Int} (hd : decode m.2.1 pc = .ok (.aaload, 1)) (hv : sei h a 13 i (.ref b)) (kk : AW m d mc ms (pc + 1) ls (.ref b :: st) h Q) : AW m d mc ms pc ls (.int (iN i) :: .ref a :: st) h Q := aw_aaload hd hv.sel kk
theorem an_sload {a : Nat} {i : Int} (hd : decode m.2.1 pc = .ok (.iaload, 1)) (hv : sei h a 14 i (.int (iN x))) (kk : AW m d mc ms (pc + 1) ls (.int (iN x) :: st) h Q) : AW m d mc ms pc ls (.int (iN i) :: .ref a :: st) h Q := aw_sload hd hv.sel kk
theorem an_iastore {a : Nat} {i : Int} {v0 : Value} (hd : decode m.2.1 pc = .ok (.iastore, 1)) (hv : sei h a 10 i v0) (kk : AW m d mc ms (pc + 1) ls st (stf h a i.toNat (.int (iN x))) Q) : AW m d mc ms pc ls (.int (iN x) :: .int (iN i) :: .ref a :: st) h Q := aw_iastore hd hv.sel (by rw [hv.cl]; exact kk)
theorem an_lastore {a : Nat} {i : Int} {v0 : Value} (hd : decode m.2.1 pc = .ok (.lastore, 1)) (hv : sei h a 11 i v0) (kk : AW m d mc ms (pc + 1) ls st (stf h a i.toNat (.long (jN x))) Q) : AW m d mc ms pc ls (.long (jN x) :: .int (iN i) :: .ref a :: st) h Q := aw_lastore hd hv.sel (by rw [hv.cl]; exact kk)
theorem an_bastore {a : Nat} {i : Int} {v0 : Value} (hd : decode m.2.1 pc = .ok (.bastore, 1)) (hv : sei h a 12 i v0) (hx : narrow .boolean (.int (iN x)) = .int (iN x)) (kk : AW m d mc ms (pc + 1) ls st (stf h a i.toNat (.int (iN x))) Q) : AW m d mc ms pc ls (.int (iN x) :: .int (iN i) :: .ref a :: st) h Q := aw_bastore hd hv.sel hx (by rw [hv.cl]; exact kk)
theorem an_aastore {a b : Nat} {i : Int} {v0 : Value} {fs : List Value} (hd : decode m.2.1 pc = .ok (.aastore, 1)) (hv : sei h a 13 i v0) (hb : h[b]? = some (0, fs)) (kk : AW m d mc ms (pc + 1) ls st (stf h a i.toNat (.ref b)) Q) : AW m d mc ms pc ls (.ref b :: .int (iN i) :: .ref a :: st) h Q := aw_aastore hd hv.sel hb (by rw [hv.cl]; exact kk)
theorem an_alen {a k n : Nat} (hd : decode m.2.1 pc = .ok (.arraylength, 1)) (hk1 : 10 ≤ k) (hk2 : k < 14) (hv : alen h a k n) (kk : AW m d mc ms (pc + 1) ls (.int (iN n) :: st) h Q) : AW m d mc ms pc ls (.ref a :: st) h Q := aw_alen hd hk1 hk2 hv (by rw [iN_nat]; exact kk)
theorem an_slen {a n : Nat} (hd : decode m.2.1 pc = .ok (.arraylength, 1)) (hv : alen h a 14 n) (kk : AW m d mc ms (pc + 1) ls (.int (iN n) :: st) h Q) : AW m d mc ms pc ls (.ref a :: st) h Q := aw_slen hd hv (by rw [iN_nat]; exact kk)
theorem an_newarr {at9 : ArrayType} {k : Nat} {n : Int} (hd : decode m.2.1 pc = .ok (.newarray at9, 2)) (hat : newarray.typeOf at9 = aty k) (hk1 : 10 ≤ k) (hk2 : k < 13) (hn : 0 ≤ n ∧ n < 100000) (hw : Cond.arrayClass (aty k) ∈ gtbl) (hne : h.length ≠ 0) (kk : AW m d mc ms (pc + 2) ls (.ref h.length :: st) (h ++ [(k, List.replicate n.toNat (defaultValue (aty k)))]) Q) : AW m d (mc + 1) (ms + n.toNat) pc ls (.int (iN n) :: st) h Q := by
  have e := iN_cl (z := n) (by omega)
  have hb : ∀ k, 10 ≤ k → k < 13 → componentBytes (aty k) ≤ 8 := by
    intro k h1 h2
    rcases (show k = 10 ∨ k = 11 ∨ k = 12 by omega) with rfl | rfl | rfl <;> decide
  have h1 : n.toNat * componentBytes (aty k) ≤ 100000 * 8 := Nat.mul_le_mul (by omega) (hb k hk1 hk2)
  have h2 := aw_newarr (n := iN n) hd hat hk1 hk2 (iN_n0 (by omega)) hw (by rw [e]; omega) hne (by rw [e]; exact kk)
  rw [e] at h2
  exact h2
theorem an_newrefs {i : Nat} {n : Int} (hd : decode m.2.1 pc = .ok (.anewarray i, 3)) (hw : Cond.classLink m.1.cls i RX0 ∈ gtbl) (hn : 0 ≤ n ∧ n < 100000) (hne : h.length ≠ 0) (kk : AW m d mc ms (pc + 3) ls (.ref h.length :: st) (h ++ [(13, List.replicate n.toNat .null)]) Q) : AW m d (mc + 1) (ms + n.toNat) pc ls (.int (iN n) :: st) h Q := by
  have e := iN_cl (z := n) (by omega)
  have h2 := aw_newrefs (n := iN n) hd hw (iN_n0 (by omega)) (by rw [e]; omega) hne (by rw [e]; exact kk)
  rw [e] at h2
  exact h2
theorem an_max {i : Nat} (hd : decode m.2.1 pc = .ok (.invokestatic i, 3)) (hw : MX m.1.cls i) (hdep : 1 ≤ d) (hrs : (st.map fun v => v.category).sum ≤ 8) (kk : AW m d mc ms (pc + 3) ls (.int (iN (if iN x < iN y then y else x)) :: st) h Q) : AW m d mc ms pc ls (.int (iN y) :: .int (iN x) :: st) h Q := aw_max hd hw hdep hrs (by rw [show (if iN x < iN y then iN y else iN x) = iN (if iN x < iN y then y else x) by split <;> rfl]; exact kk)
theorem an_min {i : Nat} (hd : decode m.2.1 pc = .ok (.invokestatic i, 3)) (hw : MN m.1.cls i) (hdep : 1 ≤ d) (hrs : (st.map fun v => v.category).sum ≤ 8) (kk : AW m d mc ms (pc + 3) ls (.int (iN (if iN y < iN x then y else x)) :: st) h Q) : AW m d mc ms pc ls (.int (iN y) :: .int (iN x) :: st) h Q := aw_min hd hw hdep hrs (by rw [show (if iN y < iN x then iN y else iN x) = iN (if iN y < iN x then y else x) by split <;> rfl]; exact kk)
theorem an_maxL {i : Nat} (hd : decode m.2.1 pc = .ok (.invokestatic i, 3)) (hw : ML m.1.cls i) (hdep : 1 ≤ d) (hrs : (st.map fun v => v.category).sum ≤ 8) (kk : AW m d mc ms (pc + 3) ls (.long (jN (if jN y < jN x then x else y)) :: st) h Q) : AW m d mc ms pc ls (.long (jN y) :: .long (jN x) :: st) h Q := aw_maxL hd hw hdep hrs (by rw [show (if jN y < jN x then jN x else jN y) = jN (if jN y < jN x then x else y) by split <;> rfl]; exact kk)
theorem an_copy {i a b : Nat} {L M : List Int32} (hd : decode m.2.1 pc = .ok (.invokestatic i, 3)) (hw : AC9 m.1.cls i) (hdep : 2 ≤ d) (ha : h[a]? = some (10, L.map Value.int)) (hb : h[b]? = some (10, M.map Value.int)) (hx : 0 ≤ x ∧ x < 2147483648) (h4 : x.toNat ≤ L.length) (h5 : x.toNat ≤ M.length) (hrs : (st.map fun v => v.category).sum ≤ 8) (kk : AW m d mc ms (pc + 3) ls st (h.set b (10, (L.take x.toNat ++ M.drop x.toNat).map Value.int)) Q) : AW m d mc ms pc ls (.int (iN x) :: .int (iN 0) :: .ref b :: .int (iN 0) :: .ref a :: st) h Q := aw_copy (x := iN x) hd hw hdep ha hb (iN_n0 hx) (by rw [iN_cl hx]; exact h4) (by rw [iN_cl hx]; exact h5) hrs (by rw [iN_cl hx]; exact kk)
theorem i0N : (0 : Int32) = iN 0 := by decide
theorem an_if_eq {off : Int} {tgt : Nat} (hd : decode m.2.1 pc = .ok (.ifCond .eq off, 3)) (ht : (pc : Int) + off = (tgt : Int)) (kt : iN x = iN 0 → AW m d mc ms tgt ls st h Q) (kf : ¬ iN x = iN 0 → AW m d mc ms (pc + 3) ls st h Q) : AW m d mc ms pc ls (.int (iN x) :: st) h Q := aw_if_eq hd ht (fun z => kt (by rw [← i0N]; exact z)) (fun z => kf (by rw [← i0N]; exact z))
theorem an_if_ne {off : Int} {tgt : Nat} (hd : decode m.2.1 pc = .ok (.ifCond .ne off, 3)) (ht : (pc : Int) + off = (tgt : Int)) (kt : ¬ iN x = iN 0 → AW m d mc ms tgt ls st h Q) (kf : iN x = iN 0 → AW m d mc ms (pc + 3) ls st h Q) : AW m d mc ms pc ls (.int (iN x) :: st) h Q := aw_if_ne hd ht (fun z => kt (by rw [← i0N]; exact z)) (fun z => kf (by rw [← i0N]; exact z))
theorem an_if_lt {off : Int} {tgt : Nat} (hd : decode m.2.1 pc = .ok (.ifCond .lt off, 3)) (ht : (pc : Int) + off = (tgt : Int)) (kt : iN x < iN 0 → AW m d mc ms tgt ls st h Q) (kf : ¬ iN x < iN 0 → AW m d mc ms (pc + 3) ls st h Q) : AW m d mc ms pc ls (.int (iN x) :: st) h Q := aw_if_lt hd ht (fun z => kt (by rw [← i0N]; exact z)) (fun z => kf (by rw [← i0N]; exact z))
theorem an_if_ge {off : Int} {tgt : Nat} (hd : decode m.2.1 pc = .ok (.ifCond .ge off, 3)) (ht : (pc : Int) + off = (tgt : Int)) (kt : iN 0 ≤ iN x → AW m d mc ms tgt ls st h Q) (kf : ¬ iN 0 ≤ iN x → AW m d mc ms (pc + 3) ls st h Q) : AW m d mc ms pc ls (.int (iN x) :: st) h Q := aw_if_ge hd ht (fun z => kt (by rw [← i0N]; exact z)) (fun z => kf (by rw [← i0N]; exact z))
theorem an_if_gt {off : Int} {tgt : Nat} (hd : decode m.2.1 pc = .ok (.ifCond .gt off, 3)) (ht : (pc : Int) + off = (tgt : Int)) (kt : iN 0 < iN x → AW m d mc ms tgt ls st h Q) (kf : ¬ iN 0 < iN x → AW m d mc ms (pc + 3) ls st h Q) : AW m d mc ms pc ls (.int (iN x) :: st) h Q := aw_if_gt hd ht (fun z => kt (by rw [← i0N]; exact z)) (fun z => kf (by rw [← i0N]; exact z))
theorem an_if_le {off : Int} {tgt : Nat} (hd : decode m.2.1 pc = .ok (.ifCond .le off, 3)) (ht : (pc : Int) + off = (tgt : Int)) (kt : iN x ≤ iN 0 → AW m d mc ms tgt ls st h Q) (kf : ¬ iN x ≤ iN 0 → AW m d mc ms (pc + 3) ls st h Q) : AW m d mc ms pc ls (.int (iN x) :: st) h Q := aw_if_le hd ht (fun z => kt (by rw [← i0N]; exact z)) (fun z => kf (by rw [← i0N]; exact z))
theorem lgc_lt (x y : Int64) : lg_cmp x y < 0 ↔ x < y := lg_cmp_lt x y
theorem lgc_gt (x y : Int64) : 0 < lg_cmp x y ↔ y < x := lg_cmp_gt x y
theorem lgc_eq (x y : Int64) : lg_cmp x y = 0 ↔ x = y := lg_cmp_eq x y
theorem i32_nlt {x y : Int32} : ¬ x < y ↔ y ≤ x := by
  rw [Int32.lt_iff_toInt_lt, Int32.le_iff_toInt_le]; omega
theorem an_lif_eq {off : Int} {tgt : Nat} (hd0 : decode m.2.1 pc = .ok (.lcmp, 1)) (hd : decode m.2.1 (pc + 1) = .ok (.ifCond .eq off, 3)) (ht : ((pc + 1 : Nat) : Int) + off = (tgt : Int)) (kt : jN x = jN y → AW m d mc ms tgt ls st h Q) (kf : ¬ jN x = jN y → AW m d mc ms (pc + 1 + 3) ls st h Q) : AW m d mc ms pc ls (.long (jN y) :: .long (jN x) :: st) h Q := aw_lcmp hd0 (aw_if_eq hd ht (fun z => kt ((lgc_eq _ _).mp z)) (fun z => kf (fun q => z ((lgc_eq _ _).mpr q))))
theorem an_lif_ne {off : Int} {tgt : Nat} (hd0 : decode m.2.1 pc = .ok (.lcmp, 1)) (hd : decode m.2.1 (pc + 1) = .ok (.ifCond .ne off, 3)) (ht : ((pc + 1 : Nat) : Int) + off = (tgt : Int)) (kt : ¬ jN x = jN y → AW m d mc ms tgt ls st h Q) (kf : jN x = jN y → AW m d mc ms (pc + 1 + 3) ls st h Q) : AW m d mc ms pc ls (.long (jN y) :: .long (jN x) :: st) h Q := aw_lcmp hd0 (aw_if_ne hd ht (fun z => kt (fun q => z ((lgc_eq _ _).mpr q))) (fun z => kf ((lgc_eq _ _).mp z)))
theorem an_lif_lt {off : Int} {tgt : Nat} (hd0 : decode m.2.1 pc = .ok (.lcmp, 1)) (hd : decode m.2.1 (pc + 1) = .ok (.ifCond .lt off, 3)) (ht : ((pc + 1 : Nat) : Int) + off = (tgt : Int)) (kt : jN x < jN y → AW m d mc ms tgt ls st h Q) (kf : ¬ jN x < jN y → AW m d mc ms (pc + 1 + 3) ls st h Q) : AW m d mc ms pc ls (.long (jN y) :: .long (jN x) :: st) h Q := aw_lcmp hd0 (aw_if_lt hd ht (fun z => kt ((lgc_lt _ _).mp z)) (fun z => kf (fun q => z ((lgc_lt _ _).mpr q))))
theorem an_lif_ge {off : Int} {tgt : Nat} (hd0 : decode m.2.1 pc = .ok (.lcmp, 1)) (hd : decode m.2.1 (pc + 1) = .ok (.ifCond .ge off, 3)) (ht : ((pc + 1 : Nat) : Int) + off = (tgt : Int)) (kt : ¬ jN x < jN y → AW m d mc ms tgt ls st h Q) (kf : jN x < jN y → AW m d mc ms (pc + 1 + 3) ls st h Q) : AW m d mc ms pc ls (.long (jN y) :: .long (jN x) :: st) h Q := aw_lcmp hd0 (aw_if_ge hd ht (fun z => kt (fun q => i32_nlt.mpr z ((lgc_lt _ _).mpr q))) (fun z => kf ((lgc_lt _ _).mp (by rw [← i32_nlt] at z; exact Classical.not_not.mp z))))
theorem an_lif_gt {off : Int} {tgt : Nat} (hd0 : decode m.2.1 pc = .ok (.lcmp, 1)) (hd : decode m.2.1 (pc + 1) = .ok (.ifCond .gt off, 3)) (ht : ((pc + 1 : Nat) : Int) + off = (tgt : Int)) (kt : jN y < jN x → AW m d mc ms tgt ls st h Q) (kf : ¬ jN y < jN x → AW m d mc ms (pc + 1 + 3) ls st h Q) : AW m d mc ms pc ls (.long (jN y) :: .long (jN x) :: st) h Q := aw_lcmp hd0 (aw_if_gt hd ht (fun z => kt ((lgc_gt _ _).mp z)) (fun z => kf (fun q => z ((lgc_gt _ _).mpr q))))
theorem an_lif_le {off : Int} {tgt : Nat} (hd0 : decode m.2.1 pc = .ok (.lcmp, 1)) (hd : decode m.2.1 (pc + 1) = .ok (.ifCond .le off, 3)) (ht : ((pc + 1 : Nat) : Int) + off = (tgt : Int)) (kt : ¬ jN y < jN x → AW m d mc ms tgt ls st h Q) (kf : jN y < jN x → AW m d mc ms (pc + 1 + 3) ls st h Q) : AW m d mc ms pc ls (.long (jN y) :: .long (jN x) :: st) h Q := aw_lcmp hd0 (aw_if_le hd ht (fun z => kt (fun q => i32_nlt.mpr z ((lgc_gt _ _).mpr q))) (fun z => kf ((lgc_gt _ _).mp (by rw [← i32_nlt] at z; exact Classical.not_not.mp z))))
theorem an_ldc2 {i : Nat} {v : Int64} {z : Int} (hd : decode m.2.1 pc = .ok (.ldc2_w i, 3)) (hw : Cond.constantLong m.1.cls i v ∈ gtbl) (hz : v = jN z) (k : AW m d mc ms (pc + 3) ls (.long (jN z) :: st) h Q) : AW m d mc ms pc ls st h Q := aw_ldc2 hd hw (by rw [hz]; exact k)
end NRULES
