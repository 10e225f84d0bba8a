/-! THE CORE: a picture of the machine small enough to reason in. An abstract cell is its kind and its contents; an abstract address a stands for the real one ad E a: 0 is the script's, the others lie one behind the other from the start's heap on. AW: from here (a method's pc, locals, stack, heap) the method comes to an end with Q. -/
abbrev AC : Type := Nat × List Value
abbrev AH : Type := List AC
abbrev AR : Type := Option Value ⊕ Nat
/-- a method: its name, bytes, locals, answer's type, table of handlers, and whether it has one -/
abbrev AM : Type := MethodName × ByteArray × Nat × Option FieldType × List (Nat × Nat × Nat × Nat) × Bool
/-- a run: the script's address, the start's heap, the script, the classes' ids and slots, the arrays' class ids -/
abbrev AE : Type := Nat × Heap × List Int32 × (Nat → ClassId) × (Nat → Nat → Nat) × (Nat → ClassId)
abbrev vU : Value := .float 0
abbrev kls : List vw_C := [(RX0, TX0, 12), (RX1, TX1, 5), (RX2, TX2, 3), (RX3, TX3, 3), (RX4, TX4, 1), (RX5, TX5, 1), (RX6, TX6, 5), (RX7, TX7, 7), (RX8, TX8, 6), (RX9, TX9, 13)]
def gtbl : List Cond := lw_tbl.filter goodWord
theorem in_g {w : Cond} (i : Nat) (h : lw_tbl[i]? = some w) (g : goodWord w = true) : w ∈ gtbl := List.mem_filter.mpr ⟨List.mem_of_getElem? h, g⟩
def isNest : Cond → Bool
  | .fieldLinkNest .. => true
  | .methodLinkNest .. => true
  | .declares _ => true
  | .castable .. => true
  | _ => false
def cwd (m : AM) : Cond := match m.2.2.2.2.2 with
  | true => .codeWith m.1 m.2.1 m.2.2.1 m.2.2.2.1 m.2.2.2.2.1
  | false => .code m.1 m.2.1 m.2.2.1 m.2.2.2.1
def awsM (m : AM) : List Cond := cwd m :: gtbl
def bs (E : AE) : Nat := E.2.1.size
def ad (E : AE) : Nat → Nat
  | 0 => E.1
  | a + 1 => E.2.1.size + a
def rv (E : AE) : Value → Value
  | .ref a => .ref (ad E a)
  | .int x => .int x
  | .long x => .long x
  | .float x => .float x
  | .double x => .double x
  | .retAddr x => .retAddr x
  | .null => .null
def dG (E : AE) : va_G := (E.2.2.2.1, E.2.2.2.2.1)
def dA (E : AE) : Nat → ClassId := E.2.2.2.2.2
/-- kinds 10 to 13 are arrays -/
def aty : Nat → FieldType
  | 10 => .int
  | 11 => .long
  | 12 => .boolean
  | _ => .object RX0
def atys (E : AE) : List (ClassId × FieldType) := [(dA E 10, .int), (dA E 11, .long), (dA E 12, .boolean), (dA E 13, .object RX0)]
def vF (E : AE) (L : List Value) : Nat → Value := fun j => rv E (L.getD j .null)
def cOK (E : AE) (a : Nat) (c : AC) (H : Heap) : Prop :=
  (c.1 < 10 → ∃ q : vw_C, kls[c.1]? = some q ∧ c.2.length = q.2.2 ∧ t_OB (ad E a) ((dG E).1 c.1) q.2.2 ((dG E).2 c.1) H (vF E c.2)) ∧
  (10 ≤ c.1 → c.1 < 14 → H[ad E a]? = some (arrV (dA E c.1) c.2.length (vF E c.2))) ∧
  (c.1 = 14 → a = 0 ∧ c.2 = E.2.2.1.map Value.int)
/-- the heap is the picture's: nothing that was there before is changed, nothing else has come -/
def Rel (E : AE) (h : AH) (H : Heap) : Prop :=
  H.size + 1 = bs E + h.length ∧ (∀ q, q < bs E → H[q]? = E.2.1[q]?) ∧ (∀ c, h[0]? = some c → 14 ≤ c.1) ∧ ∀ a c, h[a]? = some c → cOK E a c H
def exn : Nat → String
  | 0 => "java/lang/IllegalArgumentException"
  | 1 => "java/lang/IllegalStateException"
  | _ => "java/lang/IndexOutOfBoundsException"
/-- what the tables say beside the good words -/
def KS (E : AE) (U : State) : Prop :=
  va_K (dG E) kls (atys E) U ∧ (∀ w ∈ lw_tbl, isNest w = true → va_Nw w U) ∧
  (∀ own k tx, Cond.stringRef own k tx ∈ lw_tbl → ∃ a, vk_R own k tx a U) ∧
  vx_Zq Bundle.tN "UNASSIGNED_STACK" Bundle.steD (fun q => bs E ≤ q) U E.2.1 ∧ vx_Zq Bundle.tN "SUPPRESSED_SENTINEL" Bundle.listD (fun q => bs E ≤ q) U E.2.1 ∧
  (∀ x, x < 3 → va_Nw (.castable (exn x) (exn x)) U) ∧ (∀ x y, x < 3 → y < 3 → x ≠ y → va_Nc (exn x) (exn y) U) ∧
  va_X E.1 E.2.2.1.length (fun j => E.2.2.1.getD j 0) U E.2.1 ∧ E.1 < bs E ∧ va_AO RX0 U
theorem KS.warm {E : AE} {s U : State} (hW : s.WarmedH U.vm) (h : KS E s) : KS E U := by
  obtain ⟨h1, h2, h3, h4, h5, h6, h7, h8, h9, h10⟩ := h
  refine ⟨va_K.moved hW.alike h1, fun w hw hn => ?_, fun own k tx hw => ?_, h4.moved hW.alike, h5.moved hW.alike, fun x hx => (h6 x hx).warmC hW, fun x y hx hy hn => (h7 x y hx hy hn).moved hW.alike, h8.moved hW.alike, h9, h10.moved hW.alike⟩
  · have h0 := h2 w hw hn
    cases w <;> simp [isNest] at hn
    all_goals first | exact va_Nw.warmM hW h0 | exact va_Nw.warmF hW h0 | exact va_Nw.warmD hW h0 | exact va_Nw.warmC hW h0
  · obtain ⟨a, ha⟩ := h3 own k tx hw
    exact ⟨a, ha.warm hW⟩
/-- the frame of a method -/
def Fr (E : AE) (m : AM) (d : Nat) (p : Program) (l : Launch) (R : Room) (s : State) (mi : MethodId) (args : Array Value) (meth : Method) (c : Code) : Prop :=
  p.tables.exec = Jvm.exec ∧ c.code = m.2.1 ∧ c.maxLocals = m.2.2.1 ∧ meth.sig.returnType = m.2.2.2.1 ∧ s.vm.findClass m.1.cls = some mi.cls ∧ (∀ w ∈ gtbl, w.before args s = true) ∧ KS E s ∧
  (∀ q, q < bs E → s.heap[q]? = E.2.1[q]?) ∧ bs E ≤ s.heap.size ∧ d ≤ R.frames ∧ 37 * d ≤ R.locals ∧ meth.locks = false ∧ (m.1.name = "<init>" → meth.name = "<init>") ∧ (m.1.name = "law" ∨ c.exceptionTable.toList = tableOf m.2.2.2.2.1) ∧ l.stackTraces = false
def LOK (E : AE) (n : Nat) (ls : List Value) (lr : Array Slot) : Prop := ls.length = n ∧ lr.size = n ∧ lv_wf lr ∧ ∀ (i : Nat) (v : Value), ls[i]? = some v → v ≠ vU → lr[i]? = some (Slot.val (rv E v))
def HOK (E : AE) (s : State) (h : AH) (H : Heap) (locs : List Loc) : Prop := Rel E h H ∧ s.heap.size ≤ H.size ∧ ∀ z ∈ locs, bs E ≤ z.base
/-- how a method gives back its answer -/
def retI (ret : Option FieldType) (r : Option Value) (i : Instr) : Prop :=
  (ret = none ∧ r = none ∧ i = .return_) ∨ (∃ (x : Int32) (ty : FieldType), ret = some ty ∧ narrow ty (.int x) = .int x ∧ r = some (.int x) ∧ i = .ireturn) ∨
  (∃ x : Int64, ret = some .long ∧ r = some (.long x) ∧ i = .lreturn) ∨ (∃ (v : Value) (n : String), ret = some (.object n) ∧ r = some v ∧ (v = .null ∨ ∃ a, v = .ref a) ∧ i = .areturn)
def EndOK (E : AE) (m : AM) (p : Program) (l : Launch) (e : Env) (R : Room) (s : State) (mi : MethodId) (args : Array Value) (below : List Frame) (meth : Method) (c : Code) (QQ : State → Prop) (Q : AR → AH → Prop) : Prop :=
  (∀ (r : Option Value) (h : AH) (H : Heap) (locs : List Loc) (cells slots pc : Nat) (lr : Array Slot) (i : Instr), Q (.inl r) h → HOK E s h H locs → cells ≤ R.cells → slots ≤ R.slots → decode m.2.1 pc = .ok (i, 1) → retI m.2.2.2.1 r i →
    W p l e R s mi args below meth c H locs cells slots QQ (F0 mi pc lr (r.toList.map (rv E)))) ∧
  ((∀ x h, ¬ Q (.inr x) h) ∨ ∃ (Qc : Array Value → State → Outcome → State → Prop) (XC : String → State → State → Prop), QQ = vx_MQ below Qc XC args s R.cells R.slots (fun q => bs E ≤ q) ∧
    ∀ (x : Nat) (h : AH) (k : Nat) (t : State), Q (.inr x) h → Rel E (h ++ List.replicate k (15, [])) t.heap → s.heap.size ≤ t.heap.size → s.vm.Alike t.vm → XC (exn x) s t)
theorem EndOK.mono {E : AE} {m : AM} {p : Program} {l : Launch} {e : Env} {R : Room} {s : State} {mi : MethodId} {args : Array Value} {below : List Frame} {meth : Method} {c : Code} {QQ : State → Prop} {Q Q' : AR → AH → Prop} (hE : EndOK E m p l e R s mi args below meth c QQ Q') (hq : ∀ r h, Q r h → Q' r h) : EndOK E m p l e R s mi args below meth c QQ Q := by
  refine ⟨fun r h H locs cells slots pc lr i h1 => hE.1 r h H locs cells slots pc lr i (hq _ _ h1), ?_⟩
  rcases hE.2 with h | ⟨Qc, XC, h1, h2⟩
  · exact Or.inl fun x h' z => h x h' (hq _ _ z)
  · exact Or.inr ⟨Qc, XC, h1, fun x h' k t z => h2 x h' k t (hq _ _ z)⟩
def AW (m : AM) (d mc ms pc : Nat) (ls st : List Value) (h : AH) (Q : AR → AH → Prop) : Prop :=
  ∀ (E : AE) (p : Program) (l : Launch) (e : Env) (R : Room) (s : State) (mi : MethodId) (args : Array Value) (below : List Frame) (meth : Method) (c : Code) (QQ : State → Prop) (H : Heap) (locs : List Loc) (cells slots : Nat) (lr : Array Slot),
    Fr E m d p l R s mi args meth c → LOK E m.2.2.1 ls lr → HOK E s h H locs → cells + mc ≤ R.cells → slots + ms ≤ R.slots → EndOK E m p l e R s mi args below meth c QQ Q →
    W p l e R s mi args below meth c H locs cells slots QQ (F0 mi pc lr (st.map (rv E)))
theorem AW.mono {m : AM} {d mc ms pc : Nat} {ls st : List Value} {h : AH} {Q Q' : AR → AH → Prop} (k : AW m d mc ms pc ls st h Q) (hq : ∀ r h, Q r h → Q' r h) : AW m d mc ms pc ls st h Q' :=
  fun E p l e R s mi args below meth c QQ H locs cells slots lr hF hL hH hc hs hE => k E p l e R s mi args below meth c QQ H locs cells slots lr hF hL hH hc hs (hE.mono hq)
theorem AW.room {m : AM} {d mc ms mc' ms' pc : Nat} {ls st : List Value} {h : AH} {Q : AR → AH → Prop} (k : AW m d mc ms pc ls st h Q) (h1 : mc ≤ mc') (h2 : ms ≤ ms') : AW m d mc' ms' pc ls st h Q :=
  fun E p l e R s mi args below meth c QQ H locs cells slots lr hF hL hH hc hs hE => k E p l e R s mi args below meth c QQ H locs cells slots lr hF hL hH (by omega) (by omega) hE
theorem AW.depth {m : AM} {d d' mc ms pc : Nat} {ls st : List Value} {h : AH} {Q : AR → AH → Prop} (k : AW m d mc ms pc ls st h Q) (h1 : d ≤ d') : AW m d' mc ms pc ls st h Q := by
  intro E p l e R s mi args below meth c QQ H locs cells slots lr hF
  obtain ⟨a1, a2, a3, a4, a5, a6, a7, a8, a9, a10, a11, a12⟩ := hF
  exact k E p l e R s mi args below meth c QQ H locs cells slots lr ⟨a1, a2, a3, a4, a5, a6, a7, a8, a9, by omega, by omega, a12⟩
theorem AW.eq {m : AM} {d mc ms pc : Nat} {ls ls' st st' : List Value} {h h' : AH} {Q : AR → AH → Prop} (k : AW m d mc ms pc ls' st' h' Q) (h1 : ls = ls') (h2 : st = st') (h3 : h = h') : AW m d mc ms pc ls st h Q := by
  subst h1; subst h2; subst h3; exact k
