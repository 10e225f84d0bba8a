/-! THE BRIDGE: what the law's entry gives is what the picture asks -/
theorem in_t {w : Cond} (i : Nat) (h : lw_tbl[i]? = some w) : w ∈ lw_tbl := List.mem_of_getElem? h
def lw_H (b : Nat) (s : State) : Prop := ∀ w ∈ lw_tbl, w.before #[Value.ref b] s = true
theorem lw_H.g {b : Nat} {s : State} (hts : lw_H b s) : ∀ w ∈ gtbl, w.before #[Value.ref b] s = true := fun w hw => hts w (List.mem_filter.mp hw).1
theorem kn_at {b : Nat} {s : State} (hts : lw_H b s) (c : Nat) : ∃ (cC : ClassId) (iS : Nat → Nat), ∀ q : vw_C, kls[c]? = some q → u_Kn s q.1 q.2.1 q.2.2 cC iS := by
  have F : ∀ (C : String) (T : u_T) (N n i : Nat), (∀ w ∈ u_ws C T N, w ∈ gtbl) → lw_tbl[i]? = some (Cond.instantiable C n) → ∃ (cC : ClassId) (iS : Nat → Nat), ∀ q : vw_C, some (C, T, N) = some q → u_Kn s q.1 q.2.1 q.2.2 cC iS := by
    intro C T N n i hin hi
    obtain ⟨cC, iS, h⟩ := u_known hts.g hin (hts _ (in_t i hi))
    exact ⟨cC, iS, fun q e => by injection e with e; subst e; exact h⟩
  match c with
  | 0 => exact F RX0 TX0 12 12 68 kin_0 (by decide +kernel)
  | 1 => exact F RX1 TX1 5 5 146 kin_1 (by decide +kernel)
  | 2 => exact F RX2 TX2 3 3 122 kin_2 (by decide +kernel)
  | 3 => exact F RX3 TX3 3 3 229 kin_3 (by decide +kernel)
  | 4 => exact F RX4 TX4 1 1 74 kin_4 (by decide +kernel)
  | 5 => exact F RX5 TX5 1 1 235 kin_5 (by decide +kernel)
  | 6 => exact F RX6 TX6 5 5 88 kin_6 (by decide +kernel)
  | 7 => exact F RX7 TX7 7 7 260 kin_7 (by decide +kernel)
  | 8 => exact F RX8 TX8 6 6 60 kin_8 (by decide +kernel)
  | 9 => exact F RX9 TX9 13 13 903 kin_9 (by decide +kernel)
  | n + 10 => exact ⟨0, fun _ => 0, fun q e => by simp at e⟩
theorem ar_at {args : Array Value} {s : State} {ty : FieldType} (h : (Cond.arrayClass ty).before args s = true) : ∃ cA : ClassId, ArrOfT s cA ty ∧ s.vm.findClass ("[" ++ ty.toString) = some cA := by
  obtain ⟨c, k, comp, h1, h2, h3⟩ := Cond.arrayClass_spec h
  exact ⟨c, fun n z => ⟨fun k h => (by cases h), k, h2, comp, h3⟩, h1⟩
theorem ao_at {args : Array Value} {s : State} {C : String} (h : (Cond.arrayOver (.object C)).before args s = true) : ∃ cA : ClassId, ArrOfT s cA (.object C) ∧ va_RA s cA (.object C) := by
  obtain ⟨comp, c, k, h1, h2, h3, h4, h5⟩ := Cond.arrayOver_spec h
  exact ⟨c, fun n z => ⟨fun k h => (by cases h), k, h3, comp, h4⟩, k, comp, h3, h4, h1, h5⟩
theorem nest_tab {w : Cond} (h : isNest w = true) : w.onTables = true := by
  cases w <;> first | rfl | exact nomatch h
theorem sr_at {args : Array Value} {s : State} {own tx : String} {k : Nat} (h : (Cond.stringRef own k tx).before args s = true) : ∃ a, vk_R own k tx a s := by
  cases hc : s.vm.findClass own with
  | none =>
    exfalso
    simp only [Cond.before, Cond.holds, Cond.value, hc, Option.map_none] at h
    simp at h
  | some cur =>
    obtain ⟨_, _, _, a, _, _, _, _, _, e⟩ := Cond.stringRef_spec hc h
    exact ⟨a, vk_R.of h e⟩
theorem nc_01 {b : Nat} {s : State} (h : (Jvm.Cond.and given_1 narrow_1).before #[Value.ref b] s = true) : va_Nc (exn 0) (exn 1) s := va_Nc.of (args := #[Value.ref b]) (flat_of_before _ h _ (by decide +kernel))
theorem nc_02 {b : Nat} {s : State} (h : (Jvm.Cond.and given_1 narrow_1).before #[Value.ref b] s = true) : va_Nc (exn 0) (exn 2) s := va_Nc.of (args := #[Value.ref b]) (flat_of_before _ h _ (by decide +kernel))
theorem nc_10 {b : Nat} {s : State} (h : (Jvm.Cond.and given_1 narrow_1).before #[Value.ref b] s = true) : va_Nc (exn 1) (exn 0) s := va_Nc.of (args := #[Value.ref b]) (flat_of_before _ h _ (by decide +kernel))
theorem nc_12 {b : Nat} {s : State} (h : (Jvm.Cond.and given_1 narrow_1).before #[Value.ref b] s = true) : va_Nc (exn 1) (exn 2) s := va_Nc.of (args := #[Value.ref b]) (flat_of_before _ h _ (by decide +kernel))
theorem nc_20 {b : Nat} {s : State} (h : (Jvm.Cond.and given_1 narrow_1).before #[Value.ref b] s = true) : va_Nc (exn 2) (exn 0) s := va_Nc.of (args := #[Value.ref b]) (flat_of_before _ h _ (by decide +kernel))
theorem nc_21 {b : Nat} {s : State} (h : (Jvm.Cond.and given_1 narrow_1).before #[Value.ref b] s = true) : va_Nc (exn 2) (exn 1) s := va_Nc.of (args := #[Value.ref b]) (flat_of_before _ h _ (by decide +kernel))
theorem ra_1 {b : Nat} {s : State} (h : (Jvm.Cond.and given_1 narrow_1).before #[Value.ref b] s = true) : (Cond.isRef (.static Bundle.tN "UNASSIGNED_STACK" Bundle.steD)).before #[Value.ref b] s = true := flat_of_before _ h _ (by decide +kernel)
theorem ra_2 {b : Nat} {s : State} (h : (Jvm.Cond.and given_1 narrow_1).before #[Value.ref b] s = true) : (Cond.isRef (.static Bundle.tN "SUPPRESSED_SENTINEL" Bundle.listD)).before #[Value.ref b] s = true := flat_of_before _ h _ (by decide +kernel)
theorem t_52 : Cond.initialized Bundle.tN ∈ lw_tbl := in_t 52 (by decide +kernel)
theorem t_483 : Cond.laysStatic Bundle.tN "UNASSIGNED_STACK" Bundle.steD ∈ lw_tbl := in_t 483 (by decide +kernel)
theorem t_485 : Cond.laysStatic Bundle.tN "SUPPRESSED_SENTINEL" Bundle.listD ∈ lw_tbl := in_t 485 (by decide +kernel)
theorem t_458 : Cond.castable (exn 0) (exn 0) ∈ lw_tbl := in_t 458 (by decide +kernel)
theorem t_526 : Cond.castable (exn 1) (exn 1) ∈ lw_tbl := in_t 526 (by decide +kernel)
theorem t_649 : Cond.castable (exn 2) (exn 2) ∈ lw_tbl := in_t 649 (by decide +kernel)
theorem t_242 : Cond.arrayOver (.object RX0) ∈ lw_tbl := in_t 242 (by decide +kernel)
theorem xs_get {L : Nat} {xs : Nat → Int32} {j : Nat} (h : j < L) : ((List.range L).map xs).getD j 0 = xs j := by
  simp [h]
theorem e_of {b L : Nat} {xs : Nat → Int32} {s : State} (hts : lw_H b s) (hg : (Jvm.Cond.and given_1 narrow_1).before #[Value.ref b] s = true) (hX : va_X b L xs s s.heap) (hb : b < s.heap.size) :
    ∃ (E4 : (Nat → ClassId) × (Nat → Nat → Nat) × (Nat → ClassId)), KS ((b, s.heap, (List.range L).map xs, E4) : AE) s := by
  obtain ⟨cI, i1, i2⟩ := ar_at (hts _ (List.mem_filter.mp ar_int).1)
  obtain ⟨cL, l1, l2⟩ := ar_at (hts _ (List.mem_filter.mp ar_long).1)
  obtain ⟨cZ, z1, z2⟩ := ar_at (hts _ (List.mem_filter.mp ar_boolean).1)
  obtain ⟨cO, o1, o2⟩ := ao_at (hts _ t_242)
  refine ⟨(fun c => Classical.choose (kn_at hts c), fun c => Classical.choose (Classical.choose_spec (kn_at hts c)), fun k => if k = 10 then cI else if k = 11 then cL else if k = 12 then cZ else cO), ⟨fun c q hq => Classical.choose_spec (Classical.choose_spec (kn_at hts c)) q hq, fun k q hk => ?_⟩, fun w hw hn => va_Nw.of (nest_tab hn) (hts w hw), fun own k tx hw => sr_at (hts _ hw), ?_, ?_, fun x hx => ?_, fun x y hx hy hn => ?_, ?_, hb, va_AO.of (hts _ t_242)⟩
  · match k with
    | 0 => injection hk with hk; subst hk; exact ⟨i1, i2⟩
    | 1 => injection hk with hk; subst hk; exact ⟨l1, l2⟩
    | 2 => injection hk with hk; subst hk; exact ⟨z1, z2⟩
    | 3 => injection hk with hk; subst hk; exact ⟨o1, o2⟩
    | k + 4 => simp [atys] at hk
  · exact vx_Zqof (hts _ t_483) (hts _ t_52) (ra_1 hg) (fun a h1 h2 => absurd h1 (Nat.not_lt.mpr h2))
  · exact vx_Zqof (hts _ t_485) (hts _ t_52) (ra_2 hg) (fun a h1 h2 => absurd h1 (Nat.not_lt.mpr h2))
  · match x with
    | 0 => exact va_Nw.of rfl (hts _ t_458)
    | 1 => exact va_Nw.of rfl (hts _ t_526)
    | 2 => exact va_Nw.of rfl (hts _ t_649)
    | x + 3 => omega
  · match x, y with
    | 0, 1 => exact nc_01 hg
    | 0, 2 => exact nc_02 hg
    | 1, 0 => exact nc_10 hg
    | 1, 2 => exact nc_12 hg
    | 2, 0 => exact nc_20 hg
    | 2, 1 => exact nc_21 hg
    | 0, 0 => exact absurd rfl hn
    | 1, 1 => exact absurd rfl hn
    | 2, 2 => exact absurd rfl hn
    | x + 3, _ => omega
    | _, y + 3 => omega
  · obtain ⟨scr, h1, h2, h3, h4, h5⟩ := hX
    refine ⟨scr, h1, h2, h3, by rw [h4]; simp, fun j hj => ?_⟩
    have hj : j < L := by
      have hj : j < ((List.range L).map xs).length := hj
      simpa using hj
    rw [h5 j hj]
    exact congrArg (fun z => some (Value.int z)) (xs_get hj).symm
