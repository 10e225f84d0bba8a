theorem iN_one : iN 1 = (1 : Int32) := by decide
/-- from the entry, for every script of at most 2048 ints, the law comes to its end with true -/
theorem whole_start {p : Program} {e : Env} {s : State} {m : MethodId} {below : List Frame} {meth : Method} {c : Code} (l : Launch) (hflags : l.flags = flags0) {b L : Nat} {xs : Nat → Int32} (hL : L ≤ 2048) (C0 : lw_At p s m meth c b L xs) : W p l e room_1 s m #[Value.ref b] below meth c s.heap [] 0 0 (lw_Z below #[Value.ref b] s) (entryFrame m ([Value.ref b] : List Value).toArray 7) := by
  obtain ⟨hx, hb, hr, hml, hown, hts, hX, hbl, hlk, hgv⟩ := C0
  obtain ⟨E4, hKS⟩ := e_of hts hgv hX hbl
  have hF : Fr ((b, s.heap, (List.range L).map xs, E4) : AE) mL_law 10 p l room_1 s m #[Value.ref b] meth c :=
    ⟨hx, hb, hml, hr, hown, fun w hw => hts w (List.mem_filter.mp hw).1, hKS, fun q _ => rfl, Nat.le_refl _, Nat.le_of_ble_eq_true rfl, Nat.le_of_ble_eq_true rfl, hlk, fun h => absurd h (by decide), Or.inl rfl, by
      unfold Launch.stackTraces
      rw [hflags]
      decide +kernel⟩
  have hent : LOK ((b, s.heap, (List.range L).map xs, E4) : AE) 7 [.ref 0, vU, vU, vU, vU, vU, vU] _ := ent_LOK (E := ((b, s.heap, (List.range L).map xs, E4) : AE)) (avs := [.ref 0]) (n := 7) (Nat.le_of_ble_eq_true rfl)
  have hRel : Rel ((b, s.heap, (List.range L).map xs, E4) : AE) [(14, ((List.range L).map xs).map Value.int)] s.heap := by
    refine ⟨rfl, fun q _ => rfl, fun c hc => ?_, fun a c hc => ?_⟩
    · injection hc with hc; subst hc; exact Nat.le_refl _
    · match a with
      | 0 =>
        injection hc with hc
        subst hc
        exact ⟨fun h => absurd h (Nat.not_lt.mpr (Nat.le_of_ble_eq_true rfl)), fun _ h => absurd h (Nat.lt_irrefl _), fun _ => ⟨rfl, rfl⟩⟩
      | a + 1 => simp at hc
  have hW := law_all (ws := (List.range L).map xs) (by rw [List.length_map, List.length_range]; exact hL) (Q := fun r _ => r = .inl (some (.int (iN 1)))) (fun _ => rfl)
    ((b, s.heap, (List.range L).map xs, E4) : AE) p l e room_1 s m #[Value.ref b] below meth c (lw_Z below #[Value.ref b] s) s.heap [] 0 0 _ hF hent ⟨hRel, Nat.le_refl _, fun z hz => nomatch hz⟩ (Nat.le_of_ble_eq_true rfl) (Nat.le_of_ble_eq_true rfl)
    ⟨fun r h' H' locs cells slots pc lr i hq hH hc hs hd hrI => by
      injection hq with hq
      subst hq
      have hi : i = .ireturn := by
        rcases hrI with ⟨e1, _⟩ | ⟨x, ty, _, _, _, e5⟩ | ⟨x, e1, _⟩ | ⟨v, n, e1, _⟩
        · exact nomatch e1
        · exact e5
        · exact nomatch e1
        · exact nomatch e1
      subst hi
      change W p l e room_1 s m #[Value.ref b] below meth c H' locs cells slots (lw_Z below #[Value.ref b] s) (F0 m pc lr [.int (iN 1)])
      rw [iN_one]
      exact va_forget hH.2.2 (W.widen hc hs (lw_ret hx hb hr hlk hd)), Or.inl (fun x h' hq => nomatch hq)⟩
  rw [lg_entry_eq]
  exact hW
