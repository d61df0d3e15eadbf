/-! ===== the law from its entry, in the machine ===== -/
theorem whole_start {p : Program} {e : Env} {s : State} {m : MethodId} {below : List Frame} {meth : Method} {c : Code} (l : Launch) (hflags : l.flags = flags0) {b L : Nat} {xs : Nat → Int32} (hL : L ≤ 260) (C0 : lw_At p s m meth c b L xs) : W p l e room_1 s m #[Value.ref b] below meth c s.heap [] 0 0 (lw_Z below #[Value.ref b] s) (entryFrame m ([Value.ref b] : List Value).toArray 9) := by
  obtain ⟨v, hz, hvb, hvn, hB⟩ := start_env hL C0
  obtain ⟨hx, hb, hr, hml, hown, hts, hX, hbl, hlocks, hgv, hname, hext⟩ := C0
  have hl : l.stackTraces = false := by
    unfold Launch.stackTraces
    rw [hflags]
    decide
  have hF : Fx v mL_law (z0 v) p l s m #[Value.ref b] meth c := ⟨hx, hb, hml, hown, fun w hw => hts w (big_in hw), hr, hlocks, hl, hB, hz.symm, Nat.le_refl _, hname, by rw [hext]; rfl⟩
  rw [lg_entry_eq]
  have k := law_J (v := v) (by omega) p l e s m #[Value.ref b] below meth c hF s.heap [] _ hz.symm (fun a e9 h => by cases h) va_S.rf (by rw [hvb]; exact eL_entry [.ref b] (n := 9) (Nat.le_of_ble_eq_true rfl))
  intro T hT X
  obtain ⟨t, a1, b1⟩ := k T hT X
  exact ⟨t, a1, b1 (by rw [hvb])⟩

