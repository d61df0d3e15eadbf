/-! ===== the wrappers of the law ===== -/
theorem ca_ia : Cond.castable iaE iaE ∈ lw_tbl := List.mem_of_getElem? (i := 583) (by decide +kernel)
theorem ca_iob : Cond.castable iobE iobE ∈ lw_tbl := List.mem_of_getElem? (i := 862) (by decide +kernel)
theorem ca_is : Cond.castable isE' isE' ∈ lw_tbl := List.mem_of_getElem? (i := 975) (by decide +kernel)
theorem ex_ne : iobE ∈ exC ∧ iaE ∈ exC ∧ isE' ∈ exC ∧ iobE ≠ iaE ∧ iobE ≠ isE' ∧ iaE ≠ isE' := by decide +kernel
theorem fits_w {M' : Md} {d mc ms : Nat} (hm : M'.2.2.1 ≤ 41) : Fits (rmOf (d + 1) mc ms) M' d := ⟨Nat.le_refl _, by
  show 8 + (M'.2.2.1 + 11) + 60 * d ≤ 60 * (d + 1)
  omega⟩
section
variable {v : Ev} {h : Hp} {top x o d mc ms : Nat} {Q : Hp → Nat → Prop} {fs : List Value}
theorem wN_load {w1 : Int32} {y : Int32} (hx : h x = some (ob 10 fs)) (hC : Cal v mX10_load d mc ms [.ref x, .int w1] h top (fun r h' top' => r = some (.int y) ∧ Q h' top') noX) (ho : ∀ h' top', Q h' top' → ∃ fo, h' o = some (aJ v 1 fo)) : Cal v mL_load (d + 1) mc ms [.ref x, .int w1, .ref o] h top (fun r h' top' => r = some (.int (nI 0)) ∧ ∃ h1 fo, Q h1 top' ∧ h1 o = some (aJ v 1 fo) ∧ h' = hp h1 o (aJ v 1 (vp_updL fo 0 y.toInt64))) noX := by
  refine Cal.ofJH (by decide +kernel) rfl (Nat.le_of_ble_eq_true rfl) fun hz0 => ?_
  refine r_ls [some (.ref x), some (.int w1), some (.ref o), none] rfl ?_
  refine r_aload_n (pc := 0) (i := 2) (tL_load.at 0 rfl) rfl rfl ?_
  refine r_iconst (pc := 1) (w := nI 0) (tL_load.at 1 rfl) (by decide) ?_
  refine r_aload_n (pc := 2) (i := 0) (tL_load.at 2 rfl) rfl rfl ?_
  refine r_iload_n (pc := 3) (i := 1) (tL_load.at 3 rfl) rfl rfl ?_
  refine r_callVC (M' := mX10_load) (pc := 4) (tL_load.at 4 rfl) ml_L_7 rfl mw_X10_load (fits_w (by decide)) hx rfl rfl hC rfl rfl (Nat.le_of_ble_eq_true rfl) (by show 0 + mc ≤ mc; omega) (by show 0 + ms ≤ ms; omega) ?_ (fun _ _ _ _ z => z.elim)
  rintro _ h1 top1 ⟨rfl, hq⟩
  obtain ⟨fo, hfo⟩ := ho _ _ hq
  first | refine r_i2lN (pc := 7) (tL_load.at 5 rfl) (by omega) ?_ | refine r_i2l (pc := 7) (tL_load.at 5 rfl) ?_
  refine r_last (pc := 8) (tL_load.at 6 rfl) (hfo) (0) (rfl) (by omega) (Nat.le_of_ble_eq_true rfl) ?_
  refine r_goto (pc := 9) 15 (tL_load.at 7 rfl) (by decide) ?_
  refine r_iconst (pc := 15) (w := nI 0) (tL_load.at 11 rfl) (by decide) ?_
  refine r_iret (pc := 16) (tL_load.at 12 rfl) rfl (by show 0 + mc ≤ mc; omega) (by show 0 + ms ≤ ms; omega) ?_
  exact ⟨rfl, h1, fo, hq, hfo, rfl⟩
theorem wE_load_1 {w1 : Int32} (hx : h x = some (ob 10 fs)) (hC : Cal v mX10_load d mc ms [.ref x, .int w1] h top fX (fun E h' top' => E = iaE ∧ Q h' top')) : Cal v mL_load (d + 1) mc ms [.ref x, .int w1, .ref o] h top (fun r h' top' => r = some (.int (nI 1)) ∧ Q h' top') noX := by
  refine Cal.ofJH (by decide +kernel) rfl (Nat.le_of_ble_eq_true rfl) fun hz0 => ?_
  refine r_ls [some (.ref x), some (.int w1), some (.ref o), none] rfl ?_
  refine r_aload_n (pc := 0) (i := 2) (tL_load.at 0 rfl) rfl rfl ?_
  refine r_iconst (pc := 1) (w := nI 0) (tL_load.at 1 rfl) (by decide) ?_
  refine r_aload_n (pc := 2) (i := 0) (tL_load.at 2 rfl) rfl rfl ?_
  refine r_iload_n (pc := 3) (i := 1) (tL_load.at 3 rfl) rfl rfl ?_
  refine r_callVC (M' := mX10_load) (pc := 4) (tL_load.at 4 rfl) ml_L_7 rfl mw_X10_load (fits_w (by decide)) hx rfl rfl hC rfl rfl (Nat.le_of_ble_eq_true rfl) (by show 0 + mc ≤ mc; omega) (by show 0 + ms ≤ ms; omega) (fun _ _ _ z => z.elim) ?_
  rintro _ q h1 top1 ⟨rfl, hq⟩
  refine ⟨[], ⟨0, 9, 12, 13⟩, [], iaE, rfl, ?_, rfl, by decide, kl_L_13, ca_ia, ?_⟩
  · exact fun z hz => nomatch hz
  · refine r_ls [some (.ref x), some (.int w1), some (.ref o), none] rfl ?_
    refine r_astore_n (pc := 12) (i := 3) (tL_load.at 8 rfl) rfl (by decide) ?_
    refine r_iconst (pc := 13) (w := nI 1) (tL_load.at 9 rfl) (by decide) ?_
    refine r_iret (pc := 14) (tL_load.at 10 rfl) rfl (by show 0 + mc ≤ mc; omega) (by show 0 + ms ≤ ms; omega) ?_
    exact ⟨rfl, hq⟩
theorem wN_edge {w1 w2 : Int32} {y : Int32} (hx : h x = some (ob 10 fs)) (hC : Cal v mX10_edge d mc ms [.ref x, .int w1, .int w2] h top (fun r h' top' => r = some (.int y) ∧ Q h' top') noX) (ho : ∀ h' top', Q h' top' → ∃ fo, h' o = some (aJ v 1 fo)) : Cal v mL_edge (d + 1) mc ms [.ref x, .int w1, .int w2, .ref o] h top (fun r h' top' => r = some (.int (nI 0)) ∧ ∃ h1 fo, Q h1 top' ∧ h1 o = some (aJ v 1 fo) ∧ h' = hp h1 o (aJ v 1 (vp_updL fo 0 y.toInt64))) noX := by
  refine Cal.ofJH (by decide +kernel) rfl (Nat.le_of_ble_eq_true rfl) fun hz0 => ?_
  refine r_ls [some (.ref x), some (.int w1), some (.int w2), some (.ref o), none] rfl ?_
  refine r_aload_n (pc := 0) (i := 3) (tL_edge.at 0 rfl) rfl rfl ?_
  refine r_iconst (pc := 1) (w := nI 0) (tL_edge.at 1 rfl) (by decide) ?_
  refine r_aload_n (pc := 2) (i := 0) (tL_edge.at 2 rfl) rfl rfl ?_
  refine r_iload_n (pc := 3) (i := 1) (tL_edge.at 3 rfl) rfl rfl ?_
  refine r_iload_n (pc := 4) (i := 2) (tL_edge.at 4 rfl) rfl rfl ?_
  refine r_callVC (M' := mX10_edge) (pc := 5) (tL_edge.at 5 rfl) ml_L_15 rfl mw_X10_edge (fits_w (by decide)) hx rfl rfl hC rfl rfl (Nat.le_of_ble_eq_true rfl) (by show 0 + mc ≤ mc; omega) (by show 0 + ms ≤ ms; omega) ?_ (fun _ _ _ _ z => z.elim)
  rintro _ h1 top1 ⟨rfl, hq⟩
  obtain ⟨fo, hfo⟩ := ho _ _ hq
  first | refine r_i2lN (pc := 8) (tL_edge.at 6 rfl) (by omega) ?_ | refine r_i2l (pc := 8) (tL_edge.at 6 rfl) ?_
  refine r_last (pc := 9) (tL_edge.at 7 rfl) (hfo) (0) (rfl) (by omega) (Nat.le_of_ble_eq_true rfl) ?_
  refine r_goto (pc := 10) 21 (tL_edge.at 8 rfl) (by decide) ?_
  refine r_iconst (pc := 21) (w := nI 0) (tL_edge.at 15 rfl) (by decide) ?_
  refine r_iret (pc := 22) (tL_edge.at 16 rfl) rfl (by show 0 + mc ≤ mc; omega) (by show 0 + ms ≤ ms; omega) ?_
  exact ⟨rfl, h1, fo, hq, hfo, rfl⟩
theorem wE_edge_1 {w1 w2 : Int32} (hx : h x = some (ob 10 fs)) (hC : Cal v mX10_edge d mc ms [.ref x, .int w1, .int w2] h top fX (fun E h' top' => E = iobE ∧ Q h' top')) : Cal v mL_edge (d + 1) mc ms [.ref x, .int w1, .int w2, .ref o] h top (fun r h' top' => r = some (.int (nI 1)) ∧ Q h' top') noX := by
  refine Cal.ofJH (by decide +kernel) rfl (Nat.le_of_ble_eq_true rfl) fun hz0 => ?_
  refine r_ls [some (.ref x), some (.int w1), some (.int w2), some (.ref o), none] rfl ?_
  refine r_aload_n (pc := 0) (i := 3) (tL_edge.at 0 rfl) rfl rfl ?_
  refine r_iconst (pc := 1) (w := nI 0) (tL_edge.at 1 rfl) (by decide) ?_
  refine r_aload_n (pc := 2) (i := 0) (tL_edge.at 2 rfl) rfl rfl ?_
  refine r_iload_n (pc := 3) (i := 1) (tL_edge.at 3 rfl) rfl rfl ?_
  refine r_iload_n (pc := 4) (i := 2) (tL_edge.at 4 rfl) rfl rfl ?_
  refine r_callVC (M' := mX10_edge) (pc := 5) (tL_edge.at 5 rfl) ml_L_15 rfl mw_X10_edge (fits_w (by decide)) hx rfl rfl hC rfl rfl (Nat.le_of_ble_eq_true rfl) (by show 0 + mc ≤ mc; omega) (by show 0 + ms ≤ ms; omega) (fun _ _ _ z => z.elim) ?_
  rintro _ q h1 top1 ⟨rfl, hq⟩
  refine ⟨[], ⟨0, 10, 13, 19⟩, [⟨0, 10, 17, 13⟩], iobE, rfl, ?_, rfl, by decide, kl_L_19, ca_iob, ?_⟩
  · exact fun z hz => nomatch hz
  · refine r_ls [some (.ref x), some (.int w1), some (.int w2), some (.ref o), none] rfl ?_
    refine r_astore (pc := 13) (i := 4) (tL_edge.at 9 rfl) (by decide) ?_
    refine r_iconst (pc := 15) (w := nI 1) (tL_edge.at 10 rfl) (by decide) ?_
    refine r_iret (pc := 16) (tL_edge.at 11 rfl) rfl (by show 0 + mc ≤ mc; omega) (by show 0 + ms ≤ ms; omega) ?_
    exact ⟨rfl, hq⟩
theorem wE_edge_2 {w1 w2 : Int32} (hx : h x = some (ob 10 fs)) (hC : Cal v mX10_edge d mc ms [.ref x, .int w1, .int w2] h top fX (fun E h' top' => E = iaE ∧ Q h' top')) : Cal v mL_edge (d + 1) mc ms [.ref x, .int w1, .int w2, .ref o] h top (fun r h' top' => r = some (.int (nI 2)) ∧ Q h' top') noX := by
  refine Cal.ofJH (by decide +kernel) rfl (Nat.le_of_ble_eq_true rfl) fun hz0 => ?_
  refine r_ls [some (.ref x), some (.int w1), some (.int w2), some (.ref o), none] rfl ?_
  refine r_aload_n (pc := 0) (i := 3) (tL_edge.at 0 rfl) rfl rfl ?_
  refine r_iconst (pc := 1) (w := nI 0) (tL_edge.at 1 rfl) (by decide) ?_
  refine r_aload_n (pc := 2) (i := 0) (tL_edge.at 2 rfl) rfl rfl ?_
  refine r_iload_n (pc := 3) (i := 1) (tL_edge.at 3 rfl) rfl rfl ?_
  refine r_iload_n (pc := 4) (i := 2) (tL_edge.at 4 rfl) rfl rfl ?_
  refine r_callVC (M' := mX10_edge) (pc := 5) (tL_edge.at 5 rfl) ml_L_15 rfl mw_X10_edge (fits_w (by decide)) hx rfl rfl hC rfl rfl (Nat.le_of_ble_eq_true rfl) (by show 0 + mc ≤ mc; omega) (by show 0 + ms ≤ ms; omega) (fun _ _ _ z => z.elim) ?_
  rintro _ q h1 top1 ⟨rfl, hq⟩
  refine ⟨[⟨0, 10, 13, 19⟩], ⟨0, 10, 17, 13⟩, [], iaE, rfl, ?_, rfl, by decide, kl_L_13, ca_ia, ?_⟩
  · intro z hz
    have hz2 : z = ⟨0, 10, 13, 19⟩ := by simpa using hz
    rcases hz2 with rfl
    · exact Or.inr ⟨by decide, iobE, kl_L_19, ex_ne.2.1, ex_ne.1, ex_ne.2.2.2.1.symm⟩
  · refine r_ls [some (.ref x), some (.int w1), some (.int w2), some (.ref o), none] rfl ?_
    refine r_astore (pc := 17) (i := 4) (tL_edge.at 12 rfl) (by decide) ?_
    refine r_iconst (pc := 19) (w := nI 2) (tL_edge.at 13 rfl) (by decide) ?_
    refine r_iret (pc := 20) (tL_edge.at 14 rfl) rfl (by show 0 + mc ≤ mc; omega) (by show 0 + ms ≤ ms; omega) ?_
    exact ⟨rfl, hq⟩
theorem wN_degree {w1 : Int32} {y : Int32} (hx : h x = some (ob 10 fs)) (hC : Cal v mX10_degree d mc ms [.ref x, .int w1] h top (fun r h' top' => r = some (.int y) ∧ Q h' top') noX) (ho : ∀ h' top', Q h' top' → ∃ fo, h' o = some (aJ v 1 fo)) : Cal v mL_degree (d + 1) mc ms [.ref x, .int w1, .ref o] h top (fun r h' top' => r = some (.int (nI 0)) ∧ ∃ h1 fo, Q h1 top' ∧ h1 o = some (aJ v 1 fo) ∧ h' = hp h1 o (aJ v 1 (vp_updL fo 0 y.toInt64))) noX := by
  refine Cal.ofJH (by decide +kernel) rfl (Nat.le_of_ble_eq_true rfl) fun hz0 => ?_
  refine r_ls [some (.ref x), some (.int w1), some (.ref o), none] rfl ?_
  refine r_aload_n (pc := 0) (i := 2) (tL_degree.at 0 rfl) rfl rfl ?_
  refine r_iconst (pc := 1) (w := nI 0) (tL_degree.at 1 rfl) (by decide) ?_
  refine r_aload_n (pc := 2) (i := 0) (tL_degree.at 2 rfl) rfl rfl ?_
  refine r_iload_n (pc := 3) (i := 1) (tL_degree.at 3 rfl) rfl rfl ?_
  refine r_callVC (M' := mX10_degree) (pc := 4) (tL_degree.at 4 rfl) ml_L_21 rfl mw_X10_degree (fits_w (by decide)) hx rfl rfl hC rfl rfl (Nat.le_of_ble_eq_true rfl) (by show 0 + mc ≤ mc; omega) (by show 0 + ms ≤ ms; omega) ?_ (fun _ _ _ _ z => z.elim)
  rintro _ h1 top1 ⟨rfl, hq⟩
  obtain ⟨fo, hfo⟩ := ho _ _ hq
  first | refine r_i2lN (pc := 7) (tL_degree.at 5 rfl) (by omega) ?_ | refine r_i2l (pc := 7) (tL_degree.at 5 rfl) ?_
  refine r_last (pc := 8) (tL_degree.at 6 rfl) (hfo) (0) (rfl) (by omega) (Nat.le_of_ble_eq_true rfl) ?_
  refine r_goto (pc := 9) 15 (tL_degree.at 7 rfl) (by decide) ?_
  refine r_iconst (pc := 15) (w := nI 0) (tL_degree.at 11 rfl) (by decide) ?_
  refine r_iret (pc := 16) (tL_degree.at 12 rfl) rfl (by show 0 + mc ≤ mc; omega) (by show 0 + ms ≤ ms; omega) ?_
  exact ⟨rfl, h1, fo, hq, hfo, rfl⟩
theorem wE_degree_1 {w1 : Int32} (hx : h x = some (ob 10 fs)) (hC : Cal v mX10_degree d mc ms [.ref x, .int w1] h top fX (fun E h' top' => E = iobE ∧ Q h' top')) : Cal v mL_degree (d + 1) mc ms [.ref x, .int w1, .ref o] h top (fun r h' top' => r = some (.int (nI 1)) ∧ Q h' top') noX := by
  refine Cal.ofJH (by decide +kernel) rfl (Nat.le_of_ble_eq_true rfl) fun hz0 => ?_
  refine r_ls [some (.ref x), some (.int w1), some (.ref o), none] rfl ?_
  refine r_aload_n (pc := 0) (i := 2) (tL_degree.at 0 rfl) rfl rfl ?_
  refine r_iconst (pc := 1) (w := nI 0) (tL_degree.at 1 rfl) (by decide) ?_
  refine r_aload_n (pc := 2) (i := 0) (tL_degree.at 2 rfl) rfl rfl ?_
  refine r_iload_n (pc := 3) (i := 1) (tL_degree.at 3 rfl) rfl rfl ?_
  refine r_callVC (M' := mX10_degree) (pc := 4) (tL_degree.at 4 rfl) ml_L_21 rfl mw_X10_degree (fits_w (by decide)) hx rfl rfl hC rfl rfl (Nat.le_of_ble_eq_true rfl) (by show 0 + mc ≤ mc; omega) (by show 0 + ms ≤ ms; omega) (fun _ _ _ z => z.elim) ?_
  rintro _ q h1 top1 ⟨rfl, hq⟩
  refine ⟨[], ⟨0, 9, 12, 19⟩, [], iobE, rfl, ?_, rfl, by decide, kl_L_19, ca_iob, ?_⟩
  · exact fun z hz => nomatch hz
  · refine r_ls [some (.ref x), some (.int w1), some (.ref o), none] rfl ?_
    refine r_astore_n (pc := 12) (i := 3) (tL_degree.at 8 rfl) rfl (by decide) ?_
    refine r_iconst (pc := 13) (w := nI 1) (tL_degree.at 9 rfl) (by decide) ?_
    refine r_iret (pc := 14) (tL_degree.at 10 rfl) rfl (by show 0 + mc ≤ mc; omega) (by show 0 + ms ≤ ms; omega) ?_
    exact ⟨rfl, hq⟩
theorem wN_reachable {w1 : Int32} {y : Int32} (hx : h x = some (ob 10 fs)) (hC : Cal v mX10_reachable d mc ms [.ref x, .int w1] h top (fun r h' top' => r = some (.int y) ∧ Q h' top') noX) (ho : ∀ h' top', Q h' top' → ∃ fo, h' o = some (aJ v 1 fo)) : Cal v mL_reachable (d + 1) mc ms [.ref x, .int w1, .ref o] h top (fun r h' top' => r = some (.int (nI 0)) ∧ ∃ h1 fo, Q h1 top' ∧ h1 o = some (aJ v 1 fo) ∧ h' = hp h1 o (aJ v 1 (vp_updL fo 0 y.toInt64))) noX := by
  refine Cal.ofJH (by decide +kernel) rfl (Nat.le_of_ble_eq_true rfl) fun hz0 => ?_
  refine r_ls [some (.ref x), some (.int w1), some (.ref o), none] rfl ?_
  refine r_aload_n (pc := 0) (i := 2) (tL_reachable.at 0 rfl) rfl rfl ?_
  refine r_iconst (pc := 1) (w := nI 0) (tL_reachable.at 1 rfl) (by decide) ?_
  refine r_aload_n (pc := 2) (i := 0) (tL_reachable.at 2 rfl) rfl rfl ?_
  refine r_iload_n (pc := 3) (i := 1) (tL_reachable.at 3 rfl) rfl rfl ?_
  refine r_callVC (M' := mX10_reachable) (pc := 4) (tL_reachable.at 4 rfl) ml_L_24 rfl mw_X10_reachable (fits_w (by decide)) hx rfl rfl hC rfl rfl (Nat.le_of_ble_eq_true rfl) (by show 0 + mc ≤ mc; omega) (by show 0 + ms ≤ ms; omega) ?_ (fun _ _ _ _ z => z.elim)
  rintro _ h1 top1 ⟨rfl, hq⟩
  obtain ⟨fo, hfo⟩ := ho _ _ hq
  first | refine r_i2lN (pc := 7) (tL_reachable.at 5 rfl) (by omega) ?_ | refine r_i2l (pc := 7) (tL_reachable.at 5 rfl) ?_
  refine r_last (pc := 8) (tL_reachable.at 6 rfl) (hfo) (0) (rfl) (by omega) (Nat.le_of_ble_eq_true rfl) ?_
  refine r_goto (pc := 9) 15 (tL_reachable.at 7 rfl) (by decide) ?_
  refine r_iconst (pc := 15) (w := nI 0) (tL_reachable.at 11 rfl) (by decide) ?_
  refine r_iret (pc := 16) (tL_reachable.at 12 rfl) rfl (by show 0 + mc ≤ mc; omega) (by show 0 + ms ≤ ms; omega) ?_
  exact ⟨rfl, h1, fo, hq, hfo, rfl⟩
theorem wE_reachable_1 {w1 : Int32} (hx : h x = some (ob 10 fs)) (hC : Cal v mX10_reachable d mc ms [.ref x, .int w1] h top fX (fun E h' top' => E = iobE ∧ Q h' top')) : Cal v mL_reachable (d + 1) mc ms [.ref x, .int w1, .ref o] h top (fun r h' top' => r = some (.int (nI 1)) ∧ Q h' top') noX := by
  refine Cal.ofJH (by decide +kernel) rfl (Nat.le_of_ble_eq_true rfl) fun hz0 => ?_
  refine r_ls [some (.ref x), some (.int w1), some (.ref o), none] rfl ?_
  refine r_aload_n (pc := 0) (i := 2) (tL_reachable.at 0 rfl) rfl rfl ?_
  refine r_iconst (pc := 1) (w := nI 0) (tL_reachable.at 1 rfl) (by decide) ?_
  refine r_aload_n (pc := 2) (i := 0) (tL_reachable.at 2 rfl) rfl rfl ?_
  refine r_iload_n (pc := 3) (i := 1) (tL_reachable.at 3 rfl) rfl rfl ?_
  refine r_callVC (M' := mX10_reachable) (pc := 4) (tL_reachable.at 4 rfl) ml_L_24 rfl mw_X10_reachable (fits_w (by decide)) hx rfl rfl hC rfl rfl (Nat.le_of_ble_eq_true rfl) (by show 0 + mc ≤ mc; omega) (by show 0 + ms ≤ ms; omega) (fun _ _ _ z => z.elim) ?_
  rintro _ q h1 top1 ⟨rfl, hq⟩
  refine ⟨[], ⟨0, 9, 12, 19⟩, [], iobE, rfl, ?_, rfl, by decide, kl_L_19, ca_iob, ?_⟩
  · exact fun z hz => nomatch hz
  · refine r_ls [some (.ref x), some (.int w1), some (.ref o), none] rfl ?_
    refine r_astore_n (pc := 12) (i := 3) (tL_reachable.at 8 rfl) rfl (by decide) ?_
    refine r_iconst (pc := 13) (w := nI 1) (tL_reachable.at 9 rfl) (by decide) ?_
    refine r_iret (pc := 14) (tL_reachable.at 10 rfl) rfl (by show 0 + mc ≤ mc; omega) (by show 0 + ms ≤ ms; omega) ?_
    exact ⟨rfl, hq⟩
theorem wN_transition {w1 w2 w3 : Int32} {y : Int32} (hx : h x = some (ob 10 fs)) (hC : Cal v mX10_transition d mc ms [.ref x, .int w1, .int w2, .int w3] h top (fun r h' top' => r = some (.int y) ∧ Q h' top') noX) (ho : ∀ h' top', Q h' top' → ∃ fo, h' o = some (aJ v 1 fo)) : Cal v mL_transition (d + 1) mc ms [.ref x, .int w1, .int w2, .int w3, .ref o] h top (fun r h' top' => r = some (.int (nI 0)) ∧ ∃ h1 fo, Q h1 top' ∧ h1 o = some (aJ v 1 fo) ∧ h' = hp h1 o (aJ v 1 (vp_updL fo 0 y.toInt64))) noX := by
  refine Cal.ofJH (by decide +kernel) rfl (Nat.le_of_ble_eq_true rfl) fun hz0 => ?_
  refine r_ls [some (.ref x), some (.int w1), some (.int w2), some (.int w3), some (.ref o), none] rfl ?_
  refine r_aload (pc := 0) (i := 4) (tL_transition.at 0 rfl) rfl ?_
  refine r_iconst (pc := 2) (w := nI 0) (tL_transition.at 1 rfl) (by decide) ?_
  refine r_aload_n (pc := 3) (i := 0) (tL_transition.at 2 rfl) rfl rfl ?_
  refine r_iload_n (pc := 4) (i := 1) (tL_transition.at 3 rfl) rfl rfl ?_
  refine r_iload_n (pc := 5) (i := 2) (tL_transition.at 4 rfl) rfl rfl ?_
  refine r_iload_n (pc := 6) (i := 3) (tL_transition.at 5 rfl) rfl rfl ?_
  refine r_callVC (M' := mX10_transition) (pc := 7) (tL_transition.at 6 rfl) ml_L_27 rfl mw_X10_transition (fits_w (by decide)) hx rfl rfl hC rfl rfl (Nat.le_of_ble_eq_true rfl) (by show 0 + mc ≤ mc; omega) (by show 0 + ms ≤ ms; omega) ?_ (fun _ _ _ _ z => z.elim)
  rintro _ h1 top1 ⟨rfl, hq⟩
  obtain ⟨fo, hfo⟩ := ho _ _ hq
  first | refine r_i2lN (pc := 10) (tL_transition.at 7 rfl) (by omega) ?_ | refine r_i2l (pc := 10) (tL_transition.at 7 rfl) ?_
  refine r_last (pc := 11) (tL_transition.at 8 rfl) (hfo) (0) (rfl) (by omega) (Nat.le_of_ble_eq_true rfl) ?_
  refine r_goto (pc := 12) 19 (tL_transition.at 9 rfl) (by decide) ?_
  refine r_iconst (pc := 19) (w := nI 0) (tL_transition.at 13 rfl) (by decide) ?_
  refine r_iret (pc := 20) (tL_transition.at 14 rfl) rfl (by show 0 + mc ≤ mc; omega) (by show 0 + ms ≤ ms; omega) ?_
  exact ⟨rfl, h1, fo, hq, hfo, rfl⟩
theorem wE_transition_1 {w1 w2 w3 : Int32} (hx : h x = some (ob 10 fs)) (hC : Cal v mX10_transition d mc ms [.ref x, .int w1, .int w2, .int w3] h top fX (fun E h' top' => E = iobE ∧ Q h' top')) : Cal v mL_transition (d + 1) mc ms [.ref x, .int w1, .int w2, .int w3, .ref o] h top (fun r h' top' => r = some (.int (nI 1)) ∧ Q h' top') noX := by
  refine Cal.ofJH (by decide +kernel) rfl (Nat.le_of_ble_eq_true rfl) fun hz0 => ?_
  refine r_ls [some (.ref x), some (.int w1), some (.int w2), some (.int w3), some (.ref o), none] rfl ?_
  refine r_aload (pc := 0) (i := 4) (tL_transition.at 0 rfl) rfl ?_
  refine r_iconst (pc := 2) (w := nI 0) (tL_transition.at 1 rfl) (by decide) ?_
  refine r_aload_n (pc := 3) (i := 0) (tL_transition.at 2 rfl) rfl rfl ?_
  refine r_iload_n (pc := 4) (i := 1) (tL_transition.at 3 rfl) rfl rfl ?_
  refine r_iload_n (pc := 5) (i := 2) (tL_transition.at 4 rfl) rfl rfl ?_
  refine r_iload_n (pc := 6) (i := 3) (tL_transition.at 5 rfl) rfl rfl ?_
  refine r_callVC (M' := mX10_transition) (pc := 7) (tL_transition.at 6 rfl) ml_L_27 rfl mw_X10_transition (fits_w (by decide)) hx rfl rfl hC rfl rfl (Nat.le_of_ble_eq_true rfl) (by show 0 + mc ≤ mc; omega) (by show 0 + ms ≤ ms; omega) (fun _ _ _ z => z.elim) ?_
  rintro _ q h1 top1 ⟨rfl, hq⟩
  refine ⟨[], ⟨0, 12, 15, 19⟩, [], iobE, rfl, ?_, rfl, by decide, kl_L_19, ca_iob, ?_⟩
  · exact fun z hz => nomatch hz
  · refine r_ls [some (.ref x), some (.int w1), some (.int w2), some (.int w3), some (.ref o), none] rfl ?_
    refine r_astore (pc := 15) (i := 5) (tL_transition.at 10 rfl) (by decide) ?_
    refine r_iconst (pc := 17) (w := nI 1) (tL_transition.at 11 rfl) (by decide) ?_
    refine r_iret (pc := 18) (tL_transition.at 12 rfl) rfl (by show 0 + mc ≤ mc; omega) (by show 0 + ms ≤ ms; omega) ?_
    exact ⟨rfl, hq⟩
theorem wN_hittingTime {w1 w2 w3 : Int32} {y : Int64} (hx : h x = some (ob 10 fs)) (hC : Cal v mX10_hittingTime d mc ms [.ref x, .int w1, .int w2, .int w3] h top (fun r h' top' => r = some (.long y) ∧ Q h' top') noX) (ho : ∀ h' top', Q h' top' → ∃ fo, h' o = some (aJ v 1 fo)) : Cal v mL_hittingTime (d + 1) mc ms [.ref x, .int w1, .int w2, .int w3, .ref o] h top (fun r h' top' => r = some (.int (nI 0)) ∧ ∃ h1 fo, Q h1 top' ∧ h1 o = some (aJ v 1 fo) ∧ h' = hp h1 o (aJ v 1 (vp_updL fo 0 y))) noX := by
  refine Cal.ofJH (by decide +kernel) rfl (Nat.le_of_ble_eq_true rfl) fun hz0 => ?_
  refine r_ls [some (.ref x), some (.int w1), some (.int w2), some (.int w3), some (.ref o), none] rfl ?_
  refine r_aload (pc := 0) (i := 4) (tL_hittingTime.at 0 rfl) rfl ?_
  refine r_iconst (pc := 2) (w := nI 0) (tL_hittingTime.at 1 rfl) (by decide) ?_
  refine r_aload_n (pc := 3) (i := 0) (tL_hittingTime.at 2 rfl) rfl rfl ?_
  refine r_iload_n (pc := 4) (i := 1) (tL_hittingTime.at 3 rfl) rfl rfl ?_
  refine r_iload_n (pc := 5) (i := 2) (tL_hittingTime.at 4 rfl) rfl rfl ?_
  refine r_iload_n (pc := 6) (i := 3) (tL_hittingTime.at 5 rfl) rfl rfl ?_
  refine r_callVC (M' := mX10_hittingTime) (pc := 7) (tL_hittingTime.at 6 rfl) ml_L_31 rfl mw_X10_hittingTime (fits_w (by decide)) hx rfl rfl hC rfl rfl (Nat.le_of_ble_eq_true rfl) (by show 0 + mc ≤ mc; omega) (by show 0 + ms ≤ ms; omega) ?_ (fun _ _ _ _ z => z.elim)
  rintro _ h1 top1 ⟨rfl, hq⟩
  obtain ⟨fo, hfo⟩ := ho _ _ hq
  refine r_last (pc := 10) (tL_hittingTime.at 7 rfl) (hfo) (0) (rfl) (by omega) (Nat.le_of_ble_eq_true rfl) ?_
  refine r_goto (pc := 11) 22 (tL_hittingTime.at 8 rfl) (by decide) ?_
  refine r_iconst (pc := 22) (w := nI 0) (tL_hittingTime.at 15 rfl) (by decide) ?_
  refine r_iret (pc := 23) (tL_hittingTime.at 16 rfl) rfl (by show 0 + mc ≤ mc; omega) (by show 0 + ms ≤ ms; omega) ?_
  exact ⟨rfl, h1, fo, hq, hfo, rfl⟩
theorem wE_hittingTime_1 {w1 w2 w3 : Int32} (hx : h x = some (ob 10 fs)) (hC : Cal v mX10_hittingTime d mc ms [.ref x, .int w1, .int w2, .int w3] h top fX (fun E h' top' => E = iobE ∧ Q h' top')) : Cal v mL_hittingTime (d + 1) mc ms [.ref x, .int w1, .int w2, .int w3, .ref o] h top (fun r h' top' => r = some (.int (nI 1)) ∧ Q h' top') noX := by
  refine Cal.ofJH (by decide +kernel) rfl (Nat.le_of_ble_eq_true rfl) fun hz0 => ?_
  refine r_ls [some (.ref x), some (.int w1), some (.int w2), some (.int w3), some (.ref o), none] rfl ?_
  refine r_aload (pc := 0) (i := 4) (tL_hittingTime.at 0 rfl) rfl ?_
  refine r_iconst (pc := 2) (w := nI 0) (tL_hittingTime.at 1 rfl) (by decide) ?_
  refine r_aload_n (pc := 3) (i := 0) (tL_hittingTime.at 2 rfl) rfl rfl ?_
  refine r_iload_n (pc := 4) (i := 1) (tL_hittingTime.at 3 rfl) rfl rfl ?_
  refine r_iload_n (pc := 5) (i := 2) (tL_hittingTime.at 4 rfl) rfl rfl ?_
  refine r_iload_n (pc := 6) (i := 3) (tL_hittingTime.at 5 rfl) rfl rfl ?_
  refine r_callVC (M' := mX10_hittingTime) (pc := 7) (tL_hittingTime.at 6 rfl) ml_L_31 rfl mw_X10_hittingTime (fits_w (by decide)) hx rfl rfl hC rfl rfl (Nat.le_of_ble_eq_true rfl) (by show 0 + mc ≤ mc; omega) (by show 0 + ms ≤ ms; omega) (fun _ _ _ z => z.elim) ?_
  rintro _ q h1 top1 ⟨rfl, hq⟩
  refine ⟨[], ⟨0, 11, 14, 19⟩, [⟨0, 11, 18, 35⟩], iobE, rfl, ?_, rfl, by decide, kl_L_19, ca_iob, ?_⟩
  · exact fun z hz => nomatch hz
  · refine r_ls [some (.ref x), some (.int w1), some (.int w2), some (.int w3), some (.ref o), none] rfl ?_
    refine r_astore (pc := 14) (i := 5) (tL_hittingTime.at 9 rfl) (by decide) ?_
    refine r_iconst (pc := 16) (w := nI 1) (tL_hittingTime.at 10 rfl) (by decide) ?_
    refine r_iret (pc := 17) (tL_hittingTime.at 11 rfl) rfl (by show 0 + mc ≤ mc; omega) (by show 0 + ms ≤ ms; omega) ?_
    exact ⟨rfl, hq⟩
theorem wE_hittingTime_2 {w1 w2 w3 : Int32} (hx : h x = some (ob 10 fs)) (hC : Cal v mX10_hittingTime d mc ms [.ref x, .int w1, .int w2, .int w3] h top fX (fun E h' top' => E = isE' ∧ Q h' top')) : Cal v mL_hittingTime (d + 1) mc ms [.ref x, .int w1, .int w2, .int w3, .ref o] h top (fun r h' top' => r = some (.int (nI 2)) ∧ Q h' top') noX := by
  refine Cal.ofJH (by decide +kernel) rfl (Nat.le_of_ble_eq_true rfl) fun hz0 => ?_
  refine r_ls [some (.ref x), some (.int w1), some (.int w2), some (.int w3), some (.ref o), none] rfl ?_
  refine r_aload (pc := 0) (i := 4) (tL_hittingTime.at 0 rfl) rfl ?_
  refine r_iconst (pc := 2) (w := nI 0) (tL_hittingTime.at 1 rfl) (by decide) ?_
  refine r_aload_n (pc := 3) (i := 0) (tL_hittingTime.at 2 rfl) rfl rfl ?_
  refine r_iload_n (pc := 4) (i := 1) (tL_hittingTime.at 3 rfl) rfl rfl ?_
  refine r_iload_n (pc := 5) (i := 2) (tL_hittingTime.at 4 rfl) rfl rfl ?_
  refine r_iload_n (pc := 6) (i := 3) (tL_hittingTime.at 5 rfl) rfl rfl ?_
  refine r_callVC (M' := mX10_hittingTime) (pc := 7) (tL_hittingTime.at 6 rfl) ml_L_31 rfl mw_X10_hittingTime (fits_w (by decide)) hx rfl rfl hC rfl rfl (Nat.le_of_ble_eq_true rfl) (by show 0 + mc ≤ mc; omega) (by show 0 + ms ≤ ms; omega) (fun _ _ _ z => z.elim) ?_
  rintro _ q h1 top1 ⟨rfl, hq⟩
  refine ⟨[⟨0, 11, 14, 19⟩], ⟨0, 11, 18, 35⟩, [], isE', rfl, ?_, rfl, by decide, kl_L_35, ca_is, ?_⟩
  · intro z hz
    have hz2 : z = ⟨0, 11, 14, 19⟩ := by simpa using hz
    rcases hz2 with rfl
    · exact Or.inr ⟨by decide, iobE, kl_L_19, ex_ne.2.2.1, ex_ne.1, ex_ne.2.2.2.2.1.symm⟩
  · refine r_ls [some (.ref x), some (.int w1), some (.int w2), some (.int w3), some (.ref o), none] rfl ?_
    refine r_astore (pc := 18) (i := 5) (tL_hittingTime.at 12 rfl) (by decide) ?_
    refine r_iconst (pc := 20) (w := nI 2) (tL_hittingTime.at 13 rfl) (by decide) ?_
    refine r_iret (pc := 21) (tL_hittingTime.at 14 rfl) rfl (by show 0 + mc ≤ mc; omega) (by show 0 + ms ≤ ms; omega) ?_
    exact ⟨rfl, hq⟩
theorem wN_hittingCost {w1 w2 w3 : Int32} {y : Int64} (hx : h x = some (ob 10 fs)) (hC : Cal v mX10_hittingCost d mc ms [.ref x, .int w1, .int w2, .int w3] h top (fun r h' top' => r = some (.long y) ∧ Q h' top') noX) (ho : ∀ h' top', Q h' top' → ∃ fo, h' o = some (aJ v 1 fo)) : Cal v mL_hittingCost (d + 1) mc ms [.ref x, .int w1, .int w2, .int w3, .ref o] h top (fun r h' top' => r = some (.int (nI 0)) ∧ ∃ h1 fo, Q h1 top' ∧ h1 o = some (aJ v 1 fo) ∧ h' = hp h1 o (aJ v 1 (vp_updL fo 0 y))) noX := by
  refine Cal.ofJH (by decide +kernel) rfl (Nat.le_of_ble_eq_true rfl) fun hz0 => ?_
  refine r_ls [some (.ref x), some (.int w1), some (.int w2), some (.int w3), some (.ref o), none] rfl ?_
  refine r_aload (pc := 0) (i := 4) (tL_hittingCost.at 0 rfl) rfl ?_
  refine r_iconst (pc := 2) (w := nI 0) (tL_hittingCost.at 1 rfl) (by decide) ?_
  refine r_aload_n (pc := 3) (i := 0) (tL_hittingCost.at 2 rfl) rfl rfl ?_
  refine r_iload_n (pc := 4) (i := 1) (tL_hittingCost.at 3 rfl) rfl rfl ?_
  refine r_iload_n (pc := 5) (i := 2) (tL_hittingCost.at 4 rfl) rfl rfl ?_
  refine r_iload_n (pc := 6) (i := 3) (tL_hittingCost.at 5 rfl) rfl rfl ?_
  refine r_callVC (M' := mX10_hittingCost) (pc := 7) (tL_hittingCost.at 6 rfl) ml_L_37 rfl mw_X10_hittingCost (fits_w (by decide)) hx rfl rfl hC rfl rfl (Nat.le_of_ble_eq_true rfl) (by show 0 + mc ≤ mc; omega) (by show 0 + ms ≤ ms; omega) ?_ (fun _ _ _ _ z => z.elim)
  rintro _ h1 top1 ⟨rfl, hq⟩
  obtain ⟨fo, hfo⟩ := ho _ _ hq
  refine r_last (pc := 10) (tL_hittingCost.at 7 rfl) (hfo) (0) (rfl) (by omega) (Nat.le_of_ble_eq_true rfl) ?_
  refine r_goto (pc := 11) 22 (tL_hittingCost.at 8 rfl) (by decide) ?_
  refine r_iconst (pc := 22) (w := nI 0) (tL_hittingCost.at 15 rfl) (by decide) ?_
  refine r_iret (pc := 23) (tL_hittingCost.at 16 rfl) rfl (by show 0 + mc ≤ mc; omega) (by show 0 + ms ≤ ms; omega) ?_
  exact ⟨rfl, h1, fo, hq, hfo, rfl⟩
theorem wE_hittingCost_1 {w1 w2 w3 : Int32} (hx : h x = some (ob 10 fs)) (hC : Cal v mX10_hittingCost d mc ms [.ref x, .int w1, .int w2, .int w3] h top fX (fun E h' top' => E = iobE ∧ Q h' top')) : Cal v mL_hittingCost (d + 1) mc ms [.ref x, .int w1, .int w2, .int w3, .ref o] h top (fun r h' top' => r = some (.int (nI 1)) ∧ Q h' top') noX := by
  refine Cal.ofJH (by decide +kernel) rfl (Nat.le_of_ble_eq_true rfl) fun hz0 => ?_
  refine r_ls [some (.ref x), some (.int w1), some (.int w2), some (.int w3), some (.ref o), none] rfl ?_
  refine r_aload (pc := 0) (i := 4) (tL_hittingCost.at 0 rfl) rfl ?_
  refine r_iconst (pc := 2) (w := nI 0) (tL_hittingCost.at 1 rfl) (by decide) ?_
  refine r_aload_n (pc := 3) (i := 0) (tL_hittingCost.at 2 rfl) rfl rfl ?_
  refine r_iload_n (pc := 4) (i := 1) (tL_hittingCost.at 3 rfl) rfl rfl ?_
  refine r_iload_n (pc := 5) (i := 2) (tL_hittingCost.at 4 rfl) rfl rfl ?_
  refine r_iload_n (pc := 6) (i := 3) (tL_hittingCost.at 5 rfl) rfl rfl ?_
  refine r_callVC (M' := mX10_hittingCost) (pc := 7) (tL_hittingCost.at 6 rfl) ml_L_37 rfl mw_X10_hittingCost (fits_w (by decide)) hx rfl rfl hC rfl rfl (Nat.le_of_ble_eq_true rfl) (by show 0 + mc ≤ mc; omega) (by show 0 + ms ≤ ms; omega) (fun _ _ _ z => z.elim) ?_
  rintro _ q h1 top1 ⟨rfl, hq⟩
  refine ⟨[], ⟨0, 11, 14, 19⟩, [⟨0, 11, 18, 35⟩], iobE, rfl, ?_, rfl, by decide, kl_L_19, ca_iob, ?_⟩
  · exact fun z hz => nomatch hz
  · refine r_ls [some (.ref x), some (.int w1), some (.int w2), some (.int w3), some (.ref o), none] rfl ?_
    refine r_astore (pc := 14) (i := 5) (tL_hittingCost.at 9 rfl) (by decide) ?_
    refine r_iconst (pc := 16) (w := nI 1) (tL_hittingCost.at 10 rfl) (by decide) ?_
    refine r_iret (pc := 17) (tL_hittingCost.at 11 rfl) rfl (by show 0 + mc ≤ mc; omega) (by show 0 + ms ≤ ms; omega) ?_
    exact ⟨rfl, hq⟩
theorem wE_hittingCost_2 {w1 w2 w3 : Int32} (hx : h x = some (ob 10 fs)) (hC : Cal v mX10_hittingCost d mc ms [.ref x, .int w1, .int w2, .int w3] h top fX (fun E h' top' => E = isE' ∧ Q h' top')) : Cal v mL_hittingCost (d + 1) mc ms [.ref x, .int w1, .int w2, .int w3, .ref o] h top (fun r h' top' => r = some (.int (nI 2)) ∧ Q h' top') noX := by
  refine Cal.ofJH (by decide +kernel) rfl (Nat.le_of_ble_eq_true rfl) fun hz0 => ?_
  refine r_ls [some (.ref x), some (.int w1), some (.int w2), some (.int w3), some (.ref o), none] rfl ?_
  refine r_aload (pc := 0) (i := 4) (tL_hittingCost.at 0 rfl) rfl ?_
  refine r_iconst (pc := 2) (w := nI 0) (tL_hittingCost.at 1 rfl) (by decide) ?_
  refine r_aload_n (pc := 3) (i := 0) (tL_hittingCost.at 2 rfl) rfl rfl ?_
  refine r_iload_n (pc := 4) (i := 1) (tL_hittingCost.at 3 rfl) rfl rfl ?_
  refine r_iload_n (pc := 5) (i := 2) (tL_hittingCost.at 4 rfl) rfl rfl ?_
  refine r_iload_n (pc := 6) (i := 3) (tL_hittingCost.at 5 rfl) rfl rfl ?_
  refine r_callVC (M' := mX10_hittingCost) (pc := 7) (tL_hittingCost.at 6 rfl) ml_L_37 rfl mw_X10_hittingCost (fits_w (by decide)) hx rfl rfl hC rfl rfl (Nat.le_of_ble_eq_true rfl) (by show 0 + mc ≤ mc; omega) (by show 0 + ms ≤ ms; omega) (fun _ _ _ z => z.elim) ?_
  rintro _ q h1 top1 ⟨rfl, hq⟩
  refine ⟨[⟨0, 11, 14, 19⟩], ⟨0, 11, 18, 35⟩, [], isE', rfl, ?_, rfl, by decide, kl_L_35, ca_is, ?_⟩
  · intro z hz
    have hz2 : z = ⟨0, 11, 14, 19⟩ := by simpa using hz
    rcases hz2 with rfl
    · exact Or.inr ⟨by decide, iobE, kl_L_19, ex_ne.2.2.1, ex_ne.1, ex_ne.2.2.2.2.1.symm⟩
  · refine r_ls [some (.ref x), some (.int w1), some (.int w2), some (.int w3), some (.ref o), none] rfl ?_
    refine r_astore (pc := 18) (i := 5) (tL_hittingCost.at 12 rfl) (by decide) ?_
    refine r_iconst (pc := 20) (w := nI 2) (tL_hittingCost.at 13 rfl) (by decide) ?_
    refine r_iret (pc := 21) (tL_hittingCost.at 14 rfl) rfl (by show 0 + mc ≤ mc; omega) (by show 0 + ms ≤ ms; omega) ?_
    exact ⟨rfl, hq⟩
theorem wN_commuteTime {w1 w2 w3 : Int32} {y : Int64} (hx : h x = some (ob 10 fs)) (hC : Cal v mX10_commuteTime d mc ms [.ref x, .int w1, .int w2, .int w3] h top (fun r h' top' => r = some (.long y) ∧ Q h' top') noX) (ho : ∀ h' top', Q h' top' → ∃ fo, h' o = some (aJ v 1 fo)) : Cal v mL_commuteTime (d + 1) mc ms [.ref x, .int w1, .int w2, .int w3, .ref o] h top (fun r h' top' => r = some (.int (nI 0)) ∧ ∃ h1 fo, Q h1 top' ∧ h1 o = some (aJ v 1 fo) ∧ h' = hp h1 o (aJ v 1 (vp_updL fo 0 y))) noX := by
  refine Cal.ofJH (by decide +kernel) rfl (Nat.le_of_ble_eq_true rfl) fun hz0 => ?_
  refine r_ls [some (.ref x), some (.int w1), some (.int w2), some (.int w3), some (.ref o), none] rfl ?_
  refine r_aload (pc := 0) (i := 4) (tL_commuteTime.at 0 rfl) rfl ?_
  refine r_iconst (pc := 2) (w := nI 0) (tL_commuteTime.at 1 rfl) (by decide) ?_
  refine r_aload_n (pc := 3) (i := 0) (tL_commuteTime.at 2 rfl) rfl rfl ?_
  refine r_iload_n (pc := 4) (i := 1) (tL_commuteTime.at 3 rfl) rfl rfl ?_
  refine r_iload_n (pc := 5) (i := 2) (tL_commuteTime.at 4 rfl) rfl rfl ?_
  refine r_iload_n (pc := 6) (i := 3) (tL_commuteTime.at 5 rfl) rfl rfl ?_
  refine r_callVC (M' := mX10_commuteTime) (pc := 7) (tL_commuteTime.at 6 rfl) ml_L_40 rfl mw_X10_commuteTime (fits_w (by decide)) hx rfl rfl hC rfl rfl (Nat.le_of_ble_eq_true rfl) (by show 0 + mc ≤ mc; omega) (by show 0 + ms ≤ ms; omega) ?_ (fun _ _ _ _ z => z.elim)
  rintro _ h1 top1 ⟨rfl, hq⟩
  obtain ⟨fo, hfo⟩ := ho _ _ hq
  refine r_last (pc := 10) (tL_commuteTime.at 7 rfl) (hfo) (0) (rfl) (by omega) (Nat.le_of_ble_eq_true rfl) ?_
  refine r_goto (pc := 11) 22 (tL_commuteTime.at 8 rfl) (by decide) ?_
  refine r_iconst (pc := 22) (w := nI 0) (tL_commuteTime.at 15 rfl) (by decide) ?_
  refine r_iret (pc := 23) (tL_commuteTime.at 16 rfl) rfl (by show 0 + mc ≤ mc; omega) (by show 0 + ms ≤ ms; omega) ?_
  exact ⟨rfl, h1, fo, hq, hfo, rfl⟩
theorem wE_commuteTime_1 {w1 w2 w3 : Int32} (hx : h x = some (ob 10 fs)) (hC : Cal v mX10_commuteTime d mc ms [.ref x, .int w1, .int w2, .int w3] h top fX (fun E h' top' => E = iobE ∧ Q h' top')) : Cal v mL_commuteTime (d + 1) mc ms [.ref x, .int w1, .int w2, .int w3, .ref o] h top (fun r h' top' => r = some (.int (nI 1)) ∧ Q h' top') noX := by
  refine Cal.ofJH (by decide +kernel) rfl (Nat.le_of_ble_eq_true rfl) fun hz0 => ?_
  refine r_ls [some (.ref x), some (.int w1), some (.int w2), some (.int w3), some (.ref o), none] rfl ?_
  refine r_aload (pc := 0) (i := 4) (tL_commuteTime.at 0 rfl) rfl ?_
  refine r_iconst (pc := 2) (w := nI 0) (tL_commuteTime.at 1 rfl) (by decide) ?_
  refine r_aload_n (pc := 3) (i := 0) (tL_commuteTime.at 2 rfl) rfl rfl ?_
  refine r_iload_n (pc := 4) (i := 1) (tL_commuteTime.at 3 rfl) rfl rfl ?_
  refine r_iload_n (pc := 5) (i := 2) (tL_commuteTime.at 4 rfl) rfl rfl ?_
  refine r_iload_n (pc := 6) (i := 3) (tL_commuteTime.at 5 rfl) rfl rfl ?_
  refine r_callVC (M' := mX10_commuteTime) (pc := 7) (tL_commuteTime.at 6 rfl) ml_L_40 rfl mw_X10_commuteTime (fits_w (by decide)) hx rfl rfl hC rfl rfl (Nat.le_of_ble_eq_true rfl) (by show 0 + mc ≤ mc; omega) (by show 0 + ms ≤ ms; omega) (fun _ _ _ z => z.elim) ?_
  rintro _ q h1 top1 ⟨rfl, hq⟩
  refine ⟨[], ⟨0, 11, 14, 19⟩, [⟨0, 11, 18, 35⟩], iobE, rfl, ?_, rfl, by decide, kl_L_19, ca_iob, ?_⟩
  · exact fun z hz => nomatch hz
  · refine r_ls [some (.ref x), some (.int w1), some (.int w2), some (.int w3), some (.ref o), none] rfl ?_
    refine r_astore (pc := 14) (i := 5) (tL_commuteTime.at 9 rfl) (by decide) ?_
    refine r_iconst (pc := 16) (w := nI 1) (tL_commuteTime.at 10 rfl) (by decide) ?_
    refine r_iret (pc := 17) (tL_commuteTime.at 11 rfl) rfl (by show 0 + mc ≤ mc; omega) (by show 0 + ms ≤ ms; omega) ?_
    exact ⟨rfl, hq⟩
theorem wE_commuteTime_2 {w1 w2 w3 : Int32} (hx : h x = some (ob 10 fs)) (hC : Cal v mX10_commuteTime d mc ms [.ref x, .int w1, .int w2, .int w3] h top fX (fun E h' top' => E = isE' ∧ Q h' top')) : Cal v mL_commuteTime (d + 1) mc ms [.ref x, .int w1, .int w2, .int w3, .ref o] h top (fun r h' top' => r = some (.int (nI 2)) ∧ Q h' top') noX := by
  refine Cal.ofJH (by decide +kernel) rfl (Nat.le_of_ble_eq_true rfl) fun hz0 => ?_
  refine r_ls [some (.ref x), some (.int w1), some (.int w2), some (.int w3), some (.ref o), none] rfl ?_
  refine r_aload (pc := 0) (i := 4) (tL_commuteTime.at 0 rfl) rfl ?_
  refine r_iconst (pc := 2) (w := nI 0) (tL_commuteTime.at 1 rfl) (by decide) ?_
  refine r_aload_n (pc := 3) (i := 0) (tL_commuteTime.at 2 rfl) rfl rfl ?_
  refine r_iload_n (pc := 4) (i := 1) (tL_commuteTime.at 3 rfl) rfl rfl ?_
  refine r_iload_n (pc := 5) (i := 2) (tL_commuteTime.at 4 rfl) rfl rfl ?_
  refine r_iload_n (pc := 6) (i := 3) (tL_commuteTime.at 5 rfl) rfl rfl ?_
  refine r_callVC (M' := mX10_commuteTime) (pc := 7) (tL_commuteTime.at 6 rfl) ml_L_40 rfl mw_X10_commuteTime (fits_w (by decide)) hx rfl rfl hC rfl rfl (Nat.le_of_ble_eq_true rfl) (by show 0 + mc ≤ mc; omega) (by show 0 + ms ≤ ms; omega) (fun _ _ _ z => z.elim) ?_
  rintro _ q h1 top1 ⟨rfl, hq⟩
  refine ⟨[⟨0, 11, 14, 19⟩], ⟨0, 11, 18, 35⟩, [], isE', rfl, ?_, rfl, by decide, kl_L_35, ca_is, ?_⟩
  · intro z hz
    have hz2 : z = ⟨0, 11, 14, 19⟩ := by simpa using hz
    rcases hz2 with rfl
    · exact Or.inr ⟨by decide, iobE, kl_L_19, ex_ne.2.2.1, ex_ne.1, ex_ne.2.2.2.2.1.symm⟩
  · refine r_ls [some (.ref x), some (.int w1), some (.int w2), some (.int w3), some (.ref o), none] rfl ?_
    refine r_astore (pc := 18) (i := 5) (tL_commuteTime.at 12 rfl) (by decide) ?_
    refine r_iconst (pc := 20) (w := nI 2) (tL_commuteTime.at 13 rfl) (by decide) ?_
    refine r_iret (pc := 21) (tL_commuteTime.at 14 rfl) rfl (by show 0 + mc ≤ mc; omega) (by show 0 + ms ≤ ms; omega) ?_
    exact ⟨rfl, hq⟩
theorem wN_resistance {w1 w2 w3 : Int32} {y : Int64} (hx : h x = some (ob 10 fs)) (hC : Cal v mX10_resistance d mc ms [.ref x, .int w1, .int w2, .int w3] h top (fun r h' top' => r = some (.long y) ∧ Q h' top') noX) (ho : ∀ h' top', Q h' top' → ∃ fo, h' o = some (aJ v 1 fo)) : Cal v mL_resistance (d + 1) mc ms [.ref x, .int w1, .int w2, .int w3, .ref o] h top (fun r h' top' => r = some (.int (nI 0)) ∧ ∃ h1 fo, Q h1 top' ∧ h1 o = some (aJ v 1 fo) ∧ h' = hp h1 o (aJ v 1 (vp_updL fo 0 y))) noX := by
  refine Cal.ofJH (by decide +kernel) rfl (Nat.le_of_ble_eq_true rfl) fun hz0 => ?_
  refine r_ls [some (.ref x), some (.int w1), some (.int w2), some (.int w3), some (.ref o), none] rfl ?_
  refine r_aload (pc := 0) (i := 4) (tL_resistance.at 0 rfl) rfl ?_
  refine r_iconst (pc := 2) (w := nI 0) (tL_resistance.at 1 rfl) (by decide) ?_
  refine r_aload_n (pc := 3) (i := 0) (tL_resistance.at 2 rfl) rfl rfl ?_
  refine r_iload_n (pc := 4) (i := 1) (tL_resistance.at 3 rfl) rfl rfl ?_
  refine r_iload_n (pc := 5) (i := 2) (tL_resistance.at 4 rfl) rfl rfl ?_
  refine r_iload_n (pc := 6) (i := 3) (tL_resistance.at 5 rfl) rfl rfl ?_
  refine r_callVC (M' := mX10_resistance) (pc := 7) (tL_resistance.at 6 rfl) ml_L_43 rfl mw_X10_resistance (fits_w (by decide)) hx rfl rfl hC rfl rfl (Nat.le_of_ble_eq_true rfl) (by show 0 + mc ≤ mc; omega) (by show 0 + ms ≤ ms; omega) ?_ (fun _ _ _ _ z => z.elim)
  rintro _ h1 top1 ⟨rfl, hq⟩
  obtain ⟨fo, hfo⟩ := ho _ _ hq
  refine r_last (pc := 10) (tL_resistance.at 7 rfl) (hfo) (0) (rfl) (by omega) (Nat.le_of_ble_eq_true rfl) ?_
  refine r_goto (pc := 11) 22 (tL_resistance.at 8 rfl) (by decide) ?_
  refine r_iconst (pc := 22) (w := nI 0) (tL_resistance.at 15 rfl) (by decide) ?_
  refine r_iret (pc := 23) (tL_resistance.at 16 rfl) rfl (by show 0 + mc ≤ mc; omega) (by show 0 + ms ≤ ms; omega) ?_
  exact ⟨rfl, h1, fo, hq, hfo, rfl⟩
theorem wE_resistance_1 {w1 w2 w3 : Int32} (hx : h x = some (ob 10 fs)) (hC : Cal v mX10_resistance d mc ms [.ref x, .int w1, .int w2, .int w3] h top fX (fun E h' top' => E = iobE ∧ Q h' top')) : Cal v mL_resistance (d + 1) mc ms [.ref x, .int w1, .int w2, .int w3, .ref o] h top (fun r h' top' => r = some (.int (nI 1)) ∧ Q h' top') noX := by
  refine Cal.ofJH (by decide +kernel) rfl (Nat.le_of_ble_eq_true rfl) fun hz0 => ?_
  refine r_ls [some (.ref x), some (.int w1), some (.int w2), some (.int w3), some (.ref o), none] rfl ?_
  refine r_aload (pc := 0) (i := 4) (tL_resistance.at 0 rfl) rfl ?_
  refine r_iconst (pc := 2) (w := nI 0) (tL_resistance.at 1 rfl) (by decide) ?_
  refine r_aload_n (pc := 3) (i := 0) (tL_resistance.at 2 rfl) rfl rfl ?_
  refine r_iload_n (pc := 4) (i := 1) (tL_resistance.at 3 rfl) rfl rfl ?_
  refine r_iload_n (pc := 5) (i := 2) (tL_resistance.at 4 rfl) rfl rfl ?_
  refine r_iload_n (pc := 6) (i := 3) (tL_resistance.at 5 rfl) rfl rfl ?_
  refine r_callVC (M' := mX10_resistance) (pc := 7) (tL_resistance.at 6 rfl) ml_L_43 rfl mw_X10_resistance (fits_w (by decide)) hx rfl rfl hC rfl rfl (Nat.le_of_ble_eq_true rfl) (by show 0 + mc ≤ mc; omega) (by show 0 + ms ≤ ms; omega) (fun _ _ _ z => z.elim) ?_
  rintro _ q h1 top1 ⟨rfl, hq⟩
  refine ⟨[], ⟨0, 11, 14, 19⟩, [⟨0, 11, 18, 35⟩], iobE, rfl, ?_, rfl, by decide, kl_L_19, ca_iob, ?_⟩
  · exact fun z hz => nomatch hz
  · refine r_ls [some (.ref x), some (.int w1), some (.int w2), some (.int w3), some (.ref o), none] rfl ?_
    refine r_astore (pc := 14) (i := 5) (tL_resistance.at 9 rfl) (by decide) ?_
    refine r_iconst (pc := 16) (w := nI 1) (tL_resistance.at 10 rfl) (by decide) ?_
    refine r_iret (pc := 17) (tL_resistance.at 11 rfl) rfl (by show 0 + mc ≤ mc; omega) (by show 0 + ms ≤ ms; omega) ?_
    exact ⟨rfl, hq⟩
theorem wE_resistance_2 {w1 w2 w3 : Int32} (hx : h x = some (ob 10 fs)) (hC : Cal v mX10_resistance d mc ms [.ref x, .int w1, .int w2, .int w3] h top fX (fun E h' top' => E = isE' ∧ Q h' top')) : Cal v mL_resistance (d + 1) mc ms [.ref x, .int w1, .int w2, .int w3, .ref o] h top (fun r h' top' => r = some (.int (nI 2)) ∧ Q h' top') noX := by
  refine Cal.ofJH (by decide +kernel) rfl (Nat.le_of_ble_eq_true rfl) fun hz0 => ?_
  refine r_ls [some (.ref x), some (.int w1), some (.int w2), some (.int w3), some (.ref o), none] rfl ?_
  refine r_aload (pc := 0) (i := 4) (tL_resistance.at 0 rfl) rfl ?_
  refine r_iconst (pc := 2) (w := nI 0) (tL_resistance.at 1 rfl) (by decide) ?_
  refine r_aload_n (pc := 3) (i := 0) (tL_resistance.at 2 rfl) rfl rfl ?_
  refine r_iload_n (pc := 4) (i := 1) (tL_resistance.at 3 rfl) rfl rfl ?_
  refine r_iload_n (pc := 5) (i := 2) (tL_resistance.at 4 rfl) rfl rfl ?_
  refine r_iload_n (pc := 6) (i := 3) (tL_resistance.at 5 rfl) rfl rfl ?_
  refine r_callVC (M' := mX10_resistance) (pc := 7) (tL_resistance.at 6 rfl) ml_L_43 rfl mw_X10_resistance (fits_w (by decide)) hx rfl rfl hC rfl rfl (Nat.le_of_ble_eq_true rfl) (by show 0 + mc ≤ mc; omega) (by show 0 + ms ≤ ms; omega) (fun _ _ _ z => z.elim) ?_
  rintro _ q h1 top1 ⟨rfl, hq⟩
  refine ⟨[⟨0, 11, 14, 19⟩], ⟨0, 11, 18, 35⟩, [], isE', rfl, ?_, rfl, by decide, kl_L_35, ca_is, ?_⟩
  · intro z hz
    have hz2 : z = ⟨0, 11, 14, 19⟩ := by simpa using hz
    rcases hz2 with rfl
    · exact Or.inr ⟨by decide, iobE, kl_L_19, ex_ne.2.2.1, ex_ne.1, ex_ne.2.2.2.2.1.symm⟩
  · refine r_ls [some (.ref x), some (.int w1), some (.int w2), some (.int w3), some (.ref o), none] rfl ?_
    refine r_astore (pc := 18) (i := 5) (tL_resistance.at 12 rfl) (by decide) ?_
    refine r_iconst (pc := 20) (w := nI 2) (tL_resistance.at 13 rfl) (by decide) ?_
    refine r_iret (pc := 21) (tL_resistance.at 14 rfl) rfl (by show 0 + mc ≤ mc; omega) (by show 0 + ms ≤ ms; omega) ?_
    exact ⟨rfl, hq⟩
theorem wN_absorption {w1 w2 w3 : Int32} {y : Int64} (hx : h x = some (ob 10 fs)) (hC : Cal v mX10_absorption d mc ms [.ref x, .int w1, .int w2, .int w3] h top (fun r h' top' => r = some (.long y) ∧ Q h' top') noX) (ho : ∀ h' top', Q h' top' → ∃ fo, h' o = some (aJ v 1 fo)) : Cal v mL_absorption (d + 1) mc ms [.ref x, .int w1, .int w2, .int w3, .ref o] h top (fun r h' top' => r = some (.int (nI 0)) ∧ ∃ h1 fo, Q h1 top' ∧ h1 o = some (aJ v 1 fo) ∧ h' = hp h1 o (aJ v 1 (vp_updL fo 0 y))) noX := by
  refine Cal.ofJH (by decide +kernel) rfl (Nat.le_of_ble_eq_true rfl) fun hz0 => ?_
  refine r_ls [some (.ref x), some (.int w1), some (.int w2), some (.int w3), some (.ref o), none] rfl ?_
  refine r_aload (pc := 0) (i := 4) (tL_absorption.at 0 rfl) rfl ?_
  refine r_iconst (pc := 2) (w := nI 0) (tL_absorption.at 1 rfl) (by decide) ?_
  refine r_aload_n (pc := 3) (i := 0) (tL_absorption.at 2 rfl) rfl rfl ?_
  refine r_iload_n (pc := 4) (i := 1) (tL_absorption.at 3 rfl) rfl rfl ?_
  refine r_iload_n (pc := 5) (i := 2) (tL_absorption.at 4 rfl) rfl rfl ?_
  refine r_iload_n (pc := 6) (i := 3) (tL_absorption.at 5 rfl) rfl rfl ?_
  refine r_callVC (M' := mX10_absorption) (pc := 7) (tL_absorption.at 6 rfl) ml_L_46 rfl mw_X10_absorption (fits_w (by decide)) hx rfl rfl hC rfl rfl (Nat.le_of_ble_eq_true rfl) (by show 0 + mc ≤ mc; omega) (by show 0 + ms ≤ ms; omega) ?_ (fun _ _ _ _ z => z.elim)
  rintro _ h1 top1 ⟨rfl, hq⟩
  obtain ⟨fo, hfo⟩ := ho _ _ hq
  refine r_last (pc := 10) (tL_absorption.at 7 rfl) (hfo) (0) (rfl) (by omega) (Nat.le_of_ble_eq_true rfl) ?_
  refine r_goto (pc := 11) 26 (tL_absorption.at 8 rfl) (by decide) ?_
  refine r_iconst (pc := 26) (w := nI 0) (tL_absorption.at 18 rfl) (by decide) ?_
  refine r_iret (pc := 27) (tL_absorption.at 19 rfl) rfl (by show 0 + mc ≤ mc; omega) (by show 0 + ms ≤ ms; omega) ?_
  exact ⟨rfl, h1, fo, hq, hfo, rfl⟩
theorem wE_absorption_1 {w1 w2 w3 : Int32} (hx : h x = some (ob 10 fs)) (hC : Cal v mX10_absorption d mc ms [.ref x, .int w1, .int w2, .int w3] h top fX (fun E h' top' => E = iobE ∧ Q h' top')) : Cal v mL_absorption (d + 1) mc ms [.ref x, .int w1, .int w2, .int w3, .ref o] h top (fun r h' top' => r = some (.int (nI 1)) ∧ Q h' top') noX := by
  refine Cal.ofJH (by decide +kernel) rfl (Nat.le_of_ble_eq_true rfl) fun hz0 => ?_
  refine r_ls [some (.ref x), some (.int w1), some (.int w2), some (.int w3), some (.ref o), none] rfl ?_
  refine r_aload (pc := 0) (i := 4) (tL_absorption.at 0 rfl) rfl ?_
  refine r_iconst (pc := 2) (w := nI 0) (tL_absorption.at 1 rfl) (by decide) ?_
  refine r_aload_n (pc := 3) (i := 0) (tL_absorption.at 2 rfl) rfl rfl ?_
  refine r_iload_n (pc := 4) (i := 1) (tL_absorption.at 3 rfl) rfl rfl ?_
  refine r_iload_n (pc := 5) (i := 2) (tL_absorption.at 4 rfl) rfl rfl ?_
  refine r_iload_n (pc := 6) (i := 3) (tL_absorption.at 5 rfl) rfl rfl ?_
  refine r_callVC (M' := mX10_absorption) (pc := 7) (tL_absorption.at 6 rfl) ml_L_46 rfl mw_X10_absorption (fits_w (by decide)) hx rfl rfl hC rfl rfl (Nat.le_of_ble_eq_true rfl) (by show 0 + mc ≤ mc; omega) (by show 0 + ms ≤ ms; omega) (fun _ _ _ z => z.elim) ?_
  rintro _ q h1 top1 ⟨rfl, hq⟩
  refine ⟨[], ⟨0, 11, 14, 19⟩, [⟨0, 11, 18, 13⟩, ⟨0, 11, 22, 35⟩], iobE, rfl, ?_, rfl, by decide, kl_L_19, ca_iob, ?_⟩
  · exact fun z hz => nomatch hz
  · refine r_ls [some (.ref x), some (.int w1), some (.int w2), some (.int w3), some (.ref o), none] rfl ?_
    refine r_astore (pc := 14) (i := 5) (tL_absorption.at 9 rfl) (by decide) ?_
    refine r_iconst (pc := 16) (w := nI 1) (tL_absorption.at 10 rfl) (by decide) ?_
    refine r_iret (pc := 17) (tL_absorption.at 11 rfl) rfl (by show 0 + mc ≤ mc; omega) (by show 0 + ms ≤ ms; omega) ?_
    exact ⟨rfl, hq⟩
theorem wE_absorption_2 {w1 w2 w3 : Int32} (hx : h x = some (ob 10 fs)) (hC : Cal v mX10_absorption d mc ms [.ref x, .int w1, .int w2, .int w3] h top fX (fun E h' top' => E = iaE ∧ Q h' top')) : Cal v mL_absorption (d + 1) mc ms [.ref x, .int w1, .int w2, .int w3, .ref o] h top (fun r h' top' => r = some (.int (nI 2)) ∧ Q h' top') noX := by
  refine Cal.ofJH (by decide +kernel) rfl (Nat.le_of_ble_eq_true rfl) fun hz0 => ?_
  refine r_ls [some (.ref x), some (.int w1), some (.int w2), some (.int w3), some (.ref o), none] rfl ?_
  refine r_aload (pc := 0) (i := 4) (tL_absorption.at 0 rfl) rfl ?_
  refine r_iconst (pc := 2) (w := nI 0) (tL_absorption.at 1 rfl) (by decide) ?_
  refine r_aload_n (pc := 3) (i := 0) (tL_absorption.at 2 rfl) rfl rfl ?_
  refine r_iload_n (pc := 4) (i := 1) (tL_absorption.at 3 rfl) rfl rfl ?_
  refine r_iload_n (pc := 5) (i := 2) (tL_absorption.at 4 rfl) rfl rfl ?_
  refine r_iload_n (pc := 6) (i := 3) (tL_absorption.at 5 rfl) rfl rfl ?_
  refine r_callVC (M' := mX10_absorption) (pc := 7) (tL_absorption.at 6 rfl) ml_L_46 rfl mw_X10_absorption (fits_w (by decide)) hx rfl rfl hC rfl rfl (Nat.le_of_ble_eq_true rfl) (by show 0 + mc ≤ mc; omega) (by show 0 + ms ≤ ms; omega) (fun _ _ _ z => z.elim) ?_
  rintro _ q h1 top1 ⟨rfl, hq⟩
  refine ⟨[⟨0, 11, 14, 19⟩], ⟨0, 11, 18, 13⟩, [⟨0, 11, 22, 35⟩], iaE, rfl, ?_, rfl, by decide, kl_L_13, ca_ia, ?_⟩
  · intro z hz
    have hz2 : z = ⟨0, 11, 14, 19⟩ := by simpa using hz
    rcases hz2 with rfl
    · exact Or.inr ⟨by decide, iobE, kl_L_19, ex_ne.2.1, ex_ne.1, ex_ne.2.2.2.1.symm⟩
  · refine r_ls [some (.ref x), some (.int w1), some (.int w2), some (.int w3), some (.ref o), none] rfl ?_
    refine r_astore (pc := 18) (i := 5) (tL_absorption.at 12 rfl) (by decide) ?_
    refine r_iconst (pc := 20) (w := nI 2) (tL_absorption.at 13 rfl) (by decide) ?_
    refine r_iret (pc := 21) (tL_absorption.at 14 rfl) rfl (by show 0 + mc ≤ mc; omega) (by show 0 + ms ≤ ms; omega) ?_
    exact ⟨rfl, hq⟩
theorem wE_absorption_3 {w1 w2 w3 : Int32} (hx : h x = some (ob 10 fs)) (hC : Cal v mX10_absorption d mc ms [.ref x, .int w1, .int w2, .int w3] h top fX (fun E h' top' => E = isE' ∧ Q h' top')) : Cal v mL_absorption (d + 1) mc ms [.ref x, .int w1, .int w2, .int w3, .ref o] h top (fun r h' top' => r = some (.int (nI 3)) ∧ Q h' top') noX := by
  refine Cal.ofJH (by decide +kernel) rfl (Nat.le_of_ble_eq_true rfl) fun hz0 => ?_
  refine r_ls [some (.ref x), some (.int w1), some (.int w2), some (.int w3), some (.ref o), none] rfl ?_
  refine r_aload (pc := 0) (i := 4) (tL_absorption.at 0 rfl) rfl ?_
  refine r_iconst (pc := 2) (w := nI 0) (tL_absorption.at 1 rfl) (by decide) ?_
  refine r_aload_n (pc := 3) (i := 0) (tL_absorption.at 2 rfl) rfl rfl ?_
  refine r_iload_n (pc := 4) (i := 1) (tL_absorption.at 3 rfl) rfl rfl ?_
  refine r_iload_n (pc := 5) (i := 2) (tL_absorption.at 4 rfl) rfl rfl ?_
  refine r_iload_n (pc := 6) (i := 3) (tL_absorption.at 5 rfl) rfl rfl ?_
  refine r_callVC (M' := mX10_absorption) (pc := 7) (tL_absorption.at 6 rfl) ml_L_46 rfl mw_X10_absorption (fits_w (by decide)) hx rfl rfl hC rfl rfl (Nat.le_of_ble_eq_true rfl) (by show 0 + mc ≤ mc; omega) (by show 0 + ms ≤ ms; omega) (fun _ _ _ z => z.elim) ?_
  rintro _ q h1 top1 ⟨rfl, hq⟩
  refine ⟨[⟨0, 11, 14, 19⟩, ⟨0, 11, 18, 13⟩], ⟨0, 11, 22, 35⟩, [], isE', rfl, ?_, rfl, by decide, kl_L_35, ca_is, ?_⟩
  · intro z hz
    have hz2 : z = ⟨0, 11, 14, 19⟩ ∨ z = ⟨0, 11, 18, 13⟩ := by simpa using hz
    rcases hz2 with rfl | rfl
    · exact Or.inr ⟨by decide, iobE, kl_L_19, ex_ne.2.2.1, ex_ne.1, ex_ne.2.2.2.2.1.symm⟩
    · exact Or.inr ⟨by decide, iaE, kl_L_13, ex_ne.2.2.1, ex_ne.2.1, ex_ne.2.2.2.2.2.symm⟩
  · refine r_ls [some (.ref x), some (.int w1), some (.int w2), some (.int w3), some (.ref o), none] rfl ?_
    refine r_astore (pc := 22) (i := 5) (tL_absorption.at 15 rfl) (by decide) ?_
    refine r_iconst (pc := 24) (w := nI 3) (tL_absorption.at 16 rfl) (by decide) ?_
    refine r_iret (pc := 25) (tL_absorption.at 17 rfl) rfl (by show 0 + mc ≤ mc; omega) (by show 0 + ms ≤ ms; omega) ?_
    exact ⟨rfl, hq⟩
theorem wN_absorptionTime {w1 w2 : Int32} {y : Int64} (hx : h x = some (ob 10 fs)) (hC : Cal v mX10_absorptionTime d mc ms [.ref x, .int w1, .int w2] h top (fun r h' top' => r = some (.long y) ∧ Q h' top') noX) (ho : ∀ h' top', Q h' top' → ∃ fo, h' o = some (aJ v 1 fo)) : Cal v mL_absorptionTime (d + 1) mc ms [.ref x, .int w1, .int w2, .ref o] h top (fun r h' top' => r = some (.int (nI 0)) ∧ ∃ h1 fo, Q h1 top' ∧ h1 o = some (aJ v 1 fo) ∧ h' = hp h1 o (aJ v 1 (vp_updL fo 0 y))) noX := by
  refine Cal.ofJH (by decide +kernel) rfl (Nat.le_of_ble_eq_true rfl) fun hz0 => ?_
  refine r_ls [some (.ref x), some (.int w1), some (.int w2), some (.ref o), none] rfl ?_
  refine r_aload_n (pc := 0) (i := 3) (tL_absorptionTime.at 0 rfl) rfl rfl ?_
  refine r_iconst (pc := 1) (w := nI 0) (tL_absorptionTime.at 1 rfl) (by decide) ?_
  refine r_aload_n (pc := 2) (i := 0) (tL_absorptionTime.at 2 rfl) rfl rfl ?_
  refine r_iload_n (pc := 3) (i := 1) (tL_absorptionTime.at 3 rfl) rfl rfl ?_
  refine r_iload_n (pc := 4) (i := 2) (tL_absorptionTime.at 4 rfl) rfl rfl ?_
  refine r_callVC (M' := mX10_absorptionTime) (pc := 5) (tL_absorptionTime.at 5 rfl) ml_L_49 rfl mw_X10_absorptionTime (fits_w (by decide)) hx rfl rfl hC rfl rfl (Nat.le_of_ble_eq_true rfl) (by show 0 + mc ≤ mc; omega) (by show 0 + ms ≤ ms; omega) ?_ (fun _ _ _ _ z => z.elim)
  rintro _ h1 top1 ⟨rfl, hq⟩
  obtain ⟨fo, hfo⟩ := ho _ _ hq
  refine r_last (pc := 8) (tL_absorptionTime.at 6 rfl) (hfo) (0) (rfl) (by omega) (Nat.le_of_ble_eq_true rfl) ?_
  refine r_goto (pc := 9) 20 (tL_absorptionTime.at 7 rfl) (by decide) ?_
  refine r_iconst (pc := 20) (w := nI 0) (tL_absorptionTime.at 14 rfl) (by decide) ?_
  refine r_iret (pc := 21) (tL_absorptionTime.at 15 rfl) rfl (by show 0 + mc ≤ mc; omega) (by show 0 + ms ≤ ms; omega) ?_
  exact ⟨rfl, h1, fo, hq, hfo, rfl⟩
theorem wE_absorptionTime_1 {w1 w2 : Int32} (hx : h x = some (ob 10 fs)) (hC : Cal v mX10_absorptionTime d mc ms [.ref x, .int w1, .int w2] h top fX (fun E h' top' => E = iobE ∧ Q h' top')) : Cal v mL_absorptionTime (d + 1) mc ms [.ref x, .int w1, .int w2, .ref o] h top (fun r h' top' => r = some (.int (nI 1)) ∧ Q h' top') noX := by
  refine Cal.ofJH (by decide +kernel) rfl (Nat.le_of_ble_eq_true rfl) fun hz0 => ?_
  refine r_ls [some (.ref x), some (.int w1), some (.int w2), some (.ref o), none] rfl ?_
  refine r_aload_n (pc := 0) (i := 3) (tL_absorptionTime.at 0 rfl) rfl rfl ?_
  refine r_iconst (pc := 1) (w := nI 0) (tL_absorptionTime.at 1 rfl) (by decide) ?_
  refine r_aload_n (pc := 2) (i := 0) (tL_absorptionTime.at 2 rfl) rfl rfl ?_
  refine r_iload_n (pc := 3) (i := 1) (tL_absorptionTime.at 3 rfl) rfl rfl ?_
  refine r_iload_n (pc := 4) (i := 2) (tL_absorptionTime.at 4 rfl) rfl rfl ?_
  refine r_callVC (M' := mX10_absorptionTime) (pc := 5) (tL_absorptionTime.at 5 rfl) ml_L_49 rfl mw_X10_absorptionTime (fits_w (by decide)) hx rfl rfl hC rfl rfl (Nat.le_of_ble_eq_true rfl) (by show 0 + mc ≤ mc; omega) (by show 0 + ms ≤ ms; omega) (fun _ _ _ z => z.elim) ?_
  rintro _ q h1 top1 ⟨rfl, hq⟩
  refine ⟨[], ⟨0, 9, 12, 19⟩, [⟨0, 9, 16, 35⟩], iobE, rfl, ?_, rfl, by decide, kl_L_19, ca_iob, ?_⟩
  · exact fun z hz => nomatch hz
  · refine r_ls [some (.ref x), some (.int w1), some (.int w2), some (.ref o), none] rfl ?_
    refine r_astore (pc := 12) (i := 4) (tL_absorptionTime.at 8 rfl) (by decide) ?_
    refine r_iconst (pc := 14) (w := nI 1) (tL_absorptionTime.at 9 rfl) (by decide) ?_
    refine r_iret (pc := 15) (tL_absorptionTime.at 10 rfl) rfl (by show 0 + mc ≤ mc; omega) (by show 0 + ms ≤ ms; omega) ?_
    exact ⟨rfl, hq⟩
theorem wE_absorptionTime_2 {w1 w2 : Int32} (hx : h x = some (ob 10 fs)) (hC : Cal v mX10_absorptionTime d mc ms [.ref x, .int w1, .int w2] h top fX (fun E h' top' => E = isE' ∧ Q h' top')) : Cal v mL_absorptionTime (d + 1) mc ms [.ref x, .int w1, .int w2, .ref o] h top (fun r h' top' => r = some (.int (nI 2)) ∧ Q h' top') noX := by
  refine Cal.ofJH (by decide +kernel) rfl (Nat.le_of_ble_eq_true rfl) fun hz0 => ?_
  refine r_ls [some (.ref x), some (.int w1), some (.int w2), some (.ref o), none] rfl ?_
  refine r_aload_n (pc := 0) (i := 3) (tL_absorptionTime.at 0 rfl) rfl rfl ?_
  refine r_iconst (pc := 1) (w := nI 0) (tL_absorptionTime.at 1 rfl) (by decide) ?_
  refine r_aload_n (pc := 2) (i := 0) (tL_absorptionTime.at 2 rfl) rfl rfl ?_
  refine r_iload_n (pc := 3) (i := 1) (tL_absorptionTime.at 3 rfl) rfl rfl ?_
  refine r_iload_n (pc := 4) (i := 2) (tL_absorptionTime.at 4 rfl) rfl rfl ?_
  refine r_callVC (M' := mX10_absorptionTime) (pc := 5) (tL_absorptionTime.at 5 rfl) ml_L_49 rfl mw_X10_absorptionTime (fits_w (by decide)) hx rfl rfl hC rfl rfl (Nat.le_of_ble_eq_true rfl) (by show 0 + mc ≤ mc; omega) (by show 0 + ms ≤ ms; omega) (fun _ _ _ z => z.elim) ?_
  rintro _ q h1 top1 ⟨rfl, hq⟩
  refine ⟨[⟨0, 9, 12, 19⟩], ⟨0, 9, 16, 35⟩, [], isE', rfl, ?_, rfl, by decide, kl_L_35, ca_is, ?_⟩
  · intro z hz
    have hz2 : z = ⟨0, 9, 12, 19⟩ := by simpa using hz
    rcases hz2 with rfl
    · exact Or.inr ⟨by decide, iobE, kl_L_19, ex_ne.2.2.1, ex_ne.1, ex_ne.2.2.2.2.1.symm⟩
  · refine r_ls [some (.ref x), some (.int w1), some (.int w2), some (.ref o), none] rfl ?_
    refine r_astore (pc := 16) (i := 4) (tL_absorptionTime.at 11 rfl) (by decide) ?_
    refine r_iconst (pc := 18) (w := nI 2) (tL_absorptionTime.at 12 rfl) (by decide) ?_
    refine r_iret (pc := 19) (tL_absorptionTime.at 13 rfl) rfl (by show 0 + mc ≤ mc; omega) (by show 0 + ms ≤ ms; omega) ?_
    exact ⟨rfl, hq⟩
theorem wN_blockOf {w1 : Int32} {y : Int32} (hx : h x = some (ob 10 fs)) (hC : Cal v mX10_blockOf d mc ms [.ref x, .int w1] h top (fun r h' top' => r = some (.int y) ∧ Q h' top') noX) (ho : ∀ h' top', Q h' top' → ∃ fo, h' o = some (aJ v 1 fo)) : Cal v mL_blockOf (d + 1) mc ms [.ref x, .int w1, .ref o] h top (fun r h' top' => r = some (.int (nI 0)) ∧ ∃ h1 fo, Q h1 top' ∧ h1 o = some (aJ v 1 fo) ∧ h' = hp h1 o (aJ v 1 (vp_updL fo 0 y.toInt64))) noX := by
  refine Cal.ofJH (by decide +kernel) rfl (Nat.le_of_ble_eq_true rfl) fun hz0 => ?_
  refine r_ls [some (.ref x), some (.int w1), some (.ref o), none] rfl ?_
  refine r_aload_n (pc := 0) (i := 2) (tL_blockOf.at 0 rfl) rfl rfl ?_
  refine r_iconst (pc := 1) (w := nI 0) (tL_blockOf.at 1 rfl) (by decide) ?_
  refine r_aload_n (pc := 2) (i := 0) (tL_blockOf.at 2 rfl) rfl rfl ?_
  refine r_iload_n (pc := 3) (i := 1) (tL_blockOf.at 3 rfl) rfl rfl ?_
  refine r_callVC (M' := mX10_blockOf) (pc := 4) (tL_blockOf.at 4 rfl) ml_L_53 rfl mw_X10_blockOf (fits_w (by decide)) hx rfl rfl hC rfl rfl (Nat.le_of_ble_eq_true rfl) (by show 0 + mc ≤ mc; omega) (by show 0 + ms ≤ ms; omega) ?_ (fun _ _ _ _ z => z.elim)
  rintro _ h1 top1 ⟨rfl, hq⟩
  obtain ⟨fo, hfo⟩ := ho _ _ hq
  first | refine r_i2lN (pc := 7) (tL_blockOf.at 5 rfl) (by omega) ?_ | refine r_i2l (pc := 7) (tL_blockOf.at 5 rfl) ?_
  refine r_last (pc := 8) (tL_blockOf.at 6 rfl) (hfo) (0) (rfl) (by omega) (Nat.le_of_ble_eq_true rfl) ?_
  refine r_goto (pc := 9) 15 (tL_blockOf.at 7 rfl) (by decide) ?_
  refine r_iconst (pc := 15) (w := nI 0) (tL_blockOf.at 11 rfl) (by decide) ?_
  refine r_iret (pc := 16) (tL_blockOf.at 12 rfl) rfl (by show 0 + mc ≤ mc; omega) (by show 0 + ms ≤ ms; omega) ?_
  exact ⟨rfl, h1, fo, hq, hfo, rfl⟩
theorem wE_blockOf_1 {w1 : Int32} (hx : h x = some (ob 10 fs)) (hC : Cal v mX10_blockOf d mc ms [.ref x, .int w1] h top fX (fun E h' top' => E = iobE ∧ Q h' top')) : Cal v mL_blockOf (d + 1) mc ms [.ref x, .int w1, .ref o] h top (fun r h' top' => r = some (.int (nI 1)) ∧ Q h' top') noX := by
  refine Cal.ofJH (by decide +kernel) rfl (Nat.le_of_ble_eq_true rfl) fun hz0 => ?_
  refine r_ls [some (.ref x), some (.int w1), some (.ref o), none] rfl ?_
  refine r_aload_n (pc := 0) (i := 2) (tL_blockOf.at 0 rfl) rfl rfl ?_
  refine r_iconst (pc := 1) (w := nI 0) (tL_blockOf.at 1 rfl) (by decide) ?_
  refine r_aload_n (pc := 2) (i := 0) (tL_blockOf.at 2 rfl) rfl rfl ?_
  refine r_iload_n (pc := 3) (i := 1) (tL_blockOf.at 3 rfl) rfl rfl ?_
  refine r_callVC (M' := mX10_blockOf) (pc := 4) (tL_blockOf.at 4 rfl) ml_L_53 rfl mw_X10_blockOf (fits_w (by decide)) hx rfl rfl hC rfl rfl (Nat.le_of_ble_eq_true rfl) (by show 0 + mc ≤ mc; omega) (by show 0 + ms ≤ ms; omega) (fun _ _ _ z => z.elim) ?_
  rintro _ q h1 top1 ⟨rfl, hq⟩
  refine ⟨[], ⟨0, 9, 12, 19⟩, [], iobE, rfl, ?_, rfl, by decide, kl_L_19, ca_iob, ?_⟩
  · exact fun z hz => nomatch hz
  · refine r_ls [some (.ref x), some (.int w1), some (.ref o), none] rfl ?_
    refine r_astore_n (pc := 12) (i := 3) (tL_blockOf.at 8 rfl) rfl (by decide) ?_
    refine r_iconst (pc := 13) (w := nI 1) (tL_blockOf.at 9 rfl) (by decide) ?_
    refine r_iret (pc := 14) (tL_blockOf.at 10 rfl) rfl (by show 0 + mc ≤ mc; omega) (by show 0 + ms ≤ ms; omega) ?_
    exact ⟨rfl, hq⟩
theorem wN_lumped {w1 w2 w3 : Int32} {y : Int32} (hx : h x = some (ob 10 fs)) (hC : Cal v mX10_lumped d mc ms [.ref x, .int w1, .int w2, .int w3] h top (fun r h' top' => r = some (.int y) ∧ Q h' top') noX) (ho : ∀ h' top', Q h' top' → ∃ fo, h' o = some (aJ v 1 fo)) : Cal v mL_lumped (d + 1) mc ms [.ref x, .int w1, .int w2, .int w3, .ref o] h top (fun r h' top' => r = some (.int (nI 0)) ∧ ∃ h1 fo, Q h1 top' ∧ h1 o = some (aJ v 1 fo) ∧ h' = hp h1 o (aJ v 1 (vp_updL fo 0 y.toInt64))) noX := by
  refine Cal.ofJH (by decide +kernel) rfl (Nat.le_of_ble_eq_true rfl) fun hz0 => ?_
  refine r_ls [some (.ref x), some (.int w1), some (.int w2), some (.int w3), some (.ref o), none] rfl ?_
  refine r_aload (pc := 0) (i := 4) (tL_lumped.at 0 rfl) rfl ?_
  refine r_iconst (pc := 2) (w := nI 0) (tL_lumped.at 1 rfl) (by decide) ?_
  refine r_aload_n (pc := 3) (i := 0) (tL_lumped.at 2 rfl) rfl rfl ?_
  refine r_iload_n (pc := 4) (i := 1) (tL_lumped.at 3 rfl) rfl rfl ?_
  refine r_iload_n (pc := 5) (i := 2) (tL_lumped.at 4 rfl) rfl rfl ?_
  refine r_iload_n (pc := 6) (i := 3) (tL_lumped.at 5 rfl) rfl rfl ?_
  refine r_callVC (M' := mX10_lumped) (pc := 7) (tL_lumped.at 6 rfl) ml_L_56 rfl mw_X10_lumped (fits_w (by decide)) hx rfl rfl hC rfl rfl (Nat.le_of_ble_eq_true rfl) (by show 0 + mc ≤ mc; omega) (by show 0 + ms ≤ ms; omega) ?_ (fun _ _ _ _ z => z.elim)
  rintro _ h1 top1 ⟨rfl, hq⟩
  obtain ⟨fo, hfo⟩ := ho _ _ hq
  first | refine r_i2lN (pc := 10) (tL_lumped.at 7 rfl) (by omega) ?_ | refine r_i2l (pc := 10) (tL_lumped.at 7 rfl) ?_
  refine r_last (pc := 11) (tL_lumped.at 8 rfl) (hfo) (0) (rfl) (by omega) (Nat.le_of_ble_eq_true rfl) ?_
  refine r_goto (pc := 12) 23 (tL_lumped.at 9 rfl) (by decide) ?_
  refine r_iconst (pc := 23) (w := nI 0) (tL_lumped.at 16 rfl) (by decide) ?_
  refine r_iret (pc := 24) (tL_lumped.at 17 rfl) rfl (by show 0 + mc ≤ mc; omega) (by show 0 + ms ≤ ms; omega) ?_
  exact ⟨rfl, h1, fo, hq, hfo, rfl⟩
theorem wE_lumped_1 {w1 w2 w3 : Int32} (hx : h x = some (ob 10 fs)) (hC : Cal v mX10_lumped d mc ms [.ref x, .int w1, .int w2, .int w3] h top fX (fun E h' top' => E = iobE ∧ Q h' top')) : Cal v mL_lumped (d + 1) mc ms [.ref x, .int w1, .int w2, .int w3, .ref o] h top (fun r h' top' => r = some (.int (nI 1)) ∧ Q h' top') noX := by
  refine Cal.ofJH (by decide +kernel) rfl (Nat.le_of_ble_eq_true rfl) fun hz0 => ?_
  refine r_ls [some (.ref x), some (.int w1), some (.int w2), some (.int w3), some (.ref o), none] rfl ?_
  refine r_aload (pc := 0) (i := 4) (tL_lumped.at 0 rfl) rfl ?_
  refine r_iconst (pc := 2) (w := nI 0) (tL_lumped.at 1 rfl) (by decide) ?_
  refine r_aload_n (pc := 3) (i := 0) (tL_lumped.at 2 rfl) rfl rfl ?_
  refine r_iload_n (pc := 4) (i := 1) (tL_lumped.at 3 rfl) rfl rfl ?_
  refine r_iload_n (pc := 5) (i := 2) (tL_lumped.at 4 rfl) rfl rfl ?_
  refine r_iload_n (pc := 6) (i := 3) (tL_lumped.at 5 rfl) rfl rfl ?_
  refine r_callVC (M' := mX10_lumped) (pc := 7) (tL_lumped.at 6 rfl) ml_L_56 rfl mw_X10_lumped (fits_w (by decide)) hx rfl rfl hC rfl rfl (Nat.le_of_ble_eq_true rfl) (by show 0 + mc ≤ mc; omega) (by show 0 + ms ≤ ms; omega) (fun _ _ _ z => z.elim) ?_
  rintro _ q h1 top1 ⟨rfl, hq⟩
  refine ⟨[], ⟨0, 12, 15, 19⟩, [⟨0, 12, 19, 35⟩], iobE, rfl, ?_, rfl, by decide, kl_L_19, ca_iob, ?_⟩
  · exact fun z hz => nomatch hz
  · refine r_ls [some (.ref x), some (.int w1), some (.int w2), some (.int w3), some (.ref o), none] rfl ?_
    refine r_astore (pc := 15) (i := 5) (tL_lumped.at 10 rfl) (by decide) ?_
    refine r_iconst (pc := 17) (w := nI 1) (tL_lumped.at 11 rfl) (by decide) ?_
    refine r_iret (pc := 18) (tL_lumped.at 12 rfl) rfl (by show 0 + mc ≤ mc; omega) (by show 0 + ms ≤ ms; omega) ?_
    exact ⟨rfl, hq⟩
theorem wE_lumped_2 {w1 w2 w3 : Int32} (hx : h x = some (ob 10 fs)) (hC : Cal v mX10_lumped d mc ms [.ref x, .int w1, .int w2, .int w3] h top fX (fun E h' top' => E = isE' ∧ Q h' top')) : Cal v mL_lumped (d + 1) mc ms [.ref x, .int w1, .int w2, .int w3, .ref o] h top (fun r h' top' => r = some (.int (nI 2)) ∧ Q h' top') noX := by
  refine Cal.ofJH (by decide +kernel) rfl (Nat.le_of_ble_eq_true rfl) fun hz0 => ?_
  refine r_ls [some (.ref x), some (.int w1), some (.int w2), some (.int w3), some (.ref o), none] rfl ?_
  refine r_aload (pc := 0) (i := 4) (tL_lumped.at 0 rfl) rfl ?_
  refine r_iconst (pc := 2) (w := nI 0) (tL_lumped.at 1 rfl) (by decide) ?_
  refine r_aload_n (pc := 3) (i := 0) (tL_lumped.at 2 rfl) rfl rfl ?_
  refine r_iload_n (pc := 4) (i := 1) (tL_lumped.at 3 rfl) rfl rfl ?_
  refine r_iload_n (pc := 5) (i := 2) (tL_lumped.at 4 rfl) rfl rfl ?_
  refine r_iload_n (pc := 6) (i := 3) (tL_lumped.at 5 rfl) rfl rfl ?_
  refine r_callVC (M' := mX10_lumped) (pc := 7) (tL_lumped.at 6 rfl) ml_L_56 rfl mw_X10_lumped (fits_w (by decide)) hx rfl rfl hC rfl rfl (Nat.le_of_ble_eq_true rfl) (by show 0 + mc ≤ mc; omega) (by show 0 + ms ≤ ms; omega) (fun _ _ _ z => z.elim) ?_
  rintro _ q h1 top1 ⟨rfl, hq⟩
  refine ⟨[⟨0, 12, 15, 19⟩], ⟨0, 12, 19, 35⟩, [], isE', rfl, ?_, rfl, by decide, kl_L_35, ca_is, ?_⟩
  · intro z hz
    have hz2 : z = ⟨0, 12, 15, 19⟩ := by simpa using hz
    rcases hz2 with rfl
    · exact Or.inr ⟨by decide, iobE, kl_L_19, ex_ne.2.2.1, ex_ne.1, ex_ne.2.2.2.2.1.symm⟩
  · refine r_ls [some (.ref x), some (.int w1), some (.int w2), some (.int w3), some (.ref o), none] rfl ?_
    refine r_astore (pc := 19) (i := 5) (tL_lumped.at 13 rfl) (by decide) ?_
    refine r_iconst (pc := 21) (w := nI 2) (tL_lumped.at 14 rfl) (by decide) ?_
    refine r_iret (pc := 22) (tL_lumped.at 15 rfl) rfl (by show 0 + mc ≤ mc; omega) (by show 0 + ms ≤ ms; omega) ?_
    exact ⟨rfl, hq⟩
theorem wN_lumpedTime {w1 w2 w3 : Int32} {y : Int64} (hx : h x = some (ob 10 fs)) (hC : Cal v mX10_lumpedTime d mc ms [.ref x, .int w1, .int w2, .int w3] h top (fun r h' top' => r = some (.long y) ∧ Q h' top') noX) (ho : ∀ h' top', Q h' top' → ∃ fo, h' o = some (aJ v 1 fo)) : Cal v mL_lumpedTime (d + 1) mc ms [.ref x, .int w1, .int w2, .int w3, .ref o] h top (fun r h' top' => r = some (.int (nI 0)) ∧ ∃ h1 fo, Q h1 top' ∧ h1 o = some (aJ v 1 fo) ∧ h' = hp h1 o (aJ v 1 (vp_updL fo 0 y))) noX := by
  refine Cal.ofJH (by decide +kernel) rfl (Nat.le_of_ble_eq_true rfl) fun hz0 => ?_
  refine r_ls [some (.ref x), some (.int w1), some (.int w2), some (.int w3), some (.ref o), none] rfl ?_
  refine r_aload (pc := 0) (i := 4) (tL_lumpedTime.at 0 rfl) rfl ?_
  refine r_iconst (pc := 2) (w := nI 0) (tL_lumpedTime.at 1 rfl) (by decide) ?_
  refine r_aload_n (pc := 3) (i := 0) (tL_lumpedTime.at 2 rfl) rfl rfl ?_
  refine r_iload_n (pc := 4) (i := 1) (tL_lumpedTime.at 3 rfl) rfl rfl ?_
  refine r_iload_n (pc := 5) (i := 2) (tL_lumpedTime.at 4 rfl) rfl rfl ?_
  refine r_iload_n (pc := 6) (i := 3) (tL_lumpedTime.at 5 rfl) rfl rfl ?_
  refine r_callVC (M' := mX10_lumpedTime) (pc := 7) (tL_lumpedTime.at 6 rfl) ml_L_59 rfl mw_X10_lumpedTime (fits_w (by decide)) hx rfl rfl hC rfl rfl (Nat.le_of_ble_eq_true rfl) (by show 0 + mc ≤ mc; omega) (by show 0 + ms ≤ ms; omega) ?_ (fun _ _ _ _ z => z.elim)
  rintro _ h1 top1 ⟨rfl, hq⟩
  obtain ⟨fo, hfo⟩ := ho _ _ hq
  refine r_last (pc := 10) (tL_lumpedTime.at 7 rfl) (hfo) (0) (rfl) (by omega) (Nat.le_of_ble_eq_true rfl) ?_
  refine r_goto (pc := 11) 22 (tL_lumpedTime.at 8 rfl) (by decide) ?_
  refine r_iconst (pc := 22) (w := nI 0) (tL_lumpedTime.at 15 rfl) (by decide) ?_
  refine r_iret (pc := 23) (tL_lumpedTime.at 16 rfl) rfl (by show 0 + mc ≤ mc; omega) (by show 0 + ms ≤ ms; omega) ?_
  exact ⟨rfl, h1, fo, hq, hfo, rfl⟩
theorem wE_lumpedTime_1 {w1 w2 w3 : Int32} (hx : h x = some (ob 10 fs)) (hC : Cal v mX10_lumpedTime d mc ms [.ref x, .int w1, .int w2, .int w3] h top fX (fun E h' top' => E = iobE ∧ Q h' top')) : Cal v mL_lumpedTime (d + 1) mc ms [.ref x, .int w1, .int w2, .int w3, .ref o] h top (fun r h' top' => r = some (.int (nI 1)) ∧ Q h' top') noX := by
  refine Cal.ofJH (by decide +kernel) rfl (Nat.le_of_ble_eq_true rfl) fun hz0 => ?_
  refine r_ls [some (.ref x), some (.int w1), some (.int w2), some (.int w3), some (.ref o), none] rfl ?_
  refine r_aload (pc := 0) (i := 4) (tL_lumpedTime.at 0 rfl) rfl ?_
  refine r_iconst (pc := 2) (w := nI 0) (tL_lumpedTime.at 1 rfl) (by decide) ?_
  refine r_aload_n (pc := 3) (i := 0) (tL_lumpedTime.at 2 rfl) rfl rfl ?_
  refine r_iload_n (pc := 4) (i := 1) (tL_lumpedTime.at 3 rfl) rfl rfl ?_
  refine r_iload_n (pc := 5) (i := 2) (tL_lumpedTime.at 4 rfl) rfl rfl ?_
  refine r_iload_n (pc := 6) (i := 3) (tL_lumpedTime.at 5 rfl) rfl rfl ?_
  refine r_callVC (M' := mX10_lumpedTime) (pc := 7) (tL_lumpedTime.at 6 rfl) ml_L_59 rfl mw_X10_lumpedTime (fits_w (by decide)) hx rfl rfl hC rfl rfl (Nat.le_of_ble_eq_true rfl) (by show 0 + mc ≤ mc; omega) (by show 0 + ms ≤ ms; omega) (fun _ _ _ z => z.elim) ?_
  rintro _ q h1 top1 ⟨rfl, hq⟩
  refine ⟨[], ⟨0, 11, 14, 19⟩, [⟨0, 11, 18, 35⟩], iobE, rfl, ?_, rfl, by decide, kl_L_19, ca_iob, ?_⟩
  · exact fun z hz => nomatch hz
  · refine r_ls [some (.ref x), some (.int w1), some (.int w2), some (.int w3), some (.ref o), none] rfl ?_
    refine r_astore (pc := 14) (i := 5) (tL_lumpedTime.at 9 rfl) (by decide) ?_
    refine r_iconst (pc := 16) (w := nI 1) (tL_lumpedTime.at 10 rfl) (by decide) ?_
    refine r_iret (pc := 17) (tL_lumpedTime.at 11 rfl) rfl (by show 0 + mc ≤ mc; omega) (by show 0 + ms ≤ ms; omega) ?_
    exact ⟨rfl, hq⟩
theorem wE_lumpedTime_2 {w1 w2 w3 : Int32} (hx : h x = some (ob 10 fs)) (hC : Cal v mX10_lumpedTime d mc ms [.ref x, .int w1, .int w2, .int w3] h top fX (fun E h' top' => E = isE' ∧ Q h' top')) : Cal v mL_lumpedTime (d + 1) mc ms [.ref x, .int w1, .int w2, .int w3, .ref o] h top (fun r h' top' => r = some (.int (nI 2)) ∧ Q h' top') noX := by
  refine Cal.ofJH (by decide +kernel) rfl (Nat.le_of_ble_eq_true rfl) fun hz0 => ?_
  refine r_ls [some (.ref x), some (.int w1), some (.int w2), some (.int w3), some (.ref o), none] rfl ?_
  refine r_aload (pc := 0) (i := 4) (tL_lumpedTime.at 0 rfl) rfl ?_
  refine r_iconst (pc := 2) (w := nI 0) (tL_lumpedTime.at 1 rfl) (by decide) ?_
  refine r_aload_n (pc := 3) (i := 0) (tL_lumpedTime.at 2 rfl) rfl rfl ?_
  refine r_iload_n (pc := 4) (i := 1) (tL_lumpedTime.at 3 rfl) rfl rfl ?_
  refine r_iload_n (pc := 5) (i := 2) (tL_lumpedTime.at 4 rfl) rfl rfl ?_
  refine r_iload_n (pc := 6) (i := 3) (tL_lumpedTime.at 5 rfl) rfl rfl ?_
  refine r_callVC (M' := mX10_lumpedTime) (pc := 7) (tL_lumpedTime.at 6 rfl) ml_L_59 rfl mw_X10_lumpedTime (fits_w (by decide)) hx rfl rfl hC rfl rfl (Nat.le_of_ble_eq_true rfl) (by show 0 + mc ≤ mc; omega) (by show 0 + ms ≤ ms; omega) (fun _ _ _ z => z.elim) ?_
  rintro _ q h1 top1 ⟨rfl, hq⟩
  refine ⟨[⟨0, 11, 14, 19⟩], ⟨0, 11, 18, 35⟩, [], isE', rfl, ?_, rfl, by decide, kl_L_35, ca_is, ?_⟩
  · intro z hz
    have hz2 : z = ⟨0, 11, 14, 19⟩ := by simpa using hz
    rcases hz2 with rfl
    · exact Or.inr ⟨by decide, iobE, kl_L_19, ex_ne.2.2.1, ex_ne.1, ex_ne.2.2.2.2.1.symm⟩
  · refine r_ls [some (.ref x), some (.int w1), some (.int w2), some (.int w3), some (.ref o), none] rfl ?_
    refine r_astore (pc := 18) (i := 5) (tL_lumpedTime.at 12 rfl) (by decide) ?_
    refine r_iconst (pc := 20) (w := nI 2) (tL_lumpedTime.at 13 rfl) (by decide) ?_
    refine r_iret (pc := 21) (tL_lumpedTime.at 14 rfl) rfl (by show 0 + mc ≤ mc; omega) (by show 0 + ms ≤ ms; omega) ?_
    exact ⟨rfl, hq⟩
theorem wN_after {w1 w2 w3 : Int32} {y : UInt32} (hy : vf_n64 (FP.f2d y)) (hx : h x = some (ob 10 fs)) (hC : Cal v mX10_after d mc ms [.ref x, .int w1, .int w2, .int w3] h top (fun r h' top' => r = some (.float y) ∧ Q h' top') noX) (ho : ∀ h' top', Q h' top' → ∃ fo, h' o = some (aD v 1 fo)) : Cal v mL_after (d + 1) mc ms [.ref x, .int w1, .int w2, .int w3, .ref o] h top (fun r h' top' => r = some (.int (nI 0)) ∧ ∃ h1 fo, Q h1 top' ∧ h1 o = some (aD v 1 fo) ∧ h' = hp h1 o (aD v 1 (vf_upd fo 0 (FP.f2d y)))) noX := by
  refine Cal.ofJH (by decide +kernel) rfl (Nat.le_of_ble_eq_true rfl) fun hz0 => ?_
  refine r_ls [some (.ref x), some (.int w1), some (.int w2), some (.int w3), some (.ref o), none] rfl ?_
  refine r_aload (pc := 0) (i := 4) (tL_after.at 0 rfl) rfl ?_
  refine r_iconst (pc := 2) (w := nI 0) (tL_after.at 1 rfl) (by decide) ?_
  refine r_aload_n (pc := 3) (i := 0) (tL_after.at 2 rfl) rfl rfl ?_
  refine r_iload_n (pc := 4) (i := 1) (tL_after.at 3 rfl) rfl rfl ?_
  refine r_iload_n (pc := 5) (i := 2) (tL_after.at 4 rfl) rfl rfl ?_
  refine r_iload_n (pc := 6) (i := 3) (tL_after.at 5 rfl) rfl rfl ?_
  refine r_callVC (M' := mX10_after) (pc := 7) (tL_after.at 6 rfl) ml_L_62 rfl mw_X10_after (fits_w (by decide)) hx rfl rfl hC rfl rfl (Nat.le_of_ble_eq_true rfl) (by show 0 + mc ≤ mc; omega) (by show 0 + ms ≤ ms; omega) ?_ (fun _ _ _ _ z => z.elim)
  rintro _ h1 top1 ⟨rfl, hq⟩
  obtain ⟨fo, hfo⟩ := ho _ _ hq
  refine r_f2d (pc := 10) (tL_after.at 7 rfl) hy ?_
  refine r_dast (pc := 11) (tL_after.at 8 rfl) (hfo) (0) (rfl) (by omega) (Nat.le_of_ble_eq_true rfl) ?_
  refine r_goto (pc := 12) 23 (tL_after.at 9 rfl) (by decide) ?_
  refine r_iconst (pc := 23) (w := nI 0) (tL_after.at 16 rfl) (by decide) ?_
  refine r_iret (pc := 24) (tL_after.at 17 rfl) rfl (by show 0 + mc ≤ mc; omega) (by show 0 + ms ≤ ms; omega) ?_
  exact ⟨rfl, h1, fo, hq, hfo, rfl⟩
theorem wE_after_1 {w1 w2 w3 : Int32} (hx : h x = some (ob 10 fs)) (hC : Cal v mX10_after d mc ms [.ref x, .int w1, .int w2, .int w3] h top fX (fun E h' top' => E = iobE ∧ Q h' top')) : Cal v mL_after (d + 1) mc ms [.ref x, .int w1, .int w2, .int w3, .ref o] h top (fun r h' top' => r = some (.int (nI 1)) ∧ Q h' top') noX := by
  refine Cal.ofJH (by decide +kernel) rfl (Nat.le_of_ble_eq_true rfl) fun hz0 => ?_
  refine r_ls [some (.ref x), some (.int w1), some (.int w2), some (.int w3), some (.ref o), none] rfl ?_
  refine r_aload (pc := 0) (i := 4) (tL_after.at 0 rfl) rfl ?_
  refine r_iconst (pc := 2) (w := nI 0) (tL_after.at 1 rfl) (by decide) ?_
  refine r_aload_n (pc := 3) (i := 0) (tL_after.at 2 rfl) rfl rfl ?_
  refine r_iload_n (pc := 4) (i := 1) (tL_after.at 3 rfl) rfl rfl ?_
  refine r_iload_n (pc := 5) (i := 2) (tL_after.at 4 rfl) rfl rfl ?_
  refine r_iload_n (pc := 6) (i := 3) (tL_after.at 5 rfl) rfl rfl ?_
  refine r_callVC (M' := mX10_after) (pc := 7) (tL_after.at 6 rfl) ml_L_62 rfl mw_X10_after (fits_w (by decide)) hx rfl rfl hC rfl rfl (Nat.le_of_ble_eq_true rfl) (by show 0 + mc ≤ mc; omega) (by show 0 + ms ≤ ms; omega) (fun _ _ _ z => z.elim) ?_
  rintro _ q h1 top1 ⟨rfl, hq⟩
  refine ⟨[], ⟨0, 12, 15, 19⟩, [⟨0, 12, 19, 13⟩], iobE, rfl, ?_, rfl, by decide, kl_L_19, ca_iob, ?_⟩
  · exact fun z hz => nomatch hz
  · refine r_ls [some (.ref x), some (.int w1), some (.int w2), some (.int w3), some (.ref o), none] rfl ?_
    refine r_astore (pc := 15) (i := 5) (tL_after.at 10 rfl) (by decide) ?_
    refine r_iconst (pc := 17) (w := nI 1) (tL_after.at 11 rfl) (by decide) ?_
    refine r_iret (pc := 18) (tL_after.at 12 rfl) rfl (by show 0 + mc ≤ mc; omega) (by show 0 + ms ≤ ms; omega) ?_
    exact ⟨rfl, hq⟩
theorem wE_after_2 {w1 w2 w3 : Int32} (hx : h x = some (ob 10 fs)) (hC : Cal v mX10_after d mc ms [.ref x, .int w1, .int w2, .int w3] h top fX (fun E h' top' => E = iaE ∧ Q h' top')) : Cal v mL_after (d + 1) mc ms [.ref x, .int w1, .int w2, .int w3, .ref o] h top (fun r h' top' => r = some (.int (nI 2)) ∧ Q h' top') noX := by
  refine Cal.ofJH (by decide +kernel) rfl (Nat.le_of_ble_eq_true rfl) fun hz0 => ?_
  refine r_ls [some (.ref x), some (.int w1), some (.int w2), some (.int w3), some (.ref o), none] rfl ?_
  refine r_aload (pc := 0) (i := 4) (tL_after.at 0 rfl) rfl ?_
  refine r_iconst (pc := 2) (w := nI 0) (tL_after.at 1 rfl) (by decide) ?_
  refine r_aload_n (pc := 3) (i := 0) (tL_after.at 2 rfl) rfl rfl ?_
  refine r_iload_n (pc := 4) (i := 1) (tL_after.at 3 rfl) rfl rfl ?_
  refine r_iload_n (pc := 5) (i := 2) (tL_after.at 4 rfl) rfl rfl ?_
  refine r_iload_n (pc := 6) (i := 3) (tL_after.at 5 rfl) rfl rfl ?_
  refine r_callVC (M' := mX10_after) (pc := 7) (tL_after.at 6 rfl) ml_L_62 rfl mw_X10_after (fits_w (by decide)) hx rfl rfl hC rfl rfl (Nat.le_of_ble_eq_true rfl) (by show 0 + mc ≤ mc; omega) (by show 0 + ms ≤ ms; omega) (fun _ _ _ z => z.elim) ?_
  rintro _ q h1 top1 ⟨rfl, hq⟩
  refine ⟨[⟨0, 12, 15, 19⟩], ⟨0, 12, 19, 13⟩, [], iaE, rfl, ?_, rfl, by decide, kl_L_13, ca_ia, ?_⟩
  · intro z hz
    have hz2 : z = ⟨0, 12, 15, 19⟩ := by simpa using hz
    rcases hz2 with rfl
    · exact Or.inr ⟨by decide, iobE, kl_L_19, ex_ne.2.1, ex_ne.1, ex_ne.2.2.2.1.symm⟩
  · refine r_ls [some (.ref x), some (.int w1), some (.int w2), some (.int w3), some (.ref o), none] rfl ?_
    refine r_astore (pc := 19) (i := 5) (tL_after.at 13 rfl) (by decide) ?_
    refine r_iconst (pc := 21) (w := nI 2) (tL_after.at 14 rfl) (by decide) ?_
    refine r_iret (pc := 22) (tL_after.at 15 rfl) rfl (by show 0 + mc ≤ mc; omega) (by show 0 + ms ≤ ms; omega) ?_
    exact ⟨rfl, hq⟩
theorem wN_walk {w1 w2 w3 w4 : Int32} {y : Int32} (hx : h x = some (ob 10 fs)) (hC : Cal v mX10_walk d mc ms [.ref x, .int w1, .int w2, .int w3, .int w4] h top (fun r h' top' => r = some (.int y) ∧ Q h' top') noX) (ho : ∀ h' top', Q h' top' → ∃ fo, h' o = some (aJ v 1 fo)) : Cal v mL_walk (d + 1) mc ms [.ref x, .int w1, .int w2, .int w3, .int w4, .ref o] h top (fun r h' top' => r = some (.int (nI 0)) ∧ ∃ h1 fo, Q h1 top' ∧ h1 o = some (aJ v 1 fo) ∧ h' = hp h1 o (aJ v 1 (vp_updL fo 0 y.toInt64))) noX := by
  refine Cal.ofJH (by decide +kernel) rfl (Nat.le_of_ble_eq_true rfl) fun hz0 => ?_
  refine r_ls [some (.ref x), some (.int w1), some (.int w2), some (.int w3), some (.int w4), some (.ref o), none] rfl ?_
  refine r_aload (pc := 0) (i := 5) (tL_walk.at 0 rfl) rfl ?_
  refine r_iconst (pc := 2) (w := nI 0) (tL_walk.at 1 rfl) (by decide) ?_
  refine r_aload_n (pc := 3) (i := 0) (tL_walk.at 2 rfl) rfl rfl ?_
  refine r_iload_n (pc := 4) (i := 1) (tL_walk.at 3 rfl) rfl rfl ?_
  refine r_iload_n (pc := 5) (i := 2) (tL_walk.at 4 rfl) rfl rfl ?_
  refine r_iload_n (pc := 6) (i := 3) (tL_walk.at 5 rfl) rfl rfl ?_
  refine r_iload (pc := 7) (i := 4) (tL_walk.at 6 rfl) rfl ?_
  refine r_callVC (M' := mX10_walk) (pc := 9) (tL_walk.at 7 rfl) ml_L_66 rfl mw_X10_walk (fits_w (by decide)) hx rfl rfl hC rfl rfl (Nat.le_of_ble_eq_true rfl) (by show 0 + mc ≤ mc; omega) (by show 0 + ms ≤ ms; omega) ?_ (fun _ _ _ _ z => z.elim)
  rintro _ h1 top1 ⟨rfl, hq⟩
  obtain ⟨fo, hfo⟩ := ho _ _ hq
  first | refine r_i2lN (pc := 12) (tL_walk.at 8 rfl) (by omega) ?_ | refine r_i2l (pc := 12) (tL_walk.at 8 rfl) ?_
  refine r_last (pc := 13) (tL_walk.at 9 rfl) (hfo) (0) (rfl) (by omega) (Nat.le_of_ble_eq_true rfl) ?_
  refine r_goto (pc := 14) 25 (tL_walk.at 10 rfl) (by decide) ?_
  refine r_iconst (pc := 25) (w := nI 0) (tL_walk.at 17 rfl) (by decide) ?_
  refine r_iret (pc := 26) (tL_walk.at 18 rfl) rfl (by show 0 + mc ≤ mc; omega) (by show 0 + ms ≤ ms; omega) ?_
  exact ⟨rfl, h1, fo, hq, hfo, rfl⟩
theorem wE_walk_1 {w1 w2 w3 w4 : Int32} (hx : h x = some (ob 10 fs)) (hC : Cal v mX10_walk d mc ms [.ref x, .int w1, .int w2, .int w3, .int w4] h top fX (fun E h' top' => E = iobE ∧ Q h' top')) : Cal v mL_walk (d + 1) mc ms [.ref x, .int w1, .int w2, .int w3, .int w4, .ref o] h top (fun r h' top' => r = some (.int (nI 1)) ∧ Q h' top') noX := by
  refine Cal.ofJH (by decide +kernel) rfl (Nat.le_of_ble_eq_true rfl) fun hz0 => ?_
  refine r_ls [some (.ref x), some (.int w1), some (.int w2), some (.int w3), some (.int w4), some (.ref o), none] rfl ?_
  refine r_aload (pc := 0) (i := 5) (tL_walk.at 0 rfl) rfl ?_
  refine r_iconst (pc := 2) (w := nI 0) (tL_walk.at 1 rfl) (by decide) ?_
  refine r_aload_n (pc := 3) (i := 0) (tL_walk.at 2 rfl) rfl rfl ?_
  refine r_iload_n (pc := 4) (i := 1) (tL_walk.at 3 rfl) rfl rfl ?_
  refine r_iload_n (pc := 5) (i := 2) (tL_walk.at 4 rfl) rfl rfl ?_
  refine r_iload_n (pc := 6) (i := 3) (tL_walk.at 5 rfl) rfl rfl ?_
  refine r_iload (pc := 7) (i := 4) (tL_walk.at 6 rfl) rfl ?_
  refine r_callVC (M' := mX10_walk) (pc := 9) (tL_walk.at 7 rfl) ml_L_66 rfl mw_X10_walk (fits_w (by decide)) hx rfl rfl hC rfl rfl (Nat.le_of_ble_eq_true rfl) (by show 0 + mc ≤ mc; omega) (by show 0 + ms ≤ ms; omega) (fun _ _ _ z => z.elim) ?_
  rintro _ q h1 top1 ⟨rfl, hq⟩
  refine ⟨[], ⟨0, 14, 17, 19⟩, [⟨0, 14, 21, 13⟩], iobE, rfl, ?_, rfl, by decide, kl_L_19, ca_iob, ?_⟩
  · exact fun z hz => nomatch hz
  · refine r_ls [some (.ref x), some (.int w1), some (.int w2), some (.int w3), some (.int w4), some (.ref o), none] rfl ?_
    refine r_astore (pc := 17) (i := 6) (tL_walk.at 11 rfl) (by decide) ?_
    refine r_iconst (pc := 19) (w := nI 1) (tL_walk.at 12 rfl) (by decide) ?_
    refine r_iret (pc := 20) (tL_walk.at 13 rfl) rfl (by show 0 + mc ≤ mc; omega) (by show 0 + ms ≤ ms; omega) ?_
    exact ⟨rfl, hq⟩
theorem wE_walk_2 {w1 w2 w3 w4 : Int32} (hx : h x = some (ob 10 fs)) (hC : Cal v mX10_walk d mc ms [.ref x, .int w1, .int w2, .int w3, .int w4] h top fX (fun E h' top' => E = iaE ∧ Q h' top')) : Cal v mL_walk (d + 1) mc ms [.ref x, .int w1, .int w2, .int w3, .int w4, .ref o] h top (fun r h' top' => r = some (.int (nI 2)) ∧ Q h' top') noX := by
  refine Cal.ofJH (by decide +kernel) rfl (Nat.le_of_ble_eq_true rfl) fun hz0 => ?_
  refine r_ls [some (.ref x), some (.int w1), some (.int w2), some (.int w3), some (.int w4), some (.ref o), none] rfl ?_
  refine r_aload (pc := 0) (i := 5) (tL_walk.at 0 rfl) rfl ?_
  refine r_iconst (pc := 2) (w := nI 0) (tL_walk.at 1 rfl) (by decide) ?_
  refine r_aload_n (pc := 3) (i := 0) (tL_walk.at 2 rfl) rfl rfl ?_
  refine r_iload_n (pc := 4) (i := 1) (tL_walk.at 3 rfl) rfl rfl ?_
  refine r_iload_n (pc := 5) (i := 2) (tL_walk.at 4 rfl) rfl rfl ?_
  refine r_iload_n (pc := 6) (i := 3) (tL_walk.at 5 rfl) rfl rfl ?_
  refine r_iload (pc := 7) (i := 4) (tL_walk.at 6 rfl) rfl ?_
  refine r_callVC (M' := mX10_walk) (pc := 9) (tL_walk.at 7 rfl) ml_L_66 rfl mw_X10_walk (fits_w (by decide)) hx rfl rfl hC rfl rfl (Nat.le_of_ble_eq_true rfl) (by show 0 + mc ≤ mc; omega) (by show 0 + ms ≤ ms; omega) (fun _ _ _ z => z.elim) ?_
  rintro _ q h1 top1 ⟨rfl, hq⟩
  refine ⟨[⟨0, 14, 17, 19⟩], ⟨0, 14, 21, 13⟩, [], iaE, rfl, ?_, rfl, by decide, kl_L_13, ca_ia, ?_⟩
  · intro z hz
    have hz2 : z = ⟨0, 14, 17, 19⟩ := by simpa using hz
    rcases hz2 with rfl
    · exact Or.inr ⟨by decide, iobE, kl_L_19, ex_ne.2.1, ex_ne.1, ex_ne.2.2.2.1.symm⟩
  · refine r_ls [some (.ref x), some (.int w1), some (.int w2), some (.int w3), some (.int w4), some (.ref o), none] rfl ?_
    refine r_astore (pc := 21) (i := 6) (tL_walk.at 14 rfl) (by decide) ?_
    refine r_iconst (pc := 23) (w := nI 2) (tL_walk.at 15 rfl) (by decide) ?_
    refine r_iret (pc := 24) (tL_walk.at 16 rfl) rfl (by show 0 + mc ≤ mc; omega) (by show 0 + ms ≤ ms; omega) ?_
    exact ⟨rfl, hq⟩
theorem wN_setWeight {w1 w2 : Int32} {y : Int32} (hx : h x = some (ob 10 fs)) (hC : Cal v mX10_setWeight d mc ms [.ref x, .int w1, .int w2] h top (fun r h' top' => r = some (.int y) ∧ Q h' top') noX) (ho : ∀ h' top', Q h' top' → ∃ fo, h' o = some (aJ v 1 fo)) : Cal v mL_setWeight (d + 1) mc ms [.ref x, .int w1, .int w2, .ref o] h top (fun r h' top' => r = some (.int (nI 0)) ∧ ∃ h1 fo, Q h1 top' ∧ h1 o = some (aJ v 1 fo) ∧ h' = hp h1 o (aJ v 1 (vp_updL fo 0 y.toInt64))) noX := by
  refine Cal.ofJH (by decide +kernel) rfl (Nat.le_of_ble_eq_true rfl) fun hz0 => ?_
  refine r_ls [some (.ref x), some (.int w1), some (.int w2), some (.ref o), none] rfl ?_
  refine r_aload_n (pc := 0) (i := 3) (tL_setWeight.at 0 rfl) rfl rfl ?_
  refine r_iconst (pc := 1) (w := nI 0) (tL_setWeight.at 1 rfl) (by decide) ?_
  refine r_aload_n (pc := 2) (i := 0) (tL_setWeight.at 2 rfl) rfl rfl ?_
  refine r_iload_n (pc := 3) (i := 1) (tL_setWeight.at 3 rfl) rfl rfl ?_
  refine r_iload_n (pc := 4) (i := 2) (tL_setWeight.at 4 rfl) rfl rfl ?_
  refine r_callVC (M' := mX10_setWeight) (pc := 5) (tL_setWeight.at 5 rfl) ml_L_70 rfl mw_X10_setWeight (fits_w (by decide)) hx rfl rfl hC rfl rfl (Nat.le_of_ble_eq_true rfl) (by show 0 + mc ≤ mc; omega) (by show 0 + ms ≤ ms; omega) ?_ (fun _ _ _ _ z => z.elim)
  rintro _ h1 top1 ⟨rfl, hq⟩
  obtain ⟨fo, hfo⟩ := ho _ _ hq
  first | refine r_i2lN (pc := 8) (tL_setWeight.at 6 rfl) (by omega) ?_ | refine r_i2l (pc := 8) (tL_setWeight.at 6 rfl) ?_
  refine r_last (pc := 9) (tL_setWeight.at 7 rfl) (hfo) (0) (rfl) (by omega) (Nat.le_of_ble_eq_true rfl) ?_
  refine r_goto (pc := 10) 21 (tL_setWeight.at 8 rfl) (by decide) ?_
  refine r_iconst (pc := 21) (w := nI 0) (tL_setWeight.at 15 rfl) (by decide) ?_
  refine r_iret (pc := 22) (tL_setWeight.at 16 rfl) rfl (by show 0 + mc ≤ mc; omega) (by show 0 + ms ≤ ms; omega) ?_
  exact ⟨rfl, h1, fo, hq, hfo, rfl⟩
theorem wE_setWeight_1 {w1 w2 : Int32} (hx : h x = some (ob 10 fs)) (hC : Cal v mX10_setWeight d mc ms [.ref x, .int w1, .int w2] h top fX (fun E h' top' => E = iobE ∧ Q h' top')) : Cal v mL_setWeight (d + 1) mc ms [.ref x, .int w1, .int w2, .ref o] h top (fun r h' top' => r = some (.int (nI 1)) ∧ Q h' top') noX := by
  refine Cal.ofJH (by decide +kernel) rfl (Nat.le_of_ble_eq_true rfl) fun hz0 => ?_
  refine r_ls [some (.ref x), some (.int w1), some (.int w2), some (.ref o), none] rfl ?_
  refine r_aload_n (pc := 0) (i := 3) (tL_setWeight.at 0 rfl) rfl rfl ?_
  refine r_iconst (pc := 1) (w := nI 0) (tL_setWeight.at 1 rfl) (by decide) ?_
  refine r_aload_n (pc := 2) (i := 0) (tL_setWeight.at 2 rfl) rfl rfl ?_
  refine r_iload_n (pc := 3) (i := 1) (tL_setWeight.at 3 rfl) rfl rfl ?_
  refine r_iload_n (pc := 4) (i := 2) (tL_setWeight.at 4 rfl) rfl rfl ?_
  refine r_callVC (M' := mX10_setWeight) (pc := 5) (tL_setWeight.at 5 rfl) ml_L_70 rfl mw_X10_setWeight (fits_w (by decide)) hx rfl rfl hC rfl rfl (Nat.le_of_ble_eq_true rfl) (by show 0 + mc ≤ mc; omega) (by show 0 + ms ≤ ms; omega) (fun _ _ _ z => z.elim) ?_
  rintro _ q h1 top1 ⟨rfl, hq⟩
  refine ⟨[], ⟨0, 10, 13, 19⟩, [⟨0, 10, 17, 13⟩], iobE, rfl, ?_, rfl, by decide, kl_L_19, ca_iob, ?_⟩
  · exact fun z hz => nomatch hz
  · refine r_ls [some (.ref x), some (.int w1), some (.int w2), some (.ref o), none] rfl ?_
    refine r_astore (pc := 13) (i := 4) (tL_setWeight.at 9 rfl) (by decide) ?_
    refine r_iconst (pc := 15) (w := nI 1) (tL_setWeight.at 10 rfl) (by decide) ?_
    refine r_iret (pc := 16) (tL_setWeight.at 11 rfl) rfl (by show 0 + mc ≤ mc; omega) (by show 0 + ms ≤ ms; omega) ?_
    exact ⟨rfl, hq⟩
theorem wE_setWeight_2 {w1 w2 : Int32} (hx : h x = some (ob 10 fs)) (hC : Cal v mX10_setWeight d mc ms [.ref x, .int w1, .int w2] h top fX (fun E h' top' => E = iaE ∧ Q h' top')) : Cal v mL_setWeight (d + 1) mc ms [.ref x, .int w1, .int w2, .ref o] h top (fun r h' top' => r = some (.int (nI 2)) ∧ Q h' top') noX := by
  refine Cal.ofJH (by decide +kernel) rfl (Nat.le_of_ble_eq_true rfl) fun hz0 => ?_
  refine r_ls [some (.ref x), some (.int w1), some (.int w2), some (.ref o), none] rfl ?_
  refine r_aload_n (pc := 0) (i := 3) (tL_setWeight.at 0 rfl) rfl rfl ?_
  refine r_iconst (pc := 1) (w := nI 0) (tL_setWeight.at 1 rfl) (by decide) ?_
  refine r_aload_n (pc := 2) (i := 0) (tL_setWeight.at 2 rfl) rfl rfl ?_
  refine r_iload_n (pc := 3) (i := 1) (tL_setWeight.at 3 rfl) rfl rfl ?_
  refine r_iload_n (pc := 4) (i := 2) (tL_setWeight.at 4 rfl) rfl rfl ?_
  refine r_callVC (M' := mX10_setWeight) (pc := 5) (tL_setWeight.at 5 rfl) ml_L_70 rfl mw_X10_setWeight (fits_w (by decide)) hx rfl rfl hC rfl rfl (Nat.le_of_ble_eq_true rfl) (by show 0 + mc ≤ mc; omega) (by show 0 + ms ≤ ms; omega) (fun _ _ _ z => z.elim) ?_
  rintro _ q h1 top1 ⟨rfl, hq⟩
  refine ⟨[⟨0, 10, 13, 19⟩], ⟨0, 10, 17, 13⟩, [], iaE, rfl, ?_, rfl, by decide, kl_L_13, ca_ia, ?_⟩
  · intro z hz
    have hz2 : z = ⟨0, 10, 13, 19⟩ := by simpa using hz
    rcases hz2 with rfl
    · exact Or.inr ⟨by decide, iobE, kl_L_19, ex_ne.2.1, ex_ne.1, ex_ne.2.2.2.1.symm⟩
  · refine r_ls [some (.ref x), some (.int w1), some (.int w2), some (.ref o), none] rfl ?_
    refine r_astore (pc := 17) (i := 4) (tL_setWeight.at 12 rfl) (by decide) ?_
    refine r_iconst (pc := 19) (w := nI 2) (tL_setWeight.at 13 rfl) (by decide) ?_
    refine r_iret (pc := 20) (tL_setWeight.at 14 rfl) rfl (by show 0 + mc ≤ mc; omega) (by show 0 + ms ≤ ms; omega) ?_
    exact ⟨rfl, hq⟩
theorem wN_addEdge {w1 w2 w3 : Int32} {y : Int32} (hx : h x = some (ob 10 fs)) (hC : Cal v mX10_addEdge d mc ms [.ref x, .int w1, .int w2, .int w3] h top (fun r h' top' => r = some (.int y) ∧ Q h' top') noX) (ho : ∀ h' top', Q h' top' → ∃ fo, h' o = some (aJ v 1 fo)) : Cal v mL_addEdge (d + 1) mc ms [.ref x, .int w1, .int w2, .int w3, .ref o] h top (fun r h' top' => r = some (.int (nI 0)) ∧ ∃ h1 fo, Q h1 top' ∧ h1 o = some (aJ v 1 fo) ∧ h' = hp h1 o (aJ v 1 (vp_updL fo 0 y.toInt64))) noX := by
  refine Cal.ofJH (by decide +kernel) rfl (Nat.le_of_ble_eq_true rfl) fun hz0 => ?_
  refine r_ls [some (.ref x), some (.int w1), some (.int w2), some (.int w3), some (.ref o), none] rfl ?_
  refine r_aload (pc := 0) (i := 4) (tL_addEdge.at 0 rfl) rfl ?_
  refine r_iconst (pc := 2) (w := nI 0) (tL_addEdge.at 1 rfl) (by decide) ?_
  refine r_aload_n (pc := 3) (i := 0) (tL_addEdge.at 2 rfl) rfl rfl ?_
  refine r_iload_n (pc := 4) (i := 1) (tL_addEdge.at 3 rfl) rfl rfl ?_
  refine r_iload_n (pc := 5) (i := 2) (tL_addEdge.at 4 rfl) rfl rfl ?_
  refine r_iload_n (pc := 6) (i := 3) (tL_addEdge.at 5 rfl) rfl rfl ?_
  refine r_callVC (M' := mX10_addEdge) (pc := 7) (tL_addEdge.at 6 rfl) ml_L_73 rfl mw_X10_addEdge (fits_w (by decide)) hx rfl rfl hC rfl rfl (Nat.le_of_ble_eq_true rfl) (by show 0 + mc ≤ mc; omega) (by show 0 + ms ≤ ms; omega) ?_ (fun _ _ _ _ z => z.elim)
  rintro _ h1 top1 ⟨rfl, hq⟩
  obtain ⟨fo, hfo⟩ := ho _ _ hq
  first | refine r_i2lN (pc := 10) (tL_addEdge.at 7 rfl) (by omega) ?_ | refine r_i2l (pc := 10) (tL_addEdge.at 7 rfl) ?_
  refine r_last (pc := 11) (tL_addEdge.at 8 rfl) (hfo) (0) (rfl) (by omega) (Nat.le_of_ble_eq_true rfl) ?_
  refine r_goto (pc := 12) 27 (tL_addEdge.at 9 rfl) (by decide) ?_
  refine r_iconst (pc := 27) (w := nI 0) (tL_addEdge.at 19 rfl) (by decide) ?_
  refine r_iret (pc := 28) (tL_addEdge.at 20 rfl) rfl (by show 0 + mc ≤ mc; omega) (by show 0 + ms ≤ ms; omega) ?_
  exact ⟨rfl, h1, fo, hq, hfo, rfl⟩
theorem wE_addEdge_1 {w1 w2 w3 : Int32} (hx : h x = some (ob 10 fs)) (hC : Cal v mX10_addEdge d mc ms [.ref x, .int w1, .int w2, .int w3] h top fX (fun E h' top' => E = iobE ∧ Q h' top')) : Cal v mL_addEdge (d + 1) mc ms [.ref x, .int w1, .int w2, .int w3, .ref o] h top (fun r h' top' => r = some (.int (nI 1)) ∧ Q h' top') noX := by
  refine Cal.ofJH (by decide +kernel) rfl (Nat.le_of_ble_eq_true rfl) fun hz0 => ?_
  refine r_ls [some (.ref x), some (.int w1), some (.int w2), some (.int w3), some (.ref o), none] rfl ?_
  refine r_aload (pc := 0) (i := 4) (tL_addEdge.at 0 rfl) rfl ?_
  refine r_iconst (pc := 2) (w := nI 0) (tL_addEdge.at 1 rfl) (by decide) ?_
  refine r_aload_n (pc := 3) (i := 0) (tL_addEdge.at 2 rfl) rfl rfl ?_
  refine r_iload_n (pc := 4) (i := 1) (tL_addEdge.at 3 rfl) rfl rfl ?_
  refine r_iload_n (pc := 5) (i := 2) (tL_addEdge.at 4 rfl) rfl rfl ?_
  refine r_iload_n (pc := 6) (i := 3) (tL_addEdge.at 5 rfl) rfl rfl ?_
  refine r_callVC (M' := mX10_addEdge) (pc := 7) (tL_addEdge.at 6 rfl) ml_L_73 rfl mw_X10_addEdge (fits_w (by decide)) hx rfl rfl hC rfl rfl (Nat.le_of_ble_eq_true rfl) (by show 0 + mc ≤ mc; omega) (by show 0 + ms ≤ ms; omega) (fun _ _ _ z => z.elim) ?_
  rintro _ q h1 top1 ⟨rfl, hq⟩
  refine ⟨[], ⟨0, 12, 15, 19⟩, [⟨0, 12, 19, 13⟩, ⟨0, 12, 23, 35⟩], iobE, rfl, ?_, rfl, by decide, kl_L_19, ca_iob, ?_⟩
  · exact fun z hz => nomatch hz
  · refine r_ls [some (.ref x), some (.int w1), some (.int w2), some (.int w3), some (.ref o), none] rfl ?_
    refine r_astore (pc := 15) (i := 5) (tL_addEdge.at 10 rfl) (by decide) ?_
    refine r_iconst (pc := 17) (w := nI 1) (tL_addEdge.at 11 rfl) (by decide) ?_
    refine r_iret (pc := 18) (tL_addEdge.at 12 rfl) rfl (by show 0 + mc ≤ mc; omega) (by show 0 + ms ≤ ms; omega) ?_
    exact ⟨rfl, hq⟩
theorem wE_addEdge_2 {w1 w2 w3 : Int32} (hx : h x = some (ob 10 fs)) (hC : Cal v mX10_addEdge d mc ms [.ref x, .int w1, .int w2, .int w3] h top fX (fun E h' top' => E = iaE ∧ Q h' top')) : Cal v mL_addEdge (d + 1) mc ms [.ref x, .int w1, .int w2, .int w3, .ref o] h top (fun r h' top' => r = some (.int (nI 2)) ∧ Q h' top') noX := by
  refine Cal.ofJH (by decide +kernel) rfl (Nat.le_of_ble_eq_true rfl) fun hz0 => ?_
  refine r_ls [some (.ref x), some (.int w1), some (.int w2), some (.int w3), some (.ref o), none] rfl ?_
  refine r_aload (pc := 0) (i := 4) (tL_addEdge.at 0 rfl) rfl ?_
  refine r_iconst (pc := 2) (w := nI 0) (tL_addEdge.at 1 rfl) (by decide) ?_
  refine r_aload_n (pc := 3) (i := 0) (tL_addEdge.at 2 rfl) rfl rfl ?_
  refine r_iload_n (pc := 4) (i := 1) (tL_addEdge.at 3 rfl) rfl rfl ?_
  refine r_iload_n (pc := 5) (i := 2) (tL_addEdge.at 4 rfl) rfl rfl ?_
  refine r_iload_n (pc := 6) (i := 3) (tL_addEdge.at 5 rfl) rfl rfl ?_
  refine r_callVC (M' := mX10_addEdge) (pc := 7) (tL_addEdge.at 6 rfl) ml_L_73 rfl mw_X10_addEdge (fits_w (by decide)) hx rfl rfl hC rfl rfl (Nat.le_of_ble_eq_true rfl) (by show 0 + mc ≤ mc; omega) (by show 0 + ms ≤ ms; omega) (fun _ _ _ z => z.elim) ?_
  rintro _ q h1 top1 ⟨rfl, hq⟩
  refine ⟨[⟨0, 12, 15, 19⟩], ⟨0, 12, 19, 13⟩, [⟨0, 12, 23, 35⟩], iaE, rfl, ?_, rfl, by decide, kl_L_13, ca_ia, ?_⟩
  · intro z hz
    have hz2 : z = ⟨0, 12, 15, 19⟩ := by simpa using hz
    rcases hz2 with rfl
    · exact Or.inr ⟨by decide, iobE, kl_L_19, ex_ne.2.1, ex_ne.1, ex_ne.2.2.2.1.symm⟩
  · refine r_ls [some (.ref x), some (.int w1), some (.int w2), some (.int w3), some (.ref o), none] rfl ?_
    refine r_astore (pc := 19) (i := 5) (tL_addEdge.at 13 rfl) (by decide) ?_
    refine r_iconst (pc := 21) (w := nI 2) (tL_addEdge.at 14 rfl) (by decide) ?_
    refine r_iret (pc := 22) (tL_addEdge.at 15 rfl) rfl (by show 0 + mc ≤ mc; omega) (by show 0 + ms ≤ ms; omega) ?_
    exact ⟨rfl, hq⟩
theorem wE_addEdge_3 {w1 w2 w3 : Int32} (hx : h x = some (ob 10 fs)) (hC : Cal v mX10_addEdge d mc ms [.ref x, .int w1, .int w2, .int w3] h top fX (fun E h' top' => E = isE' ∧ Q h' top')) : Cal v mL_addEdge (d + 1) mc ms [.ref x, .int w1, .int w2, .int w3, .ref o] h top (fun r h' top' => r = some (.int (nI 3)) ∧ Q h' top') noX := by
  refine Cal.ofJH (by decide +kernel) rfl (Nat.le_of_ble_eq_true rfl) fun hz0 => ?_
  refine r_ls [some (.ref x), some (.int w1), some (.int w2), some (.int w3), some (.ref o), none] rfl ?_
  refine r_aload (pc := 0) (i := 4) (tL_addEdge.at 0 rfl) rfl ?_
  refine r_iconst (pc := 2) (w := nI 0) (tL_addEdge.at 1 rfl) (by decide) ?_
  refine r_aload_n (pc := 3) (i := 0) (tL_addEdge.at 2 rfl) rfl rfl ?_
  refine r_iload_n (pc := 4) (i := 1) (tL_addEdge.at 3 rfl) rfl rfl ?_
  refine r_iload_n (pc := 5) (i := 2) (tL_addEdge.at 4 rfl) rfl rfl ?_
  refine r_iload_n (pc := 6) (i := 3) (tL_addEdge.at 5 rfl) rfl rfl ?_
  refine r_callVC (M' := mX10_addEdge) (pc := 7) (tL_addEdge.at 6 rfl) ml_L_73 rfl mw_X10_addEdge (fits_w (by decide)) hx rfl rfl hC rfl rfl (Nat.le_of_ble_eq_true rfl) (by show 0 + mc ≤ mc; omega) (by show 0 + ms ≤ ms; omega) (fun _ _ _ z => z.elim) ?_
  rintro _ q h1 top1 ⟨rfl, hq⟩
  refine ⟨[⟨0, 12, 15, 19⟩, ⟨0, 12, 19, 13⟩], ⟨0, 12, 23, 35⟩, [], isE', rfl, ?_, rfl, by decide, kl_L_35, ca_is, ?_⟩
  · intro z hz
    have hz2 : z = ⟨0, 12, 15, 19⟩ ∨ z = ⟨0, 12, 19, 13⟩ := by simpa using hz
    rcases hz2 with rfl | rfl
    · exact Or.inr ⟨by decide, iobE, kl_L_19, ex_ne.2.2.1, ex_ne.1, ex_ne.2.2.2.2.1.symm⟩
    · exact Or.inr ⟨by decide, iaE, kl_L_13, ex_ne.2.2.1, ex_ne.2.1, ex_ne.2.2.2.2.2.symm⟩
  · refine r_ls [some (.ref x), some (.int w1), some (.int w2), some (.int w3), some (.ref o), none] rfl ?_
    refine r_astore (pc := 23) (i := 5) (tL_addEdge.at 16 rfl) (by decide) ?_
    refine r_iconst (pc := 25) (w := nI 3) (tL_addEdge.at 17 rfl) (by decide) ?_
    refine r_iret (pc := 26) (tL_addEdge.at 18 rfl) rfl (by show 0 + mc ≤ mc; omega) (by show 0 + ms ≤ ms; omega) ?_
    exact ⟨rfl, hq⟩
theorem wN_removeEdge {w1 : Int32} {y : Int32} (hx : h x = some (ob 10 fs)) (hC : Cal v mX10_removeEdge d mc ms [.ref x, .int w1] h top (fun r h' top' => r = some (.int y) ∧ Q h' top') noX) (ho : ∀ h' top', Q h' top' → ∃ fo, h' o = some (aJ v 1 fo)) : Cal v mL_removeEdge (d + 1) mc ms [.ref x, .int w1, .ref o] h top (fun r h' top' => r = some (.int (nI 0)) ∧ ∃ h1 fo, Q h1 top' ∧ h1 o = some (aJ v 1 fo) ∧ h' = hp h1 o (aJ v 1 (vp_updL fo 0 y.toInt64))) noX := by
  refine Cal.ofJH (by decide +kernel) rfl (Nat.le_of_ble_eq_true rfl) fun hz0 => ?_
  refine r_ls [some (.ref x), some (.int w1), some (.ref o), none] rfl ?_
  refine r_aload_n (pc := 0) (i := 2) (tL_removeEdge.at 0 rfl) rfl rfl ?_
  refine r_iconst (pc := 1) (w := nI 0) (tL_removeEdge.at 1 rfl) (by decide) ?_
  refine r_aload_n (pc := 2) (i := 0) (tL_removeEdge.at 2 rfl) rfl rfl ?_
  refine r_iload_n (pc := 3) (i := 1) (tL_removeEdge.at 3 rfl) rfl rfl ?_
  refine r_callVC (M' := mX10_removeEdge) (pc := 4) (tL_removeEdge.at 4 rfl) ml_L_77 rfl mw_X10_removeEdge (fits_w (by decide)) hx rfl rfl hC rfl rfl (Nat.le_of_ble_eq_true rfl) (by show 0 + mc ≤ mc; omega) (by show 0 + ms ≤ ms; omega) ?_ (fun _ _ _ _ z => z.elim)
  rintro _ h1 top1 ⟨rfl, hq⟩
  obtain ⟨fo, hfo⟩ := ho _ _ hq
  first | refine r_i2lN (pc := 7) (tL_removeEdge.at 5 rfl) (by omega) ?_ | refine r_i2l (pc := 7) (tL_removeEdge.at 5 rfl) ?_
  refine r_last (pc := 8) (tL_removeEdge.at 6 rfl) (hfo) (0) (rfl) (by omega) (Nat.le_of_ble_eq_true rfl) ?_
  refine r_goto (pc := 9) 15 (tL_removeEdge.at 7 rfl) (by decide) ?_
  refine r_iconst (pc := 15) (w := nI 0) (tL_removeEdge.at 11 rfl) (by decide) ?_
  refine r_iret (pc := 16) (tL_removeEdge.at 12 rfl) rfl (by show 0 + mc ≤ mc; omega) (by show 0 + ms ≤ ms; omega) ?_
  exact ⟨rfl, h1, fo, hq, hfo, rfl⟩
theorem wE_removeEdge_1 {w1 : Int32} (hx : h x = some (ob 10 fs)) (hC : Cal v mX10_removeEdge d mc ms [.ref x, .int w1] h top fX (fun E h' top' => E = iobE ∧ Q h' top')) : Cal v mL_removeEdge (d + 1) mc ms [.ref x, .int w1, .ref o] h top (fun r h' top' => r = some (.int (nI 1)) ∧ Q h' top') noX := by
  refine Cal.ofJH (by decide +kernel) rfl (Nat.le_of_ble_eq_true rfl) fun hz0 => ?_
  refine r_ls [some (.ref x), some (.int w1), some (.ref o), none] rfl ?_
  refine r_aload_n (pc := 0) (i := 2) (tL_removeEdge.at 0 rfl) rfl rfl ?_
  refine r_iconst (pc := 1) (w := nI 0) (tL_removeEdge.at 1 rfl) (by decide) ?_
  refine r_aload_n (pc := 2) (i := 0) (tL_removeEdge.at 2 rfl) rfl rfl ?_
  refine r_iload_n (pc := 3) (i := 1) (tL_removeEdge.at 3 rfl) rfl rfl ?_
  refine r_callVC (M' := mX10_removeEdge) (pc := 4) (tL_removeEdge.at 4 rfl) ml_L_77 rfl mw_X10_removeEdge (fits_w (by decide)) hx rfl rfl hC rfl rfl (Nat.le_of_ble_eq_true rfl) (by show 0 + mc ≤ mc; omega) (by show 0 + ms ≤ ms; omega) (fun _ _ _ z => z.elim) ?_
  rintro _ q h1 top1 ⟨rfl, hq⟩
  refine ⟨[], ⟨0, 9, 12, 19⟩, [], iobE, rfl, ?_, rfl, by decide, kl_L_19, ca_iob, ?_⟩
  · exact fun z hz => nomatch hz
  · refine r_ls [some (.ref x), some (.int w1), some (.ref o), none] rfl ?_
    refine r_astore_n (pc := 12) (i := 3) (tL_removeEdge.at 8 rfl) rfl (by decide) ?_
    refine r_iconst (pc := 13) (w := nI 1) (tL_removeEdge.at 9 rfl) (by decide) ?_
    refine r_iret (pc := 14) (tL_removeEdge.at 10 rfl) rfl (by show 0 + mc ≤ mc; omega) (by show 0 + ms ≤ ms; omega) ?_
    exact ⟨rfl, hq⟩
theorem wN_setAbsorbing {w1 w2 : Int32} {y : Int32} (hx : h x = some (ob 10 fs)) (hC : Cal v mX10_setAbsorbing d mc ms [.ref x, .int w1, .int w2] h top (fun r h' top' => r = some (.int y) ∧ Q h' top') noX) (ho : ∀ h' top', Q h' top' → ∃ fo, h' o = some (aJ v 1 fo)) : Cal v mL_setAbsorbing (d + 1) mc ms [.ref x, .int w1, .int w2, .ref o] h top (fun r h' top' => r = some (.int (nI 0)) ∧ ∃ h1 fo, Q h1 top' ∧ h1 o = some (aJ v 1 fo) ∧ h' = hp h1 o (aJ v 1 (vp_updL fo 0 y.toInt64))) noX := by
  refine Cal.ofJH (by decide +kernel) rfl (Nat.le_of_ble_eq_true rfl) fun hz0 => ?_
  refine r_ls [some (.ref x), some (.int w1), some (.int w2), some (.ref o), none] rfl ?_
  refine r_aload_n (pc := 0) (i := 3) (tL_setAbsorbing.at 0 rfl) rfl rfl ?_
  refine r_iconst (pc := 1) (w := nI 0) (tL_setAbsorbing.at 1 rfl) (by decide) ?_
  refine r_aload_n (pc := 2) (i := 0) (tL_setAbsorbing.at 2 rfl) rfl rfl ?_
  refine r_iload_n (pc := 3) (i := 1) (tL_setAbsorbing.at 3 rfl) rfl rfl ?_
  refine r_iload_n (pc := 4) (i := 2) (tL_setAbsorbing.at 4 rfl) rfl rfl ?_
  refine r_callVC (M' := mX10_setAbsorbing) (pc := 5) (tL_setAbsorbing.at 5 rfl) ml_L_80 rfl mw_X10_setAbsorbing (fits_w (by decide)) hx rfl rfl hC rfl rfl (Nat.le_of_ble_eq_true rfl) (by show 0 + mc ≤ mc; omega) (by show 0 + ms ≤ ms; omega) ?_ (fun _ _ _ _ z => z.elim)
  rintro _ h1 top1 ⟨rfl, hq⟩
  obtain ⟨fo, hfo⟩ := ho _ _ hq
  first | refine r_i2lN (pc := 8) (tL_setAbsorbing.at 6 rfl) (by omega) ?_ | refine r_i2l (pc := 8) (tL_setAbsorbing.at 6 rfl) ?_
  refine r_last (pc := 9) (tL_setAbsorbing.at 7 rfl) (hfo) (0) (rfl) (by omega) (Nat.le_of_ble_eq_true rfl) ?_
  refine r_goto (pc := 10) 17 (tL_setAbsorbing.at 8 rfl) (by decide) ?_
  refine r_iconst (pc := 17) (w := nI 0) (tL_setAbsorbing.at 12 rfl) (by decide) ?_
  refine r_iret (pc := 18) (tL_setAbsorbing.at 13 rfl) rfl (by show 0 + mc ≤ mc; omega) (by show 0 + ms ≤ ms; omega) ?_
  exact ⟨rfl, h1, fo, hq, hfo, rfl⟩
theorem wE_setAbsorbing_1 {w1 w2 : Int32} (hx : h x = some (ob 10 fs)) (hC : Cal v mX10_setAbsorbing d mc ms [.ref x, .int w1, .int w2] h top fX (fun E h' top' => E = iobE ∧ Q h' top')) : Cal v mL_setAbsorbing (d + 1) mc ms [.ref x, .int w1, .int w2, .ref o] h top (fun r h' top' => r = some (.int (nI 1)) ∧ Q h' top') noX := by
  refine Cal.ofJH (by decide +kernel) rfl (Nat.le_of_ble_eq_true rfl) fun hz0 => ?_
  refine r_ls [some (.ref x), some (.int w1), some (.int w2), some (.ref o), none] rfl ?_
  refine r_aload_n (pc := 0) (i := 3) (tL_setAbsorbing.at 0 rfl) rfl rfl ?_
  refine r_iconst (pc := 1) (w := nI 0) (tL_setAbsorbing.at 1 rfl) (by decide) ?_
  refine r_aload_n (pc := 2) (i := 0) (tL_setAbsorbing.at 2 rfl) rfl rfl ?_
  refine r_iload_n (pc := 3) (i := 1) (tL_setAbsorbing.at 3 rfl) rfl rfl ?_
  refine r_iload_n (pc := 4) (i := 2) (tL_setAbsorbing.at 4 rfl) rfl rfl ?_
  refine r_callVC (M' := mX10_setAbsorbing) (pc := 5) (tL_setAbsorbing.at 5 rfl) ml_L_80 rfl mw_X10_setAbsorbing (fits_w (by decide)) hx rfl rfl hC rfl rfl (Nat.le_of_ble_eq_true rfl) (by show 0 + mc ≤ mc; omega) (by show 0 + ms ≤ ms; omega) (fun _ _ _ z => z.elim) ?_
  rintro _ q h1 top1 ⟨rfl, hq⟩
  refine ⟨[], ⟨0, 10, 13, 19⟩, [], iobE, rfl, ?_, rfl, by decide, kl_L_19, ca_iob, ?_⟩
  · exact fun z hz => nomatch hz
  · refine r_ls [some (.ref x), some (.int w1), some (.int w2), some (.ref o), none] rfl ?_
    refine r_astore (pc := 13) (i := 4) (tL_setAbsorbing.at 9 rfl) (by decide) ?_
    refine r_iconst (pc := 15) (w := nI 1) (tL_setAbsorbing.at 10 rfl) (by decide) ?_
    refine r_iret (pc := 16) (tL_setAbsorbing.at 11 rfl) rfl (by show 0 + mc ≤ mc; omega) (by show 0 + ms ≤ ms; omega) ?_
    exact ⟨rfl, hq⟩
theorem wN_join {w1 w2 : Int32} {y : Int32} (hx : h x = some (ob 10 fs)) (hC : Cal v mX10_join d mc ms [.ref x, .int w1, .int w2] h top (fun r h' top' => r = some (.int y) ∧ Q h' top') noX) (ho : ∀ h' top', Q h' top' → ∃ fo, h' o = some (aJ v 1 fo)) : Cal v mL_join (d + 1) mc ms [.ref x, .int w1, .int w2, .ref o] h top (fun r h' top' => r = some (.int (nI 0)) ∧ ∃ h1 fo, Q h1 top' ∧ h1 o = some (aJ v 1 fo) ∧ h' = hp h1 o (aJ v 1 (vp_updL fo 0 y.toInt64))) noX := by
  refine Cal.ofJH (by decide +kernel) rfl (Nat.le_of_ble_eq_true rfl) fun hz0 => ?_
  refine r_ls [some (.ref x), some (.int w1), some (.int w2), some (.ref o), none] rfl ?_
  refine r_aload_n (pc := 0) (i := 3) (tL_join.at 0 rfl) rfl rfl ?_
  refine r_iconst (pc := 1) (w := nI 0) (tL_join.at 1 rfl) (by decide) ?_
  refine r_aload_n (pc := 2) (i := 0) (tL_join.at 2 rfl) rfl rfl ?_
  refine r_iload_n (pc := 3) (i := 1) (tL_join.at 3 rfl) rfl rfl ?_
  refine r_iload_n (pc := 4) (i := 2) (tL_join.at 4 rfl) rfl rfl ?_
  refine r_callVC (M' := mX10_join) (pc := 5) (tL_join.at 5 rfl) ml_L_84 rfl mw_X10_join (fits_w (by decide)) hx rfl rfl hC rfl rfl (Nat.le_of_ble_eq_true rfl) (by show 0 + mc ≤ mc; omega) (by show 0 + ms ≤ ms; omega) ?_ (fun _ _ _ _ z => z.elim)
  rintro _ h1 top1 ⟨rfl, hq⟩
  obtain ⟨fo, hfo⟩ := ho _ _ hq
  first | refine r_i2lN (pc := 8) (tL_join.at 6 rfl) (by omega) ?_ | refine r_i2l (pc := 8) (tL_join.at 6 rfl) ?_
  refine r_last (pc := 9) (tL_join.at 7 rfl) (hfo) (0) (rfl) (by omega) (Nat.le_of_ble_eq_true rfl) ?_
  refine r_goto (pc := 10) 17 (tL_join.at 8 rfl) (by decide) ?_
  refine r_iconst (pc := 17) (w := nI 0) (tL_join.at 12 rfl) (by decide) ?_
  refine r_iret (pc := 18) (tL_join.at 13 rfl) rfl (by show 0 + mc ≤ mc; omega) (by show 0 + ms ≤ ms; omega) ?_
  exact ⟨rfl, h1, fo, hq, hfo, rfl⟩
theorem wE_join_1 {w1 w2 : Int32} (hx : h x = some (ob 10 fs)) (hC : Cal v mX10_join d mc ms [.ref x, .int w1, .int w2] h top fX (fun E h' top' => E = iobE ∧ Q h' top')) : Cal v mL_join (d + 1) mc ms [.ref x, .int w1, .int w2, .ref o] h top (fun r h' top' => r = some (.int (nI 1)) ∧ Q h' top') noX := by
  refine Cal.ofJH (by decide +kernel) rfl (Nat.le_of_ble_eq_true rfl) fun hz0 => ?_
  refine r_ls [some (.ref x), some (.int w1), some (.int w2), some (.ref o), none] rfl ?_
  refine r_aload_n (pc := 0) (i := 3) (tL_join.at 0 rfl) rfl rfl ?_
  refine r_iconst (pc := 1) (w := nI 0) (tL_join.at 1 rfl) (by decide) ?_
  refine r_aload_n (pc := 2) (i := 0) (tL_join.at 2 rfl) rfl rfl ?_
  refine r_iload_n (pc := 3) (i := 1) (tL_join.at 3 rfl) rfl rfl ?_
  refine r_iload_n (pc := 4) (i := 2) (tL_join.at 4 rfl) rfl rfl ?_
  refine r_callVC (M' := mX10_join) (pc := 5) (tL_join.at 5 rfl) ml_L_84 rfl mw_X10_join (fits_w (by decide)) hx rfl rfl hC rfl rfl (Nat.le_of_ble_eq_true rfl) (by show 0 + mc ≤ mc; omega) (by show 0 + ms ≤ ms; omega) (fun _ _ _ z => z.elim) ?_
  rintro _ q h1 top1 ⟨rfl, hq⟩
  refine ⟨[], ⟨0, 10, 13, 19⟩, [], iobE, rfl, ?_, rfl, by decide, kl_L_19, ca_iob, ?_⟩
  · exact fun z hz => nomatch hz
  · refine r_ls [some (.ref x), some (.int w1), some (.int w2), some (.ref o), none] rfl ?_
    refine r_astore (pc := 13) (i := 4) (tL_join.at 9 rfl) (by decide) ?_
    refine r_iconst (pc := 15) (w := nI 1) (tL_join.at 10 rfl) (by decide) ?_
    refine r_iret (pc := 16) (tL_join.at 11 rfl) rfl (by show 0 + mc ≤ mc; omega) (by show 0 + ms ≤ ms; omega) ?_
    exact ⟨rfl, hq⟩
theorem wN_separate {w1 : Int32} {y : Int32} (hx : h x = some (ob 10 fs)) (hC : Cal v mX10_separate d mc ms [.ref x, .int w1] h top (fun r h' top' => r = some (.int y) ∧ Q h' top') noX) (ho : ∀ h' top', Q h' top' → ∃ fo, h' o = some (aJ v 1 fo)) : Cal v mL_separate (d + 1) mc ms [.ref x, .int w1, .ref o] h top (fun r h' top' => r = some (.int (nI 0)) ∧ ∃ h1 fo, Q h1 top' ∧ h1 o = some (aJ v 1 fo) ∧ h' = hp h1 o (aJ v 1 (vp_updL fo 0 y.toInt64))) noX := by
  refine Cal.ofJH (by decide +kernel) rfl (Nat.le_of_ble_eq_true rfl) fun hz0 => ?_
  refine r_ls [some (.ref x), some (.int w1), some (.ref o), none] rfl ?_
  refine r_aload_n (pc := 0) (i := 2) (tL_separate.at 0 rfl) rfl rfl ?_
  refine r_iconst (pc := 1) (w := nI 0) (tL_separate.at 1 rfl) (by decide) ?_
  refine r_aload_n (pc := 2) (i := 0) (tL_separate.at 2 rfl) rfl rfl ?_
  refine r_iload_n (pc := 3) (i := 1) (tL_separate.at 3 rfl) rfl rfl ?_
  refine r_callVC (M' := mX10_separate) (pc := 4) (tL_separate.at 4 rfl) ml_L_87 rfl mw_X10_separate (fits_w (by decide)) hx rfl rfl hC rfl rfl (Nat.le_of_ble_eq_true rfl) (by show 0 + mc ≤ mc; omega) (by show 0 + ms ≤ ms; omega) ?_ (fun _ _ _ _ z => z.elim)
  rintro _ h1 top1 ⟨rfl, hq⟩
  obtain ⟨fo, hfo⟩ := ho _ _ hq
  first | refine r_i2lN (pc := 7) (tL_separate.at 5 rfl) (by omega) ?_ | refine r_i2l (pc := 7) (tL_separate.at 5 rfl) ?_
  refine r_last (pc := 8) (tL_separate.at 6 rfl) (hfo) (0) (rfl) (by omega) (Nat.le_of_ble_eq_true rfl) ?_
  refine r_goto (pc := 9) 15 (tL_separate.at 7 rfl) (by decide) ?_
  refine r_iconst (pc := 15) (w := nI 0) (tL_separate.at 11 rfl) (by decide) ?_
  refine r_iret (pc := 16) (tL_separate.at 12 rfl) rfl (by show 0 + mc ≤ mc; omega) (by show 0 + ms ≤ ms; omega) ?_
  exact ⟨rfl, h1, fo, hq, hfo, rfl⟩
theorem wE_separate_1 {w1 : Int32} (hx : h x = some (ob 10 fs)) (hC : Cal v mX10_separate d mc ms [.ref x, .int w1] h top fX (fun E h' top' => E = iobE ∧ Q h' top')) : Cal v mL_separate (d + 1) mc ms [.ref x, .int w1, .ref o] h top (fun r h' top' => r = some (.int (nI 1)) ∧ Q h' top') noX := by
  refine Cal.ofJH (by decide +kernel) rfl (Nat.le_of_ble_eq_true rfl) fun hz0 => ?_
  refine r_ls [some (.ref x), some (.int w1), some (.ref o), none] rfl ?_
  refine r_aload_n (pc := 0) (i := 2) (tL_separate.at 0 rfl) rfl rfl ?_
  refine r_iconst (pc := 1) (w := nI 0) (tL_separate.at 1 rfl) (by decide) ?_
  refine r_aload_n (pc := 2) (i := 0) (tL_separate.at 2 rfl) rfl rfl ?_
  refine r_iload_n (pc := 3) (i := 1) (tL_separate.at 3 rfl) rfl rfl ?_
  refine r_callVC (M' := mX10_separate) (pc := 4) (tL_separate.at 4 rfl) ml_L_87 rfl mw_X10_separate (fits_w (by decide)) hx rfl rfl hC rfl rfl (Nat.le_of_ble_eq_true rfl) (by show 0 + mc ≤ mc; omega) (by show 0 + ms ≤ ms; omega) (fun _ _ _ z => z.elim) ?_
  rintro _ q h1 top1 ⟨rfl, hq⟩
  refine ⟨[], ⟨0, 9, 12, 19⟩, [], iobE, rfl, ?_, rfl, by decide, kl_L_19, ca_iob, ?_⟩
  · exact fun z hz => nomatch hz
  · refine r_ls [some (.ref x), some (.int w1), some (.ref o), none] rfl ?_
    refine r_astore_n (pc := 12) (i := 3) (tL_separate.at 8 rfl) rfl (by decide) ?_
    refine r_iconst (pc := 13) (w := nI 1) (tL_separate.at 9 rfl) (by decide) ?_
    refine r_iret (pc := 14) (tL_separate.at 10 rfl) rfl (by show 0 + mc ≤ mc; omega) (by show 0 + ms ≤ ms; omega) ?_
    exact ⟨rfl, hq⟩
end

