/-! ===== the reference: the tables of a graph ===== -/
def per (S S' : MS) : Prop := (S'.now = S.now ∧ S'.und = S.und ∧ S'.byt = S.byt ∧ S'.eat = S.eat) ∧ S'.rws = S.rws ∧ S'.txt = S.txt
theorem per.refl (S : MS) : per S S := ⟨⟨rfl, rfl, rfl, rfl⟩, rfl, rfl⟩
theorem per.trans {A B C : MS} (h : per A B) (k : per B C) : per A C := ⟨⟨k.1.1.trans h.1.1, k.1.2.1.trans h.1.2.1, k.1.2.2.1.trans h.1.2.2.1, k.1.2.2.2.trans h.1.2.2.2⟩, k.2.1.trans h.2.1, k.2.2.trans h.2.2⟩
theorem per.rw {S S' : MS} (h : per S S') (k : Nat) : S'.rw k = S.rw k := by unfold MS.rw; rw [h.2.1, h.1.1]
theorem per.mcs {S S' : MS} (h : per S S') : S'.mcs = S.mcs := by
  have e1 : S'.ckd = S.ckd := funext fun k => h.rw _
  have e2 : S'.cwi = S.cwi := funext fun k => h.rw _
  funext w x y
  unfold MS.mcs
  rw [e1, e2, h.rw]
theorem per.cd {S S' : MS} (h : per S S') (k : okCd S) : okCd S' := by
  have e1 : S'.ckd = S.ckd := funext fun k => h.rw _
  have e2 : S'.cwi = S.cwi := funext fun k => h.rw _
  unfold okCd at *
  rw [e1, e2, h.rw]
  exact k
/-- the row holds the graph -/
def rwG (S : MS) (G : GT) : Prop := S.now < 9 ∧ S.rw 0 = G.n ∧ S.rw 1 = G.e ∧ S.rw 2 = G.a ∧ (∀ i, i < G.e → S.rw (4 + 3 * i) = G.L i ∧ S.rw (4 + 3 * i + 1) = G.H i ∧ S.rw (4 + 3 * i + 2) = G.W (G.L i * 6 + G.H i)) ∧ ∀ k, k < G.n → S.rw (49 + k) = G.B k
theorem per.rwG {S S' : MS} (h : per S S') {G : GT} (k : rwG S G) : rwG S' G := by
  refine ⟨?_, ?_, ?_, ?_, fun i hi => ?_, fun i hi => ?_⟩
  · rw [h.1.1]; exact k.1
  · rw [h.rw]; exact k.2.1
  · rw [h.rw]; exact k.2.2.1
  · rw [h.rw]; exact k.2.2.2.1
  · rw [h.rw, h.rw, h.rw]; exact k.2.2.2.2.1 i hi
  · rw [h.rw]; exact k.2.2.2.2.2 i hi
/-- a graph as it should be -/
def wfG (G : GT) : Prop := okG G ∧ (∀ i, i < G.e → G.L i < G.H i ∧ G.H i < G.n ∧ 0 < G.W (G.L i * 6 + G.H i)) ∧ (∀ i j, i < G.e → j < G.e → G.L i = G.L j → G.H i = G.H j → i = j) ∧ (∀ x y, x < 6 → y < 6 → G.W (x * 6 + y) = G.W (y * 6 + x)) ∧ (∀ x y, x < y → y < 6 → G.W (x * 6 + y) ≠ 0 → ∃ i, i < G.e ∧ G.L i = x ∧ G.H i = y) ∧ ∀ x, x < 6 → G.W (x * 6 + x) = 0
def cdOk (S : MS) (G : GT) (cn : Nat) (cc : Nat → Int) : Prop := okCd S ∧ ∀ x y, x < 6 → y < 6 → S.mcs (G.W (x * 6 + y)) x y = cst G.W cc cn x y
def RW (S : MS) (G : GT) (cn : Nat) (cc : Nat → Int) : Prop := rwG S G ∧ wfG G ∧ cdOk S G cn cc
theorem per.RW {S S' : MS} (h : per S S') {G : GT} {cn : Nat} {cc : Nat → Int} (k : RW S G cn cc) : RW S' G cn cc := ⟨h.rwG k.1, k.2.1, h.cd k.2.2.1, fun x y hx hy => by rw [h.mcs]; exact k.2.2.2 x y hx hy⟩
/-- the weights after the first e edges -/
def wtE (G : GT) : Nat → Nat → Nat
  | 0 => fun _ => 0
  | e + 1 => upN (upN (wtE G e) (G.L e * 6 + G.H e) (G.W (G.L e * 6 + G.H e))) (G.H e * 6 + G.L e) (G.W (G.L e * 6 + G.H e))
theorem up_tr {f g : Nat → Nat} {i j k l w : Nat} (h : k = i ↔ l = j) (e : f k = g l) : upN f i w k = upN g j w l := by
  unfold upN
  by_cases c : k = i
  · rw [if_pos c, if_pos (h.mp c)]
  · rw [if_neg c, if_neg (fun z => c (h.mpr z))]
    exact e
theorem wfG.w9 {G : GT} (h : wfG G) : ∀ k, k < 36 → G.W k ≤ 9 := h.1.2.2.2.2
theorem wtE_0 {G : GT} (h : wfG G) : ∀ e, e ≤ G.e → ∀ x y, x < 6 → y < 6 → wtE G e (x * 6 + y) = 0 ∨ ∃ i, i < e ∧ ((G.L i = x ∧ G.H i = y) ∨ (G.H i = x ∧ G.L i = y))
  | 0, _, x, y, _, _ => Or.inl rfl
  | e + 1, he, x, y, hx, hy => by
    obtain ⟨l1, l2, -⟩ := h.2.1 e (by omega)
    have hn := h.1.1
    rw [wtE]
    by_cases c1 : x * 6 + y = G.H e * 6 + G.L e
    · exact Or.inr ⟨e, by omega, by omega⟩
    · rw [upN_ne _ _ c1]
      by_cases c2 : x * 6 + y = G.L e * 6 + G.H e
      · exact Or.inr ⟨e, by omega, by omega⟩
      · rw [upN_ne _ _ c2]
        rcases wtE_0 h e (by omega) x y hx hy with k | ⟨i, hi, k⟩
        · exact Or.inl k
        · exact Or.inr ⟨i, by omega, k⟩
theorem wtE_v {G : GT} (h : wfG G) : ∀ e, e ≤ G.e → ∀ x y, x < 6 → y < 6 → wtE G e (x * 6 + y) = 0 ∨ wtE G e (x * 6 + y) = G.W (x * 6 + y)
  | 0, _, x, y, _, _ => Or.inl rfl
  | e + 1, he, x, y, hx, hy => by
    obtain ⟨l1, l2, -⟩ := h.2.1 e (by omega)
    have hn := h.1.1
    rw [wtE]
    by_cases c1 : x * 6 + y = G.H e * 6 + G.L e
    · rw [c1, upN_eq]
      exact Or.inr (h.2.2.2.1 _ _ (by omega) (by omega))
    · rw [upN_ne _ _ c1]
      by_cases c2 : x * 6 + y = G.L e * 6 + G.H e
      · rw [c2, upN_eq]
        exact Or.inr rfl
      · rw [upN_ne _ _ c2]
        exact wtE_v h e (by omega) x y hx hy
theorem wtE_p {G : GT} (h : wfG G) : ∀ e, e ≤ G.e → ∀ i, i < e → wtE G e (G.L i * 6 + G.H i) ≠ 0 ∧ wtE G e (G.H i * 6 + G.L i) ≠ 0
  | 0, _, i, hi => by omega
  | e + 1, he, i, hi => by
    obtain ⟨l1, l2, l3⟩ := h.2.1 e (by omega)
    obtain ⟨m1, m2, m3⟩ := h.2.1 i (by omega)
    have ih := fun hie : i < e => wtE_p h e (by omega) i hie
    have key : ∀ k, (k = G.H e * 6 + G.L e ∨ k = G.L e * 6 + G.H e ∨ wtE G e k ≠ 0) → wtE G (e + 1) k ≠ 0 := by
      intro k hk
      rw [wtE]
      by_cases c1 : k = G.H e * 6 + G.L e
      · rw [c1, upN_eq]
        omega
      · rw [upN_ne _ _ c1]
        by_cases c2 : k = G.L e * 6 + G.H e
        · rw [c2, upN_eq]
          omega
        · rw [upN_ne _ _ c2]
          rcases hk with z | z | z
          · exact absurd z c1
          · exact absurd z c2
          · exact z
    by_cases c : i = e
    · subst c
      exact ⟨key _ (Or.inr (Or.inl rfl)), key _ (Or.inl rfl)⟩
    · exact ⟨key _ (Or.inr (Or.inr (ih (by omega)).1)), key _ (Or.inr (Or.inr (ih (by omega)).2))⟩
theorem wtE_all {G : GT} (h : wfG G) {x y : Nat} (hx : x < 6) (hy : y < 6) : wtE G G.e (x * 6 + y) = G.W (x * 6 + y) := by
  rcases wtE_v h G.e (Nat.le_refl _) x y hx hy with k | k
  · by_cases c : G.W (x * 6 + y) = 0
    · rw [k, c]
    · exfalso
      rcases Nat.lt_trichotomy x y with q | q | q
      · obtain ⟨i, hi, rfl, rfl⟩ := h.2.2.2.2.1 x y q hy c
        exact (wtE_p h G.e (Nat.le_refl _) i hi).1 k
      · subst q
        exact c (h.2.2.2.2.2 x hx)
      · obtain ⟨i, hi, rfl, rfl⟩ := h.2.2.2.2.1 y x q hx (by rw [h.2.2.2.1 y x hy hx]; exact c)
        exact (wtE_p h G.e (Nat.le_refl _) i hi).2 k
  · exact k
theorem sN_up {f g : Nat → Nat} {u w : Nat} : ∀ n, u < n → (∀ k, k < n → k ≠ u → g k = f k) → g u = f u + w → sN g n = sN f n + w
  | 0, h, _, _ => by omega
  | n + 1, h, h1, h2 => by
    rw [sN, sN]
    by_cases c : u = n
    · subst c
      rw [sN_cong u (fun k hk => h1 k (by omega) (by omega)), h2]
      omega
    · rw [sN_up n (by omega) (fun k hk hk2 => h1 k (by omega) hk2) h2, h1 n (by omega) (by omega)]
      omega
theorem degE {G : GT} (h : wfG G) {e x : Nat} (he : e < G.e) (hx : x < 6) : degN (wtE G (e + 1)) x G.n = upN (upN (fun k => degN (wtE G e) k G.n) (G.L e) (degN (wtE G e) (G.L e) G.n + G.W (G.L e * 6 + G.H e))) (G.H e) (degN (wtE G e) (G.H e) G.n + G.W (G.L e * 6 + G.H e)) x := by
  obtain ⟨l1, l2, l3⟩ := h.2.1 e he
  have hn := h.1.1
  have z : ∀ x y, x < 6 → y < 6 → ((G.L e = x ∧ G.H e = y) ∨ (G.H e = x ∧ G.L e = y)) → wtE G e (x * 6 + y) = 0 := by
    intro x y hx hy hxy
    rcases wtE_0 h e (by omega) x y hx hy with k | ⟨i, hi, k⟩
    · exact k
    · exfalso
      obtain ⟨m1, m2, m3⟩ := h.2.1 i (by omega)
      have := h.2.2.1 i e (by omega) he (by omega) (by omega)
      omega
  by_cases c1 : x = G.H e
  · subst c1
    rw [upN_eq]
    refine sN_up G.n (u := G.L e) (by omega) (fun k hk hk2 => ?_) ?_
    · show wtE G (e + 1) _ = _
      rw [wtE, upN_ne _ _ (by omega), upN_ne _ _ (by omega)]
    · show wtE G (e + 1) _ = wtE G e _ + _
      rw [wtE, upN_eq, z _ _ (by omega) (by omega) (by omega)]
      omega
  · rw [upN_ne _ _ c1]
    by_cases c2 : x = G.L e
    · subst c2
      rw [upN_eq]
      refine sN_up G.n (u := G.H e) (by omega) (fun k hk hk2 => ?_) ?_
      · show wtE G (e + 1) _ = _
        rw [wtE, upN_ne _ _ (by omega), upN_ne _ _ (by omega)]
      · show wtE G (e + 1) _ = wtE G e _ + _
        rw [wtE, upN_ne _ _ (by omega), upN_eq, z _ _ (by omega) (by omega) (by omega)]
        omega
    · rw [upN_ne _ _ c2]
      refine sN_cong G.n (fun k hk => ?_)
      show wtE G (e + 1) _ = _
      rw [wtE, upN_ne _ _ (by omega), upN_ne _ _ (by omega)]
theorem deg_all {G : GT} (h : wfG G) {x : Nat} (hx : x < 6) : degN (wtE G G.e) x G.n = degN G.W x G.n := sN_cong _ (fun k hk => wtE_all h hx (by have := h.1.1; omega))
/-- the tables hold the graph's -/
def lad (S : MS) (G : GT) (cn : Nat) (cc : Nat → Int) : Prop := (∀ a b, a < 6 → b < 6 → S.wts (6 * a + b) = G.W (a * 6 + b) ∧ S.cst (6 * a + b) = tbl G cn cc (a * 6 + b)) ∧ ∀ x, x < 6 → S.dgs x = degN G.W x G.n
def MS.lay (S : MS) (W C D : Nat → Nat) (p : Nat → Int) : MS := (((S.s_wts W).s_cst C).s_dgs D).s_pil p
def pLad (v : Ev) (h : Hp) (m : Nat) (S : MS) (top : Nat) (G : GT) (cn : Nat) (cc : Nat → Int) : Option Value → Hp → Nat → Prop := fun r h' top' => r = none ∧ top = top' ∧ ∃ S', h' = mH v h m S' ∧ per S S' ∧ S'.thr = S.thr ∧ lad S' G cn cc
section
variable {v : Ev} {h : Hp} {top m : Nat} {S : MS} {G : GT} {cn : Nat} {cc : Nat → Int}
theorem c_mLays (hr : RW S G cn cc) : Cal v mX11_lays 3 0 0 [.ref m] (mH v h m S) top (pLad v h m S top G cn cc) noX := by
  obtain ⟨hg, hw, hcd⟩ := hr
  have hn := hg.1
  have h6 := hw.1.1
  have h15 := hw.1.2.1
  refine Cal.ofJ (by decide +kernel) rfl (Nat.le_of_ble_eq_true rfl) fun hz0 => ?_
  refine r_ls [some (.ref m), none, none, none, none] rfl ?_
  generalize hPo : pLad v h m S top G cn cc = Po
  have k3 : ∀ n e (W C D : Nat → Nat) (p : Nat → Int) o2 o3 o4, e + n = G.e → (∀ a b, a < 6 → b < 6 → W (6 * a + b) = wtE G e (a * 6 + b) ∧ C (6 * a + b) = tbS G.W cc cn G.L G.H (fun _ => 0) e (a * 6 + b)) → (∀ x, x < 6 → D x = degN (wtE G e) x G.n) → J v mX11_lays (rmOf 3 0 0) (KM v Po noX 0 0) top 0 0 (mH v h m (S.lay W C D p)) top 51 [some (.ref m), some (.int (nI e)), o2, o3, o4] [] := by
    intro n
    induction n with
    | zero =>
      intro e W C D p o2 o3 o4 he hWC hD
      have he : e = G.e := by omega
      subst he
      refine r_iload_n (pc := 51) (i := 1) (tX11_lays.at 31 rfl) rfl rfl ?_
      refine r_aload_n (pc := 52) (i := 0) (tX11_lays.at 32 rfl) rfl rfl ?_
      refine r_iconst (pc := 53) (w := nI 1) (tX11_lays.at 33 rfl) (by decide) ?_
      refine r_callV (M' := mX11_get) (pc := 54) (tX11_lays.at 34 rfl) ml_X11_61 rfl mw_X11_get ⟨by decide, by decide⟩ (mH_0) rfl rfl (c_mGet (S := S.lay W C D p) (k := 1) hn (by omega)) rfl rfl (Nat.le_of_ble_eq_true rfl) (Nat.le_of_ble_eq_true rfl) (Nat.le_of_ble_eq_true rfl) ?_
      rintro _ _ _ ⟨rfl, rfl, rfl⟩
      rw [show (S.lay W C D p).rw 1 = G.e from hg.2.2.1]
      refine r_icmp_geN (pc := 57) 187 (tX11_lays.at 35 rfl) (by decide) (by omega) (by omega) (fun _ => ?_) (fun c => by omega)
      refine r_vret (pc := 187) (tX11_lays.at 126 rfl) rfl (Nat.le_of_ble_eq_true rfl) (Nat.le_of_ble_eq_true rfl) ?_
      subst hPo
      refine ⟨rfl, rfl, S.lay W C D p, rfl, ⟨⟨rfl, rfl, rfl, rfl⟩, rfl, rfl⟩, rfl, fun a b ha hb => ?_, fun x hx => ?_⟩
      · exact ⟨(hWC a b ha hb).1.trans (wtE_all hw ha hb), (hWC a b ha hb).2⟩
      · exact (hD x hx).trans (deg_all hw hx)
    | succ n ih =>
      intro e W C D p o2 o3 o4 he hWC hD
      obtain ⟨w1, w2, w3⟩ := hg.2.2.2.2.1 e (by omega)
      obtain ⟨l1, l2, l3⟩ := hw.2.1 e (by omega)
      have hw9 := hw.w9 (G.L e * 6 + G.H e) (by omega)
      refine r_iload_n (pc := 51) (i := 1) (tX11_lays.at 31 rfl) rfl rfl ?_
      refine r_aload_n (pc := 52) (i := 0) (tX11_lays.at 32 rfl) rfl rfl ?_
      refine r_iconst (pc := 53) (w := nI 1) (tX11_lays.at 33 rfl) (by decide) ?_
      refine r_callV (M' := mX11_get) (pc := 54) (tX11_lays.at 34 rfl) ml_X11_61 rfl mw_X11_get ⟨by decide, by decide⟩ (mH_0) rfl rfl (c_mGet (S := S.lay W C D p) (k := 1) hn (by omega)) rfl rfl (Nat.le_of_ble_eq_true rfl) (Nat.le_of_ble_eq_true rfl) (Nat.le_of_ble_eq_true rfl) ?_
      rintro _ _ _ ⟨rfl, rfl, rfl⟩
      rw [show (S.lay W C D p).rw 1 = G.e from hg.2.2.1]
      refine r_icmp_geN (pc := 57) 187 (tX11_lays.at 35 rfl) (by decide) (by omega) (by omega) (fun c => by omega) (fun _ => ?_)
      refine r_aload_n (pc := 60) (i := 0) (tX11_lays.at 36 rfl) rfl rfl ?_
      refine r_iconst (pc := 61) (w := nI 4) (tX11_lays.at 37 rfl) (by decide) ?_
      refine r_iconst (pc := 62) (w := nI 3) (tX11_lays.at 38 rfl) (by decide) ?_
      refine r_iload_n (pc := 63) (i := 1) (tX11_lays.at 39 rfl) rfl rfl ?_
      first | refine r_imulN (pc := 64) (tX11_lays.at 40 rfl) ?_ | refine r_imulZ (pc := 64) (tX11_lays.at 40 rfl) ?_ | refine r_imul (pc := 64) (tX11_lays.at 40 rfl) ?_
      first | refine r_iaddN (pc := 65) (tX11_lays.at 41 rfl) ?_ | refine r_iaddZ (pc := 65) (tX11_lays.at 41 rfl) ?_ | refine r_iadd (pc := 65) (tX11_lays.at 41 rfl) ?_
      refine r_callV (M' := mX11_get) (pc := 66) (tX11_lays.at 42 rfl) ml_X11_61 rfl mw_X11_get ⟨by decide, by decide⟩ (mH_0) rfl rfl (c_mGet (S := S.lay W C D p) (k := 4 + 3 * e) hn (by omega)) rfl rfl (Nat.le_of_ble_eq_true rfl) (Nat.le_of_ble_eq_true rfl) (Nat.le_of_ble_eq_true rfl) ?_
      rintro _ _ _ ⟨rfl, rfl, rfl⟩
      rw [show (S.lay W C D p).rw (4 + 3 * e) = G.L e from w1]
      refine r_istore_n (pc := 69) (i := 2) (tX11_lays.at 43 rfl) rfl (by decide) ?_
      refine r_aload_n (pc := 70) (i := 0) (tX11_lays.at 44 rfl) rfl rfl ?_
      refine r_iconst (pc := 71) (w := nI 4) (tX11_lays.at 45 rfl) (by decide) ?_
      refine r_iconst (pc := 72) (w := nI 3) (tX11_lays.at 46 rfl) (by decide) ?_
      refine r_iload_n (pc := 73) (i := 1) (tX11_lays.at 47 rfl) rfl rfl ?_
      first | refine r_imulN (pc := 74) (tX11_lays.at 48 rfl) ?_ | refine r_imulZ (pc := 74) (tX11_lays.at 48 rfl) ?_ | refine r_imul (pc := 74) (tX11_lays.at 48 rfl) ?_
      first | refine r_iaddN (pc := 75) (tX11_lays.at 49 rfl) ?_ | refine r_iaddZ (pc := 75) (tX11_lays.at 49 rfl) ?_ | refine r_iadd (pc := 75) (tX11_lays.at 49 rfl) ?_
      refine r_iconst (pc := 76) (w := nI 1) (tX11_lays.at 50 rfl) (by decide) ?_
      first | refine r_iaddN (pc := 77) (tX11_lays.at 51 rfl) ?_ | refine r_iaddZ (pc := 77) (tX11_lays.at 51 rfl) ?_ | refine r_iadd (pc := 77) (tX11_lays.at 51 rfl) ?_
      refine r_callV (M' := mX11_get) (pc := 78) (tX11_lays.at 52 rfl) ml_X11_61 rfl mw_X11_get ⟨by decide, by decide⟩ (mH_0) rfl rfl (c_mGet (S := S.lay W C D p) (k := 4 + 3 * e + 1) hn (by omega)) rfl rfl (Nat.le_of_ble_eq_true rfl) (Nat.le_of_ble_eq_true rfl) (Nat.le_of_ble_eq_true rfl) ?_
      rintro _ _ _ ⟨rfl, rfl, rfl⟩
      rw [show (S.lay W C D p).rw (4 + 3 * e + 1) = G.H e from w2]
      refine r_istore_n (pc := 81) (i := 3) (tX11_lays.at 53 rfl) rfl (by decide) ?_
      refine r_aload_n (pc := 82) (i := 0) (tX11_lays.at 54 rfl) rfl rfl ?_
      refine r_iconst (pc := 83) (w := nI 4) (tX11_lays.at 55 rfl) (by decide) ?_
      refine r_iconst (pc := 84) (w := nI 3) (tX11_lays.at 56 rfl) (by decide) ?_
      refine r_iload_n (pc := 85) (i := 1) (tX11_lays.at 57 rfl) rfl rfl ?_
      first | refine r_imulN (pc := 86) (tX11_lays.at 58 rfl) ?_ | refine r_imulZ (pc := 86) (tX11_lays.at 58 rfl) ?_ | refine r_imul (pc := 86) (tX11_lays.at 58 rfl) ?_
      first | refine r_iaddN (pc := 87) (tX11_lays.at 59 rfl) ?_ | refine r_iaddZ (pc := 87) (tX11_lays.at 59 rfl) ?_ | refine r_iadd (pc := 87) (tX11_lays.at 59 rfl) ?_
      refine r_iconst (pc := 88) (w := nI 2) (tX11_lays.at 60 rfl) (by decide) ?_
      first | refine r_iaddN (pc := 89) (tX11_lays.at 61 rfl) ?_ | refine r_iaddZ (pc := 89) (tX11_lays.at 61 rfl) ?_ | refine r_iadd (pc := 89) (tX11_lays.at 61 rfl) ?_
      refine r_callV (M' := mX11_get) (pc := 90) (tX11_lays.at 62 rfl) ml_X11_61 rfl mw_X11_get ⟨by decide, by decide⟩ (mH_0) rfl rfl (c_mGet (S := S.lay W C D p) (k := 4 + 3 * e + 2) hn (by omega)) rfl rfl (Nat.le_of_ble_eq_true rfl) (Nat.le_of_ble_eq_true rfl) (Nat.le_of_ble_eq_true rfl) ?_
      rintro _ _ _ ⟨rfl, rfl, rfl⟩
      rw [show (S.lay W C D p).rw (4 + 3 * e + 2) = G.W (G.L e * 6 + G.H e) from w3]
      refine r_istore (pc := 93) (i := 4) (tX11_lays.at 63 rfl) (by decide) ?_
      refine r_aload_n (pc := 95) (i := 0) (tX11_lays.at 64 rfl) rfl rfl ?_
      refine r_get (pc := 96) (tX11_lays.at 65 rfl) gf_X11_23 (mH_0) rfl ?_
      refine r_bipush (pc := 99) (w := nI 6) (tX11_lays.at 66 rfl) (by decide) ?_
      refine r_iload_n (pc := 101) (i := 2) (tX11_lays.at 67 rfl) rfl rfl ?_
      first | refine r_imulN (pc := 102) (tX11_lays.at 68 rfl) ?_ | refine r_imulZ (pc := 102) (tX11_lays.at 68 rfl) ?_ | refine r_imul (pc := 102) (tX11_lays.at 68 rfl) ?_
      refine r_iload_n (pc := 103) (i := 3) (tX11_lays.at 69 rfl) rfl rfl ?_
      first | refine r_iaddN (pc := 104) (tX11_lays.at 70 rfl) ?_ | refine r_iaddZ (pc := 104) (tX11_lays.at 70 rfl) ?_ | refine r_iadd (pc := 104) (tX11_lays.at 70 rfl) ?_
      refine r_iload (pc := 105) (i := 4) (tX11_lays.at 71 rfl) rfl ?_
      refine r_iast (pc := 107) (tX11_lays.at 72 rfl) (mH_wts) (6 * G.L e + G.H e) (rfl) (by omega) (Nat.le_of_ble_eq_true rfl) ?_
      rw [upd_iF, mH_swts]
      generalize hwe : G.W (G.L e * 6 + G.H e) = w at *
      refine r_eq (h2 := mH v h m (S.lay (upN W (6 * G.L e + G.H e) w) C D p)) rfl rfl ?_
      refine r_aload_n (pc := 108) (i := 0) (tX11_lays.at 73 rfl) rfl rfl ?_
      refine r_get (pc := 109) (tX11_lays.at 74 rfl) gf_X11_23 (mH_0) rfl ?_
      refine r_bipush (pc := 112) (w := nI 6) (tX11_lays.at 75 rfl) (by decide) ?_
      refine r_iload_n (pc := 114) (i := 3) (tX11_lays.at 76 rfl) rfl rfl ?_
      first | refine r_imulN (pc := 115) (tX11_lays.at 77 rfl) ?_ | refine r_imulZ (pc := 115) (tX11_lays.at 77 rfl) ?_ | refine r_imul (pc := 115) (tX11_lays.at 77 rfl) ?_
      refine r_iload_n (pc := 116) (i := 2) (tX11_lays.at 78 rfl) rfl rfl ?_
      first | refine r_iaddN (pc := 117) (tX11_lays.at 79 rfl) ?_ | refine r_iaddZ (pc := 117) (tX11_lays.at 79 rfl) ?_ | refine r_iadd (pc := 117) (tX11_lays.at 79 rfl) ?_
      refine r_iload (pc := 118) (i := 4) (tX11_lays.at 80 rfl) rfl ?_
      refine r_iast (pc := 120) (tX11_lays.at 81 rfl) (mH_wts) (6 * G.H e + G.L e) (rfl) (by omega) (Nat.le_of_ble_eq_true rfl) ?_
      rw [upd_iF, mH_swts]
      generalize hW2 : upN (upN W (6 * G.L e + G.H e) w) (6 * G.H e + G.L e) w = W2
      refine r_eq (h2 := mH v h m (S.lay W2 C D p)) (by rw [← hW2]; rfl) rfl ?_
      have hcdS : ∀ W C D p, okCd (S.lay W C D p) := fun W C D p => hcd.1
      have c1 : ∀ W C D p, (S.lay W C D p).mcs w (G.L e) (G.H e) = cst G.W cc cn (G.L e) (G.H e) := fun W C D p => by
        rw [← hwe]
        exact hcd.2 _ _ (by omega) (by omega)
      have c2 : ∀ W C D p, (S.lay W C D p).mcs w (G.H e) (G.L e) = cst G.W cc cn (G.H e) (G.L e) := fun W C D p => by
        rw [← hwe, hw.2.2.2.1 _ _ (by omega) (by omega)]
        exact hcd.2 _ _ (by omega) (by omega)
      refine r_aload_n (pc := 121) (i := 0) (tX11_lays.at 82 rfl) rfl rfl ?_
      refine r_get (pc := 122) (tX11_lays.at 83 rfl) gf_X11_26 (mH_0) rfl ?_
      refine r_bipush (pc := 125) (w := nI 6) (tX11_lays.at 84 rfl) (by decide) ?_
      refine r_iload_n (pc := 127) (i := 2) (tX11_lays.at 85 rfl) rfl rfl ?_
      first | refine r_imulN (pc := 128) (tX11_lays.at 86 rfl) ?_ | refine r_imulZ (pc := 128) (tX11_lays.at 86 rfl) ?_ | refine r_imul (pc := 128) (tX11_lays.at 86 rfl) ?_
      refine r_iload_n (pc := 129) (i := 3) (tX11_lays.at 87 rfl) rfl rfl ?_
      first | refine r_iaddN (pc := 130) (tX11_lays.at 88 rfl) ?_ | refine r_iaddZ (pc := 130) (tX11_lays.at 88 rfl) ?_ | refine r_iadd (pc := 130) (tX11_lays.at 88 rfl) ?_
      refine r_aload_n (pc := 131) (i := 0) (tX11_lays.at 89 rfl) rfl rfl ?_
      refine r_iload (pc := 132) (i := 4) (tX11_lays.at 90 rfl) rfl ?_
      refine r_iload_n (pc := 134) (i := 2) (tX11_lays.at 91 rfl) rfl rfl ?_
      refine r_iload_n (pc := 135) (i := 3) (tX11_lays.at 92 rfl) rfl rfl ?_
      refine r_callV (M' := mX11_costOf) (pc := 136) (tX11_lays.at 93 rfl) ml_X11_214 rfl mw_X11_costOf ⟨by decide, by decide⟩ (mH_0) rfl rfl (c_mCost (S := S.lay W2 C D p) (wt := w) (x := G.L e) (y := G.H e) hn (hcdS _ _ _ _) hw9 (by omega) (by omega)) rfl rfl (Nat.le_of_ble_eq_true rfl) (Nat.le_of_ble_eq_true rfl) (Nat.le_of_ble_eq_true rfl) ?_
      rintro _ _ _ ⟨rfl, rfl, p2, rfl⟩
      rw [c1]
      refine r_eq (h2 := mH v h m (S.lay W2 C D p2)) rfl rfl ?_
      refine r_iast (pc := 139) (tX11_lays.at 94 rfl) (mH_cst) (6 * G.L e + G.H e) (rfl) (by omega) (Nat.le_of_ble_eq_true rfl) ?_
      rw [upd_iF, mH_scst]
      refine r_eq (h2 := mH v h m (S.lay W2 (upN C (6 * G.L e + G.H e) (cst G.W cc cn (G.L e) (G.H e))) D p2)) rfl rfl ?_
      generalize hC1 : upN C (6 * G.L e + G.H e) (cst G.W cc cn (G.L e) (G.H e)) = C1
      refine r_aload_n (pc := 140) (i := 0) (tX11_lays.at 95 rfl) rfl rfl ?_
      refine r_get (pc := 141) (tX11_lays.at 96 rfl) gf_X11_26 (mH_0) rfl ?_
      refine r_bipush (pc := 144) (w := nI 6) (tX11_lays.at 97 rfl) (by decide) ?_
      refine r_iload_n (pc := 146) (i := 3) (tX11_lays.at 98 rfl) rfl rfl ?_
      first | refine r_imulN (pc := 147) (tX11_lays.at 99 rfl) ?_ | refine r_imulZ (pc := 147) (tX11_lays.at 99 rfl) ?_ | refine r_imul (pc := 147) (tX11_lays.at 99 rfl) ?_
      refine r_iload_n (pc := 148) (i := 2) (tX11_lays.at 100 rfl) rfl rfl ?_
      first | refine r_iaddN (pc := 149) (tX11_lays.at 101 rfl) ?_ | refine r_iaddZ (pc := 149) (tX11_lays.at 101 rfl) ?_ | refine r_iadd (pc := 149) (tX11_lays.at 101 rfl) ?_
      refine r_aload_n (pc := 150) (i := 0) (tX11_lays.at 102 rfl) rfl rfl ?_
      refine r_iload (pc := 151) (i := 4) (tX11_lays.at 103 rfl) rfl ?_
      refine r_iload_n (pc := 153) (i := 3) (tX11_lays.at 104 rfl) rfl rfl ?_
      refine r_iload_n (pc := 154) (i := 2) (tX11_lays.at 105 rfl) rfl rfl ?_
      refine r_callV (M' := mX11_costOf) (pc := 155) (tX11_lays.at 106 rfl) ml_X11_214 rfl mw_X11_costOf ⟨by decide, by decide⟩ (mH_0) rfl rfl (c_mCost (S := S.lay W2 C1 D p2) (wt := w) (x := G.H e) (y := G.L e) hn (hcdS _ _ _ _) hw9 (by omega) (by omega)) rfl rfl (Nat.le_of_ble_eq_true rfl) (Nat.le_of_ble_eq_true rfl) (Nat.le_of_ble_eq_true rfl) ?_
      rintro _ _ _ ⟨rfl, rfl, p3, rfl⟩
      rw [c2]
      refine r_eq (h2 := mH v h m (S.lay W2 C1 D p3)) rfl rfl ?_
      refine r_iast (pc := 158) (tX11_lays.at 107 rfl) (mH_cst) (6 * G.H e + G.L e) (rfl) (by omega) (Nat.le_of_ble_eq_true rfl) ?_
      rw [upd_iF, mH_scst]
      refine r_eq (h2 := mH v h m (S.lay W2 (upN C1 (6 * G.H e + G.L e) (cst G.W cc cn (G.H e) (G.L e))) D p3)) rfl rfl ?_
      generalize hC2 : upN C1 (6 * G.H e + G.L e) (cst G.W cc cn (G.H e) (G.L e)) = C2
      refine r_aload_n (pc := 159) (i := 0) (tX11_lays.at 108 rfl) rfl rfl ?_
      refine r_get (pc := 160) (tX11_lays.at 109 rfl) gf_X11_29 (mH_0) rfl ?_
      refine r_iload_n (pc := 163) (i := 2) (tX11_lays.at 110 rfl) rfl rfl ?_
      first | refine r_dup2_11 (pc := 164) (tX11_lays.at 111 rfl) rfl rfl ?_ | refine r_dup2_2 (pc := 164) (tX11_lays.at 111 rfl) rfl ?_
      refine r_iald (pc := 165) (tX11_lays.at 112 rfl) (mH_dgs) (G.L e) (rfl) (by omega) (Nat.le_of_ble_eq_true rfl) ?_
      refine r_eq (h2 := mH v h m (S.lay W2 C2 D p3)) (st2 := [.int (nI (D (G.L e))), .int (nI (G.L e)), .ref (m + 6)]) rfl rfl ?_
      refine r_iload (pc := 166) (i := 4) (tX11_lays.at 113 rfl) rfl ?_
      first | refine r_iaddN (pc := 168) (tX11_lays.at 114 rfl) ?_ | refine r_iaddZ (pc := 168) (tX11_lays.at 114 rfl) ?_ | refine r_iadd (pc := 168) (tX11_lays.at 114 rfl) ?_
      refine r_iast (pc := 169) (tX11_lays.at 115 rfl) (mH_dgs) (G.L e) (rfl) (by omega) (Nat.le_of_ble_eq_true rfl) ?_
      rw [upd_iF, mH_sdgs]
      refine r_eq (h2 := mH v h m (S.lay W2 C2 (upN D (G.L e) (D (G.L e) + w)) p3)) rfl rfl ?_
      generalize hD1 : upN D (G.L e) (D (G.L e) + w) = D1
      refine r_aload_n (pc := 170) (i := 0) (tX11_lays.at 116 rfl) rfl rfl ?_
      refine r_get (pc := 171) (tX11_lays.at 117 rfl) gf_X11_29 (mH_0) rfl ?_
      refine r_iload_n (pc := 174) (i := 3) (tX11_lays.at 118 rfl) rfl rfl ?_
      first | refine r_dup2_11 (pc := 175) (tX11_lays.at 119 rfl) rfl rfl ?_ | refine r_dup2_2 (pc := 175) (tX11_lays.at 119 rfl) rfl ?_
      refine r_iald (pc := 176) (tX11_lays.at 120 rfl) (mH_dgs) (G.H e) (rfl) (by omega) (Nat.le_of_ble_eq_true rfl) ?_
      refine r_eq (h2 := mH v h m (S.lay W2 C2 D1 p3)) (st2 := [.int (nI (D1 (G.H e))), .int (nI (G.H e)), .ref (m + 6)]) rfl rfl ?_
      refine r_iload (pc := 177) (i := 4) (tX11_lays.at 121 rfl) rfl ?_
      first | refine r_iaddN (pc := 179) (tX11_lays.at 122 rfl) ?_ | refine r_iaddZ (pc := 179) (tX11_lays.at 122 rfl) ?_ | refine r_iadd (pc := 179) (tX11_lays.at 122 rfl) ?_
      refine r_iast (pc := 180) (tX11_lays.at 123 rfl) (mH_dgs) (G.H e) (rfl) (by omega) (Nat.le_of_ble_eq_true rfl) ?_
      rw [upd_iF, mH_sdgs]
      refine r_eq (h2 := mH v h m (S.lay W2 C2 (upN D1 (G.H e) (D1 (G.H e) + w)) p3)) rfl rfl ?_
      first | refine r_iincN (pc := 181) (tX11_lays.at 124 rfl) rfl (by decide) ?_ | refine r_iinc (pc := 181) (tX11_lays.at 124 rfl) rfl rfl (by decide) ?_
      refine r_goto (pc := 184) 51 (tX11_lays.at 125 rfl) (by decide) ?_
      refine ih (e + 1) _ _ _ _ _ _ _ (by omega) (fun a b ha hb => ⟨?_, ?_⟩) (fun x hx => ?_)
      · rw [← hW2, wtE, hwe]
        exact up_tr (by omega) (up_tr (by omega) (hWC a b ha hb).1)
      · rw [← hC2, ← hC1, tbS]
        exact up_tr (by omega) (up_tr (by omega) (hWC a b ha hb).2)
      · rw [degE hw (by omega) hx, hwe, ← hD1]
        by_cases q1 : x = G.H e
        · rw [q1, upN_eq, upN_eq, upN_ne _ _ (by omega), hD _ (by omega)]
        · rw [upN_ne _ _ q1, upN_ne _ _ q1]
          by_cases q2 : x = G.L e
          · rw [q2, upN_eq, upN_eq, hD _ (by omega)]
          · rw [upN_ne _ _ q2, upN_ne _ _ q2, hD _ (by omega)]
  have k2 : ∀ n u (W C D : Nat → Nat) (p : Nat → Int), u + n = 6 → (∀ k, k < 36 → W k = 0 ∧ C k = 0) → (∀ k, k < u → D k = 0) → J v mX11_lays (rmOf 3 0 0) (KM v Po noX 0 0) top 0 0 (mH v h m (S.lay W C D p)) top 30 [some (.ref m), some (.int (nI u)), none, none, none] [] := by
    intro n
    induction n with
    | zero =>
      intro u W C D p hu hWC hD
      refine r_iload_n (pc := 30) (i := 1) (tX11_lays.at 19 rfl) rfl rfl ?_
      refine r_bipush (pc := 31) (w := nI 6) (tX11_lays.at 20 rfl) (by decide) ?_
      refine r_icmp_geN (pc := 33) 49 (tX11_lays.at 21 rfl) (by decide) (by omega) (by omega) (fun _ => ?_) (fun c => by omega)
      refine r_iconst (pc := 49) (w := nI 0) (tX11_lays.at 29 rfl) (by decide) ?_
      refine r_istore_n (pc := 50) (i := 1) (tX11_lays.at 30 rfl) rfl (by decide) ?_
      refine k3 G.e 0 W C D p _ _ _ (by omega) (fun a b ha hb => ?_) (fun x hx => ?_)
      · obtain ⟨z1, z2⟩ := hWC (6 * a + b) (by omega)
        rw [z1, z2]
        refine ⟨rfl, ?_⟩
        show 0 = filF _ 36 0 _
        unfold filF
        rw [if_pos (by omega)]
      · rw [hD x (by omega)]
        have := sN_le (f := fun u => wtE G 0 (x * 6 + u)) (c := 0) G.n (fun k hk => Nat.le_refl _)
        unfold degN
        omega
    | succ n ih =>
      intro u W C D p hu hWC hD
      refine r_iload_n (pc := 30) (i := 1) (tX11_lays.at 19 rfl) rfl rfl ?_
      refine r_bipush (pc := 31) (w := nI 6) (tX11_lays.at 20 rfl) (by decide) ?_
      refine r_icmp_geN (pc := 33) 49 (tX11_lays.at 21 rfl) (by decide) (by omega) (by omega) (fun c => by omega) (fun _ => ?_)
      refine r_aload_n (pc := 36) (i := 0) (tX11_lays.at 22 rfl) rfl rfl ?_
      refine r_get (pc := 37) (tX11_lays.at 23 rfl) gf_X11_29 (mH_0) rfl ?_
      refine r_iload_n (pc := 40) (i := 1) (tX11_lays.at 24 rfl) rfl rfl ?_
      refine r_iconst (pc := 41) (w := nI 0) (tX11_lays.at 25 rfl) (by decide) ?_
      refine r_iast (pc := 42) (tX11_lays.at 26 rfl) (mH_dgs) (u) (rfl) (by omega) (Nat.le_of_ble_eq_true rfl) ?_
      rw [upd_iF, mH_sdgs]
      refine r_eq (h2 := mH v h m (S.lay W C (upN D u 0) p)) rfl rfl ?_
      first | refine r_iincN (pc := 43) (tX11_lays.at 27 rfl) rfl (by decide) ?_ | refine r_iinc (pc := 43) (tX11_lays.at 27 rfl) rfl rfl (by decide) ?_
      refine r_goto (pc := 46) 30 (tX11_lays.at 28 rfl) (by decide) ?_
      refine ih (u + 1) _ _ _ _ (by omega) hWC (fun k hk => ?_)
      by_cases c : k = u
      · rw [c, upN_eq]
      · rw [upN_ne _ _ c]
        exact hD k (by omega)
  have k1 : ∀ n u (W C : Nat → Nat), u + n = 36 → (∀ k, k < u → W k = 0 ∧ C k = 0) → J v mX11_lays (rmOf 3 0 0) (KM v Po noX 0 0) top 0 0 (mH v h m (S.lay W C S.dgs S.pil)) top 2 [some (.ref m), some (.int (nI u)), none, none, none] [] := by
    intro n
    induction n with
    | zero =>
      intro u W C hu hWC
      refine r_iload_n (pc := 2) (i := 1) (tX11_lays.at 2 rfl) rfl rfl ?_
      refine r_bipush (pc := 3) (w := nI 36) (tX11_lays.at 3 rfl) (by decide) ?_
      refine r_icmp_geN (pc := 5) 28 (tX11_lays.at 4 rfl) (by decide) (by omega) (by omega) (fun _ => ?_) (fun c => by omega)
      refine r_iconst (pc := 28) (w := nI 0) (tX11_lays.at 17 rfl) (by decide) ?_
      refine r_istore_n (pc := 29) (i := 1) (tX11_lays.at 18 rfl) rfl (by decide) ?_
      exact k2 6 0 W C S.dgs S.pil (by omega) (fun k hk => hWC k (by omega)) (fun k hk => by omega)
    | succ n ih =>
      intro u W C hu hWC
      refine r_iload_n (pc := 2) (i := 1) (tX11_lays.at 2 rfl) rfl rfl ?_
      refine r_bipush (pc := 3) (w := nI 36) (tX11_lays.at 3 rfl) (by decide) ?_
      refine r_icmp_geN (pc := 5) 28 (tX11_lays.at 4 rfl) (by decide) (by omega) (by omega) (fun c => by omega) (fun _ => ?_)
      refine r_aload_n (pc := 8) (i := 0) (tX11_lays.at 5 rfl) rfl rfl ?_
      refine r_get (pc := 9) (tX11_lays.at 6 rfl) gf_X11_23 (mH_0) rfl ?_
      refine r_iload_n (pc := 12) (i := 1) (tX11_lays.at 7 rfl) rfl rfl ?_
      refine r_iconst (pc := 13) (w := nI 0) (tX11_lays.at 8 rfl) (by decide) ?_
      refine r_iast (pc := 14) (tX11_lays.at 9 rfl) (mH_wts) (u) (rfl) (by omega) (Nat.le_of_ble_eq_true rfl) ?_
      rw [upd_iF, mH_swts]
      refine r_eq (h2 := mH v h m (S.lay (upN W u 0) C S.dgs S.pil)) rfl rfl ?_
      refine r_aload_n (pc := 15) (i := 0) (tX11_lays.at 10 rfl) rfl rfl ?_
      refine r_get (pc := 16) (tX11_lays.at 11 rfl) gf_X11_26 (mH_0) rfl ?_
      refine r_iload_n (pc := 19) (i := 1) (tX11_lays.at 12 rfl) rfl rfl ?_
      refine r_iconst (pc := 20) (w := nI 0) (tX11_lays.at 13 rfl) (by decide) ?_
      refine r_iast (pc := 21) (tX11_lays.at 14 rfl) (mH_cst) (u) (rfl) (by omega) (Nat.le_of_ble_eq_true rfl) ?_
      rw [upd_iF, mH_scst]
      refine r_eq (h2 := mH v h m (S.lay (upN W u 0) (upN C u 0) S.dgs S.pil)) rfl rfl ?_
      first | refine r_iincN (pc := 22) (tX11_lays.at 15 rfl) rfl (by decide) ?_ | refine r_iinc (pc := 22) (tX11_lays.at 15 rfl) rfl rfl (by decide) ?_
      refine r_goto (pc := 25) 2 (tX11_lays.at 16 rfl) (by decide) ?_
      refine ih (u + 1) _ _ (by omega) (fun k hk => ?_)
      by_cases c : k = u
      · rw [c, upN_eq, upN_eq]
        exact ⟨rfl, rfl⟩
      · rw [upN_ne _ _ c, upN_ne _ _ c]
        exact hWC k (by omega)
  refine r_iconst (pc := 0) (w := nI 0) (tX11_lays.at 0 rfl) (by decide) ?_
  refine r_istore_n (pc := 1) (i := 1) (tX11_lays.at 1 rfl) rfl (by decide) ?_
  exact k1 36 0 S.wts S.cst (by omega) (fun k hk => by omega)
end

