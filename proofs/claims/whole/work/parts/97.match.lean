/-! ===== one token, seen from both sides ===== -/
theorem wd_len0 : ∀ i, i < 9 → 1 ≤ i → (stText i).length = (stText (i + 24)).length ∧ stText i = stText (i + 24) ∧ 1 ≤ (stText i).length := by decide +kernel
theorem wd_len (i : Nat) (h1 : 1 ≤ i) (h2 : i < 9) : (stText i).length = (stText (i + 24)).length ∧ stText i = stText (i + 24) ∧ 1 ≤ (stText i).length := wd_len0 i h2 h1
theorem wd_ne0 : ∀ i, i < 9 → ∀ j, j < 9 → 1 ≤ i → 1 ≤ j → stText i = stText j → i = j := by decide +kernel
theorem wd_ne (i : Nat) (h1 : 1 ≤ i) (h2 : i < 9) (j : Nat) (h3 : 1 ≤ j) (h4 : j < 9) : stText i = stText j → i = j := wd_ne0 i h2 j h4 h1 h3
theorem wdEq_t {b : Nat → Nat} {s e i : Nat} : wdEq b s e i = true ↔ e - s = (stText i).length ∧ ∀ k, k < (stText i).length → b (s + k) = (stText i).getD k 0 := by
  unfold wdEq
  rw [decide_eq_true_eq]
theorem wdEq_inj {b : Nat → Nat} {s e i j : Nat} (h1 : wdEq b s e i = true) (h2 : wdEq b s e j = true) : stText i = stText j := by
  obtain ⟨a1, a2⟩ := wdEq_t.mp h1
  obtain ⟨b1, b2⟩ := wdEq_t.mp h2
  refine List.ext_getElem (by omega) (fun k k1 k2 => ?_)
  have e1 := a2 k k1
  have e2 := b2 k k2
  rw [List.getD_eq_getElem?_getD, List.getElem?_eq_getElem k1] at e1
  rw [List.getD_eq_getElem?_getD, List.getElem?_eq_getElem k2] at e2
  exact e1.symm.trans e2
theorem wdEq_24 {b : Nat → Nat} {s e i : Nat} (h1 : 1 ≤ i) (h2 : i < 9) : wdEq b s e (i + 24) = wdEq b s e i := by
  unfold wdEq
  rw [(wd_len i h1 h2).2.1]
theorem wdEq_one {b : Nat → Nat} {s e i j : Nat} (hi : 1 ≤ i ∧ i < 9) (hj : 1 ≤ j ∧ j < 9) (h1 : wdEq b s e i = true) (hne : i ≠ j) : wdEq b s e j = false := by
  cases c : wdEq b s e j with
  | false => rfl
  | true => exact absurd (wd_ne i hi.1 hi.2 j hj.1 hj.2 (wdEq_inj h1 c)) hne
theorem kdW_of {b : Nat → Nat} {s e i : Nat} (h1 : 1 ≤ i) (h2 : i < 9) (h : wdEq b s e i = true) : kdW b s e = 257 + i := by
  have n : ∀ j, 1 ≤ j → j < 9 → j ≠ i → ¬ wdEq b s e j = true := fun j j1 j2 j3 z => by
    rw [wdEq_one ⟨h1, h2⟩ ⟨j1, j2⟩ h (fun z => j3 z.symm)] at z
    cases z
  unfold kdW
  rcases (show i = 1 ∨ i = 2 ∨ i = 3 ∨ i = 4 ∨ i = 5 ∨ i = 6 ∨ i = 7 ∨ i = 8 by omega) with rfl | rfl | rfl | rfl | rfl | rfl | rfl | rfl
  · rw [if_pos h]
  · rw [if_neg (n 1 (by omega) (by omega) (by omega)), if_pos h]
  · rw [if_neg (n 1 (by omega) (by omega) (by omega)), if_neg (n 2 (by omega) (by omega) (by omega)), if_pos h]
  · rw [if_neg (n 1 (by omega) (by omega) (by omega)), if_neg (n 2 (by omega) (by omega) (by omega)), if_neg (n 3 (by omega) (by omega) (by omega)), if_pos h]
  · rw [if_neg (n 1 (by omega) (by omega) (by omega)), if_neg (n 2 (by omega) (by omega) (by omega)), if_neg (n 3 (by omega) (by omega) (by omega)), if_neg (n 4 (by omega) (by omega) (by omega)), if_pos h]
  · rw [if_neg (n 1 (by omega) (by omega) (by omega)), if_neg (n 2 (by omega) (by omega) (by omega)), if_neg (n 3 (by omega) (by omega) (by omega)), if_neg (n 4 (by omega) (by omega) (by omega)), if_neg (n 5 (by omega) (by omega) (by omega)), if_pos h]
  · rw [if_neg (n 1 (by omega) (by omega) (by omega)), if_neg (n 2 (by omega) (by omega) (by omega)), if_neg (n 3 (by omega) (by omega) (by omega)), if_neg (n 4 (by omega) (by omega) (by omega)), if_neg (n 5 (by omega) (by omega) (by omega)), if_neg (n 6 (by omega) (by omega) (by omega)), if_pos h]
  · rw [if_neg (n 1 (by omega) (by omega) (by omega)), if_neg (n 2 (by omega) (by omega) (by omega)), if_neg (n 3 (by omega) (by omega) (by omega)), if_neg (n 4 (by omega) (by omega) (by omega)), if_neg (n 5 (by omega) (by omega) (by omega)), if_neg (n 6 (by omega) (by omega) (by omega)), if_neg (n 7 (by omega) (by omega) (by omega)), if_pos h]
theorem kdW_iff {b : Nat → Nat} {s e i : Nat} (h1 : 1 ≤ i) (h2 : i < 9) : kdW b s e = 257 + i ↔ wdEq b s e i = true := by
  refine ⟨fun h => Classical.byContradiction (fun z => ?_), kdW_of h1 h2⟩
  have n : ∀ j, 1 ≤ j → j < 9 → ¬ wdEq b s e j = true := fun j j1 j2 y => by
    have e1 := kdW_of j1 j2 y
    have e2 : j = i := by omega
    rw [e2] at y
    exact z y
  unfold kdW at h
  rw [if_neg (n 1 (by omega) (by omega)), if_neg (n 2 (by omega) (by omega)), if_neg (n 3 (by omega) (by omega)), if_neg (n 4 (by omega) (by omega)), if_neg (n 5 (by omega) (by omega)), if_neg (n 6 (by omega) (by omega)), if_neg (n 7 (by omega) (by omega)), if_neg (n 8 (by omega) (by omega))] at h
  omega
theorem kdW_r {b : Nat → Nat} {s e : Nat} : 258 ≤ kdW b s e ∧ kdW b s e ≤ 266 := by
  unfold kdW
  (repeat' split) <;> omega
theorem sgn_b {x : Nat} (h : x < 256) : sgn x < 128 ∧ -128 ≤ sgn x := by
  unfold sgn
  split <;> omega
/-- the reference's next token -/
def MS.ct (S : MS) : (Int × Nat × Nat) × Nat := ctX S.txt S.siz S.nxt
section
variable {S : MS}
theorem ct_eq (S : MS) : S.ct = if S.kp < S.siz then tok S.txt S.siz S.kp else ((256, S.siz, 0), S.siz) := rfl
theorem sv_in (h : S.kp < S.siz) : S.sv = (S.txt S.kp : Nat) := if_pos h
theorem sv_out (h : ¬ S.kp < S.siz) : S.sv = -1 := if_neg h
theorem dgB_iff : S.dgB = true ↔ S.kp < S.siz ∧ isDg (S.txt S.kp) = true := by
  unfold MS.dgB isDg
  rw [decide_eq_true_eq, decide_eq_true_eq]
  by_cases c : S.kp < S.siz
  · rw [sv_in c]
    omega
  · rw [sv_out c]
    omega
theorem ct_st (ok : okP S) : S.ct.1.2.1 = S.kp := by
  rw [ct_eq]
  have := ok.kp
  split
  · unfold tok
    split
    · rfl
    · split <;> rfl
  · show S.siz = S.kp
    omega
theorem ct_num (h : S.dgB = true) : S.ct = ((257, S.kp, numA S.txt S.kp S.rdK), S.kp + S.rdK) := by
  obtain ⟨h1, h2⟩ := dgB_iff.mp h
  rw [ct_eq, if_pos h1, tok, if_pos h2]
  rfl
theorem ct_nn (ok : okP S) (h : S.dgB = false) : S.ct.1.1 ≠ 257 := by
  rw [ct_eq]
  split
  · rename_i c
    unfold tok
    have h2 : ¬ isDg (S.txt S.kp) = true := fun z => by
      rw [dgB_iff.mpr ⟨c, z⟩] at h
      cases h
    rw [if_neg h2]
    split
    · have := kdW_r (b := S.txt) (s := S.kp) (e := S.kp + ltN S.txt S.siz S.kp)
      show ((kdW S.txt S.kp (S.kp + ltN S.txt S.siz S.kp) : Nat) : Int) ≠ 257
      omega
    · have := sgn_b (ok.2.2 S.kp)
      show sgn (S.txt S.kp) ≠ 257
      omega
  · show (256 : Int) ≠ 257
    omega
theorem lt_zero (h : ¬ (S.kp < S.siz ∧ isLt (S.txt S.kp) = true)) : ltN S.txt S.siz S.kp = 0 := by
  unfold ltN
  refine fstN_is (Nat.zero_le _) (fun j hj => by omega) ?_
  by_cases c : S.kp < S.siz
  · right
    rw [Nat.add_zero]
    cases q : isLt (S.txt S.kp) with
    | true => exact absurd ⟨c, q⟩ h
    | false => rfl
  · left
    omega
theorem ct_word (ok : okP S) {i : Nat} (h1 : 1 ≤ i) (h2 : i < 9) : S.ct.1.1 = 257 + (i : Int) ↔ wdEq S.txt S.kp S.ke (i + 24) = true := by
  rw [wdEq_24 h1 h2]
  by_cases c : S.kp < S.siz ∧ isLt (S.txt S.kp) = true
  · have hd : ¬ isDg (S.txt S.kp) = true := by
      have := c.2
      unfold isLt at this
      unfold isDg
      rw [decide_eq_true_eq] at this ⊢
      omega
    rw [ct_eq, if_pos c.1, tok, if_neg hd, if_pos c.2, ← kdW_iff h1 h2]
    show ((kdW S.txt S.kp (S.kp + ltN S.txt S.siz S.kp) : Nat) : Int) = 257 + (i : Int) ↔ kdW S.txt S.kp (S.kp + ltN S.txt S.siz S.kp) = 257 + i
    omega
  · have e0 := lt_zero c
    have hl := (wd_len i h1 h2).2.2
    constructor
    · intro h
      exfalso
      rw [ct_eq] at h
      split at h
      · rename_i c2
        unfold tok at h
        split at h
        · have h' : (257 : Int) = 257 + (i : Int) := h
          omega
        · split at h
          · rename_i c4
            exact c ⟨c2, c4⟩
          · have := sgn_b (ok.2.2 S.kp)
            have h' : sgn (S.txt S.kp) = 257 + (i : Int) := h
            omega
      · have h' : (256 : Int) = 257 + (i : Int) := h
        omega
    · intro h
      have := (wdEq_t.mp h).1
      unfold MS.ke at this
      omega
theorem ct_wend {i : Nat} (h1 : 1 ≤ i) (h2 : i < 9) (h : wdEq S.txt S.kp S.ke (i + 24) = true) : S.ct.2 = S.ke := by
  rw [wdEq_24 h1 h2] at h
  have hl := (wd_len i h1 h2).2.2
  have e := (wdEq_t.mp h).1
  by_cases c : S.kp < S.siz ∧ isLt (S.txt S.kp) = true
  · have hd : ¬ isDg (S.txt S.kp) = true := by
      have := c.2
      unfold isLt at this
      unfold isDg
      rw [decide_eq_true_eq] at this ⊢
      omega
    rw [ct_eq, if_pos c.1, tok, if_neg hd, if_pos c.2]
    rfl
  · have e0 := lt_zero c
    unfold MS.ke at e
    omega
/-- a character by itself -/
theorem ct_chr (ok : okP S) {c : Nat} (hc : c < 128) (h1 : isDg c = false) (h2 : isLt c = false) : (S.ct.1.1 = (c : Int) ↔ S.sv = (c : Int)) ∧ (S.sv = (c : Int) → S.ct.2 = S.kp + 1) := by
  by_cases k : S.kp < S.siz
  · rw [sv_in k, ct_eq, if_pos k]
    have hb := sgn_b (ok.2.2 S.kp)
    have hb2 := ok.2.2 S.kp
    have key : isDg (S.txt S.kp) = false → isLt (S.txt S.kp) = false → tok S.txt S.siz S.kp = ((sgn (S.txt S.kp), S.kp, 0), S.kp + 1) := by
      intro q1 q2
      rw [tok, if_neg (by rw [q1]; intro z; cases z), if_neg (by rw [q2]; intro z; cases z)]
    constructor
    · constructor
      · intro h
        unfold tok at h
        split at h
        · have h' : (257 : Int) = (c : Int) := h
          omega
        · split at h
          · have := kdW_r (b := S.txt) (s := S.kp) (e := S.kp + ltN S.txt S.siz S.kp)
            have h' : ((kdW S.txt S.kp (S.kp + ltN S.txt S.siz S.kp) : Nat) : Int) = (c : Int) := h
            omega
          · have h' : sgn (S.txt S.kp) = (c : Int) := h
            unfold sgn at h'
            split at h' <;> omega
      · intro h
        have hx : S.txt S.kp = c := by omega
        rw [key (by rw [hx]; exact h1) (by rw [hx]; exact h2), hx]
        show sgn c = (c : Int)
        unfold sgn
        rw [if_pos hc]
    · intro h
      have hx : S.txt S.kp = c := by omega
      rw [key (by rw [hx]; exact h1) (by rw [hx]; exact h2)]
  · rw [sv_out k, ct_eq, if_neg k]
    refine ⟨⟨fun h => ?_, fun h => by omega⟩, fun h => by omega⟩
    have h' : (256 : Int) = (c : Int) := h
    omega
theorem ct_fin (ok : okP S) : S.ct.1.1 = 256 ↔ S.sv = -1 := by
  by_cases k : S.kp < S.siz
  · rw [sv_in k, ct_eq, if_pos k]
    refine ⟨fun h => ?_, fun h => by omega⟩
    exfalso
    unfold tok at h
    split at h
    · cases h
    · split at h
      · have := kdW_r (b := S.txt) (s := S.kp) (e := S.kp + ltN S.txt S.siz S.kp)
        have h' : ((kdW S.txt S.kp (S.kp + ltN S.txt S.siz S.kp) : Nat) : Int) = 256 := h
        omega
      · have := sgn_b (ok.2.2 S.kp)
        have h' : sgn (S.txt S.kp) = 256 := h
        omega
  · rw [sv_out k, ct_eq, if_neg k]
    exact ⟨fun _ => rfl, fun _ => rfl⟩
end

