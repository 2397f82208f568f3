/-! PURE: to read a document -/
/-- the fault (0 none), its place; the words' numbers; the known words; where the word begins and 1 (0 none), its letters -/
abbrev Rd : Type := Nat × Nat × List Nat × List Wd × Nat × Wd
def rF (s : Rd) : Nat := s.1
def rP (s : Rd) : Nat := s.2.1
def rT (s : Rd) : List Nat := s.2.2.1
def rW (s : Rd) : List Wd := s.2.2.2.1
def rB (s : Rd) : Nat := s.2.2.2.2.1
def rL (s : Rd) : Wd := s.2.2.2.2.2
def full (W : List Wd) (l : Wd) : Bool := decide (whP W l = W.length ∧ ¬ W.length < 255)
def tkW (W : List Wd) (l : Wd) : List Wd := if whP W l = W.length then W ++ [l] else W
def clD (s : Rd) : Rd := if rB s = 0 then s else if full (rW s) (rL s) = true then (2, rB s - 1, rT s, rW s, 0, []) else (0, 0, rT s ++ [whP (rW s) (rL s)], tkW (rW s) (rL s), 0, [])
def stL (s : Rd) (i c : Nat) : Rd := if rB s = 0 then (if (rT s).length < 150 then (0, 0, rT s, rW s, i + 1, [c - 96]) else (2, i, rT s, rW s, 0, [])) else if (rL s).length < 8 then (0, 0, rT s, rW s, rB s, (c - 96) :: rL s) else (1, i, rT s, rW s, 0, [])
def stX (s : Rd) (i c : Nat) : Rd := if rF s ≠ 0 ∨ c = 32 then s else (1, i, rT s, rW s, 0, [])
def stD (s : Rd) (i c : Nat) : Rd := if rF s ≠ 0 then s else if isL c = true then stL s i c else stX (clD s) i c
def rdD (t : Nat → Nat) (n : Nat) (W : List Wd) : Nat → Rd
  | 0 => (0, 0, [], W, 0, [])
  | i + 1 => stD (rdD t n W i) i (if i < n then t i else 32)
/-- the document read -/
def fdR (t : Nat → Nat) (n : Nat) (W : List Wd) : Rd := if rF (rdD t n W (n + 1)) = 0 ∧ rT (rdD t n W (n + 1)) = [] then (1, n, [], W, 0, []) else rdD t n W (n + 1)
theorem nn0 {a : Nat} (h : a = 0) : ¬ a ≠ 0 := fun q => q h
theorem stD_L {s : Rd} {i c : Nat} (h : rF s = 0) (hc : isL c = true) : stD s i c = stL s i c := by unfold stD; rw [if_neg (nn0 h), if_pos hc]
theorem stL_1 {s : Rd} {i c : Nat} (hb : rB s ≠ 0) (hl : (rL s).length < 8) : stL s i c = (0, 0, rT s, rW s, rB s, (c - 96) :: rL s) := by unfold stL; rw [if_neg hb, if_pos hl]
theorem stL_2 {s : Rd} {i c : Nat} (hb : rB s ≠ 0) (hl : ¬ (rL s).length < 8) : stL s i c = (1, i, rT s, rW s, 0, []) := by unfold stL; rw [if_neg hb, if_neg hl]
theorem rdD_abs {t : Nat → Nat} {n : Nat} {W : List Wd} {i j : Nat} (h : rF (rdD t n W i) ≠ 0) (hj : i ≤ j) : rdD t n W j = rdD t n W i := by
  induction j with
  | zero =>
    obtain rfl : i = 0 := by omega
    rfl
  | succ j ih =>
    by_cases e : i = j + 1
    · rw [e]
    · have ih := ih (by omega)
      show stD (rdD t n W j) j _ = _
      unfold stD
      rw [ih, if_pos h]
theorem fdR_f {t : Nat → Nat} {n : Nat} {W : List Wd} {i : Nat} (hi : i ≤ n + 1) (h : rF (rdD t n W i) ≠ 0) : fdR t n W = rdD t n W i := by
  unfold fdR
  rw [rdD_abs h hi, if_neg (show ¬ (rF (rdD t n W i) = 0 ∧ rT (rdD t n W i) = []) from fun q => h q.1)]
theorem clD_B (s : Rd) : rB (clD s) = 0 := by
  unfold clD
  by_cases h : rB s = 0
  · rw [if_pos h]; exact h
  · rw [if_neg h]
    by_cases h2 : full (rW s) (rL s) = true
    · rw [if_pos h2]; rfl
    · rw [if_neg h2]; rfl
theorem clD_0 {s : Rd} (h : rB s = 0) : clD s = s := by unfold clD; rw [if_pos h]
theorem clD_cl (s : Rd) : clD (clD s) = clD s := clD_0 (clD_B s)
theorem whP_le (W : List Wd) (l : Wd) : whP W l ≤ W.length := (ffn_c (Nat.zero_le _)).2.1
theorem full_no {W : List Wd} {l : Wd} (h : ¬ full W l = true) : whP W l = W.length → W.length < 255 := by
  intro e
  unfold full at h
  simp only [decide_eq_true_eq, not_and, Decidable.not_not] at h
  exact h e
theorem full_yes {W : List Wd} {l : Wd} (h : full W l = true) : whP W l = W.length ∧ ¬ W.length < 255 := by
  unfold full at h
  exact of_decide_eq_true h
def RI (W0 : List Wd) (i : Nat) (s : Rd) : Prop := rF s = 0 → Kw (rW s) ∧ (∃ e, rW s = W0 ++ e) ∧ (rT s).length ≤ 150 ∧ (∀ x, x ∈ rT s → x < (rW s).length) ∧ (rB s ≠ 0 → (rT s).length < 150 ∧ rB s + (rL s).length = i + 1 ∧ 1 ≤ (rL s).length ∧ (rL s).length ≤ 8 ∧ Wok (rL s))
def RP (n : Nat) (s : Rd) : Prop := rF s ≠ 0 → (rF s = 1 ∨ rF s = 2) ∧ rP s ≤ n
theorem RI_cl {W0 : List Wd} {i : Nat} {s : Rd} (h : RI W0 i s) (hs : rF s = 0) (j : Nat) : RI W0 j (clD s) := by
  intro hf
  obtain ⟨h1, ⟨e, h2⟩, h3, h4, h5⟩ := h hs
  unfold clD at hf ⊢
  by_cases hb : rB s = 0
  · rw [if_pos hb]
    exact ⟨h1, ⟨e, h2⟩, h3, h4, fun q => absurd hb q⟩
  · rw [if_neg hb] at hf ⊢
    obtain ⟨g1, g2, g3, g4, g5⟩ := h5 hb
    by_cases hu : full (rW s) (rL s) = true
    · rw [if_pos hu] at hf; exact absurd hf (by show ¬ (2 : Nat) = 0; decide)
    · rw [if_neg hu]
      have hl := full_no hu
      have hle := whP_le (rW s) (rL s)
      have hlen : (rT s ++ [whP (rW s) (rL s)]).length ≤ 150 := by rw [List.length_append]; show (rT s).length + 1 ≤ 150; omega
      by_cases e2 : whP (rW s) (rL s) = (rW s).length
      · have et : tkW (rW s) (rL s) = rW s ++ [rL s] := by unfold tkW; rw [if_pos e2]
        refine ⟨?_, ⟨e ++ [rL s], ?_⟩, hlen, fun x hx => ?_, fun q => absurd rfl q⟩
        · show Kw (tkW (rW s) (rL s))
          rw [et]; exact Kw_app h1 g5 g3 g4 (hl e2) e2
        · show tkW (rW s) (rL s) = _
          rw [et, h2, List.append_assoc]
        · show x < (tkW (rW s) (rL s)).length
          rw [et, List.length_append]
          show x < (rW s).length + 1
          rcases List.mem_append.mp hx with hx | hx
          · have := h4 x hx; omega
          · rw [List.mem_singleton.mp hx]; omega
      · have et : tkW (rW s) (rL s) = rW s := by unfold tkW; rw [if_neg e2]
        refine ⟨?_, ⟨e, ?_⟩, hlen, fun x hx => ?_, fun q => absurd rfl q⟩
        · show Kw (tkW (rW s) (rL s))
          rw [et]; exact h1
        · show tkW (rW s) (rL s) = _
          rw [et]; exact h2
        · show x < (tkW (rW s) (rL s)).length
          rw [et]
          rcases List.mem_append.mp hx with hx | hx
          · exact h4 x hx
          · rw [List.mem_singleton.mp hx]; omega
theorem RI_st {W0 : List Wd} {i : Nat} {s : Rd} (h : RI W0 i s) (c : Nat) : RI W0 (i + 1) (stD s i c) := by
  intro hf
  unfold stD at hf ⊢
  by_cases hs : rF s = 0
  · rw [if_neg (nn0 hs)] at hf ⊢
    by_cases hc : isL c = true
    · rw [if_pos hc] at hf ⊢
      obtain ⟨h1, h2, h3, h4, h5⟩ := h hs
      unfold stL at hf ⊢
      by_cases hb : rB s = 0
      · rw [if_pos hb] at hf ⊢
        by_cases h6 : (rT s).length < 150
        · rw [if_pos h6]
          exact ⟨h1, h2, h3, h4, fun _ => ⟨h6, rfl, Nat.le_refl _, (by show 1 ≤ 8; decide), Wok_cons hc (fun x hx => by cases hx)⟩⟩
        · rw [if_neg h6] at hf; exact absurd hf (by show ¬ (2 : Nat) = 0; decide)
      · rw [if_neg hb] at hf ⊢
        obtain ⟨g1, g2, g3, g4, g5⟩ := h5 hb
        by_cases h6 : (rL s).length < 8
        · rw [if_pos h6]
          refine ⟨h1, h2, h3, h4, fun _ => ⟨g1, ?_, ?_, ?_, Wok_cons hc g5⟩⟩
          · show rB s + ((rL s).length + 1) = i + 1 + 1; omega
          · show 1 ≤ (rL s).length + 1; omega
          · show (rL s).length + 1 ≤ 8; omega
        · rw [if_neg h6] at hf; exact absurd hf (by show ¬ (1 : Nat) = 0; decide)
    · rw [if_neg hc] at hf ⊢
      unfold stX at hf ⊢
      by_cases h6 : rF (clD s) ≠ 0 ∨ c = 32
      · rw [if_pos h6] at hf ⊢
        exact RI_cl h hs (i + 1) hf
      · rw [if_neg h6] at hf; exact absurd hf (by show ¬ (1 : Nat) = 0; decide)
  · rw [if_pos hs] at hf; exact absurd hf hs
theorem RP_st {W0 : List Wd} {i n : Nat} {s : Rd} (h : RI W0 i s) (hp : RP n s) (hi : i ≤ n) (c : Nat) : RP n (stD s i c) := by
  intro hf
  unfold stD at hf ⊢
  by_cases hs : rF s = 0
  · rw [if_neg (nn0 hs)] at hf ⊢
    obtain ⟨h1, h2, h3, h4, h5⟩ := h hs
    by_cases hc : isL c = true
    · rw [if_pos hc] at hf ⊢
      unfold stL at hf ⊢
      by_cases hb : rB s = 0
      · rw [if_pos hb] at hf ⊢
        by_cases h6 : (rT s).length < 150
        · rw [if_pos h6] at hf; exact absurd rfl hf
        · rw [if_neg h6]; exact ⟨Or.inr rfl, hi⟩
      · rw [if_neg hb] at hf ⊢
        by_cases h6 : (rL s).length < 8
        · rw [if_pos h6] at hf; exact absurd rfl hf
        · rw [if_neg h6]; exact ⟨Or.inl rfl, hi⟩
    · rw [if_neg hc] at hf ⊢
      unfold stX at hf ⊢
      by_cases h6 : rF (clD s) ≠ 0 ∨ c = 32
      · rw [if_pos h6] at hf ⊢
        unfold clD at hf ⊢
        by_cases hb : rB s = 0
        · rw [if_pos hb] at hf; exact absurd hs hf
        · rw [if_neg hb] at hf ⊢
          obtain ⟨g1, g2, g3, g4, g5⟩ := h5 hb
          by_cases hu : full (rW s) (rL s) = true
          · rw [if_pos hu]
            exact ⟨Or.inr rfl, by show rB s - 1 ≤ n; omega⟩
          · rw [if_neg hu] at hf; exact absurd rfl hf
      · rw [if_neg h6]; exact ⟨Or.inl rfl, hi⟩
  · rw [if_pos hs]; exact hp hs
theorem rdD_I {t : Nat → Nat} {n : Nat} {W : List Wd} (hW : Kw W) (i : Nat) : RI W i (rdD t n W i) := by
  induction i with
  | zero => exact fun _ => ⟨hW, ⟨[], (List.append_nil W).symm⟩, Nat.zero_le _, (fun x hx => by cases hx), fun q => absurd rfl q⟩
  | succ i ih => exact RI_st ih _
theorem rdD_P {t : Nat → Nat} {n : Nat} {W : List Wd} (hW : Kw W) (i : Nat) (hi : i ≤ n + 1) : RP n (rdD t n W i) := by
  induction i with
  | zero => exact fun q => absurd rfl q
  | succ i ih => exact RP_st (rdD_I hW i) (ih (by omega)) (by omega) _
theorem fdR_P {t : Nat → Nat} {n : Nat} {W : List Wd} (hW : Kw W) : RP n (fdR t n W) := by
  unfold fdR
  by_cases h : rF (rdD t n W (n + 1)) = 0 ∧ rT (rdD t n W (n + 1)) = []
  · rw [if_pos h]; exact fun _ => ⟨Or.inl rfl, Nat.le_refl _⟩
  · rw [if_neg h]; exact rdD_P hW (n + 1) (Nat.le_refl _)
theorem fdR_I {t : Nat → Nat} {n : Nat} {W : List Wd} (hW : Kw W) (hf : rF (fdR t n W) = 0) : Kw (rW (fdR t n W)) ∧ (∃ e, rW (fdR t n W) = W ++ e) ∧ 1 ≤ (rT (fdR t n W)).length ∧ (rT (fdR t n W)).length ≤ 150 ∧ (∀ x, x ∈ rT (fdR t n W) → x < (rW (fdR t n W)).length) := by
  unfold fdR at hf ⊢
  by_cases h : rF (rdD t n W (n + 1)) = 0 ∧ rT (rdD t n W (n + 1)) = []
  · rw [if_pos h] at hf; exact absurd hf (by show ¬ (1 : Nat) = 0; decide)
  · rw [if_neg h] at hf ⊢
    obtain ⟨h1, h2, h3, h4, h5⟩ := rdD_I hW (t := t) (n := n) (n + 1) hf
    refine ⟨h1, h2, ?_, h3, h4⟩
    have : rT (rdD t n W (n + 1)) ≠ [] := fun q => h ⟨hf, q⟩
    exact List.length_pos_iff.mpr this
theorem rdD_end {t : Nat → Nat} {n : Nat} {W : List Wd} (hW : Kw W) (hf : rF (rdD t n W n) = 0) : rdD t n W (n + 1) = clD (rdD t n W n) := by
  show stD (rdD t n W n) n (if n < n then t n else 32) = _
  rw [if_neg (Nat.lt_irrefl n)]
  unfold stD
  rw [if_neg (nn0 hf), if_neg (by decide)]
  unfold stX
  rw [if_pos (Or.inr rfl)]
theorem rdD_blank {t : Nat → Nat} {n : Nat} {W : List Wd} (hW : Kw W) {i : Nat} (hi : i < n) (hf : rF (rdD t n W i) = 0) (hb : t i = 32) : rdD t n W (i + 1) = clD (rdD t n W i) := by
  show stD (rdD t n W i) i (if i < n then t i else 32) = _
  rw [if_pos hi, hb]
  unfold stD
  rw [if_neg (nn0 hf), if_neg (by decide)]
  unfold stX
  rw [if_pos (Or.inr rfl)]
theorem rdD_other {t : Nat → Nat} {n : Nat} {W : List Wd} (hW : Kw W) {i : Nat} (hi : i < n) (hf : rF (rdD t n W i) = 0) (hb : t i ≠ 32) (hc : isL (t i) = false) (hg : rF (clD (rdD t n W i)) = 0) : rdD t n W (i + 1) = (1, i, rT (clD (rdD t n W i)), rW (clD (rdD t n W i)), 0, []) := by
  show stD (rdD t n W i) i (if i < n then t i else 32) = _
  rw [if_pos hi]
  unfold stD
  rw [if_neg (nn0 hf), if_neg (by rw [hc]; decide)]
  unfold stX
  rw [if_neg (show ¬ (rF (clD (rdD t n W i)) ≠ 0 ∨ t i = 32) from fun q => q.elim (fun q => q hg) hb)]
theorem rdD_cl {t : Nat → Nat} {n : Nat} {W : List Wd} (hW : Kw W) {i : Nat} (hi : i ≤ n) (hf : rF (rdD t n W i) = 0) (hc : i = n ∨ isL (t i) = false) (hg : rF (clD (rdD t n W i)) ≠ 0) : rdD t n W (i + 1) = clD (rdD t n W i) := by
  show stD (rdD t n W i) i (if i < n then t i else 32) = _
  have hl : ¬ isL (if i < n then t i else 32) = true := by
    rcases hc with hc | hc
    · rw [if_neg (by omega)]; decide
    · by_cases h : i < n
      · rw [if_pos h, hc]; decide
      · rw [if_neg h]; decide
  unfold stD
  rw [if_neg (nn0 hf), if_neg hl]
  unfold stX
  rw [if_pos (Or.inl hg)]
/-- letters on -/
theorem rdD_let {t : Nat → Nat} {n : Nat} {W : List Wd} (hW : Kw W) {i m : Nat} (hs : rF (rdD t n W i) = 0) (hb : rB (rdD t n W i) = 0) (hT : (rT (rdD t n W i)).length < 150) (h8 : m < 8) (hn : i + m < n) (hL : ∀ j, j ≤ m → isL (t (i + j)) = true) : rdD t n W (i + m + 1) = (0, 0, rT (rdD t n W i), rW (rdD t n W i), i + 1, wdr t i (m + 1)) := by
  induction m with
  | zero =>
    show stD (rdD t n W i) i (if i < n then t i else 32) = _
    rw [if_pos (by omega)]
    have this : isL (t i) = true := hL 0 (Nat.le_refl _)
    unfold stD
    rw [if_neg (nn0 hs), if_pos this]
    unfold stL
    rw [if_pos hb, if_pos hT]
    rfl
  | succ m ih =>
    have ih := ih (by omega) (by omega) (fun j hj => hL j (by omega))
    show stD (rdD t n W (i + m + 1)) (i + (m + 1)) (if i + (m + 1) < n then t (i + (m + 1)) else 32) = _
    rw [if_pos (by omega), ih]
    have hl := hL (m + 1) (Nat.le_refl _)
    have hlen : (rL ((0, 0, rT (rdD t n W i), rW (rdD t n W i), i + 1, wdr t i (m + 1)) : Rd)).length < 8 := by
      show (wdr t i (m + 1)).length < 8
      rw [wdr_len]; omega
    have e1 := stD_L (s := ((0, 0, rT (rdD t n W i), rW (rdD t n W i), i + 1, wdr t i (m + 1)) : Rd)) (i := i + (m + 1)) rfl hl
    have e2 := stL_1 (s := ((0, 0, rT (rdD t n W i), rW (rdD t n W i), i + 1, wdr t i (m + 1)) : Rd)) (i := i + (m + 1)) (c := t (i + (m + 1))) (Nat.succ_ne_zero i) hlen
    exact e1.trans e2
theorem rdD_nine {t : Nat → Nat} {n : Nat} {W : List Wd} (hW : Kw W) {i : Nat} (hs : rF (rdD t n W i) = 0) (hb : rB (rdD t n W i) = 0) (hT : (rT (rdD t n W i)).length < 150) (hn : i + 8 < n) (hL : ∀ j, j ≤ 8 → isL (t (i + j)) = true) : rdD t n W (i + 8 + 1) = (1, i + 8, rT (rdD t n W i), rW (rdD t n W i), 0, []) := by
  have ih := rdD_let hW (m := 7) hs hb hT (by omega) (by omega) (fun j hj => hL j (by omega))
  show stD (rdD t n W (i + 8)) (i + 8) (if i + 8 < n then t (i + 8) else 32) = _
  rw [if_pos (by omega), show rdD t n W (i + 8) = rdD t n W (i + 7 + 1) from rfl, ih]
  have hl := hL 8 (Nat.le_refl _)
  have hlen : ¬ (rL ((0, 0, rT (rdD t n W i), rW (rdD t n W i), i + 1, wdr t i (7 + 1)) : Rd)).length < 8 := by
    show ¬ (wdr t i (7 + 1)).length < 8
    rw [wdr_len]; omega
  have e1 := stD_L (s := ((0, 0, rT (rdD t n W i), rW (rdD t n W i), i + 1, wdr t i (7 + 1)) : Rd)) (i := i + 8) rfl hl
  have e2 := stL_2 (s := ((0, 0, rT (rdD t n W i), rW (rdD t n W i), i + 1, wdr t i (7 + 1)) : Rd)) (i := i + 8) (c := t (i + 8)) (Nat.succ_ne_zero i) hlen
  exact e1.trans e2
theorem rdD_150 {t : Nat → Nat} {n : Nat} {W : List Wd} (hW : Kw W) {i : Nat} (hs : rF (rdD t n W i) = 0) (hb : rB (rdD t n W i) = 0) (hT : ¬ (rT (rdD t n W i)).length < 150) (hn : i < n) (hL : isL (t i) = true) : rdD t n W (i + 1) = (2, i, rT (rdD t n W i), rW (rdD t n W i), 0, []) := by
  show stD (rdD t n W i) i (if i < n then t i else 32) = _
  rw [if_pos (by omega)]
  unfold stD
  rw [if_neg (nn0 hs), if_pos hL]
  unfold stL
  rw [if_pos hb, if_neg hT]
