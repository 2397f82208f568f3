/-! PURE: to read a question: what holds on the way -/
theorem kWant_q (K : Qc) (o : Option Nat) (y : Nat) (m : Bool) : qP (kWant K o y m) = qP K ∧ qR (kWant K o y m) = qR K ∧ qX (kWant K o y m) = qX K ∧ qF (kWant K o y m) = qF K := by cases o <;> exact ⟨rfl, rfl, rfl, rfl⟩
theorem kRef_q (K : Qc) (o : Option Nat) : qP (kRef K o) = qP K ∧ qR (kRef K o) = qR K ∧ qU (kRef K o) = qU K ∧ qS (kRef K o) = qS K ∧ qF (kRef K o) = qF K := by cases o <;> exact ⟨rfl, rfl, rfl, rfl, rfl⟩
theorem kLen_q (K : Qc) (o : Option Nat) : qP (kLen K o) = qP K ∧ qR (kLen K o) = qR K ∧ qF (kLen K o) = (qF K).set (fN K - 1) (fP K (fN K - 1) ++ [o]) := by
  unfold kLen
  obtain ⟨h1, h2, h3, h4⟩ := kWant_q (kAdd K o) o 1 true
  exact ⟨h1, h2, h4⟩
theorem fL_of {K K' : Qc} (h : qF K' = qF K) (j : Nat) : fL K' j = fL K j := by unfold fL fP; rw [h]
theorem fN_of {K K' : Qc} (h : qF K' = qF K) : fN K' = fN K := by unfold fN; rw [h]
theorem fL_len {K : Qc} (o : Option Nat) (hf : 0 < fN K) (j : Nat) : fN (kLen K o) = fN K ∧ fL (kLen K o) j = if j = fN K - 1 then fL K j + 1 else fL K j := by
  obtain ⟨h1, h2, h3⟩ := kLen_q K o
  have hf : 0 < (qF K).length := hf
  constructor
  · unfold fN
    rw [h3, List.length_set]
  · unfold fL fP
    rw [h3, gd_set (by show fN K - 1 < (qF K).length; unfold fN; omega)]
    by_cases e : j = fN K - 1
    · rw [if_pos e, if_pos e, List.length_append, e]; rfl
    · rw [if_neg e, if_neg e]
theorem fL_beg (K : Qc) (j : Nat) : fN (kBeg K) = fN K + 1 ∧ fL (kBeg K) j = if j = fN K then 0 else fL K j := by
  constructor
  · show (qF K ++ [[]]).length = _
    rw [List.length_append]; rfl
  · show ((qF K ++ [[]]).getD j []).length = _
    rw [gd_app]
    by_cases e : j = (qF K).length
    · rw [if_pos e, if_pos (show j = fN K from e)]; rfl
    · rw [if_neg e, if_neg (show ¬ j = fN K from e)]; rfl
def PL (K : Qc) (m : Nat) : Prop := ∀ j, j < m → 2 ≤ fL K j ∧ fL K j ≤ 4
def Q0 (kn : Nat) (K : Qc) : Prop := qP K ≤ 6 ∧ qR K ≤ 9 ∧ KV K kn (4 * qP K) (9 * qP K) (qP K) (qP K) ∧ PL K (fN K)
def Q1 (kn : Nat) (K : Qc) : Prop := qP K ≤ 6 ∧ qR K ≤ 9 ∧ 1 ≤ qP K ∧ KV K kn (4 * (qP K - 1)) (9 * (qP K - 1)) (qP K - 1) (qP K - 1) ∧ PL K (fN K)
def Q5 (kn : Nat) (K : Qc) (c : Nat) : Prop := qP K ≤ 6 ∧ qR K ≤ 9 ∧ 1 ≤ qP K ∧ KV K kn (4 * (qP K - 1) + pll K) (9 * (qP K - 1) + pll K) (qP K - 1) (qP K) ∧ 1 ≤ fN K ∧ PL K (fN K - 1) ∧ pll K ≤ c
def WL (l : Wd) : Prop := Wok l ∧ 1 ≤ l.length ∧ l.length ≤ 8
def QI (W : List Wd) (s : Qd) : Prop := eF s = 0 → (eM s = 0 ∧ Q0 W.length (eK s)) ∨ (eM s = 1 ∧ Q1 W.length (eK s) ∧ (eA s = 43 ∨ eA s = 45)) ∨ (eM s = 2 ∧ Q1 W.length (eK s) ∧ (eA s = 0 ∨ eA s = 43 ∨ eA s = 45) ∧ WL (eL s)) ∨ (eM s = 3 ∧ Q1 W.length (eK s) ∧ (eA s = 0 ∨ eA s = 43) ∧ WL (eL s)) ∨ (eM s = 4 ∧ Q1 W.length (eK s)) ∨ (eM s = 5 ∧ Q5 W.length (eK s) 4) ∨ (eM s = 6 ∧ Q5 W.length (eK s) 3 ∧ WL (eL s))
theorem owd_k {W : List Wd} {l : Wd} : ∀ w, owd W l = some w → w < W.length := fun w h => owd_lt h
theorem Q0_want {kn y : Nat} {K : Qc} {o : Option Nat} {m : Bool} (h : Q1 kn K) (ho : ∀ w, o = some w → w < kn) (hy : y ≤ 9) : Q0 kn (kWant K o y m) := by
  obtain ⟨h1, h2, h3, h4, h5⟩ := h
  obtain ⟨q1, q2, q3, q4⟩ := kWant_q K o y m
  refine ⟨by rw [q1]; exact h1, by rw [q2]; exact h2, ?_, fun j hj => ?_⟩
  · rw [q1]
    exact (h4.want ho).mono (by omega) (by omega) (by omega) (by omega)
  · rw [fN_of q4] at hj
    rw [fL_of q4]; exact h5 j hj
theorem Q0_ref {kn : Nat} {K : Qc} {o : Option Nat} (h : Q1 kn K) (ho : ∀ w, o = some w → w < kn) : Q0 kn (kRef K o) := by
  obtain ⟨h1, h2, h3, h4, h5⟩ := h
  obtain ⟨q1, q2, q3, q4, q5⟩ := kRef_q K o
  refine ⟨by rw [q1]; exact h1, by rw [q2]; exact h2, ?_, fun j hj => ?_⟩
  · rw [q1]
    exact (h4.ref ho).mono (by omega) (by omega) (by omega) (by omega)
  · rw [fN_of q5] at hj
    rw [fL_of q5]; exact h5 j hj
theorem Q5_len {kn : Nat} {K : Qc} {o : Option Nat} (h : Q5 kn K 3) (ho : ∀ w, o = some w → w < kn) : Q5 kn (kLen K o) 4 ∧ pll (kLen K o) = pll K + 1 := by
  obtain ⟨h1, h2, h3, h4, h5, h6, h7⟩ := h
  obtain ⟨q1, q2, q3⟩ := kLen_q K o
  have hf := fun j => fL_len o (show 0 < fN K by omega) j
  have hp : pll (kLen K o) = pll K + 1 := by
    unfold pll
    rw [(hf 0).1, (hf (fN K - 1)).2, if_pos rfl]
  refine ⟨⟨by rw [q1]; exact h1, by rw [q2]; exact h2, by rw [q1]; exact h3, ?_, by rw [(hf 0).1]; exact h5, fun j hj => ?_, by rw [hp]; omega⟩, hp⟩
  · rw [q1, hp]
    unfold kLen
    exact ((h4.add ho (by omega)).want ho).mono (by omega) (by omega) (by omega) (by omega)
  · rw [(hf 0).1] at hj
    rw [(hf j).2, if_neg (by omega)]; exact h6 j hj
theorem Q1_par {kn : Nat} {K : Qc} (h : Q0 kn K) (hp : ¬ 6 ≤ qP K) : Q1 kn (kPar K) := by
  obtain ⟨h1, h2, h3, h4⟩ := h
  refine ⟨by show qP K + 1 ≤ 6; omega, h2, by show 1 ≤ qP K + 1; omega, ?_, h4⟩
  show KV (kPar K) kn (4 * (qP K + 1 - 1)) (9 * (qP K + 1 - 1)) (qP K + 1 - 1) (qP K + 1 - 1)
  exact (h3.eq (K' := kPar K) rfl rfl rfl).mono (by omega) (by omega) (by omega) (by omega)
theorem Q5_beg {kn : Nat} {K : Qc} (h : Q1 kn K) : Q5 kn (kBeg K) 4 ∧ pll (kBeg K) = 0 := by
  obtain ⟨h1, h2, h3, h4, h5⟩ := h
  have hf := fL_beg K
  have hp : pll (kBeg K) = 0 := by
    unfold pll
    rw [(hf 0).1, (hf _).2, if_pos (by omega)]
  refine ⟨⟨h1, h2, h3, ?_, by rw [(hf 0).1]; omega, fun j hj => ?_, by rw [hp]; omega⟩, hp⟩
  · rw [hp]
    show KV (kBeg K) kn (4 * (qP K - 1) + 0) (9 * (qP K - 1) + 0) (qP K - 1) (qP K)
    exact h4.beg.mono (by omega) (by omega) (by omega) (by omega)
  · rw [(hf 0).1] at hj
    rw [(hf j).2, if_neg (by omega)]; exact h5 j (by omega)
theorem Q0_end {kn : Nat} {K : Qc} (h : Q5 kn K 4) (h2' : 2 ≤ pll K) : Q0 kn K := by
  obtain ⟨h1, h2, h3, h4, h5, h6, h7⟩ := h
  refine ⟨h1, h2, h4.mono (by omega) (by omega) (by omega) (by omega), fun j hj => ?_⟩
  by_cases e : j = fN K - 1
  · rw [e]; exact ⟨h2', h7⟩
  · exact h6 j (by omega)
theorem QI_btw {W : List Wd} {s : Qd} (i : Nat) (o : Option Nat) (hm : eM s = 0) (h : Q0 W.length (eK s)) : QI W (btw s i o) := by
  intro hf
  cases o with
  | none =>
    unfold btw at hf ⊢
    dsimp only at hf ⊢
    by_cases e : qP (eK s) = 0
    · rw [if_pos e] at hf; exact absurd hf (by show ¬ (1 : Nat) = 0; decide)
    · rw [if_neg e]; exact Or.inl ⟨hm, h⟩
  | some c =>
    unfold btw at hf ⊢
    dsimp only at hf ⊢
    by_cases e1 : c = 32
    · rw [if_pos e1]; exact Or.inl ⟨hm, h⟩
    · rw [if_neg e1] at hf ⊢
      by_cases e2 : ¬ (isL c = true ∨ c = 43 ∨ c = 45 ∨ c = 34 ∨ c = 126) ∨ (c = 126 ∧ qR (eK s) ≠ 0)
      · rw [if_pos e2] at hf; exact absurd hf (by show ¬ (1 : Nat) = 0; decide)
      · rw [if_neg e2] at hf ⊢
        by_cases e3 : 6 ≤ qP (eK s)
        · rw [if_pos e3] at hf; exact absurd hf (by show ¬ (2 : Nat) = 0; decide)
        · rw [if_neg e3] at hf ⊢
          have hp := Q1_par h e3
          by_cases e4 : c = 43 ∨ c = 45
          · rw [if_pos e4]; exact Or.inr (Or.inl ⟨rfl, hp, e4⟩)
          · rw [if_neg e4] at hf ⊢
            by_cases e5 : c = 34
            · rw [if_pos e5]; exact Or.inr (Or.inr (Or.inr (Or.inr (Or.inr (Or.inl ⟨rfl, (Q5_beg hp).1⟩)))))
            · rw [if_neg e5] at hf ⊢
              by_cases e6 : c = 126
              · rw [if_pos e6]; exact Or.inr (Or.inr (Or.inr (Or.inr (Or.inl ⟨rfl, hp⟩))))
              · rw [if_neg e6]
                have hl : isL c = true := by
                  cases q : isL c
                  · exact absurd (Or.inl (fun z => by rw [q] at z; simp [e5, e6] at z; omega)) e2
                  · rfl
                exact Or.inr (Or.inr (Or.inl ⟨rfl, hp, Or.inl rfl, Wok_cons hl (fun x hx => by cases hx), Nat.le_refl _, (by show 1 ≤ 8; decide)⟩))
theorem QI_phr {W : List Wd} {s : Qd} (i : Nat) (o : Option Nat) (hm : eM s = 5) (h : Q5 W.length (eK s) 4) : QI W (phr s i o) := by
  intro hf
  cases o with
  | none => exact absurd hf (by show ¬ (1 : Nat) = 0; decide)
  | some c =>
    unfold phr at hf ⊢
    dsimp only at hf ⊢
    by_cases e1 : c = 32
    · rw [if_pos e1]; exact Or.inr (Or.inr (Or.inr (Or.inr (Or.inr (Or.inl ⟨hm, h⟩)))))
    · rw [if_neg e1] at hf ⊢
      by_cases e2 : c = 34 ∧ 2 ≤ pll (eK s)
      · rw [if_pos e2]; exact Or.inl ⟨rfl, Q0_end h e2.2⟩
      · rw [if_neg e2] at hf ⊢
        by_cases e3 : isL c = true
        · rw [if_pos e3] at hf ⊢
          by_cases e4 : 4 ≤ pll (eK s)
          · rw [if_pos e4] at hf; exact absurd hf (by show ¬ (2 : Nat) = 0; decide)
          · rw [if_neg e4]
            obtain ⟨h1, h2, h3, h4, h5, h6, h7⟩ := h
            exact Or.inr (Or.inr (Or.inr (Or.inr (Or.inr (Or.inr ⟨rfl, ⟨h1, h2, h3, h4, h5, h6, by show pll (eK s) ≤ 3; omega⟩, Wok_cons e3 (fun x hx => by cases hx), Nat.le_refl _, (by show 1 ≤ 8; decide)⟩)))))
        · rw [if_neg e3] at hf; exact absurd hf (by show ¬ (1 : Nat) = 0; decide)
theorem isLo_g {o : Option Nat} (h : isLo o = true) : isL (o.getD 0) = true := by
  cases o with
  | none => cases h
  | some c => exact h
theorem isD_iff {c : Nat} : isD c = true ↔ 49 ≤ c ∧ c ≤ 57 := by unfold isD; simp
theorem WL_cons {l : Wd} {c : Nat} (h : WL l) (hc : isL c = true) (h8 : l.length < 8) : WL ((c - 96) :: l) := ⟨Wok_cons hc h.1, by show 1 ≤ l.length + 1; omega, by show l.length + 1 ≤ 8; omega⟩
theorem QI_st {W : List Wd} {s : Qd} (h : QI W s) (i : Nat) (o : Option Nat) : QI W (stQ W s i o) := by
  unfold stQ
  by_cases h0 : eF s = 0
  · rw [if_neg (nn0 h0)]
    rcases h h0 with ⟨m, a⟩ | ⟨m, a, b⟩ | ⟨m, a, b, c⟩ | ⟨m, a, b, c⟩ | ⟨m, a⟩ | ⟨m, a⟩ | ⟨m, a, c⟩
    · rw [if_neg (by omega), if_neg (by omega), if_neg (by omega), if_neg (by omega), if_neg (by omega), if_neg (by omega)]
      exact QI_btw i o m a
    · rw [if_pos m]
      by_cases e : isLo o = true
      · rw [if_pos e]
        exact fun _ => Or.inr (Or.inr (Or.inl ⟨rfl, a, Or.inr b, Wok_cons (isLo_g e) (fun x hx => by cases hx), Nat.le_refl _, (by show 1 ≤ 8; decide)⟩))
      · rw [if_neg e]; exact fun q => absurd q (by show ¬ (1 : Nat) = 0; decide)
    · rw [if_neg (by omega), if_pos m]
      by_cases e : isLo o = true
      · rw [if_pos e]
        unfold ltr
        by_cases e8 : (eL s).length < 8
        · rw [if_pos e8]
          exact fun _ => Or.inr (Or.inr (Or.inl ⟨m, a, b, WL_cons c (isLo_g e) e8⟩))
        · rw [if_neg e8]; exact fun q => absurd q (by show ¬ (1 : Nat) = 0; decide)
      · rw [if_neg e]
        by_cases e2 : eA s ≠ 45 ∧ o = some 94
        · rw [if_pos e2]
          exact fun _ => Or.inr (Or.inr (Or.inr (Or.inl ⟨rfl, a, by have := e2.1; show eA s = 0 ∨ eA s = 43; omega, c⟩)))
        · rw [if_neg e2]
          have hc : clQ W s = (0, 0, 0, 0, [], if eA s = 45 then kRef (eK s) (owd W (eL s)) else kWant (eK s) (owd W (eL s)) 1 (eA s == 43)) := by unfold clQ; rw [if_pos m]
          rw [hc]
          refine QI_btw i o rfl ?_
          show Q0 W.length (if eA s = 45 then kRef (eK s) (owd W (eL s)) else kWant (eK s) (owd W (eL s)) 1 (eA s == 43))
          by_cases e3 : eA s = 45
          · rw [if_pos e3]; exact Q0_ref a owd_k
          · rw [if_neg e3]; exact Q0_want a owd_k (by omega)
    · rw [if_neg (by omega), if_neg (by omega), if_pos m]
      by_cases e : isD (o.getD 0) = true
      · rw [if_pos e]
        have := isD_iff.mp e
        exact fun _ => Or.inl ⟨rfl, Q0_want a owd_k (by omega)⟩
      · rw [if_neg e]; exact fun q => absurd q (by show ¬ (1 : Nat) = 0; decide)
    · rw [if_neg (by omega), if_neg (by omega), if_neg (by omega), if_pos m]
      by_cases e : isD (o.getD 0) = true
      · rw [if_pos e]
        have := isD_iff.mp e
        obtain ⟨h1, h2, h3, h4, h5⟩ := a
        exact fun _ => Or.inl ⟨rfl, h1, by show o.getD 0 - 48 ≤ 9; omega, (h4.eq (K' := kRch (eK s) (o.getD 0 - 48)) rfl rfl rfl).mono (by show 4 * (qP (eK s) - 1) ≤ 4 * qP (eK s); omega) (by show 9 * (qP (eK s) - 1) ≤ 9 * qP (eK s); omega) (by show qP (eK s) - 1 ≤ qP (eK s); omega) (by show qP (eK s) - 1 ≤ qP (eK s); omega), h5⟩
      · rw [if_neg e]; exact fun q => absurd q (by show ¬ (1 : Nat) = 0; decide)
    · rw [if_neg (by omega), if_neg (by omega), if_neg (by omega), if_neg (by omega), if_pos m]
      exact QI_phr i o m a
    · rw [if_neg (by omega), if_neg (by omega), if_neg (by omega), if_neg (by omega), if_neg (by omega), if_pos m]
      by_cases e : isLo o = true
      · rw [if_pos e]
        unfold ltr
        by_cases e8 : (eL s).length < 8
        · rw [if_pos e8]
          exact fun _ => Or.inr (Or.inr (Or.inr (Or.inr (Or.inr (Or.inr ⟨m, a, WL_cons c (isLo_g e) e8⟩)))))
        · rw [if_neg e8]; exact fun q => absurd q (by show ¬ (1 : Nat) = 0; decide)
      · rw [if_neg e]
        have hc : clQ W s = (0, 0, 5, 0, [], kLen (eK s) (owd W (eL s))) := by unfold clQ; rw [if_neg (by omega), if_pos m]
        rw [hc]
        exact QI_phr i o rfl (Q5_len a owd_k).1
  · rw [if_pos h0]; exact h
theorem rdQ_I (t : Nat → Nat) (n : Nat) (W : List Wd) (i : Nat) : QI W (rdQ t n W i) := by
  induction i with
  | zero => exact fun _ => Or.inl ⟨rfl, Nat.zero_le _, Nat.zero_le _, ⟨Nat.zero_le _, fun i hi => absurd hi (Nat.not_lt_zero _), fun i j _ hj => absurd hj (Nat.not_lt_zero _), Nat.zero_le _, fun i hi => absurd hi (Nat.not_lt_zero _), Nat.zero_le _, (fun j k w hw => by cases hw)⟩, fun j hj => absurd hj (Nat.not_lt_zero _)⟩
  | succ i ih => exact QI_st ih i _
/-- faults are 1 or 2, at a place read -/
def QP (n : Nat) (s : Qd) : Prop := eF s ≠ 0 → (eF s = 1 ∨ eF s = 2) ∧ eP s ≤ n
theorem QP_btw {n i : Nat} {s : Qd} (o : Option Nat) (hi : i ≤ n) (h : eF s = 0) : QP n (btw s i o) := by
  unfold QP btw
  cases o with
  | none => dsimp only; split <;> intro q <;> first | exact absurd h q | exact ⟨Or.inl rfl, hi⟩
  | some c => dsimp only; repeat' split
              all_goals (intro q; first | exact absurd h q | exact absurd rfl q | exact ⟨Or.inl rfl, hi⟩ | exact ⟨Or.inr rfl, hi⟩)
theorem QP_phr {n i : Nat} {s : Qd} (o : Option Nat) (hi : i ≤ n) (h : eF s = 0) : QP n (phr s i o) := by
  unfold QP phr
  cases o with
  | none => exact fun _ => ⟨Or.inl rfl, hi⟩
  | some c => dsimp only; repeat' split
              all_goals (intro q; first | exact absurd h q | exact absurd rfl q | exact ⟨Or.inl rfl, hi⟩ | exact ⟨Or.inr rfl, hi⟩)
theorem clQ_F {W : List Wd} {s : Qd} (h : eF s = 0) : eF (clQ W s) = 0 := by
  unfold clQ
  split
  · rfl
  · split
    · rfl
    · exact h
theorem QP_st {n i : Nat} {W : List Wd} {s : Qd} (hp : QP n s) (hi : i ≤ n) (o : Option Nat) : QP n (stQ W s i o) := by
  unfold stQ
  by_cases h0 : eF s = 0
  · have hc := clQ_F (W := W) h0
    rw [if_neg (nn0 h0)]
    unfold ltr
    repeat' split
    all_goals (first | exact QP_btw o hi hc | exact QP_btw o hi h0 | exact QP_phr o hi hc | exact QP_phr o hi h0 | exact fun q => absurd rfl q | exact fun _ => ⟨Or.inl rfl, hi⟩)
  · rw [if_pos h0]; exact hp
theorem rdQ_P (t : Nat → Nat) (n : Nat) (W : List Wd) (i : Nat) (hi : i ≤ n + 1) : QP n (rdQ t n W i) := by
  induction i with
  | zero => exact fun q => absurd rfl q
  | succ i ih => exact QP_st (ih (by omega)) (by omega) _
