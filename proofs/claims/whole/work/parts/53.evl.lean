/-! PURE: to answer early, the lists in line -/
def ilp (f : Nat → Nat) (s : Nat) : Nat → Nat
  | 0 => 0
  | n + 1 => if f n ≤ s then n + 1 else ilp f s n
theorem ilp_c (f : Nat → Nat) (s n : Nat) : ilp f s n ≤ n ∧ (∀ z, ilp f s n = z + 1 → f z ≤ s) ∧ ∀ k, ilp f s n ≤ k → k < n → ¬ f k ≤ s := by
  induction n with
  | zero => exact ⟨Nat.le_refl _, fun z h => absurd h (by show ¬ 0 = z + 1; omega), fun k _ h => absurd h (Nat.not_lt_zero _)⟩
  | succ n ih =>
    unfold ilp
    by_cases e : f n ≤ s
    · rw [if_pos e]
      exact ⟨Nat.le_refl _, fun z h => by obtain rfl : n = z := by omega
                                          exact e, fun k h1 h2 => by omega⟩
    · rw [if_neg e]
      obtain ⟨h1, h2, h3⟩ := ih
      refine ⟨by omega, h2, fun k k1 k2 => ?_⟩
      by_cases ek : k = n
      · rw [ek]; exact e
      · exact h3 k k1 (by omega)
def insL (a : Nat → Nat) (v q k : Nat) : Nat := if k < q then a k else if k = q then v else a (k - 1)
theorem insL_loop {σ : Type} {body : (σ → Prop) → σ → Prop} (mk : Mem → Int32 → σ) {P : Nat → Nat → Bool} {c i n v s : Nat} {a f : Nat → Nat} {M : Mem} (h : ∀ k, k < n → M.1 c i k = nI (a k)) (h1 : P c i = false) (step : ∀ (M' : Mem) (y : Nat) (L : σ → Prop), y < n → Kp P M M' → M'.1 c i y = nI (a y) → ¬ f y ≤ s → L (mk (up1 M' c i (y + 1) (nI (a y))) (nI y)) → body L (mk M' (nI (y + 1)))) (stop : ∀ (M' : Mem) (y : Nat) (L : σ → Prop), y ≤ n → Kp P M M' → (∀ z, y = z + 1 → M'.1 c i z = nI (a z) ∧ f z ≤ s) → (∀ k, k < n + 1 → (up1 M' c i y (nI v)).1 c i k = nI (insL a v (ilp f s n) k)) → body L (mk M' (nI y))) : ∃ m, lp body m (mk M (nI n)) := by
  have put : ∀ (M' : Mem) (y : Nat), ilp f s n = y → (∀ k, k < y → M'.1 c i k = nI (a k)) → (∀ k, y < k → k ≤ n → M'.1 c i k = nI (a (k - 1))) → ∀ k, k < n + 1 → (up1 M' c i y (nI v)).1 c i k = nI (insL a v (ilp f s n) k) := by
    intro M' y hy g1 g2 k hk
    unfold insL
    rw [hy]
    by_cases e : k = y
    · rw [e, up1_eq, if_neg (by omega), if_pos rfl]
    · rw [up1_ne (by omega)]
      by_cases e2 : k < y
      · rw [if_pos e2]; exact g1 k e2
      · rw [if_neg e2, if_neg e]; exact g2 k (by omega) (by omega)
  have key : ∀ y, y ≤ n → ∀ M', Kp P M M' → ilp f s n = ilp f s y → (∀ k, k < y → M'.1 c i k = nI (a k)) → (∀ k, y < k → k ≤ n → M'.1 c i k = nI (a (k - 1))) → lp body (y + 1) (mk M' (nI y)) := by
    intro y
    induction y with
    | zero =>
      intro hy M' hk hi g1 g2
      exact stop M' 0 _ hy hk (fun z ez => absurd ez (by omega)) (put M' 0 hi g1 g2)
    | succ y ih =>
      intro hy M' hk hi g1 g2
      by_cases es : f y ≤ s
      · refine stop M' (y + 1) _ hy hk (fun z ez => ?_) (put M' (y + 1) (by rw [hi, ilp, if_pos es]) g1 g2)
        obtain rfl : y = z := by omega
        exact ⟨g1 y (by omega), es⟩
      · refine step M' y _ (by omega) hk (g1 y (by omega)) es ?_
        refine ih (by omega) _ (hk.u1 h1) (by rw [hi, ilp, if_neg es]) (fun k hk2 => ?_) (fun k hk1 hk2 => ?_)
        · rw [up1_ne (by omega)]; exact g1 k (by omega)
        · by_cases ek : k = y + 1
          · subst ek; rw [up1_eq, Nat.add_sub_cancel]
          · rw [up1_ne (by omega)]; exact g2 k (by omega) hk2
  exact ⟨n + 1, key n (Nat.le_refl _) M Kp.rf rfl h (fun k k1 k2 => absurd k1 (by omega))⟩
abbrev Cs : Type := Nat → Cu
def wei (D : Dc) (K : Qc) (i : Nat) : Nat := sB K i * rare D (sW K i)
def bnd (D : Dc) (K : Qc) (i : Nat) : Nat := wei D K i * topR D (sW K i) 0 (pN D (sW K i))
abbrev liv (D : Dc) (K : Qc) (so : Nat) (z : Cs) (i : Nat) : Prop := cB (z i) < nB D (sW K i) so
def ln (D : Dc) (K : Qc) (so : Nat) (z : Cs) : Nat → Nat × (Nat → Nat)
  | 0 => (0, fun _ => 0)
  | i + 1 => if liv D K so z i then ((ln D K so z i).1 + 1, insL (ln D K so z i).2 i (ilp (fun k => cP (z ((ln D K so z i).2 k))) (cP (z i)) (ln D K so z i).1)) else ln D K so z i
def LN (D : Dc) (K : Qc) (so : Nat) (z : Cs) (n t : Nat) (a : Nat → Nat) : Prop := t ≤ n ∧ (∀ k, k < t → a k < n ∧ liv D K so z (a k)) ∧ ∀ j k, j < k → k < t → a j ≠ a k ∧ cP (z (a j)) ≤ cP (z (a k))
theorem ln_c (D : Dc) (K : Qc) (so : Nat) (z : Cs) (n : Nat) : LN D K so z n (ln D K so z n).1 (ln D K so z n).2 := by
  induction n with
  | zero => exact ⟨Nat.le_refl _, fun k h => absurd h (Nat.not_lt_zero _), fun j k _ h => absurd h (Nat.not_lt_zero _)⟩
  | succ n ih =>
    obtain ⟨h1, h2, h3⟩ := ih
    unfold ln
    by_cases e : liv D K so z n
    · rw [if_pos e]
      generalize (ln D K so z n).1 = t at *
      generalize (ln D K so z n).2 = a at *
      obtain ⟨q1, q2, q3⟩ := ilp_c (fun k => cP (z (a k))) (cP (z n)) t
      generalize ilp (fun k => cP (z (a k))) (cP (z n)) t = q at *
      refine ⟨by show t + 1 ≤ n + 1; omega, fun k hk => ?_, fun j k hjk hk => ?_⟩
      · have hk : k < t + 1 := hk
        show insL a n q k < n + 1 ∧ liv D K so z (insL a n q k)
        unfold insL
        by_cases c1 : k < q
        · rw [if_pos c1]; have := h2 k (by omega); exact ⟨by omega, this.2⟩
        · rw [if_neg c1]
          by_cases c2 : k = q
          · rw [if_pos c2]; exact ⟨by omega, e⟩
          · rw [if_neg c2]; have := h2 (k - 1) (by omega); exact ⟨by omega, this.2⟩
      · have hk : k < t + 1 := hk
        show insL a n q j ≠ insL a n q k ∧ cP (z (insL a n q j)) ≤ cP (z (insL a n q k))
        unfold insL
        by_cases c1 : k < q
        · rw [if_pos c1, if_pos (by omega)]; exact h3 j k hjk (by omega)
        · rw [if_neg c1]
          by_cases c2 : k = q
          · rw [if_pos c2, if_pos (by omega)]
            have g1 := h2 j (by omega)
            refine ⟨by omega, ?_⟩
            have g2 := q2 (q - 1) (by omega)
            by_cases c3 : j = q - 1
            · rw [c3]; exact g2
            · exact Nat.le_trans (h3 j (q - 1) (by omega) (by omega)).2 g2
          · rw [if_neg c2]
            by_cases c3 : j < q
            · rw [if_pos c3]; exact h3 j (k - 1) (by omega) (by omega)
            · rw [if_neg c3]
              by_cases c4 : j = q
              · rw [if_pos c4]
                have g1 := h2 (k - 1) (by omega)
                have g2 := q3 (k - 1) (by omega) (by omega)
                have g2 : ¬ cP (z (a (k - 1))) ≤ cP (z n) := g2
                exact ⟨by omega, by omega⟩
              · rw [if_neg c4]; exact h3 (j - 1) (k - 1) (by omega) (by omega)
    · rw [if_neg e]
      exact ⟨by omega, fun k hk => by have := h2 k hk; exact ⟨by omega, this.2⟩, h3⟩
/-- one list changed; those in line changed -/
def updZ (z : Cs) (i : Nat) (c : Cu) : Cs := fun j => if j = i then c else z j
def mp (F : Nat → Cu → Cu) (z : Cs) (a : Nat → Nat) (n : Nat) : Cs := fun j => if (List.range n).any (fun k => a k == j) = true then F j (z j) else z j
theorem mp_0 (F : Nat → Cu → Cu) (z : Cs) (a : Nat → Nat) : mp F z a 0 = z := rfl
theorem mp_at {F : Nat → Cu → Cu} {z : Cs} {a : Nat → Nat} {n : Nat} (h : ∀ k, k < n → a k ≠ a n) : mp F z a n (a n) = z (a n) := by
  unfold mp
  rw [anyF (fun k hk hp => h k hk (by simpa using hp))]
  rfl
theorem mp_in {F : Nat → Cu → Cu} {z : Cs} {a : Nat → Nat} {n k : Nat} (h : k < n) : mp F z a n (a k) = F (a k) (z (a k)) := by
  unfold mp
  rw [if_pos (anyR.mpr ⟨k, h, by simp⟩)]
theorem mp_out {F : Nat → Cu → Cu} {z : Cs} {a : Nat → Nat} {n j : Nat} (h : ∀ k, k < n → a k ≠ j) : mp F z a n j = z j := by
  unfold mp
  rw [anyF (fun k hk hp => h k hk (by simpa using hp))]
  rfl
theorem mp_s {F : Nat → Cu → Cu} {z : Cs} {a : Nat → Nat} {n : Nat} (h : ∀ k, k < n → a k ≠ a n) : mp F z a (n + 1) = updZ (mp F z a n) (a n) (F (a n) (mp F z a n (a n))) := by
  funext j
  rw [mp_at h]
  unfold updZ
  by_cases e : j = a n
  · subst e
    rw [if_pos rfl]
    exact mp_in (Nat.lt_succ_self n)
  · rw [if_neg e]
    unfold mp
    have : (List.range (n + 1)).any (fun k => a k == j) = (List.range n).any (fun k => a k == j) := by
      rw [List.range_succ, List.any_append]
      have : (a n == j) = false := by simp; exact fun q => e q.symm
      simp [this]
    rw [this]
