/-! PURE: the shortest window -/
def cwA (la : Nat → Nat) : Nat → Nat × Nat
  | 0 => (0, 0)
  | e + 1 => if la (e + 1) = 0 ∨ la (e + 1) = 151 then cwA la e else if (cwA la e).1 = 0 ∨ e + 2 - la (e + 1) < (cwA la e).2 then (la (e + 1), e + 2 - la (e + 1)) else cwA la e
def wnA (g : Nat → Nat) : Nat → Nat × Nat
  | 0 => (0, 151)
  | b + 1 => if g b + 1 - b < (wnA g b).2 then (b + 1, g b + 1 - b) else wnA g b
def Bst (cov reg : Nat → Nat → Prop) (n r l : Nat) : Prop := (r = 0 ∧ ∀ b e, b ≤ e → e < n → reg b e → ¬ cov b e) ∨ (r ≠ 0 ∧ 1 ≤ l ∧ r + l ≤ n + 1 ∧ cov (r - 1) (r + l - 2) ∧ ∀ b e, b ≤ e → e < n → reg b e → cov b e → b + l < e + 1 ∨ (b + l = e + 1 ∧ r ≤ b + 1))
theorem Bst.un {cov reg reg' : Nat → Nat → Prop} {n r l r' l' : Nat} (h : Bst cov reg n r l) (h' : Bst cov reg' n r' l') (hn : 1 ≤ n) (h0 : cov 0 (n - 1)) (g : ∀ b e, b ≤ e → e < n → reg b e) (g' : ∀ b e, b ≤ e → e < n → reg' b e) : r = r' ∧ l = l' := by
  rcases h with ⟨_, h⟩ | ⟨a1, a2, a3, a4, a5⟩
  · exact absurd h0 (h 0 (n - 1) (by omega) (by omega) (g _ _ (by omega) (by omega)))
  rcases h' with ⟨_, h'⟩ | ⟨c1, c2, c3, c4, c5⟩
  · exact absurd h0 (h' 0 (n - 1) (by omega) (by omega) (g' _ _ (by omega) (by omega)))
  have x := a5 (r' - 1) (r' + l' - 2) (by omega) (by omega) (g _ _ (by omega) (by omega)) c4
  have y := c5 (r - 1) (r + l - 2) (by omega) (by omega) (g' _ _ (by omega) (by omega)) a4
  omega
theorem cwA_B {cov : Nat → Nat → Prop} {la : Nat → Nat} {n : Nat} (hn : n ≤ 150) (h1 : ∀ e, e < n → la (e + 1) ≤ e + 1) (h2 : ∀ b e, b ≤ e → e < n → (cov b e ↔ b + 1 ≤ la (e + 1))) (k : Nat) (hk : k ≤ n) : Bst cov (fun _ e => e < k) n (cwA la k).1 (cwA la k).2 ∧ ((cwA la k).1 ≠ 0 → (cwA la k).1 + (cwA la k).2 ≤ k + 1) := by
  induction k with
  | zero => exact ⟨Or.inl ⟨rfl, fun b e _ _ h => absurd h (Nat.not_lt_zero _)⟩, fun h => absurd rfl h⟩
  | succ k ih =>
    obtain ⟨ih, ihe⟩ := ih (by omega)
    have g1 := h1 k (by omega)
    unfold cwA
    by_cases e0 : la (k + 1) = 0 ∨ la (k + 1) = 151
    · rw [if_pos e0]
      have e0 : la (k + 1) = 0 := by omega
      refine ⟨?_, fun h => by have := ihe h; omega⟩
      rcases ih with ⟨a1, a2⟩ | ⟨a1, a2, a3, a4, a5⟩
      · refine Or.inl ⟨a1, fun b e hbe he hk2 hc => ?_⟩
        have hk2 : e < k + 1 := hk2
        by_cases ek : e = k
        · subst ek
          have := (h2 b e hbe he).mp hc
          omega
        · exact a2 b e hbe he (by show e < k; omega) hc
      · refine Or.inr ⟨a1, a2, a3, a4, fun b e hbe he hk2 hc => ?_⟩
        have hk2 : e < k + 1 := hk2
        by_cases ek : e = k
        · subst ek
          have := (h2 b e hbe he).mp hc
          omega
        · exact a5 b e hbe he (by show e < k; omega) hc
    · rw [if_neg e0]
      by_cases e1 : (cwA la k).1 = 0 ∨ k + 2 - la (k + 1) < (cwA la k).2
      · rw [if_pos e1]
        refine ⟨Or.inr ⟨by show la (k + 1) ≠ 0; omega, by show 1 ≤ k + 2 - la (k + 1); omega, by show la (k + 1) + (k + 2 - la (k + 1)) ≤ n + 1; omega, ?_, ?_⟩, fun _ => by show la (k + 1) + (k + 2 - la (k + 1)) ≤ k + 1 + 1; omega⟩
        · show cov (la (k + 1) - 1) (la (k + 1) + (k + 2 - la (k + 1)) - 2)
          rw [show la (k + 1) + (k + 2 - la (k + 1)) - 2 = k by omega]
          exact (h2 _ k (by omega) (by omega)).mpr (by omega)
        · intro b e hbe he hk2 hc
          have hk2 : e < k + 1 := hk2
          show b + (k + 2 - la (k + 1)) < e + 1 ∨ (b + (k + 2 - la (k + 1)) = e + 1 ∧ la (k + 1) ≤ b + 1)
          by_cases ek : e = k
          · subst ek
            have := (h2 b e hbe he).mp hc
            omega
          · rcases ih with ⟨a1, a2⟩ | ⟨a1, a2, a3, a4, a5⟩
            · exact absurd hc (a2 b e hbe he (by show e < k; omega))
            · have := a5 b e hbe he (by show e < k; omega) hc
              omega
      · rw [if_neg e1]
        refine ⟨?_, fun h => by have := ihe h; omega⟩
        rcases ih with ⟨a1, a2⟩ | ⟨a1, a2, a3, a4, a5⟩
        · exact absurd (Or.inl a1) e1
        · refine Or.inr ⟨a1, a2, a3, a4, fun b e hbe he hk2 hc => ?_⟩
          have hk2 : e < k + 1 := hk2
          by_cases ek : e = k
          · subst ek
            have := (h2 b e hbe he).mp hc
            have := ihe a1
            omega
          · exact a5 b e hbe he (by show e < k; omega) hc
theorem wnA_B {cov : Nat → Nat → Prop} {g : Nat → Nat} {n : Nat} (hn : n ≤ 150) (h : ∀ b, b < n → (g b = 300 ∧ ∀ e, b ≤ e → e < n → ¬ cov b e) ∨ (b ≤ g b ∧ g b < n ∧ ∀ e, b ≤ e → e < n → (cov b e ↔ g b ≤ e))) (k : Nat) (hk : k ≤ n) : Bst cov (fun b _ => b < k) n (wnA g k).1 (wnA g k).2 ∧ (wnA g k).2 ≤ 151 ∧ ((wnA g k).1 = 0 → (wnA g k).2 = 151) ∧ (wnA g k).1 ≤ k := by
  induction k with
  | zero => exact ⟨Or.inl ⟨rfl, fun b e _ _ h => absurd h (Nat.not_lt_zero _)⟩, Nat.le_refl _, fun _ => rfl, Nat.le_refl _⟩
  | succ k ih =>
    obtain ⟨ih, ih2, ih3, ih4⟩ := ih (by omega)
    unfold wnA
    rcases h k (by omega) with ⟨g1, g2⟩ | ⟨g1, g2, g3⟩
    · rw [if_neg (by omega)]
      refine ⟨?_, ih2, ih3, by omega⟩
      rcases ih with ⟨a1, a2⟩ | ⟨a1, a2, a3, a4, a5⟩
      · refine Or.inl ⟨a1, fun b e hbe he hk2 hc => ?_⟩
        have hk2 : b < k + 1 := hk2
        by_cases ek : b = k
        · subst ek
          exact g2 e hbe he hc
        · exact a2 b e hbe he (by show b < k; omega) hc
      · refine Or.inr ⟨a1, a2, a3, a4, fun b e hbe he hk2 hc => ?_⟩
        have hk2 : b < k + 1 := hk2
        by_cases ek : b = k
        · subst ek
          exact absurd hc (g2 e hbe he)
        · exact a5 b e hbe he (by show b < k; omega) hc
    · by_cases e1 : g k + 1 - k < (wnA g k).2
      · rw [if_pos e1]
        refine ⟨Or.inr ⟨by show k + 1 ≠ 0; omega, by show 1 ≤ g k + 1 - k; omega, by show k + 1 + (g k + 1 - k) ≤ n + 1; omega, ?_, ?_⟩, by show g k + 1 - k ≤ 151; omega, fun q => absurd q (by show k + 1 ≠ 0; omega), Nat.le_refl _⟩
        · show cov (k + 1 - 1) (k + 1 + (g k + 1 - k) - 2)
          rw [show k + 1 + (g k + 1 - k) - 2 = g k by omega]
          exact (g3 _ g1 g2).mpr (Nat.le_refl _)
        · intro b e hbe he hk2 hc
          have hk2 : b < k + 1 := hk2
          show b + (g k + 1 - k) < e + 1 ∨ (b + (g k + 1 - k) = e + 1 ∧ k + 1 ≤ b + 1)
          by_cases ek : b = k
          · subst ek
            have := (g3 e hbe he).mp hc
            omega
          · rcases ih with ⟨a1, a2⟩ | ⟨a1, a2, a3, a4, a5⟩
            · exact absurd hc (a2 b e hbe he (by show b < k; omega))
            · have := a5 b e hbe he (by show b < k; omega) hc
              omega
      · rw [if_neg e1]
        refine ⟨?_, ih2, ih3, by omega⟩
        rcases ih with ⟨a1, a2⟩ | ⟨a1, a2, a3, a4, a5⟩
        · have := ih3 a1
          omega
        · refine Or.inr ⟨a1, a2, a3, a4, fun b e hbe he hk2 hc => ?_⟩
          have hk2 : b < k + 1 := hk2
          by_cases ek : b = k
          · subst ek
            have := (g3 e hbe he).mp hc
            omega
          · exact a5 b e hbe he (by show b < k; omega) hc
/-- the last one before k, and 1 -/
def lsn (t : Nat → Nat) (w : Nat) : Nat → Nat
  | 0 => 0
  | k + 1 => if t k = w then k + 1 else lsn t w k
theorem lsn_le (t : Nat → Nat) (w k : Nat) : lsn t w k ≤ k := by
  induction k with
  | zero => exact Nat.le_refl _
  | succ k ih =>
    unfold lsn
    by_cases h : t k = w
    · rw [if_pos h]; exact Nat.le_refl _
    · rw [if_neg h]; omega
theorem lsn_iff (t : Nat → Nat) (w b e : Nat) : b + 1 ≤ lsn t w (e + 1) ↔ ∃ p, b ≤ p ∧ p ≤ e ∧ t p = w := by
  induction e with
  | zero =>
    have hs : lsn t w (0 + 1) = if t 0 = w then 1 else 0 := rfl
    rw [hs]
    by_cases h : t 0 = w
    · rw [if_pos h]
      exact ⟨fun q => ⟨0, by omega, Nat.le_refl _, h⟩, fun ⟨p, h1, h2, _⟩ => by omega⟩
    · rw [if_neg h]
      refine ⟨fun q => absurd q (by omega), fun ⟨p, h1, h2, h3⟩ => ?_⟩
      · obtain rfl : p = 0 := by omega
        exact absurd h3 h
  | succ e ih =>
    rw [lsn]
    by_cases h : t (e + 1) = w
    · rw [if_pos h]
      exact ⟨fun q => ⟨e + 1, by omega, Nat.le_refl _, h⟩, fun ⟨p, h1, h2, _⟩ => by omega⟩
    · rw [if_neg h, ih]
      refine ⟨fun ⟨p, h1, h2, h3⟩ => ⟨p, h1, by omega, h3⟩, fun ⟨p, h1, h2, h3⟩ => ⟨p, h1, ?_, h3⟩⟩
      by_cases hp : p = e + 1
      · rw [hp] at h3; exact absurd h3 h
      · omega
/-- the first one from b on among m, or b + m -/
def fst1 (t : Nat → Nat) (w : Nat) (b : Nat) : Nat → Nat
  | 0 => b
  | m + 1 => if ∃ p, p < m ∧ t (b + p) = w then fst1 t w b m else b + m + (if t (b + m) = w then 0 else 1)
theorem fst_at {t : Nat → Nat} {w b m k : Nat} (hk : k ≤ m) (h : ∀ p, p < k → t (b + p) ≠ w) (h2 : k = m ∨ t (b + k) = w) : fst1 t w b m = b + k := by
  induction m with
  | zero => obtain rfl : k = 0 := by omega
            rfl
  | succ m ih =>
    unfold fst1
    by_cases e : ∃ p, p < m ∧ t (b + p) = w
    · rw [if_pos e]
      obtain ⟨p, p1, p2⟩ := e
      have hp : k ≤ p := Nat.le_of_not_lt fun q => h p q p2
      refine ih (by omega) (Or.inr ?_)
      rcases h2 with h2 | h2
      · omega
      · exact h2
    · rw [if_neg e]
      by_cases e2 : t (b + m) = w
      · rw [if_pos e2]
        rcases h2 with h2 | h2
        · exact absurd e2 (h m (by omega))
        · have : ¬ k < m := fun q => e ⟨k, q, h2⟩
          by_cases e3 : k = m
          · omega
          · exact absurd e2 (h m (by omega))
      · rw [if_neg e2]
        rcases h2 with h2 | h2
        · omega
        · have : ¬ k < m := fun q => e ⟨k, q, h2⟩
          by_cases e3 : k = m
          · rw [e3] at h2; exact absurd h2 e2
          · omega
