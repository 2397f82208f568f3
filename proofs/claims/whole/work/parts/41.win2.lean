/-! PURE: the shortest window, in the documents -/
def cov (D : Dc) (K : Qc) (d b e : Nat) : Prop := ∀ i, i < sN K → cnt D (sW K i) d ≠ 0 → ∃ p, b ≤ p ∧ p ≤ e ∧ dT D d p = sW K i
def laI (D : Dc) (K : Qc) (d k : Nat) : Nat → Nat
  | 0 => 151
  | i + 1 => if cnt D (sW K i) d = 0 then laI D K d k i else min (laI D K d k i) (lsn (dT D d) (sW K i) k)
def laW (D : Dc) (K : Qc) (d k : Nat) : Nat := laI D K d k (sN K)
theorem laI_le (D : Dc) (K : Qc) (d k i : Nat) : laI D K d k i ≤ 151 := by
  induction i with
  | zero => exact Nat.le_refl _
  | succ i ih =>
    unfold laI
    by_cases h : cnt D (sW K i) d = 0
    · rw [if_pos h]; exact ih
    · rw [if_neg h]; omega
theorem laI_iff {D : Dc} {K : Qc} {d k b : Nat} (hb : b ≤ 150) (i : Nat) : b + 1 ≤ laI D K d k i ↔ ∀ j, j < i → cnt D (sW K j) d ≠ 0 → b + 1 ≤ lsn (dT D d) (sW K j) k := by
  induction i with
  | zero => exact ⟨fun _ j hj => absurd hj (Nat.not_lt_zero _), fun _ => by show b + 1 ≤ 151; omega⟩
  | succ i ih =>
    unfold laI
    by_cases h : cnt D (sW K i) d = 0
    · rw [if_pos h, ih]
      refine ⟨fun q j hj hc => ?_, fun q j hj hc => q j (by omega) hc⟩
      by_cases e : j = i
      · subst e; exact absurd h hc
      · exact q j (by omega) hc
    · rw [if_neg h, Nat.le_min, ih]
      refine ⟨fun q j hj hc => ?_, fun q => ⟨fun j hj hc => q j (by omega) hc, q i (by omega) h⟩⟩
      by_cases e : j = i
      · subst e; exact q.2
      · exact q.1 j (by omega) hc
theorem laW_cov {D : Dc} {K : Qc} {d b e : Nat} (hb : b ≤ 150) : cov D K d b e ↔ b + 1 ≤ laW D K d (e + 1) := by
  unfold laW
  rw [laI_iff hb]
  exact ⟨fun h j hj hc => (lsn_iff _ _ _ _).mpr (h j hj hc), fun h j hj hc => (lsn_iff _ _ _ _).mp (h j hj hc)⟩
theorem laW_le {D : Dc} {K : Qc} {d k i : Nat} (hi : i < sN K) (hc : cnt D (sW K i) d ≠ 0) : laW D K d k ≤ k := by
  have key : ∀ n, i < n → laI D K d k n ≤ k := by
    intro n
    induction n with
    | zero => intro h; omega
    | succ n ih =>
      intro h
      unfold laI
      by_cases e : i = n
      · subst e
        rw [if_neg hc]
        have := lsn_le (dT D d) (sW K i) k
        omega
      · have := ih (by omega)
        by_cases h : cnt D (sW K n) d = 0
        · rw [if_pos h]; exact this
        · rw [if_neg h]; omega
  exact key _ hi
/-- where the first window begun at b ends -/
def fo (D : Dc) (d w b : Nat) : Nat := fst1 (dT D d) w b (dL D d - b)
def foI (D : Dc) (K : Qc) (d b : Nat) : Nat → Nat
  | 0 => b
  | i + 1 => if cnt D (sW K i) d = 0 then foI D K d b i else max (foI D K d b i) (fo D d (sW K i) b)
def noE (D : Dc) (K : Qc) (d b n : Nat) : Bool := (List.range n).any (fun i => decide (cnt D (sW K i) d ≠ 0 ∧ fo D d (sW K i) b = dL D d))
def endW (D : Dc) (K : Qc) (d b : Nat) : Nat := if noE D K d b (sN K) = true then 300 else foI D K d b (sN K)
theorem fo_c {D : Dc} {d w b : Nat} (hb : b ≤ dL D d) : b ≤ fo D d w b ∧ fo D d w b ≤ dL D d ∧ (∀ p, b ≤ p → p < fo D d w b → dT D d p ≠ w) ∧ (fo D d w b = dL D d ∨ dT D d (fo D d w b) = w) := by
  have key : ∀ m k, k + m = dL D d - b → (∀ p, p < k → dT D d (b + p) ≠ w) → ∃ j, j ≤ dL D d - b ∧ (∀ p, p < j → dT D d (b + p) ≠ w) ∧ (j = dL D d - b ∨ dT D d (b + j) = w) := by
    intro m
    induction m with
    | zero => intro k hk h; exact ⟨k, by omega, h, Or.inl (by omega)⟩
    | succ m ih =>
      intro k hk h
      by_cases e : dT D d (b + k) = w
      · exact ⟨k, by omega, h, Or.inr e⟩
      · refine ih (k + 1) (by omega) (fun p hp => ?_)
        by_cases e2 : p = k
        · rw [e2]; exact e
        · exact h p (by omega)
  obtain ⟨j, h1, h2, h3⟩ := key (dL D d - b) 0 (by omega) (fun p hp => absurd hp (Nat.not_lt_zero _))
  have e : fo D d w b = b + j := fst_at h1 h2 h3
  rw [e]
  refine ⟨by omega, by omega, fun p p1 p2 => ?_, ?_⟩
  · have := h2 (p - b) (by omega)
    rwa [show b + (p - b) = p by omega] at this
  · rcases h3 with h3 | h3
    · exact Or.inl (by omega)
    · exact Or.inr h3
theorem fo_at {D : Dc} {d w b k : Nat} (hb : b ≤ k) (hk : k ≤ dL D d) (h : ∀ p, b ≤ p → p < k → dT D d p ≠ w) (h2 : k = dL D d ∨ dT D d k = w) : fo D d w b = k := by
  have := fst_at (t := dT D d) (w := w) (b := b) (m := dL D d - b) (k := k - b) (by omega) (fun p hp => h _ (by omega) (by omega)) (by
    rcases h2 with h2 | h2
    · exact Or.inl (by omega)
    · exact Or.inr (by rwa [show b + (k - b) = k by omega]))
  unfold fo
  omega
theorem foI_iff {D : Dc} {K : Qc} {d b e : Nat} (hb : b ≤ e) (he : e < dL D d) (i : Nat) : foI D K d b i ≤ e ↔ ∀ j, j < i → cnt D (sW K j) d ≠ 0 → ∃ p, b ≤ p ∧ p ≤ e ∧ dT D d p = sW K j := by
  induction i with
  | zero => exact ⟨fun _ j hj => absurd hj (Nat.not_lt_zero _), fun _ => hb⟩
  | succ i ih =>
    unfold foI
    by_cases h : cnt D (sW K i) d = 0
    · rw [if_pos h, ih]
      refine ⟨fun q j hj hc => ?_, fun q j hj hc => q j (by omega) hc⟩
      by_cases e : j = i
      · subst e; exact absurd h hc
      · exact q j (by omega) hc
    · obtain ⟨f1, f2, f3, f4⟩ := fo_c (D := D) (d := d) (w := sW K i) (b := b) (by omega)
      rw [if_neg h, Nat.max_le, ih]
      refine ⟨fun q j hj hc => ?_, fun q => ⟨fun j hj hc => q j (by omega) hc, ?_⟩⟩
      · by_cases ej : j = i
        · subst ej
          rcases f4 with f4 | f4
          · omega
          · exact ⟨_, f1, q.2, f4⟩
        · exact q.1 j (by omega) hc
      · obtain ⟨p, p1, p2, p3⟩ := q i (by omega) h
        exact Nat.le_trans (Nat.le_of_not_lt fun x => f3 p p1 x p3) p2
theorem foI_b {D : Dc} {K : Qc} {d b n : Nat} (hb : b < dL D d) (h : noE D K d b n = false) (i : Nat) (hi : i ≤ n) : b ≤ foI D K d b i ∧ foI D K d b i < dL D d := by
  induction i with
  | zero => exact ⟨Nat.le_refl _, hb⟩
  | succ i ih =>
    have ih := ih (by omega)
    unfold foI
    by_cases hc : cnt D (sW K i) d = 0
    · rw [if_pos hc]; exact ih
    · rw [if_neg hc]
      obtain ⟨f1, f2, f3, f4⟩ := fo_c (D := D) (d := d) (w := sW K i) (b := b) (by omega)
      have : fo D d (sW K i) b ≠ dL D d := fun e => by
        have : noE D K d b n = true := anyR.mpr ⟨i, by omega, decide_eq_true ⟨hc, e⟩⟩
        rw [this] at h; cases h
      omega
theorem endW_c {D : Dc} {K : Qc} {d b : Nat} (hb : b < dL D d) : (endW D K d b = 300 ∧ ∀ e, b ≤ e → e < dL D d → ¬ cov D K d b e) ∨ (b ≤ endW D K d b ∧ endW D K d b < dL D d ∧ ∀ e, b ≤ e → e < dL D d → (cov D K d b e ↔ endW D K d b ≤ e)) := by
  unfold endW
  cases h : noE D K d b (sN K)
  · rw [if_neg (by decide)]
    have := foI_b hb h (sN K) (Nat.le_refl _)
    exact Or.inr ⟨this.1, this.2, fun e h1 h2 => (foI_iff h1 h2 (sN K)).symm⟩
  · rw [if_pos rfl]
    refine Or.inl ⟨rfl, fun e h1 h2 hc => ?_⟩
    obtain ⟨i, hi, hp⟩ := anyR.mp h
    have hp := of_decide_eq_true hp
    obtain ⟨p, p1, p2, p3⟩ := hc i hi hp.1
    obtain ⟨f1, f2, f3, f4⟩ := fo_c (D := D) (d := d) (w := sW K i) (b := b) (by omega)
    exact f3 p p1 (by omega) p3
/-- the first begin and 1, and how long -/
def win (D : Dc) (K : Qc) (d : Nat) : Nat × Nat := if someS D K none d = true then wnA (endW D K d) (dL D d) else (0, 0)
theorem ctF_ex {p : Nat → Bool} {n : Nat} (h : ctF p n ≠ 0) : ∃ k, k < n ∧ p k = true := by
  by_cases q : ∃ k, k < n ∧ p k = true
  · exact q
  · exfalso
    apply h
    rw [ctF_zero]
    intro k hk
    cases e : p k
    · rfl
    · exact absurd ⟨k, hk, e⟩ q
theorem win_c {D : Dc} {K : Qc} {kn d : Nat} (hD : DW D kn) : win D K d = cwA (laW D K d) (dL D d) := by
  have hn := hD.dl d
  unfold win
  cases h : someS D K none d
  · rw [if_neg (by decide)]
    have hc : ∀ i, i < sN K → cnt D (sW K i) d = 0 := fun i hi => by
      by_cases e : cnt D (sW K i) d = 0
      · exact e
      · have : someS D K none d = true := anyR.mpr ⟨i, hi, decide_eq_true ⟨(by intro q; cases q), e⟩⟩
        rw [this] at h; cases h
    have hl : ∀ k n, n ≤ sN K → laI D K d k n = 151 := fun k n => by
      induction n with
      | zero => intro _; rfl
      | succ n ih =>
        intro hn2
        rw [laI, if_pos (hc n (by omega))]
        exact ih (by omega)
    have : ∀ k, cwA (laW D K d) k = (0, 0) := fun k => by
      induction k with
      | zero => rfl
      | succ k ih => rw [cwA, if_pos (Or.inr (show laW D K d (k + 1) = 151 from hl _ _ (Nat.le_refl _)))]; exact ih
    exact (this _).symm
  · rw [if_pos rfl]
    obtain ⟨i, hi, hp⟩ := anyR.mp h
    have hp := (of_decide_eq_true hp).2
    obtain ⟨p, p1, p2⟩ := ctF_ex (p := fun p => dT D d p == sW K i) hp
    have a := (cwA_B (cov := cov D K d) (la := laW D K d) hn (fun e he => laW_le hi hp) (fun b e hb he => laW_cov (by omega)) (dL D d) (Nat.le_refl _)).1
    have b := (wnA_B (cov := cov D K d) (g := endW D K d) hn (fun b hb => endW_c hb) (dL D d) (Nat.le_refl _)).1
    have := Bst.un b a (by omega) (fun j hj hc => ?_) (fun b e h1 h2 => by show b < dL D d; omega) (fun b e h1 h2 => h2)
    · exact Prod.ext this.1 this.2
    · obtain ⟨q, q1, q2⟩ := ctF_ex (p := fun p => dT D d p == sW K j) hc
      exact ⟨q, Nat.zero_le _, by omega, by simpa using q2⟩
