/-! PURE: where a word stands the n-th time -/
def rnk (D : Dc) (w d p : Nat) : Nat := ctF (fun q => dT D d q == w) p
def posP (D : Dc) (w d : Nat) (x : Int32) : Nat := ffn (fun p => dT D d p == w && decide (nI (rnk D w d p) = x)) 0 (dL D d)
def posI (D : Dc) (w d : Nat) (x : Int32) : Int32 := if posP D w d x = dL D d then nO else nI (posP D w d x)
theorem cpositionOf {D : Dc} {kn w d : Nat} {M : Mem} (h : CD D M) (hD : DW D kn) (hw : w < 255) (hd : d < D.length) (x : Int32) {Q : Int32 → Mem → Prop} (hQ : Q (posI D w d x) M) : pX4_positionOf M (nI w) (nI d) x Q := by
  have hl := hD.1
  have hdl := hD.dl d
  have hkn := hD.2.1
  unfold posI at hQ
  unfold pX4_positionOf
  refine lp_up (fun p s => s = (M, nI (rnk D w d p), nI p) ∧ ∀ j, 0 ≤ j → j < p → (dT D d j == w && decide (nI (rnk D w d j) = x)) = false) (Nat.zero_le (dL D d)) ⟨rfl, fun j _ hj => absurd hj (Nat.not_lt_zero _)⟩ ?_ ?_
  · rintro p s L - hp ⟨rfl, hj⟩ hL
    have ht := (hD.2.2 d hd).2.2.2.2 p hp
    unfold bX4_positionOf_6 bX4_positionOf_42
    have nx : ∀ q : (dT D d p == w && decide (nI (rnk D w d p) = x)) = false, ∀ j, 0 ≤ j → j < p + 1 → (dT D d j == w && decide (nI (rnk D w d j) = x)) = false := fun q j j0 j1 => by
      by_cases e : j = p
      · rw [e]; exact q
      · exact hj j j0 (by omega)
    by_cases e : dT D d p = w
    · have er : rnk D w d (p + 1) = rnk D w d p + 1 := by unfold rnk; rw [ctF, beq_iff_eq.mpr e]; rfl
      by_cases ex : nI (rnk D w d p) = x
      · have ep : posP D w d x = p := ffn_at (Nat.zero_le _) (by omega) hj (Or.inr (by rw [beq_iff_eq.mpr e, decide_eq_true ex]; rfl))
        rw [ep, if_neg (by omega)] at hQ
        try simp (disch := omega) only [li, nO_n, adI, mlI, tnI, vpI, ltI, leI, eqI, forall_eq, leT, leF, ltT, ltF, eqT, eqF, true_and, and_true, false_implies, true_implies, forall_const, not_true_eq_false, not_false_eq_true, implies_true, h.len, h.tx, eq_true ex]
        exact hQ
      · try simp (disch := omega) only [li, nO_n, adI, mlI, tnI, vpI, ltI, leI, eqI, forall_eq, leT, leF, ltT, ltF, eqT, eqF, true_and, and_true, false_implies, true_implies, forall_const, not_true_eq_false, not_false_eq_true, implies_true, h.len, h.tx, eq_false ex]
        exact hL _ ⟨by rw [er], nx (by rw [decide_eq_false ex, Bool.and_false])⟩
    · have er : rnk D w d (p + 1) = rnk D w d p := by unfold rnk; rw [ctF, beq_eq_false_iff_ne.mpr e]; rfl
      try simp (disch := omega) only [li, nO_n, adI, mlI, tnI, vpI, ltI, leI, eqI, forall_eq, leT, leF, ltT, ltF, eqT, eqF, true_and, and_true, false_implies, true_implies, forall_const, not_true_eq_false, not_false_eq_true, implies_true, h.len, h.tx]
      exact hL _ ⟨by rw [er], nx (by rw [beq_eq_false_iff_ne.mpr e, Bool.false_and])⟩
  · rintro s L ⟨rfl, hj⟩
    have ep : posP D w d x = dL D d := ffn_at (Nat.zero_le _) (Nat.le_refl _) hj (Or.inl rfl)
    rw [ep, if_pos rfl] at hQ
    unfold bX4_positionOf_6
    try simp (disch := omega) only [li, nO_n, adI, mlI, tnI, vpI, ltI, leI, eqI, forall_eq, leT, leF, ltT, ltF, eqT, eqF, true_and, and_true, false_implies, true_implies, forall_const, not_true_eq_false, not_false_eq_true, implies_true, h.len]
    exact hQ
theorem mpositionL {D : Dc} {kn w d : Nat} {M : Mem} {u : Int32} (h : MD D M) (hD : DW D kn) (hw : w < 256) (hd : d < D.length) (x : Int32) {Q : Int32 → Mem → Prop} (hQ : Q (posI D w d x) M) : ∃ n : Nat, lp (fun L s => bX11_position_44 (nI w) u x Q L s.1 s.2.1 s.2.2.1 s.2.2.2) n (M, nI d, 0, 0) := by
  have hl := hD.1
  have hdl := hD.dl d
  have hkn := hD.2.1
  unfold posI at hQ
  refine lp_up (fun p s => s = (M, nI d, nI (rnk D w d p), nI p) ∧ ∀ j, 0 ≤ j → j < p → (dT D d j == w && decide (nI (rnk D w d j) = x)) = false) (Nat.zero_le (dL D d)) ⟨rfl, fun j _ hj => absurd hj (Nat.not_lt_zero _)⟩ ?_ ?_
  · rintro p s L - hp ⟨rfl, hj⟩ hL
    have ht := (hD.2.2 d hd).2.2.2.2 p hp
    have etx := h.tx hp
    unfold bX11_position_44 bX11_position_85
    have nx : ∀ q : (dT D d p == w && decide (nI (rnk D w d p) = x)) = false, ∀ j, 0 ≤ j → j < p + 1 → (dT D d j == w && decide (nI (rnk D w d j) = x)) = false := fun q j j0 j1 => by
      by_cases e : j = p
      · rw [e]; exact q
      · exact hj j j0 (by omega)
    by_cases e : dT D d p = w
    · have er : rnk D w d (p + 1) = rnk D w d p + 1 := by unfold rnk; rw [ctF, beq_iff_eq.mpr e]; rfl
      by_cases ex : nI (rnk D w d p) = x
      · have ep : posP D w d x = p := ffn_at (Nat.zero_le _) (by omega) hj (Or.inr (by rw [beq_iff_eq.mpr e, decide_eq_true ex]; rfl))
        rw [ep, if_neg (by omega)] at hQ
        try simp (disch := omega) only [li, nO_n, adI, mlI, tnI, vpI, ltI, leI, eqI, forall_eq, leT, leF, ltT, ltF, eqT, eqF, true_and, and_true, false_implies, true_implies, forall_const, not_true_eq_false, not_false_eq_true, implies_true, h.len, etx, eq_true ex]
        exact hQ
      · try simp (disch := omega) only [li, nO_n, adI, mlI, tnI, vpI, ltI, leI, eqI, forall_eq, leT, leF, ltT, ltF, eqT, eqF, true_and, and_true, false_implies, true_implies, forall_const, not_true_eq_false, not_false_eq_true, implies_true, h.len, etx, eq_false ex]
        exact hL _ ⟨by rw [er], nx (by rw [decide_eq_false ex, Bool.and_false])⟩
    · have er : rnk D w d (p + 1) = rnk D w d p := by unfold rnk; rw [ctF, beq_eq_false_iff_ne.mpr e]; rfl
      try simp (disch := omega) only [li, nO_n, adI, mlI, tnI, vpI, ltI, leI, eqI, forall_eq, leT, leF, ltT, ltF, eqT, eqF, true_and, and_true, false_implies, true_implies, forall_const, not_true_eq_false, not_false_eq_true, implies_true, h.len, etx]
      exact hL _ ⟨by rw [er], nx (by rw [beq_eq_false_iff_ne.mpr e, Bool.false_and])⟩
  · rintro s L ⟨rfl, hj⟩
    have ep : posP D w d x = dL D d := ffn_at (Nat.zero_le _) (Nat.le_refl _) hj (Or.inl rfl)
    rw [ep, if_pos rfl] at hQ
    unfold bX11_position_44
    try simp (disch := omega) only [li, nO_n, adI, mlI, tnI, vpI, ltI, leI, eqI, forall_eq, leT, leF, ltT, ltF, eqT, eqF, true_and, and_true, false_implies, true_implies, forall_const, not_true_eq_false, not_false_eq_true, implies_true, h.len]
    exact hQ
