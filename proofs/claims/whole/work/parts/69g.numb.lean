/-! PURE: the number of a word -/
def whP (W : List Wd) (l : Wd) : Nat := ffn (fun i => wD W i == l) 0 W.length
def whI (W : List Wd) (l : Wd) : Int32 := if whP W l = W.length then nO else nI (whP W l)
theorem lgc {a b : Nat} (ha : a < 9223372036854775808) (hb : b < 9223372036854775808) : lg_cmp (nG a) (nG b) = nI 0 ↔ a = b := by
  show lg_cmp (nG a) (nG b) = 0 ↔ a = b
  rw [lg_cmp_eq, eqG ha hb]
theorem cnumberOf {W : List Wd} {M : Mem} {l : Wd} (h : CWr W M) (hW : Kw W) (ho : Wok l) (hl8 : l.length ≤ 8) {Q : Int32 → Mem → Prop} (hQ : Q (whI W l) M) : pX9_numberOf M (nG (rb 32 l)) Q := by
  have hl := hW.1
  have hlt := rb_lt (b := 32) (by omega) (by omega) ho hl8
  unfold whI at hQ
  unfold pX9_numberOf
  refine lp_up (fun k s => s = (M, nI k) ∧ ∀ j, 0 ≤ j → j < k → (wD W j == l) = false) (Nat.zero_le W.length) ⟨rfl, fun j _ hj => absurd hj (Nat.not_lt_zero _)⟩ ?_ ?_
  · rintro k s L - hk ⟨rfl, hj⟩ hL
    obtain ⟨o1, o2, o3⟩ := wD_ok hW hk
    have e1 := h.2 k hk
    have hlk := rb_lt (b := 32) (by omega) (by omega) o1 o3
    have ec := lgc (a := rb 32 (wD W k)) (b := rb 32 l) (by omega) (by omega)
    unfold bX9_numberOf_2
    by_cases e : wD W k = l
    · have er : whP W l = k := ffn_at (Nat.zero_le _) (by omega) hj (Or.inr (beq_iff_eq.mpr e))
      rw [er, if_neg (by omega)] at hQ
      have ec2 := ec.mpr (by rw [e])
      try simp (disch := omega) only [li, nO_n, adI, mlI, tnI, vpI, ltI, leI, eqI, forall_eq, leT, leF, ltT, ltF, eqT, eqF, true_and, and_true, false_implies, true_implies, forall_const, not_true_eq_false, not_false_eq_true, implies_true, h.1, e1, eq_true ec2]
      exact hQ
    · have ec2 : ¬ lg_cmp (nG (rb 32 (wD W k))) (nG (rb 32 l)) = nI 0 := fun q => e (rb_inj (by omega) _ _ o1 ho (ec.mp q))
      try simp (disch := omega) only [li, nO_n, adI, mlI, tnI, vpI, ltI, leI, eqI, forall_eq, leT, leF, ltT, ltF, eqT, eqF, true_and, and_true, false_implies, true_implies, forall_const, not_true_eq_false, not_false_eq_true, implies_true, h.1, e1, eq_false ec2]
      refine hL _ ⟨rfl, fun j j0 j2 => ?_⟩
      by_cases ej : j = k
      · rw [ej]; exact beq_eq_false_iff_ne.mpr e
      · exact hj j j0 (by omega)
  · rintro s L ⟨rfl, hj⟩
    have er : whP W l = W.length := ffn_at (Nat.zero_le _) (Nat.le_refl _) hj (Or.inl rfl)
    rw [er, if_pos rfl] at hQ
    unfold bX9_numberOf_2
    try simp (disch := omega) only [li, nO_n, adI, mlI, tnI, vpI, ltI, leI, eqI, forall_eq, leT, leF, ltT, ltF, eqT, eqF, true_and, and_true, false_implies, true_implies, forall_const, not_true_eq_false, not_false_eq_true, implies_true, h.1]
    exact hQ
theorem mseek {W : List Wd} {M : Mem} {l : Wd} (h : MWr W M) (hW : Kw W) (ho : Wok l) (hl8 : l.length ≤ 8) (h31 : M.2 1231 0 0 = nG (rb 27 l)) {Q : Int32 → Mem → Prop} (hQ : Q (whI W l) M) : pX11_seek M Q := by
  have hl := hW.1
  have hlt := rb_lt (b := 27) (by omega) (by omega) ho hl8
  unfold whI at hQ
  unfold pX11_seek
  refine lp_up (fun k s => s = (M, nI k) ∧ ∀ j, 0 ≤ j → j < k → (wD W j == l) = false) (Nat.zero_le W.length) ⟨rfl, fun j _ hj => absurd hj (Nat.not_lt_zero _)⟩ ?_ ?_
  · rintro k s L - hk ⟨rfl, hj⟩ hL
    obtain ⟨o1, o2, o3⟩ := wD_ok hW hk
    have e1 := (h.2 k hk).1
    have hlk := rb_lt (b := 27) (by omega) (by omega) o1 o3
    have ec := lgc (a := rb 27 (wD W k)) (b := rb 27 l) (by omega) (by omega)
    unfold bX11_seek_2
    by_cases e : wD W k = l
    · have er : whP W l = k := ffn_at (Nat.zero_le _) (by omega) hj (Or.inr (beq_iff_eq.mpr e))
      rw [er, if_neg (by omega)] at hQ
      have ec2 := ec.mpr (by rw [e])
      try simp (disch := omega) only [li, nO_n, adI, mlI, tnI, vpI, ltI, leI, eqI, forall_eq, leT, leF, ltT, ltF, eqT, eqF, true_and, and_true, false_implies, true_implies, forall_const, not_true_eq_false, not_false_eq_true, implies_true, h.1, e1, h31, eq_true ec2]
      exact hQ
    · have ec2 : ¬ lg_cmp (nG (rb 27 (wD W k))) (nG (rb 27 l)) = nI 0 := fun q => e (rb_inj (by omega) _ _ o1 ho (ec.mp q))
      try simp (disch := omega) only [li, nO_n, adI, mlI, tnI, vpI, ltI, leI, eqI, forall_eq, leT, leF, ltT, ltF, eqT, eqF, true_and, and_true, false_implies, true_implies, forall_const, not_true_eq_false, not_false_eq_true, implies_true, h.1, e1, h31, eq_false ec2]
      refine hL _ ⟨rfl, fun j j0 j2 => ?_⟩
      by_cases ej : j = k
      · rw [ej]; exact beq_eq_false_iff_ne.mpr e
      · exact hj j j0 (by omega)
  · rintro s L ⟨rfl, hj⟩
    have er : whP W l = W.length := ffn_at (Nat.zero_le _) (Nat.le_refl _) hj (Or.inl rfl)
    rw [er, if_pos rfl] at hQ
    unfold bX11_seek_2
    try simp (disch := omega) only [li, nO_n, adI, mlI, tnI, vpI, ltI, leI, eqI, forall_eq, leT, leF, ltT, ltF, eqT, eqF, true_and, and_true, false_implies, true_implies, forall_const, not_true_eq_false, not_false_eq_true, implies_true, h.1]
    exact hQ
