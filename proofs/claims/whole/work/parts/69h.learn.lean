/-! PURE: a word learnt -/
theorem wD_app {W : List Wd} {l : Wd} {w : Nat} : wD (W ++ [l]) w = if w = W.length then l else wD W w := by
  unfold wD
  by_cases e : w = W.length
  · rw [if_pos e, e, gd_r]
  · rw [if_neg e]
    by_cases e2 : w < W.length
    · rw [gd_l e2]
    · rw [gd_out (by rw [List.length_append]; show W.length + 1 ≤ w; omega), gd_out (by omega)]
theorem whP_no {W : List Wd} {l : Wd} (h : whP W l = W.length) {i : Nat} (hi : i < W.length) : wD W i ≠ l := by
  obtain ⟨f1, f2, f3, f4⟩ := ffn_c (p := fun i => wD W i == l) (Nat.zero_le W.length)
  exact beq_eq_false_iff_ne.mp (f3 i (Nat.zero_le _) (by unfold whP at h; omega))
theorem Kw_app {W : List Wd} {l : Wd} (hW : Kw W) (ho : Wok l) (h1 : 1 ≤ l.length) (h8 : l.length ≤ 8) (hn : W.length < 255) (h : whP W l = W.length) : Kw (W ++ [l]) := by
  have hlen : (W ++ [l]).length = W.length + 1 := by rw [List.length_append]; rfl
  refine ⟨by omega, fun k hk => ?_, fun i j hij hj => ?_⟩
  · rcases List.mem_append.mp hk with hk | hk
    · exact hW.2.1 k hk
    · rw [List.mem_singleton.mp hk]; exact ⟨ho, h1, h8⟩
  · show wD (W ++ [l]) i ≠ wD (W ++ [l]) j
    rw [wD_app, wD_app, if_neg (show ¬ i = W.length by omega)]
    by_cases e : j = W.length
    · rw [if_pos e]; exact whP_no h (by omega)
    · rw [if_neg e]; exact hW.2.2 i j hij (by omega)
def pWl (c _ : Nat) : Bool := decide (c ≠ 1000 ∧ c ≠ 1001)
theorem clearn {W : List Wd} {M : Mem} {l : Wd} (h : CWr W M) (hW : Kw W) (ho : Wok l) (hl8 : l.length ≤ 8) {Q : Int32 → Mem → Prop} (hQ1 : whP W l < W.length → Q (nI (whP W l)) M) (hQ2 : whP W l = W.length → W.length < 255 → ∀ M', Kp pWl M M' → CWr (W ++ [l]) M' → Q (nI W.length) M') (hQ3 : whP W l = W.length → ¬ W.length < 255 → Q nO M) : pX9_learn M (nG (rb 32 l)) Q := by
  have hl := hW.1
  have hle : whP W l ≤ W.length := (ffn_c (Nat.zero_le _)).2.1
  have hlen : (W ++ [l]).length = W.length + 1 := by rw [List.length_append]; rfl
  unfold pX9_learn
  refine cnumberOf h hW ho hl8 ?_
  unfold whI
  by_cases e : whP W l = W.length
  · rw [if_pos e]
    by_cases e2 : W.length < 255
    · have hk : (up2 M 1000 0 W.length (nG (rb 32 l))).1 1001 0 0 = nI W.length := h.1
      have hk2 : ∀ v, (up1 (up2 M 1000 0 W.length (nG (rb 32 l))) 1001 0 0 v).1 1001 0 0 = v := fun v => up1_eq
      try simp (disch := omega) only [li, nO_n, adI, mlI, tnI, vpI, ltI, leI, eqI, forall_eq, leT, leF, ltT, ltF, eqT, eqF, true_and, and_true, false_implies, true_implies, forall_const, not_true_eq_false, not_false_eq_true, implies_true, h.1, hk, hk2, sbs]
      refine hQ2 e e2 _ ((Kp.rf.u2 rfl).u1 rfl) ⟨?_, fun w hw => ?_⟩
      · rw [hlen]; exact up1_eq
      · rw [wD_app]
        by_cases ew : w = W.length
        · rw [if_pos ew, ew, up1_2, up2_eq]
        · rw [if_neg ew, up1_2, up2_ne (by omega)]; exact h.2 w (by omega)
    · have := hQ3 e e2
      try simp (disch := omega) only [li, nO_n, adI, mlI, tnI, vpI, ltI, leI, eqI, forall_eq, leT, leF, ltT, ltF, eqT, eqF, true_and, and_true, false_implies, true_implies, forall_const, not_true_eq_false, not_false_eq_true, implies_true, h.1]
      exact this
  · rw [if_neg e]
    have := hQ1 (by omega)
    have hn : ¬ nI (whP W l) = nO := nO_ne (by omega)
    try simp (disch := omega) only [li, nO_n, adI, mlI, tnI, vpI, ltI, leI, eqI, forall_eq, leT, leF, ltT, ltF, eqT, eqF, true_and, and_true, false_implies, true_implies, forall_const, not_true_eq_false, not_false_eq_true, implies_true, eq_false hn]
    exact this
