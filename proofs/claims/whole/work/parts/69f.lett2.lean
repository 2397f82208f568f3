/-! PURE: a letter of a word -/
theorem rmG {a b : Nat} (ha : a < 9223372036854775808) (h0 : 0 < b) (hb : b < 9223372036854775808) : nG a - nG a / nG b * nG b = nG (a % b) := by
  rw [dvG ha h0 hb, mlG, sbG (Nat.div_mul_le_self a b)]
  exact congrArg nG (by have := Nat.div_add_mod' a b; omega)
def letN (W : List Wd) (w j : Nat) : Nat := (wD W w).getD ((wD W w).length - 1 - j) 0
theorem cletterOf {W : List Wd} {M : Mem} {w : Nat} (h : CWr W M) (hW : Kw W) (hw : w < W.length) (x : Int32) {Q : Int32 → Mem → Prop} (hn : x < nI 0 ∨ nI (wD W w).length ≤ x → Q nO M) (hy : ∀ j, j < (wD W w).length → x = nI j → Q (nI (letN W w j - 1)) M) : pX9_letterOf M (nI w) x Q := by
  obtain ⟨o1, o2, o3⟩ := wD_ok hW hw
  have hl := hW.1
  have e1 := h.2 w hw
  unfold pX9_letterOf
  refine clettersOf h hW hw ?_
  rcases ix3 x (wD W w).length (by omega) with hx | hx | ⟨j, hj, hx⟩
  · have hx2 : x < 0 := hx
    have := hn (Or.inl hx)
    simp only [eq_true hx2, true_implies, not_true_eq_false, false_implies, and_true]
    exact this
  · have hx0 : ¬ x < 0 := fun q => by
      have h1 := Int32.le_iff_toInt_le.mp hx
      have h2 := Int32.lt_iff_toInt_lt.mp q
      rw [nI_toInt (by omega)] at h1
      have : (0 : Int32).toInt = 0 := by decide
      omega
    have hx1 : ¬ x < nI (wD W w).length := fun q => by
      have h1 := Int32.le_iff_toInt_le.mp hx
      have h2 := Int32.lt_iff_toInt_lt.mp q
      omega
    have := hn (Or.inr hx)
    simp only [eq_false hx0, eq_false hx1, false_implies, not_false_eq_true, true_implies, true_and]
    exact this
  · have hy9 := hy j hj hx
    subst hx
    try simp (disch := omega) only [li, nO_n, adI, mlI, tnI, vpI, ltI, leI, eqI, forall_eq, leT, leF, ltT, ltF, eqT, eqF, true_and, and_true, false_implies, true_implies, forall_const, not_true_eq_false, not_false_eq_true, implies_true, e1, sbI]
    refine lp_up (fun k s => s = (M, nG (rb 32 ((wD W w).drop k)), nI ((wD W w).length - 1 - k))) (Nat.zero_le ((wD W w).length - 1 - j)) rfl ?_ ?_
    · rintro k s L - hk rfl hL
      obtain ⟨d1, d2, d3⟩ := rb_drop (b := 32) (by omega) o1 (k := k) (by omega)
      have hlt := rb_lt (b := 32) (by omega) (by omega) (Wok_drop o1 k) (by rw [List.length_drop]; omega)
      have ed : nG (rb 32 ((wD W w).drop k)) / nG 32 = nG (rb 32 ((wD W w).drop (k + 1))) := by rw [dvG (by omega) (by omega) (by omega), d1]
      obtain ⟨q, hq⟩ : ∃ q, (wD W w).length - 1 - k = q + 1 := ⟨(wD W w).length - 2 - k, by omega⟩
      have hq2 : (wD W w).length - 1 - (k + 1) = q := by omega
      unfold bX9_letterOf_30
      simp only [liG]
      try simp (disch := omega) only [li, nO_n, adI, mlI, tnI, vpI, ltI, leI, eqI, forall_eq, leT, leF, ltT, ltF, eqT, eqF, true_and, and_true, false_implies, true_implies, forall_const, not_true_eq_false, not_false_eq_true, implies_true, hq, ed, nO_add]
      exact hL _ (by rw [hq2])
    · rintro s L rfl
      obtain ⟨d1, d2, d3⟩ := rb_drop (b := 32) (by omega) o1 (k := (wD W w).length - 1 - j) (by omega)
      have hlt := rb_lt (b := 32) (by omega) (by omega) (Wok_drop o1 ((wD W w).length - 1 - j)) (by rw [List.length_drop]; omega)
      have hjj : (wD W w).length - 1 - ((wD W w).length - 1 - j) = j := by omega
      have hr : nG (rb 32 ((wD W w).drop ((wD W w).length - 1 - j))) - nG (rb 32 ((wD W w).drop ((wD W w).length - 1 - j))) / nG 32 * nG 32 = nG (letN W w j) := by
        rw [rmG (by omega) (by omega) (by omega), d2]; rfl
      have hm : letN W w j ∈ wD W w := by
        unfold letN
        rw [gd_in (by omega)]; exact List.getElem_mem _
      have hb := o1 _ hm
      unfold bX9_letterOf_30
      simp only [liG, hr]
      try simp (disch := omega) only [li, nO_n, adI, mlI, tnI, vpI, ltI, leI, eqI, forall_eq, leT, leF, ltT, ltF, eqT, eqF, true_and, and_true, false_implies, true_implies, forall_const, not_true_eq_false, not_false_eq_true, implies_true, hjj, ofG, sbI]
      exact hy9
theorem mletter {W : List Wd} {M : Mem} {w j : Nat} {u : Int32} (h : MWr W M) (hW : Kw W) (hw : w < W.length) (hj : j < (wD W w).length) {Q : Int32 → Mem → Prop} (hy : Q (nI (letN W w j - 1)) M) : ∃ n : Nat, lp (fun L s => bX11_letter_64 u (nI j) Q L s.1 s.2.1 s.2.2) n (M, nG (rb 27 (wD W w)), nI ((wD W w).length - 1)) := by
  obtain ⟨o1, o2, o3⟩ := wD_ok hW hw
  have hl := hW.1
  refine lp_up (fun k s => s = (M, nG (rb 27 ((wD W w).drop k)), nI ((wD W w).length - 1 - k))) (Nat.zero_le ((wD W w).length - 1 - j)) rfl ?_ ?_
  · rintro k s L - hk rfl hL
    obtain ⟨d1, d2, d3⟩ := rb_drop (b := 27) (by omega) o1 (k := k) (by omega)
    have hlt := rb_lt (b := 27) (by omega) (by omega) (Wok_drop o1 k) (by rw [List.length_drop]; omega)
    have ed : nG (rb 27 ((wD W w).drop k)) / nG 27 = nG (rb 27 ((wD W w).drop (k + 1))) := by rw [dvG (by omega) (by omega) (by omega), d1]
    obtain ⟨q, hq⟩ : ∃ q, (wD W w).length - 1 - k = q + 1 := ⟨(wD W w).length - 2 - k, by omega⟩
    have hq2 : (wD W w).length - 1 - (k + 1) = q := by omega
    unfold bX11_letter_64
    simp only [liG]
    try simp (disch := omega) only [li, nO_n, adI, mlI, tnI, vpI, ltI, leI, eqI, forall_eq, leT, leF, ltT, ltF, eqT, eqF, true_and, and_true, false_implies, true_implies, forall_const, not_true_eq_false, not_false_eq_true, implies_true, hq, ed, nO_add]
    exact hL _ (by rw [hq2])
  · rintro s L rfl
    obtain ⟨d1, d2, d3⟩ := rb_drop (b := 27) (by omega) o1 (k := (wD W w).length - 1 - j) (by omega)
    have hlt := rb_lt (b := 27) (by omega) (by omega) (Wok_drop o1 ((wD W w).length - 1 - j)) (by rw [List.length_drop]; omega)
    have hjj : (wD W w).length - 1 - ((wD W w).length - 1 - j) = j := by omega
    have hr : nG (rb 27 ((wD W w).drop ((wD W w).length - 1 - j))) - nG (rb 27 ((wD W w).drop ((wD W w).length - 1 - j))) / nG 27 * nG 27 = nG (letN W w j) := by
      rw [rmG (by omega) (by omega) (by omega), d2]; rfl
    have hm : letN W w j ∈ wD W w := by
      unfold letN
      rw [gd_in (by omega)]; exact List.getElem_mem _
    have hb := o1 _ hm
    unfold bX11_letter_64
    simp only [liG, hr]
    try simp (disch := omega) only [li, nO_n, adI, mlI, tnI, vpI, ltI, leI, eqI, forall_eq, leT, leF, ltT, ltF, eqT, eqF, true_and, and_true, false_implies, true_implies, forall_const, not_true_eq_false, not_false_eq_true, implies_true, hjj, ofG, sbI]
    exact hy
