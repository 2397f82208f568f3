/-! PURE: the class's letters -/
def wD (W : List Wd) (w : Nat) : Wd := W.getD w []
/-- the words, in the class and in the reference -/
def CWr (W : List Wd) (M : Mem) : Prop := M.1 1001 0 0 = nI W.length ∧ ∀ w, w < W.length → M.2 1000 0 w = nG (rb 32 (wD W w))
def MWr (W : List Wd) (M : Mem) : Prop := M.1 1210 0 0 = nI W.length ∧ ∀ w, w < W.length → M.2 1216 0 w = nG (rb 27 (wD W w)) ∧ M.1 1215 0 w = nI (wD W w).length
theorem wD_ok {W : List Wd} (h : Kw W) {w : Nat} (hw : w < W.length) : Wok (wD W w) ∧ 1 ≤ (wD W w).length ∧ (wD W w).length ≤ 8 := by
  have : wD W w ∈ W := by unfold wD; rw [gd_in hw]; exact List.getElem_mem hw
  exact h.2.1 _ this
theorem rb_lt {b : Nat} (hb : 27 ≤ b) (hb2 : b ≤ 32) {l : Wd} (h : Wok l) (hl : l.length ≤ 8) : rb b l < 1099511627776 := by
  have h1 := rb_le hb l h
  have h2 : b ^ l.length ≤ 32 ^ 8 := Nat.le_trans (Nat.pow_le_pow_left hb2 _) (Nat.pow_le_pow_right (by omega) hl)
  have h3 : (32 : Nat) ^ 8 = 1099511627776 := by decide
  omega
theorem Wok_drop {l : Wd} (h : Wok l) (k : Nat) : Wok (l.drop k) := fun x hx => h x (List.mem_of_mem_drop hx)
theorem rb_drop {b : Nat} (hb : 27 ≤ b) {l : Wd} (h : Wok l) {k : Nat} (hk : k < l.length) : rb b (l.drop k) / b = rb b (l.drop (k + 1)) ∧ rb b (l.drop k) % b = l.getD k 0 ∧ 1 ≤ rb b (l.drop k) := by
  have e : l.drop k = l[k] :: l.drop (k + 1) := List.drop_eq_getElem_cons hk
  have hx := h l[k] (List.getElem_mem hk)
  rw [e, gd_in hk]
  have := rb_div hb (x := l[k]) (t := l.drop (k + 1)) hx.2
  refine ⟨this.1, this.2, ?_⟩
  show 1 ≤ rb b (l.drop (k + 1)) * b + l[k]
  omega
theorem clettersOf {W : List Wd} {M : Mem} {w : Nat} (h : CWr W M) (hW : Kw W) (hw : w < W.length) {Q : Int32 → Mem → Prop} (hQ : Q (nI (wD W w).length) M) : pX9_lettersOf M (nI w) Q := by
  obtain ⟨o1, o2, o3⟩ := wD_ok hW hw
  have hl := hW.1
  have e1 := h.2 w hw
  unfold pX9_lettersOf
  try simp (disch := omega) only [li, nO_n, adI, mlI, tnI, vpI, ltI, leI, eqI, forall_eq, leT, leF, ltT, ltF, eqT, eqF, true_and, and_true, false_implies, true_implies, forall_const, not_true_eq_false, not_false_eq_true, implies_true, e1]
  refine lp_up (fun k s => s = (M, nI k, nG (rb 32 ((wD W w).drop k)))) (Nat.zero_le (wD W w).length) rfl ?_ ?_
  · rintro k s L - hk rfl hL
    obtain ⟨d1, d2, d3⟩ := rb_drop (b := 32) (by omega) o1 hk
    have hlt := rb_lt (b := 32) (by omega) (by omega) (Wok_drop o1 k) (by rw [List.length_drop]; omega)
    have hn : ¬ lg_cmp (nG (rb 32 ((wD W w).drop k))) (nG 0) ≤ nI 0 := by
      show ¬ lg_cmp (nG (rb 32 ((wD W w).drop k))) (nG 0) ≤ 0
      rw [lg_cmp_le, leG (by omega) (by omega)]; omega
    unfold bX9_lettersOf_9
    have ed : nG (rb 32 ((wD W w).drop k)) / nG 32 = nG (rb 32 ((wD W w).drop (k + 1))) := by rw [dvG (by omega) (by omega) (by omega), d1]
    simp only [liG]
    try simp (disch := omega) only [li, nO_n, adI, mlI, tnI, vpI, ltI, leI, eqI, forall_eq, leT, leF, ltT, ltF, eqT, eqF, true_and, and_true, false_implies, true_implies, forall_const, not_true_eq_false, not_false_eq_true, implies_true, eq_false hn, ed]
    exact hL _ rfl
  · rintro s L rfl
    have e0 : (wD W w).drop (wD W w).length = [] := List.drop_length ..
    have hn : lg_cmp (nG (rb 32 ((wD W w).drop (wD W w).length))) (nG 0) ≤ nI 0 := by
      rw [e0]
      show lg_cmp (nG 0) (nG 0) ≤ 0
      rw [lg_cmp_le]; exact Int64.le_refl _
    unfold bX9_lettersOf_9
    simp only [liG]
    try simp (disch := omega) only [li, nO_n, adI, mlI, tnI, vpI, ltI, leI, eqI, forall_eq, leT, leF, ltT, ltF, eqT, eqF, true_and, and_true, false_implies, true_implies, forall_const, not_true_eq_false, not_false_eq_true, implies_true, eq_true hn]
    exact hQ
