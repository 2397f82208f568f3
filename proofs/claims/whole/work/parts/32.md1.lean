/-! PURE: the reference, documents and lists -/
theorem mmore {M : Mem} {a b : Nat} (ha : a < 2147483648) (hb : b < 2147483648) {Q : Int32 → Mem → Prop} (hQ : Q (nI (max a b)) M) : pX11_more M (nI a) (nI b) Q := by
  unfold pX11_more
  by_cases h : a ≤ b
  · rw [Nat.max_eq_right h] at hQ
    simp (disch := omega) only [li, nO_n, adI, mlI, tnI, vpI, ltI, leI, eqI, forall_eq, leT, leF, ltT, ltF, eqT, eqF, true_and, and_true, false_implies, true_implies, forall_const, not_true_eq_false, not_false_eq_true, implies_true]
    exact hQ
  · rw [Nat.max_eq_left (by omega)] at hQ
    simp (disch := omega) only [li, nO_n, adI, mlI, tnI, vpI, ltI, leI, eqI, forall_eq, leT, leF, ltT, ltF, eqT, eqF, true_and, and_true, false_implies, true_implies, forall_const, not_true_eq_false, not_false_eq_true, implies_true]
    exact hQ
theorem mless {M : Mem} {a b : Nat} (ha : a < 2147483648) (hb : b < 2147483648) {Q : Int32 → Mem → Prop} (hQ : Q (nI (min a b)) M) : pX11_less M (nI a) (nI b) Q := by
  unfold pX11_less
  by_cases h : b ≤ a
  · rw [Nat.min_eq_right h] at hQ
    simp (disch := omega) only [li, nO_n, adI, mlI, tnI, vpI, ltI, leI, eqI, forall_eq, leT, leF, ltT, ltF, eqT, eqF, true_and, and_true, false_implies, true_implies, forall_const, not_true_eq_false, not_false_eq_true, implies_true]
    exact hQ
  · rw [Nat.min_eq_left (by omega)] at hQ
    simp (disch := omega) only [li, nO_n, adI, mlI, tnI, vpI, ltI, leI, eqI, forall_eq, leT, leF, ltT, ltF, eqT, eqF, true_and, and_true, false_implies, true_implies, forall_const, not_true_eq_false, not_false_eq_true, implies_true]
    exact hQ
theorem mwidthOf {M : Mem} {v : Nat} (hv : v < 2147483648) {Q : Int32 → Mem → Prop} (hQ : Q (nI (wid v)) M) : pX11_widthOf M (nI v) Q := by
  unfold pX11_widthOf
  refine lp_rule (fun s => s.1 = M ∧ ∃ a b : Nat, s.2.1 = nI a ∧ s.2.2 = nI b ∧ b < 2147483648 ∧ a + wid b = wid v) (fun s => tn s.2.2) ?_ ⟨rfl, 0, v, rfl, rfl, hv, by omega⟩
  rintro ⟨m, y1, y2⟩ ⟨rfl, a, b, rfl, rfl, hb, e⟩ L hL
  unfold bX11_widthOf_4
  rw [wid] at e
  by_cases h : b = 0
  · rw [if_pos h] at e
    simp (disch := omega) only [li, nO_n, adI, mlI, tnI, vpI, ltI, leI, eqI, forall_eq, leT, leF, ltT, ltF, eqT, eqF, true_and, and_true, false_implies, true_implies, forall_const, not_true_eq_false, not_false_eq_true, implies_true]
    have : a = wid v := by omega
    rw [this]
    exact hQ
  · rw [if_neg h] at e
    simp (disch := omega) only [li, nO_n, adI, mlI, tnI, vpI, ltI, leI, eqI, forall_eq, leT, leF, ltT, ltF, eqT, eqF, true_and, and_true, false_implies, true_implies, forall_const, not_true_eq_false, not_false_eq_true, implies_true, dvI]
    refine hL _ ⟨rfl, a + 1, b / 2, rfl, rfl, by omega, by omega⟩ ?_
    show tn (nI (b / 2)) < tn (nI b)
    rw [tnI (by omega), tnI hb]
    omega
theorem misKept {D : Dc} {kn : Nat} {M : Mem} (h : MD D M) (hD : DW D kn) {d : Nat} (hd : d < D.length) {Q : Int32 → Mem → Prop} (hQ : Q (nI (if dS D d = 3 then 0 else 1)) M) : pX11_isKept M (nI d) Q := by
  have hl := hD.1
  obtain ⟨-, -, h1, h3, -⟩ := hD.2.2 d hd
  unfold pX11_isKept bX11_isKept_20
  rcases (show dS D d = 1 ∨ dS D d = 2 ∨ dS D d = 3 by omega) with e | e | e <;> (simp [e] at hQ; simp (disch := omega) only [li, nO_n, adI, mlI, tnI, vpI, ltI, leI, eqI, forall_eq, leT, leF, ltT, ltF, eqT, eqF, true_and, and_true, false_implies, true_implies, forall_const, not_true_eq_false, not_false_eq_true, implies_true, h.st, e]; exact hQ)
theorem mkept {D : Dc} {kn : Nat} {M : Mem} (h : MD D M) (hD : DW D kn) {Q : Int32 → Mem → Prop} (hQ : Q (nI (keptN D)) M) : pX11_kept M Q := by
  have hl := hD.1
  unfold pX11_kept
  refine lp_fn (g := fun n => (M, nI (ctF (fun d => dS D d != 3) n), nI n)) (Nat.zero_le D.length) (fun n L _ hlt hL => ?_) (fun L => ?_)
  · unfold bX11_kept_4 bX11_kept_28
    simp (disch := omega) only [li, nO_n, adI, mlI, tnI, vpI, ltI, leI, eqI, forall_eq, leT, leF, ltT, ltF, eqT, eqF, true_and, and_true, false_implies, true_implies, forall_const, not_true_eq_false, not_false_eq_true, implies_true, h.n]
    refine misKept h hD hlt ?_
    by_cases e : dS D n = 3
    · simp [e, ctF] at hL
      rw [if_pos e]
      simp (disch := omega) only [li, nO_n, adI, mlI, tnI, vpI, ltI, leI, eqI, forall_eq, leT, leF, ltT, ltF, eqT, eqF, true_and, and_true, false_implies, true_implies, forall_const, not_true_eq_false, not_false_eq_true, implies_true]
      exact hL
    · simp [e, ctF] at hL
      rw [if_neg e]
      simp (disch := omega) only [li, nO_n, adI, mlI, tnI, vpI, ltI, leI, eqI, forall_eq, leT, leF, ltT, ltF, eqT, eqF, true_and, and_true, false_implies, true_implies, forall_const, not_true_eq_false, not_false_eq_true, implies_true]
      exact hL
  · unfold bX11_kept_4
    simp (disch := omega) only [li, nO_n, adI, mlI, tnI, vpI, ltI, leI, eqI, forall_eq, leT, leF, ltT, ltF, eqT, eqF, true_and, and_true, false_implies, true_implies, forall_const, not_true_eq_false, not_false_eq_true, implies_true, h.n]
    exact hQ
theorem mgone {D : Dc} {kn : Nat} {M : Mem} (h : MD D M) (hD : DW D kn) {Q : Int32 → Mem → Prop} (hQ : Q (nI (goneN D)) M) : pX11_gone M Q := by
  have hl := hD.1
  unfold pX11_gone
  refine lp_fn (g := fun n => (M, nI (ctF (fun d => dS D d == 2) n), nI n)) (Nat.zero_le D.length) (fun n L _ hlt hL => ?_) (fun L => ?_)
  · unfold bX11_gone_4 bX11_gone_30
    have h3 := hD.ds n
    by_cases e : dS D n = 2
    · simp [e, ctF] at hL
      simp (disch := omega) only [li, nO_n, adI, mlI, tnI, vpI, ltI, leI, eqI, forall_eq, leT, leF, ltT, ltF, eqT, eqF, true_and, and_true, false_implies, true_implies, forall_const, not_true_eq_false, not_false_eq_true, implies_true, h.n, h.st, e]
      exact hL
    · simp [e, ctF] at hL
      simp (disch := omega) only [li, nO_n, adI, mlI, tnI, vpI, ltI, leI, eqI, forall_eq, leT, leF, ltT, ltF, eqT, eqF, true_and, and_true, false_implies, true_implies, forall_const, not_true_eq_false, not_false_eq_true, implies_true, h.n, h.st, e]
      exact hL
  · unfold bX11_gone_4
    simp (disch := omega) only [li, nO_n, adI, mlI, tnI, vpI, ltI, leI, eqI, forall_eq, leT, leF, ltT, ltF, eqT, eqF, true_and, and_true, false_implies, true_implies, forall_const, not_true_eq_false, not_false_eq_true, implies_true, h.n]
    exact hQ
theorem mgain {D : Dc} {kn : Nat} {M : Mem} (h : MD D M) (hD : DW D kn) {w d : Nat} (hw : w < 256) (hd : d < 64) {Q : Int32 → Mem → Prop} (hQ : Q (nI (gain D w d)) M) : pX11_gain M (nI w) (nI d) Q := by
  have h1 := hD.cn w d
  have h2 := hD.dl d
  unfold pX11_gain
  simp (disch := omega) only [li, nO_n, adI, mlI, tnI, vpI, ltI, leI, eqI, forall_eq, leT, leF, ltT, ltF, eqT, eqF, true_and, and_true, false_implies, true_implies, forall_const, not_true_eq_false, not_false_eq_true, implies_true, h.cn, h.len, dvI]
  exact hQ
/-- the list that was gathered -/
def Ls (D : Dc) (w : Nat) (M : Mem) : Prop := M.1 1237 0 0 = nI (pN D w) ∧ ∀ k, k < pN D w → M.1 1238 0 k = nI (pK D w k)
def kL (c _ : Nat) : Bool := decide (c ≠ 1237 ∧ c ≠ 1238)
theorem mgathers {D : Dc} {kn : Nat} {M : Mem} (h : MD D M) (hD : DW D kn) {w : Nat} (hw : w < 256) {Q : Mem → Prop} (hQ : ∀ M', Kp kL M M' → Ls D w M' → Q M') : pX11_gathers M (nI w) Q := by
  have hl := hD.1
  unfold pX11_gathers
  intro M1 e1
  have hst : ∀ n, n ≤ D.length → (lsT D w n).length ≤ n := fun n _ => lsT_le D w n
  refine lp_up (fun n s => s.2 = nI n ∧ Kp kL M s.1 ∧ s.1.1 1237 0 0 = nI (lsT D w n).length ∧ ∀ k, k < (lsT D w n).length → s.1.1 1238 0 k = nI ((lsT D w n).getD k 0)) (Nat.zero_le D.length) ⟨rfl, by rw [e1]; exact Kp.rf.u1 rfl, by rw [e1]; exact up1_eq, fun k hk => absurd hk (by simp [lsT])⟩ ?_ ?_
  · rintro n ⟨m, y⟩ L - hlt ⟨rfl, hK, hc, hx⟩ hL
    have hm : MD D m := h.kp (hK.wk (fun c i hc => by simp [pMD, kL] at hc ⊢; omega))
    unfold bX11_gathers_7 bX11_gathers_57
    dsimp only at hc hx hK ⊢
    have hlen := hst n (by omega)
    simp (disch := omega) only [li, nO_n, adI, mlI, tnI, vpI, ltI, leI, eqI, forall_eq, leT, leF, ltT, ltF, eqT, eqF, true_and, and_true, false_implies, true_implies, forall_const, not_true_eq_false, not_false_eq_true, implies_true, hm.n]
    refine misKept hm hD hlt ?_
    have hcn := hD.cn w n
    by_cases e : inL D w n = true
    · have e2 : dS D n ≠ 3 ∧ cnt D w n ≠ 0 := by
        unfold inL at e; simp at e; exact e
      have hl2 : lsT D w (n + 1) = lsT D w n ++ [n] := by rw [lsT_succ, if_pos e]
      rw [if_neg e2.1]
      simp (disch := omega) only [li, nO_n, adI, mlI, tnI, vpI, ltI, leI, eqI, forall_eq, leT, leF, ltT, ltF, eqT, eqF, true_and, and_true, false_implies, true_implies, forall_const, not_true_eq_false, not_false_eq_true, implies_true, hm.cn, hc]
      refine hL _ ⟨rfl, (hK.u1 rfl).u1 rfl, ?_, ?_⟩
      · dsimp only
        rw [up1_eq, hl2, up1_ne (by simp), hc, List.length_append]
        exact adI _ _
      · dsimp only
        intro k hk
        rw [hl2, List.length_append] at hk
        have hk : k < (lsT D w n).length + 1 := hk
        rw [up1_ne (by simp), hl2]
        by_cases ek : k = (lsT D w n).length
        · subst ek
          rw [up1_eq, gd_r]
        · rw [up1_ne (by simp; exact ek), hx k (by omega)]
          rw [gd_l (by omega)]
    · have hl2 : lsT D w (n + 1) = lsT D w n := by rw [lsT_succ, if_neg e, List.append_nil]
      have hL2 : L (m, nI (n + 1)) := hL _ ⟨rfl, hK, by dsimp only; rw [hl2]; exact hc, by dsimp only; rw [hl2]; exact hx⟩
      by_cases e2 : dS D n = 3
      · rw [if_pos e2]
        simp (disch := omega) only [li, nO_n, adI, mlI, tnI, vpI, ltI, leI, eqI, forall_eq, leT, leF, ltT, ltF, eqT, eqF, true_and, and_true, false_implies, true_implies, forall_const, not_true_eq_false, not_false_eq_true, implies_true]
        exact hL2
      · have e3 : cnt D w n = 0 := by
          unfold inL at e; simp [e2] at e; exact e
        rw [if_neg e2]
        simp (disch := omega) only [li, nO_n, adI, mlI, tnI, vpI, ltI, leI, eqI, forall_eq, leT, leF, ltT, ltF, eqT, eqF, true_and, and_true, false_implies, true_implies, forall_const, not_true_eq_false, not_false_eq_true, implies_true, hm.cn, e3]
        exact hL2
  · rintro ⟨m, y⟩ L ⟨rfl, hK, hc, hx⟩
    have hm : MD D m := h.kp (hK.wk (fun c i hc => by simp [pMD, kL] at hc ⊢; omega))
    unfold bX11_gathers_7
    dsimp only
    simp (disch := omega) only [li, nO_n, adI, mlI, tnI, vpI, ltI, leI, eqI, forall_eq, leT, leF, ltT, ltF, eqT, eqF, true_and, and_true, false_implies, true_implies, forall_const, not_true_eq_false, not_false_eq_true, implies_true, hm.n]
    exact hQ m hK ⟨hc, hx⟩
