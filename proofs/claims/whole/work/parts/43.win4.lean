/-! PURE: the shortest window, the reference -/
theorem mendOf {D : Dc} {K : Qc} {kn : Nat} {M : Mem} (h : MD D M) (hq : MK K M) (hD : DW D kn) (hK : QW K kn) {d b : Nat} (hd : d < D.length) (hb : b < dL D d) {Q : Int32 → Mem → Prop} (hQ : Q (nI (endW D K d b)) M) : pX11_endOf M (nI d) (nI b) Q := by
  have hn := hK.1
  have hl := hD.1
  have hkn := hD.2.1
  have hdl := hD.dl d
  unfold pX11_endOf
  refine lp_up (fun i s => s = (M, nI (foI D K d b i), nI i) ∧ noE D K d b i = false) (Nat.zero_le (sN K)) ⟨rfl, rfl⟩ ?_ ?_
  · rintro i s L - hlt ⟨rfl, hno⟩ hL
    have hw := (hK.2.2.2.2.1 i hlt).1
    have hcn := hD.cn (sW K i) d
    have hfb := foI_b hb hno i (Nat.le_refl _)
    have hno1 : noE D K d b (i + 1) = (noE D K d b i || decide (cnt D (sW K i) d ≠ 0 ∧ fo D d (sW K i) b = dL D d)) := by
      unfold noE
      rw [List.range_succ, List.any_append]
      simp
    unfold bX11_endOf_5 bX11_endOf_95
    by_cases e : cnt D (sW K i) d = 0
    · have e1 : foI D K d b (i + 1) = foI D K d b i := by rw [foI, if_pos e]
      have e2 : noE D K d b (i + 1) = false := by
        rw [hno1, hno, decide_eq_false (fun q => q.1 e)]; rfl
      try simp (disch := omega) only [li, nO_n, adI, mlI, tnI, vpI, ltI, leI, eqI, forall_eq, leT, leF, ltT, ltF, eqT, eqF, true_and, and_true, false_implies, true_implies, forall_const, not_true_eq_false, not_false_eq_true, implies_true, hq.n, hq.w, h.cn]
      exact hL _ ⟨by rw [e1], e2⟩
    · have e1 : foI D K d b (i + 1) = max (foI D K d b i) (fo D d (sW K i) b) := by rw [foI, if_neg e]
      try simp (disch := omega) only [li, nO_n, adI, mlI, tnI, vpI, ltI, leI, eqI, forall_eq, leT, leF, ltT, ltF, eqT, eqF, true_and, and_true, false_implies, true_implies, forall_const, not_true_eq_false, not_false_eq_true, implies_true, hq.n, hq.w, h.cn]
      have fin : ∀ k, b ≤ k → k ≤ dL D d → (∀ p, b ≤ p → p < k → dT D d p ≠ sW K i) → (k = dL D d ∨ dT D d k = sW K i) → bX11_endOf_73 (nI d) (nI b) Q L M (nI (foI D K d b i)) (nI i) (nI k) := by
        intro k k1 k2 k3 k4
        have ef := fo_at k1 k2 k3 k4
        unfold bX11_endOf_73 bX11_endOf_95
        by_cases ek : k = dL D d
        · have e3 : endW D K d b = 300 := by
            unfold endW
            rw [if_pos]
            exact anyR.mpr ⟨i, hlt, decide_eq_true ⟨e, by rw [ef, ek]⟩⟩
          rw [e3] at hQ
          try simp (disch := omega) only [li, nO_n, adI, mlI, tnI, vpI, ltI, leI, eqI, forall_eq, leT, leF, ltT, ltF, eqT, eqF, true_and, and_true, false_implies, true_implies, forall_const, not_true_eq_false, not_false_eq_true, implies_true, h.len]
          exact hQ
        · have e2 : noE D K d b (i + 1) = false := by
            rw [hno1, hno, decide_eq_false (fun q => ek (ef.symm.trans q.2))]; rfl
          try simp (disch := omega) only [li, nO_n, adI, mlI, tnI, vpI, ltI, leI, eqI, forall_eq, leT, leF, ltT, ltF, eqT, eqF, true_and, and_true, false_implies, true_implies, forall_const, not_true_eq_false, not_false_eq_true, implies_true, h.len]
          refine mmore (by omega) (by omega) ?_
          try simp (disch := omega) only [li, nO_n, adI, mlI, tnI, vpI, ltI, leI, eqI, forall_eq, leT, leF, ltT, ltF, eqT, eqF, true_and, and_true, false_implies, true_implies, forall_const, not_true_eq_false, not_false_eq_true, implies_true]
          exact hL _ ⟨by rw [e1, ef], e2⟩
      refine lp_up (fun k s => s = (M, nI (foI D K d b i), nI i, nI k) ∧ ∀ p, b ≤ p → p < k → dT D d p ≠ sW K i) (Nat.le_of_lt hb) ⟨rfl, fun p h1 h2 => absurd h1 (by omega)⟩ ?_ ?_
      · rintro k s L2 hbk hk ⟨rfl, hp⟩ hL2
        have ht := (hD.2.2 d hd).2.2.2.2 k hk
        have etx := h.tx hk
        unfold bX11_endOf_37
        by_cases ew : dT D d k = sW K i
        · have := fin k hbk (by omega) hp (Or.inr ew)
          try simp (disch := omega) only [li, nO_n, adI, mlI, tnI, vpI, ltI, leI, eqI, forall_eq, leT, leF, ltT, ltF, eqT, eqF, true_and, and_true, false_implies, true_implies, forall_const, not_true_eq_false, not_false_eq_true, implies_true, h.len, hq.w, etx]
          exact this
        · try simp (disch := omega) only [li, nO_n, adI, mlI, tnI, vpI, ltI, leI, eqI, forall_eq, leT, leF, ltT, ltF, eqT, eqF, true_and, and_true, false_implies, true_implies, forall_const, not_true_eq_false, not_false_eq_true, implies_true, h.len, hq.w, etx]
          refine hL2 _ ⟨rfl, fun p p1 p2 => ?_⟩
          by_cases ep : p = k
          · rw [ep]; exact ew
          · exact hp p p1 (by omega)
      · rintro s L2 ⟨rfl, hp⟩
        have := fin (dL D d) (by omega) (Nat.le_refl _) hp (Or.inl rfl)
        unfold bX11_endOf_37
        try simp (disch := omega) only [li, nO_n, adI, mlI, tnI, vpI, ltI, leI, eqI, forall_eq, leT, leF, ltT, ltF, eqT, eqF, true_and, and_true, false_implies, true_implies, forall_const, not_true_eq_false, not_false_eq_true, implies_true, h.len]
        exact this
  · rintro s L ⟨rfl, hno⟩
    have e3 : endW D K d b = foI D K d b (sN K) := by unfold endW; rw [hno, if_neg (by decide)]
    rw [e3] at hQ
    unfold bX11_endOf_5
    try simp (disch := omega) only [li, nO_n, adI, mlI, tnI, vpI, ltI, leI, eqI, forall_eq, leT, leF, ltT, ltF, eqT, eqF, true_and, and_true, false_implies, true_implies, forall_const, not_true_eq_false, not_false_eq_true, implies_true, hq.n]
    exact hQ
theorem mwindow {D : Dc} {K : Qc} {kn : Nat} {M : Mem} (h : MD D M) (hq : MK K M) (hD : DW D kn) (hK : QW K kn) {d x : Nat} (hd : d < D.length) (hx : x < 2) {Q : Int32 → Mem → Prop} (hQ : Q (if x = 0 then nI (win D K d).1 - nI 1 else nI (win D K d).2) M) : ∃ n : Nat, lp (fun L s => bX11_window_65 (nI d) (nI x) Q L s.1 s.2.1 s.2.2.1 s.2.2.2.1 s.2.2.2.2) n (M, 0, (-1), 151, 0) := by
  have hn := hK.1
  have hl := hD.1
  have hkn := hD.2.1
  have hdl := hD.dl d
  refine lp_up (fun i s => s = (M, nI (ctF (fun i => decide (cnt D (sW K i) d ≠ 0)) i), nO, nI 151, nI i)) (Nat.zero_le (sN K)) rfl ?_ ?_
  · rintro i s L - hlt rfl hL
    have hw := (hK.2.2.2.2.1 i hlt).1
    have hcn := hD.cn (sW K i) d
    unfold bX11_window_65 bX11_window_99
    by_cases e : cnt D (sW K i) d = 0
    · have e1 : ctF (fun i => decide (cnt D (sW K i) d ≠ 0)) (i + 1) = ctF (fun i => decide (cnt D (sW K i) d ≠ 0)) i + 0 := by
        rw [ctF, decide_eq_false (fun q => q e)]; rfl
      try simp (disch := omega) only [li, nO_n, adI, mlI, tnI, vpI, ltI, leI, eqI, forall_eq, leT, leF, ltT, ltF, eqT, eqF, true_and, and_true, false_implies, true_implies, forall_const, not_true_eq_false, not_false_eq_true, implies_true, hq.n, hq.w, h.cn]
      exact hL _ (by rw [e1])
    · have e1 : ctF (fun i => decide (cnt D (sW K i) d ≠ 0)) (i + 1) = ctF (fun i => decide (cnt D (sW K i) d ≠ 0)) i + 1 := by
        rw [ctF, decide_eq_true e]; rfl
      try simp (disch := omega) only [li, nO_n, adI, mlI, tnI, vpI, ltI, leI, eqI, forall_eq, leT, leF, ltT, ltF, eqT, eqF, true_and, and_true, false_implies, true_implies, forall_const, not_true_eq_false, not_false_eq_true, implies_true, hq.n, hq.w, h.cn]
      exact hL _ (by rw [e1])
  · rintro s L rfl
    have hc := ctF_le (fun i => decide (cnt D (sW K i) d ≠ 0)) (sN K)
    unfold win at hQ
    unfold bX11_window_65
    by_cases e0 : ctF (fun i => decide (cnt D (sW K i) d ≠ 0)) (sN K) = 0
    · have ea : someS D K none d = false := anyF (fun i hi hp => by
        have := ctF_zero.mp e0 i hi
        exact absurd (of_decide_eq_true hp).2 (of_decide_eq_false this))
      have e9 : ∀ z : Nat × Nat, (if false = true then z else (0, 0)) = (0, 0) := fun z => rfl
      rw [ea, e9] at hQ
      by_cases ex : x = 0
      · rw [if_pos ex] at hQ
        try simp (disch := omega) only [li, nO_n, adI, mlI, tnI, vpI, ltI, leI, eqI, forall_eq, leT, leF, ltT, ltF, eqT, eqF, true_and, and_true, false_implies, true_implies, forall_const, not_true_eq_false, not_false_eq_true, implies_true, hq.n]
        exact hQ
      · rw [if_neg ex] at hQ
        try simp (disch := omega) only [li, nO_n, adI, mlI, tnI, vpI, ltI, leI, eqI, forall_eq, leT, leF, ltT, ltF, eqT, eqF, true_and, and_true, false_implies, true_implies, forall_const, not_true_eq_false, not_false_eq_true, implies_true, hq.n]
        exact hQ
    · have ea : someS D K none d = true := by
        obtain ⟨i, hi, hp⟩ := ctF_ex e0
        exact anyR.mpr ⟨i, hi, decide_eq_true ⟨(by intro q; cases q), of_decide_eq_true hp⟩⟩
      rw [ea, if_pos rfl] at hQ
      try simp (disch := omega) only [li, nO_n, adI, mlI, tnI, vpI, ltI, leI, eqI, forall_eq, leT, leF, ltT, ltF, eqT, eqF, true_and, and_true, false_implies, true_implies, forall_const, not_true_eq_false, not_false_eq_true, implies_true, hq.n]
      refine lp_up (fun b s => s = (M, nI (wnA (endW D K d) b).1 - nI 1, nI (wnA (endW D K d) b).2, nI b)) (Nat.zero_le (dL D d)) rfl ?_ ?_
      · rintro b s L2 - hb rfl hL2
        have hB := wnA_B (cov := cov D K d) (g := endW D K d) hdl (fun b hb => endW_c hb) b (by omega)
        have hE : b ≤ endW D K d b ∧ endW D K d b ≤ 300 := by
          rcases endW_c (D := D) (K := K) hb with ⟨q, _⟩ | ⟨q1, q2, _⟩ <;> omega
        unfold bX11_window_122 bX11_window_165
        try simp (disch := omega) only [li, nO_n, adI, mlI, tnI, vpI, ltI, leI, eqI, forall_eq, leT, leF, ltT, ltF, eqT, eqF, true_and, and_true, false_implies, true_implies, forall_const, not_true_eq_false, not_false_eq_true, implies_true, h.len]
        refine mendOf h hq hD hK hd hb ?_
        by_cases e : endW D K d b + 1 - b < (wnA (endW D K d) b).2
        · have e1 : wnA (endW D K d) (b + 1) = (b + 1, endW D K d b + 1 - b) := by rw [wnA, if_pos e]
          try simp (disch := omega) only [li, nO_n, adI, mlI, tnI, vpI, ltI, leI, eqI, forall_eq, leT, leF, ltT, ltF, eqT, eqF, true_and, and_true, false_implies, true_implies, forall_const, not_true_eq_false, not_false_eq_true, implies_true, sbI]
          exact hL2 _ (by rw [e1]; show _ = (M, nI (b + 1) - nI 1, _, _); rw [sbs])
        · have e1 : wnA (endW D K d) (b + 1) = wnA (endW D K d) b := by rw [wnA, if_neg e]
          try simp (disch := omega) only [li, nO_n, adI, mlI, tnI, vpI, ltI, leI, eqI, forall_eq, leT, leF, ltT, ltF, eqT, eqF, true_and, and_true, false_implies, true_implies, forall_const, not_true_eq_false, not_false_eq_true, implies_true, sbI]
          exact hL2 _ (by rw [e1])
      · rintro s L2 rfl
        unfold bX11_window_122
        by_cases ex : x = 0
        · rw [if_pos ex] at hQ
          try simp (disch := omega) only [li, nO_n, adI, mlI, tnI, vpI, ltI, leI, eqI, forall_eq, leT, leF, ltT, ltF, eqT, eqF, true_and, and_true, false_implies, true_implies, forall_const, not_true_eq_false, not_false_eq_true, implies_true, h.len]
          exact hQ
        · rw [if_neg ex] at hQ
          try simp (disch := omega) only [li, nO_n, adI, mlI, tnI, vpI, ltI, leI, eqI, forall_eq, leT, leF, ltT, ltF, eqT, eqF, true_and, and_true, false_implies, true_implies, forall_const, not_true_eq_false, not_false_eq_true, implies_true, h.len]
          exact hQ
