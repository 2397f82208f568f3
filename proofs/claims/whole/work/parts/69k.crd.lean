/-! PURE: the class reads a document -/
def pDr (c _ : Nat) : Bool := decide (c ≠ 201 ∧ c ≠ 202 ∧ c ≠ 203 ∧ c ≠ 1000 ∧ c ≠ 1001)
def CPre (W : List Wd) (M : Mem) : Prop := ∀ w, w < W.length → M.2 1000 0 w = nG (rb 32 (wD W w))
theorem wD_pre {W e : List Wd} {w : Nat} (h : w < W.length) : wD (W ++ e) w = wD W w := by unfold wD; exact gd_l h
theorem CPre_of {W V e : List Wd} {M : Mem} (h : CWr V M) (hV : V = W ++ e) : CPre W M := fun w hw => by
  have := h.2 w (by rw [hV, List.length_append]; omega)
  rw [hV, wD_pre hw] at this
  exact this
def CRd (s : Rd) (M0 M : Mem) (b : Int32) (z : Int64) : Prop := Kp pDr M0 M ∧ CWr (rW s) M ∧ M.1 202 0 0 = nI (rT s).length ∧ (∀ k, k < (rT s).length → M.1 201 0 k = nI ((rT s).getD k 0)) ∧ (rB s = 0 → b = nO) ∧ (rB s ≠ 0 → b = nI (rB s - 1) ∧ z = nG (rb 32 (rL s)))
theorem ctake {W0 : List Wd} {i : Nat} {s : Rd} {M0 M : Mem} {b : Int32} {z : Int64} (hI : RI W0 i s) (hs : rF s = 0) (hb : rB s ≠ 0) (h : CRd s M0 M b z) {Q : Int32 → Mem → Prop} (h1 : rF (clD s) = 0 → ∀ M', CRd (clD s) M0 M' nO z → Q (nI 1) M') (h2 : full (rW s) (rL s) = true → Q (nI 0) M) : pX1_take M (nG (rb 32 (rL s))) Q := by
  obtain ⟨k1, k2, k3, k4, -, -⟩ := h
  obtain ⟨g1, g2, g3, g4, g5⟩ := hI hs
  obtain ⟨f1, f2, f3, f4, f5⟩ := g5 hb
  have hle := whP_le (rW s) (rL s)
  have hkn := g1.1
  unfold pX1_take
  by_cases hu : full (rW s) (rL s) = true
  · have hq := h2 hu
    obtain ⟨u1, u2⟩ := full_yes hu
    refine clearn k2 g1 f5 f4 (fun q => absurd q (by omega)) (fun _ q => absurd q u2) (fun _ _ => ?_)
    simp only [li, nO_n, not_true_eq_false, false_implies, true_implies, true_and]
    exact hq
  · have hul := full_no hu
    have ec : clD s = (0, 0, rT s ++ [whP (rW s) (rL s)], tkW (rW s) (rL s), 0, []) := by unfold clD; rw [if_neg hb, if_neg hu]
    have key : ∀ M1 : Mem, Kp pDr M0 M1 → CWr (tkW (rW s) (rL s)) M1 → M1.1 202 0 0 = nI (rT s).length → (∀ k, k < (rT s).length → M1.1 201 0 k = nI ((rT s).getD k 0)) → CRd (clD s) M0 (up1 (up1 M1 201 0 (rT s).length (nI (whP (rW s) (rL s)))) 202 0 0 (nI ((rT s).length + 1))) nO z := by
      intro M1 m1 m2 m3 m4
      rw [ec]
      refine ⟨(m1.u1 rfl).u1 rfl, ⟨?_, fun w hw => m2.2 w hw⟩, ?_, fun k hk => ?_, fun _ => rfl, fun q => absurd rfl q⟩
      · rw [up1_ne (by simp), up1_ne (by simp)]; exact m2.1
      · rw [up1_eq]
        show nI _ = nI (rT s ++ [whP (rW s) (rL s)]).length
        rw [List.length_append]; rfl
      · have hk : k < (rT s ++ [whP (rW s) (rL s)]).length := hk
        rw [List.length_append] at hk
        have hk : k < (rT s).length + 1 := hk
        show _ = nI ((rT s ++ [whP (rW s) (rL s)]).getD k 0)
        rw [up1_ne (by simp)]
        by_cases e : k = (rT s).length
        · rw [e, up1_eq, gd_r]
        · rw [up1_ne (by simp; exact e), gd_l (by omega)]; exact m4 k (by omega)
    have hr : ∀ (w : Nat) (M1 : Mem), w = whP (rW s) (rL s) → Kp pDr M0 M1 → CWr (tkW (rW s) (rL s)) M1 → M1.1 202 0 0 = nI (rT s).length → (∀ k, k < (rT s).length → M1.1 201 0 k = nI ((rT s).getD k 0)) → (fun (r1 : Int32) (M2 : Mem) => ((¬ r1 = (-1) → vp_in (M2.1 202 0 0) 150 ∧ ∀ M5 : Mem, M5 = up1 M2 201 0 (tn (M2.1 202 0 0)) r1 → ∀ M6 : Mem, M6 = up1 M5 202 0 0 ((M5.1 202 0 0) + 1) → Q 1 M6) ∧ (r1 = (-1) → Q 0 M2))) (nI w) M1 := by
      intro w M1 ew m1 m2 m3 m4
      subst ew
      have hn : ¬ nI (whP (rW s) (rL s)) = nO := nO_ne (by omega)
      have e2 : (up1 M1 201 0 (rT s).length (nI (whP (rW s) (rL s)))).1 202 0 0 = nI (rT s).length := by rw [up1_ne (by simp)]; exact m3
      have := h1 (by rw [ec]; rfl) _ (key M1 m1 m2 m3 m4)
      try simp (disch := omega) only [li, nO_n, adI, mlI, tnI, vpI, ltI, leI, eqI, forall_eq, leT, leF, ltT, ltF, eqT, eqF, true_and, and_true, false_implies, true_implies, forall_const, not_true_eq_false, not_false_eq_true, implies_true, m3, eq_false hn, e2]
      exact this
    by_cases e2 : whP (rW s) (rL s) = (rW s).length
    · have et : tkW (rW s) (rL s) = rW s ++ [rL s] := by unfold tkW; rw [if_pos e2]
      refine clearn k2 g1 f5 f4 (fun q => absurd q (by omega)) (fun _ _ M1 m1 m2 => ?_) (fun _ q => absurd (hul e2) q)
      have kk : Kp pDr M0 M1 := k1.tr (m1.wk (fun c j q => by unfold pDr at q; unfold pWl; simp at q ⊢; omega))
      refine hr _ M1 e2.symm kk (by rw [et]; exact m2) ?_ (fun k hk => ?_)
      · rw [m1.g rfl]; exact k3
      · rw [m1.g rfl]; exact k4 k hk
    · have et : tkW (rW s) (rL s) = rW s := by unfold tkW; rw [if_neg e2]
      refine clearn k2 g1 f5 f4 (fun _ => ?_) (fun q => absurd q e2) (fun q => absurd q e2)
      exact hr _ M rfl k1 (by rw [et]; exact k2) k3 k4
theorem crd36 {W0 : List Wd} {i c : Nat} {s : Rd} {M0 M : Mem} {b : Int32} {z : Int64} {x2 : Int32} (hI : RI W0 i s) (hs : rF s = 0) (h : CRd s M0 M b z) (hi : i ≤ 300) (hc : c < 256) {Q : Int32 → Mem → Prop} {L : Mem × Int32 × Int64 × Int32 → Prop} (hL : rF (stD s i c) = 0 → ∀ M' b' z', CRd (stD s i c) M0 M' b' z' → L (M', b', z', nI (i + 1))) (hQ : rF (stD s i c) ≠ 0 → ∀ M', Kp pDr M0 M' → M'.1 203 0 0 = nI (rP (stD s i c)) → CPre W0 M' → Q (nI (rF (stD s i c))) M') : bX1_readWords_36 x2 Q L M b z (nI i) (nI c) := by
  obtain ⟨g1, ⟨e0, g2⟩, g3, g4, g5⟩ := hI hs
  obtain ⟨k1, k2, k3, k4, k5, k6⟩ := h
  have hfa : ∀ (M1 : Mem) (V e1 : List Wd) (x : Nat), Kp pDr M0 M1 → CWr V M1 → V = W0 ++ e1 → Kp pDr M0 (up1 M1 203 0 0 (nI x)) ∧ (up1 M1 203 0 0 (nI x)).1 203 0 0 = nI x ∧ CPre W0 (up1 M1 203 0 0 (nI x)) := fun M1 V e1 x m1 m2 m3 => ⟨m1.u1 rfl, up1_eq, CPre_of (M := up1 M1 203 0 0 (nI x)) ⟨by rw [up1_ne (by simp)]; exact m2.1, m2.2⟩ m3⟩
  unfold bX1_readWords_36
  refine cisL (by omega) ?_
  by_cases hcl : isL c = true
  · have est : stD s i c = stL s i c := stD_L hs hcl
    rw [est] at hL hQ
    rw [hcl]
    by_cases hb : rB s = 0
    · have eb := k5 hb
      subst eb
      unfold stL at hL hQ
      rw [if_pos hb] at hL hQ
      by_cases h6 : (rT s).length < 150
      · rw [if_pos h6] at hL hQ
        have h0 : rb 32 ([] : Wd) = 0 := rfl
        have hz : (0 : Int64) = nG (rb 32 ([] : Wd)) := rfl
        have hh : bX1_readWords_73 x2 Q L M (nI i) 0 (nI i) (nI c) := by
          unfold bX1_readWords_73
          rw [hz]
          have hii : nI i - nI i = nI 0 := by rw [sbI (Nat.le_refl _)]; congr 1; omega
          try simp (disch := omega) only [li, nO_n, adI, mlI, tnI, vpI, ltI, leI, eqI, forall_eq, leT, leF, ltT, ltF, eqT, eqF, true_and, and_true, false_implies, true_implies, forall_const, not_true_eq_false, not_false_eq_true, implies_true, hii]
          refine cspell hcl ?_
          unfold bX1_readWords_140
          try simp (disch := omega) only [li, nO_n, adI, mlI, tnI, vpI, ltI, leI, eqI, forall_eq, leT, leF, ltT, ltF, eqT, eqF, true_and, and_true, false_implies, true_implies, forall_const, not_true_eq_false, not_false_eq_true, implies_true]
          exact hL rfl _ _ _ ⟨k1, k2, k3, k4, fun q => absurd q (Nat.succ_ne_zero i), fun _ => ⟨rfl, rfl⟩⟩
        show (_ ∧ _)
        try simp (disch := omega) only [b1, if_true, li, nO_n, adI, mlI, tnI, vpI, ltI, leI, eqI, forall_eq, leT, leF, ltT, ltF, eqT, eqF, true_and, and_true, false_implies, true_implies, forall_const, not_true_eq_false, not_false_eq_true, implies_true, k3]
        exact hh
      · rw [if_neg h6] at hL hQ
        obtain ⟨m1, m2, m3⟩ := hfa M (rW s) e0 i k1 k2 g2
        have := hQ (by show (2 : Nat) ≠ 0; decide) _ m1 m2 m3
        show (_ ∧ _)
        try simp (disch := omega) only [b1, if_true, li, nO_n, adI, mlI, tnI, vpI, ltI, leI, eqI, forall_eq, leT, leF, ltT, ltF, eqT, eqF, true_and, and_true, false_implies, true_implies, forall_const, not_true_eq_false, not_false_eq_true, implies_true, k3]
        unfold pX1_faultAt
        try simp (disch := omega) only [li, nO_n, adI, mlI, tnI, vpI, ltI, leI, eqI, forall_eq, leT, leF, ltT, ltF, eqT, eqF, true_and, and_true, false_implies, true_implies, forall_const, not_true_eq_false, not_false_eq_true, implies_true]
        exact this
    · obtain ⟨eb, ez⟩ := k6 hb
      obtain ⟨f1, f2, f3, f4, f5⟩ := g5 hb
      subst eb ez
      unfold stL at hL hQ
      rw [if_neg hb] at hL hQ
      have hn : ¬ nI (rB s - 1) = nO := nO_ne (by omega)
      have hii : nI i - nI (rB s - 1) = nI (rL s).length := by rw [sbI (by omega)]; congr 1; omega
      by_cases h6 : (rL s).length < 8
      · rw [if_pos h6] at hL hQ
        have hh : bX1_readWords_73 x2 Q L M (nI (rB s - 1)) (nG (rb 32 (rL s))) (nI i) (nI c) := by
          unfold bX1_readWords_73
          try simp (disch := omega) only [li, nO_n, adI, mlI, tnI, vpI, ltI, leI, eqI, forall_eq, leT, leF, ltT, ltF, eqT, eqF, true_and, and_true, false_implies, true_implies, forall_const, not_true_eq_false, not_false_eq_true, implies_true, hii]
          refine cspell hcl ?_
          unfold bX1_readWords_140
          try simp (disch := omega) only [li, nO_n, adI, mlI, tnI, vpI, ltI, leI, eqI, forall_eq, leT, leF, ltT, ltF, eqT, eqF, true_and, and_true, false_implies, true_implies, forall_const, not_true_eq_false, not_false_eq_true, implies_true]
          exact hL rfl _ _ _ ⟨k1, k2, k3, k4, fun q => absurd q hb, fun _ => ⟨rfl, rfl⟩⟩
        show (_ ∧ _)
        try simp (disch := omega) only [b1, if_true, li, nO_n, adI, mlI, tnI, vpI, ltI, leI, eqI, forall_eq, leT, leF, ltT, ltF, eqT, eqF, true_and, and_true, false_implies, true_implies, forall_const, not_true_eq_false, not_false_eq_true, implies_true, eq_false hn]
        exact hh
      · rw [if_neg h6] at hL hQ
        obtain ⟨m1, m2, m3⟩ := hfa M (rW s) e0 i k1 k2 g2
        have := hQ (by show (1 : Nat) ≠ 0; decide) _ m1 m2 m3
        have hh : bX1_readWords_73 x2 Q L M (nI (rB s - 1)) (nG (rb 32 (rL s))) (nI i) (nI c) := by
          unfold bX1_readWords_73 pX1_faultAt
          try simp (disch := omega) only [li, nO_n, adI, mlI, tnI, vpI, ltI, leI, eqI, forall_eq, leT, leF, ltT, ltF, eqT, eqF, true_and, and_true, false_implies, true_implies, forall_const, not_true_eq_false, not_false_eq_true, implies_true, hii]
          exact this
        show (_ ∧ _)
        try simp (disch := omega) only [b1, if_true, li, nO_n, adI, mlI, tnI, vpI, ltI, leI, eqI, forall_eq, leT, leF, ltT, ltF, eqT, eqF, true_and, and_true, false_implies, true_implies, forall_const, not_true_eq_false, not_false_eq_true, implies_true, eq_false hn]
        exact hh
  · have hcf : isL c = false := by cases q : isL c; rfl; exact absurd q hcl
    have est : stD s i c = stX (clD s) i c := by unfold stD; rw [if_neg (nn0 hs), if_neg hcl]
    rw [est] at hL hQ
    rw [hcf]
    have hx : ∀ (M1 : Mem) (z1 : Int64), rF (clD s) = 0 → CRd (clD s) M0 M1 nO z1 → bX1_readWords_123 x2 Q L M1 z1 (nI i) (nI c) := by
      intro M1 z1 hf hC
      unfold bX1_readWords_123
      by_cases e32 : c = 32
      · have esx : stX (clD s) i c = clD s := by unfold stX; rw [if_pos (Or.inr e32)]
        rw [esx] at hL
        have := hL hf M1 nO z1 hC
        subst e32
        unfold bX1_readWords_140
        try simp (disch := omega) only [li, nO_n, adI, mlI, tnI, vpI, ltI, leI, eqI, forall_eq, leT, leF, ltT, ltF, eqT, eqF, true_and, and_true, false_implies, true_implies, forall_const, not_true_eq_false, not_false_eq_true, implies_true]
        exact this
      · have esx : stX (clD s) i c = (1, i, rT (clD s), rW (clD s), 0, []) := by unfold stX; rw [if_neg (show ¬ (rF (clD s) ≠ 0 ∨ c = 32) from fun q => q.elim (nn0 hf) e32)]
        rw [esx] at hQ
        obtain ⟨-, ⟨e1, q2⟩, -⟩ := RI_cl hI hs i hf
        obtain ⟨m1, m2, m3⟩ := hfa M1 (rW (clD s)) e1 i hC.1 hC.2.1 q2
        have := hQ (by show (1 : Nat) ≠ 0; decide) _ m1 m2 m3
        unfold pX1_faultAt
        try simp (disch := omega) only [li, nO_n, adI, mlI, tnI, vpI, ltI, leI, eqI, forall_eq, leT, leF, ltT, ltF, eqT, eqF, true_and, and_true, false_implies, true_implies, forall_const, not_true_eq_false, not_false_eq_true, implies_true]
        exact this
    by_cases hb : rB s = 0
    · have eb := k5 hb
      subst eb
      have hx1 := hx M z (by rw [clD_0 hb]; exact hs) (by rw [clD_0 hb]; exact ⟨k1, k2, k3, k4, fun _ => rfl, fun q => absurd hb q⟩)
      show (_ ∧ _)
      try simp (disch := omega) only [b1, Bool.false_eq_true, if_false, li, nO_n, adI, mlI, tnI, vpI, ltI, leI, eqI, forall_eq, leT, leF, ltT, ltF, eqT, eqF, true_and, and_true, false_implies, true_implies, forall_const, not_true_eq_false, not_false_eq_true, implies_true]
      exact hx1
    · obtain ⟨eb, ez⟩ := k6 hb
      obtain ⟨f1, f2, f3, f4, f5⟩ := g5 hb
      have hn : ¬ b = nO := by rw [eb]; exact nO_ne (by omega)
      have hh : pX1_take M z (fun r13 M14 => ((¬ r13 = 0 → bX1_readWords_123 x2 Q L M14 z (nI i) (nI c)) ∧ (r13 = 0 → pX1_faultAt M14 2 b (fun r16 M17 => Q r16 M17)))) := by
        subst eb ez
        refine ctake hI hs hb ⟨k1, k2, k3, k4, k5, k6⟩ (fun hf M' hC => ?_) (fun hu => ?_)
        · have := hx M' _ hf hC
          try simp (disch := omega) only [li, nO_n, adI, mlI, tnI, vpI, ltI, leI, eqI, forall_eq, leT, leF, ltT, ltF, eqT, eqF, true_and, and_true, false_implies, true_implies, forall_const, not_true_eq_false, not_false_eq_true, implies_true]
          exact this
        · have ec : clD s = (2, rB s - 1, rT s, rW s, 0, []) := by unfold clD; rw [if_neg hb, if_pos hu]
          have esx : stX (clD s) i c = (2, rB s - 1, rT s, rW s, 0, []) := by rw [ec]; unfold stX; rw [if_pos (Or.inl (show rF ((2, rB s - 1, rT s, rW s, 0, []) : Rd) ≠ 0 from Nat.succ_ne_zero 1))]
          rw [esx] at hQ
          obtain ⟨m1, m2, m3⟩ := hfa M (rW s) e0 (rB s - 1) k1 k2 g2
          have := hQ (by show (2 : Nat) ≠ 0; decide) _ m1 m2 m3
          unfold pX1_faultAt
          try simp (disch := omega) only [li, nO_n, adI, mlI, tnI, vpI, ltI, leI, eqI, forall_eq, leT, leF, ltT, ltF, eqT, eqF, true_and, and_true, false_implies, true_implies, forall_const, not_true_eq_false, not_false_eq_true, implies_true]
          exact this
      show (_ ∧ _)
      try simp (disch := omega) only [b1, Bool.false_eq_true, if_false, li, nO_n, adI, mlI, tnI, vpI, ltI, leI, eqI, forall_eq, leT, leF, ltT, ltF, eqT, eqF, true_and, and_true, false_implies, true_implies, forall_const, not_true_eq_false, not_false_eq_true, implies_true, eq_false hn]
      exact hh
theorem creadWords {W : List Wd} {t : Nat → Nat} {n : Nat} {M : Mem} (h : CWr W M) (hW : Kw W) (hn : n ≤ 300) (ht : ∀ k, k < n → M.1 1100 0 k = nI (t k)) (ht2 : ∀ k, t k < 256) {Q : Int32 → Mem → Prop} (h0 : rF (fdR t n W) = 0 → ∀ M', Kp pDr M M' → CWr (rW (fdR t n W)) M' → M'.1 202 0 0 = nI (rT (fdR t n W)).length → (∀ k, k < (rT (fdR t n W)).length → M'.1 201 0 k = nI ((rT (fdR t n W)).getD k 0)) → Q (nI 0) M') (h1 : rF (fdR t n W) ≠ 0 → ∀ M', Kp pDr M M' → M'.1 203 0 0 = nI (rP (fdR t n W)) → CPre W M' → Q (nI (rF (fdR t n W))) M') : pX1_readWords M (nI n) Q := by
  unfold pX1_readWords
  intro M1 e1
  refine lp_up (fun i s => rF (rdD t n W i) = 0 ∧ s.2.2.2 = nI i ∧ CRd (rdD t n W i) M s.1 s.2.1 s.2.2.1) (Nat.zero_le (n + 1)) ⟨rfl, rfl, ?_⟩ ?_ ?_
  · subst e1
    refine ⟨Kp.rf.u1 rfl, ⟨?_, h.2⟩, up1_eq, fun k hk => absurd hk (Nat.not_lt_zero _), fun _ => rfl, fun q => absurd rfl q⟩
    show (up1 M 202 0 0 0).1 1001 0 0 = _
    rw [up1_ne (by simp)]; exact h.1
  · rintro i ⟨m, b, z, y⟩ L - hi ⟨hf, rfl, hC⟩ hL
    have hst : rdD t n W (i + 1) = stD (rdD t n W i) i (if i < n then t i else 32) := rfl
    have hstep : ∀ c, c = (if i < n then t i else 32) → bX1_readWords_36 (nI n) Q L m b z (nI i) (nI c) := by
      intro c ec
      rw [← ec] at hst
      refine crd36 (rdD_I hW i) hf hC (by omega) ?_ (fun q M' b' z' hC' => ?_) (fun q M' m1 m2 m3 => ?_)
      · rw [ec]
        by_cases h3 : i < n
        · rw [if_pos h3]; exact ht2 i
        · rw [if_neg h3]; decide
      · rw [← hst] at q hC'
        exact hL _ ⟨q, rfl, hC'⟩
      · rw [← hst] at q m2 ⊢
        have ef := fdR_f (show i + 1 ≤ n + 1 by omega) q
        rw [ef] at h1
        exact h1 q M' m1 m2 m3
    unfold bX1_readWords_13
    by_cases h3 : i < n
    · have e0 : m.1 1100 0 i = nI (t i) := by rw [hC.1.g rfl]; exact ht i h3
      have := hstep (t i) (by rw [if_pos h3])
      try simp (disch := omega) only [li, nO_n, adI, mlI, tnI, vpI, ltI, leI, eqI, forall_eq, leT, leF, ltT, ltF, eqT, eqF, true_and, and_true, false_implies, true_implies, forall_const, not_true_eq_false, not_false_eq_true, implies_true, e0]
      exact this
    · have := hstep 32 (by rw [if_neg h3])
      try simp (disch := omega) only [li, nO_n, adI, mlI, tnI, vpI, ltI, leI, eqI, forall_eq, leT, leF, ltT, ltF, eqT, eqF, true_and, and_true, false_implies, true_implies, forall_const, not_true_eq_false, not_false_eq_true, implies_true]
      exact this
  · rintro ⟨m, b, z, y⟩ L ⟨hf, rfl, hC⟩
    unfold bX1_readWords_13
    dsimp only at hf hC ⊢
    obtain ⟨k1, k2, k3, k4, k5, k6⟩ := hC
    by_cases hT : rT (rdD t n W (n + 1)) = []
    · have ef : fdR t n W = (1, n, [], W, 0, []) := by unfold fdR; rw [if_pos ⟨hf, hT⟩]
      rw [ef] at h1
      have e0 : m.1 202 0 0 = nI 0 := by rw [k3, hT]; rfl
      obtain ⟨-, ⟨e, g2⟩, -⟩ := rdD_I hW (t := t) (n := n) (n + 1) hf
      have := h1 (by show (1 : Nat) ≠ 0; decide) (up1 m 203 0 0 (nI n)) (k1.u1 rfl) up1_eq (CPre_of (M := up1 m 203 0 0 (nI n)) ⟨by rw [up1_ne (by simp)]; exact k2.1, k2.2⟩ g2)
      unfold pX1_faultAt
      try simp (disch := omega) only [li, nO_n, adI, mlI, tnI, vpI, ltI, leI, eqI, forall_eq, leT, leF, ltT, ltF, eqT, eqF, true_and, and_true, false_implies, true_implies, forall_const, not_true_eq_false, not_false_eq_true, implies_true, e0]
      exact this
    · have ef : fdR t n W = rdD t n W (n + 1) := by unfold fdR; rw [if_neg (show ¬ (rF (rdD t n W (n + 1)) = 0 ∧ rT (rdD t n W (n + 1)) = []) from fun q => hT q.2)]
      rw [ef] at h0
      have hl : (rT (rdD t n W (n + 1))).length ≠ 0 := fun q => hT (List.length_eq_zero_iff.mp q)
      obtain ⟨-, -, g3, -⟩ := rdD_I hW (t := t) (n := n) (n + 1) hf
      have := h0 hf m k1 k2 k3 k4
      try simp (disch := omega) only [li, nO_n, adI, mlI, tnI, vpI, ltI, leI, eqI, forall_eq, leT, leF, ltT, ltF, eqT, eqF, true_and, and_true, false_implies, true_implies, forall_const, not_true_eq_false, not_false_eq_true, implies_true, k3]
      exact this
theorem cread {W : List Wd} {t : Nat → Nat} {n : Nat} {M : Mem} (h : CWr W M) (hW : Kw W) (hn : n ≤ 300) (ht : ∀ k, k < n → M.1 1100 0 k = nI (t k)) (ht2 : ∀ k, t k < 256) {Q : Int32 → Mem → Prop} (h0 : rF (fdR t n W) = 0 → ∀ M', Kp pDr M M' → M'.1 203 0 0 = nO → CWr (rW (fdR t n W)) M' → M'.1 202 0 0 = nI (rT (fdR t n W)).length → (∀ k, k < (rT (fdR t n W)).length → M'.1 201 0 k = nI ((rT (fdR t n W)).getD k 0)) → Q (nI 0) M') (h1 : rF (fdR t n W) ≠ 0 → ∀ M', Kp pDr M M' → M'.1 203 0 0 = nI (rP (fdR t n W)) → CWr W M' → Q (nI (rF (fdR t n W))) M') : pX1_read M (nI n) Q := by
  have hP := fdR_P hW (t := t) (n := n)
  unfold pX1_read
  intro v1 ev
  subst ev
  refine creadWords h hW hn ht ht2 (fun hf M' m1 m2 m3 m4 => ?_) (fun hf M' m1 m2 m3 => ?_)
  · have := h0 hf (up1 M' 203 0 0 nO) (m1.u1 rfl) up1_eq ⟨by rw [up1_ne (by simp)]; exact m2.1, m2.2⟩ (by rw [up1_ne (by simp)]; exact m3) (fun k hk => by rw [up1_ne (by simp)]; exact m4 k hk)
    try simp (disch := omega) only [li, nO_n, adI, mlI, tnI, vpI, ltI, leI, eqI, forall_eq, leT, leF, ltT, ltF, eqT, eqF, true_and, and_true, false_implies, true_implies, forall_const, not_true_eq_false, not_false_eq_true, implies_true]
    exact this
  · have hx := hP hf
    have := h1 hf (up1 M' 1001 0 0 (M.1 1001 0 0)) (m1.u1 rfl) (by rw [up1_ne (by simp)]; exact m2) ⟨by rw [up1_eq]; exact h.1, m3⟩
    try simp (disch := omega) only [li, nO_n, adI, mlI, tnI, vpI, ltI, leI, eqI, forall_eq, leT, leF, ltT, ltF, eqT, eqF, true_and, and_true, false_implies, true_implies, forall_const, not_true_eq_false, not_false_eq_true, implies_true]
    exact this
