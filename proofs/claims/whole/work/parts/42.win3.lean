/-! PURE: the shortest window, walked -/
theorem mnO {a b : Nat} (ha : a < 1073741824) (hb : b < 1073741824) : imin (nI a - nI 1) (nI b - nI 1) = nI (min a b) - nI 1 := by
  unfold imin
  cases a with
  | zero =>
    cases b with
    | zero => rfl
    | succ b => rw [sb0, sbs, if_neg (nO_nlt (by omega)), Nat.zero_min]; rfl
  | succ a =>
    cases b with
    | zero => rw [sb0, sbs, if_pos (nO_lt (by omega)), Nat.min_zero]; rfl
    | succ b =>
      rw [sbs, sbs]
      by_cases h : b < a
      · rw [if_pos ((ltI (by omega) (by omega)).mpr h), show min (a + 1) (b + 1) = b + 1 by omega, sbs]
      · rw [if_neg (fun q => h ((ltI (by omega) (by omega)).mp q)), show min (a + 1) (b + 1) = a + 1 by omega, sbs]
def pWd (c i : Nat) : Bool := decide (¬ (i = 0 ∧ (c = 402 ∨ c = 403 ∨ c = 404)))
theorem pWd_C {c j : Nat} (h : pCD c j = true) : pWd c j = true := by unfold pCD at h; unfold pWd; simp at h ⊢; omega
theorem pWd_K {c j : Nat} (h : pCK c j = true) : pWd c j = true := by unfold pCK at h; unfold pWd; simp at h ⊢; omega
def pSn (c i : Nat) : Bool := decide (¬ (i = 0 ∧ c = 402))
theorem pSn_W {c j : Nat} (h : pWd c j = true) : pSn c j = true := by unfold pWd at h; unfold pSn; simp at h ⊢; omega
theorem cnoteSeen {K : Qc} {M : Mem} {w e : Nat} {t : Nat → Nat} (hq : CK K 0 M) (hn : sN K ≤ 24) (hk : ∀ i, i < sN K → sW K i < 2147483648) (hw : w < 2147483648) (ht : t e = w) (hs : ∀ i, i < sN K → M.1 402 0 i = nI (lsn t (sW K i) e) - nI 1) {Q : Mem → Prop} (hQ : ∀ M', Kp pSn M M' → (∀ i, i < sN K → M'.1 402 0 i = nI (lsn t (sW K i) (e + 1)) - nI 1) → Q M') : pX3_noteSeen M (nI w) (nI e) Q := by
  have hls : ∀ i, lsn t (sW K i) (e + 1) = if t e = sW K i then e + 1 else lsn t (sW K i) e := fun i => rfl
  unfold pX3_noteSeen
  refine lp_up (fun k s => s.2 = nI k ∧ Kp pSn M s.1 ∧ (∀ i, i < k → s.1.1 402 0 i = nI (lsn t (sW K i) (e + 1)) - nI 1) ∧ ∀ i, k ≤ i → i < sN K → s.1.1 402 0 i = nI (lsn t (sW K i) e) - nI 1) (Nat.zero_le (sN K)) ⟨rfl, Kp.rf, fun i hi => absurd hi (Nat.not_lt_zero _), fun i _ hi => hs i hi⟩ ?_ ?_
  · rintro k ⟨m, y⟩ L - hlt ⟨rfl, hkp, h1, h2⟩ hL
    have hkp : Kp pSn M m := hkp
    have h1 : ∀ i, i < k → m.1 402 0 i = nI (lsn t (sW K i) (e + 1)) - nI 1 := h1
    have h2 : ∀ i, k ≤ i → i < sN K → m.1 402 0 i = nI (lsn t (sW K i) e) - nI 1 := h2
    have hq2 : CK K 0 m := hq.kp (hkp.wk fun c j h => pSn_W (pWd_K h))
    have hkk := hk k hlt
    unfold bX3_noteSeen_2 bX3_noteSeen_33
    by_cases ew : sW K k = w
    · try simp (disch := omega) only [li, nO_n, adI, mlI, tnI, vpI, ltI, leI, eqI, forall_eq, leT, leF, ltT, ltF, eqT, eqF, true_and, and_true, false_implies, true_implies, forall_const, not_true_eq_false, not_false_eq_true, implies_true, hq2.n, hq2.w]
      refine hL _ ⟨rfl, hkp.u1 rfl, fun i hi => ?_, fun i hi hi2 => ?_⟩
      · show (up1 m 402 0 k (nI e)).1 402 0 i = _
        by_cases ei : i = k
        · subst ei
          rw [up1_eq, hls, if_pos (ht.trans ew.symm), sbs]
        · rw [up1_ne (by omega)]; exact h1 i (by omega)
      · show (up1 m 402 0 k (nI e)).1 402 0 i = _
        rw [up1_ne (by omega)]; exact h2 i (by omega) hi2
    · try simp (disch := omega) only [li, nO_n, adI, mlI, tnI, vpI, ltI, leI, eqI, forall_eq, leT, leF, ltT, ltF, eqT, eqF, true_and, and_true, false_implies, true_implies, forall_const, not_true_eq_false, not_false_eq_true, implies_true, hq2.n, hq2.w]
      refine hL _ ⟨rfl, hkp, fun i hi => ?_, fun i hi hi2 => h2 i (by omega) hi2⟩
      by_cases ei : i = k
      · subst ei
        rw [hls, if_neg (fun q => ew (q.symm.trans ht))]
        exact h2 i (Nat.le_refl _) hlt
      · exact h1 i (by omega)
  · rintro ⟨m, y⟩ L ⟨rfl, hkp, h1, h2⟩
    have hkp : Kp pSn M m := hkp
    have hq2 : CK K 0 m := hq.kp (hkp.wk fun c j h => pSn_W (pWd_K h))
    unfold bX3_noteSeen_2
    try simp (disch := omega) only [li, nO_n, adI, mlI, tnI, vpI, ltI, leI, eqI, forall_eq, leT, leF, ltT, ltF, eqT, eqF, true_and, and_true, false_implies, true_implies, forall_const, not_true_eq_false, not_false_eq_true, implies_true, hq2.n]
    exact hQ m hkp h1
theorem clongestAgo {D : Dc} {K : Qc} {kn : Nat} {M : Mem} (h : CD D M) (hq : CK K 0 M) (hD : DW D kn) (hK : QW K kn) {d k : Nat} (hd : d < 64) (hk : k ≤ 150) (hs : ∀ i, i < sN K → M.1 402 0 i = nI (lsn (dT D d) (sW K i) k) - nI 1) {Q : Int32 → Mem → Prop} (hQ : Q (if laW D K d k = 151 then nO else nI (laW D K d k) - nI 1) M) : pX3_longestAgo M (nI d) Q := by
  have hn := hK.1
  have hkn := hD.2.1
  unfold pX3_longestAgo
  refine lp_up (fun i s => s = (M, nI (laI D K d k i) - nI 1, nI i)) (Nat.zero_le (sN K)) (by show (M, nI 150, nI 0) = (M, nI (150 + 1) - nI 1, nI 0); rw [sbs]) ?_ ?_
  · rintro i s L - hlt rfl hL
    have hw := (hK.2.2.2.2.1 i hlt).1
    have hll := lsn_le (dT D d) (sW K i) k
    have hla := laI_le D K d k i
    unfold bX3_longestAgo_6 bX3_longestAgo_45
    try simp (disch := omega) only [li, nO_n, adI, mlI, tnI, vpI, ltI, leI, eqI, forall_eq, leT, leF, ltT, ltF, eqT, eqF, true_and, and_true, false_implies, true_implies, forall_const, not_true_eq_false, not_false_eq_true, implies_true, hq.n, hq.w]
    refine chasWord h hD (by omega) (by omega) ?_
    by_cases e : cnt D (sW K i) d = 0
    · rw [if_pos e]
      have e1 : laI D K d k (i + 1) = laI D K d k i := by rw [laI, if_pos e]
      try simp (disch := omega) only [li, nO_n, adI, mlI, tnI, vpI, ltI, leI, eqI, forall_eq, leT, leF, ltT, ltF, eqT, eqF, true_and, and_true, false_implies, true_implies, forall_const, not_true_eq_false, not_false_eq_true, implies_true]
      exact hL _ (by rw [e1])
    · rw [if_neg e]
      have e1 : laI D K d k (i + 1) = min (laI D K d k i) (lsn (dT D d) (sW K i) k) := by rw [laI, if_neg e]
      try simp (disch := omega) only [li, nO_n, adI, mlI, tnI, vpI, ltI, leI, eqI, forall_eq, leT, leF, ltT, ltF, eqT, eqF, true_and, and_true, false_implies, true_implies, forall_const, not_true_eq_false, not_false_eq_true, implies_true, hs i hlt, mnO]
      exact hL _ (by rw [e1])
  · rintro s L rfl
    have hla := laI_le D K d k (sN K)
    unfold bX3_longestAgo_6
    try simp (disch := omega) only [li, nO_n, adI, mlI, tnI, vpI, ltI, leI, eqI, forall_eq, leT, leF, ltT, ltF, eqT, eqF, true_and, and_true, false_implies, true_implies, forall_const, not_true_eq_false, not_false_eq_true, implies_true, hq.n]
    unfold laW at hQ
    cases e : laI D K d k (sN K) with
    | zero =>
      rw [e, if_neg (by decide)] at hQ
      rw [sb0]
      have ne : ¬ nO = nI 150 := nO_ne' (by omega)
      simp only [eq_false ne, not_false_eq_true, forall_const, true_implies, false_implies, and_true, true_and, implies_true]
      exact hQ
    | succ z =>
      rw [e] at hQ
      rw [sbs]
      by_cases e2 : z = 150
      · rw [if_pos (by omega)] at hQ
        try simp (disch := omega) only [li, nO_n, adI, mlI, tnI, vpI, ltI, leI, eqI, forall_eq, leT, leF, ltT, ltF, eqT, eqF, true_and, and_true, false_implies, true_implies, forall_const, not_true_eq_false, not_false_eq_true, implies_true]
        exact hQ
      · rw [if_neg (by omega), sbs] at hQ
        try simp (disch := omega) only [li, nO_n, adI, mlI, tnI, vpI, ltI, leI, eqI, forall_eq, leT, leF, ltT, ltF, eqT, eqF, true_and, and_true, false_implies, true_implies, forall_const, not_true_eq_false, not_false_eq_true, implies_true]
        exact hQ
theorem cwindow {D : Dc} {K : Qc} {kn : Nat} {M : Mem} (h : CD D M) (hq : CK K 0 M) (hD : DW D kn) (hK : QW K kn) {d : Nat} (hd : d < D.length) {Q : Mem → Prop} (hQ : ∀ M', Kp pWd M M' → M'.1 403 0 0 = nI (win D K d).1 - nI 1 → M'.1 404 0 0 = nI (win D K d).2 → Q M') : pX3_findWindow M (nI d) Q := by
  have hn := hK.1
  have hl := hD.1
  have hdl := hD.dl d
  unfold pX3_findWindow
  simp only [forall_eq]
  refine lp_up (fun k s => s.2 = nI k ∧ Kp pWd M s.1 ∧ s.1.1 403 0 0 = nO ∧ s.1.1 404 0 0 = nI 0 ∧ ∀ i, i < k → s.1.1 402 0 i = nO) (Nat.zero_le (sN K)) ⟨rfl, (Kp.rf.u1 rfl).u1 rfl, (up1_ne (by omega)).trans up1_eq, up1_eq, fun i hi => absurd hi (Nat.not_lt_zero _)⟩ ?_ ?_
  · rintro k ⟨m, y⟩ L - hlt ⟨rfl, hkp, h1, h2, h3⟩ hL
    have hkp : Kp pWd M m := hkp
    have hq2 : CK K 0 m := hq.kp (hkp.wk fun c j h => pWd_K h)
    unfold bX3_findWindow_12
    try simp (disch := omega) only [li, nO_n, adI, mlI, tnI, vpI, ltI, leI, eqI, forall_eq, leT, leF, ltT, ltF, eqT, eqF, true_and, and_true, false_implies, true_implies, forall_const, not_true_eq_false, not_false_eq_true, implies_true, hq2.n]
    refine hL _ ⟨rfl, hkp.u1 rfl, (up1_ne (by omega)).trans h1, (up1_ne (by omega)).trans h2, fun i hi => ?_⟩
    show (up1 m 402 0 k nO).1 402 0 i = nO
    by_cases ei : i = k
    · subst ei; exact up1_eq
    · rw [up1_ne (by omega)]; exact h3 i (by omega)
  · rintro ⟨m, y⟩ L ⟨rfl, hkp, h1, h2, h3⟩
    have hkp : Kp pWd M m := hkp
    have hq2 : CK K 0 m := hq.kp (hkp.wk fun c j h => pWd_K h)
    unfold bX3_findWindow_12
    try simp (disch := omega) only [li, nO_n, adI, mlI, tnI, vpI, ltI, leI, eqI, forall_eq, leT, leF, ltT, ltF, eqT, eqF, true_and, and_true, false_implies, true_implies, forall_const, not_true_eq_false, not_false_eq_true, implies_true, hq2.n]
    refine lp_up (fun k s => s.2 = nI k ∧ Kp pWd M s.1 ∧ s.1.1 403 0 0 = nI (cwA (laW D K d) k).1 - nI 1 ∧ s.1.1 404 0 0 = nI (cwA (laW D K d) k).2 ∧ ((cwA (laW D K d) k).1 ≤ k ∧ (cwA (laW D K d) k).2 ≤ k) ∧ ∀ i, i < sN K → s.1.1 402 0 i = nI (lsn (dT D d) (sW K i) k) - nI 1) (Nat.zero_le (dL D d)) ⟨rfl, hkp, h1, h2, ⟨Nat.le_refl _, Nat.le_refl _⟩, h3⟩ ?_ ?_
    · rintro e ⟨m2, y⟩ L2 - hlt ⟨rfl, hk2, g1, g2, ⟨g3, g4⟩, g5⟩ hL2
      have hk2 : Kp pWd M m2 := hk2
      have g1 : m2.1 403 0 0 = nI (cwA (laW D K d) e).1 - nI 1 := g1
      have g2 : m2.1 404 0 0 = nI (cwA (laW D K d) e).2 := g2
      have hc2 : CD D m2 := h.kp (hk2.wk fun c j h => pWd_C h)
      have hq3 : CK K 0 m2 := hq.kp (hk2.wk fun c j h => pWd_K h)
      have ht := (hD.2.2 d hd).2.2.2.2 e hlt
      have hkn := hD.2.1
      unfold bX3_findWindow_38
      try simp (disch := omega) only [li, nO_n, adI, mlI, tnI, vpI, ltI, leI, eqI, forall_eq, leT, leF, ltT, ltF, eqT, eqF, true_and, and_true, false_implies, true_implies, forall_const, not_true_eq_false, not_false_eq_true, implies_true, hc2.len, hc2.tx]
      refine cnoteSeen hq3 hn (fun i hi => by have := (hK.2.2.2.2.1 i hi).1; omega) (by omega) rfl g5 (fun m3 k3 g6 => ?_)
      have hk3 : Kp pWd M m3 := hk2.tr (k3.wk fun c j h => pSn_W h)
      have hc3 : CD D m3 := h.kp (hk3.wk fun c j h => pWd_C h)
      have hq4 : CK K 0 m3 := hq.kp (hk3.wk fun c j h => pWd_K h)
      have g1' : m3.1 403 0 0 = nI (cwA (laW D K d) e).1 - nI 1 := (k3.g rfl 0).trans g1
      have g2' : m3.1 404 0 0 = nI (cwA (laW D K d) e).2 := (k3.g rfl 0).trans g2
      have skip : (laW D K d (e + 1) = 0 ∨ laW D K d (e + 1) = 151 ∨ ¬ ((cwA (laW D K d) e).1 = 0 ∨ e + 2 - laW D K d (e + 1) < (cwA (laW D K d) e).2)) → L2 (m3, nI (e + 1)) := fun hc => by
        have e1 : cwA (laW D K d) (e + 1) = cwA (laW D K d) e := by
          rw [cwA]
          by_cases q : laW D K d (e + 1) = 0 ∨ laW D K d (e + 1) = 151
          · rw [if_pos q]
          · rw [if_neg q, if_neg (by omega)]
        refine hL2 _ ⟨rfl, hk3, by rw [e1]; exact g1', by rw [e1]; exact g2', by rw [e1]; omega, g6⟩
      have take : laW D K d (e + 1) ≠ 0 → laW D K d (e + 1) ≠ 151 → ((cwA (laW D K d) e).1 = 0 ∨ e + 2 - laW D K d (e + 1) < (cwA (laW D K d) e).2) → laW D K d (e + 1) ≤ e + 1 → L2 (up1 (up1 m3 403 0 0 (nI (laW D K d (e + 1)) - nI 1)) 404 0 0 (nI (e + 2 - laW D K d (e + 1))), nI (e + 1)) := fun q1 q2 q3 q4 => by
        have e1 : cwA (laW D K d) (e + 1) = (laW D K d (e + 1), e + 2 - laW D K d (e + 1)) := by
          rw [cwA, if_neg (by omega), if_pos q3]
        refine hL2 _ ⟨rfl, (hk3.u1 rfl).u1 rfl, ?_, ?_, ?_, fun i hi => ?_⟩
        · rw [e1]; exact (up1_ne (by omega)).trans up1_eq
        · rw [e1]; exact up1_eq
        · rw [e1]; show laW D K d (e + 1) ≤ e + 1 ∧ e + 2 - laW D K d (e + 1) ≤ e + 1; omega
        · exact ((up1_ne (by omega)).trans (up1_ne (by omega))).trans (g6 i hi)
      refine clongestAgo hc3 hq4 hD hK (by omega) (by omega) g6 ?_
      unfold bX3_findWindow_102 bX3_findWindow_113
      by_cases z1 : laW D K d (e + 1) = 151
      · rw [if_pos z1]
        try simp (disch := omega) only [li, nO_n, adI, mlI, tnI, vpI, ltI, leI, eqI, forall_eq, leT, leF, ltT, ltF, eqT, eqF, true_and, and_true, false_implies, true_implies, forall_const, not_true_eq_false, not_false_eq_true, implies_true]
        exact skip (Or.inr (Or.inl z1))
      · rw [if_neg z1]
        have hle : laW D K d (e + 1) ≤ e + 1 := by
          by_cases q : ∃ i, i < sN K ∧ cnt D (sW K i) d ≠ 0
          · obtain ⟨i, i1, i2⟩ := q
            exact laW_le i1 i2
          · exfalso
            apply z1
            have hl : ∀ n, n ≤ sN K → laI D K d (e + 1) n = 151 := fun n => by
              induction n with
              | zero => intro _; rfl
              | succ n ih =>
                intro hn2
                have hc : cnt D (sW K n) d = 0 := by
                  by_cases x : cnt D (sW K n) d = 0
                  · exact x
                  · exact absurd ⟨n, by omega, x⟩ q
                rw [laI, if_pos hc]
                exact ih (by omega)
            exact hl _ (Nat.le_refl _)
        by_cases z0 : laW D K d (e + 1) = 0
        · have := skip (Or.inl z0)
          rw [z0, sb0]
          try simp (disch := omega) only [li, nO_n, adI, mlI, tnI, vpI, ltI, leI, eqI, forall_eq, leT, leF, ltT, ltF, eqT, eqF, true_and, and_true, false_implies, true_implies, forall_const, not_true_eq_false, not_false_eq_true, implies_true]
          exact this
        · have sk := fun hh => skip (Or.inr (Or.inr hh))
          have tk := fun hh => take z0 z1 hh hle
          have hb1 : nI e - (nI (laW D K d (e + 1)) - nI 1) + nI 1 = nI (e + 2 - laW D K d (e + 1)) := by
            rw [sb1 hle, adI]; congr 1; omega
          simp only [li, hb1]
          generalize hla : laW D K d (e + 1) = la at *
          have hne : ¬ nI la - nI 1 = nO := fun q => z0 ((s1O (by omega)).mp q)
          by_cases y0 : (cwA (laW D K d) e).1 = 0
          · have := tk (Or.inl y0)
            try simp (disch := omega) only [li, nO_n, adI, mlI, tnI, vpI, ltI, leI, eqI, forall_eq, leT, leF, ltT, ltF, eqT, eqF, true_and, and_true, false_implies, true_implies, forall_const, not_true_eq_false, not_false_eq_true, implies_true, g1', s1O, eq_true y0, eqT y0, eq_false z0]
            exact this
          · by_cases y1 : e + 2 - la < (cwA (laW D K d) e).2
            · have := tk (Or.inr y1)
              try simp (disch := omega) only [li, nO_n, adI, mlI, tnI, vpI, ltI, leI, eqI, forall_eq, leT, leF, ltT, ltF, eqT, eqF, true_and, and_true, false_implies, true_implies, forall_const, not_true_eq_false, not_false_eq_true, implies_true, g1', g2', s1O, eq_false y0, eq_false z0]
              exact this
            · have := sk (by omega)
              try simp (disch := omega) only [li, nO_n, adI, mlI, tnI, vpI, ltI, leI, eqI, forall_eq, leT, leF, ltT, ltF, eqT, eqF, true_and, and_true, false_implies, true_implies, forall_const, not_true_eq_false, not_false_eq_true, implies_true, g1', g2', s1O, eq_false y0, eq_false z0]
              exact this
    · rintro ⟨m2, y⟩ L2 ⟨rfl, hk2, g1, g2, -, g5⟩
      have hk2 : Kp pWd M m2 := hk2
      have hc2 : CD D m2 := h.kp (hk2.wk fun c j h => pWd_C h)
      unfold bX3_findWindow_38
      try simp (disch := omega) only [li, nO_n, adI, mlI, tnI, vpI, ltI, leI, eqI, forall_eq, leT, leF, ltT, ltF, eqT, eqF, true_and, and_true, false_implies, true_implies, forall_const, not_true_eq_false, not_false_eq_true, implies_true, hc2.len]
      refine hQ m2 hk2 ?_ ?_
      · rw [win_c hD]; exact g1
      · rw [win_c hD]; exact g2
