/-! PURE: the class's hunt, run -/
theorem er_c {D : Dc} {K : Qc} {kn so m : Nat} (hD : DW D kn) (hK : QW K kn) (h2 : 2 ≤ so) (hm : 1 ≤ m) (f : Nat) (g : Ge) (hg : GI D K so m g) : GI D K so m (er D K so m f g) := by
  induction f generalizing g with
  | zero => exact hg
  | succ f ih =>
    unfold er
    have hI : GI D K so m (gI g) := hg
    by_cases e : pvG D K so m (gI g) = lnT D K so (gI g)
    · rw [if_pos e]; exact hI
    · rw [if_neg e]; exact ih _ (trn_c hD hK h2 hm hI e).1
theorem erl_c {D : Dc} {K : Qc} {kn so m : Nat} (hD : DW D kn) (hK : QW K kn) (h2 : 2 ≤ so) (hm : 1 ≤ m) : GI D K so m (erl D K so m) := by
  unfold erl
  have := (g0_c hD hK h2 (m := m)).1
  by_cases e : sN K = 0
  · rw [if_pos e]; exact this
  · rw [if_neg e]; exact er_c hD hK h2 hm _ _ this
theorem cer {D : Dc} {K : Qc} {kn so m : Nat} {M : Mem} (hD : DW D kn) (hK : QW K kn) (h2 : 2 ≤ so) (h8 : so ≤ 8) (hm : 1 ≤ m) (hm2 : m ≤ 10) {u v : Int32} {Q : Mem → Prop} (f : Nat) (g : Ge) (M1 : Mem) (k : Nat) (hf : muG D K so g.1 < f) (hkf : k + f < 1000000) (hg : GI D K so m g) (h : HW D K so m g M1) (k1 : Kp pHt M M1) (hQ : ∀ M', Kp pHt M M' → HW D K so m (er D K so m f g) M' → Q M') : lp (fun L s => bX2_run_96 u v Q L s.1 s.2.1 s.2.2) (f + 1) (M1, nI 0, nI k) := by
  induction f generalizing g M1 k with
  | zero => omega
  | succ f ih =>
    show bX2_run_96 u v Q (lp (fun L s => bX2_run_96 u v Q L s.1 s.2.1 s.2.2) (f + 1)) M1 (nI 0) (nI k)
    generalize hR : lp (fun L s => bX2_run_96 u v Q L s.1 s.2.1 s.2.2) (f + 1) = R
    unfold er at hQ
    have ka : Kp pHt M (up1 M1 310 0 0 (nI (g.2.2.1 + 1))) := k1.u1 rfl
    have wa : HW D K so m (gI g) (up1 M1 310 0 0 (nI (g.2.2.1 + 1))) := by
      obtain ⟨h1, h2, r1, r2, r3, r4, r5, r6, r7, r8⟩ := h
      have kk : Kp (fun c _ => decide (c ≠ 310)) M1 (up1 M1 310 0 0 (nI (g.2.2.1 + 1))) := Kp.rf.u1 rfl
      have kb : ∀ j c, 100 ≤ c → c ≤ 116 → ∀ b, (up1 M1 310 0 0 (nI (g.2.2.1 + 1))).1 c j b = M1.1 c j b := fun j c h3 h4 b => kk.g (by simp; omega) b
      exact ⟨h1.kp (kk.wk fun c j hc => by unfold pCD at hc; simp at hc ⊢; omega), h2.kp (kk.wk fun c j hc => by unfold pCK at hc; simp at hc ⊢; omega), fun x hx => ⟨(r1 x hx).1.all (kb x), (r1 x hx).2.all (kb x)⟩, (up1_ne (by omega)).trans r2, (up1_ne (by omega)).trans r3, r4.kp kk rfl rfl, up1_eq, (up1_ne (by omega)).trans r6, (up1_ne (by omega)).trans r7, (up1_ne (by omega)).trans r8⟩
    have hI : GI D K so m (gI g) := hg
    unfold bX2_run_96 bX2_run_130
    have h310 := h.2.2.2.2.2.2.1
    try simp (disch := omega) only [li, nO_n, adI, mlI, tnI, vpI, ltI, leI, eqI, forall_eq, leT, leF, ltT, ltF, eqT, eqF, true_and, and_true, false_implies, true_implies, forall_const, not_true_eq_false, not_false_eq_true, implies_true, h310]
    refine cturn wa hI hD hK h2 h8 hm hm2 (fun ep M2 k2 w2 => ?_) (fun ep M2 k2 w2 => ?_)
    · rw [if_pos ep] at hQ
      try simp (disch := omega) only [li, nO_n, adI, mlI, tnI, vpI, ltI, leI, eqI, forall_eq, leT, leF, ltT, ltF, eqT, eqF, true_and, and_true, false_implies, true_implies, forall_const, not_true_eq_false, not_false_eq_true, implies_true]
      rw [← hR]
      show bX2_run_96 u v Q (lp (fun L s => bX2_run_96 u v Q L s.1 s.2.1 s.2.2) f) M2 (nI 1) (nI (k + 1))
      have := hQ M2 (ka.tr k2) w2
      unfold bX2_run_96
      try simp (disch := omega) only [li, nO_n, adI, mlI, tnI, vpI, ltI, leI, eqI, forall_eq, leT, leF, ltT, ltF, eqT, eqF, true_and, and_true, false_implies, true_implies, forall_const, not_true_eq_false, not_false_eq_true, implies_true]
      exact this
    · rw [if_neg ep] at hQ
      try simp (disch := omega) only [li, nO_n, adI, mlI, tnI, vpI, ltI, leI, eqI, forall_eq, leT, leF, ltT, ltF, eqT, eqF, true_and, and_true, false_implies, true_implies, forall_const, not_true_eq_false, not_false_eq_true, implies_true]
      have mu := (trn_c hD hK h2 hm hI ep).2
      have mu : muG D K so (trn D K so m (gI g)).1 < muG D K so g.1 := mu
      rw [← hR]
      exact ih _ M2 (k + 1) (by omega) (by omega) (trn_c hD hK h2 hm hI ep).1 w2 (ka.tr k2) hQ
theorem crun {D : Dc} {K : Qc} {kn so m : Nat} {M : Mem} (hD : DW D kn) (hK : QW K kn) (h2 : 2 ≤ so) (h8 : so ≤ 8) (hm : 1 ≤ m) (hm2 : m ≤ 10) (hc : CD D M) (hq : CK K 0 M) {Q : Mem → Prop} (hQ : ∀ M', Kp pHt M M' → HW D K so m (erl D K so m) M' → Q M') : pX2_run M (nI m) (nI so) Q := by
  have hn := hK.1
  unfold pX2_run
  simp only [forall_eq]
  have k0 : ∀ a b c d e f : Int32, Kp pHt M (up1 (up1 (up1 (up1 (up1 (up1 M 306 0 0 a) 309 0 0 b) 310 0 0 c) 311 0 0 d) 312 0 0 e) 313 0 0 f) := fun a b c d e f => (((((Kp.rf.u1 rfl).u1 rfl).u1 rfl).u1 rfl).u1 rfl).u1 rfl
  have c6 : ∀ a b c d e f : Int32, (up1 (up1 (up1 (up1 (up1 (up1 M 306 0 0 a) 309 0 0 b) 310 0 0 c) 311 0 0 d) 312 0 0 e) 313 0 0 f).1 306 0 0 = a := fun a b c d e f => ((up1_ne (by omega)).trans ((up1_ne (by omega)).trans ((up1_ne (by omega)).trans ((up1_ne (by omega)).trans (up1_ne (by omega)))))).trans up1_eq
  have c9 : ∀ a b c d e f : Int32, (up1 (up1 (up1 (up1 (up1 (up1 M 306 0 0 a) 309 0 0 b) 310 0 0 c) 311 0 0 d) 312 0 0 e) 313 0 0 f).1 309 0 0 = b := fun a b c d e f => ((up1_ne (by omega)).trans ((up1_ne (by omega)).trans ((up1_ne (by omega)).trans (up1_ne (by omega))))).trans up1_eq
  have c10 : ∀ a b c d e f : Int32, (up1 (up1 (up1 (up1 (up1 (up1 M 306 0 0 a) 309 0 0 b) 310 0 0 c) 311 0 0 d) 312 0 0 e) 313 0 0 f).1 310 0 0 = c := fun a b c d e f => ((up1_ne (by omega)).trans ((up1_ne (by omega)).trans (up1_ne (by omega)))).trans up1_eq
  have c11 : ∀ a b c d e f : Int32, (up1 (up1 (up1 (up1 (up1 (up1 M 306 0 0 a) 309 0 0 b) 310 0 0 c) 311 0 0 d) 312 0 0 e) 313 0 0 f).1 311 0 0 = d := fun a b c d e f => ((up1_ne (by omega)).trans (up1_ne (by omega))).trans up1_eq
  have c12 : ∀ a b c d e f : Int32, (up1 (up1 (up1 (up1 (up1 (up1 M 306 0 0 a) 309 0 0 b) 310 0 0 c) 311 0 0 d) 312 0 0 e) 313 0 0 f).1 312 0 0 = e := fun a b c d e f => (up1_ne (by omega)).trans up1_eq
  have c13 : ∀ a b c d e f : Int32, (up1 (up1 (up1 (up1 (up1 (up1 M 306 0 0 a) 309 0 0 b) 310 0 0 c) 311 0 0 d) 312 0 0 e) 313 0 0 f).1 313 0 0 = f := fun a b c d e f => up1_eq
  have k0 := k0 (nI m) 0 0 0 0 0
  have c6 := c6 (nI m) 0 0 0 0 0
  have c9 := c9 (nI m) 0 0 0 0 0
  have c10 := c10 (nI m) 0 0 0 0 0
  have c11 := c11 (nI m) 0 0 0 0 0
  have c12 := c12 (nI m) 0 0 0 0 0
  have c13 := c13 (nI m) 0 0 0 0 0
  generalize up1 (up1 (up1 (up1 (up1 (up1 M 306 0 0 (nI m)) 309 0 0 0) 310 0 0 0) 311 0 0 0) 312 0 0 0) 313 0 0 0 = M1 at *
  refine lp_up (fun k s => s.2 = nI k ∧ Kp pHt M s.1 ∧ (s.1.1 306 0 0 = nI m ∧ s.1.1 309 0 0 = nI 0 ∧ s.1.1 310 0 0 = nI 0 ∧ s.1.1 311 0 0 = nI 0 ∧ s.1.1 312 0 0 = nI 0 ∧ s.1.1 313 0 0 = nI 0) ∧ ∀ i, i < k → CS D (sW K i) so (wei D K i) i s.1 ∧ CV D (sW K i) so (c0 D (sW K i) so) i s.1) (Nat.zero_le (sN K)) ⟨rfl, k0, ⟨c6, c9, c10, c11, c12, c13⟩, fun i hi => absurd hi (Nat.not_lt_zero _)⟩ ?_ ?_
  · rintro k ⟨m2, y⟩ L - hk ⟨rfl, k2, ⟨d6, d9, d10, d11, d12, d13⟩, hs⟩ hL
    have k2 : Kp pHt M m2 := k2
    have hs : ∀ i, i < k → CS D (sW K i) so (wei D K i) i m2 ∧ CV D (sW K i) so (c0 D (sW K i) so) i m2 := hs
    have hc2 := hc.kp (k2.wk fun c j hh => by unfold pCD at hh; unfold pHt; simp at hh ⊢; omega)
    have hq2 := hq.kp (k2.wk fun c j hh => by unfold pCK at hh; unfold pHt; simp at hh ⊢; omega)
    have hw := hK.2.2.2.2.1 k hk
    have hkn := hD.2.1
    unfold bX2_run_32
    try simp (disch := omega) only [li, nO_n, adI, mlI, tnI, vpI, ltI, leI, eqI, forall_eq, leT, leF, ltT, ltF, eqT, eqF, true_and, and_true, false_implies, true_implies, forall_const, not_true_eq_false, not_false_eq_true, implies_true, hq2.n, hq2.w, hq2.b]
    refine cstart hc2 hD h2 h8 (by omega) hw.2 (fun M' k3 s1 s2 => ?_)
    try simp (disch := omega) only [li, nO_n, adI, mlI, tnI, vpI, ltI, leI, eqI, forall_eq, leT, leF, ltT, ltF, eqT, eqF, true_and, and_true, false_implies, true_implies, forall_const, not_true_eq_false, not_false_eq_true, implies_true]
    have kk : ∀ c, 300 < c → c < 600 → M'.1 c 0 0 = m2.1 c 0 0 := fun c h3 h6 => k3.g (pCs_0 (by omega)) 0
    refine hL _ ⟨rfl, k2.tr (k3.wk fun c j hh => pCs_0 (by unfold pHt at hh; simp at hh; omega)), ⟨(kk 306 (by omega) (by omega)).trans d6, (kk 309 (by omega) (by omega)).trans d9, (kk 310 (by omega) (by omega)).trans d10, (kk 311 (by omega) (by omega)).trans d11, (kk 312 (by omega) (by omega)).trans d12, (kk 313 (by omega) (by omega)).trans d13⟩, fun i hi => ?_⟩
    by_cases e : i = k
    · subst e; exact ⟨s1, s2⟩
    · have ka : ∀ c, 100 ≤ c → c ≤ 116 → ∀ b, M'.1 c i b = m2.1 c i b := fun c h3 h4 b => k3.g (pCs_0 (by omega)) b
      have := hs i (by omega)
      exact ⟨this.1.all ka, this.2.all ka⟩
  · rintro ⟨m2, y⟩ L ⟨rfl, k2, ⟨d6, d9, d10, d11, d12, d13⟩, hs⟩
    have k2 : Kp pHt M m2 := k2
    have hc2 := hc.kp (k2.wk fun c j hh => by unfold pCD at hh; unfold pHt; simp at hh ⊢; omega)
    have hq2 := hq.kp (k2.wk fun c j hh => by unfold pCK at hh; unfold pHt; simp at hh ⊢; omega)
    have w0 : HW D K so m (g0 D K so) m2 := ⟨hc2, hq2, hs, d6, d9, fun k hk => absurd hk (Nat.not_lt_zero _), d10, d11, d12, d13⟩
    have hg0 := g0_c hD hK h2 (m := m)
    unfold erl at hQ
    unfold bX2_run_32 bX2_run_93
    by_cases e : sN K = 0
    · rw [if_pos e] at hQ
      have : ∃ n : Nat, lp (fun L s => bX2_run_96 (nI m) (nI so) Q L s.1 s.2.1 s.2.2) n (m2, nI 1, nI 0) := by
        refine ⟨1, ?_⟩
        show bX2_run_96 (nI m) (nI so) Q _ m2 (nI 1) (nI 0)
        unfold bX2_run_96
        try simp (disch := omega) only [li, nO_n, adI, mlI, tnI, vpI, ltI, leI, eqI, forall_eq, leT, leF, ltT, ltF, eqT, eqF, true_and, and_true, false_implies, true_implies, forall_const, not_true_eq_false, not_false_eq_true, implies_true]
        exact hQ m2 k2 w0
      try simp (disch := omega) only [li, nO_n, adI, mlI, tnI, vpI, ltI, leI, eqI, forall_eq, leT, leF, ltT, ltF, eqT, eqF, true_and, and_true, false_implies, true_implies, forall_const, not_true_eq_false, not_false_eq_true, implies_true, hq2.n, e]
      exact this
    · rw [if_neg e] at hQ
      have : ∃ n : Nat, lp (fun L s => bX2_run_96 (nI m) (nI so) Q L s.1 s.2.1 s.2.2) n (m2, nI 0, nI 0) := ⟨_, cer hD hK h2 h8 hm hm2 1600 (g0 D K so) m2 0 (by omega) (by omega) hg0.1 w0 k2 hQ⟩
      try simp (disch := omega) only [li, nO_n, adI, mlI, tnI, vpI, ltI, leI, eqI, forall_eq, leT, leF, ltT, ltF, eqT, eqF, true_and, and_true, false_implies, true_implies, forall_const, not_true_eq_false, not_false_eq_true, implies_true, hq2.n]
      exact this
