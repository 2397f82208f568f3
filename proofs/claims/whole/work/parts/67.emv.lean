/-! PURE: the reference's hunt, run -/
theorem MS.fz {D : Dc} {w so wt i j : Nat} {M M' : Mem} (h : MS D w so wt i M) (hj : i ≠ j) (k : Fz j M M') : MS D w so wt i M' := by
  obtain ⟨a, b, c, d, e⟩ := h
  exact ⟨by rw [k.1 _ _ _ (by omega)]; exact a, by rw [k.1 _ _ _ (by omega)]; exact b, by rw [k.1 _ _ _ (by omega)]; exact c, by rw [k.1 _ _ _ (by omega)]; exact d, fun x hx => by rw [k.1 _ _ _ (by omega), k.1 _ _ _ (by omega)]; exact e x hx⟩
theorem MV.fz {D : Dc} {w so i j : Nat} {c : Cu} {M M' : Mem} (h : MV D w so c i M) (hj : i ≠ j) (k : Fz j M M') : MV D w so c i M' := by
  obtain ⟨a, b, d, e, f⟩ := h
  exact ⟨by rw [k.1 _ _ _ (by omega)]; exact a, by rw [k.1 _ _ _ (by omega)]; exact b, by rw [k.1 _ _ _ (by omega)]; exact d, by rw [k.1 _ _ _ (by omega)]; exact e, fun x hx => by rw [k.1 _ _ _ (by omega)]; exact f x hx⟩
theorem kHt_Z {c j : Nat} (h : kHt c j = true) : kZ c j = true := by unfold kHt at h; unfold kZ; simp at h ⊢; omega
theorem opn_0 (D : Dc) (K : Qc) (so : Nat) : opn (g0 D K so).1 (sN K) = 0 ∧ wrk (g0 D K so).1 (sN K) = 0 := by
  have key : ∀ n, opn (g0 D K so).1 n = 0 ∧ wrk (g0 D K so).1 n = 0 := by
    intro n
    induction n with
    | zero => exact ⟨rfl, rfl⟩
    | succ n ih =>
      have e1 : opn (g0 D K so).1 (n + 1) = opn (g0 D K so).1 n + 0 := rfl
      have e2 : wrk (g0 D K so).1 (n + 1) = wrk (g0 D K so).1 n + 0 := rfl
      rw [e1, e2, ih.1, ih.2]
      exact ⟨rfl, rfl⟩
  exact key _
theorem mer {D : Dc} {K : Qc} {kn so m : Nat} {M : Mem} (hD : DW D kn) (hK : QW K kn) (h2 : 2 ≤ so) (h8 : so ≤ 8) (hm : 1 ≤ m) (hm2 : m ≤ 10) {v : Int32} {Q : Mem → Prop} (f : Nat) (g : Ge) (M1 : Mem) (hf : muG D K so g.1 < f) (hg : GI D K so m g) (h : NW D K so g M1) (k1 : Kp kHt M M1) (hQ : ∀ M', Kp kHt M M' → NW D K so (er D K so m f g) M' → Q M') : lp (fun L s => bX11_goesEarly_74 (nI m) v Q L s.1 s.2) (f + 1) (M1, nI 1) := by
  induction f generalizing g M1 with
  | zero => omega
  | succ f ih =>
    show bX11_goesEarly_74 (nI m) v Q (lp (fun L s => bX11_goesEarly_74 (nI m) v Q L s.1 s.2) (f + 1)) M1 (nI 1)
    generalize hR : lp (fun L s => bX11_goesEarly_74 (nI m) v Q L s.1 s.2) (f + 1) = R
    unfold er at hQ
    have hI : GI D K so m (gI g) := hg
    unfold bX11_goesEarly_74
    try simp (disch := omega) only [li, nO_n, adI, mlI, tnI, vpI, ltI, leI, eqI, forall_eq, leT, leF, ltT, ltF, eqT, eqF, true_and, and_true, false_implies, true_implies, forall_const, not_true_eq_false, not_false_eq_true, implies_true]
    refine mturn h hg hD hK h2 h8 hm hm2 (fun ep M2 k2 w2 => ?_) (fun ep M2 k2 w2 => ?_)
    · rw [if_pos ep] at hQ
      rw [← hR]
      show bX11_goesEarly_74 (nI m) v Q (lp (fun L s => bX11_goesEarly_74 (nI m) v Q L s.1 s.2) f) M2 (nI 0)
      have := hQ M2 (k1.tr k2) w2
      unfold bX11_goesEarly_74
      try simp (disch := omega) only [li, nO_n, adI, mlI, tnI, vpI, ltI, leI, eqI, forall_eq, leT, leF, ltT, ltF, eqT, eqF, true_and, and_true, false_implies, true_implies, forall_const, not_true_eq_false, not_false_eq_true, implies_true]
      exact this
    · rw [if_neg ep] at hQ
      have mu := (trn_c hD hK h2 hm hI ep).2
      have mu : muG D K so (trn D K so m (gI g)).1 < muG D K so g.1 := mu
      rw [← hR]
      exact ih _ M2 (by omega) (trn_c hD hK h2 hm hI ep).1 w2 (k1.tr k2) hQ
theorem mgoes {D : Dc} {K : Qc} {kn so m : Nat} {M : Mem} (hD : DW D kn) (hK : QW K kn) (h2 : 2 ≤ so) (h8 : so ≤ 8) (hm : 1 ≤ m) (hm2 : m ≤ 10) (hc : MD D M) (hq : MK K M) (hN : M.1 1239 0 0 = oI none) {Q : Mem → Prop} (hQ : ∀ M', Kp kHt M M' → NW D K so (erl D K so m) M' → Q M') : pX11_goesEarly M (nI m) (nI so) Q := by
  have hn := hK.1
  unfold pX11_goesEarly
  simp only [forall_eq]
  have k0 : ∀ a b c d e f g h : Int32, Kp kHt M (up1 (up1 (up1 (up1 (up1 (up1 (up1 (up1 M 1263 0 0 a) 1256 0 0 b) 1257 0 0 c) 1258 0 0 d) 1259 0 0 e) 1260 0 0 f) 1261 0 0 g) 1262 0 0 h) := fun a b c d e f g h => (((((((Kp.rf.u1 rfl).u1 rfl).u1 rfl).u1 rfl).u1 rfl).u1 rfl).u1 rfl).u1 rfl
  have c0' : ∀ a b c d e f g h : Int32, ∀ m1 : Mem, m1 = (up1 (up1 (up1 (up1 (up1 (up1 (up1 (up1 M 1263 0 0 a) 1256 0 0 b) 1257 0 0 c) 1258 0 0 d) 1259 0 0 e) 1260 0 0 f) 1261 0 0 g) 1262 0 0 h) → m1.1 1263 0 0 = a ∧ m1.1 1256 0 0 = b ∧ m1.1 1257 0 0 = c ∧ m1.1 1258 0 0 = d ∧ m1.1 1259 0 0 = e ∧ m1.1 1260 0 0 = f ∧ m1.1 1261 0 0 = g ∧ m1.1 1262 0 0 = h := by
    rintro a b c d e f g h m1 rfl
    refine ⟨?_, ?_, ?_, ?_, ?_, ?_, ?_, ?_⟩
    · rw [up1_ne (by omega), up1_ne (by omega), up1_ne (by omega), up1_ne (by omega), up1_ne (by omega), up1_ne (by omega), up1_ne (by omega), up1_eq]
    · rw [up1_ne (by omega), up1_ne (by omega), up1_ne (by omega), up1_ne (by omega), up1_ne (by omega), up1_ne (by omega), up1_eq]
    · rw [up1_ne (by omega), up1_ne (by omega), up1_ne (by omega), up1_ne (by omega), up1_ne (by omega), up1_eq]
    · rw [up1_ne (by omega), up1_ne (by omega), up1_ne (by omega), up1_ne (by omega), up1_eq]
    · rw [up1_ne (by omega), up1_ne (by omega), up1_ne (by omega), up1_eq]
    · rw [up1_ne (by omega), up1_ne (by omega), up1_eq]
    · rw [up1_ne (by omega), up1_eq]
    · rw [up1_eq]
  have k0 := k0 (nI so) 0 0 0 0 0 0 0
  have c0' := c0' (nI so) 0 0 0 0 0 0 0 _ rfl
  generalize (up1 (up1 (up1 (up1 (up1 (up1 (up1 (up1 M 1263 0 0 (nI so)) 1256 0 0 0) 1257 0 0 0) 1258 0 0 0) 1259 0 0 0) 1260 0 0 0) 1261 0 0 0) 1262 0 0 0) = M1 at *
  refine lp_up (fun k s => s.2 = nI k ∧ Kp kHt M s.1 ∧ (s.1.1 1263 0 0 = nI so ∧ s.1.1 1256 0 0 = nI 0 ∧ s.1.1 1257 0 0 = nI 0 ∧ s.1.1 1258 0 0 = nI 0 ∧ s.1.1 1259 0 0 = nI 0 ∧ s.1.1 1260 0 0 = nI 0 ∧ s.1.1 1261 0 0 = nI 0 ∧ s.1.1 1262 0 0 = nI 0) ∧ ∀ i, i < k → MS D (sW K i) so (wei D K i) i s.1 ∧ MV D (sW K i) so (c0 D (sW K i) so) i s.1) (Nat.zero_le (sN K)) ⟨rfl, k0, c0', fun i hi => absurd hi (Nat.not_lt_zero _)⟩ ?_ ?_
  · rintro k ⟨m2, y⟩ L - hk ⟨rfl, k2, ⟨d1, d2, d3, d4, d5, d6, d7, d8⟩, hs⟩ hL
    have k2 : Kp kHt M m2 := k2
    have hs : ∀ i, i < k → MS D (sW K i) so (wei D K i) i m2 ∧ MV D (sW K i) so (c0 D (sW K i) so) i m2 := hs
    have hc2 := hc.kp (k2.wk fun c j hh => by unfold pMD at hh; unfold kHt; simp at hh ⊢; omega)
    have hq2 := hq.kp (k2.wk fun c j hh => by unfold pMK at hh; unfold kHt; simp at hh ⊢; omega)
    unfold bX11_goesEarly_42
    try simp (disch := omega) only [li, nO_n, adI, mlI, tnI, vpI, ltI, leI, eqI, forall_eq, leT, leF, ltT, ltF, eqT, eqF, true_and, and_true, false_implies, true_implies, forall_const, not_true_eq_false, not_false_eq_true, implies_true, hq2.n]
    refine mlays hc2 hq2 hD hK h2 h8 hk d1 (fun M' k3 s1 s2 => ?_)
    try simp (disch := omega) only [li, nO_n, adI, mlI, tnI, vpI, ltI, leI, eqI, forall_eq, leT, leF, ltT, ltF, eqT, eqF, true_and, and_true, false_implies, true_implies, forall_const, not_true_eq_false, not_false_eq_true, implies_true]
    have kk : ∀ c, 1253 < c → c < 6000 → M'.1 c 0 0 = m2.1 c 0 0 := fun c h3 h6 => k3.1 _ _ _ (by omega)
    refine hL _ ⟨rfl, k2.tr (k3.kp.wk fun c j => kHt_Z), ⟨(kk _ (by omega) (by omega)).trans d1, (kk _ (by omega) (by omega)).trans d2, (kk _ (by omega) (by omega)).trans d3, (kk _ (by omega) (by omega)).trans d4, (kk _ (by omega) (by omega)).trans d5, (kk _ (by omega) (by omega)).trans d6, (kk _ (by omega) (by omega)).trans d7, (kk _ (by omega) (by omega)).trans d8⟩, fun i hi => ?_⟩
    by_cases e : i = k
    · subst e; exact ⟨s1, s2⟩
    · have := hs i (by omega)
      exact ⟨this.1.fz e k3, this.2.fz e k3⟩
  · rintro ⟨m2, y⟩ L ⟨rfl, k2, ⟨d1, d2, d3, d4, d5, d6, d7, d8⟩, hs⟩
    have k2 : Kp kHt M m2 := k2
    have hc2 := hc.kp (k2.wk fun c j hh => by unfold pMD at hh; unfold kHt; simp at hh ⊢; omega)
    have hq2 := hq.kp (k2.wk fun c j hh => by unfold pMK at hh; unfold kHt; simp at hh ⊢; omega)
    have o0 := opn_0 D K so
    have w0 : NW D K so (g0 D K so) m2 := ⟨hc2, hq2, (k2.g rfl 0).trans hN, hs, d2, fun k hk => absurd hk (Nat.not_lt_zero _), d3, by rw [o0.1]; exact d4, by rw [o0.2]; exact d5, d6, d7, d8⟩
    have hg0 := g0_c hD hK h2 (m := m)
    unfold erl at hQ
    unfold bX11_goesEarly_42
    by_cases e : sN K = 0
    · rw [if_pos e] at hQ
      have : ∃ n : Nat, lp (fun L s => bX11_goesEarly_74 (nI m) (nI so) Q L s.1 s.2) n (m2, nI 0) := by
        refine ⟨1, ?_⟩
        show bX11_goesEarly_74 (nI m) (nI so) Q _ m2 (nI 0)
        unfold bX11_goesEarly_74
        try simp (disch := omega) only [li, nO_n, adI, mlI, tnI, vpI, ltI, leI, eqI, forall_eq, leT, leF, ltT, ltF, eqT, eqF, true_and, and_true, false_implies, true_implies, forall_const, not_true_eq_false, not_false_eq_true, implies_true]
        exact hQ m2 k2 w0
      try simp (disch := omega) only [li, nO_n, adI, mlI, tnI, vpI, ltI, leI, eqI, forall_eq, leT, leF, ltT, ltF, eqT, eqF, true_and, and_true, false_implies, true_implies, forall_const, not_true_eq_false, not_false_eq_true, implies_true, hq2.n, e]
      exact this
    · rw [if_neg e] at hQ
      have : ∃ n : Nat, lp (fun L s => bX11_goesEarly_74 (nI m) (nI so) Q L s.1 s.2) n (m2, nI 1) := ⟨_, mer hD hK h2 h8 hm hm2 1600 (g0 D K so) m2 (by omega) hg0.1 w0 k2 hQ⟩
      try simp (disch := omega) only [li, nO_n, adI, mlI, tnI, vpI, ltI, leI, eqI, forall_eq, leT, leF, ltT, ltF, eqT, eqF, true_and, and_true, false_implies, true_implies, forall_const, not_true_eq_false, not_false_eq_true, implies_true, hq2.n]
      exact this
theorem mspared {D : Dc} {K : Qc} {kn so m : Nat} {M : Mem} (hD : DW D kn) (hK : QW K kn) (h2 : 2 ≤ so) (h8 : so ≤ 8) (hm : 1 ≤ m) (hm2 : m ≤ 10) {g : Ge} (h : NW D K so g M) (hg : GI D K so m g) {Q : Int32 → Mem → Prop} (hQ : Q (nI (spr D K so g.1 (sN K))) M) : pX11_spared M Q := by
  have hn := hK.1
  unfold pX11_spared
  refine lp_up (fun i s => s = (M, nI (spr D K so g.1 i), nI i)) (Nat.zero_le (sN K)) rfl ?_ ?_
  · rintro i s L - hi rfl hL
    obtain ⟨w1, w2, w3⟩ := NW.w h hg hD hK h2 h8 hm hm2 hi
    obtain ⟨s1, s2⟩ := h.2.2.2.1 i hi
    unfold bX11_spared_4
    try simp (disch := omega) only [li, nO_n, adI, mlI, tnI, vpI, ltI, leI, eqI, forall_eq, leT, leF, ltT, ltF, eqT, eqF, true_and, and_true, false_implies, true_implies, forall_const, not_true_eq_false, not_false_eq_true, implies_true, h.2.1.n]
    refine lp_up (fun b s => s = (M, nI (spr D K so g.1 i + spr1 D K so g.1 i b), nI i, nI b)) (Nat.zero_le (nB D (sW K i) so)) rfl ?_ ?_
    · rintro b s L2 - hb2 rfl hL2
      have e2 := s2.2.2.2.2 b hb2
      have o1 := (hg.1 i hi).2.2.2.2.2.2.1 b
      unfold bX11_spared_14 bX11_spared_42
      refine mblocksL s1 hD h2 h8 w2 ?_
      by_cases e : cO (g.1 i) b = 0
      · have es : spr1 D K so g.1 i (b + 1) = spr1 D K so g.1 i b + 1 := by unfold spr1; rw [ctF, beq_iff_eq.mpr e]; rfl
        try simp (disch := omega) only [li, nO_n, adI, mlI, tnI, vpI, ltI, leI, eqI, forall_eq, leT, leF, ltT, ltF, eqT, eqF, true_and, and_true, false_implies, true_implies, forall_const, not_true_eq_false, not_false_eq_true, implies_true, e2]
        exact hL2 _ (by rw [es, ← Nat.add_assoc])
      · have es : spr1 D K so g.1 i (b + 1) = spr1 D K so g.1 i b + 0 := by unfold spr1; rw [ctF, beq_eq_false_iff_ne.mpr e]; rfl
        try simp (disch := omega) only [li, nO_n, adI, mlI, tnI, vpI, ltI, leI, eqI, forall_eq, leT, leF, ltT, ltF, eqT, eqF, true_and, and_true, false_implies, true_implies, forall_const, not_true_eq_false, not_false_eq_true, implies_true, e2]
        exact hL2 _ (by rw [es, ← Nat.add_assoc])
    · rintro s L2 rfl
      unfold bX11_spared_14
      refine mblocksL s1 hD h2 h8 w2 ?_
      try simp (disch := omega) only [li, nO_n, adI, mlI, tnI, vpI, ltI, leI, eqI, forall_eq, leT, leF, ltT, ltF, eqT, eqF, true_and, and_true, false_implies, true_implies, forall_const, not_true_eq_false, not_false_eq_true, implies_true]
      exact hL _ rfl
  · rintro s L rfl
    unfold bX11_spared_4
    try simp (disch := omega) only [li, nO_n, adI, mlI, tnI, vpI, ltI, leI, eqI, forall_eq, leT, leF, ltT, ltF, eqT, eqF, true_and, and_true, false_implies, true_implies, forall_const, not_true_eq_false, not_false_eq_true, implies_true, h.2.1.n]
    exact hQ
