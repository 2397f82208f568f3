/-! PURE: operations, the reference, first part -/
theorem m_told {S : St} {M : Mem} (h : MI S M) (hS : SW S) {Q : Int32 → Mem → Prop} (x : Int32) (k : ME (oTold S x) 1 M Q) : pX11_told M x Q := by
  unfold pX11_told
  obtain ⟨s1, s2, hD, hW, hK, s5, s6, s7⟩ := id hS
  have hkn := hD.2.1
  have hdn := hD.1
  refine mstart h (fun N hN k0 h0 => ?_)
  obtain ⟨i1, i2, i3, i4, i5, hC, hw, hq, hz, hn⟩ := id hN
  unfold oTold at k
  refine minR (lo := 0) (m := 9) rfl rfl (by omega) (by omega) (fun j _ hj e ej => ?_) (fun ej => ?_)
  · rw [ej] at k
    subst e
    first | refine s1a ?_ | refine s1b ?_
    refine mbad0 h0 ?_
    first | refine s0a ?_ | refine s0b ?_
    rcases (show j = 0 ∨ j = 1 ∨ j = 2 ∨ j = 3 ∨ j = 4 ∨ j = 5 ∨ j = 6 ∨ j = 7 ∨ j = 8 ∨ j = 9 by omega) with rfl | rfl | rfl | rfl | rfl | rfl | rfl | rfl | rfl | rfl
    · try simp (disch := omega) only [li, nO_n, adI, mlI, tnI, vpI, ltI, leI, eqI, forall_eq, leT, leF, ltT, ltF, eqT, eqF, true_and, and_true, false_implies, true_implies, forall_const, not_true_eq_false, not_false_eq_true, implies_true]
      exact mkept hC hD (k.ok k0 hN h0)
    · try simp (disch := omega) only [li, nO_n, adI, mlI, tnI, vpI, ltI, leI, eqI, forall_eq, leT, leF, ltT, ltF, eqT, eqF, true_and, and_true, false_implies, true_implies, forall_const, not_true_eq_false, not_false_eq_true, implies_true]
      exact mgone hC hD (k.ok k0 hN h0)
    · try simp (disch := omega) only [li, nO_n, adI, mlI, tnI, vpI, ltI, leI, eqI, forall_eq, leT, leF, ltT, ltF, eqT, eqF, true_and, and_true, false_implies, true_implies, forall_const, not_true_eq_false, not_false_eq_true, implies_true, hw.1]
      exact k.ok k0 hN h0
    · try simp (disch := omega) only [li, nO_n, adI, mlI, tnI, vpI, ltI, leI, eqI, forall_eq, leT, leF, ltT, ltF, eqT, eqF, true_and, and_true, false_implies, true_implies, forall_const, not_true_eq_false, not_false_eq_true, implies_true]
      exact mallPostings hC hD hw.1 (fun M' kk => k.ok (k0.tr (kk.wk mLR)) (hN.v kk mLS) ((kk.g rfl 0).trans h0))
    · try simp (disch := omega) only [li, nO_n, adI, mlI, tnI, vpI, ltI, leI, eqI, forall_eq, leT, leF, ltT, ltF, eqT, eqF, true_and, and_true, false_implies, true_implies, forall_const, not_true_eq_false, not_false_eq_true, implies_true]
      exact mallBlocks hC hD hw.1 hz s5 s6 (fun M' kk => k.ok (k0.tr (kk.wk mLR)) (hN.v kk mLS) ((kk.g rfl 0).trans h0))
    · try simp (disch := omega) only [li, nO_n, adI, mlI, tnI, vpI, ltI, leI, eqI, forall_eq, leT, leF, ltT, ltF, eqT, eqF, true_and, and_true, false_implies, true_implies, forall_const, not_true_eq_false, not_false_eq_true, implies_true, hz]
      exact mbitsOfAll hC hD hw.1 s5 s6 (fun M' kk => k.ok (k0.tr (kk.wk mLR)) (hN.v kk mLS) ((kk.g rfl 0).trans h0))
    · try simp (disch := omega) only [li, nO_n, adI, mlI, tnI, vpI, ltI, leI, eqI, forall_eq, leT, leF, ltT, ltF, eqT, eqF, true_and, and_true, false_implies, true_implies, forall_const, not_true_eq_false, not_false_eq_true, implies_true, hz]
      exact k.ok k0 hN h0
    · try simp (disch := omega) only [li, nO_n, adI, mlI, tnI, vpI, ltI, leI, eqI, forall_eq, leT, leF, ltT, ltF, eqT, eqF, true_and, and_true, false_implies, true_implies, forall_const, not_true_eq_false, not_false_eq_true, implies_true, hq.n]
      exact k.ok k0 hN h0
    · try simp (disch := omega) only [li, nO_n, adI, mlI, tnI, vpI, ltI, leI, eqI, forall_eq, leT, leF, ltT, ltF, eqT, eqF, true_and, and_true, false_implies, true_implies, forall_const, not_true_eq_false, not_false_eq_true, implies_true, hq.pa]
      exact k.ok k0 hN h0
    · try simp (disch := omega) only [li, nO_n, adI, mlI, tnI, vpI, ltI, leI, eqI, forall_eq, leT, leF, ltT, ltF, eqT, eqF, true_and, and_true, false_implies, true_implies, forall_const, not_true_eq_false, not_false_eq_true, implies_true, hC.n]
      exact k.ok k0 hN h0
  · rw [ej] at k
    first | refine s0a ?_ | refine s0b ?_
    refine mbadA rfl (Or.inl rfl) hN h0 k0 k (fun M' hb => ?_)
    first | refine s1a ?_ | refine s1b ?_
    exact hb _
theorem m_document {S : St} {M : Mem} (h : MI S M) (hS : SW S) {Q : Int32 → Mem → Prop} (x y : Int32) (k : ME (oDoc S x y) 2 M Q) : pX11_document M x y Q := by
  unfold pX11_document
  obtain ⟨s1, s2, hD, hW, hK, s5, s6, s7⟩ := id hS
  have hkn := hD.2.1
  have hdn := hD.1
  refine mstart h (fun N hN k0 h0 => ?_)
  obtain ⟨i1, i2, i3, i4, i5, hC, hw, hq, hz, hn⟩ := id hN
  unfold oDoc at k
  refine misDoc hN hS (fun d d1 d2 e ed => ?_) (fun ed => ?_)
  · rw [ed] at k
    dsimp only at k
    subst e
    have hk0 := s7 (by omega)
    first | refine s1a ?_ | refine s1b ?_
    refine mbad0 h0 ?_
    first | refine s0a ?_ | refine s0b ?_
    have hm := mostW_lt (tD S) d (tW S).length hk0
    refine minR (lo := 0) (m := 4) rfl rfl (by omega) (by omega) (fun j _ hj e ej => ?_) (fun ej => ?_)
    · rw [ej] at k
      subst e
      first | refine s1a ?_ | refine s1b ?_
      refine mbad0 h0 ?_
      first | refine s0a ?_ | refine s0b ?_
      rcases (show j = 0 ∨ j = 1 ∨ j = 2 ∨ j = 3 ∨ j = 4 by omega) with rfl | rfl | rfl | rfl | rfl
      · try simp (disch := omega) only [li, nO_n, adI, mlI, tnI, vpI, ltI, leI, eqI, forall_eq, leT, leF, ltT, ltF, eqT, eqF, true_and, and_true, false_implies, true_implies, forall_const, not_true_eq_false, not_false_eq_true, implies_true, hC.len]
        exact k.ok k0 hN h0
      · try simp (disch := omega) only [li, nO_n, adI, mlI, tnI, vpI, ltI, leI, eqI, forall_eq, leT, leF, ltT, ltF, eqT, eqF, true_and, and_true, false_implies, true_implies, forall_const, not_true_eq_false, not_false_eq_true, implies_true]
        refine munlike hC hD hw.1 (by omega) ?_
        have e2 : unlN (tD S) d (tW S).length = bothN (tD S) d d (tW S).length := ctF_congr (fun w _ => by simp)
        rw [e2]
        exact k.ok k0 hN h0
      · have h3 := hD.ds d
        have hq2 : Q (nI (if dS (tD S) d = 2 then 1 else 0)) N := k.ok k0 hN h0
        by_cases e2 : dS (tD S) d = 2
        · rw [if_pos e2] at hq2
          try simp (disch := omega) only [li, nO_n, adI, mlI, tnI, vpI, ltI, leI, eqI, forall_eq, leT, leF, ltT, ltF, eqT, eqF, true_and, and_true, false_implies, true_implies, forall_const, not_true_eq_false, not_false_eq_true, implies_true, hC.st, e2]
          exact hq2
        · rw [if_neg e2] at hq2
          try simp (disch := omega) only [li, nO_n, adI, mlI, tnI, vpI, ltI, leI, eqI, forall_eq, leT, leF, ltT, ltF, eqT, eqF, true_and, and_true, false_implies, true_implies, forall_const, not_true_eq_false, not_false_eq_true, implies_true, hC.st]
          exact hq2
      · try simp (disch := omega) only [li, nO_n, adI, mlI, tnI, vpI, ltI, leI, eqI, forall_eq, leT, leF, ltT, ltF, eqT, eqF, true_and, and_true, false_implies, true_implies, forall_const, not_true_eq_false, not_false_eq_true, implies_true]
        exact mmostOften hC hD hw.1 hk0 (by omega) (k.ok k0 hN h0)
      · try simp (disch := omega) only [li, nO_n, adI, mlI, tnI, vpI, ltI, leI, eqI, forall_eq, leT, leF, ltT, ltF, eqT, eqF, true_and, and_true, false_implies, true_implies, forall_const, not_true_eq_false, not_false_eq_true, implies_true]
        refine mmostOften hC hD hw.1 hk0 (by omega) ?_
        try simp (disch := omega) only [li, nO_n, adI, mlI, tnI, vpI, ltI, leI, eqI, forall_eq, leT, leF, ltT, ltF, eqT, eqF, true_and, and_true, false_implies, true_implies, forall_const, not_true_eq_false, not_false_eq_true, implies_true, hC.cn]
        exact k.ok k0 hN h0
    · rw [ej] at k
      first | refine s0a ?_ | refine s0b ?_
      refine mbadA rfl (Or.inr rfl) hN h0 k0 k (fun M' hb => ?_)
      first | refine s1a ?_ | refine s1b ?_
      exact hb _
  · rw [ed] at k
    dsimp only at k
    first | refine s0a ?_ | refine s0b ?_
    refine mbadN hN h0 k0 k (fun M' hb => ?_)
    first | refine s1a ?_ | refine s1b ?_
    exact hb _
theorem m_at {S : St} {M : Mem} (h : MI S M) (hS : SW S) {Q : Int32 → Mem → Prop} (x y : Int32) (k : ME (oAt S x y) 2 M Q) : pX11_at M x y Q := by
  unfold pX11_at
  obtain ⟨s1, s2, hD, hW, hK, s5, s6, s7⟩ := id hS
  have hkn := hD.2.1
  have hdn := hD.1
  refine mstart h (fun N hN k0 h0 => ?_)
  obtain ⟨i1, i2, i3, i4, i5, hC, hw, hq, hz, hn⟩ := id hN
  unfold oAt at k
  refine misDoc hN hS (fun d d1 d2 e ed => ?_) (fun ed => ?_)
  · rw [ed] at k
    dsimp only at k
    subst e
    have hl := hD.dl d
    first | refine s1a ?_ | refine s1b ?_
    refine mbad0 h0 ?_
    first | refine s0a ?_ | refine s0b ?_
    refine ⟨(vpI (by omega)).mpr (by omega), ?_⟩
    refine minN (n := dL (tD S) d) (by rw [tnI (by omega), hC.len]; rfl) (by omega) (fun p p2 e ep => ?_) (fun ep => ?_)
    · rw [ep] at k
      subst e
      first | refine s1a ?_ | refine s1b ?_
      have e3 := hC.tx p2
      try simp (disch := omega) only [li, nO_n, adI, mlI, tnI, vpI, ltI, leI, eqI, forall_eq, leT, leF, ltT, ltF, eqT, eqF, true_and, and_true, false_implies, true_implies, forall_const, not_true_eq_false, not_false_eq_true, implies_true, e3]
      exact k.ok k0 hN h0
    · rw [ep] at k
      first | refine s0a ?_ | refine s0b ?_
      exact k.ok k0 hN h0
  · rw [ed] at k
    dsimp only at k
    first | refine s0a ?_ | refine s0b ?_
    refine mbadN hN h0 k0 k (fun M' hb => ?_)
    first | refine s1a ?_ | refine s1b ?_
    exact hb _
theorem m_word {S : St} {M : Mem} (h : MI S M) (hS : SW S) {Q : Int32 → Mem → Prop} (x y : Int32) (k : ME (oWord S x y) 2 M Q) : pX11_word M x y Q := by
  unfold pX11_word
  obtain ⟨s1, s2, hD, hW, hK, s5, s6, s7⟩ := id hS
  have hkn := hD.2.1
  have hdn := hD.1
  refine mstart h (fun N hN k0 h0 => ?_)
  obtain ⟨i1, i2, i3, i4, i5, hC, hw, hq, hz, hn⟩ := id hN
  unfold oWord at k
  refine misWord hN hS (fun w w1 e ed => ?_) (fun ed => ?_)
  · rw [ed] at k
    dsimp only at k
    subst e
    first | refine s1a ?_ | refine s1b ?_
    refine mbad0 h0 ?_
    first | refine s0a ?_ | refine s0b ?_
    refine minR (lo := 0) (m := 6) rfl rfl (by omega) (by omega) (fun j _ hj e ej => ?_) (fun ej => ?_)
    · rw [ej] at k
      subst e
      first | refine s1a ?_ | refine s1b ?_
      refine mbad0 h0 ?_
      first | refine s0a ?_ | refine s0b ?_
      refine mgathers hC hD (by omega) (fun N1 k1 l1 => ?_)
      have hN1 := hN.v k1 mLS
      have hC1 : MD (tD S) N1 := hC.ks hD k1
      have k01 := k0.tr (k1.wk mLR)
      have h01 : N1.1 1200 0 0 = nI 0 := (k1.g rfl 0).trans h0
      have hz1 : N1.1 1211 0 0 = nI (tZ S) := (k1.g rfl 0).trans hz
      have hpn := pN_le (tD S) w
      rcases (show j = 0 ∨ j = 1 ∨ j = 2 ∨ j = 3 ∨ j = 4 ∨ j = 5 ∨ j = 6 by omega) with rfl | rfl | rfl | rfl | rfl | rfl | rfl
      · try simp (disch := omega) only [li, nO_n, adI, mlI, tnI, vpI, ltI, leI, eqI, forall_eq, leT, leF, ltT, ltF, eqT, eqF, true_and, and_true, false_implies, true_implies, forall_const, not_true_eq_false, not_false_eq_true, implies_true, l1.1]
        exact k.ok k01 hN1 h01
      · try simp (disch := omega) only [li, nO_n, adI, mlI, tnI, vpI, ltI, leI, eqI, forall_eq, leT, leF, ltT, ltF, eqT, eqF, true_and, and_true, false_implies, true_implies, forall_const, not_true_eq_false, not_false_eq_true, implies_true]
        exact mtimesInAll hC1 hD (by omega) (fun M' kk => k.ok (k01.tr (kk.wk mLR)) (hN1.v kk mLS) ((kk.g rfl 0).trans h01))
      · try simp (disch := omega) only [li, nO_n, adI, mlI, tnI, vpI, ltI, leI, eqI, forall_eq, leT, leF, ltT, ltF, eqT, eqF, true_and, and_true, false_implies, true_implies, forall_const, not_true_eq_false, not_false_eq_true, implies_true, l1.1, hz1]
        exact mblocksOf hC1 hD (by omega) s5 s6 (k.ok k01 hN1 h01)
      · try simp (disch := omega) only [li, nO_n, adI, mlI, tnI, vpI, ltI, leI, eqI, forall_eq, leT, leF, ltT, ltF, eqT, eqF, true_and, and_true, false_implies, true_implies, forall_const, not_true_eq_false, not_false_eq_true, implies_true]
        exact mtopOfList hC1 hD (by omega) (fun M' kk => k.ok (k01.tr (kk.wk mLR)) (hN1.v kk mLS) ((kk.g rfl 0).trans h01))
      · try simp (disch := omega) only [li, nO_n, adI, mlI, tnI, vpI, ltI, leI, eqI, forall_eq, leT, leF, ltT, ltF, eqT, eqF, true_and, and_true, false_implies, true_implies, forall_const, not_true_eq_false, not_false_eq_true, implies_true]
        exact mrare hC1 hD (by omega) (fun M' kk _ => k.ok (k01.tr (kk.wk mLR)) (hN1.v kk mLS) ((kk.g rfl 0).trans h01))
      · try simp (disch := omega) only [li, nO_n, adI, mlI, tnI, vpI, ltI, leI, eqI, forall_eq, leT, leF, ltT, ltF, eqT, eqF, true_and, and_true, false_implies, true_implies, forall_const, not_true_eq_false, not_false_eq_true, implies_true, hz1]
        exact mbitsOf hC1 hD (by omega) s5 s6 (fun M' kk => k.ok (k01.tr (kk.wk mLR)) (hN1.v kk mLS) ((kk.g rfl 0).trans h01))
      · have e3 : N1.1 1215 0 w = nI (wD (tW S) w).length := (k1.g rfl w).trans (hw.2 w w1).2
        try simp (disch := omega) only [li, nO_n, adI, mlI, tnI, vpI, ltI, leI, eqI, forall_eq, leT, leF, ltT, ltF, eqT, eqF, true_and, and_true, false_implies, true_implies, forall_const, not_true_eq_false, not_false_eq_true, implies_true, e3]
        exact k.ok k01 hN1 h01
    · rw [ej] at k
      first | refine s0a ?_ | refine s0b ?_
      refine mbadA rfl (Or.inr rfl) hN h0 k0 k (fun M' hb => ?_)
      first | refine s1a ?_ | refine s1b ?_
      exact hb _
  · rw [ed] at k
    dsimp only at k
    first | refine s0a ?_ | refine s0b ?_
    refine mbadN hN h0 k0 k (fun M' hb => ?_)
    first | refine s1a ?_ | refine s1b ?_
    exact hb _
theorem m_letter {S : St} {M : Mem} (h : MI S M) (hS : SW S) {Q : Int32 → Mem → Prop} (x y : Int32) (k : ME (oLetter S x y) 2 M Q) : pX11_letter M x y Q := by
  unfold pX11_letter
  obtain ⟨s1, s2, hD, hW, hK, s5, s6, s7⟩ := id hS
  have hkn := hD.2.1
  have hdn := hD.1
  refine mstart h (fun N hN k0 h0 => ?_)
  obtain ⟨i1, i2, i3, i4, i5, hC, hw, hq, hz, hn⟩ := id hN
  unfold oLetter at k
  refine misWord hN hS (fun w w1 e ed => ?_) (fun ed => ?_)
  · rw [ed] at k
    dsimp only at k
    subst e
    have hl := (wD_ok hW w1).2.2
    have hl1 := (wD_ok hW w1).2.1
    first | refine s1a ?_ | refine s1b ?_
    refine mbad0 h0 ?_
    first | refine s0a ?_ | refine s0b ?_
    refine ⟨(vpI (by omega)).mpr (by omega), ?_⟩
    refine minN (n := (wD (tW S) w).length) (by rw [tnI (by omega), (hw.2 w w1).2]; rfl) (by omega) (fun j j2 e ej => ?_) (fun ej => ?_)
    · rw [ej] at k
      subst e
      first | refine s1a ?_ | refine s1b ?_
      intro v12 e12 v13 e13
      have e12' : v12 = nG (rb 27 (wD (tW S) w)) := by rw [e12, tnI (by omega)]; exact (hw.2 w w1).1
      have e13' : v13 = nI ((wD (tW S) w).length - 1) := by rw [e13, tnI (by omega), (hw.2 w w1).2]; exact sbI (by omega)
      rw [e12', e13']
      exact mletter hw hW w1 j2 (k.ok k0 hN h0)
    · rw [ej] at k
      first | refine s0a ?_ | refine s0b ?_
      exact k.ok k0 hN h0
  · rw [ed] at k
    dsimp only at k
    first | refine s0a ?_ | refine s0b ?_
    refine mbadN hN h0 k0 k (fun M' hb => ?_)
    first | refine s1a ?_ | refine s1b ?_
    exact hb _
theorem m_common {S : St} {M : Mem} (h : MI S M) (hS : SW S) {Q : Int32 → Mem → Prop} (x : Int32) (k : ME (oCommon S x) 2 M Q) : pX11_common M x Q := by
  unfold pX11_common
  obtain ⟨s1, s2, hD, hW, hK, s5, s6, s7⟩ := id hS
  have hkn := hD.2.1
  have hdn := hD.1
  refine mstart h (fun N hN k0 h0 => ?_)
  obtain ⟨i1, i2, i3, i4, i5, hC, hw, hq, hz, hn⟩ := id hN
  unfold oCommon at k
  refine misWord hN hS (fun w w1 e ed => ?_) (fun ed => ?_)
  · rw [ed] at k
    dsimp only at k
    subst e
    first | refine s1a ?_ | refine s1b ?_
    refine mbad0 h0 ?_
    first | refine s0a ?_ | refine s0b ?_
    exact mcommon hC hD hw.1 w1 (fun M' kk => k.ok (k0.tr (kk.wk mLR)) (hN.v kk mLS) ((kk.g rfl 0).trans h0))
  · rw [ed] at k
    dsimp only at k
    first | refine s0a ?_ | refine s0b ?_
    refine mbadN hN h0 k0 k (fun M' hb => ?_)
    first | refine s1a ?_ | refine s1b ?_
    exact hb _
theorem m_alike {S : St} {M : Mem} (h : MI S M) (hS : SW S) {Q : Int32 → Mem → Prop} (x y : Int32) (k : ME (oAlike S x y) 2 M Q) : pX11_alike M x y Q := by
  unfold pX11_alike
  obtain ⟨s1, s2, hD, hW, hK, s5, s6, s7⟩ := id hS
  have hkn := hD.2.1
  have hdn := hD.1
  refine mstart h (fun N hN k0 h0 => ?_)
  obtain ⟨i1, i2, i3, i4, i5, hC, hw, hq, hz, hn⟩ := id hN
  unfold oAlike at k
  refine misDoc hN hS (fun d d1 d2 e ed => ?_) (fun ed => ?_)
  · rw [ed] at k
    dsimp only at k
    subst e
    first | refine s1a ?_ | refine s1b ?_
    refine misDoc hN hS (fun d' d1' d2' e ed' => ?_) (fun ed' => ?_)
    · rw [ed'] at k
      subst e
      first | refine s1a ?_ | refine s1b ?_
      refine mbad0 h0 ?_
      first | refine s0a ?_ | refine s0b ?_
      exact minBoth hC hD hw.1 (by omega) (by omega) (k.ok k0 hN h0)
    · rw [ed'] at k
      first | refine s0a ?_ | refine s0b ?_
      refine mbadN hN h0 k0 k (fun M' hb => ?_)
      first | refine s1a ?_ | refine s1b ?_
      exact hb _
  · rw [ed] at k
    dsimp only at k
    first | refine s0a ?_ | refine s0b ?_
    refine mbadN hN h0 k0 k (fun M' hb => ?_)
    first | refine s1a ?_ | refine s1b ?_
    exact hb _
theorem m_why {S : St} {M : Mem} (h : MI S M) (hS : SW S) {Q : Int32 → Mem → Prop} (x : Int32) (k : ME (oWhy S x) 2 M Q) : pX11_why M x Q := by
  unfold pX11_why
  obtain ⟨s1, s2, hD, hW, hK, s5, s6, s7⟩ := id hS
  have hkn := hD.2.1
  have hdn := hD.1
  refine mstart h (fun N hN k0 h0 => ?_)
  obtain ⟨i1, i2, i3, i4, i5, hC, hw, hq, hz, hn⟩ := id hN
  unfold oWhy at k
  refine misDoc hN hS (fun d d1 d2 e ed => ?_) (fun ed => ?_)
  · rw [ed] at k
    dsimp only at k
    subst e
    first | refine s1a ?_ | refine s1b ?_
    refine mbad0 h0 ?_
    first | refine s0a ?_ | refine s0b ?_
    exact mwhy hC hq hD hK (lo := none) hn lo0 d1 (k.ok k0 hN h0)
  · rw [ed] at k
    dsimp only at k
    first | refine s0a ?_ | refine s0b ?_
    refine mbadN hN h0 k0 k (fun M' hb => ?_)
    first | refine s1a ?_ | refine s1b ?_
    exact hb _
theorem m_score {S : St} {M : Mem} (h : MI S M) (hS : SW S) {Q : Int32 → Mem → Prop} (x : Int32) (k : ME (oScore S x) 2 M Q) : pX11_score M x Q := by
  unfold pX11_score
  obtain ⟨s1, s2, hD, hW, hK, s5, s6, s7⟩ := id hS
  have hkn := hD.2.1
  have hdn := hD.1
  refine mstart h (fun N hN k0 h0 => ?_)
  obtain ⟨i1, i2, i3, i4, i5, hC, hw, hq, hz, hn⟩ := id hN
  unfold oScore at k
  refine misDoc hN hS (fun d d1 d2 e ed => ?_) (fun ed => ?_)
  · rw [ed] at k
    dsimp only at k
    subst e
    first | refine s1a ?_ | refine s1b ?_
    refine mbad0 h0 ?_
    first | refine s0a ?_ | refine s0b ?_
    exact mtotal hC hq hD hK (lo := none) hn lo0 d1 (fun M' kk => k.ok (k0.tr (kk.wk mLR)) (hN.v kk mLS) ((kk.g rfl 0).trans h0))
  · rw [ed] at k
    dsimp only at k
    first | refine s0a ?_ | refine s0b ?_
    refine mbadN hN h0 k0 k (fun M' hb => ?_)
    first | refine s1a ?_ | refine s1b ?_
    exact hb _
theorem m_near {S : St} {M : Mem} (h : MI S M) (hS : SW S) {Q : Int32 → Mem → Prop} (x : Int32) (k : ME (oNear S x) 2 M Q) : pX11_near M x Q := by
  unfold pX11_near
  obtain ⟨s1, s2, hD, hW, hK, s5, s6, s7⟩ := id hS
  have hkn := hD.2.1
  have hdn := hD.1
  refine mstart h (fun N hN k0 h0 => ?_)
  obtain ⟨i1, i2, i3, i4, i5, hC, hw, hq, hz, hn⟩ := id hN
  unfold oNear at k
  refine misDoc hN hS (fun d d1 d2 e ed => ?_) (fun ed => ?_)
  · rw [ed] at k
    dsimp only at k
    subst e
    first | refine s1a ?_ | refine s1b ?_
    refine mbad0 h0 ?_
    first | refine s0a ?_ | refine s0b ?_
    exact mnear hC hq hD hK (lo := none) hn lo0 d1 (k.ok k0 hN h0)
  · rw [ed] at k
    dsimp only at k
    first | refine s0a ?_ | refine s0b ?_
    refine mbadN hN h0 k0 k (fun M' hb => ?_)
    first | refine s1a ?_ | refine s1b ?_
    exact hb _
theorem m_window {S : St} {M : Mem} (h : MI S M) (hS : SW S) {Q : Int32 → Mem → Prop} (x y : Int32) (k : ME (oWindow S x y) 2 M Q) : pX11_window M x y Q := by
  unfold pX11_window
  obtain ⟨s1, s2, hD, hW, hK, s5, s6, s7⟩ := id hS
  have hkn := hD.2.1
  have hdn := hD.1
  refine mstart h (fun N hN k0 h0 => ?_)
  obtain ⟨i1, i2, i3, i4, i5, hC, hw, hq, hz, hn⟩ := id hN
  unfold oWindow at k
  refine misDoc hN hS (fun d d1 d2 e ed => ?_) (fun ed => ?_)
  · rw [ed] at k
    dsimp only at k
    subst e
    first | refine s1a ?_ | refine s1b ?_
    refine mbad0 h0 ?_
    first | refine s0a ?_ | refine s0b ?_
    refine minR (lo := 0) (m := 1) rfl rfl (by omega) (by omega) (fun j _ hj e ej => ?_) (fun ej => ?_)
    · rw [ej] at k
      subst e
      first | refine s1a ?_ | refine s1b ?_
      refine mbad0 h0 ?_
      first | refine s0a ?_ | refine s0b ?_
      exact mwindow hC hq hD hK d1 hj (k.ok k0 hN h0)
    · rw [ej] at k
      first | refine s0a ?_ | refine s0b ?_
      refine mbadA rfl (Or.inr rfl) hN h0 k0 k (fun M' hb => ?_)
      first | refine s1a ?_ | refine s1b ?_
      exact hb _
  · rw [ed] at k
    dsimp only at k
    first | refine s0a ?_ | refine s0b ?_
    refine mbadN hN h0 k0 k (fun M' hb => ?_)
    first | refine s1a ?_ | refine s1b ?_
    exact hb _
theorem m_answers {S : St} {M : Mem} (h : MI S M) (hS : SW S) {Q : Int32 → Mem → Prop} (k : ME (oAnswers S) 2 M Q) : pX11_answers M Q := by
  unfold pX11_answers
  obtain ⟨s1, s2, hD, hW, hK, s5, s6, s7⟩ := id hS
  have hkn := hD.2.1
  have hdn := hD.1
  refine mstart h (fun N hN k0 h0 => ?_)
  obtain ⟨i1, i2, i3, i4, i5, hC, hw, hq, hz, hn⟩ := id hN
  refine manswers hC hq hD hK (lo := none) hn lo0 (fun M' kk hr => ?_)
  show Q (M'.1 1240 0 0) M'
  rw [hr.1]
  exact k.ok (k0.tr (kk.wk mAR)) (hN.v kk mAS) ((kk.g rfl 0).trans h0)
theorem m_answer {S : St} {M : Mem} (h : MI S M) (hS : SW S) {Q : Int32 → Mem → Prop} (x y : Int32) (k : ME (oAnswer S x y) 2 M Q) : pX11_answer M x y Q := by
  unfold pX11_answer
  obtain ⟨s1, s2, hD, hW, hK, s5, s6, s7⟩ := id hS
  have hkn := hD.2.1
  have hdn := hD.1
  refine mstart h (fun N hN k0 h0 => ?_)
  obtain ⟨i1, i2, i3, i4, i5, hC, hw, hq, hz, hn⟩ := id hN
  have hle : rN (tD S) (tK S) none ≤ (tD S).length := rk_le _ _ _ _
  unfold oAnswer at k
  refine manswers hC hq hD hK (lo := none) hn lo0 (fun N1 kk hr => ?_)
  have hN1 := hN.v kk mAS
  have k01 := k0.tr (kk.wk mAR)
  have h01 : N1.1 1200 0 0 = nI 0 := (kk.g rfl 0).trans h0
  refine minN (n := rN (tD S) (tK S) none) (by rw [hr.1]; rfl) (by omega) (fun n n2 e en => ?_) (fun en => ?_)
  · rw [en] at k
    subst e
    first | refine s1a ?_ | refine s1b ?_
    refine mbad0 h01 ?_
    first | refine s0a ?_ | refine s0b ?_
    have ha := hr.2 n n2
    refine minR (lo := 0) (m := 1) rfl rfl (by omega) (by omega) (fun j _ hj e ej => ?_) (fun ej => ?_)
    · rw [ej] at k
      subst e
      first | refine s1a ?_ | refine s1b ?_
      refine mbad0 h01 ?_
      first | refine s0a ?_ | refine s0b ?_
      have hq2 := k.ok k01 hN1 h01
      rcases (show j = 0 ∨ j = 1 by omega) with rfl | rfl
      · refine s0a ⟨(vpI (by omega)).mpr (by omega), ?_⟩
        rw [tnI (by omega), ha.1]; exact hq2
      · refine s1a ⟨(vpI (by omega)).mpr (by omega), ?_⟩
        rw [tnI (by omega), ha.2]; exact hq2
    · rw [ej] at k
      first | refine s0a ?_ | refine s0b ?_
      refine mbadA rfl (Or.inr rfl) hN1 h01 k01 k (fun M' hb => ?_)
      first | refine s1a ?_ | refine s1b ?_
      exact hb _
  · rw [en] at k
    first | refine s0a ?_ | refine s0b ?_
    refine mbadN hN1 h01 k01 k (fun M' hb => ?_)
    first | refine s1a ?_ | refine s1b ?_
    exact hb _
theorem m_place {S : St} {M : Mem} (h : MI S M) (hS : SW S) {Q : Int32 → Mem → Prop} (x : Int32) (k : ME (oPlace S x) 2 M Q) : pX11_place M x Q := by
  unfold pX11_place
  obtain ⟨s1, s2, hD, hW, hK, s5, s6, s7⟩ := id hS
  have hkn := hD.2.1
  have hdn := hD.1
  refine mstart h (fun N hN k0 h0 => ?_)
  obtain ⟨i1, i2, i3, i4, i5, hC, hw, hq, hz, hn⟩ := id hN
  have hle : rN (tD S) (tK S) none ≤ (tD S).length := rk_le _ _ _ _
  unfold oPlace at k
  refine misDoc hN hS (fun d d1 d2 e ed => ?_) (fun ed => ?_)
  · rw [ed] at k
    dsimp only at k
    subst e
    first | refine s1a ?_ | refine s1b ?_
    refine mbad0 h0 ?_
    first | refine s0a ?_ | refine s0b ?_
    refine manswers hC hq hD hK (lo := none) hn lo0 (fun N1 kk hr => ?_)
    have hq2 := k.ok (k0.tr (kk.wk mAR)) (hN.v kk mAS) ((kk.g rfl 0).trans h0)
    have hb : ∀ n, n < rN (tD S) (tK S) none → (rA (tD S) (tK S) none n).1 < 64 := fun n hn => by have := (rk_b none hD hK (tD S).length n hn).1; unfold rA; omega
    refine lp_up (fun n s => s = (N1, nI n) ∧ ∀ j, 0 ≤ j → j < n → ((rA (tD S) (tK S) none j).1 == d) = false) (Nat.zero_le (rN (tD S) (tK S) none)) ⟨rfl, fun j _ hj => absurd hj (Nat.not_lt_zero _)⟩ ?_ ?_
    · rintro n s L - n2 ⟨rfl, hj⟩ hL
      have ha := (hr.2 n n2).1
      have hb2 := hb n n2
      unfold bX11_place_35
      by_cases e : (rA (tD S) (tK S) none n).1 = d
      · have : plcN (rN (tD S) (tK S) none) (rA (tD S) (tK S) none) d = n := ffn_at (Nat.zero_le _) (by omega) hj (Or.inr (beq_iff_eq.mpr e))
        unfold plcI at hq2
        rw [this, if_neg (by omega)] at hq2
        try simp (disch := omega) only [li, nO_n, adI, mlI, tnI, vpI, ltI, leI, eqI, forall_eq, leT, leF, ltT, ltF, eqT, eqF, true_and, and_true, false_implies, true_implies, forall_const, not_true_eq_false, not_false_eq_true, implies_true, hr.1, ha]
        exact hq2
      · try simp (disch := omega) only [li, nO_n, adI, mlI, tnI, vpI, ltI, leI, eqI, forall_eq, leT, leF, ltT, ltF, eqT, eqF, true_and, and_true, false_implies, true_implies, forall_const, not_true_eq_false, not_false_eq_true, implies_true, hr.1, ha]
        refine hL _ ⟨rfl, fun j j0 j2 => ?_⟩
        by_cases ej : j = n
        · rw [ej]; exact beq_eq_false_iff_ne.mpr e
        · exact hj j j0 (by omega)
    · rintro s L ⟨rfl, hj⟩
      have : plcN (rN (tD S) (tK S) none) (rA (tD S) (tK S) none) d = rN (tD S) (tK S) none := ffn_at (Nat.zero_le _) (Nat.le_refl _) hj (Or.inl rfl)
      unfold plcI at hq2
      rw [this, if_pos rfl] at hq2
      unfold bX11_place_35
      try simp (disch := omega) only [li, nO_n, adI, mlI, tnI, vpI, ltI, leI, eqI, forall_eq, leT, leF, ltT, ltF, eqT, eqF, true_and, and_true, false_implies, true_implies, forall_const, not_true_eq_false, not_false_eq_true, implies_true, hr.1]
      exact hq2
  · rw [ed] at k
    dsimp only at k
    first | refine s0a ?_ | refine s0b ?_
    refine mbadN hN h0 k0 k (fun M' hb => ?_)
    first | refine s1a ?_ | refine s1b ?_
    exact hb _
theorem m_points {S : St} {M : Mem} (h : MI S M) (hS : SW S) {Q : Int32 → Mem → Prop} (x y : Int32) (k : ME (oPoints S x y) 2 M Q) : pX11_points M x y Q := by
  unfold pX11_points
  obtain ⟨s1, s2, hD, hW, hK, s5, s6, s7⟩ := id hS
  have hkn := hD.2.1
  have hdn := hD.1
  refine mstart h (fun N hN k0 h0 => ?_)
  obtain ⟨i1, i2, i3, i4, i5, hC, hw, hq, hz, hn⟩ := id hN
  have hsn := hK.1
  unfold oPoints at k
  refine misDoc hN hS (fun d d1 d2 e ed => ?_) (fun ed => ?_)
  · rw [ed] at k
    dsimp only at k
    subst e
    first | refine s1a ?_ | refine s1b ?_
    refine mbad0 h0 ?_
    first | refine s0a ?_ | refine s0b ?_
    refine minN (n := sN (tK S)) (by rw [hq.n]; rfl) (by omega) (fun i i2 e ei => ?_) (fun ei => ?_)
    · rw [ei] at k
      subst e
      first | refine s1a ?_ | refine s1b ?_
      exact mpts hC hq hD hK (lo := none) hn lo0 d1 i2 (fun M' kk => k.ok (k0.tr (kk.wk mLR)) (hN.v kk mLS) ((kk.g rfl 0).trans h0))
    · rw [ei] at k
      first | refine s0a ?_ | refine s0b ?_
      exact k.ok k0 hN h0
  · rw [ed] at k
    dsimp only at k
    first | refine s0a ?_ | refine s0b ?_
    refine mbadN hN h0 k0 k (fun M' hb => ?_)
    first | refine s1a ?_ | refine s1b ?_
    exact hb _
theorem m_phrase {S : St} {M : Mem} (h : MI S M) (hS : SW S) {Q : Int32 → Mem → Prop} (x y : Int32) (k : ME (oPhrase S x y) 2 M Q) : pX11_phrase M x y Q := by
  unfold pX11_phrase
  obtain ⟨s1, s2, hD, hW, hK, s5, s6, s7⟩ := id hS
  have hkn := hD.2.1
  have hdn := hD.1
  refine mstart h (fun N hN k0 h0 => ?_)
  obtain ⟨i1, i2, i3, i4, i5, hC, hw, hq, hz, hn⟩ := id hN
  have hfn := hK.2.2.2.1
  unfold oPhrase at k
  refine misDoc hN hS (fun d d1 d2 e ed => ?_) (fun ed => ?_)
  · rw [ed] at k
    dsimp only at k
    subst e
    first | refine s1a ?_ | refine s1b ?_
    refine mbad0 h0 ?_
    first | refine s0a ?_ | refine s0b ?_
    refine minN (n := fN (tK S)) (by rw [hq.fn]; rfl) (by omega) (fun i i2 e ei => ?_) (fun ei => ?_)
    · rw [ei] at k
      subst e
      first | refine s1a ?_ | refine s1b ?_
      exact mphN hC hq hD hK (lo := none) hn lo0 d1 i2 (k.ok k0 hN h0)
    · rw [ei] at k
      first | refine s0a ?_ | refine s0b ?_
      exact k.ok k0 hN h0
  · rw [ed] at k
    dsimp only at k
    first | refine s0a ?_ | refine s0b ?_
    refine mbadN hN h0 k0 k (fun M' hb => ?_)
    first | refine s1a ?_ | refine s1b ?_
    exact hb _
