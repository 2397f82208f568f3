/-! PURE: the class's cursor begins -/
theorem top_bl {D : Dc} {w so : Nat} (h2 : 2 ≤ so) : mxF (TOPb D w so) (nB D w so) = topR D w 0 (pN D w) := by
  refine Nat.le_antisymm (mxF_le fun b hb => ?_) (mxF_le fun k hk => ?_)
  · have h := (bk_div h2).mp hb
    obtain ⟨g1, g2, g3⟩ := bkM_pos h2 h
    refine mxF_le fun j hj => ?_
    have := le_mxF (f := fun j => gain D w (pK D w (0 + j))) (n := pN D w) (k := b * so + j) (by omega)
    rw [Nat.zero_add] at this
    exact this
  · have hd : k / so * so ≤ k := Nat.div_mul_le_self _ _
    have hm : k < k / so * so + so := by
      have := Nat.lt_div_mul_add (a := k) (show 0 < so by omega)
      omega
    have hb : k / so < nB D w so := (bk_div h2).mpr (by omega)
    obtain ⟨g1, g2, g3⟩ := bkM_pos h2 (show k / so * so < pN D w by omega)
    have hj : k - k / so * so < bkM D w so (k / so) := by unfold bkM; omega
    have h1 := le_mxF (f := fun j => gain D w (pK D w (k / so * so + j))) hj
    have h3 := le_mxF (f := TOPb D w so) hb
    have e : k / so * so + (k - k / so * so) = 0 + k := by omega
    refine Nat.le_trans ?_ h3
    rw [← e]
    exact h1
def c0 (D : Dc) (w so : Nat) : Cu := (0, (if 0 < nB D w so then FST D w so 0 else 0), 0, (fun _ => 0), 0, 0)
theorem IC.c0 {D : Dc} {kn w so : Nat} (hD : DW D kn) (h2 : 2 ≤ so) : IC D w so (c0 D w so) := by
  refine ⟨Nat.zero_le _, fun h => ?_, ?_, Nat.zero_le _, Nat.zero_le _, fun _ _ => rfl, fun _ => Nat.zero_le _, Nat.le_refl _, by show 0 ≤ 0 * so; omega⟩
  · have h : 0 < nB D w so := h
    have := FL_le hD h2 h
    show (if 0 < nB D w so then FST D w so 0 else 0) ≤ LST D w so 0
    rw [if_pos h]; exact this.1
  · show (if 0 < nB D w so then FST D w so 0 else 0) ≤ 63
    by_cases h : 0 < nB D w so
    · rw [if_pos h]; exact (FL_le hD h2 h).2.2.2
    · rw [if_neg h]; omega
def pCs (i c j : Nat) : Bool := decide (¬ ((j = i ∧ 100 ≤ c ∧ c ≤ 116) ∨ (600 ≤ c ∧ c < 610)))
theorem pCs_0 {i c j : Nat} (h : (j ≠ i ∨ c < 100 ∨ 116 < c) ∧ (c < 600 ∨ 610 ≤ c)) : pCs i c j = true := by unfold pCs; simp; omega
theorem pCs_1 {i c : Nat} (h : 100 ≤ c ∧ c ≤ 116) : pCs i c i = false := by unfold pCs; simp; omega
theorem pCs_6 {i c j : Nat} (h : pCs i c j = true) : P6 c j = true := by unfold pCs at h; unfold P6; simp at h ⊢; omega
theorem CD.cs {D : Dc} {i : Nat} {M M' : Mem} (h : CD D M) (k : Kp (pCs i) M M') : CD D M' := h.kp (k.wk fun c j hc => pCs_0 (by unfold pCD at hc; simp at hc; omega))
theorem cstart {D : Dc} {kn w so bo i : Nat} {M : Mem} (hc : CD D M) (hD : DW D kn) (h2 : 2 ≤ so) (h8 : so ≤ 8) (hw : w < 255) (hbo : bo ≤ 60) {Q : Mem → Prop} (hQ : ∀ M', Kp (pCs i) M M' → CS D w so (bo * rare D w) i M' → CV D w so (c0 D w so) i M' → Q M') : pX0_start i M (nI w) (nI bo) (nI so) Q := by
  have hn : nB D w so ≤ 32 := bkN_le h2 (by have := pN_le D w; have := hD.1; omega)
  have hr := rare_le D w
  have hl := hD.1
  unfold pX0_start
  simp only [forall_eq]
  have k2 : Kp (pCs i) M (up1 (up1 M 106 i 0 (nI w)) 107 i 0 (nI so)) := (Kp.rf.u1 (pCs_1 (by omega))).u1 (pCs_1 (by omega))
  have a1 : (up1 (up1 M 106 i 0 (nI w)) 107 i 0 (nI so)).1 106 i 0 = nI w := (up1_ne (by omega)).trans up1_eq
  have a2 : (up1 (up1 M 106 i 0 (nI w)) 107 i 0 (nI so)).1 107 i 0 = nI so := up1_eq
  generalize up1 (up1 M 106 i 0 (nI w)) 107 i 0 (nI so) = M2 at k2 a1 a2
  rw [a1]
  refine crareOf (hc.cs k2) hD hw ?_
  rw [mlI]
  have k3 : Kp (pCs i) M (up1 M2 108 i 0 (nI (bo * rare D w))) := k2.u1 (pCs_1 (by omega))
  have b1 : (up1 M2 108 i 0 (nI (bo * rare D w))).1 106 i 0 = nI w := (up1_ne (by omega)).trans a1
  have b2 : (up1 M2 108 i 0 (nI (bo * rare D w))).1 107 i 0 = nI so := (up1_ne (by omega)).trans a2
  have b3 : (up1 M2 108 i 0 (nI (bo * rare D w))).1 108 i 0 = nI (bo * rare D w) := up1_eq
  generalize up1 M2 108 i 0 (nI (bo * rare D w)) = M3 at k3 b1 b2 b3
  rw [b1, b2]
  refine cblocksOf (hc.cs k3) hD hw h2 h8 ?_
  have k4 : Kp (pCs i) M (up1 M3 109 i 0 (nI (bkN (pN D w) so))) := k3.u1 (pCs_1 (by omega))
  have d1 : (up1 M3 109 i 0 (nI (bkN (pN D w) so))).1 106 i 0 = nI w := (up1_ne (by omega)).trans b1
  have d2 : (up1 M3 109 i 0 (nI (bkN (pN D w) so))).1 107 i 0 = nI so := (up1_ne (by omega)).trans b2
  have d3 : (up1 M3 109 i 0 (nI (bkN (pN D w) so))).1 108 i 0 = nI (bo * rare D w) := (up1_ne (by omega)).trans b3
  have d4 : (up1 M3 109 i 0 (nI (bkN (pN D w) so))).1 109 i 0 = nI (nB D w so) := up1_eq
  generalize up1 M3 109 i 0 (nI (bkN (pN D w) so)) = M4 at k4 d1 d2 d3 d4
  refine lp_up (fun n s => s.2.1 = nI (mxF (TOPb D w so) n) ∧ s.2.2 = nI n ∧ Kp (pCs i) M s.1 ∧ (s.1.1 106 i 0 = nI w ∧ s.1.1 107 i 0 = nI so ∧ s.1.1 108 i 0 = nI (bo * rare D w) ∧ s.1.1 109 i 0 = nI (nB D w so)) ∧ ∀ b, b < n → s.1.1 102 i b = nI (FST D w so b) ∧ s.1.1 103 i b = nI (LST D w so b) ∧ s.1.1 104 i b = nI (TOPb D w so b) ∧ s.1.1 105 i b = nI 0) (Nat.zero_le (nB D w so)) ⟨rfl, rfl, k4, ⟨d1, d2, d3, d4⟩, fun b hb => absurd hb (Nat.not_lt_zero _)⟩ ?_ ?_
  · rintro n ⟨m, y2, y3⟩ L - hlt ⟨rfl, rfl, k5, ⟨e1, e2, e3, e4⟩, e5⟩ hL
    have k5 : Kp (pCs i) M m := k5
    have e1 : m.1 106 i 0 = nI w := e1
    have e2 : m.1 107 i 0 = nI so := e2
    have e3 : m.1 108 i 0 = nI (bo * rare D w) := e3
    have e4 : m.1 109 i 0 = nI (nB D w so) := e4
    have hb := (bk_div h2).mp hlt
    have ht : TOPb D w so n ≤ 1000 := topR_le D w _ _
    have hmx : mxF (TOPb D w so) n ≤ 1000 := mxF_le fun b _ => topR_le D w _ _
    unfold bX0_start_52
    try simp (disch := omega) only [li, nO_n, adI, mlI, tnI, vpI, ltI, leI, eqI, forall_eq, leT, leF, ltT, ltF, eqT, eqF, true_and, and_true, false_implies, true_implies, forall_const, not_true_eq_false, not_false_eq_true, implies_true, e1, e2, e4]
    refine cmeasure (hc.cs k5) hD hw h2 h8 hb (fun m2 k6 ms => ?_)
    obtain ⟨s1, s2, -, s4, -⟩ := ms
    have g : ∀ c, c < 600 → ∀ k, m2.1 c i k = m.1 c i k := fun c hcc k => k6.g (by unfold P6; simp; omega) k
    have hn32 : n < 32 := by omega
    try simp (disch := omega) only [li, nO_n, adI, mlI, tnI, vpI, ltI, leI, eqI, forall_eq, leT, leF, ltT, ltF, eqT, eqF, true_and, and_true, false_implies, true_implies, forall_const, not_true_eq_false, not_false_eq_true, implies_true, s1]
    have x1 : (up1 m2 102 i n (nI (pK D w (n * so)))).1 602 0 0 = nI (pK D w (n * so + bkM D w so n - 1)) := (up1_ne (by omega)).trans s2
    have x2 : ∀ v, (up1 (up1 m2 102 i n (nI (pK D w (n * so)))) 103 i n v).1 604 0 0 = nI (topR D w (n * so) (bkM D w so n)) := fun v => ((up1_ne (by omega)).trans (up1_ne (by omega))).trans s4
    have x3 : ∀ u v z, (up1 (up1 (up1 (up1 m2 102 i n (nI (pK D w (n * so)))) 103 i n v) 104 i n u) 105 i n z).1 604 0 0 = nI (topR D w (n * so) (bkM D w so n)) := fun u v z => ((up1_ne (by omega)).trans (up1_ne (by omega))).trans (x2 v)
    have em : imax (nI (mxF (TOPb D w so) n)) (nI (topR D w (n * so) (bkM D w so n))) = nI (mxF (TOPb D w so) (n + 1)) := mxI (by omega) (by have : topR D w (n * so) (bkM D w so n) ≤ 1000 := topR_le D w _ _; omega)
    try simp (disch := omega) only [li, nO_n, adI, mlI, tnI, vpI, ltI, leI, eqI, forall_eq, leT, leF, ltT, ltF, eqT, eqF, true_and, and_true, false_implies, true_implies, forall_const, not_true_eq_false, not_false_eq_true, implies_true, x1, x2, x3, em]
    have k7 : Kp (pCs i) M m2 := k5.tr (k6.wk fun c j hh => pCs_6 hh)
    refine hL _ ⟨rfl, rfl, (((k7.u1 (pCs_1 (by omega))).u1 (pCs_1 (by omega))).u1 (pCs_1 (by omega))).u1 (pCs_1 (by omega)), ⟨?_, ?_, ?_, ?_⟩, fun b hb2 => ?_⟩
    · exact ((((up1_ne (by omega)).trans (up1_ne (by omega))).trans ((up1_ne (by omega)).trans (up1_ne (by omega)))).trans (g 106 (by omega) 0)).trans e1
    · exact ((((up1_ne (by omega)).trans (up1_ne (by omega))).trans ((up1_ne (by omega)).trans (up1_ne (by omega)))).trans (g 107 (by omega) 0)).trans e2
    · exact ((((up1_ne (by omega)).trans (up1_ne (by omega))).trans ((up1_ne (by omega)).trans (up1_ne (by omega)))).trans (g 108 (by omega) 0)).trans e3
    · exact ((((up1_ne (by omega)).trans (up1_ne (by omega))).trans ((up1_ne (by omega)).trans (up1_ne (by omega)))).trans (g 109 (by omega) 0)).trans e4
    · by_cases eb : b = n
      · subst eb
        refine ⟨?_, ?_, ?_, ?_⟩
        · exact ((up1_ne (by omega)).trans (up1_ne (by omega))).trans ((up1_ne (by omega)).trans up1_eq)
        · exact ((up1_ne (by omega)).trans (up1_ne (by omega))).trans up1_eq
        · exact (up1_ne (by omega)).trans up1_eq
        · exact up1_eq
      · obtain ⟨z1, z2, z3, z4⟩ := e5 b (by omega)
        refine ⟨?_, ?_, ?_, ?_⟩
        · exact ((((up1_ne (by omega)).trans (up1_ne (by omega))).trans ((up1_ne (by omega)).trans (up1_ne (by omega)))).trans (g 102 (by omega) b)).trans z1
        · exact ((((up1_ne (by omega)).trans (up1_ne (by omega))).trans ((up1_ne (by omega)).trans (up1_ne (by omega)))).trans (g 103 (by omega) b)).trans z2
        · exact ((((up1_ne (by omega)).trans (up1_ne (by omega))).trans ((up1_ne (by omega)).trans (up1_ne (by omega)))).trans (g 104 (by omega) b)).trans z3
        · exact ((((up1_ne (by omega)).trans (up1_ne (by omega))).trans ((up1_ne (by omega)).trans (up1_ne (by omega)))).trans (g 105 (by omega) b)).trans z4
  · rintro ⟨m, y2, y3⟩ L ⟨rfl, rfl, k5, ⟨e1, e2, e3, e4⟩, e5⟩
    have k5 : Kp (pCs i) M m := k5
    have e1 : m.1 106 i 0 = nI w := e1
    have e2 : m.1 107 i 0 = nI so := e2
    have e3 : m.1 108 i 0 = nI (bo * rare D w) := e3
    have e4 : m.1 109 i 0 = nI (nB D w so) := e4
    have e5 : ∀ b, b < nB D w so → m.1 102 i b = nI (FST D w so b) ∧ m.1 103 i b = nI (LST D w so b) ∧ m.1 104 i b = nI (TOPb D w so b) ∧ m.1 105 i b = nI 0 := e5
    have fin : ∀ m' : Mem, Kp (pCs i) M m' → (∀ c k, c < 110 → m'.1 c i k = m.1 c i k) → m'.1 110 i 0 = nI (bo * rare D w * mxF (TOPb D w so) (nB D w so)) → m'.1 111 i 0 = nI 0 → m'.1 113 i 0 = nI (if 0 < nB D w so then 0 else 1) → m'.1 112 i 0 = nI (if 0 < nB D w so then FST D w so 0 else 0) → bX0_start_201 i (nI w) (nI bo) (nI so) Q m' := by
      intro m' km hm h110 h111 h113 h112
      unfold bX0_start_201
      try simp (disch := omega) only [li, nO_n, adI, mlI, tnI, vpI, ltI, leI, eqI, forall_eq, leT, leF, ltT, ltF, eqT, eqF, true_and, and_true, false_implies, true_implies, forall_const, not_true_eq_false, not_false_eq_true, implies_true]
      refine hQ _ (((km.u1 (pCs_1 (by omega))).u1 (pCs_1 (by omega))).u1 (pCs_1 (by omega))) ⟨?_, ?_, ?_, ?_, ?_, fun b hb => ⟨?_, ?_, ?_⟩⟩ ⟨?_, ?_, ?_, ?_, ?_, ?_, fun b hb => ?_⟩
      · exact ((up1_ne (by omega)).trans ((up1_ne (by omega)).trans (up1_ne (by omega)))).trans ((hm 106 0 (by omega)).trans e1)
      · exact ((up1_ne (by omega)).trans ((up1_ne (by omega)).trans (up1_ne (by omega)))).trans ((hm 107 0 (by omega)).trans e2)
      · exact ((up1_ne (by omega)).trans ((up1_ne (by omega)).trans (up1_ne (by omega)))).trans ((hm 108 0 (by omega)).trans e3)
      · exact ((up1_ne (by omega)).trans ((up1_ne (by omega)).trans (up1_ne (by omega)))).trans ((hm 109 0 (by omega)).trans e4)
      · exact ((up1_ne (by omega)).trans ((up1_ne (by omega)).trans (up1_ne (by omega)))).trans (h110.trans (by rw [top_bl h2]))
      · exact ((up1_ne (by omega)).trans ((up1_ne (by omega)).trans (up1_ne (by omega)))).trans ((hm 102 b (by omega)).trans (e5 b hb).1)
      · exact ((up1_ne (by omega)).trans ((up1_ne (by omega)).trans (up1_ne (by omega)))).trans ((hm 103 b (by omega)).trans (e5 b hb).2.1)
      · exact ((up1_ne (by omega)).trans ((up1_ne (by omega)).trans (up1_ne (by omega)))).trans ((hm 104 b (by omega)).trans (e5 b hb).2.2.1)
      · exact ((up1_ne (by omega)).trans ((up1_ne (by omega)).trans (up1_ne (by omega)))).trans h111
      · exact ((up1_ne (by omega)).trans ((up1_ne (by omega)).trans (up1_ne (by omega)))).trans h112
      · exact ((up1_ne (by omega)).trans ((up1_ne (by omega)).trans (up1_ne (by omega)))).trans h113
      · exact ((up1_ne (by omega)).trans (up1_ne (by omega))).trans up1_eq
      · exact (up1_ne (by omega)).trans up1_eq
      · exact up1_eq
      · exact ((up1_ne (by omega)).trans ((up1_ne (by omega)).trans (up1_ne (by omega)))).trans ((hm 105 b (by omega)).trans (e5 b hb).2.2.2)
    unfold bX0_start_52
    have y1 : ∀ u v, (up1 (up1 m 110 i 0 u) 111 i 0 v).1 109 i 0 = nI (nB D w so) := fun u v => ((up1_ne (by omega)).trans (up1_ne (by omega))).trans e4
    try simp (disch := omega) only [li, nO_n, adI, mlI, tnI, vpI, ltI, leI, eqI, forall_eq, leT, leF, ltT, ltF, eqT, eqF, true_and, and_true, false_implies, true_implies, forall_const, not_true_eq_false, not_false_eq_true, implies_true, e3, e4, y1, mlI]
    have ka : ∀ u v z, Kp (pCs i) M (up1 (up1 (up1 m 110 i 0 u) 111 i 0 v) 113 i 0 z) := fun u v z => ((k5.u1 (pCs_1 (by omega))).u1 (pCs_1 (by omega))).u1 (pCs_1 (by omega))
    by_cases e0 : nB D w so = 0
    · try simp (disch := omega) only [li, nO_n, adI, mlI, tnI, vpI, ltI, leI, eqI, forall_eq, leT, leF, ltT, ltF, eqT, eqF, true_and, and_true, false_implies, true_implies, forall_const, not_true_eq_false, not_false_eq_true, implies_true]
      unfold bX0_start_180
      have y3 : ∀ u v, (up1 (up1 (up1 m 110 i 0 u) 111 i 0 v) 113 i 0 (nI 1)).1 113 i 0 = nI 1 := fun u v => up1_eq
      try simp (disch := omega) only [li, nO_n, adI, mlI, tnI, vpI, ltI, leI, eqI, forall_eq, leT, leF, ltT, ltF, eqT, eqF, true_and, and_true, false_implies, true_implies, forall_const, not_true_eq_false, not_false_eq_true, implies_true, y3]
      refine fin _ ((ka _ _ _).u1 (pCs_1 (by omega))) (fun c k hcc => ?_) ?_ ?_ ?_ ?_
      · exact (((up1_ne (by omega)).trans (up1_ne (by omega))).trans ((up1_ne (by omega)).trans (up1_ne (by omega))))
      · exact ((up1_ne (by omega)).trans (up1_ne (by omega))).trans ((up1_ne (by omega)).trans up1_eq)
      · exact ((up1_ne (by omega)).trans (up1_ne (by omega))).trans up1_eq
      · rw [if_neg (by omega)]; exact (up1_ne (by omega)).trans up1_eq
      · rw [if_neg (by omega)]; exact up1_eq
    · try simp (disch := omega) only [li, nO_n, adI, mlI, tnI, vpI, ltI, leI, eqI, forall_eq, leT, leF, ltT, ltF, eqT, eqF, true_and, and_true, false_implies, true_implies, forall_const, not_true_eq_false, not_false_eq_true, implies_true]
      unfold bX0_start_180
      have y3 : ∀ u v, (up1 (up1 (up1 m 110 i 0 u) 111 i 0 v) 113 i 0 (nI 0)).1 113 i 0 = nI 0 := fun u v => up1_eq
      have y4 : ∀ u v, (up1 (up1 (up1 m 110 i 0 u) 111 i 0 v) 113 i 0 (nI 0)).1 102 i 0 = nI (FST D w so 0) := fun u v => (((up1_ne (by omega)).trans (up1_ne (by omega))).trans (up1_ne (by omega))).trans (e5 0 (by omega)).1
      try simp (disch := omega) only [li, nO_n, adI, mlI, tnI, vpI, ltI, leI, eqI, forall_eq, leT, leF, ltT, ltF, eqT, eqF, true_and, and_true, false_implies, true_implies, forall_const, not_true_eq_false, not_false_eq_true, implies_true, y3, y4]
      refine fin _ ((ka _ _ _).u1 (pCs_1 (by omega))) (fun c k hcc => ?_) ?_ ?_ ?_ ?_
      · exact (((up1_ne (by omega)).trans (up1_ne (by omega))).trans ((up1_ne (by omega)).trans (up1_ne (by omega))))
      · exact ((up1_ne (by omega)).trans (up1_ne (by omega))).trans ((up1_ne (by omega)).trans up1_eq)
      · exact ((up1_ne (by omega)).trans (up1_ne (by omega))).trans up1_eq
      · rw [if_pos (by omega)]; exact (up1_ne (by omega)).trans up1_eq
      · rw [if_pos (by omega)]; exact up1_eq
