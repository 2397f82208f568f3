/-! PURE: what the class's hunt tells -/
def opn (z : Cs) (n : Nat) : Nat := smF (fun i => cN (z i)) n
def wrk (z : Cs) (n : Nat) : Nat := smF (fun i => cK (z i)) n
def spr1 (D : Dc) (K : Qc) (so : Nat) (z : Cs) (i n : Nat) : Nat := ctF (fun b => cO (z i) b == 0) n
def spr (D : Dc) (K : Qc) (so : Nat) (z : Cs) (n : Nat) : Nat := smF (fun i => spr1 D K so z i (nB D (sW K i) so)) n
theorem callOpened {D : Dc} {K : Qc} {kn so m : Nat} {g : Ge} {M : Mem} (h : HW D K so m g M) (hg : GI D K so m g) (hD : DW D kn) (hK : QW K kn) (h2 : 2 ≤ so) (h8 : so ≤ 8) {Q : Int32 → Mem → Prop} (hQ : Q (nI (opn g.1 (sN K))) M) : pX2_allOpened M Q := by
  have hn := hK.1
  unfold pX2_allOpened
  refine lp_up (fun i s => s = (M, nI (opn g.1 i), nI i)) (Nat.zero_le (sN K)) rfl ?_ ?_
  · rintro i s L - hi rfl hL
    have e1 := (h.2.2.1 i hi).2.2.2.2.2.1
    unfold bX2_allOpened_4
    try simp (disch := omega) only [li, nO_n, adI, mlI, tnI, vpI, ltI, leI, eqI, forall_eq, leT, leF, ltT, ltF, eqT, eqF, true_and, and_true, false_implies, true_implies, forall_const, not_true_eq_false, not_false_eq_true, implies_true, h.2.1.n, e1]
    exact hL _ rfl
  · rintro s L rfl
    unfold bX2_allOpened_4
    try simp (disch := omega) only [li, nO_n, adI, mlI, tnI, vpI, ltI, leI, eqI, forall_eq, leT, leF, ltT, ltF, eqT, eqF, true_and, and_true, false_implies, true_implies, forall_const, not_true_eq_false, not_false_eq_true, implies_true, h.2.1.n]
    exact hQ
theorem callWork {D : Dc} {K : Qc} {kn so m : Nat} {g : Ge} {M : Mem} (h : HW D K so m g M) (hg : GI D K so m g) (hD : DW D kn) (hK : QW K kn) (h2 : 2 ≤ so) (h8 : so ≤ 8) {Q : Int32 → Mem → Prop} (hQ : Q (nI (wrk g.1 (sN K))) M) : pX2_allWork M Q := by
  have hn := hK.1
  unfold pX2_allWork
  refine lp_up (fun i s => s = (M, nI (wrk g.1 i), nI i)) (Nat.zero_le (sN K)) rfl ?_ ?_
  · rintro i s L - hi rfl hL
    have e1 := (h.2.2.1 i hi).2.2.2.2.2.2.1
    unfold bX2_allWork_4
    try simp (disch := omega) only [li, nO_n, adI, mlI, tnI, vpI, ltI, leI, eqI, forall_eq, leT, leF, ltT, ltF, eqT, eqF, true_and, and_true, false_implies, true_implies, forall_const, not_true_eq_false, not_false_eq_true, implies_true, h.2.1.n, e1]
    exact hL _ rfl
  · rintro s L rfl
    unfold bX2_allWork_4
    try simp (disch := omega) only [li, nO_n, adI, mlI, tnI, vpI, ltI, leI, eqI, forall_eq, leT, leF, ltT, ltF, eqT, eqF, true_and, and_true, false_implies, true_implies, forall_const, not_true_eq_false, not_false_eq_true, implies_true, h.2.1.n]
    exact hQ
theorem cspared {D : Dc} {K : Qc} {kn so m : Nat} {g : Ge} {M : Mem} (h : HW D K so m g M) (hg : GI D K so m g) (hD : DW D kn) (hK : QW K kn) (h2 : 2 ≤ so) (h8 : so ≤ 8) {Q : Int32 → Mem → Prop} (hQ : Q (nI (spr D K so g.1 (sN K))) M) : pX2_spared M Q := by
  have hn := hK.1
  unfold pX2_spared
  refine lp_up (fun i s => s = (M, nI (spr D K so g.1 i), nI i)) (Nat.zero_le (sN K)) rfl ?_ ?_
  · rintro i s L - hi rfl hL
    have hb : nB D (sW K i) so ≤ 32 := bkN_le h2 (by have := pN_le D (sW K i); have := hD.1; omega)
    have e1 := (h.2.2.1 i hi).1.2.2.2.1
    unfold bX2_spared_4
    try simp (disch := omega) only [li, nO_n, adI, mlI, tnI, vpI, ltI, leI, eqI, forall_eq, leT, leF, ltT, ltF, eqT, eqF, true_and, and_true, false_implies, true_implies, forall_const, not_true_eq_false, not_false_eq_true, implies_true, h.2.1.n]
    refine lp_up (fun b s => s = (M, nI (spr D K so g.1 i + spr1 D K so g.1 i b), nI i, nI b)) (Nat.zero_le (nB D (sW K i) so)) rfl ?_ ?_
    · rintro b s L2 - hb2 rfl hL2
      have e2 := (h.2.2.1 i hi).2.2.2.2.2.2.2 b hb2
      have o1 := (hg.1 i hi).2.2.2.2.2.2.1 b
      unfold bX2_spared_17 bX2_spared_47
      by_cases e : cO (g.1 i) b = 0
      · have es : spr1 D K so g.1 i (b + 1) = spr1 D K so g.1 i b + 1 := by unfold spr1; rw [ctF, beq_iff_eq.mpr e]; rfl
        try simp (disch := omega) only [li, nO_n, adI, mlI, tnI, vpI, ltI, leI, eqI, forall_eq, leT, leF, ltT, ltF, eqT, eqF, true_and, and_true, false_implies, true_implies, forall_const, not_true_eq_false, not_false_eq_true, implies_true, e1, e2]
        exact hL2 _ (by rw [es, ← Nat.add_assoc])
      · have es : spr1 D K so g.1 i (b + 1) = spr1 D K so g.1 i b := by unfold spr1; rw [ctF, beq_eq_false_iff_ne.mpr e]; rfl
        try simp (disch := omega) only [li, nO_n, adI, mlI, tnI, vpI, ltI, leI, eqI, forall_eq, leT, leF, ltT, ltF, eqT, eqF, true_and, and_true, false_implies, true_implies, forall_const, not_true_eq_false, not_false_eq_true, implies_true, e1, e2]
        exact hL2 _ (by rw [es])
    · rintro s L2 rfl
      unfold bX2_spared_17
      try simp (disch := omega) only [li, nO_n, adI, mlI, tnI, vpI, ltI, leI, eqI, forall_eq, leT, leF, ltT, ltF, eqT, eqF, true_and, and_true, false_implies, true_implies, forall_const, not_true_eq_false, not_false_eq_true, implies_true, e1]
      exact hL _ rfl
  · rintro s L rfl
    unfold bX2_spared_4
    try simp (disch := omega) only [li, nO_n, adI, mlI, tnI, vpI, ltI, leI, eqI, forall_eq, leT, leF, ltT, ltF, eqT, eqF, true_and, and_true, false_implies, true_implies, forall_const, not_true_eq_false, not_false_eq_true, implies_true, h.2.1.n]
    exact hQ
