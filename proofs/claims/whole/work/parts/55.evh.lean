/-! PURE: the class's hunt -/
def EH (D : Dc) (K : Qc) (so m : Nat) (g : Ge) (M : Mem) : Prop := (∀ i, i < sN K → CS D (sW K i) so (wei D K i) i M ∧ CV D (sW K i) so (g.1 i) i M) ∧ M.1 306 0 0 = nI m ∧ M.1 309 0 0 = nI g.2.1.1 ∧ AW 307 308 0 g.2.1.1 g.2.1.2 M ∧ M.1 310 0 0 = nI g.2.2.1 ∧ M.1 311 0 0 = nI g.2.2.2.1 ∧ M.1 312 0 0 = nI g.2.2.2.2.1 ∧ M.1 313 0 0 = nI g.2.2.2.2.2
def HW (D : Dc) (K : Qc) (so m : Nat) (g : Ge) (M : Mem) : Prop := CD D M ∧ CK K 0 M ∧ EH D K so m g M
def pHW (c j : Nat) : Bool := decide ((500 < c ∧ c < 513) ∨ (5500 < c ∧ c < 5511) ∨ (699 < c ∧ c < 712 ∧ j = 0) ∨ c = 5710 ∨ (100 ≤ c ∧ c ≤ 116) ∨ (306 ≤ c ∧ c ≤ 313 ∧ j = 0))
theorem pHW_C {c j : Nat} (h : pCD c j = true) : pHW c j = true := by unfold pCD at h; unfold pHW; simp at h ⊢; omega
theorem pHW_K {c j : Nat} (h : pCK c j = true) : pHW c j = true := by unfold pCK at h; unfold pHW; simp at h ⊢; omega
theorem pHW_e {c j : Nat} (h : (100 ≤ c ∧ c ≤ 116) ∨ (306 ≤ c ∧ c ≤ 313 ∧ j = 0)) : pHW c j = true := by unfold pHW; simp; omega
theorem CS.all {D : Dc} {w so wt i : Nat} {M M' : Mem} (h : CS D w so wt i M) (k : ∀ c, 100 ≤ c → c ≤ 116 → ∀ b, M'.1 c i b = M.1 c i b) : CS D w so wt i M' := by
  obtain ⟨a, b, c, d, e, f⟩ := h
  exact ⟨by rw [k _ (by omega) (by omega)]; exact a, by rw [k _ (by omega) (by omega)]; exact b, by rw [k _ (by omega) (by omega)]; exact c, by rw [k _ (by omega) (by omega)]; exact d, by rw [k _ (by omega) (by omega)]; exact e, fun x hx => by rw [k _ (by omega) (by omega), k _ (by omega) (by omega), k _ (by omega) (by omega)]; exact f x hx⟩
theorem CV.all {D : Dc} {w so i : Nat} {c : Cu} {M M' : Mem} (h : CV D w so c i M) (k : ∀ c, 100 ≤ c → c ≤ 116 → ∀ b, M'.1 c i b = M.1 c i b) : CV D w so c i M' := by
  obtain ⟨a, b, c, d, e, f, g⟩ := h
  exact ⟨by rw [k _ (by omega) (by omega)]; exact a, by rw [k _ (by omega) (by omega)]; exact b, by rw [k _ (by omega) (by omega)]; exact c, by rw [k _ (by omega) (by omega)]; exact d, by rw [k _ (by omega) (by omega)]; exact e, by rw [k _ (by omega) (by omega)]; exact f, fun x hx => by rw [k _ (by omega) (by omega)]; exact g x hx⟩
theorem HW.kp {D : Dc} {K : Qc} {so m : Nat} {g : Ge} {M M' : Mem} (h : HW D K so m g M) (k : Kp pHW M M') : HW D K so m g M' := by
  obtain ⟨h1, h2, a, b, c, d, e, f, i, j⟩ := h
  have ka : ∀ j c, 100 ≤ c → c ≤ 116 → ∀ b, M'.1 c j b = M.1 c j b := fun j c h3 h4 b => k.g (pHW_e (by omega)) b
  exact ⟨h1.kp (k.wk fun c j => pHW_C), h2.kp (k.wk fun c j => pHW_K), fun x hx => ⟨(a x hx).1.all (ka x), (a x hx).2.all (ka x)⟩, by rw [k.g (pHW_e (by omega))]; exact b, by rw [k.g (pHW_e (by omega))]; exact c, d.kp k (pHW_e (by omega)) (pHW_e (by omega)), by rw [k.g (pHW_e (by omega))]; exact e, by rw [k.g (pHW_e (by omega))]; exact f, by rw [k.g (pHW_e (by omega))]; exact i, by rw [k.g (pHW_e (by omega))]; exact j⟩
def LW (t : Nat) (a : Nat → Nat) (M : Mem) : Prop := M.1 304 0 0 = nI t ∧ ∀ k, k < t → M.1 303 0 k = nI (a k)
def pLn (c j : Nat) : Bool := decide (¬ (j = 0 ∧ (c = 303 ∨ c = 304)))
def pL3 (c j : Nat) : Bool := decide (¬ (j = 0 ∧ c = 303))
theorem pLn_H {c j : Nat} (h : pHW c j = true) : pLn c j = true := by unfold pHW at h; unfold pLn; simp at h ⊢; omega
theorem pL3_n {c j : Nat} (h : pLn c j = true) : pL3 c j = true := by unfold pLn at h; unfold pL3; simp at h ⊢; omega
theorem HW.w {D : Dc} {K : Qc} {kn so m : Nat} {g : Ge} {M : Mem} (h : HW D K so m g M) (hg : GI D K so m g) (hD : DW D kn) (hK : QW K kn) (h2 : 2 ≤ so) (h8 : so ≤ 8) (hm : 1 ≤ m) (hm2 : m ≤ 10) {i : Nat} (hi : i < sN K) : sW K i < 255 ∧ i < 24 ∧ nB D (sW K i) so ≤ 32 := by
  have h1 := (hK.2.2.2.2.1 i hi).1
  have h3 := hD.2.1
  have h4 := hK.1
  exact ⟨by omega, by omega, bkN_le h2 (by have := pN_le D (sW K i); have := hD.1; omega)⟩
theorem clineUp {D : Dc} {K : Qc} {kn so m : Nat} {g : Ge} {M : Mem} (h : HW D K so m g M) (hg : GI D K so m g) (hD : DW D kn) (hK : QW K kn) (h2 : 2 ≤ so) (h8 : so ≤ 8) (hm : 1 ≤ m) (hm2 : m ≤ 10) {Q : Mem → Prop} (hQ : ∀ M', Kp pLn M M' → LW (lnT D K so g) (lnA D K so g) M' → Q M') : pX2_lineUp M Q := by
  have hn := hK.1
  unfold pX2_lineUp
  simp only [forall_eq]
  refine lp_up (fun i s => s.2 = nI i ∧ Kp pLn M s.1 ∧ LW (ln D K so g.1 i).1 (ln D K so g.1 i).2 s.1) (Nat.zero_le (sN K)) ⟨rfl, Kp.rf.u1 rfl, up1_eq, fun k hk => absurd hk (Nat.not_lt_zero _)⟩ ?_ ?_
  · rintro i ⟨m1, y⟩ L - hlt ⟨rfl, hk, hl⟩ hL
    have hk : Kp pLn M m1 := hk
    have hl : LW (ln D K so g.1 i).1 (ln D K so g.1 i).2 m1 := hl
    have hw := h.kp (hk.wk fun c j => pLn_H)
    obtain ⟨l1, l2, l3⟩ := ln_c D K so g.1 i
    obtain ⟨w1, w2, w3⟩ := HW.w h hg hD hK h2 h8 hm hm2 hlt
    have v := (hw.2.2.1 i hlt).2
    unfold bX2_lineUp_7 bX2_lineUp_107
    have v3 := v.2.2.1
    by_cases e : liv D K so g.1 i
    · have e9 : cB (g.1 i) < nB D (sW K i) so := e
      rw [if_pos e9] at v3
      have es : ln D K so g.1 (i + 1) = ((ln D K so g.1 i).1 + 1, insL (ln D K so g.1 i).2 i (ilp (fun k => cP (g.1 ((ln D K so g.1 i).2 k))) (cP (g.1 i)) (ln D K so g.1 i).1)) := by rw [ln, if_pos e]
      generalize (ln D K so g.1 i).1 = t at *
      generalize (ln D K so g.1 i).2 = a at *
      have hpi := (hg.1 i hlt).2.2.1
      try simp (disch := omega) only [li, nO_n, adI, mlI, tnI, vpI, ltI, leI, eqI, forall_eq, leT, leF, ltT, ltF, eqT, eqF, true_and, and_true, false_implies, true_implies, forall_const, not_true_eq_false, not_false_eq_true, implies_true, hw.2.1.n, v3, hl.1]
      refine insL_loop (fun m y => (m, nI i, y)) (P := pL3) (c := 303) (i := 0) (v := i) (s := cP (g.1 i)) (f := fun k => cP (g.1 (a k))) hl.2 rfl (fun M' y L2 hy k3 e1 e2 hL2 => ?_) (fun M' y L2 hy k3 hz hA => ?_)
      · have hay := (l2 y hy).1
        have hpy := (hg.1 (a y) (by omega)).2.2.1
        have x1 : M'.1 112 (a y) 0 = nI (cP (g.1 (a y))) := (k3.g (by unfold pL3; simp) 0).trans (hw.2.2.1 (a y) (by omega)).2.2.1
        have x2 : M'.1 112 i 0 = nI (cP (g.1 i)) := (k3.g (by unfold pL3; simp) 0).trans v.2.1
        have e2 : ¬ cP (g.1 (a y)) ≤ cP (g.1 i) := e2
        unfold bX2_lineUp_38
        try simp (disch := omega) only [li, nO_n, adI, mlI, tnI, vpI, ltI, leI, eqI, forall_eq, leT, leF, ltT, ltF, eqT, eqF, true_and, and_true, false_implies, true_implies, forall_const, not_true_eq_false, not_false_eq_true, implies_true, sbs, e1, x1, x2, nO_add]
        exact hL2
      · have fin : bX2_lineUp_90 Q L M' (nI i) (nI y) := by
          have x3 : ∀ v, (up1 M' 303 0 y v).1 304 0 0 = nI t := fun v => ((up1_ne (by omega)).trans (k3.g rfl 0)).trans hl.1
          unfold bX2_lineUp_90 bX2_lineUp_107
          try simp (disch := omega) only [li, nO_n, adI, mlI, tnI, vpI, ltI, leI, eqI, forall_eq, leT, leF, ltT, ltF, eqT, eqF, true_and, and_true, false_implies, true_implies, forall_const, not_true_eq_false, not_false_eq_true, implies_true, x3]
          refine hL _ ⟨rfl, ((hk.tr (k3.wk fun c j => pL3_n)).u1 rfl).u1 rfl, ?_⟩
          rw [es]
          exact ⟨up1_eq, fun k hk2 => (up1_ne (by omega)).trans (hA k hk2)⟩
        unfold bX2_lineUp_38
        cases y with
        | zero =>
          try simp (disch := omega) only [li, nO_n, adI, mlI, tnI, vpI, ltI, leI, eqI, forall_eq, leT, leF, ltT, ltF, eqT, eqF, true_and, and_true, false_implies, true_implies, forall_const, not_true_eq_false, not_false_eq_true, implies_true]
          exact fin
        | succ z =>
          obtain ⟨e1, e2⟩ := hz z rfl
          have haz := (l2 z (by omega)).1
          have hpz := (hg.1 (a z) (by omega)).2.2.1
          have x1 : M'.1 112 (a z) 0 = nI (cP (g.1 (a z))) := (k3.g (by unfold pL3; simp) 0).trans (hw.2.2.1 (a z) (by omega)).2.2.1
          have x2 : M'.1 112 i 0 = nI (cP (g.1 i)) := (k3.g (by unfold pL3; simp) 0).trans v.2.1
          have e2 : cP (g.1 (a z)) ≤ cP (g.1 i) := e2
          try simp (disch := omega) only [li, nO_n, adI, mlI, tnI, vpI, ltI, leI, eqI, forall_eq, leT, leF, ltT, ltF, eqT, eqF, true_and, and_true, false_implies, true_implies, forall_const, not_true_eq_false, not_false_eq_true, implies_true, sbs, e1, x1, x2]
          exact fin
    · have e9 : ¬ cB (g.1 i) < nB D (sW K i) so := e
      rw [if_neg e9] at v3
      have es : ln D K so g.1 (i + 1) = ln D K so g.1 i := by rw [ln, if_neg e]
      try simp (disch := omega) only [li, nO_n, adI, mlI, tnI, vpI, ltI, leI, eqI, forall_eq, leT, leF, ltT, ltF, eqT, eqF, true_and, and_true, false_implies, true_implies, forall_const, not_true_eq_false, not_false_eq_true, implies_true, hw.2.1.n, v3]
      exact hL _ ⟨rfl, hk, by rw [es]; exact hl⟩
  · rintro ⟨m1, y⟩ L ⟨rfl, hk, hl⟩
    have hk : Kp pLn M m1 := hk
    have hw := h.kp (hk.wk fun c j => pLn_H)
    unfold bX2_lineUp_7
    try simp (disch := omega) only [li, nO_n, adI, mlI, tnI, vpI, ltI, leI, eqI, forall_eq, leT, leF, ltT, ltF, eqT, eqF, true_and, and_true, false_implies, true_implies, forall_const, not_true_eq_false, not_false_eq_true, implies_true, hw.2.1.n]
    exact hQ m1 hk hl
theorem cmostNear {D : Dc} {K : Qc} {kn so m : Nat} {g : Ge} {M : Mem} (h : HW D K so m g M) (hg : GI D K so m g) (hD : DW D kn) (hK : QW K kn) (h2 : 2 ≤ so) (h8 : so ≤ 8) (hm : 1 ≤ m) (hm2 : m ≤ 10) {Q : Int32 → Mem → Prop} (hQ : Q (nI (mnr K)) M) : pX6_mostNear M Q := by
  have hn := hK.1
  have hr := hK.2.1
  unfold mnr at hQ
  unfold pX6_mostNear
  by_cases e : sN K = 0
  · rw [e] at hQ
    try simp (disch := omega) only [li, nO_n, adI, mlI, tnI, vpI, ltI, leI, eqI, forall_eq, leT, leF, ltT, ltF, eqT, eqF, true_and, and_true, false_implies, true_implies, forall_const, not_true_eq_false, not_false_eq_true, implies_true, h.2.1.n, h.2.1.r]
    rw [show (0 - 1) * 50 * qR K = 0 by simp] at hQ
    exact hQ
  · try simp (disch := omega) only [li, nO_n, adI, mlI, tnI, vpI, ltI, leI, eqI, forall_eq, leT, leF, ltT, ltF, eqT, eqF, true_and, and_true, false_implies, true_implies, forall_const, not_true_eq_false, not_false_eq_true, implies_true, h.2.1.n, h.2.1.r, sbI, mlI]
    exact hQ
theorem cfloor {D : Dc} {K : Qc} {kn so m : Nat} {g : Ge} {M : Mem} (h : HW D K so m g M) (hg : GI D K so m g) (hD : DW D kn) (hK : QW K kn) (h2 : 2 ≤ so) (h8 : so ≤ 8) (hm : 1 ≤ m) (hm2 : m ≤ 10) {Q : Int32 → Mem → Prop} (hQ : Q (nI (flo m g.2.1)) M) : pX2_floorNow M Q := by
  have hb := hg.2.1
  unfold flo at hQ
  unfold pX2_floorNow
  by_cases e : m ≤ g.2.1.1
  · rw [if_pos e] at hQ
    have e1 := (h.2.2.2.2.2.1 (m - 1) (by omega)).2
    try simp (disch := omega) only [li, nO_n, adI, mlI, tnI, vpI, ltI, leI, eqI, forall_eq, leT, leF, ltT, ltF, eqT, eqF, true_and, and_true, false_implies, true_implies, forall_const, not_true_eq_false, not_false_eq_true, implies_true, h.2.2.2.1, h.2.2.2.2.1, sbI, e1]
    exact hQ
  · rw [if_neg e] at hQ
    try simp (disch := omega) only [li, nO_n, adI, mlI, tnI, vpI, ltI, leI, eqI, forall_eq, leT, leF, ltT, ltF, eqT, eqF, true_and, and_true, false_implies, true_implies, forall_const, not_true_eq_false, not_false_eq_true, implies_true, h.2.2.2.1, h.2.2.2.2.1]
    exact hQ
theorem flo_le {D : Dc} {K : Qc} {kn so m : Nat} {g : Ge} {M : Mem} (h : HW D K so m g M) (hg : GI D K so m g) (hD : DW D kn) (hK : QW K kn) (h2 : 2 ≤ so) (h8 : so ≤ 8) (hm : 1 ≤ m) (hm2 : m ≤ 10) : flo m g.2.1 ≤ 93612000 := by
  unfold flo
  by_cases e : m ≤ g.2.1.1
  · rw [if_pos e]; exact (hg.2.2 (m - 1) (by omega)).2
  · rw [if_neg e]; omega
theorem wei_le {D : Dc} {K : Qc} {kn so m : Nat} {g : Ge} {M : Mem} (h : HW D K so m g M) (hg : GI D K so m g) (hD : DW D kn) (hK : QW K kn) (h2 : 2 ≤ so) (h8 : so ≤ 8) (hm : 1 ≤ m) (hm2 : m ≤ 10) {i : Nat} (hi : i < sN K) : wei D K i ≤ 3900 := by
  have h1 := (hK.2.2.2.2.1 i hi).2
  have h3 := rare_le D (sW K i)
  have h4 := hD.1
  exact Nat.le_trans (Nat.mul_le_mul h1 (show rare D (sW K i) ≤ 65 by omega)) (by decide)
theorem mnr_le {D : Dc} {K : Qc} {kn so m : Nat} {g : Ge} {M : Mem} (h : HW D K so m g M) (hg : GI D K so m g) (hD : DW D kn) (hK : QW K kn) (h2 : 2 ≤ so) (h8 : so ≤ 8) (hm : 1 ≤ m) (hm2 : m ≤ 10) : mnr K ≤ 10350 := by
  have h1 := hK.1
  have h3 := hK.2.1
  unfold mnr
  exact Nat.le_trans (Nat.mul_le_mul (Nat.mul_le_mul_right 50 (show sN K - 1 ≤ 23 by omega)) h3) (by decide)
theorem pvS_le {D : Dc} {K : Qc} {kn so m : Nat} {g : Ge} {M : Mem} (h : HW D K so m g M) (hg : GI D K so m g) (hD : DW D kn) (hK : QW K kn) (h2 : 2 ≤ so) (h8 : so ≤ 8) (hm : 1 ≤ m) (hm2 : m ≤ 10) {n : Nat} {a : Nat → Nat} (hn : n ≤ 24) (ha : ∀ k, k < n → a k < sN K) : pvS D K a n ≤ 93610350 := by
  have h1 := mnr_le h hg hD hK h2 h8 hm hm2
  have : smF (fun k => bnd D K (a k)) n ≤ n * 3900000 := smF_le fun k hk => Nat.le_trans (Nat.mul_le_mul (wei_le h hg hD hK h2 h8 hm hm2 (ha k hk)) (topR_le _ _ _ _)) (by decide)
  unfold pvS
  omega
theorem cpivot {D : Dc} {K : Qc} {kn so m : Nat} {g : Ge} {M : Mem} (h : HW D K so m g M) (hg : GI D K so m g) (hD : DW D kn) (hK : QW K kn) (h2 : 2 ≤ so) (h8 : so ≤ 8) (hm : 1 ≤ m) (hm2 : m ≤ 10) {t : Nat} {a : Nat → Nat} (hl : LW t a M) (ht : t ≤ 24) (ha : ∀ k, k < t → a k < sN K) {Q : Int32 → Mem → Prop} (hQ : Q (if pvt D K t a (flo m g.2.1) = t then nO else nI (pvt D K t a (flo m g.2.1))) M) : pX2_findPivot M Q := by
  have hf := flo_le h hg hD hK h2 h8 hm hm2
  have hn := hK.1
  unfold pX2_findPivot
  refine cmostNear h hg hD hK h2 h8 hm hm2 ?_
  refine lp_up (fun k s => s = (M, nI (pvS D K a k), nI k) ∧ ∀ j, 0 ≤ j → j < k → decide (flo m g.2.1 < pvS D K a (j + 1)) = false) (Nat.zero_le t) ⟨rfl, fun j _ hj => absurd hj (Nat.not_lt_zero _)⟩ ?_ ?_
  · rintro k s L - hk ⟨rfl, hj⟩ hL
    have hak := ha k hk
    have e1 := (h.2.2.1 (a k) hak).1.2.2.2.2.1
    have hb1 := pvS_le h hg hD hK h2 h8 hm hm2 (n := k + 1) (a := a) (by omega) (fun i hi => ha i (by omega))
    have e2 : pvS D K a k + wei D K (a k) * topR D (sW K (a k)) 0 (pN D (sW K (a k))) = pvS D K a (k + 1) := by
      show mnr K + smF (fun k => bnd D K (a k)) k + bnd D K (a k) = mnr K + smF (fun k => bnd D K (a k)) (k + 1)
      rw [smF, Nat.add_assoc]
    unfold bX2_findPivot_10
    try simp (disch := omega) only [li, nO_n, adI, mlI, tnI, vpI, ltI, leI, eqI, forall_eq, leT, leF, ltT, ltF, eqT, eqF, true_and, and_true, false_implies, true_implies, forall_const, not_true_eq_false, not_false_eq_true, implies_true, hl.1, hl.2 k hk, e1, e2]
    refine cfloor h hg hD hK h2 h8 hm hm2 ?_
    by_cases e : flo m g.2.1 < pvS D K a (k + 1)
    · have er : pvt D K t a (flo m g.2.1) = k := ffn_at (Nat.zero_le _) (by omega) hj (Or.inr (decide_eq_true e))
      rw [er, if_neg (by omega)] at hQ
      try simp (disch := omega) only [li, nO_n, adI, mlI, tnI, vpI, ltI, leI, eqI, forall_eq, leT, leF, ltT, ltF, eqT, eqF, true_and, and_true, false_implies, true_implies, forall_const, not_true_eq_false, not_false_eq_true, implies_true]
      exact hQ
    · try simp (disch := omega) only [li, nO_n, adI, mlI, tnI, vpI, ltI, leI, eqI, forall_eq, leT, leF, ltT, ltF, eqT, eqF, true_and, and_true, false_implies, true_implies, forall_const, not_true_eq_false, not_false_eq_true, implies_true]
      exact hL _ ⟨rfl, fun j j0 j2 => by
        by_cases ej : j = k
        · rw [ej]; exact decide_eq_false e
        · exact hj j j0 (by omega)⟩
  · rintro s L ⟨rfl, hj⟩
    have er : pvt D K t a (flo m g.2.1) = t := ffn_at (Nat.zero_le _) (Nat.le_refl _) hj (Or.inl rfl)
    rw [er, if_pos rfl] at hQ
    unfold bX2_findPivot_10
    try simp (disch := omega) only [li, nO_n, adI, mlI, tnI, vpI, ltI, leI, eqI, forall_eq, leT, leF, ltT, ltF, eqT, eqF, true_and, and_true, false_implies, true_implies, forall_const, not_true_eq_false, not_false_eq_true, implies_true, hl.1]
    exact hQ
def p5 (c j : Nat) : Bool := decide (¬ (j = 0 ∧ c = 305))
theorem ccount {D : Dc} {K : Qc} {kn so m : Nat} {g : Ge} {M : Mem} (h : HW D K so m g M) (hg : GI D K so m g) (hD : DW D kn) (hK : QW K kn) (h2 : 2 ≤ so) (h8 : so ≤ 8) (hm : 1 ≤ m) (hm2 : m ≤ 10) {t x : Nat} {a : Nat → Nat} (hl : LW t a M) (ht : t ≤ 24) (ha : ∀ k, k < t → a k < sN K) (hx : x < 1000) {Q : Mem → Prop} (hQ : ∀ M', Kp p5 M M' → M'.1 305 0 0 = nI (her g.1 t a x) → Q M') : pX2_countHere M (nI x) Q := by
  have hn := hK.1
  unfold pX2_countHere
  simp only [forall_eq]
  refine lp_up (fun k s => Kp p5 M s ∧ s.1 305 0 0 = nI k ∧ ∀ j, 0 ≤ j → j < k → decide (x < cP (g.1 (a j))) = false) (Nat.zero_le t) ⟨Kp.rf.u1 rfl, up1_eq, fun j _ hj => absurd hj (Nat.not_lt_zero _)⟩ ?_ ?_
  · rintro k s L - hk ⟨hkp, e5, hj⟩ hL
    have hak := ha k hk
    have hp := (hg.1 (a k) hak).2.2.1
    have e1 : s.1 112 (a k) 0 = nI (cP (g.1 (a k))) := (hkp.g (by unfold p5; simp) 0).trans (h.2.2.1 (a k) hak).2.2.1
    have e2 : s.1 304 0 0 = nI t := (hkp.g rfl 0).trans hl.1
    have e3 : s.1 303 0 k = nI (a k) := (hkp.g rfl k).trans (hl.2 k hk)
    unfold bX2_countHere_5
    by_cases e : x < cP (g.1 (a k))
    · have er : her g.1 t a x = k := ffn_at (Nat.zero_le _) (by omega) hj (Or.inr (decide_eq_true e))
      rw [er] at hQ
      try simp (disch := omega) only [li, nO_n, adI, mlI, tnI, vpI, ltI, leI, eqI, forall_eq, leT, leF, ltT, ltF, eqT, eqF, true_and, and_true, false_implies, true_implies, forall_const, not_true_eq_false, not_false_eq_true, implies_true, e5, e2, e3, e1]
      exact hQ s hkp e5
    · try simp (disch := omega) only [li, nO_n, adI, mlI, tnI, vpI, ltI, leI, eqI, forall_eq, leT, leF, ltT, ltF, eqT, eqF, true_and, and_true, false_implies, true_implies, forall_const, not_true_eq_false, not_false_eq_true, implies_true, e5, e2, e3, e1]
      exact hL _ ⟨hkp.u1 rfl, up1_eq, fun j j0 j2 => by
        by_cases ej : j = k
        · rw [ej]; exact decide_eq_false e
        · exact hj j j0 (by omega)⟩
  · rintro s L ⟨hkp, e5, hj⟩
    have er : her g.1 t a x = t := ffn_at (Nat.zero_le _) (Nat.le_refl _) hj (Or.inl rfl)
    rw [er] at hQ
    have e2 : s.1 304 0 0 = nI t := (hkp.g rfl 0).trans hl.1
    unfold bX2_countHere_5
    try simp (disch := omega) only [li, nO_n, adI, mlI, tnI, vpI, ltI, leI, eqI, forall_eq, leT, leF, ltT, ltF, eqT, eqF, true_and, and_true, false_implies, true_implies, forall_const, not_true_eq_false, not_false_eq_true, implies_true, e5, e2]
    exact hQ s hkp e5
theorem cbds {D : Dc} {K : Qc} {kn so m : Nat} {g : Ge} {M : Mem} (h : HW D K so m g M) (hg : GI D K so m g) (hD : DW D kn) (hK : QW K kn) (h2 : 2 ≤ so) (h8 : so ≤ 8) (hm : 1 ≤ m) (hm2 : m ≤ 10) {t x hh : Nat} {a : Nat → Nat} (hl : LW t a M) (h5 : M.1 305 0 0 = nI hh) (hht : hh ≤ t) (ht : t ≤ 24) (ha : ∀ k, k < t → a k < sN K) (hx : x < 1000) {Q : Int32 → Mem → Prop} (hQ : Q (nI (bds D K so g.1 a x hh)) M) : pX2_boundHere M (nI x) Q := by
  have hn := hK.1
  unfold pX2_boundHere
  refine cmostNear h hg hD hK h2 h8 hm hm2 ?_
  refine lp_up (fun k s => s = (M, nI (bds D K so g.1 a x k), nI k)) (Nat.zero_le hh) rfl ?_ ?_
  · rintro k s L - hk rfl hL
    have hak := ha k (by omega)
    obtain ⟨w1, w2, w3⟩ := HW.w h hg hD hK h2 h8 hm hm2 hak
    obtain ⟨s1, s2⟩ := h.2.2.1 (a k) hak
    unfold bX2_boundHere_10
    try simp (disch := omega) only [li, nO_n, adI, mlI, tnI, vpI, ltI, leI, eqI, forall_eq, leT, leF, ltT, ltF, eqT, eqF, true_and, and_true, false_implies, true_implies, forall_const, not_true_eq_false, not_false_eq_true, implies_true, h5, hl.2 k (by omega)]
    refine cbound s1 s2 (hg.1 _ hak) hD h2 h8 w1 hx ?_
    try simp (disch := omega) only [li, nO_n, adI, mlI, tnI, vpI, ltI, leI, eqI, forall_eq, leT, leF, ltT, ltF, eqT, eqF, true_and, and_true, false_implies, true_implies, forall_const, not_true_eq_false, not_false_eq_true, implies_true]
    have e2 : bds D K so g.1 a x (k + 1) = bds D K so g.1 a x k + bdR D (sW K (a k)) so (wei D K (a k)) x (g.1 (a k)) := by
      show mnr K + smF (fun k => bdR D (sW K (a k)) so (wei D K (a k)) x (g.1 (a k))) (k + 1) = mnr K + smF (fun k => bdR D (sW K (a k)) so (wei D K (a k)) x (g.1 (a k))) k + _
      rw [smF, Nat.add_assoc]
    exact hL _ (by rw [e2])
  · rintro s L rfl
    unfold bX2_boundHere_10
    try simp (disch := omega) only [li, nO_n, adI, mlI, tnI, vpI, ltI, leI, eqI, forall_eq, leT, leF, ltT, ltF, eqT, eqF, true_and, and_true, false_implies, true_implies, forall_const, not_true_eq_false, not_false_eq_true, implies_true, h5]
    exact hQ
theorem bds_le {D : Dc} {K : Qc} {kn so m : Nat} {g : Ge} {M : Mem} (h : HW D K so m g M) (hg : GI D K so m g) (hD : DW D kn) (hK : QW K kn) (h2 : 2 ≤ so) (h8 : so ≤ 8) (hm : 1 ≤ m) (hm2 : m ≤ 10) {t x hh : Nat} {a : Nat → Nat} (hht : hh ≤ t) (ht : t ≤ 24) (ha : ∀ k, k < t → a k < sN K) : bds D K so g.1 a x hh ≤ 93610350 := by
  have h1 := mnr_le h hg hD hK h2 h8 hm hm2
  have : smF (fun k => bdR D (sW K (a k)) so (wei D K (a k)) x (g.1 (a k))) hh ≤ hh * 3900000 := smF_le fun k hk => by
    show bdR D (sW K (a k)) so (wei D K (a k)) x (g.1 (a k)) ≤ 3900000
    unfold bdR
    by_cases e : rch D (sW K (a k)) so x (g.1 (a k)) < nB D (sW K (a k)) so
    · rw [if_pos e]; exact Nat.le_trans (Nat.mul_le_mul (wei_le h hg hD hK h2 h8 hm hm2 (ha k (by omega))) (topR_le _ _ _ _)) (by decide)
    · rw [if_neg e]; omega
  unfold bds
  omega
