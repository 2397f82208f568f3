/-! PURE: the reference's hunt -/
def EM (D : Dc) (K : Qc) (so : Nat) (g : Ge) (M : Mem) : Prop := (∀ i, i < sN K → MS D (sW K i) so (wei D K i) i M ∧ MV D (sW K i) so (g.1 i) i M) ∧ M.1 1256 0 0 = nI g.2.1.1 ∧ AW 1254 1255 0 g.2.1.1 g.2.1.2 M ∧ M.1 1257 0 0 = nI g.2.2.1 ∧ M.1 1258 0 0 = nI (opn g.1 (sN K)) ∧ M.1 1259 0 0 = nI (wrk g.1 (sN K)) ∧ M.1 1260 0 0 = nI g.2.2.2.1 ∧ M.1 1261 0 0 = nI g.2.2.2.2.1 ∧ M.1 1262 0 0 = nI g.2.2.2.2.2
def NW (D : Dc) (K : Qc) (so : Nat) (g : Ge) (M : Mem) : Prop := MD D M ∧ MK K M ∧ M.1 1239 0 0 = oI none ∧ EM D K so g M
def pEM (c _ : Nat) : Bool := decide ((1243 ≤ c ∧ c ≤ 1251) ∨ (1253 ≤ c ∧ c ≤ 1263) ∨ (6243 ≤ c ∧ c ≤ 6245))
def pNW (c j : Nat) : Bool := pEM c j || pMD c j || pMK c j || decide (c = 1239)
theorem pNW_e {c j : Nat} (h : (1243 ≤ c ∧ c ≤ 1251) ∨ (1253 ≤ c ∧ c ≤ 1263) ∨ (6243 ≤ c ∧ c ≤ 6245)) : pNW c j = true := by unfold pNW pEM; rw [decide_eq_true h]; rfl
theorem MS.all {D : Dc} {w so wt i : Nat} {M M' : Mem} (h : MS D w so wt i M) (k : ∀ c, (1243 ≤ c ∧ c ≤ 1251) ∨ (1253 ≤ c ∧ c ≤ 1263) ∨ (6243 ≤ c ∧ c ≤ 6245) → ∀ j b, M'.1 c j b = M.1 c j b) : MS D w so wt i M' := by
  obtain ⟨a, b, c, d, e⟩ := h
  exact ⟨by rw [k _ (by omega)]; exact a, by rw [k _ (by omega)]; exact b, by rw [k _ (by omega)]; exact c, by rw [k _ (by omega)]; exact d, fun x hx => by rw [k _ (by omega), k _ (by omega)]; exact e x hx⟩
theorem MV.all {D : Dc} {w so i : Nat} {c : Cu} {M M' : Mem} (h : MV D w so c i M) (k : ∀ c, (1243 ≤ c ∧ c ≤ 1251) ∨ (1253 ≤ c ∧ c ≤ 1263) ∨ (6243 ≤ c ∧ c ≤ 6245) → ∀ j b, M'.1 c j b = M.1 c j b) : MV D w so c i M' := by
  obtain ⟨a, b, d, e, f⟩ := h
  exact ⟨by rw [k _ (by omega)]; exact a, by rw [k _ (by omega)]; exact b, by rw [k _ (by omega)]; exact d, by rw [k _ (by omega)]; exact e, fun x hx => by rw [k _ (by omega)]; exact f x hx⟩
theorem EM.all {D : Dc} {K : Qc} {so : Nat} {g : Ge} {M M' : Mem} (h : EM D K so g M) (k : ∀ c, (1243 ≤ c ∧ c ≤ 1251) ∨ (1253 ≤ c ∧ c ≤ 1263) ∨ (6243 ≤ c ∧ c ≤ 6245) → ∀ j b, M'.1 c j b = M.1 c j b) : EM D K so g M' := by
  obtain ⟨q1, q2, q3, q4, q5, q6, q7, q8, q9⟩ := h
  exact ⟨fun i hi => ⟨(q1 i hi).1.all k, (q1 i hi).2.all k⟩, by rw [k _ (by omega)]; exact q2, fun x hx => by rw [k _ (by omega), k _ (by omega)]; exact q3 x hx, by rw [k _ (by omega)]; exact q4, by rw [k _ (by omega)]; exact q5, by rw [k _ (by omega)]; exact q6, by rw [k _ (by omega)]; exact q7, by rw [k _ (by omega)]; exact q8, by rw [k _ (by omega)]; exact q9⟩
theorem NW.kp {D : Dc} {K : Qc} {so : Nat} {g : Ge} {M M' : Mem} (h : NW D K so g M) (k : Kp pNW M M') : NW D K so g M' := ⟨h.1.kp (k.wk fun c j hc => by unfold pNW; rw [hc]; simp), h.2.1.kp (k.wk fun c j hc => by unfold pNW; rw [hc]; simp), (k.g (by unfold pNW; simp) 0).trans h.2.2.1, h.2.2.2.all (fun c hc j b => k.g (pNW_e hc) b)⟩
def LX (t : Nat) (a : Nat → Nat) (M : Mem) : Prop := M.1 1264 0 0 = nI t ∧ ∀ k, k < t → M.1 1252 0 k = nI (a k)
def pOr (c _ : Nat) : Bool := decide (c ≠ 1252 ∧ c ≠ 1264)
def pO2 (c _ : Nat) : Bool := decide (c ≠ 1252)
theorem pOr_N {c j : Nat} (h : pNW c j = true) : pOr c j = true := by unfold pNW pEM pMD pMK at h; unfold pOr; simp at h ⊢; omega
theorem pO2_r {c j : Nat} (h : pOr c j = true) : pO2 c j = true := by unfold pOr at h; unfold pO2; simp at h ⊢; omega
theorem NW.w {D : Dc} {K : Qc} {kn so m : Nat} {g : Ge} {M : Mem} (h : NW D K so g M) (hg : GI D K so m g) (hD : DW D kn) (hK : QW K kn) (h2 : 2 ≤ so) (h8 : so ≤ 8) (hm : 1 ≤ m) (hm2 : m ≤ 10) {i : Nat} (hi : i < sN K) : sW K i < 255 ∧ i < 24 ∧ nB D (sW K i) so ≤ 32 := by
  have h1 := (hK.2.2.2.2.1 i hi).1
  have h3 := hD.2.1
  have h4 := hK.1
  exact ⟨by omega, by omega, bkN_le h2 (by have := pN_le D (sW K i); have := hD.1; omega)⟩
theorem morders {D : Dc} {K : Qc} {kn so m : Nat} {g : Ge} {M : Mem} (h : NW D K so g M) (hg : GI D K so m g) (hD : DW D kn) (hK : QW K kn) (h2 : 2 ≤ so) (h8 : so ≤ 8) (hm : 1 ≤ m) (hm2 : m ≤ 10) {Q : Mem → Prop} (hQ : ∀ M', Kp pOr M M' → LX (lnT D K so g) (lnA D K so g) M' → Q M') : pX11_orders M Q := by
  have hn := hK.1
  unfold pX11_orders
  simp only [forall_eq]
  refine lp_up (fun i s => s.2 = nI i ∧ Kp pOr M s.1 ∧ LX (ln D K so g.1 i).1 (ln D K so g.1 i).2 s.1) (Nat.zero_le (sN K)) ⟨rfl, Kp.rf.u1 rfl, up1_eq, fun k hk => absurd hk (Nat.not_lt_zero _)⟩ ?_ ?_
  · rintro i ⟨m1, y⟩ L - hlt ⟨rfl, hk, hl⟩ hL
    have hk : Kp pOr M m1 := hk
    have hl : LX (ln D K so g.1 i).1 (ln D K so g.1 i).2 m1 := hl
    have hw := h.kp (hk.wk fun c j => pOr_N)
    obtain ⟨l1, l2, l3⟩ := ln_c D K so g.1 i
    have v := (hw.2.2.2.1 i hlt).2
    have v3 := v.2.2.1
    unfold bX11_orders_7 bX11_orders_95
    by_cases e : liv D K so g.1 i
    · have e9 : cB (g.1 i) < nB D (sW K i) so := e
      rw [if_pos e9] at v3
      have es : ln D K so g.1 (i + 1) = ((ln D K so g.1 i).1 + 1, insL (ln D K so g.1 i).2 i (ilp (fun k => cP (g.1 ((ln D K so g.1 i).2 k))) (cP (g.1 i)) (ln D K so g.1 i).1)) := by rw [ln, if_pos e]
      generalize (ln D K so g.1 i).1 = t at *
      generalize (ln D K so g.1 i).2 = a at *
      have hpi := (hg.1 i hlt).2.2.1
      try simp (disch := omega) only [li, nO_n, adI, mlI, tnI, vpI, ltI, leI, eqI, forall_eq, leT, leF, ltT, ltF, eqT, eqF, true_and, and_true, false_implies, true_implies, forall_const, not_true_eq_false, not_false_eq_true, implies_true, hw.2.1.n, v3, hl.1]
      refine insL_loop (fun m y => (m, nI i, y)) (P := pO2) (c := 1252) (i := 0) (v := i) (s := cP (g.1 i)) (f := fun k => cP (g.1 (a k))) hl.2 rfl (fun M' y L2 hy k3 e1 e2 hL2 => ?_) (fun M' y L2 hy k3 hz hA => ?_)
      · have hay := (l2 y hy).1
        have hpy := (hg.1 (a y) (by omega)).2.2.1
        have x1 : M'.1 1250 0 (a y) = nI (cP (g.1 (a y))) := (k3.g rfl _).trans (hw.2.2.2.1 (a y) (by omega)).2.2.1
        have x2 : M'.1 1250 0 i = nI (cP (g.1 i)) := (k3.g rfl _).trans v.2.1
        have e2 : ¬ cP (g.1 (a y)) ≤ cP (g.1 i) := e2
        unfold bX11_orders_32
        try simp (disch := omega) only [li, nO_n, adI, mlI, tnI, vpI, ltI, leI, eqI, forall_eq, leT, leF, ltT, ltF, eqT, eqF, true_and, and_true, false_implies, true_implies, forall_const, not_true_eq_false, not_false_eq_true, implies_true, sbs, e1, x1, x2, nO_add]
        exact hL2
      · have fin : bX11_orders_78 Q L M' (nI i) (nI y) := by
          have x3 : ∀ v, (up1 M' 1252 0 y v).1 1264 0 0 = nI t := fun v => ((up1_ne (by omega)).trans (k3.g rfl 0)).trans hl.1
          unfold bX11_orders_78 bX11_orders_95
          try simp (disch := omega) only [li, nO_n, adI, mlI, tnI, vpI, ltI, leI, eqI, forall_eq, leT, leF, ltT, ltF, eqT, eqF, true_and, and_true, false_implies, true_implies, forall_const, not_true_eq_false, not_false_eq_true, implies_true, x3]
          refine hL _ ⟨rfl, ((hk.tr (k3.wk fun c j => pO2_r)).u1 rfl).u1 rfl, ?_⟩
          rw [es]
          exact ⟨up1_eq, fun k hk2 => (up1_ne (by omega)).trans (hA k hk2)⟩
        unfold bX11_orders_32
        cases y with
        | zero =>
          try simp (disch := omega) only [li, nO_n, adI, mlI, tnI, vpI, ltI, leI, eqI, forall_eq, leT, leF, ltT, ltF, eqT, eqF, true_and, and_true, false_implies, true_implies, forall_const, not_true_eq_false, not_false_eq_true, implies_true]
          exact fin
        | succ z =>
          obtain ⟨e1, e2⟩ := hz z rfl
          have haz := (l2 z (by omega)).1
          have hpz := (hg.1 (a z) (by omega)).2.2.1
          have x1 : M'.1 1250 0 (a z) = nI (cP (g.1 (a z))) := (k3.g rfl _).trans (hw.2.2.2.1 (a z) (by omega)).2.2.1
          have x2 : M'.1 1250 0 i = nI (cP (g.1 i)) := (k3.g rfl _).trans v.2.1
          have e2 : cP (g.1 (a z)) ≤ cP (g.1 i) := e2
          try simp (disch := omega) only [li, nO_n, adI, mlI, tnI, vpI, ltI, leI, eqI, forall_eq, leT, leF, ltT, ltF, eqT, eqF, true_and, and_true, false_implies, true_implies, forall_const, not_true_eq_false, not_false_eq_true, implies_true, sbs, e1, x1, x2]
          exact fin
    · have e9 : ¬ cB (g.1 i) < nB D (sW K i) so := e
      rw [if_neg e9] at v3
      have es : ln D K so g.1 (i + 1) = ln D K so g.1 i := by rw [ln, if_neg e]
      try simp (disch := omega) only [li, nO_n, adI, mlI, tnI, vpI, ltI, leI, eqI, forall_eq, leT, leF, ltT, ltF, eqT, eqF, true_and, and_true, false_implies, true_implies, forall_const, not_true_eq_false, not_false_eq_true, implies_true, hw.2.1.n, v3]
      exact hL _ ⟨rfl, hk, by rw [es]; exact hl⟩
  · rintro ⟨m1, y⟩ L ⟨rfl, hk, hl⟩
    have hk : Kp pOr M m1 := hk
    have hw := h.kp (hk.wk fun c j => pOr_N)
    unfold bX11_orders_7
    try simp (disch := omega) only [li, nO_n, adI, mlI, tnI, vpI, ltI, leI, eqI, forall_eq, leT, leF, ltT, ltF, eqT, eqF, true_and, and_true, false_implies, true_implies, forall_const, not_true_eq_false, not_false_eq_true, implies_true, hw.2.1.n]
    exact hQ m1 hk hl
theorem mmostNear {D : Dc} {K : Qc} {kn so m : Nat} {g : Ge} {M : Mem} (h : NW D K so g M) (hg : GI D K so m g) (hD : DW D kn) (hK : QW K kn) (h2 : 2 ≤ so) (h8 : so ≤ 8) (hm : 1 ≤ m) (hm2 : m ≤ 10) {Q : Int32 → Mem → Prop} (hQ : Q (nI (mnr K)) M) : pX11_mostNear M Q := by
  have hn := hK.1
  have hr := hK.2.1
  unfold mnr at hQ
  unfold pX11_mostNear
  by_cases e : 2 ≤ sN K
  · have em : (sN K - 1) * 50 * qR K = 50 * qR K * (sN K - 1) := by rw [Nat.mul_assoc, Nat.mul_comm]
    rw [em] at hQ
    try simp (disch := omega) only [li, nO_n, adI, mlI, tnI, vpI, ltI, leI, eqI, forall_eq, leT, leF, ltT, ltF, eqT, eqF, true_and, and_true, false_implies, true_implies, forall_const, not_true_eq_false, not_false_eq_true, implies_true, h.2.1.n, h.2.1.r, sbI, mlI]
    exact hQ
  · rw [show sN K - 1 = 0 by omega] at hQ
    rw [show 0 * 50 * qR K = 0 by simp] at hQ
    try simp (disch := omega) only [li, nO_n, adI, mlI, tnI, vpI, ltI, leI, eqI, forall_eq, leT, leF, ltT, ltF, eqT, eqF, true_and, and_true, false_implies, true_implies, forall_const, not_true_eq_false, not_false_eq_true, implies_true, h.2.1.n]
    exact hQ
theorem mfloor {D : Dc} {K : Qc} {kn so m : Nat} {g : Ge} {M : Mem} (h : NW D K so g M) (hg : GI D K so m g) (hD : DW D kn) (hK : QW K kn) (h2 : 2 ≤ so) (h8 : so ≤ 8) (hm : 1 ≤ m) (hm2 : m ≤ 10) {Q : Int32 → Mem → Prop} (hQ : Q (nI (flo m g.2.1)) M) : pX11_floor M (nI m) Q := by
  have hb := hg.2.1
  unfold flo at hQ
  unfold pX11_floor
  by_cases e : m ≤ g.2.1.1
  · rw [if_pos e] at hQ
    have e1 := (h.2.2.2.2.2.1 (m - 1) (by omega)).2
    try simp (disch := omega) only [li, nO_n, adI, mlI, tnI, vpI, ltI, leI, eqI, forall_eq, leT, leF, ltT, ltF, eqT, eqF, true_and, and_true, false_implies, true_implies, forall_const, not_true_eq_false, not_false_eq_true, implies_true, h.2.2.2.2.1, sbI, e1]
    exact hQ
  · rw [if_neg e] at hQ
    try simp (disch := omega) only [li, nO_n, adI, mlI, tnI, vpI, ltI, leI, eqI, forall_eq, leT, leF, ltT, ltF, eqT, eqF, true_and, and_true, false_implies, true_implies, forall_const, not_true_eq_false, not_false_eq_true, implies_true, h.2.2.2.2.1]
    exact hQ
theorem mflo_le {D : Dc} {K : Qc} {kn so m : Nat} {g : Ge} {M : Mem} (h : NW D K so g M) (hg : GI D K so m g) (hD : DW D kn) (hK : QW K kn) (h2 : 2 ≤ so) (h8 : so ≤ 8) (hm : 1 ≤ m) (hm2 : m ≤ 10) : flo m g.2.1 ≤ 93612000 := by
  unfold flo
  by_cases e : m ≤ g.2.1.1
  · rw [if_pos e]; exact (hg.2.2 (m - 1) (by omega)).2
  · rw [if_neg e]; omega
theorem mwei_le {D : Dc} {K : Qc} {kn so m : Nat} {g : Ge} {M : Mem} (h : NW D K so g M) (hg : GI D K so m g) (hD : DW D kn) (hK : QW K kn) (h2 : 2 ≤ so) (h8 : so ≤ 8) (hm : 1 ≤ m) (hm2 : m ≤ 10) {i : Nat} (hi : i < sN K) : wei D K i ≤ 3900 := by
  have h1 := (hK.2.2.2.2.1 i hi).2
  have h3 := rare_le D (sW K i)
  have h4 := hD.1
  exact Nat.le_trans (Nat.mul_le_mul h1 (show rare D (sW K i) ≤ 65 by omega)) (by decide)
theorem mmnr_le {D : Dc} {K : Qc} {kn so m : Nat} {g : Ge} {M : Mem} (h : NW D K so g M) (hg : GI D K so m g) (hD : DW D kn) (hK : QW K kn) (h2 : 2 ≤ so) (h8 : so ≤ 8) (hm : 1 ≤ m) (hm2 : m ≤ 10) : mnr K ≤ 10350 := by
  have h1 := hK.1
  have h3 := hK.2.1
  unfold mnr
  exact Nat.le_trans (Nat.mul_le_mul (Nat.mul_le_mul_right 50 (show sN K - 1 ≤ 23 by omega)) h3) (by decide)
theorem mpvS_le {D : Dc} {K : Qc} {kn so m : Nat} {g : Ge} {M : Mem} (h : NW D K so g M) (hg : GI D K so m g) (hD : DW D kn) (hK : QW K kn) (h2 : 2 ≤ so) (h8 : so ≤ 8) (hm : 1 ≤ m) (hm2 : m ≤ 10) {n : Nat} {a : Nat → Nat} (hn : n ≤ 24) (ha : ∀ k, k < n → a k < sN K) : pvS D K a n ≤ 93610350 := by
  have h1 := mmnr_le h hg hD hK h2 h8 hm hm2
  have : smF (fun k => bnd D K (a k)) n ≤ n * 3900000 := smF_le fun k hk => Nat.le_trans (Nat.mul_le_mul (mwei_le h hg hD hK h2 h8 hm hm2 (ha k hk)) (topR_le _ _ _ _)) (by decide)
  unfold pvS
  omega
theorem mpivot {D : Dc} {K : Qc} {kn so m : Nat} {g : Ge} {M : Mem} (h : NW D K so g M) (hg : GI D K so m g) (hD : DW D kn) (hK : QW K kn) (h2 : 2 ≤ so) (h8 : so ≤ 8) (hm : 1 ≤ m) (hm2 : m ≤ 10) {t : Nat} {a : Nat → Nat} (hl : LX t a M) (ht : t ≤ 24) (ha : ∀ k, k < t → a k < sN K) {Q : Int32 → Mem → Prop} (hQ : Q (nI (pvt D K t a (flo m g.2.1))) M) : pX11_pivot M (nI (flo m g.2.1)) Q := by
  have hf := mflo_le h hg hD hK h2 h8 hm hm2
  have hn := hK.1
  unfold pX11_pivot
  refine mmostNear h hg hD hK h2 h8 hm hm2 ?_
  refine lp_up (fun k s => s = (M, nI (pvS D K a k), nI k) ∧ ∀ j, 0 ≤ j → j < k → decide (flo m g.2.1 < pvS D K a (j + 1)) = false) (Nat.zero_le t) ⟨rfl, fun j _ hj => absurd hj (Nat.not_lt_zero _)⟩ ?_ ?_
  · rintro k s L - hk ⟨rfl, hj⟩ hL
    have hak := ha k hk
    have e1 := (h.2.2.2.1 (a k) hak).1.2.2.2.1
    have hb1 := mpvS_le h hg hD hK h2 h8 hm hm2 (n := k + 1) (a := a) (by omega) (fun i hi => ha i (by omega))
    have e2 : pvS D K a k + wei D K (a k) * topR D (sW K (a k)) 0 (pN D (sW K (a k))) = pvS D K a (k + 1) := by
      show mnr K + smF (fun k => bnd D K (a k)) k + bnd D K (a k) = mnr K + smF (fun k => bnd D K (a k)) (k + 1)
      rw [smF, Nat.add_assoc]
    unfold bX11_pivot_7
    by_cases e : flo m g.2.1 < pvS D K a (k + 1)
    · have er : pvt D K t a (flo m g.2.1) = k := ffn_at (Nat.zero_le _) (by omega) hj (Or.inr (decide_eq_true e))
      rw [er] at hQ
      try simp (disch := omega) only [li, nO_n, adI, mlI, tnI, vpI, ltI, leI, eqI, forall_eq, leT, leF, ltT, ltF, eqT, eqF, true_and, and_true, false_implies, true_implies, forall_const, not_true_eq_false, not_false_eq_true, implies_true, hl.1, hl.2 k hk, e1, e2]
      exact hQ
    · try simp (disch := omega) only [li, nO_n, adI, mlI, tnI, vpI, ltI, leI, eqI, forall_eq, leT, leF, ltT, ltF, eqT, eqF, true_and, and_true, false_implies, true_implies, forall_const, not_true_eq_false, not_false_eq_true, implies_true, hl.1, hl.2 k hk, e1, e2]
      exact hL _ ⟨rfl, fun j j0 j2 => by
        by_cases ej : j = k
        · rw [ej]; exact decide_eq_false e
        · exact hj j j0 (by omega)⟩
  · rintro s L ⟨rfl, hj⟩
    have er : pvt D K t a (flo m g.2.1) = t := ffn_at (Nat.zero_le _) (Nat.le_refl _) hj (Or.inl rfl)
    rw [er] at hQ
    unfold bX11_pivot_7
    try simp (disch := omega) only [li, nO_n, adI, mlI, tnI, vpI, ltI, leI, eqI, forall_eq, leT, leF, ltT, ltF, eqT, eqF, true_and, and_true, false_implies, true_implies, forall_const, not_true_eq_false, not_false_eq_true, implies_true, hl.1]
    exact hQ
theorem mbds_le {D : Dc} {K : Qc} {kn so m : Nat} {g : Ge} {M : Mem} (h : NW D K so g M) (hg : GI D K so m g) (hD : DW D kn) (hK : QW K kn) (h2 : 2 ≤ so) (h8 : so ≤ 8) (hm : 1 ≤ m) (hm2 : m ≤ 10) {t x hh : Nat} {a : Nat → Nat} (hht : hh ≤ t) (ht : t ≤ 24) (ha : ∀ k, k < t → a k < sN K) : bds D K so g.1 a x hh ≤ 93610350 := by
  have h1 := mmnr_le h hg hD hK h2 h8 hm hm2
  have : smF (fun k => bdR D (sW K (a k)) so (wei D K (a k)) x (g.1 (a k))) hh ≤ hh * 3900000 := smF_le fun k hk => by
    show bdR D (sW K (a k)) so (wei D K (a k)) x (g.1 (a k)) ≤ 3900000
    unfold bdR
    by_cases e : rch D (sW K (a k)) so x (g.1 (a k)) < nB D (sW K (a k)) so
    · rw [if_pos e]; exact Nat.le_trans (Nat.mul_le_mul (mwei_le h hg hD hK h2 h8 hm hm2 (ha k (by omega))) (topR_le _ _ _ _)) (by decide)
    · rw [if_neg e]; omega
  unfold bds
  omega
theorem mskipsTo {D : Dc} {K : Qc} {kn so m : Nat} {g : Ge} {M : Mem} (h : NW D K so g M) (hg : GI D K so m g) (hD : DW D kn) (hK : QW K kn) (h2 : 2 ≤ so) (h8 : so ≤ 8) (hm : 1 ≤ m) (hm2 : m ≤ 10) {t x hh : Nat} {a : Nat → Nat} (hl : LX t a M) (hht : hh ≤ t) (ht : t ≤ 24) (ha : ∀ k, k < t → a k < sN K) (hx : x < 1000) {Q : Int32 → Mem → Prop} (hQ : Q (if flo m g.2.1 < bds D K so g.1 a x hh then nO else nI (nxF D K so g.1 t a x hh hh)) M) : pX11_skipsTo M (nI hh) (nI x) (nI (flo m g.2.1)) Q := by
  have hf := mflo_le h hg hD hK h2 h8 hm hm2
  have hn := hK.1
  have go : bX11_skipsTo_32 (nI hh) (nI x) (nI (flo m g.2.1)) Q M (nI (mnr K)) (nI (nxF D K so g.1 t a x hh 0)) := by
    unfold bX11_skipsTo_32
    refine lp_up (fun k s => s = (M, nI (bds D K so g.1 a x k), nI (nxF D K so g.1 t a x hh k), nI k) ∧ nxF D K so g.1 t a x hh k ≤ 65) (Nat.zero_le hh) ⟨rfl, ?_⟩ ?_ ?_
    · show (if hh < t then cP (g.1 (a hh)) else 65) ≤ 65
      by_cases e : hh < t
      · rw [if_pos e]; have := (hg.1 (a hh) (ha hh e)).2.2.1; omega
      · rw [if_neg e]; omega
    · rintro k s L - hk ⟨rfl, h65⟩ hL
      have hak := ha k (by omega)
      obtain ⟨w1, w2, w3⟩ := NW.w h hg hD hK h2 h8 hm hm2 hak
      obtain ⟨s1, s2⟩ := h.2.2.2.1 (a k) hak
      have ic := hg.1 _ hak
      have r := rch_c hD h2 x ic.1
      have e2 : bds D K so g.1 a x (k + 1) = bds D K so g.1 a x k + bdR D (sW K (a k)) so (wei D K (a k)) x (g.1 (a k)) := by
        show mnr K + smF (fun k => bdR D (sW K (a k)) so (wei D K (a k)) x (g.1 (a k))) (k + 1) = mnr K + smF (fun k => bdR D (sW K (a k)) so (wei D K (a k)) x (g.1 (a k))) k + _
        rw [smF, Nat.add_assoc]
      have e3 : nxF D K so g.1 t a x hh (k + 1) = min (nxF D K so g.1 t a x hh k) (bhR D (sW K (a k)) so x 65 (g.1 (a k))) := rfl
      unfold bX11_skipsTo_35 bX11_skipsTo_111
      try simp (disch := omega) only [li, nO_n, adI, mlI, tnI, vpI, ltI, leI, eqI, forall_eq, leT, leF, ltT, ltF, eqT, eqF, true_and, and_true, false_implies, true_implies, forall_const, not_true_eq_false, not_false_eq_true, implies_true, hl.2 k (by omega)]
      refine mblockFor s1 s2 ic hD h2 h8 w2 hx ?_
      refine mblocksL s1 hD h2 h8 w2 ?_
      by_cases e : rch D (sW K (a k)) so x (g.1 (a k)) < nB D (sW K (a k)) so
      · have e4 : bdR D (sW K (a k)) so (wei D K (a k)) x (g.1 (a k)) = wei D K (a k) * TOPb D (sW K (a k)) so (rch D (sW K (a k)) so x (g.1 (a k))) := if_pos e
        have e5 : bhR D (sW K (a k)) so x 65 (g.1 (a k)) = LST D (sW K (a k)) so (rch D (sW K (a k)) so x (g.1 (a k))) + 1 := if_pos e
        have hfl := FL_le hD h2 e
        have x47 := s1.2.2.1
        try simp (disch := omega) only [li, nO_n, adI, mlI, tnI, vpI, ltI, leI, eqI, forall_eq, leT, leF, ltT, ltF, eqT, eqF, true_and, and_true, false_implies, true_implies, forall_const, not_true_eq_false, not_false_eq_true, implies_true]
        refine mtopOf s1 hD h2 h8 w2 e ?_
        try simp (disch := omega) only [li, nO_n, adI, mlI, tnI, vpI, ltI, leI, eqI, forall_eq, leT, leF, ltT, ltF, eqT, eqF, true_and, and_true, false_implies, true_implies, forall_const, not_true_eq_false, not_false_eq_true, implies_true, x47, mlI]
        refine mlastOf s1 hD h2 h8 w2 e ?_
        try simp (disch := omega) only [li, nO_n, adI, mlI, tnI, vpI, ltI, leI, eqI, forall_eq, leT, leF, ltT, ltF, eqT, eqF, true_and, and_true, false_implies, true_implies, forall_const, not_true_eq_false, not_false_eq_true, implies_true]
        refine mless (by omega) (by omega) ?_
        refine hL _ ⟨?_, by rw [e3, e5]; omega⟩
        rw [e2, e3, e4, e5]
      · have e4 : bdR D (sW K (a k)) so (wei D K (a k)) x (g.1 (a k)) = 0 := if_neg e
        have e5 : bhR D (sW K (a k)) so x 65 (g.1 (a k)) = 65 := if_neg e
        try simp (disch := omega) only [li, nO_n, adI, mlI, tnI, vpI, ltI, leI, eqI, forall_eq, leT, leF, ltT, ltF, eqT, eqF, true_and, and_true, false_implies, true_implies, forall_const, not_true_eq_false, not_false_eq_true, implies_true]
        refine hL _ ⟨?_, by rw [e3, e5]; omega⟩
        rw [e2, e3, e4, e5, Nat.min_eq_left h65]
        rfl
    · rintro s L ⟨rfl, h65⟩
      have hbl := mbds_le h hg hD hK h2 h8 hm hm2 (x := x) hht ht ha
      unfold bX11_skipsTo_35
      by_cases e : flo m g.2.1 < bds D K so g.1 a x hh
      · rw [if_pos e] at hQ
        try simp (disch := omega) only [li, nO_n, adI, mlI, tnI, vpI, ltI, leI, eqI, forall_eq, leT, leF, ltT, ltF, eqT, eqF, true_and, and_true, false_implies, true_implies, forall_const, not_true_eq_false, not_false_eq_true, implies_true]
        exact hQ
      · rw [if_neg e] at hQ
        try simp (disch := omega) only [li, nO_n, adI, mlI, tnI, vpI, ltI, leI, eqI, forall_eq, leT, leF, ltT, ltF, eqT, eqF, true_and, and_true, false_implies, true_implies, forall_const, not_true_eq_false, not_false_eq_true, implies_true]
        exact hQ
  unfold pX11_skipsTo
  refine mmostNear h hg hD hK h2 h8 hm hm2 ?_
  have e0 : nxF D K so g.1 t a x hh 0 = if hh < t then cP (g.1 (a hh)) else 65 := rfl
  rw [e0] at go
  by_cases e : hh < t
  · rw [if_pos e] at go
    have hak := ha hh e
    have e12 : M.1 1250 0 (a hh) = nI (cP (g.1 (a hh))) := (h.2.2.2.1 (a hh) hak).2.2.1
    try simp (disch := omega) only [li, nO_n, adI, mlI, tnI, vpI, ltI, leI, eqI, forall_eq, leT, leF, ltT, ltF, eqT, eqF, true_and, and_true, false_implies, true_implies, forall_const, not_true_eq_false, not_false_eq_true, implies_true, hl.1, hl.2 hh e, e12]
    exact go
  · rw [if_neg e] at go
    try simp (disch := omega) only [li, nO_n, adI, mlI, tnI, vpI, ltI, leI, eqI, forall_eq, leT, leF, ltT, ltF, eqT, eqF, true_and, and_true, false_implies, true_implies, forall_const, not_true_eq_false, not_false_eq_true, implies_true, hl.1]
    exact go
