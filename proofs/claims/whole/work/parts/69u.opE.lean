/-! PURE: operations on EARLY; both sides -/
def eG (S : St) (m : Nat) : Ge := erl (tD S) (tK S) (tZ S) m
def earV (S : St) (m : Nat) : Nat → Nat
  | 0 => (eG S m).2.1.1
  | 1 => flo m (eG S m).2.1
  | 2 => (eG S m).2.2.1
  | 3 => opn (eG S m).1 (sN (tK S))
  | 4 => wrk (eG S m).1 (sN (tK S))
  | 5 => (eG S m).2.2.2.1
  | 6 => (eG S m).2.2.2.2.1
  | 7 => (eG S m).2.2.2.2.2
  | _ => spr (tD S) (tK S) (tZ S) (eG S m).1 (sN (tK S))
def oEarly (S : St) (x y : Int32) : Rs := match ixr x 1 11 with
  | none => rfs S 2
  | some m => match ixr y 0 9 with
    | none => rfs S 2
    | some j => okR S (nI (earV S m j))
def oBest (S : St) (x y : Int32) : Rs := match ixr x 1 11 with
  | none => rfs S 2
  | some m => match ixr y 0 (eG S m).2.1.1 with
    | none => okR S nO
    | some i => okR S (nI ((eG S m).2.1.2 i).1)
def six (S : St) (x y : Int32) : Option (Nat × Nat) := match ixr x 0 (sN (tK S)) with
  | none => none
  | some i => match ixr y 0 (bkN (pN (tD S) (sW (tK S) i)) (tZ S)) with
    | none => none
    | some b => some (i, b)
def oOpened (S : St) (x y z : Int32) : Rs := match six S y z with
  | none => rfs S 1
  | some q => match ixr x 1 11 with
    | none => rfs S 2
    | some m => okR S (nI (cO ((eG S m).1 q.1) q.2))
def depN (S : St) (i b : Nat) : Nat := ffn (fun m => decide (0 < cO ((eG S m).1 i) b)) 1 11
def oDepth (S : St) (x y : Int32) : Rs := match six S x y with
  | none => rfs S 1
  | some q => okR S (if depN S q.1 q.2 = 11 then nO else nI (depN S q.1 q.2))
theorem ixr_y {lo n j : Nat} (h1 : lo ≤ j) (h2 : j < n) (hn : n < 2147483648) : ixr (nI j) lo n = some j := by
  unfold ixr
  rw [if_neg (by rw [ltI (by omega) (by omega)]; omega), if_neg (by rw [leI (by omega) (by omega)]; omega), tnI (by omega)]
theorem c_early {S : St} {M : Mem} (h : CI S M) (hS : SW S) {Q : Int32 → Mem → Prop} {K : String → Mem → Prop} (x y : Int32) (k : CE (oEarly S x y) M Q K) : pX10_early M x y Q K := by
  obtain ⟨s1, s2, hD, hW, hK, s5, s6, s7⟩ := id hS
  obtain ⟨i1, i2, i3, i4, i5, hC, hw, hq, hz⟩ := id h
  have hkn := hD.2.1
  have hdn := hD.1
  unfold oEarly at k
  unfold pX10_early
  refine cneed (lo := 1) (m := 10) rfl rfl (by omega) (by omega) (fun m m1 m2 e em => ?_) (fun em => by rw [em] at k; exact k.no2 Kp.rf h)
  rw [em] at k
  dsimp only at k
  subst e
  refine cneed (lo := 0) (m := 8) rfl rfl (by omega) (by omega) (fun j _ hj e ej => ?_) (fun ej => by rw [ej] at k; exact k.no2 Kp.rf h)
  rw [ej] at k
  subst e
  rw [hz]
  refine crun hD hK s5 s6 m1 (by omega) hC hq (fun M' kk hh => ?_)
  have hg := erl_c hD hK (so := tZ S) (m := m) s5 m1
  have hq2 := k.ok (kk.wk cHR) (h.v kk cHS)
  obtain ⟨z1, z2, z3, z4, z5, z6, z7, z8, z9, z10⟩ := id hh
  rcases (show j = 0 ∨ j = 1 ∨ j = 2 ∨ j = 3 ∨ j = 4 ∨ j = 5 ∨ j = 6 ∨ j = 7 ∨ j = 8 by omega) with rfl | rfl | rfl | rfl | rfl | rfl | rfl | rfl | rfl
  · try simp (disch := omega) only [li, nO_n, adI, mlI, tnI, vpI, ltI, leI, eqI, forall_eq, leT, leF, ltT, ltF, eqT, eqF, true_and, and_true, false_implies, true_implies, forall_const, not_true_eq_false, not_false_eq_true, implies_true, z5]
    exact hq2
  · try simp (disch := omega) only [li, nO_n, adI, mlI, tnI, vpI, ltI, leI, eqI, forall_eq, leT, leF, ltT, ltF, eqT, eqF, true_and, and_true, false_implies, true_implies, forall_const, not_true_eq_false, not_false_eq_true, implies_true]
    exact cfloor hh hg hD hK s5 s6 m1 (by omega) hq2
  · try simp (disch := omega) only [li, nO_n, adI, mlI, tnI, vpI, ltI, leI, eqI, forall_eq, leT, leF, ltT, ltF, eqT, eqF, true_and, and_true, false_implies, true_implies, forall_const, not_true_eq_false, not_false_eq_true, implies_true, z7]
    exact hq2
  · try simp (disch := omega) only [li, nO_n, adI, mlI, tnI, vpI, ltI, leI, eqI, forall_eq, leT, leF, ltT, ltF, eqT, eqF, true_and, and_true, false_implies, true_implies, forall_const, not_true_eq_false, not_false_eq_true, implies_true]
    exact callOpened hh hg hD hK s5 s6 hq2
  · try simp (disch := omega) only [li, nO_n, adI, mlI, tnI, vpI, ltI, leI, eqI, forall_eq, leT, leF, ltT, ltF, eqT, eqF, true_and, and_true, false_implies, true_implies, forall_const, not_true_eq_false, not_false_eq_true, implies_true]
    exact callWork hh hg hD hK s5 s6 hq2
  · try simp (disch := omega) only [li, nO_n, adI, mlI, tnI, vpI, ltI, leI, eqI, forall_eq, leT, leF, ltT, ltF, eqT, eqF, true_and, and_true, false_implies, true_implies, forall_const, not_true_eq_false, not_false_eq_true, implies_true, z8]
    exact hq2
  · try simp (disch := omega) only [li, nO_n, adI, mlI, tnI, vpI, ltI, leI, eqI, forall_eq, leT, leF, ltT, ltF, eqT, eqF, true_and, and_true, false_implies, true_implies, forall_const, not_true_eq_false, not_false_eq_true, implies_true, z9]
    exact hq2
  · try simp (disch := omega) only [li, nO_n, adI, mlI, tnI, vpI, ltI, leI, eqI, forall_eq, leT, leF, ltT, ltF, eqT, eqF, true_and, and_true, false_implies, true_implies, forall_const, not_true_eq_false, not_false_eq_true, implies_true, z10]
    exact hq2
  · try simp (disch := omega) only [li, nO_n, adI, mlI, tnI, vpI, ltI, leI, eqI, forall_eq, leT, leF, ltT, ltF, eqT, eqF, true_and, and_true, false_implies, true_implies, forall_const, not_true_eq_false, not_false_eq_true, implies_true]
    exact cspared hh hg hD hK s5 s6 hq2
theorem c_best {S : St} {M : Mem} (h : CI S M) (hS : SW S) {Q : Int32 → Mem → Prop} {K : String → Mem → Prop} (x y : Int32) (k : CE (oBest S x y) M Q K) : pX10_best M x y Q K := by
  obtain ⟨s1, s2, hD, hW, hK, s5, s6, s7⟩ := id hS
  obtain ⟨i1, i2, i3, i4, i5, hC, hw, hq, hz⟩ := id h
  have hkn := hD.2.1
  have hdn := hD.1
  unfold oBest at k
  unfold pX10_best
  refine cneed (lo := 1) (m := 10) rfl rfl (by omega) (by omega) (fun m m1 m2 e em => ?_) (fun em => by rw [em] at k; exact k.no2 Kp.rf h)
  rw [em] at k
  dsimp only at k
  subst e
  rw [hz]
  refine crun hD hK s5 s6 m1 (by omega) hC hq (fun M' kk hh => ?_)
  have hg := erl_c hD hK (so := tZ S) (m := m) s5 m1
  have hle : (eG S m).2.1.1 ≤ m := hg.2.1
  obtain ⟨z1, z2, z3, z4, z5, z6, z7, z8, z9, z10⟩ := id hh
  have z5' : M'.1 309 0 0 = nI (eG S m).2.1.1 := z5
  rcases ixr_c y (lo := 0) (n := (eG S m).2.1.1) (by omega) (by omega) with ⟨e, h1⟩ | ⟨i, -, i2, e, ei⟩
  · rw [e] at k
    have hq2 := k.ok (kk.wk cHR) (h.v kk cHS)
    rw [z5']
    refine ⟨fun _ => hq2, fun c1 => ⟨fun c2 => ?_, fun _ => hq2⟩⟩
    rcases h1 with h1 | h1
    · exact absurd h1 c1
    · exact absurd c2 (le_not_lt h1)
  · rw [ei] at k
    subst e
    have hq2 := k.ok (kk.wk cHR) (h.v kk cHS)
    have z6' : M'.1 307 0 i = nI ((eG S m).2.1.2 i).1 := (z6 i i2).1
    try simp (disch := omega) only [li, nO_n, adI, mlI, tnI, vpI, ltI, leI, eqI, forall_eq, leT, leF, ltT, ltF, eqT, eqF, true_and, and_true, false_implies, true_implies, forall_const, not_true_eq_false, not_false_eq_true, implies_true, z5', z6']
    exact hq2
theorem cneedSB {S : St} {M : Mem} (h : CI S M) (hS : SW S) {Q : Int32 → Mem → Prop} {K : String → Mem → Prop} {x y : Int32} {P : Mem → Prop} (hy : ∀ i b, i < sN (tK S) → b < bkN (pN (tD S) (sW (tK S) i)) (tZ S) → x = nI i → y = nI b → six S x y = some (i, b) → P M) (hx : six S x y = none → K EN (up1 M 1103 0 0 (M.1 1103 0 0 + 1))) (_ : Q = Q) : pX10_needScoredBlock M x y P K := by
  obtain ⟨s1, s2, hD, hW, hK, s5, s6, s7⟩ := id hS
  obtain ⟨i1, i2, i3, i4, i5, hC, hw, hq, hz⟩ := id h
  have hkn := hD.2.1
  have hdn := hD.1
  have hsn := hK.1
  unfold pX10_needScoredBlock bX10_needScoredBlock_15 pX10_refuseMissing
  rcases ixr_c x (lo := 0) (n := sN (tK S)) (by omega) (by omega) with ⟨e, h1⟩ | ⟨i, -, i2, e, ei⟩
  · have hk2 := hx (by unfold six; rw [e])
    exact chasScored hq rfl hK.1 x (fun j hj q => absurd q (ixr_n (by omega) e hj)) (fun _ => s0a (fun M1 e1 => by subst e1; exact hk2))
  · subst e
    have hwi := (hK.2.2.2.2.1 i i2).1
    have e1 := hq.w i2
    refine chasScored hq rfl hK.1 _ (fun i' hi' q => ?_) (fun q => absurd rfl (q i i2))
    refine s1a ⟨(vpI (by omega)).mpr (by omega), ?_⟩
    rw [tnI (by omega), e1]
    have ew : ixr (nI (sW (tK S) i)) 0 (tW S).length = some (sW (tK S) i) := ixr_y (Nat.zero_le _) hwi (by omega)
    refine cneedB h hS (fun w b w1 b1' ex ey ed => ?_) (fun ed => ?_)
    · rw [eqI (by omega) (by omega)] at ex
      subst ex
      refine hy i b i2 b1' rfl ey ?_
      have hpn := pN_le (tD S) (sW (tK S) i)
      have hbn := bkN_le s5 (show pN (tD S) (sW (tK S) i) ≤ 64 by omega)
      unfold six
      rw [ei]
      dsimp only
      rw [ey, ixr_y (Nat.zero_le _) b1' (by omega)]
    · refine hx ?_
      unfold bix at ed
      rw [ew] at ed
      dsimp only at ed
      unfold six
      rw [ei]
      dsimp only
      cases q9 : ixr y 0 (bkN (pN (tD S) (sW (tK S) i)) (tZ S)) with
      | none => rfl
      | some b => rw [q9] at ed; cases ed
theorem c_opened {S : St} {M : Mem} (h : CI S M) (hS : SW S) {Q : Int32 → Mem → Prop} {K : String → Mem → Prop} (x y z : Int32) (k : CE (oOpened S x y z) M Q K) : pX10_opened M x y z Q K := by
  obtain ⟨s1, s2, hD, hW, hK, s5, s6, s7⟩ := id hS
  obtain ⟨i1, i2, i3, i4, i5, hC, hw, hq, hz⟩ := id h
  have hkn := hD.2.1
  have hdn := hD.1
  have hsn := hK.1
  unfold oOpened at k
  unfold pX10_opened
  refine cneedSB h hS (Q := Q) (fun i b i2 b2 ex ey ed => ?_) (fun ed => by rw [ed] at k; exact k.no1 Kp.rf h) rfl
  rw [ed] at k
  dsimp only at k
  subst ex ey
  have hpn := pN_le (tD S) (sW (tK S) i)
  have hbn := bkN_le s5 (show pN (tD S) (sW (tK S) i) ≤ 64 by omega)
  refine cneed (lo := 1) (m := 10) rfl rfl (by omega) (by omega) (fun m m1 m2 e em => ?_) (fun em => by rw [em] at k; exact k.no2 Kp.rf h)
  rw [em] at k
  subst e
  rw [hz]
  refine crun hD hK s5 s6 m1 (by omega) hC hq (fun M' kk hh => ?_)
  have hq2 := k.ok (kk.wk cHR) (h.v kk cHS)
  have e1 : M'.1 105 i b = nI (cO ((eG S m).1 i) b) := (hh.2.2.1 i i2).2.2.2.2.2.2.2 b b2
  try simp (disch := omega) only [li, nO_n, adI, mlI, tnI, vpI, ltI, leI, eqI, forall_eq, leT, leF, ltT, ltF, eqT, eqF, true_and, and_true, false_implies, true_implies, forall_const, not_true_eq_false, not_false_eq_true, implies_true, e1]
  exact hq2
theorem c_depth {S : St} {M : Mem} (h : CI S M) (hS : SW S) {Q : Int32 → Mem → Prop} {K : String → Mem → Prop} (x y : Int32) (k : CE (oDepth S x y) M Q K) : pX10_depth M x y Q K := by
  obtain ⟨s1, s2, hD, hW, hK, s5, s6, s7⟩ := id hS
  obtain ⟨i1, i2, i3, i4, i5, hC, hw, hq, hz⟩ := id h
  have hkn := hD.2.1
  have hdn := hD.1
  have hsn := hK.1
  unfold oDepth at k
  unfold pX10_depth
  refine cneedSB h hS (Q := Q) (fun i b i2 b2 ex ey ed => ?_) (fun ed => by rw [ed] at k; exact k.no1 Kp.rf h) rfl
  rw [ed] at k
  dsimp only at k
  subst ex ey
  have hpn := pN_le (tD S) (sW (tK S) i)
  have hbn := bkN_le s5 (show pN (tD S) (sW (tK S) i) ≤ 64 by omega)
  refine lp_up (fun m s => s.2 = nI m ∧ Kp pHt M s.1 ∧ ∀ j, 1 ≤ j → j < m → decide (0 < cO ((eG S j).1 i) b) = false) (show 1 ≤ 11 by omega) ⟨rfl, Kp.rf, fun j j1 j2 => absurd j2 (by omega)⟩ ?_ ?_
  · rintro m ⟨M1, v⟩ L m1 m2 ⟨rfl, kk1, hj⟩ hL
    have h1 := h.v kk1 cHS
    have hz1 : M1.1 507 0 0 = nI (tZ S) := h1.2.2.2.2.2.2.2.2
    unfold bX10_depth_8
    dsimp only
    refine ⟨fun c1 => absurd c1 (by show ¬ nI 10 < nI m; rw [ltI (by omega) (by omega)]; omega), fun _ => ?_⟩
    rw [hz1]
    refine crun hD hK s5 s6 m1 (by omega) h1.2.2.2.2.2.1 h1.2.2.2.2.2.2.2.1 (fun M' kk hh => ?_)
    have hg := erl_c hD hK (so := tZ S) (m := m) s5 m1
    have e1 : M'.1 105 i b = nI (cO ((eG S m).1 i) b) := (hh.2.2.1 i i2).2.2.2.2.2.2.2 b b2
    have hle : cO ((eG S m).1 i) b ≤ 1 := (hg.1 i i2).2.2.2.2.2.2.1 b
    refine ⟨(vpI (by omega)).mpr (by omega), (vpI (by omega)).mpr (by omega), ?_⟩
    rw [tnI (by omega), tnI (by omega), e1]
    by_cases e0 : 0 < cO ((eG S m).1 i) b
    · have ed2 : depN S i b = m := ffn_at m1 (by omega) hj (Or.inr (decide_eq_true e0))
      rw [ed2, if_neg (by omega)] at k
      have hq2 := k.ok ((kk1.tr kk).wk cHR) (h.v (kk1.tr kk) cHS)
      refine ⟨fun c1 => absurd c1 (by show ¬ nI _ ≤ nI 0; rw [leI (by omega) (by omega)]; omega), fun _ => hq2⟩
    · refine ⟨fun _ v9 e9 => ?_, fun c1 => absurd (by show nI _ ≤ nI 0; rw [leI (by omega) (by omega)]; omega) c1⟩
      subst e9
      refine hL _ ⟨adI m 1, kk1.tr kk, fun j j1 j2 => ?_⟩
      by_cases ej : j = m
      · rw [ej]; exact decide_eq_false e0
      · exact hj j j1 (by omega)
  · rintro ⟨M1, v⟩ L ⟨rfl, kk1, hj⟩
    have ed2 : depN S i b = 11 := ffn_at (by omega) (Nat.le_refl _) hj (Or.inl rfl)
    rw [ed2, if_pos rfl] at k
    have hq2 := k.ok (kk1.wk cHR) (h.v kk1 cHS)
    unfold bX10_depth_8
    exact ⟨fun _ => hq2, fun c1 => absurd (by show nI 10 < nI 11; rw [ltI (by omega) (by omega)]; omega) c1⟩
theorem m_early {S : St} {M : Mem} (h : MI S M) (hS : SW S) {Q : Int32 → Mem → Prop} (x y : Int32) (k : ME (oEarly S x y) 1 M Q) : pX11_early M x y Q := by
  unfold pX11_early
  obtain ⟨s1, s2, hD, hW, hK, s5, s6, s7⟩ := id hS
  have hkn := hD.2.1
  have hdn := hD.1
  refine mstart h (fun N hN k0 h0 => ?_)
  obtain ⟨i1, i2, i3, i4, i5, hC, hw, hq, hz, hn⟩ := id hN
  unfold oEarly at k
  refine minR (lo := 1) (m := 10) rfl rfl (by omega) (by omega) (fun m m1 m2 e em => ?_) (fun em => ?_)
  · rw [em] at k
    dsimp only at k
    subst e
    first | refine s1a ?_ | refine s1b ?_
    refine minR (lo := 0) (m := 8) rfl rfl (by omega) (by omega) (fun j _ hj e ej => ?_) (fun ej => ?_)
    · rw [ej] at k
      subst e
      first | refine s1a ?_ | refine s1b ?_
      refine mbad0 h0 ?_
      first | refine s0a ?_ | refine s0b ?_
      rw [hz]
      refine mgoes hD hK s5 s6 m1 (by omega) hC hq hn (fun M' kk hh => ?_)
      have hg := erl_c hD hK (so := tZ S) (m := m) s5 m1
      have hq2 := k.ok (k0.tr (kk.wk mHR)) (hN.v kk mHS) ((kk.g rfl 0).trans h0)
      obtain ⟨n1, n2, n3, n4, e56, eAW, e57, e58, e59, e60, e61, e62⟩ := id hh
      rcases (show j = 0 ∨ j = 1 ∨ j = 2 ∨ j = 3 ∨ j = 4 ∨ j = 5 ∨ j = 6 ∨ j = 7 ∨ j = 8 by omega) with rfl | rfl | rfl | rfl | rfl | rfl | rfl | rfl | rfl
      · try simp (disch := omega) only [li, nO_n, adI, mlI, tnI, vpI, ltI, leI, eqI, forall_eq, leT, leF, ltT, ltF, eqT, eqF, true_and, and_true, false_implies, true_implies, forall_const, not_true_eq_false, not_false_eq_true, implies_true, e56]
        exact hq2
      · try simp (disch := omega) only [li, nO_n, adI, mlI, tnI, vpI, ltI, leI, eqI, forall_eq, leT, leF, ltT, ltF, eqT, eqF, true_and, and_true, false_implies, true_implies, forall_const, not_true_eq_false, not_false_eq_true, implies_true]
        exact mfloor hh hg hD hK s5 s6 m1 (by omega) hq2
      · try simp (disch := omega) only [li, nO_n, adI, mlI, tnI, vpI, ltI, leI, eqI, forall_eq, leT, leF, ltT, ltF, eqT, eqF, true_and, and_true, false_implies, true_implies, forall_const, not_true_eq_false, not_false_eq_true, implies_true, e57]
        exact hq2
      · try simp (disch := omega) only [li, nO_n, adI, mlI, tnI, vpI, ltI, leI, eqI, forall_eq, leT, leF, ltT, ltF, eqT, eqF, true_and, and_true, false_implies, true_implies, forall_const, not_true_eq_false, not_false_eq_true, implies_true, e58]
        exact hq2
      · try simp (disch := omega) only [li, nO_n, adI, mlI, tnI, vpI, ltI, leI, eqI, forall_eq, leT, leF, ltT, ltF, eqT, eqF, true_and, and_true, false_implies, true_implies, forall_const, not_true_eq_false, not_false_eq_true, implies_true, e59]
        exact hq2
      · try simp (disch := omega) only [li, nO_n, adI, mlI, tnI, vpI, ltI, leI, eqI, forall_eq, leT, leF, ltT, ltF, eqT, eqF, true_and, and_true, false_implies, true_implies, forall_const, not_true_eq_false, not_false_eq_true, implies_true, e60]
        exact hq2
      · try simp (disch := omega) only [li, nO_n, adI, mlI, tnI, vpI, ltI, leI, eqI, forall_eq, leT, leF, ltT, ltF, eqT, eqF, true_and, and_true, false_implies, true_implies, forall_const, not_true_eq_false, not_false_eq_true, implies_true, e61]
        exact hq2
      · try simp (disch := omega) only [li, nO_n, adI, mlI, tnI, vpI, ltI, leI, eqI, forall_eq, leT, leF, ltT, ltF, eqT, eqF, true_and, and_true, false_implies, true_implies, forall_const, not_true_eq_false, not_false_eq_true, implies_true, e62]
        exact hq2
      · try simp (disch := omega) only [li, nO_n, adI, mlI, tnI, vpI, ltI, leI, eqI, forall_eq, leT, leF, ltT, ltF, eqT, eqF, true_and, and_true, false_implies, true_implies, forall_const, not_true_eq_false, not_false_eq_true, implies_true]
        exact mspared hD hK s5 s6 m1 (by omega) hh hg hq2
    · rw [ej] at k
      first | refine s0a ?_ | refine s0b ?_
      refine mbadA rfl (Or.inl rfl) hN h0 k0 k (fun M' hb => ?_)
      first | refine s1a ?_ | refine s1b ?_
      exact hb _
  · rw [em] at k
    first | refine s0a ?_ | refine s0b ?_
    refine mbadA rfl (Or.inl rfl) hN h0 k0 k (fun M' hb => ?_)
    first | refine s1a ?_ | refine s1b ?_
    exact hb _
theorem m_best {S : St} {M : Mem} (h : MI S M) (hS : SW S) {Q : Int32 → Mem → Prop} (x y : Int32) (k : ME (oBest S x y) 1 M Q) : pX11_best M x y Q := by
  unfold pX11_best
  obtain ⟨s1, s2, hD, hW, hK, s5, s6, s7⟩ := id hS
  have hkn := hD.2.1
  have hdn := hD.1
  refine mstart h (fun N hN k0 h0 => ?_)
  obtain ⟨i1, i2, i3, i4, i5, hC, hw, hq, hz, hn⟩ := id hN
  unfold oBest at k
  refine minR (lo := 1) (m := 10) rfl rfl (by omega) (by omega) (fun m m1 m2 e em => ?_) (fun em => ?_)
  · rw [em] at k
    dsimp only at k
    subst e
    first | refine s1a ?_ | refine s1b ?_
    refine mbad0 h0 ?_
    first | refine s0a ?_ | refine s0b ?_
    rw [hz]
    refine mgoes hD hK s5 s6 m1 (by omega) hC hq hn (fun M' kk hh => ?_)
    have hg := erl_c hD hK (so := tZ S) (m := m) s5 m1
    have hle : (eG S m).2.1.1 ≤ m := hg.2.1
    obtain ⟨n1, n2, n3, n4, e56, eAW, e57, e58, e59, e60, e61, e62⟩ := id hh
    have e56' : M'.1 1256 0 0 = nI (eG S m).2.1.1 := e56
    refine minN (n := (eG S m).2.1.1) (by rw [e56']; rfl) (by omega) (fun i i2 e ei => ?_) (fun ei => ?_)
    · rw [ei] at k
      subst e
      have hq2 := k.ok (k0.tr (kk.wk mHR)) (hN.v kk mHS) ((kk.g rfl 0).trans h0)
      have z6' : M'.1 1254 0 i = nI ((eG S m).2.1.2 i).1 := (eAW i i2).1
      first | refine s1a ?_ | refine s1b ?_
      try simp (disch := omega) only [li, nO_n, adI, mlI, tnI, vpI, ltI, leI, eqI, forall_eq, leT, leF, ltT, ltF, eqT, eqF, true_and, and_true, false_implies, true_implies, forall_const, not_true_eq_false, not_false_eq_true, implies_true, z6']
      exact hq2
    · rw [ei] at k
      have hq2 := k.ok (k0.tr (kk.wk mHR)) (hN.v kk mHS) ((kk.g rfl 0).trans h0)
      first | refine s0a ?_ | refine s0b ?_
      exact hq2
  · rw [em] at k
    first | refine s0a ?_ | refine s0b ?_
    refine mbadA rfl (Or.inl rfl) hN h0 k0 k (fun M' hb => ?_)
    first | refine s1a ?_ | refine s1b ?_
    exact hb _
theorem m_opened {S : St} {M : Mem} (h : MI S M) (hS : SW S) {Q : Int32 → Mem → Prop} (x y z : Int32) (k : ME (oOpened S x y z) 2 M Q) : pX11_opened M x y z Q := by
  unfold pX11_opened
  obtain ⟨s1, s2, hD, hW, hK, s5, s6, s7⟩ := id hS
  have hkn := hD.2.1
  have hdn := hD.1
  refine mstart h (fun N hN k0 h0 => ?_)
  obtain ⟨i1, i2, i3, i4, i5, hC, hw, hq, hz, hn⟩ := id hN
  have hsn := hK.1
  unfold oOpened at k
  have hno : six S y z = none → ∀ N1, Kp kL N N1 → bX11_opened_42 x y z Q N1 := by
    intro ed N1 k1
    rw [ed] at k
    unfold bX11_opened_42 bX11_opened_45
    first | refine s0a ?_ | refine s0b ?_
    refine mbadN (hN.v k1 mLS) ((k1.g rfl 0).trans h0) (k0.tr (k1.wk mLR)) k (fun M' hb => ?_)
    first | refine s1a ?_ | refine s1b ?_
    exact hb _
  refine minN (n := sN (tK S)) (by rw [hq.n]; rfl) (by omega) (fun i i2 e ei => ?_) (fun ei => ?_)
  · subst e
    first | refine s1a ?_ | refine s1b ?_
    refine mless (a := i) (b := 23) (by omega) (by omega) ?_
    rw [show min i 23 = i by omega]
    refine ⟨(vpI (by omega)).mpr (by omega), ?_⟩
    rw [tnI (by omega), hq.w i2]
    have hwi := (hK.2.2.2.2.1 i i2).1
    have ew : ixr (nI (sW (tK S) i)) 0 (tW S).length = some (sW (tK S) i) := ixr_y (Nat.zero_le _) hwi (by omega)
    have hpn := pN_le (tD S) (sW (tK S) i)
    have hbn := bkN_le s5 (show pN (tD S) (sW (tK S) i) ≤ 64 by omega)
    refine misBlock hN hS (fun w b w1 b1' ex ey ed N1 k1 l1 => ?_) (fun ed N1 k1 => ?_)
    · rw [eqI (by omega) (by omega)] at ex
      subst ex
      have es : six S (nI i) z = some (i, b) := by
        unfold six
        rw [ei]
        dsimp only
        rw [ey, ixr_y (Nat.zero_le _) b1' (by omega)]
      rw [es] at k
      dsimp only at k
      subst ey
      have hN1 := hN.v k1 mLS
      have k01 := k0.tr (k1.wk mLR)
      have h01 : N1.1 1200 0 0 = nI 0 := (k1.g rfl 0).trans h0
      first | refine s1a ?_ | refine s1b ?_
      unfold bX11_opened_45
      first | refine s1a ?_ | refine s1b ?_
      refine mbad0 h01 ?_
      first | refine s0a ?_ | refine s0b ?_
      refine minR (lo := 1) (m := 10) rfl rfl (by omega) (by omega) (fun m m1 m2 e em => ?_) (fun em => ?_)
      · rw [em] at k
        subst e
        first | refine s1a ?_ | refine s1b ?_
        refine mbad0 h01 ?_
        first | refine s0a ?_ | refine s0b ?_
        have hz1 : N1.1 1211 0 0 = nI (tZ S) := hN1.2.2.2.2.2.2.2.2.1
        rw [hz1]
        refine mgoes hD hK s5 s6 m1 (by omega) hN1.2.2.2.2.2.1 hN1.2.2.2.2.2.2.2.1 hN1.2.2.2.2.2.2.2.2.2 (fun M' kk hh => ?_)
        have hq2 := k.ok (k01.tr (kk.wk mHR)) (hN1.v kk mHS) ((kk.g rfl 0).trans h01)
        have e1 : M'.1 6245 i b = nI (cO ((eG S m).1 i) b) := (hh.2.2.2.1 i i2).2.2.2.2.2 b b1'
        try simp (disch := omega) only [li, nO_n, adI, mlI, tnI, vpI, ltI, leI, eqI, forall_eq, leT, leF, ltT, ltF, eqT, eqF, true_and, and_true, false_implies, true_implies, forall_const, not_true_eq_false, not_false_eq_true, implies_true, e1]
        exact hq2
      · rw [em] at k
        first | refine s0a ?_ | refine s0b ?_
        refine mbadA rfl (Or.inr rfl) hN1 h01 k01 k (fun M' hb => ?_)
        first | refine s1a ?_ | refine s1b ?_
        exact hb _
    · first | refine s0a ?_ | refine s0b ?_
      refine hno ?_ N1 k1
      unfold bix at ed
      rw [ew] at ed
      dsimp only at ed
      unfold six
      rw [ei]
      dsimp only
      cases q9 : ixr z 0 (bkN (pN (tD S) (sW (tK S) i)) (tZ S)) with
      | none => rfl
      | some b => rw [q9] at ed; cases ed
  · first | refine s0a ?_ | refine s0b ?_
    exact hno (by unfold six; rw [ei]) N Kp.rf
theorem m_depth {S : St} {M : Mem} (h : MI S M) (hS : SW S) {Q : Int32 → Mem → Prop} (x y : Int32) (k : ME (oDepth S x y) 2 M Q) : pX11_depth M x y Q := by
  unfold pX11_depth
  obtain ⟨s1, s2, hD, hW, hK, s5, s6, s7⟩ := id hS
  have hkn := hD.2.1
  have hdn := hD.1
  refine mstart h (fun N hN k0 h0 => ?_)
  obtain ⟨i1, i2, i3, i4, i5, hC, hw, hq, hz, hn⟩ := id hN
  have hsn := hK.1
  unfold oDepth at k
  have hno : six S x y = none → ∀ N1, Kp kL N N1 → bX11_depth_42 x y Q N1 := by
    intro ed N1 k1
    rw [ed] at k
    unfold bX11_depth_42 bX11_depth_44
    first | refine s0a ?_ | refine s0b ?_
    refine mbadN (hN.v k1 mLS) ((k1.g rfl 0).trans h0) (k0.tr (k1.wk mLR)) k (fun M' hb => ?_)
    first | refine s1a ?_ | refine s1b ?_
    exact hb _
  refine minN (n := sN (tK S)) (by rw [hq.n]; rfl) (by omega) (fun i i2 e ei => ?_) (fun ei => ?_)
  · subst e
    first | refine s1a ?_ | refine s1b ?_
    refine mless (a := i) (b := 23) (by omega) (by omega) ?_
    rw [show min i 23 = i by omega]
    refine ⟨(vpI (by omega)).mpr (by omega), ?_⟩
    rw [tnI (by omega), hq.w i2]
    have hwi := (hK.2.2.2.2.1 i i2).1
    have ew : ixr (nI (sW (tK S) i)) 0 (tW S).length = some (sW (tK S) i) := ixr_y (Nat.zero_le _) hwi (by omega)
    have hpn := pN_le (tD S) (sW (tK S) i)
    have hbn := bkN_le s5 (show pN (tD S) (sW (tK S) i) ≤ 64 by omega)
    refine misBlock hN hS (fun w b w1 b1' ex ey ed N1 k1 l1 => ?_) (fun ed N1 k1 => ?_)
    · rw [eqI (by omega) (by omega)] at ex
      subst ex
      have es : six S (nI i) y = some (i, b) := by
        unfold six
        rw [ei]
        dsimp only
        rw [ey, ixr_y (Nat.zero_le _) b1' (by omega)]
      rw [es] at k
      dsimp only at k
      subst ey
      have hN1 := hN.v k1 mLS
      have k01 := k0.tr (k1.wk mLR)
      have h01 : N1.1 1200 0 0 = nI 0 := (k1.g rfl 0).trans h0
      first | refine s1a ?_ | refine s1b ?_
      unfold bX11_depth_44
      first | refine s1a ?_ | refine s1b ?_
      refine mbad0 h01 ?_
      first | refine s0a ?_ | refine s0b ?_
      refine lp_up (fun m s => s.2 = nI m ∧ Kp kHt N1 s.1 ∧ ∀ j, 1 ≤ j → j < m → decide (0 < cO ((eG S j).1 i) b) = false) (show 1 ≤ 11 by omega) ⟨rfl, Kp.rf, fun j j1 j2 => absurd j2 (by omega)⟩ ?_ ?_
      · rintro m ⟨M1, v⟩ L m1 m2 ⟨rfl, kk1, hj⟩ hL
        have h1 := hN1.v kk1 mHS
        have hz1 : M1.1 1211 0 0 = nI (tZ S) := h1.2.2.2.2.2.2.2.2.1
        unfold bX11_depth_67
        dsimp only
        refine ⟨fun c1 => absurd c1 (by show ¬ nI 10 < nI m; rw [ltI (by omega) (by omega)]; omega), fun _ => ?_⟩
        rw [hz1]
        refine mgoes hD hK s5 s6 m1 (by omega) h1.2.2.2.2.2.1 h1.2.2.2.2.2.2.2.1 h1.2.2.2.2.2.2.2.2.2 (fun M' kk hh => ?_)
        have hg := erl_c hD hK (so := tZ S) (m := m) s5 m1
        have e1 : M'.1 6245 i b = nI (cO ((eG S m).1 i) b) := (hh.2.2.2.1 i i2).2.2.2.2.2 b b1'
        have hle : cO ((eG S m).1 i) b ≤ 1 := (hg.1 i i2).2.2.2.2.2.2.1 b
        refine ⟨(vpI (by omega)).mpr (by omega), (vpI (by omega)).mpr (by omega), ?_⟩
        rw [tnI (by omega), tnI (by omega), e1]
        by_cases e0 : 0 < cO ((eG S m).1 i) b
        · have ed2 : depN S i b = m := ffn_at m1 (by omega) hj (Or.inr (decide_eq_true e0))
          rw [ed2, if_neg (by omega)] at k
          have hq2 := k.ok (k01.tr ((kk1.tr kk).wk mHR)) (hN1.v (kk1.tr kk) mHS) (((kk1.tr kk).g rfl 0).trans h01)
          refine ⟨fun c1 => absurd c1 (by show ¬ nI _ ≤ nI 0; rw [leI (by omega) (by omega)]; omega), fun _ => hq2⟩
        · refine ⟨fun _ v9 e9 => ?_, fun c1 => absurd (by show nI _ ≤ nI 0; rw [leI (by omega) (by omega)]; omega) c1⟩
          subst e9
          refine hL _ ⟨adI m 1, kk1.tr kk, fun j j1 j2 => ?_⟩
          by_cases ej : j = m
          · rw [ej]; exact decide_eq_false e0
          · exact hj j j1 (by omega)
      · rintro ⟨M1, v⟩ L ⟨rfl, kk1, hj⟩
        have ed2 : depN S i b = 11 := ffn_at (by omega) (Nat.le_refl _) hj (Or.inl rfl)
        rw [ed2, if_pos rfl] at k
        have hq2 := k.ok (k01.tr (kk1.wk mHR)) (hN1.v kk1 mHS) ((kk1.g rfl 0).trans h01)
        unfold bX11_depth_67
        exact ⟨fun _ => hq2, fun c1 => absurd (by show nI 10 < nI 11; rw [ltI (by omega) (by omega)]; omega) c1⟩
    · first | refine s0a ?_ | refine s0b ?_
      refine hno ?_ N1 k1
      unfold bix at ed
      rw [ew] at ed
      dsimp only at ed
      unfold six
      rw [ei]
      dsimp only
      cases q9 : ixr y 0 (bkN (pN (tD S) (sW (tK S) i)) (tZ S)) with
      | none => rfl
      | some b => rw [q9] at ed; cases ed
  · first | refine s0a ?_ | refine s0b ?_
    exact hno (by unfold six; rw [ei]) N Kp.rf
