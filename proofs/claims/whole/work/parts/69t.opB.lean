/-! PURE: operations on blocks, postings, scored words; both sides -/
def bix (S : St) (x y : Int32) : Option (Nat × Nat) := match ixr x 0 (tW S).length with
  | none => none
  | some w => match ixr y 0 (bkN (pN (tD S) w) (tZ S)) with
    | none => none
    | some b => some (w, b)
def pix (S : St) (x y : Int32) : Option (Nat × Nat) := match ixr x 0 (tW S).length with
  | none => none
  | some w => match ixr y 0 (pN (tD S) w) with
    | none => none
    | some b => some (w, b)
def blkV (S : St) (w b : Nat) : Nat → Nat
  | 0 => pK (tD S) w (b * tZ S)
  | 1 => pK (tD S) w (b * tZ S + bkM (tD S) w (tZ S) b - 1)
  | 2 => bkM (tD S) w (tZ S) b
  | 3 => topR (tD S) w (b * tZ S) (bkM (tD S) w (tZ S) b)
  | 4 => bitB (tD S) w (b * tZ S) (bkM (tD S) w (tZ S) b)
  | 5 => wid (mg (tD S) w (b * tZ S) (bkM (tD S) w (tZ S) b))
  | 6 => wid (mc (tD S) w (b * tZ S) (bkM (tD S) w (tZ S) b))
  | _ => wid (mj (tD S) w (b * tZ S) (bkM (tD S) w (tZ S) b))
def oBlock (S : St) (x y z : Int32) : Rs := match bix S x y with
  | none => rfs S 1
  | some q => match ixr z 0 8 with
    | none => rfs S 2
    | some j => okR S (nI (blkV S q.1 q.2 j))
def posV (S : St) (w n : Nat) : Nat → Nat
  | 0 => pK (tD S) w n
  | 1 => cnt (tD S) w (pK (tD S) w n)
  | 2 => gain (tD S) w (pK (tD S) w n)
  | _ => n / tZ S
def oPosting (S : St) (x y z : Int32) : Rs := match pix S x y with
  | none => rfs S 1
  | some q => match ixr z 0 4 with
    | none => rfs S 2
    | some j => okR S (nI (posV S q.1 q.2 j))
def oPosition (S : St) (x y z : Int32) : Rs := match pix S x y with
  | none => rfs S 1
  | some q => okR S (posI (tD S) q.1 (pK (tD S) q.1 q.2) z)
def scV (S : St) (i : Nat) : Nat → Nat
  | 0 => sW (tK S) i
  | 1 => sB (tK S) i
  | 2 => b1 (sM (tK S) i)
  | _ => sB (tK S) i * rare (tD S) (sW (tK S) i) * topR (tD S) (sW (tK S) i) 0 (pN (tD S) (sW (tK S) i))
def oScored (S : St) (x y : Int32) : Rs := match ixr y 0 4 with
  | none => rfs S 2
  | some j => match ixr x 0 (sN (tK S)) with
    | none => okR S nO
    | some i => okR S (nI (scV S i j))
theorem cneedB {S : St} {M : Mem} (h : CI S M) (hS : SW S) {K : String → Mem → Prop} {x y : Int32} {P : Mem → Prop} (hy : ∀ w b, w < (tW S).length → b < bkN (pN (tD S) w) (tZ S) → x = nI w → y = nI b → bix S x y = some (w, b) → P M) (hx : bix S x y = none → K EN (up1 M 1103 0 0 (M.1 1103 0 0 + 1))) : pX10_needBlock M x y P K := by
  obtain ⟨s1, s2, hD, hW, hK, s5, s6, s7⟩ := id hS
  obtain ⟨i1, i2, i3, i4, i5, hC, hw, hq, hz⟩ := id h
  have hkn := hD.2.1
  have hdn := hD.1
  unfold pX10_needBlock
  refine cneedW h hS (fun w w1 e ew => ?_) (fun ew => hx (by unfold bix; rw [ew]))
  subst e
  unfold bX10_needBlock_28 pX10_refuseMissing
  have hpn := pN_le (tD S) w
  have hbn := bkN_le s5 (show pN (tD S) w ≤ 64 by omega)
  rcases ixr_c y (lo := 0) (n := bkN (pN (tD S) w) (tZ S)) (by omega) (by omega) with ⟨e, h1⟩ | ⟨b, -, b2, e, eb⟩
  · have hk2 := hx (by unfold bix; rw [ew]; dsimp only; rw [e])
    refine ⟨fun _ M1 e1 => by subst e1; exact hk2, fun c1 => ?_⟩
    rw [hz]
    refine cblocksOf hC hD (by omega) s5 s6 ⟨fun c2 => ?_, fun _ M1 e1 => by subst e1; exact hk2⟩
    rcases h1 with h1 | h1
    · exact absurd h1 c1
    · exact absurd c2 (le_not_lt h1)
  · have hq2 := hy w b w1 b2 rfl e (by unfold bix; rw [ew]; dsimp only; rw [eb])
    subst e
    refine ⟨fun c1 => absurd c1 (lt0 b (by omega)), fun c1 => ?_⟩
    rw [hz]
    refine cblocksOf hC hD (by omega) s5 s6 ⟨fun _ => hq2, fun c2 => ?_⟩
    rw [ltI (by omega) (by omega)] at c2; exact absurd b2 c2
theorem cneedP {S : St} {M : Mem} (h : CI S M) (hS : SW S) {K : String → Mem → Prop} {x y : Int32} {P : Mem → Prop} (hy : ∀ w b, w < (tW S).length → b < pN (tD S) w → x = nI w → y = nI b → pix S x y = some (w, b) → P M) (hx : pix S x y = none → K EN (up1 M 1103 0 0 (M.1 1103 0 0 + 1))) : pX10_needPosting M x y P K := by
  obtain ⟨s1, s2, hD, hW, hK, s5, s6, s7⟩ := id hS
  obtain ⟨i1, i2, i3, i4, i5, hC, hw, hq, hz⟩ := id h
  have hkn := hD.2.1
  have hdn := hD.1
  unfold pX10_needPosting
  refine cneedW h hS (fun w w1 e ew => ?_) (fun ew => hx (by unfold pix; rw [ew]))
  subst e
  unfold bX10_needPosting_22 pX10_refuseMissing
  have hpn := pN_le (tD S) w
  rcases ixr_c y (lo := 0) (n := pN (tD S) w) (by omega) (by omega) with ⟨e, h1⟩ | ⟨b, -, b2, e, eb⟩
  · have hk2 := hx (by unfold pix; rw [ew]; dsimp only; rw [e])
    refine ⟨fun _ M1 e1 => by subst e1; exact hk2, fun c1 => ⟨(vpI (by omega)).mpr (by omega), ?_⟩⟩
    rw [tnI (by omega), hC.po]
    refine ⟨fun c2 => ?_, fun _ M1 e1 => by subst e1; exact hk2⟩
    rcases h1 with h1 | h1
    · exact absurd h1 c1
    · exact absurd c2 (le_not_lt h1)
  · have hq2 := hy w b w1 b2 rfl e (by unfold pix; rw [ew]; dsimp only; rw [eb])
    subst e
    refine ⟨fun c1 => absurd c1 (lt0 b (by omega)), fun c1 => ⟨(vpI (by omega)).mpr (by omega), ?_⟩⟩
    rw [tnI (by omega), hC.po]
    refine ⟨fun _ => hq2, fun c2 => ?_⟩
    rw [ltI (by omega) (by omega)] at c2; exact absurd b2 c2
theorem c_block {S : St} {M : Mem} (h : CI S M) (hS : SW S) {Q : Int32 → Mem → Prop} {K : String → Mem → Prop} (x y z : Int32) (k : CE (oBlock S x y z) M Q K) : pX10_block M x y z Q K := by
  obtain ⟨s1, s2, hD, hW, hK, s5, s6, s7⟩ := id hS
  obtain ⟨i1, i2, i3, i4, i5, hC, hw, hq, hz⟩ := id h
  have hkn := hD.2.1
  have hdn := hD.1
  unfold oBlock at k
  unfold pX10_block
  refine cneedB h hS (fun w b w1 b1' ex ey ed => ?_) (fun ed => by rw [ed] at k; exact k.no1 Kp.rf h)
  rw [ed] at k
  dsimp only at k
  subst ex ey
  have hb := (bk_div s5).mp b1'
  refine cneed (lo := 0) (m := 7) rfl rfl (by omega) (by omega) (fun j _ hj e ej => ?_) (fun ej => by rw [ej] at k; exact k.no2 Kp.rf h)
  rw [ej] at k
  subst e
  rw [hz]
  refine cmeasure hC hD (by omega) s5 s6 hb (fun M' kk hm => ?_)
  obtain ⟨m1, m2, m3, m4, m5, m6, m7, m8⟩ := hm
  have hq2 := k.ok (kk.wk c6R) (h.v kk c6S)
  rcases (show j = 0 ∨ j = 1 ∨ j = 2 ∨ j = 3 ∨ j = 4 ∨ j = 5 ∨ j = 6 ∨ j = 7 by omega) with rfl | rfl | rfl | rfl | rfl | rfl | rfl | rfl <;> (try simp (disch := omega) only [li, nO_n, adI, mlI, tnI, vpI, ltI, leI, eqI, forall_eq, leT, leF, ltT, ltF, eqT, eqF, true_and, and_true, false_implies, true_implies, forall_const, not_true_eq_false, not_false_eq_true, implies_true, m1, m2, m3, m4, m5, m6, m7, m8]; exact hq2)
theorem c_posting {S : St} {M : Mem} (h : CI S M) (hS : SW S) {Q : Int32 → Mem → Prop} {K : String → Mem → Prop} (x y z : Int32) (k : CE (oPosting S x y z) M Q K) : pX10_posting M x y z Q K := by
  obtain ⟨s1, s2, hD, hW, hK, s5, s6, s7⟩ := id hS
  obtain ⟨i1, i2, i3, i4, i5, hC, hw, hq, hz⟩ := id h
  have hkn := hD.2.1
  have hdn := hD.1
  unfold oPosting at k
  unfold pX10_posting
  refine cneedP h hS (fun w n w1 n1 ex ey ed => ?_) (fun ed => by rw [ed] at k; exact k.no1 Kp.rf h)
  rw [ed] at k
  dsimp only at k
  subst ex ey
  have hpn := pN_le (tD S) w
  have hpk := pK_lt n1
  have e1 := hC.li n1
  refine cneed (lo := 0) (m := 3) rfl rfl (by omega) (by omega) (fun j _ hj e ej => ?_) (fun ej => by rw [ej] at k; exact k.no2 Kp.rf h)
  rw [ej] at k
  subst e
  have hq2 := k.ok Kp.rf h
  rcases (show j = 0 ∨ j = 1 ∨ j = 2 ∨ j = 3 by omega) with rfl | rfl | rfl | rfl
  · try simp (disch := omega) only [li, nO_n, adI, mlI, tnI, vpI, ltI, leI, eqI, forall_eq, leT, leF, ltT, ltF, eqT, eqF, true_and, and_true, false_implies, true_implies, forall_const, not_true_eq_false, not_false_eq_true, implies_true, e1]
    exact hq2
  · try simp (disch := omega) only [li, nO_n, adI, mlI, tnI, vpI, ltI, leI, eqI, forall_eq, leT, leF, ltT, ltF, eqT, eqF, true_and, and_true, false_implies, true_implies, forall_const, not_true_eq_false, not_false_eq_true, implies_true, e1, hC.cn]
    exact hq2
  · try simp (disch := omega) only [li, nO_n, adI, mlI, tnI, vpI, ltI, leI, eqI, forall_eq, leT, leF, ltT, ltF, eqT, eqF, true_and, and_true, false_implies, true_implies, forall_const, not_true_eq_false, not_false_eq_true, implies_true, e1]
    exact cgainOf hC hD (by omega) (by omega) hq2
  · try simp (disch := omega) only [li, nO_n, adI, mlI, tnI, vpI, ltI, leI, eqI, forall_eq, leT, leF, ltT, ltF, eqT, eqF, true_and, and_true, false_implies, true_implies, forall_const, not_true_eq_false, not_false_eq_true, implies_true, e1]
    unfold pX4_blockAt
    have em : max (tZ S) 2 = tZ S := by omega
    try simp (disch := omega) only [li, nO_n, adI, mlI, tnI, vpI, ltI, leI, eqI, forall_eq, leT, leF, ltT, ltF, eqT, eqF, true_and, and_true, false_implies, true_implies, forall_const, not_true_eq_false, not_false_eq_true, implies_true, hz, mxI, em, dvI]
    exact hq2
theorem c_position {S : St} {M : Mem} (h : CI S M) (hS : SW S) {Q : Int32 → Mem → Prop} {K : String → Mem → Prop} (x y z : Int32) (k : CE (oPosition S x y z) M Q K) : pX10_position M x y z Q K := by
  obtain ⟨s1, s2, hD, hW, hK, s5, s6, s7⟩ := id hS
  obtain ⟨i1, i2, i3, i4, i5, hC, hw, hq, hz⟩ := id h
  have hkn := hD.2.1
  have hdn := hD.1
  unfold oPosition at k
  unfold pX10_position
  refine cneedP h hS (fun w n w1 n1 ex ey ed => ?_) (fun ed => by rw [ed] at k; exact k.no1 Kp.rf h)
  rw [ed] at k
  dsimp only at k
  subst ex ey
  have hpn := pN_le (tD S) w
  have hpk := pK_lt n1
  have e1 := hC.li n1
  try simp (disch := omega) only [li, nO_n, adI, mlI, tnI, vpI, ltI, leI, eqI, forall_eq, leT, leF, ltT, ltF, eqT, eqF, true_and, and_true, false_implies, true_implies, forall_const, not_true_eq_false, not_false_eq_true, implies_true, e1]
  exact cpositionOf hC hD (by omega) hpk z (k.ok Kp.rf h)
theorem c_scored {S : St} {M : Mem} (h : CI S M) (hS : SW S) {Q : Int32 → Mem → Prop} {K : String → Mem → Prop} (x y : Int32) (k : CE (oScored S x y) M Q K) : pX10_scored M x y Q K := by
  obtain ⟨s1, s2, hD, hW, hK, s5, s6, s7⟩ := id hS
  obtain ⟨i1, i2, i3, i4, i5, hC, hw, hq, hz⟩ := id h
  have hkn := hD.2.1
  have hdn := hD.1
  have hsn := hK.1
  unfold oScored at k
  unfold pX10_scored
  refine cneed (lo := 0) (m := 3) rfl rfl (by omega) (by omega) (fun j _ hj e ej => ?_) (fun ej => by rw [ej] at k; exact k.no2 Kp.rf h)
  rw [ej] at k
  dsimp only at k
  subst e
  rcases ixr_c x (lo := 0) (n := sN (tK S)) (by omega) (by omega) with ⟨e, h1⟩ | ⟨i, -, i2, e, ei⟩
  · rw [e] at k
    exact chasScored hq rfl hK.1 x (fun j hj q => absurd q (ixr_n (by omega) e hj)) (fun _ => s0a (k.ok Kp.rf h))
  · rw [ei] at k
    subst e
    have hq2 := k.ok Kp.rf h
    obtain ⟨u1, u2⟩ := hK.2.2.2.2.1 i i2
    have e1 := hq.w i2
    have e2 := hq.b i2
    have e3 := hq.m i2
    refine chasScored hq rfl hK.1 _ (fun i' hi' q => ?_) (fun q => absurd rfl (q i i2))
    refine s1a ⟨(vpI (by omega)).mpr (by omega), ?_⟩
    rw [tnI (by omega), e1, e2, e3]
    intro v7 e7
    subst e7
    rcases (show j = 0 ∨ j = 1 ∨ j = 2 ∨ j = 3 by omega) with rfl | rfl | rfl | rfl
    · try simp (disch := omega) only [li, nO_n, adI, mlI, tnI, vpI, ltI, leI, eqI, forall_eq, leT, leF, ltT, ltF, eqT, eqF, true_and, and_true, false_implies, true_implies, forall_const, not_true_eq_false, not_false_eq_true, implies_true]
      exact hq2
    · try simp (disch := omega) only [li, nO_n, adI, mlI, tnI, vpI, ltI, leI, eqI, forall_eq, leT, leF, ltT, ltF, eqT, eqF, true_and, and_true, false_implies, true_implies, forall_const, not_true_eq_false, not_false_eq_true, implies_true]
      exact hq2
    · have hq3 : Q (nI (b1 (sM (tK S) i))) M := hq2
      cases q9 : sM (tK S) i <;> (rw [q9] at hq3; try simp (disch := omega) only [b1, Bool.false_eq_true, if_false, if_true, li, nO_n, adI, mlI, tnI, vpI, ltI, leI, eqI, forall_eq, leT, leF, ltT, ltF, eqT, eqF, true_and, and_true, false_implies, true_implies, forall_const, not_true_eq_false, not_false_eq_true, implies_true]; exact hq3)
    · try simp (disch := omega) only [li, nO_n, adI, mlI, tnI, vpI, ltI, leI, eqI, forall_eq, leT, leF, ltT, ltF, eqT, eqF, true_and, and_true, false_implies, true_implies, forall_const, not_true_eq_false, not_false_eq_true, implies_true]
      refine crareOf hC hD (by omega) (ctopOf hC hD (by omega) ?_)
      try simp (disch := omega) only [li, nO_n, adI, mlI, tnI, vpI, ltI, leI, eqI, forall_eq, leT, leF, ltT, ltF, eqT, eqF, true_and, and_true, false_implies, true_implies, forall_const, not_true_eq_false, not_false_eq_true, implies_true]
      exact hq2
theorem misBlock {S : St} {M : Mem} (h : MI S M) (hS : SW S) {Q : Int32 → Mem → Prop} {x y : Int32} (hy : ∀ w b, w < (tW S).length → b < bkN (pN (tD S) w) (tZ S) → x = nI w → y = nI b → bix S x y = some (w, b) → ∀ M', Kp kL M M' → Ls (tD S) w M' → Q (nI 1) M') (hx : bix S x y = none → ∀ M', Kp kL M M' → Q (nI 0) M') : pX11_isBlock M x y Q := by
  obtain ⟨s1, s2, hD, hW, hK, s5, s6, s7⟩ := id hS
  have hkn := hD.2.1
  have hdn := hD.1
  have hz : M.1 1211 0 0 = nI (tZ S) := h.2.2.2.2.2.2.2.2.1
  have hC := h.2.2.2.2.2.1
  unfold pX11_isBlock
  refine misWord h hS (fun w w1 e ew => ?_) (fun ew => ?_)
  · subst e
    have hpn := pN_le (tD S) w
    have hbn := bkN_le s5 (show pN (tD S) w ≤ 64 by omega)
    refine s1a ?_
    refine mgathers hC hD (by omega) (fun N1 k1 l1 => ?_)
    have hz1 : N1.1 1211 0 0 = nI (tZ S) := (k1.g rfl 0).trans hz
    rw [l1.1, hz1]
    refine mblocksOf (hC.ks hD k1) hD (by omega) s5 s6 ?_
    refine minN (n := bkN (pN (tD S) w) (tZ S)) rfl (by omega) (fun b b2 e eb => ?_) (fun eb => ?_)
    · exact ⟨Or.inr rfl, hy w b w1 b2 rfl e (by unfold bix; rw [ew]; dsimp only; rw [eb]) N1 k1 l1⟩
    · exact ⟨Or.inl rfl, hx (by unfold bix; rw [ew]; dsimp only; rw [eb]) N1 k1⟩
  · exact s0a (hx (by unfold bix; rw [ew]) M Kp.rf)
theorem misPosting {S : St} {M : Mem} (h : MI S M) (hS : SW S) {Q : Int32 → Mem → Prop} {x y : Int32} (hy : ∀ w b, w < (tW S).length → b < pN (tD S) w → x = nI w → y = nI b → pix S x y = some (w, b) → ∀ M', Kp kL M M' → Ls (tD S) w M' → Q (nI 1) M') (hx : pix S x y = none → ∀ M', Kp kL M M' → Q (nI 0) M') : pX11_isPosting M x y Q := by
  obtain ⟨s1, s2, hD, hW, hK, s5, s6, s7⟩ := id hS
  have hkn := hD.2.1
  have hdn := hD.1
  have hC := h.2.2.2.2.2.1
  unfold pX11_isPosting
  refine misWord h hS (fun w w1 e ew => ?_) (fun ew => ?_)
  · subst e
    have hpn := pN_le (tD S) w
    refine s1a ?_
    refine mgathers hC hD (by omega) (fun N1 k1 l1 => ?_)
    refine minN (n := pN (tD S) w) (by rw [l1.1]; rfl) (by omega) (fun b b2 e eb => ?_) (fun eb => ?_)
    · exact ⟨Or.inr rfl, hy w b w1 b2 rfl e (by unfold pix; rw [ew]; dsimp only; rw [eb]) N1 k1 l1⟩
    · exact ⟨Or.inl rfl, hx (by unfold pix; rw [ew]; dsimp only; rw [eb]) N1 k1⟩
  · exact s0a (hx (by unfold pix; rw [ew]) M Kp.rf)
theorem m_block {S : St} {M : Mem} (h : MI S M) (hS : SW S) {Q : Int32 → Mem → Prop} (x y z : Int32) (k : ME (oBlock S x y z) 2 M Q) : pX11_block M x y z Q := by
  unfold pX11_block
  obtain ⟨s1, s2, hD, hW, hK, s5, s6, s7⟩ := id hS
  have hkn := hD.2.1
  have hdn := hD.1
  refine mstart h (fun N hN k0 h0 => ?_)
  obtain ⟨i1, i2, i3, i4, i5, hC, hw, hq, hz, hn⟩ := id hN
  unfold oBlock at k
  refine misBlock hN hS (fun w b w1 b1' ex ey ed N1 k1 l1 => ?_) (fun ed N1 k1 => ?_)
  · rw [ed] at k
    dsimp only at k
    subst ex ey
    have hN1 := hN.v k1 mLS
    have hC1 : MD (tD S) N1 := hC.ks hD k1
    have k01 := k0.tr (k1.wk mLR)
    have h01 : N1.1 1200 0 0 = nI 0 := (k1.g rfl 0).trans h0
    have hz1 : N1.1 1211 0 0 = nI (tZ S) := (k1.g rfl 0).trans hz
    have hpn := pN_le (tD S) w
    have hb := (bk_div s5).mp b1'
    obtain ⟨p1, p2, p3⟩ := bkM_pos s5 hb
    have et : min (pN (tD S) w) (b * tZ S + tZ S) = b * tZ S + bkM (tD S) w (tZ S) b := by unfold bkM; omega
    have em := l1.2 (b * tZ S) hb
    have el := l1.2 (b * tZ S + bkM (tD S) w (tZ S) b - 1) (by omega)
    first | refine s1a ?_ | refine s1b ?_
    refine mbad0 h01 ?_
    first | refine s0a ?_ | refine s0b ?_
    refine minR (lo := 0) (m := 7) rfl rfl (by omega) (by omega) (fun j _ hj e ej => ?_) (fun ej => ?_)
    · rw [ej] at k
      subst e
      first | refine s1a ?_ | refine s1b ?_
      refine mbad0 h01 ?_
      first | refine s0a ?_ | refine s0b ?_
      intro v14 e14
      rw [hz1] at e14
      have e14' : v14 = nI (b * tZ S) := e14.trans (mlI _ _)
      subst e14'
      rw [l1.1, hz1, adI]
      refine mless (by omega) (by omega) ?_
      rw [et]
      have hq2 := k.ok k01 hN1 h01
      have esb : nI (b * tZ S + bkM (tD S) w (tZ S) b) - nI (b * tZ S) = nI (bkM (tD S) w (tZ S) b) := by rw [sbI (by omega)]; congr 1; omega
      have es1 : nI (b * tZ S + bkM (tD S) w (tZ S) b) - nI 1 = nI (b * tZ S + bkM (tD S) w (tZ S) b - 1) := sbI (by omega)
      rcases (show j = 0 ∨ j = 1 ∨ j = 2 ∨ j = 3 ∨ j = 4 ∨ j = 5 ∨ j = 6 ∨ j = 7 by omega) with rfl | rfl | rfl | rfl | rfl | rfl | rfl | rfl
      · try simp (disch := omega) only [li, nO_n, adI, mlI, tnI, vpI, ltI, leI, eqI, forall_eq, leT, leF, ltT, ltF, eqT, eqF, true_and, and_true, false_implies, true_implies, forall_const, not_true_eq_false, not_false_eq_true, implies_true, em]
        exact hq2
      · try simp (disch := omega) only [li, nO_n, adI, mlI, tnI, vpI, ltI, leI, eqI, forall_eq, leT, leF, ltT, ltF, eqT, eqF, true_and, and_true, false_implies, true_implies, forall_const, not_true_eq_false, not_false_eq_true, implies_true, es1, el]
        exact hq2
      · try simp (disch := omega) only [li, nO_n, adI, mlI, tnI, vpI, ltI, leI, eqI, forall_eq, leT, leF, ltT, ltF, eqT, eqF, true_and, and_true, false_implies, true_implies, forall_const, not_true_eq_false, not_false_eq_true, implies_true, esb]
        exact hq2
      · try simp (disch := omega) only [li, nO_n, adI, mlI, tnI, vpI, ltI, leI, eqI, forall_eq, leT, leF, ltT, ltF, eqT, eqF, true_and, and_true, false_implies, true_implies, forall_const, not_true_eq_false, not_false_eq_true, implies_true]
        exact mtop hC1 hD (by omega) p2 l1 hq2
      · try simp (disch := omega) only [li, nO_n, adI, mlI, tnI, vpI, ltI, leI, eqI, forall_eq, leT, leF, ltT, ltF, eqT, eqF, true_and, and_true, false_implies, true_implies, forall_const, not_true_eq_false, not_false_eq_true, implies_true]
        exact mbitsOfBlock hC1 hD (by omega) p2 l1 hq2
      · try simp (disch := omega) only [li, nO_n, adI, mlI, tnI, vpI, ltI, leI, eqI, forall_eq, leT, leF, ltT, ltF, eqT, eqF, true_and, and_true, false_implies, true_implies, forall_const, not_true_eq_false, not_false_eq_true, implies_true, sbI]
        exact mwidth hC1 hD (k := 0) (by omega) (by omega) p2 l1 hq2
      · try simp (disch := omega) only [li, nO_n, adI, mlI, tnI, vpI, ltI, leI, eqI, forall_eq, leT, leF, ltT, ltF, eqT, eqF, true_and, and_true, false_implies, true_implies, forall_const, not_true_eq_false, not_false_eq_true, implies_true, sbI]
        exact mwidth hC1 hD (k := 1) (by omega) (by omega) p2 l1 hq2
      · try simp (disch := omega) only [li, nO_n, adI, mlI, tnI, vpI, ltI, leI, eqI, forall_eq, leT, leF, ltT, ltF, eqT, eqF, true_and, and_true, false_implies, true_implies, forall_const, not_true_eq_false, not_false_eq_true, implies_true, sbI]
        exact mwidth hC1 hD (k := 2) (by omega) (by omega) p2 l1 hq2
    · rw [ej] at k
      first | refine s0a ?_ | refine s0b ?_
      refine mbadA rfl (Or.inr rfl) hN1 h01 k01 k (fun M' hb => ?_)
      first | refine s1a ?_ | refine s1b ?_
      exact hb _
  · rw [ed] at k
    first | refine s0a ?_ | refine s0b ?_
    refine mbadN (hN.v k1 mLS) ((k1.g rfl 0).trans h0) (k0.tr (k1.wk mLR)) k (fun M' hb => ?_)
    first | refine s1a ?_ | refine s1b ?_
    exact hb _
theorem m_posting {S : St} {M : Mem} (h : MI S M) (hS : SW S) {Q : Int32 → Mem → Prop} (x y z : Int32) (k : ME (oPosting S x y z) 2 M Q) : pX11_posting M x y z Q := by
  unfold pX11_posting
  obtain ⟨s1, s2, hD, hW, hK, s5, s6, s7⟩ := id hS
  have hkn := hD.2.1
  have hdn := hD.1
  refine mstart h (fun N hN k0 h0 => ?_)
  obtain ⟨i1, i2, i3, i4, i5, hC, hw, hq, hz, hn⟩ := id hN
  unfold oPosting at k
  refine misPosting hN hS (fun w n w1 n1 ex ey ed N1 k1 l1 => ?_) (fun ed N1 k1 => ?_)
  · rw [ed] at k
    dsimp only at k
    subst ex ey
    have hN1 := hN.v k1 mLS
    have hC1 : MD (tD S) N1 := hC.ks hD k1
    have k01 := k0.tr (k1.wk mLR)
    have h01 : N1.1 1200 0 0 = nI 0 := (k1.g rfl 0).trans h0
    have hz1 : N1.1 1211 0 0 = nI (tZ S) := (k1.g rfl 0).trans hz
    have hpn := pN_le (tD S) w
    have hpk := pK_lt n1
    have el := l1.2 n n1
    first | refine s1a ?_ | refine s1b ?_
    refine mbad0 h01 ?_
    first | refine s0a ?_ | refine s0b ?_
    refine minR (lo := 0) (m := 3) rfl rfl (by omega) (by omega) (fun j _ hj e ej => ?_) (fun ej => ?_)
    · rw [ej] at k
      subst e
      first | refine s1a ?_ | refine s1b ?_
      refine mbad0 h01 ?_
      first | refine s0a ?_ | refine s0b ?_
      have hq2 := k.ok k01 hN1 h01
      rcases (show j = 0 ∨ j = 1 ∨ j = 2 ∨ j = 3 by omega) with rfl | rfl | rfl | rfl
      · try simp (disch := omega) only [li, nO_n, adI, mlI, tnI, vpI, ltI, leI, eqI, forall_eq, leT, leF, ltT, ltF, eqT, eqF, true_and, and_true, false_implies, true_implies, forall_const, not_true_eq_false, not_false_eq_true, implies_true, el]
        exact hq2
      · try simp (disch := omega) only [li, nO_n, adI, mlI, tnI, vpI, ltI, leI, eqI, forall_eq, leT, leF, ltT, ltF, eqT, eqF, true_and, and_true, false_implies, true_implies, forall_const, not_true_eq_false, not_false_eq_true, implies_true, el, hC1.cn]
        exact hq2
      · try simp (disch := omega) only [li, nO_n, adI, mlI, tnI, vpI, ltI, leI, eqI, forall_eq, leT, leF, ltT, ltF, eqT, eqF, true_and, and_true, false_implies, true_implies, forall_const, not_true_eq_false, not_false_eq_true, implies_true, el]
        exact mgain hC1 hD (by omega) (by omega) hq2
      · try simp (disch := omega) only [li, nO_n, adI, mlI, tnI, vpI, ltI, leI, eqI, forall_eq, leT, leF, ltT, ltF, eqT, eqF, true_and, and_true, false_implies, true_implies, forall_const, not_true_eq_false, not_false_eq_true, implies_true, hz1, dvI]
        exact hq2
    · rw [ej] at k
      first | refine s0a ?_ | refine s0b ?_
      refine mbadA rfl (Or.inr rfl) hN1 h01 k01 k (fun M' hb => ?_)
      first | refine s1a ?_ | refine s1b ?_
      exact hb _
  · rw [ed] at k
    first | refine s0a ?_ | refine s0b ?_
    refine mbadN (hN.v k1 mLS) ((k1.g rfl 0).trans h0) (k0.tr (k1.wk mLR)) k (fun M' hb => ?_)
    first | refine s1a ?_ | refine s1b ?_
    exact hb _
theorem m_position {S : St} {M : Mem} (h : MI S M) (hS : SW S) {Q : Int32 → Mem → Prop} (x y z : Int32) (k : ME (oPosition S x y z) 2 M Q) : pX11_position M x y z Q := by
  unfold pX11_position
  obtain ⟨s1, s2, hD, hW, hK, s5, s6, s7⟩ := id hS
  have hkn := hD.2.1
  have hdn := hD.1
  refine mstart h (fun N hN k0 h0 => ?_)
  obtain ⟨i1, i2, i3, i4, i5, hC, hw, hq, hz, hn⟩ := id hN
  unfold oPosition at k
  refine misPosting hN hS (fun w n w1 n1 ex ey ed N1 k1 l1 => ?_) (fun ed N1 k1 => ?_)
  · rw [ed] at k
    dsimp only at k
    subst ex ey
    have hN1 := hN.v k1 mLS
    have hC1 : MD (tD S) N1 := hC.ks hD k1
    have k01 := k0.tr (k1.wk mLR)
    have h01 : N1.1 1200 0 0 = nI 0 := (k1.g rfl 0).trans h0
    have hpn := pN_le (tD S) w
    have hpk := pK_lt n1
    have el := l1.2 n n1
    first | refine s1a ?_ | refine s1b ?_
    refine mbad0 h01 ?_
    first | refine s0a ?_ | refine s0b ?_
    refine ⟨(vpI (by omega)).mpr (by omega), fun v9 e9 => ?_⟩
    rw [tnI (by omega), el] at e9
    subst e9
    exact mpositionL hC1 hD (by omega) hpk z (k.ok k01 hN1 h01)
  · rw [ed] at k
    first | refine s0a ?_ | refine s0b ?_
    refine mbadN (hN.v k1 mLS) ((k1.g rfl 0).trans h0) (k0.tr (k1.wk mLR)) k (fun M' hb => ?_)
    first | refine s1a ?_ | refine s1b ?_
    exact hb _
theorem misMust {S : St} {M : Mem} (h : MI S M) (hS : SW S) {Q : Int32 → Mem → Prop} {i : Nat} (hi : i < sN (tK S)) (hQ : Q (nI (b1 (sM (tK S) i))) M) : pX11_isMust M (nI (sW (tK S) i)) Q := by
  obtain ⟨s1, s2, hD, hW, hK, s5, s6, s7⟩ := id hS
  have hkn := hD.2.1
  have hq := h.2.2.2.2.2.2.2.1
  obtain ⟨ml, m1, m2, m3, m4⟩ := hq.mu
  have hwi := (hK.2.2.2.2.1 i hi).1
  have hin : sW (tK S) i ∈ ml ↔ sM (tK S) i = true := by
    rw [m4]
    constructor
    · rintro ⟨j, j1, j2, j3⟩
      by_cases e : j = i
      · rw [← e]; exact j3
      · rcases Nat.lt_or_gt_of_ne e with e | e
        · exact absurd j2 (hK.2.2.2.2.2.1 j i e hi)
        · exact absurd j2.symm (hK.2.2.2.2.2.1 i j e j1)
    · intro q; exact ⟨i, hi, rfl, q⟩
  have hml : ∀ n, n < ml.length → ml.getD n 0 < 255 := fun n hn => by
    have : ml.getD n 0 ∈ ml := by rw [gd_in hn]; exact List.getElem_mem hn
    obtain ⟨j, j1, j2, -⟩ := (m4 _).mp this
    have := (hK.2.2.2.2.1 j j1).1
    omega
  unfold pX11_isMust
  refine lp_up (fun n s => s = (M, nI n) ∧ ∀ j, j < n → ml.getD j 0 ≠ sW (tK S) i) (Nat.zero_le ml.length) ⟨rfl, fun j hj => absurd hj (Nat.not_lt_zero _)⟩ ?_ ?_
  · rintro n s L - n2 ⟨rfl, hj⟩ hL
    have e3 := m3 n n2
    have e4 := hml n n2
    unfold bX11_isMust_2
    by_cases e : ml.getD n 0 = sW (tK S) i
    · have : sM (tK S) i = true := hin.mp (by rw [← e, gd_in n2]; exact List.getElem_mem n2)
      rw [this] at hQ
      try simp (disch := omega) only [li, nO_n, adI, mlI, tnI, vpI, ltI, leI, eqI, forall_eq, leT, leF, ltT, ltF, eqT, eqF, true_and, and_true, false_implies, true_implies, forall_const, not_true_eq_false, not_false_eq_true, implies_true, m2, e3]
      exact hQ
    · try simp (disch := omega) only [li, nO_n, adI, mlI, tnI, vpI, ltI, leI, eqI, forall_eq, leT, leF, ltT, ltF, eqT, eqF, true_and, and_true, false_implies, true_implies, forall_const, not_true_eq_false, not_false_eq_true, implies_true, m2, e3]
      refine hL _ ⟨rfl, fun j j2 => ?_⟩
      by_cases ej : j = n
      · rw [ej]; exact e
      · exact hj j (by omega)
  · rintro s L ⟨rfl, hj⟩
    have : sM (tK S) i = false := by
      cases q : sM (tK S) i
      · rfl
      · obtain ⟨n, n2, e⟩ := List.getElem_of_mem (hin.mpr q)
        exact absurd (by rw [gd_in n2]; exact e) (hj n n2)
    rw [this] at hQ
    unfold bX11_isMust_2
    try simp (disch := omega) only [li, nO_n, adI, mlI, tnI, vpI, ltI, leI, eqI, forall_eq, leT, leF, ltT, ltF, eqT, eqF, true_and, and_true, false_implies, true_implies, forall_const, not_true_eq_false, not_false_eq_true, implies_true, m2]
    exact hQ
theorem m_scored {S : St} {M : Mem} (h : MI S M) (hS : SW S) {Q : Int32 → Mem → Prop} (x y : Int32) (k : ME (oScored S x y) 1 M Q) : pX11_scored M x y Q := by
  unfold pX11_scored
  obtain ⟨s1, s2, hD, hW, hK, s5, s6, s7⟩ := id hS
  have hkn := hD.2.1
  have hdn := hD.1
  refine mstart h (fun N hN k0 h0 => ?_)
  obtain ⟨i1, i2, i3, i4, i5, hC, hw, hq, hz, hn⟩ := id hN
  have hsn := hK.1
  unfold oScored at k
  refine minR (lo := 0) (m := 3) rfl rfl (by omega) (by omega) (fun j _ hj e ej => ?_) (fun ej => ?_)
  · rw [ej] at k
    dsimp only at k
    subst e
    first | refine s1a ?_ | refine s1b ?_
    refine mbad0 h0 ?_
    first | refine s0a ?_ | refine s0b ?_
    refine minN (n := sN (tK S)) (by rw [hq.n]; rfl) (by omega) (fun i i2 e ei => ?_) (fun ei => ?_)
    · rw [ei] at k
      subst e
      obtain ⟨u1, u2⟩ := hK.2.2.2.2.1 i i2
      have e1 := hq.w i2
      have e2 := hq.b i2
      first | refine s1a ?_ | refine s1b ?_
      refine ⟨(vpI (by omega)).mpr (by omega), fun v12 e12 => ?_⟩
      rw [tnI (by omega), e1] at e12
      subst e12
      rw [tnI (by omega), e2]
      rcases (show j = 0 ∨ j = 1 ∨ j = 2 ∨ j = 3 by omega) with rfl | rfl | rfl | rfl
      · try simp (disch := omega) only [li, nO_n, adI, mlI, tnI, vpI, ltI, leI, eqI, forall_eq, leT, leF, ltT, ltF, eqT, eqF, true_and, and_true, false_implies, true_implies, forall_const, not_true_eq_false, not_false_eq_true, implies_true]
        exact k.ok k0 hN h0
      · try simp (disch := omega) only [li, nO_n, adI, mlI, tnI, vpI, ltI, leI, eqI, forall_eq, leT, leF, ltT, ltF, eqT, eqF, true_and, and_true, false_implies, true_implies, forall_const, not_true_eq_false, not_false_eq_true, implies_true]
        exact k.ok k0 hN h0
      · have hq3 : Q (nI (b1 (sM (tK S) i))) N := k.ok k0 hN h0
        try simp (disch := omega) only [li, nO_n, adI, mlI, tnI, vpI, ltI, leI, eqI, forall_eq, leT, leF, ltT, ltF, eqT, eqF, true_and, and_true, false_implies, true_implies, forall_const, not_true_eq_false, not_false_eq_true, implies_true]
        refine misMust hN hS i2 ?_
        cases q9 : sM (tK S) i <;> (rw [q9] at hq3; try simp (disch := omega) only [b1, Bool.false_eq_true, if_false, if_true, li, nO_n, adI, mlI, tnI, vpI, ltI, leI, eqI, forall_eq, leT, leF, ltT, ltF, eqT, eqF, true_and, and_true, false_implies, true_implies, forall_const, not_true_eq_false, not_false_eq_true, implies_true]; exact hq3)
      · try simp (disch := omega) only [li, nO_n, adI, mlI, tnI, vpI, ltI, leI, eqI, forall_eq, leT, leF, ltT, ltF, eqT, eqF, true_and, and_true, false_implies, true_implies, forall_const, not_true_eq_false, not_false_eq_true, implies_true]
        refine mrare hC hD (by omega) (fun N1 k1 _ => ?_)
        refine mtopOfList (hC.ks hD k1) hD (by omega) (fun N2 k2 => ?_)
        try simp (disch := omega) only [li, nO_n, adI, mlI, tnI, vpI, ltI, leI, eqI, forall_eq, leT, leF, ltT, ltF, eqT, eqF, true_and, and_true, false_implies, true_implies, forall_const, not_true_eq_false, not_false_eq_true, implies_true]
        exact k.ok (k0.tr ((k1.tr k2).wk mLR)) (hN.v (k1.tr k2) mLS) (((k1.tr k2).g rfl 0).trans h0)
    · rw [ei] at k
      first | refine s0a ?_ | refine s0b ?_
      exact k.ok k0 hN h0
  · rw [ej] at k
    first | refine s0a ?_ | refine s0b ?_
    refine mbadA rfl (Or.inl rfl) hN h0 k0 k (fun M' hb => ?_)
    first | refine s1a ?_ | refine s1b ?_
    exact hb _
