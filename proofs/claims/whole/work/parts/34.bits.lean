/-! PURE: blocks and their bits -/
def gapF (D : Dc) (w k : Nat) : Nat := if k = 0 then pK D w 0 + 1 else pK D w k - pK D w (k - 1)
def mg (D : Dc) (w fr m : Nat) : Nat := mxF (fun j => gapF D w (fr + j)) m
def mc (D : Dc) (w fr m : Nat) : Nat := mxF (fun j => cnt D w (pK D w (fr + j))) m
def mj (D : Dc) (w fr m : Nat) : Nat := mxF (fun j => jmp D w (pK D w (fr + j))) m
def cs (D : Dc) (w fr m : Nat) : Nat := smF (fun j => cnt D w (pK D w (fr + j))) m
def bitB (D : Dc) (w fr m : Nat) : Nat := 32 + m * (wid (mg D w fr m) + wid (mc D w fr m)) + cs D w fr m * wid (mj D w fr m)
/-- how many postings a block has -/
def bkM (D : Dc) (w so b : Nat) : Nat := min (b * so + so) (pN D w) - b * so
def bitL (D : Dc) (w so n : Nat) : Nat := smF (fun b => bitB D w (b * so) (bkM D w so b)) n
def bitA (D : Dc) (so n : Nat) : Nat := smF (fun w => bitL D w so (bkN (pN D w) so)) n
theorem jst_le (w : Nat) (t : Nat → Nat) (k : Nat) : (jst w t k).1 ≤ k ∧ (jst w t k).2 ≤ k := by
  induction k with
  | zero => exact ⟨Nat.le_refl _, Nat.le_refl _⟩
  | succ k ih =>
    unfold jst
    by_cases h : t k = w
    · rw [if_pos h]
      exact ⟨Nat.le_refl _, Nat.max_le.mpr ⟨by omega, by omega⟩⟩
    · rw [if_neg h]
      omega
theorem jmp_le {D : Dc} {kn : Nat} (hD : DW D kn) (w d : Nat) : jmp D w d ≤ 150 := Nat.le_trans (jst_le _ _ _).2 (hD.dl d)
theorem gapF_le {D : Dc} {kn w k : Nat} (hD : DW D kn) (hk : k < pN D w) : gapF D w k ≤ 64 := by
  have hl := hD.1
  unfold gapF
  by_cases h : k = 0
  · rw [if_pos h]; have := pK_lt (D := D) (w := w) (k := 0) (by omega); omega
  · rw [if_neg h]; have := pK_lt hk; omega
theorem bk_div {n so b : Nat} (h2 : 2 ≤ so) : b < bkN n so ↔ b * so < n := by
  unfold bkN
  rw [Nat.lt_div_iff_mul_lt (by omega)]
  have : so * b = b * so := Nat.mul_comm _ _
  constructor <;> intro h <;> omega
theorem bkN_0 {so : Nat} (h2 : 2 ≤ so) : bkN 0 so = 0 := by
  unfold bkN
  exact Nat.div_eq_of_lt (by omega)
theorem bkN_le {n so : Nat} (h2 : 2 ≤ so) (hn : n ≤ 64) : bkN n so ≤ 32 := by
  apply Nat.le_of_not_lt
  intro h
  have := (bk_div h2).mp h
  omega
theorem bkM_pos {D : Dc} {w so b : Nat} (h2 : 2 ≤ so) (h : b * so < pN D w) : 0 < bkM D w so b ∧ b * so + bkM D w so b ≤ pN D w ∧ bkM D w so b ≤ so := by
  unfold bkM
  omega
/-- the fields that a measuring fills -/
def P6 (c _ : Nat) : Bool := decide (c < 600 ∨ 610 ≤ c)
def Ms (D : Dc) (w fr m : Nat) (M : Mem) : Prop := M.1 601 0 0 = nI (pK D w fr) ∧ M.1 602 0 0 = nI (pK D w (fr + m - 1)) ∧ M.1 603 0 0 = nI m ∧ M.1 604 0 0 = nI (topR D w fr m) ∧ M.1 605 0 0 = nI (bitB D w fr m) ∧ M.1 606 0 0 = nI (wid (mg D w fr m)) ∧ M.1 607 0 0 = nI (wid (mc D w fr m)) ∧ M.1 608 0 0 = nI (wid (mj D w fr m))
def bef (D : Dc) (w k : Nat) : Int32 := if k = 0 then nO else nI (pK D w (k - 1))
theorem bef_gap {D : Dc} {w k : Nat} (hk : k < pN D w) : nI (pK D w k) - bef D w k = nI (gapF D w k) := by
  unfold bef gapF
  by_cases h : k = 0
  · subst h
    rw [if_pos rfl, if_pos rfl, nO_sub, adI]
  · rw [if_neg h, if_neg h, sbI]
    have := pK_mono (D := D) (w := w) (i := k - 1) (j := k) (by omega) hk
    omega
theorem cmeasure {D : Dc} {kn : Nat} {M : Mem} (h : CD D M) (hD : DW D kn) {w so b : Nat} (hw : w < 255) (h2 : 2 ≤ so) (h8 : so ≤ 8) (hb : b * so < pN D w) {Q : Mem → Prop} (hQ : ∀ M', Kp P6 M M' → Ms D w (b * so) (bkM D w so b) M' → Q M') : pX5_measure M (nI w) (nI b) (nI so) Q := by
  have hl := hD.1
  have hp := pN_le D w
  obtain ⟨hm0, hm1, hm2⟩ := bkM_pos h2 hb
  have hto : min (b * so + so) (pN D w) = b * so + bkM D w so b := by unfold bkM; omega
  generalize hfr : b * so = fr at hb hm0 hm1 hm2 hto hQ
  generalize hmm : bkM D w so b = m at hm0 hm1 hm2 hto hQ
  have key : bX5_measure_52 (nI w) (nI b) (nI so) Q M (nI fr) (nI (fr + m)) (bef D w fr) := by
    unfold bX5_measure_52
    intro M7 e7
    refine lp_up (fun j s => s.2.1 = nI fr ∧ s.2.2.1 = nI (fr + m) ∧ s.2.2.2.1 = bef D w (fr + j) ∧ s.2.2.2.2.1 = nI (mg D w fr j) ∧ s.2.2.2.2.2.1 = nI (mc D w fr j) ∧ s.2.2.2.2.2.2.1 = nI (mj D w fr j) ∧ s.2.2.2.2.2.2.2.1 = nI (cs D w fr j) ∧ s.2.2.2.2.2.2.2.2 = nI (fr + j) ∧ Kp P6 M s.1 ∧ s.1.1 604 0 0 = nI (topR D w fr j)) (Nat.zero_le m) ⟨rfl, rfl, rfl, rfl, rfl, rfl, rfl, rfl, by rw [e7]; exact Kp.rf.u1 rfl, by rw [e7]; exact up1_eq⟩ ?_ ?_
    · rintro j ⟨m9, y5, y6, y7, y8, y9, y10, y11, y12⟩ L - hlt ⟨rfl, rfl, rfl, rfl, rfl, rfl, rfl, rfl, hK, ht⟩ hL
      have hc : CD D m9 := h.kp (hK.wk (fun c i hc => by simp [pCD, P6] at hc ⊢; omega))
      have hk : fr + j < pN D w := by omega
      have h1 := pK_lt hk
      have h3 := gapF_le hD hk
      have h4 := hD.cn w (pK D w (fr + j))
      have h5 := jmp_le hD w (pK D w (fr + j))
      have h6 : mg D w fr j ≤ 64 := mxF_le (fun k hk2 => gapF_le hD (by omega))
      have h7 : mc D w fr j ≤ 150 := mxF_le (fun k _ => hD.cn _ _)
      have h9 : mj D w fr j ≤ 150 := mxF_le (fun k _ => jmp_le hD _ _)
      have h10 := topR_le D w fr j
      have h11 := gain_le D w (pK D w (fr + j))
      unfold bX5_measure_73
      dsimp only at ht hK ⊢
      simp (disch := omega) only [li, nO_n, adI, mlI, tnI, vpI, ltI, leI, eqI, forall_eq, leT, leF, ltT, ltF, eqT, eqF, true_and, and_true, false_implies, true_implies, forall_const, not_true_eq_false, not_false_eq_true, implies_true, hc.li, bef_gap, mxI, hc.cn, hc.jm]
      refine cgainOf hc hD hw (by omega) ?_
      simp (disch := omega) only [li, nO_n, adI, mlI, tnI, vpI, ltI, leI, eqI, forall_eq, leT, leF, ltT, ltF, eqT, eqF, true_and, and_true, false_implies, true_implies, forall_const, not_true_eq_false, not_false_eq_true, implies_true, ht, mxI]
      refine hL _ ⟨rfl, rfl, ?_, rfl, rfl, rfl, rfl, rfl, hK.u1 rfl, up1_eq⟩
      show nI (pK D w (fr + j)) = bef D w (fr + j + 1)
      unfold bef
      rw [if_neg (by omega)]
      rfl
    · rintro ⟨m9, y5, y6, y7, y8, y9, y10, y11, y12⟩ L ⟨rfl, rfl, rfl, rfl, rfl, rfl, rfl, rfl, hK, ht⟩
      have hc : CD D m9 := h.kp (hK.wk (fun c i hc => by simp [pCD, P6] at hc ⊢; omega))
      have h6 : mg D w fr m ≤ 64 := mxF_le (fun k hk2 => gapF_le hD (by omega))
      have h7 : mc D w fr m ≤ 150 := mxF_le (fun k _ => hD.cn _ _)
      have h9 : mj D w fr m ≤ 150 := mxF_le (fun k _ => jmp_le hD _ _)
      have h1 := pK_lt hb
      have e2 : bef D w (fr + m) = nI (pK D w (fr + m - 1)) := by unfold bef; rw [if_neg (by omega)]
      unfold bX5_measure_73
      dsimp only at ht hK ⊢
      simp (disch := omega) only [li, nO_n, adI, mlI, tnI, vpI, ltI, leI, eqI, forall_eq, leT, leF, ltT, ltF, eqT, eqF, true_and, and_true, false_implies, true_implies, forall_const, not_true_eq_false, not_false_eq_true, implies_true, hc.li, e2, sbI]
      have e3 : fr + m - fr = m := by omega
      rw [e3]
      refine cwidthOf (by omega) ?_
      refine cwidthOf (by omega) ?_
      refine cwidthOf (by omega) ?_
      refine hQ _ (((((((hK.u1 rfl).u1 rfl).u1 rfl).u1 rfl).u1 rfl).u1 rfl).u1 rfl) ?_
      unfold Ms
      simp [up1, ht]
      unfold bitB
      rw [adI, mlI, mlI, adI, adI]
  unfold pX5_measure
  have e1 : nI b * nI so = nI fr := by rw [mlI, hfr]
  have h3 := pK_lt hb
  by_cases h0 : fr = 0
  · have ek : bef D w fr = nO := by unfold bef; rw [if_pos h0]
    rw [ek] at key
    simp (disch := omega) only [li, nO_n, adI, mlI, tnI, vpI, ltI, leI, eqI, forall_eq, leT, leF, ltT, ltF, eqT, eqF, true_and, and_true, false_implies, true_implies, forall_const, not_true_eq_false, not_false_eq_true, implies_true, e1, h.po, mnI, hto, hfr, nO_e]
    exact key
  · have ek : bef D w fr = nI (pK D w (fr - 1)) := by unfold bef; rw [if_neg h0]
    rw [ek] at key
    simp (disch := omega) only [li, nO_n, adI, mlI, tnI, vpI, ltI, leI, eqI, forall_eq, leT, leF, ltT, ltF, eqT, eqF, true_and, and_true, false_implies, true_implies, forall_const, not_true_eq_false, not_false_eq_true, implies_true, e1, h.po, mnI, hto, hfr, sbI, h.li]
    exact key
theorem cbitsOf {D : Dc} {kn : Nat} {M : Mem} (h : CD D M) (hD : DW D kn) {w so : Nat} (hw : w < 255) (h2 : 2 ≤ so) (h8 : so ≤ 8) {Q : Int32 → Mem → Prop} (hQ : ∀ M', Kp P6 M M' → Q (nI (bitL D w so (bkN (pN D w) so))) M') : pX5_bitsOf M (nI w) (nI so) Q := by
  have hl := hD.1
  have hp := pN_le D w
  have hbn := bkN_le (n := pN D w) h2 (by omega)
  unfold pX5_bitsOf
  refine cblocksOf h hD hw h2 h8 ?_
  refine lp_up (fun n s => s.2.1 = nI (bitL D w so n) ∧ s.2.2.1 = nI (bkN (pN D w) so) ∧ s.2.2.2 = nI n ∧ Kp P6 M s.1) (Nat.zero_le (bkN (pN D w) so)) ⟨rfl, rfl, rfl, Kp.rf⟩ ?_ ?_
  · rintro n ⟨m, y3, y4, y5⟩ L - hlt ⟨rfl, rfl, rfl, hK⟩ hL
    have hc : CD D m := h.kp (hK.wk (fun c i hc => by simp [pCD, P6] at hc ⊢; omega))
    unfold bX5_bitsOf_16
    dsimp only at hK ⊢
    simp (disch := omega) only [li, nO_n, adI, mlI, tnI, vpI, ltI, leI, eqI, forall_eq, leT, leF, ltT, ltF, eqT, eqF, true_and, and_true, false_implies, true_implies, forall_const, not_true_eq_false, not_false_eq_true, implies_true]
    refine cmeasure hc hD hw h2 h8 ((bk_div h2).mp hlt) (fun M' k1 k2 => ?_)
    obtain ⟨-, -, -, -, k5, -⟩ := k2
    simp (disch := omega) only [li, nO_n, adI, mlI, tnI, vpI, ltI, leI, eqI, forall_eq, leT, leF, ltT, ltF, eqT, eqF, true_and, and_true, false_implies, true_implies, forall_const, not_true_eq_false, not_false_eq_true, implies_true, k5]
    exact hL _ ⟨rfl, rfl, rfl, hK.tr k1⟩
  · rintro ⟨m, y3, y4, y5⟩ L ⟨rfl, rfl, rfl, hK⟩
    unfold bX5_bitsOf_16
    dsimp only at hK ⊢
    simp (disch := omega) only [li, nO_n, adI, mlI, tnI, vpI, ltI, leI, eqI, forall_eq, leT, leF, ltT, ltF, eqT, eqF, true_and, and_true, false_implies, true_implies, forall_const, not_true_eq_false, not_false_eq_true, implies_true]
    exact hQ m hK
theorem callBits {D : Dc} {kn : Nat} {M : Mem} (h : CD D M) (hD : DW D kn) (hk : M.1 1001 0 0 = nI kn) {so : Nat} (h2 : 2 ≤ so) (h8 : so ≤ 8) {Q : Int32 → Mem → Prop} (hQ : ∀ M', Kp P6 M M' → Q (nI (bitA D so kn)) M') : pX5_allBits M (nI so) Q := by
  have hkn := hD.2.1
  unfold pX5_allBits
  refine lp_up (fun n s => s.2.1 = nI (bitA D so n) ∧ s.2.2 = nI n ∧ Kp P6 M s.1) (Nat.zero_le kn) ⟨rfl, rfl, Kp.rf⟩ ?_ ?_
  · rintro n ⟨m, y2, y3⟩ L - hlt ⟨rfl, rfl, hK⟩ hL
    have hc : CD D m := h.kp (hK.wk (fun c i hc => by simp [pCD, P6] at hc ⊢; omega))
    have hk2 : m.1 1001 0 0 = nI kn := (hK.g rfl 0).trans hk
    unfold bX5_allBits_4
    dsimp only at hK ⊢
    simp (disch := omega) only [li, nO_n, adI, mlI, tnI, vpI, ltI, leI, eqI, forall_eq, leT, leF, ltT, ltF, eqT, eqF, true_and, and_true, false_implies, true_implies, forall_const, not_true_eq_false, not_false_eq_true, implies_true, hk2]
    refine cbitsOf hc hD (by omega) h2 h8 (fun M' k1 => ?_)
    simp (disch := omega) only [li, nO_n, adI, mlI, tnI, vpI, ltI, leI, eqI, forall_eq, leT, leF, ltT, ltF, eqT, eqF, true_and, and_true, false_implies, true_implies, forall_const, not_true_eq_false, not_false_eq_true, implies_true]
    exact hL _ ⟨rfl, rfl, hK.tr k1⟩
  · rintro ⟨m, y2, y3⟩ L ⟨rfl, rfl, hK⟩
    have hk2 : m.1 1001 0 0 = nI kn := (hK.g rfl 0).trans hk
    unfold bX5_allBits_4
    dsimp only at hK ⊢
    simp (disch := omega) only [li, nO_n, adI, mlI, tnI, vpI, ltI, leI, eqI, forall_eq, leT, leF, ltT, ltF, eqT, eqF, true_and, and_true, false_implies, true_implies, forall_const, not_true_eq_false, not_false_eq_true, implies_true, hk2]
    exact hQ m hK
