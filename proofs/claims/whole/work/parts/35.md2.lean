/-! PURE: the reference, what a list and its blocks tell -/
theorem MD.ks {D : Dc} {kn : Nat} {M : Mem} (h : MD D M) (hD : DW D kn) {M' : Mem} (k : Kp kL M M') : MD D M' := h.kp (k.wk (fun c i hc => by simp [pMD, kL] at hc ⊢; omega))
theorem mrare {D : Dc} {kn : Nat} {M : Mem} (h : MD D M) (hD : DW D kn) {w : Nat} (hw : w < 256) {Q : Int32 → Mem → Prop} (hQ : ∀ M', Kp kL M M' → Ls D w M' → Q (nI (rare D w)) M') : pX11_rare M (nI w) Q := by
  have hl := hD.1
  have hp := pN_le D w
  have hkp : keptN D ≤ D.length := ctF_le _ _
  unfold pX11_rare
  refine mgathers h hD hw (fun M2 k2 l2 => ?_)
  have h2 := h.ks hD k2
  have hQ2 := hQ M2 k2 l2
  unfold rare at hQ2
  by_cases e : pN D w = 0
  · rw [if_pos e] at hQ2
    try simp (disch := omega) only [li, nO_n, adI, mlI, tnI, vpI, ltI, leI, eqI, forall_eq, leT, leF, ltT, ltF, eqT, eqF, true_and, and_true, false_implies, true_implies, forall_const, not_true_eq_false, not_false_eq_true, implies_true, l2.1, e]
    exact hQ2
  · rw [if_neg e] at hQ2
    try simp (disch := omega) only [li, nO_n, adI, mlI, tnI, vpI, ltI, leI, eqI, forall_eq, leT, leF, ltT, ltF, eqT, eqF, true_and, and_true, false_implies, true_implies, forall_const, not_true_eq_false, not_false_eq_true, implies_true, l2.1]
    refine mkept h2 hD ?_
    try simp (disch := omega) only [li, nO_n, adI, mlI, tnI, vpI, ltI, leI, eqI, forall_eq, leT, leF, ltT, ltF, eqT, eqF, true_and, and_true, false_implies, true_implies, forall_const, not_true_eq_false, not_false_eq_true, implies_true, l2.1, dvI]
    have hdv := Nat.div_le_self (keptN D) (pN D w)
    generalize keptN D / pN D w = v at hQ2 hdv
    refine lp_rule (fun s => s.1 = M2 ∧ ∃ a b : Nat, s.2.1 = nI a ∧ s.2.2 = nI b ∧ b ≤ 64 ∧ a + hlv b = 1 + hlv v) (fun s => tn s.2.2) ?_ ⟨rfl, 1, v, rfl, rfl, by omega, rfl⟩
    rintro ⟨m, y1, y2⟩ ⟨rfl, a, b, rfl, rfl, hb, e2⟩ L hL
    unfold bX11_rare_26
    rw [hlv] at e2
    by_cases h2 : b ≤ 1
    · rw [if_pos h2] at e2
      try simp (disch := omega) only [li, nO_n, adI, mlI, tnI, vpI, ltI, leI, eqI, forall_eq, leT, leF, ltT, ltF, eqT, eqF, true_and, and_true, false_implies, true_implies, forall_const, not_true_eq_false, not_false_eq_true, implies_true]
      have : a = 1 + hlv v := by omega
      rw [this]
      exact hQ2
    · rw [if_neg h2] at e2
      try simp (disch := omega) only [li, nO_n, adI, mlI, tnI, vpI, ltI, leI, eqI, forall_eq, leT, leF, ltT, ltF, eqT, eqF, true_and, and_true, false_implies, true_implies, forall_const, not_true_eq_false, not_false_eq_true, implies_true, dvI]
      refine hL _ ⟨rfl, a + 1, b / 2, rfl, rfl, by omega, by omega⟩ ?_
      show tn (nI (b / 2)) < tn (nI b)
      rw [tnI (by omega), tnI (by omega)]
      omega
theorem mtop {D : Dc} {kn : Nat} {M : Mem} (h : MD D M) (hD : DW D kn) {w fr m : Nat} (hw : w < 256) (hm : fr + m ≤ pN D w) (hs : Ls D w M) {Q : Int32 → Mem → Prop} (hQ : Q (nI (topR D w fr m)) M) : pX11_top M (nI w) (nI fr) (nI (fr + m)) Q := by
  have hl := hD.1
  have hp := pN_le D w
  unfold pX11_top
  refine lp_fn (g := fun n => (M, nI (topR D w fr n), nI (fr + n))) (Nat.zero_le m) (fun n L _ hlt hL => ?_) (fun L => ?_)
  · unfold bX11_top_6
    have hk : fr + n < pN D w := by omega
    have h1 := pK_lt hk
    have h2 := topR_le D w fr n
    have h3 := gain_le D w (pK D w (fr + n))
    try simp (disch := omega) only [li, nO_n, adI, mlI, tnI, vpI, ltI, leI, eqI, forall_eq, leT, leF, ltT, ltF, eqT, eqF, true_and, and_true, false_implies, true_implies, forall_const, not_true_eq_false, not_false_eq_true, implies_true, hs.2]
    refine mgain h hD hw (by omega) ?_
    refine mmore (by omega) (by omega) ?_
    try simp (disch := omega) only [li, nO_n, adI, mlI, tnI, vpI, ltI, leI, eqI, forall_eq, leT, leF, ltT, ltF, eqT, eqF, true_and, and_true, false_implies, true_implies, forall_const, not_true_eq_false, not_false_eq_true, implies_true]
    exact hL
  · unfold bX11_top_6
    try simp (disch := omega) only [li, nO_n, adI, mlI, tnI, vpI, ltI, leI, eqI, forall_eq, leT, leF, ltT, ltF, eqT, eqF, true_and, and_true, false_implies, true_implies, forall_const, not_true_eq_false, not_false_eq_true, implies_true]
    exact hQ
theorem mpositionGap {D : Dc} {kn : Nat} {M : Mem} (h : MD D M) (hD : DW D kn) {w d : Nat} (hd : d < 64) {Q : Int32 → Mem → Prop} (hw : w < 2147483648) (hT : ∀ p, p < dL D d → dT D d p < 256) (hQ : Q (nI (jmp D w d)) M) : pX11_positionGap M (nI w) (nI d) Q := by
  have hdl := hD.dl d
  unfold pX11_positionGap
  have e0 : ((M, 0, (-1), 0) : Mem × Int32 × Int32 × Int32) = (fun n => (M, nI (jst w (dT D d) n).2, nI (jst w (dT D d) n).1 - nI 1, nI n)) 0 := rfl
  rw [e0]
  refine lp_fn (g := fun n => (M, nI (jst w (dT D d) n).2, nI (jst w (dT D d) n).1 - nI 1, nI n)) (Nat.zero_le (dL D d)) (fun n L _ hlt hL => ?_) (fun L => ?_)
  · unfold bX11_positionGap_8 bX11_positionGap_49
    have h1 := jst_le w (dT D d) n
    have h2 := hT n hlt
    have h3 := h.tx hlt
    by_cases e : dT D d n = w
    · have e2 : jst w (dT D d) (n + 1) = (n + 1, max (jst w (dT D d) n).2 (n + 1 - (jst w (dT D d) n).1)) := by show (if dT D d n = w then _ else _) = _; rw [if_pos e]
      simp only [e2] at hL
      try simp (disch := omega) only [li, nO_n, adI, mlI, tnI, vpI, ltI, leI, eqI, forall_eq, leT, leF, ltT, ltF, eqT, eqF, true_and, and_true, false_implies, true_implies, forall_const, not_true_eq_false, not_false_eq_true, implies_true, h.len, h3, e, sb1]
      refine mmore (by omega) (by omega) ?_
      rw [sbs] at hL
      exact hL
    · have e2 : jst w (dT D d) (n + 1) = jst w (dT D d) n := by show (if dT D d n = w then _ else _) = _; rw [if_neg e]
      simp only [e2] at hL
      try simp (disch := omega) only [li, nO_n, adI, mlI, tnI, vpI, ltI, leI, eqI, forall_eq, leT, leF, ltT, ltF, eqT, eqF, true_and, and_true, false_implies, true_implies, forall_const, not_true_eq_false, not_false_eq_true, implies_true, h.len, h3]
      exact hL
  · unfold bX11_positionGap_8
    try simp (disch := omega) only [li, nO_n, adI, mlI, tnI, vpI, ltI, leI, eqI, forall_eq, leT, leF, ltT, ltF, eqT, eqF, true_and, and_true, false_implies, true_implies, forall_const, not_true_eq_false, not_false_eq_true, implies_true, h.len]
    exact hQ
/-- a width of a block of the list that was gathered -/
def wdt (D : Dc) (w fr m k : Nat) : Nat := if k = 0 then wid (mg D w fr m) else if k = 1 then wid (mc D w fr m) else wid (mj D w fr m)
theorem mwidth {D : Dc} {kn : Nat} {M : Mem} (h : MD D M) (hD : DW D kn) {w fr m k : Nat} (hw : w < 256) (hk3 : k < 3) (hm : fr + m ≤ pN D w) (hs : Ls D w M) {Q : Int32 → Mem → Prop} (hQ : Q (nI (wdt D w fr m k)) M) : pX11_width M (nI w) (nI fr) (nI (fr + m)) (nI k) Q := by
  have hl := hD.1
  have hkn := hD.2.1
  have hp := pN_le D w
  obtain ⟨f, hf⟩ : ∃ f : Nat → Nat, f = if k = 0 then (fun j => gapF D w (fr + j)) else if k = 1 then (fun j => cnt D w (pK D w (fr + j))) else (fun j => jmp D w (pK D w (fr + j))) := ⟨_, rfl⟩
  have hb : ∀ j, j < m → f j ≤ 150 := fun j hj => by
    rw [hf]
    rcases (show k = 0 ∨ k = 1 ∨ k = 2 by omega) with rfl | rfl | rfl
    · have := gapF_le hD (w := w) (k := fr + j) (by omega)
      show gapF D w (fr + j) ≤ 150
      omega
    · exact hD.cn _ _
    · exact jmp_le hD _ _
  have hw2 : wdt D w fr m k = wid (mxF f m) := by
    rw [hf]
    rcases (show k = 0 ∨ k = 1 ∨ k = 2 by omega) with rfl | rfl | rfl <;> rfl
  unfold pX11_width
  refine lp_fn (g := fun n => (M, nI (mxF f n), nI (fr + n))) (Nat.zero_le m) (fun n L _ hlt hL => ?_) (fun L => ?_)
  · have hkk : fr + n < pN D w := by omega
    have h1 := pK_lt hkk
    have h2 : mxF f n ≤ 150 := mxF_le (fun j hj => hb j (by omega))
    have h3 := hD.cn w (pK D w (fr + n))
    have h4 := jmp_le hD w (pK D w (fr + n))
    have hL2 : L (M, nI (max (mxF f n) (f n)), nI (fr + n + 1)) := hL
    unfold bX11_width_6 bX11_width_57 bX11_width_79 bX11_width_99
    rcases (show k = 0 ∨ k = 1 ∨ k = 2 by omega) with rfl | rfl | rfl
    · have ef : f n = gapF D w (fr + n) := by rw [hf]; rfl
      have hg := gapF_le hD hkk
      rw [ef] at hL2
      by_cases e : fr + n = 0
      · have eg : gapF D w (fr + n) = pK D w (fr + n) + 1 := by unfold gapF; rw [if_pos e, e]
        rw [eg] at hL2 hg
        try simp (disch := omega) only [li, nO_n, adI, mlI, tnI, vpI, ltI, leI, eqI, forall_eq, leT, leF, ltT, ltF, eqT, eqF, true_and, and_true, false_implies, true_implies, forall_const, not_true_eq_false, not_false_eq_true, implies_true, hs.2]
        refine mmore (by omega) (by omega) ?_
        try simp (disch := omega) only [li, nO_n, adI, mlI, tnI, vpI, ltI, leI, eqI, forall_eq, leT, leF, ltT, ltF, eqT, eqF, true_and, and_true, false_implies, true_implies, forall_const, not_true_eq_false, not_false_eq_true, implies_true]
        exact hL2
      · have eg : gapF D w (fr + n) = pK D w (fr + n) - pK D w (fr + n - 1) := by unfold gapF; rw [if_neg e]
        have hmo := pK_mono (D := D) (w := w) (i := fr + n - 1) (j := fr + n) (by omega) hkk
        rw [eg] at hL2 hg
        try simp (disch := omega) only [li, nO_n, adI, mlI, tnI, vpI, ltI, leI, eqI, forall_eq, leT, leF, ltT, ltF, eqT, eqF, true_and, and_true, false_implies, true_implies, forall_const, not_true_eq_false, not_false_eq_true, implies_true, hs.2, sbI]
        refine mmore (by omega) (by omega) ?_
        try simp (disch := omega) only [li, nO_n, adI, mlI, tnI, vpI, ltI, leI, eqI, forall_eq, leT, leF, ltT, ltF, eqT, eqF, true_and, and_true, false_implies, true_implies, forall_const, not_true_eq_false, not_false_eq_true, implies_true]
        exact hL2
    · have ef : f n = cnt D w (pK D w (fr + n)) := by rw [hf]; rfl
      rw [ef] at hL2
      try simp (disch := omega) only [li, nO_n, adI, mlI, tnI, vpI, ltI, leI, eqI, forall_eq, leT, leF, ltT, ltF, eqT, eqF, true_and, and_true, false_implies, true_implies, forall_const, not_true_eq_false, not_false_eq_true, implies_true, hs.2, h.cn]
      refine mmore (by omega) (by omega) ?_
      try simp (disch := omega) only [li, nO_n, adI, mlI, tnI, vpI, ltI, leI, eqI, forall_eq, leT, leF, ltT, ltF, eqT, eqF, true_and, and_true, false_implies, true_implies, forall_const, not_true_eq_false, not_false_eq_true, implies_true]
      exact hL2
    · have ef : f n = jmp D w (pK D w (fr + n)) := by rw [hf]; rfl
      rw [ef] at hL2
      try simp (disch := omega) only [li, nO_n, adI, mlI, tnI, vpI, ltI, leI, eqI, forall_eq, leT, leF, ltT, ltF, eqT, eqF, true_and, and_true, false_implies, true_implies, forall_const, not_true_eq_false, not_false_eq_true, implies_true, hs.2]
      refine mpositionGap h hD (by omega) (by omega) (fun p hp => by have := (hD.2.2 _ h1).2.2.2.2 p hp; omega) ?_
      refine mmore (by omega) (by omega) ?_
      try simp (disch := omega) only [li, nO_n, adI, mlI, tnI, vpI, ltI, leI, eqI, forall_eq, leT, leF, ltT, ltF, eqT, eqF, true_and, and_true, false_implies, true_implies, forall_const, not_true_eq_false, not_false_eq_true, implies_true]
      exact hL2
  · have h2 : mxF f m ≤ 150 := mxF_le hb
    unfold bX11_width_6
    try simp (disch := omega) only [li, nO_n, adI, mlI, tnI, vpI, ltI, leI, eqI, forall_eq, leT, leF, ltT, ltF, eqT, eqF, true_and, and_true, false_implies, true_implies, forall_const, not_true_eq_false, not_false_eq_true, implies_true]
    refine mwidthOf (by omega) ?_
    rw [hw2] at hQ
    exact hQ
theorem mbitsOfBlock {D : Dc} {kn : Nat} {M : Mem} (h : MD D M) (hD : DW D kn) {w fr m : Nat} (hw : w < 256) (hm : fr + m ≤ pN D w) (hs : Ls D w M) {Q : Int32 → Mem → Prop} (hQ : Q (nI (bitB D w fr m)) M) : pX11_bitsOfBlock M (nI w) (nI fr) (nI (fr + m)) Q := by
  have hl := hD.1
  have hp := pN_le D w
  unfold pX11_bitsOfBlock
  simp only [li]
  refine mwidth h hD hw (by omega) hm hs ?_
  refine mwidth h hD hw (by omega) hm hs ?_
  refine mwidth h hD hw (by omega) hm hs ?_
  try simp (disch := omega) only [li, nO_n, adI, mlI, tnI, vpI, ltI, leI, eqI, forall_eq, leT, leF, ltT, ltF, eqT, eqF, true_and, and_true, false_implies, true_implies, forall_const, not_true_eq_false, not_false_eq_true, implies_true]
  have e2 : wdt D w fr m 2 = wid (mj D w fr m) := rfl
  have e0 : wdt D w fr m 0 = wid (mg D w fr m) := rfl
  have e1 : wdt D w fr m 1 = wid (mc D w fr m) := rfl
  rw [e0, e1, e2]
  generalize hA : wid (mg D w fr m) + wid (mc D w fr m) = A
  generalize hB : wid (mj D w fr m) = B
  have hv : bitB D w fr m = 32 + m * A + cs D w fr m * B := by unfold bitB; rw [hA, hB]
  rw [hv] at hQ
  have e9 : ((M, nI 32, nI B, nI A, nI fr) : Mem × Int32 × Int32 × Int32 × Int32) = (fun n => (M, nI (32 + n * A + cs D w fr n * B), nI B, nI A, nI (fr + n))) 0 := by simp [cs, smF]
  rw [e9]
  refine lp_fn (g := fun n => (M, nI (32 + n * A + cs D w fr n * B), nI B, nI A, nI (fr + n))) (a := 0) (Nat.zero_le m) (fun n L _ hlt hL => ?_) (fun L => ?_)
  · have hk : fr + n < pN D w := by omega
    have h1 := pK_lt hk
    have e3 : 32 + (n + 1) * A + cs D w fr (n + 1) * B = 32 + n * A + cs D w fr n * B + (A + B * cnt D w (pK D w (fr + n))) := by
      have : cs D w fr (n + 1) = cs D w fr n + cnt D w (pK D w (fr + n)) := rfl
      rw [this, Nat.add_mul, Nat.add_mul, Nat.one_mul, Nat.mul_comm (cnt D w (pK D w (fr + n))) B]
      omega
    simp only [e3] at hL
    unfold bX11_bitsOfBlock_36
    try simp (disch := omega) only [li, nO_n, adI, mlI, tnI, vpI, ltI, leI, eqI, forall_eq, leT, leF, ltT, ltF, eqT, eqF, true_and, and_true, false_implies, true_implies, forall_const, not_true_eq_false, not_false_eq_true, implies_true, hs.2, h.cn]
    exact hL
  · unfold bX11_bitsOfBlock_36
    try simp (disch := omega) only [li, nO_n, adI, mlI, tnI, vpI, ltI, leI, eqI, forall_eq, leT, leF, ltT, ltF, eqT, eqF, true_and, and_true, false_implies, true_implies, forall_const, not_true_eq_false, not_false_eq_true, implies_true]
    exact hQ
theorem mbitsOf {D : Dc} {kn : Nat} {M : Mem} (h : MD D M) (hD : DW D kn) {w so : Nat} (hw : w < 256) (h2 : 2 ≤ so) (h8 : so ≤ 8) {Q : Int32 → Mem → Prop} (hQ : ∀ M', Kp kL M M' → Q (nI (bitL D w so (bkN (pN D w) so))) M') : pX11_bitsOf M (nI w) (nI so) Q := by
  have hl := hD.1
  have hp := pN_le D w
  unfold pX11_bitsOf
  refine mgathers h hD hw (fun M2 k2 l2 => ?_)
  have hm2 := h.ks hD k2
  have hQ2 := hQ M2 k2
  have hbn := bkN_le (n := pN D w) h2 (by omega)
  have hmul : ∀ n, n ≤ bkN (pN D w) so → n * so ≤ 1000 := fun n hn => by
    have : n * so ≤ 32 * 8 := Nat.mul_le_mul (by omega) h8
    omega
  have e00 : ((M2, 0, 0) : Mem × Int32 × Int32) = (fun n => (M2, nI (bitL D w so n), nI (n * so))) 0 := by simp; exact ⟨rfl, rfl⟩
  rw [e00]
  refine lp_fn (g := fun n => (M2, nI (bitL D w so n), nI (n * so))) (Nat.zero_le (bkN (pN D w) so)) (fun n L _ hlt hL => ?_) (fun L => ?_)
  · have hk := (bk_div h2).mp hlt
    obtain ⟨hm0, hm1, hm3⟩ := bkM_pos (D := D) (w := w) h2 hk
    have hto : min (pN D w) (n * so + so) = n * so + bkM D w so n := by unfold bkM; omega
    have hmn := hmul n (by omega)
    have e1 : (n + 1) * so = n * so + so := by rw [Nat.add_mul, Nat.one_mul]
    simp only [e1] at hL
    unfold bX11_bitsOf_10
    try simp (disch := omega) only [li, nO_n, adI, mlI, tnI, vpI, ltI, leI, eqI, forall_eq, leT, leF, ltT, ltF, eqT, eqF, true_and, and_true, false_implies, true_implies, forall_const, not_true_eq_false, not_false_eq_true, implies_true, l2.1]
    refine mless (by omega) (by omega) ?_
    rw [hto]
    refine mbitsOfBlock hm2 hD hw hm1 l2 ?_
    try simp (disch := omega) only [li, nO_n, adI, mlI, tnI, vpI, ltI, leI, eqI, forall_eq, leT, leF, ltT, ltF, eqT, eqF, true_and, and_true, false_implies, true_implies, forall_const, not_true_eq_false, not_false_eq_true, implies_true]
    exact hL
  · have hk : ¬ bkN (pN D w) so * so < pN D w := fun q => by have := (bk_div (n := pN D w) h2).mpr q; omega
    have hmn := hmul _ (Nat.le_refl (bkN (pN D w) so))
    unfold bX11_bitsOf_10
    try simp (disch := omega) only [li, nO_n, adI, mlI, tnI, vpI, ltI, leI, eqI, forall_eq, leT, leF, ltT, ltF, eqT, eqF, true_and, and_true, false_implies, true_implies, forall_const, not_true_eq_false, not_false_eq_true, implies_true, l2.1]
    exact hQ2
theorem mbitsOfAll {D : Dc} {kn : Nat} {M : Mem} (h : MD D M) (hD : DW D kn) (hk : M.1 1210 0 0 = nI kn) {so : Nat} (h2 : 2 ≤ so) (h8 : so ≤ 8) {Q : Int32 → Mem → Prop} (hQ : ∀ M', Kp kL M M' → Q (nI (bitA D so kn)) M') : pX11_bitsOfAll M (nI so) Q := by
  have hkn := hD.2.1
  unfold pX11_bitsOfAll
  refine lp_up (fun n s => s.2.1 = nI (bitA D so n) ∧ s.2.2 = nI n ∧ Kp kL M s.1) (Nat.zero_le kn) ⟨rfl, rfl, Kp.rf⟩ ?_ ?_
  · rintro n ⟨m, y2, y3⟩ L - hlt ⟨rfl, rfl, hK⟩ hL
    have hc := h.ks hD hK
    have hk2 : m.1 1210 0 0 = nI kn := (hK.g rfl 0).trans hk
    unfold bX11_bitsOfAll_4
    dsimp only at hK ⊢
    try simp (disch := omega) only [li, nO_n, adI, mlI, tnI, vpI, ltI, leI, eqI, forall_eq, leT, leF, ltT, ltF, eqT, eqF, true_and, and_true, false_implies, true_implies, forall_const, not_true_eq_false, not_false_eq_true, implies_true, hk2]
    refine mbitsOf hc hD (by omega) h2 h8 (fun M' k1 => ?_)
    try simp (disch := omega) only [li, nO_n, adI, mlI, tnI, vpI, ltI, leI, eqI, forall_eq, leT, leF, ltT, ltF, eqT, eqF, true_and, and_true, false_implies, true_implies, forall_const, not_true_eq_false, not_false_eq_true, implies_true]
    exact hL _ ⟨rfl, rfl, hK.tr k1⟩
  · rintro ⟨m, y2, y3⟩ L ⟨rfl, rfl, hK⟩
    have hk2 : m.1 1210 0 0 = nI kn := (hK.g rfl 0).trans hk
    unfold bX11_bitsOfAll_4
    dsimp only at hK ⊢
    try simp (disch := omega) only [li, nO_n, adI, mlI, tnI, vpI, ltI, leI, eqI, forall_eq, leT, leF, ltT, ltF, eqT, eqF, true_and, and_true, false_implies, true_implies, forall_const, not_true_eq_false, not_false_eq_true, implies_true, hk2]
    exact hQ m hK
theorem mallPostings {D : Dc} {kn : Nat} {M : Mem} (h : MD D M) (hD : DW D kn) (hk : M.1 1210 0 0 = nI kn) {Q : Int32 → Mem → Prop} (hQ : ∀ M', Kp kL M M' → Q (nI (allP D kn)) M') : pX11_allPostings M Q := by
  have hkn := hD.2.1
  unfold pX11_allPostings
  refine lp_up (fun n s => s.2.1 = nI (allP D n) ∧ s.2.2 = nI n ∧ Kp kL M s.1) (Nat.zero_le kn) ⟨rfl, rfl, Kp.rf⟩ ?_ ?_
  · rintro n ⟨m, y2, y3⟩ L - hlt ⟨rfl, rfl, hK⟩ hL
    have hc := h.ks hD hK
    have hk2 : m.1 1210 0 0 = nI kn := (hK.g rfl 0).trans hk
    unfold bX11_allPostings_4
    dsimp only at hK ⊢
    try simp (disch := omega) only [li, nO_n, adI, mlI, tnI, vpI, ltI, leI, eqI, forall_eq, leT, leF, ltT, ltF, eqT, eqF, true_and, and_true, false_implies, true_implies, forall_const, not_true_eq_false, not_false_eq_true, implies_true, hk2]
    refine mgathers hc hD (by omega) (fun M' k1 l1 => ?_)
    try simp (disch := omega) only [li, nO_n, adI, mlI, tnI, vpI, ltI, leI, eqI, forall_eq, leT, leF, ltT, ltF, eqT, eqF, true_and, and_true, false_implies, true_implies, forall_const, not_true_eq_false, not_false_eq_true, implies_true, l1.1]
    exact hL _ ⟨rfl, rfl, hK.tr k1⟩
  · rintro ⟨m, y2, y3⟩ L ⟨rfl, rfl, hK⟩
    have hk2 : m.1 1210 0 0 = nI kn := (hK.g rfl 0).trans hk
    unfold bX11_allPostings_4
    dsimp only at hK ⊢
    try simp (disch := omega) only [li, nO_n, adI, mlI, tnI, vpI, ltI, leI, eqI, forall_eq, leT, leF, ltT, ltF, eqT, eqF, true_and, and_true, false_implies, true_implies, forall_const, not_true_eq_false, not_false_eq_true, implies_true, hk2]
    exact hQ m hK
theorem mblocksOf {D : Dc} {kn : Nat} {M : Mem} (h : MD D M) (hD : DW D kn) {n so : Nat} (hn : n ≤ 64) (h2 : 2 ≤ so) (h8 : so ≤ 8) {Q : Int32 → Mem → Prop} (hQ : Q (nI (bkN n so)) M) : pX11_blocksOf M (nI n) (nI so) Q := by
  unfold pX11_blocksOf
  try simp (disch := omega) only [li, nO_n, adI, mlI, tnI, vpI, ltI, leI, eqI, forall_eq, leT, leF, ltT, ltF, eqT, eqF, true_and, and_true, false_implies, true_implies, forall_const, not_true_eq_false, not_false_eq_true, implies_true, dvI, sbI]
  exact hQ
theorem mallBlocks {D : Dc} {kn : Nat} {M : Mem} (h : MD D M) (hD : DW D kn) (hk : M.1 1210 0 0 = nI kn) {so : Nat} (hso : M.1 1211 0 0 = nI so) (h2 : 2 ≤ so) (h8 : so ≤ 8) {Q : Int32 → Mem → Prop} (hQ : ∀ M', Kp kL M M' → Q (nI (allK D so kn)) M') : pX11_allBlocks M Q := by
  have hkn := hD.2.1
  have hl := hD.1
  unfold pX11_allBlocks
  refine lp_up (fun n s => s.2.1 = nI (allK D so n) ∧ s.2.2 = nI n ∧ Kp kL M s.1) (Nat.zero_le kn) ⟨rfl, rfl, Kp.rf⟩ ?_ ?_
  · rintro n ⟨m, y2, y3⟩ L - hlt ⟨rfl, rfl, hK⟩ hL
    have hc := h.ks hD hK
    have hk2 : m.1 1210 0 0 = nI kn := (hK.g rfl 0).trans hk
    unfold bX11_allBlocks_4
    dsimp only at hK ⊢
    try simp (disch := omega) only [li, nO_n, adI, mlI, tnI, vpI, ltI, leI, eqI, forall_eq, leT, leF, ltT, ltF, eqT, eqF, true_and, and_true, false_implies, true_implies, forall_const, not_true_eq_false, not_false_eq_true, implies_true, hk2]
    refine mgathers hc hD (by omega) (fun M' k1 l1 => ?_)
    have hs2 : M'.1 1211 0 0 = nI so := (k1.g rfl 0).trans ((hK.g rfl 0).trans hso)
    have hp := pN_le D n
    rw [l1.1, hs2]
    refine mblocksOf (hc.ks hD k1) hD (by omega) h2 h8 ?_
    try simp (disch := omega) only [li, nO_n, adI, mlI, tnI, vpI, ltI, leI, eqI, forall_eq, leT, leF, ltT, ltF, eqT, eqF, true_and, and_true, false_implies, true_implies, forall_const, not_true_eq_false, not_false_eq_true, implies_true]
    exact hL _ ⟨rfl, rfl, hK.tr k1⟩
  · rintro ⟨m, y2, y3⟩ L ⟨rfl, rfl, hK⟩
    have hk2 : m.1 1210 0 0 = nI kn := (hK.g rfl 0).trans hk
    unfold bX11_allBlocks_4
    dsimp only at hK ⊢
    try simp (disch := omega) only [li, nO_n, adI, mlI, tnI, vpI, ltI, leI, eqI, forall_eq, leT, leF, ltT, ltF, eqT, eqF, true_and, and_true, false_implies, true_implies, forall_const, not_true_eq_false, not_false_eq_true, implies_true, hk2]
    exact hQ m hK
theorem mtimesInAll {D : Dc} {kn : Nat} {M : Mem} (h : MD D M) (hD : DW D kn) {w : Nat} (hw : w < 256) {Q : Int32 → Mem → Prop} (hQ : ∀ M', Kp kL M M' → Q (nI (often D w (pN D w))) M') : pX11_timesInAll M (nI w) Q := by
  have hl := hD.1
  have hp := pN_le D w
  unfold pX11_timesInAll
  refine mgathers h hD hw (fun M2 k2 l2 => ?_)
  have hm2 := h.ks hD k2
  refine lp_fn (g := fun n => (M2, nI (often D w n), nI n)) (Nat.zero_le (pN D w)) (fun n L _ hlt hL => ?_) (fun L => ?_)
  · unfold bX11_timesInAll_9
    have h1 := pK_lt hlt
    try simp (disch := omega) only [li, nO_n, adI, mlI, tnI, vpI, ltI, leI, eqI, forall_eq, leT, leF, ltT, ltF, eqT, eqF, true_and, and_true, false_implies, true_implies, forall_const, not_true_eq_false, not_false_eq_true, implies_true, l2.1, l2.2, hm2.cn]
    exact hL
  · unfold bX11_timesInAll_9
    try simp (disch := omega) only [li, nO_n, adI, mlI, tnI, vpI, ltI, leI, eqI, forall_eq, leT, leF, ltT, ltF, eqT, eqF, true_and, and_true, false_implies, true_implies, forall_const, not_true_eq_false, not_false_eq_true, implies_true, l2.1]
    exact hQ M2 k2
theorem mtopOfList {D : Dc} {kn : Nat} {M : Mem} (h : MD D M) (hD : DW D kn) {w : Nat} (hw : w < 256) {Q : Int32 → Mem → Prop} (hQ : ∀ M', Kp kL M M' → Q (nI (topR D w 0 (pN D w))) M') : pX11_topOfList M (nI w) Q := by
  unfold pX11_topOfList
  refine mgathers h hD hw (fun M2 k2 l2 => ?_)
  have hm2 := h.ks hD k2
  have e : pN D w = 0 + pN D w := by omega
  rw [l2.1]
  have := mtop hm2 hD (fr := 0) (m := pN D w) hw (by omega) l2 (Q := Q) (hQ M2 k2)
  rw [Nat.zero_add] at this
  exact this
theorem minBoth {D : Dc} {kn : Nat} {M : Mem} (h : MD D M) (hD : DW D kn) (hk : M.1 1210 0 0 = nI kn) {d e : Nat} (hd : d < 64) (he : e < 64) {Q : Int32 → Mem → Prop} (hQ : Q (nI (bothN D d e kn)) M) : pX11_inBoth M (nI d) (nI e) Q := by
  have hkn := hD.2.1
  unfold pX11_inBoth
  refine lp_fn (g := fun n => (M, nI (bothN D d e n), nI n)) (Nat.zero_le kn) (fun n L _ hlt hL => ?_) (fun L => ?_)
  · unfold bX11_inBoth_5 bX11_inBoth_46
    have h1 := hD.cn n d
    have h2 := hD.cn n e
    by_cases e1 : cnt D n d = 0
    · simp [bothN, ctF, e1] at hL
      try simp (disch := omega) only [li, nO_n, adI, mlI, tnI, vpI, ltI, leI, eqI, forall_eq, leT, leF, ltT, ltF, eqT, eqF, true_and, and_true, false_implies, true_implies, forall_const, not_true_eq_false, not_false_eq_true, implies_true, hk, h.cn]
      exact hL
    · by_cases e2 : cnt D n e = 0
      · simp [bothN, ctF, e1, e2] at hL
        try simp (disch := omega) only [li, nO_n, adI, mlI, tnI, vpI, ltI, leI, eqI, forall_eq, leT, leF, ltT, ltF, eqT, eqF, true_and, and_true, false_implies, true_implies, forall_const, not_true_eq_false, not_false_eq_true, implies_true, hk, h.cn]
        exact hL
      · simp [bothN, ctF, e1, e2] at hL
        try simp (disch := omega) only [li, nO_n, adI, mlI, tnI, vpI, ltI, leI, eqI, forall_eq, leT, leF, ltT, ltF, eqT, eqF, true_and, and_true, false_implies, true_implies, forall_const, not_true_eq_false, not_false_eq_true, implies_true, hk, h.cn]
        exact hL
  · unfold bX11_inBoth_5
    try simp (disch := omega) only [li, nO_n, adI, mlI, tnI, vpI, ltI, leI, eqI, forall_eq, leT, leF, ltT, ltF, eqT, eqF, true_and, and_true, false_implies, true_implies, forall_const, not_true_eq_false, not_false_eq_true, implies_true, hk]
    exact hQ
/-- how many unlike words -/
def unlN (D : Dc) (d n : Nat) : Nat := ctF (fun w => cnt D w d != 0) n
theorem munlike {D : Dc} {kn : Nat} {M : Mem} (h : MD D M) (hD : DW D kn) (hk : M.1 1210 0 0 = nI kn) {d : Nat} (hd : d < 64) {Q : Int32 → Mem → Prop} (hQ : Q (nI (unlN D d kn)) M) : pX11_unlike M (nI d) Q := by
  have hkn := hD.2.1
  unfold pX11_unlike
  refine lp_fn (g := fun n => (M, nI (unlN D d n), nI n)) (Nat.zero_le kn) (fun n L _ hlt hL => ?_) (fun L => ?_)
  · unfold bX11_unlike_4 bX11_unlike_31
    have h1 := hD.cn n d
    by_cases e1 : cnt D n d = 0
    · simp [unlN, ctF, e1] at hL
      try simp (disch := omega) only [li, nO_n, adI, mlI, tnI, vpI, ltI, leI, eqI, forall_eq, leT, leF, ltT, ltF, eqT, eqF, true_and, and_true, false_implies, true_implies, forall_const, not_true_eq_false, not_false_eq_true, implies_true, hk, h.cn]
      exact hL
    · simp [unlN, ctF, e1] at hL
      try simp (disch := omega) only [li, nO_n, adI, mlI, tnI, vpI, ltI, leI, eqI, forall_eq, leT, leF, ltT, ltF, eqT, eqF, true_and, and_true, false_implies, true_implies, forall_const, not_true_eq_false, not_false_eq_true, implies_true, hk, h.cn]
      exact hL
  · unfold bX11_unlike_4
    try simp (disch := omega) only [li, nO_n, adI, mlI, tnI, vpI, ltI, leI, eqI, forall_eq, leT, leF, ltT, ltF, eqT, eqF, true_and, and_true, false_implies, true_implies, forall_const, not_true_eq_false, not_false_eq_true, implies_true, hk]
    exact hQ
theorem mmostOften {D : Dc} {kn : Nat} {M : Mem} (h : MD D M) (hD : DW D kn) (hk : M.1 1210 0 0 = nI kn) (hk0 : 0 < kn) {d : Nat} (hd : d < 64) {Q : Int32 → Mem → Prop} (hQ : Q (nI (mostW D d kn)) M) : pX11_mostOften M (nI d) Q := by
  have hkn := hD.2.1
  unfold pX11_mostOften
  have e0 : ((M, 0, 1) : Mem × Int32 × Int32) = (fun n => (M, nI (mostW D d n), nI n)) 1 := by
    show _ = (M, nI (mostW D d 1), nI 1)
    rw [mostW_1]; rfl
  rw [e0]
  refine lp_fn (g := fun n => (M, nI (mostW D d n), nI n)) hk0 (fun n L h1 hlt hL => ?_) (fun L => ?_)
  · unfold bX11_mostOften_4 bX11_mostOften_37
    have h2 := mostW_lt D d n (by omega)
    have h3 := hD.cn n d
    have h4 := hD.cn (mostW D d n) d
    by_cases e : cnt D (mostW D d n) d < cnt D n d
    · have e1 : mostW D d (n + 1) = n := by unfold mostW; rw [if_pos e]
      simp only [e1] at hL
      try simp (disch := omega) only [li, nO_n, adI, mlI, tnI, vpI, ltI, leI, eqI, forall_eq, leT, leF, ltT, ltF, eqT, eqF, true_and, and_true, false_implies, true_implies, forall_const, not_true_eq_false, not_false_eq_true, implies_true, hk, h.cn]
      exact hL
    · have e1 : mostW D d (n + 1) = mostW D d n := by rw [mostW, if_neg e]
      simp only [e1] at hL
      try simp (disch := omega) only [li, nO_n, adI, mlI, tnI, vpI, ltI, leI, eqI, forall_eq, leT, leF, ltT, ltF, eqT, eqF, true_and, and_true, false_implies, true_implies, forall_const, not_true_eq_false, not_false_eq_true, implies_true, hk, h.cn]
      exact hL
  · unfold bX11_mostOften_4
    try simp (disch := omega) only [li, nO_n, adI, mlI, tnI, vpI, ltI, leI, eqI, forall_eq, leT, leF, ltT, ltF, eqT, eqF, true_and, and_true, false_implies, true_implies, forall_const, not_true_eq_false, not_false_eq_true, implies_true, hk]
    exact hQ
