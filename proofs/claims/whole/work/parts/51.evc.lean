/-! PURE: the class's cursor -/
def CS (D : Dc) (w so wt i : Nat) (M : Mem) : Prop := M.1 106 i 0 = nI w ∧ M.1 107 i 0 = nI so ∧ M.1 108 i 0 = nI wt ∧ M.1 109 i 0 = nI (nB D w so) ∧ M.1 110 i 0 = nI (wt * topR D w 0 (pN D w)) ∧ ∀ b, b < nB D w so → M.1 102 i b = nI (FST D w so b) ∧ M.1 103 i b = nI (LST D w so b) ∧ M.1 104 i b = nI (TOPb D w so b)
def CV (D : Dc) (w so : Nat) (c : Cu) (i : Nat) (M : Mem) : Prop := M.1 111 i 0 = nI (cB c) ∧ M.1 112 i 0 = nI (cP c) ∧ M.1 113 i 0 = nI (if cB c < nB D w so then 0 else 1) ∧ M.1 114 i 0 = nI (cL c) - nI 1 ∧ M.1 115 i 0 = nI (cN c) ∧ M.1 116 i 0 = nI (cK c) ∧ ∀ b, b < nB D w so → M.1 105 i b = nI (cO c b)
def pCv (i c j : Nat) : Bool := decide (¬ (j = i ∧ (c = 105 ∨ (111 ≤ c ∧ c ≤ 116))))
theorem pCv_0 {i c j : Nat} (h : j ≠ i ∨ (c ≠ 105 ∧ (c < 111 ∨ 116 < c))) : pCv i c j = true := by unfold pCv; simp; omega
theorem pCv_1 {i c : Nat} (h : c = 105 ∨ (111 ≤ c ∧ c ≤ 116)) : pCv i c i = false := by unfold pCv; simp; omega
theorem CS.kp {D : Dc} {w so wt i j : Nat} {M M' : Mem} (h : CS D w so wt i M) (k : Kp (pCv j) M M') : CS D w so wt i M' := by
  obtain ⟨a, b, c, d, e, f⟩ := h
  exact ⟨by rw [k.g (pCv_0 (by omega))]; exact a, by rw [k.g (pCv_0 (by omega))]; exact b, by rw [k.g (pCv_0 (by omega))]; exact c, by rw [k.g (pCv_0 (by omega))]; exact d, by rw [k.g (pCv_0 (by omega))]; exact e, fun x hx => by rw [k.g (pCv_0 (by omega)), k.g (pCv_0 (by omega)), k.g (pCv_0 (by omega))]; exact f x hx⟩
theorem CV.kp {D : Dc} {w so i j : Nat} {c : Cu} {M M' : Mem} (h : CV D w so c i M) (hj : i ≠ j) (k : Kp (pCv j) M M') : CV D w so c i M' := by
  obtain ⟨a, b, c, d, e, f, g⟩ := h
  exact ⟨by rw [k.g (pCv_0 (Or.inl hj))]; exact a, by rw [k.g (pCv_0 (Or.inl hj))]; exact b, by rw [k.g (pCv_0 (Or.inl hj))]; exact c, by rw [k.g (pCv_0 (Or.inl hj))]; exact d, by rw [k.g (pCv_0 (Or.inl hj))]; exact e, by rw [k.g (pCv_0 (Or.inl hj))]; exact f, fun x hx => by rw [k.g (pCv_0 (Or.inl hj))]; exact g x hx⟩
theorem CD.cv {D : Dc} {i : Nat} {M M' : Mem} (h : CD D M) (k : Kp (pCv i) M M') : CD D M' := h.kp (k.wk fun c j hc => pCv_0 (by unfold pCD at hc; simp at hc; omega))
theorem nB_32 {D : Dc} {kn w so wt i : Nat} {c : Cu} {M : Mem} (hs : CS D w so wt i M) (hv : CV D w so c i M) (hi : IC D w so c) (hD : DW D kn) (h2 : 2 ≤ so) (h8 : so ≤ 8) (hw : w < 255) : nB D w so ≤ 32 := bkN_le h2 (by have := pN_le D w; have := hD.1; omega)
theorem cblockReaching {D : Dc} {kn w so wt i : Nat} {c : Cu} {M : Mem} (hs : CS D w so wt i M) (hv : CV D w so c i M) (hi : IC D w so c) (hD : DW D kn) (h2 : 2 ≤ so) (h8 : so ≤ 8) (hw : w < 255) {x : Nat} (hx : x < 2147483648) {Q : Int32 → Mem → Prop} (hQ : Q (nI (rch D w so x c)) M) : pX0_blockReaching i M (nI x) Q := by
  have hn := nB_32 hs hv hi hD h2 h8 hw
  have hb := hi.1
  unfold pX0_blockReaching
  simp only [hv.1, forall_eq]
  refine lp_up (fun k s => s = (M, nI k) ∧ ∀ j, cB c ≤ j → j < k → decide (x ≤ LST D w so j) = false) hb ⟨rfl, fun j h1 h2 => absurd h1 (by omega)⟩ ?_ ?_
  · rintro k s L h1 hk ⟨rfl, hj⟩ hL
    have hf := FL_le hD h2 hk
    have e1 := (hs.2.2.2.2.2 k hk).2.1
    unfold bX0_blockReaching_5
    by_cases e : x ≤ LST D w so k
    · have er : rch D w so x c = k := ffn_at h1 (by omega) hj (Or.inr (decide_eq_true e))
      rw [er] at hQ
      try simp (disch := omega) only [li, nO_n, adI, mlI, tnI, vpI, ltI, leI, eqI, forall_eq, leT, leF, ltT, ltF, eqT, eqF, true_and, and_true, false_implies, true_implies, forall_const, not_true_eq_false, not_false_eq_true, implies_true, hs.2.2.2.1, e1]
      exact hQ
    · try simp (disch := omega) only [li, nO_n, adI, mlI, tnI, vpI, ltI, leI, eqI, forall_eq, leT, leF, ltT, ltF, eqT, eqF, true_and, and_true, false_implies, true_implies, forall_const, not_true_eq_false, not_false_eq_true, implies_true, hs.2.2.2.1, e1]
      refine hL _ ⟨rfl, fun j j1 j2 => ?_⟩
      by_cases ej : j = k
      · rw [ej]; exact decide_eq_false e
      · exact hj j j1 (by omega)
  · rintro s L ⟨rfl, hj⟩
    have er : rch D w so x c = nB D w so := ffn_at hb (Nat.le_refl _) hj (Or.inl rfl)
    rw [er] at hQ
    unfold bX0_blockReaching_5
    try simp (disch := omega) only [li, nO_n, adI, mlI, tnI, vpI, ltI, leI, eqI, forall_eq, leT, leF, ltT, ltF, eqT, eqF, true_and, and_true, false_implies, true_implies, forall_const, not_true_eq_false, not_false_eq_true, implies_true, hs.2.2.2.1]
    exact hQ
theorem cdip {D : Dc} {kn w so wt i : Nat} {c : Cu} {M : Mem} (hs : CS D w so wt i M) (hv : CV D w so c i M) (hi : IC D w so c) (hD : DW D kn) (h2 : 2 ≤ so) (h8 : so ≤ 8) (hw : w < 255) {x : Nat} (hx : x < 1000) {Q : Mem → Prop} (hQ : ∀ M', Kp (pCv i) M M' → CV D w so (dipC D w so x c) i M' → Q M') : pX0_dip i M (nI x) Q := by
  have hn := nB_32 hs hv hi hD h2 h8 hw
  obtain ⟨r1, r2, r3⟩ := rch_c hD h2 x hi.1
  obtain ⟨v1, v2, v3, v4, v5, v6, v7⟩ := hv
  unfold pX0_dip
  refine cblockReaching hs ⟨v1, v2, v3, v4, v5, v6, v7⟩ hi hD h2 h8 hw (by omega) ?_
  have d1 : cB (dipC D w so x c) = rch D w so x c := rfl
  have hB : (up1 M 111 i 0 (nI (rch D w so x c))).1 109 i 0 = nI (nB D w so) := (up1_ne (by omega)).trans hs.2.2.2.1
  have hA : (up1 M 111 i 0 (nI (rch D w so x c))).1 111 i 0 = nI (rch D w so x c) := up1_eq
  simp only [forall_eq, hA, hB]
  unfold bX0_dip_29
  by_cases e : rch D w so x c < nB D w so
  · have f1 := FL_le hD h2 e
    have f2 := r3 e
    have e1 : cP (dipC D w so x c) = max x (FST D w so (rch D w so x c)) := if_pos e
    have h9 : (up1 (up1 M 111 i 0 (nI (rch D w so x c))) 113 i 0 (nI 0)).1 113 i 0 = nI 0 := up1_eq
    have h10 : (up1 (up1 M 111 i 0 (nI (rch D w so x c))) 113 i 0 (nI 0)).1 111 i 0 = nI (rch D w so x c) := (up1_ne (by omega)).trans up1_eq
    have h11 : (up1 (up1 M 111 i 0 (nI (rch D w so x c))) 113 i 0 (nI 0)).1 102 i (rch D w so x c) = nI (FST D w so (rch D w so x c)) := ((up1_ne (by omega)).trans (up1_ne (by omega))).trans (hs.2.2.2.2.2 _ e).1
    try simp (disch := omega) only [li, nO_n, adI, mlI, tnI, vpI, ltI, leI, eqI, forall_eq, leT, leF, ltT, ltF, eqT, eqF, true_and, and_true, false_implies, true_implies, forall_const, not_true_eq_false, not_false_eq_true, implies_true, h9, h10, h11, mxI]
    refine hQ _ ?_ ⟨?_, ?_, ?_, ?_, ?_, ?_, fun b hb => ?_⟩
    · exact (((Kp.rf.u1 (pCv_1 (by omega))).u1 (pCv_1 (by omega))).u1 (pCv_1 (by omega)))
    · rw [up1_ne (by omega), up1_ne (by omega), up1_eq]; rfl
    · rw [up1_eq, e1]
    · rw [up1_ne (by omega), up1_eq, d1, if_pos e]
    · rw [up1_ne (by omega), up1_ne (by omega), up1_ne (by omega)]; exact v4
    · rw [up1_ne (by omega), up1_ne (by omega), up1_ne (by omega)]; exact v5
    · rw [up1_ne (by omega), up1_ne (by omega), up1_ne (by omega)]; exact v6
    · rw [up1_ne (by omega), up1_ne (by omega), up1_ne (by omega)]; exact v7 b hb
  · have e1 : cP (dipC D w so x c) = cP c := if_neg e
    have h9 : (up1 (up1 M 111 i 0 (nI (rch D w so x c))) 113 i 0 (nI 1)).1 113 i 0 = nI 1 := up1_eq
    try simp (disch := omega) only [li, nO_n, adI, mlI, tnI, vpI, ltI, leI, eqI, forall_eq, leT, leF, ltT, ltF, eqT, eqF, true_and, and_true, false_implies, true_implies, forall_const, not_true_eq_false, not_false_eq_true, implies_true, h9]
    refine hQ _ ((Kp.rf.u1 (pCv_1 (by omega))).u1 (pCv_1 (by omega))) ⟨?_, ?_, ?_, ?_, ?_, ?_, fun b hb => ?_⟩
    · rw [up1_ne (by omega), up1_eq]; rfl
    · rw [up1_ne (by omega), up1_ne (by omega), e1]; exact v2
    · rw [up1_eq, d1, if_neg e]
    · rw [up1_ne (by omega), up1_ne (by omega)]; exact v4
    · rw [up1_ne (by omega), up1_ne (by omega)]; exact v5
    · rw [up1_ne (by omega), up1_ne (by omega)]; exact v6
    · rw [up1_ne (by omega), up1_ne (by omega)]; exact v7 b hb
theorem copen {D : Dc} {kn w so wt i : Nat} {c : Cu} {M : Mem} (hs : CS D w so wt i M) (hv : CV D w so c i M) (hi : IC D w so c) (hD : DW D kn) (h2 : 2 ≤ so) (h8 : so ≤ 8) (hw : w < 255) (hc : CD D M) (hb : cB c < nB D w so) {Q : Mem → Prop} (hQ : ∀ M', Kp (pCv i) M M' → CV D w so (opnC D w so c) i M' → Q M') : pX0_open i M Q := by
  have hn := nB_32 hs hv hi hD h2 h8 hw
  obtain ⟨g1, g2, g3, g4⟩ := nB_in hD h2 hb
  have hl := pN_le D w
  have hl2 := hD.1
  obtain ⟨v1, v2, v3, v4, v5, v6, v7⟩ := hv
  have hcl := hi.2.2.2.1
  have hmul : cB c * so < 64 := by omega
  unfold pX0_open
  unfold opnC at hQ
  by_cases e : cL c = cB c + 1
  · rw [if_pos e] at hQ
    have e4 : M.1 114 i 0 = nI (cB c) := by rw [v4, e, sbs]
    try simp (disch := omega) only [li, nO_n, adI, mlI, tnI, vpI, ltI, leI, eqI, forall_eq, leT, leF, ltT, ltF, eqT, eqF, true_and, and_true, false_implies, true_implies, forall_const, not_true_eq_false, not_false_eq_true, implies_true, v1, e4]
    exact hQ M Kp.rf ⟨v1, v2, v3, v4, v5, v6, v7⟩
  · rw [if_neg e] at hQ
    have e4 : ¬ M.1 114 i 0 = nI (cB c) := by
      rw [v4]
      cases q : cL c with
      | zero => rw [sb0]; exact nO_ne' (by omega)
      | succ z => rw [sbs]; exact fun x => e (by have := (eqI (by omega) (by omega)).mp x; omega)
    have s1 := hs.1
    have s2 := hs.2.1
    simp only [v1, eq_false e4, forall_eq, false_implies, not_false_eq_true, true_implies, true_and, forall_const]
    have k2 : (up1 M 114 i 0 (nI (cB c))).1 111 i 0 = nI (cB c) := (up1_ne (by omega)).trans v1
    have k5 : (up1 M 114 i 0 (nI (cB c))).1 105 i (cB c) = nI (cO c (cB c)) := (up1_ne (by omega)).trans (v7 _ hb)
    try simp (disch := omega) only [li, nO_n, adI, mlI, tnI, vpI, ltI, leI, eqI, forall_eq, leT, leF, ltT, ltF, eqT, eqF, true_and, and_true, false_implies, true_implies, forall_const, not_true_eq_false, not_false_eq_true, implies_true, k2, k5]
    have ea : ∀ m : Mem, m = up1 (up1 M 114 i 0 (nI (cB c))) 105 i (cB c) (nI (cO c (cB c) + 1)) → m.1 115 i 0 = nI (cN c) ∧ (∀ v, (up1 m 115 i 0 v).1 106 i 0 = nI w) ∧ (∀ v, (up1 m 115 i 0 v).1 107 i 0 = nI so) ∧ (∀ v, (up1 m 115 i 0 v).1 111 i 0 = nI (cB c)) ∧ (∀ v, (up1 m 115 i 0 v).1 116 i 0 = nI (cK c)) ∧ (∀ v, (up1 m 115 i 0 v).1 511 0 w = nI (pN D w)) := by
      rintro m rfl
      refine ⟨?_, fun v => ?_, fun v => ?_, fun v => ?_, fun v => ?_, fun v => ?_⟩
      · rw [up1_ne (by omega), up1_ne (by omega)]; exact v5
      · rw [up1_ne (by omega), up1_ne (by omega), up1_ne (by omega)]; exact s1
      · rw [up1_ne (by omega), up1_ne (by omega), up1_ne (by omega)]; exact s2
      · rw [up1_ne (by omega), up1_ne (by omega), up1_ne (by omega)]; exact v1
      · rw [up1_ne (by omega), up1_ne (by omega), up1_ne (by omega)]; exact v6
      · rw [up1_ne (by omega), up1_ne (by omega), up1_ne (by omega)]; exact hc.po w
    obtain ⟨a1, a2, a3, a4, a5, a6⟩ := ea _ rfl
    have em : min so (pN D w - cB c * so) = bkM D w so (cB c) := by unfold bkM; omega
    try simp (disch := omega) only [li, nO_n, adI, mlI, tnI, vpI, ltI, leI, eqI, forall_eq, leT, leF, ltT, ltF, eqT, eqF, true_and, and_true, false_implies, true_implies, forall_const, not_true_eq_false, not_false_eq_true, implies_true, a1, a2, a3, a4, a5, a6, mlI, sbI, mnI, em]
    refine hQ _ ((((Kp.rf.u1 (pCv_1 (by omega))).u1 (pCv_1 (by omega))).u1 (pCv_1 (by omega))).u1 (pCv_1 (by omega))) ⟨?_, ?_, ?_, ?_, ?_, ?_, fun b hb2 => ?_⟩
    · rw [up1_ne (by omega), up1_ne (by omega), up1_ne (by omega), up1_ne (by omega)]; exact v1
    · rw [up1_ne (by omega), up1_ne (by omega), up1_ne (by omega), up1_ne (by omega)]; exact v2
    · rw [up1_ne (by omega), up1_ne (by omega), up1_ne (by omega), up1_ne (by omega)]; exact v3
    · rw [up1_ne (by omega), up1_ne (by omega), up1_ne (by omega), up1_eq]; exact (sbs _).symm
    · rw [up1_ne (by omega), up1_eq]; rfl
    · rw [up1_eq]; rfl
    · show _ = nI (if b = cB c then cO c b + 1 else cO c b)
      rw [up1_ne (by omega), up1_ne (by omega)]
      by_cases ebb : b = cB c
      · rw [ebb, up1_eq, if_pos rfl]
      · rw [up1_ne (by omega), up1_ne (by omega), if_neg ebb]; exact v7 b hb2
theorem cmoveOn {D : Dc} {kn w so wt i : Nat} {c : Cu} {M : Mem} (hs : CS D w so wt i M) (hv : CV D w so c i M) (hi : IC D w so c) (hD : DW D kn) (h2 : 2 ≤ so) (h8 : so ≤ 8) (hw : w < 255) (hc : CD D M) (hb : cB c < nB D w so) {x : Nat} (hx : x ≤ LST D w so (cB c)) {Q : Mem → Prop} (hQ : ∀ M', Kp (pCv i) M M' → CV D w so (movC D w so x c) i M' → Q M') : pX0_moveOn i M (nI x) Q := by
  have hn := nB_32 hs hv hi hD h2 h8 hw
  obtain ⟨g1, g2, g3, g4⟩ := nB_in hD h2 hb
  obtain ⟨m1, m2, m3, m4⟩ := mvI_c hD h2 hb hx
  have hf := FL_le hD h2 hb
  have hl := pN_le D w
  have hl2 := hD.1
  obtain ⟨v1, v2, v3, v4, v5, v6, v7⟩ := hv
  have hmul : cB c * so < 64 := by omega
  have em : min (cB c * so + so) (pN D w) = cB c * so + bkM D w so (cB c) := by unfold bkM; omega
  unfold pX0_moveOn
  try simp (disch := omega) only [li, nO_n, adI, mlI, tnI, vpI, ltI, leI, eqI, forall_eq, leT, leF, ltT, ltF, eqT, eqF, true_and, and_true, false_implies, true_implies, forall_const, not_true_eq_false, not_false_eq_true, implies_true, v1, hs.1, hs.2.1, hc.po, mlI, mnI, em]
  refine lp_up (fun k s => s = (M, nI (cB c * so + bkM D w so (cB c)), nI k) ∧ ∀ j, cB c * so ≤ j → j < k → decide (x ≤ pK D w j) = false) (Nat.le_of_lt (Nat.lt_add_of_pos_right g2)) ⟨rfl, fun j h1 h2 => absurd h1 (by omega)⟩ ?_ ?_
  · rintro k s L h1 hk ⟨rfl, hj⟩ hL
    have e1 := hc.li (show k < pN D w by omega)
    have e2 := pK_lt (show k < pN D w by omega)
    unfold bX0_moveOn_35
    by_cases e : x ≤ pK D w k
    · have er : mvI D w so x c = k := ffn_at h1 (by omega) hj (Or.inr (decide_eq_true e))
      try simp (disch := omega) only [li, nO_n, adI, mlI, tnI, vpI, ltI, leI, eqI, forall_eq, leT, leF, ltT, ltF, eqT, eqF, true_and, and_true, false_implies, true_implies, forall_const, not_true_eq_false, not_false_eq_true, implies_true, hs.1, e1]
      refine hQ _ (Kp.rf.u1 (pCv_1 (by omega))) ⟨?_, ?_, ?_, ?_, ?_, ?_, fun b hb2 => ?_⟩
      · rw [up1_ne (by omega)]; exact v1
      · rw [up1_eq, ← er]; rfl
      · rw [up1_ne (by omega)]; exact v3
      · rw [up1_ne (by omega)]; exact v4
      · rw [up1_ne (by omega)]; exact v5
      · rw [up1_ne (by omega)]; exact v6
      · rw [up1_ne (by omega)]; exact v7 b hb2
    · try simp (disch := omega) only [li, nO_n, adI, mlI, tnI, vpI, ltI, leI, eqI, forall_eq, leT, leF, ltT, ltF, eqT, eqF, true_and, and_true, false_implies, true_implies, forall_const, not_true_eq_false, not_false_eq_true, implies_true, hs.1, e1]
      refine hL _ ⟨rfl, fun j j1 j2 => ?_⟩
      by_cases ej : j = k
      · rw [ej]; exact decide_eq_false e
      · exact hj j j1 (by omega)
  · rintro s L ⟨rfl, hj⟩
    exfalso
    have := hj (mvI D w so x c) m1 m2
    exact of_decide_eq_false this m3
theorem cseek {D : Dc} {kn w so wt i : Nat} {c : Cu} {M : Mem} (hs : CS D w so wt i M) (hv : CV D w so c i M) (hi : IC D w so c) (hD : DW D kn) (h2 : 2 ≤ so) (h8 : so ≤ 8) (hw : w < 255) (hc : CD D M) {x : Nat} (hx : x < 1000) {Q : Mem → Prop} (hQ : ∀ M', Kp (pCv i) M M' → CV D w so (sekC D w so x c) i M' → Q M') : pX0_seek i M (nI x) Q := by
  have fin : ∀ (c1 : Cu) (m : Mem), Kp (pCv i) M m → CV D w so c1 i m → IC D w so c1 → (cB c1 < nB D w so → x ≤ cP c1) → (if x ≤ cP c then c else dipC D w so x c) = c1 → bX0_seek_13 i (nI x) Q m := by
    intro c1 m k1 hv1 hi1 hx1 e1
    have hs1 := hs.kp k1
    have hc1 := hc.cv k1
    unfold sekC at hQ
    rw [e1] at hQ
    unfold bX0_seek_13
    by_cases e : cB c1 = nB D w so
    · rw [if_pos e] at hQ
      have h3 := hv1.2.2.1
      rw [if_neg (by omega)] at h3
      try simp (disch := omega) only [li, nO_n, adI, mlI, tnI, vpI, ltI, leI, eqI, forall_eq, leT, leF, ltT, ltF, eqT, eqF, true_and, and_true, false_implies, true_implies, forall_const, not_true_eq_false, not_false_eq_true, implies_true, h3]
      exact hQ m k1 hv1
    · rw [if_neg e] at hQ
      have hb : cB c1 < nB D w so := by have := hi1.1; omega
      have h3 := hv1.2.2.1
      rw [if_pos hb] at h3
      try simp (disch := omega) only [li, nO_n, adI, mlI, tnI, vpI, ltI, leI, eqI, forall_eq, leT, leF, ltT, ltF, eqT, eqF, true_and, and_true, false_implies, true_implies, forall_const, not_true_eq_false, not_false_eq_true, implies_true, h3]
      refine copen hs1 hv1 hi1 hD h2 h8 hw hc1 hb (fun m2 k2 hv2 => ?_)
      obtain ⟨o1, o2, o3⟩ := hi1.opn hD h2 hb
      have hl := hi1.2.1 hb
      have hx2 := hx1 hb
      refine cmoveOn (hs1.kp k2) hv2 o1 hD h2 h8 hw (hc1.cv k2) (by omega) (by rw [o2]; omega) (fun m3 k3 hv3 => ?_)
      exact hQ m3 ((k1.tr k2).tr k3) hv3
  have h3 := hi.2.2.1
  unfold pX0_seek
  by_cases e : x ≤ cP c
  · have := fin c M Kp.rf hv hi (fun _ => e) (if_pos e)
    try simp (disch := omega) only [li, nO_n, adI, mlI, tnI, vpI, ltI, leI, eqI, forall_eq, leT, leF, ltT, ltF, eqT, eqF, true_and, and_true, false_implies, true_implies, forall_const, not_true_eq_false, not_false_eq_true, implies_true, hv.2.1]
    exact this
  · try simp (disch := omega) only [li, nO_n, adI, mlI, tnI, vpI, ltI, leI, eqI, forall_eq, leT, leF, ltT, ltF, eqT, eqF, true_and, and_true, false_implies, true_implies, forall_const, not_true_eq_false, not_false_eq_true, implies_true, hv.2.1]
    refine cdip hs hv hi hD h2 h8 hw hx (fun m k hv2 => ?_)
    have := hi.dip hD h2 x
    exact fin _ m k hv2 this.1 this.2 (if_neg e)
def bdR (D : Dc) (w so wt x : Nat) (c : Cu) : Nat := if rch D w so x c < nB D w so then wt * TOPb D w so (rch D w so x c) else 0
theorem cbound {D : Dc} {kn w so wt i : Nat} {c : Cu} {M : Mem} (hs : CS D w so wt i M) (hv : CV D w so c i M) (hi : IC D w so c) (hD : DW D kn) (h2 : 2 ≤ so) (h8 : so ≤ 8) (hw : w < 255) {x : Nat} (hx : x < 1000) {Q : Int32 → Mem → Prop} (hQ : Q (nI (bdR D w so wt x c)) M) : pX0_boundReaching i M (nI x) Q := by
  have hn := nB_32 hs hv hi hD h2 h8 hw
  obtain ⟨r1, r2, r3⟩ := rch_c hD h2 x hi.1
  unfold pX0_boundReaching
  unfold bdR at hQ
  refine cblockReaching hs hv hi hD h2 h8 hw (by omega) ?_
  by_cases e : rch D w so x c < nB D w so
  · have e1 := (hs.2.2.2.2.2 _ e).2.2
    rw [if_pos e] at hQ
    try simp (disch := omega) only [li, nO_n, adI, mlI, tnI, vpI, ltI, leI, eqI, forall_eq, leT, leF, ltT, ltF, eqT, eqF, true_and, and_true, false_implies, true_implies, forall_const, not_true_eq_false, not_false_eq_true, implies_true, hs.2.2.2.1, hs.2.2.1, e1, mlI]
    exact hQ
  · rw [if_neg e] at hQ
    try simp (disch := omega) only [li, nO_n, adI, mlI, tnI, vpI, ltI, leI, eqI, forall_eq, leT, leF, ltT, ltF, eqT, eqF, true_and, and_true, false_implies, true_implies, forall_const, not_true_eq_false, not_false_eq_true, implies_true, hs.2.2.2.1]
    exact hQ
def bhR (D : Dc) (w so x z : Nat) (c : Cu) : Nat := if rch D w so x c < nB D w so then LST D w so (rch D w so x c) + 1 else z
theorem cbehind {D : Dc} {kn w so wt i : Nat} {c : Cu} {M : Mem} (hs : CS D w so wt i M) (hv : CV D w so c i M) (hi : IC D w so c) (hD : DW D kn) (h2 : 2 ≤ so) (h8 : so ≤ 8) (hw : w < 255) {x : Nat} (hx : x < 1000) {Q : Int32 → Mem → Prop} (hQ : Q (nI (bhR D w so x 64 c)) M) : pX0_behindReaching i M (nI x) Q := by
  have hn := nB_32 hs hv hi hD h2 h8 hw
  obtain ⟨r1, r2, r3⟩ := rch_c hD h2 x hi.1
  unfold pX0_behindReaching
  unfold bhR at hQ
  refine cblockReaching hs hv hi hD h2 h8 hw (by omega) ?_
  by_cases e : rch D w so x c < nB D w so
  · have e1 := (hs.2.2.2.2.2 _ e).2.1
    rw [if_pos e] at hQ
    try simp (disch := omega) only [li, nO_n, adI, mlI, tnI, vpI, ltI, leI, eqI, forall_eq, leT, leF, ltT, ltF, eqT, eqF, true_and, and_true, false_implies, true_implies, forall_const, not_true_eq_false, not_false_eq_true, implies_true, hs.2.2.2.1, e1]
    exact hQ
  · rw [if_neg e] at hQ
    try simp (disch := omega) only [li, nO_n, adI, mlI, tnI, vpI, ltI, leI, eqI, forall_eq, leT, leF, ltT, ltF, eqT, eqF, true_and, and_true, false_implies, true_implies, forall_const, not_true_eq_false, not_false_eq_true, implies_true, hs.2.2.2.1]
    exact hQ
