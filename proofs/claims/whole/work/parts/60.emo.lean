/-! PURE: the reference's lists -/
def MS (D : Dc) (w so wt i : Nat) (M : Mem) : Prop := M.1 1263 0 0 = nI so ∧ M.1 1246 0 i = nI (pN D w) ∧ M.1 1247 0 i = nI wt ∧ M.1 1248 0 i = nI (wt * topR D w 0 (pN D w)) ∧ ∀ k, k < pN D w → M.1 6243 i k = nI (pK D w k) ∧ M.1 6244 i k = nI (gain D w (pK D w k))
def MV (D : Dc) (w so : Nat) (c : Cu) (i : Nat) (M : Mem) : Prop := M.1 1249 0 i = nI (cB c) ∧ M.1 1250 0 i = nI (cP c) ∧ M.1 1253 0 i = nI (if cB c < nB D w so then 0 else 1) ∧ M.1 1251 0 i = nI (cL c) - nI 1 ∧ ∀ b, b < nB D w so → M.1 6245 i b = nI (cO c b)
def Fx (i : Nat) (M M' : Mem) : Prop := (∀ c j k, ¬ (((c = 1249 ∨ c = 1250 ∨ c = 1251 ∨ c = 1253) ∧ j = 0 ∧ k = i) ∨ (c = 6245 ∧ j = i)) → M'.1 c j k = M.1 c j k) ∧ ∀ c j, M'.2 c j = M.2 c j
theorem Fx.rf {i : Nat} {M : Mem} : Fx i M M := ⟨fun _ _ _ _ => rfl, fun _ _ => rfl⟩
theorem Fx.tr {i : Nat} {M M' M'' : Mem} (h : Fx i M M') (k : Fx i M' M'') : Fx i M M'' := ⟨fun c j z q => (k.1 c j z q).trans (h.1 c j z q), fun c j => (k.2 c j).trans (h.2 c j)⟩
theorem Fx.u {i c j k : Nat} {v : Int32} {M M' : Mem} (h : Fx i M M') (q : ((c = 1249 ∨ c = 1250 ∨ c = 1251 ∨ c = 1253) ∧ j = 0 ∧ k = i) ∨ (c = 6245 ∧ j = i)) : Fx i M (up1 M' c j k v) := ⟨fun c2 j2 k2 q2 => by
  rw [up1_ne (fun e => q2 (by rw [e.1, e.2.1, e.2.2]; exact q))]
  exact h.1 c2 j2 k2 q2, h.2⟩
theorem MS.fx {D : Dc} {w so wt i j : Nat} {M M' : Mem} (h : MS D w so wt i M) (k : Fx j M M') : MS D w so wt i M' := by
  obtain ⟨a, b, c, d, e⟩ := h
  exact ⟨by rw [k.1 _ _ _ (by omega)]; exact a, by rw [k.1 _ _ _ (by omega)]; exact b, by rw [k.1 _ _ _ (by omega)]; exact c, by rw [k.1 _ _ _ (by omega)]; exact d, fun x hx => by rw [k.1 _ _ _ (by omega), k.1 _ _ _ (by omega)]; exact e x hx⟩
theorem MV.fx {D : Dc} {w so i j : Nat} {c : Cu} {M M' : Mem} (h : MV D w so c i M) (hj : i ≠ j) (k : Fx j M M') : MV D w so c i M' := by
  obtain ⟨a, b, d, e, f⟩ := h
  exact ⟨by rw [k.1 _ _ _ (by omega)]; exact a, by rw [k.1 _ _ _ (by omega)]; exact b, by rw [k.1 _ _ _ (by omega)]; exact d, by rw [k.1 _ _ _ (by omega)]; exact e, fun x hx => by rw [k.1 _ _ _ (by omega)]; exact f x hx⟩
theorem mlastOf {D : Dc} {kn w so wt i : Nat} {M : Mem} (hs : MS D w so wt i M) (hD : DW D kn) (h2 : 2 ≤ so) (h8 : so ≤ 8) (hi24 : i < 24) {b : Nat} (hb : b < nB D w so) {Q : Int32 → Mem → Prop} (hQ : Q (nI (LST D w so b)) M) : pX11_lastOf M (nI i) (nI b) Q := by
  obtain ⟨g1, g2, g3, g4⟩ := nB_in hD h2 hb
  have hl := pN_le D w
  have hl2 := hD.1
  have em : min (pN D w) ((b + 1) * so) = b * so + bkM D w so b := by rw [Nat.add_mul, Nat.one_mul]; unfold bkM; omega
  have eso : (b + 1) * so < 2147483648 := by rw [Nat.add_mul, Nat.one_mul]; omega
  have e1 := (hs.2.2.2.2 (b * so + bkM D w so b - 1) (by omega)).1
  unfold pX11_lastOf
  unfold LST at hQ
  try simp (disch := omega) only [li, nO_n, adI, mlI, tnI, vpI, ltI, leI, eqI, forall_eq, leT, leF, ltT, ltF, eqT, eqF, true_and, and_true, false_implies, true_implies, forall_const, not_true_eq_false, not_false_eq_true, implies_true, hs.1, hs.2.1, mlI]
  refine mless (by omega) eso ?_
  rw [em]
  try simp (disch := omega) only [li, nO_n, adI, mlI, tnI, vpI, ltI, leI, eqI, forall_eq, leT, leF, ltT, ltF, eqT, eqF, true_and, and_true, false_implies, true_implies, forall_const, not_true_eq_false, not_false_eq_true, implies_true, sbI, e1]
  exact hQ
theorem mfirstOf {D : Dc} {kn w so wt i : Nat} {M : Mem} (hs : MS D w so wt i M) (hD : DW D kn) (h2 : 2 ≤ so) (h8 : so ≤ 8) (hi24 : i < 24) {b : Nat} (hb : b < nB D w so) {Q : Int32 → Mem → Prop} (hQ : Q (nI (FST D w so b)) M) : pX11_firstOf M (nI i) (nI b) Q := by
  obtain ⟨g1, g2, g3, g4⟩ := nB_in hD h2 hb
  have hl := pN_le D w
  have hl2 := hD.1
  have e1 := (hs.2.2.2.2 (b * so) (by omega)).1
  unfold pX11_firstOf
  unfold FST at hQ
  have hm : b * so < 64 := by omega
  try simp (disch := omega) only [li, nO_n, adI, mlI, tnI, vpI, ltI, leI, eqI, forall_eq, leT, leF, ltT, ltF, eqT, eqF, true_and, and_true, false_implies, true_implies, forall_const, not_true_eq_false, not_false_eq_true, implies_true, hs.1, mlI, e1]
  exact hQ
theorem mmanyOf {D : Dc} {kn w so wt i : Nat} {M : Mem} (hs : MS D w so wt i M) (hD : DW D kn) (h2 : 2 ≤ so) (h8 : so ≤ 8) (hi24 : i < 24) {b : Nat} (hb : b < nB D w so) {Q : Int32 → Mem → Prop} (hQ : Q (nI (bkM D w so b)) M) : pX11_manyOf M (nI i) (nI b) Q := by
  obtain ⟨g1, g2, g3, g4⟩ := nB_in hD h2 hb
  have hl := pN_le D w
  have hl2 := hD.1
  have em : min (pN D w) ((b + 1) * so) = b * so + bkM D w so b := by rw [Nat.add_mul, Nat.one_mul]; unfold bkM; omega
  have eso : (b + 1) * so < 2147483648 := by rw [Nat.add_mul, Nat.one_mul]; omega
  unfold pX11_manyOf
  try simp (disch := omega) only [li, nO_n, adI, mlI, tnI, vpI, ltI, leI, eqI, forall_eq, leT, leF, ltT, ltF, eqT, eqF, true_and, and_true, false_implies, true_implies, forall_const, not_true_eq_false, not_false_eq_true, implies_true, hs.1, hs.2.1, mlI]
  refine mless (by omega) eso ?_
  rw [em, hs.1, mlI, sbI (by omega), Nat.add_sub_cancel_left]
  exact hQ
theorem mtopOf {D : Dc} {kn w so wt i : Nat} {M : Mem} (hs : MS D w so wt i M) (hD : DW D kn) (h2 : 2 ≤ so) (h8 : so ≤ 8) (hi24 : i < 24) {b : Nat} (hb : b < nB D w so) {Q : Int32 → Mem → Prop} (hQ : Q (nI (TOPb D w so b)) M) : pX11_topOf M (nI i) (nI b) Q := by
  obtain ⟨g1, g2, g3, g4⟩ := nB_in hD h2 hb
  have hl := pN_le D w
  have hl2 := hD.1
  have hm : b * so < 64 := by omega
  unfold pX11_topOf
  try simp (disch := omega) only [li, nO_n, adI, mlI, tnI, vpI, ltI, leI, eqI, forall_eq, leT, leF, ltT, ltF, eqT, eqF, true_and, and_true, false_implies, true_implies, forall_const, not_true_eq_false, not_false_eq_true, implies_true, hs.1, mlI]
  refine lp_up (fun j s => s = (M, nI (topR D w (b * so) j), nI (b * so + j))) (Nat.zero_le (bkM D w so b)) rfl ?_ ?_
  · rintro j s L - hj rfl hL
    have e1 := (hs.2.2.2.2 (b * so + j) (by omega)).2
    have g := gain_le D w (pK D w (b * so + j))
    have tl := topR_le D w (b * so) j
    unfold bX11_topOf_10
    refine mmanyOf hs hD h2 h8 hi24 hb ?_
    try simp (disch := omega) only [li, nO_n, adI, mlI, tnI, vpI, ltI, leI, eqI, forall_eq, leT, leF, ltT, ltF, eqT, eqF, true_and, and_true, false_implies, true_implies, forall_const, not_true_eq_false, not_false_eq_true, implies_true, hs.1, mlI, e1]
    refine mmore (by omega) (by omega) ?_
    try simp (disch := omega) only [li, nO_n, adI, mlI, tnI, vpI, ltI, leI, eqI, forall_eq, leT, leF, ltT, ltF, eqT, eqF, true_and, and_true, false_implies, true_implies, forall_const, not_true_eq_false, not_false_eq_true, implies_true]
    exact hL _ rfl
  · rintro s L rfl
    unfold bX11_topOf_10
    refine mmanyOf hs hD h2 h8 hi24 hb ?_
    try simp (disch := omega) only [li, nO_n, adI, mlI, tnI, vpI, ltI, leI, eqI, forall_eq, leT, leF, ltT, ltF, eqT, eqF, true_and, and_true, false_implies, true_implies, forall_const, not_true_eq_false, not_false_eq_true, implies_true, hs.1, mlI]
    exact hQ
theorem mblocksL {D : Dc} {kn w so wt i : Nat} {M : Mem} (hs : MS D w so wt i M) (hD : DW D kn) (h2 : 2 ≤ so) (h8 : so ≤ 8) (hi24 : i < 24) {Q : Int32 → Mem → Prop} (hQ : Q (nI (nB D w so)) M) : pX11_blocksOfList M (nI i) Q := by
  have hl := pN_le D w
  have hl2 := hD.1
  unfold pX11_blocksOfList
  try simp (disch := omega) only [li, nO_n, adI, mlI, tnI, vpI, ltI, leI, eqI, forall_eq, leT, leF, ltT, ltF, eqT, eqF, true_and, and_true, false_implies, true_implies, forall_const, not_true_eq_false, not_false_eq_true, implies_true, hs.1, hs.2.1]
  unfold pX11_blocksOf
  try simp (disch := omega) only [li, nO_n, adI, mlI, tnI, vpI, ltI, leI, eqI, forall_eq, leT, leF, ltT, ltF, eqT, eqF, true_and, and_true, false_implies, true_implies, forall_const, not_true_eq_false, not_false_eq_true, implies_true, sbI, dvI]
  exact hQ
theorem mnB_32 {D : Dc} {kn w so wt i : Nat} {c : Cu} {M : Mem} (hs : MS D w so wt i M) (hv : MV D w so c i M) (hi : IC D w so c) (hD : DW D kn) (h2 : 2 ≤ so) (h8 : so ≤ 8) (hi24 : i < 24) : nB D w so ≤ 32 := bkN_le h2 (by have := pN_le D w; have := hD.1; omega)
theorem mblockFor {D : Dc} {kn w so wt i : Nat} {c : Cu} {M : Mem} (hs : MS D w so wt i M) (hv : MV D w so c i M) (hi : IC D w so c) (hD : DW D kn) (h2 : 2 ≤ so) (h8 : so ≤ 8) (hi24 : i < 24) {x : Nat} (hx : x < 1000) {Q : Int32 → Mem → Prop} (hQ : Q (nI (rch D w so x c)) M) : pX11_blockFor M (nI i) (nI x) Q := by
  have hn := mnB_32 hs hv hi hD h2 h8 hi24
  have hb := hi.1
  unfold pX11_blockFor
  try simp (disch := omega) only [li, nO_n, adI, mlI, tnI, vpI, ltI, leI, eqI, forall_eq, leT, leF, ltT, ltF, eqT, eqF, true_and, and_true, false_implies, true_implies, forall_const, not_true_eq_false, not_false_eq_true, implies_true, hv.1]
  refine lp_up (fun k s => s = (M, nI k) ∧ ∀ j, cB c ≤ j → j < k → decide (x ≤ LST D w so j) = false) hb ⟨rfl, fun j h1 h2 => absurd h1 (by omega)⟩ ?_ ?_
  · rintro k s L h1 hk ⟨rfl, hj⟩ hL
    have hf := FL_le hD h2 hk
    unfold bX11_blockFor_7
    refine mblocksL hs hD h2 h8 hi24 ?_
    try simp (disch := omega) only [li, nO_n, adI, mlI, tnI, vpI, ltI, leI, eqI, forall_eq, leT, leF, ltT, ltF, eqT, eqF, true_and, and_true, false_implies, true_implies, forall_const, not_true_eq_false, not_false_eq_true, implies_true]
    refine mlastOf hs hD h2 h8 hi24 hk ?_
    by_cases e : x ≤ LST D w so k
    · have er : rch D w so x c = k := ffn_at h1 (by omega) hj (Or.inr (decide_eq_true e))
      rw [er] at hQ
      try simp (disch := omega) only [li, nO_n, adI, mlI, tnI, vpI, ltI, leI, eqI, forall_eq, leT, leF, ltT, ltF, eqT, eqF, true_and, and_true, false_implies, true_implies, forall_const, not_true_eq_false, not_false_eq_true, implies_true]
      exact hQ
    · try simp (disch := omega) only [li, nO_n, adI, mlI, tnI, vpI, ltI, leI, eqI, forall_eq, leT, leF, ltT, ltF, eqT, eqF, true_and, and_true, false_implies, true_implies, forall_const, not_true_eq_false, not_false_eq_true, implies_true]
      refine hL _ ⟨rfl, fun j j1 j2 => ?_⟩
      by_cases ej : j = k
      · rw [ej]; exact decide_eq_false e
      · exact hj j j1 (by omega)
  · rintro s L ⟨rfl, hj⟩
    have er : rch D w so x c = nB D w so := ffn_at hb (Nat.le_refl _) hj (Or.inl rfl)
    rw [er] at hQ
    unfold bX11_blockFor_7
    refine mblocksL hs hD h2 h8 hi24 ?_
    try simp (disch := omega) only [li, nO_n, adI, mlI, tnI, vpI, ltI, leI, eqI, forall_eq, leT, leF, ltT, ltF, eqT, eqF, true_and, and_true, false_implies, true_implies, forall_const, not_true_eq_false, not_false_eq_true, implies_true]
    exact hQ
theorem mdips {D : Dc} {kn w so wt i : Nat} {c : Cu} {M : Mem} (hs : MS D w so wt i M) (hv : MV D w so c i M) (hi : IC D w so c) (hD : DW D kn) (h2 : 2 ≤ so) (h8 : so ≤ 8) (hi24 : i < 24) {x : Nat} (hx : x < 1000) {Q : Mem → Prop} (hQ : ∀ M', Fx i M M' → MV D w so (dipC D w so x c) i M' → Q M') : pX11_dips M (nI i) (nI x) Q := by
  have hn := mnB_32 hs hv hi hD h2 h8 hi24
  have hb := hi.1
  have hv' := hv
  obtain ⟨v1, v2, v3, v4, v5⟩ := hv
  unfold pX11_dips
  by_cases e : cB c < nB D w so
  · rw [if_pos e] at v3
    try simp (disch := omega) only [li, nO_n, adI, mlI, tnI, vpI, ltI, leI, eqI, forall_eq, leT, leF, ltT, ltF, eqT, eqF, true_and, and_true, false_implies, true_implies, forall_const, not_true_eq_false, not_false_eq_true, implies_true, v3]
    obtain ⟨r1, r2, r3⟩ := rch_c hD h2 x hb
    have key : ∀ n k, k + n + 1 = nB D w so → cB c ≤ k → ∀ m : Mem, Fx i M m → m.1 1249 0 i = nI k → m.1 1250 0 i = nI (cP c) → m.1 1253 0 i = nI 0 → m.1 1251 0 i = nI (cL c) - nI 1 → (∀ b, b < nB D w so → m.1 6245 i b = nI (cO c b)) → (∀ j, cB c ≤ j → j < k → decide (x ≤ LST D w so j) = false) → lp (fun L s => bX11_dips_10 (nI i) (nI x) Q L s) (n + 1) m := by
      intro n
      induction n with
      | zero =>
        intro k hk hk2 m fm m1 m2 m3 m4 m5 hj
        have hkn : k < nB D w so := by omega
        have hf := FL_le hD h2 hkn
        have hsm := hs.fx fm
        show bX11_dips_10 (nI i) (nI x) Q _ m
        unfold bX11_dips_10
        try simp (disch := omega) only [li, nO_n, adI, mlI, tnI, vpI, ltI, leI, eqI, forall_eq, leT, leF, ltT, ltF, eqT, eqF, true_and, and_true, false_implies, true_implies, forall_const, not_true_eq_false, not_false_eq_true, implies_true, m1]
        refine mlastOf hsm hD h2 h8 hi24 hkn ?_
        by_cases ex : x ≤ LST D w so k
        · have er : rch D w so x c = k := ffn_at hk2 (by omega) hj (Or.inr (decide_eq_true ex))
          try simp (disch := omega) only [li, nO_n, adI, mlI, tnI, vpI, ltI, leI, eqI, forall_eq, leT, leF, ltT, ltF, eqT, eqF, true_and, and_true, false_implies, true_implies, forall_const, not_true_eq_false, not_false_eq_true, implies_true, m1]
          refine mfirstOf hsm hD h2 h8 hi24 hkn ?_
          refine mmore (by omega) (by omega) ?_
          refine hQ _ (fm.u (by omega)) ⟨?_, ?_, ?_, ?_, fun b hb2 => ?_⟩
          · rw [up1_ne (by omega), m1]; show nI k = nI (rch D w so x c); rw [er]
          · rw [up1_eq]; show _ = nI (if rch D w so x c < nB D w so then max x (FST D w so (rch D w so x c)) else cP c); rw [er, if_pos hkn]
          · rw [up1_ne (by omega), m3]; show _ = nI (if rch D w so x c < nB D w so then 0 else 1); rw [er, if_pos hkn]
          · rw [up1_ne (by omega)]; exact m4
          · rw [up1_ne (by omega)]; exact m5 b hb2
        · have er : rch D w so x c = nB D w so := ffn_at hb (Nat.le_refl _) (fun j j1 j2 => by
            by_cases ej : j = k
            · rw [ej]; exact decide_eq_false ex
            · exact hj j j1 (by omega)) (Or.inl rfl)
          have x1 : ∀ v, (up1 m 1249 0 i v).1 1249 0 i = v := fun v => up1_eq
          have hs2 : MS D w so wt i (up1 m 1249 0 i (nI (k + 1))) := hs.fx (fm.u (by omega))
          try simp (disch := omega) only [li, nO_n, adI, mlI, tnI, vpI, ltI, leI, eqI, forall_eq, leT, leF, ltT, ltF, eqT, eqF, true_and, and_true, false_implies, true_implies, forall_const, not_true_eq_false, not_false_eq_true, implies_true, m1]
          refine mblocksL hs2 hD h2 h8 hi24 ?_
          try simp (disch := omega) only [li, nO_n, adI, mlI, tnI, vpI, ltI, leI, eqI, forall_eq, leT, leF, ltT, ltF, eqT, eqF, true_and, and_true, false_implies, true_implies, forall_const, not_true_eq_false, not_false_eq_true, implies_true, x1]
          have ek : k + 1 = nB D w so := by omega
          try simp (disch := omega) only [li, nO_n, adI, mlI, tnI, vpI, ltI, leI, eqI, forall_eq, leT, leF, ltT, ltF, eqT, eqF, true_and, and_true, false_implies, true_implies, forall_const, not_true_eq_false, not_false_eq_true, implies_true]
          refine hQ _ ((fm.u (by omega)).u (by omega)) ⟨?_, ?_, ?_, ?_, fun b hb2 => ?_⟩
          · rw [up1_ne (by omega), up1_eq]; show nI (k + 1) = nI (rch D w so x c); rw [er, ek]
          · rw [up1_ne (by omega), up1_ne (by omega), m2]; show _ = nI (if rch D w so x c < nB D w so then max x (FST D w so (rch D w so x c)) else cP c); rw [if_neg (by omega)]
          · rw [up1_eq]; show _ = nI (if rch D w so x c < nB D w so then 0 else 1); rw [if_neg (by omega)]
          · rw [up1_ne (by omega), up1_ne (by omega)]; exact m4
          · rw [up1_ne (by omega), up1_ne (by omega)]; exact m5 b hb2
      | succ n ih =>
        intro k hk hk2 m fm m1 m2 m3 m4 m5 hj
        have hkn : k < nB D w so := by omega
        have hf := FL_le hD h2 hkn
        have hsm := hs.fx fm
        show bX11_dips_10 (nI i) (nI x) Q (lp (fun L s => bX11_dips_10 (nI i) (nI x) Q L s) (n + 1)) m
        generalize hR : lp (fun L s => bX11_dips_10 (nI i) (nI x) Q L s) (n + 1) = R
        unfold bX11_dips_10
        try simp (disch := omega) only [li, nO_n, adI, mlI, tnI, vpI, ltI, leI, eqI, forall_eq, leT, leF, ltT, ltF, eqT, eqF, true_and, and_true, false_implies, true_implies, forall_const, not_true_eq_false, not_false_eq_true, implies_true, m1]
        refine mlastOf hsm hD h2 h8 hi24 hkn ?_
        by_cases ex : x ≤ LST D w so k
        · have er : rch D w so x c = k := ffn_at hk2 (by omega) hj (Or.inr (decide_eq_true ex))
          try simp (disch := omega) only [li, nO_n, adI, mlI, tnI, vpI, ltI, leI, eqI, forall_eq, leT, leF, ltT, ltF, eqT, eqF, true_and, and_true, false_implies, true_implies, forall_const, not_true_eq_false, not_false_eq_true, implies_true, m1]
          refine mfirstOf hsm hD h2 h8 hi24 hkn ?_
          refine mmore (by omega) (by omega) ?_
          refine hQ _ (fm.u (by omega)) ⟨?_, ?_, ?_, ?_, fun b hb2 => ?_⟩
          · rw [up1_ne (by omega), m1]; show nI k = nI (rch D w so x c); rw [er]
          · rw [up1_eq]; show _ = nI (if rch D w so x c < nB D w so then max x (FST D w so (rch D w so x c)) else cP c); rw [er, if_pos hkn]
          · rw [up1_ne (by omega), m3]; show _ = nI (if rch D w so x c < nB D w so then 0 else 1); rw [er, if_pos hkn]
          · rw [up1_ne (by omega)]; exact m4
          · rw [up1_ne (by omega)]; exact m5 b hb2
        · have x1 : ∀ v, (up1 m 1249 0 i v).1 1249 0 i = v := fun v => up1_eq
          have hs2 : MS D w so wt i (up1 m 1249 0 i (nI (k + 1))) := hs.fx (fm.u (by omega))
          try simp (disch := omega) only [li, nO_n, adI, mlI, tnI, vpI, ltI, leI, eqI, forall_eq, leT, leF, ltT, ltF, eqT, eqF, true_and, and_true, false_implies, true_implies, forall_const, not_true_eq_false, not_false_eq_true, implies_true, m1]
          refine mblocksL hs2 hD h2 h8 hi24 ?_
          try simp (disch := omega) only [li, nO_n, adI, mlI, tnI, vpI, ltI, leI, eqI, forall_eq, leT, leF, ltT, ltF, eqT, eqF, true_and, and_true, false_implies, true_implies, forall_const, not_true_eq_false, not_false_eq_true, implies_true, x1]
          have ek : ¬ k + 1 = nB D w so := by omega
          try simp (disch := omega) only [li, nO_n, adI, mlI, tnI, vpI, ltI, leI, eqI, forall_eq, leT, leF, ltT, ltF, eqT, eqF, true_and, and_true, false_implies, true_implies, forall_const, not_true_eq_false, not_false_eq_true, implies_true]
          rw [← hR]
          refine ih (k + 1) (by omega) (by omega) _ (fm.u (by omega)) up1_eq ((up1_ne (by omega)).trans m2) ((up1_ne (by omega)).trans m3) ((up1_ne (by omega)).trans m4) (fun b hb2 => (up1_ne (by omega)).trans (m5 b hb2)) (fun j j1 j2 => ?_)
          by_cases ej : j = k
          · rw [ej]; exact decide_eq_false ex
          · exact hj j j1 (by omega)
    exact ⟨_, key (nB D w so - cB c - 1) (cB c) (by omega) (Nat.le_refl _) M Fx.rf v1 v2 v3 v4 v5 (fun j j1 j2 => absurd j1 (by omega))⟩
  · rw [if_neg e] at v3
    try simp (disch := omega) only [li, nO_n, adI, mlI, tnI, vpI, ltI, leI, eqI, forall_eq, leT, leF, ltT, ltF, eqT, eqF, true_and, and_true, false_implies, true_implies, forall_const, not_true_eq_false, not_false_eq_true, implies_true, v3]
    refine hQ M Fx.rf ?_
    have er : rch D w so x c = cB c := by
      have := rch_c hD h2 x hb
      omega
    have ed : dipC D w so x c = c := by
      unfold dipC
      rw [er, if_neg e]
      rfl
    rw [ed]; exact hv'
