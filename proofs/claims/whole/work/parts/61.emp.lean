/-! PURE: the reference seeks in a list -/
def Fy (i : Nat) (M M' : Mem) : Prop := (∀ c j k, ¬ (((c = 1249 ∨ c = 1250 ∨ c = 1251 ∨ c = 1253) ∧ j = 0 ∧ k = i) ∨ (c = 6245 ∧ j = i) ∨ (1258 ≤ c ∧ c ≤ 1260 ∧ j = 0)) → M'.1 c j k = M.1 c j k) ∧ ∀ c j, M'.2 c j = M.2 c j
theorem Fx.y {i : Nat} {M M' : Mem} (h : Fx i M M') : Fy i M M' := ⟨fun c j k q => h.1 c j k (by omega), h.2⟩
theorem Fy.tr {i : Nat} {M M' M'' : Mem} (h : Fy i M M') (k : Fy i M' M'') : Fy i M M'' := ⟨fun c j z q => (k.1 c j z q).trans (h.1 c j z q), fun c j => (k.2 c j).trans (h.2 c j)⟩
theorem Fy.u {i c j k : Nat} {v : Int32} {M M' : Mem} (h : Fy i M M') (q : ((c = 1249 ∨ c = 1250 ∨ c = 1251 ∨ c = 1253) ∧ j = 0 ∧ k = i) ∨ (c = 6245 ∧ j = i) ∨ (1258 ≤ c ∧ c ≤ 1260 ∧ j = 0)) : Fy i M (up1 M' c j k v) := ⟨fun c2 j2 k2 q2 => by
  rw [up1_ne (fun e => q2 (by rw [e.1, e.2.1, e.2.2]; exact q))]
  exact h.1 c2 j2 k2 q2, h.2⟩
theorem MS.fy {D : Dc} {w so wt i j : Nat} {M M' : Mem} (h : MS D w so wt i M) (k : Fy j M M') : MS D w so wt i M' := by
  obtain ⟨a, b, c, d, e⟩ := h
  exact ⟨by rw [k.1 _ _ _ (by omega)]; exact a, by rw [k.1 _ _ _ (by omega)]; exact b, by rw [k.1 _ _ _ (by omega)]; exact c, by rw [k.1 _ _ _ (by omega)]; exact d, fun x hx => by rw [k.1 _ _ _ (by omega), k.1 _ _ _ (by omega)]; exact e x hx⟩
theorem MV.fy {D : Dc} {w so i j : Nat} {c : Cu} {M M' : Mem} (h : MV D w so c i M) (hj : i ≠ j) (k : Fy j M M') : MV D w so c i M' := by
  obtain ⟨a, b, d, e, f⟩ := h
  exact ⟨by rw [k.1 _ _ _ (by omega)]; exact a, by rw [k.1 _ _ _ (by omega)]; exact b, by rw [k.1 _ _ _ (by omega)]; exact d, by rw [k.1 _ _ _ (by omega)]; exact e, fun x hx => by rw [k.1 _ _ _ (by omega)]; exact f x hx⟩
theorem mmv {D : Dc} {kn w so wt i : Nat} {c : Cu} {M : Mem} (hs : MS D w so wt i M) (hv : MV D w so c i M) (hi : IC D w so c) (hD : DW D kn) (h2 : 2 ≤ so) (h8 : so ≤ 8) (hi24 : i < 24) {x o k : Nat} (hb : cB c < nB D w so) (hx : x ≤ LST D w so (cB c)) {Q : Mem → Prop} (ho : M.1 1258 0 0 = nI o) (hk : M.1 1259 0 0 = nI k) (hQ : ∀ M', Fy i M M' → MV D w so (movC D w so x c) i M' → M'.1 1258 0 0 = nI o → M'.1 1259 0 0 = nI k → M'.1 1260 0 0 = M.1 1260 0 0 → Q M') : bX11_seeks_97 (nI i) (nI x) Q M (nI (cB c)) := by
  obtain ⟨g1, g2, g3, g4⟩ := nB_in hD h2 hb
  obtain ⟨m1, m2, m3, m4⟩ := mvI_c hD h2 hb hx
  have hf := FL_le hD h2 hb
  have hl := pN_le D w
  have hl2 := hD.1
  obtain ⟨v1, v2, v3, v4, v5⟩ := hv
  have hmul : cB c * so < 64 := by omega
  unfold bX11_seeks_97
  try simp (disch := omega) only [li, nO_n, adI, mlI, tnI, vpI, ltI, leI, eqI, forall_eq, leT, leF, ltT, ltF, eqT, eqF, true_and, and_true, false_implies, true_implies, forall_const, not_true_eq_false, not_false_eq_true, implies_true, hs.1, mlI]
  refine lp_up (fun k s => s = (M, nI k) ∧ ∀ j, cB c * so ≤ j → j < k → decide (x ≤ pK D w j) = false) (Nat.le_of_lt (Nat.lt_add_of_pos_right g2)) ⟨rfl, fun j h1 h2 => absurd h1 (by omega)⟩ ?_ ?_
  · rintro k s L h1 hk2 ⟨rfl, hj⟩ hL
    have e1 := (hs.2.2.2.2 k (by omega)).1
    have e2 := pK_lt (show k < pN D w by omega)
    unfold bX11_seeks_105
    by_cases e : x ≤ pK D w k
    · have er : mvI D w so x c = k := ffn_at h1 (by omega) hj (Or.inr (decide_eq_true e))
      try simp (disch := omega) only [li, nO_n, adI, mlI, tnI, vpI, ltI, leI, eqI, forall_eq, leT, leF, ltT, ltF, eqT, eqF, true_and, and_true, false_implies, true_implies, forall_const, not_true_eq_false, not_false_eq_true, implies_true, e1]
      refine hQ _ (Fx.y (Fx.rf.u (by omega))) ⟨?_, ?_, ?_, ?_, fun b hb2 => ?_⟩ ((up1_ne (by omega)).trans ho) ((up1_ne (by omega)).trans hk) (up1_ne (by omega))
      · rw [up1_ne (by omega)]; exact v1
      · rw [up1_eq, ← er]; rfl
      · rw [up1_ne (by omega)]; exact v3
      · rw [up1_ne (by omega)]; exact v4
      · rw [up1_ne (by omega)]; exact v5 b hb2
    · try simp (disch := omega) only [li, nO_n, adI, mlI, tnI, vpI, ltI, leI, eqI, forall_eq, leT, leF, ltT, ltF, eqT, eqF, true_and, and_true, false_implies, true_implies, forall_const, not_true_eq_false, not_false_eq_true, implies_true, e1]
      refine hL _ ⟨rfl, fun j j1 j2 => ?_⟩
      by_cases ej : j = k
      · rw [ej]; exact decide_eq_false e
      · exact hj j j1 (by omega)
  · rintro s L ⟨rfl, hj⟩
    exfalso
    have := hj (mvI D w so x c) m1 m2
    exact of_decide_eq_false this m3
theorem ms26 {D : Dc} {kn w so wt i : Nat} {c : Cu} {M : Mem} (hs : MS D w so wt i M) (hv : MV D w so c i M) (hi : IC D w so c) (hD : DW D kn) (h2 : 2 ≤ so) (h8 : so ≤ 8) (hi24 : i < 24) {x o k : Nat} (hx : cB c < nB D w so → x ≤ cP c) {Q : Mem → Prop} (ho : M.1 1258 0 0 = nI o) (hk : M.1 1259 0 0 = nI k) (hQ : ∀ M', Fy i M M' → MV D w so (if cB c = nB D w so then c else movC D w so x (opnC D w so c)) i M' → M'.1 1258 0 0 = nI (o + (cN (if cB c = nB D w so then c else movC D w so x (opnC D w so c)) - cN c)) → M'.1 1259 0 0 = nI (k + (cK (if cB c = nB D w so then c else movC D w so x (opnC D w so c)) - cK c)) → M'.1 1260 0 0 = M.1 1260 0 0 → Q M') : bX11_seeks_26 (nI i) (nI x) Q M := by
  have hn := mnB_32 hs hv hi hD h2 h8 hi24
  have hv' := hv
  obtain ⟨v1, v2, v3, v4, v5⟩ := hv
  unfold bX11_seeks_26
  by_cases e : cB c = nB D w so
  · simp only [if_pos e] at hQ
    rw [if_neg (by omega)] at v3
    try simp (disch := omega) only [li, nO_n, adI, mlI, tnI, vpI, ltI, leI, eqI, forall_eq, leT, leF, ltT, ltF, eqT, eqF, true_and, and_true, false_implies, true_implies, forall_const, not_true_eq_false, not_false_eq_true, implies_true, v3]
    exact hQ M (Fx.y Fx.rf) hv' (by rw [Nat.sub_self]; exact ho) (by rw [Nat.sub_self]; exact hk) rfl
  · simp only [if_neg e] at hQ
    have hb : cB c < nB D w so := by have := hi.1; omega
    rw [if_pos hb] at v3
    have hx := hx hb
    have hll := hi.2.1 hb
    obtain ⟨g1, g2, g3, g4⟩ := nB_in hD h2 hb
    have hl := pN_le D w
    have hl2 := hD.1
    have hcl := hi.2.2.2.1
    try simp (disch := omega) only [li, nO_n, adI, mlI, tnI, vpI, ltI, leI, eqI, forall_eq, leT, leF, ltT, ltF, eqT, eqF, true_and, and_true, false_implies, true_implies, forall_const, not_true_eq_false, not_false_eq_true, implies_true, v3, v1]
    by_cases e2 : cL c = cB c + 1
    · have eo : opnC D w so c = c := if_pos e2
      have e4 : M.1 1251 0 i = nI (cB c) := by rw [v4, e2, sbs]
      rw [eo] at hQ
      try simp (disch := omega) only [li, nO_n, adI, mlI, tnI, vpI, ltI, leI, eqI, forall_eq, leT, leF, ltT, ltF, eqT, eqF, true_and, and_true, false_implies, true_implies, forall_const, not_true_eq_false, not_false_eq_true, implies_true, e4]
      refine mmv hs hv' hi hD h2 h8 hi24 hb (by omega) ho hk (fun M' f1 f2 f3 f4 f5 => ?_)
      have c1 : cN (movC D w so x c) = cN c := rfl
      have c2 : cK (movC D w so x c) = cK c := rfl
      exact hQ M' f1 f2 (by rw [c1, Nat.sub_self]; exact f3) (by rw [c2, Nat.sub_self]; exact f4) f5
    · have eo : opnC D w so c = (cB c, cP c, cB c + 1, (fun b => if b = cB c then cO c b + 1 else cO c b), cN c + 1, cK c + bkM D w so (cB c)) := if_neg e2
      have e4 : ¬ M.1 1251 0 i = nI (cB c) := by
        rw [v4]
        cases q : cL c with
        | zero => rw [sb0]; exact nO_ne' (by omega)
        | succ z => rw [sbs]; exact fun x => e2 (by have := (eqI (by omega) (by omega)).mp x; omega)
      obtain ⟨oi, ob, op⟩ := hi.opn hD h2 hb
      have x5 : (up1 M 1251 0 i (nI (cB c))).1 6245 i (cB c) = nI (cO c (cB c)) := (up1_ne (by omega)).trans (v5 _ hb)
      try simp (disch := omega) only [li, nO_n, adI, mlI, tnI, vpI, ltI, leI, eqI, forall_eq, leT, leF, ltT, ltF, eqT, eqF, true_and, and_true, false_implies, true_implies, forall_const, not_true_eq_false, not_false_eq_true, implies_true, eq_false e4, x5]
      have x8 : ∀ m : Mem, m = up1 (up1 M 1251 0 i (nI (cB c))) 6245 i (cB c) (nI (cO c (cB c) + 1)) → m.1 1258 0 0 = nI o ∧ (∀ v, (up1 m 1258 0 0 v).1 1259 0 0 = nI k) ∧ (∀ v, Fy i M (up1 m 1258 0 0 v)) ∧ (∀ u v, MV D w so (opnC D w so c) i (up1 (up1 m 1258 0 0 v) 1259 0 0 u)) ∧ ∀ u v, (up1 (up1 m 1258 0 0 v) 1259 0 0 u).1 1260 0 0 = M.1 1260 0 0 := by
        rintro m rfl
        refine ⟨?_, fun v => ?_, fun v => ?_, fun u v => ?_, fun u v => ?_⟩
        · rw [up1_ne (by omega), up1_ne (by omega)]; exact ho
        · rw [up1_ne (by omega), up1_ne (by omega), up1_ne (by omega)]; exact hk
        · exact (((Fx.y Fx.rf).u (by omega)).u (by omega)).u (by omega)
        · rw [eo]
          refine ⟨?_, ?_, ?_, ?_, fun b hb2 => ?_⟩
          · rw [up1_ne (by omega), up1_ne (by omega), up1_ne (by omega), up1_ne (by omega)]; exact v1
          · rw [up1_ne (by omega), up1_ne (by omega), up1_ne (by omega), up1_ne (by omega)]; exact v2
          · rw [up1_ne (by omega), up1_ne (by omega), up1_ne (by omega), up1_ne (by omega), v3]; show nI 0 = nI (if cB c < nB D w so then 0 else 1); rw [if_pos hb]
          · rw [up1_ne (by omega), up1_ne (by omega), up1_ne (by omega), up1_eq]; exact (sbs _).symm
          · show _ = nI (if b = cB c then cO c b + 1 else cO c b)
            rw [up1_ne (by omega), up1_ne (by omega)]
            by_cases ebb : b = cB c
            · rw [ebb, up1_eq, if_pos rfl]
            · rw [up1_ne (by omega), up1_ne (by omega), if_neg ebb]; exact v5 b hb2
        · rw [up1_ne (by omega), up1_ne (by omega), up1_ne (by omega), up1_ne (by omega)]
      obtain ⟨a1, a2, a3, a4, a5⟩ := x8 _ rfl
      generalize up1 (up1 M 1251 0 i (nI (cB c))) 6245 i (cB c) (nI (cO c (cB c) + 1)) = m1 at *
      try simp (disch := omega) only [li, nO_n, adI, mlI, tnI, vpI, ltI, leI, eqI, forall_eq, leT, leF, ltT, ltF, eqT, eqF, true_and, and_true, false_implies, true_implies, forall_const, not_true_eq_false, not_false_eq_true, implies_true, a1]
      refine mmanyOf (hs.fy (a3 _)) hD h2 h8 hi24 hb ?_
      try simp (disch := omega) only [li, nO_n, adI, mlI, tnI, vpI, ltI, leI, eqI, forall_eq, leT, leF, ltT, ltF, eqT, eqF, true_and, and_true, false_implies, true_implies, forall_const, not_true_eq_false, not_false_eq_true, implies_true, a2]
      have hsn := (hs.fy (a3 (nI (o + 1)))).fy (Fy.u (i := i) (Fx.y Fx.rf) (c := 1259) (j := 0) (k := 0) (v := nI (k + bkM D w so (cB c))) (by omega))
      have := mmv hsn (a4 (nI (k + bkM D w so (cB c))) (nI (o + 1))) oi hD h2 h8 hi24 (x := x) (by omega) (by rw [ob]; omega) (o := o + 1) (k := k + bkM D w so (cB c)) (Q := Q) ((up1_ne (by omega)).trans up1_eq) up1_eq (fun M' f1 f2 f3 f4 f5 => by
        have c1 : cN (movC D w so x (opnC D w so c)) = cN c + 1 := by rw [eo]; rfl
        have c2 : cK (movC D w so x (opnC D w so c)) = cK c + bkM D w so (cB c) := by rw [eo]; rfl
        refine hQ M' (((a3 _).u (by omega)).tr f1) f2 ?_ ?_ (f5.trans (a5 _ _))
        · rw [c1, Nat.add_sub_cancel_left]; exact f3
        · rw [c2, Nat.add_sub_cancel_left]; exact f4)
      rw [ob] at this
      exact this
theorem mseeks {D : Dc} {kn w so wt i : Nat} {c : Cu} {M : Mem} (hs : MS D w so wt i M) (hv : MV D w so c i M) (hi : IC D w so c) (hD : DW D kn) (h2 : 2 ≤ so) (h8 : so ≤ 8) (hi24 : i < 24) {x o k s : Nat} (hx : x < 1000) {Q : Mem → Prop} (ho : M.1 1258 0 0 = nI o) (hk : M.1 1259 0 0 = nI k) (hsk : M.1 1260 0 0 = nI s) (hQ : ∀ M', Fy i M M' → MV D w so (sekC D w so x c) i M' → M'.1 1258 0 0 = nI (o + (cN (sekC D w so x c) - cN c)) → M'.1 1259 0 0 = nI (k + (cK (sekC D w so x c) - cK c)) → M'.1 1260 0 0 = nI (s + 1) → Q M') : pX11_seeks M (nI i) (nI x) Q := by
  have f1 : Fy i M (up1 M 1260 0 0 (nI (s + 1))) := (Fx.y Fx.rf).u (by omega)
  have s1 := hs.fy f1
  have w1 : MV D w so c i (up1 M 1260 0 0 (nI (s + 1))) := by
    obtain ⟨v1, v2, v3, v4, v5⟩ := hv
    exact ⟨(up1_ne (by omega)).trans v1, (up1_ne (by omega)).trans v2, (up1_ne (by omega)).trans v3, (up1_ne (by omega)).trans v4, fun b hb => (up1_ne (by omega)).trans (v5 b hb)⟩
  have o1 : (up1 M 1260 0 0 (nI (s + 1))).1 1258 0 0 = nI o := (up1_ne (by omega)).trans ho
  have k1 : (up1 M 1260 0 0 (nI (s + 1))).1 1259 0 0 = nI k := (up1_ne (by omega)).trans hk
  have z1 : (up1 M 1260 0 0 (nI (s + 1))).1 1260 0 0 = nI (s + 1) := up1_eq
  have h3 := hi.2.2.1
  unfold pX11_seeks
  unfold sekC at hQ
  try simp (disch := omega) only [li, nO_n, adI, mlI, tnI, vpI, ltI, leI, eqI, forall_eq, leT, leF, ltT, ltF, eqT, eqF, true_and, and_true, false_implies, true_implies, forall_const, not_true_eq_false, not_false_eq_true, implies_true, hsk]
  generalize up1 M 1260 0 0 (nI (s + 1)) = M1 at *
  by_cases e : x ≤ cP c
  · simp only [if_pos e] at hQ
    try simp (disch := omega) only [li, nO_n, adI, mlI, tnI, vpI, ltI, leI, eqI, forall_eq, leT, leF, ltT, ltF, eqT, eqF, true_and, and_true, false_implies, true_implies, forall_const, not_true_eq_false, not_false_eq_true, implies_true, w1.2.1]
    refine ms26 s1 w1 hi hD h2 h8 hi24 (fun _ => e) o1 k1 (fun M' f2 f3 f4 f5 f6 => ?_)
    exact hQ M' (f1.tr f2) f3 f4 f5 (f6.trans z1)
  · simp only [if_neg e] at hQ
    try simp (disch := omega) only [li, nO_n, adI, mlI, tnI, vpI, ltI, leI, eqI, forall_eq, leT, leF, ltT, ltF, eqT, eqF, true_and, and_true, false_implies, true_implies, forall_const, not_true_eq_false, not_false_eq_true, implies_true, w1.2.1]
    refine mdips s1 w1 hi hD h2 h8 hi24 hx (fun M2 f2 w2 => ?_)
    have hd := hi.dip hD h2 x
    refine ms26 (s1.fx f2) w2 hd.1 hD h2 h8 hi24 hd.2 ((f2.1 _ _ _ (by omega)).trans o1) ((f2.1 _ _ _ (by omega)).trans k1) (fun M' f3 f4 f5 f6 f7 => ?_)
    have c1 : cN (dipC D w so x c) = cN c := rfl
    have c2 : cK (dipC D w so x c) = cK c := rfl
    rw [c1] at f5
    rw [c2] at f6
    exact hQ M' ((f1.tr f2.y).tr f3) f4 f5 f6 ((f7.trans (f2.1 _ _ _ (by omega))).trans z1)
