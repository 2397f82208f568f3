/-! PURE: the reference's turn -/
theorem mskip {D : Dc} {K : Qc} {kn so m : Nat} {g : Ge} {M : Mem} (h : NW D K so g M) (hg : GI D K so m g) (hD : DW D kn) (hK : QW K kn) (h2 : 2 ≤ so) (h8 : so ≤ 8) (hm : 1 ≤ m) (hm2 : m ≤ 10) {t nx hh : Nat} {a : Nat → Nat} (hl : LX t a M) (hht : hh ≤ t) (hLN : LN D K so g.1 (sN K) t a) (hx : nx < 900) {Q : Int32 → Mem → Prop} (hQ : ∀ M', Kp kHt M M' → NW D K so (setZ g (mp (Fdp D K so nx) g.1 a hh) g.2.2.2.1 g.2.2.2.2.1) M' → Q (nI 1) M') : ∃ n : Nat, lp (fun L s => bX11_turn_116 (nI m) Q L s.1 s.2.1 s.2.2.1 s.2.2.2) n (M, nI hh, nI nx, 0) := by
  have hn := hK.1
  have htn := hLN.1
  have ha : ∀ k, k < t → a k < sN K := fun k hk => (hLN.2.1 k hk).1
  have hne : ∀ n, n < t → ∀ k, k < n → a k ≠ a n := fun n hn2 k hk => (hLN.2.2 k n hk hn2).1
  refine lp_up (fun k s => s.2.1 = nI hh ∧ s.2.2.1 = nI nx ∧ s.2.2.2 = nI k ∧ Kp kHt M s.1 ∧ NW D K so (setZ g (mp (Fdp D K so nx) g.1 a k) g.2.2.2.1 g.2.2.2.2.1) s.1 ∧ LX t a s.1) (Nat.zero_le hh) ⟨rfl, rfl, rfl, Kp.rf, (by show NW D K so (setZ g (mp (Fdp D K so nx) g.1 a 0) g.2.2.2.1 g.2.2.2.2.1) M; rw [mp_0]; exact h), hl⟩ ?_ ?_
  · rintro k ⟨m3, y1, y2, y⟩ L - hk ⟨rfl, rfl, rfl, k3, w3, l3⟩ hL
    have k3 : Kp kHt M m3 := k3
    have w3 : NW D K so (setZ g (mp (Fdp D K so nx) g.1 a k) g.2.2.2.1 g.2.2.2.2.1) m3 := w3
    have l3 : LX t a m3 := l3
    have hak := ha k (by omega)
    have hat := mp_at (F := Fdp D K so nx) (z := g.1) (hne k (by omega))
    have hs := mp_s (F := Fdp D K so nx) (z := g.1) (hne k (by omega))
    have ic := hg.1 _ hak
    obtain ⟨s1, s2⟩ := w3.2.2.2.1 (a k) hak
    obtain ⟨w1', w2', w3'⟩ := NW.w h hg hD hK h2 h8 hm hm2 hak
    have s2' : MV D (sW K (a k)) so (mp (Fdp D K so nx) g.1 a k (a k)) (a k) m3 := s2
    rw [hat] at s2' hs
    unfold bX11_turn_116
    try simp (disch := omega) only [li, nO_n, adI, mlI, tnI, vpI, ltI, leI, eqI, forall_eq, leT, leF, ltT, ltF, eqT, eqF, true_and, and_true, false_implies, true_implies, forall_const, not_true_eq_false, not_false_eq_true, implies_true, l3.2 k (by omega)]
    refine mdips s1 s2' ic hD h2 h8 w2' (x := nx) (by omega) (fun M' f4 v4 => ?_)
    try simp (disch := omega) only [li, nO_n, adI, mlI, tnI, vpI, ltI, leI, eqI, forall_eq, leT, leF, ltT, ltF, eqT, eqF, true_and, and_true, false_implies, true_implies, forall_const, not_true_eq_false, not_false_eq_true, implies_true]
    refine hL _ ⟨rfl, rfl, rfl, k3.tr f4.y.kp, ?_, l3.fy f4.y⟩
    rw [hs]
    have := NW.dp (x := nx) w3 hak f4 (by
      show MV D (sW K (a k)) so (dipC D (sW K (a k)) so nx (mp (Fdp D K so nx) g.1 a k (a k))) (a k) M'
      rw [hat]; exact v4)
    have e9 : (setZ g (mp (Fdp D K so nx) g.1 a k) g.2.2.2.1 g.2.2.2.2.1).1 (a k) = g.1 (a k) := hat
    rw [e9] at this
    exact this
  · rintro ⟨m3, y1, y2, y⟩ L ⟨rfl, rfl, rfl, k3, w3, l3⟩
    have k3 : Kp kHt M m3 := k3
    unfold bX11_turn_116
    try simp (disch := omega) only [li, nO_n, adI, mlI, tnI, vpI, ltI, leI, eqI, forall_eq, leT, leF, ltT, ltF, eqT, eqF, true_and, and_true, false_implies, true_implies, forall_const, not_true_eq_false, not_false_eq_true, implies_true]
    exact hQ m3 k3 w3
theorem mturn {D : Dc} {K : Qc} {kn so m : Nat} {g : Ge} {M : Mem} (h : NW D K so g M) (hg : GI D K so m g) (hD : DW D kn) (hK : QW K kn) (h2 : 2 ≤ so) (h8 : so ≤ 8) (hm : 1 ≤ m) (hm2 : m ≤ 10) {Q : Int32 → Mem → Prop} (hQ0 : pvG D K so m (gI g) = lnT D K so (gI g) → ∀ M', Kp kHt M M' → NW D K so (gI g) M' → Q (nI 0) M') (hQ1 : pvG D K so m (gI g) ≠ lnT D K so (gI g) → ∀ M', Kp kHt M M' → NW D K so (trn D K so m (gI g)) M' → Q (nI 1) M') : pX11_turn M (nI m) Q := by
  have hn := hK.1
  have h57 : M.1 1257 0 0 = nI g.2.2.1 := h.2.2.2.2.2.2.1
  have k0 : Kp (fun c _ => decide (c ≠ 1257)) M (up1 M 1257 0 0 (nI (g.2.2.1 + 1))) := Kp.rf.u1 rfl
  have w0 : NW D K so (gI g) (up1 M 1257 0 0 (nI (g.2.2.1 + 1))) := by
    obtain ⟨m1, m2, m3, q1, q2, q3, q4, q5, q6, q7, q8, q9⟩ := h
    have kg : ∀ c, c ≠ 1257 → ∀ j b, (up1 M 1257 0 0 (nI (g.2.2.1 + 1))).1 c j b = M.1 c j b := fun c hc j b => up1_ne (by omega)
    refine ⟨m1.kp (k0.wk fun c j hc => by unfold pMD at hc; simp at hc ⊢; omega), m2.kp (k0.wk fun c j hc => by unfold pMK at hc; simp at hc ⊢; omega), (kg 1239 (by decide) _ _).trans m3, fun i hi => ⟨?_, ?_⟩, (kg 1256 (by decide) _ _).trans q2, fun z hz => ⟨(kg 1254 (by decide) _ _).trans (q3 z hz).1, (kg 1255 (by decide) _ _).trans (q3 z hz).2⟩, up1_eq, (kg 1258 (by decide) _ _).trans q5, (kg 1259 (by decide) _ _).trans q6, (kg 1260 (by decide) _ _).trans q7, (kg 1261 (by decide) _ _).trans q8, (kg 1262 (by decide) _ _).trans q9⟩
    · obtain ⟨a, b, c, d, e⟩ := (q1 i hi).1
      exact ⟨(kg 1263 (by decide) _ _).trans a, (kg 1246 (by decide) _ _).trans b, (kg 1247 (by decide) _ _).trans c, (kg 1248 (by decide) _ _).trans d, fun x hx => ⟨(kg 6243 (by decide) _ _).trans (e x hx).1, (kg 6244 (by decide) _ _).trans (e x hx).2⟩⟩
    · obtain ⟨a, b, c, d, e⟩ := (q1 i hi).2
      exact ⟨(kg 1249 (by decide) _ _).trans a, (kg 1250 (by decide) _ _).trans b, (kg 1253 (by decide) _ _).trans c, (kg 1251 (by decide) _ _).trans d, fun x hx => (kg 6245 (by decide) _ _).trans (e x hx)⟩
  have k0' : Kp kHt M (up1 M 1257 0 0 (nI (g.2.2.1 + 1))) := Kp.rf.u1 rfl
  have hgI : GI D K so m (gI g) := hg
  unfold pX11_turn
  try simp (disch := omega) only [li, nO_n, adI, mlI, tnI, vpI, ltI, leI, eqI, forall_eq, leT, leF, ltT, ltF, eqT, eqF, true_and, and_true, false_implies, true_implies, forall_const, not_true_eq_false, not_false_eq_true, implies_true, h57]
  generalize up1 M 1257 0 0 (nI (g.2.2.1 + 1)) = M1 at *
  clear h57 k0
  clear h hg
  generalize gI g = g at *
  have hg := hgI
  obtain ⟨hLN, hi⟩ := hg.ln hD hK h2
  have htn := hLN.1
  have ha : ∀ k, k < lnT D K so g → lnA D K so g k < sN K := fun k hk => (hLN.2.1 k hk).1
  have hfl := mflo_le w0 hg hD hK h2 h8 hm hm2
  refine morders w0 hg hD hK h2 h8 hm hm2 (fun M2 k2 l2 => ?_)
  have w2 := w0.kp (k2.wk fun c j => pOr_N)
  have k2' : Kp kHt M M2 := k0'.tr (k2.wk fun c j hc => by unfold kHt at hc; unfold pOr; simp at hc ⊢; omega)
  refine mfloor w2 hg hD hK h2 h8 hm hm2 ?_
  refine mpivot w2 hg hD hK h2 h8 hm hm2 l2 (by omega) ha ?_
  have hpvle : pvt D K (lnT D K so g) (lnA D K so g) (flo m g.2.1) ≤ lnT D K so g := (ffn_c (Nat.zero_le _)).2.1
  have epv : pvt D K (lnT D K so g) (lnA D K so g) (flo m g.2.1) = pvG D K so m g := rfl
  rw [epv] at hpvle ⊢
  by_cases ep : pvG D K so m g = lnT D K so g
  · have := hQ0 ep M2 k2' w2
    try simp (disch := omega) only [li, nO_n, adI, mlI, tnI, vpI, ltI, leI, eqI, forall_eq, leT, leF, ltT, ltF, eqT, eqF, true_and, and_true, false_implies, true_implies, forall_const, not_true_eq_false, not_false_eq_true, implies_true, l2.1]
    exact this
  · have hpt : pvG D K so m g < lnT D K so g := by omega
    obtain ⟨q1, q2, q3, q4⟩ := her_c hD hK h2 hLN hpt
    have hQ1 := hQ1 ep
    unfold trn at hQ1
    have ex : cP (g.1 (lnA D K so g (pvG D K so m g))) = pvX D K so m g := rfl
    have eh : her g.1 (lnT D K so g) (lnA D K so g) (pvX D K so m g) = heG D K so m g := rfl
    rw [ex] at q1 q2 q3 q4
    rw [eh] at q1 q2 q3 q4
    clear epv ep hQ0
    generalize lnT D K so g = t at *
    generalize lnA D K so g = a at *
    generalize pvG D K so m g = p at *
    generalize pvX D K so m g = x at *
    generalize heG D K so m g = hh at *
    have hap := ha p hpt
    have hx63 : x ≤ 63 := by have := (hi p hpt).1.2.2.1; omega
    have e12 : M2.1 1250 0 (a p) = nI x := ((w2.2.2.2.1 (a p) hap).2.2.1).trans (by rw [ex])
    try simp (disch := omega) only [li, nO_n, adI, mlI, tnI, vpI, ltI, leI, eqI, forall_eq, leT, leF, ltT, ltF, eqT, eqF, true_and, and_true, false_implies, true_implies, forall_const, not_true_eq_false, not_false_eq_true, implies_true, l2.1, l2.2 p hpt, e12]
    have hxk : ∀ k, p ≤ k → k < hh → cP (g.1 (a k)) = x := fun k k1 k2 => by
      have := q3 k k2
      by_cases e : p = k
      · subst e; exact ex
      · have := (hLN.2.2 p k (by omega) (by omega)).2
        omega
    have fin : bX11_turn_86 (nI m) Q M2 (nI (flo m g.2.1)) (nI x) (nI hh) := by
      have hnx := nx_c hD hK h2 hi q2 q1 q3 ex q4
      have ha0 := ha 0 (by omega)
      have hi0 := (hi 0 (by omega)).1
      have e0 : M2.1 1250 0 (a 0) = nI (cP (g.1 (a 0))) := (w2.2.2.2.1 (a 0) ha0).2.2.1
      have hp0 := hi0.2.2.1
      unfold trX at hQ1
      unfold bX11_turn_86
      refine mskipsTo w2 hg hD hK h2 h8 hm hm2 l2 q2 (by omega) ha (by omega) ?_
      by_cases e1 : flo m g.2.1 < bds D K so g.1 a x hh
      · rw [if_pos e1] at hQ1
        rw [if_pos e1]
        by_cases e2 : x ≤ cP (g.1 (a 0))
        · rw [if_pos e2] at hQ1
          try simp (disch := omega) only [li, nO_n, adI, mlI, tnI, vpI, ltI, leI, eqI, forall_eq, leT, leF, ltT, ltF, eqT, eqF, true_and, and_true, false_implies, true_implies, forall_const, not_true_eq_false, not_false_eq_true, implies_true, l2.2 0 (by omega), e0]
          have hx0 : ∀ k, k < hh → cP (g.1 (a k)) = x := fun k hk => by
            have := q3 k hk
            by_cases e : k = 0
            · subst e; omega
            · have := (hLN.2.2 0 k (by omega) (by omega)).2
              omega
          refine mlooks w2 hg hD hK h2 h8 hm hm2 l2 q2 hLN (by omega) hx0 (fun M4 k4 w4 => ?_)
          exact hQ1 M4 (k2'.tr k4) w4
        · rw [if_neg e2] at hQ1
          try simp (disch := omega) only [li, nO_n, adI, mlI, tnI, vpI, ltI, leI, eqI, forall_eq, leT, leF, ltT, ltF, eqT, eqF, true_and, and_true, false_implies, true_implies, forall_const, not_true_eq_false, not_false_eq_true, implies_true, l2.2 0 (by omega), e0]
          obtain ⟨s1, s2⟩ := w2.2.2.2.1 (a 0) ha0
          obtain ⟨w1', w2', w3'⟩ := NW.w w2 hg hD hK h2 h8 hm hm2 ha0
          refine mseeks s1 s2 hi0 hD h2 h8 w2' (x := x) (by omega) w2.2.2.2.2.2.2.2.1 w2.2.2.2.2.2.2.2.2.1 w2.2.2.2.2.2.2.2.2.2.1 (fun M' f4 v4 o4 k4 z4 => ?_)
          have smo := sek_mono D (sW K (a 0)) so x (g.1 (a 0))
          exact hQ1 M' (k2'.tr f4.kp) (NW.fy w2 ha0 f4 v4 smo.1 smo.2 o4 k4 z4)
      · rw [if_neg e1] at hQ1
        rw [if_neg e1]
        have h61 : M2.1 1261 0 0 = nI g.2.2.2.2.1 := w2.2.2.2.2.2.2.2.2.2.2.1
        have nno : ¬ nI (nxF D K so g.1 t a x hh hh) = nO := nO_ne (by omega)
        have w5 : NW D K so (setZ g g.1 g.2.2.2.1 (g.2.2.2.2.1 + 1)) (up1 M2 1261 0 0 (nI (g.2.2.2.2.1 + 1))) := by
          obtain ⟨m1, m2, m3, q1, q2, q3, q4, q5, q6, q7, q8, q9⟩ := w2
          have k0 : Kp (fun c _ => decide (c ≠ 1261)) M2 (up1 M2 1261 0 0 (nI (g.2.2.2.2.1 + 1))) := Kp.rf.u1 rfl
          have kg : ∀ c, c ≠ 1261 → ∀ j b, (up1 M2 1261 0 0 (nI (g.2.2.2.2.1 + 1))).1 c j b = M2.1 c j b := fun c hc j b => up1_ne (by omega)
          refine ⟨m1.kp (k0.wk fun c j hc => by unfold pMD at hc; simp at hc ⊢; omega), m2.kp (k0.wk fun c j hc => by unfold pMK at hc; simp at hc ⊢; omega), (kg 1239 (by decide) _ _).trans m3, fun i hi => ⟨?_, ?_⟩, (kg 1256 (by decide) _ _).trans q2, fun z hz => ⟨(kg 1254 (by decide) _ _).trans (q3 z hz).1, (kg 1255 (by decide) _ _).trans (q3 z hz).2⟩, (kg 1257 (by decide) _ _).trans q4, (kg 1258 (by decide) _ _).trans q5, (kg 1259 (by decide) _ _).trans q6, (kg 1260 (by decide) _ _).trans q7, up1_eq, (kg 1262 (by decide) _ _).trans q9⟩
          · obtain ⟨a, b, c, d, e⟩ := (q1 i hi).1
            exact ⟨(kg 1263 (by decide) _ _).trans a, (kg 1246 (by decide) _ _).trans b, (kg 1247 (by decide) _ _).trans c, (kg 1248 (by decide) _ _).trans d, fun x hx => ⟨(kg 6243 (by decide) _ _).trans (e x hx).1, (kg 6244 (by decide) _ _).trans (e x hx).2⟩⟩
          · obtain ⟨a, b, c, d, e⟩ := (q1 i hi).2
            exact ⟨(kg 1249 (by decide) _ _).trans a, (kg 1250 (by decide) _ _).trans b, (kg 1253 (by decide) _ _).trans c, (kg 1251 (by decide) _ _).trans d, fun x hx => (kg 6245 (by decide) _ _).trans (e x hx)⟩
        have l5 : LX t a (up1 M2 1261 0 0 (nI (g.2.2.2.2.1 + 1))) := ⟨(up1_ne (by omega)).trans l2.1, fun k hk => (up1_ne (by omega)).trans (l2.2 k hk)⟩
        have k5 : Kp kHt M (up1 M2 1261 0 0 (nI (g.2.2.2.2.1 + 1))) := k2'.u1 rfl
        have hg5 : GI D K so m (setZ g g.1 g.2.2.2.1 (g.2.2.2.2.1 + 1)) := hg
        have go := mskip (nx := nxF D K so g.1 t a x hh hh) w5 hg5 hD hK h2 h8 hm hm2 l5 q2 hLN (by omega) (Q := Q) (fun M6 k6 w6 => hQ1 M6 (k5.tr k6) w6)
        try simp (disch := omega) only [li, nO_n, adI, mlI, tnI, vpI, ltI, leI, eqI, forall_eq, leT, leF, ltT, ltF, eqT, eqF, true_and, and_true, false_implies, true_implies, forall_const, not_true_eq_false, not_false_eq_true, implies_true, h61, eq_false nno]
        exact go
    refine lp_up (fun k s => s = (M2, nI (flo m g.2.1), nI x, nI k)) (a := p + 1) (N := hh) q1 rfl ?_ ?_
    · rintro k s L hk1 hk rfl hL
      have hak := ha k (by omega)
      have e13 : M2.1 1250 0 (a k) = nI x := ((w2.2.2.2.1 (a k) hak).2.2.1).trans (by rw [hxk k (by omega) hk])
      unfold bX11_turn_54
      try simp (disch := omega) only [li, nO_n, adI, mlI, tnI, vpI, ltI, leI, eqI, forall_eq, leT, leF, ltT, ltF, eqT, eqF, true_and, and_true, false_implies, true_implies, forall_const, not_true_eq_false, not_false_eq_true, implies_true, l2.1, l2.2 k (by omega), e13]
      exact hL _ rfl
    · rintro s L rfl
      unfold bX11_turn_54
      by_cases e : hh < t
      · have hak := ha hh e
        have hq4 := q4 e
        have hph := (hi hh e).1.2.2.1
        have e13 : M2.1 1250 0 (a hh) = nI (cP (g.1 (a hh))) := (w2.2.2.2.1 (a hh) hak).2.2.1
        try simp (disch := omega) only [li, nO_n, adI, mlI, tnI, vpI, ltI, leI, eqI, forall_eq, leT, leF, ltT, ltF, eqT, eqF, true_and, and_true, false_implies, true_implies, forall_const, not_true_eq_false, not_false_eq_true, implies_true, l2.1, l2.2 hh e, e13]
        exact fin
      · try simp (disch := omega) only [li, nO_n, adI, mlI, tnI, vpI, ltI, leI, eqI, forall_eq, leT, leF, ltT, ltF, eqT, eqF, true_and, and_true, false_implies, true_implies, forall_const, not_true_eq_false, not_false_eq_true, implies_true, l2.1]
        exact fin
