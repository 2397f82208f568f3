/-! PURE: the class's hunt, to the end -/
theorem bh64 {D : Dc} {K : Qc} {kn so m : Nat} {g : Ge} {M : Mem} (h : HW D K so m g M) (hg : GI D K so m g) (hD : DW D kn) (hK : QW K kn) (h2 : 2 ≤ so) (h8 : so ≤ 8) (hm : 1 ≤ m) (hm2 : m ≤ 10) {w x a : Nat} {c : Cu} : min (min 64 a) (bhR D w so x 64 c) = min 64 (min a (bhR D w so x 65 c)) := by
  unfold bhR
  by_cases e : rch D w so x c < nB D w so
  · rw [if_pos e, if_pos e]; omega
  · rw [if_neg e, if_neg e]; omega
theorem cskip {D : Dc} {K : Qc} {kn so m : Nat} {g : Ge} {M : Mem} (h : HW D K so m g M) (hg : GI D K so m g) (hD : DW D kn) (hK : QW K kn) (h2 : 2 ≤ so) (h8 : so ≤ 8) (hm : 1 ≤ m) (hm2 : m ≤ 10) {t x hh p : Nat} {a : Nat → Nat} (hl : LW t a M) (h5 : M.1 305 0 0 = nI hh) (hht : hh ≤ t) (hLN : LN D K so g.1 (sN K) t a) (hp : p < hh) (hpx : cP (g.1 (a p)) = x) (hx0 : ∀ k, k < hh → cP (g.1 (a k)) ≤ x) (hn1 : hh < t → x < cP (g.1 (a hh))) {Q : Mem → Prop} (hQ : ∀ M', Kp pHt M M' → HW D K so m (trK D K so g t a x hh) M' → Q M') : pX2_skip M (nI x) Q := by
  have hn := hK.1
  have htn := hLN.1
  have ha : ∀ k, k < t → a k < sN K := fun k hk => (hLN.2.1 k hk).1
  have hi : ∀ k, k < t → IC D (sW K (a k)) so (g.1 (a k)) ∧ liv D K so g.1 (a k) := fun k hk => ⟨hg.1 _ (ha k hk), (hLN.2.1 k hk).2⟩
  have hne : ∀ n, n < t → ∀ k, k < n → a k ≠ a n := fun n hn2 k hk => (hLN.2.2 k n hk hn2).1
  have hx63 : x ≤ 63 := by have := (hi p (by omega)).1.2.2.1; omega
  have hnx := nx_c hD hK h2 hi hht hp hx0 hpx hn1
  have ka : Kp pHt M (up1 M 312 0 0 (nI (g.2.2.2.2.1 + 1))) := Kp.rf.u1 rfl
  have wa : HW D K so m (setZ g g.1 g.2.2.2.1 (g.2.2.2.2.1 + 1)) (up1 M 312 0 0 (nI (g.2.2.2.2.1 + 1))) := by
    obtain ⟨h1, h2, r1, r2, r3, r4, r5, r6, r7, r8⟩ := h
    have kk : Kp (fun c _ => decide (c ≠ 312)) M (up1 M 312 0 0 (nI (g.2.2.2.2.1 + 1))) := Kp.rf.u1 rfl
    have kb : ∀ j c, 100 ≤ c → c ≤ 116 → ∀ b, (up1 M 312 0 0 (nI (g.2.2.2.2.1 + 1))).1 c j b = M.1 c j b := fun j c h3 h4 b => kk.g (by simp; omega) b
    exact ⟨h1.kp (kk.wk fun c j hc => by unfold pCD at hc; simp at hc ⊢; omega), h2.kp (kk.wk fun c j hc => by unfold pCK at hc; simp at hc ⊢; omega), fun x hx => ⟨(r1 x hx).1.all (kb x), (r1 x hx).2.all (kb x)⟩, (up1_ne (by omega)).trans r2, (up1_ne (by omega)).trans r3, r4.kp kk rfl rfl, (up1_ne (by omega)).trans r5, (up1_ne (by omega)).trans r6, up1_eq, (up1_ne (by omega)).trans r8⟩
  have la : LW t a (up1 M 312 0 0 (nI (g.2.2.2.2.1 + 1))) := ⟨(up1_ne (by omega)).trans hl.1, fun j hj => (up1_ne (by omega)).trans (hl.2 j hj)⟩
  have ea : (up1 M 312 0 0 (nI (g.2.2.2.2.1 + 1))).1 305 0 0 = nI hh := (up1_ne (by omega)).trans h5
  unfold pX2_skip
  rw [h.2.2.2.2.2.2.2.2.1]
  simp only [li, adI, forall_eq]
  generalize up1 M 312 0 0 (nI (g.2.2.2.2.1 + 1)) = M1 at ka wa la ea
  have go : bX2_skip_44 (nI x) Q M1 (nI (min 64 (nxF D K so g.1 t a x hh 0))) := by
    unfold bX2_skip_44
    refine lp_up (fun k s => s = (M1, nI (min 64 (nxF D K so g.1 t a x hh k)), nI k)) (Nat.zero_le hh) rfl ?_ ?_
    · rintro k s L - hk rfl hL
      have hak := ha k (by omega)
      obtain ⟨w1, w2, w3⟩ := HW.w h hg hD hK h2 h8 hm hm2 hak
      obtain ⟨s1, s2⟩ := wa.2.2.1 (a k) hak
      have s2 : CV D (sW K (a k)) so (g.1 (a k)) (a k) M1 := s2
      have hbb : bhR D (sW K (a k)) so x 64 (g.1 (a k)) ≤ 64 := by
        unfold bhR
        by_cases e : rch D (sW K (a k)) so x (g.1 (a k)) < nB D (sW K (a k)) so
        · rw [if_pos e]; have := FL_le hD h2 e; omega
        · rw [if_neg e]; omega
      unfold bX2_skip_46
      try simp (disch := omega) only [li, nO_n, adI, mlI, tnI, vpI, ltI, leI, eqI, forall_eq, leT, leF, ltT, ltF, eqT, eqF, true_and, and_true, false_implies, true_implies, forall_const, not_true_eq_false, not_false_eq_true, implies_true, ea, la.2 k (by omega)]
      refine cbehind s1 s2 (hg.1 _ hak) hD h2 h8 w1 (by omega) ?_
      try simp (disch := omega) only [li, nO_n, adI, mlI, tnI, vpI, ltI, leI, eqI, forall_eq, leT, leF, ltT, ltF, eqT, eqF, true_and, and_true, false_implies, true_implies, forall_const, not_true_eq_false, not_false_eq_true, implies_true, mnI]
      rw [bh64 h hg hD hK h2 h8 hm hm2]
      exact hL _ rfl
    · rintro s L rfl
      unfold bX2_skip_46
      try simp (disch := omega) only [li, nO_n, adI, mlI, tnI, vpI, ltI, leI, eqI, forall_eq, leT, leF, ltT, ltF, eqT, eqF, true_and, and_true, false_implies, true_implies, forall_const, not_true_eq_false, not_false_eq_true, implies_true, ea]
      rw [show min 64 (nxF D K so g.1 t a x hh hh) = nxF D K so g.1 t a x hh hh by omega]
      unfold trK at hQ
      generalize nxF D K so g.1 t a x hh hh = nx at *
      refine lp_up (fun k s => s.2.1 = nI nx ∧ s.2.2 = nI k ∧ Kp pHt M s.1 ∧ HW D K so m (setZ g (mp (Fdp D K so nx) g.1 a k) g.2.2.2.1 (g.2.2.2.2.1 + 1)) s.1 ∧ LW t a s.1 ∧ s.1.1 305 0 0 = nI hh) (Nat.zero_le hh) ⟨rfl, rfl, ka, (by show HW D K so m (setZ g (mp (Fdp D K so nx) g.1 a 0) g.2.2.2.1 (g.2.2.2.2.1 + 1)) M1; rw [mp_0]; exact wa), la, ea⟩ ?_ ?_
      · rintro k ⟨m3, y2, y⟩ L - hk ⟨rfl, rfl, k3, w3, l3, e5⟩ hL
        have k3 : Kp pHt M m3 := k3
        have w3 : HW D K so m (setZ g (mp (Fdp D K so nx) g.1 a k) g.2.2.2.1 (g.2.2.2.2.1 + 1)) m3 := w3
        have l3 : LW t a m3 := l3
        have e5 : m3.1 305 0 0 = nI hh := e5
        have hak := ha k (by omega)
        have hat := mp_at (F := Fdp D K so nx) (z := g.1) (hne k (by omega))
        have hs := mp_s (F := Fdp D K so nx) (z := g.1) (hne k (by omega))
        have ic := hg.1 _ hak
        obtain ⟨s1, s2⟩ := w3.2.2.1 (a k) hak
        obtain ⟨w1', w2', w3'⟩ := HW.w h hg hD hK h2 h8 hm hm2 hak
        have s2 : CV D (sW K (a k)) so (mp (Fdp D K so nx) g.1 a k (a k)) (a k) m3 := s2
        rw [hat] at s2 hs
        unfold bX2_skip_82
        try simp (disch := omega) only [li, nO_n, adI, mlI, tnI, vpI, ltI, leI, eqI, forall_eq, leT, leF, ltT, ltF, eqT, eqF, true_and, and_true, false_implies, true_implies, forall_const, not_true_eq_false, not_false_eq_true, implies_true, e5, l3.2 k (by omega)]
        refine cdip s1 s2 ic hD h2 h8 w1' (x := nx) (by omega) (fun M' k4 v4 => ?_)
        try simp (disch := omega) only [li, nO_n, adI, mlI, tnI, vpI, ltI, leI, eqI, forall_eq, leT, leF, ltT, ltF, eqT, eqF, true_and, and_true, false_implies, true_implies, forall_const, not_true_eq_false, not_false_eq_true, implies_true]
        refine hL _ ⟨rfl, rfl, k3.tr (k4.wk fun c j => pHt_v), ?_, l3.kp k4 (pCv_0 (by omega)) (pCv_0 (by omega)), (k4.g (pCv_0 (by omega)) 0).trans e5⟩
        rw [hs]
        exact w3.upd k4 v4
      · rintro ⟨m3, y2, y⟩ L ⟨rfl, rfl, k3, w3, l3, e5⟩
        have k3 : Kp pHt M m3 := k3
        have e5 : m3.1 305 0 0 = nI hh := e5
        unfold bX2_skip_82
        try simp (disch := omega) only [li, nO_n, adI, mlI, tnI, vpI, ltI, leI, eqI, forall_eq, leT, leF, ltT, ltF, eqT, eqF, true_and, and_true, false_implies, true_implies, forall_const, not_true_eq_false, not_false_eq_true, implies_true, e5]
        exact hQ m3 k3 w3
  have e0 : nxF D K so g.1 t a x hh 0 = if hh < t then cP (g.1 (a hh)) else 65 := rfl
  rw [e0] at go
  by_cases e : hh < t
  · rw [if_pos e] at go
    have hak := ha hh e
    have e12 : M1.1 112 (a hh) 0 = nI (cP (g.1 (a hh))) := (wa.2.2.1 (a hh) hak).2.2.1
    have hp63 := (hi hh e).1.2.2.1
    rw [show min 64 (cP (g.1 (a hh))) = cP (g.1 (a hh)) by omega] at go
    try simp (disch := omega) only [li, nO_n, adI, mlI, tnI, vpI, ltI, leI, eqI, forall_eq, leT, leF, ltT, ltF, eqT, eqF, true_and, and_true, false_implies, true_implies, forall_const, not_true_eq_false, not_false_eq_true, implies_true, la.1, ea, la.2 hh e, e12]
    exact go
  · rw [if_neg e] at go
    try simp (disch := omega) only [li, nO_n, adI, mlI, tnI, vpI, ltI, leI, eqI, forall_eq, leT, leF, ltT, ltF, eqT, eqF, true_and, and_true, false_implies, true_implies, forall_const, not_true_eq_false, not_false_eq_true, implies_true, la.1, ea]
    exact go
theorem cturn {D : Dc} {K : Qc} {kn so m : Nat} {g : Ge} {M : Mem} (h : HW D K so m g M) (hg : GI D K so m g) (hD : DW D kn) (hK : QW K kn) (h2 : 2 ≤ so) (h8 : so ≤ 8) (hm : 1 ≤ m) (hm2 : m ≤ 10) {Q : Int32 → Mem → Prop} (hQ0 : pvG D K so m g = lnT D K so g → ∀ M', Kp pHt M M' → HW D K so m g M' → Q (nI 0) M') (hQ1 : pvG D K so m g ≠ lnT D K so g → ∀ M', Kp pHt M M' → HW D K so m (trn D K so m g) M' → Q (nI 1) M') : pX2_takeTurn M Q := by
  have hn := hK.1
  obtain ⟨hLN, hi⟩ := hg.ln hD hK h2
  have htn := hLN.1
  have ha : ∀ k, k < lnT D K so g → lnA D K so g k < sN K := fun k hk => (hLN.2.1 k hk).1
  have hfl := flo_le h hg hD hK h2 h8 hm hm2
  unfold pX2_takeTurn
  refine clineUp h hg hD hK h2 h8 hm hm2 (fun M2 k2 l2 => ?_)
  have w2 := h.kp (k2.wk fun c j => pLn_H)
  have k2' : Kp pHt M M2 := k2.wk fun c j => pHt_n
  refine cpivot w2 hg hD hK h2 h8 hm hm2 l2 (by omega) ha ?_
  have hpvle : pvt D K (lnT D K so g) (lnA D K so g) (flo m g.2.1) ≤ lnT D K so g := (ffn_c (Nat.zero_le _)).2.1
  by_cases ep : pvt D K (lnT D K so g) (lnA D K so g) (flo m g.2.1) = lnT D K so g
  · rw [if_pos ep]
    try simp (disch := omega) only [li, nO_n, adI, mlI, tnI, vpI, ltI, leI, eqI, forall_eq, leT, leF, ltT, ltF, eqT, eqF, true_and, and_true, false_implies, true_implies, forall_const, not_true_eq_false, not_false_eq_true, implies_true]
    exact hQ0 ep M2 k2' w2
  · rw [if_neg ep]
    have hpt : pvG D K so m g < lnT D K so g := by
      have : pvG D K so m g ≤ lnT D K so g := hpvle
      have : pvG D K so m g ≠ lnT D K so g := ep
      omega
    obtain ⟨q1, q2, q3, q4⟩ := her_c hD hK h2 hLN hpt
    have hQ1 := hQ1 ep
    unfold trn at hQ1
    have epv : pvt D K (lnT D K so g) (lnA D K so g) (flo m g.2.1) = pvG D K so m g := rfl
    rw [epv]
    have ex : cP (g.1 (lnA D K so g (pvG D K so m g))) = pvX D K so m g := rfl
    have eh : her g.1 (lnT D K so g) (lnA D K so g) (pvX D K so m g) = heG D K so m g := rfl
    rw [ex] at q1 q2 q3 q4
    rw [eh] at q1 q2 q3 q4
    clear epv ep hpvle
    generalize lnT D K so g = t at *
    generalize lnA D K so g = a at *
    generalize pvG D K so m g = p at *
    generalize pvX D K so m g = x at *
    generalize heG D K so m g = hh at *
    have hap := ha p hpt
    have hx63 : x ≤ 63 := by have := (hi p hpt).1.2.2.1; omega
    have e12 : M2.1 112 (a p) 0 = nI x := ((w2.2.2.1 (a p) hap).2.2.1).trans (by rw [ex])
    have hnp : ¬ nI p = nO := nO_ne (by omega)
    try simp (disch := omega) only [li, nO_n, adI, mlI, tnI, vpI, ltI, leI, eqI, forall_eq, leT, leF, ltT, ltF, eqT, eqF, true_and, and_true, false_implies, true_implies, forall_const, not_true_eq_false, not_false_eq_true, implies_true, l2.2 p hpt, e12, eq_false hnp]
    refine ccount (x := x) w2 hg hD hK h2 h8 hm hm2 l2 (by omega) ha (by omega) (fun M3 k3 e5 => ?_)
    rw [eh] at e5
    have w3 : HW D K so m g M3 := w2.kp (k3.wk fun c j hc => by unfold pHW at hc; unfold p5; simp at hc ⊢; omega)
    have l3 := l2.kp k3 rfl rfl
    have k3' : Kp pHt M M3 := k2'.tr (k3.wk fun c j => pHt_5)
    have hbl := bds_le w3 hg hD hK h2 h8 hm hm2 (x := x) q2 (by omega) ha
    refine cbds w3 hg hD hK h2 h8 hm hm2 l3 e5 q2 (by omega) ha (by omega) ?_
    refine cfloor w3 hg hD hK h2 h8 hm hm2 ?_
    have ha0 := ha 0 (by omega)
    have hi0 := (hi 0 (by omega)).1
    have e0 : M3.1 112 (a 0) 0 = nI (cP (g.1 (a 0))) := (w3.2.2.1 (a 0) ha0).2.2.1
    have hp0 := hi0.2.2.1
    unfold trX at hQ1
    by_cases e1 : flo m g.2.1 < bds D K so g.1 a x hh
    · rw [if_pos e1] at hQ1
      by_cases e2 : x ≤ cP (g.1 (a 0))
      · rw [if_pos e2] at hQ1
        try simp (disch := omega) only [li, nO_n, adI, mlI, tnI, vpI, ltI, leI, eqI, forall_eq, leT, leF, ltT, ltF, eqT, eqF, true_and, and_true, false_implies, true_implies, forall_const, not_true_eq_false, not_false_eq_true, implies_true, l3.2 0 (by omega), e0]
        have hx0 : ∀ k, k < hh → cP (g.1 (a k)) = x := fun k hk => by
          have := q3 k hk
          by_cases e : k = 0
          · subst e; omega
          · have := (hLN.2.2 0 k (by omega) (by omega)).2
            omega
        exact cali w3 hg hD hK h2 h8 hm hm2 l3 e5 q2 hLN (by omega) hx0 (R := fun M' => Q (nI 1) M') (fun M4 k4 w4 => hQ1 M4 (k3'.tr k4) w4) (fun M' hr => ⟨fun _ => hr, fun q => absurd rfl q⟩) (fun M' hr => ⟨fun q => absurd q (by decide), fun _ => hr⟩)
      · rw [if_neg e2] at hQ1
        obtain ⟨h1, h22, r1, r2, r3, r4, r5, r6, r7, r8⟩ := w3
        have kk : Kp (fun c _ => decide (c ≠ 311)) M3 (up1 M3 311 0 0 (nI (g.2.2.2.1 + 1))) := Kp.rf.u1 rfl
        have kb : ∀ j c, 100 ≤ c → c ≤ 116 → ∀ b, (up1 M3 311 0 0 (nI (g.2.2.2.1 + 1))).1 c j b = M3.1 c j b := fun j c h3 h4 b => kk.g (by simp; omega) b
        have wa : HW D K so m (setZ g g.1 (g.2.2.2.1 + 1) g.2.2.2.2.1) (up1 M3 311 0 0 (nI (g.2.2.2.1 + 1))) := ⟨h1.kp (kk.wk fun c j hc => by unfold pCD at hc; simp at hc ⊢; omega), h22.kp (kk.wk fun c j hc => by unfold pCK at hc; simp at hc ⊢; omega), fun x hx => ⟨(r1 x hx).1.all (kb x), (r1 x hx).2.all (kb x)⟩, (up1_ne (by omega)).trans r2, (up1_ne (by omega)).trans r3, r4.kp kk rfl rfl, (up1_ne (by omega)).trans r5, up1_eq, (up1_ne (by omega)).trans r7, (up1_ne (by omega)).trans r8⟩
        have f3 : (up1 M3 311 0 0 (nI (g.2.2.2.1 + 1))).1 303 0 0 = nI (a 0) := (up1_ne (by omega)).trans (l3.2 0 (by omega))
        have kz : Kp pHt M (up1 M3 311 0 0 (nI (g.2.2.2.1 + 1))) := k3'.u1 rfl
        try simp (disch := omega) only [li, nO_n, adI, mlI, tnI, vpI, ltI, leI, eqI, forall_eq, leT, leF, ltT, ltF, eqT, eqF, true_and, and_true, false_implies, true_implies, forall_const, not_true_eq_false, not_false_eq_true, implies_true, l3.2 0 (by omega), e0, r6, f3]
        generalize up1 M3 311 0 0 (nI (g.2.2.2.1 + 1)) = M4 at wa kz
        obtain ⟨s1, s2⟩ := wa.2.2.1 (a 0) ha0
        obtain ⟨w1', w2', w3'⟩ := HW.w h hg hD hK h2 h8 hm hm2 ha0
        refine cseek s1 s2 hi0 hD h2 h8 w1' wa.1 (by omega) (fun M' k4 v4 => ?_)
        exact hQ1 M' (kz.tr (k4.wk fun c j => pHt_v)) (wa.upd k4 v4)
    · rw [if_neg e1] at hQ1
      try simp (disch := omega) only [li, nO_n, adI, mlI, tnI, vpI, ltI, leI, eqI, forall_eq, leT, leF, ltT, ltF, eqT, eqF, true_and, and_true, false_implies, true_implies, forall_const, not_true_eq_false, not_false_eq_true, implies_true]
      refine cskip w3 hg hD hK h2 h8 hm hm2 l3 e5 q2 hLN q1 ex q3 q4 (fun M4 k4 w4 => ?_)
      exact hQ1 M4 (k3'.tr k4) w4
