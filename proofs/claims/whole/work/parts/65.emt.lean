/-! PURE: the reference's hunt, the turns -/
def kHt (c _ : Nat) : Bool := decide (¬ (c = 1237 ∨ c = 1238 ∨ (1243 ≤ c ∧ c ≤ 1264) ∨ (6243 ≤ c ∧ c ≤ 6245)))
theorem Fy.kp {i : Nat} {M M' : Mem} (k : Fy i M M') : Kp kHt M M' := fun c j q => by
  unfold kHt at q
  simp at q
  exact ⟨by funext b; exact k.1 c j b (by omega), k.2 c j⟩
theorem LX.fy {t i : Nat} {a : Nat → Nat} {M M' : Mem} (h : LX t a M) (k : Fy i M M') : LX t a M' := ⟨(k.1 _ _ _ (by omega)).trans h.1, fun x hx => (k.1 _ _ _ (by omega)).trans (h.2 x hx)⟩
theorem LX.kp {P : Nat → Nat → Bool} {t : Nat} {a : Nat → Nat} {M M' : Mem} (h : LX t a M) (k : Kp P M M') (h3 : P 1252 0 = true) (h4 : P 1264 0 = true) : LX t a M' := ⟨(k.g h4 0).trans h.1, fun x hx => (k.g h3 x).trans (h.2 x hx)⟩
theorem or00 : (nI 0 ||| nI 0) = nI 0 := by decide
theorem or01 : (nI 0 ||| nI 1) = nI 1 := by decide
theorem or10 : (nI 1 ||| nI 0) = nI 1 := by decide
theorem or11 : (nI 1 ||| nI 1) = nI 1 := by decide
theorem updZ_s {z : Cs} {i : Nat} : updZ z i (z i) = z := by
  funext j
  unfold updZ
  by_cases e : j = i
  · rw [if_pos e, e]
  · rw [if_neg e]
theorem mlooks {D : Dc} {K : Qc} {kn so m : Nat} {g : Ge} {M : Mem} (h : NW D K so g M) (hg : GI D K so m g) (hD : DW D kn) (hK : QW K kn) (h2 : 2 ≤ so) (h8 : so ≤ 8) (hm : 1 ≤ m) (hm2 : m ≤ 10) {t x hh : Nat} {a : Nat → Nat} (hl : LX t a M) (hht : hh ≤ t) (hLN : LN D K so g.1 (sN K) t a) (hx : x < 900) (hx0 : ∀ k, k < hh → cP (g.1 (a k)) = x) {Q : Mem → Prop} (hQ : ∀ M', Kp kHt M M' → NW D K so (trS D K so m g a x hh) M' → Q M') : pX11_looks M (nI hh) (nI x) (nI m) Q := by
  have hn := hK.1
  have htn := hLN.1
  have ha : ∀ k, k < t → a k < sN K := fun k hk => (hLN.2.1 k hk).1
  have hi : ∀ k, k < t → IC D (sW K (a k)) so (g.1 (a k)) ∧ liv D K so g.1 (a k) := fun k hk => ⟨hg.1 _ (ha k hk), (hLN.2.1 k hk).2⟩
  have hne : ∀ n, n < t → ∀ k, k < n → a k ≠ a n := fun n hn2 k hk => (hLN.2.2 k n hk hn2).1
  have second : ∀ (g1 : Ge) (m2 : Mem), GI D K so m g1 → (∀ k, k < hh → cB (g1.1 (a k)) < nB D (sW K (a k)) so) → NW D K so g1 m2 → Kp kHt M m2 → LX t a m2 → (∀ M', Kp kHt M M' → NW D K so (setZ g1 (mp (Fdx D K so x) g1.1 a hh) g1.2.2.2.1 g1.2.2.2.2.1) M' → Q M') → bX11_looks_101 (nI hh) (nI x) (nI m) Q m2 := by
    intro g1 m2 i1 lv w1 k1 l1 hQ2
    unfold bX11_looks_101
    refine lp_up (fun k s => s.2 = nI k ∧ Kp kHt M s.1 ∧ NW D K so (setZ g1 (mp (Fdx D K so x) g1.1 a k) g1.2.2.2.1 g1.2.2.2.2.1) s.1 ∧ LX t a s.1) (Nat.zero_le hh) ⟨rfl, k1, (by show NW D K so (setZ g1 (mp (Fdx D K so x) g1.1 a 0) g1.2.2.2.1 g1.2.2.2.2.1) m2; rw [mp_0]; exact w1), l1⟩ ?_ ?_
    · rintro k ⟨m3, y⟩ L - hk ⟨rfl, k3, w3, l3⟩ hL
      have k3 : Kp kHt M m3 := k3
      have w3 : NW D K so (setZ g1 (mp (Fdx D K so x) g1.1 a k) g1.2.2.2.1 g1.2.2.2.2.1) m3 := w3
      have l3 : LX t a m3 := l3
      have hak := ha k (by omega)
      have hat := mp_at (F := Fdx D K so x) (z := g1.1) (hne k (by omega))
      have hs := mp_s (F := Fdx D K so x) (z := g1.1) (hne k (by omega))
      have ic := i1.1 _ hak
      have hp := ic.2.2.1
      obtain ⟨s1, s2⟩ := w3.2.2.2.1 (a k) hak
      obtain ⟨w1', w2', w3'⟩ := NW.w h hg hD hK h2 h8 hm hm2 hak
      have s2' : MV D (sW K (a k)) so (mp (Fdx D K so x) g1.1 a k (a k)) (a k) m3 := s2
      rw [hat] at s2' hs
      have e12 : m3.1 1250 0 (a k) = nI (cP (g1.1 (a k))) := s2'.2.1
      have e13 := s2'.2.2.1
      rw [if_pos (lv k hk)] at e13
      unfold bX11_looks_104 bX11_looks_155
      by_cases e : cP (g1.1 (a k)) = x
      · have ef : Fdx D K so x (a k) (g1.1 (a k)) = dipC D (sW K (a k)) so (x + 1) (g1.1 (a k)) := if_pos e
        try simp (disch := omega) only [li, nO_n, adI, mlI, tnI, vpI, ltI, leI, eqI, forall_eq, leT, leF, ltT, ltF, eqT, eqF, true_and, and_true, false_implies, true_implies, forall_const, not_true_eq_false, not_false_eq_true, implies_true, l3.2 k (by omega), e12, e13, e]
        refine mdips s1 s2' ic hD h2 h8 w2' (x := x + 1) (by omega) (fun M' f4 v4 => ?_)
        try simp (disch := omega) only [li, nO_n, adI, mlI, tnI, vpI, ltI, leI, eqI, forall_eq, leT, leF, ltT, ltF, eqT, eqF, true_and, and_true, false_implies, true_implies, forall_const, not_true_eq_false, not_false_eq_true, implies_true]
        refine hL _ ⟨rfl, k3.tr f4.y.kp, ?_, l3.fy f4.y⟩
        rw [hs, ef]
        have := NW.dp (x := x + 1) w3 hak f4 (by
          show MV D (sW K (a k)) so (dipC D (sW K (a k)) so (x + 1) (mp (Fdx D K so x) g1.1 a k (a k))) (a k) M'
          rw [hat]; exact v4)
        have e9 : (setZ g1 (mp (Fdx D K so x) g1.1 a k) g1.2.2.2.1 g1.2.2.2.2.1).1 (a k) = g1.1 (a k) := hat
        rw [e9] at this
        exact this
      · have ef : Fdx D K so x (a k) (g1.1 (a k)) = g1.1 (a k) := if_neg e
        try simp (disch := omega) only [li, nO_n, adI, mlI, tnI, vpI, ltI, leI, eqI, forall_eq, leT, leF, ltT, ltF, eqT, eqF, true_and, and_true, false_implies, true_implies, forall_const, not_true_eq_false, not_false_eq_true, implies_true, l3.2 k (by omega), e12, e13]
        refine hL _ ⟨rfl, k3, ?_, l3⟩
        have eu : updZ (mp (Fdx D K so x) g1.1 a k) (a k) (g1.1 (a k)) = mp (Fdx D K so x) g1.1 a k := by
          have := updZ_s (z := mp (Fdx D K so x) g1.1 a k) (i := a k)
          rw [hat] at this; exact this
        rw [hs, ef, eu]
        exact w3
    · rintro ⟨m3, y⟩ L ⟨rfl, k3, w3, l3⟩
      have k3 : Kp kHt M m3 := k3
      unfold bX11_looks_104
      try simp (disch := omega) only [li, nO_n, adI, mlI, tnI, vpI, ltI, leI, eqI, forall_eq, leT, leF, ltT, ltF, eqT, eqF, true_and, and_true, false_implies, true_implies, forall_const, not_true_eq_false, not_false_eq_true, implies_true]
      exact hQ2 m3 k3 w3
  have hfl : flg (mp (Fsk D K so x) g.1 a hh) a x hh = (List.range hh).any (fun j => cP (sekC D (sW K (a j)) so x (g.1 (a j))) == x) := by
    unfold flg
    rw [Bool.eq_iff_iff, anyR, anyR]
    constructor
    · rintro ⟨i, i1, i2⟩
      rw [mp_in i1] at i2
      exact ⟨i, i1, i2⟩
    · rintro ⟨i, i1, i2⟩
      refine ⟨i, i1, ?_⟩
      rw [mp_in i1]
      exact i2
  unfold pX11_looks
  refine lp_up (fun k s => s.2.1 = nI (b1 ((List.range k).any (fun j => cP (sekC D (sW K (a j)) so x (g.1 (a j))) == x))) ∧ s.2.2 = nI k ∧ Kp kHt M s.1 ∧ NW D K so (setZ g (mp (Fsk D K so x) g.1 a k) (g.2.2.2.1 + k) g.2.2.2.2.1) s.1 ∧ LX t a s.1) (Nat.zero_le hh) ⟨rfl, rfl, Kp.rf, (by show NW D K so (setZ g (mp (Fsk D K so x) g.1 a 0) (g.2.2.2.1 + 0) g.2.2.2.2.1) M; rw [mp_0]; exact h), hl⟩ ?_ ?_
  · rintro k ⟨m3, y2, y3⟩ L - hk ⟨rfl, rfl, k3, w3, l3⟩ hL
    have k3 : Kp kHt M m3 := k3
    have w3 : NW D K so (setZ g (mp (Fsk D K so x) g.1 a k) (g.2.2.2.1 + k) g.2.2.2.2.1) m3 := w3
    have l3 : LX t a m3 := l3
    have hak := ha k (by omega)
    have hat := mp_at (F := Fsk D K so x) (z := g.1) (hne k (by omega))
    have hs := mp_s (F := Fsk D K so x) (z := g.1) (hne k (by omega))
    obtain ⟨ic, il⟩ := hi k (by omega)
    obtain ⟨w1', w2', w3'⟩ := NW.w h hg hD hK h2 h8 hm hm2 hak
    rw [hat] at hs
    obtain ⟨s1, s2⟩ := w3.2.2.2.1 (a k) hak
    have s2 : MV D (sW K (a k)) so (mp (Fsk D K so x) g.1 a k (a k)) (a k) m3 := s2
    rw [hat] at s2
    unfold bX11_looks_6
    try simp (disch := omega) only [li, nO_n, adI, mlI, tnI, vpI, ltI, leI, eqI, forall_eq, leT, leF, ltT, ltF, eqT, eqF, true_and, and_true, false_implies, true_implies, forall_const, not_true_eq_false, not_false_eq_true, implies_true, l3.2 k (by omega)]
    refine mseeks s1 s2 ic hD h2 h8 w2' (x := x) (by omega) w3.2.2.2.2.2.2.2.1 w3.2.2.2.2.2.2.2.2.1 w3.2.2.2.2.2.2.2.2.2.1 (fun M' f4 v4 o4 k4 z4 => ?_)
    have is2 := (ic.sek hD h2 (x := x)).1.2.2.1
    have isl := sek_live hD h2 ic il (x := x) (by rw [hx0 k hk]; exact Nat.le_refl _)
    have e12 : M'.1 1250 0 (a k) = nI (cP (sekC D (sW K (a k)) so x (g.1 (a k)))) := v4.2.1
    have e13 := v4.2.2.1
    have il : cB (g.1 (a k)) < nB D (sW K (a k)) so := il
    rw [isl, if_pos il] at e13
    have l4 := l3.fy f4
    have smo := sek_mono D (sW K (a k)) so x (g.1 (a k))
    have e9 : (setZ g (mp (Fsk D K so x) g.1 a k) (g.2.2.2.1 + k) g.2.2.2.2.1).1 (a k) = g.1 (a k) := hat
    have w4 : NW D K so (setZ g (mp (Fsk D K so x) g.1 a (k + 1)) (g.2.2.2.1 + (k + 1)) g.2.2.2.2.1) M' := by
      rw [hs]
      exact NW.fy w3 hak f4 v4 (by rw [e9]; exact smo.1) (by rw [e9]; exact smo.2) (by rw [e9]; exact o4) (by rw [e9]; exact k4) z4
    have go : ∀ b : Bool, b = (List.range (k + 1)).any (fun j => cP (sekC D (sW K (a j)) so x (g.1 (a j))) == x) → L (M', nI (b1 b), nI (k + 1)) := fun b eb => hL _ ⟨by rw [eb], rfl, k3.tr f4.kp, w4, l4⟩
    have ers : (List.range (k + 1)).any (fun j => cP (sekC D (sW K (a j)) so x (g.1 (a j))) == x) = ((List.range k).any (fun j => cP (sekC D (sW K (a j)) so x (g.1 (a j))) == x) || (cP (sekC D (sW K (a k)) so x (g.1 (a k))) == x)) := by
      rw [List.range_succ, List.any_append]
      simp
    rw [ers] at go
    unfold bX11_looks_65
    have t1 : b1 true = 1 := rfl
    have t0 : b1 false = 0 := rfl
    cases eb : (List.range k).any (fun j => cP (sekC D (sW K (a j)) so x (g.1 (a j))) == x)
    · rw [eb] at go
      by_cases ex : cP (sekC D (sW K (a k)) so x (g.1 (a k))) = x
      · have := go true (by rw [Bool.false_or]; exact (beq_iff_eq.mpr ex).symm)
        try simp (disch := omega) only [li, nO_n, adI, mlI, tnI, vpI, ltI, leI, eqI, forall_eq, leT, leF, ltT, ltF, eqT, eqF, true_and, and_true, false_implies, true_implies, forall_const, not_true_eq_false, not_false_eq_true, implies_true, t0, l4.2 k (by omega), e12, e13, ex, or00, or01]
        exact this
      · have := go false (by rw [Bool.false_or]; exact (beq_eq_false_iff_ne.mpr ex).symm)
        try simp (disch := omega) only [li, nO_n, adI, mlI, tnI, vpI, ltI, leI, eqI, forall_eq, leT, leF, ltT, ltF, eqT, eqF, true_and, and_true, false_implies, true_implies, forall_const, not_true_eq_false, not_false_eq_true, implies_true, t0, l4.2 k (by omega), e12, e13, or00, or01]
        exact this
    · rw [eb] at go
      have := go true (by rw [Bool.true_or])
      by_cases ex : cP (sekC D (sW K (a k)) so x (g.1 (a k))) = x
      · try simp (disch := omega) only [li, nO_n, adI, mlI, tnI, vpI, ltI, leI, eqI, forall_eq, leT, leF, ltT, ltF, eqT, eqF, true_and, and_true, false_implies, true_implies, forall_const, not_true_eq_false, not_false_eq_true, implies_true, t1, l4.2 k (by omega), e12, e13, ex, or10, or11]
        exact this
      · try simp (disch := omega) only [li, nO_n, adI, mlI, tnI, vpI, ltI, leI, eqI, forall_eq, leT, leF, ltT, ltF, eqT, eqF, true_and, and_true, false_implies, true_implies, forall_const, not_true_eq_false, not_false_eq_true, implies_true, t1, l4.2 k (by omega), e12, e13, or10, or11]
        exact this
  · rintro ⟨m3, y2, y3⟩ L ⟨rfl, rfl, k3, w3, l3⟩
    have k3 : Kp kHt M m3 := k3
    have w3 : NW D K so (setZ g (mp (Fsk D K so x) g.1 a hh) (g.2.2.2.1 + hh) g.2.2.2.2.1) m3 := w3
    have l3 : LX t a m3 := l3
    have i3 : GI D K so m (setZ g (mp (Fsk D K so x) g.1 a hh) (g.2.2.2.1 + hh) g.2.2.2.2.1) := hg.mpZ (fun i c hc => (hc.sek hD h2).1)
    have lv : ∀ k, k < hh → cB (mp (Fsk D K so x) g.1 a hh (a k)) < nB D (sW K (a k)) so := fun k hk => by
      rw [mp_in hk]
      obtain ⟨ic, il⟩ := hi k (by omega)
      show cB (sekC D (sW K (a k)) so x (g.1 (a k))) < _
      rw [sek_live hD h2 ic il (by rw [hx0 k hk]; exact Nat.le_refl _)]
      exact il
    unfold trS at hQ
    rw [hfl] at hQ
    unfold bX11_looks_6
    have t1 : b1 true = 1 := rfl
    have t0 : b1 false = 0 := rfl
    cases eb : (List.range hh).any (fun j => cP (sekC D (sW K (a j)) so x (g.1 (a j))) == x)
    · rw [eb] at hQ
      have emp : mp (Fdx D K so x) (mp (Fsk D K so x) g.1 a hh) a hh = mp (Fsk D K so x) g.1 a hh := by
        funext j
        by_cases q : ∃ k, k < hh ∧ a k = j
        · obtain ⟨k, k1, k2⟩ := q
          subst k2
          rw [mp_in k1]
          unfold Fdx
          rw [if_neg]
          rw [mp_in k1]
          intro q2
          have : (List.range hh).any (fun j => cP (sekC D (sW K (a j)) so x (g.1 (a j))) == x) = true := anyR.mpr ⟨k, k1, beq_iff_eq.mpr q2⟩
          rw [eb] at this; cases this
        · rw [mp_out (fun k hk q2 => q ⟨k, hk, q2⟩)]
      rw [emp] at hQ
      try simp (disch := omega) only [li, nO_n, adI, mlI, tnI, vpI, ltI, leI, eqI, forall_eq, leT, leF, ltT, ltF, eqT, eqF, true_and, and_true, false_implies, true_implies, forall_const, not_true_eq_false, not_false_eq_true, implies_true, t0]
      exact hQ m3 k3 w3
    · have hd := flg_doc hD hK h2 (t := t) hi hht (fun k hk => by rw [hx0 k hk]; exact Nat.le_refl _) (hfl.trans eb)
      rw [eb] at hQ
      have h62 : m3.1 1262 0 0 = nI g.2.2.2.2.2 := w3.2.2.2.2.2.2.2.2.2.2.2
      have w5 := why_5 D K none x
      have ka : Kp pLk m3 (up1 m3 1262 0 0 (nI (g.2.2.2.2.2 + 1))) := Kp.rf.u1 rfl
      have wa : NW D K so (setB (setZ g (mp (Fsk D K so x) g.1 a hh) (g.2.2.2.1 + hh) g.2.2.2.2.1) g.2.1 (g.2.2.2.2.2 + 1)) (up1 m3 1262 0 0 (nI (g.2.2.2.2.2 + 1))) := w3.lo ka ((up1_ne (by omega)).trans w3.2.2.2.2.1) (fun k hk => ⟨(up1_ne (by omega)).trans (w3.2.2.2.2.2.1 k hk).1, (up1_ne (by omega)).trans (w3.2.2.2.2.2.1 k hk).2⟩) up1_eq
      have la : LX t a (up1 m3 1262 0 0 (nI (g.2.2.2.2.2 + 1))) := ⟨(up1_ne (by omega)).trans l3.1, fun k hk => (up1_ne (by omega)).trans (l3.2 k hk)⟩
      have kb : Kp kHt M (up1 m3 1262 0 0 (nI (g.2.2.2.2.2 + 1))) := k3.u1 rfl
      try simp (disch := omega) only [li, nO_n, adI, mlI, tnI, vpI, ltI, leI, eqI, forall_eq, leT, leF, ltT, ltF, eqT, eqF, true_and, and_true, false_implies, true_implies, forall_const, not_true_eq_false, not_false_eq_true, implies_true, t1, h62]
      generalize up1 m3 1262 0 0 (nI (g.2.2.2.2.2 + 1)) = m4 at *
      refine mwhy wa.1 wa.2.1 hD hK wa.2.2.1 (fun i e => by cases e) hd.1 ?_
      by_cases e0 : why D K none x = 0
      · try simp (disch := omega) only [li, nO_n, adI, mlI, tnI, vpI, ltI, leI, eqI, forall_eq, leT, leF, ltT, ltF, eqT, eqF, true_and, and_true, false_implies, true_implies, forall_const, not_true_eq_false, not_false_eq_true, implies_true, e0]
        refine mkeepsBest wa i3 hD hK h2 h8 hm hm2 hd.1 e0 (fun M' k5 w5' => ?_)
        have := keep_c hD hK h2 hm i3.2.1 i3.2.2 hd.1
        refine second (setB (setZ g (mp (Fsk D K so x) g.1 a hh) (g.2.2.2.1 + hh) g.2.2.2.2.1) (keep D K m g.2.1 x) (g.2.2.2.2.2 + 1)) M' ⟨i3.1, this.1, this.2⟩ lv w5' (kb.tr (k5.wk fun c j hc => by unfold kHt at hc; unfold pLk; simp at hc ⊢; omega)) (la.kp k5 rfl rfl) hQ
      · have ek : keep D K m g.2.1 x = g.2.1 := if_neg e0
        rw [ek] at hQ
        have := second (setB (setZ g (mp (Fsk D K so x) g.1 a hh) (g.2.2.2.1 + hh) g.2.2.2.2.1) g.2.1 (g.2.2.2.2.2 + 1)) m4 i3 lv wa kb la hQ
        try simp (disch := omega) only [li, nO_n, adI, mlI, tnI, vpI, ltI, leI, eqI, forall_eq, leT, leF, ltT, ltF, eqT, eqF, true_and, and_true, false_implies, true_implies, forall_const, not_true_eq_false, not_false_eq_true, implies_true]
        exact this
