/-! PURE: the reference lays a list out -/
theorem mx_mul (w a b : Nat) : max (w * a) (w * b) = w * max a b := by
  rcases Nat.le_total a b with h | h
  · rw [Nat.max_eq_right h, Nat.max_eq_right (Nat.mul_le_mul_left w h)]
  · rw [Nat.max_eq_left h, Nat.max_eq_left (Nat.mul_le_mul_left w h)]
def Fz (i : Nat) (M M' : Mem) : Prop := (∀ c j k, ¬ (((1246 ≤ c ∧ c ≤ 1253) ∧ j = 0 ∧ k = i) ∨ ((6243 ≤ c ∧ c ≤ 6245) ∧ j = i) ∨ c = 1237 ∨ c = 1238) → M'.1 c j k = M.1 c j k) ∧ ∀ c j, c ≠ 1237 → c ≠ 1238 → M'.2 c j = M.2 c j
theorem Fz.rf {i : Nat} {M : Mem} : Fz i M M := ⟨fun _ _ _ _ => rfl, fun _ _ _ _ => rfl⟩
theorem Fz.tr {i : Nat} {M M' M'' : Mem} (h : Fz i M M') (k : Fz i M' M'') : Fz i M M'' := ⟨fun c j z q => (k.1 c j z q).trans (h.1 c j z q), fun c j q r => (k.2 c j q r).trans (h.2 c j q r)⟩
theorem Fz.u {i c j k : Nat} {v : Int32} {M M' : Mem} (h : Fz i M M') (q : ((1246 ≤ c ∧ c ≤ 1253) ∧ j = 0 ∧ k = i) ∨ ((6243 ≤ c ∧ c ≤ 6245) ∧ j = i)) : Fz i M (up1 M' c j k v) := ⟨fun c2 j2 k2 q2 => by
  rw [up1_ne (fun e => q2 (by rw [e.1, e.2.1, e.2.2]; omega))]
  exact h.1 c2 j2 k2 q2, h.2⟩
theorem Fz.k {i : Nat} {M M' : Mem} (h : Kp kL M M') : Fz i M M' := ⟨fun c j k q => h.g (by unfold kL; simp; omega) k, fun c j h1 h2 => (h c j (by unfold kL; simp; omega)).2⟩
def kZ (c _ : Nat) : Bool := decide (c ≠ 1237 ∧ c ≠ 1238 ∧ ¬ (1246 ≤ c ∧ c ≤ 1253) ∧ ¬ (6243 ≤ c ∧ c ≤ 6245))
theorem Fz.kp {i : Nat} {M M' : Mem} (h : Fz i M M') : Kp kZ M M' := fun c j q => ⟨by funext k; exact h.1 c j k (by unfold kZ at q; simp at q; omega), h.2 c j (by unfold kZ at q; simp at q; omega) (by unfold kZ at q; simp at q; omega)⟩
theorem kZ_D {c j : Nat} (h : pMD c j = true) : kZ c j = true := by unfold pMD at h; unfold kZ; simp at h ⊢; omega
theorem kZ_K {c j : Nat} (h : pMK c j = true) : kZ c j = true := by unfold pMK at h; unfold kZ; simp at h ⊢; omega
theorem mlays {D : Dc} {K : Qc} {kn so i : Nat} {M : Mem} (h : MD D M) (hq : MK K M) (hD : DW D kn) (hK : QW K kn) (h2 : 2 ≤ so) (h8 : so ≤ 8) (hi : i < sN K) (hso : M.1 1263 0 0 = nI so) {Q : Mem → Prop} (hQ : ∀ M', Fz i M M' → MS D (sW K i) so (wei D K i) i M' → MV D (sW K i) so (c0 D (sW K i) so) i M' → Q M') : pX11_lays M (nI i) Q := by
  have hn := hK.1
  have hw := (hK.2.2.2.2.1 i hi)
  have hkn := hD.2.1
  have hl := pN_le D (sW K i)
  have hl2 := hD.1
  have hr := rare_le D (sW K i)
  have hwei : wei D K i ≤ 3900 := Nat.le_trans (Nat.mul_le_mul hw.2 (show rare D (sW K i) ≤ 65 by omega)) (by decide)
  unfold pX11_lays
  try simp (disch := omega) only [li, nO_n, adI, mlI, tnI, vpI, ltI, leI, eqI, forall_eq, leT, leF, ltT, ltF, eqT, eqF, true_and, and_true, false_implies, true_implies, forall_const, not_true_eq_false, not_false_eq_true, implies_true, hq.w hi]
  refine mrare h hD (by omega) (fun M2 k2 l2 => ?_)
  have f2 : Fz i M M2 := Fz.k k2
  have x6 : M.1 1226 0 i = nI (sB K i) := hq.b hi
  have ew : sB K i * rare D (sW K i) = wei D K i := rfl
  try simp (disch := omega) only [li, nO_n, adI, mlI, tnI, vpI, ltI, leI, eqI, forall_eq, leT, leF, ltT, ltF, eqT, eqF, true_and, and_true, false_implies, true_implies, forall_const, not_true_eq_false, not_false_eq_true, implies_true, x6, mlI, ew]
  have a37 : (up1 M2 1247 0 i (nI (wei D K i))).1 1237 0 0 = nI (pN D (sW K i)) := (up1_ne (by omega)).trans l2.1
  simp only [a37]
  have f5 : Fz i M (up1 (up1 (up1 M2 1247 0 i (nI (wei D K i))) 1246 0 i (nI (pN D (sW K i)))) 1248 0 i (nI 0)) := ((f2.u (by omega)).u (by omega)).u (by omega)
  have b47 : (up1 (up1 (up1 M2 1247 0 i (nI (wei D K i))) 1246 0 i (nI (pN D (sW K i)))) 1248 0 i (nI 0)).1 1247 0 i = nI (wei D K i) := ((up1_ne (by omega)).trans (up1_ne (by omega))).trans up1_eq
  have b46 : (up1 (up1 (up1 M2 1247 0 i (nI (wei D K i))) 1246 0 i (nI (pN D (sW K i)))) 1248 0 i (nI 0)).1 1246 0 i = nI (pN D (sW K i)) := (up1_ne (by omega)).trans up1_eq
  have b48 : (up1 (up1 (up1 M2 1247 0 i (nI (wei D K i))) 1246 0 i (nI (pN D (sW K i)))) 1248 0 i (nI 0)).1 1248 0 i = nI 0 := up1_eq
  have bL : Ls D (sW K i) (up1 (up1 (up1 M2 1247 0 i (nI (wei D K i))) 1246 0 i (nI (pN D (sW K i)))) 1248 0 i (nI 0)) := ⟨((up1_ne (by omega)).trans ((up1_ne (by omega)).trans (up1_ne (by omega)))).trans l2.1, fun k hk => ((up1_ne (by omega)).trans ((up1_ne (by omega)).trans (up1_ne (by omega)))).trans (l2.2 k hk)⟩
  generalize up1 (up1 (up1 M2 1247 0 i (nI (wei D K i))) 1246 0 i (nI (pN D (sW K i)))) 1248 0 i (nI 0) = M5 at *
  refine lp_up (fun k s => s.2.1 = nI (sW K i) ∧ s.2.2 = nI k ∧ Fz i M s.1 ∧ Ls D (sW K i) s.1 ∧ (s.1.1 1247 0 i = nI (wei D K i) ∧ s.1.1 1246 0 i = nI (pN D (sW K i)) ∧ s.1.1 1248 0 i = nI (wei D K i * topR D (sW K i) 0 k)) ∧ ∀ z, z < k → s.1.1 6243 i z = nI (pK D (sW K i) z) ∧ s.1.1 6244 i z = nI (gain D (sW K i) (pK D (sW K i) z))) (Nat.zero_le (pN D (sW K i))) ⟨rfl, rfl, f5, bL, ⟨b47, b46, b48⟩, fun z hz => absurd hz (Nat.not_lt_zero _)⟩ ?_ ?_
  · rintro k ⟨m, y2, y3⟩ L - hk ⟨rfl, rfl, fm, lm, ⟨e47, e46, e48⟩, em⟩ hL
    have fm : Fz i M m := fm
    have lm : Ls D (sW K i) m := lm
    have e47 : m.1 1247 0 i = nI (wei D K i) := e47
    have e48 : m.1 1248 0 i = nI (wei D K i * topR D (sW K i) 0 k) := e48
    have hp := pK_lt hk
    have e38 := lm.2 k hk
    have e38' : ∀ v, (up1 m 6243 i k v).1 1238 0 k = nI (pK D (sW K i) k) := fun v => (up1_ne (by omega)).trans e38
    have g9 := gain_le D (sW K i) (pK D (sW K i) k)
    have t9 := topR_le D (sW K i) 0 k
    have p1 : wei D K i * gain D (sW K i) (pK D (sW K i) k) ≤ 3900000 := Nat.le_trans (Nat.mul_le_mul hwei g9) (by decide)
    have p2 : wei D K i * topR D (sW K i) 0 k ≤ 3900000 := Nat.le_trans (Nat.mul_le_mul hwei t9) (by decide)
    have hd1 : MD D (up1 m 6243 i k (nI (pK D (sW K i) k))) := h.kp (((fm.u (by omega)).kp).wk fun c j => kZ_D)
    unfold bX11_lays_44
    try simp (disch := omega) only [li, nO_n, adI, mlI, tnI, vpI, ltI, leI, eqI, forall_eq, leT, leF, ltT, ltF, eqT, eqF, true_and, and_true, false_implies, true_implies, forall_const, not_true_eq_false, not_false_eq_true, implies_true, lm.1, e38, e38']
    refine mgain hd1 hD (by omega) (by omega) ?_
    have y47 : ∀ u v, (up1 (up1 m 6243 i k u) 6244 i k v).1 1247 0 i = nI (wei D K i) := fun u v => ((up1_ne (by omega)).trans (up1_ne (by omega))).trans e47
    have y48 : ∀ u v, (up1 (up1 m 6243 i k u) 6244 i k v).1 1248 0 i = nI (wei D K i * topR D (sW K i) 0 k) := fun u v => ((up1_ne (by omega)).trans (up1_ne (by omega))).trans e48
    have y44 : ∀ u v, (up1 (up1 m 6243 i k u) 6244 i k v).1 6244 i k = v := fun u v => up1_eq
    try simp (disch := omega) only [li, nO_n, adI, mlI, tnI, vpI, ltI, leI, eqI, forall_eq, leT, leF, ltT, ltF, eqT, eqF, true_and, and_true, false_implies, true_implies, forall_const, not_true_eq_false, not_false_eq_true, implies_true, y47, y48, y44, mlI]
    refine mmore (by omega) (by omega) ?_
    have et : max (wei D K i * topR D (sW K i) 0 k) (wei D K i * gain D (sW K i) (pK D (sW K i) k)) = wei D K i * topR D (sW K i) 0 (k + 1) := by
      show _ = wei D K i * max (topR D (sW K i) 0 k) (gain D (sW K i) (pK D (sW K i) (0 + k)))
      rw [Nat.zero_add]
      exact mx_mul _ _ _
    rw [et]
    try simp (disch := omega) only [li, nO_n, adI, mlI, tnI, vpI, ltI, leI, eqI, forall_eq, leT, leF, ltT, ltF, eqT, eqF, true_and, and_true, false_implies, true_implies, forall_const, not_true_eq_false, not_false_eq_true, implies_true]
    refine hL _ ⟨rfl, rfl, ((fm.u (by omega)).u (by omega)).u (by omega), ⟨((up1_ne (by omega)).trans ((up1_ne (by omega)).trans (up1_ne (by omega)))).trans lm.1, fun z hz => ((up1_ne (by omega)).trans ((up1_ne (by omega)).trans (up1_ne (by omega)))).trans (lm.2 z hz)⟩, ⟨((up1_ne (by omega)).trans ((up1_ne (by omega)).trans (up1_ne (by omega)))).trans e47, ((up1_ne (by omega)).trans ((up1_ne (by omega)).trans (up1_ne (by omega)))).trans e46, up1_eq⟩, fun z hz => ?_⟩
    by_cases ez : z = k
    · subst ez
      exact ⟨(up1_ne (by omega)).trans ((up1_ne (by omega)).trans up1_eq), (up1_ne (by omega)).trans up1_eq⟩
    · have := em z (by omega)
      exact ⟨((up1_ne (by omega)).trans ((up1_ne (by omega)).trans (up1_ne (by omega)))).trans this.1, ((up1_ne (by omega)).trans ((up1_ne (by omega)).trans (up1_ne (by omega)))).trans this.2⟩
  · rintro ⟨m, y2, y3⟩ L ⟨rfl, rfl, fm, lm, ⟨e47, e46, e48⟩, em⟩
    have fm : Fz i M m := fm
    have lm : Ls D (sW K i) m := lm
    have e47 : m.1 1247 0 i = nI (wei D K i) := e47
    have e46 : m.1 1246 0 i = nI (pN D (sW K i)) := e46
    have e48 : m.1 1248 0 i = nI (wei D K i * topR D (sW K i) 0 (pN D (sW K i))) := e48
    have em : ∀ z, z < pN D (sW K i) → m.1 6243 i z = nI (pK D (sW K i) z) ∧ m.1 6244 i z = nI (gain D (sW K i) (pK D (sW K i) z)) := em
    unfold bX11_lays_44
    try simp (disch := omega) only [li, nO_n, adI, mlI, tnI, vpI, ltI, leI, eqI, forall_eq, leT, leF, ltT, ltF, eqT, eqF, true_and, and_true, false_implies, true_implies, forall_const, not_true_eq_false, not_false_eq_true, implies_true, lm.1]
    refine lp_up (fun b s => s.2 = nI b ∧ Fz i M s.1 ∧ (∀ c k, c ≠ 6245 → s.1.1 c i k = m.1 c i k) ∧ (∀ c k, c ≠ 6245 → s.1.1 c 0 k = m.1 c 0 k) ∧ ∀ z, z < b → s.1.1 6245 i z = nI 0) (Nat.zero_le 32) ⟨rfl, fm, fun _ _ _ => rfl, fun _ _ _ => rfl, fun z hz => absurd hz (Nat.not_lt_zero _)⟩ ?_ ?_
    · rintro b ⟨m3, y⟩ L2 - hb ⟨rfl, f3, r1, r2, r3⟩ hL2
      have f3 : Fz i M m3 := f3
      unfold bX11_lays_123
      try simp (disch := omega) only [li, nO_n, adI, mlI, tnI, vpI, ltI, leI, eqI, forall_eq, leT, leF, ltT, ltF, eqT, eqF, true_and, and_true, false_implies, true_implies, forall_const, not_true_eq_false, not_false_eq_true, implies_true]
      refine hL2 _ ⟨rfl, f3.u (by omega), fun c k hc => (up1_ne (by omega)).trans (r1 c k hc), fun c k hc => (up1_ne (by omega)).trans (r2 c k hc), fun z hz => ?_⟩
      show (up1 m3 6245 i b (nI 0)).1 6245 i z = nI 0
      by_cases ez : z = b
      · rw [ez, up1_eq]
      · rw [up1_ne (by omega)]; exact r3 z (by omega)
    · rintro ⟨m3, y⟩ L2 ⟨rfl, f3, r1, r2, r3⟩
      have f3 : Fz i M m3 := f3
      have r1 : ∀ c k, c ≠ 6245 → m3.1 c i k = m.1 c i k := r1
      have r2 : ∀ c k, c ≠ 6245 → m3.1 c 0 k = m.1 c 0 k := r2
      have r3 : ∀ z, z < 32 → m3.1 6245 i z = nI 0 := r3
      have hnb : nB D (sW K i) so ≤ 32 := bkN_le h2 (by omega)
      have nb0 : 0 < nB D (sW K i) so ↔ pN D (sW K i) ≠ 0 := by
        have := bk_div (n := pN D (sW K i)) (b := 0) h2
        unfold nB
        rw [this]
        omega
      have fin : ∀ m4 : Mem, Fz i M m4 → (∀ c k, (c < 1249 ∨ 1253 < c) → m4.1 c i k = m3.1 c i k) → (∀ c k, (c < 1249 ∨ 1253 < c) → m4.1 c 0 k = m3.1 c 0 k) → m4.1 1249 0 i = nI 0 → m4.1 1251 0 i = nO → m4.1 1253 0 i = nI (if 0 < nB D (sW K i) so then 0 else 1) → m4.1 1250 0 i = nI (if 0 < nB D (sW K i) so then FST D (sW K i) so 0 else 0) → Q m4 := by
        intro m4 f4 g1 g2 g49 g51 g53 g50
        refine hQ m4 f4 ⟨(f4.1 _ _ _ (by omega)).trans hso, ?_, ?_, ?_, fun z hz => ⟨?_, ?_⟩⟩ ⟨g49, g50, g53, g51, fun b hb => ?_⟩
        · exact ((g2 1246 i (by omega)).trans (r2 1246 i (by omega))).trans e46
        · exact ((g2 1247 i (by omega)).trans (r2 1247 i (by omega))).trans e47
        · exact ((g2 1248 i (by omega)).trans (r2 1248 i (by omega))).trans e48
        · exact ((g1 6243 z (by omega)).trans (r1 6243 z (by omega))).trans (em z hz).1
        · exact ((g1 6244 z (by omega)).trans (r1 6244 z (by omega))).trans (em z hz).2
        · exact (g1 6245 b (by omega)).trans (r3 b (by omega))
      have l3 : m3.1 1237 0 0 = nI (pN D (sW K i)) := (r2 1237 0 (by omega)).trans lm.1
      have z1 : ∀ u v, (up1 (up1 m3 1249 0 i u) 1251 0 i v).1 1237 0 0 = nI (pN D (sW K i)) := fun u v => ((up1_ne (by omega)).trans (up1_ne (by omega))).trans l3
      have z2 : ∀ u v x, (up1 (up1 (up1 m3 1249 0 i u) 1251 0 i v) 1253 0 i x).1 1237 0 0 = nI (pN D (sW K i)) := fun u v x => (up1_ne (by omega)).trans (z1 u v)
      unfold bX11_lays_123 bX11_lays_176
      by_cases e : pN D (sW K i) = 0
      · try simp (disch := omega) only [li, nO_n, adI, mlI, tnI, vpI, ltI, leI, eqI, forall_eq, leT, leF, ltT, ltF, eqT, eqF, true_and, and_true, false_implies, true_implies, forall_const, not_true_eq_false, not_false_eq_true, implies_true, z1, z2]
        refine fin _ ((((f3.u (by omega)).u (by omega)).u (by omega)).u (by omega)) (fun c k hc => ?_) (fun c k hc => ?_) ?_ ?_ ?_ ?_
        · rw [up1_ne (by omega), up1_ne (by omega), up1_ne (by omega), up1_ne (by omega)]
        · rw [up1_ne (by omega), up1_ne (by omega), up1_ne (by omega), up1_ne (by omega)]
        · rw [up1_ne (by omega), up1_ne (by omega), up1_ne (by omega), up1_eq]
        · rw [up1_ne (by omega), up1_ne (by omega), up1_eq]
        · rw [up1_ne (by omega), up1_eq, if_neg (by omega)]
        · rw [up1_eq, if_neg (by omega)]
      · have z3 : ∀ u v x, (up1 (up1 (up1 m3 1249 0 i u) 1251 0 i v) 1253 0 i x).1 1238 0 0 = nI (FST D (sW K i) so 0) := fun u v x => (((up1_ne (by omega)).trans ((up1_ne (by omega)).trans (up1_ne (by omega)))).trans (r2 1238 0 (by omega))).trans ((lm.2 0 (by omega)).trans (by unfold FST; rw [Nat.zero_mul]))
        try simp (disch := omega) only [li, nO_n, adI, mlI, tnI, vpI, ltI, leI, eqI, forall_eq, leT, leF, ltT, ltF, eqT, eqF, true_and, and_true, false_implies, true_implies, forall_const, not_true_eq_false, not_false_eq_true, implies_true, z1, z2, z3]
        refine fin _ ((((f3.u (by omega)).u (by omega)).u (by omega)).u (by omega)) (fun c k hc => ?_) (fun c k hc => ?_) ?_ ?_ ?_ ?_
        · rw [up1_ne (by omega), up1_ne (by omega), up1_ne (by omega), up1_ne (by omega)]
        · rw [up1_ne (by omega), up1_ne (by omega), up1_ne (by omega), up1_ne (by omega)]
        · rw [up1_ne (by omega), up1_ne (by omega), up1_ne (by omega), up1_eq]
        · rw [up1_ne (by omega), up1_ne (by omega), up1_eq]
        · rw [up1_ne (by omega), up1_eq, if_pos (by omega)]
        · rw [up1_eq, if_pos (by omega)]
