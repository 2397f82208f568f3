/-! PURE: words by how common they are -/
theorem ctF_add {p q r : Nat → Bool} {n : Nat} (h : ∀ k, k < n → (if r k then 1 else 0) = (if p k then 1 else 0) + (if q k then 1 else (0 : Nat))) : ctF r n = ctF p n + ctF q n := by
  induction n with
  | zero => rfl
  | succ n ih =>
    unfold ctF
    rw [ih (fun k hk => h k (by omega)), h n (by omega)]
    omega
theorem ctF_cut {p : Nat → Bool} {w n : Nat} (h : w ≤ n) : ctF (fun v => p v && decide (v < w)) n = ctF p w := by
  induction n with
  | zero =>
    obtain rfl : w = 0 := by omega
    rfl
  | succ n ih =>
    by_cases e : w = n + 1
    · subst e
      exact ctF_congr fun k hk => by simp [hk]
    · show ctF (fun v => p v && decide (v < w)) n + (if (p n && decide (n < w)) = true then 1 else 0) = ctF p w
      rw [ih (by omega)]
      have : decide (n < w) = false := decide_eq_false (by omega)
      rw [this]
      simp
theorem ctF_hit {p : Nat → Bool} {n c : Nat} (h : c < ctF p n) : ∃ y, y < n ∧ p y = true ∧ ctF p y = c := by
  induction n with
  | zero => exact absurd h (Nat.not_lt_zero _)
  | succ n ih =>
    unfold ctF at h
    by_cases e : c < ctF p n
    · obtain ⟨y, h1, h2, h3⟩ := ih e
      exact ⟨y, by omega, h2, h3⟩
    · cases q : p n
      · rw [q] at h; simp at h; omega
      · rw [q] at h; simp at h; exact ⟨n, by omega, q, by omega⟩
theorem ctF_sub {p q : Nat → Bool} {n w : Nat} (h : ∀ k, k < n → p k = true → q k = true) (hw : w < n) (h1 : p w = false) (h2 : q w = true) : ctF p n < ctF q n := by
  have e := ctF_add (p := p) (q := fun k => q k && !p k) (r := q) (n := n) (fun k hk => by
    cases hp : p k
    · cases hq : q k <;> simp
    · rw [h k hk hp]; simp)
  have := ctF_pos (p := fun k => q k && !p k) hw (by show (q w && !p w) = true; rw [h1, h2]; rfl)
  omega
def ahd (D : Dc) (kn w : Nat) : Nat := ctF (fun v => decide (pN D w < pN D v ∨ (pN D v = pN D w ∧ v < w))) kn
def geN (D : Dc) (kn z : Nat) : Nat := ctF (fun v => decide (z ≤ pN D v)) kn
def eqN (D : Dc) (z n : Nat) : Nat := ctF (fun v => decide (pN D v = z)) n
theorem ahd_e {D : Dc} {kn w : Nat} (hw : w < kn) : ahd D kn w = geN D kn (pN D w + 1) + eqN D (pN D w) w := by
  have e1 : eqN D (pN D w) w = ctF (fun v => decide (pN D v = pN D w) && decide (v < w)) kn := (ctF_cut (by omega)).symm
  rw [e1]
  refine ctF_add fun k hk => ?_
  by_cases a : pN D w < pN D k
  · have b : ¬ pN D k = pN D w := by omega
    simp [a, b, Nat.succ_le_of_lt a]
  · have b : ¬ pN D w + 1 ≤ pN D k := by omega
    by_cases c : pN D k = pN D w
    · by_cases d : k < w <;> simp [a, b, c, d]
    · simp [a, b, c]
theorem ge_s {D : Dc} {kn z : Nat} : geN D kn z = geN D kn (z + 1) + eqN D z kn := by
  refine ctF_add fun k _ => ?_
  by_cases a : z + 1 ≤ pN D k
  · have b : ¬ pN D k = z := by omega
    simp [a, b, show z ≤ pN D k by omega]
  · by_cases c : pN D k = z
    · simp [a, c]
    · have b : ¬ z ≤ pN D k := by omega
      simp [a, b, c]
theorem ge_0 {D : Dc} {kn : Nat} : geN D kn 0 = kn := by
  unfold geN
  induction kn with
  | zero => rfl
  | succ n ih => unfold ctF; rw [ih]; simp
theorem ge_65 {D : Dc} {kn : Nat} (h : D.length ≤ 64) : geN D kn 65 = 0 := by
  unfold geN
  rw [ctF_zero]
  intro k hk
  have := pN_le D k
  exact decide_eq_false (by omega)
theorem ahd_ex {D : Dc} {kn n : Nat} (h : D.length ≤ 64) (hn : n < kn) : ∃ w, w < kn ∧ ahd D kn w = n := by
  have key : ∀ i, i ≤ 65 → n < geN D kn (65 - i) → ∃ z, geN D kn (z + 1) ≤ n ∧ n < geN D kn z := by
    intro i
    induction i with
    | zero => intro _ h2; rw [show 65 - 0 = 65 from rfl, ge_65 h] at h2; omega
    | succ i ih =>
      intro hi h2
      by_cases e : n < geN D kn (65 - i)
      · exact ih (by omega) e
      · refine ⟨65 - (i + 1), ?_, h2⟩
        rw [show 65 - (i + 1) + 1 = 65 - i by omega]
        omega
  obtain ⟨z, z1, z2⟩ := key 65 (Nat.le_refl _) (by rw [show 65 - 65 = 0 from rfl, ge_0]; exact hn)
  rw [ge_s] at z2
  obtain ⟨y, y1, y2, y3⟩ := ctF_hit (p := fun v => decide (pN D v = z)) (n := kn) (c := n - geN D kn (z + 1)) (by unfold eqN at z2; omega)
  have y2 := of_decide_eq_true y2
  refine ⟨y, y1, ?_⟩
  rw [ahd_e y1, y2]
  unfold eqN
  omega
theorem ahd_lt {D : Dc} {kn w v : Nat} (hw : w < kn) (h : pN D v < pN D w ∨ (pN D w = pN D v ∧ w < v)) : ahd D kn w < ahd D kn v := by
  refine ctF_sub (w := w) (fun k _ hk => ?_) hw (decide_eq_false (by omega)) (decide_eq_true h)
  have hk := of_decide_eq_true hk
  exact decide_eq_true (by omega)
theorem ahd_inj {D : Dc} {kn w v : Nat} (hw : w < kn) (hv : v < kn) (h : ahd D kn w = ahd D kn v) : w = v := by
  by_cases e : w = v
  · exact e
  · exfalso
    by_cases a : pN D v < pN D w ∨ (pN D w = pN D v ∧ w < v)
    · have := ahd_lt hw a; omega
    · have := ahd_lt (D := D) (w := v) (v := w) hv (by omega); omega
def comW (D : Dc) (kn n : Nat) : Nat := ffn (fun w => ahd D kn w == n) 0 kn
theorem comW_c {D : Dc} {kn n : Nat} (h : D.length ≤ 64) (hn : n < kn) : comW D kn n < kn ∧ ahd D kn (comW D kn n) = n ∧ ∀ w, w < kn → ahd D kn w = n → w = comW D kn n := by
  obtain ⟨w, w1, w2⟩ := ahd_ex h hn
  obtain ⟨f1, f2, f3, f4⟩ := ffn_c (p := fun w => ahd D kn w == n) (Nat.zero_le kn)
  have h1 : ahd D kn (comW D kn n) = n ∧ comW D kn n < kn := by
    rcases f4 with f4 | f4
    · have := f3 w (Nat.zero_le _) (by omega)
      exact absurd w2 (by simpa using this)
    · have f4 : ahd D kn (comW D kn n) = n := eq_of_beq f4
      refine ⟨f4, ?_⟩
      by_cases q : comW D kn n < kn
      · exact q
      · have f9 : comW D kn n ≤ kn := f2
        have := f3 w (Nat.zero_le _) (by unfold comW at q; omega)
        exact absurd w2 (by simpa using this)
  exact ⟨h1.2, h1.1, fun w hw he => ahd_inj hw h1.2 (he.trans h1.1.symm)⟩
theorem ccommon {D : Dc} {kn n : Nat} {M : Mem} (h : CD D M) (hD : DW D kn) (hk : M.1 1001 0 0 = nI kn) (hn : n < kn) {Q : Int32 → Mem → Prop} (hQ : Q (nI (comW D kn n)) M) : pX4_commonWord M (nI n) Q := by
  have hl := hD.1
  have hkn := hD.2.1
  obtain ⟨c1, c2, c3⟩ := comW_c hl hn
  unfold pX4_commonWord
  refine lp_up (fun i s => s = (M, nI (n - geN D kn (65 - i)), nI (65 - i) - nI 1) ∧ geN D kn (65 - i) ≤ n) (Nat.zero_le 65) ⟨?_, ?_⟩ ?_ ?_
  · rw [show 65 - 0 = 65 from rfl, ge_65 hl]; rfl
  · rw [show 65 - 0 = 65 from rfl, ge_65 hl]; omega
  · rintro i s L - hi ⟨rfl, hge⟩ hL
    obtain ⟨z, hz⟩ : ∃ z, 65 - i = z + 1 := ⟨64 - i, by omega⟩
    have hz2 : 65 - (i + 1) = z := by omega
    rw [hz] at hge
    rw [hz2] at hL
    have es := ge_s (D := D) (kn := kn) (z := z)
    unfold bX4_commonWord_5
    simp only [hz, sbs]
    try simp (disch := omega) only [li, nO_n, adI, mlI, tnI, vpI, ltI, leI, eqI, forall_eq, leT, leF, ltT, ltF, eqT, eqF, true_and, and_true, false_implies, true_implies, forall_const, not_true_eq_false, not_false_eq_true, implies_true]
    refine lp_up (fun y s => s = (M, nI (n - (geN D kn (z + 1) + eqN D z y)), nI z, nI y) ∧ geN D kn (z + 1) + eqN D z y ≤ n) (Nat.zero_le kn) ⟨rfl, hge⟩ ?_ ?_
    · rintro y s L2 - hy ⟨rfl, hge2⟩ hL2
      have hp := pN_le D y
      have e1 := h.po y
      unfold bX4_commonWord_12 bX4_commonWord_45
      by_cases e : pN D y = z
      · have ee : eqN D z (y + 1) = eqN D z y + 1 := by unfold eqN; rw [ctF, decide_eq_true e]; rfl
        by_cases e0 : n - (geN D kn (z + 1) + eqN D z y) = 0
        · have ea : y = comW D kn n := c3 y hy (by rw [ahd_e hy, e]; omega)
          rw [← ea] at hQ
          try simp (disch := omega) only [li, nO_n, adI, mlI, tnI, vpI, ltI, leI, eqI, forall_eq, leT, leF, ltT, ltF, eqT, eqF, true_and, and_true, false_implies, true_implies, forall_const, not_true_eq_false, not_false_eq_true, implies_true, hk, e1]
          exact hQ
        · obtain ⟨q, hq⟩ : ∃ q, n - (geN D kn (z + 1) + eqN D z y) = q + 1 := ⟨n - (geN D kn (z + 1) + eqN D z y) - 1, by omega⟩
          try simp (disch := omega) only [li, nO_n, adI, mlI, tnI, vpI, ltI, leI, eqI, forall_eq, leT, leF, ltT, ltF, eqT, eqF, true_and, and_true, false_implies, true_implies, forall_const, not_true_eq_false, not_false_eq_true, implies_true, hk, e1, hq, nO_add]
          exact hL2 _ ⟨by rw [ee, show n - (geN D kn (z + 1) + (eqN D z y + 1)) = q by omega], by omega⟩
      · have ee : eqN D z (y + 1) = eqN D z y := by unfold eqN; rw [ctF, decide_eq_false e]; rfl
        try simp (disch := omega) only [li, nO_n, adI, mlI, tnI, vpI, ltI, leI, eqI, forall_eq, leT, leF, ltT, ltF, eqT, eqF, true_and, and_true, false_implies, true_implies, forall_const, not_true_eq_false, not_false_eq_true, implies_true, hk, e1]
        exact hL2 _ ⟨by rw [ee], by omega⟩
    · rintro s L2 ⟨rfl, hge2⟩
      unfold bX4_commonWord_12
      try simp (disch := omega) only [li, nO_n, adI, mlI, tnI, vpI, ltI, leI, eqI, forall_eq, leT, leF, ltT, ltF, eqT, eqF, true_and, and_true, false_implies, true_implies, forall_const, not_true_eq_false, not_false_eq_true, implies_true, hk]
      refine hL _ ⟨?_, by omega⟩
      rw [es, Int32.sub_eq_add_neg, nO_n]
  · rintro s L ⟨rfl, hge⟩
    rw [show 65 - 65 = 0 from rfl, ge_0] at hge
    omega
theorem mahead {D : Dc} {kn w : Nat} {M : Mem} (h : MD D M) (hD : DW D kn) (hk : M.1 1210 0 0 = nI kn) (hw : w < kn) {Q : Int32 → Mem → Prop} (hQ : ∀ M', Kp kL M M' → Q (nI (ahd D kn w)) M') : pX11_ahead M (nI w) Q := by
  have hl := hD.1
  have hkn := hD.2.1
  have hp := pN_le D w
  unfold pX11_ahead
  refine mgathers h hD (by omega) (fun M2 k2 l2 => ?_)
  simp only [l2.1, forall_eq]
  refine lp_up (fun k s => s.2.1 = nI (pN D w) ∧ s.2.2.1 = nI (ctF (fun v => decide (pN D w < pN D v ∨ (pN D v = pN D w ∧ v < w))) k) ∧ s.2.2.2 = nI k ∧ Kp kL M s.1) (Nat.zero_le kn) ⟨rfl, rfl, rfl, k2⟩ ?_ ?_
  · rintro k ⟨m, y1, y2, y3⟩ L - hk2 ⟨rfl, rfl, rfl, k3⟩ hL
    have k3 : Kp kL M m := k3
    have hkm : m.1 1210 0 0 = nI kn := (k3.g rfl 0).trans hk
    have hpk := pN_le D k
    unfold bX11_ahead_15 bX11_ahead_60
    try simp (disch := omega) only [li, nO_n, adI, mlI, tnI, vpI, ltI, leI, eqI, forall_eq, leT, leF, ltT, ltF, eqT, eqF, true_and, and_true, false_implies, true_implies, forall_const, not_true_eq_false, not_false_eq_true, implies_true, hkm]
    refine mgathers (h.ks hD k3) hD (by omega) (fun M4 k4 l4 => ?_)
    have go : ∀ c : Nat, c = (if decide (pN D w < pN D k ∨ (pN D k = pN D w ∧ k < w)) = true then 1 else 0) → L (M4, nI (pN D w), nI (ctF (fun v => decide (pN D w < pN D v ∨ (pN D v = pN D w ∧ v < w))) k + c), nI (k + 1)) := fun c hc => hL _ ⟨rfl, by rw [hc]; rfl, rfl, k3.tr k4⟩
    by_cases a : pN D w < pN D k
    · have := go 1 (by rw [decide_eq_true (Or.inl a)]; rfl)
      try simp (disch := omega) only [li, nO_n, adI, mlI, tnI, vpI, ltI, leI, eqI, forall_eq, leT, leF, ltT, ltF, eqT, eqF, true_and, and_true, false_implies, true_implies, forall_const, not_true_eq_false, not_false_eq_true, implies_true, l4.1]
      exact this
    · by_cases b : pN D k = pN D w
      · by_cases c : k < w
        · have := go 1 (by rw [decide_eq_true (Or.inr ⟨b, c⟩)]; rfl)
          try simp (disch := omega) only [li, nO_n, adI, mlI, tnI, vpI, ltI, leI, eqI, forall_eq, leT, leF, ltT, ltF, eqT, eqF, true_and, and_true, false_implies, true_implies, forall_const, not_true_eq_false, not_false_eq_true, implies_true, l4.1]
          exact this
        · have := go 0 (by rw [decide_eq_false (by omega)]; rfl)
          try simp (disch := omega) only [li, nO_n, adI, mlI, tnI, vpI, ltI, leI, eqI, forall_eq, leT, leF, ltT, ltF, eqT, eqF, true_and, and_true, false_implies, true_implies, forall_const, not_true_eq_false, not_false_eq_true, implies_true, l4.1]
          exact this
      · have := go 0 (by rw [decide_eq_false (by omega)]; rfl)
        try simp (disch := omega) only [li, nO_n, adI, mlI, tnI, vpI, ltI, leI, eqI, forall_eq, leT, leF, ltT, ltF, eqT, eqF, true_and, and_true, false_implies, true_implies, forall_const, not_true_eq_false, not_false_eq_true, implies_true, l4.1]
        exact this
  · rintro ⟨m, y1, y2, y3⟩ L ⟨rfl, rfl, rfl, k3⟩
    have k3 : Kp kL M m := k3
    have hkm : m.1 1210 0 0 = nI kn := (k3.g rfl 0).trans hk
    unfold bX11_ahead_15
    try simp (disch := omega) only [li, nO_n, adI, mlI, tnI, vpI, ltI, leI, eqI, forall_eq, leT, leF, ltT, ltF, eqT, eqF, true_and, and_true, false_implies, true_implies, forall_const, not_true_eq_false, not_false_eq_true, implies_true, hkm]
    exact hQ m k3
theorem mcommon {D : Dc} {kn n : Nat} {M : Mem} (h : MD D M) (hD : DW D kn) (hk : M.1 1210 0 0 = nI kn) (hn : n < kn) {Q : Int32 → Mem → Prop} (hQ : ∀ M', Kp kL M M' → Q (nI (comW D kn n)) M') : ∃ k : Nat, lp (fun L s => bX11_common_31 (nI n) Q L s.1 s.2) k (M, 0) := by
  have hl := hD.1
  have hkn := hD.2.1
  obtain ⟨c1, c2, c3⟩ := comW_c hl hn
  refine lp_up (fun w s => s.2 = nI w ∧ Kp kL M s.1) (Nat.zero_le (comW D kn n)) ⟨rfl, Kp.rf⟩ ?_ ?_
  · rintro w ⟨m, y⟩ L - hw ⟨rfl, k1⟩ hL
    have k1 : Kp kL M m := k1
    have hle : ahd D kn w ≤ kn := ctF_le _ _
    have hne : ¬ ahd D kn w = n := fun e => by have := c3 w (by omega) e; omega
    unfold bX11_common_31
    refine mahead (h.ks hD k1) hD ((k1.g rfl 0).trans hk) (by omega) (fun M2 k2 => ?_)
    try simp (disch := omega) only [li, nO_n, adI, mlI, tnI, vpI, ltI, leI, eqI, forall_eq, leT, leF, ltT, ltF, eqT, eqF, true_and, and_true, false_implies, true_implies, forall_const, not_true_eq_false, not_false_eq_true, implies_true]
    exact hL _ ⟨rfl, k1.tr k2⟩
  · rintro ⟨m, y⟩ L ⟨rfl, k1⟩
    have k1 : Kp kL M m := k1
    unfold bX11_common_31
    refine mahead (h.ks hD k1) hD ((k1.g rfl 0).trans hk) c1 (fun M2 k2 => ?_)
    rw [c2]
    try simp (disch := omega) only [li, nO_n, adI, mlI, tnI, vpI, ltI, leI, eqI, forall_eq, leT, leF, ltT, ltF, eqT, eqF, true_and, and_true, false_implies, true_implies, forall_const, not_true_eq_false, not_false_eq_true, implies_true]
    exact hQ M2 (k1.tr k2)
