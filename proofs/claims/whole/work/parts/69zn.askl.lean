/-! PURE: the reference reads a question, to its end -/
def pMs (c i : Nat) : Bool := pMq c i && decide (c ≠ 1205)
theorem pMs_q (c i : Nat) (h : pMs c i = true) : pMq c i = true := by unfold pMs at h; simp at h; exact h.1
def k1205 (c _ : Nat) : Bool := decide (c ≠ 1205)
theorem nI_neg {x : Nat} (h : x < 2147483648) : ¬ nI x = (-1 : Int32) := fun q => by
  have := congrArg Int32.toInt q
  rw [nI_toInt h] at this
  have e : (-1 : Int32).toInt = -1 := by decide
  omega
theorem m96f {t : Nat → Nat} {n : Nat} {W : List Wd} {M0 : Mem} (hT : MT t n M0) (hw : MWr W M0) (hW : Kw W) {x1 : Int32} {Q : Int32 → Mem → Prop} (qF : eF (fqR t n W) ≠ 0 → ∀ M', Kp pMs M0 M' → M'.1 1205 0 0 = nI (eP (fqR t n W)) → Q (nI (eF (fqR t n W)) - nI 10) M') (qG : eF (fqR t n W) = 0 → ∀ M' A p r, Kp pMs M0 M' → M'.1 1205 0 0 = nO → MQi A p r M' → AV W A → A.length ≤ 24 → p ≤ 6 → r ≤ 9 → eK (fqR t n W) = kPR (fA A).1 p r → pX11_stands M' (fun M39 => Q (M39.1 1218 0 0) M39)) {M : Mem} (hA : HA t n W M0 M) : bX11_ask_96 x1 Q M := by
  have hP := rdQ_P t n W (n + 1) (Nat.le_refl _) hA.1
  have hP : (eF (fqR t n W) = 1 ∨ eF (fqR t n W) = 2) ∧ eP (fqR t n W) ≤ n := hP
  obtain ⟨a1, a2, a3, a4⟩ := hA
  unfold bX11_ask_96
  intro M34 e34
  subst e34
  refine mfine1 (f := eF (fqR t n W)) ((up1_ne (by simp)).trans a3) a1 (by omega) ?_
  first | refine s0a ?_ | refine s0b ?_
  rw [show (up1 M 1205 0 0 (M.1 1207 0 0)).1 1206 0 0 = nI (eF (fqR t n W)) from (up1_ne (by simp)).trans a3]
  exact qF a1 _ ((a2.wk pMs_q).u1 rfl) (by rw [up1_eq]; exact a4)
theorem m80f {t : Nat → Nat} {n : Nat} {W : List Wd} {M0 : Mem} (hT : MT t n M0) (hw : MWr W M0) (hW : Kw W) {x1 : Int32} {Q : Int32 → Mem → Prop} (qF : eF (fqR t n W) ≠ 0 → ∀ M', Kp pMs M0 M' → M'.1 1205 0 0 = nI (eP (fqR t n W)) → Q (nI (eF (fqR t n W)) - nI 10) M') (qG : eF (fqR t n W) = 0 → ∀ M' A p r, Kp pMs M0 M' → M'.1 1205 0 0 = nO → MQi A p r M' → AV W A → A.length ≤ 24 → p ≤ 6 → r ≤ 9 → eK (fqR t n W) = kPR (fA A).1 p r → pX11_stands M' (fun M39 => Q (M39.1 1218 0 0) M39)) {M : Mem} (hA : HA t n W M0 M) : bX11_ask_80 x1 Q M := by
  have hP := rdQ_P t n W (n + 1) (Nat.le_refl _) hA.1
  have hP : (eF (fqR t n W) = 1 ∨ eF (fqR t n W) = 2) ∧ eP (fqR t n W) ≤ n := hP
  have h := m96f hT hw hW qF qG (x1 := x1) hA
  unfold bX11_ask_80
  exact ⟨fun _ => h, fun _ => mwrong1 hA.2.2.1 hA.1 (by omega) h⟩
theorem m80g {t : Nat → Nat} {n : Nat} {W : List Wd} {M0 : Mem} (hT : MT t n M0) (hw : MWr W M0) (hW : Kw W) {x1 : Int32} {Q : Int32 → Mem → Prop} (qF : eF (fqR t n W) ≠ 0 → ∀ M', Kp pMs M0 M' → M'.1 1205 0 0 = nI (eP (fqR t n W)) → Q (nI (eF (fqR t n W)) - nI 10) M') (qG : eF (fqR t n W) = 0 → ∀ M' A p r, Kp pMs M0 M' → M'.1 1205 0 0 = nO → MQi A p r M' → AV W A → A.length ≤ 24 → p ≤ 6 → r ≤ 9 → eK (fqR t n W) = kPR (fA A).1 p r → pX11_stands M' (fun M39 => Q (M39.1 1218 0 0) M39)) {M : Mem} {A : List It} {p r : Nat} (h : HX t n W M0 n A p r M) (hm : MQi A p r M) : bX11_ask_80 x1 Q M := by
  obtain ⟨h1, h2, h3, h4, h5, h6, h7, h8, h9, h10, h11, h12⟩ := h
  have hn := hT.2.2.1
  have hs := Cl0_s h2
  have hs : fqR t n W = btw (clQ W (rdQ t n W n)) n (bt t n n) := hs
  rw [bt_n (Nat.le_refl _)] at hs
  have hs : fqR t n W = (if qP (eK (clQ W (rdQ t n W n))) = 0 then flt (clQ W (rdQ t n W n)) 1 n else clQ W (rdQ t n W n)) := hs
  have eP0 : qP (eK (clQ W (rdQ t n W n))) = p := by rw [h3]; rfl
  rw [eP0] at hs
  have l0 : M.1 1234 0 0 = 0 ↔ p = 0 := by rw [hm.2.1]; exact eqI (b := 0) (by omega) (by omega)
  unfold bX11_ask_80
  rw [l0]
  refine ⟨fun q => ?_, fun q => ?_⟩
  · rw [if_neg q] at hs
    have hf : eF (fqR t n W) = 0 := by rw [hs]; exact clQ_F h2.1
    unfold bX11_ask_96
    intro M34 e34
    subst e34
    refine mfine0 ((up1_ne (by simp)).trans h11) ?_
    first | refine s1a ?_ | refine s1b ?_
    exact qG hf _ A p r ((h9.wk pMs_q).u1 rfl) (by rw [up1_eq]; exact h12) (hm.kp (P := k1205) (Kp.rf.u1 rfl) rfl rfl rfl (fun _ => rfl)) h8 (by omega) h6 h7 (by rw [hs]; exact h3)
  · rw [if_pos q] at hs
    rw [h10]
    refine mwrong0 h11 ?_
    refine m96f hT hw hW qF qG (x1 := x1) ⟨by rw [hs]; exact (by decide : (1:Nat) ≠ 0), (h9.u1 rfl).u1 rfl, ?_, ?_⟩
    · rw [hs, up1_ne (by simp), up1_eq]; rfl
    · rw [hs, up1_eq]; rfl
theorem maskloop {t : Nat → Nat} {n : Nat} {W : List Wd} {M0 : Mem} (hT : MT t n M0) (hw : MWr W M0) (hW : Kw W) {x1 : Int32} {Q : Int32 → Mem → Prop} (qF : eF (fqR t n W) ≠ 0 → ∀ M', Kp pMs M0 M' → M'.1 1205 0 0 = nI (eP (fqR t n W)) → Q (nI (eF (fqR t n W)) - nI 10) M') (qG : eF (fqR t n W) = 0 → ∀ M' A p r, Kp pMs M0 M' → M'.1 1205 0 0 = nO → MQi A p r M' → AV W A → A.length ≤ 24 → p ≤ 6 → r ≤ 9 → eK (fqR t n W) = kPR (fA A).1 p r → pX11_stands M' (fun M39 => Q (M39.1 1218 0 0) M39)) {M : Mem} (h : HX t n W M0 0 [] 0 0 M) (hm : MQi [] 0 0 M) : ∃ m : Nat, lp (fun L s => bX11_ask_58 x1 Q L s) m M := by
  have hn := hT.2.2.1
  refine lp_rule (fun s => (∃ i A p r, HX t n W M0 i A p r s ∧ MQi A p r s) ∨ HA t n W M0 s) (fun s => if s.1 1206 0 0 = nI 0 then 301 - tn (s.1 1204 0 0) else 0) ?_ (Or.inl ⟨0, [], 0, 0, h, hm⟩)
  intro m hJ L hL
  rcases hJ with ⟨i, A, p, r, hX, hQi⟩ | hA
  · have e6 : m.1 1206 0 0 = nI 0 := hX.2.2.2.2.2.2.2.2.2.2.1
    have e4 : m.1 1204 0 0 = nI i := hX.2.2.2.2.2.2.2.2.2.1
    obtain ⟨h1, h2, h3, h4, h5, h6, h7, h8, h9, h10, h11, h12⟩ := id hX
    have mu : (if m.1 1206 0 0 = nI 0 then 301 - tn (m.1 1204 0 0) else 0) = 301 - i := by rw [if_pos e6, e4, tnI (by omega)]
    have hTm : MT t n m := hT.kp h9 rfl rfl
    obtain ⟨b1', b2, b3, b4⟩ := bE_c (t := t) h1
    obtain ⟨r1, r2⟩ := Cl0_b h2 b1' b2 b3
    unfold bX11_ask_58
    refine mfine0 e6 ?_
    first | refine s1a ?_ | refine s1b ?_
    refine mblanks hTm h1 e4 (fun M1 k1 a1 => ?_)
    generalize hk : bE t i n = k at b1' b2 b3 b4 r1 r2 a1
    have hX1 : HX t n W M0 k A p r M1 := ⟨b2, r1, by rw [r2]; exact h3, h4, h5, h6, h7, h8, h9.tr (k1.wk pMq_a), a1, (k1.g rfl 0).trans h11, (k1.g rfl 0).trans h12⟩
    have hm1 : MQi A p r M1 := hQi.kp k1 rfl rfl rfl (fun _ => rfl)
    by_cases q : k = n
    · rw [bt_n (by omega)]
      rw [q] at hX1
      exact ⟨fun _ => m80g hT hw hW qF qG hX1 hm1, fun z => absurd rfl z⟩
    · rw [bt_y (by omega)]
      have hk32 : t k ≠ 32 := b4.resolve_left q
      have h256 := hT.2.2.2 k
      refine ⟨fun z => absurd z (nI_neg (by omega)), fun _ => ?_⟩
      refine mpart hT hw hW (k := k) (p := p) (r := r) (A := A) (fun M2 j A' r' hj hX2 hm2 => hL _ (Or.inl ⟨j, A', p + 1, r', hX2, hm2⟩) ?_) (fun M2 hA => hL _ (Or.inr hA) ?_) hX1 hm1 (by omega) hk32
      · show (if M2.1 1206 0 0 = nI 0 then 301 - tn (M2.1 1204 0 0) else 0) < (if m.1 1206 0 0 = nI 0 then 301 - tn (m.1 1204 0 0) else 0)
        have hj2 := hX2.1
        rw [mu, if_pos hX2.2.2.2.2.2.2.2.2.2.2.1, hX2.2.2.2.2.2.2.2.2.2.1, tnI (by omega)]
        omega
      · show (if M2.1 1206 0 0 = nI 0 then 301 - tn (M2.1 1204 0 0) else 0) < (if m.1 1206 0 0 = nI 0 then 301 - tn (m.1 1204 0 0) else 0)
        have hP := rdQ_P t n W (n + 1) (Nat.le_refl _) hA.1
        have hP : (eF (fqR t n W) = 1 ∨ eF (fqR t n W) = 2) ∧ eP (fqR t n W) ≤ n := hP
        rw [mu, if_neg (show ¬ M2.1 1206 0 0 = nI 0 by rw [hA.2.2.1, eqI (by omega) (by omega)]; exact hA.1)]
        omega
  · have hP := rdQ_P t n W (n + 1) (Nat.le_refl _) hA.1
    have hP : (eF (fqR t n W) = 1 ∨ eF (fqR t n W) = 2) ∧ eP (fqR t n W) ≤ n := hP
    unfold bX11_ask_58
    refine mfine1 hA.2.2.1 hA.1 (by omega) ?_
    first | refine s0a ?_ | refine s0b ?_
    exact m80f hT hw hW qF qG hA
