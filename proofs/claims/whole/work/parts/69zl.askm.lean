/-! PURE: the reference reads a question's words -/
def i0 : It := (none, 0, 0, 0)
def pMq (c _ : Nat) : Bool := decide (¬ (c = 1204 ∨ c = 1206 ∨ c = 1207 ∨ (1231 ≤ c ∧ c ≤ 1235) ∨ c = 6236))
theorem pMq_w (c i : Nat) (h : pMq c i = true) : kWo c i = true := by unfold pMq at h; unfold kWo; simp at h ⊢; omega
theorem pMq_a (c i : Nat) (h : pMq c i = true) : kAt c i = true := by unfold pMq at h; unfold kAt; simp at h ⊢; omega
def MQi (A : List It) (p r : Nat) (M : Mem) : Prop := M.1 1233 0 0 = nI A.length ∧ M.1 1234 0 0 = nI p ∧ M.1 1235 0 0 = nI r ∧ ∀ k, k < A.length → M.1 6236 k 0 = oI (A.getD k i0).1 ∧ M.1 6236 k 1 = nI (A.getD k i0).2.1 ∧ M.1 6236 k 2 = nI (A.getD k i0).2.2.1 ∧ M.1 6236 k 3 = nI (A.getD k i0).2.2.2
def kMq (c _ : Nat) : Bool := decide (¬ (c = 1233 ∨ c = 1234 ∨ c = 1235 ∨ c = 6236))
theorem MQi.kp {P : Nat → Nat → Bool} {A : List It} {p r : Nat} {M M' : Mem} (h : MQi A p r M) (k : Kp P M M') (h1 : P 1233 0 = true) (h2 : P 1234 0 = true) (h3 : P 1235 0 = true) (h4 : ∀ i, P 6236 i = true) : MQi A p r M' := ⟨(k.g h1 0).trans h.1, (k.g h2 0).trans h.2.1, (k.g h3 0).trans h.2.2.1, fun j hj => by
  obtain ⟨a, b, c, d⟩ := h.2.2.2 j hj
  exact ⟨(k.g (h4 j) 0).trans a, (k.g (h4 j) 1).trans b, (k.g (h4 j) 2).trans c, (k.g (h4 j) 3).trans d⟩⟩
theorem tn0 : tn 0 = 0 := by decide
theorem tn1 : tn 1 = 1 := by decide
theorem tn2 : tn 2 = 2 := by decide
theorem tn3 : tn 3 = 3 := by decide
theorem MQi_app {A : List It} {p r : Nat} {a : It} {M : Mem} (h : MQi A p r M) : MQi (A ++ [a]) p r (up1 (up1 (up1 (up1 (up1 M 6236 A.length 0 (oI a.1)) 6236 A.length 1 (nI a.2.1)) 6236 A.length 2 (nI a.2.2.1)) 6236 A.length 3 (nI a.2.2.2)) 1233 0 0 (nI (A.length + 1))) := by
  obtain ⟨a1, a2, a3, a4⟩ := h
  have hL : (A ++ [a]).length = A.length + 1 := by rw [List.length_append]; rfl
  refine ⟨by rw [up1_eq, hL], ?_, ?_, fun k hk => ?_⟩
  · rw [up1_ne (by simp), up1_ne (by simp), up1_ne (by simp), up1_ne (by simp), up1_ne (by simp)]; exact a2
  · rw [up1_ne (by simp), up1_ne (by simp), up1_ne (by simp), up1_ne (by simp), up1_ne (by simp)]; exact a3
  · rw [hL] at hk
    rw [gd_app]
    by_cases q : k = A.length
    · rw [if_pos q, q]
      refine ⟨?_, ?_, ?_, ?_⟩
      · rw [up1_ne (by simp), up1_ne (by simp), up1_ne (by simp), up1_ne (by simp), up1_eq]
      · rw [up1_ne (by simp), up1_ne (by simp), up1_ne (by simp), up1_eq]
      · rw [up1_ne (by simp), up1_ne (by simp), up1_eq]
      · rw [up1_ne (by simp), up1_eq]
    · rw [if_neg q]
      obtain ⟨b1', b2, b3, b4⟩ := a4 k (by omega)
      have hz : ∀ x, (up1 (up1 (up1 (up1 (up1 M 6236 A.length 0 (oI a.1)) 6236 A.length 1 (nI a.2.1)) 6236 A.length 2 (nI a.2.2.1)) 6236 A.length 3 (nI a.2.2.2)) 1233 0 0 (nI (A.length + 1))).1 6236 k x = M.1 6236 k x := fun x => by
        rw [up1_ne (by simp), up1_ne (fun z => q z.2.1), up1_ne (fun z => q z.2.1), up1_ne (fun z => q z.2.1), up1_ne (fun z => q z.2.1)]
      exact ⟨(hz 0).trans b1', (hz 1).trans b2, (hz 2).trans b3, (hz 3).trans b4⟩
theorem mreadsAsked {t : Nat → Nat} {n j p r ka om : Nat} {W : List Wd} {A : List It} {M : Mem} (hT : MT t n M) (hw : MWr W M) (hW : Kw W) (hj : j ≤ n) (ha : M.1 1204 0 0 = nI j) (hf : M.1 1206 0 0 = nI 0) (hA : MQi A p r M) (hlen : j < wE t j n → A.length < 24) {Q : Mem → Prop} (qA : wE t j n = j → ∀ M', Kp pMq M M' → M'.1 1206 0 0 = nI 1 → M'.1 1207 0 0 = nI j → Q M') (qC : j + 8 < wE t j n → ∀ M', Kp pMq M M' → M'.1 1206 0 0 = nI 1 → M'.1 1207 0 0 = nI (j + 8) → Q M') (qB : j < wE t j n → wE t j n ≤ j + 8 → ∀ M', Kp pMq M M' → M'.1 1206 0 0 = nI 0 → M'.1 1207 0 0 = M.1 1207 0 0 → M'.1 1204 0 0 = nI (wE t j n) → MQi (A ++ [(owd W (wdr t j (wE t j n - j)), 1, ka, om)]) p r M' → Q M') : pX11_readsAsked M (nI ka) (nI om) Q := by
  obtain ⟨w1, w2, w3, w4⟩ := wE_c (t := t) hj
  have h1n : ¬ nI 1 = (0 : Int32) := n10
  unfold pX11_readsAsked
  refine mreadsWord hT hj ha hf (fun q M1 k1 c1 c2 => ?_) (fun q q2 M1 k1 c1 c2 c3 c4 c5 => ?_) (fun q M1 k1 c1 c2 => ?_)
  · refine mfine1 c1 (by omega) (by omega) ?_
    first | refine s0a ?_ | refine s0b ?_
    exact qA q M1 (k1.wk pMq_w) c1 c2
  · refine mfine0 c1 ?_
    first | refine s1a ?_ | refine s1b ?_
    have hA1 : MQi A p r M1 := hA.kp k1 rfl rfl rfl (fun _ => rfl)
    have e33 := hA1.1
    have hlen := hlen q
    rw [e33]
    refine ⟨(vpI (by omega)).mpr (by omega), ?_⟩
    have hok : Wok (wdr t j (wE t j n - j)) := wdr_ok (fun k hk => w3 (j + k) (by omega) (by omega))
    refine mseek (hw.wo k1) hW hok (by rw [wdr_len]; omega) c4 ?_
    rw [tnI (by omega), whI_o, tn0, tn1, tn2, tn3]
    intro M9 e9 M10 e10 M11 e11 M12 e12 M13 e13
    have f33 : M12.1 1233 0 0 = nI A.length := by rw [e12, up1_ne (by simp), e11, up1_ne (by simp), e10, up1_ne (by simp), e9, up1_ne (by simp)]; exact e33
    rw [f33] at e13
    have e13' : M13 = up1 M12 1233 0 0 (nI (A.length + 1)) := by rw [e13]; exact congrArg (up1 M12 1233 0 0) (adI _ 1)
    subst e13' e12 e11 e10 e9
    refine qB q q2 _ (((((((k1.wk pMq_w).u1 rfl).u1 rfl).u1 rfl).u1 rfl).u1 rfl)) ?_ ?_ ?_ (MQi_app (a := (owd W (wdr t j (wE t j n - j)), 1, ka, om)) hA1)
    · rw [up1_ne (by simp), up1_ne (by simp), up1_ne (by simp), up1_ne (by simp), up1_ne (by simp)]; exact c1
    · rw [up1_ne (by simp), up1_ne (by simp), up1_ne (by simp), up1_ne (by simp), up1_ne (by simp)]; exact c2
    · rw [up1_ne (by simp), up1_ne (by simp), up1_ne (by simp), up1_ne (by simp), up1_ne (by simp)]; exact c3
  · refine mfine1 c1 (by omega) (by omega) ?_
    first | refine s0a ?_ | refine s0b ?_
    exact qC q M1 (k1.wk pMq_w) c1 c2
theorem mdigit {t : Nat → Nat} {n j : Nat} {M : Mem} (hT : MT t n M) (hj : j < 2147483648) (ha : M.1 1204 0 0 = nI j) (hf : M.1 1206 0 0 = nI 0) {Q : Int32 → Mem → Prop} (hy : isD ((bt t n j).getD 0) = true → Q (nI ((bt t n j).getD 0 - 48)) (up1 M 1204 0 0 (nI (j + 1)))) (hn : ¬ isD ((bt t n j).getD 0) = true → Q (nI 0) (up1 (up1 M 1206 0 0 (nI 1)) 1207 0 0 (nI j))) : pX11_digit M Q := by
  have hwr : ¬ isD ((bt t n j).getD 0) = true → ∀ y : Int32, bX11_digit_21 Q M y := fun e y => by
    unfold bX11_digit_21
    rw [ha]
    refine mwrong0 hf ?_
    unfold bX11_digit_30
    refine mfine1 (f := 1) (by rw [up1_ne (by simp), up1_eq]; rfl) (by omega) (by omega) ?_
    first | refine s0a ?_ | refine s0b ?_
    exact hn e
  unfold pX11_digit
  rw [ha]
  refine mbyteAt hT hj ?_
  by_cases e : isD ((bt t n j).getD 0) = true
  · obtain ⟨x, ex, x1, x2⟩ := isD_s e
    rw [ex] at hy ⊢
    have l1 : nI x < (49 : Int32) ↔ x < 49 := ltI (b := 49) (by omega) (by omega)
    have l2 : nI x ≤ (57 : Int32) ↔ x ≤ 57 := leI (b := 57) (by omega) (by omega)
    show (nI x < 49 → _) ∧ (¬ nI x < 49 → (nI x ≤ 57 → _) ∧ (¬ nI x ≤ 57 → _))
    rw [l1, l2]
    refine ⟨fun q => absurd q (by omega), fun _ => ⟨fun _ => ?_, fun q => absurd x2 q⟩⟩
    unfold bX11_digit_30
    refine mfine0 hf ?_
    first | refine s1a ?_ | refine s1b ?_
    rw [ha]
    intro M10 e10
    have e10' : M10 = up1 M 1204 0 0 (nI (j + 1)) := by rw [e10]; exact congrArg (up1 M 1204 0 0) (adI j 1)
    subst e10'
    have es : nI x - 48 = nI (x - 48) := by show nI x - nI 48 = _; exact sbI (by omega)
    rw [show oI (some x) - 48 = nI x - 48 from rfl, es]
    exact hy (by show isD x = true; exact isD_iff.mpr ⟨x1, x2⟩)
  · have hw2 := hwr e
    cases eb : bt t n j with
    | none => exact ⟨fun _ => hw2 _, fun q => absurd (show (oI none : Int32) < 49 by decide) q⟩
    | some x =>
      have hx := bt_256 hT.2.2.2 x eb
      rw [eb] at e
      have l1 : nI x < (49 : Int32) ↔ x < 49 := ltI (b := 49) (by omega) (by omega)
      have l2 : nI x ≤ (57 : Int32) ↔ x ≤ 57 := leI (b := 57) (by omega) (by omega)
      show (nI x < 49 → _) ∧ (¬ nI x < 49 → (nI x ≤ 57 → _) ∧ (¬ nI x ≤ 57 → _))
      rw [l1, l2]
      refine ⟨fun _ => hw2 _, fun q => ⟨fun q2 => ?_, fun _ => hw2 _⟩⟩
      exact absurd (isD_iff.mpr ⟨by omega, q2⟩) e
def AV (W : List Wd) (A : List It) : Prop := ∀ a, a ∈ A → (∀ w, a.1 = some w → w < W.length) ∧ (a.2.1 ≤ 9 ∧ (a.2.2.1 = 3 → a.2.1 = 1)) ∧ a.2.2.1 ≤ 3 ∧ a.2.2.2 ≤ 6
theorem AV_app {W : List Wd} {A : List It} {a : It} (h : AV W A) (h1 : ∀ w, a.1 = some w → w < W.length) (h2 : a.2.1 ≤ 9 ∧ (a.2.2.1 = 3 → a.2.1 = 1)) (h3 : a.2.2.1 ≤ 3) (h4 : a.2.2.2 ≤ 6) : AV W (A ++ [a]) := fun b hb => by
  rcases List.mem_append.mp hb with hb | hb
  · exact h b hb
  · rw [List.mem_singleton.mp hb]; exact ⟨h1, h2, h3, h4⟩
/-- a fault was found -/
def HA (t : Nat → Nat) (n : Nat) (W : List Wd) (M0 M : Mem) : Prop := eF (fqR t n W) ≠ 0 ∧ Kp pMq M0 M ∧ M.1 1206 0 0 = nI (eF (fqR t n W)) ∧ M.1 1207 0 0 = nI (eP (fqR t n W))
theorem HA_of {t : Nat → Nat} {n : Nat} {W : List Wd} {M0 M : Mem} {i f x : Nat} (hi : i ≤ n + 1) (hf : f ≠ 0) (h1 : eF (rdQ t n W i) = f) (h2 : eP (rdQ t n W i) = x) (k : Kp pMq M0 M) (a : M.1 1206 0 0 = nI f) (b : M.1 1207 0 0 = nI x) : HA t n W M0 M := by
  have ef := fqR_f hi (by rw [h1]; exact hf)
  unfold HA
  rw [ef, h1, h2]
  exact ⟨hf, k, a, b⟩
def HX (t : Nat → Nat) (n : Nat) (W : List Wd) (M0 : Mem) (i : Nat) (A : List It) (p r : Nat) (M : Mem) : Prop := i ≤ n ∧ Cl0 t n W i ∧ eK (clQ W (rdQ t n W i)) = kPR (fA A).1 p r ∧ (∀ q, (fA A).2 = some q → q < p) ∧ A.length ≤ 4 * p ∧ p ≤ 6 ∧ r ≤ 9 ∧ AV W A ∧ Kp pMq M0 M ∧ M.1 1204 0 0 = nI i ∧ M.1 1206 0 0 = nI 0 ∧ M.1 1207 0 0 = nO
def PH (A : List It) (p r c : Nat) (K : Qc) : Prop := (c = 0 ∧ K = kBeg (kPR (fA A).1 (p + 1) r) ∧ ∀ q, (fA A).2 = some q → q < p) ∨ (1 ≤ c ∧ K = kPR (fA A).1 (p + 1) r ∧ (fA A).2 = some p)
theorem PH_add {A : List It} {p r c : Nat} {K : Qc} (o : Option Nat) (h : PH A p r c K) : PH (A ++ [(o, 1, 3, p)]) p r (c + 1) (kLen K o) := by
  have e : fA (A ++ [(o, 1, 3, p)]) = (kLen (if (fA A).2 = some p then (fA A).1 else kBeg (fA A).1) o, some p) := by rw [fA_app]; rfl
  refine Or.inr ⟨by omega, ?_, by rw [e]⟩
  rw [e, kPR_len]
  rcases h with ⟨h1, h2, h3⟩ | ⟨h1, h2, h3⟩
  · rw [if_neg (show ¬ (fA A).2 = some p from fun q => Nat.lt_irrefl p (h3 p q)), h2]; rfl
  · rw [if_pos h3, h2]
def PBh (t : Nat → Nat) (n : Nat) (W : List Wd) (M0 : Mem) (p r i : Nat) (A : List It) (c : Nat) (M : Mem) : Prop := i ≤ n ∧ Cl5 t n W i ∧ PH A p r c (eK (clQ W (rdQ t n W i))) ∧ pll (eK (clQ W (rdQ t n W i))) = c ∧ c ≤ 4 ∧ A.length ≤ 4 * p + c ∧ AV W A ∧ MQi A p r M ∧ Kp pMq M0 M ∧ M.1 1204 0 0 = nI i ∧ M.1 1206 0 0 = nI 0 ∧ M.1 1207 0 0 = nO
theorem wE_let {t : Nat → Nat} {n j : Nat} (hj : j < n) (hl : isL (t j) = true) : j < wE t j n := by
  obtain ⟨w1, w2, w3, w4⟩ := wE_c (t := t) (Nat.le_of_lt hj)
  rcases w4 with w4 | w4
  · omega
  · by_cases q : wE t j n = j
    · rw [q, hl] at w4; cases w4
    · omega
theorem wE_no {t : Nat → Nat} {n j : Nat} (hj : j ≤ n) (hl : isLo (bt t n j) = false) : wE t j n = j := by
  obtain ⟨w1, w2, w3, w4⟩ := wE_c (t := t) hj
  by_cases q : wE t j n = j
  · exact q
  · have := w3 j (Nat.le_refl _) (by omega)
    rw [bt_y (by omega)] at hl
    rw [show isLo (some (t j)) = isL (t j) from rfl, this] at hl
    cases hl
theorem mphr_body {t : Nat → Nat} {n : Nat} {W : List Wd} {M0 : Mem} {p r : Nat} (hT : MT t n M0) (hw : MWr W M0) (hW : Kw W) (hp : p ≤ 5) (hr : r ≤ 9) {Q : Mem → Prop} {L : Mem × Int32 → Prop} {M : Mem} {i c : Nat} {A : List It} (h : PBh t n W M0 p r i A c M) (hL1 : ∀ M' j A' c', i < j → PBh t n W M0 p r j A' c' M' → L (M', nI c')) (hL2 : ∀ M' y, HA t n W M0 M' → L (M', y)) (hQ : ∀ M' j A', i < j → HX t n W M0 j A' (p + 1) r M' → MQi A' p r M' → Q M') : bX11_readsPhrase_12 Q L M (nI c) := by
  obtain ⟨hi, j1, j2, j3, j4, j5, j6, j7, j8, j9, j10, j11⟩ := h
  obtain ⟨b1', b2, b3, b4⟩ := bE_c (t := t) hi
  obtain ⟨r1, r2⟩ := Cl5_b j1 b1' b2 b3
  have hn := hT.2.2.1
  have ht := hT.2.2.2
  have hm : MT t n M := hT.kp j8 rfl rfl
  have hs := Cl5_s r1
  rw [r2] at hs
  unfold bX11_readsPhrase_12
  refine mfine0 j10 ?_
  first | refine s1a ?_ | refine s1b ?_
  refine mblanks hm hi j9 (fun M1 k1 a1 => ?_)
  have hm1 : MT t n M1 := hm.kp k1 rfl rfl
  have hw1 : MWr W M1 := (hw.kp j8 rfl rfl rfl).kp k1 rfl rfl rfl
  have c8 : Kp pMq M0 M1 := j8.tr (k1.wk pMq_a)
  have c7 : MQi A p r M1 := j7.kp k1 rfl rfl rfl (fun _ => rfl)
  have c10 : M1.1 1206 0 0 = nI 0 := (k1.g rfl 0).trans j10
  have c11 : M1.1 1207 0 0 = nO := (k1.g rfl 0).trans j11
  generalize hk : bE t i n = k at b1' b2 b3 b4 r1 r2 a1 hs
  have hhi := bt_lt (t := t) (n := n) (i := k) ht
  have h34 : oI (bt t n k) = (34 : Int32) ↔ bt t n k = some 34 := oI_n hhi (k := 34) (by omega)
  rw [h34]
  have h1c : nI c ≤ (1 : Int32) ↔ c ≤ 1 := leI (b := 1) (by omega) (by omega)
  have h4c : nI c = (4 : Int32) ↔ c = 4 := eqI (b := 4) (by omega) (by omega)
  have l75 : ∀ M2, HA t n W M0 M2 → bX11_readsPhrase_75 Q L M2 (nI c) := fun M2 h2 => by
    unfold bX11_readsPhrase_75
    intro v ev
    exact hL2 M2 v h2
  have hasked : isLo (bt t n k) = true ∧ c ≤ 3 ∨ (isLo (bt t n k) = false ∧ ¬ (bt t n k = some 34 ∧ 2 ≤ c)) → bX11_readsPhrase_59 Q L M1 (nI c) := fun hcase => by
    unfold bX11_readsPhrase_59
    refine mfine0 c10 ?_
    first | refine s1a ?_ | refine s1b ?_
    rw [c7.2.1]
    refine mreadsAsked (ka := 3) (om := p) hm1 hw1 hW b2 a1 c10 c7 (fun q => by
      rcases hcase with ⟨_, z2⟩ | ⟨z1, _⟩
      · omega
      · have := wE_no b2 z1; omega) (fun q M2 k2 d1 d2 => ?_) (fun q M2 k2 d1 d2 => ?_) (fun q q2 M2 k2 d1 d2 d3 d4 => ?_)
    · refine l75 M2 (HA_of (i := k + 1) (f := 1) (x := k) (by omega) (by omega) ?_ ?_ (c8.tr k2) d1 d2)
      all_goals
        rcases hcase with ⟨z1, z2⟩ | ⟨z1, z2⟩
        · exfalso
          obtain ⟨x, ex, hx⟩ := isLo_s z1
          by_cases zk : k < n
          · rw [bt_y zk] at ex
            have := wE_let zk (show isL (t k) = true by cases ex; exact hx)
            omega
          · rw [bt_n (by omega)] at ex; cases ex
        · rw [hs]
          cases eb : bt t n k with
          | none => rfl
          | some x =>
            have hx32 : x ≠ 32 := by
              unfold bt at eb
              by_cases zk : k < n
              · rw [if_pos zk] at eb
                rcases b4 with b4 | b4
                · omega
                · cases eb; exact b4
              · rw [if_neg zk] at eb; cases eb
            rw [eb] at z1 z2
            unfold phr
            dsimp only
            rw [if_neg hx32, if_neg (show ¬ (x = 34 ∧ 2 ≤ pll (eK (clQ W (rdQ t n W i)))) from fun z => z2 ⟨by rw [z.1], by rw [← j3]; exact z.2⟩), if_neg (show ¬ isL x = true by rw [show isL x = isLo (some x) from rfl, z1]; decide)]
            rfl
    · have z1 : isLo (bt t n k) = true := by
        rcases hcase with ⟨z1, z2⟩ | ⟨z1, z2⟩
        · exact z1
        · have := wE_no b2 z1; omega
      obtain ⟨w1, w2, w3, w4⟩ := wE_c (t := t) b2
      have z2 : c ≤ 3 := by
        rcases hcase with ⟨_, z2⟩ | ⟨z3, _⟩
        · exact z2
        · rw [z1] at z3; cases z3
      have hkn : k < n := by omega
      have hlk := w3 k (Nat.le_refl _) (by omega)
      have e1 : rdQ t n W (k + 1) = (0, 0, 6, 0, [t k - 96], eK (clQ W (rdQ t n W i))) := by
        rw [hs, bt_y hkn]
        unfold phr
        dsimp only
        have := isL_iff.mp hlk
        rw [if_neg (by omega), if_neg (by omega), if_pos hlk, if_neg (by omega)]
      obtain ⟨g1, g2⟩ := rdQ_nine (Or.inr rfl) e1 (by omega) (fun x hx => w3 (k + x) (by omega) (by omega))
      exact l75 M2 (HA_of (i := k + 8 + 1) (f := 1) (x := k + 8) (by omega) (by omega) g1 g2 (c8.tr k2) d1 d2)
    · have z1 : isLo (bt t n k) = true := by
        rcases hcase with ⟨z1, z2⟩ | ⟨z1, z2⟩
        · exact z1
        · have := wE_no b2 z1; omega
      obtain ⟨w1, w2, w3, w4⟩ := wE_c (t := t) b2
      have z2 : c ≤ 3 := by
        rcases hcase with ⟨_, z2⟩ | ⟨z3, _⟩
        · exact z2
        · rw [z1] at z3; cases z3
      have hkn : k < n := by omega
      have hlk := w3 k (Nat.le_refl _) (by omega)
      have e1 : rdQ t n W (k + 1) = (0, 0, 6, 0, [t k - 96], eK (clQ W (rdQ t n W i))) := by
        rw [hs, bt_y hkn]
        unfold phr
        dsimp only
        have := isL_iff.mp hlk
        rw [if_neg (by omega), if_neg (by omega), if_pos hlk, if_neg (by omega)]
      obtain ⟨g1, g2⟩ := rdQ_word (Or.inr rfl) e1 q q2 b2
      have gc : clQ W (rdQ t n W (wE t k n)) = (0, 0, 5, 0, [], kLen (eK (clQ W (rdQ t n W i))) (owd W (wdr t k (wE t k n - k)))) := by
        rw [g1]; rfl
      have hfn : 0 < fN (eK (clQ W (rdQ t n W i))) := by
        have hI := rdQ_I t n W k
        have hm5 : eM (clQ W (rdQ t n W k)) = 5 := clQ_m5 (r1.2.elim Or.inl (fun z => Or.inr z.1))
        have hIc : QI W (clQ W (rdQ t n W k)) := by
          rcases r1.2 with m | ⟨m, _⟩
          · rw [clQ_0 (Or.inr m)]; exact hI
          · intro _
            rcases hI r1.1 with ⟨m', -⟩ | ⟨m', -⟩ | ⟨m', -⟩ | ⟨m', -⟩ | ⟨m', -⟩ | ⟨m', -⟩ | ⟨m', a, _⟩
            · omega
            · omega
            · omega
            · omega
            · omega
            · omega
            · have hcl : clQ W (rdQ t n W k) = (0, 0, 5, 0, [], kLen (eK (rdQ t n W k)) (owd W (eL (rdQ t n W k)))) := by unfold clQ; rw [if_neg (by omega), if_pos m]
              rw [hcl]
              exact Or.inr (Or.inr (Or.inr (Or.inr (Or.inr (Or.inl ⟨rfl, (Q5_len a owd_k).1⟩)))))
        rw [← r2]
        rcases hIc (clQ_F r1.1) with ⟨m', -⟩ | ⟨m', -⟩ | ⟨m', -⟩ | ⟨m', -⟩ | ⟨m', -⟩ | ⟨m', a⟩ | ⟨m', -⟩
        · omega
        · omega
        · omega
        · omega
        · omega
        · exact a.2.2.2.2.1
        · omega
      unfold bX11_readsPhrase_75
      intro v ev
      rw [ev]
      have hadd := adI c 1
      rw [show nI c + 1 = nI (c + 1) from hadd]
      refine hL1 M2 (wE t k n) _ (c + 1) (by omega) ⟨w2, ⟨by rw [g1]; rfl, Or.inr ⟨by rw [g1]; rfl, g2⟩⟩, ?_, ?_, by omega, ?_, AV_app j6 owd_k ⟨(by show 1 ≤ 9; omega), fun _ => rfl⟩ (by show 3 ≤ 3; omega) (by show p ≤ 6; omega), d4, c8.tr k2, d3, d1, d2.trans c11⟩
      · rw [gc]; exact PH_add _ j2
      · rw [gc]
        show pll (kLen (eK (clQ W (rdQ t n W i))) (owd W (wdr t k (wE t k n - k)))) = c + 1
        have hf := fun x => fL_len (owd W (wdr t k (wE t k n - k))) hfn x
        unfold pll at j3 ⊢
        rw [(hf 0).1, (hf _).2, if_pos rfl, j3]
      · rw [List.length_append]; show A.length + 1 ≤ 4 * p + (c + 1); omega
  have h38 : ¬ (bt t n k = some 34 ∧ 2 ≤ c) → bX11_readsPhrase_38 Q L M1 (nI c) (oI (bt t n k)) := fun hz => by
    unfold bX11_readsPhrase_38
    refine misLo hhi ?_
    by_cases el : isLo (bt t n k) = true
    · rw [el]
      refine s1b ?_
      rw [h4c]
      by_cases e4 : c = 4
      · refine ⟨fun z => absurd e4 z, fun _ => ?_⟩
        rw [a1]
        refine mwrong0 c10 ?_
        unfold bX11_readsPhrase_59
        refine mfine1 (f := 2) (by rw [up1_ne (by simp), up1_eq]; rfl) (by omega) (by omega) ?_
        first | refine s0a ?_ | refine s0b ?_
        obtain ⟨x, ex, hx⟩ := isLo_s el
        have e1 : rdQ t n W (k + 1) = flt (clQ W (rdQ t n W i)) 2 k := by
          rw [hs, ex]
          unfold phr
          dsimp only
          have := isL_iff.mp hx
          rw [if_neg (by omega), if_neg (by omega), if_pos hx, if_pos (by omega)]
        refine l75 _ (HA_of (i := k + 1) (f := 2) (x := k) (by omega) (by omega) (by rw [e1]; rfl) (by rw [e1]; rfl) ((c8.u1 rfl).u1 rfl) (by rw [up1_ne (by simp), up1_eq]; rfl) up1_eq)
      · exact ⟨fun _ => hasked (Or.inl ⟨el, by omega⟩), fun z => absurd z e4⟩
    · rw [isLo_f el]
      exact s0b (hasked (Or.inr ⟨isLo_f el, hz⟩))
  refine ⟨fun q => h38 (fun z => q z.1), fun q => ?_⟩
  rw [h1c]
  refine ⟨fun q2 => h38 (fun z => by omega), fun q2 => ?_⟩
  unfold bX11_readsPhrase_81
  intro M21 e21
  rw [a1] at e21
  have e21' : M21 = up1 M1 1204 0 0 (nI (k + 1)) := by rw [e21]; exact congrArg (up1 M1 1204 0 0) (adI k 1)
  subst e21'
  have hkn : k < n := by
    by_cases z : k < n
    · exact z
    · rw [bt_n (by omega)] at q; cases q
  have e1 : rdQ t n W (k + 1) = (0, 0, 0, 0, [], eK (clQ W (rdQ t n W i))) := by
    rw [hs, q]
    unfold phr
    dsimp only
    rw [if_neg (by omega), if_pos ⟨rfl, by omega⟩]
  have hK : eK (clQ W (rdQ t n W (k + 1))) = kPR (fA A).1 (p + 1) r ∧ (fA A).2 = some p := by
    rcases j2 with ⟨z1, _, _⟩ | ⟨z1, z2, z3⟩
    · omega
    · refine ⟨?_, z3⟩
      rw [e1, clQ_0 (Or.inl rfl)]
      exact z2
  refine hQ _ (k + 1) A (by omega) ⟨by omega, ⟨by rw [e1]; rfl, Or.inl (by rw [e1]; rfl)⟩, hK.1, fun x hx => ?_, by omega, by omega, hr, j6, c8.u1 rfl, up1_eq, ?_, ?_⟩ (c7.kp (P := kAt) (Kp.rf.u1 rfl) rfl rfl rfl (fun _ => rfl))
  · rw [hK.2] at hx; cases hx; omega
  · rw [up1_ne (by simp)]; exact c10
  · rw [up1_ne (by simp)]; exact c11
theorem mphr_loop {t : Nat → Nat} {n : Nat} {W : List Wd} {M0 : Mem} {p r : Nat} (hT : MT t n M0) (hw : MWr W M0) (hW : Kw W) (hp : p ≤ 5) (hr : r ≤ 9) {Q : Mem → Prop} {M : Mem} {i : Nat} {A : List It} (h : PBh t n W M0 p r i A 0 M) (hQ : ∀ M' j A', i < j → HX t n W M0 j A' (p + 1) r M' → MQi A' p r M' → Q M') (hQ2 : ∀ M', HA t n W M0 M' → Q M') : ∃ m : Nat, lp (fun L s => bX11_readsPhrase_12 Q L s.1 s.2) m (M, 0) := by
  have hn := hT.2.2.1
  refine lp_rule (fun s => (∃ j A' c, i ≤ j ∧ PBh t n W M0 p r j A' c s.1 ∧ s.2 = nI c) ∨ HA t n W M0 s.1) (fun s => if s.1.1 1206 0 0 = nI 0 then 301 - tn (s.1.1 1204 0 0) else 0) ?_ (Or.inl ⟨i, A, 0, Nat.le_refl _, h, rfl⟩)
  rintro ⟨m, y⟩ hJ L hL
  rcases hJ with ⟨j, A', c, hij, hB, ey⟩ | hA
  · dsimp only at hB ey
    subst ey
    have e6 : m.1 1206 0 0 = nI 0 := hB.2.2.2.2.2.2.2.2.2.2.1
    have e4 : m.1 1204 0 0 = nI j := hB.2.2.2.2.2.2.2.2.2.1
    have hj := hB.1
    have mu : (if m.1 1206 0 0 = nI 0 then 301 - tn (m.1 1204 0 0) else 0) = 301 - j := by rw [if_pos e6, e4, tnI (by omega)]
    refine mphr_body hT hw hW hp hr hB (fun M' j' A2 c' hj' hB' => ?_) (fun M' y' hA' => ?_) (fun M' j' A2 hj' h1 h2 => hQ M' j' A2 (by omega) h1 h2)
    · refine hL _ (Or.inl ⟨j', A2, c', by omega, hB', rfl⟩) ?_
      show (if M'.1 1206 0 0 = nI 0 then 301 - tn (M'.1 1204 0 0) else 0) < (if m.1 1206 0 0 = nI 0 then 301 - tn (m.1 1204 0 0) else 0)
      have hj2 := hB'.1
      rw [mu, if_pos hB'.2.2.2.2.2.2.2.2.2.2.1, hB'.2.2.2.2.2.2.2.2.2.1, tnI (by omega)]
      omega
    · refine hL _ (Or.inr hA') ?_
      show (if M'.1 1206 0 0 = nI 0 then 301 - tn (M'.1 1204 0 0) else 0) < (if m.1 1206 0 0 = nI 0 then 301 - tn (m.1 1204 0 0) else 0)
      have hP := rdQ_P t n W (n + 1) (Nat.le_refl _) hA'.1
      have hP : (eF (fqR t n W) = 1 ∨ eF (fqR t n W) = 2) ∧ eP (fqR t n W) ≤ n := hP
      rw [mu, if_neg (show ¬ M'.1 1206 0 0 = nI 0 by rw [hA'.2.2.1, eqI (by omega) (by omega)]; exact hA'.1)]
      omega
  · dsimp only at hA
    have hP := rdQ_P t n W (n + 1) (Nat.le_refl _) hA.1
    have hP : (eF (fqR t n W) = 1 ∨ eF (fqR t n W) = 2) ∧ eP (fqR t n W) ≤ n := hP
    unfold bX11_readsPhrase_12
    refine mfine1 hA.2.2.1 hA.1 (by omega) ?_
    first | refine s0a ?_ | refine s0b ?_
    unfold bX11_readsPhrase_81
    intro M21 e21
    subst e21
    refine hQ2 _ ⟨hA.1, hA.2.1.u1 rfl, ?_, ?_⟩
    · rw [up1_ne (by simp)]; exact hA.2.2.1
    · rw [up1_ne (by simp)]; exact hA.2.2.2
