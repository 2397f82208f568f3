/-! PURE: the reference reads a part of a question, and all of it -/
theorem MQi_set {A : List It} {o : Option Nat} {y v ka om p r : Nat} {M : Mem} (h : MQi (A ++ [(o, y, ka, om)]) p r M) : MQi (A ++ [(o, v, ka, om)]) p r (up1 M 6236 A.length 1 (nI v)) := by
  obtain ⟨a1, a2, a3, a4⟩ := h
  have e1 : (A ++ [(o, v, ka, om)]).length = (A ++ [(o, y, ka, om)]).length := by rw [List.length_append, List.length_append]; rfl
  refine ⟨?_, ?_, ?_, fun k hk => ?_⟩
  · rw [up1_ne (by simp), e1]; exact a1
  · rw [up1_ne (by simp)]; exact a2
  · rw [up1_ne (by simp)]; exact a3
  · rw [e1] at hk
    obtain ⟨b1', b2, b3, b4⟩ := a4 k hk
    rw [gd_app] at b1' b2 b3 b4 ⊢
    by_cases q : k = A.length
    · rw [if_pos q] at b1' b2 b3 b4 ⊢
      refine ⟨?_, ?_, ?_, ?_⟩
      · rw [up1_ne (by simp)]; exact b1'
      · rw [q, up1_eq]
      · rw [up1_ne (by simp)]; exact b3
      · rw [up1_ne (by simp)]; exact b4
    · rw [if_neg q] at b1' b2 b3 b4 ⊢
      refine ⟨?_, ?_, ?_, ?_⟩
      · rw [up1_ne (fun z => q z.2.1)]; exact b1'
      · rw [up1_ne (fun z => q z.2.1)]; exact b2
      · rw [up1_ne (fun z => q z.2.1)]; exact b3
      · rw [up1_ne (fun z => q z.2.1)]; exact b4
theorem pll_beg (K : Qc) : pll (kBeg K) = 0 := by
  unfold pll
  rw [(fL_beg K 0).1, (fL_beg K _).2, if_pos (by omega)]
theorem m231 {t : Nat → Nat} {n : Nat} {W : List Wd} {M0 : Mem} (hT : MT t n M0) (hw : MWr W M0) (hW : Kw W) {Q : Mem → Prop} {k p : Nat} (qG : ∀ M' j A' r', k < j → HX t n W M0 j A' (p + 1) r' M' → MQi A' (p + 1) r' M' → Q M') (qH : ∀ M', HA t n W M0 M' → Q M') {M : Mem} {j r' : Nat} {A' : List It} (hj : k < j) (h : HX t n W M0 j A' (p + 1) r' M) (hm : MQi A' p r' M) : bX11_readsPart_231 Q M := by
  unfold bX11_readsPart_231
  intro M52 e52
  rw [hm.2.1] at e52
  have e52' : M52 = up1 M 1234 0 0 (nI (p + 1)) := by rw [e52]; exact congrArg (up1 M 1234 0 0) (adI p 1)
  subst e52'
  obtain ⟨h1, h2, h3, h4, h5, h6, h7, h8, h9, h10, h11, h12⟩ := h
  refine qG _ j A' r' hj ⟨h1, h2, h3, h4, h5, h6, h7, h8, h9.u1 rfl, ?_, ?_, ?_⟩ ⟨?_, up1_eq, ?_, fun i hi => ?_⟩
  · rw [up1_ne (by simp)]; exact h10
  · rw [up1_ne (by simp)]; exact h11
  · rw [up1_ne (by simp)]; exact h12
  · rw [up1_ne (by simp)]; exact hm.1
  · rw [up1_ne (by simp)]; exact hm.2.2.1
  · have := hm.2.2.2 i hi
    rw [up1_ne (by simp), up1_ne (by simp), up1_ne (by simp), up1_ne (by simp)]; exact this
theorem m231f {t : Nat → Nat} {n : Nat} {W : List Wd} {M0 : Mem} (hT : MT t n M0) (hw : MWr W M0) (hW : Kw W) {Q : Mem → Prop} {k p : Nat} (qG : ∀ M' j A' r', k < j → HX t n W M0 j A' (p + 1) r' M' → MQi A' (p + 1) r' M' → Q M') (qH : ∀ M', HA t n W M0 M' → Q M') {M : Mem} (h : HA t n W M0 M) : bX11_readsPart_231 Q M := by
  unfold bX11_readsPart_231
  intro M52 e52
  subst e52
  exact qH _ ⟨h.1, h.2.1.u1 rfl, (up1_ne (by simp)).trans h.2.2.1, (up1_ne (by simp)).trans h.2.2.2⟩
theorem mword {t : Nat → Nat} {n : Nat} {W : List Wd} {M0 : Mem} (hT : MT t n M0) (hw : MWr W M0) (hW : Kw W) {Q : Mem → Prop} {k p r : Nat} {A : List It} (qG : ∀ M' j A' r', k < j → HX t n W M0 j A' (p + 1) r' M' → MQi A' (p + 1) r' M' → Q M') (qH : ∀ M', HA t n W M0 M' → Q M') {M : Mem} {j mk ka c : Nat} (hkj : k ≤ j) (hj : j ≤ n) (hp : p ≤ 5) (hr : r ≤ 9) (hmk : (mk = 0 ∧ ka = 0) ∨ (mk = 43 ∧ ka = 1) ∨ (mk = 45 ∧ ka = 2)) (hc : c < 256) (hc45 : c = 45 ↔ mk = 45) (hlast : ∀ q, (fA A).2 = some q → q < p) (hlen : A.length ≤ 4 * p) (hV : AV W A) (k0 : Kp pMq M0 M) (h4 : M.1 1204 0 0 = nI j) (h6 : M.1 1206 0 0 = nI 0) (h7 : M.1 1207 0 0 = nO) (hm : MQi A p r M) (h1 : isLo (bt t n j) = true → rdQ t n W (j + 1) = (0, 0, 2, mk, [t j - 96], kPR (fA A).1 (p + 1) r)) (h2 : isLo (bt t n j) = false → eF (rdQ t n W (j + 1)) = 1 ∧ eP (rdQ t n W (j + 1)) = j) : pX11_readsAsked M (nI ka) (nI 0) (fun M35 => bX11_readsPart_178 Q M35 (nI c)) := by
  have hTm : MT t n M := hT.kp k0 rfl rfl
  have hwm : MWr W M := hw.kp k0 rfl rfl rfl
  have hn := hT.2.2.1
  obtain ⟨w1, w2, w3, w4⟩ := wE_c (t := t) hj
  have hfa : ∀ M2, HA t n W M0 M2 → bX11_readsPart_178 Q M2 (nI c) := fun M2 hA => by
    have hP := rdQ_P t n W (n + 1) (Nat.le_refl _) hA.1
    have hP : (eF (fqR t n W) = 1 ∨ eF (fqR t n W) = 2) ∧ eP (fqR t n W) ≤ n := hP
    unfold bX11_readsPart_178
    refine mfine1 hA.2.2.1 hA.1 (by omega) ?_
    first | refine s0a ?_ | refine s0b ?_
    exact m231f hT hw hW qG qH hA
  refine mreadsAsked hTm hwm hW hj h4 h6 hm (fun _ => by omega) (fun q M2 k2 d1 d2 => ?_) (fun q M2 k2 d1 d2 => ?_) (fun q q2 M2 k2 d1 d2 d3 d4 => ?_)
  · have hl : isLo (bt t n j) = false := by
      by_cases z : isLo (bt t n j) = true
      · exfalso
        obtain ⟨x, ex, hx⟩ := isLo_s z
        by_cases zk : j < n
        · rw [bt_y zk] at ex
          have := wE_let zk (show isL (t j) = true by cases ex; exact hx)
          omega
        · rw [bt_n (by omega)] at ex; cases ex
      · exact isLo_f z
    obtain ⟨g1, g2⟩ := h2 hl
    by_cases zj : j = n
    · exact hfa M2 (HA_of (i := j + 1) (f := 1) (x := j) (by omega) (by omega) g1 g2 (k0.tr k2) d1 d2)
    · exact hfa M2 (HA_of (i := j + 1) (f := 1) (x := j) (by omega) (by omega) g1 g2 (k0.tr k2) d1 d2)
  · have hjn : j < n := by omega
    have hl := w3 j (Nat.le_refl _) (by omega)
    have e1 := h1 (by rw [bt_y hjn]; exact hl)
    obtain ⟨g1, g2⟩ := rdQ_nine (Or.inl rfl) e1 (by omega) (fun x hx => w3 (j + x) (by omega) (by omega))
    exact hfa M2 (HA_of (i := j + 8 + 1) (f := 1) (x := j + 8) (by omega) (by omega) g1 g2 (k0.tr k2) d1 d2)
  · have hjn : j < n := by omega
    have hl := w3 j (Nat.le_refl _) (by omega)
    have e1 := h1 (by rw [bt_y hjn]; exact hl)
    obtain ⟨g1, g2⟩ := rdQ_word (Or.inl rfl) e1 q q2 hj
    have hwl : (wdr t j (wE t j n - j)).length ≤ 8 := by rw [wdr_len]; omega
    generalize hl9 : wdr t j (wE t j n - j) = l at g1 d4 hwl
    generalize he9 : wE t j n = e at g1 g2 d3 w2 q q2
    have hTm2 : MT t n M2 := hTm.kp k2 rfl rfl
    have kk := k0.tr k2
    have hlenA : ∀ a : It, (A ++ [a]).length ≤ 4 * (p + 1) := fun a => by rw [List.length_append]; show A.length + 1 ≤ 4 * (p + 1); omega
    have hV2 : ∀ v, v ≤ 9 → AV W (A ++ [(owd W l, v, ka, 0)]) := fun v hv => AV_app hV owd_k ⟨hv, fun q => absurd (show ka = 3 from q) (by omega)⟩ (by show ka ≤ 3; omega) (by show 0 ≤ 6; omega)
    have l45 : nI c = (45 : Int32) ↔ c = 45 := eqI (b := 45) (by omega) (by omega)
    unfold bX11_readsPart_178
    refine mfine0 d1 ?_
    first | refine s1a ?_ | refine s1b ?_
    rw [l45]
    have hsame : ¬ (mk ≠ 45 ∧ bt t n e = some 94) → bX11_readsPart_231 Q M2 := fun hne => by
      refine m231 hT hw hW qG qH (by omega) (j := e) (A' := A ++ [(owd W l, 1, ka, 0)]) (r' := r) ⟨w2, ⟨by rw [g1]; rfl, Or.inr ⟨by rw [g1]; rfl, g2, by rw [g1]; exact hne⟩⟩, ?_, ?_, hlenA _, by omega, hr, hV2 1 (by omega), kk, d3, d1, d2.trans h7⟩ d4
      · rw [g1, fA_app]
        show (if mk = 45 then kRef (kPR (fA A).1 (p + 1) r) (owd W l) else kWant (kPR (fA A).1 (p + 1) r) (owd W l) 1 (mk == 43)) = kPR (itK (fA A) (owd W l, 1, ka, 0)).1 (p + 1) r
        unfold itK
        rcases hmk with ⟨z1, z2⟩ | ⟨z1, z2⟩ | ⟨z1, z2⟩
        · rw [if_neg (by omega), if_neg (show ¬ ka = 2 by omega), if_neg (show ¬ ka = 3 by omega)]
          show _ = kPR (kWant (fA A).1 (owd W l) 1 (ka == 1)) (p + 1) r
          rw [kPR_want, z1, z2]; rfl
        · rw [if_neg (by omega), if_neg (show ¬ ka = 2 by omega), if_neg (show ¬ ka = 3 by omega)]
          show _ = kPR (kWant (fA A).1 (owd W l) 1 (ka == 1)) (p + 1) r
          rw [kPR_want, z1, z2]; rfl
        · rw [if_pos z1, if_pos (show ka = 2 from z2)]
          exact (kPR_ref _ _ _ _).symm
      · intro x hx
        rw [fA_app] at hx
        unfold itK at hx
        by_cases z : ka = 2
        · rw [if_pos (show ka = 2 from z)] at hx; have := hlast x hx; omega
        · rw [if_neg (show ¬ ka = 2 from z), if_neg (show ¬ ka = 3 by omega)] at hx; have := hlast x hx; omega
    refine ⟨fun z => hsame (fun w => w.1 (hc45.mp z)), fun z => ?_⟩
    have hmk45 : mk ≠ 45 := fun w => z (hc45.mpr w)
    rw [d3]
    refine mbyteAt hTm2 (by omega) ?_
    have l94 : oI (bt t n e) = (94 : Int32) ↔ bt t n e = some 94 := oI_n (bt_lt hT.2.2.2) (k := 94) (by omega)
    rw [l94]
    refine ⟨fun z2 => hsame (fun w => z2 w.2), fun z2 => ?_⟩
    have hen : e < n := by
      by_cases y : e < n
      · exact y
      · rw [bt_n (by omega)] at z2; cases z2
    intro M47 e47
    have e47' : M47 = up1 M2 1204 0 0 (nI (e + 1)) := by rw [e47, d3]; exact congrArg (up1 M2 1204 0 0) (adI e 1)
    subst e47'
    have hT47 : MT t n (up1 M2 1204 0 0 (nI (e + 1))) := hTm2.kp (P := kAt) (Kp.rf.u1 rfl) rfl rfl
    have e33 : (up1 M2 1204 0 0 (nI (e + 1))).1 1233 0 0 = nI (A.length + 1) := by rw [up1_ne (by simp), d4.1, List.length_append]; rfl
    rw [e33]
    have es1 : nI (A.length + 1) - 1 = nI A.length := sbs A.length
    rw [es1]
    refine ⟨(vpI (by omega)).mpr (by omega), ?_⟩
    rw [tnI (by omega), tn1]
    have c1 := rdQ_caret (t := t) (n := n) (W := W) (k := e) (by rw [g1]; rfl) (by rw [g1]; rfl) (by rw [g1]; exact hmk45) z2
    rw [g1] at c1
    have c1 : rdQ t n W (e + 1) = (0, 0, 3, mk, l, kPR (fA A).1 (p + 1) r) := c1
    have c2 := rdQ_boost (t := t) (n := n) (W := W) (k := e + 1) (by rw [c1]; rfl) (by rw [c1]; rfl)
    rw [c1] at c2
    have c2 : rdQ t n W (e + 1 + 1) = (if isD ((bt t n (e + 1)).getD 0) = true then (0, 0, 0, 0, [], kWant (kPR (fA A).1 (p + 1) r) (owd W l) ((bt t n (e + 1)).getD 0 - 48) (mk == 43)) else flt (0, 0, 3, mk, l, kPR (fA A).1 (p + 1) r) 1 (e + 1)) := c2
    refine mdigit hT47 (by omega) up1_eq ((up1_ne (by simp)).trans d1) (fun ed => ?_) (fun ed => ?_)
    · rw [if_pos ed] at c2
      obtain ⟨x, ex, x1, x2⟩ := isD_s ed
      have hen2 : e + 1 < n := by
        by_cases y : e + 1 < n
        · exact y
        · rw [bt_n (by omega)] at ex; cases ex
      rw [ex] at c2 ⊢
      intro M51 e51
      subst e51
      have hm51 := MQi_set (v := x - 48) (d4.kp (M' := up1 (up1 M2 1204 0 0 (nI (e + 1))) 1204 0 0 (nI (e + 1 + 1))) (P := kAt) ((Kp.rf.u1 rfl).u1 rfl) rfl rfl rfl (fun _ => rfl))
      refine m231 hT hw hW qG qH (by omega) (j := e + 1 + 1) (A' := A ++ [(owd W l, x - 48, ka, 0)]) (r' := r) ⟨by omega, ⟨by rw [c2]; rfl, Or.inl (by rw [c2]; rfl)⟩, ?_, ?_, hlenA _, by omega, hr, hV2 (x - 48) (by omega), ((kk.u1 rfl).u1 rfl).u1 rfl, ?_, ?_, ?_⟩ hm51
      · rw [c2, clQ_0 (Or.inl rfl), fA_app]
        show kWant (kPR (fA A).1 (p + 1) r) (owd W l) (x - 48) (mk == 43) = kPR (itK (fA A) (owd W l, x - 48, ka, 0)).1 (p + 1) r
        unfold itK
        rw [if_neg (show ¬ ka = 2 by omega), if_neg (show ¬ ka = 3 by omega)]
        show _ = kPR (kWant (fA A).1 (owd W l) (x - 48) (ka == 1)) (p + 1) r
        rw [kPR_want]
        rcases hmk with ⟨z1, z2⟩ | ⟨z1, z2⟩ | ⟨z1, z2⟩
        · rw [z1, z2]; rfl
        · rw [z1, z2]; rfl
        · exact absurd z1 hmk45
      · intro y hy
        rw [fA_app] at hy
        unfold itK at hy
        rw [if_neg (show ¬ ka = 2 by omega), if_neg (show ¬ ka = 3 by omega)] at hy
        have := hlast y hy
        omega
      · rw [up1_ne (by simp), up1_eq]
      · rw [up1_ne (by simp), up1_ne (by simp), up1_ne (by simp)]; exact d1
      · rw [up1_ne (by simp), up1_ne (by simp), up1_ne (by simp)]; exact d2.trans h7
    · rw [if_neg ed] at c2
      intro M51 e51
      subst e51
      refine m231f hT hw hW qG qH (HA_of (i := e + 1 + 1) (f := 1) (x := e + 1) (by omega) (by omega) (by rw [c2]; rfl) (by rw [c2]; rfl) ((((kk.u1 rfl).u1 rfl).u1 rfl).u1 rfl) ?_ ?_)
      · rw [up1_ne (by simp), up1_ne (by simp), up1_eq]
      · rw [up1_ne (by simp), up1_eq]
theorem mpart {t : Nat → Nat} {n : Nat} {W : List Wd} {M0 : Mem} (hT : MT t n M0) (hw : MWr W M0) (hW : Kw W) {Q : Mem → Prop} {k p r : Nat} {A : List It} (qG : ∀ M' j A' r', k < j → HX t n W M0 j A' (p + 1) r' M' → MQi A' (p + 1) r' M' → Q M') (qH : ∀ M', HA t n W M0 M' → Q M') {M : Mem} (h : HX t n W M0 k A p r M) (hm : MQi A p r M) (hkn : k < n) (h32 : t k ≠ 32) : pX11_readsPart M Q := by
  obtain ⟨h1, h2, h3, h4, h5, h6, h7, h8, h9, h10, h11, h12⟩ := h
  have hn := hT.2.2.1
  have ht := hT.2.2.2
  have hTm : MT t n M := hT.kp h9 rfl rfl
  have hs := Cl0_s h2
  have hm0 : eM (clQ W (rdQ t n W k)) = 0 := clQ_m (h2.2.elim Or.inl (fun z => Or.inr z.1))
  rw [bt_y hkn] at hs
  generalize hsg : clQ W (rdQ t n W k) = sg at hs hm0 h3
  have hc := ht k
  generalize htk : t k = c at hs hc h32
  have eP0 : qP (eK sg) = p := by rw [h3]; rfl
  have eR0 : qR (eK sg) = r := by rw [h3]; rfl
  have l43 : nI c = (43 : Int32) ↔ c = 43 := eqI (b := 43) (by omega) (by omega)
  have l45 : nI c = (45 : Int32) ↔ c = 45 := eqI (b := 45) (by omega) (by omega)
  have l34 : nI c = (34 : Int32) ↔ c = 34 := eqI (b := 34) (by omega) (by omega)
  have l126 : nI c = (126 : Int32) ↔ c = 126 := eqI (b := 126) (by omega) (by omega)
  unfold btw at hs
  dsimp only at hs
  rw [if_neg h32, eP0, eR0] at hs
  have hflt : ∀ f : Nat, (f = 1 ∨ f = 2) → rdQ t n W (k + 1) = flt sg f k → ∀ x : Int32, x = nI f → pX11_wrong M x (M.1 1204 0 0) (fun M14 => bX11_readsPart_87 Q M14 (nI c)) := fun f hf hr x ex => by
    subst ex
    rw [h10]
    refine mwrong0 h11 ?_
    unfold bX11_readsPart_87
    refine mfine1 (f := f) (by rw [up1_ne (by simp), up1_eq]) (by omega) (by omega) ?_
    first | refine s0a ?_ | refine s0b ?_
    exact qH _ (HA_of (i := k + 1) (f := f) (x := k) (by omega) (by omega) (by rw [hr]; rfl) (by rw [hr]; rfl) ((h9.u1 rfl).u1 rfl) (by rw [up1_ne (by simp), up1_eq]) up1_eq)
  have h51 : ¬ (isL c = true ∨ c = 43 ∨ c = 45 ∨ c = 34 ∨ c = 126) ∨ (c = 126 ∧ r ≠ 0) → bX11_readsPart_51 Q M (nI c) := fun hz => by
    rw [if_pos hz] at hs
    unfold bX11_readsPart_51 bX11_readsPart_53
    exact ⟨fun z => absurd rfl z, fun _ => hflt 1 (Or.inl rfl) hs 1 rfl⟩
  have h47 : (isL c = true ∨ c = 43 ∨ c = 45 ∨ c = 34 ∨ c = 126) → ¬ (c = 126 ∧ r ≠ 0) → bX11_readsPart_47 Q M (nI c) := fun hcb hz => by
    rw [if_neg (show ¬ (¬ (isL c = true ∨ c = 43 ∨ c = 45 ∨ c = 34 ∨ c = 126) ∨ (c = 126 ∧ r ≠ 0)) from fun z => z.elim (fun z => z hcb) hz)] at hs
    unfold bX11_readsPart_47 bX11_readsPart_53
    refine ⟨fun _ => ?_, fun z => absurd z n10⟩
    have l6 : nI p = (6 : Int32) ↔ p = 6 := eqI (b := 6) (by omega) (by omega)
    rw [hm.2.1, l6]
    by_cases e6 : p = 6
    · rw [if_pos (by omega)] at hs
      exact ⟨fun z => absurd e6 z, fun _ => hflt 2 (Or.inr rfl) hs 2 rfl⟩
    · rw [if_neg (by omega)] at hs
      have hp5 : p ≤ 5 := by omega
      have hKp : kPar (eK sg) = kPR (fA A).1 (p + 1) r := by rw [h3]; rfl
      rw [hKp] at hs
      refine ⟨fun _ => ?_, fun z => absurd z e6⟩
      unfold bX11_readsPart_87
      refine mfine0 h11 ?_
      first | refine s1a ?_ | refine s1b ?_
      rw [l126, l34]
      have e1204 : ∀ N : Mem, N = up1 M 1204 0 0 (M.1 1204 0 0 + 1) → N = up1 M 1204 0 0 (nI (k + 1)) := fun N e => by rw [e, h10]; exact congrArg (up1 M 1204 0 0) (adI k 1)
      have hT2 : MT t n (up1 M 1204 0 0 (nI (k + 1))) := hTm.kp (P := kAt) (Kp.rf.u1 rfl) rfl rfl
      have hm2 : MQi A p r (up1 M 1204 0 0 (nI (k + 1))) := hm.kp (P := kAt) (Kp.rf.u1 rfl) rfl rfl rfl (fun _ => rfl)
      have f6 : (up1 M 1204 0 0 (nI (k + 1))).1 1206 0 0 = nI 0 := (up1_ne (by simp)).trans h11
      have f7 : (up1 M 1204 0 0 (nI (k + 1))).1 1207 0 0 = nO := (up1_ne (by simp)).trans h12
      refine ⟨fun z126 => ⟨fun z34 => ?_, fun z34 => ?_⟩, fun z126 => ?_⟩
      · rw [if_neg z126, if_neg z34] at hs
        refine misL (by omega) ?_
        by_cases hl : isL c = true
        · have hlr := isL_iff.mp hl
          rw [if_neg (by omega)] at hs
          rw [hl]
          first | refine s1a ?_ | refine s1b ?_
          unfold bX11_readsPart_152
          rw [l43, l45]
          refine ⟨fun _ => ⟨fun _ => ?_, fun z => absurd z (by omega)⟩, fun z => absurd z (by omega)⟩
          refine mword hT hw hW qG qH (j := k) (mk := 0) (ka := 0) (c := c) (Nat.le_refl _) h1 hp5 h7 (Or.inl ⟨rfl, rfl⟩) hc (by omega) h4 h5 h8 h9 h10 h11 h12 hm (fun _ => by rw [htk]; exact hs) (fun z => ?_)
          rw [bt_y hkn, htk] at z
          rw [show isLo (some c) = isL c from rfl, hl] at z
          cases z
        · have hsg2 : c = 43 ∨ c = 45 := by
            rcases hcb with z | z | z | z | z
            · exact absurd z hl
            · exact Or.inl z
            · exact Or.inr z
            · exact absurd z z34
            · exact absurd z z126
          rw [if_pos hsg2] at hs
          have ef : isL c = false := by cases q : isL c; rfl; exact absurd q hl
          rw [ef]
          first | refine s0a ?_ | refine s0b ?_
          intro M25 e25
          have e25' := e1204 M25 e25
          subst e25'
          have hsn := rdQ_sign (t := t) (n := n) (W := W) (k := k + 1) (by rw [hs]; rfl) (by rw [hs]; rfl)
          rw [hs] at hsn
          have hsn : rdQ t n W (k + 1 + 1) = (if isLo (bt t n (k + 1)) = true then (0, 0, 2, c, [(bt t n (k + 1)).getD 0 - 96], kPR (fA A).1 (p + 1) r) else flt (0, 0, 1, c, [], kPR (fA A).1 (p + 1) r) 1 (k + 1)) := hsn
          have hx1 : isLo (bt t n (k + 1)) = true → rdQ t n W (k + 1 + 1) = (0, 0, 2, c, [t (k + 1) - 96], kPR (fA A).1 (p + 1) r) := fun z => by
            rw [if_pos z] at hsn
            have hk1 : k + 1 < n := by
              by_cases y : k + 1 < n
              · exact y
              · rw [bt_n (by omega)] at z; cases z
            rw [hsn, bt_y hk1]; rfl
          have hx2 : isLo (bt t n (k + 1)) = false → eF (rdQ t n W (k + 1 + 1)) = 1 ∧ eP (rdQ t n W (k + 1 + 1)) = k + 1 := fun z => by
            rw [if_neg (by rw [z]; decide)] at hsn
            rw [hsn]; exact ⟨rfl, rfl⟩
          unfold bX11_readsPart_152
          rw [l43, l45]
          refine ⟨fun q43 => ⟨fun q45 => ?_, fun q45 => ?_⟩, fun q43 => ?_⟩
          · exact absurd hsg2 (by omega)
          · exact mword hT hw hW qG qH (j := k + 1) (mk := c) (ka := 2) (c := c) (by omega) (by omega) hp5 h7 (Or.inr (Or.inr ⟨q45, rfl⟩)) hc Iff.rfl h4 h5 h8 (h9.u1 rfl) up1_eq f6 f7 hm2 hx1 hx2
          · exact mword hT hw hW qG qH (j := k + 1) (mk := c) (ka := 1) (c := c) (by omega) (by omega) hp5 h7 (Or.inr (Or.inl ⟨q43, rfl⟩)) hc Iff.rfl h4 h5 h8 (h9.u1 rfl) up1_eq f6 f7 hm2 hx1 hx2
      · rw [if_neg (by omega), if_pos z34] at hs
        unfold pX11_readsPhrase
        intro M1 e1
        have e1' := e1204 M1 e1
        subst e1'
        refine mphr_loop hT hw hW hp5 h7 (i := k + 1) (A := A) ⟨by omega, ⟨by rw [hs]; rfl, Or.inl (by rw [hs]; rfl)⟩, ?_, ?_, by omega, by omega, h8, hm2, h9.u1 rfl, up1_eq, f6, f7⟩ (fun M' j A' hj hX hQi => ?_) (fun M' hA => ?_)
        · rw [hs, clQ_0 (Or.inr rfl)]
          exact Or.inl ⟨rfl, rfl, h4⟩
        · rw [hs, clQ_0 (Or.inr rfl)]
          exact pll_beg _
        · exact m231 hT hw hW qG qH (by omega) hX hQi
        · exact m231f hT hw hW qG qH hA
      · have hr0 : r = 0 := by
          by_cases y : r = 0
          · exact y
          · exact absurd ⟨z126, y⟩ hz
        rw [if_neg (by omega), if_neg (by omega), if_pos z126] at hs
        intro M28 e28
        have e28' := e1204 M28 e28
        subst e28'
        have c2 := rdQ_reach (t := t) (n := n) (W := W) (k := k + 1) (by rw [hs]; rfl) (by rw [hs]; rfl)
        rw [hs] at c2
        have c2 : rdQ t n W (k + 1 + 1) = (if isD ((bt t n (k + 1)).getD 0) = true then (0, 0, 0, 0, [], kPR (fA A).1 (p + 1) ((bt t n (k + 1)).getD 0 - 48)) else flt (0, 0, 4, 0, [], kPR (fA A).1 (p + 1) r) 1 (k + 1)) := c2
        refine mdigit hT2 (by omega) up1_eq f6 (fun ed => ?_) (fun ed => ?_)
        · rw [if_pos ed] at c2
          obtain ⟨x, ex, x1, x2⟩ := isD_s ed
          have hk1 : k + 1 < n := by
            by_cases y : k + 1 < n
            · exact y
            · rw [bt_n (by omega)] at ex; cases ex
          rw [ex] at c2 ⊢
          have c2 : rdQ t n W (k + 1 + 1) = (0, 0, 0, 0, [], kPR (fA A).1 (p + 1) (x - 48)) := c2
          intro M31 e31
          subst e31
          refine m231 hT hw hW qG qH (by omega) (j := k + 1 + 1) (A' := A) (r' := x - 48) ⟨by omega, ⟨by rw [c2]; rfl, Or.inl (by rw [c2]; rfl)⟩, ?_, fun y hy => by have := h4 y hy; omega, by omega, by omega, by omega, h8, ((h9.u1 rfl).u1 rfl).u1 rfl, ?_, ?_, ?_⟩ ⟨?_, ?_, by rw [up1_eq]; rfl, fun i hi => ?_⟩
          · rw [c2, clQ_0 (Or.inl rfl)]; rfl
          · rw [up1_ne (by simp), up1_eq]
          · rw [up1_ne (by simp), up1_ne (by simp)]; exact f6
          · rw [up1_ne (by simp), up1_ne (by simp)]; exact f7
          · rw [up1_ne (by simp), up1_ne (by simp)]; exact hm2.1
          · rw [up1_ne (by simp), up1_ne (by simp)]; exact hm2.2.1
          · have := hm2.2.2.2 i hi
            rw [up1_ne (by simp), up1_ne (by simp), up1_ne (by simp), up1_ne (by simp), up1_ne (by simp), up1_ne (by simp), up1_ne (by simp), up1_ne (by simp)]; exact this
        · rw [if_neg ed] at c2
          intro M31 e31
          subst e31
          refine m231f hT hw hW qG qH (HA_of (i := k + 1 + 1) (f := 1) (x := k + 1) (by omega) (by omega) (by rw [c2]; rfl) (by rw [c2]; rfl) ((((h9.u1 rfl).u1 rfl).u1 rfl).u1 rfl) ?_ ?_)
          · rw [up1_ne (by simp), up1_ne (by simp), up1_eq]
          · rw [up1_ne (by simp), up1_eq]
  unfold pX11_readsPart
  rw [h10]
  refine mbyteAt hTm (by omega) ?_
  rw [bt_y hkn, htk]
  refine misL (by omega) ?_
  show (_ ∧ _)
  have l0 : (¬ M.1 1235 0 0 = 0) ↔ r ≠ 0 := by
    have : nI r = (0 : Int32) ↔ r = 0 := eqI (b := 0) (by omega) (by omega)
    rw [hm.2.2.1, this]
  by_cases hl : isL c = true
  · rw [hl]
    have hlr := isL_iff.mp hl
    exact s1a (h47 (Or.inl hl) (fun z => by omega))
  · have ef : isL c = false := by cases q : isL c; rfl; exact absurd q hl
    rw [ef]
    refine s0a ?_
    show (nI c = 43 → _) ∧ (¬ nI c = 43 → (nI c = 45 → _) ∧ (¬ nI c = 45 → (nI c = 34 → _) ∧ (¬ nI c = 34 → (¬ nI c = 126 → _) ∧ (nI c = 126 → _))))
    rw [l43, l45, l34, l126]
    refine ⟨fun q => h47 (Or.inr (Or.inl q)) (by omega), fun q1 => ⟨fun q => h47 (Or.inr (Or.inr (Or.inl q))) (by omega), fun q2 => ⟨fun q => h47 (Or.inr (Or.inr (Or.inr (Or.inl q)))) (by omega), fun q3 => ⟨fun q4 => h51 (Or.inl (fun z => ?_)), fun q4 => ⟨fun z => h51 (Or.inr ⟨q4, l0.mp z⟩), fun z => h47 (Or.inr (Or.inr (Or.inr (Or.inr q4)))) (fun w => l0.mpr w.2 z)⟩⟩⟩⟩⟩
    rcases z with z | z | z | z | z
    · exact hl z
    · exact q1 z
    · exact q2 z
    · exact q3 z
    · exact q4 z
