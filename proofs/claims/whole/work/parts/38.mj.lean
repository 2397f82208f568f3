/-! PURE: the reference judges a document -/
theorem MK.ks {K : Qc} {M M' : Mem} (h : MK K M) (k : Kp kL M M') : MK K M' := h.kp (k.wk (fun c i hc => by simp [pMK, kL] at hc ⊢; omega))
def bh (lo : Option Nat) (i : Nat) : Nat := if lo = some (i + 1) then i + 2 else i + 1
theorem mphN {D : Dc} {K : Qc} {kn : Nat} {M : Mem} {lo : Option Nat} (h : MD D M) (hq : MK K M) (hD : DW D kn) (hK : QW K kn) (hN : M.1 1239 0 0 = oI lo) (hlo : ∀ i, lo = some i → i < 2147483648) {j d : Nat} (hd : d < D.length) (hj : j < fN K) {Q : Int32 → Mem → Prop} (hQ : Q (nI (phN D K j d)) M) : pX11_phrasesIn M (nI j) (nI d) Q := by
  have hl := hD.1
  have hn := hK.2.2.2.1
  have hdl := hD.dl d
  have hfl := hK.2.2.2.2.2.2.2.1 j hj
  have hkn := hD.2.1
  unfold pX11_phrasesIn
  refine lp_fn (g := fun n => (M, nI (ctF (stA D K j d) n), nI n)) (a := 0) (Nat.zero_le (dL D d + 1 - fL K j)) (fun p L _ hlt hL => ?_) (fun L => ?_)
  · unfold bX11_phrasesIn_5
    try simp (disch := omega) only [li, nO_n, adI, mlI, tnI, vpI, ltI, leI, eqI, forall_eq, leT, leF, ltT, ltF, eqT, eqF, true_and, and_true, false_implies, true_implies, forall_const, not_true_eq_false, not_false_eq_true, implies_true, h.len, hq.fl hj]
    refine lp_up (fun k s => s = (M, nI (ctF (stA D K j d) p), nI p, nI k) ∧ ∀ i, i < k → ¬ fW K j i ≠ some (dT D d (p + i))) (Nat.zero_le (fL K j)) ⟨rfl, lt_0⟩ ?_ ?_
    · rintro k s L2 - hk ⟨rfl, hi⟩ hL2
      have ht := (hD.2.2 d hd).2.2.2.2 (p + k) (by omega)
      have efw := hq.fw hj hk
      have etx := h.tx (d := d) (p := p + k) (by omega)
      have eo := oI_eq (n := dT D d (p + k)) (o := fW K j k) (by omega) (fun i e => by have := hK.2.2.2.2.2.2.2.2 j k i e; omega)
      unfold bX11_phrasesIn_26 bX11_phrasesIn_67 bX11_phrasesIn_86
      by_cases e : fW K j k = some (dT D d (p + k))
      · try simp (disch := omega) only [li, nO_n, adI, mlI, tnI, vpI, ltI, leI, eqI, forall_eq, leT, leF, ltT, ltF, eqT, eqF, true_and, and_true, false_implies, true_implies, forall_const, not_true_eq_false, not_false_eq_true, implies_true, hq.fl hj, etx, efw, eo, eq_true e]
        exact hL2 _ ⟨rfl, lt_s hi (fun q => q e)⟩
      · have es : stA D K j d p = false := by
          unfold stA
          rw [anyR.mpr ⟨k, hk, decide_eq_true e⟩]; rfl
        simp [ctF, es] at hL
        try simp (disch := omega) only [li, nO_n, adI, mlI, tnI, vpI, ltI, leI, eqI, forall_eq, leT, leF, ltT, ltF, eqT, eqF, true_and, and_true, false_implies, true_implies, forall_const, not_true_eq_false, not_false_eq_true, implies_true, hq.fl hj, etx, efw, eo, eq_false e]
        exact hL
    · rintro s L2 ⟨rfl, hi⟩
      have es : stA D K j d p = true := by
        unfold stA
        rw [anyF (fun i hi2 hp => hi i hi2 (of_decide_eq_true hp))]; rfl
      simp [ctF, es] at hL
      unfold bX11_phrasesIn_26 bX11_phrasesIn_67 bX11_phrasesIn_86
      try simp (disch := omega) only [li, nO_n, adI, mlI, tnI, vpI, ltI, leI, eqI, forall_eq, leT, leF, ltT, ltF, eqT, eqF, true_and, and_true, false_implies, true_implies, forall_const, not_true_eq_false, not_false_eq_true, implies_true, hq.fl hj]
      exact hL
  · unfold bX11_phrasesIn_5
    try simp (disch := omega) only [li, nO_n, adI, mlI, tnI, vpI, ltI, leI, eqI, forall_eq, leT, leF, ltT, ltF, eqT, eqF, true_and, and_true, false_implies, true_implies, forall_const, not_true_eq_false, not_false_eq_true, implies_true, h.len, hq.fl hj]
    exact hQ
theorem mwhy {D : Dc} {K : Qc} {kn : Nat} {M : Mem} {lo : Option Nat} (h : MD D M) (hq : MK K M) (hD : DW D kn) (hK : QW K kn) (hN : M.1 1239 0 0 = oI lo) (hlo : ∀ i, lo = some i → i < 2147483648) {d : Nat} (hd : d < D.length) {Q : Int32 → Mem → Prop} (hQ : Q (nI (why D K lo d)) M) : pX11_whyNot M (nI d) Q := by
  have hl := hD.1
  have hkn := hD.2.1
  have hs := hD.ds d
  have hn := hK.1
  unfold pX11_whyNot
  unfold why at hQ
  by_cases eg : dS D d = 1
  · rw [if_neg (by omega)] at hQ
    try simp (disch := omega) only [li, nO_n, adI, mlI, tnI, vpI, ltI, leI, eqI, forall_eq, leT, leF, ltT, ltF, eqT, eqF, true_and, and_true, false_implies, true_implies, forall_const, not_true_eq_false, not_false_eq_true, implies_true, h.st]
    have hc : ∀ n, n ≤ sN K → ctF (fun i => decide (lo ≠ some i ∧ cnt D (sW K i) d ≠ 0)) n ≤ 24 := fun n hn2 => Nat.le_trans (ctF_le _ _) (by omega)
    refine lp_fn (g := fun n => (M, nI (ctF (fun i => decide (lo ≠ some i ∧ cnt D (sW K i) d ≠ 0)) n), nI n)) (a := 0) (Nat.zero_le (sN K)) (fun n L _ hlt hL => ?_) (fun L => ?_)
    · have hw := (hK.2.2.2.2.1 n hlt).1
      have eo := oI_eq (n := n) (o := lo) (by omega) hlo
      have hcn := hD.cn (sW K n) d
      unfold bX11_whyNot_16 bX11_whyNot_56
      by_cases e : lo = some n
      · have e1 : decide (lo ≠ some n ∧ cnt D (sW K n) d ≠ 0) = false := decide_eq_false (fun q => q.1 e)
        simp only [ctF, e1] at hL
        try simp (disch := omega) only [li, nO_n, adI, mlI, tnI, vpI, ltI, leI, eqI, forall_eq, leT, leF, ltT, ltF, eqT, eqF, true_and, and_true, false_implies, true_implies, forall_const, not_true_eq_false, not_false_eq_true, implies_true, hq.n, hN, eo, eq_true e]
        exact hL
      · by_cases ec : cnt D (sW K n) d = 0
        · have e1 : decide (lo ≠ some n ∧ cnt D (sW K n) d ≠ 0) = false := decide_eq_false (fun q => q.2 ec)
          simp only [ctF, e1] at hL
          try simp (disch := omega) only [li, nO_n, adI, mlI, tnI, vpI, ltI, leI, eqI, forall_eq, leT, leF, ltT, ltF, eqT, eqF, true_and, and_true, false_implies, true_implies, forall_const, not_true_eq_false, not_false_eq_true, implies_true, hq.n, hN, eo, eq_false e, hq.w, h.cn]
          exact hL
        · have e1 : decide (lo ≠ some n ∧ cnt D (sW K n) d ≠ 0) = true := decide_eq_true ⟨e, ec⟩
          simp only [ctF, e1] at hL
          try simp (disch := omega) only [li, nO_n, adI, mlI, tnI, vpI, ltI, leI, eqI, forall_eq, leT, leF, ltT, ltF, eqT, eqF, true_and, and_true, false_implies, true_implies, forall_const, not_true_eq_false, not_false_eq_true, implies_true, hq.n, hN, eo, eq_false e, hq.w, h.cn]
          exact hL
    · have hc2 := hc (sN K) (Nat.le_refl _)
      unfold bX11_whyNot_16
      by_cases e0 : ctF (fun i => decide (lo ≠ some i ∧ cnt D (sW K i) d ≠ 0)) (sN K) = 0
      · have ea : someS D K lo d = false := anyF (fun i hi hp => by have := ctF_zero.mp e0 i hi; rw [this] at hp; cases hp)
        rw [ea, if_neg (by decide)] at hQ
        try simp (disch := omega) only [li, nO_n, adI, mlI, tnI, vpI, ltI, leI, eqI, forall_eq, leT, leF, ltT, ltF, eqT, eqF, true_and, and_true, false_implies, true_implies, forall_const, not_true_eq_false, not_false_eq_true, implies_true, hq.n]
        exact hQ
      · have ea : someS D K lo d = true := by
          cases q : someS D K lo d
          · exfalso
            apply e0
            rw [ctF_zero]
            intro k hk
            cases q2 : decide (lo ≠ some k ∧ cnt D (sW K k) d ≠ 0)
            · rfl
            · have q3 : someS D K lo d = true := anyR.mpr ⟨k, hk, q2⟩
              rw [q3] at q; cases q
          · rfl
        rw [ea, if_pos rfl] at hQ
        try simp (disch := omega) only [li, nO_n, adI, mlI, tnI, vpI, ltI, leI, eqI, forall_eq, leT, leF, ltT, ltF, eqT, eqF, true_and, and_true, false_implies, true_implies, forall_const, not_true_eq_false, not_false_eq_true, implies_true, hq.n]
        obtain ⟨ml, ml1, ml2, ml3, ml4⟩ := hq.mu
        refine lp_up (fun n s => s = (M, nI n) ∧ ∀ i, i < n → ¬ cnt D (ml.getD i 0) d = 0) (Nat.zero_le ml.length) ⟨rfl, lt_0⟩ ?_ ?_
        · rintro n s L2 - hlt ⟨rfl, hj⟩ hL2
          have hm : ml.getD n 0 ∈ ml := by rw [gd_in hlt]; exact List.getElem_mem hlt
          obtain ⟨i, hi, ei, em⟩ := (ml4 _).mp hm
          have hw := (hK.2.2.2.2.1 i hi).1
          have hcn := hD.cn (ml.getD n 0) d
          unfold bX11_whyNot_70
          by_cases ec : cnt D (ml.getD n 0) d = 0
          · have eb : missM D K d = true := by
              unfold missM
              rw [Bool.or_eq_true]
              exact Or.inl (anyR.mpr ⟨i, hi, decide_eq_true ⟨em, by rw [ei]; exact ec⟩⟩)
            rw [eb, if_pos rfl] at hQ
            try simp (disch := omega) only [li, nO_n, adI, mlI, tnI, vpI, ltI, leI, eqI, forall_eq, leT, leF, ltT, ltF, eqT, eqF, true_and, and_true, false_implies, true_implies, forall_const, not_true_eq_false, not_false_eq_true, implies_true, ml2, ml3 n hlt, h.cn]
            exact hQ
          · try simp (disch := omega) only [li, nO_n, adI, mlI, tnI, vpI, ltI, leI, eqI, forall_eq, leT, leF, ltT, ltF, eqT, eqF, true_and, and_true, false_implies, true_implies, forall_const, not_true_eq_false, not_false_eq_true, implies_true, ml2, ml3 n hlt, h.cn]
            exact hL2 _ ⟨rfl, lt_s hj ec⟩
        · rintro s L2 ⟨rfl, hj⟩
          have em0 : (List.range (sN K)).any (fun i => decide (sM K i = true ∧ cnt D (sW K i) d = 0)) = false := anyF (fun i hi hp => by
            have hp := of_decide_eq_true hp
            have hm := (ml4 (sW K i)).mpr ⟨i, hi, rfl, hp.1⟩
            obtain ⟨k, hk, ek⟩ := List.getElem_of_mem hm
            exact hj k hk (by rw [gd_in hk, ek]; exact hp.2))
          have eb : missM D K d = qU K := by unfold missM; rw [em0, Bool.false_or]
          unfold bX11_whyNot_70
          cases eu : qU K
          · rw [eb, eu, if_neg (by decide)] at hQ
            have e1 : b1 (qU K) = 0 := by rw [eu]; rfl
            try simp (disch := omega) only [li, nO_n, adI, mlI, tnI, vpI, ltI, leI, eqI, forall_eq, leT, leF, ltT, ltF, eqT, eqF, true_and, and_true, false_implies, true_implies, forall_const, not_true_eq_false, not_false_eq_true, implies_true, ml2, hq.u, e1]
            have hxn := hK.2.2.1
            refine lp_up (fun n s => s = (M, nI n) ∧ ∀ i, i < n → ¬ cnt D (xW K i) d ≠ 0) (Nat.zero_le (xN K)) ⟨rfl, lt_0⟩ ?_ ?_
            · rintro n s L3 - hlt ⟨rfl, hj2⟩ hL3
              have hw := hK.2.2.2.2.2.2.1 n hlt
              have hcn := hD.cn (xW K n) d
              unfold bX11_whyNot_113
              by_cases ec : cnt D (xW K n) d = 0
              · try simp (disch := omega) only [li, nO_n, adI, mlI, tnI, vpI, ltI, leI, eqI, forall_eq, leT, leF, ltT, ltF, eqT, eqF, true_and, and_true, false_implies, true_implies, forall_const, not_true_eq_false, not_false_eq_true, implies_true, hq.xn, hq.x, h.cn]
                exact hL3 _ ⟨rfl, lt_s hj2 (fun q => q ec)⟩
              · have es : hasX D K d = true := anyR.mpr ⟨n, hlt, decide_eq_true ec⟩
                rw [es, if_pos rfl] at hQ
                try simp (disch := omega) only [li, nO_n, adI, mlI, tnI, vpI, ltI, leI, eqI, forall_eq, leT, leF, ltT, ltF, eqT, eqF, true_and, and_true, false_implies, true_implies, forall_const, not_true_eq_false, not_false_eq_true, implies_true, hq.xn, hq.x, h.cn]
                exact hQ
            · rintro s L3 ⟨rfl, hj2⟩
              have es : hasX D K d = false := anyF (fun i hi hp => hj2 i hi (of_decide_eq_true hp))
              rw [es, if_neg (by decide)] at hQ
              unfold bX11_whyNot_113
              try simp (disch := omega) only [li, nO_n, adI, mlI, tnI, vpI, ltI, leI, eqI, forall_eq, leT, leF, ltT, ltF, eqT, eqF, true_and, and_true, false_implies, true_implies, forall_const, not_true_eq_false, not_false_eq_true, implies_true, hq.xn]
              have hfn := hK.2.2.2.1
              refine lp_up (fun n s => s = (M, nI n) ∧ ∀ i, i < n → ¬ phN D K i d = 0) (Nat.zero_le (fN K)) ⟨rfl, lt_0⟩ ?_ ?_
              · rintro n s L4 - hlt ⟨rfl, hj3⟩ hL4
                have hdl := hD.dl d
                have hb : phN D K n d ≤ 151 := Nat.le_trans (ctF_le _ _) (by omega)
                unfold bX11_whyNot_147
                try simp (disch := omega) only [li, nO_n, adI, mlI, tnI, vpI, ltI, leI, eqI, forall_eq, leT, leF, ltT, ltF, eqT, eqF, true_and, and_true, false_implies, true_implies, forall_const, not_true_eq_false, not_false_eq_true, implies_true, hq.fn]
                refine mphN h hq hD hK hN hlo hd hlt ?_
                by_cases ec : phN D K n d = 0
                · have es : missP D K d = true := anyR.mpr ⟨n, hlt, decide_eq_true ec⟩
                  rw [es, if_pos rfl] at hQ
                  try simp (disch := omega) only [li, nO_n, adI, mlI, tnI, vpI, ltI, leI, eqI, forall_eq, leT, leF, ltT, ltF, eqT, eqF, true_and, and_true, false_implies, true_implies, forall_const, not_true_eq_false, not_false_eq_true, implies_true]
                  exact hQ
                · try simp (disch := omega) only [li, nO_n, adI, mlI, tnI, vpI, ltI, leI, eqI, forall_eq, leT, leF, ltT, ltF, eqT, eqF, true_and, and_true, false_implies, true_implies, forall_const, not_true_eq_false, not_false_eq_true, implies_true]
                  exact hL4 _ ⟨rfl, lt_s hj3 ec⟩
              · rintro s L4 ⟨rfl, hj3⟩
                have es : missP D K d = false := anyF (fun i hi hp => hj3 i hi (of_decide_eq_true hp))
                rw [es, if_neg (by decide)] at hQ
                unfold bX11_whyNot_147
                try simp (disch := omega) only [li, nO_n, adI, mlI, tnI, vpI, ltI, leI, eqI, forall_eq, leT, leF, ltT, ltF, eqT, eqF, true_and, and_true, false_implies, true_implies, forall_const, not_true_eq_false, not_false_eq_true, implies_true, hq.fn]
                exact hQ
          · rw [eb, eu, if_pos rfl] at hQ
            have e1 : b1 (qU K) = 1 := by rw [eu]; rfl
            try simp (disch := omega) only [li, nO_n, adI, mlI, tnI, vpI, ltI, leI, eqI, forall_eq, leT, leF, ltT, ltF, eqT, eqF, true_and, and_true, false_implies, true_implies, forall_const, not_true_eq_false, not_false_eq_true, implies_true, ml2, hq.u, e1]
            exact hQ
  · rw [if_pos eg] at hQ
    try simp (disch := omega) only [li, nO_n, adI, mlI, tnI, vpI, ltI, leI, eqI, forall_eq, leT, leF, ltT, ltF, eqT, eqF, true_and, and_true, false_implies, true_implies, forall_const, not_true_eq_false, not_false_eq_true, implies_true, h.st]
    exact hQ
theorem mdist {D : Dc} {K : Qc} {kn : Nat} {M : Mem} {lo : Option Nat} (h : MD D M) (hq : MK K M) (hD : DW D kn) (hK : QW K kn) (hN : M.1 1239 0 0 = oI lo) (hlo : ∀ i, lo = some i → i < 2147483648) {a b d : Nat} (hd : d < D.length) (hab : a ≠ b) (ha : a < 255) (hb : b < 255) {Q : Int32 → Mem → Prop} (hQ : Q (nI (dist D a b d)) M) : pX11_distance M (nI a) (nI b) (nI d) Q := by
  have hl := hD.1
  have hdl := hD.dl d
  unfold pX11_distance
  have e0 : ((M, 150, (-1), (-1), 0) : Mem × Int32 × Int32 × Int32 × Int32) = (fun n => (M, nI (dst a b (dT D d) n).2.2, nI (dst a b (dT D d) n).1 - nI 1, nI (dst a b (dT D d) n).2.1 - nI 1, nI n)) 0 := rfl
  rw [e0]
  refine lp_fn (g := fun n => (M, nI (dst a b (dT D d) n).2.2, nI (dst a b (dT D d) n).1 - nI 1, nI (dst a b (dT D d) n).2.1 - nI 1, nI n)) (a := 0) (Nat.zero_le (dL D d)) (fun n L _ hlt hL => ?_) (fun L => ?_)
  · have ht := (hD.2.2 d hd).2.2.2.2 n hlt
    have hkn := hD.2.1
    have etx := h.tx hlt
    obtain ⟨g1, g2, g3, g4, g5⟩ := dst_b (dT D d) hab n
    have key : ∀ qa qb : Nat, qa ≤ n + 1 → qb ≤ n + 1 → (dst a b (dT D d) (n + 1)).1 = qa → (dst a b (dT D d) (n + 1)).2.1 = qb → (dst a b (dT D d) (n + 1)).2.2 = (if qa = 0 ∨ qb = 0 then (dst a b (dT D d) n).2.2 else min (dst a b (dT D d) n).2.2 (if qa < qb then qb - qa else qa - qb)) → bX11_distance_59 (nI a) (nI b) (nI d) Q L M (nI (dst a b (dT D d) n).2.2) (nI qa - nI 1) (nI qb - nI 1) (nI n) := by
      intro qa qb ha2 hb2 e1 e2 e3
      simp only [e1, e2, e3] at hL
      unfold bX11_distance_59 bX11_distance_98
      try simp (disch := omega) only [li, nO_n, s1O, adI, forall_eq]
      by_cases ea : qa = 0
      · rw [if_pos (Or.inl ea)] at hL
        try simp (disch := omega) only [li, nO_n, adI, mlI, tnI, vpI, ltI, leI, eqI, forall_eq, leT, leF, ltT, ltF, eqT, eqF, true_and, and_true, false_implies, true_implies, forall_const, not_true_eq_false, not_false_eq_true, implies_true]
        exact hL
      · by_cases eb : qb = 0
        · rw [if_pos (Or.inr eb)] at hL
          try simp (disch := omega) only [li, nO_n, adI, mlI, tnI, vpI, ltI, leI, eqI, forall_eq, leT, leF, ltT, ltF, eqT, eqF, true_and, and_true, false_implies, true_implies, forall_const, not_true_eq_false, not_false_eq_true, implies_true]
          exact hL
        · rw [if_neg (by omega)] at hL
          rw [sbI (show 1 ≤ qa by omega), sbI (show 1 ≤ qb by omega)] at hL ⊢
          by_cases hx : qa < qb
          · rw [if_pos hx] at hL
            try simp (disch := omega) only [li, nO_n, adI, mlI, tnI, vpI, ltI, leI, eqI, forall_eq, leT, leF, ltT, ltF, eqT, eqF, true_and, and_true, false_implies, true_implies, forall_const, not_true_eq_false, not_false_eq_true, implies_true, sbI]
            refine mless (by omega) (by omega) ?_
            have ex : qb - 1 - (qa - 1) = qb - qa := by omega
            rw [ex]
            exact hL
          · rw [if_neg hx] at hL
            by_cases hx2 : qa = qb
            · subst hx2
              try simp (disch := omega) only [li, nO_n, adI, mlI, tnI, vpI, ltI, leI, eqI, forall_eq, leT, leF, ltT, ltF, eqT, eqF, true_and, and_true, false_implies, true_implies, forall_const, not_true_eq_false, not_false_eq_true, implies_true, sbI]
              refine mless (by omega) (by omega) ?_
              have ex : qa - 1 - (qa - 1) = qa - qa := by omega
              rw [ex]
              exact hL
            · try simp (disch := omega) only [li, nO_n, adI, mlI, tnI, vpI, ltI, leI, eqI, forall_eq, leT, leF, ltT, ltF, eqT, eqF, true_and, and_true, false_implies, true_implies, forall_const, not_true_eq_false, not_false_eq_true, implies_true, sbI]
              refine mless (by omega) (by omega) ?_
              have ex : qa - 1 - (qb - 1) = qa - qb := by omega
              rw [ex]
              exact hL
    unfold bX11_distance_14 bX11_distance_42
    by_cases ea : dT D d n = a
    · have eb : dT D d n ≠ b := fun e => hab (ea.symm.trans e)
      have := key (n + 1) (dst a b (dT D d) n).2.1 (by omega) (by omega) (if_pos ea) (if_neg eb) (by show (if (if dT D d n = a then n + 1 else _) = 0 ∨ _ then _ else _) = _; simp only [if_pos ea, if_neg eb])
      rw [sbs] at this
      have hab2 : ¬ a = b := hab
      try simp (disch := omega) only [li, nO_n, adI, mlI, tnI, vpI, ltI, leI, eqI, forall_eq, leT, leF, ltT, ltF, eqT, eqF, true_and, and_true, false_implies, true_implies, forall_const, not_true_eq_false, not_false_eq_true, implies_true, h.len, etx, ea]
      exact this
    · by_cases eb : dT D d n = b
      · have := key (dst a b (dT D d) n).1 (n + 1) (by omega) (by omega) (if_neg ea) (if_pos eb) (by show (if (if dT D d n = a then n + 1 else _) = 0 ∨ _ then _ else _) = _; simp only [if_neg ea, if_pos eb])
        rw [sbs] at this
        try simp (disch := omega) only [li, nO_n, adI, mlI, tnI, vpI, ltI, leI, eqI, forall_eq, leT, leF, ltT, ltF, eqT, eqF, true_and, and_true, false_implies, true_implies, forall_const, not_true_eq_false, not_false_eq_true, implies_true, h.len, etx, eb]
        exact this
      · have := key (dst a b (dT D d) n).1 (dst a b (dT D d) n).2.1 (by omega) (by omega) (if_neg ea) (if_neg eb) (by show (if (if dT D d n = a then n + 1 else _) = 0 ∨ _ then _ else _) = _; simp only [if_neg ea, if_neg eb])
        try simp (disch := omega) only [li, nO_n, adI, mlI, tnI, vpI, ltI, leI, eqI, forall_eq, leT, leF, ltT, ltF, eqT, eqF, true_and, and_true, false_implies, true_implies, forall_const, not_true_eq_false, not_false_eq_true, implies_true, h.len, etx]
        exact this
  · unfold bX11_distance_14
    try simp (disch := omega) only [li, nO_n, adI, mlI, tnI, vpI, ltI, leI, eqI, forall_eq, leT, leF, ltT, ltF, eqT, eqF, true_and, and_true, false_implies, true_implies, forall_const, not_true_eq_false, not_false_eq_true, implies_true, h.len]
    exact hQ
theorem mbehind {D : Dc} {K : Qc} {kn : Nat} {M : Mem} {lo : Option Nat} (h : MD D M) (hq : MK K M) (hD : DW D kn) (hK : QW K kn) (hN : M.1 1239 0 0 = oI lo) (hlo : ∀ i, lo = some i → i < 2147483648) {i : Nat} (hi : i < 1000) {Q : Int32 → Mem → Prop} (hQ : Q (nI (bh lo i)) M) : pX11_behind M (nI i) Q := by
  have eo := oI_eq (n := i + 1) (o := lo) (by omega) hlo
  unfold pX11_behind
  unfold bh at hQ
  by_cases e : lo = some (i + 1)
  · rw [if_pos e] at hQ
    try simp (disch := omega) only [li, nO_n, adI, mlI, tnI, vpI, ltI, leI, eqI, forall_eq, leT, leF, ltT, ltF, eqT, eqF, true_and, and_true, false_implies, true_implies, forall_const, not_true_eq_false, not_false_eq_true, implies_true, hN, eo, eq_true e]
    exact hQ
  · rw [if_neg e] at hQ
    try simp (disch := omega) only [li, nO_n, adI, mlI, tnI, vpI, ltI, leI, eqI, forall_eq, leT, leF, ltT, ltF, eqT, eqF, true_and, and_true, false_implies, true_implies, forall_const, not_true_eq_false, not_false_eq_true, implies_true, hN, eo, eq_false e]
    exact hQ
theorem mnear {D : Dc} {K : Qc} {kn : Nat} {M : Mem} {lo : Option Nat} (h : MD D M) (hq : MK K M) (hD : DW D kn) (hK : QW K kn) (hN : M.1 1239 0 0 = oI lo) (hlo : ∀ i, lo = some i → i < 2147483648) {d : Nat} (hd : d < D.length) {Q : Int32 → Mem → Prop} (hQ : Q (nI (near D K lo d)) M) : pX11_nearOf M (nI d) Q := by
  have hn := hK.1
  have hr := hK.2.1
  have hkn := hD.2.1
  have hl := hD.1
  have eo := oI_eq (n := 0) (o := lo) (by omega) hlo
  have skip : ∀ m, lo = some m → nst D K lo d (m + 1) = nst D K lo d m := fun m e => by rw [nst, if_pos e]
  have loop : ∀ i0, lo ≠ some i0 → i0 ≤ 1 → (nst D K lo d (min (bh lo i0) (sN K))).1 = 0 → (bh lo i0 ≤ sN K → (nst D K lo d (bh lo i0)).2 = i0 + 1) → ∃ n, lp (fun L s => bX11_nearOf_15 (nI d) Q L s.1 s.2.1 s.2.2) n (M, nI 0, nI i0) := by
    intro i0 h0 h1 h2 h3
    refine lp_rule (fun s => ∃ i, s = (M, nI (nst D K lo d (min (bh lo i) (sN K))).1, nI i) ∧ lo ≠ some i ∧ i ≤ sN K + 1 ∧ (bh lo i ≤ sN K → (nst D K lo d (bh lo i)).2 = i + 1)) (fun s => sN K + 3 - tn s.2.2) ?_ ⟨i0, by rw [h2], h0, by omega, h3⟩
    rintro s ⟨i, rfl, hi0, hi1, hi3⟩ L hL
    dsimp only
    have hb : bh lo i = i + 1 ∨ (bh lo i = i + 2 ∧ lo = some (i + 1)) := by
      unfold bh
      by_cases q : lo = some (i + 1)
      · rw [if_pos q]; exact Or.inr ⟨rfl, q⟩
      · rw [if_neg q]; exact Or.inl rfl
    have hne : lo ≠ some (bh lo i) := by
      intro q
      unfold bh at q
      by_cases q2 : lo = some (i + 1)
      · rw [if_pos q2] at q
        rw [q2] at q
        cases q
      · rw [if_neg q2] at q; exact q2 q
    unfold bX11_nearOf_15 bX11_nearOf_78
    refine mbehind h hq hD hK hN hlo (by omega) ?_
    by_cases hlt : bh lo i < sN K
    · have hm2 := hi3 (by omega)
      have hii : i < sN K := by omega
      generalize hmm : bh lo i = m at hb hne hlt hm2 hi3
      have hmin : min m (sN K) = m := by omega
      rw [hmin]
      have hsw := hK.2.2.2.2.2.1 i m (by omega) hlt
      have hw1 := (hK.2.2.2.2.1 i hii).1
      have hw2 := (hK.2.2.2.2.1 m hlt).1
      have hdb := (dst_b (dT D d) hsw (dL D d)).2.2
      have e1 : nst D K lo d (m + 1) = ((nst D K lo d m).1 + 50 * (qR K + 1 - dist D (sW K i) (sW K m) d), m + 1) := by
        rw [nst, if_neg hne, if_neg (by omega), hm2]; rfl
      have hnext : (nst D K lo d (min (bh lo m) (sN K))).1 = (nst D K lo d (m + 1)).1 ∧ (bh lo m ≤ sN K → (nst D K lo d (bh lo m)).2 = m + 1) := by
        by_cases q : lo = some (m + 1)
        · have eb : bh lo m = m + 2 := by unfold bh; rw [if_pos q]
          rw [eb]
          by_cases q2 : m + 2 ≤ sN K
          · rw [show min (m + 2) (sN K) = m + 1 + 1 by omega, skip (m + 1) q]
            exact ⟨rfl, fun _ => by rw [e1]⟩
          · rw [show min (m + 2) (sN K) = m + 1 by omega]
            exact ⟨rfl, fun q3 => absurd q3 q2⟩
        · have eb : bh lo m = m + 1 := by unfold bh; rw [if_neg q]
          rw [eb, show min (m + 1) (sN K) = m + 1 by omega]
          exact ⟨rfl, fun _ => by rw [e1]⟩
      have hdd : dist D (sW K i) (sW K m) d ≤ 150 := hdb.2.1
      have hfin : ∀ z : Nat, z = (nst D K lo d (m + 1)).1 → L (M, nI z, nI m) := fun z hz => by
        refine hL _ ⟨m, by rw [hnext.1, hz], hne, by omega, hnext.2⟩ ?_
        show sN K + 3 - tn (nI m) < sN K + 3 - tn (nI i)
        rw [tnI (by omega), tnI (by omega)]
        omega
      try simp (disch := omega) only [li, nO_n, adI, mlI, tnI, vpI, ltI, leI, eqI, forall_eq, leT, leF, ltT, ltF, eqT, eqF, true_and, and_true, false_implies, true_implies, forall_const, not_true_eq_false, not_false_eq_true, implies_true, hq.n]
      refine mbehind h hq hD hK hN hlo (by omega) ?_
      rw [hmm]
      try simp (disch := omega) only [li, nO_n, adI, mlI, tnI, vpI, ltI, leI, eqI, forall_eq, leT, leF, ltT, ltF, eqT, eqF, true_and, and_true, false_implies, true_implies, forall_const, not_true_eq_false, not_false_eq_true, implies_true, hq.w]
      refine mdist h hq hD hK hN hlo hd hsw (by omega) (by omega) ?_
      by_cases hg : qR K < dist D (sW K i) (sW K m) d
      · try simp (disch := omega) only [li, nO_n, adI, mlI, tnI, vpI, ltI, leI, eqI, forall_eq, leT, leF, ltT, ltF, eqT, eqF, true_and, and_true, false_implies, true_implies, forall_const, not_true_eq_false, not_false_eq_true, implies_true, hq.r]
        refine mbehind h hq hD hK hN hlo (by omega) ?_
        rw [hmm]
        refine hfin _ ?_
        rw [e1]
        show _ = (nst D K lo d m).1 + 50 * (qR K + 1 - dist D (sW K i) (sW K m) d)
        rw [show qR K + 1 - dist D (sW K i) (sW K m) d = 0 by omega]
      · try simp (disch := omega) only [li, nO_n, adI, mlI, tnI, vpI, ltI, leI, eqI, forall_eq, leT, leF, ltT, ltF, eqT, eqF, true_and, and_true, false_implies, true_implies, forall_const, not_true_eq_false, not_false_eq_true, implies_true, hq.r, sbI]
        refine mbehind h hq hD hK hN hlo (by omega) ?_
        rw [hmm]
        refine hfin _ ?_
        rw [e1]
    · rw [show min (bh lo i) (sN K) = sN K by omega]
      have hbb : bh lo i < 100 := by omega
      try simp (disch := omega) only [li, nO_n, adI, mlI, tnI, vpI, ltI, leI, eqI, forall_eq, leT, leF, ltT, ltF, eqT, eqF, true_and, and_true, false_implies, true_implies, forall_const, not_true_eq_false, not_false_eq_true, implies_true, hq.n]
      exact hQ
  unfold pX11_nearOf
  by_cases e : lo = some 0
  · have eo2 : oI lo = nI 0 := (eo.mpr e).symm
    have eb : bh lo 1 = 2 := by unfold bh; rw [if_neg (by rw [e]; intro q; cases q)]
    have s1 : nst D K lo d 1 = nst D K lo d 0 := skip 0 e
    have s2 : nst D K lo d 2 = (0, 2) := by
      rw [nst, if_neg (by rw [e]; intro q; cases q), s1]; rfl
    have := loop 1 (by rw [e]; intro q; cases q) (by omega) (by
      rw [eb]
      rcases (show min 2 (sN K) = 0 ∨ min 2 (sN K) = 1 ∨ min 2 (sN K) = 2 by omega) with q | q | q
      · rw [q]; rfl
      · rw [q, s1]; rfl
      · rw [q, s2]) (fun _ => by rw [eb, s2])
    try simp (disch := omega) only [li, nO_n, adI, mlI, tnI, vpI, ltI, leI, eqI, forall_eq, leT, leF, ltT, ltF, eqT, eqF, true_and, and_true, false_implies, true_implies, forall_const, not_true_eq_false, not_false_eq_true, implies_true, hN, eo2]
    exact this
  · have eo2 : ¬ oI lo = nI 0 := fun q => e (eo.mp q.symm)
    have s1 : nst D K lo d 1 = (0, 1) := by rw [nst, if_neg e]; rfl
    have s2 : lo = some 1 → nst D K lo d 2 = (0, 1) := fun q => by rw [skip 1 q, s1]
    have := loop 0 e (by omega) (by
      unfold bh
      by_cases q1 : lo = some (0 + 1)
      · rw [if_pos q1]
        rcases (show min (0 + 2) (sN K) = 0 ∨ min (0 + 2) (sN K) = 1 ∨ min (0 + 2) (sN K) = 2 by omega) with q | q | q
        · rw [q]; rfl
        · rw [q, s1]
        · rw [q, s2 q1]
      · rw [if_neg q1]
        rcases (show min (0 + 1) (sN K) = 0 ∨ min (0 + 1) (sN K) = 1 by omega) with q | q
        · rw [q]; rfl
        · rw [q, s1]) (fun _ => by
      unfold bh
      by_cases q1 : lo = some (0 + 1)
      · rw [if_pos q1, show 0 + 2 = 2 from rfl, s2 q1]
      · rw [if_neg q1, show 0 + 1 = 1 from rfl, s1])
    try simp (disch := omega) only [li, nO_n, adI, mlI, tnI, vpI, ltI, leI, eqI, forall_eq, leT, leF, ltT, ltF, eqT, eqF, true_and, and_true, false_implies, true_implies, forall_const, not_true_eq_false, not_false_eq_true, implies_true, hN, eq_false eo2]
    exact this
theorem mpts {D : Dc} {K : Qc} {kn : Nat} {M : Mem} {lo : Option Nat} (h : MD D M) (hq : MK K M) (hD : DW D kn) (hK : QW K kn) (hN : M.1 1239 0 0 = oI lo) (hlo : ∀ i, lo = some i → i < 2147483648) {d i : Nat} (hd : d < D.length) (hi : i < sN K) {Q : Int32 → Mem → Prop} (hQ : ∀ M', Kp kL M M' → Q (nI (pts D K i d)) M') : pX11_pointsOf M (nI i) (nI d) Q := by
  have hn := hK.1
  have hl := hD.1
  have hkn := hD.2.1
  have hw := (hK.2.2.2.2.1 i hi).1
  have hcn := hD.cn (sW K i) d
  unfold pX11_pointsOf
  by_cases e : cnt D (sW K i) d = 0
  · have := hQ M Kp.rf
    unfold pts at this
    rw [gain_zero e, Nat.mul_zero] at this
    try simp (disch := omega) only [li, nO_n, adI, mlI, tnI, vpI, ltI, leI, eqI, forall_eq, leT, leF, ltT, ltF, eqT, eqF, true_and, and_true, false_implies, true_implies, forall_const, not_true_eq_false, not_false_eq_true, implies_true, hq.w, h.cn]
    exact this
  · try simp (disch := omega) only [li, nO_n, adI, mlI, tnI, vpI, ltI, leI, eqI, forall_eq, leT, leF, ltT, ltF, eqT, eqF, true_and, and_true, false_implies, true_implies, forall_const, not_true_eq_false, not_false_eq_true, implies_true, hq.w, h.cn]
    refine mrare h hD (by omega) (fun M' k l => ?_)
    have h2 := h.ks hD k
    have hq2 := hq.ks k
    rw [hq2.w hi, hq.b hi, mlI]
    refine mgain h2 hD (by omega) (by omega) ?_
    rw [mlI]
    exact hQ M' k
theorem mtotal {D : Dc} {K : Qc} {kn : Nat} {M : Mem} {lo : Option Nat} (h : MD D M) (hq : MK K M) (hD : DW D kn) (hK : QW K kn) (hN : M.1 1239 0 0 = oI lo) (hlo : ∀ i, lo = some i → i < 2147483648) {d : Nat} (hd : d < D.length) {Q : Int32 → Mem → Prop} (hQ : ∀ M', Kp kL M M' → Q (nI (total D K lo d)) M') : pX11_scoreOf M (nI d) Q := by
  have hn := hK.1
  unfold pX11_scoreOf
  refine mnear h hq hD hK hN hlo hd ?_
  refine lp_up (fun n s => s.2.1 = nI (near D K lo d + ptS D K lo d n) ∧ s.2.2 = nI n ∧ Kp kL M s.1) (Nat.zero_le (sN K)) ⟨rfl, rfl, Kp.rf⟩ ?_ ?_
  · rintro n ⟨m, y2, y3⟩ L - hlt ⟨rfl, rfl, hk⟩ hL
    have hk : Kp kL M m := hk
    have h2 : MD D m := h.ks hD hk
    have hq2 : MK K m := hq.ks hk
    have hN2 : m.1 1239 0 0 = oI lo := (hk.g rfl 0).trans hN
    have eo := oI_eq (n := n) (o := lo) (by omega) hlo
    unfold bX11_scoreOf_8 bX11_scoreOf_37
    by_cases e : lo = some n
    · have e1 : ptS D K lo d (n + 1) = ptS D K lo d n := by unfold ptS; rw [smF, if_pos e]; rfl
      try simp (disch := omega) only [li, nO_n, adI, mlI, tnI, vpI, ltI, leI, eqI, forall_eq, leT, leF, ltT, ltF, eqT, eqF, true_and, and_true, false_implies, true_implies, forall_const, not_true_eq_false, not_false_eq_true, implies_true, hq2.n, hN2, eo, eq_true e]
      exact hL _ ⟨by rw [e1]; rfl, rfl, hk⟩
    · have e1 : ptS D K lo d (n + 1) = ptS D K lo d n + pts D K n d := by unfold ptS; rw [smF, if_neg e]
      try simp (disch := omega) only [li, nO_n, adI, mlI, tnI, vpI, ltI, leI, eqI, forall_eq, leT, leF, ltT, ltF, eqT, eqF, true_and, and_true, false_implies, true_implies, forall_const, not_true_eq_false, not_false_eq_true, implies_true, hq2.n, hN2, eo, eq_false e]
      refine mpts h2 hq2 hD hK hN2 hlo hd hlt (fun M' k => ?_)
      try simp (disch := omega) only [li, nO_n, adI, mlI, tnI, vpI, ltI, leI, eqI, forall_eq, leT, leF, ltT, ltF, eqT, eqF, true_and, and_true, false_implies, true_implies, forall_const, not_true_eq_false, not_false_eq_true, implies_true]
      exact hL _ ⟨by rw [e1, ← Nat.add_assoc], rfl, hk.tr k⟩
  · rintro ⟨m, y2, y3⟩ L ⟨rfl, rfl, hk⟩
    have hk : Kp kL M m := hk
    have hq2 : MK K m := hq.ks hk
    unfold bX11_scoreOf_8
    dsimp only
    try simp (disch := omega) only [li, nO_n, adI, mlI, tnI, vpI, ltI, leI, eqI, forall_eq, leT, leF, ltT, ltF, eqT, eqF, true_and, and_true, false_implies, true_implies, forall_const, not_true_eq_false, not_false_eq_true, implies_true, hq2.n]
    exact hQ m hk
