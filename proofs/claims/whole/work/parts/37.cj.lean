/-! PURE: the class judges a document -/
theorem chasWord {D : Dc} {kn : Nat} {M : Mem} (h : CD D M) (hD : DW D kn) {w d : Nat} (hw : w < 255) (hd : d < 64) {Q : Int32 → Mem → Prop} (hQ : Q (nI (if cnt D w d = 0 then 0 else 1)) M) : pX3_hasWord M (nI d) (nI w) Q := by
  have h1 := hD.cn w d
  unfold pX3_hasWord
  by_cases e : cnt D w d = 0
  · rw [if_pos e] at hQ
    try simp (disch := omega) only [li, nO_n, adI, mlI, tnI, vpI, ltI, leI, eqI, forall_eq, leT, leF, ltT, ltF, eqT, eqF, true_and, and_true, false_implies, true_implies, forall_const, not_true_eq_false, not_false_eq_true, implies_true, h.cn]
    exact hQ
  · rw [if_neg e] at hQ
    try simp (disch := omega) only [li, nO_n, adI, mlI, tnI, vpI, ltI, leI, eqI, forall_eq, leT, leF, ltT, ltF, eqT, eqF, true_and, and_true, false_implies, true_implies, forall_const, not_true_eq_false, not_false_eq_true, implies_true, h.cn]
    exact hQ
theorem chasScored {K : Qc} {i : Nat} {M : Mem} (hq : CK K i M) (hi : i = 0) (hn : sN K ≤ 24) (x : Int32) {Q : Int32 → Mem → Prop} (hy : ∀ k, k < sN K → x = nI k → Q (nI 1) M) (hx : (∀ k, k < sN K → ¬ x = nI k) → Q (nI 0) M) : pX6_hasScored M x Q := by
  subst hi
  unfold pX6_hasScored
  simp only [li, hq.n]
  refine ⟨fun c => hx (fun d hd e => by subst e; exact lt0 d (by omega) c), fun c => ⟨fun c2 => hx (fun d hd e => by subst e; rw [leI (by omega) (by omega)] at c2; omega), fun c2 => ?_⟩⟩
  rcases ix3 x (sN K) (by omega) with c3 | c3 | ⟨d, hd, rfl⟩
  · exact absurd c3 c
  · exact absurd c3 c2
  · exact hy d hd rfl
theorem csomeS {D : Dc} {K : Qc} {kn : Nat} {M : Mem} (h : CD D M) (hq : CK K 0 M) (hD : DW D kn) (hK : QW K kn) {d : Nat} (hd : d < 64) {lo : Option Nat} (hlo : ∀ i, lo = some i → i < 2147483648) {Q : Int32 → Mem → Prop} (hQ : Q (nI (b1 (someS D K lo d))) M) : pX3_hasSomeScored M (nI d) (oI lo) Q := by
  have hn := hK.1
  have hkn := hD.2.1
  unfold pX3_hasSomeScored
  refine lp_up (fun n s => s = (M, nI n) ∧ ∀ i, i < n → ¬ (lo ≠ some i ∧ cnt D (sW K i) d ≠ 0)) (Nat.zero_le (sN K)) ⟨rfl, lt_0⟩ ?_ ?_
  · rintro n s L - hlt ⟨rfl, hj⟩ hL
    have hw := (hK.2.2.2.2.1 n hlt).1
    have eo := oI_eq (n := n) (o := lo) (by omega) hlo
    unfold bX3_hasSomeScored_2 bX3_hasSomeScored_37
    by_cases e : lo = some n
    · try simp (disch := omega) only [li, nO_n, adI, mlI, tnI, vpI, ltI, leI, eqI, forall_eq, leT, leF, ltT, ltF, eqT, eqF, true_and, and_true, false_implies, true_implies, forall_const, not_true_eq_false, not_false_eq_true, implies_true, hq.n, eo, eq_true e]
      exact hL _ ⟨rfl, lt_s hj (fun q => q.1 e)⟩
    · try simp (disch := omega) only [li, nO_n, adI, mlI, tnI, vpI, ltI, leI, eqI, forall_eq, leT, leF, ltT, ltF, eqT, eqF, true_and, and_true, false_implies, true_implies, forall_const, not_true_eq_false, not_false_eq_true, implies_true, hq.n, eo, eq_false e, hq.w]
      refine chasWord h hD (by omega) hd ?_
      by_cases ec : cnt D (sW K n) d = 0
      · rw [if_pos ec]
        try simp (disch := omega) only [li, nO_n, adI, mlI, tnI, vpI, ltI, leI, eqI, forall_eq, leT, leF, ltT, ltF, eqT, eqF, true_and, and_true, false_implies, true_implies, forall_const, not_true_eq_false, not_false_eq_true, implies_true]
        exact hL _ ⟨rfl, lt_s hj (fun q => q.2 ec)⟩
      · rw [if_neg ec]
        try simp (disch := omega) only [li, nO_n, adI, mlI, tnI, vpI, ltI, leI, eqI, forall_eq, leT, leF, ltT, ltF, eqT, eqF, true_and, and_true, false_implies, true_implies, forall_const, not_true_eq_false, not_false_eq_true, implies_true]
        have es : someS D K lo d = true := anyR.mpr ⟨n, hlt, decide_eq_true ⟨e, ec⟩⟩
        rw [es] at hQ
        exact hQ
  · rintro s L ⟨rfl, hj⟩
    have es : someS D K lo d = false := anyF (fun i hi hp => hj i hi (of_decide_eq_true hp))
    rw [es] at hQ
    unfold bX3_hasSomeScored_2
    try simp (disch := omega) only [li, nO_n, adI, mlI, tnI, vpI, ltI, leI, eqI, forall_eq, leT, leF, ltT, ltF, eqT, eqF, true_and, and_true, false_implies, true_implies, forall_const, not_true_eq_false, not_false_eq_true, implies_true, hq.n]
    exact hQ
theorem chasAll {D : Dc} {K : Qc} {kn : Nat} {M : Mem} (h : CD D M) (hq : CK K 0 M) (hD : DW D kn) (hK : QW K kn) {d : Nat} (hd : d < 64) {Q : Int32 → Mem → Prop} (hy : 0 < sN K → (∀ i, i < sN K → cnt D (sW K i) d ≠ 0) → Q (nI 1) M) (hx : (sN K = 0 ∨ ∃ i, i < sN K ∧ cnt D (sW K i) d = 0) → Q (nI 0) M) : pX3_hasAllScored M (nI d) Q := by
  have hn := hK.1
  have hkn := hD.2.1
  unfold pX3_hasAllScored
  refine lp_up (fun n s => s = (M, nI n) ∧ ∀ i, i < n → cnt D (sW K i) d ≠ 0) (Nat.zero_le (sN K)) ⟨rfl, lt_0⟩ ?_ ?_
  · rintro n s L - hlt ⟨rfl, hj⟩ hL
    have hw := (hK.2.2.2.2.1 n hlt).1
    unfold bX3_hasAllScored_2
    try simp (disch := omega) only [li, nO_n, adI, mlI, tnI, vpI, ltI, leI, eqI, forall_eq, leT, leF, ltT, ltF, eqT, eqF, true_and, and_true, false_implies, true_implies, forall_const, not_true_eq_false, not_false_eq_true, implies_true, hq.n, hq.w]
    refine chasWord h hD (by omega) hd ?_
    by_cases ec : cnt D (sW K n) d = 0
    · rw [if_pos ec]
      try simp (disch := omega) only [li, nO_n, adI, mlI, tnI, vpI, ltI, leI, eqI, forall_eq, leT, leF, ltT, ltF, eqT, eqF, true_and, and_true, false_implies, true_implies, forall_const, not_true_eq_false, not_false_eq_true, implies_true]
      exact hx (Or.inr ⟨n, hlt, ec⟩)
    · rw [if_neg ec]
      try simp (disch := omega) only [li, nO_n, adI, mlI, tnI, vpI, ltI, leI, eqI, forall_eq, leT, leF, ltT, ltF, eqT, eqF, true_and, and_true, false_implies, true_implies, forall_const, not_true_eq_false, not_false_eq_true, implies_true]
      exact hL _ ⟨rfl, lt_s hj ec⟩
  · rintro s L ⟨rfl, hj⟩
    unfold bX3_hasAllScored_2
    by_cases e : sN K = 0
    · have := hx (Or.inl e)
      try simp (disch := omega) only [li, nO_n, adI, mlI, tnI, vpI, ltI, leI, eqI, forall_eq, leT, leF, ltT, ltF, eqT, eqF, true_and, and_true, false_implies, true_implies, forall_const, not_true_eq_false, not_false_eq_true, implies_true, hq.n]
      exact this
    · have := hy (by omega) hj
      try simp (disch := omega) only [li, nO_n, adI, mlI, tnI, vpI, ltI, leI, eqI, forall_eq, leT, leF, ltT, ltF, eqT, eqF, true_and, and_true, false_implies, true_implies, forall_const, not_true_eq_false, not_false_eq_true, implies_true, hq.n]
      exact this
theorem bz1 {D : Dc} {K : Qc} {kn : Nat} {M : Mem} (h : CD D M) (hq : CK K 0 M) (hD : DW D kn) (hK : QW K kn) (b : Bool) : bz (nI (b1 b)) := by cases b; exact Or.inl rfl; exact Or.inr rfl
theorem cmissM {D : Dc} {K : Qc} {kn : Nat} {M : Mem} (h : CD D M) (hq : CK K 0 M) (hD : DW D kn) (hK : QW K kn) {d : Nat} (hd : d < 64) {Q : Int32 → Mem → Prop} (hQ : Q (nI (b1 (missM D K d))) M) : pX3_missesMust M (nI d) Q := by
  have hn := hK.1
  have hkn := hD.2.1
  unfold pX3_missesMust
  refine lp_up (fun n s => s = (M, nI n) ∧ ∀ i, i < n → ¬ (sM K i = true ∧ cnt D (sW K i) d = 0)) (Nat.zero_le (sN K)) ⟨rfl, lt_0⟩ ?_ ?_
  · rintro n s L - hlt ⟨rfl, hj⟩ hL
    have hw := (hK.2.2.2.2.1 n hlt).1
    unfold bX3_missesMust_2 bX3_missesMust_44
    by_cases e : sM K n = true
    · have e2 : b1 (sM K n) = 1 := by unfold b1; rw [if_pos e]
      try simp (disch := omega) only [li, nO_n, adI, mlI, tnI, vpI, ltI, leI, eqI, forall_eq, leT, leF, ltT, ltF, eqT, eqF, true_and, and_true, false_implies, true_implies, forall_const, not_true_eq_false, not_false_eq_true, implies_true, hq.n, hq.w, hq.m, e2]
      refine chasWord h hD (by omega) hd ?_
      by_cases ec : cnt D (sW K n) d = 0
      · rw [if_pos ec]
        try simp (disch := omega) only [li, nO_n, adI, mlI, tnI, vpI, ltI, leI, eqI, forall_eq, leT, leF, ltT, ltF, eqT, eqF, true_and, and_true, false_implies, true_implies, forall_const, not_true_eq_false, not_false_eq_true, implies_true]
        have es : missM D K d = true := by unfold missM; rw [Bool.or_eq_true]; exact Or.inl (anyR.mpr ⟨n, hlt, decide_eq_true ⟨e, ec⟩⟩)
        rw [es] at hQ
        exact hQ
      · rw [if_neg ec]
        try simp (disch := omega) only [li, nO_n, adI, mlI, tnI, vpI, ltI, leI, eqI, forall_eq, leT, leF, ltT, ltF, eqT, eqF, true_and, and_true, false_implies, true_implies, forall_const, not_true_eq_false, not_false_eq_true, implies_true]
        exact hL _ ⟨rfl, lt_s hj (fun q => ec q.2)⟩
    · have e2 : b1 (sM K n) = 0 := by unfold b1; rw [if_neg e]
      try simp (disch := omega) only [li, nO_n, adI, mlI, tnI, vpI, ltI, leI, eqI, forall_eq, leT, leF, ltT, ltF, eqT, eqF, true_and, and_true, false_implies, true_implies, forall_const, not_true_eq_false, not_false_eq_true, implies_true, hq.n, hq.w, hq.m, e2]
      exact hL _ ⟨rfl, lt_s hj (fun q => e q.1)⟩
  · rintro s L ⟨rfl, hj⟩
    have es : missM D K d = qU K := by
      unfold missM
      rw [anyF (fun i hi hp => hj i hi (of_decide_eq_true hp)), Bool.false_or]
    rw [es] at hQ
    unfold bX3_missesMust_2
    try simp (disch := omega) only [li, nO_n, adI, mlI, tnI, vpI, ltI, leI, eqI, forall_eq, leT, leF, ltT, ltF, eqT, eqF, true_and, and_true, false_implies, true_implies, forall_const, not_true_eq_false, not_false_eq_true, implies_true, hq.n, hq.u]
    exact ⟨bz1 h hq hD hK _, hQ⟩
theorem chasX {D : Dc} {K : Qc} {kn : Nat} {M : Mem} (h : CD D M) (hq : CK K 0 M) (hD : DW D kn) (hK : QW K kn) {d : Nat} (hd : d < 64) {Q : Int32 → Mem → Prop} (hQ : Q (nI (b1 (hasX D K d))) M) : pX3_hasNot M (nI d) Q := by
  have hn := hK.2.2.1
  have hkn := hD.2.1
  unfold pX3_hasNot
  refine lp_up (fun n s => s = (M, nI n) ∧ ∀ i, i < n → ¬ cnt D (xW K i) d ≠ 0) (Nat.zero_le (xN K)) ⟨rfl, lt_0⟩ ?_ ?_
  · rintro n s L - hlt ⟨rfl, hj⟩ hL
    have hw := hK.2.2.2.2.2.2.1 n hlt
    unfold bX3_hasNot_2
    try simp (disch := omega) only [li, nO_n, adI, mlI, tnI, vpI, ltI, leI, eqI, forall_eq, leT, leF, ltT, ltF, eqT, eqF, true_and, and_true, false_implies, true_implies, forall_const, not_true_eq_false, not_false_eq_true, implies_true, hq.xn, hq.x]
    refine chasWord h hD (by omega) hd ?_
    by_cases ec : cnt D (xW K n) d = 0
    · rw [if_pos ec]
      try simp (disch := omega) only [li, nO_n, adI, mlI, tnI, vpI, ltI, leI, eqI, forall_eq, leT, leF, ltT, ltF, eqT, eqF, true_and, and_true, false_implies, true_implies, forall_const, not_true_eq_false, not_false_eq_true, implies_true]
      exact hL _ ⟨rfl, lt_s hj (fun q => q ec)⟩
    · rw [if_neg ec]
      try simp (disch := omega) only [li, nO_n, adI, mlI, tnI, vpI, ltI, leI, eqI, forall_eq, leT, leF, ltT, ltF, eqT, eqF, true_and, and_true, false_implies, true_implies, forall_const, not_true_eq_false, not_false_eq_true, implies_true]
      have es : hasX D K d = true := anyR.mpr ⟨n, hlt, decide_eq_true ec⟩
      rw [es] at hQ
      exact hQ
  · rintro s L ⟨rfl, hj⟩
    have es : hasX D K d = false := anyF (fun i hi hp => hj i hi (of_decide_eq_true hp))
    rw [es] at hQ
    unfold bX3_hasNot_2
    try simp (disch := omega) only [li, nO_n, adI, mlI, tnI, vpI, ltI, leI, eqI, forall_eq, leT, leF, ltT, ltF, eqT, eqF, true_and, and_true, false_implies, true_implies, forall_const, not_true_eq_false, not_false_eq_true, implies_true, hq.xn]
    exact hQ
theorem cfit {D : Dc} {K : Qc} {kn : Nat} {M : Mem} (h : CD D M) (hq : CK K 0 M) (hD : DW D kn) (hK : QW K kn) {j d p c : Nat} (hd : d < 64) (hj : j < fN K) (hp : p + fL K j ≤ dL D d) (hc : c ≤ 200) {Q : Int32 → Mem → Prop} {L38 : Mem × Int32 × Int32 × Int32 → Prop} (hL9 : L38 (M, nI (fL K j), nI (c + if stA D K j d p then 1 else 0), nI (p + 1))) : ∃ n : Nat, lp (fun L s => bX3_phraseBegins_58 (nI d) (nI j) Q L38 L s.1 s.2.1 s.2.2.1 s.2.2.2.1 s.2.2.2.2) n (M, nI (fL K j), nI c, nI p, nI 0) := by
  have hn := hK.2.2.2.1
  have hdl := hD.dl d
  have hfl := hK.2.2.2.2.2.2.2.1 j hj
  have hkn := hD.2.1
  have hdn : 0 < fL K j → d < D.length := fun q0 => by
    by_cases q : d < D.length
    · exact q
    · rw [dL_out (by omega)] at hp; omega
  refine lp_up (fun n s => s = (M, nI (fL K j), nI c, nI p, nI n) ∧ ∀ i, i < n → ¬ fW K j i ≠ some (dT D d (p + i))) (Nat.zero_le (fL K j)) ⟨rfl, lt_0⟩ ?_ ?_
  · rintro n s L - hlt ⟨rfl, hi⟩ hL
    have ht := (hD.2.2 d (hdn (by omega))).2.2.2.2 (p + n) (by have := hdn (by omega); omega)
    have efw := hq.fw hj hlt
    have eo := oI_eq (n := dT D d (p + n)) (o := fW K j n) (by omega) (fun i e => by have := hK.2.2.2.2.2.2.2.2 j n i e; omega)
    unfold bX3_phraseBegins_58 bX3_phraseBegins_86 bX3_phraseBegins_96
    by_cases e : fW K j n = some (dT D d (p + n))
    · try simp (disch := omega) only [li, nO_n, adI, mlI, tnI, vpI, ltI, leI, eqI, forall_eq, leT, leF, ltT, ltF, eqT, eqF, true_and, and_true, false_implies, true_implies, forall_const, not_true_eq_false, not_false_eq_true, implies_true, h.tx, efw, eo, eq_true e]
      exact hL _ ⟨rfl, lt_s hi (fun q => q e)⟩
    · have es : stA D K j d p = false := by
        unfold stA
        rw [anyR.mpr ⟨n, hlt, decide_eq_true e⟩]; rfl
      rw [es] at hL9
      try simp (disch := omega) only [li, nO_n, adI, mlI, tnI, vpI, ltI, leI, eqI, forall_eq, leT, leF, ltT, ltF, eqT, eqF, true_and, and_true, false_implies, true_implies, forall_const, not_true_eq_false, not_false_eq_true, implies_true, h.tx, efw, eo, eq_false e]
      exact hL9
  · rintro s L ⟨rfl, hi⟩
    have es : stA D K j d p = true := by
      unfold stA
      rw [anyF (fun i hi2 hp => hi i hi2 (of_decide_eq_true hp))]; rfl
    rw [es] at hL9
    unfold bX3_phraseBegins_58 bX3_phraseBegins_86 bX3_phraseBegins_96
    try simp (disch := omega) only [li, nO_n, adI, mlI, tnI, vpI, ltI, leI, eqI, forall_eq, leT, leF, ltT, ltF, eqT, eqF, true_and, and_true, false_implies, true_implies, forall_const, not_true_eq_false, not_false_eq_true, implies_true]
    exact hL9
theorem cphN {D : Dc} {K : Qc} {kn : Nat} {M : Mem} (h : CD D M) (hq : CK K 0 M) (hD : DW D kn) (hK : QW K kn) {j d : Nat} (hd : d < 64) (hj : j < fN K) {Q : Int32 → Mem → Prop} (hQ : Q (nI (phN D K j d)) M) : pX3_phraseBegins M (nI d) (nI j) Q := by
  have hn := hK.2.2.2.1
  have hdl := hD.dl d
  have hfl := hK.2.2.2.2.2.2.2.1 j hj
  unfold pX3_phraseBegins
  try simp (disch := omega) only [li, nO_n, adI, mlI, tnI, vpI, ltI, leI, eqI, forall_eq, leT, leF, ltT, ltF, eqT, eqF, true_and, and_true, false_implies, true_implies, forall_const, not_true_eq_false, not_false_eq_true, implies_true, hq.fl hj]
  unfold phN at hQ
  refine lp_fn (g := fun n => (M, nI (fL K j), nI (ctF (stA D K j d) n), nI n)) (a := 0) (Nat.zero_le (dL D d + 1 - fL K j)) (fun n L _ hlt hL => ?_) (fun L => ?_)
  · have hb := ctF_le (stA D K j d) n
    unfold bX3_phraseBegins_38
    try simp (disch := omega) only [li, nO_n, adI, mlI, tnI, vpI, ltI, leI, eqI, forall_eq, leT, leF, ltT, ltF, eqT, eqF, true_and, and_true, false_implies, true_implies, forall_const, not_true_eq_false, not_false_eq_true, implies_true, h.len]
    refine cfit h hq hD hK hd hj (by omega) (by omega) ?_
    exact hL
  · unfold bX3_phraseBegins_38
    try simp (disch := omega) only [li, nO_n, adI, mlI, tnI, vpI, ltI, leI, eqI, forall_eq, leT, leF, ltT, ltF, eqT, eqF, true_and, and_true, false_implies, true_implies, forall_const, not_true_eq_false, not_false_eq_true, implies_true, h.len]
    exact hQ
theorem cmissP {D : Dc} {K : Qc} {kn : Nat} {M : Mem} (h : CD D M) (hq : CK K 0 M) (hD : DW D kn) (hK : QW K kn) {d : Nat} (hd : d < 64) {Q : Int32 → Mem → Prop} (hQ : Q (nI (b1 (missP D K d))) M) : pX3_missesPhrase M (nI d) Q := by
  have hn := hK.2.2.2.1
  have hdl := hD.dl d
  unfold pX3_missesPhrase
  refine lp_up (fun n s => s = (M, nI n) ∧ ∀ i, i < n → ¬ phN D K i d = 0) (Nat.zero_le (fN K)) ⟨rfl, lt_0⟩ ?_ ?_
  · rintro n s L - hlt ⟨rfl, hj⟩ hL
    unfold bX3_missesPhrase_2
    try simp (disch := omega) only [li, nO_n, adI, mlI, tnI, vpI, ltI, leI, eqI, forall_eq, leT, leF, ltT, ltF, eqT, eqF, true_and, and_true, false_implies, true_implies, forall_const, not_true_eq_false, not_false_eq_true, implies_true, hq.fn]
    refine cphN h hq hD hK hd hlt ?_
    have hb : phN D K n d ≤ 151 := Nat.le_trans (ctF_le _ _) (by omega)
    by_cases ec : phN D K n d = 0
    · try simp (disch := omega) only [li, nO_n, adI, mlI, tnI, vpI, ltI, leI, eqI, forall_eq, leT, leF, ltT, ltF, eqT, eqF, true_and, and_true, false_implies, true_implies, forall_const, not_true_eq_false, not_false_eq_true, implies_true]
      have es : missP D K d = true := anyR.mpr ⟨n, hlt, decide_eq_true ec⟩
      rw [es] at hQ
      exact hQ
    · try simp (disch := omega) only [li, nO_n, adI, mlI, tnI, vpI, ltI, leI, eqI, forall_eq, leT, leF, ltT, ltF, eqT, eqF, true_and, and_true, false_implies, true_implies, forall_const, not_true_eq_false, not_false_eq_true, implies_true]
      exact hL _ ⟨rfl, lt_s hj ec⟩
  · rintro s L ⟨rfl, hj⟩
    have es : missP D K d = false := anyF (fun i hi hp => hj i hi (of_decide_eq_true hp))
    rw [es] at hQ
    unfold bX3_missesPhrase_2
    try simp (disch := omega) only [li, nO_n, adI, mlI, tnI, vpI, ltI, leI, eqI, forall_eq, leT, leF, ltT, ltF, eqT, eqF, true_and, and_true, false_implies, true_implies, forall_const, not_true_eq_false, not_false_eq_true, implies_true, hq.fn]
    exact hQ
theorem cwhy {D : Dc} {K : Qc} {kn : Nat} {M : Mem} (h : CD D M) (hq : CK K 0 M) (hD : DW D kn) (hK : QW K kn) {d : Nat} (hd : d < D.length) (h3 : dS D d ≠ 3) {lo : Option Nat} (hlo : ∀ i, lo = some i → i < 2147483648) {Q : Int32 → Mem → Prop} (hQ : Q (nI (why D K lo d)) M) : pX3_whyNot M (nI d) (oI lo) Q := by
  have hl := hD.1
  have hs := hD.2.2 d hd
  have e0 : b1 false = 0 := rfl
  have e1 : b1 true = 1 := rfl
  unfold pX3_whyNot
  unfold why at hQ
  refine cisGone h hD (by omega) ?_
  by_cases eg : dS D d = 2
  · rw [if_pos eg]
    rw [if_pos (by omega)] at hQ
    try simp (disch := omega) only [li, nO_n, adI, mlI, tnI, vpI, ltI, leI, eqI, forall_eq, leT, leF, ltT, ltF, eqT, eqF, true_and, and_true, false_implies, true_implies, forall_const, not_true_eq_false, not_false_eq_true, implies_true]
    exact hQ
  · rw [if_neg eg]
    rw [if_neg (by omega)] at hQ
    try simp (disch := omega) only [li, nO_n, adI, mlI, tnI, vpI, ltI, leI, eqI, forall_eq, leT, leF, ltT, ltF, eqT, eqF, true_and, and_true, false_implies, true_implies, forall_const, not_true_eq_false, not_false_eq_true, implies_true]
    refine csomeS h hq hD hK (by omega) hlo ?_
    cases ea : someS D K lo d
    · rw [ea, if_neg (by decide)] at hQ
      try simp (disch := omega) only [li, nO_n, adI, mlI, tnI, vpI, ltI, leI, eqI, forall_eq, leT, leF, ltT, ltF, eqT, eqF, true_and, and_true, false_implies, true_implies, forall_const, not_true_eq_false, not_false_eq_true, implies_true, e0]
      exact hQ
    · rw [ea, if_pos rfl] at hQ
      try simp (disch := omega) only [li, nO_n, adI, mlI, tnI, vpI, ltI, leI, eqI, forall_eq, leT, leF, ltT, ltF, eqT, eqF, true_and, and_true, false_implies, true_implies, forall_const, not_true_eq_false, not_false_eq_true, implies_true, e1]
      refine cmissM h hq hD hK (by omega) ?_
      cases eb : missM D K d
      · rw [eb, if_neg (by decide)] at hQ
        try simp (disch := omega) only [li, nO_n, adI, mlI, tnI, vpI, ltI, leI, eqI, forall_eq, leT, leF, ltT, ltF, eqT, eqF, true_and, and_true, false_implies, true_implies, forall_const, not_true_eq_false, not_false_eq_true, implies_true, e0]
        refine chasX h hq hD hK (by omega) ?_
        cases ec : hasX D K d
        · rw [ec, if_neg (by decide)] at hQ
          try simp (disch := omega) only [li, nO_n, adI, mlI, tnI, vpI, ltI, leI, eqI, forall_eq, leT, leF, ltT, ltF, eqT, eqF, true_and, and_true, false_implies, true_implies, forall_const, not_true_eq_false, not_false_eq_true, implies_true, e0]
          refine cmissP h hq hD hK (by omega) ?_
          cases ed : missP D K d
          · rw [ed, if_neg (by decide)] at hQ
            try simp (disch := omega) only [li, nO_n, adI, mlI, tnI, vpI, ltI, leI, eqI, forall_eq, leT, leF, ltT, ltF, eqT, eqF, true_and, and_true, false_implies, true_implies, forall_const, not_true_eq_false, not_false_eq_true, implies_true, e0]
            exact hQ
          · rw [ed, if_pos rfl] at hQ
            try simp (disch := omega) only [li, nO_n, adI, mlI, tnI, vpI, ltI, leI, eqI, forall_eq, leT, leF, ltT, ltF, eqT, eqF, true_and, and_true, false_implies, true_implies, forall_const, not_true_eq_false, not_false_eq_true, implies_true, e1]
            exact hQ
        · rw [ec, if_pos rfl] at hQ
          try simp (disch := omega) only [li, nO_n, adI, mlI, tnI, vpI, ltI, leI, eqI, forall_eq, leT, leF, ltT, ltF, eqT, eqF, true_and, and_true, false_implies, true_implies, forall_const, not_true_eq_false, not_false_eq_true, implies_true, e1]
          exact hQ
      · rw [eb, if_pos rfl] at hQ
        try simp (disch := omega) only [li, nO_n, adI, mlI, tnI, vpI, ltI, leI, eqI, forall_eq, leT, leF, ltT, ltF, eqT, eqF, true_and, and_true, false_implies, true_implies, forall_const, not_true_eq_false, not_false_eq_true, implies_true, e1]
        exact hQ
theorem cdist {D : Dc} {K : Qc} {kn : Nat} {M : Mem} (h : CD D M) (hq : CK K 0 M) (hD : DW D kn) (hK : QW K kn) {a b d : Nat} (hd : d < 64) (hab : a ≠ b) (ha : a < 255) (hb : b < 255) {Q : Int32 → Mem → Prop} (hQ : Q (nI (dist D a b d)) M) : pX3_leastDistance M (nI d) (nI a) (nI b) Q := by
  have hdl := hD.dl d
  unfold pX3_leastDistance
  try simp (disch := omega) only [li, nO_n, adI, mlI, tnI, vpI, ltI, leI, eqI, forall_eq, leT, leF, ltT, ltF, eqT, eqF, true_and, and_true, false_implies, true_implies, forall_const, not_true_eq_false, not_false_eq_true, implies_true]
  have e0 : ((M, nI 150, -nI 1, -nI 1, nI 0) : Mem × Int32 × Int32 × Int32 × Int32) = (fun n => (M, nI (dst a b (dT D d) n).2.2, nI (dst a b (dT D d) n).1 - nI 1, nI (dst a b (dT D d) n).2.1 - nI 1, nI n)) 0 := rfl
  first | rw [e0] | (rw [nO_n] at e0; rw [e0])
  refine lp_fn (g := fun n => (M, nI (dst a b (dT D d) n).2.2, nI (dst a b (dT D d) n).1 - nI 1, nI (dst a b (dT D d) n).2.1 - nI 1, nI n)) (a := 0) (Nat.zero_le (dL D d)) (fun n L _ hlt hL => ?_) (fun L => ?_)
  · have hdn : d < D.length := by
      by_cases q : d < D.length
      · exact q
      · rw [dL_out (by omega)] at hlt; omega
    have ht := (hD.2.2 d hdn).2.2.2.2 n hlt
    have hkn := hD.2.1
    obtain ⟨g1, g2, g3, g4, g5⟩ := dst_b (dT D d) hab n
    have key : ∀ qa qb : Nat, qa ≤ n + 1 → qb ≤ n + 1 → (dst a b (dT D d) (n + 1)).1 = qa → (dst a b (dT D d) (n + 1)).2.1 = qb → (dst a b (dT D d) (n + 1)).2.2 = (if qa = 0 ∨ qb = 0 then (dst a b (dT D d) n).2.2 else min (dst a b (dT D d) n).2.2 (if qa < qb then qb - qa else qa - qb)) → bX3_leastDistance_68 (nI d) (nI a) (nI b) Q L M (nI (dst a b (dT D d) n).2.2) (nI qa - nI 1) (nI qb - nI 1) (nI n) := by
      intro qa qb ha2 hb2 e1 e2 e3
      simp only [e1, e2, e3] at hL
      unfold bX3_leastDistance_68 bX3_leastDistance_95
      try simp (disch := omega) only [li, nO_n, s1O, adI, forall_eq]
      by_cases ea : qa = 0
      · rw [if_pos (Or.inl ea)] at hL
        try simp (disch := omega) only [li, nO_n, adI, mlI, tnI, vpI, ltI, leI, eqI, forall_eq, leT, leF, ltT, ltF, eqT, eqF, true_and, and_true, false_implies, true_implies, forall_const, not_true_eq_false, not_false_eq_true, implies_true]
        exact hL
      · by_cases eb : qb = 0
        · rw [if_pos (Or.inr eb)] at hL
          try simp (disch := omega) only [li, nO_n, adI, mlI, tnI, vpI, ltI, leI, eqI, forall_eq, leT, leF, ltT, ltF, eqT, eqF, true_and, and_true, false_implies, true_implies, forall_const, not_true_eq_false, not_false_eq_true, implies_true]
          exact hL
        · rw [if_neg (by omega)] at hL
          have ex : (if qa - 1 < qb - 1 then qb - 1 - (qa - 1) else qa - 1 - (qb - 1)) = (if qa < qb then qb - qa else qa - qb) := by
            by_cases hx : qa < qb
            · rw [if_pos hx, if_pos (by omega)]; omega
            · rw [if_neg hx, if_neg (by omega)]; omega
          have hbd : (if qa < qb then qb - qa else qa - qb) ≤ 151 := by
            by_cases hx : qa < qb
            · rw [if_pos hx]; omega
            · rw [if_neg hx]; omega
          rw [sbI (show 1 ≤ qa by omega), sbI (show 1 ≤ qb by omega), absI (by omega) (by omega), ex, mnI (by omega) (by omega)]
          rw [sbI (show 1 ≤ qa by omega), sbI (show 1 ≤ qb by omega)] at hL
          try simp (disch := omega) only [li, nO_n, adI, mlI, tnI, vpI, ltI, leI, eqI, forall_eq, leT, leF, ltT, ltF, eqT, eqF, true_and, and_true, false_implies, true_implies, forall_const, not_true_eq_false, not_false_eq_true, implies_true]
          exact hL
    unfold bX3_leastDistance_25
    by_cases ea : dT D d n = a
    · have eb : dT D d n ≠ b := fun e => hab (ea.symm.trans e)
      have := key (n + 1) (dst a b (dT D d) n).2.1 (by omega) (by omega) (if_pos ea) (if_neg eb) (by show (if (if dT D d n = a then n + 1 else _) = 0 ∨ _ then _ else _) = _; simp only [if_pos ea, if_neg eb])
      rw [sbs] at this
      try simp (disch := omega) only [li, nO_n, adI, mlI, tnI, vpI, ltI, leI, eqI, forall_eq, leT, leF, ltT, ltF, eqT, eqF, true_and, and_true, false_implies, true_implies, forall_const, not_true_eq_false, not_false_eq_true, implies_true, h.len, h.tx, ea]
      exact this
    · by_cases eb : dT D d n = b
      · have := key (dst a b (dT D d) n).1 (n + 1) (by omega) (by omega) (if_neg ea) (if_pos eb) (by show (if (if dT D d n = a then n + 1 else _) = 0 ∨ _ then _ else _) = _; simp only [if_neg ea, if_pos eb])
        rw [sbs] at this
        try simp (disch := omega) only [li, nO_n, adI, mlI, tnI, vpI, ltI, leI, eqI, forall_eq, leT, leF, ltT, ltF, eqT, eqF, true_and, and_true, false_implies, true_implies, forall_const, not_true_eq_false, not_false_eq_true, implies_true, h.len, h.tx, eb]
        exact this
      · have := key (dst a b (dT D d) n).1 (dst a b (dT D d) n).2.1 (by omega) (by omega) (if_neg ea) (if_neg eb) (by show (if (if dT D d n = a then n + 1 else _) = 0 ∨ _ then _ else _) = _; simp only [if_neg ea, if_neg eb])
        try simp (disch := omega) only [li, nO_n, adI, mlI, tnI, vpI, ltI, leI, eqI, forall_eq, leT, leF, ltT, ltF, eqT, eqF, true_and, and_true, false_implies, true_implies, forall_const, not_true_eq_false, not_false_eq_true, implies_true, h.len, h.tx]
        exact this
  · unfold bX3_leastDistance_25
    try simp (disch := omega) only [li, nO_n, adI, mlI, tnI, vpI, ltI, leI, eqI, forall_eq, leT, leF, ltT, ltF, eqT, eqF, true_and, and_true, false_implies, true_implies, forall_const, not_true_eq_false, not_false_eq_true, implies_true, h.len]
    exact hQ
theorem cnear {D : Dc} {K : Qc} {kn : Nat} {M : Mem} (h : CD D M) (hq : CK K 0 M) (hD : DW D kn) (hK : QW K kn) {d : Nat} (hd : d < 64) {lo : Option Nat} (hlo : ∀ i, lo = some i → i < 2147483648) {Q : Int32 → Mem → Prop} (hQ : Q (nI (near D K lo d)) M) : pX3_nearness M (nI d) (oI lo) Q := by
  have hn := hK.1
  have hr := hK.2.1
  have hkn := hD.2.1
  unfold pX3_nearness
  have e0 : ((M, 0, (-1), 0) : Mem × Int32 × Int32 × Int32) = (fun n => (M, nI (nst D K lo d n).1, nI (nst D K lo d n).2 - nI 1, nI n)) 0 := rfl
  rw [e0]
  by_cases er : qR K = 0
  · refine ⟨1, ?_⟩
    show bX3_nearness_8 (nI d) (oI lo) Q _ M 0 _ 0
    have ez : near D K lo d = 0 := nst_0 hK er (Nat.le_refl _)
    rw [ez] at hQ
    unfold bX3_nearness_8
    try simp (disch := omega) only [li, nO_n, adI, mlI, tnI, vpI, ltI, leI, eqI, forall_eq, leT, leF, ltT, ltF, eqT, eqF, true_and, and_true, false_implies, true_implies, forall_const, not_true_eq_false, not_false_eq_true, implies_true, hq.n, hq.r, er]
    exact ⟨fun _ => hQ, fun _ => hQ⟩
  · refine lp_fn (g := fun n => (M, nI (nst D K lo d n).1, nI (nst D K lo d n).2 - nI 1, nI n)) (a := 0) (Nat.zero_le (sN K)) (fun n L _ hlt hL => ?_) (fun L => ?_)
    · have hw := (hK.2.2.2.2.1 n hlt).1
      have hs2 := nst_le D K lo d n
      have eo := oI_eq (n := n) (o := lo) (by omega) hlo
      unfold bX3_nearness_8 bX3_nearness_94 bX3_nearness_98
      by_cases e : lo = some n
      · have e1 : nst D K lo d (n + 1) = nst D K lo d n := by rw [nst, if_pos e]
        simp only [e1] at hL
        try simp (disch := omega) only [li, nO_n, adI, mlI, tnI, vpI, ltI, leI, eqI, forall_eq, leT, leF, ltT, ltF, eqT, eqF, true_and, and_true, false_implies, true_implies, forall_const, not_true_eq_false, not_false_eq_true, implies_true, hq.n, hq.r, eo, eq_true e]
        exact hL
      · by_cases e2 : (nst D K lo d n).2 = 0
        · have e1 : nst D K lo d (n + 1) = ((nst D K lo d n).1, n + 1) := by rw [nst, if_neg e, if_pos e2]
          simp only [e1, sbs] at hL
          try simp (disch := omega) only [li, nO_n, adI, mlI, tnI, vpI, ltI, leI, eqI, forall_eq, leT, leF, ltT, ltF, eqT, eqF, true_and, and_true, false_implies, true_implies, forall_const, not_true_eq_false, not_false_eq_true, implies_true, hq.n, hq.r, eo, eq_false e, s1O]
          exact hL
        · have e1 : nst D K lo d (n + 1) = ((nst D K lo d n).1 + 50 * (qR K + 1 - dist D (sW K ((nst D K lo d n).2 - 1)) (sW K n) d), n + 1) := by rw [nst, if_neg e, if_neg e2]
          simp only [e1, sbs] at hL
          have hw2 := (hK.2.2.2.2.1 ((nst D K lo d n).2 - 1) (by omega)).1
          have hne := hK.2.2.2.2.2.1 ((nst D K lo d n).2 - 1) n (by omega) hlt
          have hdb := (dst_b (dT D d) hne (dL D d)).2.2.2.1
          have e5 : nI (nst D K lo d n).2 - nI 1 = nI ((nst D K lo d n).2 - 1) := sbI (by omega)
          rw [e5]
          have e6 : ¬ nI ((nst D K lo d n).2 - 1) = nO := nO_ne (by omega)
          try simp (disch := omega) only [li, nO_n, adI, mlI, tnI, vpI, ltI, leI, eqI, forall_eq, leT, leF, ltT, ltF, eqT, eqF, true_and, and_true, false_implies, true_implies, forall_const, not_true_eq_false, not_false_eq_true, implies_true, hq.n, hq.r, eo, eq_false e, eq_false e6, hq.w]
          refine cdist h hq hD hK hd hne (by omega) (by omega) ?_
          have hdd : dist D (sW K ((nst D K lo d n).2 - 1)) (sW K n) d ≤ 150 := hdb
          rw [hq.r, adI, mx0 (by omega) (by omega)]
          try simp (disch := omega) only [li, nO_n, adI, mlI, tnI, vpI, ltI, leI, eqI, forall_eq, leT, leF, ltT, ltF, eqT, eqF, true_and, and_true, false_implies, true_implies, forall_const, not_true_eq_false, not_false_eq_true, implies_true]
          exact hL
    · unfold bX3_nearness_8
      try simp (disch := omega) only [li, nO_n, adI, mlI, tnI, vpI, ltI, leI, eqI, forall_eq, leT, leF, ltT, ltF, eqT, eqF, true_and, and_true, false_implies, true_implies, forall_const, not_true_eq_false, not_false_eq_true, implies_true, hq.n]
      exact hQ
theorem cpts {D : Dc} {K : Qc} {kn : Nat} {M : Mem} (h : CD D M) (hq : CK K 0 M) (hD : DW D kn) (hK : QW K kn) {d i : Nat} (hd : d < 64) (hi : i < sN K) {Q : Int32 → Mem → Prop} (hQ : Q (nI (pts D K i d)) M) : pX3_pointsOf M (nI d) (nI i) Q := by
  have hn := hK.1
  have hkn := hD.2.1
  have hw := (hK.2.2.2.2.1 i hi).1
  unfold pX3_pointsOf
  try simp (disch := omega) only [li, nO_n, adI, mlI, tnI, vpI, ltI, leI, eqI, forall_eq, leT, leF, ltT, ltF, eqT, eqF, true_and, and_true, false_implies, true_implies, forall_const, not_true_eq_false, not_false_eq_true, implies_true, hq.w]
  refine crareOf h hD (by omega) ?_
  refine cgainOf h hD (by omega) hd ?_
  rw [hq.b hi, mlI, mlI]
  exact hQ
theorem ctotal {D : Dc} {K : Qc} {kn : Nat} {M : Mem} (h : CD D M) (hq : CK K 0 M) (hD : DW D kn) (hK : QW K kn) {d : Nat} (hd : d < 64) {lo : Option Nat} (hlo : ∀ i, lo = some i → i < 2147483648) {Q : Int32 → Mem → Prop} (hQ : Q (nI (total D K lo d)) M) : pX3_total M (nI d) (oI lo) Q := by
  have hn := hK.1
  unfold pX3_total
  refine cnear h hq hD hK hd hlo ?_
  refine lp_fn (g := fun n => (M, nI (near D K lo d + ptS D K lo d n), nI n)) (a := 0) (Nat.zero_le (sN K)) (fun n L _ hlt hL => ?_) (fun L => ?_)
  · have eo := oI_eq (n := n) (o := lo) (by omega) hlo
    unfold bX3_total_10 bX3_total_38
    by_cases e : lo = some n
    · have e1 : ptS D K lo d (n + 1) = ptS D K lo d n + 0 := by unfold ptS; rw [smF, if_pos e]
      simp only [e1] at hL
      try simp (disch := omega) only [li, nO_n, adI, mlI, tnI, vpI, ltI, leI, eqI, forall_eq, leT, leF, ltT, ltF, eqT, eqF, true_and, and_true, false_implies, true_implies, forall_const, not_true_eq_false, not_false_eq_true, implies_true, hq.n, eo, eq_true e]
      exact hL
    · have e1 : ptS D K lo d (n + 1) = ptS D K lo d n + pts D K n d := by unfold ptS; rw [smF, if_neg e]
      simp only [e1] at hL
      try simp (disch := omega) only [li, nO_n, adI, mlI, tnI, vpI, ltI, leI, eqI, forall_eq, leT, leF, ltT, ltF, eqT, eqF, true_and, and_true, false_implies, true_implies, forall_const, not_true_eq_false, not_false_eq_true, implies_true, hq.n, eo, eq_false e]
      refine cpts h hq hD hK hd hlt ?_
      try simp (disch := omega) only [li, nO_n, adI, mlI, tnI, vpI, ltI, leI, eqI, forall_eq, leT, leF, ltT, ltF, eqT, eqF, true_and, and_true, false_implies, true_implies, forall_const, not_true_eq_false, not_false_eq_true, implies_true]
      rw [Nat.add_assoc]
      exact hL
  · unfold bX3_total_10
    try simp (disch := omega) only [li, nO_n, adI, mlI, tnI, vpI, ltI, leI, eqI, forall_eq, leT, leF, ltT, ltF, eqT, eqF, true_and, and_true, false_implies, true_implies, forall_const, not_true_eq_false, not_false_eq_true, implies_true, hq.n]
    exact hQ
