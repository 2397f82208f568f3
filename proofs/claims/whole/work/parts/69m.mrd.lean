/-! PURE: the reference reads -/
def MT (t : Nat → Nat) (n : Nat) (M : Mem) : Prop := M.1 1203 0 0 = nI n ∧ (∀ k, k < n → M.1 1208 0 k = nI (t k)) ∧ n ≤ 300 ∧ ∀ k, t k < 256
def bt (t : Nat → Nat) (n i : Nat) : Option Nat := if i < n then some (t i) else none
theorem MT.kp {P : Nat → Nat → Bool} {t : Nat → Nat} {n : Nat} {M M' : Mem} (h : MT t n M) (k : Kp P M M') (h1 : P 1203 0 = true) (h2 : P 1208 0 = true) : MT t n M' := ⟨(k.g h1 0).trans h.1, fun j hj => (k.g h2 j).trans (h.2.1 j hj), h.2.2⟩
theorem mfine0 {M : Mem} (h : M.1 1206 0 0 = nI 0) {Q : Int32 → Mem → Prop} (hQ : Q (nI 1) M) : pX11_fine M Q := by
  unfold pX11_fine
  try simp (disch := omega) only [li, nO_n, adI, mlI, tnI, vpI, ltI, leI, eqI, forall_eq, leT, leF, ltT, ltF, eqT, eqF, true_and, and_true, false_implies, true_implies, forall_const, not_true_eq_false, not_false_eq_true, implies_true, h]
  exact hQ
theorem mfine1 {M : Mem} {f : Nat} (h : M.1 1206 0 0 = nI f) (h1 : f ≠ 0) (h2 : f < 3) {Q : Int32 → Mem → Prop} (hQ : Q (nI 0) M) : pX11_fine M Q := by
  unfold pX11_fine
  try simp (disch := omega) only [li, nO_n, adI, mlI, tnI, vpI, ltI, leI, eqI, forall_eq, leT, leF, ltT, ltF, eqT, eqF, true_and, and_true, false_implies, true_implies, forall_const, not_true_eq_false, not_false_eq_true, implies_true, h]
  exact hQ
theorem mwrong0 {M : Mem} {x y : Int32} (h : M.1 1206 0 0 = nI 0) {Q : Mem → Prop} (hQ : Q (up1 (up1 M 1206 0 0 x) 1207 0 0 y)) : pX11_wrong M x y Q := by
  unfold pX11_wrong
  try simp (disch := omega) only [li, nO_n, adI, mlI, tnI, vpI, ltI, leI, eqI, forall_eq, leT, leF, ltT, ltF, eqT, eqF, true_and, and_true, false_implies, true_implies, forall_const, not_true_eq_false, not_false_eq_true, implies_true, h]
  exact hQ
theorem mwrong1 {M : Mem} {f : Nat} {x y : Int32} (h : M.1 1206 0 0 = nI f) (h1 : f ≠ 0) (h2 : f < 3) {Q : Mem → Prop} (hQ : Q M) : pX11_wrong M x y Q := by
  unfold pX11_wrong
  try simp (disch := omega) only [li, nO_n, adI, mlI, tnI, vpI, ltI, leI, eqI, forall_eq, leT, leF, ltT, ltF, eqT, eqF, true_and, and_true, false_implies, true_implies, forall_const, not_true_eq_false, not_false_eq_true, implies_true, h]
  exact hQ
theorem mbyteAt {t : Nat → Nat} {n i : Nat} {M : Mem} (h : MT t n M) (hi : i < 2147483648) {Q : Int32 → Mem → Prop} (hQ : Q (oI (bt t n i)) M) : pX11_byteAt M (nI i) Q := by
  obtain ⟨h1, h2, h3, h4⟩ := h
  unfold pX11_byteAt
  unfold bt at hQ
  by_cases e : i < n
  · rw [if_pos e] at hQ
    have e2 := h2 i e
    try simp (disch := omega) only [li, nO_n, adI, mlI, tnI, vpI, ltI, leI, eqI, forall_eq, leT, leF, ltT, ltF, eqT, eqF, true_and, and_true, false_implies, true_implies, forall_const, not_true_eq_false, not_false_eq_true, implies_true, h1, e2]
    exact hQ
  · rw [if_neg e] at hQ
    try simp (disch := omega) only [li, nO_n, adI, mlI, tnI, vpI, ltI, leI, eqI, forall_eq, leT, leF, ltT, ltF, eqT, eqF, true_and, and_true, false_implies, true_implies, forall_const, not_true_eq_false, not_false_eq_true, implies_true, h1]
    exact hQ
theorem bt_lt {t : Nat → Nat} {n i : Nat} (ht : ∀ k, t k < 256) : ∀ c, bt t n i = some c → c < 2147483648 := by
  intro c hc
  unfold bt at hc
  by_cases e : i < n
  · rw [if_pos e] at hc; have := ht i; cases hc; omega
  · rw [if_neg e] at hc; cases hc
theorem oI_n {o : Option Nat} (ho : ∀ c, o = some c → c < 2147483648) {k : Nat} (hk : k < 2147483648) : oI o = nI k ↔ o = some k := by
  cases o with
  | none => exact ⟨fun e => absurd e.symm (nO_ne hk), fun e => by cases e⟩
  | some i =>
    show nI i = nI k ↔ _
    rw [eqI (ho i rfl) hk]
    constructor
    · intro e; rw [e]
    · intro e; cases e; rfl
theorem oI_O {o : Option Nat} (ho : ∀ c, o = some c → c < 2147483648) : oI o = nO ↔ o = none := by
  cases o with
  | none => exact ⟨fun _ => rfl, fun _ => rfl⟩
  | some i => exact ⟨fun e => absurd e (nO_ne (ho i rfl)), fun e => by cases e⟩
def kAt (c _ : Nat) : Bool := decide (c ≠ 1204)
theorem mblanks {t : Nat → Nat} {n i : Nat} {M : Mem} (h : MT t n M) (hi : i ≤ n) (ha : M.1 1204 0 0 = nI i) {Q : Int32 → Mem → Prop} (hQ : ∀ M', Kp kAt M M' → M'.1 1204 0 0 = nI (bE t i n) → Q (oI (bt t n (bE t i n))) M') : pX11_blanks M Q := by
  obtain ⟨b1', b2, b3, b4⟩ := bE_c (t := t) hi
  have hn := h.2.2.1
  unfold pX11_blanks
  refine lp_up (fun j s => Kp kAt M s ∧ s.1 1204 0 0 = nI j) b1' ⟨Kp.rf, ha⟩ ?_ ?_
  · rintro j m L hj1 hj2 ⟨k1, k2⟩ hL
    have hm : MT t n m := h.kp k1 rfl rfl
    have ej : bt t n j = some 32 := by unfold bt; rw [if_pos (by omega), b3 j hj1 hj2]
    unfold bX11_blanks_0
    rw [k2]
    refine mbyteAt hm (by omega) ?_
    rw [ej]
    show (_ ∧ _)
    have := hL (up1 m 1204 0 0 (nI (j + 1))) ⟨k1.u1 rfl, up1_eq⟩
    try simp (disch := omega) only [oI, li, nO_n, adI, mlI, tnI, vpI, ltI, leI, eqI, forall_eq, leT, leF, ltT, ltF, eqT, eqF, true_and, and_true, false_implies, true_implies, forall_const, not_true_eq_false, not_false_eq_true, implies_true, k2]
    exact this
  · rintro m L ⟨k1, k2⟩
    have hm : MT t n m := h.kp k1 rfl rfl
    have hne : ¬ oI (bt t n (bE t i n)) = nI 32 := fun q => by
      have := (oI_n (bt_lt h.2.2.2) (by decide)).mp q
      unfold bt at this
      rcases b4 with b4 | b4
      · rw [if_neg (by omega)] at this; cases this
      · by_cases e : bE t i n < n
        · rw [if_pos e] at this; injection this with this; exact b4 this
        · rw [if_neg e] at this; cases this
    unfold bX11_blanks_0
    rw [k2]
    refine mbyteAt hm (by omega) ?_
    refine ⟨fun _ => ?_, fun q => absurd q hne⟩
    rw [k2]
    exact mbyteAt hm (by omega) (hQ m k1 k2)
def kWo (c _ : Nat) : Bool := decide (c ≠ 1204 ∧ c ≠ 1206 ∧ c ≠ 1207 ∧ c ≠ 1231 ∧ c ≠ 1232)
theorem mreadsWord {t : Nat → Nat} {n i : Nat} {M : Mem} (h : MT t n M) (hi : i ≤ n) (ha : M.1 1204 0 0 = nI i) (hf : M.1 1206 0 0 = nI 0) {Q : Mem → Prop} (hA : wE t i n = i → ∀ M', Kp kWo M M' → M'.1 1206 0 0 = nI 1 → M'.1 1207 0 0 = nI i → Q M') (hB : i < wE t i n → wE t i n ≤ i + 8 → ∀ M', Kp kWo M M' → M'.1 1206 0 0 = nI 0 → M'.1 1207 0 0 = M.1 1207 0 0 → M'.1 1204 0 0 = nI (wE t i n) → M'.2 1231 0 0 = nG (rb 27 (wdr t i (wE t i n - i))) → M'.1 1232 0 0 = nI (wE t i n - i) → Q M') (hC : i + 8 < wE t i n → ∀ M', Kp kWo M M' → M'.1 1206 0 0 = nI 1 → M'.1 1207 0 0 = nI (i + 8) → Q M') : pX11_readsWord M Q := by
  obtain ⟨w1, w2, w3, w4⟩ := wE_c (t := t) hi
  have hn := h.2.2.1
  have ht := h.2.2.2
  have m2a : (up1 (up2 M 1231 0 0 0) 1232 0 0 0).1 1204 0 0 = nI i := by rw [up1_ne (by simp)]; exact ha
  have m2f : (up1 (up2 M 1231 0 0 0) 1232 0 0 0).1 1206 0 0 = nI 0 := by rw [up1_ne (by simp)]; exact hf
  have k2 : Kp kWo M (up1 (up2 M 1231 0 0 0) 1232 0 0 0) := (Kp.rf.u2 rfl).u1 rfl
  have hm2 : MT t n (up1 (up2 M 1231 0 0 0) 1232 0 0 0) := h.kp k2 rfl rfl
  unfold pX11_readsWord
  intro M1 e1 M2 e2
  subst e1 e2
  rw [m2a]
  refine mbyteAt hm2 (by omega) ?_
  refine misLo (bt_lt ht) ?_
  by_cases e : i < wE t i n
  · have eL : isLo (bt t n i) = true := by
      unfold bt; rw [if_pos (by omega)]; exact w3 i (Nat.le_refl _) e
    rw [eL]
    refine ⟨fun _ => ?_, fun q => absurd q (by show ¬ nI 1 = nI 0; rw [eqI (by omega) (by omega)]; omega)⟩
    obtain ⟨N, hN⟩ : ∃ N, N = min (wE t i n - i) 9 := ⟨_, rfl⟩
    refine lp_up (fun k s => Kp kWo M s ∧ s.1 1206 0 0 = nI (if k ≤ 8 then 0 else 1) ∧ s.1 1207 0 0 = (if k ≤ 8 then M.1 1207 0 0 else nI (i + 8)) ∧ s.1 1204 0 0 = nI (i + k) ∧ s.2 1231 0 0 = nG (rb 27 (wdr t i k)) ∧ s.1 1232 0 0 = nI k) (Nat.zero_le N) ⟨k2, m2f, by rw [up1_ne (by simp)]; rfl, m2a, by rw [up1_2, up2_eq]; rfl, up1_eq⟩ ?_ ?_
    · rintro k m L - hk ⟨a1, a2, a3, a4, a5, a6⟩ hL
      have hm : MT t n m := h.kp a1 rfl rfl
      rw [if_pos (by omega)] at a2 a3
      have hl := w3 (i + k) (by omega) (by omega)
      have eb : bt t n (i + k) = some (t (i + k)) := by unfold bt; rw [if_pos (by omega)]
      have h72 : ∀ m', Kp kWo M m' → m'.1 1206 0 0 = nI (if k + 1 ≤ 8 then 0 else 1) → m'.1 1207 0 0 = (if k + 1 ≤ 8 then M.1 1207 0 0 else nI (i + 8)) → m'.1 1204 0 0 = nI (i + k) → m'.2 1231 0 0 = nG (rb 27 (wdr t i k)) → m'.1 1232 0 0 = nI k → bX11_readsWord_72 Q L m' := by
        intro m' c1 c2 c3 c4 c5 c6
        have hm' : MT t n m' := h.kp c1 rfl rfl
        unfold bX11_readsWord_72
        rw [c4]
        refine mbyteAt hm' (by omega) ?_
        rw [eb, c5]
        intro M23 e23 M24 e24 M25 e25
        have e23' : M23 = up2 m' 1231 0 0 (nG (rb 27 (wdr t i (k + 1)))) := by rw [e23]; exact congrArg (up2 m' 1231 0 0) (mspell hl)
        have e24' : M24 = up1 M23 1232 0 0 (nI (k + 1)) := by
          rw [e24]
          have : M23.1 1232 0 0 = nI k := by rw [e23']; exact c6
          rw [this]; exact congrArg (up1 M23 1232 0 0) (adI k 1)
        have e25' : M25 = up1 M24 1204 0 0 (nI (i + (k + 1))) := by
          rw [e25]
          have : M24.1 1204 0 0 = nI (i + k) := by rw [e24', up1_ne (by simp), e23']; exact c4
          rw [this]; exact congrArg (up1 M24 1204 0 0) (adI (i + k) 1)
        subst e23' e24' e25'
        refine hL _ ⟨((c1.u2 rfl).u1 rfl).u1 rfl, ?_, ?_, up1_eq, ?_, ?_⟩
        · rw [up1_ne (by simp), up1_ne (by simp)]; exact c2
        · rw [up1_ne (by simp), up1_ne (by simp)]; exact c3
        · rw [up1_2, up1_2, up2_eq]
        · rw [up1_ne (by simp), up1_eq]
      unfold bX11_readsWord_33
      refine mfine0 a2 ?_
      refine ⟨fun q => absurd q (by show ¬ nI 1 = nI 0; rw [eqI (by omega) (by omega)]; omega), fun _ => ?_⟩
      rw [a4]
      refine mbyteAt hm (by omega) ?_
      rw [eb]
      refine misL (by have := ht (i + k); omega) ?_
      rw [hl]
      refine ⟨fun q => absurd q (by show ¬ nI 1 = nI 0; rw [eqI (by omega) (by omega)]; omega), fun _ => ?_⟩
      rw [a6]
      refine ⟨fun q => ?_, fun q => ?_⟩
      · have hk8 : k ≠ 8 := fun z => q (by rw [z]; rfl)
        exact h72 m a1 (by rw [if_pos (by omega)]; exact a2) (by rw [if_pos (by omega)]; exact a3) a4 a5 a6
      · have hk8 : k = 8 := (eqI (by omega) (by omega)).mp (show nI k = nI 8 from q)
        refine mwrong0 a2 ?_
        refine h72 _ ((a1.u1 rfl).u1 rfl) (by rw [up1_ne (by simp), up1_eq, if_neg (by omega)]; rfl) (by rw [up1_eq, if_neg (by omega), a4, hk8]) (by rw [up1_ne (by simp), up1_ne (by simp)]; exact a4) a5 (by rw [up1_ne (by simp), up1_ne (by simp)]; exact a6)
    · rintro m L ⟨a1, a2, a3, a4, a5, a6⟩
      have hm : MT t n m := h.kp a1 rfl rfl
      unfold bX11_readsWord_33
      by_cases h9 : i + 8 < wE t i n
      · have e9 : N = 9 := by omega
        rw [e9, if_neg (by omega)] at a2 a3
        refine mfine1 a2 (by omega) (by omega) ?_
        exact ⟨fun _ => hC h9 m a1 a2 a3, fun q => absurd rfl q⟩
      · have e9 : N = wE t i n - i := by omega
        have e10 : i + (wE t i n - i) = wE t i n := by omega
        rw [e9] at a2 a3 a4 a5 a6
        rw [if_pos (by omega)] at a2 a3
        rw [e10] at a4
        refine mfine0 a2 ?_
        refine ⟨fun q => absurd q (by show ¬ nI 1 = nI 0; rw [eqI (by omega) (by omega)]; omega), fun _ => ?_⟩
        rw [a4]
        refine mbyteAt hm (by omega) ?_
        refine misLo (bt_lt ht) ?_
        have eL : isLo (bt t n (wE t i n)) = false := by
          unfold bt
          by_cases z : wE t i n < n
          · rw [if_pos z]
            rcases w4 with w4 | w4
            · omega
            · exact w4
          · rw [if_neg z]; rfl
        rw [eL]
        exact ⟨fun _ => hB e (by omega) m a1 a2 a3 a4 a5 a6, fun q => absurd rfl q⟩
  · have ew : wE t i n = i := by omega
    have eL : isLo (bt t n i) = false := by
      unfold bt
      by_cases z : i < n
      · rw [if_pos z]
        rcases w4 with w4 | w4
        · omega
        · rw [ew] at w4; exact w4
      · rw [if_neg z]; rfl
    rw [eL]
    refine ⟨fun q => absurd rfl q, fun _ => ?_⟩
    rw [m2a]
    refine mwrong0 m2f ?_
    refine ⟨1, ?_⟩
    show bX11_readsWord_33 Q (lp (fun L s => bX11_readsWord_33 Q L s) 0) _
    unfold bX11_readsWord_33
    refine mfine1 (f := 1) (by rw [up1_ne (by simp), up1_eq]; rfl) (by omega) (by omega) ?_
    refine ⟨fun _ => ?_, fun q => absurd rfl q⟩
    exact hA ew _ ((k2.u1 rfl).u1 rfl) (by rw [up1_ne (by simp), up1_eq]; rfl) up1_eq
