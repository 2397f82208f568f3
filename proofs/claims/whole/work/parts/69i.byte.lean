/-! PURE: bytes, letters -/
def isL (c : Nat) : Bool := decide (97 ≤ c ∧ c ≤ 122)
def isLo : Option Nat → Bool
  | none => false
  | some c => isL c
theorem isL_iff {c : Nat} : isL c = true ↔ 97 ≤ c ∧ c ≤ 122 := by unfold isL; simp
theorem isL_no {c : Nat} (h : ¬ (97 ≤ c ∧ c ≤ 122)) : isL c = false := by unfold isL; simp only [h, decide_false]
theorem isL_yes {c : Nat} (h : 97 ≤ c ∧ c ≤ 122) : isL c = true := isL_iff.mpr h
theorem cisL {M : Mem} {c : Nat} (hc : c < 2147483648) {Q : Int32 → Mem → Prop} (hQ : Q (nI (b1 (isL c))) M) : pX10_isLetter M (nI c) Q := by
  unfold pX10_isLetter
  by_cases h1 : 97 ≤ c ∧ c ≤ 122
  · rw [isL_yes h1] at hQ
    try simp (disch := omega) only [li, nO_n, adI, mlI, tnI, vpI, ltI, leI, eqI, forall_eq, leT, leF, ltT, ltF, eqT, eqF, true_and, and_true, false_implies, true_implies, forall_const, not_true_eq_false, not_false_eq_true, implies_true]
    exact hQ
  · rw [isL_no h1] at hQ
    by_cases h2 : c < 97
    · try simp (disch := omega) only [li, nO_n, adI, mlI, tnI, vpI, ltI, leI, eqI, forall_eq, leT, leF, ltT, ltF, eqT, eqF, true_and, and_true, false_implies, true_implies, forall_const, not_true_eq_false, not_false_eq_true, implies_true]
      exact hQ
    · try simp (disch := omega) only [li, nO_n, adI, mlI, tnI, vpI, ltI, leI, eqI, forall_eq, leT, leF, ltT, ltF, eqT, eqF, true_and, and_true, false_implies, true_implies, forall_const, not_true_eq_false, not_false_eq_true, implies_true]
      exact hQ
theorem misL {M : Mem} {c : Nat} (hc : c < 2147483648) {Q : Int32 → Mem → Prop} (hQ : Q (nI (b1 (isL c))) M) : pX11_isSmall M (nI c) Q := by
  unfold pX11_isSmall
  by_cases h1 : 97 ≤ c ∧ c ≤ 122
  · rw [isL_yes h1] at hQ
    try simp (disch := omega) only [li, nO_n, adI, mlI, tnI, vpI, ltI, leI, eqI, forall_eq, leT, leF, ltT, ltF, eqT, eqF, true_and, and_true, false_implies, true_implies, forall_const, not_true_eq_false, not_false_eq_true, implies_true]
    exact hQ
  · rw [isL_no h1] at hQ
    by_cases h2 : c < 97
    · try simp (disch := omega) only [li, nO_n, adI, mlI, tnI, vpI, ltI, leI, eqI, forall_eq, leT, leF, ltT, ltF, eqT, eqF, true_and, and_true, false_implies, true_implies, forall_const, not_true_eq_false, not_false_eq_true, implies_true]
      exact hQ
    · try simp (disch := omega) only [li, nO_n, adI, mlI, tnI, vpI, ltI, leI, eqI, forall_eq, leT, leF, ltT, ltF, eqT, eqF, true_and, and_true, false_implies, true_implies, forall_const, not_true_eq_false, not_false_eq_true, implies_true]
      exact hQ
theorem nO_97 : nO < (97 : Int32) := by decide
theorem cisLo {M : Mem} {o : Option Nat} (ho : ∀ c, o = some c → c < 2147483648) {Q : Int32 → Mem → Prop} (hQ : Q (nI (b1 (isLo o))) M) : pX10_isLetter M (oI o) Q := by
  cases o with
  | none => exact ⟨fun _ => hQ, fun c => absurd nO_97 c⟩
  | some c => exact cisL (ho c rfl) hQ
theorem misLo {M : Mem} {o : Option Nat} (ho : ∀ c, o = some c → c < 2147483648) {Q : Int32 → Mem → Prop} (hQ : Q (nI (b1 (isLo o))) M) : pX11_isSmall M (oI o) Q := by
  cases o with
  | none => exact ⟨fun _ => hQ, fun c => absurd nO_97 c⟩
  | some c => exact misL (ho c rfl) hQ
theorem cspell {M : Mem} {l : Wd} {c : Nat} (hc : isL c = true) {Q : Int64 → Mem → Prop} (hQ : Q (nG (rb 32 ((c - 96) :: l))) M) : pX10_spelledOn M (nG (rb 32 l)) (nI c) Q := by
  have h1 := isL_iff.mp hc
  unfold pX10_spelledOn
  have e1 : (nI c - nI 97) + nI 1 = nI (c - 96) := by
    rw [sbI (by omega), adI]; congr 1; omega
  have e : nG (rb 32 l) * 32 + Int32.toInt64 ((nI c - 97) + 1) = nG (rb 32 ((c - 96) :: l)) := by
    show nG (rb 32 l) * nG 32 + Int32.toInt64 ((nI c - nI 97) + nI 1) = _
    rw [e1, toG (by omega), mlG, adG]; rfl
  rw [e]; exact hQ
theorem mspell {l : Wd} {c : Nat} (hc : isL c = true) : (((27 : Int64) * nG (rb 27 l) + Int32.toInt64 (nI c)) - 97) + 1 = nG (rb 27 ((c - 96) :: l)) := by
  have h1 := isL_iff.mp hc
  show ((nG 27 * nG (rb 27 l) + Int32.toInt64 (nI c)) - nG 97) + nG 1 = nG (rb 27 l * 27 + (c - 96))
  rw [toG (by omega), mlG, adG, sbG (by omega), adG]
  congr 1
  rw [Nat.mul_comm]
  omega
theorem Wok_cons {l : Wd} {c : Nat} (hc : isL c = true) (h : Wok l) : Wok ((c - 96) :: l) := by
  have h1 := isL_iff.mp hc
  intro x hx
  rcases List.mem_cons.mp hx with e | hx
  · omega
  · exact h x hx
/-- the letters from i on, the last first -/
def wdr (t : Nat → Nat) (i : Nat) : Nat → Wd
  | 0 => []
  | k + 1 => (t (i + k) - 96) :: wdr t i k
theorem wdr_len (t : Nat → Nat) (i k : Nat) : (wdr t i k).length = k := by
  induction k with
  | zero => rfl
  | succ k ih => show (wdr t i k).length + 1 = k + 1; rw [ih]
theorem wdr_ok {t : Nat → Nat} {i k : Nat} (h : ∀ j, j < k → isL (t (i + j)) = true) : Wok (wdr t i k) := by
  induction k with
  | zero => intro x hx; cases hx
  | succ k ih => exact Wok_cons (h k (by omega)) (ih (fun j hj => h j (by omega)))
/-- where the letters from i on end; where the blanks end -/
def wE (t : Nat → Nat) (i n : Nat) : Nat := ffn (fun p => !isL (t p)) i n
def bE (t : Nat → Nat) (i n : Nat) : Nat := ffn (fun p => decide (t p ≠ 32)) i n
theorem wE_c {t : Nat → Nat} {i n : Nat} (h : i ≤ n) : i ≤ wE t i n ∧ wE t i n ≤ n ∧ (∀ j, i ≤ j → j < wE t i n → isL (t j) = true) ∧ (wE t i n = n ∨ isL (t (wE t i n)) = false) := by
  obtain ⟨h1, h2, h3, h4⟩ := ffn_c (p := fun p => !isL (t p)) h
  refine ⟨h1, h2, fun j j1 j2 => ?_, ?_⟩
  · have := h3 j j1 j2
    simpa using this
  · rcases h4 with h4 | h4
    · exact Or.inl h4
    · exact Or.inr (by unfold wE; simpa using h4)
theorem bE_c {t : Nat → Nat} {i n : Nat} (h : i ≤ n) : i ≤ bE t i n ∧ bE t i n ≤ n ∧ (∀ j, i ≤ j → j < bE t i n → t j = 32) ∧ (bE t i n = n ∨ t (bE t i n) ≠ 32) := by
  obtain ⟨h1, h2, h3, h4⟩ := ffn_c (p := fun p => decide (t p ≠ 32)) h
  refine ⟨h1, h2, fun j j1 j2 => ?_, ?_⟩
  · have := h3 j j1 j2
    simpa using this
  · rcases h4 with h4 | h4
    · exact Or.inl h4
    · exact Or.inr (by unfold bE; simpa using h4)
