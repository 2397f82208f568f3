/-! PURE: the class, documents and lists -/
theorem cholds {D : Dc} {kn : Nat} {M : Mem} (h : CD D M) (hD : DW D kn) (x : Int32) {Q : Int32 → Mem → Prop} (hy : ∀ d, d < D.length → dS D d ≠ 3 → x = nI d → Q (nI 1) M) (hn : (∀ d, d < D.length → dS D d ≠ 3 → ¬ x = nI d) → Q (nI 0) M) : pX4_holds M x Q := by
  have hl := hD.1
  unfold pX4_holds
  simp only [li, h.n]
  refine ⟨fun c => hn (fun d hd _ e => by subst e; exact lt0 d (by omega) c), fun c => ⟨fun c2 => hn (fun d hd _ e => by subst e; rw [leI (by omega) (by omega)] at c2; omega), fun c2 => ?_⟩⟩
  rcases ix3 x D.length (by omega) with c3 | c3 | ⟨d, hd, rfl⟩
  · exact absurd c3 c
  · exact absurd c3 c2
  · obtain ⟨-, -, h1, h3, -⟩ := hD.2.2 d hd
    by_cases e : dS D d = 3
    · have := hn (fun d2 hd2 h2 e2 => by rw [eqI (by omega) (by omega)] at e2; subst e2; exact h2 e)
      simp (disch := omega) only [li, nO_n, adI, mlI, tnI, vpI, ltI, leI, eqI, forall_eq, leT, leF, ltT, ltF, eqT, eqF, true_and, and_true, false_implies, true_implies, forall_const, not_true_eq_false, not_false_eq_true, implies_true, h.st, e]
      exact this
    · have := hy d hd e rfl
      simp (disch := omega) only [li, nO_n, adI, mlI, tnI, vpI, ltI, leI, eqI, forall_eq, leT, leF, ltT, ltF, eqT, eqF, true_and, and_true, false_implies, true_implies, forall_const, not_true_eq_false, not_false_eq_true, implies_true, h.st]
      exact this
theorem cisGone {D : Dc} {kn : Nat} {M : Mem} (h : CD D M) (hD : DW D kn) {d : Nat} (hd : d < 64) {Q : Int32 → Mem → Prop} (hQ : Q (nI (if dS D d = 2 then 1 else 0)) M) : pX4_isGone M (nI d) Q := by
  have h3 := hD.ds d
  unfold pX4_isGone
  rcases (show dS D d = 0 ∨ dS D d = 1 ∨ dS D d = 2 ∨ dS D d = 3 by omega) with e | e | e | e <;> (simp [e] at hQ; simp (disch := omega) only [li, nO_n, adI, mlI, tnI, vpI, ltI, leI, eqI, forall_eq, leT, leF, ltT, ltF, eqT, eqF, true_and, and_true, false_implies, true_implies, forall_const, not_true_eq_false, not_false_eq_true, implies_true, h.st, e]; exact hQ)
theorem cgainOf {D : Dc} {kn : Nat} {M : Mem} (h : CD D M) (hD : DW D kn) {w d : Nat} (hw : w < 255) (hd : d < 64) {Q : Int32 → Mem → Prop} (hQ : Q (nI (gain D w d)) M) : pX4_gainOf M (nI w) (nI d) Q := by
  have h1 := hD.cn w d
  have h2 := hD.dl d
  unfold pX4_gainOf
  simp (disch := omega) only [li, nO_n, adI, mlI, tnI, vpI, ltI, leI, eqI, forall_eq, leT, leF, ltT, ltF, eqT, eqF, true_and, and_true, false_implies, true_implies, forall_const, not_true_eq_false, not_false_eq_true, implies_true, h.cn, h.len, dvI]
  exact hQ
theorem crareOf {D : Dc} {kn : Nat} {M : Mem} (h : CD D M) (hD : DW D kn) {w : Nat} (hw : w < 255) {Q : Int32 → Mem → Prop} (hQ : Q (nI (rare D w)) M) : pX4_rareOf M (nI w) Q := by
  have hl := hD.1
  have hp := pN_le D w
  have hk : keptN D ≤ D.length := ctF_le _ _
  unfold pX4_rareOf
  unfold rare at hQ
  by_cases e : pN D w = 0
  · rw [if_pos e] at hQ
    simp (disch := omega) only [li, nO_n, adI, mlI, tnI, vpI, ltI, leI, eqI, forall_eq, leT, leF, ltT, ltF, eqT, eqF, true_and, and_true, false_implies, true_implies, forall_const, not_true_eq_false, not_false_eq_true, implies_true, h.po, e]
    exact hQ
  · rw [if_neg e] at hQ
    simp (disch := omega) only [li, nO_n, adI, mlI, tnI, vpI, ltI, leI, eqI, forall_eq, leT, leF, ltT, ltF, eqT, eqF, true_and, and_true, false_implies, true_implies, forall_const, not_true_eq_false, not_false_eq_true, implies_true, h.po, h.kept, dvI]
    have hdv := Nat.div_le_self (keptN D) (pN D w)
    generalize keptN D / pN D w = v at hQ hdv
    refine lp_rule (fun s => s.1 = M ∧ ∃ a b : Nat, s.2.1 = nI a ∧ s.2.2 = nI b ∧ b ≤ 64 ∧ a + hlv b = 1 + hlv v) (fun s => tn s.2.2) ?_ ⟨rfl, 1, v, rfl, rfl, by omega, rfl⟩
    rintro ⟨m, y1, y2⟩ ⟨rfl, a, b, rfl, rfl, hb, e2⟩ L hL
    unfold bX4_rareOf_25
    rw [hlv] at e2
    by_cases h2 : b ≤ 1
    · rw [if_pos h2] at e2
      simp (disch := omega) only [li, nO_n, adI, mlI, tnI, vpI, ltI, leI, eqI, forall_eq, leT, leF, ltT, ltF, eqT, eqF, true_and, and_true, false_implies, true_implies, forall_const, not_true_eq_false, not_false_eq_true, implies_true]
      have : a = 1 + hlv v := by omega
      rw [this]
      exact hQ
    · rw [if_neg h2] at e2
      simp (disch := omega) only [li, nO_n, adI, mlI, tnI, vpI, ltI, leI, eqI, forall_eq, leT, leF, ltT, ltF, eqT, eqF, true_and, and_true, false_implies, true_implies, forall_const, not_true_eq_false, not_false_eq_true, implies_true, dvI]
      refine hL _ ⟨rfl, a + 1, b / 2, rfl, rfl, by omega, by omega⟩ ?_
      show tn (nI (b / 2)) < tn (nI b)
      rw [tnI (by omega), tnI (by omega)]
      omega
theorem ctopOf {D : Dc} {kn : Nat} {M : Mem} (h : CD D M) (hD : DW D kn) {w : Nat} (hw : w < 255) {Q : Int32 → Mem → Prop} (hQ : Q (nI (topR D w 0 (pN D w))) M) : pX4_topOf M (nI w) Q := by
  have hl := hD.1
  have hp := pN_le D w
  unfold pX4_topOf
  refine lp_fn (g := fun n => (M, nI (topR D w 0 n), nI n)) (Nat.zero_le (pN D w)) (fun n L _ hlt hL => ?_) (fun L => ?_)
  · unfold bX4_topOf_4
    have h1 := pK_lt hlt
    have h2 := topR_le D w 0 n
    have h3 := gain_le D w (pK D w n)
    simp (disch := omega) only [li, nO_n, adI, mlI, tnI, vpI, ltI, leI, eqI, forall_eq, leT, leF, ltT, ltF, eqT, eqF, true_and, and_true, false_implies, true_implies, forall_const, not_true_eq_false, not_false_eq_true, implies_true, h.po, h.li]
    refine cgainOf h hD hw (by omega) ?_
    simp (disch := omega) only [li, nO_n, adI, mlI, tnI, vpI, ltI, leI, eqI, forall_eq, leT, leF, ltT, ltF, eqT, eqF, true_and, and_true, false_implies, true_implies, forall_const, not_true_eq_false, not_false_eq_true, implies_true, mxI]
    have e : topR D w 0 (n + 1) = max (topR D w 0 n) (gain D w (pK D w n)) := by
      show max _ (gain D w (pK D w (0 + n))) = _
      rw [Nat.zero_add]; rfl
    rw [← e]
    exact hL
  · unfold bX4_topOf_4
    simp (disch := omega) only [li, nO_n, adI, mlI, tnI, vpI, ltI, leI, eqI, forall_eq, leT, leF, ltT, ltF, eqT, eqF, true_and, and_true, false_implies, true_implies, forall_const, not_true_eq_false, not_false_eq_true, implies_true, h.po]
    exact hQ
/-- how often a word stands in all -/
def often (D : Dc) (w n : Nat) : Nat := smF (fun k => cnt D w (pK D w k)) n
theorem cstandsOften {D : Dc} {kn : Nat} {M : Mem} (h : CD D M) (hD : DW D kn) {w : Nat} (hw : w < 255) {Q : Int32 → Mem → Prop} (hQ : Q (nI (often D w (pN D w))) M) : pX4_standsOften M (nI w) Q := by
  have hl := hD.1
  have hp := pN_le D w
  unfold pX4_standsOften
  refine lp_fn (g := fun n => (M, nI (often D w n), nI n)) (Nat.zero_le (pN D w)) (fun n L _ hlt hL => ?_) (fun L => ?_)
  · unfold bX4_standsOften_4
    have h1 := pK_lt hlt
    simp (disch := omega) only [li, nO_n, adI, mlI, tnI, vpI, ltI, leI, eqI, forall_eq, leT, leF, ltT, ltF, eqT, eqF, true_and, and_true, false_implies, true_implies, forall_const, not_true_eq_false, not_false_eq_true, implies_true, h.po, h.li, h.cn]
    exact hL
  · unfold bX4_standsOften_4
    simp (disch := omega) only [li, nO_n, adI, mlI, tnI, vpI, ltI, leI, eqI, forall_eq, leT, leF, ltT, ltF, eqT, eqF, true_and, and_true, false_implies, true_implies, forall_const, not_true_eq_false, not_false_eq_true, implies_true, h.po]
    exact hQ
def bothN (D : Dc) (d e n : Nat) : Nat := ctF (fun w => cnt D w d != 0 && cnt D w e != 0) n
theorem cwordsInBoth {D : Dc} {kn : Nat} {M : Mem} (h : CD D M) (hD : DW D kn) (hk : M.1 1001 0 0 = nI kn) {d e : Nat} (hd : d < 64) (he : e < 64) {Q : Int32 → Mem → Prop} (hQ : Q (nI (bothN D d e kn)) M) : pX4_wordsInBoth M (nI d) (nI e) Q := by
  have hkn := hD.2.1
  unfold pX4_wordsInBoth
  refine lp_fn (g := fun n => (M, nI (bothN D d e n), nI n)) (Nat.zero_le kn) (fun n L _ hlt hL => ?_) (fun L => ?_)
  · unfold bX4_wordsInBoth_5 bX4_wordsInBoth_44
    have h1 := hD.cn n d
    have h2 := hD.cn n e
    by_cases e1 : cnt D n d = 0
    · simp [bothN, ctF, e1] at hL
      simp (disch := omega) only [li, nO_n, adI, mlI, tnI, vpI, ltI, leI, eqI, forall_eq, leT, leF, ltT, ltF, eqT, eqF, true_and, and_true, false_implies, true_implies, forall_const, not_true_eq_false, not_false_eq_true, implies_true, hk, h.cn]
      exact hL
    · by_cases e2 : cnt D n e = 0
      · simp [bothN, ctF, e1, e2] at hL
        simp (disch := omega) only [li, nO_n, adI, mlI, tnI, vpI, ltI, leI, eqI, forall_eq, leT, leF, ltT, ltF, eqT, eqF, true_and, and_true, false_implies, true_implies, forall_const, not_true_eq_false, not_false_eq_true, implies_true, hk, h.cn]
        exact hL
      · simp [bothN, ctF, e1, e2] at hL
        simp (disch := omega) only [li, nO_n, adI, mlI, tnI, vpI, ltI, leI, eqI, forall_eq, leT, leF, ltT, ltF, eqT, eqF, true_and, and_true, false_implies, true_implies, forall_const, not_true_eq_false, not_false_eq_true, implies_true, hk, h.cn]
        exact hL
  · unfold bX4_wordsInBoth_5
    simp (disch := omega) only [li, nO_n, adI, mlI, tnI, vpI, ltI, leI, eqI, forall_eq, leT, leF, ltT, ltF, eqT, eqF, true_and, and_true, false_implies, true_implies, forall_const, not_true_eq_false, not_false_eq_true, implies_true, hk]
    exact hQ
/-- the word that a document has most often -/
def mostW (D : Dc) (d : Nat) : Nat → Nat
  | 0 => 0
  | n + 1 => if cnt D (mostW D d n) d < cnt D n d then n else mostW D d n
theorem mostW_lt (D : Dc) (d n : Nat) (hn : 0 < n) : mostW D d n < n := by
  induction n with
  | zero => omega
  | succ n ih =>
    unfold mostW
    by_cases h : cnt D (mostW D d n) d < cnt D n d
    · rw [if_pos h]; omega
    · rw [if_neg h]
      by_cases h0 : n = 0
      · subst h0; show 0 < 1; omega
      · have := ih (by omega); omega
theorem mostW_1 (D : Dc) (d : Nat) : mostW D d 1 = 0 := by
  unfold mostW
  by_cases h : cnt D (mostW D d 0) d < cnt D 0 d
  · rw [if_pos h]
  · rw [if_neg h]; rfl
theorem cmostOften {D : Dc} {kn : Nat} {M : Mem} (h : CD D M) (hD : DW D kn) (hk : M.1 1001 0 0 = nI kn) (hk0 : 0 < kn) {d : Nat} (hd : d < 64) {Q : Int32 → Mem → Prop} (hQ : Q (nI (mostW D d kn)) M) : pX4_mostOften M (nI d) Q := by
  have hkn := hD.2.1
  unfold pX4_mostOften
  have e0 : ((M, 0, 1) : Mem × Int32 × Int32) = (fun n => (M, nI (mostW D d n), nI n)) 1 := by
    show _ = (M, nI (mostW D d 1), nI 1)
    rw [mostW_1]; rfl
  rw [e0]
  refine lp_fn (g := fun n => (M, nI (mostW D d n), nI n)) hk0 (fun n L h1 hlt hL => ?_) (fun L => ?_)
  · unfold bX4_mostOften_4 bX4_mostOften_36
    have h2 := mostW_lt D d n (by omega)
    have h3 := hD.cn n d
    have h4 := hD.cn (mostW D d n) d
    by_cases e : cnt D (mostW D d n) d < cnt D n d
    · have e1 : mostW D d (n + 1) = n := by unfold mostW; rw [if_pos e]
      simp only [e1] at hL
      simp (disch := omega) only [li, nO_n, adI, mlI, tnI, vpI, ltI, leI, eqI, forall_eq, leT, leF, ltT, ltF, eqT, eqF, true_and, and_true, false_implies, true_implies, forall_const, not_true_eq_false, not_false_eq_true, implies_true, hk, h.cn]
      exact hL
    · have e1 : mostW D d (n + 1) = mostW D d n := by rw [mostW, if_neg e]
      simp only [e1] at hL
      simp (disch := omega) only [li, nO_n, adI, mlI, tnI, vpI, ltI, leI, eqI, forall_eq, leT, leF, ltT, ltF, eqT, eqF, true_and, and_true, false_implies, true_implies, forall_const, not_true_eq_false, not_false_eq_true, implies_true, hk, h.cn]
      exact hL
  · unfold bX4_mostOften_4
    simp (disch := omega) only [li, nO_n, adI, mlI, tnI, vpI, ltI, leI, eqI, forall_eq, leT, leF, ltT, ltF, eqT, eqF, true_and, and_true, false_implies, true_implies, forall_const, not_true_eq_false, not_false_eq_true, implies_true, hk]
    exact hQ
def allP (D : Dc) (n : Nat) : Nat := smF (pN D) n
theorem callPostings {D : Dc} {kn : Nat} {M : Mem} (h : CD D M) (hD : DW D kn) (hk : M.1 1001 0 0 = nI kn) {Q : Int32 → Mem → Prop} (hQ : Q (nI (allP D kn)) M) : pX4_allPostings M Q := by
  have hkn := hD.2.1
  unfold pX4_allPostings
  refine lp_fn (g := fun n => (M, nI (allP D n), nI n)) (Nat.zero_le kn) (fun n L _ hlt hL => ?_) (fun L => ?_)
  · unfold bX4_allPostings_4
    simp (disch := omega) only [li, nO_n, adI, mlI, tnI, vpI, ltI, leI, eqI, forall_eq, leT, leF, ltT, ltF, eqT, eqF, true_and, and_true, false_implies, true_implies, forall_const, not_true_eq_false, not_false_eq_true, implies_true, hk, h.po]
    exact hL
  · unfold bX4_allPostings_4
    simp (disch := omega) only [li, nO_n, adI, mlI, tnI, vpI, ltI, leI, eqI, forall_eq, leT, leF, ltT, ltF, eqT, eqF, true_and, and_true, false_implies, true_implies, forall_const, not_true_eq_false, not_false_eq_true, implies_true, hk]
    exact hQ
/-- how many blocks -/
def bkN (n so : Nat) : Nat := (n + so - 1) / so
theorem cblocksOf {D : Dc} {kn : Nat} {M : Mem} (h : CD D M) (hD : DW D kn) {w so : Nat} (hw : w < 255) (h2 : 2 ≤ so) (h8 : so ≤ 8) {Q : Int32 → Mem → Prop} (hQ : Q (nI (bkN (pN D w) so)) M) : pX4_blocksOf M (nI w) (nI so) Q := by
  have hl := hD.1
  have hp := pN_le D w
  unfold pX4_blocksOf
  have e : max so 2 = so := by omega
  simp (disch := omega) only [li, nO_n, adI, mlI, tnI, vpI, ltI, leI, eqI, forall_eq, leT, leF, ltT, ltF, eqT, eqF, true_and, and_true, false_implies, true_implies, forall_const, not_true_eq_false, not_false_eq_true, implies_true, h.po, mxI, e, dvI, sbI]
  exact hQ
def allK (D : Dc) (so n : Nat) : Nat := smF (fun w => bkN (pN D w) so) n
theorem callBlocks {D : Dc} {kn : Nat} {M : Mem} (h : CD D M) (hD : DW D kn) (hk : M.1 1001 0 0 = nI kn) {so : Nat} (h2 : 2 ≤ so) (h8 : so ≤ 8) {Q : Int32 → Mem → Prop} (hQ : Q (nI (allK D so kn)) M) : pX5_allBlocks M (nI so) Q := by
  have hkn := hD.2.1
  unfold pX5_allBlocks
  refine lp_fn (g := fun n => (M, nI (allK D so n), nI n)) (Nat.zero_le kn) (fun n L _ hlt hL => ?_) (fun L => ?_)
  · unfold bX5_allBlocks_4
    simp (disch := omega) only [li, nO_n, adI, mlI, tnI, vpI, ltI, leI, eqI, forall_eq, leT, leF, ltT, ltF, eqT, eqF, true_and, and_true, false_implies, true_implies, forall_const, not_true_eq_false, not_false_eq_true, implies_true, hk]
    refine cblocksOf h hD (by omega) h2 h8 ?_
    simp (disch := omega) only [li, nO_n, adI, mlI, tnI, vpI, ltI, leI, eqI, forall_eq, leT, leF, ltT, ltF, eqT, eqF, true_and, and_true, false_implies, true_implies, forall_const, not_true_eq_false, not_false_eq_true, implies_true]
    exact hL
  · unfold bX5_allBlocks_4
    simp (disch := omega) only [li, nO_n, adI, mlI, tnI, vpI, ltI, leI, eqI, forall_eq, leT, leF, ltT, ltF, eqT, eqF, true_and, and_true, false_implies, true_implies, forall_const, not_true_eq_false, not_false_eq_true, implies_true, hk]
    exact hQ
theorem cwidthOf {M : Mem} {v : Nat} (hv : v < 2147483648) {Q : Int32 → Mem → Prop} (hQ : Q (nI (wid v)) M) : pX5_widthOf M (nI v) Q := by
  unfold pX5_widthOf
  refine lp_rule (fun s => s.1 = M ∧ ∃ a b : Nat, s.2.1 = nI a ∧ s.2.2 = nI b ∧ b < 2147483648 ∧ a + wid b = wid v) (fun s => tn s.2.2) ?_ ⟨rfl, 0, v, rfl, rfl, hv, by omega⟩
  rintro ⟨m, y1, y2⟩ ⟨rfl, a, b, rfl, rfl, hb, e⟩ L hL
  unfold bX5_widthOf_4
  rw [wid] at e
  by_cases h : b = 0
  · rw [if_pos h] at e
    simp (disch := omega) only [li, nO_n, adI, mlI, tnI, vpI, ltI, leI, eqI, forall_eq, leT, leF, ltT, ltF, eqT, eqF, true_and, and_true, false_implies, true_implies, forall_const, not_true_eq_false, not_false_eq_true, implies_true]
    have : a = wid v := by omega
    rw [this]
    exact hQ
  · rw [if_neg h] at e
    simp (disch := omega) only [li, nO_n, adI, mlI, tnI, vpI, ltI, leI, eqI, forall_eq, leT, leF, ltT, ltF, eqT, eqF, true_and, and_true, false_implies, true_implies, forall_const, not_true_eq_false, not_false_eq_true, implies_true, dvI]
    refine hL _ ⟨rfl, a + 1, b / 2, rfl, rfl, by omega, by omega⟩ ?_
    show tn (nI (b / 2)) < tn (nI b)
    rw [tnI (by omega), tnI hb]
    omega
