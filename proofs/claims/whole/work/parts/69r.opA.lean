/-! PURE: operations, the class, first part -/
theorem CI.v {P : Nat → Nat → Bool} {S : St} {M M' : Mem} (h : CI S M) (k : Kp P M M') (hP : ∀ c i, pSC c i = true → P c i = true) : CI S M' := h.kp (k.wk hP)
theorem MI.v {P : Nat → Nat → Bool} {S : St} {M M' : Mem} (h : MI S M) (k : Kp P M M') (hP : ∀ c i, pSM c i = true → P c i = true) : MI S M' := h.kp (k.wk hP)
theorem c6S (c i : Nat) (h : pSC c i = true) : P6 c i = true := by unfold pSC at h; unfold P6; simp at h ⊢; omega
theorem c6R (c i : Nat) (h : pRf c i = true) : P6 c i = true := by unfold pRf at h; unfold P6; simp at h ⊢; omega
theorem cRS (j c i : Nat) (h : pSC c i = true) : pRk j c i = true := by unfold pSC at h; unfold pRk; simp at h ⊢; omega
theorem cRR (j c i : Nat) (h : pRf c i = true) : pRk j c i = true := by unfold pRf at h; unfold pRk; simp at h ⊢; omega
theorem cWS (c i : Nat) (h : pSC c i = true) : pWd c i = true := by unfold pSC at h; unfold pWd; simp at h ⊢; omega
theorem cWR (c i : Nat) (h : pRf c i = true) : pWd c i = true := by unfold pRf at h; unfold pWd; simp at h ⊢; omega
theorem cHS (c i : Nat) (h : pSC c i = true) : pHt c i = true := by unfold pSC at h; unfold pHt; simp at h ⊢; omega
theorem cHR (c i : Nat) (h : pRf c i = true) : pHt c i = true := by unfold pRf at h; unfold pHt; simp at h ⊢; omega
theorem mLS (c i : Nat) (h : pSM c i = true) : kL c i = true := by unfold pSM at h; unfold kL; simp at h ⊢; omega
theorem mLR (c i : Nat) (h : pCl c i = true) : kL c i = true := by unfold pCl at h; unfold kL; simp at h ⊢; omega
theorem mAS (c i : Nat) (h : pSM c i = true) : kA c i = true := by unfold pSM at h; unfold kA; simp at h ⊢; omega
theorem mAR (c i : Nat) (h : pCl c i = true) : kA c i = true := by unfold pCl at h; unfold kA; simp at h ⊢; omega
theorem mHS (c i : Nat) (h : pSM c i = true) : kHt c i = true := by unfold pSM at h; unfold kHt; simp at h ⊢; omega
theorem mHR (c i : Nat) (h : pCl c i = true) : kHt c i = true := by unfold pCl at h; unfold kHt; simp at h ⊢; omega
def toldV (S : St) : Nat → Nat
  | 0 => keptN (tD S)
  | 1 => goneN (tD S)
  | 2 => (tW S).length
  | 3 => allP (tD S) (tW S).length
  | 4 => allK (tD S) (tZ S) (tW S).length
  | 5 => bitA (tD S) (tZ S) (tW S).length
  | 6 => tZ S
  | 7 => sN (tK S)
  | 8 => qP (tK S)
  | _ => (tD S).length
def oTold (S : St) (x : Int32) : Rs := match ixr x 0 10 with
  | none => rfs S 2
  | some j => okR S (nI (toldV S j))
theorem c_told {S : St} {M : Mem} (h : CI S M) (hS : SW S) {Q : Int32 → Mem → Prop} {K : String → Mem → Prop} (x : Int32) (k : CE (oTold S x) M Q K) : pX10_told M x Q K := by
  obtain ⟨s1, s2, hD, hW, hK, s5, s6, s7⟩ := id hS
  obtain ⟨i1, i2, i3, i4, i5, hC, hw, hq, hz⟩ := id h
  have hkn := hD.2.1
  have hdn := hD.1
  unfold oTold at k
  unfold pX10_told
  refine cneed (lo := 0) (m := 9) rfl rfl (by omega) (by omega) (fun j _ hj e ej => ?_) (fun ej => ?_)
  · rw [ej] at k
    subst e
    rcases (show j = 0 ∨ j = 1 ∨ j = 2 ∨ j = 3 ∨ j = 4 ∨ j = 5 ∨ j = 6 ∨ j = 7 ∨ j = 8 ∨ j = 9 by omega) with rfl | rfl | rfl | rfl | rfl | rfl | rfl | rfl | rfl | rfl
    · try simp (disch := omega) only [li, nO_n, adI, mlI, tnI, vpI, ltI, leI, eqI, forall_eq, leT, leF, ltT, ltF, eqT, eqF, true_and, and_true, false_implies, true_implies, forall_const, not_true_eq_false, not_false_eq_true, implies_true, hC.kept]
      exact k.ok Kp.rf h
    · try simp (disch := omega) only [li, nO_n, adI, mlI, tnI, vpI, ltI, leI, eqI, forall_eq, leT, leF, ltT, ltF, eqT, eqF, true_and, and_true, false_implies, true_implies, forall_const, not_true_eq_false, not_false_eq_true, implies_true, hC.gone]
      exact k.ok Kp.rf h
    · try simp (disch := omega) only [li, nO_n, adI, mlI, tnI, vpI, ltI, leI, eqI, forall_eq, leT, leF, ltT, ltF, eqT, eqF, true_and, and_true, false_implies, true_implies, forall_const, not_true_eq_false, not_false_eq_true, implies_true, hw.1]
      exact k.ok Kp.rf h
    · try simp (disch := omega) only [li, nO_n, adI, mlI, tnI, vpI, ltI, leI, eqI, forall_eq, leT, leF, ltT, ltF, eqT, eqF, true_and, and_true, false_implies, true_implies, forall_const, not_true_eq_false, not_false_eq_true, implies_true]
      exact callPostings hC hD hw.1 (k.ok Kp.rf h)
    · try simp (disch := omega) only [li, nO_n, adI, mlI, tnI, vpI, ltI, leI, eqI, forall_eq, leT, leF, ltT, ltF, eqT, eqF, true_and, and_true, false_implies, true_implies, forall_const, not_true_eq_false, not_false_eq_true, implies_true, hz]
      exact callBlocks hC hD hw.1 s5 s6 (k.ok Kp.rf h)
    · try simp (disch := omega) only [li, nO_n, adI, mlI, tnI, vpI, ltI, leI, eqI, forall_eq, leT, leF, ltT, ltF, eqT, eqF, true_and, and_true, false_implies, true_implies, forall_const, not_true_eq_false, not_false_eq_true, implies_true, hz]
      exact callBits hC hD hw.1 s5 s6 (fun M' kk => k.ok (kk.wk c6R) (h.v kk c6S))
    · try simp (disch := omega) only [li, nO_n, adI, mlI, tnI, vpI, ltI, leI, eqI, forall_eq, leT, leF, ltT, ltF, eqT, eqF, true_and, and_true, false_implies, true_implies, forall_const, not_true_eq_false, not_false_eq_true, implies_true, hz]
      exact k.ok Kp.rf h
    · try simp (disch := omega) only [li, nO_n, adI, mlI, tnI, vpI, ltI, leI, eqI, forall_eq, leT, leF, ltT, ltF, eqT, eqF, true_and, and_true, false_implies, true_implies, forall_const, not_true_eq_false, not_false_eq_true, implies_true, hq.n]
      exact k.ok Kp.rf h
    · try simp (disch := omega) only [li, nO_n, adI, mlI, tnI, vpI, ltI, leI, eqI, forall_eq, leT, leF, ltT, ltF, eqT, eqF, true_and, and_true, false_implies, true_implies, forall_const, not_true_eq_false, not_false_eq_true, implies_true, hq.pa]
      exact k.ok Kp.rf h
    · try simp (disch := omega) only [li, nO_n, adI, mlI, tnI, vpI, ltI, leI, eqI, forall_eq, leT, leF, ltT, ltF, eqT, eqF, true_and, and_true, false_implies, true_implies, forall_const, not_true_eq_false, not_false_eq_true, implies_true, hC.n]
      exact k.ok Kp.rf h
  · rw [ej] at k
    exact k.no2 Kp.rf h
def docV (S : St) (d : Nat) : Nat → Nat
  | 0 => dL (tD S) d
  | 1 => bothN (tD S) d d (tW S).length
  | 2 => if dS (tD S) d = 2 then 1 else 0
  | 3 => mostW (tD S) d (tW S).length
  | _ => cnt (tD S) (mostW (tD S) d (tW S).length) d
def oDoc (S : St) (x y : Int32) : Rs := match dix (tD S) x with
  | none => rfs S 1
  | some d => match ixr y 0 5 with
    | none => rfs S 2
    | some j => okR S (nI (docV S d j))
def oAt (S : St) (x y : Int32) : Rs := match dix (tD S) x with
  | none => rfs S 1
  | some d => match ixr y 0 (dL (tD S) d) with
    | none => okR S nO
    | some p => okR S (nI (dT (tD S) d p))
def wordV (S : St) (w : Nat) : Nat → Nat
  | 0 => pN (tD S) w
  | 1 => often (tD S) w (pN (tD S) w)
  | 2 => bkN (pN (tD S) w) (tZ S)
  | 3 => topR (tD S) w 0 (pN (tD S) w)
  | 4 => rare (tD S) w
  | 5 => bitL (tD S) w (tZ S) (bkN (pN (tD S) w) (tZ S))
  | _ => (wD (tW S) w).length
def oWord (S : St) (x y : Int32) : Rs := match ixr x 0 (tW S).length with
  | none => rfs S 1
  | some w => match ixr y 0 7 with
    | none => rfs S 2
    | some j => okR S (nI (wordV S w j))
def oLetter (S : St) (x y : Int32) : Rs := match ixr x 0 (tW S).length with
  | none => rfs S 1
  | some w => match ixr y 0 (wD (tW S) w).length with
    | none => okR S nO
    | some j => okR S (nI (letN (tW S) w j - 1))
def oCommon (S : St) (x : Int32) : Rs := match ixr x 0 (tW S).length with
  | none => rfs S 1
  | some n => okR S (nI (comW (tD S) (tW S).length n))
def oAlike (S : St) (x y : Int32) : Rs := match dix (tD S) x with
  | none => rfs S 1
  | some d => match dix (tD S) y with
    | none => rfs S 1
    | some e => okR S (nI (bothN (tD S) d e (tW S).length))
def oWhy (S : St) (x : Int32) : Rs := match dix (tD S) x with
  | none => rfs S 1
  | some d => okR S (nI (why (tD S) (tK S) none d))
def oScore (S : St) (x : Int32) : Rs := match dix (tD S) x with
  | none => rfs S 1
  | some d => okR S (nI (total (tD S) (tK S) none d))
def oNear (S : St) (x : Int32) : Rs := match dix (tD S) x with
  | none => rfs S 1
  | some d => okR S (nI (near (tD S) (tK S) none d))
def oWindow (S : St) (x y : Int32) : Rs := match dix (tD S) x with
  | none => rfs S 1
  | some d => match ixr y 0 2 with
    | none => rfs S 2
    | some j => okR S (if j = 0 then nI (win (tD S) (tK S) d).1 - nI 1 else nI (win (tD S) (tK S) d).2)
def oAnswers (S : St) : Rs := okR S (nI (rN (tD S) (tK S) none))
def oAnswer (S : St) (x y : Int32) : Rs := match ixr x 0 (rN (tD S) (tK S) none) with
  | none => rfs S 1
  | some n => match ixr y 0 2 with
    | none => rfs S 2
    | some j => okR S (nI (if j = 0 then (rA (tD S) (tK S) none n).1 else (rA (tD S) (tK S) none n).2))
def plcN (n : Nat) (a : Nat → Nat × Nat) (d : Nat) : Nat := ffn (fun k => (a k).1 == d) 0 n
def plcI (n : Nat) (a : Nat → Nat × Nat) (d : Nat) : Int32 := if plcN n a d = n then nO else nI (plcN n a d)
def oPlace (S : St) (x : Int32) : Rs := match dix (tD S) x with
  | none => rfs S 1
  | some d => okR S (plcI (rN (tD S) (tK S) none) (rA (tD S) (tK S) none) d)
def oPoints (S : St) (x y : Int32) : Rs := match dix (tD S) x with
  | none => rfs S 1
  | some d => match ixr y 0 (sN (tK S)) with
    | none => okR S nO
    | some i => okR S (nI (pts (tD S) (tK S) i d))
def oPhrase (S : St) (x y : Int32) : Rs := match dix (tD S) x with
  | none => rfs S 1
  | some d => match ixr y 0 (fN (tK S)) with
    | none => okR S nO
    | some j => okR S (nI (phN (tD S) (tK S) j d))
theorem oI_0 : oI none = nO := rfl
theorem lo0 : ∀ i : Nat, (none : Option Nat) = some i → i < 2147483648 := fun i e => by cases e
theorem c_document {S : St} {M : Mem} (h : CI S M) (hS : SW S) {Q : Int32 → Mem → Prop} {K : String → Mem → Prop} (x y : Int32) (k : CE (oDoc S x y) M Q K) : pX10_document M x y Q K := by
  obtain ⟨s1, s2, hD, hW, hK, s5, s6, s7⟩ := id hS
  obtain ⟨i1, i2, i3, i4, i5, hC, hw, hq, hz⟩ := id h
  have hkn := hD.2.1
  have hdn := hD.1
  unfold oDoc at k
  unfold pX10_document
  refine cneedD h hS (fun d d1 d2 e ed => ?_) (fun ed => by rw [ed] at k; exact k.no1 Kp.rf h)
  rw [ed] at k
  dsimp only at k
  subst e
  have hk0 := s7 (by omega)
  refine cneed (lo := 0) (m := 4) rfl rfl (by omega) (by omega) (fun j _ hj e ej => ?_) (fun ej => by rw [ej] at k; exact k.no2 Kp.rf h)
  rw [ej] at k
  subst e
  have hm := mostW_lt (tD S) d (tW S).length hk0
  rcases (show j = 0 ∨ j = 1 ∨ j = 2 ∨ j = 3 ∨ j = 4 by omega) with rfl | rfl | rfl | rfl | rfl
  · try simp (disch := omega) only [li, nO_n, adI, mlI, tnI, vpI, ltI, leI, eqI, forall_eq, leT, leF, ltT, ltF, eqT, eqF, true_and, and_true, false_implies, true_implies, forall_const, not_true_eq_false, not_false_eq_true, implies_true, hC.len]
    exact k.ok Kp.rf h
  · try simp (disch := omega) only [li, nO_n, adI, mlI, tnI, vpI, ltI, leI, eqI, forall_eq, leT, leF, ltT, ltF, eqT, eqF, true_and, and_true, false_implies, true_implies, forall_const, not_true_eq_false, not_false_eq_true, implies_true]
    unfold pX4_unlikeWords
    exact cwordsInBoth hC hD hw.1 (by omega) (by omega) (k.ok Kp.rf h)
  · try simp (disch := omega) only [li, nO_n, adI, mlI, tnI, vpI, ltI, leI, eqI, forall_eq, leT, leF, ltT, ltF, eqT, eqF, true_and, and_true, false_implies, true_implies, forall_const, not_true_eq_false, not_false_eq_true, implies_true]
    refine cisGone hC hD (by omega) ?_
    have : Q (nI (if dS (tD S) d = 2 then 1 else 0)) M := k.ok Kp.rf h
    by_cases e2 : dS (tD S) d = 2
    · rw [if_pos e2] at this ⊢
      exact s1b this
    · rw [if_neg e2] at this ⊢
      exact s0b this
  · try simp (disch := omega) only [li, nO_n, adI, mlI, tnI, vpI, ltI, leI, eqI, forall_eq, leT, leF, ltT, ltF, eqT, eqF, true_and, and_true, false_implies, true_implies, forall_const, not_true_eq_false, not_false_eq_true, implies_true]
    exact cmostOften hC hD hw.1 hk0 (by omega) (k.ok Kp.rf h)
  · try simp (disch := omega) only [li, nO_n, adI, mlI, tnI, vpI, ltI, leI, eqI, forall_eq, leT, leF, ltT, ltF, eqT, eqF, true_and, and_true, false_implies, true_implies, forall_const, not_true_eq_false, not_false_eq_true, implies_true]
    refine cmostOften hC hD hw.1 hk0 (by omega) ?_
    try simp (disch := omega) only [li, nO_n, adI, mlI, tnI, vpI, ltI, leI, eqI, forall_eq, leT, leF, ltT, ltF, eqT, eqF, true_and, and_true, false_implies, true_implies, forall_const, not_true_eq_false, not_false_eq_true, implies_true, hC.cn]
    exact k.ok Kp.rf h
theorem c_at {S : St} {M : Mem} (h : CI S M) (hS : SW S) {Q : Int32 → Mem → Prop} {K : String → Mem → Prop} (x y : Int32) (k : CE (oAt S x y) M Q K) : pX10_at M x y Q K := by
  obtain ⟨s1, s2, hD, hW, hK, s5, s6, s7⟩ := id hS
  obtain ⟨i1, i2, i3, i4, i5, hC, hw, hq, hz⟩ := id h
  have hkn := hD.2.1
  have hdn := hD.1
  unfold oAt at k
  unfold pX10_at
  refine cneedD h hS (fun d d1 d2 e ed => ?_) (fun ed => by rw [ed] at k; exact k.no1 Kp.rf h)
  rw [ed] at k
  dsimp only at k
  subst e
  have hl := hD.dl d
  have hlen := hC.len d
  rcases ixr_c y (lo := 0) (n := dL (tD S) d) (by omega) (by omega) with ⟨e, h1⟩ | ⟨j, -, j2, e, ej⟩
  · rw [e] at k
    have hq := k.ok Kp.rf h
    refine ⟨fun _ => hq, fun c1 => ⟨(vpI (by omega)).mpr (by omega), ?_⟩⟩
    rw [tnI (by omega), hlen]
    refine ⟨fun c2 => ?_, fun _ => hq⟩
    rcases h1 with h1 | h1
    · exact absurd h1 c1
    · exact absurd c2 (le_not_lt h1)
  · rw [ej] at k
    subst e
    have hq := k.ok Kp.rf h
    try simp (disch := omega) only [li, nO_n, adI, mlI, tnI, vpI, ltI, leI, eqI, forall_eq, leT, leF, ltT, ltF, eqT, eqF, true_and, and_true, false_implies, true_implies, forall_const, not_true_eq_false, not_false_eq_true, implies_true, hlen, hC.tx]
    exact hq
theorem c_word {S : St} {M : Mem} (h : CI S M) (hS : SW S) {Q : Int32 → Mem → Prop} {K : String → Mem → Prop} (x y : Int32) (k : CE (oWord S x y) M Q K) : pX10_word M x y Q K := by
  obtain ⟨s1, s2, hD, hW, hK, s5, s6, s7⟩ := id hS
  obtain ⟨i1, i2, i3, i4, i5, hC, hw, hq, hz⟩ := id h
  have hkn := hD.2.1
  have hdn := hD.1
  unfold oWord at k
  unfold pX10_word
  refine cneedW h hS (fun w w1 e ed => ?_) (fun ed => by rw [ed] at k; exact k.no1 Kp.rf h)
  rw [ed] at k
  dsimp only at k
  subst e
  refine cneed (lo := 0) (m := 6) rfl rfl (by omega) (by omega) (fun j _ hj e ej => ?_) (fun ej => by rw [ej] at k; exact k.no2 Kp.rf h)
  rw [ej] at k
  subst e
  rcases (show j = 0 ∨ j = 1 ∨ j = 2 ∨ j = 3 ∨ j = 4 ∨ j = 5 ∨ j = 6 by omega) with rfl | rfl | rfl | rfl | rfl | rfl | rfl
  · try simp (disch := omega) only [li, nO_n, adI, mlI, tnI, vpI, ltI, leI, eqI, forall_eq, leT, leF, ltT, ltF, eqT, eqF, true_and, and_true, false_implies, true_implies, forall_const, not_true_eq_false, not_false_eq_true, implies_true, hC.po]
    exact k.ok Kp.rf h
  · try simp (disch := omega) only [li, nO_n, adI, mlI, tnI, vpI, ltI, leI, eqI, forall_eq, leT, leF, ltT, ltF, eqT, eqF, true_and, and_true, false_implies, true_implies, forall_const, not_true_eq_false, not_false_eq_true, implies_true]
    exact cstandsOften hC hD (by omega) (k.ok Kp.rf h)
  · try simp (disch := omega) only [li, nO_n, adI, mlI, tnI, vpI, ltI, leI, eqI, forall_eq, leT, leF, ltT, ltF, eqT, eqF, true_and, and_true, false_implies, true_implies, forall_const, not_true_eq_false, not_false_eq_true, implies_true, hz]
    exact cblocksOf hC hD (by omega) s5 s6 (k.ok Kp.rf h)
  · try simp (disch := omega) only [li, nO_n, adI, mlI, tnI, vpI, ltI, leI, eqI, forall_eq, leT, leF, ltT, ltF, eqT, eqF, true_and, and_true, false_implies, true_implies, forall_const, not_true_eq_false, not_false_eq_true, implies_true]
    exact ctopOf hC hD (by omega) (k.ok Kp.rf h)
  · try simp (disch := omega) only [li, nO_n, adI, mlI, tnI, vpI, ltI, leI, eqI, forall_eq, leT, leF, ltT, ltF, eqT, eqF, true_and, and_true, false_implies, true_implies, forall_const, not_true_eq_false, not_false_eq_true, implies_true]
    exact crareOf hC hD (by omega) (k.ok Kp.rf h)
  · try simp (disch := omega) only [li, nO_n, adI, mlI, tnI, vpI, ltI, leI, eqI, forall_eq, leT, leF, ltT, ltF, eqT, eqF, true_and, and_true, false_implies, true_implies, forall_const, not_true_eq_false, not_false_eq_true, implies_true, hz]
    exact cbitsOf hC hD (by omega) s5 s6 (fun M' kk => k.ok (kk.wk c6R) (h.v kk c6S))
  · try simp (disch := omega) only [li, nO_n, adI, mlI, tnI, vpI, ltI, leI, eqI, forall_eq, leT, leF, ltT, ltF, eqT, eqF, true_and, and_true, false_implies, true_implies, forall_const, not_true_eq_false, not_false_eq_true, implies_true]
    exact clettersOf hw hW w1 (k.ok Kp.rf h)
theorem c_letter {S : St} {M : Mem} (h : CI S M) (hS : SW S) {Q : Int32 → Mem → Prop} {K : String → Mem → Prop} (x y : Int32) (k : CE (oLetter S x y) M Q K) : pX10_letter M x y Q K := by
  obtain ⟨s1, s2, hD, hW, hK, s5, s6, s7⟩ := id hS
  obtain ⟨i1, i2, i3, i4, i5, hC, hw, hq, hz⟩ := id h
  have hkn := hD.2.1
  have hdn := hD.1
  unfold oLetter at k
  unfold pX10_letter
  refine cneedW h hS (fun w w1 e ed => ?_) (fun ed => by rw [ed] at k; exact k.no1 Kp.rf h)
  rw [ed] at k
  dsimp only at k
  subst e
  have hl := (wD_ok hW w1).2.2
  refine cletterOf hw hW w1 y (fun q => ?_) (fun j j2 e => ?_)
  · rcases ixr_c y (lo := 0) (n := (wD (tW S) w).length) (by omega) (by omega) with ⟨e, -⟩ | ⟨j, -, j2, e, ej⟩
    · rw [e] at k; exact k.ok Kp.rf h
    · subst e
      rcases q with q | q
      · exact absurd q (lt0 j (by omega))
      · rw [leI (by omega) (by omega)] at q; omega
  · rcases ixr_c y (lo := 0) (n := (wD (tW S) w).length) (by omega) (by omega) with ⟨e2, -⟩ | ⟨i, -, i2, e2, ei⟩
    · exact absurd e (ixr_n (by omega) e2 j2)
    · rw [e, eqI (by omega) (by omega)] at e2
      subst e2
      rw [ei] at k; exact k.ok Kp.rf h
theorem c_common {S : St} {M : Mem} (h : CI S M) (hS : SW S) {Q : Int32 → Mem → Prop} {K : String → Mem → Prop} (x : Int32) (k : CE (oCommon S x) M Q K) : pX10_common M x Q K := by
  obtain ⟨s1, s2, hD, hW, hK, s5, s6, s7⟩ := id hS
  obtain ⟨i1, i2, i3, i4, i5, hC, hw, hq, hz⟩ := id h
  have hkn := hD.2.1
  have hdn := hD.1
  unfold oCommon at k
  have hk := hw.1
  unfold pX10_common bX10_common_15 bX10_common_19 pX10_refuseMissing
  rcases ixr_c x (lo := 0) (n := (tW S).length) (by omega) (by omega) with ⟨e, h1⟩ | ⟨j, -, j2, e, ej⟩
  · rw [e] at k
    have hk2 := k.no1 Kp.rf h
    refine ⟨fun _ M1 e1 => by subst e1; exact hk2, fun c1 => ⟨fun c2 => ?_, fun _ M1 e1 => by subst e1; exact hk2⟩⟩
    rcases h1 with h1 | h1
    · exact absurd h1 c1
    · rw [hk] at c2; exact absurd c2 (le_not_lt h1)
  · rw [ej] at k
    subst e
    refine ⟨fun c1 => absurd c1 (lt0 j (by omega)), fun _ => ⟨fun _ => ccommon hC hD hk j2 (k.ok Kp.rf h), fun c2 => ?_⟩⟩
    rw [hk, ltI (by omega) (by omega)] at c2; exact absurd j2 c2
theorem c_alike {S : St} {M : Mem} (h : CI S M) (hS : SW S) {Q : Int32 → Mem → Prop} {K : String → Mem → Prop} (x y : Int32) (k : CE (oAlike S x y) M Q K) : pX10_alike M x y Q K := by
  obtain ⟨s1, s2, hD, hW, hK, s5, s6, s7⟩ := id hS
  obtain ⟨i1, i2, i3, i4, i5, hC, hw, hq, hz⟩ := id h
  have hkn := hD.2.1
  have hdn := hD.1
  unfold oAlike at k
  unfold pX10_alike
  refine cneedD h hS (fun d d1 d2 e ed => ?_) (fun ed => by rw [ed] at k; exact k.no1 Kp.rf h)
  rw [ed] at k
  dsimp only at k
  subst e
  refine cneedD h hS (fun d' d1' d2' e ed' => ?_) (fun ed' => by rw [ed'] at k; exact k.no1 Kp.rf h)
  rw [ed'] at k
  subst e
  exact cwordsInBoth hC hD hw.1 (by omega) (by omega) (k.ok Kp.rf h)
theorem c_why {S : St} {M : Mem} (h : CI S M) (hS : SW S) {Q : Int32 → Mem → Prop} {K : String → Mem → Prop} (x : Int32) (k : CE (oWhy S x) M Q K) : pX10_why M x Q K := by
  obtain ⟨s1, s2, hD, hW, hK, s5, s6, s7⟩ := id hS
  obtain ⟨i1, i2, i3, i4, i5, hC, hw, hq, hz⟩ := id h
  have hkn := hD.2.1
  have hdn := hD.1
  unfold oWhy at k
  unfold pX10_why
  refine cneedD h hS (fun d d1 d2 e ed => ?_) (fun ed => by rw [ed] at k; exact k.no1 Kp.rf h)
  rw [ed] at k
  dsimp only at k
  subst e
  exact cwhy hC hq hD hK d1 d2 (lo := none) lo0 (k.ok Kp.rf h)
theorem c_score {S : St} {M : Mem} (h : CI S M) (hS : SW S) {Q : Int32 → Mem → Prop} {K : String → Mem → Prop} (x : Int32) (k : CE (oScore S x) M Q K) : pX10_score M x Q K := by
  obtain ⟨s1, s2, hD, hW, hK, s5, s6, s7⟩ := id hS
  obtain ⟨i1, i2, i3, i4, i5, hC, hw, hq, hz⟩ := id h
  have hkn := hD.2.1
  have hdn := hD.1
  unfold oScore at k
  unfold pX10_score
  refine cneedD h hS (fun d d1 d2 e ed => ?_) (fun ed => by rw [ed] at k; exact k.no1 Kp.rf h)
  rw [ed] at k
  dsimp only at k
  subst e
  exact ctotal hC hq hD hK (by omega) (lo := none) lo0 (k.ok Kp.rf h)
theorem c_near {S : St} {M : Mem} (h : CI S M) (hS : SW S) {Q : Int32 → Mem → Prop} {K : String → Mem → Prop} (x : Int32) (k : CE (oNear S x) M Q K) : pX10_near M x Q K := by
  obtain ⟨s1, s2, hD, hW, hK, s5, s6, s7⟩ := id hS
  obtain ⟨i1, i2, i3, i4, i5, hC, hw, hq, hz⟩ := id h
  have hkn := hD.2.1
  have hdn := hD.1
  unfold oNear at k
  unfold pX10_near
  refine cneedD h hS (fun d d1 d2 e ed => ?_) (fun ed => by rw [ed] at k; exact k.no1 Kp.rf h)
  rw [ed] at k
  dsimp only at k
  subst e
  exact cnear hC hq hD hK (by omega) (lo := none) lo0 (k.ok Kp.rf h)
theorem c_window {S : St} {M : Mem} (h : CI S M) (hS : SW S) {Q : Int32 → Mem → Prop} {K : String → Mem → Prop} (x y : Int32) (k : CE (oWindow S x y) M Q K) : pX10_window M x y Q K := by
  obtain ⟨s1, s2, hD, hW, hK, s5, s6, s7⟩ := id hS
  obtain ⟨i1, i2, i3, i4, i5, hC, hw, hq, hz⟩ := id h
  have hkn := hD.2.1
  have hdn := hD.1
  unfold oWindow at k
  unfold pX10_window
  refine cneedD h hS (fun d d1 d2 e ed => ?_) (fun ed => by rw [ed] at k; exact k.no1 Kp.rf h)
  rw [ed] at k
  dsimp only at k
  subst e
  refine cneed (lo := 0) (m := 1) rfl rfl (by omega) (by omega) (fun j _ hj e ej => ?_) (fun ej => by rw [ej] at k; exact k.no2 Kp.rf h)
  rw [ej] at k
  subst e
  refine cwindow hC hq hD hK d1 (fun M' kk e3 e4 => ?_)
  have hq2 := k.ok (kk.wk cWR) (h.v kk cWS)
  rcases (show j = 0 ∨ j = 1 by omega) with rfl | rfl
  · refine s0a ?_
    rw [e3]; exact hq2
  · refine s1a ?_
    rw [e4]; exact hq2
theorem c_answers {S : St} {M : Mem} (h : CI S M) (hS : SW S) {Q : Int32 → Mem → Prop} {K : String → Mem → Prop} (k : CE (oAnswers S) M Q K) : pX10_answers M Q := by
  obtain ⟨s1, s2, hD, hW, hK, s5, s6, s7⟩ := id hS
  obtain ⟨i1, i2, i3, i4, i5, hC, hw, hq, hz⟩ := id h
  have hkn := hD.2.1
  have hdn := hD.1
  unfold pX10_answers
  refine crank hC hq hD hK (lo := none) lo0 0 (fun M' kk hr => ?_)
  show Q (M'.1 904 0 0) M'
  rw [hr.1]
  exact k.ok (kk.wk (cRR 0)) (h.v kk (cRS 0))
theorem c_answer {S : St} {M : Mem} (h : CI S M) (hS : SW S) {Q : Int32 → Mem → Prop} {K : String → Mem → Prop} (x y : Int32) (k : CE (oAnswer S x y) M Q K) : pX10_answer M x y Q K := by
  obtain ⟨s1, s2, hD, hW, hK, s5, s6, s7⟩ := id hS
  obtain ⟨i1, i2, i3, i4, i5, hC, hw, hq, hz⟩ := id h
  have hkn := hD.2.1
  have hdn := hD.1
  unfold oAnswer at k
  unfold pX10_answer
  refine crank hC hq hD hK (lo := none) lo0 0 (fun M' kk hr => ?_)
  have hle : rN (tD S) (tK S) none ≤ (tD S).length := rk_le _ _ _ _
  have h2 := h.v kk (cRS 0)
  have kr := kk.wk (cRR 0)
  rw [hr.1]
  unfold bX10_answer_23 pX10_refuseMissing bX10_answer_27
  rcases ixr_c x (lo := 0) (n := rN (tD S) (tK S) none) (by omega) (by omega) with ⟨e, h1⟩ | ⟨n, -, n2, e, en⟩
  · rw [e] at k
    have hk2 := k.no1 kr h2
    refine ⟨fun _ M1 e1 => by subst e1; exact hk2, fun c1 => ⟨fun c2 => ?_, fun _ M1 e1 => by subst e1; exact hk2⟩⟩
    rcases h1 with h1 | h1
    · exact absurd h1 c1
    · exact absurd c2 (le_not_lt h1)
  · rw [en] at k
    subst e
    refine ⟨fun c1 => absurd c1 (lt0 n (by omega)), fun _ => ⟨fun _ => ?_, fun c2 => ?_⟩⟩
    · refine cneed (lo := 0) (m := 1) rfl rfl (by omega) (by omega) (fun j _ hj e ej => ?_) (fun ej => by rw [ej] at k; exact k.no2 kr h2)
      rw [ej] at k
      subst e
      have hq2 := k.ok kr h2
      have ha := hr.2 n n2
      rcases (show j = 0 ∨ j = 1 by omega) with rfl | rfl
      · refine s0a ⟨(vpI (by omega)).mpr (by omega), ?_⟩
        rw [tnI (by omega), ha.1]; exact hq2
      · refine s1a ⟨(vpI (by omega)).mpr (by omega), ?_⟩
        rw [tnI (by omega), ha.2]; exact hq2
    · rw [ltI (by omega) (by omega)] at c2; exact absurd n2 c2
theorem c_place {S : St} {M : Mem} (h : CI S M) (hS : SW S) {Q : Int32 → Mem → Prop} {K : String → Mem → Prop} (x : Int32) (k : CE (oPlace S x) M Q K) : pX10_place M x Q K := by
  obtain ⟨s1, s2, hD, hW, hK, s5, s6, s7⟩ := id hS
  obtain ⟨i1, i2, i3, i4, i5, hC, hw, hq, hz⟩ := id h
  have hkn := hD.2.1
  have hdn := hD.1
  unfold oPlace at k
  unfold pX10_place
  refine cneedD h hS (fun d d1 d2 e ed => ?_) (fun ed => by rw [ed] at k; exact k.no1 Kp.rf h)
  rw [ed] at k
  dsimp only at k
  subst e
  refine crank hC hq hD hK (lo := none) lo0 0 (fun M' kk hr => ?_)
  have hle : rN (tD S) (tK S) none ≤ (tD S).length := rk_le _ _ _ _
  have hq2 := k.ok (kk.wk (cRR 0)) (h.v kk (cRS 0))
  refine cplaceOf hr (by omega) (by omega) (fun n hn => by have := (rk_b none hD hK (tD S).length n hn).1; show (rA (tD S) (tK S) none n).1 < 2147483648; unfold rA; omega) (fun n n1 n2 n3 => ?_) (fun n3 => ?_)
  · have : plcN (rN (tD S) (tK S) none) (rA (tD S) (tK S) none) d = n := ffn_at (Nat.zero_le _) (by omega) (fun j _ j2 => beq_eq_false_iff_ne.mpr (n3 j j2)) (Or.inr (beq_iff_eq.mpr n2))
    unfold plcI at hq2
    rw [this, if_neg (by omega)] at hq2
    exact hq2
  · have : plcN (rN (tD S) (tK S) none) (rA (tD S) (tK S) none) d = rN (tD S) (tK S) none := ffn_at (Nat.zero_le _) (Nat.le_refl _) (fun j _ j2 => beq_eq_false_iff_ne.mpr (n3 j j2)) (Or.inl rfl)
    unfold plcI at hq2
    rw [this, if_pos rfl] at hq2
    exact hq2
theorem c_points {S : St} {M : Mem} (h : CI S M) (hS : SW S) {Q : Int32 → Mem → Prop} {K : String → Mem → Prop} (x y : Int32) (k : CE (oPoints S x y) M Q K) : pX10_points M x y Q K := by
  obtain ⟨s1, s2, hD, hW, hK, s5, s6, s7⟩ := id hS
  obtain ⟨i1, i2, i3, i4, i5, hC, hw, hq, hz⟩ := id h
  have hkn := hD.2.1
  have hdn := hD.1
  have hsn := hK.1
  unfold oPoints at k
  unfold pX10_points
  refine cneedD h hS (fun d d1 d2 e ed => ?_) (fun ed => by rw [ed] at k; exact k.no1 Kp.rf h)
  rw [ed] at k
  dsimp only at k
  subst e
  rcases ixr_c y (lo := 0) (n := sN (tK S)) (by omega) (by omega) with ⟨e, h1⟩ | ⟨i, -, i2, e, ei⟩
  · rw [e] at k
    exact chasScored hq rfl hK.1 y (fun j hj q => absurd q (ixr_n (by omega) e hj)) (fun _ => s0b (k.ok Kp.rf h))
  · rw [ei] at k
    subst e
    exact chasScored hq rfl hK.1 _ (fun j hj q => s1b (cpts hC hq hD hK (by omega) i2 (k.ok Kp.rf h))) (fun q => absurd rfl (q i i2))
theorem c_phrase {S : St} {M : Mem} (h : CI S M) (hS : SW S) {Q : Int32 → Mem → Prop} {K : String → Mem → Prop} (x y : Int32) (k : CE (oPhrase S x y) M Q K) : pX10_phrase M x y Q K := by
  obtain ⟨s1, s2, hD, hW, hK, s5, s6, s7⟩ := id hS
  obtain ⟨i1, i2, i3, i4, i5, hC, hw, hq, hz⟩ := id h
  have hkn := hD.2.1
  have hdn := hD.1
  have hfn := hK.2.2.2.1
  unfold oPhrase at k
  unfold pX10_phrase
  refine cneedD h hS (fun d d1 d2 e ed => ?_) (fun ed => by rw [ed] at k; exact k.no1 Kp.rf h)
  rw [ed] at k
  dsimp only at k
  subst e
  rw [hq.fn]
  rcases ixr_c y (lo := 0) (n := fN (tK S)) (by omega) (by omega) with ⟨e, h1⟩ | ⟨j, -, j2, e, ej⟩
  · rw [e] at k
    have hk2 := k.ok Kp.rf h
    refine ⟨fun _ => hk2, fun c1 => ⟨fun c2 => ?_, fun _ => hk2⟩⟩
    rcases h1 with h1 | h1
    · exact absurd h1 c1
    · exact absurd c2 (le_not_lt h1)
  · rw [ej] at k
    subst e
    refine ⟨fun c1 => absurd c1 (lt0 j (by omega)), fun _ => ⟨fun _ => cphN hC hq hD hK (by omega) j2 (k.ok Kp.rf h), fun c2 => ?_⟩⟩
    rw [ltI (by omega) (by omega)] at c2; exact absurd j2 c2
