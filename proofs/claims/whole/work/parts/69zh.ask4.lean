/-! PURE: the class reads a question -/
def pQr (c i : Nat) : Bool := !pC1 c i && decide (¬ (802 ≤ c ∧ c ≤ 806))
def k80 (c _ : Nat) : Bool := decide (¬ (802 ≤ c ∧ c ≤ 806))
theorem pQr_8 (c i : Nat) (h : pQr c i = true) : k80 c i = true := by unfold pQr at h; unfold k80; simp at h ⊢; omega
theorem pQr_k (c i : Nat) (h : pQr c i = true) : pQk c i = true := by unfold pQr at h; unfold pQk; simp at h ⊢; exact h.1
theorem k80_1 (c i : Nat) (h : pC1 c i = true) : k80 c i = true := by unfold pC1 at h; unfold k80; simp at h ⊢; omega
def CQd (W : List Wd) (s : Qd) (M0 M : Mem) : Prop := Kp pQr M0 M ∧ CWr W M ∧ CK (eK s) 1 M ∧ M.1 803 0 0 = nI (eM s) ∧ ((eM s = 1 ∨ eM s = 2 ∨ eM s = 3) → M.1 804 0 0 = nI (eA s)) ∧ ((eM s = 2 ∨ eM s = 3 ∨ eM s = 6) → M.2 806 0 0 = nG (rb 32 (eL s)) ∧ M.1 805 0 0 = nI (eL s).length)
theorem cspellOn {M : Mem} {l : Wd} {c : Nat} (hc : isL c = true) (h5 : M.1 805 0 0 = nI l.length) (h6 : M.2 806 0 0 = nG (rb 32 l)) (hl : l.length ≤ 8) {Q : Int32 → Mem → Prop} (hy : l.length < 8 → Q (nI 0) (up2 (up1 M 805 0 0 (nI (l.length + 1))) 806 0 0 (nG (rb 32 ((c - 96) :: l))))) (hn : ¬ l.length < 8 → Q (nI 1) M) : pX7_spellOn M (nI c) Q := by
  have e8 : nI l.length < (8 : Int32) ↔ l.length < 8 := ltI (b := 8) (by omega) (by omega)
  unfold pX7_spellOn
  rw [h5, e8]
  refine ⟨fun q M2 e2 => ?_, fun q => hn q⟩
  have e2' : M2 = up1 M 805 0 0 (nI (l.length + 1)) := by rw [e2]; exact congrArg (up1 M 805 0 0) (adI _ 1)
  subst e2'
  rw [show (up1 M 805 0 0 (nI (l.length + 1))).2 806 0 0 = nG (rb 32 l) from h6]
  refine cspell hc ?_
  intro M5 e5
  subst e5
  exact hy q
theorem cbeginWord {M : Mem} {o : Option Nat} {md : Int32} (ho : ∀ c, o = some c → c < 256) {Q : Int32 → Mem → Prop} (hy : isLo o = true → ∀ M', Kp k80 M M' → M'.1 803 0 0 = md → M'.1 804 0 0 = M.1 804 0 0 → M'.1 805 0 0 = nI 1 → M'.2 806 0 0 = nG (rb 32 [o.getD 0 - 96]) → Q (nI 0) M') (hn : isLo o = false → Q (nI 1) M) : pX7_beginWord M (oI o) md Q := by
  unfold pX7_beginWord
  refine cisLo (fun c e => by have := ho c e; omega) ?_
  cases o with
  | none => exact s0a (hn rfl)
  | some c =>
    have hc := ho c rfl
    by_cases e : isL c = true
    · have e' : isLo (some c) = true := e
      rw [e']
      refine s1a ?_
      intro M4 e4 M5 e5 M6 e6
      subst e4 e5 e6
      refine cspellOn (l := []) e ?_ ?_ (by show 0 ≤ 8; omega) (fun _ => ?_) (fun q => absurd (by show 0 < 8; omega) q)
      · rw [up1_ne (by simp), up2_1, up1_eq]; rfl
      · rw [up1_2, up2_eq]; rfl
      · refine hy e' _ (((((Kp.rf.u1 rfl).u2 rfl).u1 rfl).u1 rfl).u2 rfl) ?_ ?_ ?_ ?_
        · rw [up2_1, up1_ne (by simp), up1_eq]
        · rw [up2_1, up1_ne (by simp), up1_ne (by simp), up2_1, up1_ne (by simp)]
        · rw [up2_1, up1_eq]; rfl
        · rw [up2_eq]; rfl
    · have e' : isLo (some c) = false := by
        show isL c = false
        cases q : isL c
        · rfl
        · exact absurd q e
      rw [e']
      exact s0a (hn e')
theorem ccanBegin {M : Mem} {c : Nat} (hc : c < 256) {Q : Int32 → Mem → Prop} (hQ : Q (nI (if isL c = true ∨ c = 43 ∨ c = 45 ∨ c = 34 ∨ c = 126 then 1 else 0)) M) : pX7_canBegin M (nI c) Q := by
  have e43 : nI c = (43 : Int32) ↔ c = 43 := eqI (b := 43) (by omega) (by omega)
  have e45 : nI c = (45 : Int32) ↔ c = 45 := eqI (b := 45) (by omega) (by omega)
  have e34 : nI c = (34 : Int32) ↔ c = 34 := eqI (b := 34) (by omega) (by omega)
  have e126 : nI c = (126 : Int32) ↔ c = 126 := eqI (b := 126) (by omega) (by omega)
  unfold pX7_canBegin bX7_canBegin_31
  refine cisL (by omega) ?_
  by_cases e : isL c = true
  · rw [if_pos (Or.inl e)] at hQ
    rw [e]
    exact s1a hQ
  · have ef : isL c = false := by cases q : isL c; rfl; exact absurd q e
    rw [ef]
    refine s0a ?_
    rw [e43, e45, e34, e126]
    refine ⟨fun q => ?_, fun q1 => ⟨fun q => ?_, fun q2 => ⟨fun q => ?_, fun q3 => ⟨fun q4 => ?_, fun q => ?_⟩⟩⟩⟩
    · rw [if_pos (Or.inr (Or.inl q))] at hQ; exact hQ
    · rw [if_pos (Or.inr (Or.inr (Or.inl q)))] at hQ; exact hQ
    · rw [if_pos (Or.inr (Or.inr (Or.inr (Or.inl q))))] at hQ; exact hQ
    · rw [if_neg (show ¬ (isL c = true ∨ c = 43 ∨ c = 45 ∨ c = 34 ∨ c = 126) from fun z => by
        rcases z with z | z | z | z | z
        · exact e z
        · exact q1 z
        · exact q2 z
        · exact q3 z
        · exact q4 z)] at hQ
      exact hQ
    · rw [if_pos (Or.inr (Or.inr (Or.inr (Or.inr q))))] at hQ; exact hQ
theorem CK1.w8 {K : Qc} {M M' : Mem} (h : CK K 1 M) (k : Kp k80 M M') : CK K 1 M' := CK1.kp h (k.wk k80_1)
theorem CWr.w8 {W : List Wd} {M M' : Mem} (h : CWr W M) (k : Kp k80 M M') : CWr W M' := h.kp k rfl rfl
theorem CWr.wk {W : List Wd} {M M' : Mem} (h : CWr W M) (k : Kp pQk M M') : CWr W M' := h.kp k rfl rfl
/-- parts counted -/
theorem cpar {K : Qc} {M : Mem} (h : CK K 1 M) : CK (kPar K) 1 (up1 M 700 1 0 (nI (qP K + 1))) := by
  obtain ⟨a, b, c, d, e', f, g, i, j, l⟩ := h
  refine ⟨up1_eq, ?_, ?_, ?_, ?_, ?_, fun k hk2 => ?_, fun k hk2 => ?_, fun k hk2 => ?_, fun j2 k hj hk2 => ?_⟩
  · rw [up1_ne (by simp)]; exact b
  · rw [up1_ne (by simp)]; exact c
  · rw [up1_ne (by simp)]; exact d
  · rw [up1_ne (by simp)]; exact e'
  · rw [up1_ne (by simp)]; exact f
  · rw [up1_ne (by simp), up1_ne (by simp), up1_ne (by simp)]; exact g k hk2
  · rw [up1_ne (by simp)]; exact i k hk2
  · rw [up1_ne (by simp)]; exact j k hk2
  · rw [up1_ne (by simp)]; exact l j2 k hj hk2
theorem crch {K : Qc} {M : Mem} {r : Nat} (h : CK K 1 M) : CK (kRch K r) 1 (up1 M 711 1 0 (nI r)) := by
  obtain ⟨a, b, c, d, e', f, g, i, j, l⟩ := h
  refine ⟨?_, ?_, ?_, ?_, ?_, up1_eq, fun k hk2 => ?_, fun k hk2 => ?_, fun k hk2 => ?_, fun j2 k hj hk2 => ?_⟩
  · rw [up1_ne (by simp)]; exact a
  · rw [up1_ne (by simp)]; exact b
  · rw [up1_ne (by simp)]; exact c
  · rw [up1_ne (by simp)]; exact d
  · rw [up1_ne (by simp)]; exact e'
  · rw [up1_ne (by simp), up1_ne (by simp), up1_ne (by simp)]; exact g k hk2
  · rw [up1_ne (by simp)]; exact i k hk2
  · rw [up1_ne (by simp)]; exact j k hk2
  · rw [up1_ne (by simp)]; exact l j2 k hj hk2
theorem cbtw {W : List Wd} {s : Qd} {i : Nat} {M0 M : Mem} (k0 : Kp pQr M0 M) (hw : CWr W M) (hkn : W.length ≤ 255) (hK : CK (eK s) 1 M) (h3 : M.1 803 0 0 = nI (eM s)) (hf : eF s = 0) {Q : Int32 → Mem → Prop} {o : Option Nat} (ho : ∀ c, o = some c → c < 256) (hm : eM s = 0) (hq : Q0 W.length (eK s)) (h0 : eF (btw s i o) = 0 → ∀ M', CQd W (btw s i o) M0 M' → Q (nI 0) M') (h1 : eF (btw s i o) ≠ 0 → ∀ M', Kp pQr M0 M' → CWr W M' → Q (nI (eF (btw s i o))) M') : pX7_stepBetween M (oI o) Q := by
  obtain ⟨u1, u2, u3, u4⟩ := id hq
  have hself : CQd W s M0 M := ⟨k0, hw, hK, h3, fun q => by omega, fun q => by omega⟩
  unfold pX7_stepBetween
  cases o with
  | none =>
    refine ⟨fun c => absurd rfl c, fun _ => ?_⟩
    rw [hK.pa]
    unfold btw at h0 h1
    dsimp only at h0 h1
    by_cases e : qP (eK s) = 0
    · rw [if_pos e] at h1
      refine ⟨fun c => absurd (by rw [e]; rfl) c, fun _ => ?_⟩
      exact h1 (by show (1 : Nat) ≠ 0; decide) M k0 hw
    · rw [if_neg e] at h0
      exact ⟨fun _ => h0 hf M hself, fun c => absurd ((eqI (b := 0) (by omega) (by omega)).mp c) e⟩
  | some c =>
    have hc := ho c rfl
    have hn : ¬ nI c = nO := nO_ne (by omega)
    have e32 : nI c = (32 : Int32) ↔ c = 32 := eqI (b := 32) (by omega) (by omega)
    have e126 : nI c = (126 : Int32) ↔ c = 126 := eqI (b := 126) (by omega) (by omega)
    have e43 : nI c = (43 : Int32) ↔ c = 43 := eqI (b := 43) (by omega) (by omega)
    have e45 : nI c = (45 : Int32) ↔ c = 45 := eqI (b := 45) (by omega) (by omega)
    have e34 : nI c = (34 : Int32) ↔ c = 34 := eqI (b := 34) (by omega) (by omega)
    refine ⟨fun _ => ?_, fun q => absurd q hn⟩
    show (¬ nI c = 32 → _) ∧ (nI c = 32 → _)
    rw [e32]
    unfold btw at h0 h1
    dsimp only at h0 h1
    by_cases q32 : c = 32
    · rw [if_pos q32] at h0
      exact ⟨fun z => absurd q32 z, fun _ => h0 hf M hself⟩
    · rw [if_neg q32] at h0 h1
      refine ⟨fun _ => ?_, fun z => absurd z q32⟩
      show (¬ nI c = 126 → _) ∧ (nI c = 126 → _)
      rw [e126, hK.r]
      have l0 : nI (qR (eK s)) ≤ (0 : Int32) ↔ qR (eK s) ≤ 0 := leI (b := 0) (by omega) (by omega)
      rw [l0]
      have h51n : (isL c = true ∨ c = 43 ∨ c = 45 ∨ c = 34 ∨ c = 126) → ∀ y : Int32, ¬ y = 0 → (c = 126 ∧ qR (eK s) ≠ 0) → bX7_stepBetween_51 (nI c) Q M y := fun hcb y hy hz => by
        rw [if_pos (Or.inr hz)] at h1
        unfold bX7_stepBetween_51
        refine ccanBegin hc ?_
        rw [if_pos hcb]
        refine s1b ⟨fun z => absurd z hy, fun _ => ?_⟩
        exact h1 (by show (1 : Nat) ≠ 0; decide) M k0 hw
      have h51 : ¬ (c = 126 ∧ qR (eK s) ≠ 0) → bX7_stepBetween_51 (nI c) Q M 0 := fun hz => by
        unfold bX7_stepBetween_51
        refine ccanBegin hc ?_
        by_cases hcb : isL c = true ∨ c = 43 ∨ c = 45 ∨ c = 34 ∨ c = 126
        · rw [if_pos hcb]
          rw [if_neg (show ¬ (¬ (isL c = true ∨ c = 43 ∨ c = 45 ∨ c = 34 ∨ c = 126) ∨ (c = 126 ∧ qR (eK s) ≠ 0)) from fun z => z.elim (fun z => z hcb) hz)] at h0 h1
          refine s1b ⟨fun _ => ?_, fun z => absurd rfl z⟩
          rw [hK.pa]
          have l6 : nI (qP (eK s)) < (6 : Int32) ↔ qP (eK s) < 6 := ltI (b := 6) (by omega) (by omega)
          rw [l6]
          by_cases e6 : 6 ≤ qP (eK s)
          · rw [if_pos e6] at h1
            exact ⟨fun z => absurd z (by omega), fun _ => h1 (by show (2 : Nat) ≠ 0; decide) M k0 hw⟩
          · rw [if_neg e6] at h0 h1
            refine ⟨fun _ M11 e11 => ?_, fun z => absurd (by omega) z⟩
            have e11' : M11 = up1 M 700 1 0 (nI (qP (eK s) + 1)) := by rw [e11]; exact congrArg (up1 M 700 1 0) (adI _ 1)
            have hK1 : CK (kPar (eK s)) 1 M11 := by rw [e11']; exact cpar hK
            have k1 : Kp pQr M0 M11 := by rw [e11']; exact k0.u1 rfl
            have hw1 : CWr W M11 := by rw [e11']; exact ⟨(up1_ne (by simp)).trans hw.1, hw.2⟩
            clear e11 e11'
            unfold pX7_beginPart bX7_beginPart_48
            intro M1 e1
            have hK2 : CK (kPar (eK s)) 1 M1 := by rw [e1]; exact CK1.w8 hK1 (Kp.rf.u1 rfl)
            have k2 : Kp pQr M0 M1 := by rw [e1]; exact k1.u1 rfl
            have hw2 : CWr W M1 := by rw [e1]; exact hw1.w8 (Kp.rf.u1 rfl)
            have e80 : M1.1 804 0 0 = nI 0 := by rw [e1, up1_eq]; rfl
            clear e1
            rw [e34, e43, e45, e126]
            refine ⟨fun q => ?_, fun q => ?_, fun q => ?_, fun q => ?_, fun q1 q2 q3 q4 => ?_⟩
            · rw [if_neg (show ¬ (c = 43 ∨ c = 45) by omega), if_pos q] at h0
              refine cbeginPhrase hK2 (by have := u3.2.2.2.2.2.1; show fN (eK s) < 6; omega) (fun M4 k4 h4 => ?_)
              intro M5 e5
              subst e5
              refine h0 rfl _ ⟨(k2.tr (k4.wk pQr_k)).u1 rfl, (hw2.wk k4).w8 (Kp.rf.u1 rfl), CK1.w8 h4 (Kp.rf.u1 rfl), by rw [up1_eq]; rfl, fun q => ?_, fun q => ?_⟩
              · rcases q with q | q | q <;> exact absurd (show (5 : Nat) = _ from q) (by decide)
              · rcases q with q | q | q <;> exact absurd (show (5 : Nat) = _ from q) (by decide)
            · rw [if_pos (Or.inl q)] at h0
              intro M12 e12 M13 e13
              subst e12 e13
              refine h0 rfl _ ⟨(k2.u1 rfl).u1 rfl, hw2.w8 ((Kp.rf.u1 rfl).u1 rfl), CK1.w8 hK2 ((Kp.rf.u1 rfl).u1 rfl), by rw [up1_eq]; rfl, fun _ => by rw [up1_ne (by simp), up1_eq]; rfl, fun q => ?_⟩
              rcases q with q | q | q <;> exact absurd (show (1 : Nat) = _ from q) (by decide)
            · rw [if_pos (Or.inr q)] at h0
              intro M12 e12 M13 e13
              subst e12 e13
              refine h0 rfl _ ⟨(k2.u1 rfl).u1 rfl, hw2.w8 ((Kp.rf.u1 rfl).u1 rfl), CK1.w8 hK2 ((Kp.rf.u1 rfl).u1 rfl), by rw [up1_eq]; rfl, fun _ => by rw [up1_ne (by simp), up1_eq]; rfl, fun q => ?_⟩
              rcases q with q | q | q <;> exact absurd (show (1 : Nat) = _ from q) (by decide)
            · rw [if_neg (show ¬ (c = 43 ∨ c = 45) by omega), if_neg (show ¬ c = 34 by omega), if_pos q] at h0
              intro M9 e9
              subst e9
              refine h0 rfl _ ⟨k2.u1 rfl, hw2.w8 (Kp.rf.u1 rfl), CK1.w8 hK2 (Kp.rf.u1 rfl), by rw [up1_eq]; rfl, fun q => ?_, fun q => ?_⟩
              · rcases q with q | q | q <;> exact absurd (show (4 : Nat) = _ from q) (by decide)
              · rcases q with q | q | q <;> exact absurd (show (4 : Nat) = _ from q) (by decide)
            · rw [if_neg (show ¬ (c = 43 ∨ c = 45) by omega), if_neg q1, if_neg q4] at h0
              have hl : isL c = true := by
                rcases hcb with z | z | z | z | z
                · exact z
                · exact absurd z q2
                · exact absurd z q3
                · exact absurd z q1
                · exact absurd z q4
              refine cbeginWord (o := some c) ho (fun _ M' k' a3 a4 a5 a6 => ?_) (fun z => by rw [show isLo (some c) = isL c from rfl, hl] at z; cases z)
              exact h0 rfl _ ⟨k2.tr (k'.wk pQr_8), hw2.w8 k', CK1.w8 hK2 k', a3, fun _ => a4.trans e80, fun _ => ⟨a6, a5⟩⟩
        · rw [if_neg hcb]
          rw [if_pos (Or.inl hcb)] at h1
          exact s0b (h1 (by show (1 : Nat) ≠ 0; decide) M k0 hw)
      refine ⟨fun q => ?_, fun q => ⟨fun q2 => ?_, fun q2 => ?_⟩⟩
      · exact h51 (fun z => q z.1)
      · exact h51 (fun z => z.2 (by omega))
      · exact h51n (Or.inr (Or.inr (Or.inr (Or.inr q)))) 1 n10 ⟨q, by omega⟩
theorem cphr {W : List Wd} {s : Qd} {i : Nat} {M0 M : Mem} (k0 : Kp pQr M0 M) (hw : CWr W M) (hkn : W.length ≤ 255) (hK : CK (eK s) 1 M) (h3 : M.1 803 0 0 = nI (eM s)) (hf : eF s = 0) {Q : Int32 → Mem → Prop} {o : Option Nat} (ho : ∀ c, o = some c → c < 256) (hm : eM s = 5) (hq : Q5 W.length (eK s) 4) (h0 : eF (phr s i o) = 0 → ∀ M', CQd W (phr s i o) M0 M' → Q (nI 0) M') (h1 : eF (phr s i o) ≠ 0 → ∀ M', Kp pQr M0 M' → CWr W M' → Q (nI (eF (phr s i o))) M') : pX7_stepInPhrase M (oI o) Q := by
  obtain ⟨u1, u2, u3, u4, u5, u6, u7⟩ := id hq
  have hfn : fN (eK s) ≤ 6 := Nat.le_trans u4.2.2.2.2.2.1 u1
  have hself : CQd W s M0 M := ⟨k0, hw, hK, h3, fun q => by omega, fun q => by omega⟩
  unfold pX7_stepInPhrase
  cases o with
  | none =>
    have n32 : ¬ (oI none : Int32) = 32 := by decide
    have n34 : ¬ (oI none : Int32) = 34 := by decide
    refine ⟨fun _ => ⟨fun _ => ?_, fun q => absurd q n34⟩, fun q => absurd q n32⟩
    unfold bX7_stepInPhrase_32 bX7_stepInPhrase_52
    refine cisLo (o := none) (fun c e => by cases e) ?_
    refine s0b ?_
    refine cbeginWord (o := none) ho (fun z => by cases z) (fun _ => ?_)
    exact h1 (by show (1 : Nat) ≠ 0; decide) M k0 hw
  | some c =>
    have hc := ho c rfl
    have e32 : nI c = (32 : Int32) ↔ c = 32 := eqI (b := 32) (by omega) (by omega)
    have e34 : nI c = (34 : Int32) ↔ c = 34 := eqI (b := 34) (by omega) (by omega)
    show (¬ nI c = 32 → _) ∧ (nI c = 32 → _)
    rw [e32]
    unfold phr at h0 h1
    dsimp only at h0 h1
    by_cases q32 : c = 32
    · rw [if_pos q32] at h0
      exact ⟨fun z => absurd q32 z, fun _ => h0 hf M hself⟩
    · rw [if_neg q32] at h0 h1
      refine ⟨fun _ => ?_, fun z => absurd z q32⟩
      have h32 : ¬ (c = 34 ∧ 2 ≤ pll (eK s)) → bX7_stepInPhrase_32 (nI c) Q M := fun hz => by
        rw [if_neg hz] at h0 h1
        unfold bX7_stepInPhrase_32 bX7_stepInPhrase_52
        refine cisL (by omega) ?_
        by_cases e : isL c = true
        · rw [if_pos e] at h0 h1
          rw [e]
          refine s1b ?_
          refine cphraseLen hK u5 hfn ?_
          have l4 : nI (pll (eK s)) < (4 : Int32) ↔ pll (eK s) < 4 := ltI (b := 4) (by omega) (by omega)
          rw [l4]
          by_cases e4 : 4 ≤ pll (eK s)
          · rw [if_pos e4] at h1
            exact ⟨fun z => absurd z (by omega), fun _ => h1 (by show (2 : Nat) ≠ 0; decide) M k0 hw⟩
          · rw [if_neg e4] at h0
            refine ⟨fun _ => ?_, fun z => absurd (by omega) z⟩
            refine cbeginWord (o := some c) ho (fun _ M' k' a3 a4 a5 a6 => ?_) (fun z => by rw [show isLo (some c) = isL c from rfl, e] at z; cases z)
            refine h0 rfl _ ⟨k0.tr (k'.wk pQr_8), hw.w8 k', CK1.w8 hK k', a3, fun q => ?_, fun _ => ⟨a6, a5⟩⟩
            rcases q with q | q | q <;> exact absurd (show (6 : Nat) = _ from q) (by decide)
        · have ef : isL c = false := by cases q : isL c; rfl; exact absurd q e
          rw [if_neg e] at h1
          rw [ef]
          refine s0b ?_
          refine cbeginWord (o := some c) ho (fun z => absurd (show isL c = true from z) e) (fun _ => ?_)
          exact h1 (by show (1 : Nat) ≠ 0; decide) M k0 hw
      show (¬ nI c = 34 → _) ∧ (nI c = 34 → _)
      rw [e34]
      refine ⟨fun q => h32 (fun z => q z.1), fun q => ?_⟩
      refine cphraseLen hK u5 hfn ?_
      have l2 : nI (pll (eK s)) < (2 : Int32) ↔ pll (eK s) < 2 := ltI (b := 2) (by omega) (by omega)
      rw [l2]
      refine ⟨fun q2 => h32 (fun z => by omega), fun q2 => ?_⟩
      rw [if_pos ⟨q, by omega⟩] at h0
      intro M6 e6
      subst e6
      refine h0 rfl _ ⟨k0.u1 rfl, hw.w8 (Kp.rf.u1 rfl), CK1.w8 hK (Kp.rf.u1 rfl), by rw [up1_eq]; rfl, fun q => ?_, fun q => ?_⟩
      · rcases q with q | q | q <;> exact absurd (show (0 : Nat) = _ from q) (by decide)
      · rcases q with q | q | q <;> exact absurd (show (0 : Nat) = _ from q) (by decide)
