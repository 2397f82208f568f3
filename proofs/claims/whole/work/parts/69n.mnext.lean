/-! PURE: the reference reads a word of a document -/
def MPre (W : List Wd) (M : Mem) : Prop := ∀ w, w < W.length → M.2 1216 0 w = nG (rb 27 (wD W w)) ∧ M.1 1215 0 w = nI (wD W w).length
theorem MPre_of {W V e : List Wd} {M : Mem} (h : MWr V M) (hV : V = W ++ e) : MPre W M := fun w hw => by
  have := h.2 w (by rw [hV, List.length_append]; omega)
  rw [hV, wD_pre hw] at this
  exact this
def pMr (d c i : Nat) : Bool := decide (c ≠ 1204 ∧ c ≠ 1206 ∧ c ≠ 1207 ∧ c ≠ 1210 ∧ c ≠ 1215 ∧ c ≠ 1216 ∧ c ≠ 1231 ∧ c ≠ 1232 ∧ ¬ (c = 6212 ∧ i = d))
theorem pMr_w {d c i : Nat} (h : pMr d c i = true) : kWo c i = true := by unfold pMr at h; unfold kWo; simp at h ⊢; omega
theorem pMr_a {d c i : Nat} (h : pMr d c i = true) : kAt c i = true := by unfold pMr at h; unfold kAt; simp at h ⊢; omega
theorem pMr_f {d c i : Nat} (h : c = 1204 ∨ c = 1206 ∨ c = 1207 ∨ c = 1210 ∨ c = 1215 ∨ c = 1216 ∨ c = 1231 ∨ c = 1232 ∨ (c = 6212 ∧ i = d)) : pMr d c i = false := by unfold pMr; simp; omega
def MRd (s : Rd) (i d : Nat) (M0 M : Mem) : Prop := Kp (pMr d) M0 M ∧ M.1 1204 0 0 = nI i ∧ M.1 1206 0 0 = nI 0 ∧ M.1 1207 0 0 = nO ∧ MWr (rW s) M ∧ ∀ k, k < (rT s).length → M.1 6212 d k = nI ((rT s).getD k 0)
def MRf (W0 : List Wd) (f p d : Nat) (M0 M : Mem) : Prop := Kp (pMr d) M0 M ∧ M.1 1206 0 0 = nI f ∧ M.1 1207 0 0 = nI p ∧ MPre W0 M
theorem MWr.wo {W : List Wd} {M M' : Mem} (h : MWr W M) (k : Kp kWo M M') : MWr W M' := ⟨(k.g rfl 0).trans h.1, fun w hw => ⟨(k.g2 rfl w).trans (h.2 w hw).1, (k.g rfl w).trans (h.2 w hw).2⟩⟩
theorem MPre.wo {W : List Wd} {M M' : Mem} (h : MPre W M) (k : Kp kWo M M') : MPre W M' := fun w hw => ⟨(k.g2 rfl w).trans (h w hw).1, (k.g rfl w).trans (h w hw).2⟩
theorem k_wrong {M : Mem} {x y : Int32} : Kp kWo M (up1 (up1 M 1206 0 0 x) 1207 0 0 y) := (Kp.rf.u1 rfl).u1 rfl
theorem mreadsNext {W0 : List Wd} {t : Nat → Nat} {n k d : Nat} {s : Rd} {M0 M : Mem} (hT : MT t n M0) (hI : RI W0 k s) (hs : rF s = 0) (hb : rB s = 0) (hk : k < n) (hl : isL (t k) = true) (hd : d < 64) (h : MRd s k d M0 M) {Q : Mem → Prop} (q1 : (rT s).length = 150 → ∀ M', MRf W0 2 k d M0 M' → Q M') (q2 : (rT s).length < 150 → k + 8 < wE t k n → ∀ M', MRf W0 1 (k + 8) d M0 M' → Q M') (q3 : (rT s).length < 150 → wE t k n ≤ k + 8 → full (rW s) (wdr t k (wE t k n - k)) = true → ∀ M', MRf W0 2 k d M0 M' → Q M') (q4 : (rT s).length < 150 → wE t k n ≤ k + 8 → ¬ full (rW s) (wdr t k (wE t k n - k)) = true → ∀ M', MRd (0, 0, rT s ++ [whP (rW s) (wdr t k (wE t k n - k))], tkW (rW s) (wdr t k (wE t k n - k)), 0, []) (wE t k n) d M0 M' → Q M') : pX11_readsNext M (nI d) (nI (rT s).length) Q := by
  obtain ⟨g1, ⟨e0, g2⟩, g3, g4, g5⟩ := hI hs
  obtain ⟨a1, a2, a3, a4, a5, a6⟩ := h
  have hn := hT.2.2.1
  have hm : MT t n M := hT.kp a1 (by unfold pMr; simp) (by unfold pMr; simp)
  have hkn := g1.1
  have h1n : ¬ nI 1 = (0 : Int32) := by show ¬ nI 1 = nI 0; rw [eqI (by omega) (by omega)]; omega
  unfold pX11_readsNext
  intro v1 ev1
  rw [a2] at ev1
  subst ev1
  by_cases e150 : (rT s).length = 150
  · refine ⟨fun q => absurd (by rw [e150]; rfl) q, fun _ => ?_⟩
    refine mwrong0 a3 ?_
    unfold bX11_readsNext_21
    refine mfine1 (f := 2) (by rw [up1_ne (by simp), up1_eq]; rfl) (by omega) (by omega) ?_
    refine ⟨fun q => absurd rfl q, fun _ => ?_⟩
    exact q1 e150 _ ⟨a1.tr (k_wrong.wk (fun _ _ => pMr_w)), by rw [up1_ne (by simp), up1_eq]; rfl, by rw [up1_eq, a2], (MPre_of a5 g2).wo k_wrong⟩
  · have h15 : (rT s).length < 150 := by omega
    refine ⟨fun _ => ?_, fun q => absurd ((eqI (by omega) (by omega)).mp (show nI (rT s).length = nI 150 from q)) e150⟩
    obtain ⟨w1, w2, w3, w4⟩ := wE_c (t := t) (Nat.le_of_lt hk)
    unfold bX11_readsNext_21
    refine mfine0 a3 ?_
    refine ⟨fun _ => ?_, fun q => absurd q h1n⟩
    refine mreadsWord hm (Nat.le_of_lt hk) a2 a3 (fun q => ?_) (fun w5 w6 M1 b1' b2 b3 b4 b5 b6 => ?_) (fun w5 M1 b1' b2 b3 => ?_)
    · rcases w4 with w4 | w4
      · omega
      · rw [q, hl] at w4; cases w4
    · refine mfine0 b2 ?_
      refine ⟨fun _ => ?_, fun q => absurd q h1n⟩
      obtain ⟨m, em⟩ : ∃ m, m = wE t k n - k := ⟨_, rfl⟩
      rw [← em] at q3 q4 b5 b6
      obtain ⟨l, el⟩ : ∃ l, l = wdr t k m := ⟨_, rfl⟩
      have hl8 : l.length = m := by rw [el]; exact wdr_len t k m
      have hok : Wok l := by rw [el]; exact wdr_ok (fun j hj => w3 (k + j) (by omega) (by omega))
      rw [← el] at q3 q4 b5
      have hW1 : MWr (rW s) M1 := a5.wo b1'
      have hle := whP_le (rW s) l
      have c1 : Kp (pMr d) M0 M1 := a1.tr (b1'.wk (fun _ _ => pMr_w))
      have c6 : ∀ j, j < (rT s).length → M1.1 6212 d j = nI ((rT s).getD j 0) := fun j hj => by rw [b1'.g rfl]; exact a6 j hj
      have c7 : M1.1 1207 0 0 = nO := b3.trans a4
      refine mseek hW1 g1 hok (by omega) b5 ?_
      have h121 : ∀ M2, Kp (pMr d) M0 M2 → M2.1 1204 0 0 = nI (wE t k n) → M2.1 1206 0 0 = nI 0 → M2.1 1207 0 0 = nO → MWr (tkW (rW s) l) M2 → (∀ j, j < (rT s).length → M2.1 6212 d j = nI ((rT s).getD j 0)) → ¬ full (rW s) l = true → bX11_readsNext_121 (nI d) (nI (rT s).length) Q M2 (nI (whP (rW s) l)) := by
        intro M2 d1 d2 d3 d4 d5 d6 hu
        unfold bX11_readsNext_121
        try simp (disch := omega) only [li, nO_n, adI, mlI, tnI, vpI, ltI, leI, eqI, forall_eq, leT, leF, ltT, ltF, eqT, eqF, true_and, and_true, false_implies, true_implies, forall_const, not_true_eq_false, not_false_eq_true, implies_true]
        refine q4 h15 w6 hu _ ⟨d1.u1 (pMr_f (by omega)), ?_, ?_, ?_, ⟨?_, fun w hw => ⟨(d5.2 w hw).1, ?_⟩⟩, fun j hj => ?_⟩
        · rw [up1_ne (by simp)]; exact d2
        · rw [up1_ne (by simp)]; exact d3
        · rw [up1_ne (by simp)]; exact d4
        · rw [up1_ne (by simp)]; exact d5.1
        · rw [up1_ne (by simp)]; exact (d5.2 w hw).2
        · have hj : j < (rT s ++ [whP (rW s) l]).length := hj
          rw [List.length_append] at hj
          have hj : j < (rT s).length + 1 := hj
          show _ = nI ((rT s ++ [whP (rW s) l]).getD j 0)
          by_cases ej : j = (rT s).length
          · rw [ej, up1_eq, gd_r]
          · rw [up1_ne (by simp; exact ej), gd_l (by omega)]; exact d6 j (by omega)
      unfold whI
      by_cases e : whP (rW s) l = (rW s).length
      · rw [if_pos e]
        refine ⟨fun q => absurd rfl q, fun _ => ?_⟩
        rw [hW1.1]
        by_cases e255 : (rW s).length = 255
        · have hu : full (rW s) l = true := by unfold full; exact decide_eq_true ⟨e, by omega⟩
          refine ⟨fun q => absurd (by rw [e255]; rfl) q, fun _ => ?_⟩
          refine mwrong0 b2 ?_
          unfold bX11_readsNext_69
          refine mfine1 (f := 2) (by rw [up1_ne (by simp), up1_eq]; rfl) (by omega) (by omega) ?_
          refine ⟨fun q => absurd rfl q, fun _ => ?_⟩
          exact q3 h15 w6 hu _ ⟨c1.tr (k_wrong.wk (fun _ _ => pMr_w)), by rw [up1_ne (by simp), up1_eq]; rfl, by rw [up1_eq], (MPre_of hW1 g2).wo k_wrong⟩
        · have hu : ¬ full (rW s) l = true := fun q => by have := (full_yes q).2; omega
          refine ⟨fun _ => ?_, fun q => absurd ((eqI (by omega) (by omega)).mp (show nI (rW s).length = nI 255 from q)) e255⟩
          have et : tkW (rW s) l = rW s ++ [l] := by unfold tkW; rw [if_pos e]
          unfold bX11_readsNext_69
          refine mfine0 b2 ?_
          refine ⟨fun _ => ?_, fun q => absurd q h1n⟩
          refine ⟨fun q => absurd rfl q, fun _ => ?_⟩
          have h26 : (up1 (up2 M1 1216 0 (rW s).length (nG (rb 27 l))) 1215 0 (rW s).length (nI m)).1 1210 0 0 = nI (rW s).length := by rw [up1_ne (by simp)]; exact hW1.1
          have h25 : (up2 M1 1216 0 (rW s).length (nG (rb 27 l))).1 1232 0 0 = nI m := b6
          have := h121 (up1 (up1 (up2 M1 1216 0 (rW s).length (nG (rb 27 l))) 1215 0 (rW s).length (nI m)) 1210 0 0 (nI ((rW s).length + 1))) (((c1.u2 (pMr_f (by omega))).u1 (pMr_f (by omega))).u1 (pMr_f (by omega))) (by
            rw [up1_ne (by simp), up1_ne (by simp)]; exact b4) (by
            rw [up1_ne (by simp), up1_ne (by simp)]; exact b2) (by
            rw [up1_ne (by simp), up1_ne (by simp)]; exact c7) (by
            rw [et]
            refine ⟨?_, fun w hw => ?_⟩
            · rw [up1_eq, List.length_append]; rfl
            · rw [wD_app]
              rw [List.length_append] at hw
              have hw : w < (rW s).length + 1 := hw
              by_cases ew : w = (rW s).length
              · rw [if_pos ew, ew, up1_2, up1_2, up2_eq, up1_ne (by simp), up1_eq, hl8]
                exact ⟨rfl, rfl⟩
              · rw [if_neg ew, up1_2, up1_2, up2_ne (by omega), up1_ne (by simp), up1_ne (by simp; exact ew)]
                exact hW1.2 w (by omega)) (fun j hj => by
            rw [up1_ne (by simp), up1_ne (by simp)]; exact c6 j hj) hu
          rw [e] at this
          try simp (disch := omega) only [li, nO_n, adI, mlI, tnI, vpI, ltI, leI, eqI, forall_eq, leT, leF, ltT, ltF, eqT, eqF, true_and, and_true, false_implies, true_implies, forall_const, not_true_eq_false, not_false_eq_true, implies_true, hW1.1, b5, h25, h26]
          exact this
      · rw [if_neg e]
        have hu : ¬ full (rW s) l = true := fun q => e (full_yes q).1
        have et : tkW (rW s) l = rW s := by unfold tkW; rw [if_neg e]
        have hn : ¬ nI (whP (rW s) l) = nO := nO_ne (by omega)
        refine ⟨fun _ => ?_, fun q => absurd q hn⟩
        unfold bX11_readsNext_69
        refine mfine0 b2 ?_
        refine ⟨fun _ => ?_, fun q => absurd q h1n⟩
        refine ⟨fun _ => ?_, fun q => absurd q hn⟩
        exact h121 M1 c1 b4 b2 c7 (by rw [et]; exact hW1) c6 hu
    · refine mfine1 b2 (by omega) (by omega) ?_
      refine ⟨fun q => absurd rfl q, fun _ => ?_⟩
      exact q2 h15 w5 _ ⟨a1.tr (b1'.wk (fun _ _ => pMr_w)), b2, b3, (MPre_of a5 g2).wo b1'⟩
