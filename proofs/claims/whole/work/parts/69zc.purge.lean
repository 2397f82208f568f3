/-! PURE: documents taken away, purged -/
def chS (D : Dc) (g : Nat → Nat) : Dc := (List.range D.length).map (fun d => (dW D d, g d))
theorem ch_len (D : Dc) (g : Nat → Nat) : (chS D g).length = D.length := by unfold chS; rw [List.length_map, List.length_range]
theorem ch_d {D : Dc} {g : Nat → Nat} {d : Nat} (h : d < D.length) : (chS D g).getD d ([], 0) = (dW D d, g d) := by
  rw [gd_in (by rw [ch_len]; exact h)]
  unfold chS
  rw [List.getElem_map, List.getElem_range]
theorem ch_W (D : Dc) (g : Nat → Nat) (d : Nat) : dW (chS D g) d = dW D d := by
  by_cases h : d < D.length
  · show ((chS D g).getD d ([], 0)).1 = _
    rw [ch_d h]
  · rw [dW_out (by rw [ch_len]; omega), dW_out (by omega)]
theorem ch_S {D : Dc} {g : Nat → Nat} {d : Nat} (h : d < D.length) : dS (chS D g) d = g d := by unfold dS; rw [ch_d h]
theorem ch_L (D : Dc) (g : Nat → Nat) (d : Nat) : dL (chS D g) d = dL D d := by unfold dL; rw [ch_W]
theorem ch_T (D : Dc) (g : Nat → Nat) (d p : Nat) : dT (chS D g) d p = dT D d p := by unfold dT; rw [ch_W]
theorem ch_cn (D : Dc) (g : Nat → Nat) (w d : Nat) : cnt (chS D g) w d = cnt D w d := by
  unfold cnt
  rw [ch_L]
  exact ctF_congr (fun p _ => by rw [ch_T])
theorem ch_jm (D : Dc) (g : Nat → Nat) (w d : Nat) : jmp (chS D g) w d = jmp D w d := by
  unfold jmp
  rw [ch_L]
  exact congrArg Prod.snd (jst_congr (fun p _ => ch_T D g d p))
theorem ch_DW {D : Dc} {kn : Nat} {g : Nat → Nat} (h : DW D kn) (hg : ∀ d, d < D.length → 1 ≤ g d ∧ g d ≤ 3) : DW (chS D g) kn := by
  refine ⟨by rw [ch_len]; exact h.1, h.2.1, fun d hd => ?_⟩
  rw [ch_len] at hd
  rw [ch_L, ch_S hd]
  obtain ⟨a, b, c, e, f⟩ := h.2.2 d hd
  exact ⟨a, b, (hg d hd).1, (hg d hd).2, fun p hp => by rw [ch_T]; exact f p hp⟩
def gRm (D : Dc) (d : Nat) (e : Nat) : Nat := if e = d then 2 else dS D e
def gPu (D : Dc) (e : Nat) : Nat := if dS D e = 2 then 3 else dS D e
theorem gRm_b {D : Dc} {kn d : Nat} (h : DW D kn) : ∀ e, e < D.length → 1 ≤ gRm D d e ∧ gRm D d e ≤ 3 := fun e he => by
  obtain ⟨a, b, c, f, -⟩ := h.2.2 e he
  unfold gRm
  by_cases q : e = d
  · rw [if_pos q]; omega
  · rw [if_neg q]; exact ⟨c, f⟩
theorem gPu_b {D : Dc} {kn : Nat} (h : DW D kn) : ∀ e, e < D.length → 1 ≤ gPu D e ∧ gPu D e ≤ 3 := fun e he => by
  obtain ⟨a, b, c, f, -⟩ := h.2.2 e he
  unfold gPu
  by_cases q : dS D e = 2
  · rw [if_pos q]; omega
  · rw [if_neg q]; exact ⟨c, f⟩
theorem ctF_one {p q : Nat → Bool} {n d : Nat} (hd : d < n) (h1 : p d = false) (h2 : q d = true) (h : ∀ k, k ≠ d → q k = p k) : ctF q n = ctF p n + 1 := by
  induction n with
  | zero => omega
  | succ n ih =>
    unfold ctF
    by_cases e : n = d
    · subst e
      rw [h1, h2, ctF_congr (fun k hk => h k (by omega))]
      rfl
    · rw [ih (by omega), h n e]
      omega
theorem goneN_R {D : Dc} {d : Nat} (hd : d < D.length) (h1 : dS D d = 1) : goneN (chS D (gRm D d)) = goneN D + 1 := by
  unfold goneN
  rw [ch_len]
  have e1 : ctF (fun e => dS (chS D (gRm D d)) e == 2) D.length = ctF (fun e => gRm D d e == 2) D.length := ctF_congr (fun e he => by rw [ch_S he])
  rw [e1]
  refine ctF_one hd (by rw [h1]; rfl) (by unfold gRm; rw [if_pos rfl]; rfl) (fun e he => by unfold gRm; rw [if_neg he])
theorem keptN_R {D : Dc} {d : Nat} (h1 : dS D d = 1) : keptN (chS D (gRm D d)) = keptN D := by
  unfold keptN
  rw [ch_len]
  refine ctF_congr (fun e he => ?_)
  rw [ch_S he]
  unfold gRm
  by_cases q : e = d
  · rw [if_pos q, q, h1]; rfl
  · rw [if_neg q]
theorem lst_R {D : Dc} {d : Nat} (h1 : dS D d = 1) (w : Nat) : lst (chS D (gRm D d)) w = lst D w := by
  unfold lst lsT
  rw [ch_len]
  refine List.filter_congr (fun e he => ?_)
  have he := List.mem_range.mp he
  unfold inL
  rw [ch_S he, ch_cn]
  unfold gRm
  by_cases q : e = d
  · rw [if_pos q, q, h1]; rfl
  · rw [if_neg q]
theorem goneN_P {D : Dc} {kn : Nat} (h : DW D kn) : goneN (chS D (gPu D)) = 0 := by
  unfold goneN
  rw [ctF_zero, ch_len]
  intro e he
  rw [ch_S he]
  unfold gPu
  by_cases q : dS D e = 2
  · rw [if_pos q]; rfl
  · rw [if_neg q]; simp; exact q
theorem keptN_P (D : Dc) : keptN D = keptN (chS D (gPu D)) + goneN D := by
  unfold keptN goneN
  rw [ch_len]
  refine ctF_add (fun e he => ?_)
  rw [ch_S he]
  unfold gPu
  by_cases q : dS D e = 2
  · rw [if_pos q, q]; rfl
  · rw [if_neg q]
    have : (dS D e == 2) = false := by simp; exact q
    rw [this]; rfl
def alv (D : Dc) (e : Nat) : Bool := decide (dS D e ≠ 2)
theorem lst_P (D : Dc) (w : Nat) : lst (chS D (gPu D)) w = (lst D w).filter (alv D) := by
  unfold lst lsT
  rw [ch_len, List.filter_filter]
  refine List.filter_congr (fun e he => ?_)
  have he := List.mem_range.mp he
  unfold inL alv
  rw [ch_S he, ch_cn]
  unfold gPu
  by_cases q : dS D e = 2
  · rw [if_pos q]; simp [q]
  · rw [if_neg q]; simp [q]
theorem cholds2 {D : Dc} {kn : Nat} {M : Mem} (hD : DW D kn) (hn : M.1 504 0 0 = nI D.length) (hst : ∀ d, M.1 503 0 d = nI (dS D d - 1)) {d : Nat} (hd : d < D.length) {Q : Int32 → Mem → Prop} (hQ : Q (nI (if dS D d = 3 then 0 else 1)) M) : pX4_holds M (nI d) Q := by
  have hl := hD.1
  obtain ⟨-, -, h1, h3, -⟩ := hD.2.2 d hd
  unfold pX4_holds
  rcases (show dS D d = 1 ∨ dS D d = 2 ∨ dS D d = 3 by omega) with e | e | e <;> (simp [e] at hQ; try simp (disch := omega) only [li, nO_n, adI, mlI, tnI, vpI, ltI, leI, eqI, forall_eq, leT, leF, ltT, ltF, eqT, eqF, true_and, and_true, false_implies, true_implies, forall_const, not_true_eq_false, not_false_eq_true, implies_true, hn, hst, e]; exact hQ)
def pKh (w c i : Nat) : Bool := decide (¬ (c = 511) ∧ ¬ (c = 5510 ∧ i = w))
theorem ckeepHeld {E : Dc} {kn w : Nat} {l : List Nat} {M : Mem} (hE : DW E kn) (hn : M.1 504 0 0 = nI E.length) (hst : ∀ d, M.1 503 0 d = nI (dS E d - 1)) (hw : w < 255) (hl : l.length ≤ 64) (hm : ∀ d, d ∈ l → d < E.length) (h1 : M.1 511 0 w = nI l.length) (h2 : ∀ k, k < l.length → M.1 5510 w k = nI (l.getD k 0)) {Q : Mem → Prop} (hQ : ∀ M', Kp (pKh w) M M' → (∀ v, v ≠ w → M'.1 511 0 v = M.1 511 0 v) → M'.1 511 0 w = nI (l.filter (fun d => decide (dS E d ≠ 3))).length → (∀ k, k < (l.filter (fun d => decide (dS E d ≠ 3))).length → M'.1 5510 w k = nI ((l.filter (fun d => decide (dS E d ≠ 3))).getD k 0)) → Q M') : pX4_keepHeld M (nI w) Q := by
  have hel := hE.1
  obtain ⟨f, ef⟩ : ∃ f : Nat → List Nat, f = fun k => (l.take k).filter (fun d => decide (dS E d ≠ 3)) := ⟨_, rfl⟩
  have hf0 : f 0 = [] := by rw [ef]; rfl
  have hfl : ∀ k, (f k).length ≤ k := fun k => by
    rw [ef]
    exact Nat.le_trans (List.length_filter_le _ _) (by rw [List.length_take]; omega)
  have hfs : ∀ k, (hk : k < l.length) → f (k + 1) = f k ++ (if dS E (l.getD k 0) = 3 then [] else [l.getD k 0]) := fun k hk => by
    rw [ef]
    dsimp only
    rw [gd_in hk, List.take_succ_eq_append_getElem hk, List.filter_append]
    congr 1
    by_cases q : dS E l[k] = 3
    · rw [if_pos q, List.filter_cons_of_neg (by simp [q])]; rfl
    · rw [if_neg q, List.filter_cons_of_pos (by simp [q])]; rfl
  have hfe : f l.length = l.filter (fun d => decide (dS E d ≠ 3)) := by rw [ef]; dsimp only; rw [List.take_length]
  unfold pX4_keepHeld
  refine lp_up (fun k s => s.2 = (nI (f k).length, nI k) ∧ Kp (pKh w) M s.1 ∧ s.1.1 511 = M.1 511 ∧ (∀ j, j < (f k).length → s.1.1 5510 w j = nI ((f k).getD j 0)) ∧ ∀ j, k ≤ j → j < l.length → s.1.1 5510 w j = nI (l.getD j 0)) (Nat.zero_le l.length) ⟨by rw [hf0]; rfl, Kp.rf, rfl, fun j hj => by rw [hf0] at hj; exact absurd hj (Nat.not_lt_zero _), fun j _ hj => h2 j hj⟩ ?_ ?_
  · rintro k ⟨m, y⟩ L - hk ⟨ey, k1, k2, k3, k4⟩ hL
    dsimp only at ey k1 k2 k3 k4
    subst ey
    have hd : l.getD k 0 < E.length := hm _ (by rw [gd_in hk]; exact List.getElem_mem hk)
    have hadd := adI k 1
    have hfk := hfl k
    have hs := hfs k hk
    have p511 : m.1 511 0 w = nI l.length := by rw [k2]; exact h1
    have hn' : m.1 504 0 0 = nI E.length := (k1.g rfl 0).trans hn
    have hst' : ∀ d, m.1 503 0 d = nI (dS E d - 1) := fun d => (k1.g rfl d).trans (hst d)
    unfold bX4_keepHeld_4
    dsimp only
    refine ⟨(vpI (by omega)).mpr (by omega), ?_⟩
    rw [tnI (by omega), p511]
    refine ⟨fun c => absurd c (by rw [leI (by omega) (by omega)]; omega), fun _ => ⟨(vpI (by omega)).mpr (by omega), ?_⟩⟩
    rw [tnI (by omega), k4 k (Nat.le_refl _) hk]
    intro v5 e5
    subst e5
    refine cholds2 hE hn' hst' hd ?_
    by_cases q : dS E (l.getD k 0) = 3
    · rw [if_pos q, List.append_nil] at hs
      rw [if_pos q]
      refine s0b ?_
      unfold bX4_keepHeld_46
      intro v12 e12
      refine hL _ ⟨?_, k1, k2, fun j hj => ?_, fun j j1 j2 => k4 j (by omega) j2⟩
      · rw [e12, hs]
        exact congrArg (fun z => (nI (f k).length, z)) hadd
      · rw [hs] at hj ⊢; exact k3 j hj
    · rw [if_neg q] at hs
      rw [if_neg q]
      refine s1b ⟨(vpI (by omega)).mpr (by omega), ?_⟩
      rw [tnI (by omega)]
      intro M10 e10 v11 e11
      subst e10
      unfold bX4_keepHeld_46
      intro v12 e12
      have hlen : (f (k + 1)).length = (f k).length + 1 := by rw [hs, List.length_append]; rfl
      refine hL _ ⟨?_, k1.u1 (by unfold pKh; simp), ?_, fun j hj => ?_, fun j j1 j2 => ?_⟩
      · rw [e12, e11, hlen]
        have hadd2 := adI (f k).length 1
        exact (show (nI (f k).length + nI 1, nI k + nI 1) = (nI ((f k).length + 1), nI (k + 1)) by rw [hadd, hadd2])
      · rw [← k2]
        funext i j
        exact up1_ne (by simp)
      · dsimp only
        rw [hlen] at hj
        by_cases ej : j = (f k).length
        · rw [ej, up1_eq, hs, gd_r]
        · rw [up1_ne (by simp; exact ej), hs, gd_l (by omega)]; exact k3 j (by omega)
      · dsimp only
        rw [up1_ne (by simp; omega)]; exact k4 j (by omega) j2
  · rintro ⟨m, y⟩ L ⟨ey, k1, k2, k3, k4⟩
    dsimp only at ey k1 k2 k3 k4
    subst ey
    rw [hfe] at k3
    have p511 : m.1 511 0 w = nI l.length := by rw [k2]; exact h1
    unfold bX4_keepHeld_4
    dsimp only
    refine ⟨(vpI (by omega)).mpr (by omega), ?_⟩
    rw [tnI (by omega), p511]
    refine ⟨fun _ M3 e3 => ?_, fun c => absurd (Int32.le_refl _) c⟩
    subst e3
    refine hQ _ (k1.u1 (by unfold pKh; simp)) (fun v hv => ?_) ?_ (fun k hk => ?_)
    · rw [up1_ne (by simp; exact hv), k2]
    · rw [up1_eq, hfe]
    · rw [up1_ne (by simp)]; exact k3 k hk
