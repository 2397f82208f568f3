/-! PURE: what was asked, item by item; how the reading runs on -/
abbrev It : Type := Option Nat × Nat × Nat × Nat
def itK (z : Qc × Option Nat) (a : It) : Qc × Option Nat := if a.2.2.1 = 2 then (kRef z.1 a.1, z.2) else if a.2.2.1 = 3 then (kLen (if z.2 = some a.2.2.2 then z.1 else kBeg z.1) a.1, some a.2.2.2) else (kWant z.1 a.1 a.2.1 (a.2.2.1 == 1), z.2)
def fA (A : List It) : Qc × Option Nat := A.foldl itK (K00, none)
theorem fA_app (A : List It) (a : It) : fA (A ++ [a]) = itK (fA A) a := by unfold fA; rw [List.foldl_append]; rfl
def kPR (K : Qc) (p r : Nat) : Qc := (p, r, qU K, qS K, qX K, qF K)
theorem kPR_want (K : Qc) (o : Option Nat) (y : Nat) (m : Bool) (p r : Nat) : kPR (kWant K o y m) p r = kWant (kPR K p r) o y m := by cases o <;> rfl
theorem kPR_ref (K : Qc) (o : Option Nat) (p r : Nat) : kPR (kRef K o) p r = kRef (kPR K p r) o := by cases o <;> rfl
theorem kPR_len (K : Qc) (o : Option Nat) (p r : Nat) : kPR (kLen K o) p r = kLen (kPR K p r) o := by
  unfold kLen
  rw [kPR_want]; rfl
theorem kPR_beg (K : Qc) (p r : Nat) : kPR (kBeg K) p r = kBeg (kPR K p r) := rfl
theorem kPR_par (K : Qc) (p r : Nat) : kPar (kPR K p r) = kPR K (p + 1) r := rfl
theorem kPR_rch (K : Qc) (p r v : Nat) : kRch (kPR K p r) v = kPR K p v := rfl
theorem bt_y {t : Nat → Nat} {n : Nat} {i : Nat} (h : i < n) : bt t n i = some (t i) := by unfold bt; rw [if_pos h]
theorem bt_n {t : Nat → Nat} {n : Nat} {i : Nat} (h : n ≤ i) : bt t n i = none := by unfold bt; rw [if_neg (by omega)]
theorem clQ_0 {W : List Wd} {s : Qd} (h : eM s = 0 ∨ eM s = 5) : clQ W s = s := by unfold clQ; rw [if_neg (by omega), if_neg (by omega)]
theorem clQ_m {W : List Wd} {s : Qd} (h : eM s = 0 ∨ eM s = 2) : eM (clQ W s) = 0 := by
  rcases h with h | h
  · rw [clQ_0 (Or.inl h)]; exact h
  · unfold clQ; rw [if_pos h]; rfl
theorem clQ_m5 {W : List Wd} {s : Qd} (h : eM s = 5 ∨ eM s = 6) : eM (clQ W s) = 5 := by
  rcases h with h | h
  · rw [clQ_0 (Or.inr h)]; exact h
  · unfold clQ; rw [if_neg (by omega), if_pos h]; rfl
theorem rdQ_s {t : Nat → Nat} {n : Nat} {W : List Wd} (i : Nat) : rdQ t n W (i + 1) = stQ W (rdQ t n W i) i (bt t n i) := rfl
/-- closed: between, or behind a word that ends here -/
def Cl0 (t : Nat → Nat) (n : Nat) (W : List Wd) (i : Nat) : Prop := eF (rdQ t n W i) = 0 ∧ (eM (rdQ t n W i) = 0 ∨ (eM (rdQ t n W i) = 2 ∧ isLo (bt t n i) = false ∧ ¬ (eA (rdQ t n W i) ≠ 45 ∧ bt t n i = some 94)))
def Cl5 (t : Nat → Nat) (n : Nat) (W : List Wd) (i : Nat) : Prop := eF (rdQ t n W i) = 0 ∧ (eM (rdQ t n W i) = 5 ∨ (eM (rdQ t n W i) = 6 ∧ isLo (bt t n i) = false))
theorem Cl0_s {t : Nat → Nat} {n : Nat} {W : List Wd} {i : Nat} (h : Cl0 t n W i) : rdQ t n W (i + 1) = btw (clQ W (rdQ t n W i)) i (bt t n i) := by
  rw [rdQ_s]
  obtain ⟨h0, h1⟩ := h
  unfold stQ
  rw [if_neg (nn0 h0)]
  rcases h1 with m | ⟨m, l1, l2⟩
  · rw [if_neg (by omega), if_neg (by omega), if_neg (by omega), if_neg (by omega), if_neg (by omega), if_neg (by omega), clQ_0 (Or.inl m)]
  · rw [if_neg (by omega), if_pos m, if_neg (by rw [l1]; decide), if_neg l2]
theorem Cl5_s {t : Nat → Nat} {n : Nat} {W : List Wd} {i : Nat} (h : Cl5 t n W i) : rdQ t n W (i + 1) = phr (clQ W (rdQ t n W i)) i (bt t n i) := by
  rw [rdQ_s]
  obtain ⟨h0, h1⟩ := h
  unfold stQ
  rw [if_neg (nn0 h0)]
  rcases h1 with m | ⟨m, l1⟩
  · rw [if_neg (by omega), if_neg (by omega), if_neg (by omega), if_neg (by omega), if_pos m, clQ_0 (Or.inr m)]
  · rw [if_neg (by omega), if_neg (by omega), if_neg (by omega), if_neg (by omega), if_neg (by omega), if_pos m, if_neg (by rw [l1]; decide)]
theorem Cl0_b {t : Nat → Nat} {n : Nat} {W : List Wd} {i j : Nat} (h : Cl0 t n W i) (hij : i ≤ j) (hj : j ≤ n) (hb : ∀ k, i ≤ k → k < j → t k = 32) : Cl0 t n W j ∧ clQ W (rdQ t n W j) = clQ W (rdQ t n W i) := by
  induction j with
  | zero =>
    obtain rfl : i = 0 := by omega
    exact ⟨h, rfl⟩
  | succ j ih =>
    by_cases e : i = j + 1
    · rw [← e]; exact ⟨h, rfl⟩
    · obtain ⟨i1, i2⟩ := ih (by omega) (by omega) (fun k k1 k2 => hb k k1 (by omega))
      have e1 := Cl0_s i1
      rw [bt_y (by omega), hb j (by omega) (by omega)] at e1
      have e2 : btw (clQ W (rdQ t n W j)) j (some 32) = clQ W (rdQ t n W j) := by unfold btw; dsimp only; rw [if_pos rfl]
      rw [e2] at e1
      have hm : eM (clQ W (rdQ t n W j)) = 0 := clQ_m (i1.2.elim Or.inl (fun z => Or.inr z.1))
      refine ⟨⟨by rw [e1]; exact clQ_F i1.1, Or.inl (by rw [e1]; exact hm)⟩, ?_⟩
      rw [e1, clQ_0 (Or.inl hm), i2]
theorem Cl5_b {t : Nat → Nat} {n : Nat} {W : List Wd} {i j : Nat} (h : Cl5 t n W i) (hij : i ≤ j) (hj : j ≤ n) (hb : ∀ k, i ≤ k → k < j → t k = 32) : Cl5 t n W j ∧ clQ W (rdQ t n W j) = clQ W (rdQ t n W i) := by
  induction j with
  | zero =>
    obtain rfl : i = 0 := by omega
    exact ⟨h, rfl⟩
  | succ j ih =>
    by_cases e : i = j + 1
    · rw [← e]; exact ⟨h, rfl⟩
    · obtain ⟨i1, i2⟩ := ih (by omega) (by omega) (fun k k1 k2 => hb k k1 (by omega))
      have e1 := Cl5_s i1
      rw [bt_y (by omega), hb j (by omega) (by omega)] at e1
      have e2 : phr (clQ W (rdQ t n W j)) j (some 32) = clQ W (rdQ t n W j) := by unfold phr; dsimp only; rw [if_pos rfl]
      rw [e2] at e1
      have hm : eM (clQ W (rdQ t n W j)) = 5 := clQ_m5 (i1.2.elim Or.inl (fun z => Or.inr z.1))
      refine ⟨⟨by rw [e1]; exact clQ_F i1.1, Or.inl (by rw [e1]; exact hm)⟩, ?_⟩
      rw [e1, clQ_0 (Or.inr hm), i2]
/-- letters on -/
theorem rdQ_lets {t : Nat → Nat} {n : Nat} {W : List Wd} {j m md mk : Nat} {K : Qc} (hmd : md = 2 ∨ md = 6) (h1 : rdQ t n W (j + 1) = (0, 0, md, mk, [t j - 96], K)) (h8 : m < 8) (hn : j + m < n) (hL : ∀ k, k ≤ m → isL (t (j + k)) = true) : rdQ t n W (j + m + 1) = (0, 0, md, mk, wdr t j (m + 1), K) := by
  induction m with
  | zero => exact h1
  | succ m ih =>
    have ih := ih (by omega) (by omega) (fun k hk => hL k (by omega))
    have hl := hL (m + 1) (Nat.le_refl _)
    have e : rdQ t n W (j + (m + 1) + 1) = stQ W (rdQ t n W (j + m + 1)) (j + (m + 1)) (some (t (j + (m + 1)))) := by
      rw [rdQ_s (j + (m + 1)), bt_y hn]; rfl
    rw [e, ih]
    have hlo : isLo (some (t (j + (m + 1)))) = true := hl
    have hlt : (eL ((0, 0, md, mk, wdr t j (m + 1), K) : Qd)).length < 8 := by show (wdr t j (m + 1)).length < 8; rw [wdr_len]; omega
    unfold stQ
    rw [if_neg (show ¬ eF ((0, 0, md, mk, wdr t j (m + 1), K) : Qd) ≠ 0 from fun q => q rfl)]
    rcases hmd with rfl | rfl
    · rw [if_neg (show ¬ eM ((0, 0, 2, mk, wdr t j (m + 1), K) : Qd) = 1 from by show ¬ 2 = 1; decide), if_pos (show eM ((0, 0, 2, mk, wdr t j (m + 1), K) : Qd) = 2 from rfl), if_pos hlo]
      unfold ltr
      rw [if_pos hlt]; rfl
    · rw [if_neg (show ¬ eM ((0, 0, 6, mk, wdr t j (m + 1), K) : Qd) = 1 from by show ¬ 6 = 1; decide), if_neg (show ¬ eM ((0, 0, 6, mk, wdr t j (m + 1), K) : Qd) = 2 from by show ¬ 6 = 2; decide), if_neg (show ¬ eM ((0, 0, 6, mk, wdr t j (m + 1), K) : Qd) = 3 from by show ¬ 6 = 3; decide), if_neg (show ¬ eM ((0, 0, 6, mk, wdr t j (m + 1), K) : Qd) = 4 from by show ¬ 6 = 4; decide), if_neg (show ¬ eM ((0, 0, 6, mk, wdr t j (m + 1), K) : Qd) = 5 from by show ¬ 6 = 5; decide), if_pos (show eM ((0, 0, 6, mk, wdr t j (m + 1), K) : Qd) = 6 from rfl), if_pos hlo]
      unfold ltr
      rw [if_pos hlt]; rfl
theorem rdQ_nine {t : Nat → Nat} {n : Nat} {W : List Wd} {j md mk : Nat} {K : Qc} (hmd : md = 2 ∨ md = 6) (h1 : rdQ t n W (j + 1) = (0, 0, md, mk, [t j - 96], K)) (hn : j + 8 < n) (hL : ∀ k, k ≤ 8 → isL (t (j + k)) = true) : eF (rdQ t n W (j + 8 + 1)) = 1 ∧ eP (rdQ t n W (j + 8 + 1)) = j + 8 := by
  have ih := rdQ_lets (m := 7) hmd h1 (by omega) (by omega) (fun k hk => hL k (by omega))
  have hl := hL 8 (Nat.le_refl _)
  have e : rdQ t n W (j + 8 + 1) = stQ W (rdQ t n W (j + 7 + 1)) (j + 8) (some (t (j + 8))) := by
    rw [rdQ_s (j + 8), bt_y hn]
  rw [e, ih]
  have hlo : isLo (some (t (j + 8))) = true := hl
  have hlt : ¬ (eL ((0, 0, md, mk, wdr t j (7 + 1), K) : Qd)).length < 8 := by show ¬ (wdr t j (7 + 1)).length < 8; rw [wdr_len]; omega
  unfold stQ
  rw [if_neg (show ¬ eF ((0, 0, md, mk, wdr t j (7 + 1), K) : Qd) ≠ 0 from fun q => q rfl)]
  rcases hmd with rfl | rfl
  · rw [if_neg (show ¬ eM ((0, 0, 2, mk, wdr t j (7 + 1), K) : Qd) = 1 from by show ¬ 2 = 1; decide), if_pos (show eM ((0, 0, 2, mk, wdr t j (7 + 1), K) : Qd) = 2 from rfl), if_pos hlo]
    unfold ltr
    rw [if_neg hlt]; exact ⟨rfl, rfl⟩
  · rw [if_neg (show ¬ eM ((0, 0, 6, mk, wdr t j (7 + 1), K) : Qd) = 1 from by show ¬ 6 = 1; decide), if_neg (show ¬ eM ((0, 0, 6, mk, wdr t j (7 + 1), K) : Qd) = 2 from by show ¬ 6 = 2; decide), if_neg (show ¬ eM ((0, 0, 6, mk, wdr t j (7 + 1), K) : Qd) = 3 from by show ¬ 6 = 3; decide), if_neg (show ¬ eM ((0, 0, 6, mk, wdr t j (7 + 1), K) : Qd) = 4 from by show ¬ 6 = 4; decide), if_neg (show ¬ eM ((0, 0, 6, mk, wdr t j (7 + 1), K) : Qd) = 5 from by show ¬ 6 = 5; decide), if_pos (show eM ((0, 0, 6, mk, wdr t j (7 + 1), K) : Qd) = 6 from rfl), if_pos hlo]
    unfold ltr
    rw [if_neg hlt]; exact ⟨rfl, rfl⟩
/-- a word from j to e -/
theorem rdQ_word {t : Nat → Nat} {n : Nat} {W : List Wd} {j md mk : Nat} {K : Qc} (hmd : md = 2 ∨ md = 6) (h1 : rdQ t n W (j + 1) = (0, 0, md, mk, [t j - 96], K)) (hj : j < wE t j n) (h8 : wE t j n ≤ j + 8) (hjn : j ≤ n) : rdQ t n W (wE t j n) = (0, 0, md, mk, wdr t j (wE t j n - j), K) ∧ isLo (bt t n (wE t j n)) = false := by
  obtain ⟨w1, w2, w3, w4⟩ := wE_c (t := t) hjn
  have e1 := rdQ_lets (m := wE t j n - j - 1) hmd h1 (by omega) (by omega) (fun k hk => w3 (j + k) (by omega) (by omega))
  rw [show j + (wE t j n - j - 1) + 1 = wE t j n by omega, show wE t j n - j - 1 + 1 = wE t j n - j by omega] at e1
  refine ⟨e1, ?_⟩
  by_cases z : wE t j n < n
  · rw [bt_y z]
    rcases w4 with w4 | w4
    · omega
    · exact w4
  · rw [bt_n (by omega)]; rfl
theorem rdQ_sign {t : Nat → Nat} {n : Nat} {W : List Wd} {k : Nat} (h0 : eF (rdQ t n W k) = 0) (hm : eM (rdQ t n W k) = 1) : rdQ t n W (k + 1) = (if isLo (bt t n k) = true then (0, 0, 2, eA (rdQ t n W k), [(bt t n k).getD 0 - 96], eK (rdQ t n W k)) else flt (rdQ t n W k) 1 k) := by
  rw [rdQ_s]
  unfold stQ
  rw [if_neg (nn0 h0), if_pos hm]
theorem rdQ_caret {t : Nat → Nat} {n : Nat} {W : List Wd} {k : Nat} (h0 : eF (rdQ t n W k) = 0) (hm : eM (rdQ t n W k) = 2) (ha : eA (rdQ t n W k) ≠ 45) (hb : bt t n k = some 94) : rdQ t n W (k + 1) = (0, 0, 3, eA (rdQ t n W k), eL (rdQ t n W k), eK (rdQ t n W k)) := by
  rw [rdQ_s, hb]
  unfold stQ
  rw [if_neg (nn0 h0), if_neg (by omega), if_pos hm, if_neg (by decide), if_pos ⟨ha, rfl⟩]
theorem rdQ_boost {t : Nat → Nat} {n : Nat} {W : List Wd} {k : Nat} (h0 : eF (rdQ t n W k) = 0) (hm : eM (rdQ t n W k) = 3) : rdQ t n W (k + 1) = (if isD ((bt t n k).getD 0) = true then (0, 0, 0, 0, [], kWant (eK (rdQ t n W k)) (owd W (eL (rdQ t n W k))) ((bt t n k).getD 0 - 48) (eA (rdQ t n W k) == 43)) else flt (rdQ t n W k) 1 k) := by
  rw [rdQ_s]
  unfold stQ
  rw [if_neg (nn0 h0), if_neg (by omega), if_neg (by omega), if_pos hm]
theorem rdQ_reach {t : Nat → Nat} {n : Nat} {W : List Wd} {k : Nat} (h0 : eF (rdQ t n W k) = 0) (hm : eM (rdQ t n W k) = 4) : rdQ t n W (k + 1) = (if isD ((bt t n k).getD 0) = true then (0, 0, 0, 0, [], kRch (eK (rdQ t n W k)) ((bt t n k).getD 0 - 48)) else flt (rdQ t n W k) 1 k) := by
  rw [rdQ_s]
  unfold stQ
  rw [if_neg (nn0 h0), if_neg (by omega), if_neg (by omega), if_neg (by omega), if_pos hm]
