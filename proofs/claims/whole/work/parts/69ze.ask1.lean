/-! PURE: to read a question: what is told -/
def owd (W : List Wd) (l : Wd) : Option Nat := if whP W l = W.length then none else some (whP W l)
theorem whI_o (W : List Wd) (l : Wd) : whI W l = oI (owd W l) := by
  unfold whI owd
  by_cases e : whP W l = W.length
  · rw [if_pos e, if_pos e]; rfl
  · rw [if_neg e, if_neg e]; rfl
theorem owd_lt {W : List Wd} {l : Wd} {w : Nat} (h : owd W l = some w) : w < W.length := by
  unfold owd at h
  have hle := whP_le W l
  by_cases e : whP W l = W.length
  · rw [if_pos e] at h; cases h
  · rw [if_neg e] at h; cases h; omega
abbrev Sc : Type := List (Nat × Nat × Bool)
def sci (L : Sc) (w : Nat) : Nat := ffn (fun i => (L.getD i (0, 0, false)).1 == w) 0 L.length
def wntL (L : Sc) (w y : Nat) (m : Bool) : Sc := if sci L w = L.length then L ++ [(w, y, m)] else L.set (sci L w) (w, (L.getD (sci L w) (0, 0, false)).2.1 + y, (L.getD (sci L w) (0, 0, false)).2.2 || m)
def kWant (K : Qc) (o : Option Nat) (y : Nat) (m : Bool) : Qc := match o with
  | none => (qP K, qR K, qU K || m, qS K, qX K, qF K)
  | some w => (qP K, qR K, qU K, wntL (qS K) w y m, qX K, qF K)
def kRef (K : Qc) (o : Option Nat) : Qc := match o with
  | none => K
  | some w => (qP K, qR K, qU K, qS K, qX K ++ [w], qF K)
def kBeg (K : Qc) : Qc := (qP K, qR K, qU K, qS K, qX K, qF K ++ [[]])
def kAdd (K : Qc) (o : Option Nat) : Qc := (qP K, qR K, qU K, qS K, qX K, (qF K).set (fN K - 1) (fP K (fN K - 1) ++ [o]))
def kLen (K : Qc) (o : Option Nat) : Qc := kWant (kAdd K o) o 1 true
def kPar (K : Qc) : Qc := (qP K + 1, qR K, qU K, qS K, qX K, qF K)
def kRch (K : Qc) (r : Nat) : Qc := (qP K, r, qU K, qS K, qX K, qF K)
theorem gd_set {α : Type} {l : List α} {i j : Nat} {x d : α} (hi : i < l.length) : (l.set i x).getD j d = if j = i then x else l.getD j d := by
  by_cases e : j = i
  · rw [if_pos e, e, gd_in (by rw [List.length_set]; exact hi), List.getElem_set_self]
  · rw [if_neg e]
    by_cases h : j < l.length
    · rw [gd_in (by rw [List.length_set]; exact h), gd_in h, List.getElem_set_ne (fun q => e q.symm)]
    · rw [gd_out (by rw [List.length_set]; omega), gd_out (by omega)]
theorem gd_app {α : Type} {l : List α} {j : Nat} {x d : α} : (l ++ [x]).getD j d = if j = l.length then x else l.getD j d := by
  by_cases e : j = l.length
  · rw [if_pos e, e, gd_r]
  · rw [if_neg e]
    by_cases h : j < l.length
    · rw [gd_l h]
    · rw [gd_out (by rw [List.length_append]; show l.length + 1 ≤ j; omega), gd_out (by omega)]
theorem sci_c (L : Sc) (w : Nat) : sci L w ≤ L.length ∧ (∀ j, j < sci L w → (L.getD j (0, 0, false)).1 ≠ w) ∧ (sci L w = L.length ∨ (L.getD (sci L w) (0, 0, false)).1 = w) := by
  obtain ⟨f1, f2, f3, f4⟩ := ffn_c (p := fun i => (L.getD i (0, 0, false)).1 == w) (Nat.zero_le L.length)
  exact ⟨f2, fun j hj => beq_eq_false_iff_ne.mp (f3 j (Nat.zero_le _) hj), f4.elim Or.inl (fun q => Or.inr (beq_iff_eq.mp q))⟩
/-- what drafts keep to -/
def KV (K : Qc) (kn a g x f : Nat) : Prop := sN K ≤ a ∧ (∀ i, i < sN K → sW K i < kn ∧ sB K i ≤ g) ∧ (∀ i j, i < j → j < sN K → sW K i ≠ sW K j) ∧ xN K ≤ x ∧ (∀ i, i < xN K → xW K i < kn) ∧ fN K ≤ f ∧ (∀ j k w, fW K j k = some w → w < kn)
theorem KV.mono {K : Qc} {kn a g x f a' g' x' f' : Nat} (h : KV K kn a g x f) (h1 : a ≤ a') (h2 : g ≤ g') (h3 : x ≤ x') (h4 : f ≤ f') : KV K kn a' g' x' f' := ⟨Nat.le_trans h.1 h1, fun i hi => ⟨(h.2.1 i hi).1, Nat.le_trans (h.2.1 i hi).2 h2⟩, h.2.2.1, Nat.le_trans h.2.2.2.1 h3, h.2.2.2.2.1, Nat.le_trans h.2.2.2.2.2.1 h4, h.2.2.2.2.2.2⟩
theorem KV.eq {K K' : Qc} {kn a g x f : Nat} (h : KV K kn a g x f) (h1 : qS K' = qS K) (h2 : qX K' = qX K) (h3 : qF K' = qF K) : KV K' kn a g x f := by
  unfold KV sN sW sB xN xW fN fW fP at h ⊢
  rw [h1, h2, h3]
  exact h
theorem KV.want {K : Qc} {kn a g x f y : Nat} {o : Option Nat} {m : Bool} (h : KV K kn a g x f) (ho : ∀ w, o = some w → w < kn) : KV (kWant K o y m) kn (a + 1) (g + y) x f := by
  cases o with
  | none => exact (h.eq (K' := kWant K none y m) rfl rfl rfl).mono (by omega) (by omega) (Nat.le_refl _) (Nat.le_refl _)
  | some w =>
    have hw := ho w rfl
    obtain ⟨h1, h2, h3, h4, h5, h6, h7⟩ := h
    obtain ⟨c1, c2, c3⟩ := sci_c (qS K) w
    have hh : sN (kWant K (some w) y m) ≤ a + 1 ∧ (∀ i, i < sN (kWant K (some w) y m) → sW (kWant K (some w) y m) i < kn ∧ sB (kWant K (some w) y m) i ≤ g + y) ∧ (∀ i j, i < j → j < sN (kWant K (some w) y m) → sW (kWant K (some w) y m) i ≠ sW (kWant K (some w) y m) j) := by
      show (wntL (qS K) w y m).length ≤ a + 1 ∧ (∀ i, i < (wntL (qS K) w y m).length → ((wntL (qS K) w y m).getD i (0, 0, false)).1 < kn ∧ ((wntL (qS K) w y m).getD i (0, 0, false)).2.1 ≤ g + y) ∧ (∀ i j, i < j → j < (wntL (qS K) w y m).length → ((wntL (qS K) w y m).getD i (0, 0, false)).1 ≠ ((wntL (qS K) w y m).getD j (0, 0, false)).1)
      have h1 : (qS K).length ≤ a := h1
      have h2 : ∀ i, i < (qS K).length → ((qS K).getD i (0, 0, false)).1 < kn ∧ ((qS K).getD i (0, 0, false)).2.1 ≤ g := h2
      have h3 : ∀ i j, i < j → j < (qS K).length → ((qS K).getD i (0, 0, false)).1 ≠ ((qS K).getD j (0, 0, false)).1 := h3
      unfold wntL
      by_cases e : sci (qS K) w = (qS K).length
      · rw [if_pos e, List.length_append]
        refine ⟨by show (qS K).length + 1 ≤ a + 1; omega, fun i hi => ?_, fun i j hij hj => ?_⟩
        · have hi : i < (qS K).length + 1 := hi
          rw [gd_app]
          by_cases q : i = (qS K).length
          · rw [if_pos q]; exact ⟨hw, by show y ≤ g + y; omega⟩
          · rw [if_neg q]
            have := h2 i (by omega)
            omega
        · have hj : j < (qS K).length + 1 := hj
          rw [gd_app, gd_app, if_neg (by omega)]
          by_cases q : j = (qS K).length
          · rw [if_pos q]; exact c2 i (by omega)
          · rw [if_neg q]; exact h3 i j hij (by omega)
      · rw [if_neg e, List.length_set]
        have c4 : sci (qS K) w < (qS K).length := by omega
        have c5 : ((qS K).getD (sci (qS K) w) (0, 0, false)).1 = w := c3.resolve_left e
        refine ⟨by omega, fun i hi => ?_, fun i j hij hj => ?_⟩
        · rw [gd_set c4]
          by_cases q : i = sci (qS K) w
          · rw [if_pos q]
            have := (h2 _ c4).2
            exact ⟨hw, by show _ + y ≤ g + y; omega⟩
          · rw [if_neg q]
            have := h2 i hi
            omega
        · rw [gd_set c4, gd_set c4]
          by_cases q : i = sci (qS K) w
          · rw [if_pos q, if_neg (by omega), ← c5, ← q]
            exact h3 i j hij hj
          · rw [if_neg q]
            by_cases q2 : j = sci (qS K) w
            · rw [if_pos q2, ← c5, ← q2]
              exact h3 i j hij hj
            · rw [if_neg q2]; exact h3 i j hij hj
    exact ⟨hh.1, hh.2.1, hh.2.2, h4, h5, h6, h7⟩
theorem KV.ref {K : Qc} {kn a g x f : Nat} {o : Option Nat} (h : KV K kn a g x f) (ho : ∀ w, o = some w → w < kn) : KV (kRef K o) kn a g (x + 1) f := by
  cases o with
  | none => exact h.mono (Nat.le_refl _) (Nat.le_refl _) (by omega) (Nat.le_refl _)
  | some w =>
    obtain ⟨h1, h2, h3, h4, h5, h6, h7⟩ := h
    have hx : (qX K).length ≤ x := h4
    refine ⟨h1, h2, h3, ?_, fun i hi => ?_, h6, h7⟩
    · show (qX K ++ [w]).length ≤ x + 1
      rw [List.length_append]; show (qX K).length + 1 ≤ x + 1; omega
    · have hi : i < (qX K ++ [w]).length := hi
      rw [List.length_append] at hi
      have hi : i < (qX K).length + 1 := hi
      show (qX K ++ [w]).getD i 0 < kn
      rw [gd_app]
      by_cases q : i = (qX K).length
      · rw [if_pos q]; exact ho w rfl
      · rw [if_neg q]; exact h5 i (by show i < (qX K).length; omega)
theorem KV.beg {K : Qc} {kn a g x f : Nat} (h : KV K kn a g x f) : KV (kBeg K) kn a g x (f + 1) := by
  obtain ⟨h1, h2, h3, h4, h5, h6, h7⟩ := h
  have h6 : (qF K).length ≤ f := h6
  refine ⟨h1, h2, h3, h4, h5, ?_, fun j k w hw => ?_⟩
  · show (qF K ++ [[]]).length ≤ f + 1
    rw [List.length_append]; show (qF K).length + 1 ≤ f + 1; omega
  · have hw : ((qF K ++ [[]]).getD j []).getD k none = some w := hw
    rw [gd_app] at hw
    by_cases q : j = (qF K).length
    · rw [if_pos q] at hw; cases hw
    · rw [if_neg q] at hw; exact h7 j k w hw
theorem KV.add {K : Qc} {kn a g x f : Nat} {o : Option Nat} (h : KV K kn a g x f) (ho : ∀ w, o = some w → w < kn) (hf : 0 < fN K) : KV (kAdd K o) kn a g x f := by
  obtain ⟨h1, h2, h3, h4, h5, h6, h7⟩ := h
  have h6 : (qF K).length ≤ f := h6
  have hf : 0 < (qF K).length := hf
  refine ⟨h1, h2, h3, h4, h5, ?_, fun j k w hw => ?_⟩
  · show ((qF K).set ((qF K).length - 1) _).length ≤ f
    rw [List.length_set]; exact h6
  · have hw : (((qF K).set ((qF K).length - 1) (fP K ((qF K).length - 1) ++ [o])).getD j []).getD k none = some w := hw
    rw [gd_set (by omega)] at hw
    by_cases q : j = (qF K).length - 1
    · rw [if_pos q, gd_app] at hw
      by_cases q2 : k = (fP K ((qF K).length - 1)).length
      · rw [if_pos q2] at hw; exact ho w hw
      · rw [if_neg q2] at hw; exact h7 ((qF K).length - 1) k w hw
    · rw [if_neg q] at hw; exact h7 j k w hw
/-! the reading, sign by sign -/
/-- the fault, its place, the mode (0 between 1 behind a sign 2 in a word 3 behind ^ 4 behind ~ 5 in a phrase 6 in its word), the sign ahead, the letters, the draft -/
abbrev Qd : Type := Nat × Nat × Nat × Nat × Wd × Qc
def eF (s : Qd) : Nat := s.1
def eP (s : Qd) : Nat := s.2.1
def eM (s : Qd) : Nat := s.2.2.1
def eA (s : Qd) : Nat := s.2.2.2.1
def eL (s : Qd) : Wd := s.2.2.2.2.1
def eK (s : Qd) : Qc := s.2.2.2.2.2
def flt (s : Qd) (f i : Nat) : Qd := (f, i, 0, 0, [], eK s)
def isD (c : Nat) : Bool := decide (49 ≤ c ∧ c ≤ 57)
def pll (K : Qc) : Nat := fL K (fN K - 1)
def btw (s : Qd) (i : Nat) (o : Option Nat) : Qd := match o with
  | none => if qP (eK s) = 0 then flt s 1 i else s
  | some c => if c = 32 then s else if ¬ (isL c = true ∨ c = 43 ∨ c = 45 ∨ c = 34 ∨ c = 126) ∨ (c = 126 ∧ qR (eK s) ≠ 0) then flt s 1 i else if 6 ≤ qP (eK s) then flt s 2 i else if c = 43 ∨ c = 45 then (0, 0, 1, c, [], kPar (eK s)) else if c = 34 then (0, 0, 5, 0, [], kBeg (kPar (eK s))) else if c = 126 then (0, 0, 4, 0, [], kPar (eK s)) else (0, 0, 2, 0, [c - 96], kPar (eK s))
def phr (s : Qd) (i : Nat) (o : Option Nat) : Qd := match o with
  | none => flt s 1 i
  | some c => if c = 32 then s else if c = 34 ∧ 2 ≤ pll (eK s) then (0, 0, 0, 0, [], eK s) else if isL c = true then (if 4 ≤ pll (eK s) then flt s 2 i else (0, 0, 6, 0, [c - 96], eK s)) else flt s 1 i
def ltr (s : Qd) (i c : Nat) : Qd := if (eL s).length < 8 then (0, 0, eM s, eA s, (c - 96) :: eL s, eK s) else flt s 1 i
/-- a word ended -/
def clQ (W : List Wd) (s : Qd) : Qd := if eM s = 2 then (0, 0, 0, 0, [], if eA s = 45 then kRef (eK s) (owd W (eL s)) else kWant (eK s) (owd W (eL s)) 1 (eA s == 43)) else if eM s = 6 then (0, 0, 5, 0, [], kLen (eK s) (owd W (eL s))) else s
def stQ (W : List Wd) (s : Qd) (i : Nat) (o : Option Nat) : Qd :=
  if eF s ≠ 0 then s
  else if eM s = 1 then (if isLo o = true then (0, 0, 2, eA s, [o.getD 0 - 96], eK s) else flt s 1 i)
  else if eM s = 2 then (if isLo o = true then ltr s i (o.getD 0) else if eA s ≠ 45 ∧ o = some 94 then (0, 0, 3, eA s, eL s, eK s) else btw (clQ W s) i o)
  else if eM s = 3 then (if isD (o.getD 0) = true then (0, 0, 0, 0, [], kWant (eK s) (owd W (eL s)) (o.getD 0 - 48) (eA s == 43)) else flt s 1 i)
  else if eM s = 4 then (if isD (o.getD 0) = true then (0, 0, 0, 0, [], kRch (eK s) (o.getD 0 - 48)) else flt s 1 i)
  else if eM s = 5 then phr s i o
  else if eM s = 6 then (if isLo o = true then ltr s i (o.getD 0) else phr (clQ W s) i o)
  else btw s i o
def K00 : Qc := (0, 0, false, [], [], [])
def rdQ (t : Nat → Nat) (n : Nat) (W : List Wd) : Nat → Qd
  | 0 => (0, 0, 0, 0, [], K00)
  | i + 1 => stQ W (rdQ t n W i) i (bt t n i)
def fqR (t : Nat → Nat) (n : Nat) (W : List Wd) : Qd := rdQ t n W (n + 1)
theorem rdQ_abs {t : Nat → Nat} {n : Nat} {W : List Wd} {i j : Nat} (h : eF (rdQ t n W i) ≠ 0) (hj : i ≤ j) : rdQ t n W j = rdQ t n W i := by
  induction j with
  | zero =>
    obtain rfl : i = 0 := by omega
    rfl
  | succ j ih =>
    by_cases e : i = j + 1
    · rw [e]
    · have ih := ih (by omega)
      show stQ W (rdQ t n W j) j _ = _
      unfold stQ
      rw [ih, if_pos h]
theorem fqR_f {t : Nat → Nat} {n : Nat} {W : List Wd} {i : Nat} (hi : i ≤ n + 1) (h : eF (rdQ t n W i) ≠ 0) : fqR t n W = rdQ t n W i := rdQ_abs h hi
