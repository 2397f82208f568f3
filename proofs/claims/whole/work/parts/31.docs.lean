/-! PURE: documents and their lists -/
theorem gd_out {α : Type} {l : List α} {i : Nat} {d : α} (h : l.length ≤ i) : l.getD i d = d := by rw [List.getD_eq_getElem?_getD, List.getElem?_eq_none h]; rfl
theorem gd_in {α : Type} {l : List α} {i : Nat} {d : α} (h : i < l.length) : l.getD i d = l[i] := by rw [List.getD_eq_getElem?_getD, List.getElem?_eq_getElem h]; rfl
theorem gd_l {α : Type} {a b : List α} {i : Nat} {d : α} (h : i < a.length) : (a ++ b).getD i d = a.getD i d := by rw [List.getD_eq_getElem?_getD, List.getElem?_append_left h, ← List.getD_eq_getElem?_getD]
theorem gd_r {α : Type} {a : List α} {x d : α} : (a ++ [x]).getD a.length d = x := by rw [List.getD_eq_getElem?_getD]; simp
/-- a document: the numbers of its words, and 1 there, 2 gone, 3 purged -/
abbrev Dc : Type := List (List Nat × Nat)
def dW (D : Dc) (d : Nat) : List Nat := (D.getD d ([], 0)).1
def dS (D : Dc) (d : Nat) : Nat := (D.getD d ([], 0)).2
def dL (D : Dc) (d : Nat) : Nat := (dW D d).length
def dT (D : Dc) (d p : Nat) : Nat := (dW D d).getD p 0
def cnt (D : Dc) (w d : Nat) : Nat := ctF (fun p => dT D d p == w) (dL D d)
/-- behind k positions: the last one of w and 1 (0: none yet), the greatest gap -/
def jst (w : Nat) (t : Nat → Nat) : Nat → Nat × Nat
  | 0 => (0, 0)
  | k + 1 => if t k = w then (k + 1, max (jst w t k).2 (k + 1 - (jst w t k).1)) else jst w t k
def jmp (D : Dc) (w d : Nat) : Nat := (jst w (dT D d) (dL D d)).2
def inL (D : Dc) (w d : Nat) : Bool := dS D d != 3 && cnt D w d != 0
def lsT (D : Dc) (w n : Nat) : List Nat := (List.range n).filter (inL D w)
def lst (D : Dc) (w : Nat) : List Nat := lsT D w D.length
def pN (D : Dc) (w : Nat) : Nat := (lst D w).length
def pK (D : Dc) (w k : Nat) : Nat := (lst D w).getD k 0
def keptN (D : Dc) : Nat := ctF (fun d => dS D d != 3) D.length
def goneN (D : Dc) : Nat := ctF (fun d => dS D d == 2) D.length
def gain (D : Dc) (w d : Nat) : Nat := cnt D w d * 1000 / (cnt D w d + 1 + dL D d / 4)
def rare (D : Dc) (w : Nat) : Nat := if pN D w = 0 then 0 else 1 + hlv (keptN D / pN D w)
def topR (D : Dc) (w fr m : Nat) : Nat := mxF (fun j => gain D w (pK D w (fr + j))) m
/-- what documents are allowed, with kn words known -/
def DW (D : Dc) (kn : Nat) : Prop := D.length ≤ 64 ∧ kn ≤ 255 ∧ ∀ d, d < D.length → 1 ≤ dL D d ∧ dL D d ≤ 150 ∧ 1 ≤ dS D d ∧ dS D d ≤ 3 ∧ ∀ p, p < dL D d → dT D d p < kn
theorem dW_out {D : Dc} {d : Nat} (h : D.length ≤ d) : dW D d = [] := by unfold dW; rw [gd_out h]
theorem dS_out {D : Dc} {d : Nat} (h : D.length ≤ d) : dS D d = 0 := by unfold dS; rw [gd_out h]
theorem dL_out {D : Dc} {d : Nat} (h : D.length ≤ d) : dL D d = 0 := by unfold dL; rw [dW_out h]; rfl
theorem cnt_out {D : Dc} {w d : Nat} (h : D.length ≤ d) : cnt D w d = 0 := by unfold cnt; rw [dL_out h]; rfl
theorem jmp_out {D : Dc} {w d : Nat} (h : D.length ≤ d) : jmp D w d = 0 := by unfold jmp; rw [dL_out h]; rfl
theorem dT_out {D : Dc} {d p : Nat} (h : dL D d ≤ p) : dT D d p = 0 := by unfold dT; exact gd_out h
theorem cnt_le (D : Dc) (w d : Nat) : cnt D w d ≤ dL D d := ctF_le _ _
theorem DW.dl {D : Dc} {kn : Nat} (h : DW D kn) (d : Nat) : dL D d ≤ 150 := by
  by_cases hd : d < D.length
  · exact (h.2.2 d hd).2.1
  · rw [dL_out (by omega)]; omega
theorem DW.ds {D : Dc} {kn : Nat} (h : DW D kn) (d : Nat) : dS D d ≤ 3 := by
  by_cases hd : d < D.length
  · exact (h.2.2 d hd).2.2.2.1
  · rw [dS_out (by omega)]; omega
theorem DW.cn {D : Dc} {kn : Nat} (h : DW D kn) (w d : Nat) : cnt D w d ≤ 150 := Nat.le_trans (cnt_le D w d) (h.dl d)
theorem DW.ge {D : Dc} {kn : Nat} (h : DW D kn) (w d : Nat) (hw : kn ≤ w) : cnt D w d = 0 := by
  unfold cnt
  rw [ctF_zero]
  intro p hp
  by_cases hd : d < D.length
  · have := (h.2.2 d hd).2.2.2.2 p hp
    simp; omega
  · rw [dL_out (by omega)] at hp; omega
theorem gain_le (D : Dc) (w d : Nat) : gain D w d ≤ 1000 := by
  unfold gain
  exact Nat.div_le_of_le_mul (by omega)
theorem gain_zero {D : Dc} {w d : Nat} (h : cnt D w d = 0) : gain D w d = 0 := by unfold gain; rw [h]; simp
/-! the lists -/
theorem lsT_succ (D : Dc) (w n : Nat) : lsT D w (n + 1) = lsT D w n ++ (if inL D w n then [n] else []) := by
  unfold lsT
  rw [List.range_succ, List.filter_append]
  congr 1
  by_cases h : inL D w n = true
  · rw [List.filter_cons_of_pos h, if_pos h]; rfl
  · rw [List.filter_cons_of_neg h, if_neg h]; rfl
theorem lsT_le (D : Dc) (w n : Nat) : (lsT D w n).length ≤ n := by
  unfold lsT
  exact Nat.le_trans (List.length_filter_le _ _) (by rw [List.length_range]; exact Nat.le_refl _)
theorem pN_le (D : Dc) (w : Nat) : pN D w ≤ D.length := lsT_le D w D.length
theorem pK_mem {D : Dc} {w k : Nat} (h : k < pN D w) : pK D w k ∈ lst D w := by
  unfold pK
  rw [gd_in h]
  exact List.getElem_mem h
theorem lst_mem {D : Dc} {w d : Nat} : d ∈ lst D w ↔ d < D.length ∧ inL D w d = true := by
  unfold lst lsT
  rw [List.mem_filter, List.mem_range]
theorem pK_lt {D : Dc} {w k : Nat} (h : k < pN D w) : pK D w k < D.length := (lst_mem.mp (pK_mem h)).1
theorem pK_in {D : Dc} {w k : Nat} (h : k < pN D w) : inL D w (pK D w k) = true := (lst_mem.mp (pK_mem h)).2
theorem pK_cnt {D : Dc} {w k : Nat} (h : k < pN D w) : 0 < cnt D w (pK D w k) ∧ dS D (pK D w k) ≠ 3 := by
  have := pK_in h
  unfold inL at this
  simp at this
  omega
theorem lst_sorted (D : Dc) (w : Nat) : (lst D w).Pairwise (· < ·) := by
  unfold lst lsT
  exact List.Pairwise.filter _ List.pairwise_lt_range
theorem pK_mono {D : Dc} {w i j : Nat} (h : i < j) (hj : j < pN D w) : pK D w i < pK D w j := by
  have hi : i < (lst D w).length := Nat.lt_trans h hj
  unfold pK
  rw [gd_in hi, gd_in hj]
  exact List.pairwise_iff_getElem.mp (lst_sorted D w) i j hi hj h
theorem pK_of {D : Dc} {w d : Nat} (hd : d < D.length) (h : inL D w d = true) : ∃ k, k < pN D w ∧ pK D w k = d := by
  obtain ⟨k, hk, e⟩ := List.getElem_of_mem (lst_mem.mpr ⟨hd, h⟩)
  exact ⟨k, hk, by unfold pK; rw [gd_in hk, e]⟩
theorem rare_le (D : Dc) (w : Nat) : rare D w ≤ 1 + D.length := by
  unfold rare
  by_cases h : pN D w = 0
  · rw [if_pos h]; omega
  · rw [if_neg h]
    have h1 := hlv_le (keptN D / pN D w)
    have h2 := Nat.div_le_self (keptN D) (pN D w)
    have h3 : keptN D ≤ D.length := ctF_le _ _
    omega
theorem topR_le (D : Dc) (w fr m : Nat) : topR D w fr m ≤ 1000 := mxF_le (fun _ _ => gain_le _ _ _)
/-! what the class's memory holds of them -/
def pCD (c _ : Nat) : Bool := decide ((500 < c ∧ c < 513) ∨ (5500 < c ∧ c < 5511))
def CD (D : Dc) (M : Mem) : Prop := M.1 504 0 0 = nI D.length ∧ M.1 505 0 0 = nI (keptN D) ∧ M.1 506 0 0 = nI (goneN D) ∧ (∀ d, M.1 502 0 d = nI (dL D d)) ∧ (∀ d, M.1 503 0 d = nI (dS D d - 1)) ∧ (∀ d p, M.1 5501 d p = nI (dT D d p)) ∧ (∀ w d, M.1 5508 w d = nI (cnt D w d)) ∧ (∀ w d, M.1 5509 w d = nI (jmp D w d)) ∧ (∀ w, M.1 511 0 w = nI (pN D w)) ∧ (∀ w k, k < pN D w → M.1 5510 w k = nI (pK D w k))
theorem CD.n {D : Dc} {M : Mem} (h : CD D M) : M.1 504 0 0 = nI D.length := h.1
theorem CD.kept {D : Dc} {M : Mem} (h : CD D M) : M.1 505 0 0 = nI (keptN D) := h.2.1
theorem CD.gone {D : Dc} {M : Mem} (h : CD D M) : M.1 506 0 0 = nI (goneN D) := h.2.2.1
theorem CD.len {D : Dc} {M : Mem} (h : CD D M) (d : Nat) : M.1 502 0 d = nI (dL D d) := h.2.2.2.1 d
theorem CD.st {D : Dc} {M : Mem} (h : CD D M) (d : Nat) : M.1 503 0 d = nI (dS D d - 1) := h.2.2.2.2.1 d
theorem CD.tx {D : Dc} {M : Mem} (h : CD D M) (d p : Nat) : M.1 5501 d p = nI (dT D d p) := h.2.2.2.2.2.1 d p
theorem CD.cn {D : Dc} {M : Mem} (h : CD D M) (w d : Nat) : M.1 5508 w d = nI (cnt D w d) := h.2.2.2.2.2.2.1 w d
theorem CD.jm {D : Dc} {M : Mem} (h : CD D M) (w d : Nat) : M.1 5509 w d = nI (jmp D w d) := h.2.2.2.2.2.2.2.1 w d
theorem CD.po {D : Dc} {M : Mem} (h : CD D M) (w : Nat) : M.1 511 0 w = nI (pN D w) := h.2.2.2.2.2.2.2.2.1 w
theorem CD.li {D : Dc} {M : Mem} (h : CD D M) {w k : Nat} (hk : k < pN D w) : M.1 5510 w k = nI (pK D w k) := h.2.2.2.2.2.2.2.2.2 w k hk
theorem CD.kp {D : Dc} {M : Mem} (h : CD D M) {M' : Mem} (k : Kp pCD M M') : CD D M' := by
  obtain ⟨a, b, c, d, e, f, g, i, j, l⟩ := h
  exact ⟨by rw [k.g rfl]; exact a, by rw [k.g rfl]; exact b, by rw [k.g rfl]; exact c, fun x => by rw [k.g rfl]; exact d x, fun x => by rw [k.g rfl]; exact e x, fun x y => by rw [k.g rfl]; exact f x y, fun x y => by rw [k.g rfl]; exact g x y, fun x y => by rw [k.g rfl]; exact i x y, fun x => by rw [k.g rfl]; exact j x, fun x y hy => by rw [k.g rfl]; exact l x y hy⟩
/-! what the reference's memory holds of them -/
def pMD (c _ : Nat) : Bool := decide (c = 1209 ∨ c = 1213 ∨ c = 1214 ∨ c = 6212 ∨ c = 6217)
def MD (D : Dc) (M : Mem) : Prop := M.1 1209 0 0 = nI D.length ∧ (∀ d, M.1 1213 0 d = nI (dL D d)) ∧ (∀ d, M.1 1214 0 d = nI (dS D d)) ∧ (∀ d p, d < D.length → p < dL D d → M.1 6212 d p = nI (dT D d p)) ∧ (∀ w d, M.1 6217 w d = nI (cnt D w d))
theorem MD.n {D : Dc} {M : Mem} (h : MD D M) : M.1 1209 0 0 = nI D.length := h.1
theorem MD.len {D : Dc} {M : Mem} (h : MD D M) (d : Nat) : M.1 1213 0 d = nI (dL D d) := h.2.1 d
theorem MD.st {D : Dc} {M : Mem} (h : MD D M) (d : Nat) : M.1 1214 0 d = nI (dS D d) := h.2.2.1 d
theorem MD.tx {D : Dc} {M : Mem} (h : MD D M) {d p : Nat} (hp : p < dL D d) : M.1 6212 d p = nI (dT D d p) := h.2.2.2.1 d p (by
  by_cases hd : d < D.length
  · exact hd
  · rw [dL_out (by omega)] at hp; omega) hp
theorem MD.cn {D : Dc} {M : Mem} (h : MD D M) (w d : Nat) : M.1 6217 w d = nI (cnt D w d) := h.2.2.2.2 w d
theorem MD.kp {D : Dc} {M : Mem} (h : MD D M) {M' : Mem} (k : Kp pMD M M') : MD D M' := by
  obtain ⟨a, b, c, d, e⟩ := h
  exact ⟨by rw [k.g rfl]; exact a, fun x => by rw [k.g rfl]; exact b x, fun x => by rw [k.g rfl]; exact c x, fun x y hx hy => by rw [k.g rfl]; exact d x y hx hy, fun x y => by rw [k.g rfl]; exact e x y⟩
