/-! THE MEMORY: what the objects and arrays of the class, of the reference and of the law hold, by component (a field), instance and index; two grids of numbers, ints and longs. -/
abbrev Mem : Type := (Nat → Nat → Nat → Int32) × (Nat → Nat → Nat → Int64)
def up1 (M : Mem) (c i k : Nat) (v : Int32) : Mem := (fun c' i' k' => if c' = c ∧ i' = i ∧ k' = k then v else M.1 c' i' k', M.2)
def up2 (M : Mem) (c i k : Nat) (v : Int64) : Mem := (M.1, fun c' i' k' => if c' = c ∧ i' = i ∧ k' = k then v else M.2 c' i' k')
/-- what is fixed once the objects are made: classes and slots, array classes, addresses, which cells may change -/
abbrev Gm : Type := va_G × (Nat → ClassId) × (Nat → Nat → Nat) × (Nat → Prop)
abbrev gD (G : Gm) : va_G := G.1
abbrev gC (G : Gm) : Nat → ClassId := G.2.1
abbrev ga (G : Gm) : Nat → Nat → Nat := G.2.2.1
abbrev gA (G : Gm) : Nat → Prop := G.2.2.2
def fc (c k : Nat) : Nat := 100 * (c + 1) + k
/-- the fields of a class: 0 an int, 1 a long, 2 an array of its own, 3 another object (component, and 10000 times the instance) -/
def fldT : Nat → List (Nat × Nat) := fun c => match c with
  | 0 => [(3, 4), (3, 5), (2, 102), (2, 103), (2, 104), (2, 105), (0, 0), (0, 0), (0, 0), (0, 0), (0, 0), (0, 0), (0, 0), (0, 0), (0, 0), (0, 0), (0, 0)]
  | 1 => [(3, 9), (2, 201), (0, 0), (0, 0)]
  | 2 => [(3, 6), (3, 3), (2, 302), (2, 303), (0, 0), (0, 0), (0, 0), (2, 307), (2, 308), (0, 0), (0, 0), (0, 0), (0, 0), (0, 0)]
  | 3 => [(3, 4), (3, 6), (2, 402), (0, 0), (0, 0)]
  | 4 => [(3, 9), (2, 501), (2, 502), (2, 503), (0, 0), (0, 0), (0, 0), (0, 0), (2, 508), (2, 509), (2, 510), (2, 511), (2, 512)]
  | 5 => [(3, 4), (0, 0), (0, 0), (0, 0), (0, 0), (0, 0), (0, 0), (0, 0), (0, 0)]
  | 6 => [(0, 0), (0, 0), (2, 702), (2, 703), (2, 704), (0, 0), (0, 0), (2, 707), (0, 0), (2, 709), (2, 710), (0, 0)]
  | 7 => [(3, 9), (3, 10006), (0, 0), (0, 0), (0, 0), (0, 0), (1, 0)]
  | 8 => [(3, 4), (3, 3), (2, 902), (2, 903), (0, 0)]
  | 9 => [(2, 1000), (0, 0)]
  | 10 => [(2, 1100), (0, 0), (0, 0), (0, 0), (0, 0), (3, 9), (3, 4), (3, 5), (3, 6), (3, 1), (3, 7), (3, 3), (3, 8), (3, 10008), (3, 2)]
  | 11 => [(0, 0), (2, 1201), (0, 0), (0, 0), (0, 0), (0, 0), (0, 0), (0, 0), (2, 1208), (0, 0), (0, 0), (0, 0), (2, 1212), (2, 1213), (2, 1214), (2, 1215), (2, 1216), (2, 1217), (0, 0), (0, 0), (0, 0), (0, 0), (0, 0), (0, 0), (0, 0), (2, 1225), (2, 1226), (2, 1227), (2, 1228), (2, 1229), (2, 1230), (1, 0), (0, 0), (0, 0), (0, 0), (0, 0), (2, 1236), (0, 0), (2, 1238), (0, 0), (0, 0), (2, 1241), (2, 1242), (2, 1243), (2, 1244), (2, 1245), (2, 1246), (2, 1247), (2, 1248), (2, 1249), (2, 1250), (2, 1251), (2, 1252), (2, 1253), (2, 1254), (2, 1255), (0, 0), (0, 0), (0, 0), (0, 0), (0, 0), (0, 0), (0, 0), (0, 0), (0, 0)]
  | _ => []
/-- the arrays: 0 ints 1 longs 2 booleans 3 rows of ints 4 cursors; the length; the component of the rows -/
def arrT : Nat → Option (Nat × Nat × Nat) := fun c => match c with
  | 102 => some (0, 32, 0)
  | 103 => some (0, 32, 0)
  | 104 => some (0, 32, 0)
  | 105 => some (0, 32, 0)
  | 201 => some (0, 150, 0)
  | 302 => some (4, 24, 0)
  | 303 => some (0, 24, 0)
  | 307 => some (0, 10, 0)
  | 308 => some (0, 10, 0)
  | 402 => some (0, 24, 0)
  | 501 => some (3, 64, 5501)
  | 502 => some (0, 64, 0)
  | 503 => some (0, 64, 0)
  | 508 => some (3, 255, 5508)
  | 509 => some (3, 255, 5509)
  | 510 => some (3, 255, 5510)
  | 511 => some (0, 255, 0)
  | 512 => some (0, 255, 0)
  | 702 => some (0, 24, 0)
  | 703 => some (0, 24, 0)
  | 704 => some (2, 24, 0)
  | 707 => some (0, 6, 0)
  | 709 => some (0, 6, 0)
  | 710 => some (3, 6, 5710)
  | 902 => some (0, 64, 0)
  | 903 => some (0, 64, 0)
  | 1000 => some (1, 255, 0)
  | 1100 => some (0, 300, 0)
  | 1201 => some (0, 2, 0)
  | 1208 => some (0, 300, 0)
  | 1212 => some (3, 64, 6212)
  | 1213 => some (0, 64, 0)
  | 1214 => some (0, 64, 0)
  | 1215 => some (0, 256, 0)
  | 1216 => some (1, 256, 0)
  | 1217 => some (3, 256, 6217)
  | 1225 => some (0, 24, 0)
  | 1226 => some (0, 24, 0)
  | 1227 => some (0, 24, 0)
  | 1228 => some (0, 6, 0)
  | 1229 => some (0, 6, 0)
  | 1230 => some (3, 6, 6230)
  | 1236 => some (3, 24, 6236)
  | 1238 => some (0, 64, 0)
  | 1241 => some (0, 64, 0)
  | 1242 => some (0, 64, 0)
  | 1243 => some (3, 24, 6243)
  | 1244 => some (3, 24, 6244)
  | 1245 => some (3, 24, 6245)
  | 1246 => some (0, 24, 0)
  | 1247 => some (0, 24, 0)
  | 1248 => some (0, 24, 0)
  | 1249 => some (0, 24, 0)
  | 1250 => some (0, 24, 0)
  | 1251 => some (0, 24, 0)
  | 1252 => some (0, 24, 0)
  | 1253 => some (2, 24, 0)
  | 1254 => some (0, 11, 0)
  | 1255 => some (0, 11, 0)
  | 5501 => some (0, 150, 0)
  | 5508 => some (0, 64, 0)
  | 5509 => some (0, 64, 0)
  | 5510 => some (0, 64, 0)
  | 5710 => some (0, 4, 0)
  | 5711 => some (0, 4, 0)
  | 6212 => some (0, 150, 0)
  | 6217 => some (0, 64, 0)
  | 6230 => some (0, 4, 0)
  | 6236 => some (0, 4, 0)
  | 6243 => some (0, 64, 0)
  | 6244 => some (0, 64, 0)
  | 6245 => some (0, 32, 0)
  | 9000 => some (1, 1, 0)
  | _ => none
def nin : Nat → Nat := fun c => match c with
  | 0 => 24
  | 1 => 1
  | 2 => 1
  | 3 => 1
  | 4 => 1
  | 5 => 1
  | 6 => 2
  | 7 => 1
  | 8 => 2
  | 9 => 1
  | 10 => 1
  | 11 => 1
  | 102 => 24
  | 103 => 24
  | 104 => 24
  | 105 => 24
  | 201 => 1
  | 302 => 1
  | 303 => 1
  | 307 => 1
  | 308 => 1
  | 402 => 1
  | 501 => 1
  | 502 => 1
  | 503 => 1
  | 508 => 1
  | 509 => 1
  | 510 => 1
  | 511 => 1
  | 512 => 1
  | 702 => 2
  | 703 => 2
  | 704 => 2
  | 707 => 2
  | 709 => 2
  | 710 => 2
  | 902 => 2
  | 903 => 2
  | 1000 => 1
  | 1100 => 1
  | 1201 => 1
  | 1208 => 1
  | 1212 => 1
  | 1213 => 1
  | 1214 => 1
  | 1215 => 1
  | 1216 => 1
  | 1217 => 1
  | 1225 => 1
  | 1226 => 1
  | 1227 => 1
  | 1228 => 1
  | 1229 => 1
  | 1230 => 1
  | 1236 => 1
  | 1238 => 1
  | 1241 => 1
  | 1242 => 1
  | 1243 => 1
  | 1244 => 1
  | 1245 => 1
  | 1246 => 1
  | 1247 => 1
  | 1248 => 1
  | 1249 => 1
  | 1250 => 1
  | 1251 => 1
  | 1252 => 1
  | 1253 => 1
  | 1254 => 1
  | 1255 => 1
  | 5501 => 64
  | 5508 => 255
  | 5509 => 255
  | 5510 => 255
  | 5710 => 6
  | 5711 => 6
  | 6212 => 64
  | 6217 => 256
  | 6230 => 6
  | 6236 => 24
  | 6243 => 24
  | 6244 => 24
  | 6245 => 24
  | 9000 => 1
  | _ => 0
def compL : List Nat := [0, 1, 2, 3, 4, 5, 6, 7, 8, 9, 10, 11, 102, 103, 104, 105, 201, 302, 303, 307, 308, 402, 501, 502, 503, 508, 509, 510, 511, 512, 702, 703, 704, 707, 709, 710, 902, 903, 1000, 1100, 1201, 1208, 1212, 1213, 1214, 1215, 1216, 1217, 1225, 1226, 1227, 1228, 1229, 1230, 1236, 1238, 1241, 1242, 1243, 1244, 1245, 1246, 1247, 1248, 1249, 1250, 1251, 1252, 1253, 1254, 1255, 5501, 5508, 5509, 5510, 5710, 5711, 6212, 6217, 6230, 6236, 6243, 6244, 6245, 9000]
def fval (G : Gm) (M : Mem) (c i k : Nat) (q : Nat × Nat) : Value := if q.1 = 0 then .int (M.1 (fc c k) i 0) else if q.1 = 1 then .long (M.2 (fc c k) i 0) else if q.1 = 2 then .ref (ga G q.2 i) else .ref (ga G (q.2 % 10000) (q.2 / 10000))
def cellA (G : Gm) (M : Mem) (c i k n r : Nat) : va_E := if k = 0 then .inl (gC G 0, n, .inl (M.1 c i)) else if k = 1 then .inl (gC G 1, n, .inr (.inl (M.2 c i))) else if k = 2 then .inl (gC G 2, n, .inl (M.1 c i)) else if k = 3 then .inl (gC G 3, n, .inr (.inr (.inr (.inr (fun j => if j < n then some (ga G (r + i) j) else none))))) else .inl (gC G 4, n, .inr (.inr (.inr (.inr (fun j => if j < n then some (ga G r j) else none)))))
def cellO (G : Gm) (M : Mem) (c i : Nat) : va_E := match arrT c with
  | some (k, n, r) => cellA G M c i k n r
  | none => .inr (c, (fldT c).mapIdx (fun k q => fval G M c i k q))
def idsL : List (Nat × Nat) := compL.flatMap (fun c => (List.range (nin c)).map (fun i => (c, i)))
def wsM (G : Gm) (M : Mem) : va_W := idsL.map (fun q => (ga G q.1 q.2, cellO G M q.1 q.2))
abbrev tysM (G : Gm) : List (ClassId × FieldType) := [(gC G 0, .int), (gC G 1, .long), (gC G 2, .boolean), (gC G 3, .array .int), (gC G 4, .object RX0)]
def Gd (G : Gm) : Prop := ∀ M, va_D (gA G) (wsM G M)
theorem compL_nd : compL.Nodup := by decide +kernel
theorem idsL_nd : idsL.Nodup := by
  unfold idsL
  rw [List.Nodup, List.pairwise_flatMap]
  refine ⟨fun c _ => ?_, ?_⟩
  · rw [List.pairwise_map]
    exact (List.nodup_range (n := nin c)).imp (fun h e => h (by cases e; rfl))
  · refine compL_nd.imp (fun {a b} hab x hx y hy e => ?_)
    obtain ⟨i, -, rfl⟩ := List.mem_map.mp hx
    obtain ⟨j, -, rfl⟩ := List.mem_map.mp hy
    cases e
    exact hab rfl
theorem idsL_mem {c i : Nat} (hc : c ∈ compL) (hi : i < nin c) : (c, i) ∈ idsL := List.mem_flatMap.mpr ⟨c, hc, List.mem_map.mpr ⟨i, List.mem_range.mpr hi, rfl⟩⟩
theorem idsL_of {q : Nat × Nat} (h : q ∈ idsL) : q.1 ∈ compL ∧ q.2 < nin q.1 := by
  obtain ⟨c, hc, h2⟩ := List.mem_flatMap.mp h
  obtain ⟨i, hi, rfl⟩ := List.mem_map.mp h2
  exact ⟨hc, List.mem_range.mp hi⟩
theorem wsM_at (G : Gm) (M : Mem) {c i : Nat} (hc : c ∈ compL) (hi : i < nin c) : ∃ q0 : Nat, idsL[q0]? = some (c, i) ∧ (wsM G M)[q0]? = some (ga G c i, cellO G M c i) := by
  obtain ⟨q0, h⟩ := List.getElem?_of_mem (idsL_mem hc hi)
  exact ⟨q0, h, by unfold wsM; rw [List.getElem?_map, h]; rfl⟩
theorem map_set {α β : Type} {l : List α} (hn : l.Nodup) {f g : α → β} {q0 : Nat} {a : α} (h : l[q0]? = some a) (hne : ∀ b ∈ l, b ≠ a → g b = f b) : (l.map f).set q0 (g a) = l.map g := by
  apply List.ext_getElem?
  intro j
  have hq : q0 < l.length := (List.getElem?_eq_some_iff.mp h).1
  by_cases hj : q0 = j
  · subst hj
    rw [List.getElem?_set_self (by rw [List.length_map]; exact hq), List.getElem?_map, h]
    rfl
  · rw [List.getElem?_set_ne hj, List.getElem?_map, List.getElem?_map]
    cases hb : l[j]? with
    | none => rfl
    | some b =>
      show some (f b) = some (g b)
      rw [hne b (List.mem_of_getElem? hb) ?_]
      intro e
      subst e
      have hj2 : j < l.length := (List.getElem?_eq_some_iff.mp hb).1
      exact hj ((List.getElem?_inj hq hn).mp (h.trans hb.symm))
/-- an int field and an array have no component in common; the fields of a class fit -/
theorem tab_ok : (compL.all fun c => (fldT c).length < 100 && (fldT c).zipIdx.all (fun q => (arrT (fc c q.2)).isNone || 2 ≤ q.1.1) && (decide (arrT c = none) || decide (100 ≤ c)) && (decide (100 ≤ c) || decide (c < 12))) = true := by decide +kernel
theorem fc_inj {c c' k k' : Nat} (hk : k < 100) (hk' : k' < 100) (h : fc c k = fc c' k') : c = c' ∧ k = k' := by unfold fc at h; omega
theorem tab_of {c : Nat} (hc : c ∈ compL) : (fldT c).length < 100 ∧ (∀ k q, (fldT c)[k]? = some q → arrT (fc c k) = none ∨ 2 ≤ q.1) := by
  have h := List.all_eq_true.mp tab_ok c hc
  simp only [Bool.and_eq_true, decide_eq_true_eq] at h
  refine ⟨h.1.1.1, fun k q hq => ?_⟩
  have h2 := List.all_eq_true.mp h.1.1.2 (q, k) (List.mem_zipIdx_iff_getElem?.mpr hq)
  simp only [Bool.or_eq_true, decide_eq_true_eq] at h2
  rcases h2 with h2 | h2
  · left; cases hh : arrT (fc c k) with
    | none => rfl
    | some x => rw [hh] at h2; cases h2
  · exact Or.inr h2
theorem up1_ne {M : Mem} {c i k c' i' k' : Nat} {v : Int32} (h : ¬ (c' = c ∧ i' = i ∧ k' = k)) : (up1 M c i k v).1 c' i' k' = M.1 c' i' k' := if_neg h
theorem up1_eq {M : Mem} {c i k : Nat} {v : Int32} : (up1 M c i k v).1 c i k = v := if_pos ⟨rfl, rfl, rfl⟩
theorem up2_ne {M : Mem} {c i k c' i' k' : Nat} {v : Int64} (h : ¬ (c' = c ∧ i' = i ∧ k' = k)) : (up2 M c i k v).2 c' i' k' = M.2 c' i' k' := if_neg h
theorem up2_eq {M : Mem} {c i k : Nat} {v : Int64} : (up2 M c i k v).2 c i k = v := if_pos ⟨rfl, rfl, rfl⟩
theorem up1_2 {M : Mem} {c i k : Nat} {v : Int32} : (up1 M c i k v).2 = M.2 := rfl
theorem up2_1 {M : Mem} {c i k : Nat} {v : Int64} : (up2 M c i k v).1 = M.1 := rfl
theorem up1_row {M : Mem} {c i k : Nat} {v : Int32} : (up1 M c i k v).1 c i = upd (M.1 c i) k v := by
  funext j
  unfold up1 upd
  by_cases h : j = k <;> simp [h]
theorem up2_row {M : Mem} {c i k : Nat} {v : Int64} : (up2 M c i k v).2 c i = vp_updL (M.2 c i) k v := by
  funext j
  unfold up2 vp_updL
  by_cases h : j = k <;> simp [h]
theorem up1_other {M : Mem} {c i k c' i' : Nat} {v : Int32} (h : ¬ (c' = c ∧ i' = i)) : (up1 M c i k v).1 c' i' = M.1 c' i' := by
  funext j
  exact up1_ne (fun q => h ⟨q.1, q.2.1⟩)
theorem up2_other {M : Mem} {c i k c' i' : Nat} {v : Int64} (h : ¬ (c' = c ∧ i' = i)) : (up2 M c i k v).2 c' i' = M.2 c' i' := by
  funext j
  exact up2_ne (fun q => h ⟨q.1, q.2.1⟩)
/-- two memories that agree at a cell's numbers make the same cell -/
theorem cellO_congr {G : Gm} {M N : Mem} {c i : Nat} (h1 : arrT c ≠ none → M.1 c i = N.1 c i) (h2 : arrT c ≠ none → M.2 c i = N.2 c i) (h3 : arrT c = none → ∀ k q, (fldT c)[k]? = some q → q.1 = 0 → M.1 (fc c k) i 0 = N.1 (fc c k) i 0) (h4 : arrT c = none → ∀ k q, (fldT c)[k]? = some q → q.1 = 1 → M.2 (fc c k) i 0 = N.2 (fc c k) i 0) : cellO G M c i = cellO G N c i := by
  unfold cellO
  cases ha : arrT c with
  | some x =>
    obtain ⟨k, n, r⟩ := x
    have e1 := h1 (by rw [ha]; exact fun q => by cases q)
    have e2 := h2 (by rw [ha]; exact fun q => by cases q)
    show cellA G M c i k n r = cellA G N c i k n r
    unfold cellA
    rw [e1, e2]
  | none =>
    show (Sum.inr (c, (fldT c).mapIdx (fun k q => fval G M c i k q)) : va_E) = Sum.inr (c, (fldT c).mapIdx (fun k q => fval G N c i k q))
    congr 2
    apply List.ext_getElem?
    intro k
    rw [List.getElem?_mapIdx, List.getElem?_mapIdx]
    cases hq : (fldT c)[k]? with
    | none => rfl
    | some q =>
      show some (fval G M c i k q) = some (fval G N c i k q)
      unfold fval
      by_cases e0 : q.1 = 0
      · rw [if_pos e0, if_pos e0, h3 ha k q hq e0]
      · rw [if_neg e0, if_neg e0]
        by_cases e1 : q.1 = 1
        · rw [if_pos e1, if_pos e1, h4 ha k q hq e1]
        · rw [if_neg e1, if_neg e1]
theorem fld_set {G : Gm} {M N : Mem} {c i k : Nat} {q : Nat × Nat} {v : Value} (hk : (fldT c)[k]? = some q) (hv : fval G N c i k q = v) (hne : ∀ j q', j ≠ k → (fldT c)[j]? = some q' → fval G N c i j q' = fval G M c i j q') : ((fldT c).mapIdx (fun k q => fval G M c i k q)).set k v = (fldT c).mapIdx (fun k q => fval G N c i k q) := by
  apply List.ext_getElem?
  intro j
  have hlt := (List.getElem?_eq_some_iff.mp hk).1
  by_cases hj : k = j
  · subst hj
    rw [List.getElem?_set_self (by rw [List.length_mapIdx]; exact hlt), List.getElem?_mapIdx, hk, ← hv]
    rfl
  · rw [List.getElem?_set_ne hj, List.getElem?_mapIdx, List.getElem?_mapIdx]
    cases hq : (fldT c)[j]? with
    | none => rfl
    | some q' => show some (fval G M c i j q') = some (fval G N c i j q'); rw [hne j q' (Ne.symm hj) hq]
/-- an int field is set -/
theorem ws_put1 {G : Gm} {M : Mem} {c i k q0 : Nat} {x : Nat} {v : Int32} (hc : c ∈ compL) (ha : arrT c = none) (hk : (fldT c)[k]? = some (0, x)) (h : idsL[q0]? = some (c, i)) : (wsM G M).set q0 (ga G c i, .inr (c, ((fldT c).mapIdx (fun k q => fval G M c i k q)).set k (.int v))) = wsM G (up1 M (fc c k) i 0 v) := by
  have hkl : k < 100 := Nat.lt_trans (List.getElem?_eq_some_iff.mp hk).1 (tab_of hc).1
  have hna : arrT (fc c k) = none := ((tab_of hc).2 k _ hk).resolve_right (by simp)
  have hcell : cellO G (up1 M (fc c k) i 0 v) c i = .inr (c, ((fldT c).mapIdx (fun k q => fval G M c i k q)).set k (.int v)) := by
    rw [fld_set (G := G) (N := up1 M (fc c k) i 0 v) (v := .int v) hk (by unfold fval; rw [if_pos rfl, up1_eq]) (fun j q' hj hq => by
      unfold fval
      rw [up1_ne (fun e => hj (fc_inj (Nat.lt_trans (List.getElem?_eq_some_iff.mp hq).1 (tab_of hc).1) hkl e.1).2)]
      rfl)]
    unfold cellO
    rw [ha]
  unfold wsM
  rw [← hcell]
  refine map_set (g := fun q => (ga G q.1 q.2, cellO G (up1 M (fc c k) i 0 v) q.1 q.2)) idsL_nd h (fun b hb hne => ?_)
  show (ga G b.1 b.2, cellO G (up1 M (fc c k) i 0 v) b.1 b.2) = (ga G b.1 b.2, cellO G M b.1 b.2)
  rw [cellO_congr (M := up1 M (fc c k) i 0 v) (N := M) (fun hx => up1_other (fun e => hx (e.1 ▸ hna))) (fun _ => rfl) (fun _ j q hq hq0 => up1_ne (fun e => ?_)) (fun _ _ _ _ _ => rfl)]
  have e2 := fc_inj (Nat.lt_trans (List.getElem?_eq_some_iff.mp hq).1 (tab_of (idsL_of hb).1).1) hkl e.1
  exact hne (Prod.ext e2.1 e.2.1)
/-- a long field is set -/
theorem ws_put2 {G : Gm} {M : Mem} {c i k q0 : Nat} {x : Nat} {v : Int64} (hc : c ∈ compL) (ha : arrT c = none) (hk : (fldT c)[k]? = some (1, x)) (h : idsL[q0]? = some (c, i)) : (wsM G M).set q0 (ga G c i, .inr (c, ((fldT c).mapIdx (fun k q => fval G M c i k q)).set k (.long v))) = wsM G (up2 M (fc c k) i 0 v) := by
  have hkl : k < 100 := Nat.lt_trans (List.getElem?_eq_some_iff.mp hk).1 (tab_of hc).1
  have hna : arrT (fc c k) = none := ((tab_of hc).2 k _ hk).resolve_right (by simp)
  have hcell : cellO G (up2 M (fc c k) i 0 v) c i = .inr (c, ((fldT c).mapIdx (fun k q => fval G M c i k q)).set k (.long v)) := by
    rw [fld_set (G := G) (N := up2 M (fc c k) i 0 v) (v := .long v) hk (by unfold fval; rw [if_neg (by simp), if_pos rfl, up2_eq]) (fun j q' hj hq => by
      unfold fval
      rw [up2_ne (fun e => hj (fc_inj (Nat.lt_trans (List.getElem?_eq_some_iff.mp hq).1 (tab_of hc).1) hkl e.1).2)]
      rfl)]
    unfold cellO
    rw [ha]
  unfold wsM
  rw [← hcell]
  refine map_set (g := fun q => (ga G q.1 q.2, cellO G (up2 M (fc c k) i 0 v) q.1 q.2)) idsL_nd h (fun b hb hne => ?_)
  show (ga G b.1 b.2, cellO G (up2 M (fc c k) i 0 v) b.1 b.2) = (ga G b.1 b.2, cellO G M b.1 b.2)
  rw [cellO_congr (M := up2 M (fc c k) i 0 v) (N := M) (fun _ => rfl) (fun hx => up2_other (fun e => hx (e.1 ▸ hna))) (fun _ _ _ _ _ => rfl) (fun _ j q hq hq0 => up2_ne (fun e => ?_))]
  have e2 := fc_inj (Nat.lt_trans (List.getElem?_eq_some_iff.mp hq).1 (tab_of (idsL_of hb).1).1) hkl e.1
  exact hne (Prod.ext e2.1 e.2.1)
/-- a place of an int array is set -/
theorem ws_ast1 {G : Gm} {M : Mem} {c i j q0 : Nat} {v : Int32} (hx : arrT c ≠ none) (h : idsL[q0]? = some (c, i)) : (wsM G M).set q0 (ga G c i, cellO G (up1 M c i j v) c i) = wsM G (up1 M c i j v) := by
  unfold wsM
  refine map_set (g := fun q => (ga G q.1 q.2, cellO G (up1 M c i j v) q.1 q.2)) idsL_nd h (fun b hb hne => ?_)
  show (ga G b.1 b.2, cellO G (up1 M c i j v) b.1 b.2) = (ga G b.1 b.2, cellO G M b.1 b.2)
  rw [cellO_congr (M := up1 M c i j v) (N := M) (fun _ => up1_other (fun e => hne (Prod.ext e.1 e.2))) (fun _ => rfl) (fun _ k q hq hq0 => up1_ne (fun e => ?_)) (fun _ _ _ _ _ => rfl)]
  rcases (tab_of (idsL_of hb).1).2 k q hq with hn | hn
  · exact hx (e.1 ▸ hn)
  · omega
theorem ws_ast2 {G : Gm} {M : Mem} {c i j q0 : Nat} {v : Int64} (hx : arrT c ≠ none) (h : idsL[q0]? = some (c, i)) : (wsM G M).set q0 (ga G c i, cellO G (up2 M c i j v) c i) = wsM G (up2 M c i j v) := by
  unfold wsM
  refine map_set (g := fun q => (ga G q.1 q.2, cellO G (up2 M c i j v) q.1 q.2)) idsL_nd h (fun b hb hne => ?_)
  show (ga G b.1 b.2, cellO G (up2 M c i j v) b.1 b.2) = (ga G b.1 b.2, cellO G M b.1 b.2)
  rw [cellO_congr (M := up2 M c i j v) (N := M) (fun _ => rfl) (fun _ => up2_other (fun e => hne (Prod.ext e.1 e.2))) (fun _ _ _ _ _ => rfl) (fun _ k q hq hq0 => up2_ne (fun e => ?_))]
  rcases (tab_of (idsL_of hb).1).2 k q hq with hn | hn
  · exact hx (e.1 ▸ hn)
  · omega
