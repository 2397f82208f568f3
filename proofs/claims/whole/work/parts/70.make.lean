/-! MAKING: the constructors, over a world that grows at its end -/
theorem ym_over {s : State} {args : Array Value} {first : State} {o : Option Outcome} {idx : List Nat} {t : FieldType} (h : (Cond.arrayOver (.array t)).holds args first o s idx = true) :
    ∃ comp c k, s.vm.findClass (FieldType.array t).toString = some comp ∧ (s.vm.classes.findIdx? fun (x : Class) => match x.kind with | .array component _ => component == comp | _ => false) = some c ∧ s.vm.classes[c]? = some k ∧ k.kind = .array comp (.array t) ∧ s.vm.findClass ("[" ++ (FieldType.array t).toString) = some c := by
  simp only [Cond.holds, Cond.value, beq_iff_eq] at h
  cases hc : s.vm.findClass (FieldType.array t).toString with
  | none => simp [hc] at h
  | some comp =>
    simp only [hc, Option.bind_some, Option.bind_eq_some_iff, Option.map_eq_some_iff] at h
    obtain ⟨c, hi, k, hk, hb⟩ := h
    obtain ⟨hlt, hp, -⟩ := Array.findIdx?_eq_some_iff_getElem.mp hi
    have hkk : s.vm.classes[c] = k := (Array.getElem?_eq_some_iff.mp hk).2
    rw [hkk] at hp
    cases hkind : k.kind with
    | array component ty =>
      rw [hkind] at hb hp
      simp at hb hp
      exact ⟨comp, c, k, rfl, hi, hk, by rw [hkind, hp, hb.1], hb.2⟩
    | _ => rw [hkind] at hb; simp at hb
theorem ym_AOA {t : FieldType} {u U : State} (hvm : u.vm.Alike U.vm) (h : va_AOA t u) : va_AOA t U := by
  obtain ⟨comp, c, k, h1, h2, h3, h4, h5⟩ := ym_over h
  obtain ⟨k', hk', he⟩ := hvm.2.2 _ _ h3
  have hi : (U.vm.classes.findIdx? fun (x : Class) => match x.kind with | .array component _ => component == comp | _ => false) = some c := by
    refine (va_idx_bare U.vm comp).symm.trans ?_
    have hb : U.vm.bare = u.vm.bare := by first | exact hvm.bare_eq.symm | exact hvm.bare_eq
    rw [hb]
    exact (va_idx_bare u.vm comp).trans h2
  have hkind : k'.kind = .array comp (.array t) := by rw [he]; exact h4
  have f1 : U.vm.findClass (FieldType.array t).toString = some comp := by rw [hvm.findClass]; exact h1
  have f2 : U.vm.findClass ("[" ++ (FieldType.array t).toString) = some c := by rw [hvm.findClass]; exact h5
  unfold va_AOA Cond.before Cond.holds
  simp only [Cond.value]
  rw [f1, Option.bind_some]
  refine (congrArg (fun o : Option Nat => (o.bind (fun c => (U.vm.classes[c]?).map fun (k : Class) => match k.kind with | .array _ ty => decide (ty = FieldType.array t) && decide (U.vm.findClass ("[" ++ (FieldType.array t).toString) = some c) | _ => false) == some true)) hi).trans ?_
  simp [hk', hkind, f2]
/-- what the numbers are when the objects have been made -/
def M0 : Mem := (fun c _ _ => bif Nat.beq c 107 then 4 else bif Nat.beq c 507 then 4 else bif Nat.beq c 1211 then 4 else bif Nat.beq c 113 then 1 else bif Nat.beq c 306 then 1 else bif Nat.beq c 114 then (-1) else bif Nat.beq c 203 then (-1) else bif Nat.beq c 403 then (-1) else bif Nat.beq c 802 then (-1) else bif Nat.beq c 1102 then (-1) else bif Nat.beq c 1205 then (-1) else bif Nat.beq c 1239 then (-1) else 0, fun _ _ _ => 0)
def upG (G : Gm) (f : Nat → Nat → Nat) : Gm := (G.1, G.2.1, f, G.2.2.2)
def wsI (S : List (Nat × Nat)) (G : Gm) (M : Mem) : va_W := S.map (fun q => (ga G q.1 q.2, cellO G M q.1 q.2))
def depL (c i : Nat) : List (Nat × Nat) := match arrT c with
  | some (k, n, r) => if k = 0 ∨ k = 1 ∨ k = 2 then [] else if k = 3 then (List.range n).map (fun j => (r + i, j)) else (List.range n).map (fun j => (r, j))
  | none => (fldT c).flatMap (fun q => if q.1 = 0 ∨ q.1 = 1 then [] else if q.1 = 2 then [(q.2, i)] else [(q.2 % 10000, q.2 / 10000)])
theorem cellO_ga {G : Gm} {f g : Nat → Nat → Nat} {M : Mem} {c i : Nat} (h : ∀ d ∈ depL c i, f d.1 d.2 = g d.1 d.2) : cellO (upG G f) M c i = cellO (upG G g) M c i := by
  unfold cellO
  unfold depL at h
  cases ha : arrT c with
  | some x =>
    obtain ⟨k, n, r⟩ := x
    rw [ha] at h
    show cellA (upG G f) M c i k n r = cellA (upG G g) M c i k n r
    unfold cellA
    by_cases h0 : k = 0
    · rw [if_pos h0, if_pos h0]; rfl
    rw [if_neg h0, if_neg h0]
    by_cases h1 : k = 1
    · rw [if_pos h1, if_pos h1]; rfl
    rw [if_neg h1, if_neg h1]
    by_cases h2 : k = 2
    · rw [if_pos h2, if_pos h2]; rfl
    rw [if_neg h2, if_neg h2]
    have h : ∀ d ∈ (if k = 0 ∨ k = 1 ∨ k = 2 then [] else if k = 3 then (List.range n).map (fun j => (r + i, j)) else (List.range n).map (fun j => (r, j))), f d.1 d.2 = g d.1 d.2 := h
    rw [if_neg (by omega)] at h
    by_cases h3 : k = 3
    · rw [if_pos h3] at h
      rw [if_pos h3, if_pos h3]
      have e : (fun j => if j < n then some (f (r + i) j) else none) = (fun j => if j < n then some (g (r + i) j) else none) := by
        funext j
        by_cases hj : j < n
        · rw [if_pos hj, if_pos hj, h (r + i, j) (List.mem_map.mpr ⟨j, List.mem_range.mpr hj, rfl⟩)]
        · rw [if_neg hj, if_neg hj]
      show (Sum.inl (gC G 3, n, .inr (.inr (.inr (.inr (fun j => if j < n then some (f (r + i) j) else none))))) : va_E) = Sum.inl (gC G 3, n, .inr (.inr (.inr (.inr (fun j => if j < n then some (g (r + i) j) else none)))))
      rw [e]
    · rw [if_neg h3] at h
      rw [if_neg h3, if_neg h3]
      have e : (fun j => if j < n then some (f r j) else none) = (fun j => if j < n then some (g r j) else none) := by
        funext j
        by_cases hj : j < n
        · rw [if_pos hj, if_pos hj, h (r, j) (List.mem_map.mpr ⟨j, List.mem_range.mpr hj, rfl⟩)]
        · rw [if_neg hj, if_neg hj]
      show (Sum.inl (gC G 4, n, .inr (.inr (.inr (.inr (fun j => if j < n then some (f r j) else none))))) : va_E) = Sum.inl (gC G 4, n, .inr (.inr (.inr (.inr (fun j => if j < n then some (g r j) else none)))))
      rw [e]
  | none =>
    rw [ha] at h
    show (Sum.inr (c, (fldT c).mapIdx (fun k q => fval (upG G f) M c i k q)) : va_E) = Sum.inr (c, (fldT c).mapIdx (fun k q => fval (upG G g) M c i k q))
    congr 2
    apply List.ext_getElem?
    intro k
    rw [List.getElem?_mapIdx, List.getElem?_mapIdx]
    cases hq : (fldT c)[k]? with
    | none => rfl
    | some q =>
      show some (fval (upG G f) M c i k q) = some (fval (upG G g) M c i k q)
      have hm := List.mem_of_getElem? hq
      unfold fval
      by_cases e0 : q.1 = 0
      · rw [if_pos e0, if_pos e0]
      · rw [if_neg e0, if_neg e0]
        by_cases e1 : q.1 = 1
        · rw [if_pos e1, if_pos e1]
        · rw [if_neg e1, if_neg e1]
          by_cases e2 : q.1 = 2
          · rw [if_pos e2, if_pos e2]
            have := h (q.2, i) (List.mem_flatMap.mpr ⟨q, hm, by rw [if_neg (by omega), if_pos e2]; exact List.mem_singleton.mpr rfl⟩)
            show some (Value.ref (f q.2 i)) = some (Value.ref (g q.2 i))
            rw [this]
          · rw [if_neg e2, if_neg e2]
            have := h (q.2 % 10000, q.2 / 10000) (List.mem_flatMap.mpr ⟨q, hm, by rw [if_neg (by omega), if_neg e2]; exact List.mem_singleton.mpr rfl⟩)
            show some (Value.ref (f (q.2 % 10000) (q.2 / 10000))) = some (Value.ref (g (q.2 % 10000) (q.2 / 10000)))
            rw [this]
theorem wsI_congr {S : List (Nat × Nat)} {G : Gm} {f g : Nat → Nat → Nat} (P : Nat × Nat → Bool) (hS : (S.all fun q => (q :: depL q.1 q.2).all P) = true) (h : ∀ d, P d = true → f d.1 d.2 = g d.1 d.2) : wsI S (upG G f) M0 = wsI S (upG G g) M0 := by
  unfold wsI
  refine List.map_congr_left (fun q hq => ?_)
  have h2 := List.all_eq_true.mp (List.all_eq_true.mp hS q hq)
  show (f q.1 q.2, _) = (g q.1 q.2, _)
  rw [h q (h2 q List.mem_cons_self), cellO_ga (fun d hd => h d (h2 d (List.mem_cons_of_mem _ hd)))]
/-- which object's making an id belongs to -/
def bk (c i : Nat) : Nat := bif Nat.beq c 10 then 10 else bif Nat.beq c 1100 then 1100 else bif Nat.beq c 9 || Nat.beq c 1000 then 9 else bif Nat.beq c 4 || (Nat.blt 500 c && Nat.blt c 513) || (Nat.blt 5500 c && Nat.blt c 5511) then 4 else bif Nat.beq c 5 then 5 else bif Nat.beq c 1 || Nat.beq c 201 then 1 else bif Nat.beq c 7 then 7 else bif Nat.beq c 3 || Nat.beq c 402 then 3 else bif Nat.beq c 8 || Nat.beq c 902 || Nat.beq c 903 then 80 + i else bif Nat.beq c 5710 then 60 else bif Nat.beq c 5711 then 7 else bif Nat.beq c 6 || (Nat.blt 701 c && Nat.blt c 712) then (bif Nat.beq i 0 then 60 else 7) else bif Nat.beq c 11 || (Nat.blt 1200 c && Nat.blt c 1300) || (Nat.blt 6200 c && Nat.blt c 6300) then 11 else bif Nat.beq c 9000 then 9000 else 2
theorem gaU {G : Gm} {f : Nat → Nat → Nat} (c i : Nat) : ga (upG G f) c i = f c i := rfl
theorem gCU {G : Gm} {f : Nat → Nat → Nat} (k : Nat) : gC (upG G f) k = gC G k := rfl
/-- the class tables of the making -/
def Ky (G : Gm) (U : State) : Prop := va_K (gD G) vwCl (tysM G) U ∧ va_AOA .int U ∧ va_AO RX0 U
theorem Ky.moved {G : Gm} {u U : State} (hvm : u.vm.Alike U.vm) (h : Ky G u) : Ky G U := ⟨va_K.moved hvm h.1, ym_AOA hvm h.2.1, va_AO.moved hvm h.2.2⟩
def Cy (Γ : Gam) (G : Gm) (A : Nat → Prop) (cc : ByteArray) (nL : Nat) (own : String) (rm : Room) : Prop :=
  Γ.1.tables.exec = Jvm.exec ∧ (gco Γ).code = cc ∧ (gco Γ).maxLocals = nL ∧ (gs Γ).vm.findClass own = some (gm Γ).cls ∧ (∀ w ∈ TG, w.before (gar Γ) (gs Γ) = true) ∧ Ky G (gs Γ) ∧ (∀ q : Nat, (gs Γ).heap.size ≤ q → A q) ∧ (gme Γ).locks = false ∧ gR Γ = rm
def Y (Γ : Gam) (A : Nat → Prop) (G : Gm) (Qf : State → Prop) (nL ce sl pc : Nat) (lv : List (Nat × Value)) (st : List Value) (ws : va_W) : Prop :=
  ∀ (H : Heap) (locs : List Loc) (ls : Array Slot), va_P (gD G) vwCl ws H → va_D A ws → va_S A (gs Γ).heap H locs → lv_has ls nL lv → WW Γ H locs ce sl Qf (F0 (gm Γ) pc ls st)
theorem ym_join {A0 : Nat → Prop} {D : va_G} {cl : List vw_C} {ws w1 : va_W} {x : Nat × va_E} {H H1 : Heap} (hP : va_P D cl (ws ++ [x]) H) (hD : va_D A0 (ws ++ [x])) (hk : ∀ q : Nat, q < H.size → ¬ va_A [x] H.size q → H1[q]? = H[q]?) (hF : ∀ q, va_A [x] H.size q → A0 q) (hP1 : va_P D cl w1 H1) (hD1 : va_D (va_A [x] H.size) w1) : va_P D cl (ws ++ w1) H1 ∧ va_D A0 (ws ++ w1) := by
  have hx : (ws ++ [x])[ws.length]? = some x := by simp
  have hl : ∀ (k : Nat) (q : Nat × va_E), ws[k]? = some q → (ws ++ [x])[k]? = some q := fun k q h => by rw [List.getElem?_append_left (List.getElem?_eq_some_iff.mp h).1]; exact h
  have hne : ∀ (k : Nat) (q : Nat × va_E), ws[k]? = some q → ¬ va_A [x] H.size q.1 := by
    intro k q h hA
    have h8 := (List.getElem?_eq_some_iff.mp h).1
    rcases hA with ⟨k9, e, h9⟩ | h9
    · have hk9 : k9 < 1 := (List.getElem?_eq_some_iff.mp h9).1
      rw [show k9 = 0 by omega] at h9
      cases h9
      have := hD.1 k ws.length q _ (hl k q h) hx rfl
      omega
    · have := (hP k q (hl k q h)).lt
      omega
  refine ⟨va_P.app (fun k q h => (hP k q (hl k q h)).kept (hk q.1 (hP k q (hl k q h)).lt (hne k q h))) hP1, va_D.app ⟨fun i j p q hi hj e => hD.1 i j p q (hl i p hi) (hl j q hj) e, fun k q h => hD.2 k q (hl k q h)⟩ (hD1.weaken (fun k q _ h => hF _ h)) (fun i j p q hi hj e => hne i p hi (by rw [e]; exact hD1.2 j q hj))⟩
theorem ym_last {D : va_G} {cl : List vw_C} {ws : va_W} {x : Nat × va_E} {H : Heap} (hP : va_P D cl (ws ++ [x]) H) : va_P D cl [x] H := fun k q h => by
  have hk : k < 1 := (List.getElem?_eq_some_iff.mp h).1
  rw [show k = 0 by omega] at h
  cases h
  exact hP ws.length _ (by simp)
theorem ym_rows (N : Nat) (r : Nat → Nat) (f : Nat → va_E) (e : va_E) : va_pl ([] ++ (List.range N).map r) (vr_up f ((List.range N).map r) e) = (List.range N).map (fun j => (r j, e)) := by
  unfold va_pl
  rw [List.nil_append, List.map_map]
  refine List.map_congr_left (fun j hj => ?_)
  show (r j, vr_up f _ e (r j)) = _
  rw [vr_up_in (List.mem_map.mpr ⟨j, hj, rfl⟩)]
/-- a constructor's contract: out of the bare object, the ids S made -/
def CtN (l : Launch) (G : Gm) (y : MethodName) (cb : ByteArray) (n : Nat) (rm : Room) (c : Nat) (fs : List Value) (as : List Value) (S : List (Nat × Nat)) (E : Nat → (Nat → Nat → Nat) → Prop) : Prop :=
  ∀ h0 sz : Nat, Met l y (Cond.code y cb n none :: TG) rm (va_Pc (.ref h0 :: as) (fun U => U.heap.size = sz ∧ va_P (gD G) vwCl [(h0, .inr (c, fs))] U.heap ∧ Ky G U)) (va_Qv (fun f : Nat → Nat → Nat => E h0 f) (fun f t => va_P (gD G) vwCl (wsI S (upG G f) M0) t.heap ∧ va_D (va_A [(h0, .inr (c, fs))] sz) (wsI S (upG G f) M0)) (va_A [(h0, .inr (c, fs))] sz)) rm.cells rm.slots (va_A [(h0, .inr (c, fs))] sz)
def EndN (Γ : Gam) (G : Gm) (A : Nat → Prop) (Qf : State → Prop) (cc : ByteArray) (rm : Room) (S : List (Nat × Nat)) (E : Nat → (Nat → Nat → Nat) → Prop) (h0 : Nat) : Prop :=
  ∀ (f : Nat → Nat → Nat) (nL ce sl pc : Nat) (lv : List (Nat × Value)) (ws : va_W), E h0 f → ws = wsI S (upG G f) M0 → decode cc pc = .ok (.return_, 1) → ce ≤ rm.cells → sl ≤ rm.slots → Y Γ A G Qf nL ce sl pc lv [] ws
theorem ctN_of {l : Launch} {G : Gm} {y : MethodName} {cb : ByteArray} {n : Nat} {rm : Room} {c : Nat} {fs : List Value} {as : List Value} {S : List (Nat × Nat)} {E : Nat → (Nat → Nat → Nat) → Prop} {own : String} (hy : plainName y.cls = true) (ho : y.cls = own) (hi : y.name = "<init>") (hn : ∀ h0 : Nat, (lg_sl (.ref h0 :: as)).length ≤ n)
    (body : ∀ (Γ : Gam) (A : Nat → Prop) (Qf : State → Prop) (h0 : Nat), gl Γ = l → Cy Γ G A cb n own rm → (gme Γ).name = "<init>" → EndN Γ G A Qf cb rm S E h0 → Y Γ A G Qf n 0 0 0 (lv_args 0 (.ref h0 :: as)) [] [(h0, .inr (c, fs))]) : CtN l G y cb n rm c fs as S E := by
  intro h0 sz
  refine Met.ofW (cc := cb) (maxL := n) (ret := none) hy rfl ?_
  intro p e s m args below meth cd s₁ B hml hv
  obtain ⟨rfl, hsz, hP, hK⟩ := hv
  subst hsz
  have hts := atoms_spec (ws := Cond.code y cb n none :: TG) B.pre
  have hl := lv_entry (.ref h0 :: as) (n := n) (hn h0)
  have hin : meth.name = "<init>" := (name_of_methodNamed B.named B.method).1.trans hi
  rw [lg_entry_eq]
  refine body (p, l, e, (headSpec (Cond.code y cb n none :: TG) rm).room, s, m, (.ref h0 :: as).toArray, below, meth, cd) (va_A [(h0, .inr (c, fs))] s.heap.size) _ h0 rfl ⟨B.exec, B.bytes, hml, by rw [← ho]; exact findClass_of_methodNamed B.named, fun w hw => hts w (List.mem_cons_of_mem _ hw), hK, fun q h => Or.inr h, B.notSynchronized, rfl⟩ hin ?_ s.heap [] _ hP ⟨fun i j p q h1 h2 _ => ?_, fun k q h => va_A.in h⟩ va_S.rf hl
  · intro f nL ce sl pc lv ws hE hw hd hc hs
    subst hw
    exact fun H locs ls hP hD hS hl => W.widen hc hs (W.vret B.exec B.bytes B.returns (fun t ht hW => ⟨⟨f, rfl, hE, by rw [ht]; exact hP, hD⟩, hS.F ht⟩) hS.2.2 hd B.notSynchronized)
  · have g1 : i < 1 := (List.getElem?_eq_some_iff.mp h1).1
    have g2 : j < 1 := (List.getElem?_eq_some_iff.mp h2).1
    omega
theorem ym_str : ("[" ++ (FieldType.array .int).toString) = "[[I" := by decide +kernel
section YR
variable {Γ : Gam} {G : Gm} {A : Nat → Prop} {Qf : State → Prop} {cc : ByteArray} {nL ce sl pc : Nat} {own : String} {rm : Room} {lv : List (Nat × Value)} {st : List Value} {ws : va_W}
theorem y_aload_n (C : Cy Γ G A cc nL own rm) {k : Fin 4} {x : Nat} (hd : decode cc pc = .ok (.aload_n k, 1)) (j : Nat) (hj : lv[j]? = some ((k : Nat), .ref x)) (kk : Y Γ A G Qf nL ce sl (pc + 1) lv (.ref x :: st) ws) : Y Γ A G Qf nL ce sl pc lv st ws := fun H locs ls hP hD hS hl => lv_aload_n C.1 C.2.1 hd rfl (lv_at hl j hj) (kk H locs ls hP hD hS hl)
theorem y_aload (C : Cy Γ G A cc nL own rm) {i : Nat} {x : Nat} (hd : decode cc pc = .ok (.aload i, 2)) (j : Nat) (hj : lv[j]? = some (i, .ref x)) (kk : Y Γ A G Qf nL ce sl (pc + 2) lv (.ref x :: st) ws) : Y Γ A G Qf nL ce sl pc lv st ws := fun H locs ls hP hD hS hl => lv_aload C.1 C.2.1 hd (lv_at hl j hj) (kk H locs ls hP hD hS hl)
theorem y_iload (C : Cy Γ G A cc nL own rm) {i : Nat} {x : Int32} (hd : decode cc pc = .ok (.iload i, 2)) (j : Nat) (hj : lv[j]? = some (i, .int x)) (kk : Y Γ A G Qf nL ce sl (pc + 2) lv (.int x :: st) ws) : Y Γ A G Qf nL ce sl pc lv st ws := fun H locs ls hP hD hS hl => lv_iload C.1 C.2.1 hd (lv_at hl j hj) (kk H locs ls hP hD hS hl)
theorem y_iconst (C : Cy Γ G A cc nL own rm) {n : Int} {v : Int32} (hd : decode cc pc = .ok (.iconst n, 1)) (hv : Int32.ofInt n = v) (kk : Y Γ A G Qf nL ce sl (pc + 1) lv (.int v :: st) ws) : Y Γ A G Qf nL ce sl pc lv st ws := fun H locs ls hP hD hS hl => lv_iconst C.1 C.2.1 hd hv (kk H locs ls hP hD hS hl)
theorem y_bipush (C : Cy Γ G A cc nL own rm) {n : Int} {v : Int32} (hd : decode cc pc = .ok (.bipush n, 2)) (hv : (Int8.ofInt n).toInt32 = v) (kk : Y Γ A G Qf nL ce sl (pc + 2) lv (.int v :: st) ws) : Y Γ A G Qf nL ce sl pc lv st ws := fun H locs ls hP hD hS hl => lv_bipush C.1 C.2.1 hd hv (kk H locs ls hP hD hS hl)
theorem y_sipush (C : Cy Γ G A cc nL own rm) {n : Int} {v : Int32} (hd : decode cc pc = .ok (.sipush n, 3)) (hv : (Int16.ofInt n).toInt32 = v) (kk : Y Γ A G Qf nL ce sl (pc + 3) lv (.int v :: st) ws) : Y Γ A G Qf nL ce sl pc lv st ws := fun H locs ls hP hD hS hl => lv_sipush C.1 C.2.1 hd hv (kk H locs ls hP hD hS hl)
theorem y_lconst (C : Cy Γ G A cc nL own rm) {n : Fin 2} {v : Int64} (hd : decode cc pc = .ok (.lconst n, 1)) (hv : Int64.ofNat (n : Nat) = v) (kk : Y Γ A G Qf nL ce sl (pc + 1) lv (.long v :: st) ws) : Y Γ A G Qf nL ce sl pc lv st ws := fun H locs ls hP hD hS hl => lv_lconst C.1 C.2.1 hd hv (kk H locs ls hP hD hS hl)
theorem y_dup (C : Cy Γ G A cc nL own rm) {va : Value} (hd : decode cc pc = .ok (.dup, 1)) (h1 : va.category = 1) (kk : Y Γ A G Qf nL ce sl (pc + 1) lv (va :: va :: st) ws) : Y Γ A G Qf nL ce sl pc lv (va :: st) ws := fun H locs ls hP hD hS hl => lv_dup C.1 C.2.1 hd h1 (kk H locs ls hP hD hS hl)
theorem y_istore (C : Cy Γ G A cc nL own rm) {i : Nat} {x : Int32} {lv' : List (Nat × Value)} (hd : decode cc pc = .ok (.istore i, 2)) (hn : i < nL) (hl9 : (i, Value.int x) :: lv.filter (fun q => !(q.1 == i) && !(q.1 + 1 == i && q.2.category == 2)) = lv') (kk : Y Γ A G Qf nL ce sl (pc + 2) lv' st ws) : Y Γ A G Qf nL ce sl pc lv (.int x :: st) ws := fun H locs ls hP hD hS hl => lv_istore C.1 C.2.1 hd hl hn hl9 (fun ls2 hl2 => kk H locs ls2 hP hD hS hl2)
theorem y_astore_n (C : Cy Γ G A cc nL own rm) {k : Fin 4} {i : Nat} {x : Nat} {lv' : List (Nat × Value)} (hd : decode cc pc = .ok (.astore_n k, 1)) (hi : (k : Nat) = i) (hn : i < nL) (hl9 : (i, Value.ref x) :: lv.filter (fun q => !(q.1 == i) && !(q.1 + 1 == i && q.2.category == 2)) = lv') (kk : Y Γ A G Qf nL ce sl (pc + 1) lv' st ws) : Y Γ A G Qf nL ce sl pc lv (.ref x :: st) ws := fun H locs ls hP hD hS hl => lv_astore_n C.1 C.2.1 hd hi hl hn hl9 (fun ls2 hl2 => kk H locs ls2 hP hD hS hl2)
theorem y_iinc (C : Cy Γ G A cc nL own rm) {i j : Nat} {n : Int} {x v : Int32} {lv' : List (Nat × Value)} (hd : decode cc pc = .ok (.iinc i n, 3)) (hk : lv[j]? = some (i, .int x)) (hv : x + Int32.ofInt n = v) (hn : i < nL) (hl9 : (i, Value.int v) :: lv.filter (fun q => !(q.1 == i) && !(q.1 + 1 == i && q.2.category == 2)) = lv') (kk : Y Γ A G Qf nL ce sl (pc + 3) lv' st ws) : Y Γ A G Qf nL ce sl pc lv st ws := fun H locs ls hP hD hS hl => lv_iinc C.1 C.2.1 hd hl hk hv hn hl9 (fun ls2 hl2 => kk H locs ls2 hP hD hS hl2)
theorem y_ge (C : Cy Γ G A cc nL own rm) {x y : Int32} {off : Int} {tgt : Nat} (hd : decode cc pc = .ok (.if_icmp .ge off, 3)) (ht : (pc : Int) + off = (tgt : Int)) (kt : y ≤ x → Y Γ A G Qf nL ce sl tgt lv st ws) (kf : ¬ y ≤ x → Y Γ A G Qf nL ce sl (pc + 3) lv st ws) : Y Γ A G Qf nL ce sl pc lv (.int y :: .int x :: st) ws := fun H locs ls hP hD hS hl => lv_icmp_ge C.1 C.2.1 hd ht (fun h => kt h H locs ls hP hD hS hl) (fun h => kf h H locs ls hP hD hS hl)
theorem y_goto (C : Cy Γ G A cc nL own rm) {off : Int} {tgt : Nat} (hd : decode cc pc = .ok (.goto off, 3)) (ht : (pc : Int) + off = (tgt : Int)) (kk : Y Γ A G Qf nL ce sl tgt lv st ws) : Y Γ A G Qf nL ce sl pc lv st ws := fun H locs ls hP hD hS hl => lv_goto C.1 C.2.1 hd ht (kk H locs ls hP hD hS hl)
theorem Y_sub {lv' : List (Nat × Value)} (ks : List Nat) (hl : lv_pick lv ks = lv') (kk : Y Γ A G Qf nL ce sl pc lv' st ws) : Y Γ A G Qf nL ce sl pc lv st ws := fun H locs ls hP hD hS h => kk H locs ls hP hD hS (lv_sub h ks hl)
theorem Y_ws {ws' : va_W} (h : ws = ws') (kk : Y Γ A G Qf nL ce sl pc lv st ws') : Y Γ A G Qf nL ce sl pc lv st ws := by rw [h]; exact kk
theorem y_obj (C : Cy Γ G A cc nL own rm) {idx a : Nat} (hw : Cond.methodLink own idx Lib.objectInit ∈ TG) (hi : Cond.instanceMethod Lib.objectInit ∈ TG) (hc : Cond.code Lib.objectInit ⟨#[0xb1]⟩ 1 none ∈ TG) (h1 : 1 ≤ rm.frames) (h2 : 12 ≤ rm.locals) (hd : decode cc pc = .ok (.invokespecial idx, 3)) (kk : Y Γ A G Qf nL ce sl (pc + 3) lv [] ws) : Y Γ A G Qf nL ce sl pc lv [.ref a] ws := by
  intro H locs ls hP hD hS hl
  have hR : gR Γ = rm := C.2.2.2.2.2.2.2.2
  refine W.objInit C.1 C.2.1 C.2.2.2.1 (C.2.2.2.2.1 _ hw) (C.2.2.2.2.1 _ hi) (C.2.2.2.2.1 _ hc) rfl (by rw [C.2.2.1]; exact hl.1) rfl hd (by rw [hR]; exact h1) (by rw [hR]; exact h2) ?_
  refine W.eq (g2 := F0 (gm Γ) (pc + 3) ls []) rfl ?_
  exact kk H locs ls hP hD hS hl
theorem y_get (C : Cy Γ G A cc nL own rm) {idx c k N h0 : Nat} {R : String} {T : u_T} {fs : List Value} {Rw : va_W} {v : Value} (hw : Cond.fieldLink own idx R (T k).2.1 (T k).2.2.1 ∈ TG) (hin : ∀ w ∈ u_ws R T N, w ∈ TG) (hcl : vwCl[c]? = some (R, T, N)) (hk : k < N) (hR : (T k).1 = R) (hv : fs[k]? = some v) (hd : decode cc pc = .ok (.getfield idx, 3)) (kk : Y Γ A G Qf nL ce sl (pc + 3) lv (v :: st) ((h0, .inr (c, fs)) :: Rw)) : Y Γ A G Qf nL ce sl pc lv (.ref h0 :: st) ((h0, .inr (c, fs)) :: Rw) := fun H locs ls hP hD hS hl => va_get (v := v) (ref := R) C.1 C.2.1 C.2.2.2.2.1 hin C.2.2.2.1 C.2.2.2.2.2.1.1 hP 0 rfl hcl k hk (C.2.2.2.2.1 _ hw) (fun x h => by rw [← hR]; exact h) hv hd (kk H locs ls hP hD hS hl)
theorem y_put (C : Cy Γ G A cc nL own rm) {idx c k N h0 : Nat} {R : String} {T : u_T} {ty0 : Nat → FieldType} {fs fs' : List Value} {Rw : va_W} {v : Value} (hw : Cond.fieldLink own idx R (T k).2.1 (T k).2.2.1 ∈ TG) (hin : ∀ w ∈ u_ws R T N, w ∈ TG) (hty : ∀ k, k < N → parseFieldDescriptor (T k).2.2.1 = some (ty0 k)) (hnm : ∀ a, a < N → ∀ b, b < N → a ≠ b → (T a).2.1 ≠ (T b).2.1) (hcl : vwCl[c]? = some (R, T, N)) (hk : k < N) (hR : (T k).1 = R) (hf : (T k).2.2.2 = false) (hn : narrow (ty0 k) v = v) (hfit : fits (ty0 k) v = true) (hlen : k < fs.length) (hfs : fs.set k v = fs') (hd : decode cc pc = .ok (.putfield idx, 3)) (kk : Y Γ A G Qf nL ce sl (pc + 3) lv st ((h0, .inr (c, fs')) :: Rw)) : Y Γ A G Qf nL ce sl pc lv (v :: .ref h0 :: st) ((h0, .inr (c, fs)) :: Rw) := by
  intro H locs ls hP hD hS hl
  subst hfs
  exact va_put (v := v) (ref := R) C.1 C.2.1 C.2.2.2.2.1 hin ty0 hty hnm C.2.2.2.1 C.2.2.2.2.2.1.1 hP hD hS 0 rfl hcl k hk (C.2.2.2.2.1 _ hw) (fun x h => by rw [← hR]; exact h) hf (hty k hk) hn hfit hlen hd (fun H1 locs1 hP1 hD1 hS1 => kk H1 locs1 ls hP1 hD1 hS1 hl)
theorem y_putF (C : Cy Γ G A cc nL own rm) (hin9 : (gme Γ).name = "<init>") {idx c k N h0 : Nat} {R : String} {T : u_T} {ty0 : Nat → FieldType} {fs fs' : List Value} {Rw : va_W} {v : Value} (hw : Cond.fieldLink own idx R (T k).2.1 (T k).2.2.1 ∈ TG) (hin : ∀ w ∈ u_ws R T N, w ∈ TG) (hty : ∀ k, k < N → parseFieldDescriptor (T k).2.2.1 = some (ty0 k)) (hnm : ∀ a, a < N → ∀ b, b < N → a ≠ b → (T a).2.1 ≠ (T b).2.1) (hcl : vwCl[c]? = some (R, T, N)) (hk : k < N) (hR : (T k).1 = R) (hRo : R = own) (hf : (T k).2.2.2 = true) (hn : narrow (ty0 k) v = v) (hfit : fits (ty0 k) v = true) (hlen : k < fs.length) (hfs : fs.set k v = fs') (hd : decode cc pc = .ok (.putfield idx, 3)) (kk : Y Γ A G Qf nL ce sl (pc + 3) lv st ((h0, .inr (c, fs')) :: Rw)) : Y Γ A G Qf nL ce sl pc lv (v :: .ref h0 :: st) ((h0, .inr (c, fs)) :: Rw) := by
  intro H locs ls hP hD hS hl
  subst hfs
  exact va_putF (v := v) (ref := R) C.1 C.2.1 C.2.2.2.2.1 hin ty0 hty hnm C.2.2.2.1 C.2.2.2.2.2.1.1 hP hD hS 0 rfl hcl k hk (C.2.2.2.2.1 _ hw) (fun x h => by rw [← hR]; exact h) hf hin9 (hR.trans hRo) (hty k hk) hn hfit hlen hd (fun H1 locs1 hP1 hD1 hS1 => kk H1 locs1 ls hP1 hD1 hS1 hl)
theorem y_newi (C : Cy Γ G A cc nL own rm) {n : Int32} {N : Nat} (hw : Cond.arrayClass .int ∈ TG) (hn : ¬ n < 0) (hN : n.toNatClampNeg = N) (hb : N * 4 ≤ 536870912) (hce : ce + 1 ≤ rm.cells) (hsl : sl + N ≤ rm.slots) (hd : decode cc pc = .ok (.newarray .int, 2)) (kk : ∀ q : Nat, Y Γ A G Qf nL (ce + 1) (sl + N) (pc + 2) lv (.ref q :: st) (ws ++ [(q, .inl (gC G 0, N, .inl (fun _ => 0)))])) : Y Γ A G Qf nL ce sl pc lv (.int n :: st) ws := by
  intro H locs ls hP hD hS hl
  have hR : gR Γ = rm := C.2.2.2.2.2.2.2.2
  refine va_newa (atype := .int) (ty := .int) (a0 := (N, .inl (fun _ => 0))) C.1 C.2.1 (C.2.2.2.2.1 _ hw) rfl C.2.2.2.2.2.1.1 hP hD hS C.2.2.2.2.2.2.1 (fun _ => rfl) hn hN hb (by rw [hR]; exact hce) (by rw [hR]; exact hsl) hd (fun q cA H1 hK1 hP1 hD1 hS1 => ?_)
  have e : cA = gC G 0 := Option.some.inj ((hK1.2 5 (cA, .int) rfl).2.symm.trans (C.2.2.2.2.2.1.1.2 0 _ rfl).2)
  subst e
  exact kk q H1 locs ls hP1 hD1 hS1 hl
theorem y_newl (C : Cy Γ G A cc nL own rm) {n : Int32} {N : Nat} (hw : Cond.arrayClass .long ∈ TG) (hn : ¬ n < 0) (hN : n.toNatClampNeg = N) (hb : N * 8 ≤ 536870912) (hce : ce + 1 ≤ rm.cells) (hsl : sl + N ≤ rm.slots) (hd : decode cc pc = .ok (.newarray .long, 2)) (kk : ∀ q : Nat, Y Γ A G Qf nL (ce + 1) (sl + N) (pc + 2) lv (.ref q :: st) (ws ++ [(q, .inl (gC G 1, N, .inr (.inl (fun _ => 0))))])) : Y Γ A G Qf nL ce sl pc lv (.int n :: st) ws := by
  intro H locs ls hP hD hS hl
  have hR : gR Γ = rm := C.2.2.2.2.2.2.2.2
  refine va_newa (atype := .long) (ty := .long) (a0 := (N, .inr (.inl (fun _ => 0)))) C.1 C.2.1 (C.2.2.2.2.1 _ hw) rfl C.2.2.2.2.2.1.1 hP hD hS C.2.2.2.2.2.2.1 (fun _ => rfl) hn hN hb (by rw [hR]; exact hce) (by rw [hR]; exact hsl) hd (fun q cA H1 hK1 hP1 hD1 hS1 => ?_)
  have e : cA = gC G 1 := Option.some.inj ((hK1.2 5 (cA, .long) rfl).2.symm.trans (C.2.2.2.2.2.1.1.2 1 _ rfl).2)
  subst e
  exact kk q H1 locs ls hP1 hD1 hS1 hl
theorem y_newz (C : Cy Γ G A cc nL own rm) {n : Int32} {N : Nat} (hw : Cond.arrayClass .boolean ∈ TG) (hn : ¬ n < 0) (hN : n.toNatClampNeg = N) (hb : N * 1 ≤ 536870912) (hce : ce + 1 ≤ rm.cells) (hsl : sl + N ≤ rm.slots) (hd : decode cc pc = .ok (.newarray .boolean, 2)) (kk : ∀ q : Nat, Y Γ A G Qf nL (ce + 1) (sl + N) (pc + 2) lv (.ref q :: st) (ws ++ [(q, .inl (gC G 2, N, .inl (fun _ => 0)))])) : Y Γ A G Qf nL ce sl pc lv (.int n :: st) ws := by
  intro H locs ls hP hD hS hl
  have hR : gR Γ = rm := C.2.2.2.2.2.2.2.2
  refine va_newa (atype := .boolean) (ty := .boolean) (a0 := (N, .inl (fun _ => 0))) C.1 C.2.1 (C.2.2.2.2.1 _ hw) rfl C.2.2.2.2.2.1.1 hP hD hS C.2.2.2.2.2.2.1 (fun _ => rfl) hn hN hb (by rw [hR]; exact hce) (by rw [hR]; exact hsl) hd (fun q cA H1 hK1 hP1 hD1 hS1 => ?_)
  have e : cA = gC G 2 := Option.some.inj ((hK1.2 5 (cA, .boolean) rfl).2.symm.trans (C.2.2.2.2.2.1.1.2 2 _ rfl).2)
  subst e
  exact kk q H1 locs ls hP1 hD1 hS1 hl
theorem y_newq (C : Cy Γ G A cc nL own rm) {n : Int32} {N idx : Nat} (hw : Cond.classLink own idx RX0 ∈ TG) (hn : ¬ n < 0) (hN : n.toNatClampNeg = N) (hb : N * 4 ≤ 536870912) (hce : ce + 1 ≤ rm.cells) (hsl : sl + N ≤ rm.slots) (hd : decode cc pc = .ok (.anewarray idx, 3)) (kk : ∀ q : Nat, Y Γ A G Qf nL (ce + 1) (sl + N) (pc + 3) lv (.ref q :: st) (ws ++ [(q, .inl (gC G 4, N, .inr (.inr (.inr (.inr (fun _ => none))))))])) : Y Γ A G Qf nL ce sl pc lv (.int n :: st) ws := by
  intro H locs ls hP hD hS hl
  have hR : gR Γ = rm := C.2.2.2.2.2.2.2.2
  refine va_newq C.1 C.2.1 C.2.2.2.1 (C.2.2.2.2.1 _ hw) C.2.2.2.2.2.1.2.2 C.2.2.2.2.2.1.1 hP hD hS C.2.2.2.2.2.2.1 hn hN hb (by rw [hR]; exact hce) (by rw [hR]; exact hsl) hd (fun q cA H1 hK1 hP1 hD1 hS1 => ?_)
  obtain ⟨-, -, -, -, -, h4⟩ := (hK1.2 5 (cA, .object RX0) rfl).2
  obtain ⟨-, -, -, -, -, h5⟩ := (C.2.2.2.2.2.1.1.2 4 _ rfl).2
  have e : cA = gC G 4 := Option.some.inj (h4.symm.trans h5)
  subst e
  exact kk q H1 locs ls hP1 hD1 hS1 hl
theorem y_mna (C : Cy Γ G A cc nL own rm) {n k : Int32} {N K idx : Nat} (hw : Cond.classLink own idx "[[I" ∈ TG) (hw2 : Cond.arrayClass .int ∈ TG) (hn : ¬ n < 0) (hk : ¬ k < 0) (hN : n.toNatClampNeg = N) (hM : k.toNatClampNeg = K) (hb1 : N * 4 ≤ 536870912) (hb2 : K * 4 ≤ 536870912) (hb3 : K ≤ 536870912) (hce : ce + (1 + N) ≤ rm.cells) (hsl : sl + (N + N * K) ≤ rm.slots) (hd : decode cc pc = .ok (.multianewarray idx 2, 4)) (kk : ∀ (q : Nat) (r : Nat → Nat), Y Γ A G Qf nL (ce + 1 + N) (sl + N + N * K) (pc + 4) lv (.ref q :: st) ((ws ++ [(q, .inl (gC G 3, N, .inr (.inr (.inr (.inr (fun j => if j < N then some (r j) else none))))))]) ++ (List.range N).map (fun j => (r j, .inl (gC G 0, K, .inl (fun _ => 0)))))) : Y Γ A G Qf nL ce sl pc lv (.int k :: .int n :: st) ws := by
  intro H locs ls hP hD hS hl
  have hR : gR Γ = rm := C.2.2.2.2.2.2.2.2
  refine va_mna (X := ws) (L := []) (f := fun _ => .inr (0, [])) (ty := .int) (cy := gC G 0) (z := (K, .inl (fun _ => 0))) C.1 C.2.1 C.2.2.2.1 (by rw [ym_str]; exact C.2.2.2.2.1 _ hw) C.2.2.2.2.2.1.2.1 (C.2.2.2.2.1 _ hw2) (C.2.2.2.2.2.1.1.2 0 _ rfl).2 C.2.2.2.2.2.1.1 (by rw [show va_pl [] (fun _ => (.inr (0, []) : va_E)) = [] from rfl, List.append_nil]; exact hP) (by rw [show va_pl [] (fun _ => (.inr (0, []) : va_E)) = [] from rfl, List.append_nil]; exact hD) hS C.2.2.2.2.2.2.1 hn hk hN hM hb1 hb2 hb3 rfl rfl (by rw [hR]; exact hce) (by rw [hR]; exact hsl) (fun c9 => by show ({ cls := c9, slots := Array.replicate K (.int 0), vm := .none } : Cell) = _; rw [arrV_new]; rfl) hd (fun q r cA H1 _ _ hK1 hP1 hD1 hS1 => ?_)
  have e : cA = gC G 3 := Option.some.inj ((hK1.2 5 (cA, .array .int) rfl).2.symm.trans (C.2.2.2.2.2.1.1.2 3 _ rfl).2)
  subst e
  rw [ym_rows] at hP1 hD1
  exact kk q r H1 locs ls hP1 hD1 hS1 hl
theorem y_new (C : Cy Γ G A cc nL own rm) {idx c N : Nat} {R : String} {T : u_T} {ty0 : Nat → FieldType} {fs : List Value} (hin : ∀ w ∈ u_ws R T N, w ∈ TG) (hty : ∀ k, k < N → parseFieldDescriptor (T k).2.2.1 = some (ty0 k)) (hcl : vwCl[c]? = some (R, T, N)) (hw : Cond.classLink own idx R ∈ TG) (hw2 : Cond.instantiable R N ∈ TG) (hw3 : Cond.initialized R ∈ TG) (hfs : ∀ j, j < N → defaultValue (ty0 j) = vp_V fs j) (hce : ce + 1 ≤ rm.cells) (hsl : sl + N ≤ rm.slots) (hd : decode cc pc = .ok (.new idx, 3)) (kk : ∀ q : Nat, Y Γ A G Qf nL (ce + 1) (sl + N) (pc + 3) lv (.ref q :: st) (ws ++ [(q, .inr (c, fs))])) : Y Γ A G Qf nL ce sl pc lv st ws := by
  intro H locs ls hP hD hS hl
  have hR : gR Γ = rm := C.2.2.2.2.2.2.2.2
  exact va_new C.1 C.2.1 C.2.2.2.2.1 hin ty0 hty C.2.2.2.1 (C.2.2.2.2.1 _ hw) (C.2.2.2.2.1 _ hw2) (C.2.2.2.2.1 _ hw3) C.2.2.2.2.2.1.1 hP hD hS C.2.2.2.2.2.2.1 hcl hfs (by rw [hR]; exact hce) (by rw [hR]; exact hsl) hd (fun q H1 hP1 hD1 hS1 => kk q H1 locs ls hP1 hD1 hS1 hl)
/-- an element of the array of cursors, which stands behind the object itself -/
theorem y_astq (C : Cy Γ G A cc nL own rm) {c h0 a N v : Nat} {fs vs : List Value} {f : Nat → Option Nat} {x : Int32} {R1 R2 : va_W} (hx : vp_in x N) (hd : decode cc pc = .ok (.aastore, 1)) (kk : Y Γ A G Qf nL ce sl (pc + 1) lv st ((h0, .inr (c, fs)) :: (a, .inl (gC G 4, N, .inr (.inr (.inr (.inr (va_up f x.toNatClampNeg (some v))))))) :: (R1 ++ ((v, .inr (0, vs)) :: R2)))) : Y Γ A G Qf nL ce sl pc lv (.ref v :: .int x :: .ref a :: st) ((h0, .inr (c, fs)) :: (a, .inl (gC G 4, N, .inr (.inr (.inr (.inr f))))) :: (R1 ++ ((v, .inr (0, vs)) :: R2))) := by
  intro H locs ls hP hD hS hl
  exact va_astq (r := (RX0, TX0, 17)) (vs := vs) C.1 C.2.1 C.2.2.2.2.2.1.1 hP hD hS 1 4 (R1.length + 2) 0 rfl rfl (by simp) rfl hx hd (fun H1 locs1 hP1 hD1 hS1 => kk H1 locs1 ls hP1 hD1 hS1 hl)
/-- a constructor is called on what was made last -/
def SI (own : String) (idx : Nat) (y : MethodName) (cb : ByteArray) (n k : Nat) : Prop := Cond.methodLink own idx y ∈ TG ∧ Cond.instanceMethod y ∈ TG ∧ Cond.initialized y.cls ∈ TG ∧ Cond.code y cb n none ∈ TG ∧ y.name = "<init>" ∧ (y.cls ≠ "java/lang/invoke/MethodHandle" ∧ y.cls ≠ "java/lang/invoke/VarHandle" ∧ (parseMethodDescriptor y.desc).map (fun d => d.parameters.length) = some k)
theorem y_init (C : Cy Γ G A cc nL own rm) {idx n k c q : Nat} {y : MethodName} {cb : ByteArray} {rm1 : Room} {As rest : List Value} {fs : List Value} {S : List (Nat × Nat)} {E : Nat → (Nat → Nat → Nat) → Prop} (S9 : SI own idx y cb n k) (hM : CtN (gl Γ) G y cb n rm1 c fs As S E) (hk : As.length = k) (hst : st = As.reverse ++ .ref q :: rest) (hcat : (rest.map fun v => v.category).sum ≤ 8) (hr : rm1.frames + 1 ≤ rm.frames ∧ 8 + (n + 11) + rm1.locals ≤ rm.locals) (hf : ce + rm1.cells ≤ rm.cells ∧ sl + rm1.slots ≤ rm.slots) (hd : decode cc pc = .ok (.invokespecial idx, 3)) (kk : ∀ f : Nat → Nat → Nat, E q f → Y Γ A G Qf nL (ce + rm1.cells) (sl + rm1.slots) (pc + 3) lv rest (ws ++ wsI S (upG G f) M0)) : Y Γ A G Qf nL ce sl pc lv st (ws ++ [(q, .inr (c, fs))]) := by
  intro H locs ls hP hD hS hl
  have hR : gR Γ = rm := C.2.2.2.2.2.2.2.2
  have hPx := ym_last hP
  have hFc : ∀ q', va_A [(q, (.inr (c, fs) : va_E))] H.size q' → A q' := by
    intro q' h
    rcases h with ⟨k9, e, h⟩ | h
    · have hk9 : k9 < 1 := (List.getElem?_eq_some_iff.mp h).1
      rw [show k9 = 0 by omega] at h
      cases h
      exact hD.2 ws.length (q, .inr (c, fs)) (by simp)
    · exact C.2.2.2.2.2.2.1 _ (Nat.le_trans hS.1 h)
  refine va_callv (va_runI (As := As) (rest := rest) ⟨C.1, C.2.1, C.2.2.1, C.2.2.2.1, C.2.2.2.2.1⟩ (hM q H.size) (cwI k C.2.2.2.2.1 (good_c S9.2.2.2.1) rfl rfl rfl (C.2.2.2.2.1 _ S9.2.2.1) (C.2.2.2.2.1 _ S9.1) (C.2.2.2.2.1 _ S9.2.1) S9.2.2.2.2.1 S9.2.2.2.2.2 (by rw [hR]; exact hr)) ⟨fun a U g mk h => by obtain ⟨q0, q1, qP, qK⟩ := h; exact ⟨q0, q1, qP, Ky.moved (u := U) (U := U.calling g mk a) (Vm.Alike.refl U.vm) qK⟩, fun U hU hW => ⟨rfl, by rw [hU], by rw [hU]; exact hPx, Ky.moved hW.alike C.2.2.2.2.2.1⟩⟩ rfl hk hl.1 hst (lv_room hcat) hd (by rw [hR]; exact hf)) hS (fun q' _ h => hFc q' h) hFc (fun f t H1 locs1 ht hvm hE hB hz1 hk1 hS1 => ?_)
  obtain ⟨hP1, hD1⟩ := hB
  rw [ht] at hP1
  obtain ⟨hP2, hD2⟩ := ym_join hP hD hk1 hFc hP1 hD1
  exact kk f hE H1 locs1 ls hP2 hD2 hS1 hl
end YR
