/-! the law's own methods: a call with handlers -/
def PBL (G : Gm) (M : Mem) (U : State) : Prop := PB G M U ∧ va_Nc EI EN U
theorem PBL_blind (G : Gm) (M : Mem) (as : List Value) : FrameBlind (va_Pc as (PBL G M)) := by
  intro a U g mk h
  obtain ⟨e, h1, h2⟩ := h
  obtain ⟨-, h3⟩ := PB_blind G M as a U g mk ⟨e, h1⟩
  exact ⟨e, h3, va_Nc.moved (u := U) (U := U.calling g mk a) (Vm.Alike.refl U.vm) h2⟩
def CtL (l : Launch) (G : Gm) (y : MethodName) (cb : ByteArray) (n : Nat) (hh : List (Nat × Nat × Nat × Nat)) (rm : Room) (as : List Value) (M : Mem) (Q : Int32 → Mem → Prop) : Prop := Met l y (Cond.codeWith y cb n (some .int) hh :: TG) rm (va_Pc as (PBL G M)) (va_Qi Q (BM G) (gA G)) rm.cells rm.slots (gA G)
theorem ctL_of {l : Launch} {G : Gm} {y : MethodName} {cb : ByteArray} {n : Nat} {hh : List (Nat × Nat × Nat × Nat)} {rm : Room} {as : List Value} {M : Mem} {own : String} {Q : Int32 → Mem → Prop} (hy : plainName y.cls = true) (ho : y.cls = own) (hn : (lg_sl as).length ≤ n) (hG : Gd G) (body : ∀ (Γ : Gam) (Qf : State → Prop), gl Γ = l → Cx Γ G cb n own (some .int) rm → EndI Γ G Qf rm Q → (gco Γ).exceptionTable.toList = tableOf hh → va_Nc EI EN (gs Γ) → X Γ G Qf n 0 0 0 (lv_args 0 as) [] M) : CtL l G y cb n hh rm as M Q := by
  refine va_MetW (cc := cb) (maxL := n) (ret := some .int) (hh := hh) hy rfl ?_
  intro p e s m args below meth c s₁ B hml hv
  obtain ⟨rfl, ⟨hP, hK, hN, hT, hA⟩, hNc⟩ := hv
  have hts := atoms_spec (ws := Cond.codeWith y cb n (some .int) hh :: TG) B.pre
  have hl := lv_entry as (n := n) hn
  rw [lg_entry_eq]
  exact body (p, l, e, (headSpec (Cond.codeWith y cb n (some .int) hh :: TG) rm).room, s, m, as.toArray, below, meth, c) _ rfl ⟨B.exec, B.bytes, hml, by rw [← ho]; exact findClass_of_methodNamed B.named, fun w hw => hts w (List.mem_cons_of_mem _ hw), hK, hN, hT, hA, B.notSynchronized, B.returns, rfl, hG⟩ (fun _ _ _ _ _ h => h) (vx_table (x := y) B (hts _ List.mem_cons_self)) hNc s.heap [] _ hP va_S.rf hl
section XH
variable {Γ : Gam} {G : Gm} {Qf : State → Prop} {cc : ByteArray} {nL ce sl pc : Nat} {own : String} {ret : Option FieldType} {rm : Room} {lv : List (Nat × Value)} {st : List Value} {M : Mem} {K : String → Mem → Prop}
/-- an exception of class E stands over the frame -/
def XT (Γ : Gam) (G : Gm) (Qf : State → Prop) (nL ce sl pc : Nat) (lv : List (Nat × Value)) (st : List Value) (M : Mem) (E : String) : Prop :=
  ∀ (H : Heap) (locs : List Loc) (ls : Array Slot) (q : Nat) (c9 : Cell), va_P (gD G) vwCl (wsM G M) H → va_S (gA G) (gs Γ).heap H locs → lv_has ls nL lv → H[q]? = some c9 → c9.vm = .none → (gs Γ).vm.findClass E = some c9.cls → vx_W Γ.1 (gl Γ) Γ.2.2.1 (gR Γ) (gs Γ) (gm Γ) (gar Γ) (gbe Γ) (gme Γ) (gco Γ) H locs ce sl Qf (F0 (gm Γ) pc ls st) q
theorem x_hcalli (C : Cx Γ G cc nL own ret rm) {idx c i k n : Nat} {cn : String} {y : MethodName} {cb : ByteArray} {rt : FieldType} {rm1 : Room} {As rest : List Value} {Q : Int32 → Mem → Prop} (S : SV own idx cn y cb n (some rt) k) {m9 : Nat} (hO : OB c cn m9) (hi : i < m9) (hM : Cxi (gl Γ) G y cb n rt rm1 (.ref (ga G c i) :: As) M Q K) (hk : As.length = k) (hst : st = As.reverse ++ .ref (ga G c i) :: rest) (hcat : (rest.map fun v => v.category).sum ≤ 8) (hr : rm1.frames + 1 ≤ rm.frames ∧ 8 + (n + 11) + rm1.locals ≤ rm.locals) {ce1 sl1 : Nat} (hce : ce + rm1.cells = ce1) (hsl : sl + rm1.slots = sl1) (hf : ce1 ≤ rm.cells ∧ sl1 ≤ rm.slots) (hd : decode cc pc = .ok (.invokevirtual idx, 3)) (kk : ∀ (r : Int32) (M1 : Mem), Q r M1 → X Γ G Qf nL ce1 sl1 (pc + 3) lv (.int r :: rest) M1) (kx : ∀ (E : String) (M1 : Mem), K E M1 → XT Γ G Qf nL ce1 sl1 pc lv rest M1 E) : X Γ G Qf nL ce sl pc lv st M := by
  intro H locs ls hP hS hl
  obtain ⟨hc, ha, rfl, T, N, hcl⟩ := hO
  have hR : gR Γ = rm := C.2.2.2.2.2.2.2.2.2.2.2.1
  subst hce hsl
  exact vx_calli (vx_runV (As := As) (rest := rest) ⟨C.1, C.2.1, C.2.2.1, C.2.2.2.1, C.2.2.2.2.1⟩ hM (cwV k C.2.2.2.2.1 S.good rfl rfl rfl S.2.2.2.2.2 (by rw [hR]; exact hr)) ⟨PB_blind G M _, C.recv hP hc ha hcl hi, C.pre hP hS _⟩ rfl hk hl.1 hst (lv_room hcat) hd (by rw [hR]; exact hf)) hS (fun q _ h => h) (fun q h => h) (fun q _ h => h) (fun E c9 q9 u t H1 locs1 ht _ hpx hB _ _ hS1 hq9 hv hcl9 => kx E u.2 (by obtain ⟨e1, -⟩ := hB; rw [e1]; exact hpx) H1 locs1 ls q9 c9 (by rw [← ht]; exact hB.2) hS1 hl hq9 hv hcl9) (fun r u t H1 locs1 ht _ hq hb _ _ hS1 => kk r u hq H1 locs1 ls (by rw [← ht]; exact hb) hS1 hl)
/-- the first row of the table takes it -/
theorem x_catch1 (C : Cx Γ G cc nL own ret rm) {E : String} {x : ExceptionTableEntry} {suf : List ExceptionTableEntry} (hT : (gco Γ).exceptionTable.toList = x :: suf) (hx : covers x pc = true) (h0 : x.catchType ≠ 0) (hw : Cond.classLink own x.catchType E ∈ TG) (hc : ∀ U, NWs U → va_Nw (.castable E E) U) (kk : ∀ q : Nat, X Γ G Qf nL ce sl x.handlerPc lv [.ref q] M) : XT Γ G Qf nL ce sl pc lv st M E := fun H locs ls q c9 hP hS hl h1 h2 h3 => vx_catch C.2.2.2.1 [] x suf hT (fun z hz => nomatch hz) hx h0 (C.2.2.2.2.1 _ hw) ((hc _ C.2.2.2.2.2.2.1).use rfl) h1 h2 h3 (kk q H locs ls hP hS hl)
/-- the second row -/
theorem x_catch2 (C : Cx Γ G cc nL own ret rm) {E E1 : String} {y x : ExceptionTableEntry} {suf : List ExceptionTableEntry} (hT : (gco Γ).exceptionTable.toList = y :: x :: suf) (hy0 : y.catchType ≠ 0) (hyw : Cond.classLink own y.catchType E1 ∈ TG) (hNc : va_Nc E E1 (gs Γ)) (hx : covers x pc = true) (h0 : x.catchType ≠ 0) (hw : Cond.classLink own x.catchType E ∈ TG) (hc : ∀ U, NWs U → va_Nw (.castable E E) U) (kk : ∀ q : Nat, X Γ G Qf nL ce sl x.handlerPc lv [.ref q] M) : XT Γ G Qf nL ce sl pc lv st M E := fun H locs ls q c9 hP hS hl h1 h2 h3 => vx_catch C.2.2.2.1 [y] x suf hT (fun z hz => by rw [List.mem_singleton.mp hz]; exact Or.inr ⟨hy0, E1, C.2.2.2.2.1 _ hyw, hNc⟩) hx h0 (C.2.2.2.2.1 _ hw) ((hc _ C.2.2.2.2.2.2.1).use rfl) h1 h2 h3 (kk q H locs ls hP hS hl)
end XH
theorem ca_EN : ∀ U, NWs U → va_Nw (.castable EN EN) U := fun _ h => h.2.2.2.2.1
theorem ca_EI : ∀ U, NWs U → va_Nw (.castable EI EI) U := fun _ h => h.2.2.2.2.2.1
