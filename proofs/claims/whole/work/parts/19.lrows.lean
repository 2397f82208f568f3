def R_law : String := "EarlyAnswersLaw"
def lw_P (b : Addr) (xs : List Int32) (args : Array Value) (s : State) : Prop := args = #[.ref b] ∧ s.IntsAt b xs ∧ xs.length ≤ 3072 ∧ (Jvm.Cond.and given_1 narrow_1).before args s = true
def lw_Q (_ : Array Value) (s : State) (o : Outcome) (t : State) : Prop := o = .returned (some (.int 1)) ∧ Framed s o t [] 601024 7293034
def lw_Z (below : List Frame) (a : Array Value) (s : State) : State → Prop := fun t => ∃ o, t.status = .running ∧ Ended t below o ∧ lw_Q a s o t
/-- the law's own end, with 1 on the stack, nothing written that was there before, its room as the claim has it -/
theorem lw_ret {p : Program} {l : Launch} {e : Env} {s : State} {m : MethodId} {below : List Frame} {meth : Method} {c : Code} {b : Nat} (hx : p.tables.exec = Jvm.exec) (hb : c.code = code) (hr : meth.sig.returnType = ret) (hlocks : meth.locks = false) {pc : Nat} {H : Heap} {ls : Array Slot} (hdg : decode code pc = .ok (.ireturn, 1)) : W p l e room_1 s m #[Value.ref b] below meth c H [] 601024 7293034 (lw_Z below #[Value.ref b] s) (F0 m pc ls [.int 1]) := by
  intro T hT X
  obtain ⟨fs, hret, hrun, hended, hW, hframe⟩ := X.leave (v := some (.int 1)) (hlocks := hlocks) (fun h => by rw [hr] at h; cases h)
  have hmeth' : T.vm.method? m = some meth := X.method'
  refine ⟨T.setFrames fs, ?_, .returned (some (.int 1)), hrun, hended, rfl, ⟨_, rfl⟩, hW, hframe⟩
  jvm_step X.here [X.here.top, hx, hb, hdg, hmeth', hr, ret, narrow_b1]
  (try refine ⟨rfl, ?_⟩); (try refine ⟨rfl, ?_⟩)
  first | (intro acts; rw [hret _ acts rfl rfl rfl]) | rw [hret _ _ rfl rfl rfl]
  exact Steps.refl _
/-- what holds at the law's entry: the machine, the code, the tables' words (any of lw_tbl by 'hts w (by decide +kernel)'), the script of L ints xs at the cell b, what the Statement gives of the start (any of its parts by flat_of_before) -/
def lw_At (p : Program) (s : State) (m : MethodId) (meth : Method) (c : Code) (b L : Nat) (xs : Nat → Int32) : Prop :=
  p.tables.exec = Jvm.exec ∧ c.code = code ∧ meth.sig.returnType = ret ∧ c.maxLocals = 7 ∧ s.vm.findClass R_law = some m.cls ∧ (∀ w ∈ lw_tbl, w.before #[Value.ref b] s = true) ∧ va_X b L xs s s.heap ∧ b < s.heap.size ∧ meth.locks = false ∧ (Jvm.Cond.and given_1 narrow_1).before #[Value.ref b] s = true

section XL
variable {Γ : Gam} {G : Gm} {Qf : State → Prop} {cc : ByteArray} {nL ce sl pc : Nat} {own : String} {ret : Option FieldType} {rm : Room} {lv : List (Nat × Value)} {st : List Value} {M : Mem}
theorem x_slen (C : Cx Γ G cc nL own ret rm) {b L : Nat} {xs : Nat → Int32} (hX : va_X b L xs (gs Γ) (gs Γ).heap) (hbl : b < (gs Γ).heap.size) (hbA : ¬ gA G b) (hd : decode cc pc = .ok (.arraylength, 1)) (kk : X Γ G Qf nL ce sl (pc + 1) lv (.int (nI L) :: st) M) : X Γ G Qf nL ce sl pc lv (.ref b :: st) M := fun H locs ls hP hS hl => va_slen C.1 C.2.1 hX hbl hbA hS hd (kk H locs ls hP hS hl)
theorem x_sld (C : Cx Γ G cc nL own ret rm) {b L : Nat} {xs : Nat → Int32} (hX : va_X b L xs (gs Γ) (gs Γ).heap) (hbl : b < (gs Γ).heap.size) (hbA : ¬ gA G b) {x : Int32} (hx : vp_in x L) (hd : decode cc pc = .ok (.iaload, 1)) (kk : X Γ G Qf nL ce sl (pc + 1) lv (.int (xs (tn x)) :: st) M) : X Γ G Qf nL ce sl pc lv (.int x :: .ref b :: st) M := fun H locs ls hP hS hl => va_sld C.1 C.2.1 hX hbl hbA hS hx hd (kk H locs ls hP hS hl)
def SL (own : String) (idx : Nat) (y : MethodName) (cb : ByteArray) (n : Nat) (hh : List (Nat × Nat × Nat × Nat)) (k : Nat) : Prop := Cond.methodLink own idx y ∈ TG ∧ Cond.static y ∈ TG ∧ Cond.initialized y.cls ∈ TG ∧ Cond.codeWith y cb n (some .int) hh ∈ TG ∧ (y.cls ≠ "java/lang/invoke/MethodHandle" ∧ y.cls ≠ "java/lang/invoke/VarHandle" ∧ (parseMethodDescriptor y.desc).map (fun d => d.parameters.length) = some k)
theorem SL.good {own : String} {idx : Nat} {y : MethodName} {cb : ByteArray} {n : Nat} {hh : List (Nat × Nat × Nat × Nat)} {k : Nat} (S : SL own idx y cb n hh k) : GoodIn TG (va_wsS own idx y (Cond.codeWith y cb n (some .int) hh :: TG)) := goodTG (fun w hw => by
  unfold va_wsS at hw
  rcases List.mem_append.mp hw with h | h
  · simp only [List.mem_cons, List.not_mem_nil, or_false] at h
    rcases h with rfl | rfl | rfl
    · exact S.1
    · exact S.2.1
    · exact S.2.2.1
  · rcases List.mem_cons.mp h with rfl | h
    · exact S.2.2.2.1
    · exact h)
theorem x_lcall (C : Cx Γ G cc nL own ret rm) {idx k n : Nat} {y : MethodName} {cb : ByteArray} {hh : List (Nat × Nat × Nat × Nat)} {rm1 : Room} {As rest : List Value} {Q : Int32 → Mem → Prop} (S : SL own idx y cb n hh k) (hNc : va_Nc EI EN (gs Γ)) (hM : CtL (gl Γ) G y cb n hh rm1 As M Q) (hk : As.length = k) (hst : st = As.reverse ++ rest) (hcat : (rest.map fun v => v.category).sum ≤ 8) (hr : rm1.frames + 1 ≤ rm.frames ∧ 8 + (n + 11) + rm1.locals ≤ rm.locals) {ce1 sl1 : Nat} (hce : ce + rm1.cells = ce1) (hsl : sl + rm1.slots = sl1) (hf : ce1 ≤ rm.cells ∧ sl1 ≤ rm.slots) (hd : decode cc pc = .ok (.invokestatic idx, 3)) (kk : ∀ (r : Int32) (M1 : Mem), Q r M1 → X Γ G Qf nL ce1 sl1 (pc + 3) lv (.int r :: rest) M1) : X Γ G Qf nL ce sl pc lv st M := by
  intro H locs ls hP hS hl
  have hR : gR Γ = rm := C.2.2.2.2.2.2.2.2.2.2.2.1
  subst hce hsl
  exact va_calli (vx_runSW (As := As) (rest := rest) ⟨C.1, C.2.1, C.2.2.1, C.2.2.2.1, C.2.2.2.2.1⟩ hM (vx_cwSW k C.2.2.2.2.1 S.good rfl rfl rfl S.2.2.2.2 (by rw [hR]; exact hr)) ⟨PBL_blind G M _, fun U hU hW => ⟨(C.pre hP hS As U hU hW).1, (C.pre hP hS As U hU hW).2, va_Nc.moved hW.alike hNc⟩⟩ rfl hk hl.1 hst (lv_room hcat) hd (by rw [hR]; exact hf)) hS (fun q _ h => h) (fun q h => h) (fun r u t H1 locs1 ht _ hq hb _ _ hS1 => kk r u hq H1 locs1 ls (by rw [← ht]; exact hb) hS1 hl)
theorem x_lret1 (C : Cx Γ G code nL own (some .boolean) room_1) {b : Nat} (hQf : (gar Γ) = #[Value.ref b] ∧ Qf = lw_Z (gbe Γ) #[Value.ref b] (gs Γ)) (hA9 : ∀ q, gA G q → (gs Γ).heap.size ≤ q) (hc0 : ce ≤ room_1.cells) (hs0 : sl ≤ room_1.slots) (hd : decode code pc = .ok (.ireturn, 1)) : X Γ G Qf nL ce sl pc lv [.int 1] M := by
  obtain ⟨p, l, e, R, s, m, args, below, meth, c⟩ := Γ
  intro H locs ls hP hS hl
  obtain ⟨h1, rfl⟩ := hQf
  have hR : R = room_1 := C.2.2.2.2.2.2.2.2.2.2.2.1
  have h1 : args = #[Value.ref b] := h1
  subst h1 hR
  exact va_forget (fun q hq => hA9 _ (hS.2.2 q hq)) (W.widen hc0 hs0 (lw_ret C.1 C.2.1 C.2.2.2.2.2.2.2.2.2.2.1 C.2.2.2.2.2.2.2.2.2.1 hd))
end XL
