/-! methods that may throw: contracts Cxi, Cxv; K: what holds of the memory where the exception of that class has left -/
def XK (G : Gm) (K : String → Mem → Prop) : String → State → State → Prop := vx_X (S := String × Mem) (fun u => K u.1 u.2) (fun E u t => E = u.1 ∧ BM G u.2 t) (gA G)
def Cxi (l : Launch) (G : Gm) (y : MethodName) (cb : ByteArray) (n : Nat) (rt : FieldType) (rm : Room) (as : List Value) (M : Mem) (Q : Int32 → Mem → Prop) (K : String → Mem → Prop) : Prop := vx_Met l y (Cond.code y cb n (some rt) :: TG) rm (va_Pc as (PB G M)) (va_Qi Q (BM G) (gA G)) (XK G K) rm.cells rm.slots (gA G)
def Cxv (l : Launch) (G : Gm) (y : MethodName) (cb : ByteArray) (n : Nat) (rm : Room) (as : List Value) (M : Mem) (Q : Mem → Prop) (K : String → Mem → Prop) : Prop := vx_Met l y (Cond.code y cb n none :: TG) rm (va_Pc as (PB G M)) (va_Qv Q (BM G) (gA G)) (XK G K) rm.cells rm.slots (gA G)
def EndX (Γ : Gam) (G : Gm) (Qf : State → Prop) (rm : Room) (K : String → Mem → Prop) : Prop := (∃ Qc, Qf = vx_MQ (gbe Γ) Qc (XK G K) (gar Γ) (gs Γ) rm.cells rm.slots (gA G)) ∧ (∀ x ∈ (gco Γ).exceptionTable.toList, False) ∧ (gl Γ).stackTraces = false
abbrev NS : List String := ["java/lang/RuntimeException", "java/lang/Exception"]
def BX (cls : String) : List Cond := [Cond.castable cls cls, .declares (Bundle.initS "java/lang/RuntimeException"), .declares (Bundle.initS "java/lang/Exception"), .declares (Bundle.initS Bundle.tN)]
def STh (own : String) (ik is ic ix : Nat) (rx : ByteArray) (cls text : String) : Prop := Bundle.fit cls = true ∧ Cond.classLink own ik cls ∈ TG ∧ Cond.initialized cls ∈ TG ∧ (∀ U, NWs U → ∃ a, vk_R own is text a U) ∧ (∀ U, NWs U → va_Nw (.castable cls cls) U) ∧ (∀ w ∈ (vx_atX own ic cls ix rx NS).filter goodWord, w ∈ TG) ∧ (∀ w ∈ (vx_atX own ic cls ix rx NS).filter (fun w => !goodWord w), w ∈ BX cls) ∧ (∀ w ∈ Cond.classLink own ik cls :: Cond.initialized cls :: vx_atX own ic cls ix rx NS, vx_ot w = true) ∧ decode rx 0 = .ok (.aload_n 0, 1) ∧ decode rx 1 = .ok (.aload_n 1, 1) ∧ decode rx 2 = .ok (.invokespecial ix, 3) ∧ decode rx 5 = .ok (.return_, 1)
section XT
variable {Γ : Gam} {G : Gm} {Qf : State → Prop} {cc : ByteArray} {nL ce sl pc : Nat} {own : String} {ret : Option FieldType} {rm : Room} {lv : List (Nat × Value)} {st : List Value} {M : Mem} {K : String → Mem → Prop}
theorem XK_of {s t : State} {H : Heap} {locs : List Loc} {E : String} (hK : K E M) (hP : va_P (gD G) vwCl (wsM G M) H) (hS : va_S (gA G) s.heap H locs) (h1 : H.size ≤ t.heap.size) (h2 : ∀ q : Nat, q < H.size → t.heap[q]? = H[q]?) : XK G K E s t :=
  ⟨(E, M), hK, ⟨rfl, va_P.kept hP (fun k q hk => h2 q.1 (hP k q hk).lt)⟩, Nat.le_trans hS.1 h1, fun q hq hn => by rw [h2 q (Nat.lt_of_lt_of_le hq hS.1)]; exact hS.2.1 q hq hn⟩
theorem x_throw (C : Cx Γ G cc nL own ret rm) (EX : EndX Γ G Qf rm K) {cls text : String} {ik is ic ix : Nat} {rx : ByteArray} (S : STh own ik is ic ix rx cls text) (hK : K cls M) (h1 : 5 < rm.frames) (h2 : (st.map fun v => v.category).sum + 82 ≤ rm.locals) (h3 : ce + 1 ≤ rm.cells) (h4 : sl + 6 ≤ rm.slots) (d0 : decode cc pc = .ok (.new ik, 3)) (d3 : decode cc (pc + 3) = .ok (.dup, 1)) (d4 : decode cc (pc + 4) = .ok (.ldc_w is, 3)) (d7 : decode cc (pc + 7) = .ok (.invokespecial ic, 3)) (d10 : decode cc (pc + 10) = .ok (.athrow, 1)) : X Γ G Qf nL ce sl pc lv st M := by
  intro H locs ls hP hS hl
  obtain ⟨⟨Qc, rfl⟩, hx, hlt⟩ := EX
  obtain ⟨s1, s2, s3, s4, s5, s6, s7, s8, s9, s10, s11, s12⟩ := S
  have hR : gR Γ = rm := C.2.2.2.2.2.2.2.2.2.2.2.1
  have hN := C.2.2.2.2.2.2.1
  have hT := C.2.2.2.2.2.2.2.1
  obtain ⟨sa, hsa⟩ := s4 _ hN
  have hN2 := hN.2.2.2.2.2.2.2.2
  exact vx_throwSWX (names := NS) (sa := sa) (text := text) C.1 C.2.1 hlt s9 s10 s11 s12 C.2.2.2.1 s1 (by decide +kernel) (C.2.2.2.2.1 _ s2) (C.2.2.2.2.1 _ s3) hsa (vx_hat (B := BX cls) (fun w hw => C.2.2.2.2.1 _ (s6 w hw)) s7 (vx_c ((s5 _ hN).use rfl) (vx_c (hN2.1.use rfl) (vx_c (hN2.2.1.use rfl) (vx_c (hN2.2.2.use rfl) vx_n))))) s8 hT.1 hT.2 hS (hl.1.trans C.2.2.1.symm) d0 d3 d4 d7 d10 (fun x h => (hx x h).elim) (by rw [hR]; exact h1) (by rw [hR]; exact h2) (by rw [hR]; exact h3) (by rw [hR]; exact h4) C.2.2.2.2.2.2.2.2.2.1 (fun t _ h5 h6 => XK_of hK hP hS h5 h6) hS.2.2 h3 h4
theorem x_tcalli (C : Cx Γ G cc nL own ret rm) (EX : EndX Γ G Qf rm K) {idx c i k n : Nat} {cn : String} {y : MethodName} {cb : ByteArray} {rt : FieldType} {rm1 : Room} {As rest : List Value} {Q : Int32 → Mem → Prop} (S : SV own idx cn y cb n (some rt) k) {m9 : Nat} (hO : OB c cn m9) (hi : i < m9) (hM : Cxi (gl Γ) G y cb n rt rm1 (.ref (ga G c i) :: As) M Q K) (hk : As.length = k) (hst : st = As.reverse ++ .ref (ga G c i) :: rest) (hcat : (rest.map fun v => v.category).sum ≤ 8) (hr : rm1.frames + 1 ≤ rm.frames ∧ 8 + (n + 11) + rm1.locals ≤ rm.locals) {ce1 sl1 : Nat} (hce : ce + rm1.cells = ce1) (hsl : sl + rm1.slots = sl1) (hf : ce1 ≤ rm.cells ∧ sl1 ≤ rm.slots) (hd : decode cc pc = .ok (.invokevirtual idx, 3)) (kk : ∀ (r : Int32) (M1 : Mem), Q r M1 → X Γ G Qf nL ce1 sl1 (pc + 3) lv (.int r :: rest) M1) : X Γ G Qf nL ce sl pc lv st M := by
  intro H locs ls hP hS hl
  obtain ⟨⟨Qc, rfl⟩, hx, hlt⟩ := EX
  obtain ⟨hc, ha, rfl, T, N, hcl⟩ := hO
  have hR : gR Γ = rm := C.2.2.2.2.2.2.2.2.2.2.2.1
  subst hce hsl
  exact vx_calli (vx_runV (As := As) (rest := rest) ⟨C.1, C.2.1, C.2.2.1, C.2.2.2.1, C.2.2.2.2.1⟩ hM (cwV k C.2.2.2.2.1 S.good rfl rfl rfl S.2.2.2.2.2 (by rw [hR]; exact hr)) ⟨PB_blind G M _, C.recv hP hc ha hcl hi, C.pre hP hS _⟩ rfl hk hl.1 hst (lv_room hcat) hd (by rw [hR]; exact hf)) hS (fun q _ h => h) (fun q h => h) (fun q _ h => h) (fun E ce q9 u t H1 locs1 ht _ hpx hB _ _ hS1 hq9 hv hcl9 => vx_out (fun x h => (hx x h).elim) C.2.2.2.2.2.2.2.2.2.1 hq9 hv hcl9 (fun t2 ht2 _ => XK_of (M := u.2) (by obtain ⟨e1, -⟩ := hB; rw [e1]; exact hpx) (by rw [← ht]; exact hB.2) hS1 (by rw [ht2]; exact Nat.le_refl _) (fun q _ => by rw [ht2])) hS1.2.2 hf.1 hf.2) (fun r u t H1 locs1 ht _ hq hb _ _ hS1 => kk r u hq H1 locs1 ls (by rw [← ht]; exact hb) hS1 hl)
theorem x_tcallv (C : Cx Γ G cc nL own ret rm) (EX : EndX Γ G Qf rm K) {idx c i k n : Nat} {cn : String} {y : MethodName} {cb : ByteArray} {rm1 : Room} {As rest : List Value} {Q : Mem → Prop} (S : SV own idx cn y cb n none k) {m9 : Nat} (hO : OB c cn m9) (hi : i < m9) (hM : Cxv (gl Γ) G y cb n rm1 (.ref (ga G c i) :: As) M Q K) (hk : As.length = k) (hst : st = As.reverse ++ .ref (ga G c i) :: rest) (hcat : (rest.map fun v => v.category).sum ≤ 8) (hr : rm1.frames + 1 ≤ rm.frames ∧ 8 + (n + 11) + rm1.locals ≤ rm.locals) {ce1 sl1 : Nat} (hce : ce + rm1.cells = ce1) (hsl : sl + rm1.slots = sl1) (hf : ce1 ≤ rm.cells ∧ sl1 ≤ rm.slots) (hd : decode cc pc = .ok (.invokevirtual idx, 3)) (kk : ∀ (M1 : Mem), Q M1 → X Γ G Qf nL ce1 sl1 (pc + 3) lv rest M1) : X Γ G Qf nL ce sl pc lv st M := by
  intro H locs ls hP hS hl
  obtain ⟨⟨Qc, rfl⟩, hx, hlt⟩ := EX
  obtain ⟨hc, ha, rfl, T, N, hcl⟩ := hO
  have hR : gR Γ = rm := C.2.2.2.2.2.2.2.2.2.2.2.1
  subst hce hsl
  exact vx_callv (vx_runV (As := As) (rest := rest) ⟨C.1, C.2.1, C.2.2.1, C.2.2.2.1, C.2.2.2.2.1⟩ hM (cwV k C.2.2.2.2.1 S.good rfl rfl rfl S.2.2.2.2.2 (by rw [hR]; exact hr)) ⟨PB_blind G M _, C.recv hP hc ha hcl hi, C.pre hP hS _⟩ rfl hk hl.1 hst (lv_room hcat) hd (by rw [hR]; exact hf)) hS (fun q _ h => h) (fun q h => h) (fun q _ h => h) (fun E ce q9 u t H1 locs1 ht _ hpx hB _ _ hS1 hq9 hv hcl9 => vx_out (fun x h => (hx x h).elim) C.2.2.2.2.2.2.2.2.2.1 hq9 hv hcl9 (fun t2 ht2 _ => XK_of (M := u.2) (by obtain ⟨e1, -⟩ := hB; rw [e1]; exact hpx) (by rw [← ht]; exact hB.2) hS1 (by rw [ht2]; exact Nat.le_refl _) (fun q _ => by rw [ht2])) hS1.2.2 hf.1 hf.2) (fun u t H1 locs1 ht _ hq hb _ _ hS1 => kk u hq H1 locs1 ls (by rw [← ht]; exact hb) hS1 hl)
end XT
section XD
variable {l : Launch} {G : Gm} {y : MethodName} {cb : ByteArray} {n : Nat} {rm : Room} {as : List Value} {M : Mem} {own : String} {K : String → Mem → Prop}
theorem cxv_of {Q : Mem → Prop} (hl0 : l.stackTraces = false) (hy : plainName y.cls = true) (ho : y.cls = own) (hn : (lg_sl as).length ≤ n) (hG : Gd G) (body : ∀ (Γ : Gam) (Qf : State → Prop), gl Γ = l → Cx Γ G cb n own none rm → EndV Γ G Qf rm Q → EndX Γ G Qf rm K → X Γ G Qf n 0 0 0 (lv_args 0 as) [] M) : Cxv l G y cb n rm as M Q K := by
  refine vx_ofW (cc := cb) (maxL := n) (ret := none) hy rfl ?_
  intro p e s m args below meth c s₁ B hml hx hv
  obtain ⟨rfl, hP, hK, hN, hT, hA⟩ := hv
  have hts := atoms_spec (ws := Cond.code y cb n none :: TG) B.pre
  have hl := lv_entry as (n := n) hn
  rw [lg_entry_eq]
  exact body (p, l, e, (headSpec (Cond.code y cb n none :: TG) rm).room, s, m, as.toArray, below, meth, c) _ rfl ⟨B.exec, B.bytes, hml, by rw [← ho]; exact findClass_of_methodNamed B.named, fun w hw => hts w (List.mem_cons_of_mem _ hw), hK, hN, hT, hA, B.notSynchronized, B.returns, rfl, hG⟩ (fun _ _ _ _ _ h => vx_ret h) ⟨⟨_, rfl⟩, hx, hl0⟩ s.heap [] _ hP va_S.rf hl
theorem cxi_of {rt : FieldType} {Q : Int32 → Mem → Prop} (hl0 : l.stackTraces = false) (hy : plainName y.cls = true) (ho : y.cls = own) (hn : (lg_sl as).length ≤ n) (hG : Gd G) (body : ∀ (Γ : Gam) (Qf : State → Prop), gl Γ = l → Cx Γ G cb n own (some rt) rm → EndI Γ G Qf rm Q → EndX Γ G Qf rm K → X Γ G Qf n 0 0 0 (lv_args 0 as) [] M) : Cxi l G y cb n rt rm as M Q K := by
  refine vx_ofW (cc := cb) (maxL := n) (ret := (some rt)) hy rfl ?_
  intro p e s m args below meth c s₁ B hml hx hv
  obtain ⟨rfl, hP, hK, hN, hT, hA⟩ := hv
  have hts := atoms_spec (ws := Cond.code y cb n (some rt) :: TG) B.pre
  have hl := lv_entry as (n := n) hn
  rw [lg_entry_eq]
  exact body (p, l, e, (headSpec (Cond.code y cb n (some rt) :: TG) rm).room, s, m, as.toArray, below, meth, c) _ rfl ⟨B.exec, B.bytes, hml, by rw [← ho]; exact findClass_of_methodNamed B.named, fun w hw => hts w (List.mem_cons_of_mem _ hw), hK, hN, hT, hA, B.notSynchronized, B.returns, rfl, hG⟩ (fun _ _ _ _ _ h => vx_ret h) ⟨⟨_, rfl⟩, hx, hl0⟩ s.heap [] _ hP va_S.rf hl
end XD
theorem atX_in1 : ∀ w ∈ (vx_atX RX10 419 EN 13 prog_21_method_4_code NS).filter goodWord, w ∈ lw_tbl := by decide +kernel
theorem atX_in2 : ∀ w ∈ (vx_atX RX10 426 EI 7 Bundle.six NS).filter goodWord, w ∈ lw_tbl := by decide +kernel
theorem st_EN : STh RX10 415 417 419 13 prog_21_method_4_code EN "there is no such one" := ⟨by decide +kernel, tg_of (by decide +kernel) (by decide +kernel), tg_of (by decide +kernel) (by decide +kernel), fun _ h => h.2.2.2.2.2.2.1, fun _ h => h.2.2.2.2.1, fun w hw => tg_of (atX_in1 w hw) (List.mem_filter.mp hw).2, by decide +kernel, by decide +kernel, by decide +kernel, by decide +kernel, by decide +kernel, by decide +kernel⟩
theorem st_EI : STh RX10 422 424 426 7 Bundle.six EI "a number that is not allowed here" := ⟨by decide +kernel, tg_of (by decide +kernel) (by decide +kernel), tg_of (by decide +kernel) (by decide +kernel), fun _ h => h.2.2.2.2.2.2.2.1, fun _ h => h.2.2.2.2.2.1, fun w hw => tg_of (atX_in2 w hw) (List.mem_filter.mp hw).2, by decide +kernel, by decide +kernel, by decide +kernel, by decide +kernel, by decide +kernel, by decide +kernel⟩
