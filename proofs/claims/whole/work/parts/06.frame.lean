/-! THE WALK over the memory: one judgement X (from this program counter, with these locals, this stack and this memory, the method comes to its end), one row an instruction; contracts Cti, Ctl, Ctv. -/
def TG : List Cond := lw_tbl.filter goodWord
theorem tg_of {w : Cond} (h : w ∈ lw_tbl) (hg : goodWord w = true) : w ∈ TG := List.mem_filter.mpr ⟨h, hg⟩
theorem goodTG {ws : List Cond} (h : ∀ w ∈ ws, w ∈ TG) : GoodIn TG ws := fun w hw => ⟨h w hw, good_of_word (List.mem_filter.mp (h w hw)).2⟩
abbrev tn (x : Int32) : Nat := x.toNatClampNeg
/-- a boolean -/
def bz (v : Int32) : Prop := v = 0 ∨ v = 1
theorem bz_nar {v : Int32} (h : bz v) : narrow .boolean (.int v) = .int v := by rcases h with rfl | rfl <;> rfl
theorem bz_fit {v : Int32} (h : bz v) : fits .boolean (.int v) = true := by rcases h with rfl | rfl <;> rfl
theorem bz_vp {v : Int32} (h : bz v) : vp_nar .boolean v = v := by rcases h with rfl | rfl <;> rfl
theorem vp_l {x : Int32} {n : Nat} (h : ¬ (x < 0 ∨ n ≤ x.toNatClampNeg)) : vp_in x n := h
abbrev EN : String := "java/util/NoSuchElementException"
abbrev EI : String := "java/lang/IllegalArgumentException"
def NWs (U : State) : Prop := va_Nw (.methodLinkNest RX1 35 yX10_isLetter RX10) U ∧ va_Nw (.methodLinkNest RX1 43 yX10_spelledOn RX10) U ∧ va_Nw (.methodLinkNest RX7 50 yX10_isLetter RX10) U ∧ va_Nw (.methodLinkNest RX7 97 yX10_spelledOn RX10) U ∧ va_Nw (.castable EN EN) U ∧ va_Nw (.castable EI EI) U ∧ (∃ a, vk_R RX10 417 "there is no such one" a U) ∧ (∃ a, vk_R RX10 424 "a number that is not allowed here" a U) ∧ va_Nw (.declares (Bundle.initS "java/lang/RuntimeException")) U ∧ va_Nw (.declares (Bundle.initS "java/lang/Exception")) U ∧ va_Nw (.declares (Bundle.initS Bundle.tN)) U
theorem NWs.warm {s U : State} (hW : s.WarmedH U.vm) (h : NWs s) : NWs U := by
  obtain ⟨a, b, c, d, e, f, ⟨x, g⟩, ⟨y, i⟩, j, k, n⟩ := h
  exact ⟨a.warmM hW, b.warmM hW, c.warmM hW, d.warmM hW, e.warmC hW, f.warmC hW, ⟨x, g.warm hW⟩, ⟨y, i.warm hW⟩, j.warmD hW, k.warmD hW, n.warmD hW⟩
theorem NWs.same {u U : State} (hv : u.vm = U.vm) (h : NWs u) : NWs U := by
  obtain ⟨a, b, c, d, e, f, ⟨x, g⟩, ⟨y, i⟩, j, k, n⟩ := h
  exact ⟨a.same rfl hv, b.same rfl hv, c.same rfl hv, d.same rfl hv, e.same rfl hv, f.same rfl hv, ⟨x, g.same hv.symm⟩, ⟨y, i.same hv.symm⟩, j.same rfl hv, k.same rfl hv, n.same rfl hv⟩
def THs (A : Nat → Prop) (U : State) (H : Heap) : Prop := vx_Zq Bundle.tN "UNASSIGNED_STACK" Bundle.steD A U H ∧ vx_Zq Bundle.tN "SUPPRESSED_SENTINEL" Bundle.listD A U H
theorem THs.moved {A : Nat → Prop} {u U : State} {H : Heap} (hvm : u.vm.Alike U.vm) (h : THs A u H) : THs A U H := ⟨h.1.moved hvm, h.2.moved hvm⟩
theorem THs.kept {A : Nat → Prop} {U : State} {H H1 : Heap} (h : THs A U H) (hq : ∀ a : Nat, a < H.size → ¬ A a → H1[a]? = H[a]?) : THs A U H1 := ⟨h.1.kept hq, h.2.kept hq⟩
/-- what holds where a method begins -/
def PB (G : Gm) (M : Mem) (U : State) : Prop := va_P (gD G) vwCl (wsM G M) U.heap ∧ va_K (gD G) vwCl (tysM G) U ∧ NWs U ∧ THs (gA G) U U.heap ∧ ∀ q : Nat, U.heap.size ≤ q → gA G q
def BM (G : Gm) (M : Mem) (t : State) : Prop := va_P (gD G) vwCl (wsM G M) t.heap
theorem PB_blind (G : Gm) (M : Mem) (as : List Value) : FrameBlind (va_Pc as (PB G M)) := by
  intro a U g mk h
  obtain ⟨e, h1, h2, h3, h4, h5⟩ := h
  exact ⟨e, h1, va_K.moved (u := U) (U := U.calling g mk a) (Vm.Alike.refl U.vm) h2, NWs.same (u := U) (U := U.calling g mk a) rfl h3, THs.moved (u := U) (U := U.calling g mk a) (Vm.Alike.refl U.vm) h4, h5⟩
abbrev Gam : Type := Program × Launch × Env × Room × State × MethodId × Array Value × List Frame × Method × Code
abbrev gl (Γ : Gam) : Launch := Γ.2.1
abbrev gR (Γ : Gam) : Room := Γ.2.2.2.1
abbrev gs (Γ : Gam) : State := Γ.2.2.2.2.1
abbrev gm (Γ : Gam) : MethodId := Γ.2.2.2.2.2.1
abbrev gar (Γ : Gam) : Array Value := Γ.2.2.2.2.2.2.1
abbrev gbe (Γ : Gam) : List Frame := Γ.2.2.2.2.2.2.2.1
abbrev gme (Γ : Gam) : Method := Γ.2.2.2.2.2.2.2.2.1
abbrev gco (Γ : Gam) : Code := Γ.2.2.2.2.2.2.2.2.2
abbrev WW (Γ : Gam) (H : Heap) (locs : List Loc) (ce sl : Nat) (Qf : State → Prop) (g : JFrame) : Prop := W Γ.1 (gl Γ) Γ.2.2.1 (gR Γ) (gs Γ) (gm Γ) (gar Γ) (gbe Γ) (gme Γ) (gco Γ) H locs ce sl Qf g
/-- what holds throughout a method's body -/
def Cx (Γ : Gam) (G : Gm) (cc : ByteArray) (nL : Nat) (own : String) (ret : Option FieldType) (rm : Room) : Prop :=
  Γ.1.tables.exec = Jvm.exec ∧ (gco Γ).code = cc ∧ (gco Γ).maxLocals = nL ∧ (gs Γ).vm.findClass own = some (gm Γ).cls ∧ (∀ w ∈ TG, w.before (gar Γ) (gs Γ) = true) ∧ va_K (gD G) vwCl (tysM G) (gs Γ) ∧ NWs (gs Γ) ∧ THs (gA G) (gs Γ) (gs Γ).heap ∧ (∀ q : Nat, (gs Γ).heap.size ≤ q → gA G q) ∧ (gme Γ).locks = false ∧ (gme Γ).sig.returnType = ret ∧ gR Γ = rm ∧ Gd G
def X (Γ : Gam) (G : Gm) (Qf : State → Prop) (nL ce sl pc : Nat) (lv : List (Nat × Value)) (st : List Value) (M : Mem) : Prop :=
  ∀ (H : Heap) (locs : List Loc) (ls : Array Slot), va_P (gD G) vwCl (wsM G M) H → va_S (gA G) (gs Γ).heap H locs → lv_has ls nL lv → WW Γ H locs ce sl Qf (F0 (gm Γ) pc ls st)
def Cti (l : Launch) (G : Gm) (y : MethodName) (cb : ByteArray) (n : Nat) (rt : FieldType) (rm : Room) (as : List Value) (M : Mem) (Q : Int32 → Mem → Prop) : Prop := Met l y (Cond.code y cb n (some rt) :: TG) rm (va_Pc as (PB G M)) (va_Qi Q (BM G) (gA G)) rm.cells rm.slots (gA G)
def Ctl (l : Launch) (G : Gm) (y : MethodName) (cb : ByteArray) (n : Nat) (rt : FieldType) (rm : Room) (as : List Value) (M : Mem) (Q : Int64 → Mem → Prop) : Prop := Met l y (Cond.code y cb n (some rt) :: TG) rm (va_Pc as (PB G M)) (va_Ql Q (BM G) (gA G)) rm.cells rm.slots (gA G)
def Ctv (l : Launch) (G : Gm) (y : MethodName) (cb : ByteArray) (n : Nat) (rm : Room) (as : List Value) (M : Mem) (Q : Mem → Prop) : Prop := Met l y (Cond.code y cb n none :: TG) rm (va_Pc as (PB G M)) (va_Qv Q (BM G) (gA G)) rm.cells rm.slots (gA G)
/-- where a method ends by a return -/
def EndI (Γ : Gam) (G : Gm) (Qf : State → Prop) (rm : Room) (Q : Int32 → Mem → Prop) : Prop := ∀ (H : Heap) (locs : List Loc) (ce sl : Nat) (g : JFrame), WW Γ H locs ce sl (MQ (gbe Γ) (va_Qi Q (BM G) (gA G)) (gar Γ) (gs Γ) rm.cells rm.slots (gA G)) g → WW Γ H locs ce sl Qf g
def EndL (Γ : Gam) (G : Gm) (Qf : State → Prop) (rm : Room) (Q : Int64 → Mem → Prop) : Prop := ∀ (H : Heap) (locs : List Loc) (ce sl : Nat) (g : JFrame), WW Γ H locs ce sl (MQ (gbe Γ) (va_Ql Q (BM G) (gA G)) (gar Γ) (gs Γ) rm.cells rm.slots (gA G)) g → WW Γ H locs ce sl Qf g
def EndV (Γ : Gam) (G : Gm) (Qf : State → Prop) (rm : Room) (Q : Mem → Prop) : Prop := ∀ (H : Heap) (locs : List Loc) (ce sl : Nat) (g : JFrame), WW Γ H locs ce sl (MQ (gbe Γ) (va_Qv Q (BM G) (gA G)) (gar Γ) (gs Γ) rm.cells rm.slots (gA G)) g → WW Γ H locs ce sl Qf g
def imax (x y : Int32) : Int32 := if x < y then y else x
def imin (x y : Int32) : Int32 := if y < x then y else x
def iabs (x : Int32) : Int32 := if 0 ≤ x then x else 0 - x
section XR
variable {Γ : Gam} {G : Gm} {Qf : State → Prop} {cc : ByteArray} {nL ce sl pc : Nat} {own : String} {ret : Option FieldType} {rm : Room} {lv : List (Nat × Value)} {st : List Value} {M : Mem}
theorem Cx.pre (C : Cx Γ G cc nL own ret rm) {H : Heap} {locs : List Loc} (hP : va_P (gD G) vwCl (wsM G M) H) (hS : va_S (gA G) (gs Γ).heap H locs) (as : List Value) : ∀ U : State, U.heap = H → (gs Γ).WarmedH U.vm → va_Pc as (PB G M) as.toArray U := by
  intro U hU hW
  obtain ⟨-, -, -, -, -, hK, hN, hT, hA, -⟩ := C
  refine ⟨rfl, by rw [hU]; exact hP, va_K.moved hW.alike hK, hN.warm hW, ?_, fun q hq => hA q (Nat.le_trans hS.1 (by rw [← hU]; exact hq))⟩
  rw [hU]
  exact (hT.moved hW.alike).kept hS.2.1
theorem X_name {x : Int32} (k : ∀ y : Int32, y = x → X Γ G Qf nL ce sl pc lv (.int y :: st) M) : X Γ G Qf nL ce sl pc lv (.int x :: st) M := k x rfl
theorem X_nameL {x : Int64} (k : ∀ y : Int64, y = x → X Γ G Qf nL ce sl pc lv (.long y :: st) M) : X Γ G Qf nL ce sl pc lv (.long x :: st) M := k x rfl
theorem X_nameM {N : Mem} (k : ∀ m : Mem, m = N → X Γ G Qf nL ce sl pc lv st m) : X Γ G Qf nL ce sl pc lv st N := k N rfl
theorem X_sub {lv' : List (Nat × Value)} (ks : List Nat) (hl : lv_pick lv ks = lv') (k : X Γ G Qf nL ce sl pc lv' st M) : X Γ G Qf nL ce sl pc lv st M := fun H locs ls hP hS h => k H locs ls hP hS (lv_sub h ks hl)
theorem X_widen {c1 s1 : Nat} (h1 : ce ≤ c1) (h2 : sl ≤ s1) (k : X Γ G Qf nL c1 s1 pc lv st M) : X Γ G Qf nL ce sl pc lv st M := fun H locs ls hP hS h => W.widen h1 h2 (k H locs ls hP hS h)
theorem x_iconst (C : Cx Γ G cc nL own ret rm) {n : Int} {v : Int32} (hd : decode cc pc = .ok (.iconst n, 1)) (hv : Int32.ofInt n = v) (k : X Γ G Qf nL ce sl (pc + 1) lv (.int v :: st) M) : X Γ G Qf nL ce sl pc lv (st) M := fun H locs ls hP hS hl => lv_iconst C.1 C.2.1 hd hv (k H locs ls hP hS hl)
theorem x_bipush (C : Cx Γ G cc nL own ret rm) {n : Int} {v : Int32} (hd : decode cc pc = .ok (.bipush n, 2)) (hv : (Int8.ofInt n).toInt32 = v) (k : X Γ G Qf nL ce sl (pc + 2) lv (.int v :: st) M) : X Γ G Qf nL ce sl pc lv (st) M := fun H locs ls hP hS hl => lv_bipush C.1 C.2.1 hd hv (k H locs ls hP hS hl)
theorem x_sipush (C : Cx Γ G cc nL own ret rm) {n : Int} {v : Int32} (hd : decode cc pc = .ok (.sipush n, 3)) (hv : (Int16.ofInt n).toInt32 = v) (k : X Γ G Qf nL ce sl (pc + 3) lv (.int v :: st) M) : X Γ G Qf nL ce sl pc lv (st) M := fun H locs ls hP hS hl => lv_sipush C.1 C.2.1 hd hv (k H locs ls hP hS hl)
theorem x_lconst (C : Cx Γ G cc nL own ret rm) {n : Fin 2} {v : Int64} (hd : decode cc pc = .ok (.lconst n, 1)) (hv : Int64.ofNat (n : Nat) = v) (k : X Γ G Qf nL ce sl (pc + 1) lv (.long v :: st) M) : X Γ G Qf nL ce sl pc lv (st) M := fun H locs ls hP hS hl => lv_lconst C.1 C.2.1 hd hv (k H locs ls hP hS hl)
theorem x_iadd (C : Cx Γ G cc nL own ret rm) {x y : Int32} (hd : decode cc pc = .ok (.iadd, 1)) (k : X Γ G Qf nL ce sl (pc + 1) lv (.int (x + y) :: st) M) : X Γ G Qf nL ce sl pc lv (.int y :: .int x :: st) M := fun H locs ls hP hS hl => lv_iadd C.1 C.2.1 hd (k H locs ls hP hS hl)
theorem x_isub (C : Cx Γ G cc nL own ret rm) {x y : Int32} (hd : decode cc pc = .ok (.isub, 1)) (k : X Γ G Qf nL ce sl (pc + 1) lv (.int (x - y) :: st) M) : X Γ G Qf nL ce sl pc lv (.int y :: .int x :: st) M := fun H locs ls hP hS hl => lv_isub C.1 C.2.1 hd (k H locs ls hP hS hl)
theorem x_imul (C : Cx Γ G cc nL own ret rm) {x y : Int32} (hd : decode cc pc = .ok (.imul, 1)) (k : X Γ G Qf nL ce sl (pc + 1) lv (.int (x * y) :: st) M) : X Γ G Qf nL ce sl pc lv (.int y :: .int x :: st) M := fun H locs ls hP hS hl => lv_imul C.1 C.2.1 hd (k H locs ls hP hS hl)
theorem x_iand (C : Cx Γ G cc nL own ret rm) {x y : Int32} (hd : decode cc pc = .ok (.iand, 1)) (k : X Γ G Qf nL ce sl (pc + 1) lv (.int (x &&& y) :: st) M) : X Γ G Qf nL ce sl pc lv (.int y :: .int x :: st) M := fun H locs ls hP hS hl => lv_iand C.1 C.2.1 hd (k H locs ls hP hS hl)
theorem x_ior (C : Cx Γ G cc nL own ret rm) {x y : Int32} (hd : decode cc pc = .ok (.ior, 1)) (k : X Γ G Qf nL ce sl (pc + 1) lv (.int (x ||| y) :: st) M) : X Γ G Qf nL ce sl pc lv (.int y :: .int x :: st) M := fun H locs ls hP hS hl => lv_ior C.1 C.2.1 hd (k H locs ls hP hS hl)
theorem x_idiv (C : Cx Γ G cc nL own ret rm) {x y : Int32} (hd : decode cc pc = .ok (.idiv, 1)) (hne : ¬ y = 0) (k : X Γ G Qf nL ce sl (pc + 1) lv (.int (x / y) :: st) M) : X Γ G Qf nL ce sl pc lv (.int y :: .int x :: st) M := fun H locs ls hP hS hl => lv_idiv C.1 C.2.1 hd hne (k H locs ls hP hS hl)
theorem x_irem (C : Cx Γ G cc nL own ret rm) {x y : Int32} (hd : decode cc pc = .ok (.irem, 1)) (hne : ¬ y = 0) (k : X Γ G Qf nL ce sl (pc + 1) lv (.int (x - x / y * y) :: st) M) : X Γ G Qf nL ce sl pc lv (.int y :: .int x :: st) M := fun H locs ls hP hS hl => lv_irem C.1 C.2.1 hd hne (k H locs ls hP hS hl)
theorem x_ishr (C : Cx Γ G cc nL own ret rm) {x y : Int32} (hd : decode cc pc = .ok (.ishr, 1)) (k : X Γ G Qf nL ce sl (pc + 1) lv (.int (x >>> (y &&& 31)) :: st) M) : X Γ G Qf nL ce sl pc lv (.int y :: .int x :: st) M := fun H locs ls hP hS hl => lv_ishr C.1 C.2.1 hd (k H locs ls hP hS hl)
theorem x_iushr (C : Cx Γ G cc nL own ret rm) {x y : Int32} (hd : decode cc pc = .ok (.iushr, 1)) (k : X Γ G Qf nL ce sl (pc + 1) lv (.int ((x.toUInt32 >>> (y.toUInt32 &&& Int32.toUInt32 31)).toInt32) :: st) M) : X Γ G Qf nL ce sl pc lv (.int y :: .int x :: st) M := fun H locs ls hP hS hl => lv_iushr C.1 C.2.1 hd rfl (k H locs ls hP hS hl)
theorem x_ladd (C : Cx Γ G cc nL own ret rm) {x y : Int64} (hd : decode cc pc = .ok (.ladd, 1)) (k : X Γ G Qf nL ce sl (pc + 1) lv (.long (x + y) :: st) M) : X Γ G Qf nL ce sl pc lv (.long y :: .long x :: st) M := fun H locs ls hP hS hl => lv_ladd C.1 C.2.1 hd (k H locs ls hP hS hl)
theorem x_lsub (C : Cx Γ G cc nL own ret rm) {x y : Int64} (hd : decode cc pc = .ok (.lsub, 1)) (k : X Γ G Qf nL ce sl (pc + 1) lv (.long (x - y) :: st) M) : X Γ G Qf nL ce sl pc lv (.long y :: .long x :: st) M := fun H locs ls hP hS hl => lv_lsub C.1 C.2.1 hd (k H locs ls hP hS hl)
theorem x_lmul (C : Cx Γ G cc nL own ret rm) {x y : Int64} (hd : decode cc pc = .ok (.lmul, 1)) (k : X Γ G Qf nL ce sl (pc + 1) lv (.long (x * y) :: st) M) : X Γ G Qf nL ce sl pc lv (.long y :: .long x :: st) M := fun H locs ls hP hS hl => lv_lmul C.1 C.2.1 hd (k H locs ls hP hS hl)
theorem x_ldiv (C : Cx Γ G cc nL own ret rm) {x y : Int64} (hd : decode cc pc = .ok (.ldiv, 1)) (hne : ¬ y = 0) (k : X Γ G Qf nL ce sl (pc + 1) lv (.long (x / y) :: st) M) : X Γ G Qf nL ce sl pc lv (.long y :: .long x :: st) M := fun H locs ls hP hS hl => lv_ldiv C.1 C.2.1 hd hne (k H locs ls hP hS hl)
theorem x_lrem (C : Cx Γ G cc nL own ret rm) {x y : Int64} (hd : decode cc pc = .ok (.lrem, 1)) (hne : ¬ y = 0) (k : X Γ G Qf nL ce sl (pc + 1) lv (.long (x - x / y * y) :: st) M) : X Γ G Qf nL ce sl pc lv (.long y :: .long x :: st) M := fun H locs ls hP hS hl => lv_lrem C.1 C.2.1 hd hne (k H locs ls hP hS hl)
theorem x_lcmp (C : Cx Γ G cc nL own ret rm) {x y : Int64} (hd : decode cc pc = .ok (.lcmp, 1)) (k : X Γ G Qf nL ce sl (pc + 1) lv (.int (lg_cmp x y) :: st) M) : X Γ G Qf nL ce sl pc lv (.long y :: .long x :: st) M := fun H locs ls hP hS hl => W.lcmp C.1 C.2.1 hd (k H locs ls hP hS hl)
theorem x_i2l (C : Cx Γ G cc nL own ret rm) {x : Int32} (hd : decode cc pc = .ok (.i2l, 1)) (k : X Γ G Qf nL ce sl (pc + 1) lv (.long x.toInt64 :: st) M) : X Γ G Qf nL ce sl pc lv (.int x :: st) M := fun H locs ls hP hS hl => lv_i2l C.1 C.2.1 hd rfl (k H locs ls hP hS hl)
theorem x_l2i (C : Cx Γ G cc nL own ret rm) {x : Int64} (hd : decode cc pc = .ok (.l2i, 1)) (k : X Γ G Qf nL ce sl (pc + 1) lv (.int x.toInt32 :: st) M) : X Γ G Qf nL ce sl pc lv (.long x :: st) M := fun H locs ls hP hS hl => lv_l2i C.1 C.2.1 hd rfl (k H locs ls hP hS hl)
theorem x_dup (C : Cx Γ G cc nL own ret rm) {va : Value} (hd : decode cc pc = .ok (.dup, 1)) (h1 : va.category = 1) (k : X Γ G Qf nL ce sl (pc + 1) lv (va :: va :: st) M) : X Γ G Qf nL ce sl pc lv (va :: st) M := fun H locs ls hP hS hl => lv_dup C.1 C.2.1 hd h1 (k H locs ls hP hS hl)
theorem x_dup_x1 (C : Cx Γ G cc nL own ret rm) {va vb : Value} (hd : decode cc pc = .ok (.dup_x1, 1)) (h1 : va.category = 1) (h2 : vb.category = 1) (k : X Γ G Qf nL ce sl (pc + 1) lv (va :: vb :: va :: st) M) : X Γ G Qf nL ce sl pc lv (va :: vb :: st) M := fun H locs ls hP hS hl => lv_dup_x1 C.1 C.2.1 hd h1 h2 (k H locs ls hP hS hl)
theorem x_dup_x2 (C : Cx Γ G cc nL own ret rm) {va vb vd : Value} (hd : decode cc pc = .ok (.dup_x2, 1)) (h1 : va.category = 1) (h2 : vb.category = 1) (h3 : vd.category = 1) (k : X Γ G Qf nL ce sl (pc + 1) lv (va :: vb :: vd :: va :: st) M) : X Γ G Qf nL ce sl pc lv (va :: vb :: vd :: st) M := fun H locs ls hP hS hl => lv_dup_x2 C.1 C.2.1 hd h1 h2 h3 (k H locs ls hP hS hl)
theorem x_dup2 (C : Cx Γ G cc nL own ret rm) {va vb : Value} (hd : decode cc pc = .ok (.dup2, 1)) (h1 : va.category = 1) (h2 : vb.category = 1) (k : X Γ G Qf nL ce sl (pc + 1) lv (va :: vb :: va :: vb :: st) M) : X Γ G Qf nL ce sl pc lv (va :: vb :: st) M := fun H locs ls hP hS hl => lv_dup2_11 C.1 C.2.1 hd h1 h2 (k H locs ls hP hS hl)
theorem x_iload_n (C : Cx Γ G cc nL own ret rm) {k : Fin 4} {x : Int32} (hd : decode cc pc = .ok (.iload_n k, 1)) (j : Nat) (hj : lv[j]? = some ((k : Nat), .int x)) (kk : X Γ G Qf nL ce sl (pc + 1) lv (.int x :: st) M) : X Γ G Qf nL ce sl pc lv st M := fun H locs ls hP hS hl => lv_iload_n C.1 C.2.1 hd rfl (lv_at hl j hj) (kk H locs ls hP hS hl)
theorem x_iload (C : Cx Γ G cc nL own ret rm) {i : Nat} {x : Int32} (hd : decode cc pc = .ok (.iload i, 2)) (j : Nat) (hj : lv[j]? = some (i, .int x)) (kk : X Γ G Qf nL ce sl (pc + 2) lv (.int x :: st) M) : X Γ G Qf nL ce sl pc lv st M := fun H locs ls hP hS hl => lv_iload C.1 C.2.1 hd (lv_at hl j hj) (kk H locs ls hP hS hl)
theorem x_istore_n (C : Cx Γ G cc nL own ret rm) {k : Fin 4} {i : Nat} {x : Int32} {lv' : List (Nat × Value)} (hd : decode cc pc = .ok (.istore_n k, 1)) (hi : (k : Nat) = i) (hn : i < nL) (hl9 : (i, Value.int x) :: lv.filter (fun q => !(q.1 == i) && !(q.1 + 1 == i && q.2.category == 2)) = lv') (kk : X Γ G Qf nL ce sl (pc + 1) lv' st M) : X Γ G Qf nL ce sl pc lv (.int x :: st) M := fun H locs ls hP hS hl => lv_istore_n C.1 C.2.1 hd hi hl hn hl9 (fun ls2 hl2 => kk H locs ls2 hP hS hl2)
theorem x_istore (C : Cx Γ G cc nL own ret rm) {i : Nat} {x : Int32} {lv' : List (Nat × Value)} (hd : decode cc pc = .ok (.istore i, 2)) (hn : i < nL) (hl9 : (i, Value.int x) :: lv.filter (fun q => !(q.1 == i) && !(q.1 + 1 == i && q.2.category == 2)) = lv') (kk : X Γ G Qf nL ce sl (pc + 2) lv' st M) : X Γ G Qf nL ce sl pc lv (.int x :: st) M := fun H locs ls hP hS hl => lv_istore C.1 C.2.1 hd hl hn hl9 (fun ls2 hl2 => kk H locs ls2 hP hS hl2)
theorem x_lload_n (C : Cx Γ G cc nL own ret rm) {k : Fin 4} {x : Int64} (hd : decode cc pc = .ok (.lload_n k, 1)) (j : Nat) (hj : lv[j]? = some ((k : Nat), .long x)) (kk : X Γ G Qf nL ce sl (pc + 1) lv (.long x :: st) M) : X Γ G Qf nL ce sl pc lv st M := fun H locs ls hP hS hl => lv_lload_n C.1 C.2.1 hd rfl (lv_at hl j hj) (kk H locs ls hP hS hl)
theorem x_lload (C : Cx Γ G cc nL own ret rm) {i : Nat} {x : Int64} (hd : decode cc pc = .ok (.lload i, 2)) (j : Nat) (hj : lv[j]? = some (i, .long x)) (kk : X Γ G Qf nL ce sl (pc + 2) lv (.long x :: st) M) : X Γ G Qf nL ce sl pc lv st M := fun H locs ls hP hS hl => lv_lload C.1 C.2.1 hd (lv_at hl j hj) (kk H locs ls hP hS hl)
theorem x_lstore_n (C : Cx Γ G cc nL own ret rm) {k : Fin 4} {i : Nat} {x : Int64} {lv' : List (Nat × Value)} (hd : decode cc pc = .ok (.lstore_n k, 1)) (hi : (k : Nat) = i) (hn : i + 1 < nL) (hl9 : (i, Value.long x) :: lv.filter (fun q => !(q.1 == i) && (!(q.1 == i + 1) && !(q.1 + 1 == i && q.2.category == 2))) = lv') (kk : X Γ G Qf nL ce sl (pc + 1) lv' st M) : X Γ G Qf nL ce sl pc lv (.long x :: st) M := fun H locs ls hP hS hl => lv_lstore_n C.1 C.2.1 hd hi hl hn hl9 (fun ls2 hl2 => kk H locs ls2 hP hS hl2)
theorem x_lstore (C : Cx Γ G cc nL own ret rm) {i : Nat} {x : Int64} {lv' : List (Nat × Value)} (hd : decode cc pc = .ok (.lstore i, 2)) (hn : i + 1 < nL) (hl9 : (i, Value.long x) :: lv.filter (fun q => !(q.1 == i) && (!(q.1 == i + 1) && !(q.1 + 1 == i && q.2.category == 2))) = lv') (kk : X Γ G Qf nL ce sl (pc + 2) lv' st M) : X Γ G Qf nL ce sl pc lv (.long x :: st) M := fun H locs ls hP hS hl => lv_lstore C.1 C.2.1 hd hl hn hl9 (fun ls2 hl2 => kk H locs ls2 hP hS hl2)
theorem x_aload_n (C : Cx Γ G cc nL own ret rm) {k : Fin 4} {x : Nat} (hd : decode cc pc = .ok (.aload_n k, 1)) (j : Nat) (hj : lv[j]? = some ((k : Nat), .ref x)) (kk : X Γ G Qf nL ce sl (pc + 1) lv (.ref x :: st) M) : X Γ G Qf nL ce sl pc lv st M := fun H locs ls hP hS hl => lv_aload_n C.1 C.2.1 hd rfl (lv_at hl j hj) (kk H locs ls hP hS hl)
theorem x_aload (C : Cx Γ G cc nL own ret rm) {i : Nat} {x : Nat} (hd : decode cc pc = .ok (.aload i, 2)) (j : Nat) (hj : lv[j]? = some (i, .ref x)) (kk : X Γ G Qf nL ce sl (pc + 2) lv (.ref x :: st) M) : X Γ G Qf nL ce sl pc lv st M := fun H locs ls hP hS hl => lv_aload C.1 C.2.1 hd (lv_at hl j hj) (kk H locs ls hP hS hl)
theorem x_astore_n (C : Cx Γ G cc nL own ret rm) {k : Fin 4} {i : Nat} {x : Nat} {lv' : List (Nat × Value)} (hd : decode cc pc = .ok (.astore_n k, 1)) (hi : (k : Nat) = i) (hn : i < nL) (hl9 : (i, Value.ref x) :: lv.filter (fun q => !(q.1 == i) && !(q.1 + 1 == i && q.2.category == 2)) = lv') (kk : X Γ G Qf nL ce sl (pc + 1) lv' st M) : X Γ G Qf nL ce sl pc lv (.ref x :: st) M := fun H locs ls hP hS hl => lv_astore_n C.1 C.2.1 hd hi hl hn hl9 (fun ls2 hl2 => kk H locs ls2 hP hS hl2)
theorem x_astore (C : Cx Γ G cc nL own ret rm) {i : Nat} {x : Nat} {lv' : List (Nat × Value)} (hd : decode cc pc = .ok (.astore i, 2)) (hn : i < nL) (hl9 : (i, Value.ref x) :: lv.filter (fun q => !(q.1 == i) && !(q.1 + 1 == i && q.2.category == 2)) = lv') (kk : X Γ G Qf nL ce sl (pc + 2) lv' st M) : X Γ G Qf nL ce sl pc lv (.ref x :: st) M := fun H locs ls hP hS hl => lv_astore C.1 C.2.1 hd hl hn hl9 (fun ls2 hl2 => kk H locs ls2 hP hS hl2)
theorem x_iinc (C : Cx Γ G cc nL own ret rm) {i j : Nat} {n : Int} {x v : Int32} {lv' : List (Nat × Value)} (hd : decode cc pc = .ok (.iinc i n, 3)) (hk : lv[j]? = some (i, .int x)) (hv : x + Int32.ofInt n = v) (hn : i < nL) (hl9 : (i, Value.int v) :: lv.filter (fun q => !(q.1 == i) && !(q.1 + 1 == i && q.2.category == 2)) = lv') (kk : X Γ G Qf nL ce sl (pc + 3) lv' st M) : X Γ G Qf nL ce sl pc lv st M := fun H locs ls hP hS hl => lv_iinc C.1 C.2.1 hd hl hk hv hn hl9 (fun ls2 hl2 => kk H locs ls2 hP hS hl2)
theorem x_if_eq (C : Cx Γ G cc nL own ret rm) {x : Int32} {off : Int} {tgt : Nat} (hd : decode cc pc = .ok (.ifCond .eq off, 3)) (ht : (pc : Int) + off = (tgt : Int)) (kt : x = 0 → X Γ G Qf nL ce sl tgt lv st M) (kf : ¬ x = 0 → X Γ G Qf nL ce sl (pc + 3) lv st M) : X Γ G Qf nL ce sl pc lv (.int x :: st) M := fun H locs ls hP hS hl => lv_if_eq C.1 C.2.1 hd ht (fun h => kt h H locs ls hP hS hl) (fun h => kf h H locs ls hP hS hl)
theorem x_icmp_eq (C : Cx Γ G cc nL own ret rm) {x y : Int32} {off : Int} {tgt : Nat} (hd : decode cc pc = .ok (.if_icmp .eq off, 3)) (ht : (pc : Int) + off = (tgt : Int)) (kt : x = y → X Γ G Qf nL ce sl tgt lv st M) (kf : ¬ x = y → X Γ G Qf nL ce sl (pc + 3) lv st M) : X Γ G Qf nL ce sl pc lv (.int y :: .int x :: st) M := fun H locs ls hP hS hl => lv_icmp_eq C.1 C.2.1 hd ht (fun h => kt h H locs ls hP hS hl) (fun h => kf h H locs ls hP hS hl)
theorem x_if_ne (C : Cx Γ G cc nL own ret rm) {x : Int32} {off : Int} {tgt : Nat} (hd : decode cc pc = .ok (.ifCond .ne off, 3)) (ht : (pc : Int) + off = (tgt : Int)) (kt : ¬ x = 0 → X Γ G Qf nL ce sl tgt lv st M) (kf : x = 0 → X Γ G Qf nL ce sl (pc + 3) lv st M) : X Γ G Qf nL ce sl pc lv (.int x :: st) M := fun H locs ls hP hS hl => lv_if_ne C.1 C.2.1 hd ht (fun h => kt h H locs ls hP hS hl) (fun h => kf h H locs ls hP hS hl)
theorem x_icmp_ne (C : Cx Γ G cc nL own ret rm) {x y : Int32} {off : Int} {tgt : Nat} (hd : decode cc pc = .ok (.if_icmp .ne off, 3)) (ht : (pc : Int) + off = (tgt : Int)) (kt : ¬ x = y → X Γ G Qf nL ce sl tgt lv st M) (kf : x = y → X Γ G Qf nL ce sl (pc + 3) lv st M) : X Γ G Qf nL ce sl pc lv (.int y :: .int x :: st) M := fun H locs ls hP hS hl => lv_icmp_ne C.1 C.2.1 hd ht (fun h => kt h H locs ls hP hS hl) (fun h => kf h H locs ls hP hS hl)
theorem x_if_lt (C : Cx Γ G cc nL own ret rm) {x : Int32} {off : Int} {tgt : Nat} (hd : decode cc pc = .ok (.ifCond .lt off, 3)) (ht : (pc : Int) + off = (tgt : Int)) (kt : x < 0 → X Γ G Qf nL ce sl tgt lv st M) (kf : ¬ x < 0 → X Γ G Qf nL ce sl (pc + 3) lv st M) : X Γ G Qf nL ce sl pc lv (.int x :: st) M := fun H locs ls hP hS hl => lv_if_lt C.1 C.2.1 hd ht (fun h => kt h H locs ls hP hS hl) (fun h => kf h H locs ls hP hS hl)
theorem x_icmp_lt (C : Cx Γ G cc nL own ret rm) {x y : Int32} {off : Int} {tgt : Nat} (hd : decode cc pc = .ok (.if_icmp .lt off, 3)) (ht : (pc : Int) + off = (tgt : Int)) (kt : x < y → X Γ G Qf nL ce sl tgt lv st M) (kf : ¬ x < y → X Γ G Qf nL ce sl (pc + 3) lv st M) : X Γ G Qf nL ce sl pc lv (.int y :: .int x :: st) M := fun H locs ls hP hS hl => lv_icmp_lt C.1 C.2.1 hd ht (fun h => kt h H locs ls hP hS hl) (fun h => kf h H locs ls hP hS hl)
theorem x_if_ge (C : Cx Γ G cc nL own ret rm) {x : Int32} {off : Int} {tgt : Nat} (hd : decode cc pc = .ok (.ifCond .ge off, 3)) (ht : (pc : Int) + off = (tgt : Int)) (kt : 0 ≤ x → X Γ G Qf nL ce sl tgt lv st M) (kf : ¬ 0 ≤ x → X Γ G Qf nL ce sl (pc + 3) lv st M) : X Γ G Qf nL ce sl pc lv (.int x :: st) M := fun H locs ls hP hS hl => lv_if_ge C.1 C.2.1 hd ht (fun h => kt h H locs ls hP hS hl) (fun h => kf h H locs ls hP hS hl)
theorem x_icmp_ge (C : Cx Γ G cc nL own ret rm) {x y : Int32} {off : Int} {tgt : Nat} (hd : decode cc pc = .ok (.if_icmp .ge off, 3)) (ht : (pc : Int) + off = (tgt : Int)) (kt : y ≤ x → X Γ G Qf nL ce sl tgt lv st M) (kf : ¬ y ≤ x → X Γ G Qf nL ce sl (pc + 3) lv st M) : X Γ G Qf nL ce sl pc lv (.int y :: .int x :: st) M := fun H locs ls hP hS hl => lv_icmp_ge C.1 C.2.1 hd ht (fun h => kt h H locs ls hP hS hl) (fun h => kf h H locs ls hP hS hl)
theorem x_if_gt (C : Cx Γ G cc nL own ret rm) {x : Int32} {off : Int} {tgt : Nat} (hd : decode cc pc = .ok (.ifCond .gt off, 3)) (ht : (pc : Int) + off = (tgt : Int)) (kt : 0 < x → X Γ G Qf nL ce sl tgt lv st M) (kf : ¬ 0 < x → X Γ G Qf nL ce sl (pc + 3) lv st M) : X Γ G Qf nL ce sl pc lv (.int x :: st) M := fun H locs ls hP hS hl => lv_if_gt C.1 C.2.1 hd ht (fun h => kt h H locs ls hP hS hl) (fun h => kf h H locs ls hP hS hl)
theorem x_icmp_gt (C : Cx Γ G cc nL own ret rm) {x y : Int32} {off : Int} {tgt : Nat} (hd : decode cc pc = .ok (.if_icmp .gt off, 3)) (ht : (pc : Int) + off = (tgt : Int)) (kt : y < x → X Γ G Qf nL ce sl tgt lv st M) (kf : ¬ y < x → X Γ G Qf nL ce sl (pc + 3) lv st M) : X Γ G Qf nL ce sl pc lv (.int y :: .int x :: st) M := fun H locs ls hP hS hl => lv_icmp_gt C.1 C.2.1 hd ht (fun h => kt h H locs ls hP hS hl) (fun h => kf h H locs ls hP hS hl)
theorem x_if_le (C : Cx Γ G cc nL own ret rm) {x : Int32} {off : Int} {tgt : Nat} (hd : decode cc pc = .ok (.ifCond .le off, 3)) (ht : (pc : Int) + off = (tgt : Int)) (kt : x ≤ 0 → X Γ G Qf nL ce sl tgt lv st M) (kf : ¬ x ≤ 0 → X Γ G Qf nL ce sl (pc + 3) lv st M) : X Γ G Qf nL ce sl pc lv (.int x :: st) M := fun H locs ls hP hS hl => lv_if_le C.1 C.2.1 hd ht (fun h => kt h H locs ls hP hS hl) (fun h => kf h H locs ls hP hS hl)
theorem x_icmp_le (C : Cx Γ G cc nL own ret rm) {x y : Int32} {off : Int} {tgt : Nat} (hd : decode cc pc = .ok (.if_icmp .le off, 3)) (ht : (pc : Int) + off = (tgt : Int)) (kt : x ≤ y → X Γ G Qf nL ce sl tgt lv st M) (kf : ¬ x ≤ y → X Γ G Qf nL ce sl (pc + 3) lv st M) : X Γ G Qf nL ce sl pc lv (.int y :: .int x :: st) M := fun H locs ls hP hS hl => lv_icmp_le C.1 C.2.1 hd ht (fun h => kt h H locs ls hP hS hl) (fun h => kf h H locs ls hP hS hl)
theorem x_goto (C : Cx Γ G cc nL own ret rm) {off : Int} {tgt : Nat} (hd : decode cc pc = .ok (.goto off, 3)) (ht : (pc : Int) + off = (tgt : Int)) (k : X Γ G Qf nL ce sl tgt lv st M) : X Γ G Qf nL ce sl pc lv st M := fun H locs ls hP hS hl => lv_goto C.1 C.2.1 hd ht (k H locs ls hP hS hl)
theorem x_tabIn (C : Cx Γ G cc nL own ret rm) {dflt lo hi : Int} {offs : Array Int} {len : Nat} {x v : Int32} {off : Int} {tgt : Nat} (hd : decode cc pc = .ok (.tableswitch dflt lo hi offs, len)) (hx : x = v) (h1 : ¬ v.toInt < lo) (h2 : ¬ hi < v.toInt) (ho : offs[(v.toInt - lo).toNat]? = some off) (ht : (pc : Int) + off = (tgt : Int)) (k : X Γ G Qf nL ce sl tgt lv st M) : X Γ G Qf nL ce sl pc lv (.int x :: st) M := fun H locs ls hP hS hl => by subst hx; exact lv_tableIn C.1 C.2.1 hd h1 h2 ho ht (k H locs ls hP hS hl)
theorem x_tabOut (C : Cx Γ G cc nL own ret rm) {dflt lo hi : Int} {offs : Array Int} {len : Nat} {x : Int32} {tgt : Nat} (hd : decode cc pc = .ok (.tableswitch dflt lo hi offs, len)) (h : x.toInt < lo ∨ hi < x.toInt) (ht : (pc : Int) + dflt = (tgt : Int)) (k : X Γ G Qf nL ce sl tgt lv st M) : X Γ G Qf nL ce sl pc lv (.int x :: st) M := fun H locs ls hP hS hl => lv_tableOut C.1 C.2.1 hd h ht (k H locs ls hP hS hl)
theorem x_lookup (C : Cx Γ G cc nL own ret rm) {dflt : Int} {ps : Array (Int × Int)} {len : Nat} {x : Int32} {off : Int} {tgt : Nat} (hd : decode cc pc = .ok (.lookupswitch dflt ps, len)) (hp : (ps.toList.zip (ps.toList.drop 1)).all (fun (a, next) => a.1 < next.1) = true) (ho : Op.lookupswitch.offset ps.toList dflt x.toInt = off) (ht : (pc : Int) + off = (tgt : Int)) (k : X Γ G Qf nL ce sl tgt lv st M) : X Γ G Qf nL ce sl pc lv (.int x :: st) M := fun H locs ls hP hS hl => lv_lookup C.1 C.2.1 hd hp ho ht (k H locs ls hP hS hl)
theorem x_ldc (C : Cx Γ G cc nL own ret rm) {idx : Nat} {v : Int32} (hw : Cond.constant own idx v ∈ TG) (hd : decode cc pc = .ok (.ldc idx, 2)) (k : X Γ G Qf nL ce sl (pc + 2) lv (.int v :: st) M) : X Γ G Qf nL ce sl pc lv st M := fun H locs ls hP hS hl => lv_ldc C.1 C.2.1 C.2.2.2.1 (C.2.2.2.2.1 _ hw) hd (k H locs ls hP hS hl)
theorem x_ldc2 (C : Cx Γ G cc nL own ret rm) {idx : Nat} {v : Int64} (hw : Cond.constantLong own idx v ∈ TG) (hd : decode cc pc = .ok (.ldc2_w idx, 3)) (k : X Γ G Qf nL ce sl (pc + 3) lv (.long v :: st) M) : X Γ G Qf nL ce sl pc lv st M := fun H locs ls hP hS hl => lv_ldc2 C.1 C.2.1 C.2.2.2.1 (C.2.2.2.2.1 _ hw) hd (k H locs ls hP hS hl)
/-- a field is read -/
theorem x_get (C : Cx Γ G cc nL own ret rm) {idx c k i N : Nat} {R : String} {T : u_T} {q : Nat × Nat} {v : Value} (hw : Cond.fieldLink own idx R (T k).2.1 (T k).2.2.1 ∈ TG) (hin : ∀ w ∈ u_ws R T N, w ∈ TG) (hc : c ∈ compL) (ha : arrT c = none) (hcl : vwCl[c]? = some (R, T, N)) (hk : k < N) (hR : (T k).1 = R) (hq : (fldT c)[k]? = some q) (hv : fval G M c i k q = v) (hi : i < nin c) (hd : decode cc pc = .ok (.getfield idx, 3)) (kk : X Γ G Qf nL ce sl (pc + 3) lv (v :: st) M) : X Γ G Qf nL ce sl pc lv (.ref (ga G c i) :: st) M := by
  intro H locs ls hP hS hl
  obtain ⟨q0, -, h0⟩ := wsM_at G M hc hi
  have e0 : cellO G M c i = .inr (c, (fldT c).mapIdx (fun k q => fval G M c i k q)) := by unfold cellO; rw [ha]
  rw [e0] at h0
  refine va_get (v := v) (ref := R) C.1 C.2.1 C.2.2.2.2.1 hin C.2.2.2.1 C.2.2.2.2.2.1 hP q0 h0 hcl k hk (C.2.2.2.2.1 _ hw) (fun x h => by rw [← hR]; exact h) (by rw [List.getElem?_mapIdx, hq, ← hv]; rfl) hd (kk H locs ls hP hS hl)
theorem x_put1 (C : Cx Γ G cc nL own ret rm) {idx c k i N x : Nat} {R : String} {T : u_T} {ty0 : Nat → FieldType} {v : Int32} (hw : Cond.fieldLink own idx R (T k).2.1 (T k).2.2.1 ∈ TG) (hin : ∀ w ∈ u_ws R T N, w ∈ TG) (hty : ∀ k, k < N → parseFieldDescriptor (T k).2.2.1 = some (ty0 k)) (hnm : ∀ a, a < N → ∀ b, b < N → a ≠ b → (T a).2.1 ≠ (T b).2.1) (hc : c ∈ compL) (ha : arrT c = none) (hcl : vwCl[c]? = some (R, T, N)) (hk : k < N) (hR : (T k).1 = R) (hf : (T k).2.2.2 = false) (hq : (fldT c)[k]? = some (0, x)) (hn : narrow (ty0 k) (.int v) = .int v) (hfit : fits (ty0 k) (.int v) = true) (hi : i < nin c) (hd : decode cc pc = .ok (.putfield idx, 3)) (kk : X Γ G Qf nL ce sl (pc + 3) lv st (up1 M (fc c k) i 0 v)) : X Γ G Qf nL ce sl pc lv (.int v :: .ref (ga G c i) :: st) M := by
  intro H locs ls hP hS hl
  obtain ⟨q0, h1, h0⟩ := wsM_at G M hc hi
  have e0 : cellO G M c i = .inr (c, (fldT c).mapIdx (fun k q => fval G M c i k q)) := by unfold cellO; rw [ha]
  rw [e0] at h0
  have hG : Gd G := C.2.2.2.2.2.2.2.2.2.2.2.2
  refine va_put (v := .int v) (ref := R) C.1 C.2.1 C.2.2.2.2.1 hin ty0 hty hnm C.2.2.2.1 C.2.2.2.2.2.1 hP (hG M) hS q0 h0 hcl k hk (C.2.2.2.2.1 _ hw) (fun x h => by rw [← hR]; exact h) hf (hty k hk) hn hfit (by rw [List.length_mapIdx]; exact (List.getElem?_eq_some_iff.mp hq).1) hd (fun H1 locs1 hP1 _ hS1 => ?_)
  rw [ws_put1 hc ha hq h1] at hP1
  exact kk H1 locs1 ls hP1 hS1 hl
theorem x_put2 (C : Cx Γ G cc nL own ret rm) {idx c k i N x : Nat} {R : String} {T : u_T} {ty0 : Nat → FieldType} {v : Int64} (hw : Cond.fieldLink own idx R (T k).2.1 (T k).2.2.1 ∈ TG) (hin : ∀ w ∈ u_ws R T N, w ∈ TG) (hty : ∀ k, k < N → parseFieldDescriptor (T k).2.2.1 = some (ty0 k)) (hnm : ∀ a, a < N → ∀ b, b < N → a ≠ b → (T a).2.1 ≠ (T b).2.1) (hc : c ∈ compL) (ha : arrT c = none) (hcl : vwCl[c]? = some (R, T, N)) (hk : k < N) (hR : (T k).1 = R) (hf : (T k).2.2.2 = false) (hq : (fldT c)[k]? = some (1, x)) (hn : narrow (ty0 k) (.long v) = .long v) (hfit : fits (ty0 k) (.long v) = true) (hi : i < nin c) (hd : decode cc pc = .ok (.putfield idx, 3)) (kk : X Γ G Qf nL ce sl (pc + 3) lv st (up2 M (fc c k) i 0 v)) : X Γ G Qf nL ce sl pc lv (.long v :: .ref (ga G c i) :: st) M := by
  intro H locs ls hP hS hl
  obtain ⟨q0, h1, h0⟩ := wsM_at G M hc hi
  have e0 : cellO G M c i = .inr (c, (fldT c).mapIdx (fun k q => fval G M c i k q)) := by unfold cellO; rw [ha]
  rw [e0] at h0
  have hG : Gd G := C.2.2.2.2.2.2.2.2.2.2.2.2
  refine va_put (v := .long v) (ref := R) C.1 C.2.1 C.2.2.2.2.1 hin ty0 hty hnm C.2.2.2.1 C.2.2.2.2.2.1 hP (hG M) hS q0 h0 hcl k hk (C.2.2.2.2.1 _ hw) (fun x h => by rw [← hR]; exact h) hf (hty k hk) hn hfit (by rw [List.length_mapIdx]; exact (List.getElem?_eq_some_iff.mp hq).1) hd (fun H1 locs1 hP1 _ hS1 => ?_)
  rw [ws_put2 hc ha hq h1] at hP1
  exact kk H1 locs1 ls hP1 hS1 hl
/-- what an index within is as a number -/
theorem vp_lt {x : Int32} {n : Nat} (h : vp_in x n) : x.toNatClampNeg < n := Nat.not_le.mp fun q => h (Or.inr q)
theorem x_iald (C : Cx Γ G cc nL own ret rm) {c i n r : Nat} {x : Int32} (ha : arrT c = some (0, n, r)) (hc : c ∈ compL) (hi : i < nin c) (hx : vp_in x n) (hd : decode cc pc = .ok (.iaload, 1)) (kk : X Γ G Qf nL ce sl (pc + 1) lv (.int (M.1 c i x.toNatClampNeg) :: st) M) : X Γ G Qf nL ce sl pc lv (.int x :: .ref (ga G c i) :: st) M := by
  intro H locs ls hP hS hl
  obtain ⟨q0, -, h0⟩ := wsM_at G M hc hi
  have e0 : cellO G M c i = .inl (gC G 0, n, .inl (M.1 c i)) := by unfold cellO; rw [ha]; rfl
  rw [e0] at h0
  exact va_iald C.1 C.2.1 C.2.2.2.2.2.1 hP q0 0 h0 rfl hx hd (kk H locs ls hP hS hl)
theorem x_zald (C : Cx Γ G cc nL own ret rm) {c i n r : Nat} {x : Int32} (ha : arrT c = some (2, n, r)) (hc : c ∈ compL) (hi : i < nin c) (hx : vp_in x n) (hd : decode cc pc = .ok (.baload, 1)) (kk : X Γ G Qf nL ce sl (pc + 1) lv (.int (M.1 c i x.toNatClampNeg) :: st) M) : X Γ G Qf nL ce sl pc lv (.int x :: .ref (ga G c i) :: st) M := by
  intro H locs ls hP hS hl
  obtain ⟨q0, -, h0⟩ := wsM_at G M hc hi
  have e0 : cellO G M c i = .inl (gC G 2, n, .inl (M.1 c i)) := by unfold cellO; rw [ha]; rfl
  rw [e0] at h0
  exact va_zald C.1 C.2.1 C.2.2.2.2.2.1 hP q0 2 h0 rfl hx hd (kk H locs ls hP hS hl)
theorem x_lald (C : Cx Γ G cc nL own ret rm) {c i n r : Nat} {x : Int32} (ha : arrT c = some (1, n, r)) (hc : c ∈ compL) (hi : i < nin c) (hx : vp_in x n) (hd : decode cc pc = .ok (.laload, 1)) (kk : X Γ G Qf nL ce sl (pc + 1) lv (.long (M.2 c i x.toNatClampNeg) :: st) M) : X Γ G Qf nL ce sl pc lv (.int x :: .ref (ga G c i) :: st) M := by
  intro H locs ls hP hS hl
  obtain ⟨q0, -, h0⟩ := wsM_at G M hc hi
  have e0 : cellO G M c i = .inl (gC G 1, n, .inr (.inl (M.2 c i))) := by unfold cellO; rw [ha]; rfl
  rw [e0] at h0
  exact va_lald C.1 C.2.1 C.2.2.2.2.2.1 hP q0 1 h0 rfl hx hd (kk H locs ls hP hS hl)
theorem x_ald2 (C : Cx Γ G cc nL own ret rm) {c i n r : Nat} {x : Int32} (ha : arrT c = some (3, n, r)) (hc : c ∈ compL) (hi : i < nin c) (hx : vp_in x n) (hd : decode cc pc = .ok (.aaload, 1)) (kk : X Γ G Qf nL ce sl (pc + 1) lv (.ref (ga G (r + i) x.toNatClampNeg) :: st) M) : X Γ G Qf nL ce sl pc lv (.int x :: .ref (ga G c i) :: st) M := by
  intro H locs ls hP hS hl
  obtain ⟨q0, -, h0⟩ := wsM_at G M hc hi
  have e0 : cellO G M c i = .inl (gC G 3, n, .inr (.inr (.inr (.inr (fun j => if j < n then some (ga G (r + i) j) else none))))) := by unfold cellO; rw [ha]; rfl
  rw [e0] at h0
  have hlt := vp_lt hx
  refine W.aald (v := .ref (ga G (r + i) x.toNatClampNeg)) (ty := .array .int) C.1 C.2.1 (hP q0 _ h0) ((C.2.2.2.2.2.1.2 3 _ rfl).1 n (fun j => va_rf (if j < n then some (ga G (r + i) j) else none))) rfl (fun q => by cases q) (by show ¬ (x < 0 ∨ (arrV _ _ _).slots.size ≤ _); rw [arrV_size]; exact hx) (by show (arrV _ _ _).slots[_]? = _; rw [arrV_read _ _ hlt]; show some (va_rf (if x.toNatClampNeg < n then some (ga G (r + i) x.toNatClampNeg) else none)) = _; rw [if_pos hlt]; rfl) rfl rfl hd (kk H locs ls hP hS hl)
theorem x_ald4 (C : Cx Γ G cc nL own ret rm) {c i n r : Nat} {x : Int32} (ha : arrT c = some (4, n, r)) (hc : c ∈ compL) (hi : i < nin c) (hx : vp_in x n) (hd : decode cc pc = .ok (.aaload, 1)) (kk : X Γ G Qf nL ce sl (pc + 1) lv (.ref (ga G r x.toNatClampNeg) :: st) M) : X Γ G Qf nL ce sl pc lv (.int x :: .ref (ga G c i) :: st) M := by
  intro H locs ls hP hS hl
  obtain ⟨q0, -, h0⟩ := wsM_at G M hc hi
  have e0 : cellO G M c i = .inl (gC G 4, n, .inr (.inr (.inr (.inr (fun j => if j < n then some (ga G r j) else none))))) := by unfold cellO; rw [ha]; rfl
  rw [e0] at h0
  have hlt := vp_lt hx
  refine va_aldq C.1 C.2.1 C.2.2.2.2.2.1 hP q0 4 h0 rfl hx hd ?_
  rw [if_pos hlt]
  exact kk H locs ls hP hS hl
theorem x_iast (C : Cx Γ G cc nL own ret rm) {c i n r : Nat} {x v : Int32} (ha : arrT c = some (0, n, r)) (hc : c ∈ compL) (hi : i < nin c) (hx : vp_in x n) (hd : decode cc pc = .ok (.iastore, 1)) (kk : X Γ G Qf nL ce sl (pc + 1) lv st (up1 M c i x.toNatClampNeg v)) : X Γ G Qf nL ce sl pc lv (.int v :: .int x :: .ref (ga G c i) :: st) M := by
  intro H locs ls hP hS hl
  obtain ⟨q0, h1, h0⟩ := wsM_at G M hc hi
  have e0 : ∀ M, cellO G M c i = .inl (gC G 0, n, .inl (M.1 c i)) := fun M => by unfold cellO; rw [ha]; rfl
  rw [e0] at h0
  have hG : Gd G := C.2.2.2.2.2.2.2.2.2.2.2.2
  refine va_iast C.1 C.2.1 C.2.2.2.2.2.1 hP (hG M) hS q0 0 h0 rfl hx hd (fun H1 locs1 hP1 _ hS1 => ?_)
  rw [← up1_row, ← e0, ws_ast1 (by rw [ha]; exact fun q => by cases q) h1] at hP1
  exact kk H1 locs1 ls hP1 hS1 hl
theorem x_zast (C : Cx Γ G cc nL own ret rm) {c i n r : Nat} {x v : Int32} (ha : arrT c = some (2, n, r)) (hc : c ∈ compL) (hi : i < nin c) (hx : vp_in x n) (hv : vp_nar .boolean v = v) (hd : decode cc pc = .ok (.bastore, 1)) (kk : X Γ G Qf nL ce sl (pc + 1) lv st (up1 M c i x.toNatClampNeg v)) : X Γ G Qf nL ce sl pc lv (.int v :: .int x :: .ref (ga G c i) :: st) M := by
  intro H locs ls hP hS hl
  obtain ⟨q0, h1, h0⟩ := wsM_at G M hc hi
  have e0 : ∀ M, cellO G M c i = .inl (gC G 2, n, .inl (M.1 c i)) := fun M => by unfold cellO; rw [ha]; rfl
  rw [e0] at h0
  have hG : Gd G := C.2.2.2.2.2.2.2.2.2.2.2.2
  refine va_zast C.1 C.2.1 C.2.2.2.2.2.1 hP (hG M) hS q0 2 h0 rfl hx hd (fun H1 locs1 hP1 _ hS1 => ?_)
  rw [hv, ← up1_row, ← e0, ws_ast1 (by rw [ha]; exact fun q => by cases q) h1] at hP1
  exact kk H1 locs1 ls hP1 hS1 hl
theorem x_last (C : Cx Γ G cc nL own ret rm) {c i n r : Nat} {x : Int32} {v : Int64} (ha : arrT c = some (1, n, r)) (hc : c ∈ compL) (hi : i < nin c) (hx : vp_in x n) (hd : decode cc pc = .ok (.lastore, 1)) (kk : X Γ G Qf nL ce sl (pc + 1) lv st (up2 M c i x.toNatClampNeg v)) : X Γ G Qf nL ce sl pc lv (.long v :: .int x :: .ref (ga G c i) :: st) M := by
  intro H locs ls hP hS hl
  obtain ⟨q0, h1, h0⟩ := wsM_at G M hc hi
  have e0 : ∀ M, cellO G M c i = .inl (gC G 1, n, .inr (.inl (M.2 c i))) := fun M => by unfold cellO; rw [ha]; rfl
  rw [e0] at h0
  have hG : Gd G := C.2.2.2.2.2.2.2.2.2.2.2.2
  refine va_last C.1 C.2.1 C.2.2.2.2.2.1 hP (hG M) hS q0 1 h0 rfl hx hd (fun H1 locs1 hP1 _ hS1 => ?_)
  rw [← up2_row, ← e0, ws_ast2 (by rw [ha]; exact fun q => by cases q) h1] at hP1
  exact kk H1 locs1 ls hP1 hS1 hl
/-- the end -/
theorem x_iret (C : Cx Γ G cc nL own (some .int) rm) {Q : Int32 → Mem → Prop} (E : EndI Γ G Qf rm Q) {v : Int32} (hQ : Q v M) (h1 : ce ≤ rm.cells) (h2 : sl ≤ rm.slots) (hd : decode cc pc = .ok (.ireturn, 1)) : X Γ G Qf nL ce sl pc lv [.int v] M := by
  intro H locs ls hP hS hl
  refine E H locs ce sl _ (W.widen h1 h2 ?_)
  exact W.iret C.1 C.2.1 C.2.2.2.2.2.2.2.2.2.2.1 (fun t ht hW => ⟨⟨v, M, rfl, hQ, by unfold BM; rw [ht]; exact hP⟩, hS.F ht⟩) hS.2.2 hd C.2.2.2.2.2.2.2.2.2.1
theorem x_zret (C : Cx Γ G cc nL own (some .boolean) rm) {Q : Int32 → Mem → Prop} (E : EndI Γ G Qf rm Q) {v : Int32} (hQ : Q v M) (hn : narrow .boolean (.int v) = .int v) (h1 : ce ≤ rm.cells) (h2 : sl ≤ rm.slots) (hd : decode cc pc = .ok (.ireturn, 1)) : X Γ G Qf nL ce sl pc lv [.int v] M := by
  intro H locs ls hP hS hl
  refine E H locs ce sl _ (W.widen h1 h2 ?_)
  exact W.zret C.1 C.2.1 C.2.2.2.2.2.2.2.2.2.2.1 hn (fun t ht hW => ⟨⟨v, M, rfl, hQ, by unfold BM; rw [ht]; exact hP⟩, hS.F ht⟩) hS.2.2 hd C.2.2.2.2.2.2.2.2.2.1
theorem x_lret (C : Cx Γ G cc nL own (some .long) rm) {Q : Int64 → Mem → Prop} (E : EndL Γ G Qf rm Q) {v : Int64} (hQ : Q v M) (h1 : ce ≤ rm.cells) (h2 : sl ≤ rm.slots) (hd : decode cc pc = .ok (.lreturn, 1)) : X Γ G Qf nL ce sl pc lv [.long v] M := by
  intro H locs ls hP hS hl
  refine E H locs ce sl _ (W.widen h1 h2 ?_)
  exact W.lret C.1 C.2.1 C.2.2.2.2.2.2.2.2.2.2.1 (fun t ht hW => ⟨⟨v, M, rfl, hQ, by unfold BM; rw [ht]; exact hP⟩, hS.F ht⟩) hS.2.2 hd C.2.2.2.2.2.2.2.2.2.1
theorem x_vret (C : Cx Γ G cc nL own none rm) {Q : Mem → Prop} (E : EndV Γ G Qf rm Q) (hQ : Q M) (h1 : ce ≤ rm.cells) (h2 : sl ≤ rm.slots) (hd : decode cc pc = .ok (.return_, 1)) : X Γ G Qf nL ce sl pc lv [] M := by
  intro H locs ls hP hS hl
  refine E H locs ce sl _ (W.widen h1 h2 ?_)
  exact W.vret C.1 C.2.1 C.2.2.2.2.2.2.2.2.2.2.1 (fun t ht hW => ⟨⟨M, rfl, hQ, by unfold BM; rw [ht]; exact hP⟩, hS.F ht⟩) hS.2.2 hd C.2.2.2.2.2.2.2.2.2.1
/-- Math.max, min, abs -/
def SM (own : String) (idx : Nat) (y : MethodName) (cb : ByteArray) (n : Nat) : Prop := Cond.methodLink own idx y ∈ TG ∧ Cond.static y ∈ TG ∧ Cond.initialized "java/lang/Math" ∈ TG ∧ Cond.code y cb n (some .int) ∈ TG
theorem x_max (C : Cx Γ G cc nL own ret rm) {idx : Nat} (S : SM own idx Lib.Math.max.name Lib.Math.max.code 2) (h1 : 1 ≤ rm.frames) (h2 : (st.map fun v => v.category).sum + 13 ≤ rm.locals) (h3 : ce ≤ rm.cells) (h4 : sl ≤ rm.slots) {x y : Int32} (hd : decode cc pc = .ok (.invokestatic idx, 3)) (kk : X Γ G Qf nL ce sl (pc + 3) lv (.int (imax x y) :: st) M) : X Γ G Qf nL ce sl pc lv (.int y :: .int x :: st) M := fun H locs ls hP hS hl => va_mmax C.1 C.2.1 (C.2.2.1.trans hl.1.symm) C.2.2.2.1 (C.2.2.2.2.1 _ S.1) (C.2.2.2.2.1 _ S.2.1) (C.2.2.2.2.1 _ S.2.2.1) (C.2.2.2.2.1 _ S.2.2.2) (by rw [C.2.2.2.2.2.2.2.2.2.2.2.1]; exact h1) (by rw [C.2.2.2.2.2.2.2.2.2.2.2.1]; exact h2) (by rw [C.2.2.2.2.2.2.2.2.2.2.2.1]; exact h3) (by rw [C.2.2.2.2.2.2.2.2.2.2.2.1]; exact h4) hd (kk H locs ls hP hS hl)
theorem x_min (C : Cx Γ G cc nL own ret rm) {idx : Nat} (S : SM own idx Lib.Math.min.name Lib.Math.min.code 2) (h1 : 1 ≤ rm.frames) (h2 : (st.map fun v => v.category).sum + 13 ≤ rm.locals) (h3 : ce ≤ rm.cells) (h4 : sl ≤ rm.slots) {x y : Int32} (hd : decode cc pc = .ok (.invokestatic idx, 3)) (kk : X Γ G Qf nL ce sl (pc + 3) lv (.int (imin x y) :: st) M) : X Γ G Qf nL ce sl pc lv (.int y :: .int x :: st) M := fun H locs ls hP hS hl => va_mmin C.1 C.2.1 (C.2.2.1.trans hl.1.symm) C.2.2.2.1 (C.2.2.2.2.1 _ S.1) (C.2.2.2.2.1 _ S.2.1) (C.2.2.2.2.1 _ S.2.2.1) (C.2.2.2.2.1 _ S.2.2.2) (by rw [C.2.2.2.2.2.2.2.2.2.2.2.1]; exact h1) (by rw [C.2.2.2.2.2.2.2.2.2.2.2.1]; exact h2) (by rw [C.2.2.2.2.2.2.2.2.2.2.2.1]; exact h3) (by rw [C.2.2.2.2.2.2.2.2.2.2.2.1]; exact h4) hd (kk H locs ls hP hS hl)
theorem x_abs (C : Cx Γ G cc nL own ret rm) {idx : Nat} (S : SM own idx Lib.Math.abs.name Lib.Math.abs.code 1) (h1 : 1 ≤ rm.frames) (h2 : (st.map fun v => v.category).sum + 13 ≤ rm.locals) (h3 : ce ≤ rm.cells) (h4 : sl ≤ rm.slots) {x : Int32} (hd : decode cc pc = .ok (.invokestatic idx, 3)) (kk : X Γ G Qf nL ce sl (pc + 3) lv (.int (iabs x) :: st) M) : X Γ G Qf nL ce sl pc lv (.int x :: st) M := fun H locs ls hP hS hl => va_mabs C.1 C.2.1 (C.2.2.1.trans hl.1.symm) C.2.2.2.1 (C.2.2.2.2.1 _ S.1) (C.2.2.2.2.1 _ S.2.1) (C.2.2.2.2.1 _ S.2.2.1) (C.2.2.2.2.1 _ S.2.2.2) (by rw [C.2.2.2.2.2.2.2.2.2.2.2.1]; exact h1) (by rw [C.2.2.2.2.2.2.2.2.2.2.2.1]; exact h2) (by rw [C.2.2.2.2.2.2.2.2.2.2.2.1]; exact h3) (by rw [C.2.2.2.2.2.2.2.2.2.2.2.1]; exact h4) hd (kk H locs ls hP hS hl)
/-- calls -/
def SV (own : String) (idx : Nat) (C : String) (y : MethodName) (cb : ByteArray) (n : Nat) (rt : Option FieldType) (k : Nat) : Prop := Cond.methodLink own idx y ∈ TG ∧ Cond.instanceMethod y ∈ TG ∧ Cond.selects C y y ∈ TG ∧ Cond.initialized C ∈ TG ∧ Cond.code y cb n rt ∈ TG ∧ (y.cls = C ∧ y.cls ≠ "java/lang/invoke/MethodHandle" ∧ y.cls ≠ "java/lang/invoke/VarHandle" ∧ (parseMethodDescriptor y.desc).map (fun d => d.parameters.length) = some k)
theorem SV.good {own : String} {idx : Nat} {C : String} {y : MethodName} {cb : ByteArray} {n : Nat} {rt : Option FieldType} {k : Nat} (S : SV own idx C y cb n rt k) : GoodIn TG (wsV own idx C y (Cond.code y cb n rt :: TG)) := goodTG (fun w hw => by
  rcases List.mem_append.mp hw with h | h
  · simp only [List.mem_cons, List.not_mem_nil, or_false] at h
    rcases h with rfl | rfl | rfl | rfl
    · exact S.1
    · exact S.2.1
    · exact S.2.2.1
    · exact S.2.2.2.1
  · rcases List.mem_cons.mp h with rfl | h
    · exact S.2.2.2.2.1
    · exact h)
theorem Cx.recv (C : Cx Γ G cc nL own ret rm) {H : Heap} (hP : va_P (gD G) vwCl (wsM G M) H) {c i N : Nat} {cn : String} {T : u_T} (hc : c ∈ compL) (ha : arrT c = none) (hcl : vwCl[c]? = some (cn, T, N)) (hi : i < nin c) : ∃ cell : Cell, H[ga G c i]? = some cell ∧ cell.vm.isStatics = false ∧ (gs Γ).vm.findClass cn = some cell.cls := by
  obtain ⟨q0, -, h0⟩ := wsM_at G M hc hi
  have e0 : cellO G M c i = .inr (c, (fldT c).mapIdx (fun k q => fval G M c i k q)) := by unfold cellO; rw [ha]
  rw [e0] at h0
  exact va_recv (q := (cn, T, N)) C.2.2.2.2.2.1 hP hcl h0
/-- the class of a component of objects -/
def OB (c : Nat) (cn : String) (m : Nat) : Prop := c ∈ compL ∧ arrT c = none ∧ nin c = m ∧ ∃ (T : u_T) (N : Nat), vwCl[c]? = some (cn, T, N)
theorem x_calli (C : Cx Γ G cc nL own ret rm) {idx c i k n : Nat} {cn : String} {y : MethodName} {cb : ByteArray} {rt : FieldType} {rm1 : Room} {As rest : List Value} {Q : Int32 → Mem → Prop} (S : SV own idx cn y cb n (some rt) k) {m9 : Nat} (hO : OB c cn m9) (hi : i < m9) (hM : Cti (gl Γ) G y cb n rt rm1 (.ref (ga G c i) :: As) M Q) (hk : As.length = k) (hst : st = As.reverse ++ .ref (ga G c i) :: rest) (hcat : (rest.map fun v => v.category).sum ≤ 8) (hr : rm1.frames + 1 ≤ rm.frames ∧ 8 + (n + 11) + rm1.locals ≤ rm.locals) {ce1 sl1 : Nat} (hce : ce + rm1.cells = ce1) (hsl : sl + rm1.slots = sl1) (hf : ce1 ≤ rm.cells ∧ sl1 ≤ rm.slots) (hd : decode cc pc = .ok (.invokevirtual idx, 3)) (kk : ∀ (r : Int32) (M1 : Mem), Q r M1 → X Γ G Qf nL ce1 sl1 (pc + 3) lv (.int r :: rest) M1) : X Γ G Qf nL ce sl pc lv st M := by
  intro H locs ls hP hS hl
  obtain ⟨hc, ha, rfl, T, N, hcl⟩ := hO
  have hR : gR Γ = rm := C.2.2.2.2.2.2.2.2.2.2.2.1
  subst hce hsl
  exact va_calli (va_runV (As := As) (rest := rest) ⟨C.1, C.2.1, C.2.2.1, C.2.2.2.1, C.2.2.2.2.1⟩ hM (cwV k C.2.2.2.2.1 S.good rfl rfl rfl S.2.2.2.2.2 (by rw [hR]; exact hr)) ⟨PB_blind G M _, C.recv hP hc ha hcl hi, C.pre hP hS _⟩ rfl hk hl.1 hst (lv_room hcat) hd (by rw [hR]; exact hf)) hS (fun q _ h => h) (fun q h => h) (fun r u t H1 locs1 ht _ hq hb _ _ hS1 => kk r u hq H1 locs1 ls (by rw [← ht]; exact hb) hS1 hl)
theorem x_calll (C : Cx Γ G cc nL own ret rm) {idx c i k n : Nat} {cn : String} {y : MethodName} {cb : ByteArray} {rt : FieldType} {rm1 : Room} {As rest : List Value} {Q : Int64 → Mem → Prop} (S : SV own idx cn y cb n (some rt) k) {m9 : Nat} (hO : OB c cn m9) (hi : i < m9) (hM : Ctl (gl Γ) G y cb n rt rm1 (.ref (ga G c i) :: As) M Q) (hk : As.length = k) (hst : st = As.reverse ++ .ref (ga G c i) :: rest) (hcat : (rest.map fun v => v.category).sum ≤ 8) (hr : rm1.frames + 1 ≤ rm.frames ∧ 8 + (n + 11) + rm1.locals ≤ rm.locals) {ce1 sl1 : Nat} (hce : ce + rm1.cells = ce1) (hsl : sl + rm1.slots = sl1) (hf : ce1 ≤ rm.cells ∧ sl1 ≤ rm.slots) (hd : decode cc pc = .ok (.invokevirtual idx, 3)) (kk : ∀ (r : Int64) (M1 : Mem), Q r M1 → X Γ G Qf nL ce1 sl1 (pc + 3) lv (.long r :: rest) M1) : X Γ G Qf nL ce sl pc lv st M := by
  intro H locs ls hP hS hl
  obtain ⟨hc, ha, rfl, T, N, hcl⟩ := hO
  have hR : gR Γ = rm := C.2.2.2.2.2.2.2.2.2.2.2.1
  subst hce hsl
  exact va_calll (va_runV (As := As) (rest := rest) ⟨C.1, C.2.1, C.2.2.1, C.2.2.2.1, C.2.2.2.2.1⟩ hM (cwV k C.2.2.2.2.1 S.good rfl rfl rfl S.2.2.2.2.2 (by rw [hR]; exact hr)) ⟨PB_blind G M _, C.recv hP hc ha hcl hi, C.pre hP hS _⟩ rfl hk hl.1 hst (lv_room hcat) hd (by rw [hR]; exact hf)) hS (fun q _ h => h) (fun q h => h) (fun r u t H1 locs1 ht _ hq hb _ _ hS1 => kk r u hq H1 locs1 ls (by rw [← ht]; exact hb) hS1 hl)
theorem x_callv (C : Cx Γ G cc nL own ret rm) {idx c i k n : Nat} {cn : String} {y : MethodName} {cb : ByteArray} {rm1 : Room} {As rest : List Value} {Q : Mem → Prop} (S : SV own idx cn y cb n none k) {m9 : Nat} (hO : OB c cn m9) (hi : i < m9) (hM : Ctv (gl Γ) G y cb n rm1 (.ref (ga G c i) :: As) M Q) (hk : As.length = k) (hst : st = As.reverse ++ .ref (ga G c i) :: rest) (hcat : (rest.map fun v => v.category).sum ≤ 8) (hr : rm1.frames + 1 ≤ rm.frames ∧ 8 + (n + 11) + rm1.locals ≤ rm.locals) {ce1 sl1 : Nat} (hce : ce + rm1.cells = ce1) (hsl : sl + rm1.slots = sl1) (hf : ce1 ≤ rm.cells ∧ sl1 ≤ rm.slots) (hd : decode cc pc = .ok (.invokevirtual idx, 3)) (kk : ∀ (M1 : Mem), Q M1 → X Γ G Qf nL ce1 sl1 (pc + 3) lv rest M1) : X Γ G Qf nL ce sl pc lv st M := by
  intro H locs ls hP hS hl
  obtain ⟨hc, ha, rfl, T, N, hcl⟩ := hO
  have hR : gR Γ = rm := C.2.2.2.2.2.2.2.2.2.2.2.1
  subst hce hsl
  exact va_callv (va_runV (As := As) (rest := rest) ⟨C.1, C.2.1, C.2.2.1, C.2.2.2.1, C.2.2.2.2.1⟩ hM (cwV k C.2.2.2.2.1 S.good rfl rfl rfl S.2.2.2.2.2 (by rw [hR]; exact hr)) ⟨PB_blind G M _, C.recv hP hc ha hcl hi, C.pre hP hS _⟩ rfl hk hl.1 hst (lv_room hcat) hd (by rw [hR]; exact hf)) hS (fun q _ h => h) (fun q h => h) (fun u t H1 locs1 ht _ hq hb _ _ hS1 => kk u hq H1 locs1 ls (by rw [← ht]; exact hb) hS1 hl)
/-- static calls: of the own class, or of a nest mate -/
def SS (own : String) (idx : Nat) (y : MethodName) (cb : ByteArray) (n : Nat) (rt : Option FieldType) (k : Nat) : Prop := Cond.methodLink own idx y ∈ TG ∧ Cond.static y ∈ TG ∧ Cond.initialized own ∈ TG ∧ Cond.code y cb n rt ∈ TG ∧ (y.cls = own ∧ y.cls ≠ "java/lang/invoke/MethodHandle" ∧ y.cls ≠ "java/lang/invoke/VarHandle" ∧ (parseMethodDescriptor y.desc).map (fun d => d.parameters.length) = some k)
theorem SS.good {own : String} {idx : Nat} {y : MethodName} {cb : ByteArray} {n : Nat} {rt : Option FieldType} {k : Nat} (S : SS own idx y cb n rt k) : GoodIn TG (wsS own idx y (Cond.code y cb n rt :: TG)) := goodTG (fun w hw => by
  rcases List.mem_append.mp hw with h | h
  · simp only [List.mem_cons, List.not_mem_nil, or_false] at h
    rcases h with rfl | rfl | rfl
    · exact S.1
    · exact S.2.1
    · exact S.2.2.1
  · rcases List.mem_cons.mp h with rfl | h
    · exact S.2.2.2.1
    · exact h)
theorem x_scalli (C : Cx Γ G cc nL own ret rm) {idx k n : Nat} {y : MethodName} {cb : ByteArray} {rt : FieldType} {rm1 : Room} {As rest : List Value} {Q : Int32 → Mem → Prop} (S : SS own idx y cb n (some rt) k) (hM : Cti (gl Γ) G y cb n rt rm1 As M Q) (hk : As.length = k) (hst : st = As.reverse ++ rest) (hcat : (rest.map fun v => v.category).sum ≤ 8) (hr : rm1.frames + 1 ≤ rm.frames ∧ 8 + (n + 11) + rm1.locals ≤ rm.locals) {ce1 sl1 : Nat} (hce : ce + rm1.cells = ce1) (hsl : sl + rm1.slots = sl1) (hf : ce1 ≤ rm.cells ∧ sl1 ≤ rm.slots) (hd : decode cc pc = .ok (.invokestatic idx, 3)) (kk : ∀ (r : Int32) (M1 : Mem), Q r M1 → X Γ G Qf nL ce1 sl1 (pc + 3) lv (.int r :: rest) M1) : X Γ G Qf nL ce sl pc lv st M := by
  intro H locs ls hP hS hl
  have hR : gR Γ = rm := C.2.2.2.2.2.2.2.2.2.2.2.1
  subst hce hsl
  exact va_calli (va_runS (As := As) (rest := rest) ⟨C.1, C.2.1, C.2.2.1, C.2.2.2.1, C.2.2.2.2.1⟩ hM (cwS k C.2.2.2.2.1 S.good rfl rfl rfl S.2.2.2.2 (by rw [hR]; exact hr)) ⟨PB_blind G M _, C.pre hP hS _⟩ rfl hk hl.1 hst (lv_room hcat) hd (by rw [hR]; exact hf)) hS (fun q _ h => h) (fun q h => h) (fun r u t H1 locs1 ht _ hq hb _ _ hS1 => kk r u hq H1 locs1 ls (by rw [← ht]; exact hb) hS1 hl)
theorem x_scalll (C : Cx Γ G cc nL own ret rm) {idx k n : Nat} {y : MethodName} {cb : ByteArray} {rt : FieldType} {rm1 : Room} {As rest : List Value} {Q : Int64 → Mem → Prop} (S : SS own idx y cb n (some rt) k) (hM : Ctl (gl Γ) G y cb n rt rm1 As M Q) (hk : As.length = k) (hst : st = As.reverse ++ rest) (hcat : (rest.map fun v => v.category).sum ≤ 8) (hr : rm1.frames + 1 ≤ rm.frames ∧ 8 + (n + 11) + rm1.locals ≤ rm.locals) {ce1 sl1 : Nat} (hce : ce + rm1.cells = ce1) (hsl : sl + rm1.slots = sl1) (hf : ce1 ≤ rm.cells ∧ sl1 ≤ rm.slots) (hd : decode cc pc = .ok (.invokestatic idx, 3)) (kk : ∀ (r : Int64) (M1 : Mem), Q r M1 → X Γ G Qf nL ce1 sl1 (pc + 3) lv (.long r :: rest) M1) : X Γ G Qf nL ce sl pc lv st M := by
  intro H locs ls hP hS hl
  have hR : gR Γ = rm := C.2.2.2.2.2.2.2.2.2.2.2.1
  subst hce hsl
  exact va_calll (va_runS (As := As) (rest := rest) ⟨C.1, C.2.1, C.2.2.1, C.2.2.2.1, C.2.2.2.2.1⟩ hM (cwS k C.2.2.2.2.1 S.good rfl rfl rfl S.2.2.2.2 (by rw [hR]; exact hr)) ⟨PB_blind G M _, C.pre hP hS _⟩ rfl hk hl.1 hst (lv_room hcat) hd (by rw [hR]; exact hf)) hS (fun q _ h => h) (fun q h => h) (fun r u t H1 locs1 ht _ hq hb _ _ hS1 => kk r u hq H1 locs1 ls (by rw [← ht]; exact hb) hS1 hl)
def SN (own : String) (idx : Nat) (y : MethodName) (cb : ByteArray) (n : Nat) (rt : Option FieldType) (k : Nat) : Prop := (∀ U, NWs U → va_Nw (.methodLinkNest own idx y RX10) U) ∧ Cond.static y ∈ TG ∧ Cond.initialized y.cls ∈ TG ∧ Cond.code y cb n rt ∈ TG ∧ (y.cls ≠ "java/lang/invoke/MethodHandle" ∧ y.cls ≠ "java/lang/invoke/VarHandle" ∧ (parseMethodDescriptor y.desc).map (fun d => d.parameters.length) = some k)
theorem good_c {w : Cond} (h : w ∈ TG) : GoodIn TG (w :: TG) := goodTG (fun v hv => by
  rcases List.mem_cons.mp hv with rfl | h2
  · exact h
  · exact h2)
theorem x_ncalli (C : Cx Γ G cc nL own ret rm) {idx k n : Nat} {y : MethodName} {cb : ByteArray} {rt : FieldType} {rm1 : Room} {As rest : List Value} {Q : Int32 → Mem → Prop} (S : SN own idx y cb n (some rt) k) (hM : Cti (gl Γ) G y cb n rt rm1 As M Q) (hk : As.length = k) (hst : st = As.reverse ++ rest) (hcat : (rest.map fun v => v.category).sum ≤ 8) (hr : rm1.frames + 1 ≤ rm.frames ∧ 8 + (n + 11) + rm1.locals ≤ rm.locals) {ce1 sl1 : Nat} (hce : ce + rm1.cells = ce1) (hsl : sl + rm1.slots = sl1) (hf : ce1 ≤ rm.cells ∧ sl1 ≤ rm.slots) (hd : decode cc pc = .ok (.invokestatic idx, 3)) (kk : ∀ (r : Int32) (M1 : Mem), Q r M1 → X Γ G Qf nL ce1 sl1 (pc + 3) lv (.int r :: rest) M1) : X Γ G Qf nL ce sl pc lv st M := by
  intro H locs ls hP hS hl
  have hR : gR Γ = rm := C.2.2.2.2.2.2.2.2.2.2.2.1
  subst hce hsl
  exact va_calli (va_runSN (As := As) (rest := rest) ⟨C.1, C.2.1, C.2.2.1, C.2.2.2.1, C.2.2.2.2.1⟩ hM ⟨va_cnB k C.2.2.2.2.1 (good_c S.2.2.2.1) rfl rfl rfl (S.1 _ C.2.2.2.2.2.2.1) (C.2.2.2.2.1 _ S.2.2.1) S.2.2.2.2 (by rw [hR]; exact hr), C.2.2.2.2.1 _ S.2.1, trivial⟩ ⟨PB_blind G M _, C.pre hP hS _⟩ rfl hk hl.1 hst (lv_room hcat) hd (by rw [hR]; exact hf)) hS (fun q _ h => h) (fun q h => h) (fun r u t H1 locs1 ht _ hq hb _ _ hS1 => kk r u hq H1 locs1 ls (by rw [← ht]; exact hb) hS1 hl)
theorem x_ncalll (C : Cx Γ G cc nL own ret rm) {idx k n : Nat} {y : MethodName} {cb : ByteArray} {rt : FieldType} {rm1 : Room} {As rest : List Value} {Q : Int64 → Mem → Prop} (S : SN own idx y cb n (some rt) k) (hM : Ctl (gl Γ) G y cb n rt rm1 As M Q) (hk : As.length = k) (hst : st = As.reverse ++ rest) (hcat : (rest.map fun v => v.category).sum ≤ 8) (hr : rm1.frames + 1 ≤ rm.frames ∧ 8 + (n + 11) + rm1.locals ≤ rm.locals) {ce1 sl1 : Nat} (hce : ce + rm1.cells = ce1) (hsl : sl + rm1.slots = sl1) (hf : ce1 ≤ rm.cells ∧ sl1 ≤ rm.slots) (hd : decode cc pc = .ok (.invokestatic idx, 3)) (kk : ∀ (r : Int64) (M1 : Mem), Q r M1 → X Γ G Qf nL ce1 sl1 (pc + 3) lv (.long r :: rest) M1) : X Γ G Qf nL ce sl pc lv st M := by
  intro H locs ls hP hS hl
  have hR : gR Γ = rm := C.2.2.2.2.2.2.2.2.2.2.2.1
  subst hce hsl
  exact va_calll (va_runSN (As := As) (rest := rest) ⟨C.1, C.2.1, C.2.2.1, C.2.2.2.1, C.2.2.2.2.1⟩ hM ⟨va_cnB k C.2.2.2.2.1 (good_c S.2.2.2.1) rfl rfl rfl (S.1 _ C.2.2.2.2.2.2.1) (C.2.2.2.2.1 _ S.2.2.1) S.2.2.2.2 (by rw [hR]; exact hr), C.2.2.2.2.1 _ S.2.1, trivial⟩ ⟨PB_blind G M _, C.pre hP hS _⟩ rfl hk hl.1 hst (lv_room hcat) hd (by rw [hR]; exact hf)) hS (fun q _ h => h) (fun q h => h) (fun r u t H1 locs1 ht _ hq hb _ _ hS1 => kk r u hq H1 locs1 ls (by rw [← ht]; exact hb) hS1 hl)
end XR
/-- a loop: its body, so many times -/
def lp {σ : Type} (body : (σ → Prop) → σ → Prop) : Nat → σ → Prop
  | 0, _ => False
  | n + 1, s => body (lp body n) s
theorem lp_walk {σ : Type} {body : (σ → Prop) → σ → Prop} {P : σ → Prop} {n : Nat} {s : σ} (h : lp body n s) (hb : ∀ (L : σ → Prop) (s : σ), (∀ s', L s' → P s') → body L s → P s) : P s := by
  induction n generalizing s with
  | zero => exact h.elim
  | succ n ih => exact hb (lp body n) s (fun s' h' => ih h') h
/-- an invariant and a measure -/
theorem lp_rule {σ : Type} {body : (σ → Prop) → σ → Prop} (I : σ → Prop) (μ : σ → Nat) (hs : ∀ s, I s → ∀ L : σ → Prop, (∀ s', I s' → μ s' < μ s → L s') → body L s) {s : σ} (h : I s) : ∃ n, lp body n s := by
  have key : ∀ (m : Nat) (s : σ), I s → μ s < m → lp body m s := by
    intro m
    induction m with
    | zero => intro s _ h2; exact absurd h2 (Nat.not_lt_zero _)
    | succ m ih => intro s h1 h2; exact hs s h1 (lp body m) (fun s' h3 h4 => ih s' h3 (by omega))
  exact ⟨μ s + 1, key _ s h (Nat.lt_succ_self _)⟩
section XC
variable {l : Launch} {G : Gm} {y : MethodName} {cb : ByteArray} {n : Nat} {rm : Room} {as : List Value} {M : Mem} {own : String}
/-- the contract out of the walk of its body -/
theorem ctv_of {Q : Mem → Prop} (hy : plainName y.cls = true) (ho : y.cls = own) (hn : (lg_sl as).length ≤ n) (hG : Gd G) (body : ∀ (Γ : Gam) (Qf : State → Prop), gl Γ = l → Cx Γ G cb n own none rm → EndV Γ G Qf rm Q → X Γ G Qf n 0 0 0 (lv_args 0 as) [] M) : Ctv l G y cb n rm as M Q := by
  refine Met.ofW (cc := cb) (maxL := n) (ret := none) hy rfl ?_
  intro p e s m args below meth c s₁ B hml hv
  obtain ⟨rfl, hP, hK, hN, hT, hA⟩ := hv
  have hts := atoms_spec (ws := Cond.code y cb n none :: TG) B.pre
  have hl := lv_entry as (n := n) hn
  rw [lg_entry_eq]
  exact body (p, l, e, (headSpec (Cond.code y cb n none :: TG) rm).room, s, m, as.toArray, below, meth, c) _ rfl ⟨B.exec, B.bytes, hml, by rw [← ho]; exact findClass_of_methodNamed B.named, fun w hw => hts w (List.mem_cons_of_mem _ hw), hK, hN, hT, hA, B.notSynchronized, B.returns, rfl, hG⟩ (fun _ _ _ _ _ h => h) s.heap [] _ hP va_S.rf hl
theorem cti_of {rt : FieldType} {Q : Int32 → Mem → Prop} (hy : plainName y.cls = true) (ho : y.cls = own) (hn : (lg_sl as).length ≤ n) (hG : Gd G) (body : ∀ (Γ : Gam) (Qf : State → Prop), gl Γ = l → Cx Γ G cb n own (some rt) rm → EndI Γ G Qf rm Q → X Γ G Qf n 0 0 0 (lv_args 0 as) [] M) : Cti l G y cb n rt rm as M Q := by
  refine Met.ofW (cc := cb) (maxL := n) (ret := some rt) hy rfl ?_
  intro p e s m args below meth c s₁ B hml hv
  obtain ⟨rfl, hP, hK, hN, hT, hA⟩ := hv
  have hts := atoms_spec (ws := Cond.code y cb n (some rt) :: TG) B.pre
  have hl := lv_entry as (n := n) hn
  rw [lg_entry_eq]
  exact body (p, l, e, (headSpec (Cond.code y cb n (some rt) :: TG) rm).room, s, m, as.toArray, below, meth, c) _ rfl ⟨B.exec, B.bytes, hml, by rw [← ho]; exact findClass_of_methodNamed B.named, fun w hw => hts w (List.mem_cons_of_mem _ hw), hK, hN, hT, hA, B.notSynchronized, B.returns, rfl, hG⟩ (fun _ _ _ _ _ h => h) s.heap [] _ hP va_S.rf hl
theorem ctl_of {rt : FieldType} {Q : Int64 → Mem → Prop} (hy : plainName y.cls = true) (ho : y.cls = own) (hn : (lg_sl as).length ≤ n) (hG : Gd G) (body : ∀ (Γ : Gam) (Qf : State → Prop), gl Γ = l → Cx Γ G cb n own (some rt) rm → EndL Γ G Qf rm Q → X Γ G Qf n 0 0 0 (lv_args 0 as) [] M) : Ctl l G y cb n rt rm as M Q := by
  refine Met.ofW (cc := cb) (maxL := n) (ret := some rt) hy rfl ?_
  intro p e s m args below meth c s₁ B hml hv
  obtain ⟨rfl, hP, hK, hN, hT, hA⟩ := hv
  have hts := atoms_spec (ws := Cond.code y cb n (some rt) :: TG) B.pre
  have hl := lv_entry as (n := n) hn
  rw [lg_entry_eq]
  exact body (p, l, e, (headSpec (Cond.code y cb n (some rt) :: TG) rm).room, s, m, as.toArray, below, meth, c) _ rfl ⟨B.exec, B.bytes, hml, by rw [← ho]; exact findClass_of_methodNamed B.named, fun w hw => hts w (List.mem_cons_of_mem _ hw), hK, hN, hT, hA, B.notSynchronized, B.returns, rfl, hG⟩ (fun _ _ _ _ _ h => h) s.heap [] _ hP va_S.rf hl
end XC
