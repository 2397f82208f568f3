def rmX11_stands : Room := { frames := 1, cells := 0, slots := 0, locals := 23 }
def bX11_stands_238 (Q : Mem → Prop) (L45 : Mem × Int32 × Int32 → Prop) (M : Mem) (y1 : Int32) (y2 : Int32) : Prop :=
  ∀ v38 : Int32, v38 = y2 + 1 → L45 (M, y1, v38)
def bX11_stands_203 (Q : Mem → Prop) (L45 : Mem × Int32 × Int32 → Prop) (M : Mem) (y2 : Int32) (j3 : Nat) : Prop :=
  j3 < 24 ∧ ∀ v33 : Int32, v33 = (M.1 6236 j3 (tn 3)) → vp_in ((M.1 1221 0 0) - 1) 6 ∧ ∀ M35 : Mem, M35 = up1 M 1229 0 (tn ((M.1 1221 0 0) - 1)) ((M.1 1229 0 (tn ((M.1 1221 0 0) - 1))) + 1) → vp_in (M.1 1229 0 (tn ((M.1 1221 0 0) - 1))) 4 ∧ ∀ M37 : Mem, M37 = up1 M35 6230 (tn ((M.1 1221 0 0) - 1)) (tn (M.1 1229 0 (tn ((M.1 1221 0 0) - 1)))) (M35.1 6236 j3 (tn 0)) → bX11_stands_238 Q L45 M37 v33 y2
def bX11_stands_169 (Q : Mem → Prop) (L45 : Mem × Int32 × Int32 → Prop) (M : Mem) (y1 : Int32) (y2 : Int32) (j3 : Nat) : Prop :=
  j3 < 24 ∧ (((M.1 6236 j3 (tn 2)) = 3 → (((M.1 6236 j3 (tn 3)) = y1 → bX11_stands_203 Q L45 M y2 j3) ∧ (¬ (M.1 6236 j3 (tn 3)) = y1 → ∀ M30 : Mem, M30 = up1 M 1221 0 0 ((M.1 1221 0 0) + 1) → vp_in (M.1 1221 0 0) 6 ∧ ∀ M32 : Mem, M32 = up1 M30 1229 0 (tn (M.1 1221 0 0)) 0 → bX11_stands_203 Q L45 M32 y2 j3))) ∧ (¬ (M.1 6236 j3 (tn 2)) = 3 → bX11_stands_238 Q L45 M y1 y2))
def bX11_stands_143 (Q : Mem → Prop) (L45 : Mem × Int32 × Int32 → Prop) (M : Mem) (y1 : Int32) (y2 : Int32) (j3 : Nat) : Prop :=
  j3 < 24 ∧ (((M.1 6236 j3 (tn 0)) = (-1) → bX11_stands_169 Q L45 M y1 y2 j3) ∧ (¬ (M.1 6236 j3 (tn 0)) = (-1) → ∀ M25 : Mem, M25 = up1 M 1219 0 0 ((M.1 1219 0 0) + 1) → vp_in (M.1 1219 0 0) 24 ∧ ∀ M27 : Mem, M27 = up1 M25 1227 0 (tn (M.1 1219 0 0)) (M25.1 6236 j3 (tn 0)) → bX11_stands_169 Q L45 M27 y1 y2 j3))
def bX11_stands_113 (Q : Mem → Prop) (L45 : Mem × Int32 × Int32 → Prop) (M : Mem) (y1 : Int32) (y2 : Int32) (j3 : Nat) : Prop :=
  j3 < 24 ∧ ((¬ (M.1 6236 j3 (tn 2)) = 0 → ((¬ (M.1 6236 j3 (tn 0)) = (-1) → bz ((M.1 1224 0 0) ||| 0) ∧ ∀ M21 : Mem, M21 = up1 M 1224 0 0 ((M.1 1224 0 0) ||| 0) → bX11_stands_143 Q L45 M21 y1 y2 j3) ∧ ((M.1 6236 j3 (tn 0)) = (-1) → bz ((M.1 1224 0 0) ||| 1) ∧ ∀ M23 : Mem, M23 = up1 M 1224 0 0 ((M.1 1224 0 0) ||| 1) → bX11_stands_143 Q L45 M23 y1 y2 j3))) ∧ ((M.1 6236 j3 (tn 2)) = 0 → bX11_stands_238 Q L45 M y1 y2))
def bX11_stands_45 (Q : Mem → Prop) (L45 : Mem × Int32 × Int32 → Prop) (M : Mem) (y1 : Int32) (y2 : Int32) : Prop :=
  (((M.1 1233 0 0) ≤ y2 → Q M) ∧ (¬ (M.1 1233 0 0) ≤ y2 → vp_in y2 24 ∧ ((¬ (M.1 6236 (tn y2) (tn 2)) = 2 → (((M.1 6236 (tn y2) (tn 0)) = (-1) → bX11_stands_113 Q L45 M y1 y2 (tn y2)) ∧ (¬ (M.1 6236 (tn y2) (tn 0)) = (-1) → pX11_scores M (M.1 6236 (tn y2) (tn 0)) (M.1 6236 (tn y2) (tn 1)) (fun M13 => bX11_stands_113 Q L45 M13 y1 y2 (tn y2))))) ∧ ((M.1 6236 (tn y2) (tn 2)) = 2 → (((M.1 6236 (tn y2) (tn 0)) = (-1) → bX11_stands_238 Q L45 M y1 y2) ∧ (¬ (M.1 6236 (tn y2) (tn 0)) = (-1) → ∀ M15 : Mem, M15 = up1 M 1220 0 0 ((M.1 1220 0 0) + 1) → vp_in (M.1 1220 0 0) 6 ∧ ∀ M17 : Mem, M17 = up1 M15 1228 0 (tn (M.1 1220 0 0)) (M15.1 6236 (tn y2) (tn 0)) → bX11_stands_238 Q L45 M17 y1 y2))))))
def pX11_stands (M : Mem) (Q : Mem → Prop) : Prop :=
  ∀ M1 : Mem, M1 = up1 M 1218 0 0 0 → ∀ M2 : Mem, M2 = up1 M1 1219 0 0 0 → ∀ M3 : Mem, M3 = up1 M2 1220 0 0 0 → ∀ M4 : Mem, M4 = up1 M3 1221 0 0 0 → ∀ M5 : Mem, M5 = up1 M4 1222 0 0 (M4.1 1234 0 0) → ∀ M6 : Mem, M6 = up1 M5 1223 0 0 (M5.1 1235 0 0) → ∀ M7 : Mem, M7 = up1 M6 1224 0 0 0 → ∃ n : Nat, lp (fun L s => bX11_stands_45 Q L s.1 s.2.1 s.2.2) n (M7, (-1), 0)
set_option maxRecDepth 100000 in
set_option maxHeartbeats 400000 in
theorem wX11_stands_238 {Γ : Gam} {G : Gm} {Qf : State → Prop} (hG : Gd G) (C : Cx Γ G cX11_stands 4 RX11 none rmX11_stands)  {Q : Mem → Prop} (E : EndV Γ G Qf rmX11_stands Q) {L45 : Mem × Int32 × Int32 → Prop} (hL45 : ∀ s, L45 s → X Γ G Qf 4 0 0 45 [(0, .ref (ga G 11 0)), (1, .int s.2.1), (2, .int s.2.2)] [] s.1) (M : Mem) (y1 : Int32) (y2 : Int32) (h : bX11_stands_238 Q L45 M y1 y2) : X Γ G Qf 4 0 0 238 [(0, .ref (ga G 11 0)), (1, .int y1), (2, .int y2)] [] M := by
  unfold bX11_stands_238 at h
  obtain ⟨v38, ev38⟩ : ∃ z : Int32, z = y2 + 1 := ⟨_, rfl⟩
  replace h := h v38 ev38
  refine x_iinc (v := v38) (lv' := [(2, .int v38), (0, .ref (ga G 11 0)), (1, .int y1)]) (j := 2) C dX11_stands_238 rfl (by rw [ev38]; rfl) (Nat.le_of_ble_eq_true rfl) rfl ?_
  refine x_goto (tgt := 45) C dX11_stands_241 (by decide) ?_
  refine X_sub (lv' := [(0, .ref (ga G 11 0)), (1, .int y1), (2, .int v38)]) [1, 2, 0] rfl ?_
  have w9 := hL45 (M, y1, v38) h
  dsimp only at w9
  exact w9
set_option maxRecDepth 100000 in
set_option maxHeartbeats 400000 in
theorem wX11_stands_203 {Γ : Gam} {G : Gm} {Qf : State → Prop} (hG : Gd G) (C : Cx Γ G cX11_stands 4 RX11 none rmX11_stands)  {Q : Mem → Prop} (E : EndV Γ G Qf rmX11_stands Q) {L45 : Mem × Int32 × Int32 → Prop} (hL45 : ∀ s, L45 s → X Γ G Qf 4 0 0 45 [(0, .ref (ga G 11 0)), (1, .int s.2.1), (2, .int s.2.2)] [] s.1) (M : Mem) (y2 : Int32) (j3 : Nat) (h : bX11_stands_203 Q L45 M y2 j3) : X Γ G Qf 4 0 0 203 [(0, .ref (ga G 11 0)), (2, .int y2), (3, .ref (ga G 6236 j3))] [] M := by
  unfold bX11_stands_203 at h
  obtain ⟨gj3, h⟩ := h
  refine x_aload_n C dX11_stands_203 2 rfl ?_
  refine x_iconst (v := 3) C dX11_stands_204 rfl ?_
  refine al_6236 C gj3 (vp_l (by decide)) dX11_stands_205 ?_
  refine X_name (fun v33 ev33 => ?_)
  replace h := h v33 ev33
  refine x_istore_n (lv' := [(1, .int v33), (0, .ref (ga G 11 0)), (2, .int y2), (3, .ref (ga G 6236 j3))]) C dX11_stands_206 rfl (Nat.le_of_ble_eq_true rfl) rfl ?_
  refine x_aload_n C dX11_stands_207 1 rfl ?_
  refine gf_11_30 C q180 z11 dX11_stands_208 ?_
  refine x_aload_n C dX11_stands_211 1 rfl ?_
  refine gf_11_21 C q173 z11 dX11_stands_212 ?_
  refine x_iconst (v := 1) C dX11_stands_215 rfl ?_
  refine x_isub C dX11_stands_216 ?_
  obtain ⟨f34, h⟩ := h
  refine al_1230 C z1230 f34 dX11_stands_217 ?_
  refine x_aload_n C dX11_stands_218 1 rfl ?_
  refine gf_11_29 C q179 z11 dX11_stands_219 ?_
  refine x_aload_n C dX11_stands_222 1 rfl ?_
  refine gf_11_21 C q173 z11 dX11_stands_223 ?_
  refine x_iconst (v := 1) C dX11_stands_226 rfl ?_
  refine x_isub C dX11_stands_227 ?_
  refine x_dup2 C dX11_stands_228 rfl rfl ?_
  refine al_1229 C z1229 f34 dX11_stands_229 ?_
  refine x_dup_x2 C dX11_stands_230 rfl rfl rfl ?_
  refine x_iconst (v := 1) C dX11_stands_231 rfl ?_
  refine x_iadd C dX11_stands_232 ?_
  refine as_1229 C z1229 f34 dX11_stands_233 ?_
  refine X_nameM (fun M35 eM35 => ?_)
  replace h := h M35 eM35
  refine x_aload_n C dX11_stands_234 3 rfl ?_
  refine x_iconst (v := 0) C dX11_stands_235 rfl ?_
  refine al_6236 C gj3 (vp_l (by decide)) dX11_stands_236 ?_
  obtain ⟨f36, h⟩ := h
  refine as_6230 C (vp_lt f34) f36 dX11_stands_237 ?_
  refine X_nameM (fun M37 eM37 => ?_)
  replace h := h M37 eM37
  refine X_sub (lv' := [(0, .ref (ga G 11 0)), (1, .int v33), (2, .int y2)]) [1, 0, 2] rfl ?_
  exact wX11_stands_238 hG C E hL45 M37 v33 y2 h
set_option maxRecDepth 100000 in
set_option maxHeartbeats 400000 in
theorem wX11_stands_169 {Γ : Gam} {G : Gm} {Qf : State → Prop} (hG : Gd G) (C : Cx Γ G cX11_stands 4 RX11 none rmX11_stands)  {Q : Mem → Prop} (E : EndV Γ G Qf rmX11_stands Q) {L45 : Mem × Int32 × Int32 → Prop} (hL45 : ∀ s, L45 s → X Γ G Qf 4 0 0 45 [(0, .ref (ga G 11 0)), (1, .int s.2.1), (2, .int s.2.2)] [] s.1) (M : Mem) (y1 : Int32) (y2 : Int32) (j3 : Nat) (h : bX11_stands_169 Q L45 M y1 y2 j3) : X Γ G Qf 4 0 0 169 [(0, .ref (ga G 11 0)), (1, .int y1), (2, .int y2), (3, .ref (ga G 6236 j3))] [] M := by
  unfold bX11_stands_169 at h
  obtain ⟨gj3, h⟩ := h
  refine x_aload_n C dX11_stands_169 3 rfl ?_
  refine x_iconst (v := 2) C dX11_stands_170 rfl ?_
  refine al_6236 C gj3 (vp_l (by decide)) dX11_stands_171 ?_
  refine x_iconst (v := 3) C dX11_stands_172 rfl ?_
  refine x_icmp_eq (tgt := 179) C dX11_stands_173 (by decide) (fun c28 => ?_) (fun c28 => ?_)
  · replace h := h.1 c28
    refine x_aload_n C dX11_stands_179 3 rfl ?_
    refine x_iconst (v := 3) C dX11_stands_180 rfl ?_
    refine al_6236 C gj3 (vp_l (by decide)) dX11_stands_181 ?_
    refine x_iload_n C dX11_stands_182 1 rfl ?_
    refine x_icmp_eq (tgt := 203) C dX11_stands_183 (by decide) (fun c29 => ?_) (fun c29 => ?_)
    · replace h := h.1 c29
      refine X_sub (lv' := [(0, .ref (ga G 11 0)), (2, .int y2), (3, .ref (ga G 6236 j3))]) [0, 2, 3] rfl ?_
      exact wX11_stands_203 hG C E hL45 M y2 j3 h
    · replace h := h.2 c29
      refine x_aload_n C dX11_stands_186 0 rfl ?_
      refine gf_11_29 C q179 z11 dX11_stands_187 ?_
      refine x_aload_n C dX11_stands_190 0 rfl ?_
      refine x_dup C dX11_stands_191 rfl ?_
      refine gf_11_21 C q173 z11 dX11_stands_192 ?_
      refine x_dup_x1 C dX11_stands_195 rfl rfl ?_
      refine x_iconst (v := 1) C dX11_stands_196 rfl ?_
      refine x_iadd C dX11_stands_197 ?_
      refine pf_11_21 C q173 z11 dX11_stands_198 ?_
      refine X_nameM (fun M30 eM30 => ?_)
      replace h := h M30 eM30
      refine x_iconst (v := 0) C dX11_stands_201 rfl ?_
      obtain ⟨f31, h⟩ := h
      refine as_1229 C z1229 f31 dX11_stands_202 ?_
      refine X_nameM (fun M32 eM32 => ?_)
      replace h := h M32 eM32
      refine X_sub (lv' := [(0, .ref (ga G 11 0)), (2, .int y2), (3, .ref (ga G 6236 j3))]) [0, 2, 3] rfl ?_
      exact wX11_stands_203 hG C E hL45 M32 y2 j3 h
  · replace h := h.2 c28
    refine x_goto (tgt := 238) C dX11_stands_176 (by decide) ?_
    refine X_sub (lv' := [(0, .ref (ga G 11 0)), (1, .int y1), (2, .int y2)]) [0, 1, 2] rfl ?_
    exact wX11_stands_238 hG C E hL45 M y1 y2 h
set_option maxRecDepth 100000 in
set_option maxHeartbeats 400000 in
theorem wX11_stands_143 {Γ : Gam} {G : Gm} {Qf : State → Prop} (hG : Gd G) (C : Cx Γ G cX11_stands 4 RX11 none rmX11_stands)  {Q : Mem → Prop} (E : EndV Γ G Qf rmX11_stands Q) {L45 : Mem × Int32 × Int32 → Prop} (hL45 : ∀ s, L45 s → X Γ G Qf 4 0 0 45 [(0, .ref (ga G 11 0)), (1, .int s.2.1), (2, .int s.2.2)] [] s.1) (M : Mem) (y1 : Int32) (y2 : Int32) (j3 : Nat) (h : bX11_stands_143 Q L45 M y1 y2 j3) : X Γ G Qf 4 0 0 143 [(0, .ref (ga G 11 0)), (1, .int y1), (2, .int y2), (3, .ref (ga G 6236 j3))] [] M := by
  unfold bX11_stands_143 at h
  obtain ⟨gj3, h⟩ := h
  refine x_aload_n C dX11_stands_143 3 rfl ?_
  refine x_iconst (v := 0) C dX11_stands_144 rfl ?_
  refine al_6236 C gj3 (vp_l (by decide)) dX11_stands_145 ?_
  refine x_iconst (v := (-1)) C dX11_stands_146 rfl ?_
  refine x_icmp_eq (tgt := 169) C dX11_stands_147 (by decide) (fun c24 => ?_) (fun c24 => ?_)
  · replace h := h.1 c24
    refine X_sub (lv' := [(0, .ref (ga G 11 0)), (1, .int y1), (2, .int y2), (3, .ref (ga G 6236 j3))]) [0, 1, 2, 3] rfl ?_
    exact wX11_stands_169 hG C E hL45 M y1 y2 j3 h
  · replace h := h.2 c24
    refine x_aload_n C dX11_stands_150 0 rfl ?_
    refine gf_11_27 C q178 z11 dX11_stands_151 ?_
    refine x_aload_n C dX11_stands_154 0 rfl ?_
    refine x_dup C dX11_stands_155 rfl ?_
    refine gf_11_19 C q171 z11 dX11_stands_156 ?_
    refine x_dup_x1 C dX11_stands_159 rfl rfl ?_
    refine x_iconst (v := 1) C dX11_stands_160 rfl ?_
    refine x_iadd C dX11_stands_161 ?_
    refine pf_11_19 C q171 z11 dX11_stands_162 ?_
    refine X_nameM (fun M25 eM25 => ?_)
    replace h := h M25 eM25
    refine x_aload_n C dX11_stands_165 3 rfl ?_
    refine x_iconst (v := 0) C dX11_stands_166 rfl ?_
    refine al_6236 C gj3 (vp_l (by decide)) dX11_stands_167 ?_
    obtain ⟨f26, h⟩ := h
    refine as_1227 C z1227 f26 dX11_stands_168 ?_
    refine X_nameM (fun M27 eM27 => ?_)
    replace h := h M27 eM27
    refine X_sub (lv' := [(0, .ref (ga G 11 0)), (1, .int y1), (2, .int y2), (3, .ref (ga G 6236 j3))]) [0, 1, 2, 3] rfl ?_
    exact wX11_stands_169 hG C E hL45 M27 y1 y2 j3 h
set_option maxRecDepth 100000 in
set_option maxHeartbeats 400000 in
theorem wX11_stands_113 {Γ : Gam} {G : Gm} {Qf : State → Prop} (hG : Gd G) (C : Cx Γ G cX11_stands 4 RX11 none rmX11_stands)  {Q : Mem → Prop} (E : EndV Γ G Qf rmX11_stands Q) {L45 : Mem × Int32 × Int32 → Prop} (hL45 : ∀ s, L45 s → X Γ G Qf 4 0 0 45 [(0, .ref (ga G 11 0)), (1, .int s.2.1), (2, .int s.2.2)] [] s.1) (M : Mem) (y1 : Int32) (y2 : Int32) (j3 : Nat) (h : bX11_stands_113 Q L45 M y1 y2 j3) : X Γ G Qf 4 0 0 113 [(0, .ref (ga G 11 0)), (1, .int y1), (2, .int y2), (3, .ref (ga G 6236 j3))] [] M := by
  unfold bX11_stands_113 at h
  obtain ⟨gj3, h⟩ := h
  refine x_aload_n C dX11_stands_113 3 rfl ?_
  refine x_iconst (v := 2) C dX11_stands_114 rfl ?_
  refine al_6236 C gj3 (vp_l (by decide)) dX11_stands_115 ?_
  refine x_if_ne (tgt := 122) C dX11_stands_116 (by decide) (fun c18 => ?_) (fun c18 => ?_)
  · replace h := h.1 c18
    refine x_aload_n C dX11_stands_122 0 rfl ?_
    refine x_dup C dX11_stands_123 rfl ?_
    refine gf_11_24 C q176 z11 dX11_stands_124 ?_
    refine x_aload_n C dX11_stands_127 3 rfl ?_
    refine x_iconst (v := 0) C dX11_stands_128 rfl ?_
    refine al_6236 C gj3 (vp_l (by decide)) dX11_stands_129 ?_
    refine x_iconst (v := (-1)) C dX11_stands_130 rfl ?_
    refine x_icmp_ne (tgt := 138) C dX11_stands_131 (by decide) (fun c19 => ?_) (fun c19 => ?_)
    · replace h := h.1 c19
      refine x_iconst (v := 0) C dX11_stands_138 rfl ?_
      refine x_ior C dX11_stands_139 ?_
      obtain ⟨f20, h⟩ := h
      refine pf_11_24 C q176 z11 f20 dX11_stands_140 ?_
      refine X_nameM (fun M21 eM21 => ?_)
      replace h := h M21 eM21
      refine X_sub (lv' := [(0, .ref (ga G 11 0)), (1, .int y1), (2, .int y2), (3, .ref (ga G 6236 j3))]) [0, 1, 2, 3] rfl ?_
      exact wX11_stands_143 hG C E hL45 M21 y1 y2 j3 h
    · replace h := h.2 c19
      refine x_iconst (v := 1) C dX11_stands_134 rfl ?_
      refine x_goto (tgt := 139) C dX11_stands_135 (by decide) ?_
      refine x_ior C dX11_stands_139 ?_
      obtain ⟨f22, h⟩ := h
      refine pf_11_24 C q176 z11 f22 dX11_stands_140 ?_
      refine X_nameM (fun M23 eM23 => ?_)
      replace h := h M23 eM23
      refine X_sub (lv' := [(0, .ref (ga G 11 0)), (1, .int y1), (2, .int y2), (3, .ref (ga G 6236 j3))]) [0, 1, 2, 3] rfl ?_
      exact wX11_stands_143 hG C E hL45 M23 y1 y2 j3 h
  · replace h := h.2 c18
    refine x_goto (tgt := 238) C dX11_stands_119 (by decide) ?_
    refine X_sub (lv' := [(0, .ref (ga G 11 0)), (1, .int y1), (2, .int y2)]) [0, 1, 2] rfl ?_
    exact wX11_stands_238 hG C E hL45 M y1 y2 h
set_option maxRecDepth 100000 in
set_option maxHeartbeats 400000 in
theorem wX11_stands_45 {Γ : Gam} {G : Gm} {Qf : State → Prop} (hG : Gd G) (C : Cx Γ G cX11_stands 4 RX11 none rmX11_stands)  {Q : Mem → Prop} (E : EndV Γ G Qf rmX11_stands Q) {L45 : Mem × Int32 × Int32 → Prop} (hL45 : ∀ s, L45 s → X Γ G Qf 4 0 0 45 [(0, .ref (ga G 11 0)), (1, .int s.2.1), (2, .int s.2.2)] [] s.1) (M : Mem) (y1 : Int32) (y2 : Int32) (h : bX11_stands_45 Q L45 M y1 y2) : X Γ G Qf 4 0 0 45 [(0, .ref (ga G 11 0)), (1, .int y1), (2, .int y2)] [] M := by
  unfold bX11_stands_45 at h
  refine x_iload_n C dX11_stands_45 2 rfl ?_
  refine x_aload_n C dX11_stands_46 0 rfl ?_
  refine gf_11_33 C q165 z11 dX11_stands_47 ?_
  refine x_icmp_ge (tgt := 244) C dX11_stands_50 (by decide) (fun c8 => ?_) (fun c8 => ?_)
  · replace h := h.1 c8
    exact x_vret C E h (Nat.le_of_ble_eq_true rfl) (Nat.le_of_ble_eq_true rfl) dX11_stands_244
  · replace h := h.2 c8
    refine x_aload_n C dX11_stands_53 0 rfl ?_
    refine gf_11_36 C q164 z11 dX11_stands_54 ?_
    refine x_iload_n C dX11_stands_57 2 rfl ?_
    obtain ⟨f9, h⟩ := h
    refine al_1236 C z1236 f9 dX11_stands_58 ?_
    refine x_astore_n (lv' := [(3, .ref (ga G 6236 (tn y2))), (0, .ref (ga G 11 0)), (1, .int y1), (2, .int y2)]) C dX11_stands_59 rfl (Nat.le_of_ble_eq_true rfl) rfl ?_
    refine x_aload_n C dX11_stands_60 0 rfl ?_
    refine x_iconst (v := 2) C dX11_stands_61 rfl ?_
    refine al_6236 C (vp_lt f9) (vp_l (by decide)) dX11_stands_62 ?_
    refine x_iconst (v := 2) C dX11_stands_63 rfl ?_
    refine x_icmp_ne (tgt := 96) C dX11_stands_64 (by decide) (fun c10 => ?_) (fun c10 => ?_)
    · replace h := h.1 c10
      refine x_aload_n C dX11_stands_96 0 rfl ?_
      refine x_iconst (v := 0) C dX11_stands_97 rfl ?_
      refine al_6236 C (vp_lt f9) (vp_l (by decide)) dX11_stands_98 ?_
      refine x_iconst (v := (-1)) C dX11_stands_99 rfl ?_
      refine x_icmp_eq (tgt := 113) C dX11_stands_100 (by decide) (fun c11 => ?_) (fun c11 => ?_)
      · replace h := h.1 c11
        refine X_sub (lv' := [(0, .ref (ga G 11 0)), (1, .int y1), (2, .int y2), (3, .ref (ga G 6236 (tn y2)))]) [1, 2, 3, 0] rfl ?_
        exact wX11_stands_113 hG C E hL45 M y1 y2 (tn y2) h
      · replace h := h.2 c11
        refine x_aload_n C dX11_stands_103 1 rfl ?_
        refine x_aload_n C dX11_stands_104 0 rfl ?_
        refine x_iconst (v := 0) C dX11_stands_105 rfl ?_
        refine al_6236 C (vp_lt f9) (vp_l (by decide)) dX11_stands_106 ?_
        refine x_aload_n C dX11_stands_107 0 rfl ?_
        refine x_iconst (v := 1) C dX11_stands_108 rfl ?_
        refine al_6236 C (vp_lt f9) (vp_l (by decide)) dX11_stands_109 ?_
        refine x_callv (rest := []) C sv_X11_233 ob11 z11 (kX11_scores hG _ _ _ h) rfl rfl (Nat.le_of_ble_eq_true rfl) ⟨Nat.le_of_ble_eq_true rfl, Nat.le_of_ble_eq_true rfl⟩ rfl rfl ⟨Nat.le_of_ble_eq_true rfl, Nat.le_of_ble_eq_true rfl⟩ dX11_stands_110 (fun M13 h => ?_)
        refine X_sub (lv' := [(0, .ref (ga G 11 0)), (1, .int y1), (2, .int y2), (3, .ref (ga G 6236 (tn y2)))]) [1, 2, 3, 0] rfl ?_
        exact wX11_stands_113 hG C E hL45 M13 y1 y2 (tn y2) h
    · replace h := h.2 c10
      refine x_aload_n C dX11_stands_67 0 rfl ?_
      refine x_iconst (v := 0) C dX11_stands_68 rfl ?_
      refine al_6236 C (vp_lt f9) (vp_l (by decide)) dX11_stands_69 ?_
      refine x_iconst (v := (-1)) C dX11_stands_70 rfl ?_
      refine x_icmp_eq (tgt := 238) C dX11_stands_71 (by decide) (fun c14 => ?_) (fun c14 => ?_)
      · replace h := h.1 c14
        refine X_sub (lv' := [(0, .ref (ga G 11 0)), (1, .int y1), (2, .int y2)]) [1, 2, 3] rfl ?_
        exact wX11_stands_238 hG C E hL45 M y1 y2 h
      · replace h := h.2 c14
        refine x_aload_n C dX11_stands_74 1 rfl ?_
        refine gf_11_28 C q177 z11 dX11_stands_75 ?_
        refine x_aload_n C dX11_stands_78 1 rfl ?_
        refine x_dup C dX11_stands_79 rfl ?_
        refine gf_11_20 C q172 z11 dX11_stands_80 ?_
        refine x_dup_x1 C dX11_stands_83 rfl rfl ?_
        refine x_iconst (v := 1) C dX11_stands_84 rfl ?_
        refine x_iadd C dX11_stands_85 ?_
        refine pf_11_20 C q172 z11 dX11_stands_86 ?_
        refine X_nameM (fun M15 eM15 => ?_)
        replace h := h M15 eM15
        refine x_aload_n C dX11_stands_89 0 rfl ?_
        refine x_iconst (v := 0) C dX11_stands_90 rfl ?_
        refine al_6236 C (vp_lt f9) (vp_l (by decide)) dX11_stands_91 ?_
        obtain ⟨f16, h⟩ := h
        refine as_1228 C z1228 f16 dX11_stands_92 ?_
        refine X_nameM (fun M17 eM17 => ?_)
        replace h := h M17 eM17
        refine x_goto (tgt := 238) C dX11_stands_93 (by decide) ?_
        refine X_sub (lv' := [(0, .ref (ga G 11 0)), (1, .int y1), (2, .int y2)]) [1, 2, 3] rfl ?_
        exact wX11_stands_238 hG C E hL45 M17 y1 y2 h
set_option maxRecDepth 100000 in
set_option maxHeartbeats 400000 in
theorem kX11_stands {l : Launch} {G : Gm} (hG : Gd G) (M : Mem)  {Q : Mem → Prop} (h : pX11_stands M Q) : Ctv l G yX11_stands cX11_stands 4 rmX11_stands [.ref (ga G 11 0)] M Q := by
  refine ctv_of (own := RX11) (by decide +kernel) rfl (Nat.le_of_ble_eq_true rfl) hG (fun Γ Qf hl C E => ?_)
  subst hl
  show X Γ G Qf 4 0 0 0 [(0, .ref (ga G 11 0))] [] M
  unfold pX11_stands at h
  refine x_aload_n C dX11_stands_0 0 rfl ?_
  refine x_iconst (v := 0) C dX11_stands_1 rfl ?_
  refine pf_11_18 C q168 z11 dX11_stands_2 ?_
  refine X_nameM (fun M1 eM1 => ?_)
  replace h := h M1 eM1
  refine x_aload_n C dX11_stands_5 0 rfl ?_
  refine x_iconst (v := 0) C dX11_stands_6 rfl ?_
  refine pf_11_19 C q171 z11 dX11_stands_7 ?_
  refine X_nameM (fun M2 eM2 => ?_)
  replace h := h M2 eM2
  refine x_aload_n C dX11_stands_10 0 rfl ?_
  refine x_iconst (v := 0) C dX11_stands_11 rfl ?_
  refine pf_11_20 C q172 z11 dX11_stands_12 ?_
  refine X_nameM (fun M3 eM3 => ?_)
  replace h := h M3 eM3
  refine x_aload_n C dX11_stands_15 0 rfl ?_
  refine x_iconst (v := 0) C dX11_stands_16 rfl ?_
  refine pf_11_21 C q173 z11 dX11_stands_17 ?_
  refine X_nameM (fun M4 eM4 => ?_)
  replace h := h M4 eM4
  refine x_aload_n C dX11_stands_20 0 rfl ?_
  refine x_aload_n C dX11_stands_21 0 rfl ?_
  refine gf_11_34 C q166 z11 dX11_stands_22 ?_
  refine pf_11_22 C q174 z11 dX11_stands_25 ?_
  refine X_nameM (fun M5 eM5 => ?_)
  replace h := h M5 eM5
  refine x_aload_n C dX11_stands_28 0 rfl ?_
  refine x_aload_n C dX11_stands_29 0 rfl ?_
  refine gf_11_35 C q167 z11 dX11_stands_30 ?_
  refine pf_11_23 C q175 z11 dX11_stands_33 ?_
  refine X_nameM (fun M6 eM6 => ?_)
  replace h := h M6 eM6
  refine x_aload_n C dX11_stands_36 0 rfl ?_
  refine x_iconst (v := 0) C dX11_stands_37 rfl ?_
  refine pf_11_24 C q176 z11 (Or.inl rfl) dX11_stands_38 ?_
  refine X_nameM (fun M7 eM7 => ?_)
  replace h := h M7 eM7
  refine x_iconst (v := (-1)) C dX11_stands_41 rfl ?_
  refine x_istore_n (lv' := [(1, .int (-1)), (0, .ref (ga G 11 0))]) C dX11_stands_42 rfl (Nat.le_of_ble_eq_true rfl) rfl ?_
  refine x_iconst (v := 0) C dX11_stands_43 rfl ?_
  refine x_istore_n (lv' := [(2, .int 0), (1, .int (-1)), (0, .ref (ga G 11 0))]) C dX11_stands_44 rfl (Nat.le_of_ble_eq_true rfl) rfl ?_
  obtain ⟨n9, h⟩ := h
  refine X_sub (lv' := [(0, .ref (ga G 11 0)), (1, .int (-1)), (2, .int 0)]) [2, 1, 0] rfl ?_
  have hb : ∀ (L : Mem × Int32 × Int32 → Prop) (s : Mem × Int32 × Int32), (∀ t, L t → X Γ G Qf 4 0 0 45 [(0, .ref (ga G 11 0)), (1, .int t.2.1), (2, .int t.2.2)] [] t.1) → bX11_stands_45 Q L s.1 s.2.1 s.2.2 → X Γ G Qf 4 0 0 45 [(0, .ref (ga G 11 0)), (1, .int s.2.1), (2, .int s.2.2)] [] s.1 := fun L s hL h => wX11_stands_45 hG C E hL s.1 s.2.1 s.2.2 h
  have w9 := lp_walk (P := fun s : Mem × Int32 × Int32 => X Γ G Qf 4 0 0 45 [(0, .ref (ga G 11 0)), (1, .int s.2.1), (2, .int s.2.2)] [] s.1) h hb
  dsimp only at w9
  exact w9
def rmX11_ask : Room := { frames := 5, cells := 0, slots := 0, locals := 109 }
def bX11_ask_96 (x1 : Int32) (Q : Int32 → Mem → Prop) (M : Mem) : Prop :=
  ∀ M34 : Mem, M34 = up1 M 1205 0 0 (M.1 1207 0 0) → pX11_fine M34 (fun r35 M36 => ((¬ r35 = 0 → pX11_stands M36 (fun M39 => Q (M39.1 1218 0 0) M39)) ∧ (r35 = 0 → Q ((M36.1 1206 0 0) - 10) M36)))
def bX11_ask_80 (x1 : Int32) (Q : Int32 → Mem → Prop) (M : Mem) : Prop :=
  ((¬ (M.1 1234 0 0) = 0 → bX11_ask_96 x1 Q M) ∧ ((M.1 1234 0 0) = 0 → pX11_wrong M 1 (M.1 1204 0 0) (fun M33 => bX11_ask_96 x1 Q M33)))
def bX11_ask_58 (x1 : Int32) (Q : Int32 → Mem → Prop) (L58 : Mem → Prop) (M : Mem) : Prop :=
  pX11_fine M (fun r23 M24 => ((r23 = 0 → bX11_ask_80 x1 Q M24) ∧ (¬ r23 = 0 → pX11_blanks M24 (fun r26 M27 => ((r26 = (-1) → bX11_ask_80 x1 Q M27) ∧ (¬ r26 = (-1) → pX11_readsPart M27 (fun M30 => L58 M30)))))))
def pX11_ask (M : Mem) (x1 : Int32) (Q : Int32 → Mem → Prop) : Prop :=
  ∀ M1 : Mem, M1 = up1 M 1200 0 0 0 → pX11_less M1 120 (M1.1 1202 0 0) (fun r2 M3 => pX11_in M3 x1 0 r2 (fun r4 M5 => ((¬ r4 = 0 → pX11_bad M5 0 1 1 (fun r7 M8 => ((r7 = 0 → pX11_starts M8 x1 (fun M11 => ∀ M12 : Mem, M12 = up1 M11 1233 0 0 0 → ∀ M13 : Mem, M13 = up1 M12 1234 0 0 0 → ∀ M14 : Mem, M14 = up1 M13 1235 0 0 0 → ∃ n : Nat, lp (fun L s => bX11_ask_58 x1 Q L s) n M14)) ∧ (¬ r7 = 0 → Q 0 M8)))) ∧ (r4 = 0 → pX11_bad M5 1 1 1 (fun r15 M16 => ((r15 = 0 → pX11_starts M16 x1 (fun M19 => ∀ M20 : Mem, M20 = up1 M19 1233 0 0 0 → ∀ M21 : Mem, M21 = up1 M20 1234 0 0 0 → ∀ M22 : Mem, M22 = up1 M21 1235 0 0 0 → ∃ n : Nat, lp (fun L s => bX11_ask_58 x1 Q L s) n M22)) ∧ (¬ r15 = 0 → Q 0 M16)))))))
set_option maxRecDepth 100000 in
set_option maxHeartbeats 400000 in
theorem wX11_ask_96 {Γ : Gam} {G : Gm} {Qf : State → Prop} (hG : Gd G) (C : Cx Γ G cX11_ask 2 RX11 (some .int) rmX11_ask) {x1 : Int32} {Q : Int32 → Mem → Prop} (E : EndI Γ G Qf rmX11_ask Q) (M : Mem) (h : bX11_ask_96 x1 Q M) : X Γ G Qf 2 0 0 96 [(0, .ref (ga G 11 0))] [] M := by
  unfold bX11_ask_96 at h
  refine x_aload_n C dX11_ask_96 0 rfl ?_
  refine x_aload_n C dX11_ask_97 0 rfl ?_
  refine gf_11_7 C q149 z11 dX11_ask_98 ?_
  refine pf_11_5 C q160 z11 dX11_ask_101 ?_
  refine X_nameM (fun M34 eM34 => ?_)
  replace h := h M34 eM34
  refine x_aload_n C dX11_ask_104 0 rfl ?_
  refine x_calli (rest := []) C sv_X11_154 ob11 z11 (kX11_fine hG _ h) rfl rfl (Nat.le_of_ble_eq_true rfl) ⟨Nat.le_of_ble_eq_true rfl, Nat.le_of_ble_eq_true rfl⟩ rfl rfl ⟨Nat.le_of_ble_eq_true rfl, Nat.le_of_ble_eq_true rfl⟩ dX11_ask_105 (fun r35 M36 h => ?_)
  refine x_if_ne (tgt := 119) C dX11_ask_108 (by decide) (fun c37 => ?_) (fun c37 => ?_)
  · replace h := h.1 c37
    refine x_aload_n C dX11_ask_119 0 rfl ?_
    refine x_callv (rest := []) C sv_X11_243 ob11 z11 (kX11_stands hG _ h) rfl rfl (Nat.le_of_ble_eq_true rfl) ⟨Nat.le_of_ble_eq_true rfl, Nat.le_of_ble_eq_true rfl⟩ rfl rfl ⟨Nat.le_of_ble_eq_true rfl, Nat.le_of_ble_eq_true rfl⟩ dX11_ask_120 (fun M39 h => ?_)
    refine x_aload_n C dX11_ask_123 0 rfl ?_
    refine gf_11_18 C q168 z11 dX11_ask_124 ?_
    exact x_iret C E h (Nat.le_of_ble_eq_true rfl) (Nat.le_of_ble_eq_true rfl) dX11_ask_127
  · replace h := h.2 c37
    refine x_aload_n C dX11_ask_111 0 rfl ?_
    refine gf_11_6 C q148 z11 dX11_ask_112 ?_
    refine x_bipush (v := 10) C dX11_ask_115 rfl ?_
    refine x_isub C dX11_ask_117 ?_
    exact x_iret C E h (Nat.le_of_ble_eq_true rfl) (Nat.le_of_ble_eq_true rfl) dX11_ask_118
set_option maxRecDepth 100000 in
set_option maxHeartbeats 400000 in
theorem wX11_ask_80 {Γ : Gam} {G : Gm} {Qf : State → Prop} (hG : Gd G) (C : Cx Γ G cX11_ask 2 RX11 (some .int) rmX11_ask) {x1 : Int32} {Q : Int32 → Mem → Prop} (E : EndI Γ G Qf rmX11_ask Q) (M : Mem) (h : bX11_ask_80 x1 Q M) : X Γ G Qf 2 0 0 80 [(0, .ref (ga G 11 0))] [] M := by
  unfold bX11_ask_80 at h
  refine x_aload_n C dX11_ask_80 0 rfl ?_
  refine gf_11_34 C q166 z11 dX11_ask_81 ?_
  refine x_if_ne (tgt := 96) C dX11_ask_84 (by decide) (fun c31 => ?_) (fun c31 => ?_)
  · replace h := h.1 c31
    refine X_sub (lv' := [(0, .ref (ga G 11 0))]) [0] rfl ?_
    exact wX11_ask_96 hG C E M h
  · replace h := h.2 c31
    refine x_aload_n C dX11_ask_87 0 rfl ?_
    refine x_iconst (v := 1) C dX11_ask_88 rfl ?_
    refine x_aload_n C dX11_ask_89 0 rfl ?_
    refine gf_11_4 C q150 z11 dX11_ask_90 ?_
    refine x_callv (rest := []) C sv_X11_150 ob11 z11 (kX11_wrong hG _ _ _ h) rfl rfl (Nat.le_of_ble_eq_true rfl) ⟨Nat.le_of_ble_eq_true rfl, Nat.le_of_ble_eq_true rfl⟩ rfl rfl ⟨Nat.le_of_ble_eq_true rfl, Nat.le_of_ble_eq_true rfl⟩ dX11_ask_93 (fun M33 h => ?_)
    refine X_sub (lv' := [(0, .ref (ga G 11 0))]) [0] rfl ?_
    exact wX11_ask_96 hG C E M33 h
set_option maxRecDepth 100000 in
set_option maxHeartbeats 400000 in
theorem wX11_ask_58 {Γ : Gam} {G : Gm} {Qf : State → Prop} (hG : Gd G) (C : Cx Γ G cX11_ask 2 RX11 (some .int) rmX11_ask) {x1 : Int32} {Q : Int32 → Mem → Prop} (E : EndI Γ G Qf rmX11_ask Q) {L58 : Mem → Prop} (hL58 : ∀ s, L58 s → X Γ G Qf 2 0 0 58 [(0, .ref (ga G 11 0))] [] s) (M : Mem) (h : bX11_ask_58 x1 Q L58 M) : X Γ G Qf 2 0 0 58 [(0, .ref (ga G 11 0))] [] M := by
  unfold bX11_ask_58 at h
  refine x_aload_n C dX11_ask_58 0 rfl ?_
  refine x_calli (rest := []) C sv_X11_154 ob11 z11 (kX11_fine hG _ h) rfl rfl (Nat.le_of_ble_eq_true rfl) ⟨Nat.le_of_ble_eq_true rfl, Nat.le_of_ble_eq_true rfl⟩ rfl rfl ⟨Nat.le_of_ble_eq_true rfl, Nat.le_of_ble_eq_true rfl⟩ dX11_ask_59 (fun r23 M24 h => ?_)
  refine x_if_eq (tgt := 80) C dX11_ask_62 (by decide) (fun c25 => ?_) (fun c25 => ?_)
  · replace h := h.1 c25
    refine X_sub (lv' := [(0, .ref (ga G 11 0))]) [0] rfl ?_
    exact wX11_ask_80 hG C E M24 h
  · replace h := h.2 c25
    refine x_aload_n C dX11_ask_65 0 rfl ?_
    refine x_calli (rest := []) C sv_X11_187 ob11 z11 (kX11_blanks hG _ h) rfl rfl (Nat.le_of_ble_eq_true rfl) ⟨Nat.le_of_ble_eq_true rfl, Nat.le_of_ble_eq_true rfl⟩ rfl rfl ⟨Nat.le_of_ble_eq_true rfl, Nat.le_of_ble_eq_true rfl⟩ dX11_ask_66 (fun r26 M27 h => ?_)
    refine x_iconst (v := (-1)) C dX11_ask_69 rfl ?_
    refine x_icmp_eq (tgt := 80) C dX11_ask_70 (by decide) (fun c28 => ?_) (fun c28 => ?_)
    · replace h := h.1 c28
      refine X_sub (lv' := [(0, .ref (ga G 11 0))]) [0] rfl ?_
      exact wX11_ask_80 hG C E M27 h
    · replace h := h.2 c28
      refine x_aload_n C dX11_ask_73 0 rfl ?_
      refine x_callv (rest := []) C sv_X11_240 ob11 z11 (kX11_readsPart hG _ h) rfl rfl (Nat.le_of_ble_eq_true rfl) ⟨Nat.le_of_ble_eq_true rfl, Nat.le_of_ble_eq_true rfl⟩ rfl rfl ⟨Nat.le_of_ble_eq_true rfl, Nat.le_of_ble_eq_true rfl⟩ dX11_ask_74 (fun M30 h => ?_)
      refine x_goto (tgt := 58) C dX11_ask_77 (by decide) ?_
      refine X_sub (lv' := [(0, .ref (ga G 11 0))]) [0] rfl ?_
      have w9 := hL58 M30 h
      exact w9
set_option maxRecDepth 100000 in
set_option maxHeartbeats 400000 in
theorem kX11_ask {l : Launch} {G : Gm} (hG : Gd G) (M : Mem) (x1 : Int32) {Q : Int32 → Mem → Prop} (h : pX11_ask M x1 Q) : Cti l G yX11_ask cX11_ask 2 .int rmX11_ask [.ref (ga G 11 0), .int x1] M Q := by
  refine cti_of (own := RX11) (by decide +kernel) rfl (Nat.le_of_ble_eq_true rfl) hG (fun Γ Qf hl C E => ?_)
  subst hl
  show X Γ G Qf 2 0 0 0 [(0, .ref (ga G 11 0)), (1, .int x1)] [] M
  unfold pX11_ask at h
  refine x_aload_n C dX11_ask_0 0 rfl ?_
  refine x_iconst (v := 0) C dX11_ask_1 rfl ?_
  refine pf_11_0 C q143 z11 dX11_ask_2 ?_
  refine X_nameM (fun M1 eM1 => ?_)
  replace h := h M1 eM1
  refine x_aload_n C dX11_ask_5 0 rfl ?_
  refine x_iload_n C dX11_ask_6 1 rfl ?_
  refine x_iconst (v := 0) C dX11_ask_7 rfl ?_
  refine x_bipush (v := 120) C dX11_ask_8 rfl ?_
  refine x_aload_n C dX11_ask_10 0 rfl ?_
  refine gf_11_2 C q145 z11 dX11_ask_11 ?_
  refine x_scalli (rest := [.int 0, .int x1, .ref (ga G 11 0)]) C ss_X11_236 (kX11_less hG _ _ _ h) rfl rfl (Nat.le_of_ble_eq_true rfl) ⟨Nat.le_of_ble_eq_true rfl, Nat.le_of_ble_eq_true rfl⟩ rfl rfl ⟨Nat.le_of_ble_eq_true rfl, Nat.le_of_ble_eq_true rfl⟩ dX11_ask_14 (fun r2 M3 h => ?_)
  refine x_scalli (rest := [.ref (ga G 11 0)]) C ss_X11_172 (kX11_in hG _ _ _ _ h) rfl rfl (Nat.le_of_ble_eq_true rfl) ⟨Nat.le_of_ble_eq_true rfl, Nat.le_of_ble_eq_true rfl⟩ rfl rfl ⟨Nat.le_of_ble_eq_true rfl, Nat.le_of_ble_eq_true rfl⟩ dX11_ask_17 (fun r4 M5 h => ?_)
  refine x_if_ne (tgt := 27) C dX11_ask_20 (by decide) (fun c6 => ?_) (fun c6 => ?_)
  · replace h := h.1 c6
    refine x_iconst (v := 0) C dX11_ask_27 rfl ?_
    refine x_iconst (v := 1) C dX11_ask_28 rfl ?_
    refine x_iconst (v := 1) C dX11_ask_29 rfl ?_
    refine x_calli (rest := []) C sv_X11_179 ob11 z11 (kX11_bad hG _ _ _ _ h) rfl rfl (Nat.le_of_ble_eq_true rfl) ⟨Nat.le_of_ble_eq_true rfl, Nat.le_of_ble_eq_true rfl⟩ rfl rfl ⟨Nat.le_of_ble_eq_true rfl, Nat.le_of_ble_eq_true rfl⟩ dX11_ask_30 (fun r7 M8 h => ?_)
    refine x_if_eq (tgt := 38) C dX11_ask_33 (by decide) (fun c9 => ?_) (fun c9 => ?_)
    · replace h := h.1 c9
      refine x_aload_n C dX11_ask_38 0 rfl ?_
      refine x_iload_n C dX11_ask_39 1 rfl ?_
      refine x_callv (rest := []) C sv_X11_183 ob11 z11 (kX11_starts hG _ _ h) rfl rfl (Nat.le_of_ble_eq_true rfl) ⟨Nat.le_of_ble_eq_true rfl, Nat.le_of_ble_eq_true rfl⟩ rfl rfl ⟨Nat.le_of_ble_eq_true rfl, Nat.le_of_ble_eq_true rfl⟩ dX11_ask_40 (fun M11 h => ?_)
      refine x_aload_n C dX11_ask_43 0 rfl ?_
      refine x_iconst (v := 0) C dX11_ask_44 rfl ?_
      refine pf_11_33 C q165 z11 dX11_ask_45 ?_
      refine X_nameM (fun M12 eM12 => ?_)
      replace h := h M12 eM12
      refine x_aload_n C dX11_ask_48 0 rfl ?_
      refine x_iconst (v := 0) C dX11_ask_49 rfl ?_
      refine pf_11_34 C q166 z11 dX11_ask_50 ?_
      refine X_nameM (fun M13 eM13 => ?_)
      replace h := h M13 eM13
      refine x_aload_n C dX11_ask_53 0 rfl ?_
      refine x_iconst (v := 0) C dX11_ask_54 rfl ?_
      refine pf_11_35 C q167 z11 dX11_ask_55 ?_
      refine X_nameM (fun M14 eM14 => ?_)
      replace h := h M14 eM14
      obtain ⟨n9, h⟩ := h
      refine X_sub (lv' := [(0, .ref (ga G 11 0))]) [0] rfl ?_
      have hb : ∀ (L : Mem → Prop) (s : Mem), (∀ t, L t → X Γ G Qf 2 0 0 58 [(0, .ref (ga G 11 0))] [] t) → bX11_ask_58 x1 Q L s → X Γ G Qf 2 0 0 58 [(0, .ref (ga G 11 0))] [] s := fun L s hL h => wX11_ask_58 hG C E hL s h
      have w9 := lp_walk (P := fun s : Mem => X Γ G Qf 2 0 0 58 [(0, .ref (ga G 11 0))] [] s) h hb
      exact w9
    · replace h := h.2 c9
      refine x_iconst (v := 0) C dX11_ask_36 rfl ?_
      exact x_iret C E h (Nat.le_of_ble_eq_true rfl) (Nat.le_of_ble_eq_true rfl) dX11_ask_37
  · replace h := h.2 c6
    refine x_iconst (v := 1) C dX11_ask_23 rfl ?_
    refine x_goto (tgt := 28) C dX11_ask_24 (by decide) ?_
    refine x_iconst (v := 1) C dX11_ask_28 rfl ?_
    refine x_iconst (v := 1) C dX11_ask_29 rfl ?_
    refine x_calli (rest := []) C sv_X11_179 ob11 z11 (kX11_bad hG _ _ _ _ h) rfl rfl (Nat.le_of_ble_eq_true rfl) ⟨Nat.le_of_ble_eq_true rfl, Nat.le_of_ble_eq_true rfl⟩ rfl rfl ⟨Nat.le_of_ble_eq_true rfl, Nat.le_of_ble_eq_true rfl⟩ dX11_ask_30 (fun r15 M16 h => ?_)
    refine x_if_eq (tgt := 38) C dX11_ask_33 (by decide) (fun c17 => ?_) (fun c17 => ?_)
    · replace h := h.1 c17
      refine x_aload_n C dX11_ask_38 0 rfl ?_
      refine x_iload_n C dX11_ask_39 1 rfl ?_
      refine x_callv (rest := []) C sv_X11_183 ob11 z11 (kX11_starts hG _ _ h) rfl rfl (Nat.le_of_ble_eq_true rfl) ⟨Nat.le_of_ble_eq_true rfl, Nat.le_of_ble_eq_true rfl⟩ rfl rfl ⟨Nat.le_of_ble_eq_true rfl, Nat.le_of_ble_eq_true rfl⟩ dX11_ask_40 (fun M19 h => ?_)
      refine x_aload_n C dX11_ask_43 0 rfl ?_
      refine x_iconst (v := 0) C dX11_ask_44 rfl ?_
      refine pf_11_33 C q165 z11 dX11_ask_45 ?_
      refine X_nameM (fun M20 eM20 => ?_)
      replace h := h M20 eM20
      refine x_aload_n C dX11_ask_48 0 rfl ?_
      refine x_iconst (v := 0) C dX11_ask_49 rfl ?_
      refine pf_11_34 C q166 z11 dX11_ask_50 ?_
      refine X_nameM (fun M21 eM21 => ?_)
      replace h := h M21 eM21
      refine x_aload_n C dX11_ask_53 0 rfl ?_
      refine x_iconst (v := 0) C dX11_ask_54 rfl ?_
      refine pf_11_35 C q167 z11 dX11_ask_55 ?_
      refine X_nameM (fun M22 eM22 => ?_)
      replace h := h M22 eM22
      obtain ⟨n9, h⟩ := h
      refine X_sub (lv' := [(0, .ref (ga G 11 0))]) [0] rfl ?_
      have hb : ∀ (L : Mem → Prop) (s : Mem), (∀ t, L t → X Γ G Qf 2 0 0 58 [(0, .ref (ga G 11 0))] [] t) → bX11_ask_58 x1 Q L s → X Γ G Qf 2 0 0 58 [(0, .ref (ga G 11 0))] [] s := fun L s hL h => wX11_ask_58 hG C E hL s h
      have w9 := lp_walk (P := fun s : Mem => X Γ G Qf 2 0 0 58 [(0, .ref (ga G 11 0))] [] s) h hb
      exact w9
    · replace h := h.2 c17
      refine x_iconst (v := 0) C dX11_ask_36 rfl ?_
      exact x_iret C E h (Nat.le_of_ble_eq_true rfl) (Nat.le_of_ble_eq_true rfl) dX11_ask_37
def rmX11_isKept : Room := { frames := 0, cells := 0, slots := 0, locals := 0 }
def bX11_isKept_20 (x1 : Int32) (Q : Int32 → Mem → Prop) (M : Mem) : Prop :=
  Q 1 M
def pX11_isKept (M : Mem) (x1 : Int32) (Q : Int32 → Mem → Prop) : Prop :=
  vp_in x1 64 ∧ (((M.1 1214 0 (tn x1)) = 1 → bX11_isKept_20 x1 Q M) ∧ (¬ (M.1 1214 0 (tn x1)) = 1 → ((¬ (M.1 1214 0 (tn x1)) = 2 → Q 0 M) ∧ ((M.1 1214 0 (tn x1)) = 2 → bX11_isKept_20 x1 Q M))))
set_option maxRecDepth 100000 in
set_option maxHeartbeats 400000 in
theorem wX11_isKept_20 {Γ : Gam} {G : Gm} {Qf : State → Prop} (hG : Gd G) (C : Cx Γ G cX11_isKept 2 RX11 (some .boolean) rmX11_isKept) {x1 : Int32} {Q : Int32 → Mem → Prop} (E : EndI Γ G Qf rmX11_isKept Q) (M : Mem) (h : bX11_isKept_20 x1 Q M) : X Γ G Qf 2 0 0 20 [] [] M := by
  unfold bX11_isKept_20 at h
  refine x_iconst (v := 1) C dX11_isKept_20 rfl ?_
  refine x_goto (tgt := 25) C dX11_isKept_21 (by decide) ?_
  exact x_zret C E h rfl (Nat.le_of_ble_eq_true rfl) (Nat.le_of_ble_eq_true rfl) dX11_isKept_25
set_option maxRecDepth 100000 in
set_option maxHeartbeats 400000 in
theorem kX11_isKept {l : Launch} {G : Gm} (hG : Gd G) (M : Mem) (x1 : Int32) {Q : Int32 → Mem → Prop} (h : pX11_isKept M x1 Q) : Cti l G yX11_isKept cX11_isKept 2 .boolean rmX11_isKept [.ref (ga G 11 0), .int x1] M Q := by
  refine cti_of (own := RX11) (by decide +kernel) rfl (Nat.le_of_ble_eq_true rfl) hG (fun Γ Qf hl C E => ?_)
  subst hl
  show X Γ G Qf 2 0 0 0 [(0, .ref (ga G 11 0)), (1, .int x1)] [] M
  unfold pX11_isKept at h
  refine x_aload_n C dX11_isKept_0 0 rfl ?_
  refine gf_11_14 C q162 z11 dX11_isKept_1 ?_
  refine x_iload_n C dX11_isKept_4 1 rfl ?_
  obtain ⟨f1, h⟩ := h
  refine al_1214 C z1214 f1 dX11_isKept_5 ?_
  refine x_iconst (v := 1) C dX11_isKept_6 rfl ?_
  refine x_icmp_eq (tgt := 20) C dX11_isKept_7 (by decide) (fun c2 => ?_) (fun c2 => ?_)
  · replace h := h.1 c2
    refine X_sub (lv' := []) [] rfl ?_
    exact wX11_isKept_20 hG C E M h
  · replace h := h.2 c2
    refine x_aload_n C dX11_isKept_10 0 rfl ?_
    refine gf_11_14 C q162 z11 dX11_isKept_11 ?_
    refine x_iload_n C dX11_isKept_14 1 rfl ?_
    refine al_1214 C z1214 f1 dX11_isKept_15 ?_
    refine x_iconst (v := 2) C dX11_isKept_16 rfl ?_
    refine x_icmp_ne (tgt := 24) C dX11_isKept_17 (by decide) (fun c3 => ?_) (fun c3 => ?_)
    · replace h := h.1 c3
      refine x_iconst (v := 0) C dX11_isKept_24 rfl ?_
      exact x_zret C E h rfl (Nat.le_of_ble_eq_true rfl) (Nat.le_of_ble_eq_true rfl) dX11_isKept_25
    · replace h := h.2 c3
      refine X_sub (lv' := []) [] rfl ?_
      exact wX11_isKept_20 hG C E M h
def rmX11_kept : Room := { frames := 1, cells := 0, slots := 0, locals := 21 }
def bX11_kept_28 (Q : Int32 → Mem → Prop) (L4 : Mem × Int32 × Int32 → Prop) (M : Mem) (y1 : Int32) (y2 : Int32) : Prop :=
  ∀ v7 : Int32, v7 = y2 + 1 → L4 (M, y1, v7)
def bX11_kept_4 (Q : Int32 → Mem → Prop) (L4 : Mem × Int32 × Int32 → Prop) (M : Mem) (y1 : Int32) (y2 : Int32) : Prop :=
  (((M.1 1209 0 0) ≤ y2 → Q y1 M) ∧ (¬ (M.1 1209 0 0) ≤ y2 → pX11_isKept M y2 (fun r2 M3 => ((r2 = 0 → ∀ v5 : Int32, v5 = (y1 + 0) → bX11_kept_28 Q L4 M3 v5 y2) ∧ (¬ r2 = 0 → ∀ v6 : Int32, v6 = (y1 + 1) → bX11_kept_28 Q L4 M3 v6 y2)))))
def pX11_kept (M : Mem) (Q : Int32 → Mem → Prop) : Prop :=
  ∃ n : Nat, lp (fun L s => bX11_kept_4 Q L s.1 s.2.1 s.2.2) n (M, 0, 0)
set_option maxRecDepth 100000 in
set_option maxHeartbeats 400000 in
theorem wX11_kept_28 {Γ : Gam} {G : Gm} {Qf : State → Prop} (hG : Gd G) (C : Cx Γ G cX11_kept 3 RX11 (some .int) rmX11_kept)  {Q : Int32 → Mem → Prop} (E : EndI Γ G Qf rmX11_kept Q) {L4 : Mem × Int32 × Int32 → Prop} (hL4 : ∀ s, L4 s → X Γ G Qf 3 0 0 4 [(0, .ref (ga G 11 0)), (1, .int s.2.1), (2, .int s.2.2)] [] s.1) (M : Mem) (y1 : Int32) (y2 : Int32) (h : bX11_kept_28 Q L4 M y1 y2) : X Γ G Qf 3 0 0 28 [(0, .ref (ga G 11 0)), (1, .int y1), (2, .int y2)] [] M := by
  unfold bX11_kept_28 at h
  obtain ⟨v7, ev7⟩ : ∃ z : Int32, z = y2 + 1 := ⟨_, rfl⟩
  replace h := h v7 ev7
  refine x_iinc (v := v7) (lv' := [(2, .int v7), (0, .ref (ga G 11 0)), (1, .int y1)]) (j := 2) C dX11_kept_28 rfl (by rw [ev7]; rfl) (Nat.le_of_ble_eq_true rfl) rfl ?_
  refine x_goto (tgt := 4) C dX11_kept_31 (by decide) ?_
  refine X_sub (lv' := [(0, .ref (ga G 11 0)), (1, .int y1), (2, .int v7)]) [1, 2, 0] rfl ?_
  have w9 := hL4 (M, y1, v7) h
  dsimp only at w9
  exact w9
set_option maxRecDepth 100000 in
set_option maxHeartbeats 400000 in
theorem wX11_kept_4 {Γ : Gam} {G : Gm} {Qf : State → Prop} (hG : Gd G) (C : Cx Γ G cX11_kept 3 RX11 (some .int) rmX11_kept)  {Q : Int32 → Mem → Prop} (E : EndI Γ G Qf rmX11_kept Q) {L4 : Mem × Int32 × Int32 → Prop} (hL4 : ∀ s, L4 s → X Γ G Qf 3 0 0 4 [(0, .ref (ga G 11 0)), (1, .int s.2.1), (2, .int s.2.2)] [] s.1) (M : Mem) (y1 : Int32) (y2 : Int32) (h : bX11_kept_4 Q L4 M y1 y2) : X Γ G Qf 3 0 0 4 [(0, .ref (ga G 11 0)), (1, .int y1), (2, .int y2)] [] M := by
  unfold bX11_kept_4 at h
  refine x_iload_n C dX11_kept_4 2 rfl ?_
  refine x_aload_n C dX11_kept_5 0 rfl ?_
  refine gf_11_9 C q159 z11 dX11_kept_6 ?_
  refine x_icmp_ge (tgt := 34) C dX11_kept_9 (by decide) (fun c1 => ?_) (fun c1 => ?_)
  · replace h := h.1 c1
    refine x_iload_n C dX11_kept_34 1 rfl ?_
    exact x_iret C E h (Nat.le_of_ble_eq_true rfl) (Nat.le_of_ble_eq_true rfl) dX11_kept_35
  · replace h := h.2 c1
    refine x_iload_n C dX11_kept_12 1 rfl ?_
    refine x_aload_n C dX11_kept_13 0 rfl ?_
    refine x_iload_n C dX11_kept_14 2 rfl ?_
    refine x_calli (rest := [.int y1]) C sv_X11_246 ob11 z11 (kX11_isKept hG _ _ h) rfl rfl (Nat.le_of_ble_eq_true rfl) ⟨Nat.le_of_ble_eq_true rfl, Nat.le_of_ble_eq_true rfl⟩ rfl rfl ⟨Nat.le_of_ble_eq_true rfl, Nat.le_of_ble_eq_true rfl⟩ dX11_kept_15 (fun r2 M3 h => ?_)
    refine x_if_eq (tgt := 25) C dX11_kept_18 (by decide) (fun c4 => ?_) (fun c4 => ?_)
    · replace h := h.1 c4
      refine x_iconst (v := 0) C dX11_kept_25 rfl ?_
      refine x_iadd C dX11_kept_26 ?_
      refine X_name (fun v5 ev5 => ?_)
      replace h := h v5 ev5
      refine x_istore_n (lv' := [(1, .int v5), (0, .ref (ga G 11 0)), (2, .int y2)]) C dX11_kept_27 rfl (Nat.le_of_ble_eq_true rfl) rfl ?_
      refine X_sub (lv' := [(0, .ref (ga G 11 0)), (1, .int v5), (2, .int y2)]) [1, 0, 2] rfl ?_
      exact wX11_kept_28 hG C E hL4 M3 v5 y2 h
    · replace h := h.2 c4
      refine x_iconst (v := 1) C dX11_kept_21 rfl ?_
      refine x_goto (tgt := 26) C dX11_kept_22 (by decide) ?_
      refine x_iadd C dX11_kept_26 ?_
      refine X_name (fun v6 ev6 => ?_)
      replace h := h v6 ev6
      refine x_istore_n (lv' := [(1, .int v6), (0, .ref (ga G 11 0)), (2, .int y2)]) C dX11_kept_27 rfl (Nat.le_of_ble_eq_true rfl) rfl ?_
      refine X_sub (lv' := [(0, .ref (ga G 11 0)), (1, .int v6), (2, .int y2)]) [1, 0, 2] rfl ?_
      exact wX11_kept_28 hG C E hL4 M3 v6 y2 h
set_option maxRecDepth 100000 in
set_option maxHeartbeats 400000 in
theorem kX11_kept {l : Launch} {G : Gm} (hG : Gd G) (M : Mem)  {Q : Int32 → Mem → Prop} (h : pX11_kept M Q) : Cti l G yX11_kept cX11_kept 3 .int rmX11_kept [.ref (ga G 11 0)] M Q := by
  refine cti_of (own := RX11) (by decide +kernel) rfl (Nat.le_of_ble_eq_true rfl) hG (fun Γ Qf hl C E => ?_)
  subst hl
  show X Γ G Qf 3 0 0 0 [(0, .ref (ga G 11 0))] [] M
  unfold pX11_kept at h
  refine x_iconst (v := 0) C dX11_kept_0 rfl ?_
  refine x_istore_n (lv' := [(1, .int 0), (0, .ref (ga G 11 0))]) C dX11_kept_1 rfl (Nat.le_of_ble_eq_true rfl) rfl ?_
  refine x_iconst (v := 0) C dX11_kept_2 rfl ?_
  refine x_istore_n (lv' := [(2, .int 0), (1, .int 0), (0, .ref (ga G 11 0))]) C dX11_kept_3 rfl (Nat.le_of_ble_eq_true rfl) rfl ?_
  obtain ⟨n9, h⟩ := h
  refine X_sub (lv' := [(0, .ref (ga G 11 0)), (1, .int 0), (2, .int 0)]) [2, 1, 0] rfl ?_
  have hb : ∀ (L : Mem × Int32 × Int32 → Prop) (s : Mem × Int32 × Int32), (∀ t, L t → X Γ G Qf 3 0 0 4 [(0, .ref (ga G 11 0)), (1, .int t.2.1), (2, .int t.2.2)] [] t.1) → bX11_kept_4 Q L s.1 s.2.1 s.2.2 → X Γ G Qf 3 0 0 4 [(0, .ref (ga G 11 0)), (1, .int s.2.1), (2, .int s.2.2)] [] s.1 := fun L s hL h => wX11_kept_4 hG C E hL s.1 s.2.1 s.2.2 h
  have w9 := lp_walk (P := fun s : Mem × Int32 × Int32 => X Γ G Qf 3 0 0 4 [(0, .ref (ga G 11 0)), (1, .int s.2.1), (2, .int s.2.2)] [] s.1) h hb
  dsimp only at w9
  exact w9
def rmX11_gathers : Room := { frames := 1, cells := 0, slots := 0, locals := 21 }
def bX11_gathers_57 (x1 : Int32) (Q : Mem → Prop) (L7 : Mem × Int32 → Prop) (M : Mem) (y2 : Int32) : Prop :=
  ∀ v12 : Int32, v12 = y2 + 1 → L7 (M, v12)
def bX11_gathers_7 (x1 : Int32) (Q : Mem → Prop) (L7 : Mem × Int32 → Prop) (M : Mem) (y2 : Int32) : Prop :=
  (((M.1 1209 0 0) ≤ y2 → Q M) ∧ (¬ (M.1 1209 0 0) ≤ y2 → pX11_isKept M y2 (fun r3 M4 => ((r3 = 0 → bX11_gathers_57 x1 Q L7 M4 y2) ∧ (¬ r3 = 0 → vp_in x1 256 ∧ vp_in y2 64 ∧ ((¬ (M4.1 6217 (tn x1) (tn y2)) = 0 → vp_in (M4.1 1237 0 0) 64 ∧ ∀ M10 : Mem, M10 = up1 M4 1238 0 (tn (M4.1 1237 0 0)) y2 → ∀ M11 : Mem, M11 = up1 M10 1237 0 0 ((M10.1 1237 0 0) + 1) → bX11_gathers_57 x1 Q L7 M11 y2) ∧ ((M4.1 6217 (tn x1) (tn y2)) = 0 → bX11_gathers_57 x1 Q L7 M4 y2)))))))
def pX11_gathers (M : Mem) (x1 : Int32) (Q : Mem → Prop) : Prop :=
  ∀ M1 : Mem, M1 = up1 M 1237 0 0 0 → ∃ n : Nat, lp (fun L s => bX11_gathers_7 x1 Q L s.1 s.2) n (M1, 0)
set_option maxRecDepth 100000 in
set_option maxHeartbeats 400000 in
theorem wX11_gathers_57 {Γ : Gam} {G : Gm} {Qf : State → Prop} (hG : Gd G) (C : Cx Γ G cX11_gathers 3 RX11 none rmX11_gathers) {x1 : Int32} {Q : Mem → Prop} (E : EndV Γ G Qf rmX11_gathers Q) {L7 : Mem × Int32 → Prop} (hL7 : ∀ s, L7 s → X Γ G Qf 3 0 0 7 [(0, .ref (ga G 11 0)), (1, .int x1), (2, .int s.2)] [] s.1) (M : Mem) (y2 : Int32) (h : bX11_gathers_57 x1 Q L7 M y2) : X Γ G Qf 3 0 0 57 [(0, .ref (ga G 11 0)), (1, .int x1), (2, .int y2)] [] M := by
  unfold bX11_gathers_57 at h
  obtain ⟨v12, ev12⟩ : ∃ z : Int32, z = y2 + 1 := ⟨_, rfl⟩
  replace h := h v12 ev12
  refine x_iinc (v := v12) (lv' := [(2, .int v12), (0, .ref (ga G 11 0)), (1, .int x1)]) (j := 2) C dX11_gathers_57 rfl (by rw [ev12]; rfl) (Nat.le_of_ble_eq_true rfl) rfl ?_
  refine x_goto (tgt := 7) C dX11_gathers_60 (by decide) ?_
  refine X_sub (lv' := [(0, .ref (ga G 11 0)), (1, .int x1), (2, .int v12)]) [1, 2, 0] rfl ?_
  have w9 := hL7 (M, v12) h
  dsimp only at w9
  exact w9
set_option maxRecDepth 100000 in
set_option maxHeartbeats 400000 in
theorem wX11_gathers_7 {Γ : Gam} {G : Gm} {Qf : State → Prop} (hG : Gd G) (C : Cx Γ G cX11_gathers 3 RX11 none rmX11_gathers) {x1 : Int32} {Q : Mem → Prop} (E : EndV Γ G Qf rmX11_gathers Q) {L7 : Mem × Int32 → Prop} (hL7 : ∀ s, L7 s → X Γ G Qf 3 0 0 7 [(0, .ref (ga G 11 0)), (1, .int x1), (2, .int s.2)] [] s.1) (M : Mem) (y2 : Int32) (h : bX11_gathers_7 x1 Q L7 M y2) : X Γ G Qf 3 0 0 7 [(0, .ref (ga G 11 0)), (1, .int x1), (2, .int y2)] [] M := by
  unfold bX11_gathers_7 at h
  refine x_iload_n C dX11_gathers_7 2 rfl ?_
  refine x_aload_n C dX11_gathers_8 0 rfl ?_
  refine gf_11_9 C q159 z11 dX11_gathers_9 ?_
  refine x_icmp_ge (tgt := 63) C dX11_gathers_12 (by decide) (fun c2 => ?_) (fun c2 => ?_)
  · replace h := h.1 c2
    exact x_vret C E h (Nat.le_of_ble_eq_true rfl) (Nat.le_of_ble_eq_true rfl) dX11_gathers_63
  · replace h := h.2 c2
    refine x_aload_n C dX11_gathers_15 0 rfl ?_
    refine x_iload_n C dX11_gathers_16 2 rfl ?_
    refine x_calli (rest := []) C sv_X11_246 ob11 z11 (kX11_isKept hG _ _ h) rfl rfl (Nat.le_of_ble_eq_true rfl) ⟨Nat.le_of_ble_eq_true rfl, Nat.le_of_ble_eq_true rfl⟩ rfl rfl ⟨Nat.le_of_ble_eq_true rfl, Nat.le_of_ble_eq_true rfl⟩ dX11_gathers_17 (fun r3 M4 h => ?_)
    refine x_if_eq (tgt := 57) C dX11_gathers_20 (by decide) (fun c5 => ?_) (fun c5 => ?_)
    · replace h := h.1 c5
      refine X_sub (lv' := [(0, .ref (ga G 11 0)), (1, .int x1), (2, .int y2)]) [0, 1, 2] rfl ?_
      exact wX11_gathers_57 hG C E hL7 M4 y2 h
    · replace h := h.2 c5
      refine x_aload_n C dX11_gathers_23 0 rfl ?_
      refine gf_11_17 C q163 z11 dX11_gathers_24 ?_
      refine x_iload_n C dX11_gathers_27 1 rfl ?_
      obtain ⟨f6, h⟩ := h
      refine al_1217 C z1217 f6 dX11_gathers_28 ?_
      refine x_iload_n C dX11_gathers_29 2 rfl ?_
      obtain ⟨f7, h⟩ := h
      refine al_6217 C (vp_lt f6) f7 dX11_gathers_30 ?_
      refine x_if_ne (tgt := 37) C dX11_gathers_31 (by decide) (fun c8 => ?_) (fun c8 => ?_)
      · replace h := h.1 c8
        refine x_aload_n C dX11_gathers_37 0 rfl ?_
        refine gf_11_38 C q182 z11 dX11_gathers_38 ?_
        refine x_aload_n C dX11_gathers_41 0 rfl ?_
        refine gf_11_37 C q181 z11 dX11_gathers_42 ?_
        refine x_iload_n C dX11_gathers_45 2 rfl ?_
        obtain ⟨f9, h⟩ := h
        refine as_1238 C z1238 f9 dX11_gathers_46 ?_
        refine X_nameM (fun M10 eM10 => ?_)
        replace h := h M10 eM10
        refine x_aload_n C dX11_gathers_47 0 rfl ?_
        refine x_dup C dX11_gathers_48 rfl ?_
        refine gf_11_37 C q181 z11 dX11_gathers_49 ?_
        refine x_iconst (v := 1) C dX11_gathers_52 rfl ?_
        refine x_iadd C dX11_gathers_53 ?_
        refine pf_11_37 C q181 z11 dX11_gathers_54 ?_
        refine X_nameM (fun M11 eM11 => ?_)
        replace h := h M11 eM11
        refine X_sub (lv' := [(0, .ref (ga G 11 0)), (1, .int x1), (2, .int y2)]) [0, 1, 2] rfl ?_
        exact wX11_gathers_57 hG C E hL7 M11 y2 h
      · replace h := h.2 c8
        refine x_goto (tgt := 57) C dX11_gathers_34 (by decide) ?_
        refine X_sub (lv' := [(0, .ref (ga G 11 0)), (1, .int x1), (2, .int y2)]) [0, 1, 2] rfl ?_
        exact wX11_gathers_57 hG C E hL7 M4 y2 h
set_option maxRecDepth 100000 in
set_option maxHeartbeats 400000 in
theorem kX11_gathers {l : Launch} {G : Gm} (hG : Gd G) (M : Mem) (x1 : Int32) {Q : Mem → Prop} (h : pX11_gathers M x1 Q) : Ctv l G yX11_gathers cX11_gathers 3 rmX11_gathers [.ref (ga G 11 0), .int x1] M Q := by
  refine ctv_of (own := RX11) (by decide +kernel) rfl (Nat.le_of_ble_eq_true rfl) hG (fun Γ Qf hl C E => ?_)
  subst hl
  show X Γ G Qf 3 0 0 0 [(0, .ref (ga G 11 0)), (1, .int x1)] [] M
  unfold pX11_gathers at h
  refine x_aload_n C dX11_gathers_0 0 rfl ?_
  refine x_iconst (v := 0) C dX11_gathers_1 rfl ?_
  refine pf_11_37 C q181 z11 dX11_gathers_2 ?_
  refine X_nameM (fun M1 eM1 => ?_)
  replace h := h M1 eM1
  refine x_iconst (v := 0) C dX11_gathers_5 rfl ?_
  refine x_istore_n (lv' := [(2, .int 0), (0, .ref (ga G 11 0)), (1, .int x1)]) C dX11_gathers_6 rfl (Nat.le_of_ble_eq_true rfl) rfl ?_
  obtain ⟨n9, h⟩ := h
  refine X_sub (lv' := [(0, .ref (ga G 11 0)), (1, .int x1), (2, .int 0)]) [1, 2, 0] rfl ?_
  have hb : ∀ (L : Mem × Int32 → Prop) (s : Mem × Int32), (∀ t, L t → X Γ G Qf 3 0 0 7 [(0, .ref (ga G 11 0)), (1, .int x1), (2, .int t.2)] [] t.1) → bX11_gathers_7 x1 Q L s.1 s.2 → X Γ G Qf 3 0 0 7 [(0, .ref (ga G 11 0)), (1, .int x1), (2, .int s.2)] [] s.1 := fun L s hL h => wX11_gathers_7 hG C E hL s.1 s.2 h
  have w9 := lp_walk (P := fun s : Mem × Int32 => X Γ G Qf 3 0 0 7 [(0, .ref (ga G 11 0)), (1, .int x1), (2, .int s.2)] [] s.1) h hb
  dsimp only at w9
  exact w9
def rmX11_gain : Room := { frames := 0, cells := 0, slots := 0, locals := 0 }
def pX11_gain (M : Mem) (x1 : Int32) (x2 : Int32) (Q : Int32 → Mem → Prop) : Prop :=
  vp_in x1 256 ∧ vp_in x2 64 ∧ (¬ (((M.1 6217 (tn x1) (tn x2)) + 1) + ((M.1 1213 0 (tn x2)) / 4)) = 0) ∧ Q (((M.1 6217 (tn x1) (tn x2)) * 1000) / (((M.1 6217 (tn x1) (tn x2)) + 1) + ((M.1 1213 0 (tn x2)) / 4))) M
set_option maxRecDepth 100000 in
set_option maxHeartbeats 400000 in
theorem kX11_gain {l : Launch} {G : Gm} (hG : Gd G) (M : Mem) (x1 : Int32) (x2 : Int32) {Q : Int32 → Mem → Prop} (h : pX11_gain M x1 x2 Q) : Cti l G yX11_gain cX11_gain 3 .int rmX11_gain [.ref (ga G 11 0), .int x1, .int x2] M Q := by
  refine cti_of (own := RX11) (by decide +kernel) rfl (Nat.le_of_ble_eq_true rfl) hG (fun Γ Qf hl C E => ?_)
  subst hl
  show X Γ G Qf 3 0 0 0 [(0, .ref (ga G 11 0)), (1, .int x1), (2, .int x2)] [] M
  unfold pX11_gain at h
  refine x_aload_n C dX11_gain_0 0 rfl ?_
  refine gf_11_17 C q163 z11 dX11_gain_1 ?_
  refine x_iload_n C dX11_gain_4 1 rfl ?_
  obtain ⟨f1, h⟩ := h
  refine al_1217 C z1217 f1 dX11_gain_5 ?_
  refine x_iload_n C dX11_gain_6 2 rfl ?_
  obtain ⟨f2, h⟩ := h
  refine al_6217 C (vp_lt f1) f2 dX11_gain_7 ?_
  refine x_sipush (v := 1000) C dX11_gain_8 rfl ?_
  refine x_imul C dX11_gain_11 ?_
  refine x_aload_n C dX11_gain_12 0 rfl ?_
  refine gf_11_17 C q163 z11 dX11_gain_13 ?_
  refine x_iload_n C dX11_gain_16 1 rfl ?_
  refine al_1217 C z1217 f1 dX11_gain_17 ?_
  refine x_iload_n C dX11_gain_18 2 rfl ?_
  refine al_6217 C (vp_lt f1) f2 dX11_gain_19 ?_
  refine x_iconst (v := 1) C dX11_gain_20 rfl ?_
  refine x_iadd C dX11_gain_21 ?_
  refine x_aload_n C dX11_gain_22 0 rfl ?_
  refine gf_11_13 C q161 z11 dX11_gain_23 ?_
  refine x_iload_n C dX11_gain_26 2 rfl ?_
  refine al_1213 C z1213 f2 dX11_gain_27 ?_
  refine x_iconst (v := 4) C dX11_gain_28 rfl ?_
  refine x_idiv C dX11_gain_29 (by decide) ?_
  refine x_iadd C dX11_gain_30 ?_
  obtain ⟨f3, h⟩ := h
  refine x_idiv C dX11_gain_31 f3 ?_
  exact x_iret C E h (Nat.le_of_ble_eq_true rfl) (Nat.le_of_ble_eq_true rfl) dX11_gain_32
def rmX11_rare : Room := { frames := 2, cells := 0, slots := 0, locals := 43 }
def bX11_rare_26 (x1 : Int32) (Q : Int32 → Mem → Prop) (L26 : Mem × Int32 × Int32 → Prop) (M : Mem) (y2 : Int32) (y3 : Int32) : Prop :=
  ((y3 ≤ 1 → Q y2 M) ∧ (¬ y3 ≤ 1 → ∀ v9 : Int32, v9 = y2 + 1 → ∀ v10 : Int32, v10 = (y3 / 2) → L26 (M, v9, v10)))
def pX11_rare (M : Mem) (x1 : Int32) (Q : Int32 → Mem → Prop) : Prop :=
  pX11_gathers M x1 (fun M2 => ((¬ (M2.1 1237 0 0) = 0 → pX11_kept M2 (fun r4 M5 => (¬ (M5.1 1237 0 0) = 0) ∧ ∀ v7 : Int32, v7 = (r4 / (M5.1 1237 0 0)) → ∃ n : Nat, lp (fun L s => bX11_rare_26 x1 Q L s.1 s.2.1 s.2.2) n (M5, 1, v7))) ∧ ((M2.1 1237 0 0) = 0 → Q 0 M2)))
set_option maxRecDepth 100000 in
set_option maxHeartbeats 400000 in
theorem wX11_rare_26 {Γ : Gam} {G : Gm} {Qf : State → Prop} (hG : Gd G) (C : Cx Γ G cX11_rare 4 RX11 (some .int) rmX11_rare) {x1 : Int32} {Q : Int32 → Mem → Prop} (E : EndI Γ G Qf rmX11_rare Q) {L26 : Mem × Int32 × Int32 → Prop} (hL26 : ∀ s, L26 s → X Γ G Qf 4 0 0 26 [(2, .int s.2.1), (3, .int s.2.2)] [] s.1) (M : Mem) (y2 : Int32) (y3 : Int32) (h : bX11_rare_26 x1 Q L26 M y2 y3) : X Γ G Qf 4 0 0 26 [(2, .int y2), (3, .int y3)] [] M := by
  unfold bX11_rare_26 at h
  refine x_iload_n C dX11_rare_26 1 rfl ?_
  refine x_iconst (v := 1) C dX11_rare_27 rfl ?_
  refine x_icmp_le (tgt := 41) C dX11_rare_28 (by decide) (fun c8 => ?_) (fun c8 => ?_)
  · replace h := h.1 c8
    refine x_iload_n C dX11_rare_41 0 rfl ?_
    exact x_iret C E h (Nat.le_of_ble_eq_true rfl) (Nat.le_of_ble_eq_true rfl) dX11_rare_42
  · replace h := h.2 c8
    obtain ⟨v9, ev9⟩ : ∃ z : Int32, z = y2 + 1 := ⟨_, rfl⟩
    replace h := h v9 ev9
    refine x_iinc (v := v9) (lv' := [(2, .int v9), (3, .int y3)]) (j := 0) C dX11_rare_31 rfl (by rw [ev9]; rfl) (Nat.le_of_ble_eq_true rfl) rfl ?_
    refine x_iload_n C dX11_rare_34 1 rfl ?_
    refine x_iconst (v := 2) C dX11_rare_35 rfl ?_
    refine x_idiv C dX11_rare_36 (by decide) ?_
    refine X_name (fun v10 ev10 => ?_)
    replace h := h v10 ev10
    refine x_istore_n (lv' := [(3, .int v10), (2, .int v9)]) C dX11_rare_37 rfl (Nat.le_of_ble_eq_true rfl) rfl ?_
    refine x_goto (tgt := 26) C dX11_rare_38 (by decide) ?_
    refine X_sub (lv' := [(2, .int v9), (3, .int v10)]) [1, 0] rfl ?_
    have w9 := hL26 (M, v9, v10) h
    dsimp only at w9
    exact w9
set_option maxRecDepth 100000 in
set_option maxHeartbeats 400000 in
theorem kX11_rare {l : Launch} {G : Gm} (hG : Gd G) (M : Mem) (x1 : Int32) {Q : Int32 → Mem → Prop} (h : pX11_rare M x1 Q) : Cti l G yX11_rare cX11_rare 4 .int rmX11_rare [.ref (ga G 11 0), .int x1] M Q := by
  refine cti_of (own := RX11) (by decide +kernel) rfl (Nat.le_of_ble_eq_true rfl) hG (fun Γ Qf hl C E => ?_)
  subst hl
  show X Γ G Qf 4 0 0 0 [(0, .ref (ga G 11 0)), (1, .int x1)] [] M
  unfold pX11_rare at h
  refine x_aload_n C dX11_rare_0 0 rfl ?_
  refine x_iload_n C dX11_rare_1 1 rfl ?_
  refine x_callv (rest := []) C sv_X11_252 ob11 z11 (kX11_gathers hG _ _ h) rfl rfl (Nat.le_of_ble_eq_true rfl) ⟨Nat.le_of_ble_eq_true rfl, Nat.le_of_ble_eq_true rfl⟩ rfl rfl ⟨Nat.le_of_ble_eq_true rfl, Nat.le_of_ble_eq_true rfl⟩ dX11_rare_2 (fun M2 h => ?_)
  refine x_aload_n C dX11_rare_5 0 rfl ?_
  refine gf_11_37 C q181 z11 dX11_rare_6 ?_
  refine x_if_ne (tgt := 14) C dX11_rare_9 (by decide) (fun c3 => ?_) (fun c3 => ?_)
  · replace h := h.1 c3
    refine x_iconst (v := 1) C dX11_rare_14 rfl ?_
    refine x_istore_n (lv' := [(2, .int 1), (0, .ref (ga G 11 0)), (1, .int x1)]) C dX11_rare_15 rfl (Nat.le_of_ble_eq_true rfl) rfl ?_
    refine x_aload_n C dX11_rare_16 1 rfl ?_
    refine x_calli (rest := []) C sv_X11_255 ob11 z11 (kX11_kept hG _ h) rfl rfl (Nat.le_of_ble_eq_true rfl) ⟨Nat.le_of_ble_eq_true rfl, Nat.le_of_ble_eq_true rfl⟩ rfl rfl ⟨Nat.le_of_ble_eq_true rfl, Nat.le_of_ble_eq_true rfl⟩ dX11_rare_17 (fun r4 M5 h => ?_)
    refine x_aload_n C dX11_rare_20 1 rfl ?_
    refine gf_11_37 C q181 z11 dX11_rare_21 ?_
    obtain ⟨f6, h⟩ := h
    refine x_idiv C dX11_rare_24 f6 ?_
    refine X_name (fun v7 ev7 => ?_)
    replace h := h v7 ev7
    refine x_istore_n (lv' := [(3, .int v7), (2, .int 1), (0, .ref (ga G 11 0)), (1, .int x1)]) C dX11_rare_25 rfl (Nat.le_of_ble_eq_true rfl) rfl ?_
    obtain ⟨n9, h⟩ := h
    refine X_sub (lv' := [(2, .int 1), (3, .int v7)]) [1, 0] rfl ?_
    have hb : ∀ (L : Mem × Int32 × Int32 → Prop) (s : Mem × Int32 × Int32), (∀ t, L t → X Γ G Qf 4 0 0 26 [(2, .int t.2.1), (3, .int t.2.2)] [] t.1) → bX11_rare_26 x1 Q L s.1 s.2.1 s.2.2 → X Γ G Qf 4 0 0 26 [(2, .int s.2.1), (3, .int s.2.2)] [] s.1 := fun L s hL h => wX11_rare_26 hG C E hL s.1 s.2.1 s.2.2 h
    have w9 := lp_walk (P := fun s : Mem × Int32 × Int32 => X Γ G Qf 4 0 0 26 [(2, .int s.2.1), (3, .int s.2.2)] [] s.1) h hb
    dsimp only at w9
    exact w9
  · replace h := h.2 c3
    refine x_iconst (v := 0) C dX11_rare_12 rfl ?_
    exact x_iret C E h (Nat.le_of_ble_eq_true rfl) (Nat.le_of_ble_eq_true rfl) dX11_rare_13
