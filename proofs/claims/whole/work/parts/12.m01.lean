def rmX11_add : Room := { frames := 3, cells := 0, slots := 0, locals := 66 }
def bX11_add_205 (x1 : Int32) (Q : Int32 → Mem → Prop) (L205 : Mem × Int32 × Int32 × Int32 → Prop) (M : Mem) (y3 : Int32) (y4 : Int32) (y5 : Int32) : Prop :=
  ((y3 ≤ y5 → ∀ M58 : Mem, M58 = up1 M 1209 0 0 ((M.1 1209 0 0) + 1) → Q y4 M58) ∧ (¬ y3 ≤ y5 → vp_in y4 64 ∧ vp_in y5 150 ∧ vp_in (M.1 6212 (tn y4) (tn y5)) 256 ∧ ∀ M62 : Mem, M62 = up1 M 6217 (tn (M.1 6212 (tn y4) (tn y5))) (tn y4) ((M.1 6217 (tn (M.1 6212 (tn y4) (tn y5))) (tn y4)) + 1) → ∀ v63 : Int32, v63 = y5 + 1 → L205 (M62, y3, y4, v63)))
def bX11_add_176 (x1 : Int32) (Q : Int32 → Mem → Prop) (L176 : Mem × Int32 × Int32 × Int32 → Prop) (M : Mem) (y3 : Int32) (y4 : Int32) (y5 : Int32) : Prop :=
  (((M.1 1210 0 0) ≤ y5 → ∃ n : Nat, lp (fun L s => bX11_add_205 x1 Q L s.1 s.2.1 s.2.2.1 s.2.2.2) n (M, y3, y4, 0)) ∧ (¬ (M.1 1210 0 0) ≤ y5 → vp_in y5 256 ∧ vp_in y4 64 ∧ ∀ M55 : Mem, M55 = up1 M 6217 (tn y5) (tn y4) 0 → ∀ v56 : Int32, v56 = y5 + 1 → L176 (M55, y3, y4, v56)))
def bX11_add_123 (x1 : Int32) (Q : Int32 → Mem → Prop) (M : Mem) (y2 : Int32) (y3 : Int32) : Prop :=
  ∀ M43 : Mem, M43 = up1 M 1205 0 0 (M.1 1207 0 0) → pX11_fine M43 (fun r44 M45 => ((¬ r44 = 0 → ∀ v47 : Int32, v47 = (M45.1 1209 0 0) → vp_in v47 64 ∧ ∀ M49 : Mem, M49 = up1 M45 1213 0 (tn v47) y3 → ∀ M50 : Mem, M50 = up1 M49 1214 0 (tn v47) 1 → ∃ n : Nat, lp (fun L s => bX11_add_176 x1 Q L s.1 s.2.1 s.2.2.1 s.2.2.2) n (M50, y3, v47, 0)) ∧ (r44 = 0 → ∀ M51 : Mem, M51 = up1 M45 1210 0 0 y2 → Q ((M51.1 1206 0 0) - 10) M51)))
def bX11_add_110 (x1 : Int32) (Q : Int32 → Mem → Prop) (M : Mem) (y2 : Int32) (y3 : Int32) : Prop :=
  ((¬ y3 = 0 → bX11_add_123 x1 Q M y2 y3) ∧ (y3 = 0 → pX11_wrong M 1 (M.1 1204 0 0) (fun M42 => bX11_add_123 x1 Q M42 y2 y3)))
def bX11_add_104 (x1 : Int32) (Q : Int32 → Mem → Prop) (L54 : Mem × Int32 × Int32 → Prop) (M : Mem) (y2 : Int32) (y3 : Int32) : Prop :=
  ∀ v39 : Int32, v39 = y3 + 1 → L54 (M, y2, v39)
def bX11_add_54 (x1 : Int32) (Q : Int32 → Mem → Prop) (L54 : Mem × Int32 × Int32 → Prop) (M : Mem) (y2 : Int32) (y3 : Int32) : Prop :=
  pX11_fine M (fun r24 M25 => ((r24 = 0 → bX11_add_110 x1 Q M25 y2 y3) ∧ (¬ r24 = 0 → pX11_blanks M25 (fun r27 M28 => ((r27 = (-1) → bX11_add_110 x1 Q M28 y2 y3) ∧ (¬ r27 = (-1) → pX11_byteAt M28 (M28.1 1204 0 0) (fun r30 M31 => pX11_isSmall M31 r30 (fun r32 M33 => ((¬ r32 = 0 → pX11_readsNext M33 (M33.1 1209 0 0) y3 (fun M36 => bX11_add_104 x1 Q L54 M36 y2 y3)) ∧ (r32 = 0 → pX11_wrong M33 1 (M33.1 1204 0 0) (fun M38 => bX11_add_104 x1 Q L54 M38 y2 y3)))))))))))
def pX11_add (M : Mem) (x1 : Int32) (Q : Int32 → Mem → Prop) : Prop :=
  ∀ M1 : Mem, M1 = up1 M 1200 0 0 0 → pX11_in M1 x1 0 (M1.1 1202 0 0) (fun r2 M3 => ((r2 = 0 → pX11_bad M3 1 1 1 (fun r5 M6 => ((r5 = 0 → pX11_starts M6 x1 (fun M9 => ∀ v10 : Int32, v10 = (M9.1 1210 0 0) → ∃ n : Nat, lp (fun L s => bX11_add_54 x1 Q L s.1 s.2.1 s.2.2) n (M9, v10, 0))) ∧ (¬ r5 = 0 → Q 0 M6)))) ∧ (¬ r2 = 0 → ((¬ (M3.1 1209 0 0) = 64 → pX11_bad M3 0 1 1 (fun r12 M13 => ((r12 = 0 → pX11_starts M13 x1 (fun M16 => ∀ v17 : Int32, v17 = (M16.1 1210 0 0) → ∃ n : Nat, lp (fun L s => bX11_add_54 x1 Q L s.1 s.2.1 s.2.2) n (M16, v17, 0))) ∧ (¬ r12 = 0 → Q 0 M13)))) ∧ ((M3.1 1209 0 0) = 64 → pX11_bad M3 1 1 1 (fun r18 M19 => ((r18 = 0 → pX11_starts M19 x1 (fun M22 => ∀ v23 : Int32, v23 = (M22.1 1210 0 0) → ∃ n : Nat, lp (fun L s => bX11_add_54 x1 Q L s.1 s.2.1 s.2.2) n (M22, v23, 0))) ∧ (¬ r18 = 0 → Q 0 M19))))))))
set_option maxRecDepth 100000 in
set_option maxHeartbeats 400000 in
theorem wX11_add_205 {Γ : Gam} {G : Gm} {Qf : State → Prop} (hG : Gd G) (C : Cx Γ G cX11_add 6 RX11 (some .int) rmX11_add) {x1 : Int32} {Q : Int32 → Mem → Prop} (E : EndI Γ G Qf rmX11_add Q) {L205 : Mem × Int32 × Int32 × Int32 → Prop} (hL205 : ∀ s, L205 s → X Γ G Qf 6 0 0 205 [(0, .ref (ga G 11 0)), (3, .int s.2.1), (4, .int s.2.2.1), (5, .int s.2.2.2)] [] s.1) (M : Mem) (y3 : Int32) (y4 : Int32) (y5 : Int32) (h : bX11_add_205 x1 Q L205 M y3 y4 y5) : X Γ G Qf 6 0 0 205 [(0, .ref (ga G 11 0)), (3, .int y3), (4, .int y4), (5, .int y5)] [] M := by
  unfold bX11_add_205 at h
  refine x_iload C dX11_add_205 3 rfl ?_
  refine x_iload_n C dX11_add_207 1 rfl ?_
  refine x_icmp_ge (tgt := 239) C dX11_add_208 (by decide) (fun c57 => ?_) (fun c57 => ?_)
  · replace h := h.1 c57
    refine x_aload_n C dX11_add_239 0 rfl ?_
    refine x_dup C dX11_add_240 rfl ?_
    refine gf_11_9 C q159 z11 dX11_add_241 ?_
    refine x_iconst (v := 1) C dX11_add_244 rfl ?_
    refine x_iadd C dX11_add_245 ?_
    refine pf_11_9 C q159 z11 dX11_add_246 ?_
    refine X_nameM (fun M58 eM58 => ?_)
    replace h := h M58 eM58
    refine x_iload C dX11_add_249 2 rfl ?_
    exact x_iret C E h (Nat.le_of_ble_eq_true rfl) (Nat.le_of_ble_eq_true rfl) dX11_add_251
  · replace h := h.2 c57
    refine x_aload_n C dX11_add_211 0 rfl ?_
    refine gf_11_17 C q163 z11 dX11_add_212 ?_
    refine x_aload_n C dX11_add_215 0 rfl ?_
    refine gf_11_12 C q158 z11 dX11_add_216 ?_
    refine x_iload C dX11_add_219 2 rfl ?_
    obtain ⟨f59, h⟩ := h
    refine al_1212 C z1212 f59 dX11_add_221 ?_
    refine x_iload C dX11_add_222 3 rfl ?_
    obtain ⟨f60, h⟩ := h
    refine al_6212 C (vp_lt f59) f60 dX11_add_224 ?_
    obtain ⟨f61, h⟩ := h
    refine al_1217 C z1217 f61 dX11_add_225 ?_
    refine x_iload C dX11_add_226 2 rfl ?_
    refine x_dup2 C dX11_add_228 rfl rfl ?_
    refine al_6217 C (vp_lt f61) f59 dX11_add_229 ?_
    refine x_iconst (v := 1) C dX11_add_230 rfl ?_
    refine x_iadd C dX11_add_231 ?_
    refine as_6217 C (vp_lt f61) f59 dX11_add_232 ?_
    refine X_nameM (fun M62 eM62 => ?_)
    replace h := h M62 eM62
    obtain ⟨v63, ev63⟩ : ∃ z : Int32, z = y5 + 1 := ⟨_, rfl⟩
    replace h := h v63 ev63
    refine x_iinc (v := v63) (lv' := [(5, .int v63), (0, .ref (ga G 11 0)), (3, .int y3), (4, .int y4)]) (j := 3) C dX11_add_233 rfl (by rw [ev63]; rfl) (Nat.le_of_ble_eq_true rfl) rfl ?_
    refine x_goto (tgt := 205) C dX11_add_236 (by decide) ?_
    refine X_sub (lv' := [(0, .ref (ga G 11 0)), (3, .int y3), (4, .int y4), (5, .int v63)]) [1, 2, 3, 0] rfl ?_
    have w9 := hL205 (M62, y3, y4, v63) h
    dsimp only at w9
    exact w9
set_option maxRecDepth 100000 in
set_option maxHeartbeats 400000 in
theorem wX11_add_176 {Γ : Gam} {G : Gm} {Qf : State → Prop} (hG : Gd G) (C : Cx Γ G cX11_add 6 RX11 (some .int) rmX11_add) {x1 : Int32} {Q : Int32 → Mem → Prop} (E : EndI Γ G Qf rmX11_add Q) {L176 : Mem × Int32 × Int32 × Int32 → Prop} (hL176 : ∀ s, L176 s → X Γ G Qf 6 0 0 176 [(0, .ref (ga G 11 0)), (3, .int s.2.1), (4, .int s.2.2.1), (5, .int s.2.2.2)] [] s.1) (M : Mem) (y3 : Int32) (y4 : Int32) (y5 : Int32) (h : bX11_add_176 x1 Q L176 M y3 y4 y5) : X Γ G Qf 6 0 0 176 [(0, .ref (ga G 11 0)), (3, .int y3), (4, .int y4), (5, .int y5)] [] M := by
  unfold bX11_add_176 at h
  refine x_iload C dX11_add_176 3 rfl ?_
  refine x_aload_n C dX11_add_178 0 rfl ?_
  refine gf_11_10 C q155 z11 dX11_add_179 ?_
  refine x_icmp_ge (tgt := 202) C dX11_add_182 (by decide) (fun c52 => ?_) (fun c52 => ?_)
  · replace h := h.1 c52
    refine x_iconst (v := 0) C dX11_add_202 rfl ?_
    refine x_istore (lv' := [(5, .int 0), (0, .ref (ga G 11 0)), (3, .int y3), (4, .int y4)]) C dX11_add_203 (Nat.le_of_ble_eq_true rfl) rfl ?_
    obtain ⟨n9, h⟩ := h
    refine X_sub (lv' := [(0, .ref (ga G 11 0)), (3, .int y3), (4, .int y4), (5, .int 0)]) [1, 2, 3, 0] rfl ?_
    have hb : ∀ (L : Mem × Int32 × Int32 × Int32 → Prop) (s : Mem × Int32 × Int32 × Int32), (∀ t, L t → X Γ G Qf 6 0 0 205 [(0, .ref (ga G 11 0)), (3, .int t.2.1), (4, .int t.2.2.1), (5, .int t.2.2.2)] [] t.1) → bX11_add_205 x1 Q L s.1 s.2.1 s.2.2.1 s.2.2.2 → X Γ G Qf 6 0 0 205 [(0, .ref (ga G 11 0)), (3, .int s.2.1), (4, .int s.2.2.1), (5, .int s.2.2.2)] [] s.1 := fun L s hL h => wX11_add_205 hG C E hL s.1 s.2.1 s.2.2.1 s.2.2.2 h
    have w9 := lp_walk (P := fun s : Mem × Int32 × Int32 × Int32 => X Γ G Qf 6 0 0 205 [(0, .ref (ga G 11 0)), (3, .int s.2.1), (4, .int s.2.2.1), (5, .int s.2.2.2)] [] s.1) h hb
    dsimp only at w9
    exact w9
  · replace h := h.2 c52
    refine x_aload_n C dX11_add_185 0 rfl ?_
    refine gf_11_17 C q163 z11 dX11_add_186 ?_
    refine x_iload C dX11_add_189 3 rfl ?_
    obtain ⟨f53, h⟩ := h
    refine al_1217 C z1217 f53 dX11_add_191 ?_
    refine x_iload C dX11_add_192 2 rfl ?_
    refine x_iconst (v := 0) C dX11_add_194 rfl ?_
    obtain ⟨f54, h⟩ := h
    refine as_6217 C (vp_lt f53) f54 dX11_add_195 ?_
    refine X_nameM (fun M55 eM55 => ?_)
    replace h := h M55 eM55
    obtain ⟨v56, ev56⟩ : ∃ z : Int32, z = y5 + 1 := ⟨_, rfl⟩
    replace h := h v56 ev56
    refine x_iinc (v := v56) (lv' := [(5, .int v56), (0, .ref (ga G 11 0)), (3, .int y3), (4, .int y4)]) (j := 3) C dX11_add_196 rfl (by rw [ev56]; rfl) (Nat.le_of_ble_eq_true rfl) rfl ?_
    refine x_goto (tgt := 176) C dX11_add_199 (by decide) ?_
    refine X_sub (lv' := [(0, .ref (ga G 11 0)), (3, .int y3), (4, .int y4), (5, .int v56)]) [1, 2, 3, 0] rfl ?_
    have w9 := hL176 (M55, y3, y4, v56) h
    dsimp only at w9
    exact w9
set_option maxRecDepth 100000 in
set_option maxHeartbeats 400000 in
theorem wX11_add_123 {Γ : Gam} {G : Gm} {Qf : State → Prop} (hG : Gd G) (C : Cx Γ G cX11_add 6 RX11 (some .int) rmX11_add) {x1 : Int32} {Q : Int32 → Mem → Prop} (E : EndI Γ G Qf rmX11_add Q) (M : Mem) (y2 : Int32) (y3 : Int32) (h : bX11_add_123 x1 Q M y2 y3) : X Γ G Qf 6 0 0 123 [(0, .ref (ga G 11 0)), (2, .int y2), (3, .int y3)] [] M := by
  unfold bX11_add_123 at h
  refine x_aload_n C dX11_add_123 0 rfl ?_
  refine x_aload_n C dX11_add_124 0 rfl ?_
  refine gf_11_7 C q149 z11 dX11_add_125 ?_
  refine pf_11_5 C q160 z11 dX11_add_128 ?_
  refine X_nameM (fun M43 eM43 => ?_)
  replace h := h M43 eM43
  refine x_aload_n C dX11_add_131 0 rfl ?_
  refine x_calli (rest := []) C sv_X11_154 ob11 z11 (kX11_fine hG _ h) rfl rfl (Nat.le_of_ble_eq_true rfl) ⟨Nat.le_of_ble_eq_true rfl, Nat.le_of_ble_eq_true rfl⟩ rfl rfl ⟨Nat.le_of_ble_eq_true rfl, Nat.le_of_ble_eq_true rfl⟩ dX11_add_132 (fun r44 M45 h => ?_)
  refine x_if_ne (tgt := 151) C dX11_add_135 (by decide) (fun c46 => ?_) (fun c46 => ?_)
  · replace h := h.1 c46
    refine x_aload_n C dX11_add_151 0 rfl ?_
    refine gf_11_9 C q159 z11 dX11_add_152 ?_
    refine X_name (fun v47 ev47 => ?_)
    replace h := h v47 ev47
    refine x_istore (lv' := [(4, .int v47), (0, .ref (ga G 11 0)), (2, .int y2), (3, .int y3)]) C dX11_add_155 (Nat.le_of_ble_eq_true rfl) rfl ?_
    refine x_aload_n C dX11_add_157 1 rfl ?_
    refine gf_11_13 C q161 z11 dX11_add_158 ?_
    refine x_iload C dX11_add_161 0 rfl ?_
    refine x_iload_n C dX11_add_163 3 rfl ?_
    obtain ⟨f48, h⟩ := h
    refine as_1213 C z1213 f48 dX11_add_164 ?_
    refine X_nameM (fun M49 eM49 => ?_)
    replace h := h M49 eM49
    refine x_aload_n C dX11_add_165 1 rfl ?_
    refine gf_11_14 C q162 z11 dX11_add_166 ?_
    refine x_iload C dX11_add_169 0 rfl ?_
    refine x_iconst (v := 1) C dX11_add_171 rfl ?_
    refine as_1214 C z1214 f48 dX11_add_172 ?_
    refine X_nameM (fun M50 eM50 => ?_)
    replace h := h M50 eM50
    refine x_iconst (v := 0) C dX11_add_173 rfl ?_
    refine x_istore (lv' := [(5, .int 0), (4, .int v47), (0, .ref (ga G 11 0)), (2, .int y2), (3, .int y3)]) C dX11_add_174 (Nat.le_of_ble_eq_true rfl) rfl ?_
    obtain ⟨n9, h⟩ := h
    refine X_sub (lv' := [(0, .ref (ga G 11 0)), (3, .int y3), (4, .int v47), (5, .int 0)]) [2, 4, 1, 0] rfl ?_
    have hb : ∀ (L : Mem × Int32 × Int32 × Int32 → Prop) (s : Mem × Int32 × Int32 × Int32), (∀ t, L t → X Γ G Qf 6 0 0 176 [(0, .ref (ga G 11 0)), (3, .int t.2.1), (4, .int t.2.2.1), (5, .int t.2.2.2)] [] t.1) → bX11_add_176 x1 Q L s.1 s.2.1 s.2.2.1 s.2.2.2 → X Γ G Qf 6 0 0 176 [(0, .ref (ga G 11 0)), (3, .int s.2.1), (4, .int s.2.2.1), (5, .int s.2.2.2)] [] s.1 := fun L s hL h => wX11_add_176 hG C E hL s.1 s.2.1 s.2.2.1 s.2.2.2 h
    have w9 := lp_walk (P := fun s : Mem × Int32 × Int32 × Int32 => X Γ G Qf 6 0 0 176 [(0, .ref (ga G 11 0)), (3, .int s.2.1), (4, .int s.2.2.1), (5, .int s.2.2.2)] [] s.1) h hb
    dsimp only at w9
    exact w9
  · replace h := h.2 c46
    refine x_aload_n C dX11_add_138 0 rfl ?_
    refine x_iload_n C dX11_add_139 1 rfl ?_
    refine pf_11_10 C q155 z11 dX11_add_140 ?_
    refine X_nameM (fun M51 eM51 => ?_)
    replace h := h M51 eM51
    refine x_aload_n C dX11_add_143 0 rfl ?_
    refine gf_11_6 C q148 z11 dX11_add_144 ?_
    refine x_bipush (v := 10) C dX11_add_147 rfl ?_
    refine x_isub C dX11_add_149 ?_
    exact x_iret C E h (Nat.le_of_ble_eq_true rfl) (Nat.le_of_ble_eq_true rfl) dX11_add_150
set_option maxRecDepth 100000 in
set_option maxHeartbeats 400000 in
theorem wX11_add_110 {Γ : Gam} {G : Gm} {Qf : State → Prop} (hG : Gd G) (C : Cx Γ G cX11_add 6 RX11 (some .int) rmX11_add) {x1 : Int32} {Q : Int32 → Mem → Prop} (E : EndI Γ G Qf rmX11_add Q) (M : Mem) (y2 : Int32) (y3 : Int32) (h : bX11_add_110 x1 Q M y2 y3) : X Γ G Qf 6 0 0 110 [(0, .ref (ga G 11 0)), (2, .int y2), (3, .int y3)] [] M := by
  unfold bX11_add_110 at h
  refine x_iload_n C dX11_add_110 2 rfl ?_
  refine x_if_ne (tgt := 123) C dX11_add_111 (by decide) (fun c40 => ?_) (fun c40 => ?_)
  · replace h := h.1 c40
    refine X_sub (lv' := [(0, .ref (ga G 11 0)), (2, .int y2), (3, .int y3)]) [0, 1, 2] rfl ?_
    exact wX11_add_123 hG C E M y2 y3 h
  · replace h := h.2 c40
    refine x_aload_n C dX11_add_114 0 rfl ?_
    refine x_iconst (v := 1) C dX11_add_115 rfl ?_
    refine x_aload_n C dX11_add_116 0 rfl ?_
    refine gf_11_4 C q150 z11 dX11_add_117 ?_
    refine x_callv (rest := []) C sv_X11_150 ob11 z11 (kX11_wrong hG _ _ _ h) rfl rfl (Nat.le_of_ble_eq_true rfl) ⟨Nat.le_of_ble_eq_true rfl, Nat.le_of_ble_eq_true rfl⟩ rfl rfl ⟨Nat.le_of_ble_eq_true rfl, Nat.le_of_ble_eq_true rfl⟩ dX11_add_120 (fun M42 h => ?_)
    refine X_sub (lv' := [(0, .ref (ga G 11 0)), (2, .int y2), (3, .int y3)]) [0, 1, 2] rfl ?_
    exact wX11_add_123 hG C E M42 y2 y3 h
set_option maxRecDepth 100000 in
set_option maxHeartbeats 400000 in
theorem wX11_add_104 {Γ : Gam} {G : Gm} {Qf : State → Prop} (hG : Gd G) (C : Cx Γ G cX11_add 6 RX11 (some .int) rmX11_add) {x1 : Int32} {Q : Int32 → Mem → Prop} (E : EndI Γ G Qf rmX11_add Q) {L54 : Mem × Int32 × Int32 → Prop} (hL54 : ∀ s, L54 s → X Γ G Qf 6 0 0 54 [(0, .ref (ga G 11 0)), (2, .int s.2.1), (3, .int s.2.2)] [] s.1) (M : Mem) (y2 : Int32) (y3 : Int32) (h : bX11_add_104 x1 Q L54 M y2 y3) : X Γ G Qf 6 0 0 104 [(0, .ref (ga G 11 0)), (2, .int y2), (3, .int y3)] [] M := by
  unfold bX11_add_104 at h
  obtain ⟨v39, ev39⟩ : ∃ z : Int32, z = y3 + 1 := ⟨_, rfl⟩
  replace h := h v39 ev39
  refine x_iinc (v := v39) (lv' := [(3, .int v39), (0, .ref (ga G 11 0)), (2, .int y2)]) (j := 2) C dX11_add_104 rfl (by rw [ev39]; rfl) (Nat.le_of_ble_eq_true rfl) rfl ?_
  refine x_goto (tgt := 54) C dX11_add_107 (by decide) ?_
  refine X_sub (lv' := [(0, .ref (ga G 11 0)), (2, .int y2), (3, .int v39)]) [1, 2, 0] rfl ?_
  have w9 := hL54 (M, y2, v39) h
  dsimp only at w9
  exact w9
set_option maxRecDepth 100000 in
set_option maxHeartbeats 400000 in
theorem wX11_add_54 {Γ : Gam} {G : Gm} {Qf : State → Prop} (hG : Gd G) (C : Cx Γ G cX11_add 6 RX11 (some .int) rmX11_add) {x1 : Int32} {Q : Int32 → Mem → Prop} (E : EndI Γ G Qf rmX11_add Q) {L54 : Mem × Int32 × Int32 → Prop} (hL54 : ∀ s, L54 s → X Γ G Qf 6 0 0 54 [(0, .ref (ga G 11 0)), (2, .int s.2.1), (3, .int s.2.2)] [] s.1) (M : Mem) (y2 : Int32) (y3 : Int32) (h : bX11_add_54 x1 Q L54 M y2 y3) : X Γ G Qf 6 0 0 54 [(0, .ref (ga G 11 0)), (2, .int y2), (3, .int y3)] [] M := by
  unfold bX11_add_54 at h
  refine x_aload_n C dX11_add_54 0 rfl ?_
  refine x_calli (rest := []) C sv_X11_154 ob11 z11 (kX11_fine hG _ h) rfl rfl (Nat.le_of_ble_eq_true rfl) ⟨Nat.le_of_ble_eq_true rfl, Nat.le_of_ble_eq_true rfl⟩ rfl rfl ⟨Nat.le_of_ble_eq_true rfl, Nat.le_of_ble_eq_true rfl⟩ dX11_add_55 (fun r24 M25 h => ?_)
  refine x_if_eq (tgt := 110) C dX11_add_58 (by decide) (fun c26 => ?_) (fun c26 => ?_)
  · replace h := h.1 c26
    refine X_sub (lv' := [(0, .ref (ga G 11 0)), (2, .int y2), (3, .int y3)]) [0, 1, 2] rfl ?_
    exact wX11_add_110 hG C E M25 y2 y3 h
  · replace h := h.2 c26
    refine x_aload_n C dX11_add_61 0 rfl ?_
    refine x_calli (rest := []) C sv_X11_187 ob11 z11 (kX11_blanks hG _ h) rfl rfl (Nat.le_of_ble_eq_true rfl) ⟨Nat.le_of_ble_eq_true rfl, Nat.le_of_ble_eq_true rfl⟩ rfl rfl ⟨Nat.le_of_ble_eq_true rfl, Nat.le_of_ble_eq_true rfl⟩ dX11_add_62 (fun r27 M28 h => ?_)
    refine x_iconst (v := (-1)) C dX11_add_65 rfl ?_
    refine x_icmp_eq (tgt := 110) C dX11_add_66 (by decide) (fun c29 => ?_) (fun c29 => ?_)
    · replace h := h.1 c29
      refine X_sub (lv' := [(0, .ref (ga G 11 0)), (2, .int y2), (3, .int y3)]) [0, 1, 2] rfl ?_
      exact wX11_add_110 hG C E M28 y2 y3 h
    · replace h := h.2 c29
      refine x_aload_n C dX11_add_69 0 rfl ?_
      refine x_aload_n C dX11_add_70 0 rfl ?_
      refine gf_11_4 C q150 z11 dX11_add_71 ?_
      refine x_calli (rest := []) C sv_X11_135 ob11 z11 (kX11_byteAt hG _ _ h) rfl rfl (Nat.le_of_ble_eq_true rfl) ⟨Nat.le_of_ble_eq_true rfl, Nat.le_of_ble_eq_true rfl⟩ rfl rfl ⟨Nat.le_of_ble_eq_true rfl, Nat.le_of_ble_eq_true rfl⟩ dX11_add_74 (fun r30 M31 h => ?_)
      refine x_scalli (rest := []) C ss_X11_146 (kX11_isSmall hG _ _ h) rfl rfl (Nat.le_of_ble_eq_true rfl) ⟨Nat.le_of_ble_eq_true rfl, Nat.le_of_ble_eq_true rfl⟩ rfl rfl ⟨Nat.le_of_ble_eq_true rfl, Nat.le_of_ble_eq_true rfl⟩ dX11_add_77 (fun r32 M33 h => ?_)
      refine x_if_ne (tgt := 95) C dX11_add_80 (by decide) (fun c34 => ?_) (fun c34 => ?_)
      · replace h := h.1 c34
        refine x_aload_n C dX11_add_95 0 rfl ?_
        refine x_aload_n C dX11_add_96 0 rfl ?_
        refine gf_11_9 C q159 z11 dX11_add_97 ?_
        refine x_iload_n C dX11_add_100 2 rfl ?_
        refine x_callv (rest := []) C sv_X11_190 ob11 z11 (kX11_readsNext hG _ _ _ h) rfl rfl (Nat.le_of_ble_eq_true rfl) ⟨Nat.le_of_ble_eq_true rfl, Nat.le_of_ble_eq_true rfl⟩ rfl rfl ⟨Nat.le_of_ble_eq_true rfl, Nat.le_of_ble_eq_true rfl⟩ dX11_add_101 (fun M36 h => ?_)
        refine X_sub (lv' := [(0, .ref (ga G 11 0)), (2, .int y2), (3, .int y3)]) [0, 1, 2] rfl ?_
        exact wX11_add_104 hG C E hL54 M36 y2 y3 h
      · replace h := h.2 c34
        refine x_aload_n C dX11_add_83 0 rfl ?_
        refine x_iconst (v := 1) C dX11_add_84 rfl ?_
        refine x_aload_n C dX11_add_85 0 rfl ?_
        refine gf_11_4 C q150 z11 dX11_add_86 ?_
        refine x_callv (rest := []) C sv_X11_150 ob11 z11 (kX11_wrong hG _ _ _ h) rfl rfl (Nat.le_of_ble_eq_true rfl) ⟨Nat.le_of_ble_eq_true rfl, Nat.le_of_ble_eq_true rfl⟩ rfl rfl ⟨Nat.le_of_ble_eq_true rfl, Nat.le_of_ble_eq_true rfl⟩ dX11_add_89 (fun M38 h => ?_)
        refine x_goto (tgt := 104) C dX11_add_92 (by decide) ?_
        refine X_sub (lv' := [(0, .ref (ga G 11 0)), (2, .int y2), (3, .int y3)]) [0, 1, 2] rfl ?_
        exact wX11_add_104 hG C E hL54 M38 y2 y3 h
set_option maxRecDepth 100000 in
set_option maxHeartbeats 400000 in
theorem kX11_add {l : Launch} {G : Gm} (hG : Gd G) (M : Mem) (x1 : Int32) {Q : Int32 → Mem → Prop} (h : pX11_add M x1 Q) : Cti l G yX11_add cX11_add 6 .int rmX11_add [.ref (ga G 11 0), .int x1] M Q := by
  refine cti_of (own := RX11) (by decide +kernel) rfl (Nat.le_of_ble_eq_true rfl) hG (fun Γ Qf hl C E => ?_)
  subst hl
  show X Γ G Qf 6 0 0 0 [(0, .ref (ga G 11 0)), (1, .int x1)] [] M
  unfold pX11_add at h
  refine x_aload_n C dX11_add_0 0 rfl ?_
  refine x_iconst (v := 0) C dX11_add_1 rfl ?_
  refine pf_11_0 C q143 z11 dX11_add_2 ?_
  refine X_nameM (fun M1 eM1 => ?_)
  replace h := h M1 eM1
  refine x_aload_n C dX11_add_5 0 rfl ?_
  refine x_iload_n C dX11_add_6 1 rfl ?_
  refine x_iconst (v := 0) C dX11_add_7 rfl ?_
  refine x_aload_n C dX11_add_8 0 rfl ?_
  refine gf_11_2 C q145 z11 dX11_add_9 ?_
  refine x_scalli (rest := [.ref (ga G 11 0)]) C ss_X11_172 (kX11_in hG _ _ _ _ h) rfl rfl (Nat.le_of_ble_eq_true rfl) ⟨Nat.le_of_ble_eq_true rfl, Nat.le_of_ble_eq_true rfl⟩ rfl rfl ⟨Nat.le_of_ble_eq_true rfl, Nat.le_of_ble_eq_true rfl⟩ dX11_add_12 (fun r2 M3 h => ?_)
  refine x_if_eq (tgt := 27) C dX11_add_15 (by decide) (fun c4 => ?_) (fun c4 => ?_)
  · replace h := h.1 c4
    refine x_iconst (v := 1) C dX11_add_27 rfl ?_
    refine x_goto (tgt := 32) C dX11_add_28 (by decide) ?_
    refine x_iconst (v := 1) C dX11_add_32 rfl ?_
    refine x_iconst (v := 1) C dX11_add_33 rfl ?_
    refine x_calli (rest := []) C sv_X11_179 ob11 z11 (kX11_bad hG _ _ _ _ h) rfl rfl (Nat.le_of_ble_eq_true rfl) ⟨Nat.le_of_ble_eq_true rfl, Nat.le_of_ble_eq_true rfl⟩ rfl rfl ⟨Nat.le_of_ble_eq_true rfl, Nat.le_of_ble_eq_true rfl⟩ dX11_add_34 (fun r5 M6 h => ?_)
    refine x_if_eq (tgt := 42) C dX11_add_37 (by decide) (fun c7 => ?_) (fun c7 => ?_)
    · replace h := h.1 c7
      refine x_aload_n C dX11_add_42 0 rfl ?_
      refine x_iload_n C dX11_add_43 1 rfl ?_
      refine x_callv (rest := []) C sv_X11_183 ob11 z11 (kX11_starts hG _ _ h) rfl rfl (Nat.le_of_ble_eq_true rfl) ⟨Nat.le_of_ble_eq_true rfl, Nat.le_of_ble_eq_true rfl⟩ rfl rfl ⟨Nat.le_of_ble_eq_true rfl, Nat.le_of_ble_eq_true rfl⟩ dX11_add_44 (fun M9 h => ?_)
      refine x_aload_n C dX11_add_47 0 rfl ?_
      refine gf_11_10 C q155 z11 dX11_add_48 ?_
      refine X_name (fun v10 ev10 => ?_)
      replace h := h v10 ev10
      refine x_istore_n (lv' := [(2, .int v10), (0, .ref (ga G 11 0)), (1, .int x1)]) C dX11_add_51 rfl (Nat.le_of_ble_eq_true rfl) rfl ?_
      refine x_iconst (v := 0) C dX11_add_52 rfl ?_
      refine x_istore_n (lv' := [(3, .int 0), (2, .int v10), (0, .ref (ga G 11 0)), (1, .int x1)]) C dX11_add_53 rfl (Nat.le_of_ble_eq_true rfl) rfl ?_
      obtain ⟨n9, h⟩ := h
      refine X_sub (lv' := [(0, .ref (ga G 11 0)), (2, .int v10), (3, .int 0)]) [2, 1, 0] rfl ?_
      have hb : ∀ (L : Mem × Int32 × Int32 → Prop) (s : Mem × Int32 × Int32), (∀ t, L t → X Γ G Qf 6 0 0 54 [(0, .ref (ga G 11 0)), (2, .int t.2.1), (3, .int t.2.2)] [] t.1) → bX11_add_54 x1 Q L s.1 s.2.1 s.2.2 → X Γ G Qf 6 0 0 54 [(0, .ref (ga G 11 0)), (2, .int s.2.1), (3, .int s.2.2)] [] s.1 := fun L s hL h => wX11_add_54 hG C E hL s.1 s.2.1 s.2.2 h
      have w9 := lp_walk (P := fun s : Mem × Int32 × Int32 => X Γ G Qf 6 0 0 54 [(0, .ref (ga G 11 0)), (2, .int s.2.1), (3, .int s.2.2)] [] s.1) h hb
      dsimp only at w9
      exact w9
    · replace h := h.2 c7
      refine x_iconst (v := 0) C dX11_add_40 rfl ?_
      exact x_iret C E h (Nat.le_of_ble_eq_true rfl) (Nat.le_of_ble_eq_true rfl) dX11_add_41
  · replace h := h.2 c4
    refine x_aload_n C dX11_add_18 0 rfl ?_
    refine gf_11_9 C q159 z11 dX11_add_19 ?_
    refine x_bipush (v := 64) C dX11_add_22 rfl ?_
    refine x_icmp_ne (tgt := 31) C dX11_add_24 (by decide) (fun c11 => ?_) (fun c11 => ?_)
    · replace h := h.1 c11
      refine x_iconst (v := 0) C dX11_add_31 rfl ?_
      refine x_iconst (v := 1) C dX11_add_32 rfl ?_
      refine x_iconst (v := 1) C dX11_add_33 rfl ?_
      refine x_calli (rest := []) C sv_X11_179 ob11 z11 (kX11_bad hG _ _ _ _ h) rfl rfl (Nat.le_of_ble_eq_true rfl) ⟨Nat.le_of_ble_eq_true rfl, Nat.le_of_ble_eq_true rfl⟩ rfl rfl ⟨Nat.le_of_ble_eq_true rfl, Nat.le_of_ble_eq_true rfl⟩ dX11_add_34 (fun r12 M13 h => ?_)
      refine x_if_eq (tgt := 42) C dX11_add_37 (by decide) (fun c14 => ?_) (fun c14 => ?_)
      · replace h := h.1 c14
        refine x_aload_n C dX11_add_42 0 rfl ?_
        refine x_iload_n C dX11_add_43 1 rfl ?_
        refine x_callv (rest := []) C sv_X11_183 ob11 z11 (kX11_starts hG _ _ h) rfl rfl (Nat.le_of_ble_eq_true rfl) ⟨Nat.le_of_ble_eq_true rfl, Nat.le_of_ble_eq_true rfl⟩ rfl rfl ⟨Nat.le_of_ble_eq_true rfl, Nat.le_of_ble_eq_true rfl⟩ dX11_add_44 (fun M16 h => ?_)
        refine x_aload_n C dX11_add_47 0 rfl ?_
        refine gf_11_10 C q155 z11 dX11_add_48 ?_
        refine X_name (fun v17 ev17 => ?_)
        replace h := h v17 ev17
        refine x_istore_n (lv' := [(2, .int v17), (0, .ref (ga G 11 0)), (1, .int x1)]) C dX11_add_51 rfl (Nat.le_of_ble_eq_true rfl) rfl ?_
        refine x_iconst (v := 0) C dX11_add_52 rfl ?_
        refine x_istore_n (lv' := [(3, .int 0), (2, .int v17), (0, .ref (ga G 11 0)), (1, .int x1)]) C dX11_add_53 rfl (Nat.le_of_ble_eq_true rfl) rfl ?_
        obtain ⟨n9, h⟩ := h
        refine X_sub (lv' := [(0, .ref (ga G 11 0)), (2, .int v17), (3, .int 0)]) [2, 1, 0] rfl ?_
        have hb : ∀ (L : Mem × Int32 × Int32 → Prop) (s : Mem × Int32 × Int32), (∀ t, L t → X Γ G Qf 6 0 0 54 [(0, .ref (ga G 11 0)), (2, .int t.2.1), (3, .int t.2.2)] [] t.1) → bX11_add_54 x1 Q L s.1 s.2.1 s.2.2 → X Γ G Qf 6 0 0 54 [(0, .ref (ga G 11 0)), (2, .int s.2.1), (3, .int s.2.2)] [] s.1 := fun L s hL h => wX11_add_54 hG C E hL s.1 s.2.1 s.2.2 h
        have w9 := lp_walk (P := fun s : Mem × Int32 × Int32 => X Γ G Qf 6 0 0 54 [(0, .ref (ga G 11 0)), (2, .int s.2.1), (3, .int s.2.2)] [] s.1) h hb
        dsimp only at w9
        exact w9
      · replace h := h.2 c14
        refine x_iconst (v := 0) C dX11_add_40 rfl ?_
        exact x_iret C E h (Nat.le_of_ble_eq_true rfl) (Nat.le_of_ble_eq_true rfl) dX11_add_41
    · replace h := h.2 c11
      refine x_iconst (v := 1) C dX11_add_27 rfl ?_
      refine x_goto (tgt := 32) C dX11_add_28 (by decide) ?_
      refine x_iconst (v := 1) C dX11_add_32 rfl ?_
      refine x_iconst (v := 1) C dX11_add_33 rfl ?_
      refine x_calli (rest := []) C sv_X11_179 ob11 z11 (kX11_bad hG _ _ _ _ h) rfl rfl (Nat.le_of_ble_eq_true rfl) ⟨Nat.le_of_ble_eq_true rfl, Nat.le_of_ble_eq_true rfl⟩ rfl rfl ⟨Nat.le_of_ble_eq_true rfl, Nat.le_of_ble_eq_true rfl⟩ dX11_add_34 (fun r18 M19 h => ?_)
      refine x_if_eq (tgt := 42) C dX11_add_37 (by decide) (fun c20 => ?_) (fun c20 => ?_)
      · replace h := h.1 c20
        refine x_aload_n C dX11_add_42 0 rfl ?_
        refine x_iload_n C dX11_add_43 1 rfl ?_
        refine x_callv (rest := []) C sv_X11_183 ob11 z11 (kX11_starts hG _ _ h) rfl rfl (Nat.le_of_ble_eq_true rfl) ⟨Nat.le_of_ble_eq_true rfl, Nat.le_of_ble_eq_true rfl⟩ rfl rfl ⟨Nat.le_of_ble_eq_true rfl, Nat.le_of_ble_eq_true rfl⟩ dX11_add_44 (fun M22 h => ?_)
        refine x_aload_n C dX11_add_47 0 rfl ?_
        refine gf_11_10 C q155 z11 dX11_add_48 ?_
        refine X_name (fun v23 ev23 => ?_)
        replace h := h v23 ev23
        refine x_istore_n (lv' := [(2, .int v23), (0, .ref (ga G 11 0)), (1, .int x1)]) C dX11_add_51 rfl (Nat.le_of_ble_eq_true rfl) rfl ?_
        refine x_iconst (v := 0) C dX11_add_52 rfl ?_
        refine x_istore_n (lv' := [(3, .int 0), (2, .int v23), (0, .ref (ga G 11 0)), (1, .int x1)]) C dX11_add_53 rfl (Nat.le_of_ble_eq_true rfl) rfl ?_
        obtain ⟨n9, h⟩ := h
        refine X_sub (lv' := [(0, .ref (ga G 11 0)), (2, .int v23), (3, .int 0)]) [2, 1, 0] rfl ?_
        have hb : ∀ (L : Mem × Int32 × Int32 → Prop) (s : Mem × Int32 × Int32), (∀ t, L t → X Γ G Qf 6 0 0 54 [(0, .ref (ga G 11 0)), (2, .int t.2.1), (3, .int t.2.2)] [] t.1) → bX11_add_54 x1 Q L s.1 s.2.1 s.2.2 → X Γ G Qf 6 0 0 54 [(0, .ref (ga G 11 0)), (2, .int s.2.1), (3, .int s.2.2)] [] s.1 := fun L s hL h => wX11_add_54 hG C E hL s.1 s.2.1 s.2.2 h
        have w9 := lp_walk (P := fun s : Mem × Int32 × Int32 => X Γ G Qf 6 0 0 54 [(0, .ref (ga G 11 0)), (2, .int s.2.1), (3, .int s.2.2)] [] s.1) h hb
        dsimp only at w9
        exact w9
      · replace h := h.2 c20
        refine x_iconst (v := 0) C dX11_add_40 rfl ?_
        exact x_iret C E h (Nat.le_of_ble_eq_true rfl) (Nat.le_of_ble_eq_true rfl) dX11_add_41
def rmX11_find : Room := { frames := 2, cells := 0, slots := 0, locals := 42 }
def bX11_find_77 (x1 : Int32) (Q : Int32 → Mem → Prop) (M : Mem) (y2 : Int32) (y3 : Int32) (y4 : Int32) : Prop :=
  ∀ M31 : Mem, M31 = up1 M 1206 0 0 y2 → ∀ M32 : Mem, M32 = up1 M31 1207 0 0 y3 → ((y4 = 0 → Q (-1) M32) ∧ (¬ y4 = 0 → pX11_seek M32 (fun r34 M35 => Q r34 M35)))
def bX11_find_74 (x1 : Int32) (Q : Int32 → Mem → Prop) (M : Mem) (y2 : Int32) (y3 : Int32) : Prop :=
  bX11_find_77 x1 Q M y2 y3 0
def pX11_find (M : Mem) (x1 : Int32) (Q : Int32 → Mem → Prop) : Prop :=
  ∀ M1 : Mem, M1 = up1 M 1200 0 0 0 → pX11_in M1 x1 0 (M1.1 1202 0 0) (fun r2 M3 => ((¬ r2 = 0 → pX11_bad M3 0 1 1 (fun r5 M6 => ((r5 = 0 → ∀ v8 : Int32, v8 = (M6.1 1206 0 0) → ∀ v9 : Int32, v9 = (M6.1 1207 0 0) → pX11_starts M6 x1 (fun M11 => pX11_readsWord M11 (fun M13 => pX11_fine M13 (fun r14 M15 => ((r14 = 0 → bX11_find_74 x1 Q M15 v8 v9) ∧ (¬ r14 = 0 → ((¬ (M15.1 1204 0 0) = (M15.1 1203 0 0) → bX11_find_74 x1 Q M15 v8 v9) ∧ ((M15.1 1204 0 0) = (M15.1 1203 0 0) → bX11_find_77 x1 Q M15 v8 v9 1)))))))) ∧ (¬ r5 = 0 → Q 0 M6)))) ∧ (r2 = 0 → pX11_bad M3 1 1 1 (fun r18 M19 => ((r18 = 0 → ∀ v21 : Int32, v21 = (M19.1 1206 0 0) → ∀ v22 : Int32, v22 = (M19.1 1207 0 0) → pX11_starts M19 x1 (fun M24 => pX11_readsWord M24 (fun M26 => pX11_fine M26 (fun r27 M28 => ((r27 = 0 → bX11_find_74 x1 Q M28 v21 v22) ∧ (¬ r27 = 0 → ((¬ (M28.1 1204 0 0) = (M28.1 1203 0 0) → bX11_find_74 x1 Q M28 v21 v22) ∧ ((M28.1 1204 0 0) = (M28.1 1203 0 0) → bX11_find_77 x1 Q M28 v21 v22 1)))))))) ∧ (¬ r18 = 0 → Q 0 M19))))))
set_option maxRecDepth 100000 in
set_option maxHeartbeats 400000 in
theorem wX11_find_77 {Γ : Gam} {G : Gm} {Qf : State → Prop} (hG : Gd G) (C : Cx Γ G cX11_find 5 RX11 (some .int) rmX11_find) {x1 : Int32} {Q : Int32 → Mem → Prop} (E : EndI Γ G Qf rmX11_find Q) (M : Mem) (y2 : Int32) (y3 : Int32) (y4 : Int32) (h : bX11_find_77 x1 Q M y2 y3 y4) : X Γ G Qf 5 0 0 77 [(0, .ref (ga G 11 0)), (2, .int y2), (3, .int y3), (4, .int y4)] [] M := by
  unfold bX11_find_77 at h
  refine x_aload_n C dX11_find_77 0 rfl ?_
  refine x_iload_n C dX11_find_78 1 rfl ?_
  refine pf_11_6 C q148 z11 dX11_find_79 ?_
  refine X_nameM (fun M31 eM31 => ?_)
  replace h := h M31 eM31
  refine x_aload_n C dX11_find_82 0 rfl ?_
  refine x_iload_n C dX11_find_83 2 rfl ?_
  refine pf_11_7 C q149 z11 dX11_find_84 ?_
  refine X_nameM (fun M32 eM32 => ?_)
  replace h := h M32 eM32
  refine x_iload C dX11_find_87 3 rfl ?_
  refine x_if_eq (tgt := 99) C dX11_find_89 (by decide) (fun c33 => ?_) (fun c33 => ?_)
  · replace h := h.1 c33
    refine x_iconst (v := (-1)) C dX11_find_99 rfl ?_
    exact x_iret C E h (Nat.le_of_ble_eq_true rfl) (Nat.le_of_ble_eq_true rfl) dX11_find_100
  · replace h := h.2 c33
    refine x_aload_n C dX11_find_92 0 rfl ?_
    refine x_calli (rest := []) C sv_X11_168 ob11 z11 (kX11_seek hG _ h) rfl rfl (Nat.le_of_ble_eq_true rfl) ⟨Nat.le_of_ble_eq_true rfl, Nat.le_of_ble_eq_true rfl⟩ rfl rfl ⟨Nat.le_of_ble_eq_true rfl, Nat.le_of_ble_eq_true rfl⟩ dX11_find_93 (fun r34 M35 h => ?_)
    refine x_goto (tgt := 100) C dX11_find_96 (by decide) ?_
    exact x_iret C E h (Nat.le_of_ble_eq_true rfl) (Nat.le_of_ble_eq_true rfl) dX11_find_100
set_option maxRecDepth 100000 in
set_option maxHeartbeats 400000 in
theorem wX11_find_74 {Γ : Gam} {G : Gm} {Qf : State → Prop} (hG : Gd G) (C : Cx Γ G cX11_find 5 RX11 (some .int) rmX11_find) {x1 : Int32} {Q : Int32 → Mem → Prop} (E : EndI Γ G Qf rmX11_find Q) (M : Mem) (y2 : Int32) (y3 : Int32) (h : bX11_find_74 x1 Q M y2 y3) : X Γ G Qf 5 0 0 74 [(0, .ref (ga G 11 0)), (2, .int y2), (3, .int y3)] [] M := by
  unfold bX11_find_74 at h
  refine x_iconst (v := 0) C dX11_find_74 rfl ?_
  refine x_istore (lv' := [(4, .int 0), (0, .ref (ga G 11 0)), (2, .int y2), (3, .int y3)]) C dX11_find_75 (Nat.le_of_ble_eq_true rfl) rfl ?_
  refine X_sub (lv' := [(0, .ref (ga G 11 0)), (2, .int y2), (3, .int y3), (4, .int 0)]) [1, 2, 3, 0] rfl ?_
  exact wX11_find_77 hG C E M y2 y3 0 h
set_option maxRecDepth 100000 in
set_option maxHeartbeats 400000 in
theorem kX11_find {l : Launch} {G : Gm} (hG : Gd G) (M : Mem) (x1 : Int32) {Q : Int32 → Mem → Prop} (h : pX11_find M x1 Q) : Cti l G yX11_find cX11_find 5 .int rmX11_find [.ref (ga G 11 0), .int x1] M Q := by
  refine cti_of (own := RX11) (by decide +kernel) rfl (Nat.le_of_ble_eq_true rfl) hG (fun Γ Qf hl C E => ?_)
  subst hl
  show X Γ G Qf 5 0 0 0 [(0, .ref (ga G 11 0)), (1, .int x1)] [] M
  unfold pX11_find at h
  refine x_aload_n C dX11_find_0 0 rfl ?_
  refine x_iconst (v := 0) C dX11_find_1 rfl ?_
  refine pf_11_0 C q143 z11 dX11_find_2 ?_
  refine X_nameM (fun M1 eM1 => ?_)
  replace h := h M1 eM1
  refine x_aload_n C dX11_find_5 0 rfl ?_
  refine x_iload_n C dX11_find_6 1 rfl ?_
  refine x_iconst (v := 0) C dX11_find_7 rfl ?_
  refine x_aload_n C dX11_find_8 0 rfl ?_
  refine gf_11_2 C q145 z11 dX11_find_9 ?_
  refine x_scalli (rest := [.ref (ga G 11 0)]) C ss_X11_172 (kX11_in hG _ _ _ _ h) rfl rfl (Nat.le_of_ble_eq_true rfl) ⟨Nat.le_of_ble_eq_true rfl, Nat.le_of_ble_eq_true rfl⟩ rfl rfl ⟨Nat.le_of_ble_eq_true rfl, Nat.le_of_ble_eq_true rfl⟩ dX11_find_12 (fun r2 M3 h => ?_)
  refine x_if_ne (tgt := 22) C dX11_find_15 (by decide) (fun c4 => ?_) (fun c4 => ?_)
  · replace h := h.1 c4
    refine x_iconst (v := 0) C dX11_find_22 rfl ?_
    refine x_iconst (v := 1) C dX11_find_23 rfl ?_
    refine x_iconst (v := 1) C dX11_find_24 rfl ?_
    refine x_calli (rest := []) C sv_X11_179 ob11 z11 (kX11_bad hG _ _ _ _ h) rfl rfl (Nat.le_of_ble_eq_true rfl) ⟨Nat.le_of_ble_eq_true rfl, Nat.le_of_ble_eq_true rfl⟩ rfl rfl ⟨Nat.le_of_ble_eq_true rfl, Nat.le_of_ble_eq_true rfl⟩ dX11_find_25 (fun r5 M6 h => ?_)
    refine x_if_eq (tgt := 33) C dX11_find_28 (by decide) (fun c7 => ?_) (fun c7 => ?_)
    · replace h := h.1 c7
      refine x_aload_n C dX11_find_33 0 rfl ?_
      refine gf_11_6 C q148 z11 dX11_find_34 ?_
      refine X_name (fun v8 ev8 => ?_)
      replace h := h v8 ev8
      refine x_istore_n (lv' := [(2, .int v8), (0, .ref (ga G 11 0)), (1, .int x1)]) C dX11_find_37 rfl (Nat.le_of_ble_eq_true rfl) rfl ?_
      refine x_aload_n C dX11_find_38 1 rfl ?_
      refine gf_11_7 C q149 z11 dX11_find_39 ?_
      refine X_name (fun v9 ev9 => ?_)
      replace h := h v9 ev9
      refine x_istore_n (lv' := [(3, .int v9), (2, .int v8), (0, .ref (ga G 11 0)), (1, .int x1)]) C dX11_find_42 rfl (Nat.le_of_ble_eq_true rfl) rfl ?_
      refine x_aload_n C dX11_find_43 2 rfl ?_
      refine x_iload_n C dX11_find_44 3 rfl ?_
      refine x_callv (rest := []) C sv_X11_183 ob11 z11 (kX11_starts hG _ _ h) rfl rfl (Nat.le_of_ble_eq_true rfl) ⟨Nat.le_of_ble_eq_true rfl, Nat.le_of_ble_eq_true rfl⟩ rfl rfl ⟨Nat.le_of_ble_eq_true rfl, Nat.le_of_ble_eq_true rfl⟩ dX11_find_45 (fun M11 h => ?_)
      refine x_aload_n C dX11_find_48 2 rfl ?_
      refine x_callv (rest := []) C sv_X11_165 ob11 z11 (kX11_readsWord hG _ h) rfl rfl (Nat.le_of_ble_eq_true rfl) ⟨Nat.le_of_ble_eq_true rfl, Nat.le_of_ble_eq_true rfl⟩ rfl rfl ⟨Nat.le_of_ble_eq_true rfl, Nat.le_of_ble_eq_true rfl⟩ dX11_find_49 (fun M13 h => ?_)
      refine x_aload_n C dX11_find_52 2 rfl ?_
      refine x_calli (rest := []) C sv_X11_154 ob11 z11 (kX11_fine hG _ h) rfl rfl (Nat.le_of_ble_eq_true rfl) ⟨Nat.le_of_ble_eq_true rfl, Nat.le_of_ble_eq_true rfl⟩ rfl rfl ⟨Nat.le_of_ble_eq_true rfl, Nat.le_of_ble_eq_true rfl⟩ dX11_find_53 (fun r14 M15 h => ?_)
      refine x_if_eq (tgt := 74) C dX11_find_56 (by decide) (fun c16 => ?_) (fun c16 => ?_)
      · replace h := h.1 c16
        refine X_sub (lv' := [(0, .ref (ga G 11 0)), (2, .int v8), (3, .int v9)]) [2, 1, 0] rfl ?_
        exact wX11_find_74 hG C E M15 v8 v9 h
      · replace h := h.2 c16
        refine x_aload_n C dX11_find_59 2 rfl ?_
        refine gf_11_4 C q150 z11 dX11_find_60 ?_
        refine x_aload_n C dX11_find_63 2 rfl ?_
        refine gf_11_3 C q147 z11 dX11_find_64 ?_
        refine x_icmp_ne (tgt := 74) C dX11_find_67 (by decide) (fun c17 => ?_) (fun c17 => ?_)
        · replace h := h.1 c17
          refine X_sub (lv' := [(0, .ref (ga G 11 0)), (2, .int v8), (3, .int v9)]) [2, 1, 0] rfl ?_
          exact wX11_find_74 hG C E M15 v8 v9 h
        · replace h := h.2 c17
          refine x_iconst (v := 1) C dX11_find_70 rfl ?_
          refine x_goto (tgt := 75) C dX11_find_71 (by decide) ?_
          refine x_istore (lv' := [(4, .int 1), (3, .int v9), (2, .int v8), (0, .ref (ga G 11 0)), (1, .int x1)]) C dX11_find_75 (Nat.le_of_ble_eq_true rfl) rfl ?_
          refine X_sub (lv' := [(0, .ref (ga G 11 0)), (2, .int v8), (3, .int v9), (4, .int 1)]) [3, 2, 1, 0] rfl ?_
          exact wX11_find_77 hG C E M15 v8 v9 1 h
    · replace h := h.2 c7
      refine x_iconst (v := 0) C dX11_find_31 rfl ?_
      exact x_iret C E h (Nat.le_of_ble_eq_true rfl) (Nat.le_of_ble_eq_true rfl) dX11_find_32
  · replace h := h.2 c4
    refine x_iconst (v := 1) C dX11_find_18 rfl ?_
    refine x_goto (tgt := 23) C dX11_find_19 (by decide) ?_
    refine x_iconst (v := 1) C dX11_find_23 rfl ?_
    refine x_iconst (v := 1) C dX11_find_24 rfl ?_
    refine x_calli (rest := []) C sv_X11_179 ob11 z11 (kX11_bad hG _ _ _ _ h) rfl rfl (Nat.le_of_ble_eq_true rfl) ⟨Nat.le_of_ble_eq_true rfl, Nat.le_of_ble_eq_true rfl⟩ rfl rfl ⟨Nat.le_of_ble_eq_true rfl, Nat.le_of_ble_eq_true rfl⟩ dX11_find_25 (fun r18 M19 h => ?_)
    refine x_if_eq (tgt := 33) C dX11_find_28 (by decide) (fun c20 => ?_) (fun c20 => ?_)
    · replace h := h.1 c20
      refine x_aload_n C dX11_find_33 0 rfl ?_
      refine gf_11_6 C q148 z11 dX11_find_34 ?_
      refine X_name (fun v21 ev21 => ?_)
      replace h := h v21 ev21
      refine x_istore_n (lv' := [(2, .int v21), (0, .ref (ga G 11 0)), (1, .int x1)]) C dX11_find_37 rfl (Nat.le_of_ble_eq_true rfl) rfl ?_
      refine x_aload_n C dX11_find_38 1 rfl ?_
      refine gf_11_7 C q149 z11 dX11_find_39 ?_
      refine X_name (fun v22 ev22 => ?_)
      replace h := h v22 ev22
      refine x_istore_n (lv' := [(3, .int v22), (2, .int v21), (0, .ref (ga G 11 0)), (1, .int x1)]) C dX11_find_42 rfl (Nat.le_of_ble_eq_true rfl) rfl ?_
      refine x_aload_n C dX11_find_43 2 rfl ?_
      refine x_iload_n C dX11_find_44 3 rfl ?_
      refine x_callv (rest := []) C sv_X11_183 ob11 z11 (kX11_starts hG _ _ h) rfl rfl (Nat.le_of_ble_eq_true rfl) ⟨Nat.le_of_ble_eq_true rfl, Nat.le_of_ble_eq_true rfl⟩ rfl rfl ⟨Nat.le_of_ble_eq_true rfl, Nat.le_of_ble_eq_true rfl⟩ dX11_find_45 (fun M24 h => ?_)
      refine x_aload_n C dX11_find_48 2 rfl ?_
      refine x_callv (rest := []) C sv_X11_165 ob11 z11 (kX11_readsWord hG _ h) rfl rfl (Nat.le_of_ble_eq_true rfl) ⟨Nat.le_of_ble_eq_true rfl, Nat.le_of_ble_eq_true rfl⟩ rfl rfl ⟨Nat.le_of_ble_eq_true rfl, Nat.le_of_ble_eq_true rfl⟩ dX11_find_49 (fun M26 h => ?_)
      refine x_aload_n C dX11_find_52 2 rfl ?_
      refine x_calli (rest := []) C sv_X11_154 ob11 z11 (kX11_fine hG _ h) rfl rfl (Nat.le_of_ble_eq_true rfl) ⟨Nat.le_of_ble_eq_true rfl, Nat.le_of_ble_eq_true rfl⟩ rfl rfl ⟨Nat.le_of_ble_eq_true rfl, Nat.le_of_ble_eq_true rfl⟩ dX11_find_53 (fun r27 M28 h => ?_)
      refine x_if_eq (tgt := 74) C dX11_find_56 (by decide) (fun c29 => ?_) (fun c29 => ?_)
      · replace h := h.1 c29
        refine X_sub (lv' := [(0, .ref (ga G 11 0)), (2, .int v21), (3, .int v22)]) [2, 1, 0] rfl ?_
        exact wX11_find_74 hG C E M28 v21 v22 h
      · replace h := h.2 c29
        refine x_aload_n C dX11_find_59 2 rfl ?_
        refine gf_11_4 C q150 z11 dX11_find_60 ?_
        refine x_aload_n C dX11_find_63 2 rfl ?_
        refine gf_11_3 C q147 z11 dX11_find_64 ?_
        refine x_icmp_ne (tgt := 74) C dX11_find_67 (by decide) (fun c30 => ?_) (fun c30 => ?_)
        · replace h := h.1 c30
          refine X_sub (lv' := [(0, .ref (ga G 11 0)), (2, .int v21), (3, .int v22)]) [2, 1, 0] rfl ?_
          exact wX11_find_74 hG C E M28 v21 v22 h
        · replace h := h.2 c30
          refine x_iconst (v := 1) C dX11_find_70 rfl ?_
          refine x_goto (tgt := 75) C dX11_find_71 (by decide) ?_
          refine x_istore (lv' := [(4, .int 1), (3, .int v22), (2, .int v21), (0, .ref (ga G 11 0)), (1, .int x1)]) C dX11_find_75 (Nat.le_of_ble_eq_true rfl) rfl ?_
          refine X_sub (lv' := [(0, .ref (ga G 11 0)), (2, .int v21), (3, .int v22), (4, .int 1)]) [3, 2, 1, 0] rfl ?_
          exact wX11_find_77 hG C E M28 v21 v22 1 h
    · replace h := h.2 c20
      refine x_iconst (v := 0) C dX11_find_31 rfl ?_
      exact x_iret C E h (Nat.le_of_ble_eq_true rfl) (Nat.le_of_ble_eq_true rfl) dX11_find_32
def rmX11_fault : Room := { frames := 0, cells := 0, slots := 0, locals := 0 }
def pX11_fault (M : Mem) (Q : Int32 → Mem → Prop) : Prop :=
  ∀ M1 : Mem, M1 = up1 M 1200 0 0 0 → Q (M1.1 1205 0 0) M1
set_option maxRecDepth 100000 in
set_option maxHeartbeats 400000 in
theorem kX11_fault {l : Launch} {G : Gm} (hG : Gd G) (M : Mem)  {Q : Int32 → Mem → Prop} (h : pX11_fault M Q) : Cti l G yX11_fault cX11_fault 1 .int rmX11_fault [.ref (ga G 11 0)] M Q := by
  refine cti_of (own := RX11) (by decide +kernel) rfl (Nat.le_of_ble_eq_true rfl) hG (fun Γ Qf hl C E => ?_)
  subst hl
  show X Γ G Qf 1 0 0 0 [(0, .ref (ga G 11 0))] [] M
  unfold pX11_fault at h
  refine x_aload_n C dX11_fault_0 0 rfl ?_
  refine x_iconst (v := 0) C dX11_fault_1 rfl ?_
  refine pf_11_0 C q143 z11 dX11_fault_2 ?_
  refine X_nameM (fun M1 eM1 => ?_)
  replace h := h M1 eM1
  refine x_aload_n C dX11_fault_5 0 rfl ?_
  refine gf_11_5 C q160 z11 dX11_fault_6 ?_
  exact x_iret C E h (Nat.le_of_ble_eq_true rfl) (Nat.le_of_ble_eq_true rfl) dX11_fault_9
def rmX11_readsAsked : Room := { frames := 2, cells := 0, slots := 0, locals := 42 }
def pX11_readsAsked (M : Mem) (x1 : Int32) (x2 : Int32) (Q : Mem → Prop) : Prop :=
  pX11_readsWord M (fun M2 => pX11_fine M2 (fun r3 M4 => ((¬ r3 = 0 → vp_in (M4.1 1233 0 0) 24 ∧ pX11_seek M4 (fun r7 M8 => ∀ M9 : Mem, M9 = up1 M8 6236 (tn (M4.1 1233 0 0)) (tn 0) r7 → ∀ M10 : Mem, M10 = up1 M9 6236 (tn (M4.1 1233 0 0)) (tn 1) 1 → ∀ M11 : Mem, M11 = up1 M10 6236 (tn (M4.1 1233 0 0)) (tn 2) x1 → ∀ M12 : Mem, M12 = up1 M11 6236 (tn (M4.1 1233 0 0)) (tn 3) x2 → ∀ M13 : Mem, M13 = up1 M12 1233 0 0 ((M12.1 1233 0 0) + 1) → Q M13)) ∧ (r3 = 0 → Q M4))))
set_option maxRecDepth 100000 in
set_option maxHeartbeats 400000 in
theorem kX11_readsAsked {l : Launch} {G : Gm} (hG : Gd G) (M : Mem) (x1 : Int32) (x2 : Int32) {Q : Mem → Prop} (h : pX11_readsAsked M x1 x2 Q) : Ctv l G yX11_readsAsked cX11_readsAsked 4 rmX11_readsAsked [.ref (ga G 11 0), .int x1, .int x2] M Q := by
  refine ctv_of (own := RX11) (by decide +kernel) rfl (Nat.le_of_ble_eq_true rfl) hG (fun Γ Qf hl C E => ?_)
  subst hl
  show X Γ G Qf 4 0 0 0 [(0, .ref (ga G 11 0)), (1, .int x1), (2, .int x2)] [] M
  unfold pX11_readsAsked at h
  refine x_aload_n C dX11_readsAsked_0 0 rfl ?_
  refine x_callv (rest := []) C sv_X11_165 ob11 z11 (kX11_readsWord hG _ h) rfl rfl (Nat.le_of_ble_eq_true rfl) ⟨Nat.le_of_ble_eq_true rfl, Nat.le_of_ble_eq_true rfl⟩ rfl rfl ⟨Nat.le_of_ble_eq_true rfl, Nat.le_of_ble_eq_true rfl⟩ dX11_readsAsked_1 (fun M2 h => ?_)
  refine x_aload_n C dX11_readsAsked_4 0 rfl ?_
  refine x_calli (rest := []) C sv_X11_154 ob11 z11 (kX11_fine hG _ h) rfl rfl (Nat.le_of_ble_eq_true rfl) ⟨Nat.le_of_ble_eq_true rfl, Nat.le_of_ble_eq_true rfl⟩ rfl rfl ⟨Nat.le_of_ble_eq_true rfl, Nat.le_of_ble_eq_true rfl⟩ dX11_readsAsked_5 (fun r3 M4 h => ?_)
  refine x_if_ne (tgt := 12) C dX11_readsAsked_8 (by decide) (fun c5 => ?_) (fun c5 => ?_)
  · replace h := h.1 c5
    refine x_aload_n C dX11_readsAsked_12 0 rfl ?_
    refine gf_11_36 C q164 z11 dX11_readsAsked_13 ?_
    refine x_aload_n C dX11_readsAsked_16 0 rfl ?_
    refine gf_11_33 C q165 z11 dX11_readsAsked_17 ?_
    obtain ⟨f6, h⟩ := h
    refine al_1236 C z1236 f6 dX11_readsAsked_20 ?_
    refine x_astore_n (lv' := [(3, .ref (ga G 6236 (tn (M4.1 1233 0 0)))), (0, .ref (ga G 11 0)), (1, .int x1), (2, .int x2)]) C dX11_readsAsked_21 rfl (Nat.le_of_ble_eq_true rfl) rfl ?_
    refine x_aload_n C dX11_readsAsked_22 0 rfl ?_
    refine x_iconst (v := 0) C dX11_readsAsked_23 rfl ?_
    refine x_aload_n C dX11_readsAsked_24 1 rfl ?_
    refine x_calli (rest := [.int 0, .ref (ga G 6236 (tn (M4.1 1233 0 0)))]) C sv_X11_168 ob11 z11 (kX11_seek hG _ h) rfl rfl (Nat.le_of_ble_eq_true rfl) ⟨Nat.le_of_ble_eq_true rfl, Nat.le_of_ble_eq_true rfl⟩ rfl rfl ⟨Nat.le_of_ble_eq_true rfl, Nat.le_of_ble_eq_true rfl⟩ dX11_readsAsked_25 (fun r7 M8 h => ?_)
    refine as_6236 C (vp_lt f6) (vp_l (by decide)) dX11_readsAsked_28 ?_
    refine X_nameM (fun M9 eM9 => ?_)
    replace h := h M9 eM9
    refine x_aload_n C dX11_readsAsked_29 0 rfl ?_
    refine x_iconst (v := 1) C dX11_readsAsked_30 rfl ?_
    refine x_iconst (v := 1) C dX11_readsAsked_31 rfl ?_
    refine as_6236 C (vp_lt f6) (vp_l (by decide)) dX11_readsAsked_32 ?_
    refine X_nameM (fun M10 eM10 => ?_)
    replace h := h M10 eM10
    refine x_aload_n C dX11_readsAsked_33 0 rfl ?_
    refine x_iconst (v := 2) C dX11_readsAsked_34 rfl ?_
    refine x_iload_n C dX11_readsAsked_35 2 rfl ?_
    refine as_6236 C (vp_lt f6) (vp_l (by decide)) dX11_readsAsked_36 ?_
    refine X_nameM (fun M11 eM11 => ?_)
    replace h := h M11 eM11
    refine x_aload_n C dX11_readsAsked_37 0 rfl ?_
    refine x_iconst (v := 3) C dX11_readsAsked_38 rfl ?_
    refine x_iload_n C dX11_readsAsked_39 3 rfl ?_
    refine as_6236 C (vp_lt f6) (vp_l (by decide)) dX11_readsAsked_40 ?_
    refine X_nameM (fun M12 eM12 => ?_)
    replace h := h M12 eM12
    refine x_aload_n C dX11_readsAsked_41 1 rfl ?_
    refine x_dup C dX11_readsAsked_42 rfl ?_
    refine gf_11_33 C q165 z11 dX11_readsAsked_43 ?_
    refine x_iconst (v := 1) C dX11_readsAsked_46 rfl ?_
    refine x_iadd C dX11_readsAsked_47 ?_
    refine pf_11_33 C q165 z11 dX11_readsAsked_48 ?_
    refine X_nameM (fun M13 eM13 => ?_)
    replace h := h M13 eM13
    exact x_vret C E h (Nat.le_of_ble_eq_true rfl) (Nat.le_of_ble_eq_true rfl) dX11_readsAsked_51
  · replace h := h.2 c5
    exact x_vret C E h (Nat.le_of_ble_eq_true rfl) (Nat.le_of_ble_eq_true rfl) dX11_readsAsked_11
def rmX11_digit : Room := { frames := 1, cells := 0, slots := 0, locals := 22 }
def bX11_digit_30 (Q : Int32 → Mem → Prop) (M : Mem) (y1 : Int32) : Prop :=
  pX11_fine M (fun r7 M8 => ((¬ r7 = 0 → ∀ M10 : Mem, M10 = up1 M8 1204 0 0 ((M8.1 1204 0 0) + 1) → Q (y1 - 48) M10) ∧ (r7 = 0 → Q 0 M8)))
def bX11_digit_21 (Q : Int32 → Mem → Prop) (M : Mem) (y1 : Int32) : Prop :=
  pX11_wrong M 1 (M.1 1204 0 0) (fun M6 => bX11_digit_30 Q M6 y1)
def pX11_digit (M : Mem) (Q : Int32 → Mem → Prop) : Prop :=
  pX11_byteAt M (M.1 1204 0 0) (fun r1 M2 => ((r1 < 49 → bX11_digit_21 Q M2 r1) ∧ (¬ r1 < 49 → ((r1 ≤ 57 → bX11_digit_30 Q M2 r1) ∧ (¬ r1 ≤ 57 → bX11_digit_21 Q M2 r1)))))
set_option maxRecDepth 100000 in
set_option maxHeartbeats 400000 in
theorem wX11_digit_30 {Γ : Gam} {G : Gm} {Qf : State → Prop} (hG : Gd G) (C : Cx Γ G cX11_digit 2 RX11 (some .int) rmX11_digit)  {Q : Int32 → Mem → Prop} (E : EndI Γ G Qf rmX11_digit Q) (M : Mem) (y1 : Int32) (h : bX11_digit_30 Q M y1) : X Γ G Qf 2 0 0 30 [(0, .ref (ga G 11 0)), (1, .int y1)] [] M := by
  unfold bX11_digit_30 at h
  refine x_aload_n C dX11_digit_30 0 rfl ?_
  refine x_calli (rest := []) C sv_X11_154 ob11 z11 (kX11_fine hG _ h) rfl rfl (Nat.le_of_ble_eq_true rfl) ⟨Nat.le_of_ble_eq_true rfl, Nat.le_of_ble_eq_true rfl⟩ rfl rfl ⟨Nat.le_of_ble_eq_true rfl, Nat.le_of_ble_eq_true rfl⟩ dX11_digit_31 (fun r7 M8 h => ?_)
  refine x_if_ne (tgt := 39) C dX11_digit_34 (by decide) (fun c9 => ?_) (fun c9 => ?_)
  · replace h := h.1 c9
    refine x_aload_n C dX11_digit_39 0 rfl ?_
    refine x_dup C dX11_digit_40 rfl ?_
    refine gf_11_4 C q150 z11 dX11_digit_41 ?_
    refine x_iconst (v := 1) C dX11_digit_44 rfl ?_
    refine x_iadd C dX11_digit_45 ?_
    refine pf_11_4 C q150 z11 dX11_digit_46 ?_
    refine X_nameM (fun M10 eM10 => ?_)
    replace h := h M10 eM10
    refine x_iload_n C dX11_digit_49 1 rfl ?_
    refine x_bipush (v := 48) C dX11_digit_50 rfl ?_
    refine x_isub C dX11_digit_52 ?_
    exact x_iret C E h (Nat.le_of_ble_eq_true rfl) (Nat.le_of_ble_eq_true rfl) dX11_digit_53
  · replace h := h.2 c9
    refine x_iconst (v := 0) C dX11_digit_37 rfl ?_
    exact x_iret C E h (Nat.le_of_ble_eq_true rfl) (Nat.le_of_ble_eq_true rfl) dX11_digit_38
set_option maxRecDepth 100000 in
set_option maxHeartbeats 400000 in
theorem wX11_digit_21 {Γ : Gam} {G : Gm} {Qf : State → Prop} (hG : Gd G) (C : Cx Γ G cX11_digit 2 RX11 (some .int) rmX11_digit)  {Q : Int32 → Mem → Prop} (E : EndI Γ G Qf rmX11_digit Q) (M : Mem) (y1 : Int32) (h : bX11_digit_21 Q M y1) : X Γ G Qf 2 0 0 21 [(0, .ref (ga G 11 0)), (1, .int y1)] [] M := by
  unfold bX11_digit_21 at h
  refine x_aload_n C dX11_digit_21 0 rfl ?_
  refine x_iconst (v := 1) C dX11_digit_22 rfl ?_
  refine x_aload_n C dX11_digit_23 0 rfl ?_
  refine gf_11_4 C q150 z11 dX11_digit_24 ?_
  refine x_callv (rest := []) C sv_X11_150 ob11 z11 (kX11_wrong hG _ _ _ h) rfl rfl (Nat.le_of_ble_eq_true rfl) ⟨Nat.le_of_ble_eq_true rfl, Nat.le_of_ble_eq_true rfl⟩ rfl rfl ⟨Nat.le_of_ble_eq_true rfl, Nat.le_of_ble_eq_true rfl⟩ dX11_digit_27 (fun M6 h => ?_)
  refine X_sub (lv' := [(0, .ref (ga G 11 0)), (1, .int y1)]) [0, 1] rfl ?_
  exact wX11_digit_30 hG C E M6 y1 h
set_option maxRecDepth 100000 in
set_option maxHeartbeats 400000 in
theorem kX11_digit {l : Launch} {G : Gm} (hG : Gd G) (M : Mem)  {Q : Int32 → Mem → Prop} (h : pX11_digit M Q) : Cti l G yX11_digit cX11_digit 2 .int rmX11_digit [.ref (ga G 11 0)] M Q := by
  refine cti_of (own := RX11) (by decide +kernel) rfl (Nat.le_of_ble_eq_true rfl) hG (fun Γ Qf hl C E => ?_)
  subst hl
  show X Γ G Qf 2 0 0 0 [(0, .ref (ga G 11 0))] [] M
  unfold pX11_digit at h
  refine x_aload_n C dX11_digit_0 0 rfl ?_
  refine x_aload_n C dX11_digit_1 0 rfl ?_
  refine gf_11_4 C q150 z11 dX11_digit_2 ?_
  refine x_calli (rest := []) C sv_X11_135 ob11 z11 (kX11_byteAt hG _ _ h) rfl rfl (Nat.le_of_ble_eq_true rfl) ⟨Nat.le_of_ble_eq_true rfl, Nat.le_of_ble_eq_true rfl⟩ rfl rfl ⟨Nat.le_of_ble_eq_true rfl, Nat.le_of_ble_eq_true rfl⟩ dX11_digit_5 (fun r1 M2 h => ?_)
  refine x_istore_n (lv' := [(1, .int r1), (0, .ref (ga G 11 0))]) C dX11_digit_8 rfl (Nat.le_of_ble_eq_true rfl) rfl ?_
  refine x_iload_n C dX11_digit_9 0 rfl ?_
  refine x_bipush (v := 49) C dX11_digit_10 rfl ?_
  refine x_icmp_lt (tgt := 21) C dX11_digit_12 (by decide) (fun c3 => ?_) (fun c3 => ?_)
  · replace h := h.1 c3
    refine X_sub (lv' := [(0, .ref (ga G 11 0)), (1, .int r1)]) [1, 0] rfl ?_
    exact wX11_digit_21 hG C E M2 r1 h
  · replace h := h.2 c3
    refine x_iload_n C dX11_digit_15 0 rfl ?_
    refine x_bipush (v := 57) C dX11_digit_16 rfl ?_
    refine x_icmp_le (tgt := 30) C dX11_digit_18 (by decide) (fun c4 => ?_) (fun c4 => ?_)
    · replace h := h.1 c4
      refine X_sub (lv' := [(0, .ref (ga G 11 0)), (1, .int r1)]) [1, 0] rfl ?_
      exact wX11_digit_30 hG C E M2 r1 h
    · replace h := h.2 c4
      refine X_sub (lv' := [(0, .ref (ga G 11 0)), (1, .int r1)]) [1, 0] rfl ?_
      exact wX11_digit_21 hG C E M2 r1 h
