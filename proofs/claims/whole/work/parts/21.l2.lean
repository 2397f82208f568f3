set_option maxRecDepth 100000 in
set_option maxHeartbeats 400000 in
theorem wL_law_1720 {Γ : Gam} {G : Gm} {Qf : State → Prop} {xs : Nat → Int32} {b L ce sl : Nat} (hG : Gd G) (C : Cx Γ G cL_law 7 RL (some .boolean) room_1) (hl0 : (gl Γ).stackTraces = false) (hX : va_X b L xs (gs Γ) (gs Γ).heap) (hbl : b < (gs Γ).heap.size) (hbA : ¬ gA G b) (hNc : va_Nc EI EN (gs Γ)) (hQf : (gar Γ) = #[Value.ref b] ∧ Qf = lw_Z (gbe Γ) #[Value.ref b] (gs Γ)) (hA9 : ∀ q, gA G q → (gs Γ).heap.size ≤ q) (hc9 : ce + 8 ≤ room_1.cells) (hs9 : sl + 48 ≤ room_1.slots) (hc0 : ce ≤ room_1.cells) (hs0 : sl ≤ room_1.slots) {L23 : Mem × Int32 → Prop} (hL23 : ∀ s, L23 s → X Γ G Qf 7 (ce + 8) (sl + 48) 23 [(4, .int s.2), (0, .ref b), (1, .ref (ga G 10 0)), (2, .ref (ga G 11 0)), (3, .ref (ga G 9000 0))] [] s.1) (M : Mem) (y4 : Int32) (h : bL_law_1720 xs L L23 M y4) : X Γ G Qf 7 (ce + 1) (sl + 6) 1720 [(4, .int y4), (0, .ref b), (1, .ref (ga G 10 0)), (2, .ref (ga G 11 0)), (3, .ref (ga G 9000 0))] [] M := by
  unfold bL_law_1720 at h
  refine x_goto (tgt := 2690) C dL_law_1720 (by decide) ?_
  refine X_widen (c1 := ce + 4) (s1 := sl + 24) (Nat.add_le_add_left (Nat.le_of_ble_eq_true rfl) ce) (Nat.add_le_add_left (Nat.le_of_ble_eq_true rfl) sl) ?_
  refine X_sub (lv' := [(4, .int y4), (0, .ref b), (1, .ref (ga G 10 0)), (2, .ref (ga G 11 0)), (3, .ref (ga G 9000 0))]) [0, 1, 2, 3, 4] rfl ?_
  exact wL_law_2690 hG C hl0 hX hbl hbA hNc hQf hA9 hc9 hs9 hc0 hs0 hL23 M y4 h
set_option maxRecDepth 100000 in
set_option maxHeartbeats 400000 in
theorem wL_law_1667 {Γ : Gam} {G : Gm} {Qf : State → Prop} {xs : Nat → Int32} {b L ce sl : Nat} (hG : Gd G) (C : Cx Γ G cL_law 7 RL (some .boolean) room_1) (hl0 : (gl Γ).stackTraces = false) (hX : va_X b L xs (gs Γ) (gs Γ).heap) (hbl : b < (gs Γ).heap.size) (hbA : ¬ gA G b) (hNc : va_Nc EI EN (gs Γ)) (hQf : (gar Γ) = #[Value.ref b] ∧ Qf = lw_Z (gbe Γ) #[Value.ref b] (gs Γ)) (hA9 : ∀ q, gA G q → (gs Γ).heap.size ≤ q) (hc9 : ce + 8 ≤ room_1.cells) (hs9 : sl + 48 ≤ room_1.slots) (hc0 : ce ≤ room_1.cells) (hs0 : sl ≤ room_1.slots) {L23 : Mem × Int32 → Prop} (hL23 : ∀ s, L23 s → X Γ G Qf 7 (ce + 8) (sl + 48) 23 [(4, .int s.2), (0, .ref b), (1, .ref (ga G 10 0)), (2, .ref (ga G 11 0)), (3, .ref (ga G 9000 0))] [] s.1) (M : Mem) (y4 : Int32) (h : bL_law_1667 xs L L23 M y4) : X Γ G Qf 7 (ce + 0) (sl + 0) 1667 [(4, .int y4), (0, .ref b), (1, .ref (ga G 10 0)), (2, .ref (ga G 11 0)), (3, .ref (ga G 9000 0))] [] M := by
  unfold bL_law_1667 at h
  refine x_aload_n C dL_law_1667 2 rfl ?_
  refine x_aload_n C dL_law_1668 1 rfl ?_
  refine x_iload C dL_law_1669 0 rfl ?_
  refine x_iconst (v := 1) C dL_law_1671 rfl ?_
  refine x_iadd C dL_law_1672 ?_
  obtain ⟨f212, h⟩ := h
  refine x_sld C hX hbl hbA f212 dL_law_1673 ?_
  refine x_aload_n C dL_law_1674 4 rfl ?_
  refine x_lcall (rest := []) (ce1 := ce + 1) (sl1 := sl + 6) C sl_L_213 hNc (kL_place hG hl0 _ _ h) rfl rfl (Nat.le_of_ble_eq_true rfl) ⟨Nat.le_of_ble_eq_true rfl, Nat.le_of_ble_eq_true rfl⟩ rfl rfl ⟨Nat.le_trans (Nat.add_le_add_left (Nat.le_of_ble_eq_true rfl) ce) hc9, Nat.le_trans (Nat.add_le_add_left (Nat.le_of_ble_eq_true rfl) sl) hs9⟩ dL_law_1675 (fun r213 M214 h => ?_)
  refine x_istore (lv' := [(5, .int r213), (4, .int y4), (0, .ref b), (1, .ref (ga G 10 0)), (2, .ref (ga G 11 0)), (3, .ref (ga G 9000 0))]) C dL_law_1678 (Nat.le_of_ble_eq_true rfl) rfl ?_
  refine x_aload_n C dL_law_1680 4 rfl ?_
  refine x_aload_n C dL_law_1681 2 rfl ?_
  refine x_iload C dL_law_1682 1 rfl ?_
  refine x_iconst (v := 1) C dL_law_1684 rfl ?_
  refine x_iadd C dL_law_1685 ?_
  refine x_sld C hX hbl hbA f212 dL_law_1686 ?_
  refine x_calli (rest := []) (ce1 := ce + 1) (sl1 := sl + 6) C sv_L_215 ob11 z11 (kX11_place hG _ _ h) rfl rfl (Nat.le_of_ble_eq_true rfl) ⟨Nat.le_of_ble_eq_true rfl, Nat.le_of_ble_eq_true rfl⟩ rfl rfl ⟨Nat.le_trans (Nat.add_le_add_left (Nat.le_of_ble_eq_true rfl) ce) hc9, Nat.le_trans (Nat.add_le_add_left (Nat.le_of_ble_eq_true rfl) sl) hs9⟩ dL_law_1687 (fun r215 M216 h => ?_)
  refine x_istore (lv' := [(6, .int r215), (5, .int r213), (4, .int y4), (0, .ref b), (1, .ref (ga G 10 0)), (2, .ref (ga G 11 0)), (3, .ref (ga G 9000 0))]) C dL_law_1690 (Nat.le_of_ble_eq_true rfl) rfl ?_
  refine x_aload_n C dL_law_1692 5 rfl ?_
  refine x_calli (rest := []) (ce1 := ce + 1) (sl1 := sl + 6) C sv_L_139 ob11 z11 (kX11_thrown hG _ h) rfl rfl (Nat.le_of_ble_eq_true rfl) ⟨Nat.le_of_ble_eq_true rfl, Nat.le_of_ble_eq_true rfl⟩ rfl rfl ⟨Nat.le_trans (Nat.add_le_add_left (Nat.le_of_ble_eq_true rfl) ce) hc9, Nat.le_trans (Nat.add_le_add_left (Nat.le_of_ble_eq_true rfl) sl) hs9⟩ dL_law_1693 (fun r217 M218 h => ?_)
  refine x_iload C dL_law_1696 1 rfl ?_
  refine x_icmp_eq (tgt := 1703) C dL_law_1698 (by decide) (fun c219 => ?_) (fun c219 => ?_)
  · replace h := h.1 c219
    refine x_iload C dL_law_1703 1 rfl ?_
    refine x_if_ne (tgt := 1720) C dL_law_1705 (by decide) (fun c220 => ?_) (fun c220 => ?_)
    · replace h := h.1 c220
      refine X_sub (lv' := [(4, .int y4), (0, .ref b), (1, .ref (ga G 10 0)), (2, .ref (ga G 11 0)), (3, .ref (ga G 9000 0))]) [2, 3, 4, 5, 6] rfl ?_
      exact wL_law_1720 hG C hl0 hX hbl hbA hNc hQf hA9 hc9 hs9 hc0 hs0 hL23 M218 y4 h
    · replace h := h.2 c220
      refine x_aload_n C dL_law_1708 6 rfl ?_
      refine x_iconst (v := 0) C dL_law_1709 rfl ?_
      refine al_9000 C z9000 (vp_l (by decide)) dL_law_1710 ?_
      refine x_iload C dL_law_1711 0 rfl ?_
      refine x_i2l C dL_law_1713 ?_
      refine x_lcmp C dL_law_1714 ?_
      refine x_if_eq (tgt := 1720) C dL_law_1715 (by decide) (fun c221 => ?_) (fun c221 => ?_)
      · replace h := h.1 c221
        refine X_sub (lv' := [(4, .int y4), (0, .ref b), (1, .ref (ga G 10 0)), (2, .ref (ga G 11 0)), (3, .ref (ga G 9000 0))]) [2, 3, 4, 5, 6] rfl ?_
        exact wL_law_1720 hG C hl0 hX hbl hbA hNc hQf hA9 hc9 hs9 hc0 hs0 hL23 M218 y4 h
      · replace h := h.2 c221
        refine x_iconst (v := 0) C dL_law_1718 rfl ?_
        exact h.elim
  · replace h := h.2 c219
    refine x_iconst (v := 0) C dL_law_1701 rfl ?_
    exact h.elim
set_option maxRecDepth 100000 in
set_option maxHeartbeats 400000 in
theorem wL_law_1788 {Γ : Gam} {G : Gm} {Qf : State → Prop} {xs : Nat → Int32} {b L ce sl : Nat} (hG : Gd G) (C : Cx Γ G cL_law 7 RL (some .boolean) room_1) (hl0 : (gl Γ).stackTraces = false) (hX : va_X b L xs (gs Γ) (gs Γ).heap) (hbl : b < (gs Γ).heap.size) (hbA : ¬ gA G b) (hNc : va_Nc EI EN (gs Γ)) (hQf : (gar Γ) = #[Value.ref b] ∧ Qf = lw_Z (gbe Γ) #[Value.ref b] (gs Γ)) (hA9 : ∀ q, gA G q → (gs Γ).heap.size ≤ q) (hc9 : ce + 8 ≤ room_1.cells) (hs9 : sl + 48 ≤ room_1.slots) (hc0 : ce ≤ room_1.cells) (hs0 : sl ≤ room_1.slots) {L23 : Mem × Int32 → Prop} (hL23 : ∀ s, L23 s → X Γ G Qf 7 (ce + 8) (sl + 48) 23 [(4, .int s.2), (0, .ref b), (1, .ref (ga G 10 0)), (2, .ref (ga G 11 0)), (3, .ref (ga G 9000 0))] [] s.1) (M : Mem) (y4 : Int32) (h : bL_law_1788 xs L L23 M y4) : X Γ G Qf 7 (ce + 2) (sl + 12) 1788 [(4, .int y4), (0, .ref b), (1, .ref (ga G 10 0)), (2, .ref (ga G 11 0)), (3, .ref (ga G 9000 0))] [] M := by
  unfold bL_law_1788 at h
  refine x_goto (tgt := 2690) C dL_law_1788 (by decide) ?_
  refine X_widen (c1 := ce + 4) (s1 := sl + 24) (Nat.add_le_add_left (Nat.le_of_ble_eq_true rfl) ce) (Nat.add_le_add_left (Nat.le_of_ble_eq_true rfl) sl) ?_
  refine X_sub (lv' := [(4, .int y4), (0, .ref b), (1, .ref (ga G 10 0)), (2, .ref (ga G 11 0)), (3, .ref (ga G 9000 0))]) [0, 1, 2, 3, 4] rfl ?_
  exact wL_law_2690 hG C hl0 hX hbl hbA hNc hQf hA9 hc9 hs9 hc0 hs0 hL23 M y4 h
set_option maxRecDepth 100000 in
set_option maxHeartbeats 400000 in
theorem wL_law_1723 {Γ : Gam} {G : Gm} {Qf : State → Prop} {xs : Nat → Int32} {b L ce sl : Nat} (hG : Gd G) (C : Cx Γ G cL_law 7 RL (some .boolean) room_1) (hl0 : (gl Γ).stackTraces = false) (hX : va_X b L xs (gs Γ) (gs Γ).heap) (hbl : b < (gs Γ).heap.size) (hbA : ¬ gA G b) (hNc : va_Nc EI EN (gs Γ)) (hQf : (gar Γ) = #[Value.ref b] ∧ Qf = lw_Z (gbe Γ) #[Value.ref b] (gs Γ)) (hA9 : ∀ q, gA G q → (gs Γ).heap.size ≤ q) (hc9 : ce + 8 ≤ room_1.cells) (hs9 : sl + 48 ≤ room_1.slots) (hc0 : ce ≤ room_1.cells) (hs0 : sl ≤ room_1.slots) {L23 : Mem × Int32 → Prop} (hL23 : ∀ s, L23 s → X Γ G Qf 7 (ce + 8) (sl + 48) 23 [(4, .int s.2), (0, .ref b), (1, .ref (ga G 10 0)), (2, .ref (ga G 11 0)), (3, .ref (ga G 9000 0))] [] s.1) (M : Mem) (y4 : Int32) (h : bL_law_1723 xs L L23 M y4) : X Γ G Qf 7 (ce + 0) (sl + 0) 1723 [(4, .int y4), (0, .ref b), (1, .ref (ga G 10 0)), (2, .ref (ga G 11 0)), (3, .ref (ga G 9000 0))] [] M := by
  unfold bL_law_1723 at h
  refine x_aload_n C dL_law_1723 2 rfl ?_
  refine x_aload_n C dL_law_1724 1 rfl ?_
  refine x_iload C dL_law_1725 0 rfl ?_
  refine x_iconst (v := 1) C dL_law_1727 rfl ?_
  refine x_iadd C dL_law_1728 ?_
  obtain ⟨f201, h⟩ := h
  refine x_sld C hX hbl hbA f201 dL_law_1729 ?_
  refine x_aload_n C dL_law_1730 1 rfl ?_
  refine x_iload C dL_law_1731 0 rfl ?_
  refine x_iconst (v := 2) C dL_law_1733 rfl ?_
  refine x_iadd C dL_law_1734 ?_
  obtain ⟨f202, h⟩ := h
  refine x_sld C hX hbl hbA f202 dL_law_1735 ?_
  refine x_aload_n C dL_law_1736 4 rfl ?_
  refine x_lcall (rest := []) (ce1 := ce + 2) (sl1 := sl + 12) C sl_L_216 hNc (kL_early hG hl0 _ _ _ h) rfl rfl (Nat.le_of_ble_eq_true rfl) ⟨Nat.le_of_ble_eq_true rfl, Nat.le_of_ble_eq_true rfl⟩ rfl rfl ⟨Nat.le_trans (Nat.add_le_add_left (Nat.le_of_ble_eq_true rfl) ce) hc9, Nat.le_trans (Nat.add_le_add_left (Nat.le_of_ble_eq_true rfl) sl) hs9⟩ dL_law_1737 (fun r203 M204 h => ?_)
  refine x_istore (lv' := [(5, .int r203), (4, .int y4), (0, .ref b), (1, .ref (ga G 10 0)), (2, .ref (ga G 11 0)), (3, .ref (ga G 9000 0))]) C dL_law_1740 (Nat.le_of_ble_eq_true rfl) rfl ?_
  refine x_aload_n C dL_law_1742 4 rfl ?_
  refine x_aload_n C dL_law_1743 2 rfl ?_
  refine x_iload C dL_law_1744 1 rfl ?_
  refine x_iconst (v := 1) C dL_law_1746 rfl ?_
  refine x_iadd C dL_law_1747 ?_
  refine x_sld C hX hbl hbA f201 dL_law_1748 ?_
  refine x_aload_n C dL_law_1749 2 rfl ?_
  refine x_iload C dL_law_1750 1 rfl ?_
  refine x_iconst (v := 2) C dL_law_1752 rfl ?_
  refine x_iadd C dL_law_1753 ?_
  refine x_sld C hX hbl hbA f202 dL_law_1754 ?_
  refine x_calli (rest := []) (ce1 := ce + 2) (sl1 := sl + 12) C sv_L_218 ob11 z11 (kX11_early hG _ _ _ h) rfl rfl (Nat.le_of_ble_eq_true rfl) ⟨Nat.le_of_ble_eq_true rfl, Nat.le_of_ble_eq_true rfl⟩ rfl rfl ⟨Nat.le_trans (Nat.add_le_add_left (Nat.le_of_ble_eq_true rfl) ce) hc9, Nat.le_trans (Nat.add_le_add_left (Nat.le_of_ble_eq_true rfl) sl) hs9⟩ dL_law_1755 (fun r205 M206 h => ?_)
  refine x_istore (lv' := [(6, .int r205), (5, .int r203), (4, .int y4), (0, .ref b), (1, .ref (ga G 10 0)), (2, .ref (ga G 11 0)), (3, .ref (ga G 9000 0))]) C dL_law_1758 (Nat.le_of_ble_eq_true rfl) rfl ?_
  refine x_aload_n C dL_law_1760 5 rfl ?_
  refine x_calli (rest := []) (ce1 := ce + 2) (sl1 := sl + 12) C sv_L_139 ob11 z11 (kX11_thrown hG _ h) rfl rfl (Nat.le_of_ble_eq_true rfl) ⟨Nat.le_of_ble_eq_true rfl, Nat.le_of_ble_eq_true rfl⟩ rfl rfl ⟨Nat.le_trans (Nat.add_le_add_left (Nat.le_of_ble_eq_true rfl) ce) hc9, Nat.le_trans (Nat.add_le_add_left (Nat.le_of_ble_eq_true rfl) sl) hs9⟩ dL_law_1761 (fun r207 M208 h => ?_)
  refine x_iload C dL_law_1764 1 rfl ?_
  refine x_icmp_eq (tgt := 1771) C dL_law_1766 (by decide) (fun c209 => ?_) (fun c209 => ?_)
  · replace h := h.1 c209
    refine x_iload C dL_law_1771 1 rfl ?_
    refine x_if_ne (tgt := 1788) C dL_law_1773 (by decide) (fun c210 => ?_) (fun c210 => ?_)
    · replace h := h.1 c210
      refine X_sub (lv' := [(4, .int y4), (0, .ref b), (1, .ref (ga G 10 0)), (2, .ref (ga G 11 0)), (3, .ref (ga G 9000 0))]) [2, 3, 4, 5, 6] rfl ?_
      exact wL_law_1788 hG C hl0 hX hbl hbA hNc hQf hA9 hc9 hs9 hc0 hs0 hL23 M208 y4 h
    · replace h := h.2 c210
      refine x_aload_n C dL_law_1776 6 rfl ?_
      refine x_iconst (v := 0) C dL_law_1777 rfl ?_
      refine al_9000 C z9000 (vp_l (by decide)) dL_law_1778 ?_
      refine x_iload C dL_law_1779 0 rfl ?_
      refine x_i2l C dL_law_1781 ?_
      refine x_lcmp C dL_law_1782 ?_
      refine x_if_eq (tgt := 1788) C dL_law_1783 (by decide) (fun c211 => ?_) (fun c211 => ?_)
      · replace h := h.1 c211
        refine X_sub (lv' := [(4, .int y4), (0, .ref b), (1, .ref (ga G 10 0)), (2, .ref (ga G 11 0)), (3, .ref (ga G 9000 0))]) [2, 3, 4, 5, 6] rfl ?_
        exact wL_law_1788 hG C hl0 hX hbl hbA hNc hQf hA9 hc9 hs9 hc0 hs0 hL23 M208 y4 h
      · replace h := h.2 c211
        refine x_iconst (v := 0) C dL_law_1786 rfl ?_
        exact h.elim
  · replace h := h.2 c209
    refine x_iconst (v := 0) C dL_law_1769 rfl ?_
    exact h.elim
set_option maxRecDepth 100000 in
set_option maxHeartbeats 400000 in
theorem wL_law_1856 {Γ : Gam} {G : Gm} {Qf : State → Prop} {xs : Nat → Int32} {b L ce sl : Nat} (hG : Gd G) (C : Cx Γ G cL_law 7 RL (some .boolean) room_1) (hl0 : (gl Γ).stackTraces = false) (hX : va_X b L xs (gs Γ) (gs Γ).heap) (hbl : b < (gs Γ).heap.size) (hbA : ¬ gA G b) (hNc : va_Nc EI EN (gs Γ)) (hQf : (gar Γ) = #[Value.ref b] ∧ Qf = lw_Z (gbe Γ) #[Value.ref b] (gs Γ)) (hA9 : ∀ q, gA G q → (gs Γ).heap.size ≤ q) (hc9 : ce + 8 ≤ room_1.cells) (hs9 : sl + 48 ≤ room_1.slots) (hc0 : ce ≤ room_1.cells) (hs0 : sl ≤ room_1.slots) {L23 : Mem × Int32 → Prop} (hL23 : ∀ s, L23 s → X Γ G Qf 7 (ce + 8) (sl + 48) 23 [(4, .int s.2), (0, .ref b), (1, .ref (ga G 10 0)), (2, .ref (ga G 11 0)), (3, .ref (ga G 9000 0))] [] s.1) (M : Mem) (y4 : Int32) (h : bL_law_1856 xs L L23 M y4) : X Γ G Qf 7 (ce + 1) (sl + 6) 1856 [(4, .int y4), (0, .ref b), (1, .ref (ga G 10 0)), (2, .ref (ga G 11 0)), (3, .ref (ga G 9000 0))] [] M := by
  unfold bL_law_1856 at h
  refine x_goto (tgt := 2690) C dL_law_1856 (by decide) ?_
  refine X_widen (c1 := ce + 4) (s1 := sl + 24) (Nat.add_le_add_left (Nat.le_of_ble_eq_true rfl) ce) (Nat.add_le_add_left (Nat.le_of_ble_eq_true rfl) sl) ?_
  refine X_sub (lv' := [(4, .int y4), (0, .ref b), (1, .ref (ga G 10 0)), (2, .ref (ga G 11 0)), (3, .ref (ga G 9000 0))]) [0, 1, 2, 3, 4] rfl ?_
  exact wL_law_2690 hG C hl0 hX hbl hbA hNc hQf hA9 hc9 hs9 hc0 hs0 hL23 M y4 h
set_option maxRecDepth 100000 in
set_option maxHeartbeats 400000 in
theorem wL_law_1791 {Γ : Gam} {G : Gm} {Qf : State → Prop} {xs : Nat → Int32} {b L ce sl : Nat} (hG : Gd G) (C : Cx Γ G cL_law 7 RL (some .boolean) room_1) (hl0 : (gl Γ).stackTraces = false) (hX : va_X b L xs (gs Γ) (gs Γ).heap) (hbl : b < (gs Γ).heap.size) (hbA : ¬ gA G b) (hNc : va_Nc EI EN (gs Γ)) (hQf : (gar Γ) = #[Value.ref b] ∧ Qf = lw_Z (gbe Γ) #[Value.ref b] (gs Γ)) (hA9 : ∀ q, gA G q → (gs Γ).heap.size ≤ q) (hc9 : ce + 8 ≤ room_1.cells) (hs9 : sl + 48 ≤ room_1.slots) (hc0 : ce ≤ room_1.cells) (hs0 : sl ≤ room_1.slots) {L23 : Mem × Int32 → Prop} (hL23 : ∀ s, L23 s → X Γ G Qf 7 (ce + 8) (sl + 48) 23 [(4, .int s.2), (0, .ref b), (1, .ref (ga G 10 0)), (2, .ref (ga G 11 0)), (3, .ref (ga G 9000 0))] [] s.1) (M : Mem) (y4 : Int32) (h : bL_law_1791 xs L L23 M y4) : X Γ G Qf 7 (ce + 0) (sl + 0) 1791 [(4, .int y4), (0, .ref b), (1, .ref (ga G 10 0)), (2, .ref (ga G 11 0)), (3, .ref (ga G 9000 0))] [] M := by
  unfold bL_law_1791 at h
  refine x_aload_n C dL_law_1791 2 rfl ?_
  refine x_aload_n C dL_law_1792 1 rfl ?_
  refine x_iload C dL_law_1793 0 rfl ?_
  refine x_iconst (v := 1) C dL_law_1795 rfl ?_
  refine x_iadd C dL_law_1796 ?_
  obtain ⟨f190, h⟩ := h
  refine x_sld C hX hbl hbA f190 dL_law_1797 ?_
  refine x_aload_n C dL_law_1798 1 rfl ?_
  refine x_iload C dL_law_1799 0 rfl ?_
  refine x_iconst (v := 2) C dL_law_1801 rfl ?_
  refine x_iadd C dL_law_1802 ?_
  obtain ⟨f191, h⟩ := h
  refine x_sld C hX hbl hbA f191 dL_law_1803 ?_
  refine x_aload_n C dL_law_1804 4 rfl ?_
  refine x_lcall (rest := []) (ce1 := ce + 1) (sl1 := sl + 6) C sl_L_219 hNc (kL_best hG hl0 _ _ _ h) rfl rfl (Nat.le_of_ble_eq_true rfl) ⟨Nat.le_of_ble_eq_true rfl, Nat.le_of_ble_eq_true rfl⟩ rfl rfl ⟨Nat.le_trans (Nat.add_le_add_left (Nat.le_of_ble_eq_true rfl) ce) hc9, Nat.le_trans (Nat.add_le_add_left (Nat.le_of_ble_eq_true rfl) sl) hs9⟩ dL_law_1805 (fun r192 M193 h => ?_)
  refine x_istore (lv' := [(5, .int r192), (4, .int y4), (0, .ref b), (1, .ref (ga G 10 0)), (2, .ref (ga G 11 0)), (3, .ref (ga G 9000 0))]) C dL_law_1808 (Nat.le_of_ble_eq_true rfl) rfl ?_
  refine x_aload_n C dL_law_1810 4 rfl ?_
  refine x_aload_n C dL_law_1811 2 rfl ?_
  refine x_iload C dL_law_1812 1 rfl ?_
  refine x_iconst (v := 1) C dL_law_1814 rfl ?_
  refine x_iadd C dL_law_1815 ?_
  refine x_sld C hX hbl hbA f190 dL_law_1816 ?_
  refine x_aload_n C dL_law_1817 2 rfl ?_
  refine x_iload C dL_law_1818 1 rfl ?_
  refine x_iconst (v := 2) C dL_law_1820 rfl ?_
  refine x_iadd C dL_law_1821 ?_
  refine x_sld C hX hbl hbA f191 dL_law_1822 ?_
  refine x_calli (rest := []) (ce1 := ce + 1) (sl1 := sl + 6) C sv_L_221 ob11 z11 (kX11_best hG _ _ _ h) rfl rfl (Nat.le_of_ble_eq_true rfl) ⟨Nat.le_of_ble_eq_true rfl, Nat.le_of_ble_eq_true rfl⟩ rfl rfl ⟨Nat.le_trans (Nat.add_le_add_left (Nat.le_of_ble_eq_true rfl) ce) hc9, Nat.le_trans (Nat.add_le_add_left (Nat.le_of_ble_eq_true rfl) sl) hs9⟩ dL_law_1823 (fun r194 M195 h => ?_)
  refine x_istore (lv' := [(6, .int r194), (5, .int r192), (4, .int y4), (0, .ref b), (1, .ref (ga G 10 0)), (2, .ref (ga G 11 0)), (3, .ref (ga G 9000 0))]) C dL_law_1826 (Nat.le_of_ble_eq_true rfl) rfl ?_
  refine x_aload_n C dL_law_1828 5 rfl ?_
  refine x_calli (rest := []) (ce1 := ce + 1) (sl1 := sl + 6) C sv_L_139 ob11 z11 (kX11_thrown hG _ h) rfl rfl (Nat.le_of_ble_eq_true rfl) ⟨Nat.le_of_ble_eq_true rfl, Nat.le_of_ble_eq_true rfl⟩ rfl rfl ⟨Nat.le_trans (Nat.add_le_add_left (Nat.le_of_ble_eq_true rfl) ce) hc9, Nat.le_trans (Nat.add_le_add_left (Nat.le_of_ble_eq_true rfl) sl) hs9⟩ dL_law_1829 (fun r196 M197 h => ?_)
  refine x_iload C dL_law_1832 1 rfl ?_
  refine x_icmp_eq (tgt := 1839) C dL_law_1834 (by decide) (fun c198 => ?_) (fun c198 => ?_)
  · replace h := h.1 c198
    refine x_iload C dL_law_1839 1 rfl ?_
    refine x_if_ne (tgt := 1856) C dL_law_1841 (by decide) (fun c199 => ?_) (fun c199 => ?_)
    · replace h := h.1 c199
      refine X_sub (lv' := [(4, .int y4), (0, .ref b), (1, .ref (ga G 10 0)), (2, .ref (ga G 11 0)), (3, .ref (ga G 9000 0))]) [2, 3, 4, 5, 6] rfl ?_
      exact wL_law_1856 hG C hl0 hX hbl hbA hNc hQf hA9 hc9 hs9 hc0 hs0 hL23 M197 y4 h
    · replace h := h.2 c199
      refine x_aload_n C dL_law_1844 6 rfl ?_
      refine x_iconst (v := 0) C dL_law_1845 rfl ?_
      refine al_9000 C z9000 (vp_l (by decide)) dL_law_1846 ?_
      refine x_iload C dL_law_1847 0 rfl ?_
      refine x_i2l C dL_law_1849 ?_
      refine x_lcmp C dL_law_1850 ?_
      refine x_if_eq (tgt := 1856) C dL_law_1851 (by decide) (fun c200 => ?_) (fun c200 => ?_)
      · replace h := h.1 c200
        refine X_sub (lv' := [(4, .int y4), (0, .ref b), (1, .ref (ga G 10 0)), (2, .ref (ga G 11 0)), (3, .ref (ga G 9000 0))]) [2, 3, 4, 5, 6] rfl ?_
        exact wL_law_1856 hG C hl0 hX hbl hbA hNc hQf hA9 hc9 hs9 hc0 hs0 hL23 M197 y4 h
      · replace h := h.2 c200
        refine x_iconst (v := 0) C dL_law_1854 rfl ?_
        exact h.elim
  · replace h := h.2 c198
    refine x_iconst (v := 0) C dL_law_1837 rfl ?_
    exact h.elim
set_option maxRecDepth 100000 in
set_option maxHeartbeats 400000 in
theorem wL_law_1936 {Γ : Gam} {G : Gm} {Qf : State → Prop} {xs : Nat → Int32} {b L ce sl : Nat} (hG : Gd G) (C : Cx Γ G cL_law 7 RL (some .boolean) room_1) (hl0 : (gl Γ).stackTraces = false) (hX : va_X b L xs (gs Γ) (gs Γ).heap) (hbl : b < (gs Γ).heap.size) (hbA : ¬ gA G b) (hNc : va_Nc EI EN (gs Γ)) (hQf : (gar Γ) = #[Value.ref b] ∧ Qf = lw_Z (gbe Γ) #[Value.ref b] (gs Γ)) (hA9 : ∀ q, gA G q → (gs Γ).heap.size ≤ q) (hc9 : ce + 8 ≤ room_1.cells) (hs9 : sl + 48 ≤ room_1.slots) (hc0 : ce ≤ room_1.cells) (hs0 : sl ≤ room_1.slots) {L23 : Mem × Int32 → Prop} (hL23 : ∀ s, L23 s → X Γ G Qf 7 (ce + 8) (sl + 48) 23 [(4, .int s.2), (0, .ref b), (1, .ref (ga G 10 0)), (2, .ref (ga G 11 0)), (3, .ref (ga G 9000 0))] [] s.1) (M : Mem) (y4 : Int32) (h : bL_law_1936 xs L L23 M y4) : X Γ G Qf 7 (ce + 4) (sl + 24) 1936 [(4, .int y4), (0, .ref b), (1, .ref (ga G 10 0)), (2, .ref (ga G 11 0)), (3, .ref (ga G 9000 0))] [] M := by
  unfold bL_law_1936 at h
  refine x_goto (tgt := 2690) C dL_law_1936 (by decide) ?_
  refine X_sub (lv' := [(4, .int y4), (0, .ref b), (1, .ref (ga G 10 0)), (2, .ref (ga G 11 0)), (3, .ref (ga G 9000 0))]) [0, 1, 2, 3, 4] rfl ?_
  exact wL_law_2690 hG C hl0 hX hbl hbA hNc hQf hA9 hc9 hs9 hc0 hs0 hL23 M y4 h
set_option maxRecDepth 100000 in
set_option maxHeartbeats 400000 in
theorem wL_law_1859 {Γ : Gam} {G : Gm} {Qf : State → Prop} {xs : Nat → Int32} {b L ce sl : Nat} (hG : Gd G) (C : Cx Γ G cL_law 7 RL (some .boolean) room_1) (hl0 : (gl Γ).stackTraces = false) (hX : va_X b L xs (gs Γ) (gs Γ).heap) (hbl : b < (gs Γ).heap.size) (hbA : ¬ gA G b) (hNc : va_Nc EI EN (gs Γ)) (hQf : (gar Γ) = #[Value.ref b] ∧ Qf = lw_Z (gbe Γ) #[Value.ref b] (gs Γ)) (hA9 : ∀ q, gA G q → (gs Γ).heap.size ≤ q) (hc9 : ce + 8 ≤ room_1.cells) (hs9 : sl + 48 ≤ room_1.slots) (hc0 : ce ≤ room_1.cells) (hs0 : sl ≤ room_1.slots) {L23 : Mem × Int32 → Prop} (hL23 : ∀ s, L23 s → X Γ G Qf 7 (ce + 8) (sl + 48) 23 [(4, .int s.2), (0, .ref b), (1, .ref (ga G 10 0)), (2, .ref (ga G 11 0)), (3, .ref (ga G 9000 0))] [] s.1) (M : Mem) (y4 : Int32) (h : bL_law_1859 xs L L23 M y4) : X Γ G Qf 7 (ce + 0) (sl + 0) 1859 [(4, .int y4), (0, .ref b), (1, .ref (ga G 10 0)), (2, .ref (ga G 11 0)), (3, .ref (ga G 9000 0))] [] M := by
  unfold bL_law_1859 at h
  refine x_aload_n C dL_law_1859 2 rfl ?_
  refine x_aload_n C dL_law_1860 1 rfl ?_
  refine x_iload C dL_law_1861 0 rfl ?_
  refine x_iconst (v := 1) C dL_law_1863 rfl ?_
  refine x_iadd C dL_law_1864 ?_
  obtain ⟨f178, h⟩ := h
  refine x_sld C hX hbl hbA f178 dL_law_1865 ?_
  refine x_aload_n C dL_law_1866 1 rfl ?_
  refine x_iload C dL_law_1867 0 rfl ?_
  refine x_iconst (v := 2) C dL_law_1869 rfl ?_
  refine x_iadd C dL_law_1870 ?_
  obtain ⟨f179, h⟩ := h
  refine x_sld C hX hbl hbA f179 dL_law_1871 ?_
  refine x_aload_n C dL_law_1872 1 rfl ?_
  refine x_iload C dL_law_1873 0 rfl ?_
  refine x_iconst (v := 3) C dL_law_1875 rfl ?_
  refine x_iadd C dL_law_1876 ?_
  obtain ⟨f180, h⟩ := h
  refine x_sld C hX hbl hbA f180 dL_law_1877 ?_
  refine x_aload_n C dL_law_1878 4 rfl ?_
  refine x_lcall (rest := []) (ce1 := ce + 4) (sl1 := sl + 24) C sl_L_222 hNc (kL_opened hG hl0 _ _ _ _ h) rfl rfl (Nat.le_of_ble_eq_true rfl) ⟨Nat.le_of_ble_eq_true rfl, Nat.le_of_ble_eq_true rfl⟩ rfl rfl ⟨Nat.le_trans (Nat.add_le_add_left (Nat.le_of_ble_eq_true rfl) ce) hc9, Nat.le_trans (Nat.add_le_add_left (Nat.le_of_ble_eq_true rfl) sl) hs9⟩ dL_law_1879 (fun r181 M182 h => ?_)
  refine x_istore (lv' := [(5, .int r181), (4, .int y4), (0, .ref b), (1, .ref (ga G 10 0)), (2, .ref (ga G 11 0)), (3, .ref (ga G 9000 0))]) C dL_law_1882 (Nat.le_of_ble_eq_true rfl) rfl ?_
  refine x_aload_n C dL_law_1884 4 rfl ?_
  refine x_aload_n C dL_law_1885 2 rfl ?_
  refine x_iload C dL_law_1886 1 rfl ?_
  refine x_iconst (v := 1) C dL_law_1888 rfl ?_
  refine x_iadd C dL_law_1889 ?_
  refine x_sld C hX hbl hbA f178 dL_law_1890 ?_
  refine x_aload_n C dL_law_1891 2 rfl ?_
  refine x_iload C dL_law_1892 1 rfl ?_
  refine x_iconst (v := 2) C dL_law_1894 rfl ?_
  refine x_iadd C dL_law_1895 ?_
  refine x_sld C hX hbl hbA f179 dL_law_1896 ?_
  refine x_aload_n C dL_law_1897 2 rfl ?_
  refine x_iload C dL_law_1898 1 rfl ?_
  refine x_iconst (v := 3) C dL_law_1900 rfl ?_
  refine x_iadd C dL_law_1901 ?_
  refine x_sld C hX hbl hbA f180 dL_law_1902 ?_
  refine x_calli (rest := []) (ce1 := ce + 4) (sl1 := sl + 24) C sv_L_224 ob11 z11 (kX11_opened hG _ _ _ _ h) rfl rfl (Nat.le_of_ble_eq_true rfl) ⟨Nat.le_of_ble_eq_true rfl, Nat.le_of_ble_eq_true rfl⟩ rfl rfl ⟨Nat.le_trans (Nat.add_le_add_left (Nat.le_of_ble_eq_true rfl) ce) hc9, Nat.le_trans (Nat.add_le_add_left (Nat.le_of_ble_eq_true rfl) sl) hs9⟩ dL_law_1903 (fun r183 M184 h => ?_)
  refine x_istore (lv' := [(6, .int r183), (5, .int r181), (4, .int y4), (0, .ref b), (1, .ref (ga G 10 0)), (2, .ref (ga G 11 0)), (3, .ref (ga G 9000 0))]) C dL_law_1906 (Nat.le_of_ble_eq_true rfl) rfl ?_
  refine x_aload_n C dL_law_1908 5 rfl ?_
  refine x_calli (rest := []) (ce1 := ce + 4) (sl1 := sl + 24) C sv_L_139 ob11 z11 (kX11_thrown hG _ h) rfl rfl (Nat.le_of_ble_eq_true rfl) ⟨Nat.le_of_ble_eq_true rfl, Nat.le_of_ble_eq_true rfl⟩ rfl rfl ⟨Nat.le_trans (Nat.add_le_add_left (Nat.le_of_ble_eq_true rfl) ce) hc9, Nat.le_trans (Nat.add_le_add_left (Nat.le_of_ble_eq_true rfl) sl) hs9⟩ dL_law_1909 (fun r185 M186 h => ?_)
  refine x_iload C dL_law_1912 1 rfl ?_
  refine x_icmp_eq (tgt := 1919) C dL_law_1914 (by decide) (fun c187 => ?_) (fun c187 => ?_)
  · replace h := h.1 c187
    refine x_iload C dL_law_1919 1 rfl ?_
    refine x_if_ne (tgt := 1936) C dL_law_1921 (by decide) (fun c188 => ?_) (fun c188 => ?_)
    · replace h := h.1 c188
      refine X_sub (lv' := [(4, .int y4), (0, .ref b), (1, .ref (ga G 10 0)), (2, .ref (ga G 11 0)), (3, .ref (ga G 9000 0))]) [2, 3, 4, 5, 6] rfl ?_
      exact wL_law_1936 hG C hl0 hX hbl hbA hNc hQf hA9 hc9 hs9 hc0 hs0 hL23 M186 y4 h
    · replace h := h.2 c188
      refine x_aload_n C dL_law_1924 6 rfl ?_
      refine x_iconst (v := 0) C dL_law_1925 rfl ?_
      refine al_9000 C z9000 (vp_l (by decide)) dL_law_1926 ?_
      refine x_iload C dL_law_1927 0 rfl ?_
      refine x_i2l C dL_law_1929 ?_
      refine x_lcmp C dL_law_1930 ?_
      refine x_if_eq (tgt := 1936) C dL_law_1931 (by decide) (fun c189 => ?_) (fun c189 => ?_)
      · replace h := h.1 c189
        refine X_sub (lv' := [(4, .int y4), (0, .ref b), (1, .ref (ga G 10 0)), (2, .ref (ga G 11 0)), (3, .ref (ga G 9000 0))]) [2, 3, 4, 5, 6] rfl ?_
        exact wL_law_1936 hG C hl0 hX hbl hbA hNc hQf hA9 hc9 hs9 hc0 hs0 hL23 M186 y4 h
      · replace h := h.2 c189
        refine x_iconst (v := 0) C dL_law_1934 rfl ?_
        exact h.elim
  · replace h := h.2 c187
    refine x_iconst (v := 0) C dL_law_1917 rfl ?_
    exact h.elim
set_option maxRecDepth 100000 in
set_option maxHeartbeats 400000 in
theorem wL_law_2004 {Γ : Gam} {G : Gm} {Qf : State → Prop} {xs : Nat → Int32} {b L ce sl : Nat} (hG : Gd G) (C : Cx Γ G cL_law 7 RL (some .boolean) room_1) (hl0 : (gl Γ).stackTraces = false) (hX : va_X b L xs (gs Γ) (gs Γ).heap) (hbl : b < (gs Γ).heap.size) (hbA : ¬ gA G b) (hNc : va_Nc EI EN (gs Γ)) (hQf : (gar Γ) = #[Value.ref b] ∧ Qf = lw_Z (gbe Γ) #[Value.ref b] (gs Γ)) (hA9 : ∀ q, gA G q → (gs Γ).heap.size ≤ q) (hc9 : ce + 8 ≤ room_1.cells) (hs9 : sl + 48 ≤ room_1.slots) (hc0 : ce ≤ room_1.cells) (hs0 : sl ≤ room_1.slots) {L23 : Mem × Int32 → Prop} (hL23 : ∀ s, L23 s → X Γ G Qf 7 (ce + 8) (sl + 48) 23 [(4, .int s.2), (0, .ref b), (1, .ref (ga G 10 0)), (2, .ref (ga G 11 0)), (3, .ref (ga G 9000 0))] [] s.1) (M : Mem) (y4 : Int32) (h : bL_law_2004 xs L L23 M y4) : X Γ G Qf 7 (ce + 2) (sl + 12) 2004 [(4, .int y4), (0, .ref b), (1, .ref (ga G 10 0)), (2, .ref (ga G 11 0)), (3, .ref (ga G 9000 0))] [] M := by
  unfold bL_law_2004 at h
  refine x_goto (tgt := 2690) C dL_law_2004 (by decide) ?_
  refine X_widen (c1 := ce + 4) (s1 := sl + 24) (Nat.add_le_add_left (Nat.le_of_ble_eq_true rfl) ce) (Nat.add_le_add_left (Nat.le_of_ble_eq_true rfl) sl) ?_
  refine X_sub (lv' := [(4, .int y4), (0, .ref b), (1, .ref (ga G 10 0)), (2, .ref (ga G 11 0)), (3, .ref (ga G 9000 0))]) [0, 1, 2, 3, 4] rfl ?_
  exact wL_law_2690 hG C hl0 hX hbl hbA hNc hQf hA9 hc9 hs9 hc0 hs0 hL23 M y4 h
set_option maxRecDepth 100000 in
set_option maxHeartbeats 400000 in
theorem wL_law_1939 {Γ : Gam} {G : Gm} {Qf : State → Prop} {xs : Nat → Int32} {b L ce sl : Nat} (hG : Gd G) (C : Cx Γ G cL_law 7 RL (some .boolean) room_1) (hl0 : (gl Γ).stackTraces = false) (hX : va_X b L xs (gs Γ) (gs Γ).heap) (hbl : b < (gs Γ).heap.size) (hbA : ¬ gA G b) (hNc : va_Nc EI EN (gs Γ)) (hQf : (gar Γ) = #[Value.ref b] ∧ Qf = lw_Z (gbe Γ) #[Value.ref b] (gs Γ)) (hA9 : ∀ q, gA G q → (gs Γ).heap.size ≤ q) (hc9 : ce + 8 ≤ room_1.cells) (hs9 : sl + 48 ≤ room_1.slots) (hc0 : ce ≤ room_1.cells) (hs0 : sl ≤ room_1.slots) {L23 : Mem × Int32 → Prop} (hL23 : ∀ s, L23 s → X Γ G Qf 7 (ce + 8) (sl + 48) 23 [(4, .int s.2), (0, .ref b), (1, .ref (ga G 10 0)), (2, .ref (ga G 11 0)), (3, .ref (ga G 9000 0))] [] s.1) (M : Mem) (y4 : Int32) (h : bL_law_1939 xs L L23 M y4) : X Γ G Qf 7 (ce + 0) (sl + 0) 1939 [(4, .int y4), (0, .ref b), (1, .ref (ga G 10 0)), (2, .ref (ga G 11 0)), (3, .ref (ga G 9000 0))] [] M := by
  unfold bL_law_1939 at h
  refine x_aload_n C dL_law_1939 2 rfl ?_
  refine x_aload_n C dL_law_1940 1 rfl ?_
  refine x_iload C dL_law_1941 0 rfl ?_
  refine x_iconst (v := 1) C dL_law_1943 rfl ?_
  refine x_iadd C dL_law_1944 ?_
  obtain ⟨f167, h⟩ := h
  refine x_sld C hX hbl hbA f167 dL_law_1945 ?_
  refine x_aload_n C dL_law_1946 1 rfl ?_
  refine x_iload C dL_law_1947 0 rfl ?_
  refine x_iconst (v := 2) C dL_law_1949 rfl ?_
  refine x_iadd C dL_law_1950 ?_
  obtain ⟨f168, h⟩ := h
  refine x_sld C hX hbl hbA f168 dL_law_1951 ?_
  refine x_aload_n C dL_law_1952 4 rfl ?_
  refine x_lcall (rest := []) (ce1 := ce + 2) (sl1 := sl + 12) C sl_L_225 hNc (kL_inside hG hl0 _ _ _ h) rfl rfl (Nat.le_of_ble_eq_true rfl) ⟨Nat.le_of_ble_eq_true rfl, Nat.le_of_ble_eq_true rfl⟩ rfl rfl ⟨Nat.le_trans (Nat.add_le_add_left (Nat.le_of_ble_eq_true rfl) ce) hc9, Nat.le_trans (Nat.add_le_add_left (Nat.le_of_ble_eq_true rfl) sl) hs9⟩ dL_law_1953 (fun r169 M170 h => ?_)
  refine x_istore (lv' := [(5, .int r169), (4, .int y4), (0, .ref b), (1, .ref (ga G 10 0)), (2, .ref (ga G 11 0)), (3, .ref (ga G 9000 0))]) C dL_law_1956 (Nat.le_of_ble_eq_true rfl) rfl ?_
  refine x_aload_n C dL_law_1958 4 rfl ?_
  refine x_aload_n C dL_law_1959 2 rfl ?_
  refine x_iload C dL_law_1960 1 rfl ?_
  refine x_iconst (v := 1) C dL_law_1962 rfl ?_
  refine x_iadd C dL_law_1963 ?_
  refine x_sld C hX hbl hbA f167 dL_law_1964 ?_
  refine x_aload_n C dL_law_1965 2 rfl ?_
  refine x_iload C dL_law_1966 1 rfl ?_
  refine x_iconst (v := 2) C dL_law_1968 rfl ?_
  refine x_iadd C dL_law_1969 ?_
  refine x_sld C hX hbl hbA f168 dL_law_1970 ?_
  refine x_calli (rest := []) (ce1 := ce + 2) (sl1 := sl + 12) C sv_L_227 ob11 z11 (kX11_inside hG _ _ _ h) rfl rfl (Nat.le_of_ble_eq_true rfl) ⟨Nat.le_of_ble_eq_true rfl, Nat.le_of_ble_eq_true rfl⟩ rfl rfl ⟨Nat.le_trans (Nat.add_le_add_left (Nat.le_of_ble_eq_true rfl) ce) hc9, Nat.le_trans (Nat.add_le_add_left (Nat.le_of_ble_eq_true rfl) sl) hs9⟩ dL_law_1971 (fun r171 M172 h => ?_)
  refine x_istore (lv' := [(6, .int r171), (5, .int r169), (4, .int y4), (0, .ref b), (1, .ref (ga G 10 0)), (2, .ref (ga G 11 0)), (3, .ref (ga G 9000 0))]) C dL_law_1974 (Nat.le_of_ble_eq_true rfl) rfl ?_
  refine x_aload_n C dL_law_1976 5 rfl ?_
  refine x_calli (rest := []) (ce1 := ce + 2) (sl1 := sl + 12) C sv_L_139 ob11 z11 (kX11_thrown hG _ h) rfl rfl (Nat.le_of_ble_eq_true rfl) ⟨Nat.le_of_ble_eq_true rfl, Nat.le_of_ble_eq_true rfl⟩ rfl rfl ⟨Nat.le_trans (Nat.add_le_add_left (Nat.le_of_ble_eq_true rfl) ce) hc9, Nat.le_trans (Nat.add_le_add_left (Nat.le_of_ble_eq_true rfl) sl) hs9⟩ dL_law_1977 (fun r173 M174 h => ?_)
  refine x_iload C dL_law_1980 1 rfl ?_
  refine x_icmp_eq (tgt := 1987) C dL_law_1982 (by decide) (fun c175 => ?_) (fun c175 => ?_)
  · replace h := h.1 c175
    refine x_iload C dL_law_1987 1 rfl ?_
    refine x_if_ne (tgt := 2004) C dL_law_1989 (by decide) (fun c176 => ?_) (fun c176 => ?_)
    · replace h := h.1 c176
      refine X_sub (lv' := [(4, .int y4), (0, .ref b), (1, .ref (ga G 10 0)), (2, .ref (ga G 11 0)), (3, .ref (ga G 9000 0))]) [2, 3, 4, 5, 6] rfl ?_
      exact wL_law_2004 hG C hl0 hX hbl hbA hNc hQf hA9 hc9 hs9 hc0 hs0 hL23 M174 y4 h
    · replace h := h.2 c176
      refine x_aload_n C dL_law_1992 6 rfl ?_
      refine x_iconst (v := 0) C dL_law_1993 rfl ?_
      refine al_9000 C z9000 (vp_l (by decide)) dL_law_1994 ?_
      refine x_iload C dL_law_1995 0 rfl ?_
      refine x_i2l C dL_law_1997 ?_
      refine x_lcmp C dL_law_1998 ?_
      refine x_if_eq (tgt := 2004) C dL_law_1999 (by decide) (fun c177 => ?_) (fun c177 => ?_)
      · replace h := h.1 c177
        refine X_sub (lv' := [(4, .int y4), (0, .ref b), (1, .ref (ga G 10 0)), (2, .ref (ga G 11 0)), (3, .ref (ga G 9000 0))]) [2, 3, 4, 5, 6] rfl ?_
        exact wL_law_2004 hG C hl0 hX hbl hbA hNc hQf hA9 hc9 hs9 hc0 hs0 hL23 M174 y4 h
      · replace h := h.2 c177
        refine x_iconst (v := 0) C dL_law_2002 rfl ?_
        exact h.elim
  · replace h := h.2 c175
    refine x_iconst (v := 0) C dL_law_1985 rfl ?_
    exact h.elim
set_option maxRecDepth 100000 in
set_option maxHeartbeats 400000 in
theorem wL_law_2060 {Γ : Gam} {G : Gm} {Qf : State → Prop} {xs : Nat → Int32} {b L ce sl : Nat} (hG : Gd G) (C : Cx Γ G cL_law 7 RL (some .boolean) room_1) (hl0 : (gl Γ).stackTraces = false) (hX : va_X b L xs (gs Γ) (gs Γ).heap) (hbl : b < (gs Γ).heap.size) (hbA : ¬ gA G b) (hNc : va_Nc EI EN (gs Γ)) (hQf : (gar Γ) = #[Value.ref b] ∧ Qf = lw_Z (gbe Γ) #[Value.ref b] (gs Γ)) (hA9 : ∀ q, gA G q → (gs Γ).heap.size ≤ q) (hc9 : ce + 8 ≤ room_1.cells) (hs9 : sl + 48 ≤ room_1.slots) (hc0 : ce ≤ room_1.cells) (hs0 : sl ≤ room_1.slots) {L23 : Mem × Int32 → Prop} (hL23 : ∀ s, L23 s → X Γ G Qf 7 (ce + 8) (sl + 48) 23 [(4, .int s.2), (0, .ref b), (1, .ref (ga G 10 0)), (2, .ref (ga G 11 0)), (3, .ref (ga G 9000 0))] [] s.1) (M : Mem) (y4 : Int32) (h : bL_law_2060 xs L L23 M y4) : X Γ G Qf 7 (ce + 1) (sl + 6) 2060 [(4, .int y4), (0, .ref b), (1, .ref (ga G 10 0)), (2, .ref (ga G 11 0)), (3, .ref (ga G 9000 0))] [] M := by
  unfold bL_law_2060 at h
  refine x_goto (tgt := 2690) C dL_law_2060 (by decide) ?_
  refine X_widen (c1 := ce + 4) (s1 := sl + 24) (Nat.add_le_add_left (Nat.le_of_ble_eq_true rfl) ce) (Nat.add_le_add_left (Nat.le_of_ble_eq_true rfl) sl) ?_
  refine X_sub (lv' := [(4, .int y4), (0, .ref b), (1, .ref (ga G 10 0)), (2, .ref (ga G 11 0)), (3, .ref (ga G 9000 0))]) [0, 1, 2, 3, 4] rfl ?_
  exact wL_law_2690 hG C hl0 hX hbl hbA hNc hQf hA9 hc9 hs9 hc0 hs0 hL23 M y4 h
set_option maxRecDepth 100000 in
set_option maxHeartbeats 400000 in
theorem wL_law_2007 {Γ : Gam} {G : Gm} {Qf : State → Prop} {xs : Nat → Int32} {b L ce sl : Nat} (hG : Gd G) (C : Cx Γ G cL_law 7 RL (some .boolean) room_1) (hl0 : (gl Γ).stackTraces = false) (hX : va_X b L xs (gs Γ) (gs Γ).heap) (hbl : b < (gs Γ).heap.size) (hbA : ¬ gA G b) (hNc : va_Nc EI EN (gs Γ)) (hQf : (gar Γ) = #[Value.ref b] ∧ Qf = lw_Z (gbe Γ) #[Value.ref b] (gs Γ)) (hA9 : ∀ q, gA G q → (gs Γ).heap.size ≤ q) (hc9 : ce + 8 ≤ room_1.cells) (hs9 : sl + 48 ≤ room_1.slots) (hc0 : ce ≤ room_1.cells) (hs0 : sl ≤ room_1.slots) {L23 : Mem × Int32 → Prop} (hL23 : ∀ s, L23 s → X Γ G Qf 7 (ce + 8) (sl + 48) 23 [(4, .int s.2), (0, .ref b), (1, .ref (ga G 10 0)), (2, .ref (ga G 11 0)), (3, .ref (ga G 9000 0))] [] s.1) (M : Mem) (y4 : Int32) (h : bL_law_2007 xs L L23 M y4) : X Γ G Qf 7 (ce + 0) (sl + 0) 2007 [(4, .int y4), (0, .ref b), (1, .ref (ga G 10 0)), (2, .ref (ga G 11 0)), (3, .ref (ga G 9000 0))] [] M := by
  unfold bL_law_2007 at h
  refine x_aload_n C dL_law_2007 2 rfl ?_
  refine x_aload_n C dL_law_2008 1 rfl ?_
  refine x_iload C dL_law_2009 0 rfl ?_
  refine x_iconst (v := 1) C dL_law_2011 rfl ?_
  refine x_iadd C dL_law_2012 ?_
  obtain ⟨f157, h⟩ := h
  refine x_sld C hX hbl hbA f157 dL_law_2013 ?_
  refine x_aload_n C dL_law_2014 4 rfl ?_
  refine x_lcall (rest := []) (ce1 := ce + 1) (sl1 := sl + 6) C sl_L_228 hNc (kL_bits hG hl0 _ _ h) rfl rfl (Nat.le_of_ble_eq_true rfl) ⟨Nat.le_of_ble_eq_true rfl, Nat.le_of_ble_eq_true rfl⟩ rfl rfl ⟨Nat.le_trans (Nat.add_le_add_left (Nat.le_of_ble_eq_true rfl) ce) hc9, Nat.le_trans (Nat.add_le_add_left (Nat.le_of_ble_eq_true rfl) sl) hs9⟩ dL_law_2015 (fun r158 M159 h => ?_)
  refine x_istore (lv' := [(5, .int r158), (4, .int y4), (0, .ref b), (1, .ref (ga G 10 0)), (2, .ref (ga G 11 0)), (3, .ref (ga G 9000 0))]) C dL_law_2018 (Nat.le_of_ble_eq_true rfl) rfl ?_
  refine x_aload_n C dL_law_2020 4 rfl ?_
  refine x_aload_n C dL_law_2021 2 rfl ?_
  refine x_iload C dL_law_2022 1 rfl ?_
  refine x_iconst (v := 1) C dL_law_2024 rfl ?_
  refine x_iadd C dL_law_2025 ?_
  refine x_sld C hX hbl hbA f157 dL_law_2026 ?_
  refine x_calli (rest := []) (ce1 := ce + 1) (sl1 := sl + 6) C sv_L_230 ob11 z11 (kX11_bits hG _ _ h) rfl rfl (Nat.le_of_ble_eq_true rfl) ⟨Nat.le_of_ble_eq_true rfl, Nat.le_of_ble_eq_true rfl⟩ rfl rfl ⟨Nat.le_trans (Nat.add_le_add_left (Nat.le_of_ble_eq_true rfl) ce) hc9, Nat.le_trans (Nat.add_le_add_left (Nat.le_of_ble_eq_true rfl) sl) hs9⟩ dL_law_2027 (fun r160 M161 h => ?_)
  refine x_istore (lv' := [(6, .int r160), (5, .int r158), (4, .int y4), (0, .ref b), (1, .ref (ga G 10 0)), (2, .ref (ga G 11 0)), (3, .ref (ga G 9000 0))]) C dL_law_2030 (Nat.le_of_ble_eq_true rfl) rfl ?_
  refine x_aload_n C dL_law_2032 5 rfl ?_
  refine x_calli (rest := []) (ce1 := ce + 1) (sl1 := sl + 6) C sv_L_139 ob11 z11 (kX11_thrown hG _ h) rfl rfl (Nat.le_of_ble_eq_true rfl) ⟨Nat.le_of_ble_eq_true rfl, Nat.le_of_ble_eq_true rfl⟩ rfl rfl ⟨Nat.le_trans (Nat.add_le_add_left (Nat.le_of_ble_eq_true rfl) ce) hc9, Nat.le_trans (Nat.add_le_add_left (Nat.le_of_ble_eq_true rfl) sl) hs9⟩ dL_law_2033 (fun r162 M163 h => ?_)
  refine x_iload C dL_law_2036 1 rfl ?_
  refine x_icmp_eq (tgt := 2043) C dL_law_2038 (by decide) (fun c164 => ?_) (fun c164 => ?_)
  · replace h := h.1 c164
    refine x_iload C dL_law_2043 1 rfl ?_
    refine x_if_ne (tgt := 2060) C dL_law_2045 (by decide) (fun c165 => ?_) (fun c165 => ?_)
    · replace h := h.1 c165
      refine X_sub (lv' := [(4, .int y4), (0, .ref b), (1, .ref (ga G 10 0)), (2, .ref (ga G 11 0)), (3, .ref (ga G 9000 0))]) [2, 3, 4, 5, 6] rfl ?_
      exact wL_law_2060 hG C hl0 hX hbl hbA hNc hQf hA9 hc9 hs9 hc0 hs0 hL23 M163 y4 h
    · replace h := h.2 c165
      refine x_aload_n C dL_law_2048 6 rfl ?_
      refine x_iconst (v := 0) C dL_law_2049 rfl ?_
      refine al_9000 C z9000 (vp_l (by decide)) dL_law_2050 ?_
      refine x_iload C dL_law_2051 0 rfl ?_
      refine x_i2l C dL_law_2053 ?_
      refine x_lcmp C dL_law_2054 ?_
      refine x_if_eq (tgt := 2060) C dL_law_2055 (by decide) (fun c166 => ?_) (fun c166 => ?_)
      · replace h := h.1 c166
        refine X_sub (lv' := [(4, .int y4), (0, .ref b), (1, .ref (ga G 10 0)), (2, .ref (ga G 11 0)), (3, .ref (ga G 9000 0))]) [2, 3, 4, 5, 6] rfl ?_
        exact wL_law_2060 hG C hl0 hX hbl hbA hNc hQf hA9 hc9 hs9 hc0 hs0 hL23 M163 y4 h
      · replace h := h.2 c166
        refine x_iconst (v := 0) C dL_law_2058 rfl ?_
        exact h.elim
  · replace h := h.2 c164
    refine x_iconst (v := 0) C dL_law_2041 rfl ?_
    exact h.elim
set_option maxRecDepth 100000 in
set_option maxHeartbeats 400000 in
theorem wL_law_2063 {Γ : Gam} {G : Gm} {Qf : State → Prop} {xs : Nat → Int32} {b L ce sl : Nat} (hG : Gd G) (C : Cx Γ G cL_law 7 RL (some .boolean) room_1) (hl0 : (gl Γ).stackTraces = false) (hX : va_X b L xs (gs Γ) (gs Γ).heap) (hbl : b < (gs Γ).heap.size) (hbA : ¬ gA G b) (hNc : va_Nc EI EN (gs Γ)) (hQf : (gar Γ) = #[Value.ref b] ∧ Qf = lw_Z (gbe Γ) #[Value.ref b] (gs Γ)) (hA9 : ∀ q, gA G q → (gs Γ).heap.size ≤ q) (hc9 : ce + 8 ≤ room_1.cells) (hs9 : sl + 48 ≤ room_1.slots) (hc0 : ce ≤ room_1.cells) (hs0 : sl ≤ room_1.slots) {L23 : Mem × Int32 → Prop} (hL23 : ∀ s, L23 s → X Γ G Qf 7 (ce + 8) (sl + 48) 23 [(4, .int s.2), (0, .ref b), (1, .ref (ga G 10 0)), (2, .ref (ga G 11 0)), (3, .ref (ga G 9000 0))] [] s.1) (M : Mem) (y4 : Int32) (h : bL_law_2063 xs L L23 M y4) : X Γ G Qf 7 (ce + 0) (sl + 0) 2063 [(4, .int y4), (0, .ref b), (1, .ref (ga G 10 0)), (2, .ref (ga G 11 0)), (3, .ref (ga G 9000 0))] [] M := by
  unfold bL_law_2063 at h
  refine x_aload_n C dL_law_2063 2 rfl ?_
  refine x_calli (rest := []) (ce1 := ce + 0) (sl1 := sl + 0) C sv_L_231 ob10 z10 (kX10_thrift hG _ h) rfl rfl (Nat.le_of_ble_eq_true rfl) ⟨Nat.le_of_ble_eq_true rfl, Nat.le_of_ble_eq_true rfl⟩ rfl rfl ⟨Nat.le_trans (Nat.add_le_add_left (Nat.le_of_ble_eq_true rfl) ce) hc9, Nat.le_trans (Nat.add_le_add_left (Nat.le_of_ble_eq_true rfl) sl) hs9⟩ dL_law_2064 (fun r152 M153 h => ?_)
  refine x_aload_n C dL_law_2067 3 rfl ?_
  refine x_calli (rest := [.int r152]) (ce1 := ce + 0) (sl1 := sl + 0) C sv_L_234 ob11 z11 (kX11_thrift hG _ h) rfl rfl (Nat.le_of_ble_eq_true rfl) ⟨Nat.le_of_ble_eq_true rfl, Nat.le_of_ble_eq_true rfl⟩ rfl rfl ⟨Nat.le_trans (Nat.add_le_add_left (Nat.le_of_ble_eq_true rfl) ce) hc9, Nat.le_trans (Nat.add_le_add_left (Nat.le_of_ble_eq_true rfl) sl) hs9⟩ dL_law_2068 (fun r154 M155 h => ?_)
  refine x_icmp_eq (tgt := 2690) C dL_law_2071 (by decide) (fun c156 => ?_) (fun c156 => ?_)
  · replace h := h.1 c156
    refine X_widen (c1 := ce + 4) (s1 := sl + 24) (Nat.add_le_add_left (Nat.le_of_ble_eq_true rfl) ce) (Nat.add_le_add_left (Nat.le_of_ble_eq_true rfl) sl) ?_
    refine X_sub (lv' := [(4, .int y4), (0, .ref b), (1, .ref (ga G 10 0)), (2, .ref (ga G 11 0)), (3, .ref (ga G 9000 0))]) [0, 1, 2, 3, 4] rfl ?_
    exact wL_law_2690 hG C hl0 hX hbl hbA hNc hQf hA9 hc9 hs9 hc0 hs0 hL23 M155 y4 h
  · replace h := h.2 c156
    refine x_iconst (v := 0) C dL_law_2074 rfl ?_
    exact h.elim
set_option maxRecDepth 100000 in
set_option maxHeartbeats 400000 in
theorem wL_law_2141 {Γ : Gam} {G : Gm} {Qf : State → Prop} {xs : Nat → Int32} {b L ce sl : Nat} (hG : Gd G) (C : Cx Γ G cL_law 7 RL (some .boolean) room_1) (hl0 : (gl Γ).stackTraces = false) (hX : va_X b L xs (gs Γ) (gs Γ).heap) (hbl : b < (gs Γ).heap.size) (hbA : ¬ gA G b) (hNc : va_Nc EI EN (gs Γ)) (hQf : (gar Γ) = #[Value.ref b] ∧ Qf = lw_Z (gbe Γ) #[Value.ref b] (gs Γ)) (hA9 : ∀ q, gA G q → (gs Γ).heap.size ≤ q) (hc9 : ce + 8 ≤ room_1.cells) (hs9 : sl + 48 ≤ room_1.slots) (hc0 : ce ≤ room_1.cells) (hs0 : sl ≤ room_1.slots) {L23 : Mem × Int32 → Prop} (hL23 : ∀ s, L23 s → X Γ G Qf 7 (ce + 8) (sl + 48) 23 [(4, .int s.2), (0, .ref b), (1, .ref (ga G 10 0)), (2, .ref (ga G 11 0)), (3, .ref (ga G 9000 0))] [] s.1) (M : Mem) (y4 : Int32) (h : bL_law_2141 xs L L23 M y4) : X Γ G Qf 7 (ce + 2) (sl + 12) 2141 [(4, .int y4), (0, .ref b), (1, .ref (ga G 10 0)), (2, .ref (ga G 11 0)), (3, .ref (ga G 9000 0))] [] M := by
  unfold bL_law_2141 at h
  refine x_goto (tgt := 2690) C dL_law_2141 (by decide) ?_
  refine X_widen (c1 := ce + 4) (s1 := sl + 24) (Nat.add_le_add_left (Nat.le_of_ble_eq_true rfl) ce) (Nat.add_le_add_left (Nat.le_of_ble_eq_true rfl) sl) ?_
  refine X_sub (lv' := [(4, .int y4), (0, .ref b), (1, .ref (ga G 10 0)), (2, .ref (ga G 11 0)), (3, .ref (ga G 9000 0))]) [0, 1, 2, 3, 4] rfl ?_
  exact wL_law_2690 hG C hl0 hX hbl hbA hNc hQf hA9 hc9 hs9 hc0 hs0 hL23 M y4 h
set_option maxRecDepth 100000 in
set_option maxHeartbeats 400000 in
theorem wL_law_2076 {Γ : Gam} {G : Gm} {Qf : State → Prop} {xs : Nat → Int32} {b L ce sl : Nat} (hG : Gd G) (C : Cx Γ G cL_law 7 RL (some .boolean) room_1) (hl0 : (gl Γ).stackTraces = false) (hX : va_X b L xs (gs Γ) (gs Γ).heap) (hbl : b < (gs Γ).heap.size) (hbA : ¬ gA G b) (hNc : va_Nc EI EN (gs Γ)) (hQf : (gar Γ) = #[Value.ref b] ∧ Qf = lw_Z (gbe Γ) #[Value.ref b] (gs Γ)) (hA9 : ∀ q, gA G q → (gs Γ).heap.size ≤ q) (hc9 : ce + 8 ≤ room_1.cells) (hs9 : sl + 48 ≤ room_1.slots) (hc0 : ce ≤ room_1.cells) (hs0 : sl ≤ room_1.slots) {L23 : Mem × Int32 → Prop} (hL23 : ∀ s, L23 s → X Γ G Qf 7 (ce + 8) (sl + 48) 23 [(4, .int s.2), (0, .ref b), (1, .ref (ga G 10 0)), (2, .ref (ga G 11 0)), (3, .ref (ga G 9000 0))] [] s.1) (M : Mem) (y4 : Int32) (h : bL_law_2076 xs L L23 M y4) : X Γ G Qf 7 (ce + 0) (sl + 0) 2076 [(4, .int y4), (0, .ref b), (1, .ref (ga G 10 0)), (2, .ref (ga G 11 0)), (3, .ref (ga G 9000 0))] [] M := by
  unfold bL_law_2076 at h
  refine x_aload_n C dL_law_2076 2 rfl ?_
  refine x_aload_n C dL_law_2077 1 rfl ?_
  refine x_iload C dL_law_2078 0 rfl ?_
  refine x_iconst (v := 1) C dL_law_2080 rfl ?_
  refine x_iadd C dL_law_2081 ?_
  obtain ⟨f141, h⟩ := h
  refine x_sld C hX hbl hbA f141 dL_law_2082 ?_
  refine x_aload_n C dL_law_2083 1 rfl ?_
  refine x_iload C dL_law_2084 0 rfl ?_
  refine x_iconst (v := 2) C dL_law_2086 rfl ?_
  refine x_iadd C dL_law_2087 ?_
  obtain ⟨f142, h⟩ := h
  refine x_sld C hX hbl hbA f142 dL_law_2088 ?_
  refine x_aload_n C dL_law_2089 4 rfl ?_
  refine x_lcall (rest := []) (ce1 := ce + 2) (sl1 := sl + 12) C sl_L_235 hNc (kL_swift hG hl0 _ _ _ h) rfl rfl (Nat.le_of_ble_eq_true rfl) ⟨Nat.le_of_ble_eq_true rfl, Nat.le_of_ble_eq_true rfl⟩ rfl rfl ⟨Nat.le_trans (Nat.add_le_add_left (Nat.le_of_ble_eq_true rfl) ce) hc9, Nat.le_trans (Nat.add_le_add_left (Nat.le_of_ble_eq_true rfl) sl) hs9⟩ dL_law_2090 (fun r143 M144 h => ?_)
  refine x_istore (lv' := [(5, .int r143), (4, .int y4), (0, .ref b), (1, .ref (ga G 10 0)), (2, .ref (ga G 11 0)), (3, .ref (ga G 9000 0))]) C dL_law_2093 (Nat.le_of_ble_eq_true rfl) rfl ?_
  refine x_aload_n C dL_law_2095 4 rfl ?_
  refine x_aload_n C dL_law_2096 2 rfl ?_
  refine x_iload C dL_law_2097 1 rfl ?_
  refine x_iconst (v := 1) C dL_law_2099 rfl ?_
  refine x_iadd C dL_law_2100 ?_
  refine x_sld C hX hbl hbA f141 dL_law_2101 ?_
  refine x_aload_n C dL_law_2102 2 rfl ?_
  refine x_iload C dL_law_2103 1 rfl ?_
  refine x_iconst (v := 2) C dL_law_2105 rfl ?_
  refine x_iadd C dL_law_2106 ?_
  refine x_sld C hX hbl hbA f142 dL_law_2107 ?_
  refine x_calli (rest := []) (ce1 := ce + 2) (sl1 := sl + 12) C sv_L_237 ob11 z11 (kX11_swift hG _ _ _ h) rfl rfl (Nat.le_of_ble_eq_true rfl) ⟨Nat.le_of_ble_eq_true rfl, Nat.le_of_ble_eq_true rfl⟩ rfl rfl ⟨Nat.le_trans (Nat.add_le_add_left (Nat.le_of_ble_eq_true rfl) ce) hc9, Nat.le_trans (Nat.add_le_add_left (Nat.le_of_ble_eq_true rfl) sl) hs9⟩ dL_law_2108 (fun r145 M146 h => ?_)
  refine x_istore (lv' := [(6, .int r145), (5, .int r143), (4, .int y4), (0, .ref b), (1, .ref (ga G 10 0)), (2, .ref (ga G 11 0)), (3, .ref (ga G 9000 0))]) C dL_law_2111 (Nat.le_of_ble_eq_true rfl) rfl ?_
  refine x_aload_n C dL_law_2113 5 rfl ?_
  refine x_calli (rest := []) (ce1 := ce + 2) (sl1 := sl + 12) C sv_L_139 ob11 z11 (kX11_thrown hG _ h) rfl rfl (Nat.le_of_ble_eq_true rfl) ⟨Nat.le_of_ble_eq_true rfl, Nat.le_of_ble_eq_true rfl⟩ rfl rfl ⟨Nat.le_trans (Nat.add_le_add_left (Nat.le_of_ble_eq_true rfl) ce) hc9, Nat.le_trans (Nat.add_le_add_left (Nat.le_of_ble_eq_true rfl) sl) hs9⟩ dL_law_2114 (fun r147 M148 h => ?_)
  refine x_iload C dL_law_2117 1 rfl ?_
  refine x_icmp_eq (tgt := 2124) C dL_law_2119 (by decide) (fun c149 => ?_) (fun c149 => ?_)
  · replace h := h.1 c149
    refine x_iload C dL_law_2124 1 rfl ?_
    refine x_if_ne (tgt := 2141) C dL_law_2126 (by decide) (fun c150 => ?_) (fun c150 => ?_)
    · replace h := h.1 c150
      refine X_sub (lv' := [(4, .int y4), (0, .ref b), (1, .ref (ga G 10 0)), (2, .ref (ga G 11 0)), (3, .ref (ga G 9000 0))]) [2, 3, 4, 5, 6] rfl ?_
      exact wL_law_2141 hG C hl0 hX hbl hbA hNc hQf hA9 hc9 hs9 hc0 hs0 hL23 M148 y4 h
    · replace h := h.2 c150
      refine x_aload_n C dL_law_2129 6 rfl ?_
      refine x_iconst (v := 0) C dL_law_2130 rfl ?_
      refine al_9000 C z9000 (vp_l (by decide)) dL_law_2131 ?_
      refine x_iload C dL_law_2132 0 rfl ?_
      refine x_i2l C dL_law_2134 ?_
      refine x_lcmp C dL_law_2135 ?_
      refine x_if_eq (tgt := 2141) C dL_law_2136 (by decide) (fun c151 => ?_) (fun c151 => ?_)
      · replace h := h.1 c151
        refine X_sub (lv' := [(4, .int y4), (0, .ref b), (1, .ref (ga G 10 0)), (2, .ref (ga G 11 0)), (3, .ref (ga G 9000 0))]) [2, 3, 4, 5, 6] rfl ?_
        exact wL_law_2141 hG C hl0 hX hbl hbA hNc hQf hA9 hc9 hs9 hc0 hs0 hL23 M148 y4 h
      · replace h := h.2 c151
        refine x_iconst (v := 0) C dL_law_2139 rfl ?_
        exact h.elim
  · replace h := h.2 c149
    refine x_iconst (v := 0) C dL_law_2122 rfl ?_
    exact h.elim
set_option maxRecDepth 100000 in
set_option maxHeartbeats 400000 in
theorem wL_law_2209 {Γ : Gam} {G : Gm} {Qf : State → Prop} {xs : Nat → Int32} {b L ce sl : Nat} (hG : Gd G) (C : Cx Γ G cL_law 7 RL (some .boolean) room_1) (hl0 : (gl Γ).stackTraces = false) (hX : va_X b L xs (gs Γ) (gs Γ).heap) (hbl : b < (gs Γ).heap.size) (hbA : ¬ gA G b) (hNc : va_Nc EI EN (gs Γ)) (hQf : (gar Γ) = #[Value.ref b] ∧ Qf = lw_Z (gbe Γ) #[Value.ref b] (gs Γ)) (hA9 : ∀ q, gA G q → (gs Γ).heap.size ≤ q) (hc9 : ce + 8 ≤ room_1.cells) (hs9 : sl + 48 ≤ room_1.slots) (hc0 : ce ≤ room_1.cells) (hs0 : sl ≤ room_1.slots) {L23 : Mem × Int32 → Prop} (hL23 : ∀ s, L23 s → X Γ G Qf 7 (ce + 8) (sl + 48) 23 [(4, .int s.2), (0, .ref b), (1, .ref (ga G 10 0)), (2, .ref (ga G 11 0)), (3, .ref (ga G 9000 0))] [] s.1) (M : Mem) (y4 : Int32) (h : bL_law_2209 xs L L23 M y4) : X Γ G Qf 7 (ce + 2) (sl + 12) 2209 [(4, .int y4), (0, .ref b), (1, .ref (ga G 10 0)), (2, .ref (ga G 11 0)), (3, .ref (ga G 9000 0))] [] M := by
  unfold bL_law_2209 at h
  refine x_goto (tgt := 2690) C dL_law_2209 (by decide) ?_
  refine X_widen (c1 := ce + 4) (s1 := sl + 24) (Nat.add_le_add_left (Nat.le_of_ble_eq_true rfl) ce) (Nat.add_le_add_left (Nat.le_of_ble_eq_true rfl) sl) ?_
  refine X_sub (lv' := [(4, .int y4), (0, .ref b), (1, .ref (ga G 10 0)), (2, .ref (ga G 11 0)), (3, .ref (ga G 9000 0))]) [0, 1, 2, 3, 4] rfl ?_
  exact wL_law_2690 hG C hl0 hX hbl hbA hNc hQf hA9 hc9 hs9 hc0 hs0 hL23 M y4 h
set_option maxRecDepth 100000 in
set_option maxHeartbeats 400000 in
theorem wL_law_2144 {Γ : Gam} {G : Gm} {Qf : State → Prop} {xs : Nat → Int32} {b L ce sl : Nat} (hG : Gd G) (C : Cx Γ G cL_law 7 RL (some .boolean) room_1) (hl0 : (gl Γ).stackTraces = false) (hX : va_X b L xs (gs Γ) (gs Γ).heap) (hbl : b < (gs Γ).heap.size) (hbA : ¬ gA G b) (hNc : va_Nc EI EN (gs Γ)) (hQf : (gar Γ) = #[Value.ref b] ∧ Qf = lw_Z (gbe Γ) #[Value.ref b] (gs Γ)) (hA9 : ∀ q, gA G q → (gs Γ).heap.size ≤ q) (hc9 : ce + 8 ≤ room_1.cells) (hs9 : sl + 48 ≤ room_1.slots) (hc0 : ce ≤ room_1.cells) (hs0 : sl ≤ room_1.slots) {L23 : Mem × Int32 → Prop} (hL23 : ∀ s, L23 s → X Γ G Qf 7 (ce + 8) (sl + 48) 23 [(4, .int s.2), (0, .ref b), (1, .ref (ga G 10 0)), (2, .ref (ga G 11 0)), (3, .ref (ga G 9000 0))] [] s.1) (M : Mem) (y4 : Int32) (h : bL_law_2144 xs L L23 M y4) : X Γ G Qf 7 (ce + 0) (sl + 0) 2144 [(4, .int y4), (0, .ref b), (1, .ref (ga G 10 0)), (2, .ref (ga G 11 0)), (3, .ref (ga G 9000 0))] [] M := by
  unfold bL_law_2144 at h
  refine x_aload_n C dL_law_2144 2 rfl ?_
  refine x_aload_n C dL_law_2145 1 rfl ?_
  refine x_iload C dL_law_2146 0 rfl ?_
  refine x_iconst (v := 1) C dL_law_2148 rfl ?_
  refine x_iadd C dL_law_2149 ?_
  obtain ⟨f130, h⟩ := h
  refine x_sld C hX hbl hbA f130 dL_law_2150 ?_
  refine x_aload_n C dL_law_2151 1 rfl ?_
  refine x_iload C dL_law_2152 0 rfl ?_
  refine x_iconst (v := 2) C dL_law_2154 rfl ?_
  refine x_iadd C dL_law_2155 ?_
  obtain ⟨f131, h⟩ := h
  refine x_sld C hX hbl hbA f131 dL_law_2156 ?_
  refine x_aload_n C dL_law_2157 4 rfl ?_
  refine x_lcall (rest := []) (ce1 := ce + 2) (sl1 := sl + 12) C sl_L_238 hNc (kL_blockOf hG hl0 _ _ _ h) rfl rfl (Nat.le_of_ble_eq_true rfl) ⟨Nat.le_of_ble_eq_true rfl, Nat.le_of_ble_eq_true rfl⟩ rfl rfl ⟨Nat.le_trans (Nat.add_le_add_left (Nat.le_of_ble_eq_true rfl) ce) hc9, Nat.le_trans (Nat.add_le_add_left (Nat.le_of_ble_eq_true rfl) sl) hs9⟩ dL_law_2158 (fun r132 M133 h => ?_)
  refine x_istore (lv' := [(5, .int r132), (4, .int y4), (0, .ref b), (1, .ref (ga G 10 0)), (2, .ref (ga G 11 0)), (3, .ref (ga G 9000 0))]) C dL_law_2161 (Nat.le_of_ble_eq_true rfl) rfl ?_
  refine x_aload_n C dL_law_2163 4 rfl ?_
  refine x_aload_n C dL_law_2164 2 rfl ?_
  refine x_iload C dL_law_2165 1 rfl ?_
  refine x_iconst (v := 1) C dL_law_2167 rfl ?_
  refine x_iadd C dL_law_2168 ?_
  refine x_sld C hX hbl hbA f130 dL_law_2169 ?_
  refine x_aload_n C dL_law_2170 2 rfl ?_
  refine x_iload C dL_law_2171 1 rfl ?_
  refine x_iconst (v := 2) C dL_law_2173 rfl ?_
  refine x_iadd C dL_law_2174 ?_
  refine x_sld C hX hbl hbA f131 dL_law_2175 ?_
  refine x_calli (rest := []) (ce1 := ce + 2) (sl1 := sl + 12) C sv_L_240 ob11 z11 (kX11_blockOf hG _ _ _ h) rfl rfl (Nat.le_of_ble_eq_true rfl) ⟨Nat.le_of_ble_eq_true rfl, Nat.le_of_ble_eq_true rfl⟩ rfl rfl ⟨Nat.le_trans (Nat.add_le_add_left (Nat.le_of_ble_eq_true rfl) ce) hc9, Nat.le_trans (Nat.add_le_add_left (Nat.le_of_ble_eq_true rfl) sl) hs9⟩ dL_law_2176 (fun r134 M135 h => ?_)
  refine x_istore (lv' := [(6, .int r134), (5, .int r132), (4, .int y4), (0, .ref b), (1, .ref (ga G 10 0)), (2, .ref (ga G 11 0)), (3, .ref (ga G 9000 0))]) C dL_law_2179 (Nat.le_of_ble_eq_true rfl) rfl ?_
  refine x_aload_n C dL_law_2181 5 rfl ?_
  refine x_calli (rest := []) (ce1 := ce + 2) (sl1 := sl + 12) C sv_L_139 ob11 z11 (kX11_thrown hG _ h) rfl rfl (Nat.le_of_ble_eq_true rfl) ⟨Nat.le_of_ble_eq_true rfl, Nat.le_of_ble_eq_true rfl⟩ rfl rfl ⟨Nat.le_trans (Nat.add_le_add_left (Nat.le_of_ble_eq_true rfl) ce) hc9, Nat.le_trans (Nat.add_le_add_left (Nat.le_of_ble_eq_true rfl) sl) hs9⟩ dL_law_2182 (fun r136 M137 h => ?_)
  refine x_iload C dL_law_2185 1 rfl ?_
  refine x_icmp_eq (tgt := 2192) C dL_law_2187 (by decide) (fun c138 => ?_) (fun c138 => ?_)
  · replace h := h.1 c138
    refine x_iload C dL_law_2192 1 rfl ?_
    refine x_if_ne (tgt := 2209) C dL_law_2194 (by decide) (fun c139 => ?_) (fun c139 => ?_)
    · replace h := h.1 c139
      refine X_sub (lv' := [(4, .int y4), (0, .ref b), (1, .ref (ga G 10 0)), (2, .ref (ga G 11 0)), (3, .ref (ga G 9000 0))]) [2, 3, 4, 5, 6] rfl ?_
      exact wL_law_2209 hG C hl0 hX hbl hbA hNc hQf hA9 hc9 hs9 hc0 hs0 hL23 M137 y4 h
    · replace h := h.2 c139
      refine x_aload_n C dL_law_2197 6 rfl ?_
      refine x_iconst (v := 0) C dL_law_2198 rfl ?_
      refine al_9000 C z9000 (vp_l (by decide)) dL_law_2199 ?_
      refine x_iload C dL_law_2200 0 rfl ?_
      refine x_i2l C dL_law_2202 ?_
      refine x_lcmp C dL_law_2203 ?_
      refine x_if_eq (tgt := 2209) C dL_law_2204 (by decide) (fun c140 => ?_) (fun c140 => ?_)
      · replace h := h.1 c140
        refine X_sub (lv' := [(4, .int y4), (0, .ref b), (1, .ref (ga G 10 0)), (2, .ref (ga G 11 0)), (3, .ref (ga G 9000 0))]) [2, 3, 4, 5, 6] rfl ?_
        exact wL_law_2209 hG C hl0 hX hbl hbA hNc hQf hA9 hc9 hs9 hc0 hs0 hL23 M137 y4 h
      · replace h := h.2 c140
        refine x_iconst (v := 0) C dL_law_2207 rfl ?_
        exact h.elim
  · replace h := h.2 c138
    refine x_iconst (v := 0) C dL_law_2190 rfl ?_
    exact h.elim
set_option maxRecDepth 100000 in
set_option maxHeartbeats 400000 in
theorem wL_law_2212 {Γ : Gam} {G : Gm} {Qf : State → Prop} {xs : Nat → Int32} {b L ce sl : Nat} (hG : Gd G) (C : Cx Γ G cL_law 7 RL (some .boolean) room_1) (hl0 : (gl Γ).stackTraces = false) (hX : va_X b L xs (gs Γ) (gs Γ).heap) (hbl : b < (gs Γ).heap.size) (hbA : ¬ gA G b) (hNc : va_Nc EI EN (gs Γ)) (hQf : (gar Γ) = #[Value.ref b] ∧ Qf = lw_Z (gbe Γ) #[Value.ref b] (gs Γ)) (hA9 : ∀ q, gA G q → (gs Γ).heap.size ≤ q) (hc9 : ce + 8 ≤ room_1.cells) (hs9 : sl + 48 ≤ room_1.slots) (hc0 : ce ≤ room_1.cells) (hs0 : sl ≤ room_1.slots) {L23 : Mem × Int32 → Prop} (hL23 : ∀ s, L23 s → X Γ G Qf 7 (ce + 8) (sl + 48) 23 [(4, .int s.2), (0, .ref b), (1, .ref (ga G 10 0)), (2, .ref (ga G 11 0)), (3, .ref (ga G 9000 0))] [] s.1) (M : Mem) (y4 : Int32) (h : bL_law_2212 xs L L23 M y4) : X Γ G Qf 7 (ce + 0) (sl + 0) 2212 [(4, .int y4), (0, .ref b), (1, .ref (ga G 10 0)), (2, .ref (ga G 11 0)), (3, .ref (ga G 9000 0))] [] M := by
  unfold bL_law_2212 at h
  refine x_aload_n C dL_law_2212 2 rfl ?_
  refine x_calli (rest := []) (ce1 := ce + 0) (sl1 := sl + 0) C sv_L_241 ob10 z10 (kX10_full hG _ h) rfl rfl (Nat.le_of_ble_eq_true rfl) ⟨Nat.le_of_ble_eq_true rfl, Nat.le_of_ble_eq_true rfl⟩ rfl rfl ⟨Nat.le_trans (Nat.add_le_add_left (Nat.le_of_ble_eq_true rfl) ce) hc9, Nat.le_trans (Nat.add_le_add_left (Nat.le_of_ble_eq_true rfl) sl) hs9⟩ dL_law_2213 (fun r125 M126 h => ?_)
  refine x_aload_n C dL_law_2216 3 rfl ?_
  refine x_calli (rest := [.int r125]) (ce1 := ce + 0) (sl1 := sl + 0) C sv_L_244 ob11 z11 (kX11_full hG _ h) rfl rfl (Nat.le_of_ble_eq_true rfl) ⟨Nat.le_of_ble_eq_true rfl, Nat.le_of_ble_eq_true rfl⟩ rfl rfl ⟨Nat.le_trans (Nat.add_le_add_left (Nat.le_of_ble_eq_true rfl) ce) hc9, Nat.le_trans (Nat.add_le_add_left (Nat.le_of_ble_eq_true rfl) sl) hs9⟩ dL_law_2217 (fun r127 M128 h => ?_)
  refine x_icmp_eq (tgt := 2690) C dL_law_2220 (by decide) (fun c129 => ?_) (fun c129 => ?_)
  · replace h := h.1 c129
    refine X_widen (c1 := ce + 4) (s1 := sl + 24) (Nat.add_le_add_left (Nat.le_of_ble_eq_true rfl) ce) (Nat.add_le_add_left (Nat.le_of_ble_eq_true rfl) sl) ?_
    refine X_sub (lv' := [(4, .int y4), (0, .ref b), (1, .ref (ga G 10 0)), (2, .ref (ga G 11 0)), (3, .ref (ga G 9000 0))]) [0, 1, 2, 3, 4] rfl ?_
    exact wL_law_2690 hG C hl0 hX hbl hbA hNc hQf hA9 hc9 hs9 hc0 hs0 hL23 M128 y4 h
  · replace h := h.2 c129
    refine x_iconst (v := 0) C dL_law_2223 rfl ?_
    exact h.elim
set_option maxRecDepth 100000 in
set_option maxHeartbeats 400000 in
theorem wL_law_2278 {Γ : Gam} {G : Gm} {Qf : State → Prop} {xs : Nat → Int32} {b L ce sl : Nat} (hG : Gd G) (C : Cx Γ G cL_law 7 RL (some .boolean) room_1) (hl0 : (gl Γ).stackTraces = false) (hX : va_X b L xs (gs Γ) (gs Γ).heap) (hbl : b < (gs Γ).heap.size) (hbA : ¬ gA G b) (hNc : va_Nc EI EN (gs Γ)) (hQf : (gar Γ) = #[Value.ref b] ∧ Qf = lw_Z (gbe Γ) #[Value.ref b] (gs Γ)) (hA9 : ∀ q, gA G q → (gs Γ).heap.size ≤ q) (hc9 : ce + 8 ≤ room_1.cells) (hs9 : sl + 48 ≤ room_1.slots) (hc0 : ce ≤ room_1.cells) (hs0 : sl ≤ room_1.slots) {L23 : Mem × Int32 → Prop} (hL23 : ∀ s, L23 s → X Γ G Qf 7 (ce + 8) (sl + 48) 23 [(4, .int s.2), (0, .ref b), (1, .ref (ga G 10 0)), (2, .ref (ga G 11 0)), (3, .ref (ga G 9000 0))] [] s.1) (M : Mem) (y4 : Int32) (h : bL_law_2278 xs L L23 M y4) : X Γ G Qf 7 (ce + 1) (sl + 6) 2278 [(4, .int y4), (0, .ref b), (1, .ref (ga G 10 0)), (2, .ref (ga G 11 0)), (3, .ref (ga G 9000 0))] [] M := by
  unfold bL_law_2278 at h
  refine x_goto (tgt := 2690) C dL_law_2278 (by decide) ?_
  refine X_widen (c1 := ce + 4) (s1 := sl + 24) (Nat.add_le_add_left (Nat.le_of_ble_eq_true rfl) ce) (Nat.add_le_add_left (Nat.le_of_ble_eq_true rfl) sl) ?_
  refine X_sub (lv' := [(4, .int y4), (0, .ref b), (1, .ref (ga G 10 0)), (2, .ref (ga G 11 0)), (3, .ref (ga G 9000 0))]) [0, 1, 2, 3, 4] rfl ?_
  exact wL_law_2690 hG C hl0 hX hbl hbA hNc hQf hA9 hc9 hs9 hc0 hs0 hL23 M y4 h
set_option maxRecDepth 100000 in
set_option maxHeartbeats 400000 in
theorem wL_law_2225 {Γ : Gam} {G : Gm} {Qf : State → Prop} {xs : Nat → Int32} {b L ce sl : Nat} (hG : Gd G) (C : Cx Γ G cL_law 7 RL (some .boolean) room_1) (hl0 : (gl Γ).stackTraces = false) (hX : va_X b L xs (gs Γ) (gs Γ).heap) (hbl : b < (gs Γ).heap.size) (hbA : ¬ gA G b) (hNc : va_Nc EI EN (gs Γ)) (hQf : (gar Γ) = #[Value.ref b] ∧ Qf = lw_Z (gbe Γ) #[Value.ref b] (gs Γ)) (hA9 : ∀ q, gA G q → (gs Γ).heap.size ≤ q) (hc9 : ce + 8 ≤ room_1.cells) (hs9 : sl + 48 ≤ room_1.slots) (hc0 : ce ≤ room_1.cells) (hs0 : sl ≤ room_1.slots) {L23 : Mem × Int32 → Prop} (hL23 : ∀ s, L23 s → X Γ G Qf 7 (ce + 8) (sl + 48) 23 [(4, .int s.2), (0, .ref b), (1, .ref (ga G 10 0)), (2, .ref (ga G 11 0)), (3, .ref (ga G 9000 0))] [] s.1) (M : Mem) (y4 : Int32) (h : bL_law_2225 xs L L23 M y4) : X Γ G Qf 7 (ce + 0) (sl + 0) 2225 [(4, .int y4), (0, .ref b), (1, .ref (ga G 10 0)), (2, .ref (ga G 11 0)), (3, .ref (ga G 9000 0))] [] M := by
  unfold bL_law_2225 at h
  refine x_aload_n C dL_law_2225 2 rfl ?_
  refine x_aload_n C dL_law_2226 1 rfl ?_
  refine x_iload C dL_law_2227 0 rfl ?_
  refine x_iconst (v := 1) C dL_law_2229 rfl ?_
  refine x_iadd C dL_law_2230 ?_
  obtain ⟨f115, h⟩ := h
  refine x_sld C hX hbl hbA f115 dL_law_2231 ?_
  refine x_aload_n C dL_law_2232 4 rfl ?_
  refine x_lcall (rest := []) (ce1 := ce + 1) (sl1 := sl + 6) C sl_L_245 hNc (kL_spread hG hl0 _ _ h) rfl rfl (Nat.le_of_ble_eq_true rfl) ⟨Nat.le_of_ble_eq_true rfl, Nat.le_of_ble_eq_true rfl⟩ rfl rfl ⟨Nat.le_trans (Nat.add_le_add_left (Nat.le_of_ble_eq_true rfl) ce) hc9, Nat.le_trans (Nat.add_le_add_left (Nat.le_of_ble_eq_true rfl) sl) hs9⟩ dL_law_2233 (fun r116 M117 h => ?_)
  refine x_istore (lv' := [(5, .int r116), (4, .int y4), (0, .ref b), (1, .ref (ga G 10 0)), (2, .ref (ga G 11 0)), (3, .ref (ga G 9000 0))]) C dL_law_2236 (Nat.le_of_ble_eq_true rfl) rfl ?_
  refine x_aload_n C dL_law_2238 4 rfl ?_
  refine x_aload_n C dL_law_2239 2 rfl ?_
  refine x_iload C dL_law_2240 1 rfl ?_
  refine x_iconst (v := 1) C dL_law_2242 rfl ?_
  refine x_iadd C dL_law_2243 ?_
  refine x_sld C hX hbl hbA f115 dL_law_2244 ?_
  refine x_calli (rest := []) (ce1 := ce + 1) (sl1 := sl + 6) C sv_L_247 ob11 z11 (kX11_spread hG _ _ h) rfl rfl (Nat.le_of_ble_eq_true rfl) ⟨Nat.le_of_ble_eq_true rfl, Nat.le_of_ble_eq_true rfl⟩ rfl rfl ⟨Nat.le_trans (Nat.add_le_add_left (Nat.le_of_ble_eq_true rfl) ce) hc9, Nat.le_trans (Nat.add_le_add_left (Nat.le_of_ble_eq_true rfl) sl) hs9⟩ dL_law_2245 (fun r118 M119 h => ?_)
  refine x_istore (lv' := [(6, .int r118), (5, .int r116), (4, .int y4), (0, .ref b), (1, .ref (ga G 10 0)), (2, .ref (ga G 11 0)), (3, .ref (ga G 9000 0))]) C dL_law_2248 (Nat.le_of_ble_eq_true rfl) rfl ?_
  refine x_aload_n C dL_law_2250 5 rfl ?_
  refine x_calli (rest := []) (ce1 := ce + 1) (sl1 := sl + 6) C sv_L_139 ob11 z11 (kX11_thrown hG _ h) rfl rfl (Nat.le_of_ble_eq_true rfl) ⟨Nat.le_of_ble_eq_true rfl, Nat.le_of_ble_eq_true rfl⟩ rfl rfl ⟨Nat.le_trans (Nat.add_le_add_left (Nat.le_of_ble_eq_true rfl) ce) hc9, Nat.le_trans (Nat.add_le_add_left (Nat.le_of_ble_eq_true rfl) sl) hs9⟩ dL_law_2251 (fun r120 M121 h => ?_)
  refine x_iload C dL_law_2254 1 rfl ?_
  refine x_icmp_eq (tgt := 2261) C dL_law_2256 (by decide) (fun c122 => ?_) (fun c122 => ?_)
  · replace h := h.1 c122
    refine x_iload C dL_law_2261 1 rfl ?_
    refine x_if_ne (tgt := 2278) C dL_law_2263 (by decide) (fun c123 => ?_) (fun c123 => ?_)
    · replace h := h.1 c123
      refine X_sub (lv' := [(4, .int y4), (0, .ref b), (1, .ref (ga G 10 0)), (2, .ref (ga G 11 0)), (3, .ref (ga G 9000 0))]) [2, 3, 4, 5, 6] rfl ?_
      exact wL_law_2278 hG C hl0 hX hbl hbA hNc hQf hA9 hc9 hs9 hc0 hs0 hL23 M121 y4 h
    · replace h := h.2 c123
      refine x_aload_n C dL_law_2266 6 rfl ?_
      refine x_iconst (v := 0) C dL_law_2267 rfl ?_
      refine al_9000 C z9000 (vp_l (by decide)) dL_law_2268 ?_
      refine x_iload C dL_law_2269 0 rfl ?_
      refine x_i2l C dL_law_2271 ?_
      refine x_lcmp C dL_law_2272 ?_
      refine x_if_eq (tgt := 2278) C dL_law_2273 (by decide) (fun c124 => ?_) (fun c124 => ?_)
      · replace h := h.1 c124
        refine X_sub (lv' := [(4, .int y4), (0, .ref b), (1, .ref (ga G 10 0)), (2, .ref (ga G 11 0)), (3, .ref (ga G 9000 0))]) [2, 3, 4, 5, 6] rfl ?_
        exact wL_law_2278 hG C hl0 hX hbl hbA hNc hQf hA9 hc9 hs9 hc0 hs0 hL23 M121 y4 h
      · replace h := h.2 c124
        refine x_iconst (v := 0) C dL_law_2276 rfl ?_
        exact h.elim
  · replace h := h.2 c122
    refine x_iconst (v := 0) C dL_law_2259 rfl ?_
    exact h.elim
set_option maxRecDepth 100000 in
set_option maxHeartbeats 400000 in
theorem wL_law_2334 {Γ : Gam} {G : Gm} {Qf : State → Prop} {xs : Nat → Int32} {b L ce sl : Nat} (hG : Gd G) (C : Cx Γ G cL_law 7 RL (some .boolean) room_1) (hl0 : (gl Γ).stackTraces = false) (hX : va_X b L xs (gs Γ) (gs Γ).heap) (hbl : b < (gs Γ).heap.size) (hbA : ¬ gA G b) (hNc : va_Nc EI EN (gs Γ)) (hQf : (gar Γ) = #[Value.ref b] ∧ Qf = lw_Z (gbe Γ) #[Value.ref b] (gs Γ)) (hA9 : ∀ q, gA G q → (gs Γ).heap.size ≤ q) (hc9 : ce + 8 ≤ room_1.cells) (hs9 : sl + 48 ≤ room_1.slots) (hc0 : ce ≤ room_1.cells) (hs0 : sl ≤ room_1.slots) {L23 : Mem × Int32 → Prop} (hL23 : ∀ s, L23 s → X Γ G Qf 7 (ce + 8) (sl + 48) 23 [(4, .int s.2), (0, .ref b), (1, .ref (ga G 10 0)), (2, .ref (ga G 11 0)), (3, .ref (ga G 9000 0))] [] s.1) (M : Mem) (y4 : Int32) (h : bL_law_2334 xs L L23 M y4) : X Γ G Qf 7 (ce + 1) (sl + 6) 2334 [(4, .int y4), (0, .ref b), (1, .ref (ga G 10 0)), (2, .ref (ga G 11 0)), (3, .ref (ga G 9000 0))] [] M := by
  unfold bL_law_2334 at h
  refine x_goto (tgt := 2690) C dL_law_2334 (by decide) ?_
  refine X_widen (c1 := ce + 4) (s1 := sl + 24) (Nat.add_le_add_left (Nat.le_of_ble_eq_true rfl) ce) (Nat.add_le_add_left (Nat.le_of_ble_eq_true rfl) sl) ?_
  refine X_sub (lv' := [(4, .int y4), (0, .ref b), (1, .ref (ga G 10 0)), (2, .ref (ga G 11 0)), (3, .ref (ga G 9000 0))]) [0, 1, 2, 3, 4] rfl ?_
  exact wL_law_2690 hG C hl0 hX hbl hbA hNc hQf hA9 hc9 hs9 hc0 hs0 hL23 M y4 h
set_option maxRecDepth 100000 in
set_option maxHeartbeats 400000 in
theorem wL_law_2281 {Γ : Gam} {G : Gm} {Qf : State → Prop} {xs : Nat → Int32} {b L ce sl : Nat} (hG : Gd G) (C : Cx Γ G cL_law 7 RL (some .boolean) room_1) (hl0 : (gl Γ).stackTraces = false) (hX : va_X b L xs (gs Γ) (gs Γ).heap) (hbl : b < (gs Γ).heap.size) (hbA : ¬ gA G b) (hNc : va_Nc EI EN (gs Γ)) (hQf : (gar Γ) = #[Value.ref b] ∧ Qf = lw_Z (gbe Γ) #[Value.ref b] (gs Γ)) (hA9 : ∀ q, gA G q → (gs Γ).heap.size ≤ q) (hc9 : ce + 8 ≤ room_1.cells) (hs9 : sl + 48 ≤ room_1.slots) (hc0 : ce ≤ room_1.cells) (hs0 : sl ≤ room_1.slots) {L23 : Mem × Int32 → Prop} (hL23 : ∀ s, L23 s → X Γ G Qf 7 (ce + 8) (sl + 48) 23 [(4, .int s.2), (0, .ref b), (1, .ref (ga G 10 0)), (2, .ref (ga G 11 0)), (3, .ref (ga G 9000 0))] [] s.1) (M : Mem) (y4 : Int32) (h : bL_law_2281 xs L L23 M y4) : X Γ G Qf 7 (ce + 0) (sl + 0) 2281 [(4, .int y4), (0, .ref b), (1, .ref (ga G 10 0)), (2, .ref (ga G 11 0)), (3, .ref (ga G 9000 0))] [] M := by
  unfold bL_law_2281 at h
  refine x_aload_n C dL_law_2281 2 rfl ?_
  refine x_aload_n C dL_law_2282 1 rfl ?_
  refine x_iload C dL_law_2283 0 rfl ?_
  refine x_iconst (v := 1) C dL_law_2285 rfl ?_
  refine x_iadd C dL_law_2286 ?_
  obtain ⟨f105, h⟩ := h
  refine x_sld C hX hbl hbA f105 dL_law_2287 ?_
  refine x_aload_n C dL_law_2288 4 rfl ?_
  refine x_lcall (rest := []) (ce1 := ce + 1) (sl1 := sl + 6) C sl_L_248 hNc (kL_nearest hG hl0 _ _ h) rfl rfl (Nat.le_of_ble_eq_true rfl) ⟨Nat.le_of_ble_eq_true rfl, Nat.le_of_ble_eq_true rfl⟩ rfl rfl ⟨Nat.le_trans (Nat.add_le_add_left (Nat.le_of_ble_eq_true rfl) ce) hc9, Nat.le_trans (Nat.add_le_add_left (Nat.le_of_ble_eq_true rfl) sl) hs9⟩ dL_law_2289 (fun r106 M107 h => ?_)
  refine x_istore (lv' := [(5, .int r106), (4, .int y4), (0, .ref b), (1, .ref (ga G 10 0)), (2, .ref (ga G 11 0)), (3, .ref (ga G 9000 0))]) C dL_law_2292 (Nat.le_of_ble_eq_true rfl) rfl ?_
  refine x_aload_n C dL_law_2294 4 rfl ?_
  refine x_aload_n C dL_law_2295 2 rfl ?_
  refine x_iload C dL_law_2296 1 rfl ?_
  refine x_iconst (v := 1) C dL_law_2298 rfl ?_
  refine x_iadd C dL_law_2299 ?_
  refine x_sld C hX hbl hbA f105 dL_law_2300 ?_
  refine x_calli (rest := []) (ce1 := ce + 1) (sl1 := sl + 6) C sv_L_250 ob11 z11 (kX11_nearest hG _ _ h) rfl rfl (Nat.le_of_ble_eq_true rfl) ⟨Nat.le_of_ble_eq_true rfl, Nat.le_of_ble_eq_true rfl⟩ rfl rfl ⟨Nat.le_trans (Nat.add_le_add_left (Nat.le_of_ble_eq_true rfl) ce) hc9, Nat.le_trans (Nat.add_le_add_left (Nat.le_of_ble_eq_true rfl) sl) hs9⟩ dL_law_2301 (fun r108 M109 h => ?_)
  refine x_istore (lv' := [(6, .int r108), (5, .int r106), (4, .int y4), (0, .ref b), (1, .ref (ga G 10 0)), (2, .ref (ga G 11 0)), (3, .ref (ga G 9000 0))]) C dL_law_2304 (Nat.le_of_ble_eq_true rfl) rfl ?_
  refine x_aload_n C dL_law_2306 5 rfl ?_
  refine x_calli (rest := []) (ce1 := ce + 1) (sl1 := sl + 6) C sv_L_139 ob11 z11 (kX11_thrown hG _ h) rfl rfl (Nat.le_of_ble_eq_true rfl) ⟨Nat.le_of_ble_eq_true rfl, Nat.le_of_ble_eq_true rfl⟩ rfl rfl ⟨Nat.le_trans (Nat.add_le_add_left (Nat.le_of_ble_eq_true rfl) ce) hc9, Nat.le_trans (Nat.add_le_add_left (Nat.le_of_ble_eq_true rfl) sl) hs9⟩ dL_law_2307 (fun r110 M111 h => ?_)
  refine x_iload C dL_law_2310 1 rfl ?_
  refine x_icmp_eq (tgt := 2317) C dL_law_2312 (by decide) (fun c112 => ?_) (fun c112 => ?_)
  · replace h := h.1 c112
    refine x_iload C dL_law_2317 1 rfl ?_
    refine x_if_ne (tgt := 2334) C dL_law_2319 (by decide) (fun c113 => ?_) (fun c113 => ?_)
    · replace h := h.1 c113
      refine X_sub (lv' := [(4, .int y4), (0, .ref b), (1, .ref (ga G 10 0)), (2, .ref (ga G 11 0)), (3, .ref (ga G 9000 0))]) [2, 3, 4, 5, 6] rfl ?_
      exact wL_law_2334 hG C hl0 hX hbl hbA hNc hQf hA9 hc9 hs9 hc0 hs0 hL23 M111 y4 h
    · replace h := h.2 c113
      refine x_aload_n C dL_law_2322 6 rfl ?_
      refine x_iconst (v := 0) C dL_law_2323 rfl ?_
      refine al_9000 C z9000 (vp_l (by decide)) dL_law_2324 ?_
      refine x_iload C dL_law_2325 0 rfl ?_
      refine x_i2l C dL_law_2327 ?_
      refine x_lcmp C dL_law_2328 ?_
      refine x_if_eq (tgt := 2334) C dL_law_2329 (by decide) (fun c114 => ?_) (fun c114 => ?_)
      · replace h := h.1 c114
        refine X_sub (lv' := [(4, .int y4), (0, .ref b), (1, .ref (ga G 10 0)), (2, .ref (ga G 11 0)), (3, .ref (ga G 9000 0))]) [2, 3, 4, 5, 6] rfl ?_
        exact wL_law_2334 hG C hl0 hX hbl hbA hNc hQf hA9 hc9 hs9 hc0 hs0 hL23 M111 y4 h
      · replace h := h.2 c114
        refine x_iconst (v := 0) C dL_law_2332 rfl ?_
        exact h.elim
  · replace h := h.2 c112
    refine x_iconst (v := 0) C dL_law_2315 rfl ?_
    exact h.elim
set_option maxRecDepth 100000 in
set_option maxHeartbeats 400000 in
theorem wL_law_2390 {Γ : Gam} {G : Gm} {Qf : State → Prop} {xs : Nat → Int32} {b L ce sl : Nat} (hG : Gd G) (C : Cx Γ G cL_law 7 RL (some .boolean) room_1) (hl0 : (gl Γ).stackTraces = false) (hX : va_X b L xs (gs Γ) (gs Γ).heap) (hbl : b < (gs Γ).heap.size) (hbA : ¬ gA G b) (hNc : va_Nc EI EN (gs Γ)) (hQf : (gar Γ) = #[Value.ref b] ∧ Qf = lw_Z (gbe Γ) #[Value.ref b] (gs Γ)) (hA9 : ∀ q, gA G q → (gs Γ).heap.size ≤ q) (hc9 : ce + 8 ≤ room_1.cells) (hs9 : sl + 48 ≤ room_1.slots) (hc0 : ce ≤ room_1.cells) (hs0 : sl ≤ room_1.slots) {L23 : Mem × Int32 → Prop} (hL23 : ∀ s, L23 s → X Γ G Qf 7 (ce + 8) (sl + 48) 23 [(4, .int s.2), (0, .ref b), (1, .ref (ga G 10 0)), (2, .ref (ga G 11 0)), (3, .ref (ga G 9000 0))] [] s.1) (M : Mem) (y4 : Int32) (h : bL_law_2390 xs L L23 M y4) : X Γ G Qf 7 (ce + 1) (sl + 6) 2390 [(4, .int y4), (0, .ref b), (1, .ref (ga G 10 0)), (2, .ref (ga G 11 0)), (3, .ref (ga G 9000 0))] [] M := by
  unfold bL_law_2390 at h
  refine x_goto (tgt := 2690) C dL_law_2390 (by decide) ?_
  refine X_widen (c1 := ce + 4) (s1 := sl + 24) (Nat.add_le_add_left (Nat.le_of_ble_eq_true rfl) ce) (Nat.add_le_add_left (Nat.le_of_ble_eq_true rfl) sl) ?_
  refine X_sub (lv' := [(4, .int y4), (0, .ref b), (1, .ref (ga G 10 0)), (2, .ref (ga G 11 0)), (3, .ref (ga G 9000 0))]) [0, 1, 2, 3, 4] rfl ?_
  exact wL_law_2690 hG C hl0 hX hbl hbA hNc hQf hA9 hc9 hs9 hc0 hs0 hL23 M y4 h
set_option maxRecDepth 100000 in
set_option maxHeartbeats 400000 in
theorem wL_law_2337 {Γ : Gam} {G : Gm} {Qf : State → Prop} {xs : Nat → Int32} {b L ce sl : Nat} (hG : Gd G) (C : Cx Γ G cL_law 7 RL (some .boolean) room_1) (hl0 : (gl Γ).stackTraces = false) (hX : va_X b L xs (gs Γ) (gs Γ).heap) (hbl : b < (gs Γ).heap.size) (hbA : ¬ gA G b) (hNc : va_Nc EI EN (gs Γ)) (hQf : (gar Γ) = #[Value.ref b] ∧ Qf = lw_Z (gbe Γ) #[Value.ref b] (gs Γ)) (hA9 : ∀ q, gA G q → (gs Γ).heap.size ≤ q) (hc9 : ce + 8 ≤ room_1.cells) (hs9 : sl + 48 ≤ room_1.slots) (hc0 : ce ≤ room_1.cells) (hs0 : sl ≤ room_1.slots) {L23 : Mem × Int32 → Prop} (hL23 : ∀ s, L23 s → X Γ G Qf 7 (ce + 8) (sl + 48) 23 [(4, .int s.2), (0, .ref b), (1, .ref (ga G 10 0)), (2, .ref (ga G 11 0)), (3, .ref (ga G 9000 0))] [] s.1) (M : Mem) (y4 : Int32) (h : bL_law_2337 xs L L23 M y4) : X Γ G Qf 7 (ce + 0) (sl + 0) 2337 [(4, .int y4), (0, .ref b), (1, .ref (ga G 10 0)), (2, .ref (ga G 11 0)), (3, .ref (ga G 9000 0))] [] M := by
  unfold bL_law_2337 at h
  refine x_aload_n C dL_law_2337 2 rfl ?_
  refine x_aload_n C dL_law_2338 1 rfl ?_
  refine x_iload C dL_law_2339 0 rfl ?_
  refine x_iconst (v := 1) C dL_law_2341 rfl ?_
  refine x_iadd C dL_law_2342 ?_
  obtain ⟨f95, h⟩ := h
  refine x_sld C hX hbl hbA f95 dL_law_2343 ?_
  refine x_aload_n C dL_law_2344 4 rfl ?_
  refine x_lcall (rest := []) (ce1 := ce + 1) (sl1 := sl + 6) C sl_L_251 hNc (kL_rarest hG hl0 _ _ h) rfl rfl (Nat.le_of_ble_eq_true rfl) ⟨Nat.le_of_ble_eq_true rfl, Nat.le_of_ble_eq_true rfl⟩ rfl rfl ⟨Nat.le_trans (Nat.add_le_add_left (Nat.le_of_ble_eq_true rfl) ce) hc9, Nat.le_trans (Nat.add_le_add_left (Nat.le_of_ble_eq_true rfl) sl) hs9⟩ dL_law_2345 (fun r96 M97 h => ?_)
  refine x_istore (lv' := [(5, .int r96), (4, .int y4), (0, .ref b), (1, .ref (ga G 10 0)), (2, .ref (ga G 11 0)), (3, .ref (ga G 9000 0))]) C dL_law_2348 (Nat.le_of_ble_eq_true rfl) rfl ?_
  refine x_aload_n C dL_law_2350 4 rfl ?_
  refine x_aload_n C dL_law_2351 2 rfl ?_
  refine x_iload C dL_law_2352 1 rfl ?_
  refine x_iconst (v := 1) C dL_law_2354 rfl ?_
  refine x_iadd C dL_law_2355 ?_
  refine x_sld C hX hbl hbA f95 dL_law_2356 ?_
  refine x_calli (rest := []) (ce1 := ce + 1) (sl1 := sl + 6) C sv_L_253 ob11 z11 (kX11_rarest hG _ _ h) rfl rfl (Nat.le_of_ble_eq_true rfl) ⟨Nat.le_of_ble_eq_true rfl, Nat.le_of_ble_eq_true rfl⟩ rfl rfl ⟨Nat.le_trans (Nat.add_le_add_left (Nat.le_of_ble_eq_true rfl) ce) hc9, Nat.le_trans (Nat.add_le_add_left (Nat.le_of_ble_eq_true rfl) sl) hs9⟩ dL_law_2357 (fun r98 M99 h => ?_)
  refine x_istore (lv' := [(6, .int r98), (5, .int r96), (4, .int y4), (0, .ref b), (1, .ref (ga G 10 0)), (2, .ref (ga G 11 0)), (3, .ref (ga G 9000 0))]) C dL_law_2360 (Nat.le_of_ble_eq_true rfl) rfl ?_
  refine x_aload_n C dL_law_2362 5 rfl ?_
  refine x_calli (rest := []) (ce1 := ce + 1) (sl1 := sl + 6) C sv_L_139 ob11 z11 (kX11_thrown hG _ h) rfl rfl (Nat.le_of_ble_eq_true rfl) ⟨Nat.le_of_ble_eq_true rfl, Nat.le_of_ble_eq_true rfl⟩ rfl rfl ⟨Nat.le_trans (Nat.add_le_add_left (Nat.le_of_ble_eq_true rfl) ce) hc9, Nat.le_trans (Nat.add_le_add_left (Nat.le_of_ble_eq_true rfl) sl) hs9⟩ dL_law_2363 (fun r100 M101 h => ?_)
  refine x_iload C dL_law_2366 1 rfl ?_
  refine x_icmp_eq (tgt := 2373) C dL_law_2368 (by decide) (fun c102 => ?_) (fun c102 => ?_)
  · replace h := h.1 c102
    refine x_iload C dL_law_2373 1 rfl ?_
    refine x_if_ne (tgt := 2390) C dL_law_2375 (by decide) (fun c103 => ?_) (fun c103 => ?_)
    · replace h := h.1 c103
      refine X_sub (lv' := [(4, .int y4), (0, .ref b), (1, .ref (ga G 10 0)), (2, .ref (ga G 11 0)), (3, .ref (ga G 9000 0))]) [2, 3, 4, 5, 6] rfl ?_
      exact wL_law_2390 hG C hl0 hX hbl hbA hNc hQf hA9 hc9 hs9 hc0 hs0 hL23 M101 y4 h
    · replace h := h.2 c103
      refine x_aload_n C dL_law_2378 6 rfl ?_
      refine x_iconst (v := 0) C dL_law_2379 rfl ?_
      refine al_9000 C z9000 (vp_l (by decide)) dL_law_2380 ?_
      refine x_iload C dL_law_2381 0 rfl ?_
      refine x_i2l C dL_law_2383 ?_
      refine x_lcmp C dL_law_2384 ?_
      refine x_if_eq (tgt := 2390) C dL_law_2385 (by decide) (fun c104 => ?_) (fun c104 => ?_)
      · replace h := h.1 c104
        refine X_sub (lv' := [(4, .int y4), (0, .ref b), (1, .ref (ga G 10 0)), (2, .ref (ga G 11 0)), (3, .ref (ga G 9000 0))]) [2, 3, 4, 5, 6] rfl ?_
        exact wL_law_2390 hG C hl0 hX hbl hbA hNc hQf hA9 hc9 hs9 hc0 hs0 hL23 M101 y4 h
      · replace h := h.2 c104
        refine x_iconst (v := 0) C dL_law_2388 rfl ?_
        exact h.elim
  · replace h := h.2 c102
    refine x_iconst (v := 0) C dL_law_2371 rfl ?_
    exact h.elim
