/-! THE LAW: calls with handlers -/
/-- the law's two rows -/
def o_C : List fx_Sh := [.inr (.long, 1), .inr (.double, 1)]
abbrev w_S (sw : Bool) : List fx_Sh := c_C sw ++ (m_C ++ o_C)
theorem vp_in01 : vp_in 0 1 := by unfold vp_in; decide
set_option maxRecDepth 20000 in
theorem w_clear {l : Launch} {Z : fx_Z} (hl : l.stackTraces = false) (ad : Nat → Nat) {sw sw' : Bool} {M : fx_M} (p0 : Int32) {d' : Nat} (hd : d' ≤ 10) {P : Int32 → fx_M → Prop} {PX : String → fx_M → Prop} (hM : CT l Z yX7_clear (.code yX7_clear cX7_clear 3 (some .int)) d' 4 24 [.ref (ad 0), .int p0] ad (w_S sw) M (fun v a s m => a = ad ∧ s = w_S sw' ∧ ∃ r : Int32, v = some (.int r) ∧ P r m) PX) (hx : ∀ E m, PX E m → E = xIA) : CT l Z yL_clear (.codeWith yL_clear cL_clear 4 (some .int) [(0, 9, 12, 13)]) 11 4 24 [.ref (ad 0), .int p0, .ref (ad 64)] ad (w_S sw) M (fun v a s m => a = ad ∧ ∃ (k : Int32) (s1 : Bool), s = w_S s1 ∧ v = some (.int k) ∧ ((k = 0 ∧ s1 = sw' ∧ ∃ r m0, P r m0 ∧ m = fx_u m0 64 0 r) ∨ (k = 1 ∧ s1 = sw ∧ PX xIA m))) (fun _ _ => False) := by
  refine CT_ofH (ret := some .int) (lv0 := [some (.ref (ad 0)), some (.int p0), some (.ref (ad 64)), none]) (by decide +kernel) hl (by simp [Value.category]) (Nat.le_of_ble_eq_true rfl) rfl ?_
  intro X F Rt
  refine G_aload_n F dL_clear_0 rfl ?_
  refine G_iconst (v := 0) F dL_clear_1 rfl ?_
  refine G_aload_n F dL_clear_2 rfl ?_
  refine G_iload_n F dL_clear_3 rfl ?_
  refine G_callV F (k := 0) mv_L_7 dL_clear_4 hM (As := [.int p0]) rfl rfl rfl rfl (Nat.le_of_ble_eq_true rfl) ⟨by show d' + 8 + 1 ≤ 11 + 8; omega, by show 8 + (3 + 11) + (32 * d' + 160) ≤ 32 * 11 + 160; omega, Nat.le_of_ble_eq_true rfl, Nat.le_of_ble_eq_true rfl⟩ (fun E M1 hE => ?_) (fun v1 a1 S1 M1 h1 => ?_)
  · have e1 := hx E M1 hE
    subst e1
    refine GX_catch F Rt (name := "java/lang/IllegalArgumentException") [] ⟨0, 9, 12, 13⟩ [] rfl (fun z hz => absurd hz (by simp)) (by decide) (by decide) (fx_in 580 (by decide +kernel) rfl) (fx_inN 587 (by decide +kernel) rfl) (fun q => ?_)
    refine G_astore_n F 3 dL_clear_12 rfl rfl rfl (Nat.le_of_ble_eq_true rfl) ?_
    refine G_iconst (v := 1) F dL_clear_13 rfl ?_
    exact G_iret F Rt dL_clear_14 rfl ⟨rfl, _, _, rfl, rfl, Or.inr (⟨rfl, rfl, hE⟩)⟩ (Nat.le_of_ble_eq_true rfl) (Nat.le_of_ble_eq_true rfl)
  obtain ⟨rfl, rfl, r, rfl, hp⟩ := h1
  refine G_i2l F dL_clear_7 ?_
  refine G_last F dL_clear_8 (k := 64) rfl vp_in01 ?_
  refine G_goto (tgt := 15) F dL_clear_9 (by decide) ?_
  refine G_iconst (v := 0) F dL_clear_15 rfl ?_
  exact G_iret F Rt dL_clear_16 rfl ⟨rfl, _, _, rfl, rfl, Or.inl ⟨rfl, rfl, r, M1, hp, rfl⟩⟩ (Nat.le_of_ble_eq_true rfl) (Nat.le_of_ble_eq_true rfl)
set_option maxRecDepth 20000 in
theorem w_setSize {l : Launch} {Z : fx_Z} (hl : l.stackTraces = false) (ad : Nat → Nat) {sw sw' : Bool} {M : fx_M} (p0 : Int32) (p1 : Int32) {d' : Nat} (hd : d' ≤ 10) {P : Int32 → fx_M → Prop} {PX : String → fx_M → Prop} (hM : CT l Z yX7_setSize (.code yX7_setSize cX7_setSize 4 (some .int)) d' 4 24 [.ref (ad 0), .int p0, .int p1] ad (w_S sw) M (fun v a s m => a = ad ∧ s = w_S sw' ∧ ∃ r : Int32, v = some (.int r) ∧ P r m) PX) (hx : ∀ E m, PX E m → E = xIO ∨ E = xIA) : CT l Z yL_setSize (.codeWith yL_setSize cL_setSize 5 (some .int) [(0, 10, 13, 19), (0, 10, 17, 13)]) 11 4 24 [.ref (ad 0), .int p0, .int p1, .ref (ad 64)] ad (w_S sw) M (fun v a s m => a = ad ∧ ∃ (k : Int32) (s1 : Bool), s = w_S s1 ∧ v = some (.int k) ∧ ((k = 0 ∧ s1 = sw' ∧ ∃ r m0, P r m0 ∧ m = fx_u m0 64 0 r) ∨ (k = 1 ∧ s1 = sw ∧ PX xIO m) ∨ (k = 2 ∧ s1 = sw ∧ PX xIA m))) (fun _ _ => False) := by
  refine CT_ofH (ret := some .int) (lv0 := [some (.ref (ad 0)), some (.int p0), some (.int p1), some (.ref (ad 64)), none]) (by decide +kernel) hl (by simp [Value.category]) (Nat.le_of_ble_eq_true rfl) rfl ?_
  intro X F Rt
  refine G_aload_n F dL_setSize_0 rfl ?_
  refine G_iconst (v := 0) F dL_setSize_1 rfl ?_
  refine G_aload_n F dL_setSize_2 rfl ?_
  refine G_iload_n F dL_setSize_3 rfl ?_
  refine G_iload_n F dL_setSize_4 rfl ?_
  refine G_callV F (k := 0) mv_L_15 dL_setSize_5 hM (As := [.int p0, .int p1]) rfl rfl rfl rfl (Nat.le_of_ble_eq_true rfl) ⟨by show d' + 8 + 1 ≤ 11 + 8; omega, by show 8 + (4 + 11) + (32 * d' + 160) ≤ 32 * 11 + 160; omega, Nat.le_of_ble_eq_true rfl, Nat.le_of_ble_eq_true rfl⟩ (fun E M1 hE => ?_) (fun v1 a1 S1 M1 h1 => ?_)
  · rcases hx E M1 hE with rfl | rfl
    · refine GX_catch F Rt (name := "java/lang/IndexOutOfBoundsException") [] ⟨0, 10, 13, 19⟩ [⟨0, 10, 17, 13⟩] rfl (fun z hz => absurd hz (by simp)) (by decide) (by decide) (fx_in 664 (by decide +kernel) rfl) (fx_inN 699 (by decide +kernel) rfl) (fun q => ?_)
      refine G_astore F dL_setSize_13 rfl rfl (Nat.le_of_ble_eq_true rfl) ?_
      refine G_iconst (v := 1) F dL_setSize_15 rfl ?_
      exact G_iret F Rt dL_setSize_16 rfl ⟨rfl, _, _, rfl, rfl, Or.inr (Or.inl ⟨rfl, rfl, hE⟩)⟩ (Nat.le_of_ble_eq_true rfl) (Nat.le_of_ble_eq_true rfl)
    · refine GX_catch F Rt (name := "java/lang/IllegalArgumentException") [⟨0, 10, 13, 19⟩] ⟨0, 10, 17, 13⟩ [] rfl (fun z hz => by
          rw [List.mem_singleton.mp hz]
          exact Or.inr ⟨by decide, "java/lang/IndexOutOfBoundsException", fx_in 664 (by decide +kernel) rfl, by decide +kernel⟩) (by decide) (by decide) (fx_in 580 (by decide +kernel) rfl) (fx_inN 587 (by decide +kernel) rfl) (fun q => ?_)
      refine G_astore F dL_setSize_17 rfl rfl (Nat.le_of_ble_eq_true rfl) ?_
      refine G_iconst (v := 2) F dL_setSize_19 rfl ?_
      exact G_iret F Rt dL_setSize_20 rfl ⟨rfl, _, _, rfl, rfl, Or.inr (Or.inr (⟨rfl, rfl, hE⟩))⟩ (Nat.le_of_ble_eq_true rfl) (Nat.le_of_ble_eq_true rfl)
  obtain ⟨rfl, rfl, r, rfl, hp⟩ := h1
  refine G_i2l F dL_setSize_8 ?_
  refine G_last F dL_setSize_9 (k := 64) rfl vp_in01 ?_
  refine G_goto (tgt := 21) F dL_setSize_10 (by decide) ?_
  refine G_iconst (v := 0) F dL_setSize_21 rfl ?_
  exact G_iret F Rt dL_setSize_22 rfl ⟨rfl, _, _, rfl, rfl, Or.inl ⟨rfl, rfl, r, M1, hp, rfl⟩⟩ (Nat.le_of_ble_eq_true rfl) (Nat.le_of_ble_eq_true rfl)
set_option maxRecDepth 20000 in
theorem w_setGo {l : Launch} {Z : fx_Z} (hl : l.stackTraces = false) (ad : Nat → Nat) {sw sw' : Bool} {M : fx_M} (p0 : Int32) (p1 : Int32) {d' : Nat} (hd : d' ≤ 10) {P : Int32 → fx_M → Prop} {PX : String → fx_M → Prop} (hM : CT l Z yX7_setGo (.code yX7_setGo cX7_setGo 3 (some .int)) d' 4 24 [.ref (ad 0), .int p0, .int p1] ad (w_S sw) M (fun v a s m => a = ad ∧ s = w_S sw' ∧ ∃ r : Int32, v = some (.int r) ∧ P r m) PX) (hx : ∀ E m, PX E m → E = xIO) : CT l Z yL_setGo (.codeWith yL_setGo cL_setGo 5 (some .int) [(0, 10, 13, 19)]) 11 4 24 [.ref (ad 0), .int p0, .int p1, .ref (ad 64)] ad (w_S sw) M (fun v a s m => a = ad ∧ ∃ (k : Int32) (s1 : Bool), s = w_S s1 ∧ v = some (.int k) ∧ ((k = 0 ∧ s1 = sw' ∧ ∃ r m0, P r m0 ∧ m = fx_u m0 64 0 r) ∨ (k = 1 ∧ s1 = sw ∧ PX xIO m))) (fun _ _ => False) := by
  refine CT_ofH (ret := some .int) (lv0 := [some (.ref (ad 0)), some (.int p0), some (.int p1), some (.ref (ad 64)), none]) (by decide +kernel) hl (by simp [Value.category]) (Nat.le_of_ble_eq_true rfl) rfl ?_
  intro X F Rt
  refine G_aload_n F dL_setGo_0 rfl ?_
  refine G_iconst (v := 0) F dL_setGo_1 rfl ?_
  refine G_aload_n F dL_setGo_2 rfl ?_
  refine G_iload_n F dL_setGo_3 rfl ?_
  refine G_iload_n F dL_setGo_4 rfl ?_
  refine G_callV F (k := 0) mv_L_21 dL_setGo_5 hM (As := [.int p0, .int p1]) rfl rfl rfl rfl (Nat.le_of_ble_eq_true rfl) ⟨by show d' + 8 + 1 ≤ 11 + 8; omega, by show 8 + (3 + 11) + (32 * d' + 160) ≤ 32 * 11 + 160; omega, Nat.le_of_ble_eq_true rfl, Nat.le_of_ble_eq_true rfl⟩ (fun E M1 hE => ?_) (fun v1 a1 S1 M1 h1 => ?_)
  · have e1 := hx E M1 hE
    subst e1
    refine GX_catch F Rt (name := "java/lang/IndexOutOfBoundsException") [] ⟨0, 10, 13, 19⟩ [] rfl (fun z hz => absurd hz (by simp)) (by decide) (by decide) (fx_in 664 (by decide +kernel) rfl) (fx_inN 699 (by decide +kernel) rfl) (fun q => ?_)
    refine G_astore F dL_setGo_13 rfl rfl (Nat.le_of_ble_eq_true rfl) ?_
    refine G_iconst (v := 1) F dL_setGo_15 rfl ?_
    exact G_iret F Rt dL_setGo_16 rfl ⟨rfl, _, _, rfl, rfl, Or.inr (⟨rfl, rfl, hE⟩)⟩ (Nat.le_of_ble_eq_true rfl) (Nat.le_of_ble_eq_true rfl)
  obtain ⟨rfl, rfl, r, rfl, hp⟩ := h1
  refine G_i2l F dL_setGo_8 ?_
  refine G_last F dL_setGo_9 (k := 64) rfl vp_in01 ?_
  refine G_goto (tgt := 17) F dL_setGo_10 (by decide) ?_
  refine G_iconst (v := 0) F dL_setGo_17 rfl ?_
  exact G_iret F Rt dL_setGo_18 rfl ⟨rfl, _, _, rfl, rfl, Or.inl ⟨rfl, rfl, r, M1, hp, rfl⟩⟩ (Nat.le_of_ble_eq_true rfl) (Nat.le_of_ble_eq_true rfl)
set_option maxRecDepth 20000 in
theorem w_setIf {l : Launch} {Z : fx_Z} (hl : l.stackTraces = false) (ad : Nat → Nat) {sw sw' : Bool} {M : fx_M} (p0 : Int32) (p1 : Int32) (p2 : Int32) (p3 : Int32) {d' : Nat} (hd : d' ≤ 10) {P : Int32 → fx_M → Prop} {PX : String → fx_M → Prop} (hM : CT l Z yX7_setIf (.code yX7_setIf cX7_setIf 5 (some .int)) d' 4 24 [.ref (ad 0), .int p0, .int p1, .int p2, .int p3] ad (w_S sw) M (fun v a s m => a = ad ∧ s = w_S sw' ∧ ∃ r : Int32, v = some (.int r) ∧ P r m) PX) (hx : ∀ E m, PX E m → E = xIO ∨ E = xIA) : CT l Z yL_setIf (.codeWith yL_setIf cL_setIf 7 (some .int) [(0, 14, 17, 19), (0, 14, 21, 13)]) 11 4 24 [.ref (ad 0), .int p0, .int p1, .int p2, .int p3, .ref (ad 64)] ad (w_S sw) M (fun v a s m => a = ad ∧ ∃ (k : Int32) (s1 : Bool), s = w_S s1 ∧ v = some (.int k) ∧ ((k = 0 ∧ s1 = sw' ∧ ∃ r m0, P r m0 ∧ m = fx_u m0 64 0 r) ∨ (k = 1 ∧ s1 = sw ∧ PX xIO m) ∨ (k = 2 ∧ s1 = sw ∧ PX xIA m))) (fun _ _ => False) := by
  refine CT_ofH (ret := some .int) (lv0 := [some (.ref (ad 0)), some (.int p0), some (.int p1), some (.int p2), some (.int p3), some (.ref (ad 64)), none]) (by decide +kernel) hl (by simp [Value.category]) (Nat.le_of_ble_eq_true rfl) rfl ?_
  intro X F Rt
  refine G_aload F dL_setIf_0 rfl ?_
  refine G_iconst (v := 0) F dL_setIf_2 rfl ?_
  refine G_aload_n F dL_setIf_3 rfl ?_
  refine G_iload_n F dL_setIf_4 rfl ?_
  refine G_iload_n F dL_setIf_5 rfl ?_
  refine G_iload_n F dL_setIf_6 rfl ?_
  refine G_iload F dL_setIf_7 rfl ?_
  refine G_callV F (k := 0) mv_L_24 dL_setIf_9 hM (As := [.int p0, .int p1, .int p2, .int p3]) rfl rfl rfl rfl (Nat.le_of_ble_eq_true rfl) ⟨by show d' + 8 + 1 ≤ 11 + 8; omega, by show 8 + (5 + 11) + (32 * d' + 160) ≤ 32 * 11 + 160; omega, Nat.le_of_ble_eq_true rfl, Nat.le_of_ble_eq_true rfl⟩ (fun E M1 hE => ?_) (fun v1 a1 S1 M1 h1 => ?_)
  · rcases hx E M1 hE with rfl | rfl
    · refine GX_catch F Rt (name := "java/lang/IndexOutOfBoundsException") [] ⟨0, 14, 17, 19⟩ [⟨0, 14, 21, 13⟩] rfl (fun z hz => absurd hz (by simp)) (by decide) (by decide) (fx_in 664 (by decide +kernel) rfl) (fx_inN 699 (by decide +kernel) rfl) (fun q => ?_)
      refine G_astore F dL_setIf_17 rfl rfl (Nat.le_of_ble_eq_true rfl) ?_
      refine G_iconst (v := 1) F dL_setIf_19 rfl ?_
      exact G_iret F Rt dL_setIf_20 rfl ⟨rfl, _, _, rfl, rfl, Or.inr (Or.inl ⟨rfl, rfl, hE⟩)⟩ (Nat.le_of_ble_eq_true rfl) (Nat.le_of_ble_eq_true rfl)
    · refine GX_catch F Rt (name := "java/lang/IllegalArgumentException") [⟨0, 14, 17, 19⟩] ⟨0, 14, 21, 13⟩ [] rfl (fun z hz => by
          rw [List.mem_singleton.mp hz]
          exact Or.inr ⟨by decide, "java/lang/IndexOutOfBoundsException", fx_in 664 (by decide +kernel) rfl, by decide +kernel⟩) (by decide) (by decide) (fx_in 580 (by decide +kernel) rfl) (fx_inN 587 (by decide +kernel) rfl) (fun q => ?_)
      refine G_astore F dL_setIf_21 rfl rfl (Nat.le_of_ble_eq_true rfl) ?_
      refine G_iconst (v := 2) F dL_setIf_23 rfl ?_
      exact G_iret F Rt dL_setIf_24 rfl ⟨rfl, _, _, rfl, rfl, Or.inr (Or.inr (⟨rfl, rfl, hE⟩))⟩ (Nat.le_of_ble_eq_true rfl) (Nat.le_of_ble_eq_true rfl)
  obtain ⟨rfl, rfl, r, rfl, hp⟩ := h1
  refine G_i2l F dL_setIf_12 ?_
  refine G_last F dL_setIf_13 (k := 64) rfl vp_in01 ?_
  refine G_goto (tgt := 25) F dL_setIf_14 (by decide) ?_
  refine G_iconst (v := 0) F dL_setIf_25 rfl ?_
  exact G_iret F Rt dL_setIf_26 rfl ⟨rfl, _, _, rfl, rfl, Or.inl ⟨rfl, rfl, r, M1, hp, rfl⟩⟩ (Nat.le_of_ble_eq_true rfl) (Nat.le_of_ble_eq_true rfl)
set_option maxRecDepth 20000 in
theorem w_setStop {l : Launch} {Z : fx_Z} (hl : l.stackTraces = false) (ad : Nat → Nat) {sw sw' : Bool} {M : fx_M} (p0 : Int32) {d' : Nat} (hd : d' ≤ 10) {P : Int32 → fx_M → Prop} {PX : String → fx_M → Prop} (hM : CT l Z yX7_setStop (.code yX7_setStop cX7_setStop 2 (some .int)) d' 4 24 [.ref (ad 0), .int p0] ad (w_S sw) M (fun v a s m => a = ad ∧ s = w_S sw' ∧ ∃ r : Int32, v = some (.int r) ∧ P r m) PX) (hx : ∀ E m, PX E m → E = xIO) : CT l Z yL_setStop (.codeWith yL_setStop cL_setStop 4 (some .int) [(0, 9, 12, 19)]) 11 4 24 [.ref (ad 0), .int p0, .ref (ad 64)] ad (w_S sw) M (fun v a s m => a = ad ∧ ∃ (k : Int32) (s1 : Bool), s = w_S s1 ∧ v = some (.int k) ∧ ((k = 0 ∧ s1 = sw' ∧ ∃ r m0, P r m0 ∧ m = fx_u m0 64 0 r) ∨ (k = 1 ∧ s1 = sw ∧ PX xIO m))) (fun _ _ => False) := by
  refine CT_ofH (ret := some .int) (lv0 := [some (.ref (ad 0)), some (.int p0), some (.ref (ad 64)), none]) (by decide +kernel) hl (by simp [Value.category]) (Nat.le_of_ble_eq_true rfl) rfl ?_
  intro X F Rt
  refine G_aload_n F dL_setStop_0 rfl ?_
  refine G_iconst (v := 0) F dL_setStop_1 rfl ?_
  refine G_aload_n F dL_setStop_2 rfl ?_
  refine G_iload_n F dL_setStop_3 rfl ?_
  refine G_callV F (k := 0) mv_L_28 dL_setStop_4 hM (As := [.int p0]) rfl rfl rfl rfl (Nat.le_of_ble_eq_true rfl) ⟨by show d' + 8 + 1 ≤ 11 + 8; omega, by show 8 + (2 + 11) + (32 * d' + 160) ≤ 32 * 11 + 160; omega, Nat.le_of_ble_eq_true rfl, Nat.le_of_ble_eq_true rfl⟩ (fun E M1 hE => ?_) (fun v1 a1 S1 M1 h1 => ?_)
  · have e1 := hx E M1 hE
    subst e1
    refine GX_catch F Rt (name := "java/lang/IndexOutOfBoundsException") [] ⟨0, 9, 12, 19⟩ [] rfl (fun z hz => absurd hz (by simp)) (by decide) (by decide) (fx_in 664 (by decide +kernel) rfl) (fx_inN 699 (by decide +kernel) rfl) (fun q => ?_)
    refine G_astore_n F 3 dL_setStop_12 rfl rfl rfl (Nat.le_of_ble_eq_true rfl) ?_
    refine G_iconst (v := 1) F dL_setStop_13 rfl ?_
    exact G_iret F Rt dL_setStop_14 rfl ⟨rfl, _, _, rfl, rfl, Or.inr (⟨rfl, rfl, hE⟩)⟩ (Nat.le_of_ble_eq_true rfl) (Nat.le_of_ble_eq_true rfl)
  obtain ⟨rfl, rfl, r, rfl, hp⟩ := h1
  refine G_i2l F dL_setStop_7 ?_
  refine G_last F dL_setStop_8 (k := 64) rfl vp_in01 ?_
  refine G_goto (tgt := 15) F dL_setStop_9 (by decide) ?_
  refine G_iconst (v := 0) F dL_setStop_15 rfl ?_
  exact G_iret F Rt dL_setStop_16 rfl ⟨rfl, _, _, rfl, rfl, Or.inl ⟨rfl, rfl, r, M1, hp, rfl⟩⟩ (Nat.le_of_ble_eq_true rfl) (Nat.le_of_ble_eq_true rfl)
set_option maxRecDepth 20000 in
theorem w_invert {l : Launch} {Z : fx_Z} (hl : l.stackTraces = false) (ad : Nat → Nat) {sw sw' : Bool} {M : fx_M} (p0 : Int32) {d' : Nat} (hd : d' ≤ 10) {P : Int32 → fx_M → Prop} {PX : String → fx_M → Prop} (hM : CT l Z yX7_invert (.code yX7_invert cX7_invert 2 (some .int)) d' 4 24 [.ref (ad 0), .int p0] ad (w_S sw) M (fun v a s m => a = ad ∧ s = w_S sw' ∧ ∃ r : Int32, v = some (.int r) ∧ P r m) PX) (hx : ∀ E m, PX E m → E = xIO ∨ E = xUO) : CT l Z yL_invert (.codeWith yL_invert cL_invert 4 (some .int) [(0, 9, 12, 19), (0, 9, 15, 34)]) 11 4 24 [.ref (ad 0), .int p0, .ref (ad 64)] ad (w_S sw) M (fun v a s m => a = ad ∧ ∃ (k : Int32) (s1 : Bool), s = w_S s1 ∧ v = some (.int k) ∧ ((k = 0 ∧ s1 = sw' ∧ ∃ r m0, P r m0 ∧ m = fx_u m0 64 0 r) ∨ (k = 1 ∧ s1 = sw ∧ PX xIO m) ∨ (k = 2 ∧ s1 = sw ∧ PX xUO m))) (fun _ _ => False) := by
  refine CT_ofH (ret := some .int) (lv0 := [some (.ref (ad 0)), some (.int p0), some (.ref (ad 64)), none]) (by decide +kernel) hl (by simp [Value.category]) (Nat.le_of_ble_eq_true rfl) rfl ?_
  intro X F Rt
  refine G_aload_n F dL_invert_0 rfl ?_
  refine G_iconst (v := 0) F dL_invert_1 rfl ?_
  refine G_aload_n F dL_invert_2 rfl ?_
  refine G_iload_n F dL_invert_3 rfl ?_
  refine G_callV F (k := 0) mv_L_31 dL_invert_4 hM (As := [.int p0]) rfl rfl rfl rfl (Nat.le_of_ble_eq_true rfl) ⟨by show d' + 8 + 1 ≤ 11 + 8; omega, by show 8 + (2 + 11) + (32 * d' + 160) ≤ 32 * 11 + 160; omega, Nat.le_of_ble_eq_true rfl, Nat.le_of_ble_eq_true rfl⟩ (fun E M1 hE => ?_) (fun v1 a1 S1 M1 h1 => ?_)
  · rcases hx E M1 hE with rfl | rfl
    · refine GX_catch F Rt (name := "java/lang/IndexOutOfBoundsException") [] ⟨0, 9, 12, 19⟩ [⟨0, 9, 15, 34⟩] rfl (fun z hz => absurd hz (by simp)) (by decide) (by decide) (fx_in 664 (by decide +kernel) rfl) (fx_inN 699 (by decide +kernel) rfl) (fun q => ?_)
      refine G_astore_n F 3 dL_invert_12 rfl rfl rfl (Nat.le_of_ble_eq_true rfl) ?_
      refine G_iconst (v := 1) F dL_invert_13 rfl ?_
      exact G_iret F Rt dL_invert_14 rfl ⟨rfl, _, _, rfl, rfl, Or.inr (Or.inl ⟨rfl, rfl, hE⟩)⟩ (Nat.le_of_ble_eq_true rfl) (Nat.le_of_ble_eq_true rfl)
    · refine GX_catch F Rt (name := "java/lang/UnsupportedOperationException") [⟨0, 9, 12, 19⟩] ⟨0, 9, 15, 34⟩ [] rfl (fun z hz => by
          rw [List.mem_singleton.mp hz]
          exact Or.inr ⟨by decide, "java/lang/IndexOutOfBoundsException", fx_in 664 (by decide +kernel) rfl, by decide +kernel⟩) (by decide) (by decide) (fx_in 757 (by decide +kernel) rfl) (fx_inN 764 (by decide +kernel) rfl) (fun q => ?_)
      refine G_astore_n F 3 dL_invert_15 rfl rfl rfl (Nat.le_of_ble_eq_true rfl) ?_
      refine G_iconst (v := 2) F dL_invert_16 rfl ?_
      exact G_iret F Rt dL_invert_17 rfl ⟨rfl, _, _, rfl, rfl, Or.inr (Or.inr (⟨rfl, rfl, hE⟩))⟩ (Nat.le_of_ble_eq_true rfl) (Nat.le_of_ble_eq_true rfl)
  obtain ⟨rfl, rfl, r, rfl, hp⟩ := h1
  refine G_i2l F dL_invert_7 ?_
  refine G_last F dL_invert_8 (k := 64) rfl vp_in01 ?_
  refine G_goto (tgt := 18) F dL_invert_9 (by decide) ?_
  refine G_iconst (v := 0) F dL_invert_18 rfl ?_
  exact G_iret F Rt dL_invert_19 rfl ⟨rfl, _, _, rfl, rfl, Or.inl ⟨rfl, rfl, r, M1, hp, rfl⟩⟩ (Nat.le_of_ble_eq_true rfl) (Nat.le_of_ble_eq_true rfl)
set_option maxRecDepth 20000 in
theorem w_block {l : Launch} {Z : fx_Z} (hl : l.stackTraces = false) (ad : Nat → Nat) {sw sw' : Bool} {M : fx_M} (p0 : Int32) (p1 : Int32) {d' : Nat} (hd : d' ≤ 10) {P : Int32 → fx_M → Prop} {PX : String → fx_M → Prop} (hM : CT l Z yX7_block (.code yX7_block cX7_block 3 (some .int)) d' 4 24 [.ref (ad 0), .int p0, .int p1] ad (w_S sw) M (fun v a s m => a = ad ∧ s = w_S sw' ∧ ∃ r : Int32, v = some (.int r) ∧ P r m) PX) (hx : ∀ E m, PX E m → E = xIO ∨ E = xIA) : CT l Z yL_block (.codeWith yL_block cL_block 5 (some .int) [(0, 10, 13, 19), (0, 10, 17, 13)]) 11 4 24 [.ref (ad 0), .int p0, .int p1, .ref (ad 64)] ad (w_S sw) M (fun v a s m => a = ad ∧ ∃ (k : Int32) (s1 : Bool), s = w_S s1 ∧ v = some (.int k) ∧ ((k = 0 ∧ s1 = sw' ∧ ∃ r m0, P r m0 ∧ m = fx_u m0 64 0 r) ∨ (k = 1 ∧ s1 = sw ∧ PX xIO m) ∨ (k = 2 ∧ s1 = sw ∧ PX xIA m))) (fun _ _ => False) := by
  refine CT_ofH (ret := some .int) (lv0 := [some (.ref (ad 0)), some (.int p0), some (.int p1), some (.ref (ad 64)), none]) (by decide +kernel) hl (by simp [Value.category]) (Nat.le_of_ble_eq_true rfl) rfl ?_
  intro X F Rt
  refine G_aload_n F dL_block_0 rfl ?_
  refine G_iconst (v := 0) F dL_block_1 rfl ?_
  refine G_aload_n F dL_block_2 rfl ?_
  refine G_iload_n F dL_block_3 rfl ?_
  refine G_iload_n F dL_block_4 rfl ?_
  refine G_callV F (k := 0) mv_L_36 dL_block_5 hM (As := [.int p0, .int p1]) rfl rfl rfl rfl (Nat.le_of_ble_eq_true rfl) ⟨by show d' + 8 + 1 ≤ 11 + 8; omega, by show 8 + (3 + 11) + (32 * d' + 160) ≤ 32 * 11 + 160; omega, Nat.le_of_ble_eq_true rfl, Nat.le_of_ble_eq_true rfl⟩ (fun E M1 hE => ?_) (fun v1 a1 S1 M1 h1 => ?_)
  · rcases hx E M1 hE with rfl | rfl
    · refine GX_catch F Rt (name := "java/lang/IndexOutOfBoundsException") [] ⟨0, 10, 13, 19⟩ [⟨0, 10, 17, 13⟩] rfl (fun z hz => absurd hz (by simp)) (by decide) (by decide) (fx_in 664 (by decide +kernel) rfl) (fx_inN 699 (by decide +kernel) rfl) (fun q => ?_)
      refine G_astore F dL_block_13 rfl rfl (Nat.le_of_ble_eq_true rfl) ?_
      refine G_iconst (v := 1) F dL_block_15 rfl ?_
      exact G_iret F Rt dL_block_16 rfl ⟨rfl, _, _, rfl, rfl, Or.inr (Or.inl ⟨rfl, rfl, hE⟩)⟩ (Nat.le_of_ble_eq_true rfl) (Nat.le_of_ble_eq_true rfl)
    · refine GX_catch F Rt (name := "java/lang/IllegalArgumentException") [⟨0, 10, 13, 19⟩] ⟨0, 10, 17, 13⟩ [] rfl (fun z hz => by
          rw [List.mem_singleton.mp hz]
          exact Or.inr ⟨by decide, "java/lang/IndexOutOfBoundsException", fx_in 664 (by decide +kernel) rfl, by decide +kernel⟩) (by decide) (by decide) (fx_in 580 (by decide +kernel) rfl) (fx_inN 587 (by decide +kernel) rfl) (fun q => ?_)
      refine G_astore F dL_block_17 rfl rfl (Nat.le_of_ble_eq_true rfl) ?_
      refine G_iconst (v := 2) F dL_block_19 rfl ?_
      exact G_iret F Rt dL_block_20 rfl ⟨rfl, _, _, rfl, rfl, Or.inr (Or.inr (⟨rfl, rfl, hE⟩))⟩ (Nat.le_of_ble_eq_true rfl) (Nat.le_of_ble_eq_true rfl)
  obtain ⟨rfl, rfl, r, rfl, hp⟩ := h1
  refine G_i2l F dL_block_8 ?_
  refine G_last F dL_block_9 (k := 64) rfl vp_in01 ?_
  refine G_goto (tgt := 21) F dL_block_10 (by decide) ?_
  refine G_iconst (v := 0) F dL_block_21 rfl ?_
  exact G_iret F Rt dL_block_22 rfl ⟨rfl, _, _, rfl, rfl, Or.inl ⟨rfl, rfl, r, M1, hp, rfl⟩⟩ (Nat.le_of_ble_eq_true rfl) (Nat.le_of_ble_eq_true rfl)
set_option maxRecDepth 20000 in
theorem w_run {l : Launch} {Z : fx_Z} (hl : l.stackTraces = false) (ad : Nat → Nat) {sw sw' : Bool} {M : fx_M} (p0 : Int32) {d' : Nat} (hd : d' ≤ 10) {P : Int32 → fx_M → Prop} {PX : String → fx_M → Prop} (hM : CT l Z yX7_run (.code yX7_run cX7_run 2 (some .int)) d' 4 24 [.ref (ad 0), .int p0] ad (w_S sw) M (fun v a s m => a = ad ∧ s = w_S sw' ∧ ∃ r : Int32, v = some (.int r) ∧ P r m) PX) (hx : ∀ E m, PX E m → E = xIA ∨ E = xAE) : CT l Z yL_run (.codeWith yL_run cL_run 4 (some .int) [(0, 9, 12, 13), (0, 9, 15, 42)]) 11 4 24 [.ref (ad 0), .int p0, .ref (ad 64)] ad (w_S sw) M (fun v a s m => a = ad ∧ ∃ (k : Int32) (s1 : Bool), s = w_S s1 ∧ v = some (.int k) ∧ ((k = 0 ∧ s1 = sw' ∧ ∃ r m0, P r m0 ∧ m = fx_u m0 64 0 r) ∨ (k = 1 ∧ s1 = sw ∧ PX xIA m) ∨ (k = 2 ∧ s1 = sw ∧ PX xAE m))) (fun _ _ => False) := by
  refine CT_ofH (ret := some .int) (lv0 := [some (.ref (ad 0)), some (.int p0), some (.ref (ad 64)), none]) (by decide +kernel) hl (by simp [Value.category]) (Nat.le_of_ble_eq_true rfl) rfl ?_
  intro X F Rt
  refine G_aload_n F dL_run_0 rfl ?_
  refine G_iconst (v := 0) F dL_run_1 rfl ?_
  refine G_aload_n F dL_run_2 rfl ?_
  refine G_iload_n F dL_run_3 rfl ?_
  refine G_callV F (k := 0) mv_L_39 dL_run_4 hM (As := [.int p0]) rfl rfl rfl rfl (Nat.le_of_ble_eq_true rfl) ⟨by show d' + 8 + 1 ≤ 11 + 8; omega, by show 8 + (2 + 11) + (32 * d' + 160) ≤ 32 * 11 + 160; omega, Nat.le_of_ble_eq_true rfl, Nat.le_of_ble_eq_true rfl⟩ (fun E M1 hE => ?_) (fun v1 a1 S1 M1 h1 => ?_)
  · rcases hx E M1 hE with rfl | rfl
    · refine GX_catch F Rt (name := "java/lang/IllegalArgumentException") [] ⟨0, 9, 12, 13⟩ [⟨0, 9, 15, 42⟩] rfl (fun z hz => absurd hz (by simp)) (by decide) (by decide) (fx_in 580 (by decide +kernel) rfl) (fx_inN 587 (by decide +kernel) rfl) (fun q => ?_)
      refine G_astore_n F 3 dL_run_12 rfl rfl rfl (Nat.le_of_ble_eq_true rfl) ?_
      refine G_iconst (v := 1) F dL_run_13 rfl ?_
      exact G_iret F Rt dL_run_14 rfl ⟨rfl, _, _, rfl, rfl, Or.inr (Or.inl ⟨rfl, rfl, hE⟩)⟩ (Nat.le_of_ble_eq_true rfl) (Nat.le_of_ble_eq_true rfl)
    · refine GX_catch F Rt (name := "java/lang/ArithmeticException") [⟨0, 9, 12, 13⟩] ⟨0, 9, 15, 42⟩ [] rfl (fun z hz => by
          rw [List.mem_singleton.mp hz]
          exact Or.inr ⟨by decide, "java/lang/IllegalArgumentException", fx_in 580 (by decide +kernel) rfl, by decide +kernel⟩) (by decide) (by decide) (fx_in 794 (by decide +kernel) rfl) (fx_inN 806 (by decide +kernel) rfl) (fun q => ?_)
      refine G_astore_n F 3 dL_run_15 rfl rfl rfl (Nat.le_of_ble_eq_true rfl) ?_
      refine G_iconst (v := 2) F dL_run_16 rfl ?_
      exact G_iret F Rt dL_run_17 rfl ⟨rfl, _, _, rfl, rfl, Or.inr (Or.inr (⟨rfl, rfl, hE⟩))⟩ (Nat.le_of_ble_eq_true rfl) (Nat.le_of_ble_eq_true rfl)
  obtain ⟨rfl, rfl, r, rfl, hp⟩ := h1
  refine G_i2l F dL_run_7 ?_
  refine G_last F dL_run_8 (k := 64) rfl vp_in01 ?_
  refine G_goto (tgt := 18) F dL_run_9 (by decide) ?_
  refine G_iconst (v := 0) F dL_run_18 rfl ?_
  exact G_iret F Rt dL_run_19 rfl ⟨rfl, _, _, rfl, rfl, Or.inl ⟨rfl, rfl, r, M1, hp, rfl⟩⟩ (Nat.le_of_ble_eq_true rfl) (Nat.le_of_ble_eq_true rfl)
set_option maxRecDepth 20000 in
theorem w_runLayout {l : Launch} {Z : fx_Z} (hl : l.stackTraces = false) (ad : Nat → Nat) {sw sw' : Bool} {M : fx_M} (p0 : Int32) {d' : Nat} (hd : d' ≤ 10) {P : Int32 → fx_M → Prop} {PX : String → fx_M → Prop} (hM : CT l Z yX7_runLayout (.code yX7_runLayout cX7_runLayout 2 (some .int)) d' 4 24 [.ref (ad 0), .int p0] ad (w_S sw) M (fun v a s m => a = ad ∧ s = w_S sw' ∧ ∃ r : Int32, v = some (.int r) ∧ P r m) PX) (hx : ∀ E m, PX E m → E = xIA ∨ E = xAE) : CT l Z yL_runLayout (.codeWith yL_runLayout cL_runLayout 4 (some .int) [(0, 9, 12, 13), (0, 9, 15, 42)]) 11 4 24 [.ref (ad 0), .int p0, .ref (ad 64)] ad (w_S sw) M (fun v a s m => a = ad ∧ ∃ (k : Int32) (s1 : Bool), s = w_S s1 ∧ v = some (.int k) ∧ ((k = 0 ∧ s1 = sw' ∧ ∃ r m0, P r m0 ∧ m = fx_u m0 64 0 r) ∨ (k = 1 ∧ s1 = sw ∧ PX xIA m) ∨ (k = 2 ∧ s1 = sw ∧ PX xAE m))) (fun _ _ => False) := by
  refine CT_ofH (ret := some .int) (lv0 := [some (.ref (ad 0)), some (.int p0), some (.ref (ad 64)), none]) (by decide +kernel) hl (by simp [Value.category]) (Nat.le_of_ble_eq_true rfl) rfl ?_
  intro X F Rt
  refine G_aload_n F dL_runLayout_0 rfl ?_
  refine G_iconst (v := 0) F dL_runLayout_1 rfl ?_
  refine G_aload_n F dL_runLayout_2 rfl ?_
  refine G_iload_n F dL_runLayout_3 rfl ?_
  refine G_callV F (k := 0) mv_L_44 dL_runLayout_4 hM (As := [.int p0]) rfl rfl rfl rfl (Nat.le_of_ble_eq_true rfl) ⟨by show d' + 8 + 1 ≤ 11 + 8; omega, by show 8 + (2 + 11) + (32 * d' + 160) ≤ 32 * 11 + 160; omega, Nat.le_of_ble_eq_true rfl, Nat.le_of_ble_eq_true rfl⟩ (fun E M1 hE => ?_) (fun v1 a1 S1 M1 h1 => ?_)
  · rcases hx E M1 hE with rfl | rfl
    · refine GX_catch F Rt (name := "java/lang/IllegalArgumentException") [] ⟨0, 9, 12, 13⟩ [⟨0, 9, 15, 42⟩] rfl (fun z hz => absurd hz (by simp)) (by decide) (by decide) (fx_in 580 (by decide +kernel) rfl) (fx_inN 587 (by decide +kernel) rfl) (fun q => ?_)
      refine G_astore_n F 3 dL_runLayout_12 rfl rfl rfl (Nat.le_of_ble_eq_true rfl) ?_
      refine G_iconst (v := 1) F dL_runLayout_13 rfl ?_
      exact G_iret F Rt dL_runLayout_14 rfl ⟨rfl, _, _, rfl, rfl, Or.inr (Or.inl ⟨rfl, rfl, hE⟩)⟩ (Nat.le_of_ble_eq_true rfl) (Nat.le_of_ble_eq_true rfl)
    · refine GX_catch F Rt (name := "java/lang/ArithmeticException") [⟨0, 9, 12, 13⟩] ⟨0, 9, 15, 42⟩ [] rfl (fun z hz => by
          rw [List.mem_singleton.mp hz]
          exact Or.inr ⟨by decide, "java/lang/IllegalArgumentException", fx_in 580 (by decide +kernel) rfl, by decide +kernel⟩) (by decide) (by decide) (fx_in 794 (by decide +kernel) rfl) (fx_inN 806 (by decide +kernel) rfl) (fun q => ?_)
      refine G_astore_n F 3 dL_runLayout_15 rfl rfl rfl (Nat.le_of_ble_eq_true rfl) ?_
      refine G_iconst (v := 2) F dL_runLayout_16 rfl ?_
      exact G_iret F Rt dL_runLayout_17 rfl ⟨rfl, _, _, rfl, rfl, Or.inr (Or.inr (⟨rfl, rfl, hE⟩))⟩ (Nat.le_of_ble_eq_true rfl) (Nat.le_of_ble_eq_true rfl)
  obtain ⟨rfl, rfl, r, rfl, hp⟩ := h1
  refine G_i2l F dL_runLayout_7 ?_
  refine G_last F dL_runLayout_8 (k := 64) rfl vp_in01 ?_
  refine G_goto (tgt := 18) F dL_runLayout_9 (by decide) ?_
  refine G_iconst (v := 0) F dL_runLayout_18 rfl ?_
  exact G_iret F Rt dL_runLayout_19 rfl ⟨rfl, _, _, rfl, rfl, Or.inl ⟨rfl, rfl, r, M1, hp, rfl⟩⟩ (Nat.le_of_ble_eq_true rfl) (Nat.le_of_ble_eq_true rfl)
set_option maxRecDepth 20000 in
theorem w_pathBlock {l : Launch} {Z : fx_Z} (hl : l.stackTraces = false) (ad : Nat → Nat) {sw sw' : Bool} {M : fx_M} (p0 : Int32) {d' : Nat} (hd : d' ≤ 10) {P : Int32 → fx_M → Prop} {PX : String → fx_M → Prop} (hM : CT l Z yX7_pathBlock (.code yX7_pathBlock cX7_pathBlock 2 (some .int)) d' 4 24 [.ref (ad 0), .int p0] ad (w_S sw) M (fun v a s m => a = ad ∧ s = w_S sw' ∧ ∃ r : Int32, v = some (.int r) ∧ P r m) PX) (hx : ∀ E m, PX E m → E = xIO) : CT l Z yL_pathBlock (.codeWith yL_pathBlock cL_pathBlock 4 (some .int) [(0, 9, 12, 19)]) 11 4 24 [.ref (ad 0), .int p0, .ref (ad 64)] ad (w_S sw) M (fun v a s m => a = ad ∧ ∃ (k : Int32) (s1 : Bool), s = w_S s1 ∧ v = some (.int k) ∧ ((k = 0 ∧ s1 = sw' ∧ ∃ r m0, P r m0 ∧ m = fx_u m0 64 0 r) ∨ (k = 1 ∧ s1 = sw ∧ PX xIO m))) (fun _ _ => False) := by
  refine CT_ofH (ret := some .int) (lv0 := [some (.ref (ad 0)), some (.int p0), some (.ref (ad 64)), none]) (by decide +kernel) hl (by simp [Value.category]) (Nat.le_of_ble_eq_true rfl) rfl ?_
  intro X F Rt
  refine G_aload_n F dL_pathBlock_0 rfl ?_
  refine G_iconst (v := 0) F dL_pathBlock_1 rfl ?_
  refine G_aload_n F dL_pathBlock_2 rfl ?_
  refine G_iload_n F dL_pathBlock_3 rfl ?_
  refine G_callV F (k := 0) mv_L_47 dL_pathBlock_4 hM (As := [.int p0]) rfl rfl rfl rfl (Nat.le_of_ble_eq_true rfl) ⟨by show d' + 8 + 1 ≤ 11 + 8; omega, by show 8 + (2 + 11) + (32 * d' + 160) ≤ 32 * 11 + 160; omega, Nat.le_of_ble_eq_true rfl, Nat.le_of_ble_eq_true rfl⟩ (fun E M1 hE => ?_) (fun v1 a1 S1 M1 h1 => ?_)
  · have e1 := hx E M1 hE
    subst e1
    refine GX_catch F Rt (name := "java/lang/IndexOutOfBoundsException") [] ⟨0, 9, 12, 19⟩ [] rfl (fun z hz => absurd hz (by simp)) (by decide) (by decide) (fx_in 664 (by decide +kernel) rfl) (fx_inN 699 (by decide +kernel) rfl) (fun q => ?_)
    refine G_astore_n F 3 dL_pathBlock_12 rfl rfl rfl (Nat.le_of_ble_eq_true rfl) ?_
    refine G_iconst (v := 1) F dL_pathBlock_13 rfl ?_
    exact G_iret F Rt dL_pathBlock_14 rfl ⟨rfl, _, _, rfl, rfl, Or.inr (⟨rfl, rfl, hE⟩)⟩ (Nat.le_of_ble_eq_true rfl) (Nat.le_of_ble_eq_true rfl)
  obtain ⟨rfl, rfl, r, rfl, hp⟩ := h1
  refine G_i2l F dL_pathBlock_7 ?_
  refine G_last F dL_pathBlock_8 (k := 64) rfl vp_in01 ?_
  refine G_goto (tgt := 15) F dL_pathBlock_9 (by decide) ?_
  refine G_iconst (v := 0) F dL_pathBlock_15 rfl ?_
  exact G_iret F Rt dL_pathBlock_16 rfl ⟨rfl, _, _, rfl, rfl, Or.inl ⟨rfl, rfl, r, M1, hp, rfl⟩⟩ (Nat.le_of_ble_eq_true rfl) (Nat.le_of_ble_eq_true rfl)
set_option maxRecDepth 20000 in
theorem w_setAlignment {l : Launch} {Z : fx_Z} (hl : l.stackTraces = false) (ad : Nat → Nat) {sw sw' : Bool} {M : fx_M} (p0 : Int32) {d' : Nat} (hd : d' ≤ 10) {P : Int32 → fx_M → Prop} {PX : String → fx_M → Prop} (hM : CT l Z yX7_setAlignment (.code yX7_setAlignment cX7_setAlignment 4 (some .int)) d' 4 24 [.ref (ad 0), .int p0] ad (w_S sw) M (fun v a s m => a = ad ∧ s = w_S sw' ∧ ∃ r : Int32, v = some (.int r) ∧ P r m) PX) (hx : ∀ E m, PX E m → E = xIA) : CT l Z yL_setAlignment (.codeWith yL_setAlignment cL_setAlignment 4 (some .int) [(0, 9, 12, 13)]) 11 4 24 [.ref (ad 0), .int p0, .ref (ad 64)] ad (w_S sw) M (fun v a s m => a = ad ∧ ∃ (k : Int32) (s1 : Bool), s = w_S s1 ∧ v = some (.int k) ∧ ((k = 0 ∧ s1 = sw' ∧ ∃ r m0, P r m0 ∧ m = fx_u m0 64 0 r) ∨ (k = 1 ∧ s1 = sw ∧ PX xIA m))) (fun _ _ => False) := by
  refine CT_ofH (ret := some .int) (lv0 := [some (.ref (ad 0)), some (.int p0), some (.ref (ad 64)), none]) (by decide +kernel) hl (by simp [Value.category]) (Nat.le_of_ble_eq_true rfl) rfl ?_
  intro X F Rt
  refine G_aload_n F dL_setAlignment_0 rfl ?_
  refine G_iconst (v := 0) F dL_setAlignment_1 rfl ?_
  refine G_aload_n F dL_setAlignment_2 rfl ?_
  refine G_iload_n F dL_setAlignment_3 rfl ?_
  refine G_callV F (k := 0) mv_L_50 dL_setAlignment_4 hM (As := [.int p0]) rfl rfl rfl rfl (Nat.le_of_ble_eq_true rfl) ⟨by show d' + 8 + 1 ≤ 11 + 8; omega, by show 8 + (4 + 11) + (32 * d' + 160) ≤ 32 * 11 + 160; omega, Nat.le_of_ble_eq_true rfl, Nat.le_of_ble_eq_true rfl⟩ (fun E M1 hE => ?_) (fun v1 a1 S1 M1 h1 => ?_)
  · have e1 := hx E M1 hE
    subst e1
    refine GX_catch F Rt (name := "java/lang/IllegalArgumentException") [] ⟨0, 9, 12, 13⟩ [] rfl (fun z hz => absurd hz (by simp)) (by decide) (by decide) (fx_in 580 (by decide +kernel) rfl) (fx_inN 587 (by decide +kernel) rfl) (fun q => ?_)
    refine G_astore_n F 3 dL_setAlignment_12 rfl rfl rfl (Nat.le_of_ble_eq_true rfl) ?_
    refine G_iconst (v := 1) F dL_setAlignment_13 rfl ?_
    exact G_iret F Rt dL_setAlignment_14 rfl ⟨rfl, _, _, rfl, rfl, Or.inr (⟨rfl, rfl, hE⟩)⟩ (Nat.le_of_ble_eq_true rfl) (Nat.le_of_ble_eq_true rfl)
  obtain ⟨rfl, rfl, r, rfl, hp⟩ := h1
  refine G_i2l F dL_setAlignment_7 ?_
  refine G_last F dL_setAlignment_8 (k := 64) rfl vp_in01 ?_
  refine G_goto (tgt := 15) F dL_setAlignment_9 (by decide) ?_
  refine G_iconst (v := 0) F dL_setAlignment_15 rfl ?_
  exact G_iret F Rt dL_setAlignment_16 rfl ⟨rfl, _, _, rfl, rfl, Or.inl ⟨rfl, rfl, r, M1, hp, rfl⟩⟩ (Nat.le_of_ble_eq_true rfl) (Nat.le_of_ble_eq_true rfl)
set_option maxRecDepth 20000 in
theorem w_setLoopLimit {l : Launch} {Z : fx_Z} (hl : l.stackTraces = false) (ad : Nat → Nat) {sw sw' : Bool} {M : fx_M} (p0 : Int32) {d' : Nat} (hd : d' ≤ 10) {P : Int32 → fx_M → Prop} {PX : String → fx_M → Prop} (hM : CT l Z yX7_setLoopLimit (.code yX7_setLoopLimit cX7_setLoopLimit 3 (some .int)) d' 4 24 [.ref (ad 0), .int p0] ad (w_S sw) M (fun v a s m => a = ad ∧ s = w_S sw' ∧ ∃ r : Int32, v = some (.int r) ∧ P r m) PX) (hx : ∀ E m, PX E m → E = xIA) : CT l Z yL_setLoopLimit (.codeWith yL_setLoopLimit cL_setLoopLimit 4 (some .int) [(0, 9, 12, 13)]) 11 4 24 [.ref (ad 0), .int p0, .ref (ad 64)] ad (w_S sw) M (fun v a s m => a = ad ∧ ∃ (k : Int32) (s1 : Bool), s = w_S s1 ∧ v = some (.int k) ∧ ((k = 0 ∧ s1 = sw' ∧ ∃ r m0, P r m0 ∧ m = fx_u m0 64 0 r) ∨ (k = 1 ∧ s1 = sw ∧ PX xIA m))) (fun _ _ => False) := by
  refine CT_ofH (ret := some .int) (lv0 := [some (.ref (ad 0)), some (.int p0), some (.ref (ad 64)), none]) (by decide +kernel) hl (by simp [Value.category]) (Nat.le_of_ble_eq_true rfl) rfl ?_
  intro X F Rt
  refine G_aload_n F dL_setLoopLimit_0 rfl ?_
  refine G_iconst (v := 0) F dL_setLoopLimit_1 rfl ?_
  refine G_aload_n F dL_setLoopLimit_2 rfl ?_
  refine G_iload_n F dL_setLoopLimit_3 rfl ?_
  refine G_callV F (k := 0) mv_L_53 dL_setLoopLimit_4 hM (As := [.int p0]) rfl rfl rfl rfl (Nat.le_of_ble_eq_true rfl) ⟨by show d' + 8 + 1 ≤ 11 + 8; omega, by show 8 + (3 + 11) + (32 * d' + 160) ≤ 32 * 11 + 160; omega, Nat.le_of_ble_eq_true rfl, Nat.le_of_ble_eq_true rfl⟩ (fun E M1 hE => ?_) (fun v1 a1 S1 M1 h1 => ?_)
  · have e1 := hx E M1 hE
    subst e1
    refine GX_catch F Rt (name := "java/lang/IllegalArgumentException") [] ⟨0, 9, 12, 13⟩ [] rfl (fun z hz => absurd hz (by simp)) (by decide) (by decide) (fx_in 580 (by decide +kernel) rfl) (fx_inN 587 (by decide +kernel) rfl) (fun q => ?_)
    refine G_astore_n F 3 dL_setLoopLimit_12 rfl rfl rfl (Nat.le_of_ble_eq_true rfl) ?_
    refine G_iconst (v := 1) F dL_setLoopLimit_13 rfl ?_
    exact G_iret F Rt dL_setLoopLimit_14 rfl ⟨rfl, _, _, rfl, rfl, Or.inr (⟨rfl, rfl, hE⟩)⟩ (Nat.le_of_ble_eq_true rfl) (Nat.le_of_ble_eq_true rfl)
  obtain ⟨rfl, rfl, r, rfl, hp⟩ := h1
  refine G_i2l F dL_setLoopLimit_7 ?_
  refine G_last F dL_setLoopLimit_8 (k := 64) rfl vp_in01 ?_
  refine G_goto (tgt := 15) F dL_setLoopLimit_9 (by decide) ?_
  refine G_iconst (v := 0) F dL_setLoopLimit_15 rfl ?_
  exact G_iret F Rt dL_setLoopLimit_16 rfl ⟨rfl, _, _, rfl, rfl, Or.inl ⟨rfl, rfl, r, M1, hp, rfl⟩⟩ (Nat.le_of_ble_eq_true rfl) (Nat.le_of_ble_eq_true rfl)
set_option maxRecDepth 20000 in
theorem w_arrange {l : Launch} {Z : fx_Z} (hl : l.stackTraces = false) (ad : Nat → Nat) {sw sw' : Bool} {M : fx_M} (p0 : Int32) (p1 : Int32) {d' : Nat} (hd : d' ≤ 10) {P : Int32 → fx_M → Prop} {PX : String → fx_M → Prop} (hM : CT l Z yX7_arrange (.code yX7_arrange cX7_arrange 3 (some .int)) d' 4 24 [.ref (ad 0), .int p0, .int p1] ad (w_S sw) M (fun v a s m => a = ad ∧ s = w_S sw' ∧ ∃ r : Int32, v = some (.int r) ∧ P r m) PX) (hx : ∀ E m, PX E m → E = xIA ∨ E = xUO) : CT l Z yL_arrange (.codeWith yL_arrange cL_arrange 5 (some .int) [(0, 10, 13, 13), (0, 10, 17, 34)]) 11 4 24 [.ref (ad 0), .int p0, .int p1, .ref (ad 64)] ad (w_S sw) M (fun v a s m => a = ad ∧ ∃ (k : Int32) (s1 : Bool), s = w_S s1 ∧ v = some (.int k) ∧ ((k = 0 ∧ s1 = sw' ∧ ∃ r m0, P r m0 ∧ m = fx_u m0 64 0 r) ∨ (k = 1 ∧ s1 = sw ∧ PX xIA m) ∨ (k = 2 ∧ s1 = sw ∧ PX xUO m))) (fun _ _ => False) := by
  refine CT_ofH (ret := some .int) (lv0 := [some (.ref (ad 0)), some (.int p0), some (.int p1), some (.ref (ad 64)), none]) (by decide +kernel) hl (by simp [Value.category]) (Nat.le_of_ble_eq_true rfl) rfl ?_
  intro X F Rt
  refine G_aload_n F dL_arrange_0 rfl ?_
  refine G_iconst (v := 0) F dL_arrange_1 rfl ?_
  refine G_aload_n F dL_arrange_2 rfl ?_
  refine G_iload_n F dL_arrange_3 rfl ?_
  refine G_iload_n F dL_arrange_4 rfl ?_
  refine G_callV F (k := 0) mv_L_56 dL_arrange_5 hM (As := [.int p0, .int p1]) rfl rfl rfl rfl (Nat.le_of_ble_eq_true rfl) ⟨by show d' + 8 + 1 ≤ 11 + 8; omega, by show 8 + (3 + 11) + (32 * d' + 160) ≤ 32 * 11 + 160; omega, Nat.le_of_ble_eq_true rfl, Nat.le_of_ble_eq_true rfl⟩ (fun E M1 hE => ?_) (fun v1 a1 S1 M1 h1 => ?_)
  · rcases hx E M1 hE with rfl | rfl
    · refine GX_catch F Rt (name := "java/lang/IllegalArgumentException") [] ⟨0, 10, 13, 13⟩ [⟨0, 10, 17, 34⟩] rfl (fun z hz => absurd hz (by simp)) (by decide) (by decide) (fx_in 580 (by decide +kernel) rfl) (fx_inN 587 (by decide +kernel) rfl) (fun q => ?_)
      refine G_astore F dL_arrange_13 rfl rfl (Nat.le_of_ble_eq_true rfl) ?_
      refine G_iconst (v := 1) F dL_arrange_15 rfl ?_
      exact G_iret F Rt dL_arrange_16 rfl ⟨rfl, _, _, rfl, rfl, Or.inr (Or.inl ⟨rfl, rfl, hE⟩)⟩ (Nat.le_of_ble_eq_true rfl) (Nat.le_of_ble_eq_true rfl)
    · refine GX_catch F Rt (name := "java/lang/UnsupportedOperationException") [⟨0, 10, 13, 13⟩] ⟨0, 10, 17, 34⟩ [] rfl (fun z hz => by
          rw [List.mem_singleton.mp hz]
          exact Or.inr ⟨by decide, "java/lang/IllegalArgumentException", fx_in 580 (by decide +kernel) rfl, by decide +kernel⟩) (by decide) (by decide) (fx_in 757 (by decide +kernel) rfl) (fx_inN 764 (by decide +kernel) rfl) (fun q => ?_)
      refine G_astore F dL_arrange_17 rfl rfl (Nat.le_of_ble_eq_true rfl) ?_
      refine G_iconst (v := 2) F dL_arrange_19 rfl ?_
      exact G_iret F Rt dL_arrange_20 rfl ⟨rfl, _, _, rfl, rfl, Or.inr (Or.inr (⟨rfl, rfl, hE⟩))⟩ (Nat.le_of_ble_eq_true rfl) (Nat.le_of_ble_eq_true rfl)
  obtain ⟨rfl, rfl, r, rfl, hp⟩ := h1
  refine G_i2l F dL_arrange_8 ?_
  refine G_last F dL_arrange_9 (k := 64) rfl vp_in01 ?_
  refine G_goto (tgt := 21) F dL_arrange_10 (by decide) ?_
  refine G_iconst (v := 0) F dL_arrange_21 rfl ?_
  exact G_iret F Rt dL_arrange_22 rfl ⟨rfl, _, _, rfl, rfl, Or.inl ⟨rfl, rfl, r, M1, hp, rfl⟩⟩ (Nat.le_of_ble_eq_true rfl) (Nat.le_of_ble_eq_true rfl)
set_option maxRecDepth 20000 in
theorem w_exchange {l : Launch} {Z : fx_Z} (hl : l.stackTraces = false) (ad : Nat → Nat) {sw sw' : Bool} {M : fx_M} (p0 : Int32) (p1 : Int32) {d' : Nat} (hd : d' ≤ 10) {P : Int32 → fx_M → Prop} {PX : String → fx_M → Prop} (hM : CT l Z yX7_exchange (.code yX7_exchange cX7_exchange 4 (some .int)) d' 4 24 [.ref (ad 0), .int p0, .int p1] ad (w_S sw) M (fun v a s m => a = ad ∧ s = w_S sw' ∧ ∃ r : Int32, v = some (.int r) ∧ P r m) PX) (hx : ∀ E m, PX E m → E = xIO ∨ E = xIA) : CT l Z yL_exchange (.codeWith yL_exchange cL_exchange 5 (some .int) [(0, 10, 13, 19), (0, 10, 17, 13)]) 11 4 24 [.ref (ad 0), .int p0, .int p1, .ref (ad 64)] ad (w_S sw) M (fun v a s m => a = ad ∧ ∃ (k : Int32) (s1 : Bool), s = w_S s1 ∧ v = some (.int k) ∧ ((k = 0 ∧ s1 = sw' ∧ ∃ r m0, P r m0 ∧ m = fx_u m0 64 0 r) ∨ (k = 1 ∧ s1 = sw ∧ PX xIO m) ∨ (k = 2 ∧ s1 = sw ∧ PX xIA m))) (fun _ _ => False) := by
  refine CT_ofH (ret := some .int) (lv0 := [some (.ref (ad 0)), some (.int p0), some (.int p1), some (.ref (ad 64)), none]) (by decide +kernel) hl (by simp [Value.category]) (Nat.le_of_ble_eq_true rfl) rfl ?_
  intro X F Rt
  refine G_aload_n F dL_exchange_0 rfl ?_
  refine G_iconst (v := 0) F dL_exchange_1 rfl ?_
  refine G_aload_n F dL_exchange_2 rfl ?_
  refine G_iload_n F dL_exchange_3 rfl ?_
  refine G_iload_n F dL_exchange_4 rfl ?_
  refine G_callV F (k := 0) mv_L_59 dL_exchange_5 hM (As := [.int p0, .int p1]) rfl rfl rfl rfl (Nat.le_of_ble_eq_true rfl) ⟨by show d' + 8 + 1 ≤ 11 + 8; omega, by show 8 + (4 + 11) + (32 * d' + 160) ≤ 32 * 11 + 160; omega, Nat.le_of_ble_eq_true rfl, Nat.le_of_ble_eq_true rfl⟩ (fun E M1 hE => ?_) (fun v1 a1 S1 M1 h1 => ?_)
  · rcases hx E M1 hE with rfl | rfl
    · refine GX_catch F Rt (name := "java/lang/IndexOutOfBoundsException") [] ⟨0, 10, 13, 19⟩ [⟨0, 10, 17, 13⟩] rfl (fun z hz => absurd hz (by simp)) (by decide) (by decide) (fx_in 664 (by decide +kernel) rfl) (fx_inN 699 (by decide +kernel) rfl) (fun q => ?_)
      refine G_astore F dL_exchange_13 rfl rfl (Nat.le_of_ble_eq_true rfl) ?_
      refine G_iconst (v := 1) F dL_exchange_15 rfl ?_
      exact G_iret F Rt dL_exchange_16 rfl ⟨rfl, _, _, rfl, rfl, Or.inr (Or.inl ⟨rfl, rfl, hE⟩)⟩ (Nat.le_of_ble_eq_true rfl) (Nat.le_of_ble_eq_true rfl)
    · refine GX_catch F Rt (name := "java/lang/IllegalArgumentException") [⟨0, 10, 13, 19⟩] ⟨0, 10, 17, 13⟩ [] rfl (fun z hz => by
          rw [List.mem_singleton.mp hz]
          exact Or.inr ⟨by decide, "java/lang/IndexOutOfBoundsException", fx_in 664 (by decide +kernel) rfl, by decide +kernel⟩) (by decide) (by decide) (fx_in 580 (by decide +kernel) rfl) (fx_inN 587 (by decide +kernel) rfl) (fun q => ?_)
      refine G_astore F dL_exchange_17 rfl rfl (Nat.le_of_ble_eq_true rfl) ?_
      refine G_iconst (v := 2) F dL_exchange_19 rfl ?_
      exact G_iret F Rt dL_exchange_20 rfl ⟨rfl, _, _, rfl, rfl, Or.inr (Or.inr (⟨rfl, rfl, hE⟩))⟩ (Nat.le_of_ble_eq_true rfl) (Nat.le_of_ble_eq_true rfl)
  obtain ⟨rfl, rfl, r, rfl, hp⟩ := h1
  refine G_i2l F dL_exchange_8 ?_
  refine G_last F dL_exchange_9 (k := 64) rfl vp_in01 ?_
  refine G_goto (tgt := 21) F dL_exchange_10 (by decide) ?_
  refine G_iconst (v := 0) F dL_exchange_21 rfl ?_
  exact G_iret F Rt dL_exchange_22 rfl ⟨rfl, _, _, rfl, rfl, Or.inl ⟨rfl, rfl, r, M1, hp, rfl⟩⟩ (Nat.le_of_ble_eq_true rfl) (Nat.le_of_ble_eq_true rfl)
set_option maxRecDepth 20000 in
theorem w_setHot {l : Launch} {Z : fx_Z} (hl : l.stackTraces = false) (ad : Nat → Nat) {sw sw' : Bool} {M : fx_M} (p0 : Int32) {d' : Nat} (hd : d' ≤ 10) {P : Int32 → fx_M → Prop} {PX : String → fx_M → Prop} (hM : CT l Z yX7_setHot (.code yX7_setHot cX7_setHot 3 (some .int)) d' 4 24 [.ref (ad 0), .int p0] ad (w_S sw) M (fun v a s m => a = ad ∧ s = w_S sw' ∧ ∃ r : Int32, v = some (.int r) ∧ P r m) PX) (hx : ∀ E m, PX E m → E = xIA) : CT l Z yL_setHot (.codeWith yL_setHot cL_setHot 4 (some .int) [(0, 9, 12, 13)]) 11 4 24 [.ref (ad 0), .int p0, .ref (ad 64)] ad (w_S sw) M (fun v a s m => a = ad ∧ ∃ (k : Int32) (s1 : Bool), s = w_S s1 ∧ v = some (.int k) ∧ ((k = 0 ∧ s1 = sw' ∧ ∃ r m0, P r m0 ∧ m = fx_u m0 64 0 r) ∨ (k = 1 ∧ s1 = sw ∧ PX xIA m))) (fun _ _ => False) := by
  refine CT_ofH (ret := some .int) (lv0 := [some (.ref (ad 0)), some (.int p0), some (.ref (ad 64)), none]) (by decide +kernel) hl (by simp [Value.category]) (Nat.le_of_ble_eq_true rfl) rfl ?_
  intro X F Rt
  refine G_aload_n F dL_setHot_0 rfl ?_
  refine G_iconst (v := 0) F dL_setHot_1 rfl ?_
  refine G_aload_n F dL_setHot_2 rfl ?_
  refine G_iload_n F dL_setHot_3 rfl ?_
  refine G_callV F (k := 0) mv_L_62 dL_setHot_4 hM (As := [.int p0]) rfl rfl rfl rfl (Nat.le_of_ble_eq_true rfl) ⟨by show d' + 8 + 1 ≤ 11 + 8; omega, by show 8 + (3 + 11) + (32 * d' + 160) ≤ 32 * 11 + 160; omega, Nat.le_of_ble_eq_true rfl, Nat.le_of_ble_eq_true rfl⟩ (fun E M1 hE => ?_) (fun v1 a1 S1 M1 h1 => ?_)
  · have e1 := hx E M1 hE
    subst e1
    refine GX_catch F Rt (name := "java/lang/IllegalArgumentException") [] ⟨0, 9, 12, 13⟩ [] rfl (fun z hz => absurd hz (by simp)) (by decide) (by decide) (fx_in 580 (by decide +kernel) rfl) (fx_inN 587 (by decide +kernel) rfl) (fun q => ?_)
    refine G_astore_n F 3 dL_setHot_12 rfl rfl rfl (Nat.le_of_ble_eq_true rfl) ?_
    refine G_iconst (v := 1) F dL_setHot_13 rfl ?_
    exact G_iret F Rt dL_setHot_14 rfl ⟨rfl, _, _, rfl, rfl, Or.inr (⟨rfl, rfl, hE⟩)⟩ (Nat.le_of_ble_eq_true rfl) (Nat.le_of_ble_eq_true rfl)
  obtain ⟨rfl, rfl, r, rfl, hp⟩ := h1
  refine G_i2l F dL_setHot_7 ?_
  refine G_last F dL_setHot_8 (k := 64) rfl vp_in01 ?_
  refine G_goto (tgt := 15) F dL_setHot_9 (by decide) ?_
  refine G_iconst (v := 0) F dL_setHot_15 rfl ?_
  exact G_iret F Rt dL_setHot_16 rfl ⟨rfl, _, _, rfl, rfl, Or.inl ⟨rfl, rfl, r, M1, hp, rfl⟩⟩ (Nat.le_of_ble_eq_true rfl) (Nat.le_of_ble_eq_true rfl)
set_option maxRecDepth 20000 in
theorem w_order {l : Launch} {Z : fx_Z} (hl : l.stackTraces = false) (ad : Nat → Nat) {sw sw' : Bool} {M : fx_M} (p0 : Int32) {d' : Nat} (hd : d' ≤ 10) {P : Int32 → fx_M → Prop} {PX : String → fx_M → Prop} (hM : CT l Z yX7_order (.code yX7_order cX7_order 2 (some .int)) d' 4 24 [.ref (ad 0), .int p0] ad (w_S sw) M (fun v a s m => a = ad ∧ s = w_S sw' ∧ ∃ r : Int32, v = some (.int r) ∧ P r m) PX) (hx : ∀ E m, PX E m → E = xIO) : CT l Z yL_order (.codeWith yL_order cL_order 4 (some .int) [(0, 9, 12, 19)]) 11 4 24 [.ref (ad 0), .int p0, .ref (ad 64)] ad (w_S sw) M (fun v a s m => a = ad ∧ ∃ (k : Int32) (s1 : Bool), s = w_S s1 ∧ v = some (.int k) ∧ ((k = 0 ∧ s1 = sw' ∧ ∃ r m0, P r m0 ∧ m = fx_u m0 64 0 r) ∨ (k = 1 ∧ s1 = sw ∧ PX xIO m))) (fun _ _ => False) := by
  refine CT_ofH (ret := some .int) (lv0 := [some (.ref (ad 0)), some (.int p0), some (.ref (ad 64)), none]) (by decide +kernel) hl (by simp [Value.category]) (Nat.le_of_ble_eq_true rfl) rfl ?_
  intro X F Rt
  refine G_aload_n F dL_order_0 rfl ?_
  refine G_iconst (v := 0) F dL_order_1 rfl ?_
  refine G_aload_n F dL_order_2 rfl ?_
  refine G_iload_n F dL_order_3 rfl ?_
  refine G_callV F (k := 0) mv_L_65 dL_order_4 hM (As := [.int p0]) rfl rfl rfl rfl (Nat.le_of_ble_eq_true rfl) ⟨by show d' + 8 + 1 ≤ 11 + 8; omega, by show 8 + (2 + 11) + (32 * d' + 160) ≤ 32 * 11 + 160; omega, Nat.le_of_ble_eq_true rfl, Nat.le_of_ble_eq_true rfl⟩ (fun E M1 hE => ?_) (fun v1 a1 S1 M1 h1 => ?_)
  · have e1 := hx E M1 hE
    subst e1
    refine GX_catch F Rt (name := "java/lang/IndexOutOfBoundsException") [] ⟨0, 9, 12, 19⟩ [] rfl (fun z hz => absurd hz (by simp)) (by decide) (by decide) (fx_in 664 (by decide +kernel) rfl) (fx_inN 699 (by decide +kernel) rfl) (fun q => ?_)
    refine G_astore_n F 3 dL_order_12 rfl rfl rfl (Nat.le_of_ble_eq_true rfl) ?_
    refine G_iconst (v := 1) F dL_order_13 rfl ?_
    exact G_iret F Rt dL_order_14 rfl ⟨rfl, _, _, rfl, rfl, Or.inr (⟨rfl, rfl, hE⟩)⟩ (Nat.le_of_ble_eq_true rfl) (Nat.le_of_ble_eq_true rfl)
  obtain ⟨rfl, rfl, r, rfl, hp⟩ := h1
  refine G_i2l F dL_order_7 ?_
  refine G_last F dL_order_8 (k := 64) rfl vp_in01 ?_
  refine G_goto (tgt := 15) F dL_order_9 (by decide) ?_
  refine G_iconst (v := 0) F dL_order_15 rfl ?_
  exact G_iret F Rt dL_order_16 rfl ⟨rfl, _, _, rfl, rfl, Or.inl ⟨rfl, rfl, r, M1, hp, rfl⟩⟩ (Nat.le_of_ble_eq_true rfl) (Nat.le_of_ble_eq_true rfl)
set_option maxRecDepth 20000 in
theorem w_place {l : Launch} {Z : fx_Z} (hl : l.stackTraces = false) (ad : Nat → Nat) {sw sw' : Bool} {M : fx_M} (p0 : Int32) (p1 : Int32) {d' : Nat} (hd : d' ≤ 10) {P : Int32 → fx_M → Prop} {PX : String → fx_M → Prop} (hM : CT l Z yX7_place (.code yX7_place cX7_place 3 (some .int)) d' 4 24 [.ref (ad 0), .int p0, .int p1] ad (w_S sw) M (fun v a s m => a = ad ∧ s = w_S sw' ∧ ∃ r : Int32, v = some (.int r) ∧ P r m) PX) (hx : ∀ E m, PX E m → E = xIO ∨ E = xIA) : CT l Z yL_place (.codeWith yL_place cL_place 5 (some .int) [(0, 10, 13, 19), (0, 10, 17, 13)]) 11 4 24 [.ref (ad 0), .int p0, .int p1, .ref (ad 64)] ad (w_S sw) M (fun v a s m => a = ad ∧ ∃ (k : Int32) (s1 : Bool), s = w_S s1 ∧ v = some (.int k) ∧ ((k = 0 ∧ s1 = sw' ∧ ∃ r m0, P r m0 ∧ m = fx_u m0 64 0 r) ∨ (k = 1 ∧ s1 = sw ∧ PX xIO m) ∨ (k = 2 ∧ s1 = sw ∧ PX xIA m))) (fun _ _ => False) := by
  refine CT_ofH (ret := some .int) (lv0 := [some (.ref (ad 0)), some (.int p0), some (.int p1), some (.ref (ad 64)), none]) (by decide +kernel) hl (by simp [Value.category]) (Nat.le_of_ble_eq_true rfl) rfl ?_
  intro X F Rt
  refine G_aload_n F dL_place_0 rfl ?_
  refine G_iconst (v := 0) F dL_place_1 rfl ?_
  refine G_aload_n F dL_place_2 rfl ?_
  refine G_iload_n F dL_place_3 rfl ?_
  refine G_iload_n F dL_place_4 rfl ?_
  refine G_callV F (k := 0) mv_L_68 dL_place_5 hM (As := [.int p0, .int p1]) rfl rfl rfl rfl (Nat.le_of_ble_eq_true rfl) ⟨by show d' + 8 + 1 ≤ 11 + 8; omega, by show 8 + (3 + 11) + (32 * d' + 160) ≤ 32 * 11 + 160; omega, Nat.le_of_ble_eq_true rfl, Nat.le_of_ble_eq_true rfl⟩ (fun E M1 hE => ?_) (fun v1 a1 S1 M1 h1 => ?_)
  · rcases hx E M1 hE with rfl | rfl
    · refine GX_catch F Rt (name := "java/lang/IndexOutOfBoundsException") [] ⟨0, 10, 13, 19⟩ [⟨0, 10, 17, 13⟩] rfl (fun z hz => absurd hz (by simp)) (by decide) (by decide) (fx_in 664 (by decide +kernel) rfl) (fx_inN 699 (by decide +kernel) rfl) (fun q => ?_)
      refine G_astore F dL_place_13 rfl rfl (Nat.le_of_ble_eq_true rfl) ?_
      refine G_iconst (v := 1) F dL_place_15 rfl ?_
      exact G_iret F Rt dL_place_16 rfl ⟨rfl, _, _, rfl, rfl, Or.inr (Or.inl ⟨rfl, rfl, hE⟩)⟩ (Nat.le_of_ble_eq_true rfl) (Nat.le_of_ble_eq_true rfl)
    · refine GX_catch F Rt (name := "java/lang/IllegalArgumentException") [⟨0, 10, 13, 19⟩] ⟨0, 10, 17, 13⟩ [] rfl (fun z hz => by
          rw [List.mem_singleton.mp hz]
          exact Or.inr ⟨by decide, "java/lang/IndexOutOfBoundsException", fx_in 664 (by decide +kernel) rfl, by decide +kernel⟩) (by decide) (by decide) (fx_in 580 (by decide +kernel) rfl) (fx_inN 587 (by decide +kernel) rfl) (fun q => ?_)
      refine G_astore F dL_place_17 rfl rfl (Nat.le_of_ble_eq_true rfl) ?_
      refine G_iconst (v := 2) F dL_place_19 rfl ?_
      exact G_iret F Rt dL_place_20 rfl ⟨rfl, _, _, rfl, rfl, Or.inr (Or.inr (⟨rfl, rfl, hE⟩))⟩ (Nat.le_of_ble_eq_true rfl) (Nat.le_of_ble_eq_true rfl)
  obtain ⟨rfl, rfl, r, rfl, hp⟩ := h1
  refine G_i2l F dL_place_8 ?_
  refine G_last F dL_place_9 (k := 64) rfl vp_in01 ?_
  refine G_goto (tgt := 21) F dL_place_10 (by decide) ?_
  refine G_iconst (v := 0) F dL_place_21 rfl ?_
  exact G_iret F Rt dL_place_22 rfl ⟨rfl, _, _, rfl, rfl, Or.inl ⟨rfl, rfl, r, M1, hp, rfl⟩⟩ (Nat.le_of_ble_eq_true rfl) (Nat.le_of_ble_eq_true rfl)
set_option maxRecDepth 20000 in
theorem w_end {l : Launch} {Z : fx_Z} (hl : l.stackTraces = false) (ad : Nat → Nat) {sw sw' : Bool} {M : fx_M} (p0 : Int32) (p1 : Int32) {d' : Nat} (hd : d' ≤ 10) {P : Int32 → fx_M → Prop} {PX : String → fx_M → Prop} (hM : CT l Z yX7_end (.code yX7_end cX7_end 3 (some .int)) d' 4 24 [.ref (ad 0), .int p0, .int p1] ad (w_S sw) M (fun v a s m => a = ad ∧ s = w_S sw' ∧ ∃ r : Int32, v = some (.int r) ∧ P r m) PX) (hx : ∀ E m, PX E m → E = xIO ∨ E = xIA) : CT l Z yL_end (.codeWith yL_end cL_end 5 (some .int) [(0, 10, 13, 19), (0, 10, 17, 13)]) 11 4 24 [.ref (ad 0), .int p0, .int p1, .ref (ad 64)] ad (w_S sw) M (fun v a s m => a = ad ∧ ∃ (k : Int32) (s1 : Bool), s = w_S s1 ∧ v = some (.int k) ∧ ((k = 0 ∧ s1 = sw' ∧ ∃ r m0, P r m0 ∧ m = fx_u m0 64 0 r) ∨ (k = 1 ∧ s1 = sw ∧ PX xIO m) ∨ (k = 2 ∧ s1 = sw ∧ PX xIA m))) (fun _ _ => False) := by
  refine CT_ofH (ret := some .int) (lv0 := [some (.ref (ad 0)), some (.int p0), some (.int p1), some (.ref (ad 64)), none]) (by decide +kernel) hl (by simp [Value.category]) (Nat.le_of_ble_eq_true rfl) rfl ?_
  intro X F Rt
  refine G_aload_n F dL_end_0 rfl ?_
  refine G_iconst (v := 0) F dL_end_1 rfl ?_
  refine G_aload_n F dL_end_2 rfl ?_
  refine G_iload_n F dL_end_3 rfl ?_
  refine G_iload_n F dL_end_4 rfl ?_
  refine G_callV F (k := 0) mv_L_71 dL_end_5 hM (As := [.int p0, .int p1]) rfl rfl rfl rfl (Nat.le_of_ble_eq_true rfl) ⟨by show d' + 8 + 1 ≤ 11 + 8; omega, by show 8 + (3 + 11) + (32 * d' + 160) ≤ 32 * 11 + 160; omega, Nat.le_of_ble_eq_true rfl, Nat.le_of_ble_eq_true rfl⟩ (fun E M1 hE => ?_) (fun v1 a1 S1 M1 h1 => ?_)
  · rcases hx E M1 hE with rfl | rfl
    · refine GX_catch F Rt (name := "java/lang/IndexOutOfBoundsException") [] ⟨0, 10, 13, 19⟩ [⟨0, 10, 17, 13⟩] rfl (fun z hz => absurd hz (by simp)) (by decide) (by decide) (fx_in 664 (by decide +kernel) rfl) (fx_inN 699 (by decide +kernel) rfl) (fun q => ?_)
      refine G_astore F dL_end_13 rfl rfl (Nat.le_of_ble_eq_true rfl) ?_
      refine G_iconst (v := 1) F dL_end_15 rfl ?_
      exact G_iret F Rt dL_end_16 rfl ⟨rfl, _, _, rfl, rfl, Or.inr (Or.inl ⟨rfl, rfl, hE⟩)⟩ (Nat.le_of_ble_eq_true rfl) (Nat.le_of_ble_eq_true rfl)
    · refine GX_catch F Rt (name := "java/lang/IllegalArgumentException") [⟨0, 10, 13, 19⟩] ⟨0, 10, 17, 13⟩ [] rfl (fun z hz => by
          rw [List.mem_singleton.mp hz]
          exact Or.inr ⟨by decide, "java/lang/IndexOutOfBoundsException", fx_in 664 (by decide +kernel) rfl, by decide +kernel⟩) (by decide) (by decide) (fx_in 580 (by decide +kernel) rfl) (fx_inN 587 (by decide +kernel) rfl) (fun q => ?_)
      refine G_astore F dL_end_17 rfl rfl (Nat.le_of_ble_eq_true rfl) ?_
      refine G_iconst (v := 2) F dL_end_19 rfl ?_
      exact G_iret F Rt dL_end_20 rfl ⟨rfl, _, _, rfl, rfl, Or.inr (Or.inr (⟨rfl, rfl, hE⟩))⟩ (Nat.le_of_ble_eq_true rfl) (Nat.le_of_ble_eq_true rfl)
  obtain ⟨rfl, rfl, r, rfl, hp⟩ := h1
  refine G_i2l F dL_end_8 ?_
  refine G_last F dL_end_9 (k := 64) rfl vp_in01 ?_
  refine G_goto (tgt := 21) F dL_end_10 (by decide) ?_
  refine G_iconst (v := 0) F dL_end_21 rfl ?_
  exact G_iret F Rt dL_end_22 rfl ⟨rfl, _, _, rfl, rfl, Or.inl ⟨rfl, rfl, r, M1, hp, rfl⟩⟩ (Nat.le_of_ble_eq_true rfl) (Nat.le_of_ble_eq_true rfl)
set_option maxRecDepth 20000 in
theorem w_layout {l : Launch} {Z : fx_Z} (hl : l.stackTraces = false) (ad : Nat → Nat) {sw sw' : Bool} {M : fx_M} (p0 : Int32) {d' : Nat} (hd : d' ≤ 10) {P : Int32 → fx_M → Prop} {PX : String → fx_M → Prop} (hM : CT l Z yX7_layout (.code yX7_layout cX7_layout 2 (some .int)) d' 4 24 [.ref (ad 0), .int p0] ad (w_S sw) M (fun v a s m => a = ad ∧ s = w_S sw' ∧ ∃ r : Int32, v = some (.int r) ∧ P r m) PX) (hx : ∀ E m, PX E m → E = xIA) : CT l Z yL_layout (.codeWith yL_layout cL_layout 4 (some .int) [(0, 9, 12, 13)]) 11 4 24 [.ref (ad 0), .int p0, .ref (ad 64)] ad (w_S sw) M (fun v a s m => a = ad ∧ ∃ (k : Int32) (s1 : Bool), s = w_S s1 ∧ v = some (.int k) ∧ ((k = 0 ∧ s1 = sw' ∧ ∃ r m0, P r m0 ∧ m = fx_u m0 64 0 r) ∨ (k = 1 ∧ s1 = sw ∧ PX xIA m))) (fun _ _ => False) := by
  refine CT_ofH (ret := some .int) (lv0 := [some (.ref (ad 0)), some (.int p0), some (.ref (ad 64)), none]) (by decide +kernel) hl (by simp [Value.category]) (Nat.le_of_ble_eq_true rfl) rfl ?_
  intro X F Rt
  refine G_aload_n F dL_layout_0 rfl ?_
  refine G_iconst (v := 0) F dL_layout_1 rfl ?_
  refine G_aload_n F dL_layout_2 rfl ?_
  refine G_iload_n F dL_layout_3 rfl ?_
  refine G_callV F (k := 0) mv_L_74 dL_layout_4 hM (As := [.int p0]) rfl rfl rfl rfl (Nat.le_of_ble_eq_true rfl) ⟨by show d' + 8 + 1 ≤ 11 + 8; omega, by show 8 + (2 + 11) + (32 * d' + 160) ≤ 32 * 11 + 160; omega, Nat.le_of_ble_eq_true rfl, Nat.le_of_ble_eq_true rfl⟩ (fun E M1 hE => ?_) (fun v1 a1 S1 M1 h1 => ?_)
  · have e1 := hx E M1 hE
    subst e1
    refine GX_catch F Rt (name := "java/lang/IllegalArgumentException") [] ⟨0, 9, 12, 13⟩ [] rfl (fun z hz => absurd hz (by simp)) (by decide) (by decide) (fx_in 580 (by decide +kernel) rfl) (fx_inN 587 (by decide +kernel) rfl) (fun q => ?_)
    refine G_astore_n F 3 dL_layout_12 rfl rfl rfl (Nat.le_of_ble_eq_true rfl) ?_
    refine G_iconst (v := 1) F dL_layout_13 rfl ?_
    exact G_iret F Rt dL_layout_14 rfl ⟨rfl, _, _, rfl, rfl, Or.inr (⟨rfl, rfl, hE⟩)⟩ (Nat.le_of_ble_eq_true rfl) (Nat.le_of_ble_eq_true rfl)
  obtain ⟨rfl, rfl, r, rfl, hp⟩ := h1
  refine G_i2l F dL_layout_7 ?_
  refine G_last F dL_layout_8 (k := 64) rfl vp_in01 ?_
  refine G_goto (tgt := 15) F dL_layout_9 (by decide) ?_
  refine G_iconst (v := 0) F dL_layout_15 rfl ?_
  exact G_iret F Rt dL_layout_16 rfl ⟨rfl, _, _, rfl, rfl, Or.inl ⟨rfl, rfl, r, M1, hp, rfl⟩⟩ (Nat.le_of_ble_eq_true rfl) (Nat.le_of_ble_eq_true rfl)
set_option maxRecDepth 20000 in
theorem w_meanCycles {l : Launch} {Z : fx_Z} (hl : l.stackTraces = false) (ad : Nat → Nat) {sw : Bool} {M : fx_M} {d' : Nat} (hd : d' ≤ 10) {P : Int32 → Int32 → fx_M → Prop} {PX : String → fx_M → Prop} (hM : CT l Z yX7_meanCycles (.code yX7_meanCycles cX7_meanCycles 2 (some .double)) d' 4 24 [.ref (ad 0)] ad (w_S sw) M (fun v a s m => a = ad ∧ s = w_S sw ∧ ∃ x y : Int32, v = some (.double (fx_dd x y)) ∧ P x y m) PX) (hx : ∀ E m, PX E m → E = xAE) : CT l Z yL_meanCycles (.codeWith yL_meanCycles cL_meanCycles 3 (some .int) [(0, 7, 10, 42)]) 11 4 24 [.ref (ad 0), .ref (ad 65)] ad (w_S sw) M (fun v a s m => a = ad ∧ ∃ (k : Int32) (s1 : Bool), s = w_S s1 ∧ v = some (.int k) ∧ ((k = 0 ∧ s1 = sw ∧ ∃ x y m0, P x y m0 ∧ m = fx_u (fx_u m0 65 0 x) 65 1 y) ∨ (k = 1 ∧ s1 = sw ∧ PX xAE m))) (fun _ _ => False) := by
  refine CT_ofH (ret := some .int) (lv0 := [some (.ref (ad 0)), some (.ref (ad 65)), none]) (by decide +kernel) hl (by simp [Value.category]) (Nat.le_of_ble_eq_true rfl) rfl ?_
  intro X F Rt
  refine G_aload_n F dL_meanCycles_0 rfl ?_
  refine G_iconst (v := 0) F dL_meanCycles_1 rfl ?_
  refine G_aload_n F dL_meanCycles_2 rfl ?_
  refine G_callV F (k := 0) mv_L_77 dL_meanCycles_3 hM (As := []) rfl rfl rfl rfl (Nat.le_of_ble_eq_true rfl) ⟨by show d' + 8 + 1 ≤ 11 + 8; omega, by show 8 + (2 + 11) + (32 * d' + 160) ≤ 32 * 11 + 160; omega, Nat.le_of_ble_eq_true rfl, Nat.le_of_ble_eq_true rfl⟩ (fun E M1 hE => ?_) (fun v1 a1 S1 M1 h1 => ?_)
  · have e1 := hx E M1 hE
    subst e1
    refine GX_catch F Rt (name := "java/lang/ArithmeticException") [] ⟨0, 7, 10, 42⟩ [] rfl (fun z hz => absurd hz (by simp)) (by decide) (by decide) (fx_in 794 (by decide +kernel) rfl) (fx_inN 806 (by decide +kernel) rfl) (fun q => ?_)
    refine G_astore_n F 2 dL_meanCycles_10 rfl rfl rfl (Nat.le_of_ble_eq_true rfl) ?_
    refine G_iconst (v := 1) F dL_meanCycles_11 rfl ?_
    exact G_iret F Rt dL_meanCycles_12 rfl ⟨rfl, _, _, rfl, rfl, Or.inr (⟨rfl, rfl, hE⟩)⟩ (Nat.le_of_ble_eq_true rfl) (Nat.le_of_ble_eq_true rfl)
  obtain ⟨rfl, rfl, x, y, rfl, hp⟩ := h1
  refine G_dast F dL_meanCycles_6 (k := 65) rfl vp_in01 ?_
  refine G_goto (tgt := 13) F dL_meanCycles_7 (by decide) ?_
  refine G_iconst (v := 0) F dL_meanCycles_13 rfl ?_
  exact G_iret F Rt dL_meanCycles_14 rfl ⟨rfl, _, _, rfl, rfl, Or.inl ⟨rfl, rfl, x, y, M1, hp, rfl⟩⟩ (Nat.le_of_ble_eq_true rfl) (Nat.le_of_ble_eq_true rfl)
set_option maxRecDepth 20000 in
theorem w_feed {l : Launch} {Z : fx_Z} (hl : l.stackTraces = false) (ad : Nat → Nat) {sw sw' : Bool} {M : fx_M} (p0 : Int32) {d' : Nat} (hd : d' ≤ 10) {P : Int32 → fx_M → Prop} {PX : String → fx_M → Prop} (hM : CT l Z yX7_feed (.code yX7_feed cX7_feed 2 (some .int)) d' 4 24 [.ref (ad 0), .int p0] ad (w_S sw) M (fun v a s m => a = ad ∧ s = w_S sw' ∧ ∃ r : Int32, v = some (.int r) ∧ P r m) PX) (hx : ∀ E m, PX E m → E = xIS) : CT l Z yL_feed (.codeWith yL_feed cL_feed 4 (some .int) [(0, 9, 12, 85)]) 11 4 24 [.ref (ad 0), .int p0, .ref (ad 64)] ad (w_S sw) M (fun v a s m => a = ad ∧ ∃ (k : Int32) (s1 : Bool), s = w_S s1 ∧ v = some (.int k) ∧ ((k = 0 ∧ s1 = sw' ∧ ∃ r m0, P r m0 ∧ m = fx_u m0 64 0 r) ∨ (k = 1 ∧ s1 = sw ∧ PX xIS m))) (fun _ _ => False) := by
  refine CT_ofH (ret := some .int) (lv0 := [some (.ref (ad 0)), some (.int p0), some (.ref (ad 64)), none]) (by decide +kernel) hl (by simp [Value.category]) (Nat.le_of_ble_eq_true rfl) rfl ?_
  intro X F Rt
  refine G_aload_n F dL_feed_0 rfl ?_
  refine G_iconst (v := 0) F dL_feed_1 rfl ?_
  refine G_aload_n F dL_feed_2 rfl ?_
  refine G_iload_n F dL_feed_3 rfl ?_
  refine G_callV F (k := 0) mv_L_81 dL_feed_4 hM (As := [.int p0]) rfl rfl rfl rfl (Nat.le_of_ble_eq_true rfl) ⟨by show d' + 8 + 1 ≤ 11 + 8; omega, by show 8 + (2 + 11) + (32 * d' + 160) ≤ 32 * 11 + 160; omega, Nat.le_of_ble_eq_true rfl, Nat.le_of_ble_eq_true rfl⟩ (fun E M1 hE => ?_) (fun v1 a1 S1 M1 h1 => ?_)
  · have e1 := hx E M1 hE
    subst e1
    refine GX_catch F Rt (name := "java/lang/IllegalStateException") [] ⟨0, 9, 12, 85⟩ [] rfl (fun z hz => absurd hz (by simp)) (by decide) (by decide) (fx_in 1043 (by decide +kernel) rfl) (fx_inN 1054 (by decide +kernel) rfl) (fun q => ?_)
    refine G_astore_n F 3 dL_feed_12 rfl rfl rfl (Nat.le_of_ble_eq_true rfl) ?_
    refine G_iconst (v := 1) F dL_feed_13 rfl ?_
    exact G_iret F Rt dL_feed_14 rfl ⟨rfl, _, _, rfl, rfl, Or.inr (⟨rfl, rfl, hE⟩)⟩ (Nat.le_of_ble_eq_true rfl) (Nat.le_of_ble_eq_true rfl)
  obtain ⟨rfl, rfl, r, rfl, hp⟩ := h1
  refine G_i2l F dL_feed_7 ?_
  refine G_last F dL_feed_8 (k := 64) rfl vp_in01 ?_
  refine G_goto (tgt := 15) F dL_feed_9 (by decide) ?_
  refine G_iconst (v := 0) F dL_feed_15 rfl ?_
  exact G_iret F Rt dL_feed_16 rfl ⟨rfl, _, _, rfl, rfl, Or.inl ⟨rfl, rfl, r, M1, hp, rfl⟩⟩ (Nat.le_of_ble_eq_true rfl) (Nat.le_of_ble_eq_true rfl)
set_option maxRecDepth 20000 in
theorem w_read {l : Launch} {Z : fx_Z} (hl : l.stackTraces = false) (ad : Nat → Nat) {sw sw' : Bool} {M : fx_M} (p0 : Int32) {d' : Nat} (hd : d' ≤ 10) {P : Int32 → fx_M → Prop} {PX : String → fx_M → Prop} (hM : CT l Z yX7_read (.code yX7_read cX7_read 3 (some .int)) d' 4 24 [.ref (ad 0), .int p0] ad (w_S sw) M (fun v a s m => a = ad ∧ s = w_S sw' ∧ ∃ r : Int32, v = some (.int r) ∧ P r m) PX) (hx : ∀ E m, PX E m → E = xIO ∨ E = xIA) : CT l Z yL_read (.codeWith yL_read cL_read 4 (some .int) [(0, 9, 12, 19), (0, 9, 15, 13)]) 11 4 24 [.ref (ad 0), .int p0, .ref (ad 64)] ad (w_S sw) M (fun v a s m => a = ad ∧ ∃ (k : Int32) (s1 : Bool), s = w_S s1 ∧ v = some (.int k) ∧ ((k = 0 ∧ s1 = sw' ∧ ∃ r m0, P r m0 ∧ m = fx_u m0 64 0 r) ∨ (k = 1 ∧ s1 = sw ∧ PX xIO m) ∨ (k = 2 ∧ s1 = sw ∧ PX xIA m))) (fun _ _ => False) := by
  refine CT_ofH (ret := some .int) (lv0 := [some (.ref (ad 0)), some (.int p0), some (.ref (ad 64)), none]) (by decide +kernel) hl (by simp [Value.category]) (Nat.le_of_ble_eq_true rfl) rfl ?_
  intro X F Rt
  refine G_aload_n F dL_read_0 rfl ?_
  refine G_iconst (v := 0) F dL_read_1 rfl ?_
  refine G_aload_n F dL_read_2 rfl ?_
  refine G_iload_n F dL_read_3 rfl ?_
  refine G_callV F (k := 0) mv_L_87 dL_read_4 hM (As := [.int p0]) rfl rfl rfl rfl (Nat.le_of_ble_eq_true rfl) ⟨by show d' + 8 + 1 ≤ 11 + 8; omega, by show 8 + (3 + 11) + (32 * d' + 160) ≤ 32 * 11 + 160; omega, Nat.le_of_ble_eq_true rfl, Nat.le_of_ble_eq_true rfl⟩ (fun E M1 hE => ?_) (fun v1 a1 S1 M1 h1 => ?_)
  · rcases hx E M1 hE with rfl | rfl
    · refine GX_catch F Rt (name := "java/lang/IndexOutOfBoundsException") [] ⟨0, 9, 12, 19⟩ [⟨0, 9, 15, 13⟩] rfl (fun z hz => absurd hz (by simp)) (by decide) (by decide) (fx_in 664 (by decide +kernel) rfl) (fx_inN 699 (by decide +kernel) rfl) (fun q => ?_)
      refine G_astore_n F 3 dL_read_12 rfl rfl rfl (Nat.le_of_ble_eq_true rfl) ?_
      refine G_iconst (v := 1) F dL_read_13 rfl ?_
      exact G_iret F Rt dL_read_14 rfl ⟨rfl, _, _, rfl, rfl, Or.inr (Or.inl ⟨rfl, rfl, hE⟩)⟩ (Nat.le_of_ble_eq_true rfl) (Nat.le_of_ble_eq_true rfl)
    · refine GX_catch F Rt (name := "java/lang/IllegalArgumentException") [⟨0, 9, 12, 19⟩] ⟨0, 9, 15, 13⟩ [] rfl (fun z hz => by
          rw [List.mem_singleton.mp hz]
          exact Or.inr ⟨by decide, "java/lang/IndexOutOfBoundsException", fx_in 664 (by decide +kernel) rfl, by decide +kernel⟩) (by decide) (by decide) (fx_in 580 (by decide +kernel) rfl) (fx_inN 587 (by decide +kernel) rfl) (fun q => ?_)
      refine G_astore_n F 3 dL_read_15 rfl rfl rfl (Nat.le_of_ble_eq_true rfl) ?_
      refine G_iconst (v := 2) F dL_read_16 rfl ?_
      exact G_iret F Rt dL_read_17 rfl ⟨rfl, _, _, rfl, rfl, Or.inr (Or.inr (⟨rfl, rfl, hE⟩))⟩ (Nat.le_of_ble_eq_true rfl) (Nat.le_of_ble_eq_true rfl)
  obtain ⟨rfl, rfl, r, rfl, hp⟩ := h1
  refine G_i2l F dL_read_7 ?_
  refine G_last F dL_read_8 (k := 64) rfl vp_in01 ?_
  refine G_goto (tgt := 18) F dL_read_9 (by decide) ?_
  refine G_iconst (v := 0) F dL_read_18 rfl ?_
  exact G_iret F Rt dL_read_19 rfl ⟨rfl, _, _, rfl, rfl, Or.inl ⟨rfl, rfl, r, M1, hp, rfl⟩⟩ (Nat.le_of_ble_eq_true rfl) (Nat.le_of_ble_eq_true rfl)
set_option maxRecDepth 20000 in
theorem w_undo {l : Launch} {Z : fx_Z} (hl : l.stackTraces = false) (ad : Nat → Nat) {sw sw' : Bool} {M : fx_M} {d' : Nat} (hd : d' ≤ 10) {P : Int32 → fx_M → Prop} {PX : String → fx_M → Prop} (hM : CT l Z yX7_undo (.code yX7_undo cX7_undo 1 (some .int)) d' 4 24 [.ref (ad 0)] ad (w_S sw) M (fun v a s m => a = ad ∧ s = w_S sw' ∧ ∃ r : Int32, v = some (.int r) ∧ P r m) PX) (hx : ∀ E m, PX E m → E = xNS) : CT l Z yL_undo (.codeWith yL_undo cL_undo 3 (some .int) [(0, 8, 11, 94)]) 11 4 24 [.ref (ad 0), .ref (ad 64)] ad (w_S sw) M (fun v a s m => a = ad ∧ ∃ (k : Int32) (s1 : Bool), s = w_S s1 ∧ v = some (.int k) ∧ ((k = 0 ∧ s1 = sw' ∧ ∃ r m0, P r m0 ∧ m = fx_u m0 64 0 r) ∨ (k = 1 ∧ s1 = sw ∧ PX xNS m))) (fun _ _ => False) := by
  refine CT_ofH (ret := some .int) (lv0 := [some (.ref (ad 0)), some (.ref (ad 64)), none]) (by decide +kernel) hl (by simp [Value.category]) (Nat.le_of_ble_eq_true rfl) rfl ?_
  intro X F Rt
  refine G_aload_n F dL_undo_0 rfl ?_
  refine G_iconst (v := 0) F dL_undo_1 rfl ?_
  refine G_aload_n F dL_undo_2 rfl ?_
  refine G_callV F (k := 0) mv_L_90 dL_undo_3 hM (As := []) rfl rfl rfl rfl (Nat.le_of_ble_eq_true rfl) ⟨by show d' + 8 + 1 ≤ 11 + 8; omega, by show 8 + (1 + 11) + (32 * d' + 160) ≤ 32 * 11 + 160; omega, Nat.le_of_ble_eq_true rfl, Nat.le_of_ble_eq_true rfl⟩ (fun E M1 hE => ?_) (fun v1 a1 S1 M1 h1 => ?_)
  · have e1 := hx E M1 hE
    subst e1
    refine GX_catch F Rt (name := "java/util/NoSuchElementException") [] ⟨0, 8, 11, 94⟩ [] rfl (fun z hz => absurd hz (by simp)) (by decide) (by decide) (fx_in 1171 (by decide +kernel) rfl) (fx_inN 1182 (by decide +kernel) rfl) (fun q => ?_)
    refine G_astore_n F 2 dL_undo_11 rfl rfl rfl (Nat.le_of_ble_eq_true rfl) ?_
    refine G_iconst (v := 1) F dL_undo_12 rfl ?_
    exact G_iret F Rt dL_undo_13 rfl ⟨rfl, _, _, rfl, rfl, Or.inr (⟨rfl, rfl, hE⟩)⟩ (Nat.le_of_ble_eq_true rfl) (Nat.le_of_ble_eq_true rfl)
  obtain ⟨rfl, rfl, r, rfl, hp⟩ := h1
  refine G_i2l F dL_undo_6 ?_
  refine G_last F dL_undo_7 (k := 64) rfl vp_in01 ?_
  refine G_goto (tgt := 14) F dL_undo_8 (by decide) ?_
  refine G_iconst (v := 0) F dL_undo_14 rfl ?_
  exact G_iret F Rt dL_undo_15 rfl ⟨rfl, _, _, rfl, rfl, Or.inl ⟨rfl, rfl, r, M1, hp, rfl⟩⟩ (Nat.le_of_ble_eq_true rfl) (Nat.le_of_ble_eq_true rfl)
