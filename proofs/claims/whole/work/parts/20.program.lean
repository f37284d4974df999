/-! PROGRAM: reads -/
set_option maxRecDepth 20000 in
theorem s_has {l : Launch} {Z : fx_Z} (hl : l.stackTraces = false) (ad : Nat → Nat) (sw : Bool) (tl : List fx_Sh) (M : fx_M) (b : Int32)  : CI l Z yX6_has (.code yX6_has cX6_has 2 (some .boolean)) 0 [.ref (ad 1), .int b] ad (c_C sw ++ tl) M (fun r m => r = (if 0 ≤ b ∧ b < M 1 8 then 1 else 0) ∧ m = M) := by
  refine CT_of (ret := (some .boolean)) (lv0 := [some (.ref (ad 1)), some (.int b)]) (by decide +kernel) hl (by simp [Value.category]) (Nat.le_of_ble_eq_true rfl) rfl ?_
  intro X F Rt _
  refine G_iload_n F dX6_has_0 rfl ?_
  refine G_if_lt (tgt := 16) F dX6_has_1 (by decide) (fun h1 => ?_) (fun h1 => ?_)
  · refine G_iconst (v := 0) F dX6_has_16 rfl ?_
    refine G_iret F Rt dX6_has_17 (rfl) ⟨rfl, rfl, _, rfl, ?_⟩ (Nat.le_refl _) (Nat.le_refl _)
    clear F Rt
    refine ⟨?_, rfl⟩
    split <;> first | rfl | (exfalso; simp only [Int32.lt_iff_toInt_lt, Int32.le_iff_toInt_le, i0] at *; omega)
  · refine G_iload_n F dX6_has_4 rfl ?_
    refine G_aload_n F dX6_has_5 rfl ?_
    refine G_geti F fl_X6_36 dX6_has_6 rfl rfl ?_
    refine G_icmp_ge (tgt := 16) F dX6_has_9 (by decide) (fun h9 => ?_) (fun h9 => ?_)
    · refine G_iconst (v := 0) F dX6_has_16 rfl ?_
      refine G_iret F Rt dX6_has_17 (rfl) ⟨rfl, rfl, _, rfl, ?_⟩ (Nat.le_refl _) (Nat.le_refl _)
      clear F Rt
      refine ⟨?_, rfl⟩
      split <;> first | rfl | (exfalso; simp only [Int32.lt_iff_toInt_lt, Int32.le_iff_toInt_le, i0] at *; omega)
    · refine G_iconst (v := 1) F dX6_has_12 rfl ?_
      refine G_goto (tgt := 17) F dX6_has_13 (by decide) ?_
      refine G_iret F Rt dX6_has_17 (rfl) ⟨rfl, rfl, _, rfl, ?_⟩ (Nat.le_refl _) (Nat.le_refl _)
      clear F Rt
      refine ⟨?_, rfl⟩
      split <;> first | rfl | (exfalso; simp only [Int32.lt_iff_toInt_lt, Int32.le_iff_toInt_le, i0] at *; omega)
theorem s_hasN {l : Launch} {Z : fx_Z} (hl : l.stackTraces = false) (ad : Nat → Nat) (sw : Bool) (tl : List fx_Sh) (M : fx_M) {N b : Nat} (hN : M 1 8 = nI N) (hN16 : N ≤ 16) (hb : b < 2 ^ 31) : CI l Z yX6_has (.code yX6_has cX6_has 2 (some .boolean)) 0 [.ref (ad 1), .int (nI b)] ad (c_C sw ++ tl) M (fun r m => r = (if b < N then 1 else 0) ∧ m = M) :=
  (s_has hl ad sw tl M (nI b)).mono (fun r m h => ⟨by
    rw [h.1, hN]
    have h1 : (0 ≤ nI b ∧ nI b < nI N) ↔ b < N := ⟨fun q => (nI_ltI hb (by omega)).mp q.2, fun q => ⟨nI_pos' hb, (nI_ltI hb (by omega)).mpr q⟩⟩
    by_cases hc : b < N
    · rw [if_pos hc, if_pos (h1.mpr hc)]
    · rw [if_neg hc, if_neg (fun q => hc (h1.mp q))], h.2⟩)
theorem s_hasM1 {l : Launch} {Z : fx_Z} (hl : l.stackTraces = false) (ad : Nat → Nat) (sw : Bool) (tl : List fx_Sh) (M : fx_M) : CI l Z yX6_has (.code yX6_has cX6_has 2 (some .boolean)) 0 [.ref (ad 1), .int (-1)] ad (c_C sw ++ tl) M (fun r m => r = 0 ∧ m = M) :=
  (s_has hl ad sw tl M (-1)).mono (fun r m h => ⟨by rw [h.1, if_neg (fun q => absurd q.1 (by decide))], h.2⟩)
set_option maxRecDepth 20000 in
theorem s_holds {l : Launch} {Z : fx_Z} (hl : l.stackTraces = false) (ad : Nat → Nat) (S : List fx_Sh) (M : fx_M) {b : Nat} (s : Int32) (hb : b < 32) : CI l Z yX6_holds (.code yX6_holds cX6_holds 2 (some .boolean)) 0 [.int s, .int (nI b)] ad S M (fun r m => r = (if bt s b then 1 else 0) ∧ m = M) := by
  refine CT_of (ret := (some .boolean)) (lv0 := [some (.int s), some (.int (nI b))]) (by decide +kernel) hl (by simp [Value.category]) (Nat.le_of_ble_eq_true rfl) rfl ?_
  intro X F Rt _
  refine G_iload_n F dX6_holds_0 rfl ?_
  refine G_iload_n F dX6_holds_1 rfl ?_
  refine G_ishr F dX6_holds_2 ?_
  rw [nI_sh hb]
  refine G_iconst (v := 1) F dX6_holds_3 rfl ?_
  refine G_iand F dX6_holds_4 ?_
  refine G_iconst (v := 1) F dX6_holds_5 rfl ?_
  refine G_icmp_ne (tgt := 13) F dX6_holds_6 (by decide) (fun h6 => ?_) (fun h6 => ?_)
  · refine G_iconst (v := 0) F dX6_holds_13 rfl ?_
    refine G_iret F Rt dX6_holds_14 (rfl) ⟨rfl, rfl, _, rfl, ?_⟩ (Nat.le_refl _) (Nat.le_refl _)
    clear F Rt
    refine ⟨?_, rfl⟩
    simp_all [bt]
  · refine G_iconst (v := 1) F dX6_holds_9 rfl ?_
    refine G_goto (tgt := 14) F dX6_holds_10 (by decide) ?_
    refine G_iret F Rt dX6_holds_14 (rfl) ⟨rfl, rfl, _, rfl, ?_⟩ (Nat.le_refl _) (Nat.le_refl _)
    clear F Rt
    refine ⟨?_, rfl⟩
    simp_all [bt]
set_option maxRecDepth 20000 in
theorem s_isHead {l : Launch} {Z : fx_Z} (hl : l.stackTraces = false) (ad : Nat → Nat) (sw : Bool) (tl : List fx_Sh) (M : fx_M) {b : Nat} (hb : b < 16) : CI l Z yX6_isHead (.code yX6_isHead cX6_isHead 2 (some .boolean)) 1 [.ref (ad 1), .int (nI b)] ad (c_C sw ++ tl) M (fun r m => r = (if bt (M 1 9) b then 1 else 0) ∧ m = M) := by
  refine CT_of (ret := (some .boolean)) (lv0 := [some (.ref (ad 1)), some (.int (nI b))]) (by decide +kernel) hl (by simp [Value.category]) (Nat.le_of_ble_eq_true rfl) rfl ?_
  intro X F Rt _
  refine G_aload_n F dX6_isHead_0 rfl ?_
  refine G_geti F fl_X6_43 dX6_isHead_1 rfl rfl ?_
  refine G_iload_n F dX6_isHead_4 rfl ?_
  refine G_sI F ms_X6_53 dX6_isHead_5 (s_holds hl ad _ M _ (b := b) (by omega)) rfl rfl (Nat.le_of_ble_eq_true rfl) ⟨Nat.le_of_ble_eq_true rfl, Nat.le_of_ble_eq_true rfl, Nat.le_of_ble_eq_true rfl, Nat.le_of_ble_eq_true rfl⟩ (fun r5 M5 h5 => ?_)
  rw [h5.1, h5.2]
  refine G_iret F Rt dX6_isHead_8 (by split <;> rfl) ⟨rfl, rfl, _, rfl, ?_⟩ (Nat.le_refl _) (Nat.le_refl _)
  exact ⟨rfl, rfl⟩
/-- the blocks to which a block goes, as bits -/
def pf_tg (f s : Nat → Int32) (b : Nat) : Int32 := (if f b = -1 then (0 : Int32) else (1 : Int32) <<< (f b &&& 31)) ||| (if s b = -1 then (0 : Int32) else (1 : Int32) <<< (s b &&& 31))
set_option maxRecDepth 20000 in
theorem s_targetsOf {l : Launch} {Z : fx_Z} (hl : l.stackTraces = false) (ad : Nat → Nat) (sw : Bool) (tl : List fx_Sh) (M : fx_M) {b : Nat} (hb : b < 16) : CI l Z yX6_targetsOf (.code yX6_targetsOf cX6_targetsOf 3 (some .int)) 0 [.ref (ad 1), .int (nI b)] ad (c_C sw ++ tl) M (fun r m => r = pf_tg (M 4) (M 5) b ∧ m = M) := by
  refine CT_of (ret := (some .int)) (lv0 := [some (.ref (ad 1)), some (.int (nI b)), none]) (by decide +kernel) hl (by simp [Value.category]) (Nat.le_of_ble_eq_true rfl) rfl ?_
  intro X F Rt _
  refine G_iconst (v := 0) F dX6_targetsOf_0 rfl ?_
  refine G_istore_n F 2 dX6_targetsOf_1 rfl rfl rfl (Nat.le_of_ble_eq_true rfl) ?_
  simp only [List.set_cons_zero, List.set_cons_succ]
  refine G_aload_n F dX6_targetsOf_2 rfl ?_
  refine G_getr F fl_X6_18 dX6_targetsOf_3 rfl rfl ?_
  refine G_iload_n F dX6_targetsOf_6 rfl ?_
  refine G_ialdN F dX6_targetsOf_7 rfl (by omega) (by decide) ?_
  refine G_iconst (v := -1) F dX6_targetsOf_8 rfl ?_
  refine G_icmp_eq (tgt := 23) F dX6_targetsOf_9 (by decide) (fun h9 => ?_) (fun h9 => ?_)
  · refine G_aload_n F dX6_targetsOf_23 rfl ?_
    refine G_getr F fl_X6_21 dX6_targetsOf_24 rfl rfl ?_
    refine G_iload_n F dX6_targetsOf_27 rfl ?_
    refine G_ialdN F dX6_targetsOf_28 rfl (by omega) (by decide) ?_
    refine G_iconst (v := -1) F dX6_targetsOf_29 rfl ?_
    refine G_icmp_eq (tgt := 44) F dX6_targetsOf_30 (by decide) (fun h30 => ?_) (fun h30 => ?_)
    · refine G_iload_n F dX6_targetsOf_44 rfl ?_
      refine G_iret F Rt dX6_targetsOf_45 (rfl) ⟨rfl, rfl, _, rfl, ?_⟩ (Nat.le_refl _) (Nat.le_refl _)
      clear F Rt
      refine ⟨?_, rfl⟩
      simp_all [pf_tg]
    · refine G_iload_n F dX6_targetsOf_33 rfl ?_
      refine G_iconst (v := 1) F dX6_targetsOf_34 rfl ?_
      refine G_aload_n F dX6_targetsOf_35 rfl ?_
      refine G_getr F fl_X6_21 dX6_targetsOf_36 rfl rfl ?_
      refine G_iload_n F dX6_targetsOf_39 rfl ?_
      refine G_ialdN F dX6_targetsOf_40 rfl (by omega) (by decide) ?_
      refine G_ishl F dX6_targetsOf_41 ?_
      refine G_ior F dX6_targetsOf_42 ?_
      refine G_istore_n F 2 dX6_targetsOf_43 rfl rfl rfl (Nat.le_of_ble_eq_true rfl) ?_
      simp only [List.set_cons_zero, List.set_cons_succ]
      refine G_iload_n F dX6_targetsOf_44 rfl ?_
      refine G_iret F Rt dX6_targetsOf_45 (rfl) ⟨rfl, rfl, _, rfl, ?_⟩ (Nat.le_refl _) (Nat.le_refl _)
      clear F Rt
      refine ⟨?_, rfl⟩
      simp_all [pf_tg]
  · refine G_iload_n F dX6_targetsOf_12 rfl ?_
    refine G_iconst (v := 1) F dX6_targetsOf_13 rfl ?_
    refine G_aload_n F dX6_targetsOf_14 rfl ?_
    refine G_getr F fl_X6_18 dX6_targetsOf_15 rfl rfl ?_
    refine G_iload_n F dX6_targetsOf_18 rfl ?_
    refine G_ialdN F dX6_targetsOf_19 rfl (by omega) (by decide) ?_
    refine G_ishl F dX6_targetsOf_20 ?_
    refine G_ior F dX6_targetsOf_21 ?_
    refine G_istore_n F 2 dX6_targetsOf_22 rfl rfl rfl (Nat.le_of_ble_eq_true rfl) ?_
    simp only [List.set_cons_zero, List.set_cons_succ]
    refine G_aload_n F dX6_targetsOf_23 rfl ?_
    refine G_getr F fl_X6_21 dX6_targetsOf_24 rfl rfl ?_
    refine G_iload_n F dX6_targetsOf_27 rfl ?_
    refine G_ialdN F dX6_targetsOf_28 rfl (by omega) (by decide) ?_
    refine G_iconst (v := -1) F dX6_targetsOf_29 rfl ?_
    refine G_icmp_eq (tgt := 44) F dX6_targetsOf_30 (by decide) (fun h30 => ?_) (fun h30 => ?_)
    · refine G_iload_n F dX6_targetsOf_44 rfl ?_
      refine G_iret F Rt dX6_targetsOf_45 (rfl) ⟨rfl, rfl, _, rfl, ?_⟩ (Nat.le_refl _) (Nat.le_refl _)
      clear F Rt
      refine ⟨?_, rfl⟩
      simp_all [pf_tg]
    · refine G_iload_n F dX6_targetsOf_33 rfl ?_
      refine G_iconst (v := 1) F dX6_targetsOf_34 rfl ?_
      refine G_aload_n F dX6_targetsOf_35 rfl ?_
      refine G_getr F fl_X6_21 dX6_targetsOf_36 rfl rfl ?_
      refine G_iload_n F dX6_targetsOf_39 rfl ?_
      refine G_ialdN F dX6_targetsOf_40 rfl (by omega) (by decide) ?_
      refine G_ishl F dX6_targetsOf_41 ?_
      refine G_ior F dX6_targetsOf_42 ?_
      refine G_istore_n F 2 dX6_targetsOf_43 rfl rfl rfl (Nat.le_of_ble_eq_true rfl) ?_
      simp only [List.set_cons_zero, List.set_cons_succ]
      refine G_iload_n F dX6_targetsOf_44 rfl ?_
      refine G_iret F Rt dX6_targetsOf_45 (rfl) ⟨rfl, rfl, _, rfl, ?_⟩ (Nat.le_refl _) (Nat.le_refl _)
      clear F Rt
      refine ⟨?_, rfl⟩
      simp_all [pf_tg]
/-- the cycles of an edge -/
def pf_ed (kd : Nat → Int32) (b : Nat) (t x : Int32) : Int32 := if kd b = 0 then (if t = x then 0 else 2) else if t = x then 1 else 3
/-- the cost of a block, as the class has it -/
def pf_cc (kd f s w1 w2 : Nat → Int32) (b : Nat) (x : Int32) : Int32 := w1 b * pf_ed kd b (f b) x + w2 b * pf_ed kd b (s b) x
/-- the weight of the edge to a block -/
def pf_wt (f s w1 w2 : Nat → Int32) (b : Nat) (t : Int32) : Int32 := if t = -1 then 0 else if f b = t then w1 b else if s b = t then w2 b else 0
set_option maxRecDepth 20000 in
theorem s_edgeCycles {l : Launch} {Z : fx_Z} (hl : l.stackTraces = false) (ad : Nat → Nat) (sw : Bool) (tl : List fx_Sh) (M : fx_M) {b : Nat} (t x : Int32) (hb : b < 16) : CI l Z yX6_edgeCycles (.code yX6_edgeCycles cX6_edgeCycles 5 (some .int)) 0 [.ref (ad 1), .int (nI b), .int t, .int x] ad (c_C sw ++ tl) M (fun r m => r = pf_ed (M 3) b t x ∧ m = M) := by
  refine CT_of (ret := (some .int)) (lv0 := [some (.ref (ad 1)), some (.int (nI b)), some (.int t), some (.int x), none]) (by decide +kernel) hl (by simp [Value.category]) (Nat.le_of_ble_eq_true rfl) rfl ?_
  intro X F Rt _
  refine G_iload_n F dX6_edgeCycles_0 rfl ?_
  refine G_iload_n F dX6_edgeCycles_1 rfl ?_
  refine G_icmp_ne (tgt := 9) F dX6_edgeCycles_2 (by decide) (fun h2 => ?_) (fun h2 => ?_)
  · refine G_iconst (v := 0) F dX6_edgeCycles_9 rfl ?_
    refine G_istore F dX6_edgeCycles_10 rfl rfl (Nat.le_of_ble_eq_true rfl) ?_
    simp only [List.set_cons_zero, List.set_cons_succ]
    refine G_aload_n F dX6_edgeCycles_12 rfl ?_
    refine G_getr F fl_X6_15 dX6_edgeCycles_13 rfl rfl ?_
    refine G_iload_n F dX6_edgeCycles_16 rfl ?_
    refine G_ialdN F dX6_edgeCycles_17 rfl (by omega) (by decide) ?_
    refine G_if_ne (tgt := 32) F dX6_edgeCycles_18 (by decide) (fun h18 => ?_) (fun h18 => ?_)
    · refine G_iload F dX6_edgeCycles_32 rfl ?_
      refine G_if_eq (tgt := 41) F dX6_edgeCycles_34 (by decide) (fun h34 => ?_) (fun h34 => ?_)
      · refine G_iconst (v := 3) F dX6_edgeCycles_41 rfl ?_
        refine G_iret F Rt dX6_edgeCycles_42 (rfl) ⟨rfl, rfl, _, rfl, ?_⟩ (Nat.le_refl _) (Nat.le_refl _)
        clear F Rt
        refine ⟨?_, rfl⟩
        simp_all [pf_ed]
      · refine G_iconst (v := 1) F dX6_edgeCycles_37 rfl ?_
        refine G_goto (tgt := 42) F dX6_edgeCycles_38 (by decide) ?_
        refine G_iret F Rt dX6_edgeCycles_42 (rfl) ⟨rfl, rfl, _, rfl, ?_⟩ (Nat.le_refl _) (Nat.le_refl _)
        clear F Rt
        refine ⟨?_, rfl⟩
        simp_all [pf_ed]
    · refine G_iload F dX6_edgeCycles_21 rfl ?_
      refine G_if_eq (tgt := 30) F dX6_edgeCycles_23 (by decide) (fun h23 => ?_) (fun h23 => ?_)
      · refine G_iconst (v := 2) F dX6_edgeCycles_30 rfl ?_
        refine G_iret F Rt dX6_edgeCycles_31 (rfl) ⟨rfl, rfl, _, rfl, ?_⟩ (Nat.le_refl _) (Nat.le_refl _)
        clear F Rt
        refine ⟨?_, rfl⟩
        simp_all [pf_ed]
      · refine G_iconst (v := 0) F dX6_edgeCycles_26 rfl ?_
        refine G_goto (tgt := 31) F dX6_edgeCycles_27 (by decide) ?_
        refine G_iret F Rt dX6_edgeCycles_31 (rfl) ⟨rfl, rfl, _, rfl, ?_⟩ (Nat.le_refl _) (Nat.le_refl _)
        clear F Rt
        refine ⟨?_, rfl⟩
        simp_all [pf_ed]
  · refine G_iconst (v := 1) F dX6_edgeCycles_5 rfl ?_
    refine G_goto (tgt := 10) F dX6_edgeCycles_6 (by decide) ?_
    refine G_istore F dX6_edgeCycles_10 rfl rfl (Nat.le_of_ble_eq_true rfl) ?_
    simp only [List.set_cons_zero, List.set_cons_succ]
    refine G_aload_n F dX6_edgeCycles_12 rfl ?_
    refine G_getr F fl_X6_15 dX6_edgeCycles_13 rfl rfl ?_
    refine G_iload_n F dX6_edgeCycles_16 rfl ?_
    refine G_ialdN F dX6_edgeCycles_17 rfl (by omega) (by decide) ?_
    refine G_if_ne (tgt := 32) F dX6_edgeCycles_18 (by decide) (fun h18 => ?_) (fun h18 => ?_)
    · refine G_iload F dX6_edgeCycles_32 rfl ?_
      refine G_if_eq (tgt := 41) F dX6_edgeCycles_34 (by decide) (fun h34 => ?_) (fun h34 => ?_)
      · refine G_iconst (v := 3) F dX6_edgeCycles_41 rfl ?_
        refine G_iret F Rt dX6_edgeCycles_42 (rfl) ⟨rfl, rfl, _, rfl, ?_⟩ (Nat.le_refl _) (Nat.le_refl _)
        clear F Rt
        refine ⟨?_, rfl⟩
        simp_all [pf_ed]
      · refine G_iconst (v := 1) F dX6_edgeCycles_37 rfl ?_
        refine G_goto (tgt := 42) F dX6_edgeCycles_38 (by decide) ?_
        refine G_iret F Rt dX6_edgeCycles_42 (rfl) ⟨rfl, rfl, _, rfl, ?_⟩ (Nat.le_refl _) (Nat.le_refl _)
        clear F Rt
        refine ⟨?_, rfl⟩
        simp_all [pf_ed]
    · refine G_iload F dX6_edgeCycles_21 rfl ?_
      refine G_if_eq (tgt := 30) F dX6_edgeCycles_23 (by decide) (fun h23 => ?_) (fun h23 => ?_)
      · refine G_iconst (v := 2) F dX6_edgeCycles_30 rfl ?_
        refine G_iret F Rt dX6_edgeCycles_31 (rfl) ⟨rfl, rfl, _, rfl, ?_⟩ (Nat.le_refl _) (Nat.le_refl _)
        clear F Rt
        refine ⟨?_, rfl⟩
        simp_all [pf_ed]
      · refine G_iconst (v := 0) F dX6_edgeCycles_26 rfl ?_
        refine G_goto (tgt := 31) F dX6_edgeCycles_27 (by decide) ?_
        refine G_iret F Rt dX6_edgeCycles_31 (rfl) ⟨rfl, rfl, _, rfl, ?_⟩ (Nat.le_refl _) (Nat.le_refl _)
        clear F Rt
        refine ⟨?_, rfl⟩
        simp_all [pf_ed]
set_option maxRecDepth 20000 in
theorem s_costOf {l : Launch} {Z : fx_Z} (hl : l.stackTraces = false) (ad : Nat → Nat) (sw : Bool) (tl : List fx_Sh) (M : fx_M) {b : Nat} (x : Int32) (hb : b < 16) : CI l Z yX6_costOf (.code yX6_costOf cX6_costOf 4 (some .int)) 1 [.ref (ad 1), .int (nI b), .int x] ad (c_C sw ++ tl) M (fun r m => r = pf_cc (M 3) (M 4) (M 5) (M 8) (M 9) b x ∧ m = M) := by
  refine CT_of (ret := (some .int)) (lv0 := [some (.ref (ad 1)), some (.int (nI b)), some (.int x), none]) (by decide +kernel) hl (by simp [Value.category]) (Nat.le_of_ble_eq_true rfl) rfl ?_
  intro X F Rt _
  refine G_aload_n F dX6_costOf_0 rfl ?_
  refine G_getr F fl_X6_30 dX6_costOf_1 rfl rfl ?_
  refine G_iload_n F dX6_costOf_4 rfl ?_
  refine G_ialdN F dX6_costOf_5 rfl (by omega) (by decide) ?_
  refine G_aload_n F dX6_costOf_6 rfl ?_
  refine G_iload_n F dX6_costOf_7 rfl ?_
  refine G_aload_n F dX6_costOf_8 rfl ?_
  refine G_getr F fl_X6_18 dX6_costOf_9 rfl rfl ?_
  refine G_iload_n F dX6_costOf_12 rfl ?_
  refine G_ialdN F dX6_costOf_13 rfl (by omega) (by decide) ?_
  refine G_iload_n F dX6_costOf_14 rfl ?_
  refine G_vI F mv_X6_49 dX6_costOf_15 (s_edgeCycles hl ad sw tl M _ x hb) rfl rfl rfl rfl (Nat.le_of_ble_eq_true rfl) ⟨Nat.le_of_ble_eq_true rfl, Nat.le_of_ble_eq_true rfl, Nat.le_of_ble_eq_true rfl, Nat.le_of_ble_eq_true rfl⟩ (fun r15 M15 h15 => ?_)
  rw [h15.1, h15.2]
  refine G_imul F dX6_costOf_18 ?_
  refine G_istore_n F 3 dX6_costOf_19 rfl rfl rfl (Nat.le_of_ble_eq_true rfl) ?_
  simp only [List.set_cons_zero, List.set_cons_succ]
  refine G_iload_n F dX6_costOf_20 rfl ?_
  refine G_aload_n F dX6_costOf_21 rfl ?_
  refine G_getr F fl_X6_33 dX6_costOf_22 rfl rfl ?_
  refine G_iload_n F dX6_costOf_25 rfl ?_
  refine G_ialdN F dX6_costOf_26 rfl (by omega) (by decide) ?_
  refine G_aload_n F dX6_costOf_27 rfl ?_
  refine G_iload_n F dX6_costOf_28 rfl ?_
  refine G_aload_n F dX6_costOf_29 rfl ?_
  refine G_getr F fl_X6_21 dX6_costOf_30 rfl rfl ?_
  refine G_iload_n F dX6_costOf_33 rfl ?_
  refine G_ialdN F dX6_costOf_34 rfl (by omega) (by decide) ?_
  refine G_iload_n F dX6_costOf_35 rfl ?_
  refine G_vI F mv_X6_49 dX6_costOf_36 (s_edgeCycles hl ad sw tl M _ x hb) rfl rfl rfl rfl (Nat.le_of_ble_eq_true rfl) ⟨Nat.le_of_ble_eq_true rfl, Nat.le_of_ble_eq_true rfl, Nat.le_of_ble_eq_true rfl, Nat.le_of_ble_eq_true rfl⟩ (fun r36 M36 h36 => ?_)
  rw [h36.1, h36.2]
  refine G_imul F dX6_costOf_39 ?_
  refine G_iadd F dX6_costOf_40 ?_
  refine G_iret F Rt dX6_costOf_41 (rfl) ⟨rfl, rfl, _, rfl, ?_⟩ (Nat.le_refl _) (Nat.le_refl _)
  exact ⟨rfl, rfl⟩
set_option maxRecDepth 20000 in
theorem s_weightTo {l : Launch} {Z : fx_Z} (hl : l.stackTraces = false) (ad : Nat → Nat) (sw : Bool) (tl : List fx_Sh) (M : fx_M) {b : Nat} (t : Int32) (hb : b < 16) : CI l Z yX6_weightTo (.code yX6_weightTo cX6_weightTo 3 (some .int)) 0 [.ref (ad 1), .int (nI b), .int t] ad (c_C sw ++ tl) M (fun r m => r = pf_wt (M 4) (M 5) (M 8) (M 9) b t ∧ m = M) := by
  refine CT_of (ret := (some .int)) (lv0 := [some (.ref (ad 1)), some (.int (nI b)), some (.int t)]) (by decide +kernel) hl (by simp [Value.category]) (Nat.le_of_ble_eq_true rfl) rfl ?_
  intro X F Rt _
  refine G_iload_n F dX6_weightTo_0 rfl ?_
  refine G_iconst (v := -1) F dX6_weightTo_1 rfl ?_
  refine G_icmp_ne (tgt := 7) F dX6_weightTo_2 (by decide) (fun h2 => ?_) (fun h2 => ?_)
  · refine G_aload_n F dX6_weightTo_7 rfl ?_
    refine G_getr F fl_X6_18 dX6_weightTo_8 rfl rfl ?_
    refine G_iload_n F dX6_weightTo_11 rfl ?_
    refine G_ialdN F dX6_weightTo_12 rfl (by omega) (by decide) ?_
    refine G_iload_n F dX6_weightTo_13 rfl ?_
    refine G_icmp_ne (tgt := 24) F dX6_weightTo_14 (by decide) (fun h14 => ?_) (fun h14 => ?_)
    · refine G_aload_n F dX6_weightTo_24 rfl ?_
      refine G_getr F fl_X6_21 dX6_weightTo_25 rfl rfl ?_
      refine G_iload_n F dX6_weightTo_28 rfl ?_
      refine G_ialdN F dX6_weightTo_29 rfl (by omega) (by decide) ?_
      refine G_iload_n F dX6_weightTo_30 rfl ?_
      refine G_icmp_ne (tgt := 43) F dX6_weightTo_31 (by decide) (fun h31 => ?_) (fun h31 => ?_)
      · refine G_iconst (v := 0) F dX6_weightTo_43 rfl ?_
        refine G_iret F Rt dX6_weightTo_44 (rfl) ⟨rfl, rfl, _, rfl, ?_⟩ (Nat.le_refl _) (Nat.le_refl _)
        clear F Rt
        refine ⟨?_, rfl⟩
        simp_all [pf_wt]
      · refine G_aload_n F dX6_weightTo_34 rfl ?_
        refine G_getr F fl_X6_33 dX6_weightTo_35 rfl rfl ?_
        refine G_iload_n F dX6_weightTo_38 rfl ?_
        refine G_ialdN F dX6_weightTo_39 rfl (by omega) (by decide) ?_
        refine G_goto (tgt := 44) F dX6_weightTo_40 (by decide) ?_
        refine G_iret F Rt dX6_weightTo_44 (rfl) ⟨rfl, rfl, _, rfl, ?_⟩ (Nat.le_refl _) (Nat.le_refl _)
        clear F Rt
        refine ⟨?_, rfl⟩
        simp_all [pf_wt]
    · refine G_aload_n F dX6_weightTo_17 rfl ?_
      refine G_getr F fl_X6_30 dX6_weightTo_18 rfl rfl ?_
      refine G_iload_n F dX6_weightTo_21 rfl ?_
      refine G_ialdN F dX6_weightTo_22 rfl (by omega) (by decide) ?_
      refine G_iret F Rt dX6_weightTo_23 (rfl) ⟨rfl, rfl, _, rfl, ?_⟩ (Nat.le_refl _) (Nat.le_refl _)
      clear F Rt
      refine ⟨?_, rfl⟩
      simp_all [pf_wt]
  · refine G_iconst (v := 0) F dX6_weightTo_5 rfl ?_
    refine G_iret F Rt dX6_weightTo_6 (rfl) ⟨rfl, rfl, _, rfl, ?_⟩ (Nat.le_refl _) (Nat.le_refl _)
    clear F Rt
    refine ⟨?_, rfl⟩
    simp_all [pf_wt]
