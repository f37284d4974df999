/-! PLACEMENT: reads -/
/-- the form of an end -/
def pf_form (kd f s : Nat → Int32) (b : Nat) (x : Int32) : Int32 := if kd b = 2 then 5 else if kd b = 0 then (if f b = x then 0 else 1) else if s b = x then 2 else if f b = x then 3 else 4
/-- the lowest multiple that is not below -/
def lift (v s : Nat) : Nat := (v + s - 1) / s * s
/-- a step of alignment -/
def isAl (s : Nat) : Prop := s = 1 ∨ s = 2 ∨ s = 4 ∨ s = 8 ∨ s = 16 ∨ s = 32 ∨ s = 64
theorem mf_lift {v s : Nat} (hv : v < 4096) (hs : isAl s) : (nI v + nI s - 1) &&& -(nI s) = nI (lift v s) := by
  have h : ∀ s ∈ [1, 2, 4, 8, 16, 32, 64], ∀ q, q < 64 → ∀ r, r < 64 → (nI (64 * q + r) + nI s - 1) &&& -(nI s) = nI (lift (64 * q + r) s) := by decide +kernel
  have h1 := h s (by rcases hs with h | h | h | h | h | h | h <;> subst h <;> decide) (v / 64) (by omega) (v % 64) (by omega)
  rw [Nat.div_add_mod] at h1
  exact h1
theorem lift_le {v s : Nat} (hs : isAl s) : v ≤ lift v s ∧ lift v s < v + s := by
  unfold lift
  rcases hs with h | h | h | h | h | h | h <;> subst h <;> omega
set_option maxRecDepth 20000 in
theorem s_formOf {l : Launch} {Z : fx_Z} (hl : l.stackTraces = false) (ad : Nat → Nat) (sw : Bool) (tl : List fx_Sh) (M : fx_M) {b : Nat} (x : Int32) (hb : b < 16) : CI l Z yX4_formOf (.code yX4_formOf cX4_formOf 4 (some .int)) 0 [.ref (ad 12), .int (nI b), .int x] ad (c_C sw ++ tl) M (fun r m => r = pf_form (M 3) (M 4) (M 5) b x ∧ m = M) := by
  refine CT_of (ret := (some .int)) (lv0 := [some (.ref (ad 12)), some (.int (nI b)), some (.int x), none]) (by decide +kernel) hl (by simp [Value.category]) (Nat.le_of_ble_eq_true rfl) rfl ?_
  intro X F Rt _
  refine G_aload_n F dX4_formOf_0 rfl ?_
  refine G_getr F fl_X4_33 dX4_formOf_1 rfl rfl ?_
  refine G_getr F fl_X4_77 dX4_formOf_4 rfl rfl ?_
  refine G_iload_n F dX4_formOf_7 rfl ?_
  refine G_ialdN F dX4_formOf_8 rfl (by omega) (by decide) ?_
  refine G_istore_n F 3 dX4_formOf_9 rfl rfl rfl (Nat.le_of_ble_eq_true rfl) ?_
  simp only [List.set_cons_zero, List.set_cons_succ]
  refine G_iload_n F dX4_formOf_10 rfl ?_
  refine G_iconst (v := 2) F dX4_formOf_11 rfl ?_
  refine G_icmp_ne (tgt := 17) F dX4_formOf_12 (by decide) (fun h12 => ?_) (fun h12 => ?_)
  · refine G_iload_n F dX4_formOf_17 rfl ?_
    refine G_if_ne (tgt := 40) F dX4_formOf_18 (by decide) (fun h18 => ?_) (fun h18 => ?_)
    · refine G_aload_n F dX4_formOf_40 rfl ?_
      refine G_getr F fl_X4_33 dX4_formOf_41 rfl rfl ?_
      refine G_getr F fl_X4_83 dX4_formOf_44 rfl rfl ?_
      refine G_iload_n F dX4_formOf_47 rfl ?_
      refine G_ialdN F dX4_formOf_48 rfl (by omega) (by decide) ?_
      refine G_iload_n F dX4_formOf_49 rfl ?_
      refine G_icmp_ne (tgt := 55) F dX4_formOf_50 (by decide) (fun h50 => ?_) (fun h50 => ?_)
      · refine G_aload_n F dX4_formOf_55 rfl ?_
        refine G_getr F fl_X4_33 dX4_formOf_56 rfl rfl ?_
        refine G_getr F fl_X4_80 dX4_formOf_59 rfl rfl ?_
        refine G_iload_n F dX4_formOf_62 rfl ?_
        refine G_ialdN F dX4_formOf_63 rfl (by omega) (by decide) ?_
        refine G_iload_n F dX4_formOf_64 rfl ?_
        refine G_icmp_ne (tgt := 72) F dX4_formOf_65 (by decide) (fun h65 => ?_) (fun h65 => ?_)
        · refine G_iconst (v := 4) F dX4_formOf_72 rfl ?_
          refine G_iret F Rt dX4_formOf_73 (rfl) ⟨rfl, rfl, _, rfl, ?_⟩ (Nat.le_refl _) (Nat.le_refl _)
          clear F Rt
          refine ⟨?_, rfl⟩
          simp_all [pf_form]
        · refine G_iconst (v := 3) F dX4_formOf_68 rfl ?_
          refine G_goto (tgt := 73) F dX4_formOf_69 (by decide) ?_
          refine G_iret F Rt dX4_formOf_73 (rfl) ⟨rfl, rfl, _, rfl, ?_⟩ (Nat.le_refl _) (Nat.le_refl _)
          clear F Rt
          refine ⟨?_, rfl⟩
          simp_all [pf_form]
      · refine G_iconst (v := 2) F dX4_formOf_53 rfl ?_
        refine G_iret F Rt dX4_formOf_54 (rfl) ⟨rfl, rfl, _, rfl, ?_⟩ (Nat.le_refl _) (Nat.le_refl _)
        clear F Rt
        refine ⟨?_, rfl⟩
        simp_all [pf_form]
    · refine G_aload_n F dX4_formOf_21 rfl ?_
      refine G_getr F fl_X4_33 dX4_formOf_22 rfl rfl ?_
      refine G_getr F fl_X4_80 dX4_formOf_25 rfl rfl ?_
      refine G_iload_n F dX4_formOf_28 rfl ?_
      refine G_ialdN F dX4_formOf_29 rfl (by omega) (by decide) ?_
      refine G_iload_n F dX4_formOf_30 rfl ?_
      refine G_icmp_ne (tgt := 38) F dX4_formOf_31 (by decide) (fun h31 => ?_) (fun h31 => ?_)
      · refine G_iconst (v := 1) F dX4_formOf_38 rfl ?_
        refine G_iret F Rt dX4_formOf_39 (rfl) ⟨rfl, rfl, _, rfl, ?_⟩ (Nat.le_refl _) (Nat.le_refl _)
        clear F Rt
        refine ⟨?_, rfl⟩
        simp_all [pf_form]
      · refine G_iconst (v := 0) F dX4_formOf_34 rfl ?_
        refine G_goto (tgt := 39) F dX4_formOf_35 (by decide) ?_
        refine G_iret F Rt dX4_formOf_39 (rfl) ⟨rfl, rfl, _, rfl, ?_⟩ (Nat.le_refl _) (Nat.le_refl _)
        clear F Rt
        refine ⟨?_, rfl⟩
        simp_all [pf_form]
  · refine G_iconst (v := 5) F dX4_formOf_15 rfl ?_
    refine G_iret F Rt dX4_formOf_16 (rfl) ⟨rfl, rfl, _, rfl, ?_⟩ (Nat.le_refl _) (Nat.le_refl _)
    clear F Rt
    refine ⟨?_, rfl⟩
    simp_all [pf_form]
set_option maxRecDepth 20000 in
theorem s_hasBranch {l : Launch} {Z : fx_Z} (hl : l.stackTraces = false) (ad : Nat → Nat) (sw : Bool) (tl : List fx_Sh) (M : fx_M) {b : Nat} (hb : b < 16) : CI l Z yX4_hasBranch (.code yX4_hasBranch cX4_hasBranch 2 (some .boolean)) 0 [.ref (ad 12), .int (nI b)] ad (c_C sw ++ tl) M (fun r m => r = (if M 15 b = 2 ∨ M 15 b = 3 ∨ M 15 b = 4 then 1 else 0) ∧ m = M) := by
  refine CT_of (ret := (some .boolean)) (lv0 := [some (.ref (ad 12)), some (.int (nI b))]) (by decide +kernel) hl (by simp [Value.category]) (Nat.le_of_ble_eq_true rfl) rfl ?_
  intro X F Rt _
  refine G_aload_n F dX4_hasBranch_0 rfl ?_
  refine G_getr F fl_X4_18 dX4_hasBranch_1 rfl rfl ?_
  refine G_iload_n F dX4_hasBranch_4 rfl ?_
  refine G_ialdN F dX4_hasBranch_5 rfl (by omega) (by decide) ?_
  refine G_iconst (v := 2) F dX4_hasBranch_6 rfl ?_
  refine G_icmp_eq (tgt := 30) F dX4_hasBranch_7 (by decide) (fun h7 => ?_) (fun h7 => ?_)
  · refine G_iconst (v := 1) F dX4_hasBranch_30 rfl ?_
    refine G_goto (tgt := 35) F dX4_hasBranch_31 (by decide) ?_
    refine G_iret F Rt dX4_hasBranch_35 (rfl) ⟨rfl, rfl, _, rfl, ?_⟩ (Nat.le_refl _) (Nat.le_refl _)
    clear F Rt
    refine ⟨?_, rfl⟩
    simp_all
  · refine G_aload_n F dX4_hasBranch_10 rfl ?_
    refine G_getr F fl_X4_18 dX4_hasBranch_11 rfl rfl ?_
    refine G_iload_n F dX4_hasBranch_14 rfl ?_
    refine G_ialdN F dX4_hasBranch_15 rfl (by omega) (by decide) ?_
    refine G_iconst (v := 3) F dX4_hasBranch_16 rfl ?_
    refine G_icmp_eq (tgt := 30) F dX4_hasBranch_17 (by decide) (fun h17 => ?_) (fun h17 => ?_)
    · refine G_iconst (v := 1) F dX4_hasBranch_30 rfl ?_
      refine G_goto (tgt := 35) F dX4_hasBranch_31 (by decide) ?_
      refine G_iret F Rt dX4_hasBranch_35 (rfl) ⟨rfl, rfl, _, rfl, ?_⟩ (Nat.le_refl _) (Nat.le_refl _)
      clear F Rt
      refine ⟨?_, rfl⟩
      simp_all
    · refine G_aload_n F dX4_hasBranch_20 rfl ?_
      refine G_getr F fl_X4_18 dX4_hasBranch_21 rfl rfl ?_
      refine G_iload_n F dX4_hasBranch_24 rfl ?_
      refine G_ialdN F dX4_hasBranch_25 rfl (by omega) (by decide) ?_
      refine G_iconst (v := 4) F dX4_hasBranch_26 rfl ?_
      refine G_icmp_ne (tgt := 34) F dX4_hasBranch_27 (by decide) (fun h27 => ?_) (fun h27 => ?_)
      · refine G_iconst (v := 0) F dX4_hasBranch_34 rfl ?_
        refine G_iret F Rt dX4_hasBranch_35 (rfl) ⟨rfl, rfl, _, rfl, ?_⟩ (Nat.le_refl _) (Nat.le_refl _)
        clear F Rt
        refine ⟨?_, rfl⟩
        simp_all
      · refine G_iconst (v := 1) F dX4_hasBranch_30 rfl ?_
        refine G_goto (tgt := 35) F dX4_hasBranch_31 (by decide) ?_
        refine G_iret F Rt dX4_hasBranch_35 (rfl) ⟨rfl, rfl, _, rfl, ?_⟩ (Nat.le_refl _) (Nat.le_refl _)
        clear F Rt
        refine ⟨?_, rfl⟩
        simp_all
set_option maxRecDepth 20000 in
theorem s_hasJump {l : Launch} {Z : fx_Z} (hl : l.stackTraces = false) (ad : Nat → Nat) (sw : Bool) (tl : List fx_Sh) (M : fx_M) {b : Nat} (hb : b < 16) : CI l Z yX4_hasJump (.code yX4_hasJump cX4_hasJump 2 (some .boolean)) 0 [.ref (ad 12), .int (nI b)] ad (c_C sw ++ tl) M (fun r m => r = (if M 15 b = 1 ∨ M 15 b = 4 then 1 else 0) ∧ m = M) := by
  refine CT_of (ret := (some .boolean)) (lv0 := [some (.ref (ad 12)), some (.int (nI b))]) (by decide +kernel) hl (by simp [Value.category]) (Nat.le_of_ble_eq_true rfl) rfl ?_
  intro X F Rt _
  refine G_aload_n F dX4_hasJump_0 rfl ?_
  refine G_getr F fl_X4_18 dX4_hasJump_1 rfl rfl ?_
  refine G_iload_n F dX4_hasJump_4 rfl ?_
  refine G_ialdN F dX4_hasJump_5 rfl (by omega) (by decide) ?_
  refine G_iconst (v := 1) F dX4_hasJump_6 rfl ?_
  refine G_icmp_eq (tgt := 20) F dX4_hasJump_7 (by decide) (fun h7 => ?_) (fun h7 => ?_)
  · refine G_iconst (v := 1) F dX4_hasJump_20 rfl ?_
    refine G_goto (tgt := 25) F dX4_hasJump_21 (by decide) ?_
    refine G_iret F Rt dX4_hasJump_25 (rfl) ⟨rfl, rfl, _, rfl, ?_⟩ (Nat.le_refl _) (Nat.le_refl _)
    clear F Rt
    refine ⟨?_, rfl⟩
    simp_all
  · refine G_aload_n F dX4_hasJump_10 rfl ?_
    refine G_getr F fl_X4_18 dX4_hasJump_11 rfl rfl ?_
    refine G_iload_n F dX4_hasJump_14 rfl ?_
    refine G_ialdN F dX4_hasJump_15 rfl (by omega) (by decide) ?_
    refine G_iconst (v := 4) F dX4_hasJump_16 rfl ?_
    refine G_icmp_ne (tgt := 24) F dX4_hasJump_17 (by decide) (fun h17 => ?_) (fun h17 => ?_)
    · refine G_iconst (v := 0) F dX4_hasJump_24 rfl ?_
      refine G_iret F Rt dX4_hasJump_25 (rfl) ⟨rfl, rfl, _, rfl, ?_⟩ (Nat.le_refl _) (Nat.le_refl _)
      clear F Rt
      refine ⟨?_, rfl⟩
      simp_all
    · refine G_iconst (v := 1) F dX4_hasJump_20 rfl ?_
      refine G_goto (tgt := 25) F dX4_hasJump_21 (by decide) ?_
      refine G_iret F Rt dX4_hasJump_25 (rfl) ⟨rfl, rfl, _, rfl, ?_⟩ (Nat.le_refl _) (Nat.le_refl _)
      clear F Rt
      refine ⟨?_, rfl⟩
      simp_all
set_option maxRecDepth 20000 in
theorem s_bytesOfEnd {l : Launch} {Z : fx_Z} (hl : l.stackTraces = false) (ad : Nat → Nat) (sw : Bool) (tl : List fx_Sh) (M : fx_M) {b : Nat} (hb : b < 16) : CI l Z yX4_bytesOfEnd (.code yX4_bytesOfEnd cX4_bytesOfEnd 2 (some .int)) 0 [.ref (ad 12), .int (nI b)] ad (c_C sw ++ tl) M (fun r m => r = (if M 15 b = 5 then 1 else M 16 b + M 17 b) ∧ m = M) := by
  refine CT_of (ret := (some .int)) (lv0 := [some (.ref (ad 12)), some (.int (nI b))]) (by decide +kernel) hl (by simp [Value.category]) (Nat.le_of_ble_eq_true rfl) rfl ?_
  intro X F Rt _
  refine G_aload_n F dX4_bytesOfEnd_0 rfl ?_
  refine G_getr F fl_X4_18 dX4_bytesOfEnd_1 rfl rfl ?_
  refine G_iload_n F dX4_bytesOfEnd_4 rfl ?_
  refine G_ialdN F dX4_bytesOfEnd_5 rfl (by omega) (by decide) ?_
  refine G_iconst (v := 5) F dX4_bytesOfEnd_6 rfl ?_
  refine G_icmp_ne (tgt := 12) F dX4_bytesOfEnd_7 (by decide) (fun h7 => ?_) (fun h7 => ?_)
  · refine G_aload_n F dX4_bytesOfEnd_12 rfl ?_
    refine G_getr F fl_X4_21 dX4_bytesOfEnd_13 rfl rfl ?_
    refine G_iload_n F dX4_bytesOfEnd_16 rfl ?_
    refine G_ialdN F dX4_bytesOfEnd_17 rfl (by omega) (by decide) ?_
    refine G_aload_n F dX4_bytesOfEnd_18 rfl ?_
    refine G_getr F fl_X4_24 dX4_bytesOfEnd_19 rfl rfl ?_
    refine G_iload_n F dX4_bytesOfEnd_22 rfl ?_
    refine G_ialdN F dX4_bytesOfEnd_23 rfl (by omega) (by decide) ?_
    refine G_iadd F dX4_bytesOfEnd_24 ?_
    refine G_iret F Rt dX4_bytesOfEnd_25 (rfl) ⟨rfl, rfl, _, rfl, ?_⟩ (Nat.le_refl _) (Nat.le_refl _)
    clear F Rt
    refine ⟨?_, rfl⟩
    simp_all
  · refine G_iconst (v := 1) F dX4_bytesOfEnd_10 rfl ?_
    refine G_iret F Rt dX4_bytesOfEnd_11 (rfl) ⟨rfl, rfl, _, rfl, ?_⟩ (Nat.le_refl _) (Nat.le_refl _)
    clear F Rt
    refine ⟨?_, rfl⟩
    simp_all
set_option maxRecDepth 20000 in
theorem s_branchTarget {l : Launch} {Z : fx_Z} (hl : l.stackTraces = false) (ad : Nat → Nat) (sw : Bool) (tl : List fx_Sh) (M : fx_M) {b : Nat} (hb : b < 16) : CI l Z yX4_branchTarget (.code yX4_branchTarget cX4_branchTarget 2 (some .int)) 0 [.ref (ad 12), .int (nI b)] ad (c_C sw ++ tl) M (fun r m => r = (if M 15 b = 3 then M 5 b else M 4 b) ∧ m = M) := by
  refine CT_of (ret := (some .int)) (lv0 := [some (.ref (ad 12)), some (.int (nI b))]) (by decide +kernel) hl (by simp [Value.category]) (Nat.le_of_ble_eq_true rfl) rfl ?_
  intro X F Rt _
  refine G_aload_n F dX4_branchTarget_0 rfl ?_
  refine G_getr F fl_X4_18 dX4_branchTarget_1 rfl rfl ?_
  refine G_iload_n F dX4_branchTarget_4 rfl ?_
  refine G_ialdN F dX4_branchTarget_5 rfl (by omega) (by decide) ?_
  refine G_iconst (v := 3) F dX4_branchTarget_6 rfl ?_
  refine G_icmp_ne (tgt := 22) F dX4_branchTarget_7 (by decide) (fun h7 => ?_) (fun h7 => ?_)
  · refine G_aload_n F dX4_branchTarget_22 rfl ?_
    refine G_getr F fl_X4_33 dX4_branchTarget_23 rfl rfl ?_
    refine G_getr F fl_X4_80 dX4_branchTarget_26 rfl rfl ?_
    refine G_iload_n F dX4_branchTarget_29 rfl ?_
    refine G_ialdN F dX4_branchTarget_30 rfl (by omega) (by decide) ?_
    refine G_iret F Rt dX4_branchTarget_31 (rfl) ⟨rfl, rfl, _, rfl, ?_⟩ (Nat.le_refl _) (Nat.le_refl _)
    clear F Rt
    refine ⟨?_, rfl⟩
    simp_all
  · refine G_aload_n F dX4_branchTarget_10 rfl ?_
    refine G_getr F fl_X4_33 dX4_branchTarget_11 rfl rfl ?_
    refine G_getr F fl_X4_83 dX4_branchTarget_14 rfl rfl ?_
    refine G_iload_n F dX4_branchTarget_17 rfl ?_
    refine G_ialdN F dX4_branchTarget_18 rfl (by omega) (by decide) ?_
    refine G_goto (tgt := 31) F dX4_branchTarget_19 (by decide) ?_
    refine G_iret F Rt dX4_branchTarget_31 (rfl) ⟨rfl, rfl, _, rfl, ?_⟩ (Nat.le_refl _) (Nat.le_refl _)
    clear F Rt
    refine ⟨?_, rfl⟩
    simp_all
set_option maxRecDepth 20000 in
theorem s_jumpTarget {l : Launch} {Z : fx_Z} (hl : l.stackTraces = false) (ad : Nat → Nat) (sw : Bool) (tl : List fx_Sh) (M : fx_M) {b : Nat} (hb : b < 16) : CI l Z yX4_jumpTarget (.code yX4_jumpTarget cX4_jumpTarget 2 (some .int)) 0 [.ref (ad 12), .int (nI b)] ad (c_C sw ++ tl) M (fun r m => r = (if M 15 b = 1 then M 4 b else M 5 b) ∧ m = M) := by
  refine CT_of (ret := (some .int)) (lv0 := [some (.ref (ad 12)), some (.int (nI b))]) (by decide +kernel) hl (by simp [Value.category]) (Nat.le_of_ble_eq_true rfl) rfl ?_
  intro X F Rt _
  refine G_aload_n F dX4_jumpTarget_0 rfl ?_
  refine G_getr F fl_X4_18 dX4_jumpTarget_1 rfl rfl ?_
  refine G_iload_n F dX4_jumpTarget_4 rfl ?_
  refine G_ialdN F dX4_jumpTarget_5 rfl (by omega) (by decide) ?_
  refine G_iconst (v := 1) F dX4_jumpTarget_6 rfl ?_
  refine G_icmp_ne (tgt := 22) F dX4_jumpTarget_7 (by decide) (fun h7 => ?_) (fun h7 => ?_)
  · refine G_aload_n F dX4_jumpTarget_22 rfl ?_
    refine G_getr F fl_X4_33 dX4_jumpTarget_23 rfl rfl ?_
    refine G_getr F fl_X4_83 dX4_jumpTarget_26 rfl rfl ?_
    refine G_iload_n F dX4_jumpTarget_29 rfl ?_
    refine G_ialdN F dX4_jumpTarget_30 rfl (by omega) (by decide) ?_
    refine G_iret F Rt dX4_jumpTarget_31 (rfl) ⟨rfl, rfl, _, rfl, ?_⟩ (Nat.le_refl _) (Nat.le_refl _)
    clear F Rt
    refine ⟨?_, rfl⟩
    simp_all
  · refine G_aload_n F dX4_jumpTarget_10 rfl ?_
    refine G_getr F fl_X4_33 dX4_jumpTarget_11 rfl rfl ?_
    refine G_getr F fl_X4_80 dX4_jumpTarget_14 rfl rfl ?_
    refine G_iload_n F dX4_jumpTarget_17 rfl ?_
    refine G_ialdN F dX4_jumpTarget_18 rfl (by omega) (by decide) ?_
    refine G_goto (tgt := 31) F dX4_jumpTarget_19 (by decide) ?_
    refine G_iret F Rt dX4_jumpTarget_31 (rfl) ⟨rfl, rfl, _, rfl, ?_⟩ (Nat.le_refl _) (Nat.le_refl _)
    clear F Rt
    refine ⟨?_, rfl⟩
    simp_all
set_option maxRecDepth 20000 in
theorem s_multipleFrom {l : Launch} {Z : fx_Z} (hl : l.stackTraces = false) (ad : Nat → Nat) (S : List fx_Sh) (M : fx_M) {v s : Nat} (hv : v < 4096) (hs : isAl s) : CI l Z yX4_multipleFrom (.code yX4_multipleFrom cX4_multipleFrom 2 (some .int)) 0 [.int (nI v), .int (nI s)] ad S M (fun r m => r = nI (lift v s) ∧ m = M) := by
  refine CT_of (ret := (some .int)) (lv0 := [some (.int (nI v)), some (.int (nI s))]) (by decide +kernel) hl (by simp [Value.category]) (Nat.le_of_ble_eq_true rfl) rfl ?_
  intro X F Rt _
  refine G_iload_n F dX4_multipleFrom_0 rfl ?_
  refine G_iload_n F dX4_multipleFrom_1 rfl ?_
  refine G_iadd F dX4_multipleFrom_2 ?_
  refine G_iconst (v := 1) F dX4_multipleFrom_3 rfl ?_
  refine G_isub F dX4_multipleFrom_4 ?_
  refine G_iload_n F dX4_multipleFrom_5 rfl ?_
  refine G_ineg F dX4_multipleFrom_6 ?_
  refine G_iand F dX4_multipleFrom_7 ?_
  refine G_iret F Rt dX4_multipleFrom_8 (rfl) ⟨rfl, rfl, _, rfl, ?_⟩ (Nat.le_refl _) (Nat.le_refl _)
  exact ⟨mf_lift hv hs, rfl⟩
/-- too far for a short one -/
def far (t e : Nat) : Bool := decide ((t : Int) - e < -128 ∨ (t : Int) - e > 127)
theorem nI_subI {a b : Nat} (ha : a < 2 ^ 30) (hb : b < 2 ^ 30) : (nI a - nI b).toInt = (a : Int) - b := by
  rw [Int32.toInt_sub, nI_toInt (by omega), nI_toInt (by omega)]
  exact Int.bmod_eq_of_le (by omega) (by omega)
set_option maxRecDepth 20000 in
theorem s_isFar {l : Launch} {Z : fx_Z} (hl : l.stackTraces = false) (ad : Nat → Nat) (sw : Bool) (tl : List fx_Sh) (M : fx_M) {N t a e : Nat} (hN : M 1 8 = nI N) (hN16 : N ≤ 16) (ht : t < N) (ha : M 18 t = nI a) (ha4 : a < 2 ^ 30) (he : e < 2 ^ 30) : CI l Z yX4_isFar (.code yX4_isFar cX4_isFar 4 (some .boolean)) 1 [.ref (ad 12), .int (nI t), .int (nI e)] ad (c_C sw ++ tl) M (fun r m => r = (if far a e then 1 else 0) ∧ m = M) := by
  refine CT_of (ret := (some .boolean)) (lv0 := [some (.ref (ad 12)), some (.int (nI t)), some (.int (nI e)), none]) (by decide +kernel) hl (by simp [Value.category]) (Nat.le_of_ble_eq_true rfl) rfl ?_
  intro X F Rt _
  refine G_aload_n F dX4_isFar_0 rfl ?_
  refine G_getr F fl_X4_33 dX4_isFar_1 rfl rfl ?_
  refine G_iload_n F dX4_isFar_4 rfl ?_
  refine G_vI F mv_X4_118 dX4_isFar_5 (s_hasN hl ad sw tl M (N := N) (b := t) hN hN16 (by omega)) rfl rfl rfl rfl (Nat.le_of_ble_eq_true rfl) ⟨Nat.le_of_ble_eq_true rfl, Nat.le_of_ble_eq_true rfl, Nat.le_of_ble_eq_true rfl, Nat.le_of_ble_eq_true rfl⟩ (fun r5 M5 h5 => ?_)
  rw [h5.1, h5.2]
  refine G_if_ne (tgt := 13) F dX4_isFar_8 (by decide) (fun h8 => ?_) (fun h8 => ?_)
  · skip
    refine G_aload_n F dX4_isFar_13 rfl ?_
    refine G_getr F fl_X4_27 dX4_isFar_14 rfl rfl ?_
    refine G_iload_n F dX4_isFar_17 rfl ?_
    refine G_ialdN F dX4_isFar_18 rfl (by omega) (by decide) ?_
    rw [ha]
    refine G_iload_n F dX4_isFar_19 rfl ?_
    refine G_isub F dX4_isFar_20 ?_
    refine G_istore_n F 3 dX4_isFar_21 rfl rfl rfl (Nat.le_of_ble_eq_true rfl) ?_
    simp only [List.set_cons_zero, List.set_cons_succ]
    refine G_iload_n F dX4_isFar_22 rfl ?_
    refine G_bipush (v := -128) F dX4_isFar_23 rfl ?_
    skip
    refine G_icmp_lt (tgt := 34) F dX4_isFar_25 (by decide) (fun h25 => ?_) (fun h25 => ?_)
    · refine G_iconst (v := 1) F dX4_isFar_34 rfl ?_
      refine G_goto (tgt := 39) F dX4_isFar_35 (by decide) ?_
      refine G_iret F Rt dX4_isFar_39 (rfl) ⟨rfl, rfl, _, rfl, ?_⟩ (Nat.le_refl _) (Nat.le_refl _)
      clear F Rt
      refine ⟨?_, rfl⟩
      have hd := nI_subI ha4 he
      have e1 : (-128 : Int32).toInt = -128 := by decide
      have e2 : (127 : Int32).toInt = 127 := by decide
      simp only [Int32.lt_iff_toInt_lt, Int32.le_iff_toInt_le, hd, e1, e2] at *
      have hf : far a e = true := by simp [far]; omega
      rw [hf]; rfl
    · refine G_iload_n F dX4_isFar_28 rfl ?_
      refine G_bipush (v := 127) F dX4_isFar_29 rfl ?_
      refine G_icmp_le (tgt := 38) F dX4_isFar_31 (by decide) (fun h31 => ?_) (fun h31 => ?_)
      · refine G_iconst (v := 0) F dX4_isFar_38 rfl ?_
        refine G_iret F Rt dX4_isFar_39 (rfl) ⟨rfl, rfl, _, rfl, ?_⟩ (Nat.le_refl _) (Nat.le_refl _)
        clear F Rt
        refine ⟨?_, rfl⟩
        have hd := nI_subI ha4 he
        have e1 : (-128 : Int32).toInt = -128 := by decide
        have e2 : (127 : Int32).toInt = 127 := by decide
        simp only [Int32.lt_iff_toInt_lt, Int32.le_iff_toInt_le, hd, e1, e2] at *
        have hf : far a e = false := by simp [far]; omega
        rw [hf]; rfl
      · refine G_iconst (v := 1) F dX4_isFar_34 rfl ?_
        refine G_goto (tgt := 39) F dX4_isFar_35 (by decide) ?_
        refine G_iret F Rt dX4_isFar_39 (rfl) ⟨rfl, rfl, _, rfl, ?_⟩ (Nat.le_refl _) (Nat.le_refl _)
        clear F Rt
        refine ⟨?_, rfl⟩
        have hd := nI_subI ha4 he
        have e1 : (-128 : Int32).toInt = -128 := by decide
        have e2 : (127 : Int32).toInt = 127 := by decide
        simp only [Int32.lt_iff_toInt_lt, Int32.le_iff_toInt_le, hd, e1, e2] at *
        have hf : far a e = true := by simp [far]; omega
        rw [hf]; rfl
  · exact absurd (by rw [if_pos ht] at h8; exact h8) (by decide : ¬ (1 : Int32) = 0) --stop
