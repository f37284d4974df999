/-! PROGRAM: reads -/
set_option maxRecDepth 20000 in
theorem s_has {l : Launch} {Z : fx_Z} (hl : l.stackTraces = false) (ad : Nat → Nat) (sw : Bool) (tl : List fx_Sh) (M : fx_M) (b : Int32)  : CI l Z yX6_has (.code yX6_has cX6_has 2 (some .boolean)) 0 [.ref (ad 1), .int b] ad (c_C sw ++ tl) M (fun r m => r = (if 0 ≤ b ∧ b < M 1 8 then 1 else 0) ∧ m = M) := by
  refine CT_of (ret := (some .boolean)) (by decide +kernel) hl (by simp [Value.category]) (by decide) rfl ?_
  intro X F Rt _
  refine G_iload_n F dX6_has_0 rfl ?_
  refine G_if_lt (tgt := 16) F dX6_has_1 (by decide) (fun h1 => ?_) (fun h1 => ?_)
  · refine G_iconst (v := 0) F dX6_has_16 rfl ?_
    refine G_iret F Rt dX6_has_17 (rfl) ⟨rfl, rfl, _, rfl, ?_⟩ (Nat.le_refl _) (Nat.le_refl _)
    simp_all [Int32.not_le, Int32.not_lt]
  · refine G_iload_n F dX6_has_4 rfl ?_
    refine G_aload_n F dX6_has_5 rfl ?_
    refine G_geti F fl_X6_36 dX6_has_6 rfl rfl ?_
    refine G_icmp_ge (tgt := 16) F dX6_has_9 (by decide) (fun h9 => ?_) (fun h9 => ?_)
    · refine G_iconst (v := 0) F dX6_has_16 rfl ?_
      refine G_iret F Rt dX6_has_17 (rfl) ⟨rfl, rfl, _, rfl, ?_⟩ (Nat.le_refl _) (Nat.le_refl _)
      simp_all [Int32.not_le, Int32.not_lt]
    · refine G_iconst (v := 1) F dX6_has_12 rfl ?_
      refine G_goto (tgt := 17) F dX6_has_13 (by decide) ?_
      refine G_iret F Rt dX6_has_17 (rfl) ⟨rfl, rfl, _, rfl, ?_⟩ (Nat.le_refl _) (Nat.le_refl _)
      simp_all [Int32.not_le, Int32.not_lt]
set_option maxRecDepth 20000 in
theorem s_holds {l : Launch} {Z : fx_Z} (hl : l.stackTraces = false) (ad : Nat → Nat) (S : List fx_Sh) (M : fx_M) (s b : Int32)  : CI l Z yX6_holds (.code yX6_holds cX6_holds 2 (some .boolean)) 0 [.int s, .int b] ad S M (fun r m => r = (if (s >>> (b &&& 31)) &&& 1 = 1 then 1 else 0) ∧ m = M) := by
  refine CT_of (ret := (some .boolean)) (by decide +kernel) hl (by simp [Value.category]) (by decide) rfl ?_
  intro X F Rt _
  refine G_iload_n F dX6_holds_0 rfl ?_
  refine G_iload_n F dX6_holds_1 rfl ?_
  refine G_ishr F dX6_holds_2 ?_
  refine G_iconst (v := 1) F dX6_holds_3 rfl ?_
  refine G_iand F dX6_holds_4 ?_
  refine G_iconst (v := 1) F dX6_holds_5 rfl ?_
  refine G_icmp_ne (tgt := 13) F dX6_holds_6 (by decide) (fun h6 => ?_) (fun h6 => ?_)
  · refine G_iconst (v := 0) F dX6_holds_13 rfl ?_
    refine G_iret F Rt dX6_holds_14 (rfl) ⟨rfl, rfl, _, rfl, ?_⟩ (Nat.le_refl _) (Nat.le_refl _)
    simp_all
  · refine G_iconst (v := 1) F dX6_holds_9 rfl ?_
    refine G_goto (tgt := 14) F dX6_holds_10 (by decide) ?_
    refine G_iret F Rt dX6_holds_14 (rfl) ⟨rfl, rfl, _, rfl, ?_⟩ (Nat.le_refl _) (Nat.le_refl _)
    simp_all
