/-! PLACEMENT: sums -/
set_option maxRecDepth 20000 in
theorem s_isBranchLong {l : Launch} {Z : fx_Z} (hl : l.stackTraces = false) (ad : Nat → Nat) (sw : Bool) (tl : List fx_Sh) (M : fx_M) {b : Nat} (hb : b < 16) : CI l Z yX4_isBranchLong (.code yX4_isBranchLong cX4_isBranchLong 2 (some .boolean)) 0 [.ref (ad 12), .int (nI b)] ad (c_C sw ++ tl) M (fun r m => r = (if M 16 b = 6 then 1 else 0) ∧ m = M) := by
  refine CT_of (ret := (some .boolean)) (lv0 := [some (.ref (ad 12)), some (.int (nI b))]) (by decide +kernel) hl (by simp [Value.category]) (Nat.le_of_ble_eq_true rfl) rfl ?_
  intro X F Rt _
  refine G_aload_n F dX4_isBranchLong_0 rfl ?_
  refine G_getr F fl_X4_21 dX4_isBranchLong_1 rfl rfl ?_
  refine G_iload_n F dX4_isBranchLong_4 rfl ?_
  refine G_ialdN F dX4_isBranchLong_5 rfl (by omega) (by decide) ?_
  refine G_bipush (v := 6) F dX4_isBranchLong_6 rfl ?_
  refine G_icmp_ne (tgt := 15) F dX4_isBranchLong_8 (by decide) (fun h8 => ?_) (fun h8 => ?_)
  · refine G_iconst (v := 0) F dX4_isBranchLong_15 rfl ?_
    refine G_iret F Rt dX4_isBranchLong_16 (rfl) ⟨rfl, rfl, _, rfl, ?_⟩ (Nat.le_refl _) (Nat.le_refl _)
    clear F Rt
    refine ⟨?_, rfl⟩
    simp_all
  · refine G_iconst (v := 1) F dX4_isBranchLong_11 rfl ?_
    refine G_goto (tgt := 16) F dX4_isBranchLong_12 (by decide) ?_
    refine G_iret F Rt dX4_isBranchLong_16 (rfl) ⟨rfl, rfl, _, rfl, ?_⟩ (Nat.le_refl _) (Nat.le_refl _)
    clear F Rt
    refine ⟨?_, rfl⟩
    simp_all
set_option maxRecDepth 20000 in
theorem s_isJumpLong {l : Launch} {Z : fx_Z} (hl : l.stackTraces = false) (ad : Nat → Nat) (sw : Bool) (tl : List fx_Sh) (M : fx_M) {b : Nat} (hb : b < 16) : CI l Z yX4_isJumpLong (.code yX4_isJumpLong cX4_isJumpLong 2 (some .boolean)) 0 [.ref (ad 12), .int (nI b)] ad (c_C sw ++ tl) M (fun r m => r = (if M 17 b = 5 then 1 else 0) ∧ m = M) := by
  refine CT_of (ret := (some .boolean)) (lv0 := [some (.ref (ad 12)), some (.int (nI b))]) (by decide +kernel) hl (by simp [Value.category]) (Nat.le_of_ble_eq_true rfl) rfl ?_
  intro X F Rt _
  refine G_aload_n F dX4_isJumpLong_0 rfl ?_
  refine G_getr F fl_X4_24 dX4_isJumpLong_1 rfl rfl ?_
  refine G_iload_n F dX4_isJumpLong_4 rfl ?_
  refine G_ialdN F dX4_isJumpLong_5 rfl (by omega) (by decide) ?_
  refine G_iconst (v := 5) F dX4_isJumpLong_6 rfl ?_
  refine G_icmp_ne (tgt := 14) F dX4_isJumpLong_7 (by decide) (fun h7 => ?_) (fun h7 => ?_)
  · refine G_iconst (v := 0) F dX4_isJumpLong_14 rfl ?_
    refine G_iret F Rt dX4_isJumpLong_15 (rfl) ⟨rfl, rfl, _, rfl, ?_⟩ (Nat.le_refl _) (Nat.le_refl _)
    clear F Rt
    refine ⟨?_, rfl⟩
    simp_all
  · refine G_iconst (v := 1) F dX4_isJumpLong_10 rfl ?_
    refine G_goto (tgt := 15) F dX4_isJumpLong_11 (by decide) ?_
    refine G_iret F Rt dX4_isJumpLong_15 (rfl) ⟨rfl, rfl, _, rfl, ?_⟩ (Nat.le_refl _) (Nat.le_refl _)
    clear F Rt
    refine ⟨?_, rfl⟩
    simp_all
set_option maxRecDepth 20000 in
theorem s_sumOfPadding {l : Launch} {Z : fx_Z} (hl : l.stackTraces = false) (ad : Nat → Nat) (sw : Bool) (tl : List fx_Sh) (M : fx_M) {N : Nat}  (hN : M 1 8 = nI N) (hN16 : N ≤ 16)  : CI l Z yX4_sumOfPadding (.code yX4_sumOfPadding cX4_sumOfPadding 3 (some .int)) 0 [.ref (ad 12)] ad (c_C sw ++ tl) M (fun r m => r = sm (M 19) N ∧ m = M) := by
  refine CT_of (ret := (some .int)) (lv0 := [some (.ref (ad 12)), none, none]) (by decide +kernel) hl (by simp [Value.category]) (Nat.le_of_ble_eq_true rfl) rfl ?_
  intro X F Rt _
  have lp : ∀ (k : Nat) (i : Nat), k = N - i → i ≤ N → GG X ad 4 [some (.ref (ad 12)), some (.int (sm (M 19) i)), some (.int (nI i))] [] 0 0 (c_C sw ++ tl) M := by
    intro k
    induction k using Nat.strongRecOn with
    | _ k ih =>
      intro i hk hi
      refine G_iload_n F dX4_sumOfPadding_4 rfl ?_
      refine G_aload_n F dX4_sumOfPadding_5 rfl ?_
      refine G_getr F fl_X4_33 dX4_sumOfPadding_6 rfl rfl ?_
      refine G_geti F fl_X4_52 dX4_sumOfPadding_9 rfl rfl ?_
      rw [hN]
      refine G_icmp_ge (tgt := 30) F dX4_sumOfPadding_12 (by decide) (fun h12 => ?_) (fun h12 => ?_)
      · rw [nI_leI (by omega) (by omega)] at h12
        have hiN : i = N := by omega
        subst hiN
        refine G_iload_n F dX4_sumOfPadding_30 rfl ?_
        refine G_iret F Rt dX4_sumOfPadding_31 (rfl) ⟨rfl, rfl, _, rfl, ?_⟩ (Nat.le_refl _) (Nat.le_refl _)
        exact ⟨rfl, rfl⟩
      · rw [nI_leI (by omega) (by omega)] at h12
        refine G_iload_n F dX4_sumOfPadding_15 rfl ?_
        refine G_aload_n F dX4_sumOfPadding_16 rfl ?_
        refine G_getr F fl_X4_30 dX4_sumOfPadding_17 rfl rfl ?_
        refine G_iload_n F dX4_sumOfPadding_20 rfl ?_
        refine G_ialdN F dX4_sumOfPadding_21 rfl (by omega) (by decide) ?_
        refine G_iadd F dX4_sumOfPadding_22 ?_
        refine G_istore_n F 1 dX4_sumOfPadding_23 rfl rfl rfl (Nat.le_of_ble_eq_true rfl) ?_
        simp only [List.set_cons_zero, List.set_cons_succ]
        refine G_iinc F (1) dX4_sumOfPadding_24 rfl rfl rfl rfl ?_
        simp only [List.set_cons_zero, List.set_cons_succ, nI_1]
        refine G_goto (tgt := 4) F dX4_sumOfPadding_27 (by decide) ?_
        have hgo := ih (N - (i + 1)) (by omega) (i + 1) rfl (by omega)
        simp only [sm] at hgo
        exact hgo
  refine G_iconst (v := 0) F dX4_sumOfPadding_0 rfl ?_
  refine G_istore_n F 1 dX4_sumOfPadding_1 rfl rfl rfl (Nat.le_of_ble_eq_true rfl) ?_
  simp only [List.set_cons_zero, List.set_cons_succ]
  refine G_iconst (v := 0) F dX4_sumOfPadding_2 rfl ?_
  refine G_istore_n F 2 dX4_sumOfPadding_3 rfl rfl rfl (Nat.le_of_ble_eq_true rfl) ?_
  simp only [List.set_cons_zero, List.set_cons_succ]
  exact lp N 0 (by omega) (by omega)
set_option maxRecDepth 20000 in
theorem s_countOfLong {l : Launch} {Z : fx_Z} (hl : l.stackTraces = false) (ad : Nat → Nat) (sw : Bool) (tl : List fx_Sh) (M : fx_M) {N : Nat} (hN : M 1 8 = nI N) (hN16 : N ≤ 16) : CI l Z yX4_countOfLong (.code yX4_countOfLong cX4_countOfLong 3 (some .int)) 1 [.ref (ad 12)] ad (c_C sw ++ tl) M (fun r m => r = sm (fun b => (if M 16 b = 6 then (1 : Int32) else 0) + (if M 17 b = 5 then 1 else 0)) N ∧ m = M) := by
  refine CT_of (ret := (some .int)) (lv0 := [some (.ref (ad 12)), none, none]) (by decide +kernel) hl (by simp [Value.category]) (Nat.le_of_ble_eq_true rfl) rfl ?_
  intro X F Rt _
  have lp : ∀ (k : Nat) (i : Nat), k = N - i → i ≤ N → GG X ad 4 [some (.ref (ad 12)), some (.int (sm (fun b => (if M 16 b = 6 then (1 : Int32) else 0) + (if M 17 b = 5 then 1 else 0)) i)), some (.int (nI i))] [] 0 0 (c_C sw ++ tl) M := by
    intro k
    induction k using Nat.strongRecOn with
    | _ k ih =>
      intro i hk hi
      refine G_iload_n F dX4_countOfLong_4 rfl ?_
      refine G_aload_n F dX4_countOfLong_5 rfl ?_
      refine G_getr F fl_X4_33 dX4_countOfLong_6 rfl rfl ?_
      refine G_geti F fl_X4_52 dX4_countOfLong_9 rfl rfl ?_
      rw [hN]
      refine G_icmp_ge (tgt := 53) F dX4_countOfLong_12 (by decide) (fun h12 => ?_) (fun h12 => ?_)
      · rw [nI_leI (by omega) (by omega)] at h12
        have hiN : i = N := by omega
        subst hiN
        refine G_iload_n F dX4_countOfLong_53 rfl ?_
        refine G_iret F Rt dX4_countOfLong_54 (rfl) ⟨rfl, rfl, _, rfl, ?_⟩ (Nat.le_refl _) (Nat.le_refl _)
        exact ⟨rfl, rfl⟩
      · rw [nI_leI (by omega) (by omega)] at h12
        refine G_iload_n F dX4_countOfLong_15 rfl ?_
        refine G_aload_n F dX4_countOfLong_16 rfl ?_
        refine G_iload_n F dX4_countOfLong_17 rfl ?_
        refine G_vI F mv_X4_121 dX4_countOfLong_18 (s_isBranchLong hl ad sw tl M (b := i) (by omega)) rfl rfl rfl rfl (Nat.le_of_ble_eq_true rfl) ⟨Nat.le_of_ble_eq_true rfl, Nat.le_of_ble_eq_true rfl, Nat.le_of_ble_eq_true rfl, Nat.le_of_ble_eq_true rfl⟩ (fun r18 M18 h18 => ?_)
        rw [h18.1, h18.2]
        refine G_if_eq (tgt := 28) F dX4_countOfLong_21 (by decide) (fun h21 => ?_) (fun h21 => ?_)
        · have hB : (M 16 i = 6) = False := eq_false (by simpa using h21)
          refine G_iconst (v := 0) F dX4_countOfLong_28 rfl ?_
          refine G_iadd F dX4_countOfLong_29 ?_
          refine G_istore_n F 1 dX4_countOfLong_30 rfl rfl rfl (Nat.le_of_ble_eq_true rfl) ?_
          simp only [List.set_cons_zero, List.set_cons_succ]
          refine G_iload_n F dX4_countOfLong_31 rfl ?_
          refine G_aload_n F dX4_countOfLong_32 rfl ?_
          refine G_iload_n F dX4_countOfLong_33 rfl ?_
          refine G_vI F mv_X4_124 dX4_countOfLong_34 (s_isJumpLong hl ad sw tl M (b := i) (by omega)) rfl rfl rfl rfl (Nat.le_of_ble_eq_true rfl) ⟨Nat.le_of_ble_eq_true rfl, Nat.le_of_ble_eq_true rfl, Nat.le_of_ble_eq_true rfl, Nat.le_of_ble_eq_true rfl⟩ (fun r34 M34 h34 => ?_)
          rw [h34.1, h34.2]
          refine G_if_eq (tgt := 44) F dX4_countOfLong_37 (by decide) (fun h37 => ?_) (fun h37 => ?_)
          · have hJ : (M 17 i = 5) = False := eq_false (by simpa using h37)
            refine G_iconst (v := 0) F dX4_countOfLong_44 rfl ?_
            refine G_iadd F dX4_countOfLong_45 ?_
            refine G_istore_n F 1 dX4_countOfLong_46 rfl rfl rfl (Nat.le_of_ble_eq_true rfl) ?_
            simp only [List.set_cons_zero, List.set_cons_succ]
            refine G_iinc F (1) dX4_countOfLong_47 rfl rfl rfl rfl ?_
            simp only [List.set_cons_zero, List.set_cons_succ, nI_1]
            refine G_goto (tgt := 4) F dX4_countOfLong_50 (by decide) ?_
            have hgo := ih (N - (i + 1)) (by omega) (i + 1) rfl (by omega)
            simp only [sm] at hgo
            rw [← Int32.add_assoc] at hgo
            simp only [hB, hJ, if_true, if_false] at hgo
            exact hgo
          · have hJ : (M 17 i = 5) = True := eq_true (by simpa using h37)
            refine G_iconst (v := 1) F dX4_countOfLong_40 rfl ?_
            refine G_goto (tgt := 45) F dX4_countOfLong_41 (by decide) ?_
            refine G_iadd F dX4_countOfLong_45 ?_
            refine G_istore_n F 1 dX4_countOfLong_46 rfl rfl rfl (Nat.le_of_ble_eq_true rfl) ?_
            simp only [List.set_cons_zero, List.set_cons_succ]
            refine G_iinc F (1) dX4_countOfLong_47 rfl rfl rfl rfl ?_
            simp only [List.set_cons_zero, List.set_cons_succ, nI_1]
            refine G_goto (tgt := 4) F dX4_countOfLong_50 (by decide) ?_
            have hgo := ih (N - (i + 1)) (by omega) (i + 1) rfl (by omega)
            simp only [sm] at hgo
            rw [← Int32.add_assoc] at hgo
            simp only [hB, hJ, if_true, if_false] at hgo
            exact hgo
        · have hB : (M 16 i = 6) = True := eq_true (by simpa using h21)
          refine G_iconst (v := 1) F dX4_countOfLong_24 rfl ?_
          refine G_goto (tgt := 29) F dX4_countOfLong_25 (by decide) ?_
          refine G_iadd F dX4_countOfLong_29 ?_
          refine G_istore_n F 1 dX4_countOfLong_30 rfl rfl rfl (Nat.le_of_ble_eq_true rfl) ?_
          simp only [List.set_cons_zero, List.set_cons_succ]
          refine G_iload_n F dX4_countOfLong_31 rfl ?_
          refine G_aload_n F dX4_countOfLong_32 rfl ?_
          refine G_iload_n F dX4_countOfLong_33 rfl ?_
          refine G_vI F mv_X4_124 dX4_countOfLong_34 (s_isJumpLong hl ad sw tl M (b := i) (by omega)) rfl rfl rfl rfl (Nat.le_of_ble_eq_true rfl) ⟨Nat.le_of_ble_eq_true rfl, Nat.le_of_ble_eq_true rfl, Nat.le_of_ble_eq_true rfl, Nat.le_of_ble_eq_true rfl⟩ (fun r34 M34 h34 => ?_)
          rw [h34.1, h34.2]
          refine G_if_eq (tgt := 44) F dX4_countOfLong_37 (by decide) (fun h37 => ?_) (fun h37 => ?_)
          · have hJ : (M 17 i = 5) = False := eq_false (by simpa using h37)
            refine G_iconst (v := 0) F dX4_countOfLong_44 rfl ?_
            refine G_iadd F dX4_countOfLong_45 ?_
            refine G_istore_n F 1 dX4_countOfLong_46 rfl rfl rfl (Nat.le_of_ble_eq_true rfl) ?_
            simp only [List.set_cons_zero, List.set_cons_succ]
            refine G_iinc F (1) dX4_countOfLong_47 rfl rfl rfl rfl ?_
            simp only [List.set_cons_zero, List.set_cons_succ, nI_1]
            refine G_goto (tgt := 4) F dX4_countOfLong_50 (by decide) ?_
            have hgo := ih (N - (i + 1)) (by omega) (i + 1) rfl (by omega)
            simp only [sm] at hgo
            rw [← Int32.add_assoc] at hgo
            simp only [hB, hJ, if_true, if_false] at hgo
            exact hgo
          · have hJ : (M 17 i = 5) = True := eq_true (by simpa using h37)
            refine G_iconst (v := 1) F dX4_countOfLong_40 rfl ?_
            refine G_goto (tgt := 45) F dX4_countOfLong_41 (by decide) ?_
            refine G_iadd F dX4_countOfLong_45 ?_
            refine G_istore_n F 1 dX4_countOfLong_46 rfl rfl rfl (Nat.le_of_ble_eq_true rfl) ?_
            simp only [List.set_cons_zero, List.set_cons_succ]
            refine G_iinc F (1) dX4_countOfLong_47 rfl rfl rfl rfl ?_
            simp only [List.set_cons_zero, List.set_cons_succ, nI_1]
            refine G_goto (tgt := 4) F dX4_countOfLong_50 (by decide) ?_
            have hgo := ih (N - (i + 1)) (by omega) (i + 1) rfl (by omega)
            simp only [sm] at hgo
            rw [← Int32.add_assoc] at hgo
            simp only [hB, hJ, if_true, if_false] at hgo
            exact hgo
  refine G_iconst (v := 0) F dX4_countOfLong_0 rfl ?_
  refine G_istore_n F 1 dX4_countOfLong_1 rfl rfl rfl (Nat.le_of_ble_eq_true rfl) ?_
  simp only [List.set_cons_zero, List.set_cons_succ]
  refine G_iconst (v := 0) F dX4_countOfLong_2 rfl ?_
  refine G_istore_n F 2 dX4_countOfLong_3 rfl rfl rfl (Nat.le_of_ble_eq_true rfl) ?_
  simp only [List.set_cons_zero, List.set_cons_succ]
  exact lp N 0 (by omega) (by omega)
set_option maxRecDepth 20000 in
theorem s_countOfForm {l : Launch} {Z : fx_Z} (hl : l.stackTraces = false) (ad : Nat → Nat) (sw : Bool) (tl : List fx_Sh) (M : fx_M) {N : Nat} (x : Int32) (hN : M 1 8 = nI N) (hN16 : N ≤ 16) : CI l Z yX4_countOfForm (.code yX4_countOfForm cX4_countOfForm 4 (some .int)) 0 [.ref (ad 12), .int x] ad (c_C sw ++ tl) M (fun r m => r = sm (fun b => if M 15 b = x then (1 : Int32) else 0) N ∧ m = M) := by
  refine CT_of (ret := (some .int)) (lv0 := [some (.ref (ad 12)), some (.int x), none, none]) (by decide +kernel) hl (by simp [Value.category]) (Nat.le_of_ble_eq_true rfl) rfl ?_
  intro X F Rt _
  have lp : ∀ (k : Nat) (i : Nat), k = N - i → i ≤ N → GG X ad 4 [some (.ref (ad 12)), some (.int x), some (.int (sm (fun b => if M 15 b = x then (1 : Int32) else 0) i)), some (.int (nI i))] [] 0 0 (c_C sw ++ tl) M := by
    intro k
    induction k using Nat.strongRecOn with
    | _ k ih =>
      intro i hk hi
      refine G_iload_n F dX4_countOfForm_4 rfl ?_
      refine G_aload_n F dX4_countOfForm_5 rfl ?_
      refine G_getr F fl_X4_33 dX4_countOfForm_6 rfl rfl ?_
      refine G_geti F fl_X4_52 dX4_countOfForm_9 rfl rfl ?_
      rw [hN]
      refine G_icmp_ge (tgt := 39) F dX4_countOfForm_12 (by decide) (fun h12 => ?_) (fun h12 => ?_)
      · rw [nI_leI (by omega) (by omega)] at h12
        have hiN : i = N := by omega
        subst hiN
        refine G_iload_n F dX4_countOfForm_39 rfl ?_
        refine G_iret F Rt dX4_countOfForm_40 (rfl) ⟨rfl, rfl, _, rfl, ?_⟩ (Nat.le_refl _) (Nat.le_refl _)
        exact ⟨rfl, rfl⟩
      · rw [nI_leI (by omega) (by omega)] at h12
        refine G_iload_n F dX4_countOfForm_15 rfl ?_
        refine G_aload_n F dX4_countOfForm_16 rfl ?_
        refine G_getr F fl_X4_18 dX4_countOfForm_17 rfl rfl ?_
        refine G_iload_n F dX4_countOfForm_20 rfl ?_
        refine G_ialdN F dX4_countOfForm_21 rfl (by omega) (by decide) ?_
        refine G_iload_n F dX4_countOfForm_22 rfl ?_
        refine G_icmp_ne (tgt := 30) F dX4_countOfForm_23 (by decide) (fun h23 => ?_) (fun h23 => ?_)
        · have hB : (M 15 i = x) = False := eq_false h23
          refine G_iconst (v := 0) F dX4_countOfForm_30 rfl ?_
          refine G_iadd F dX4_countOfForm_31 ?_
          refine G_istore_n F 2 dX4_countOfForm_32 rfl rfl rfl (Nat.le_of_ble_eq_true rfl) ?_
          simp only [List.set_cons_zero, List.set_cons_succ]
          refine G_iinc F (1) dX4_countOfForm_33 rfl rfl rfl rfl ?_
          simp only [List.set_cons_zero, List.set_cons_succ, nI_1]
          refine G_goto (tgt := 4) F dX4_countOfForm_36 (by decide) ?_
          have hgo := ih (N - (i + 1)) (by omega) (i + 1) rfl (by omega)
          simp only [sm, hB, if_true, if_false] at hgo
          exact hgo
        · have hB : (M 15 i = x) = True := eq_true h23
          refine G_iconst (v := 1) F dX4_countOfForm_26 rfl ?_
          refine G_goto (tgt := 31) F dX4_countOfForm_27 (by decide) ?_
          refine G_iadd F dX4_countOfForm_31 ?_
          refine G_istore_n F 2 dX4_countOfForm_32 rfl rfl rfl (Nat.le_of_ble_eq_true rfl) ?_
          simp only [List.set_cons_zero, List.set_cons_succ]
          refine G_iinc F (1) dX4_countOfForm_33 rfl rfl rfl rfl ?_
          simp only [List.set_cons_zero, List.set_cons_succ, nI_1]
          refine G_goto (tgt := 4) F dX4_countOfForm_36 (by decide) ?_
          have hgo := ih (N - (i + 1)) (by omega) (i + 1) rfl (by omega)
          simp only [sm, hB, if_true, if_false] at hgo
          exact hgo
  refine G_iconst (v := 0) F dX4_countOfForm_0 rfl ?_
  refine G_istore_n F 2 dX4_countOfForm_1 rfl rfl rfl (Nat.le_of_ble_eq_true rfl) ?_
  simp only [List.set_cons_zero, List.set_cons_succ]
  refine G_iconst (v := 0) F dX4_countOfForm_2 rfl ?_
  refine G_istore_n F 3 dX4_countOfForm_3 rfl rfl rfl (Nat.le_of_ble_eq_true rfl) ?_
  simp only [List.set_cons_zero, List.set_cons_succ]
  exact lp N 0 (by omega) (by omega)
set_option maxRecDepth 20000 in
theorem s_sumOfCosts {l : Launch} {Z : fx_Z} (hl : l.stackTraces = false) (ad : Nat → Nat) (sw : Bool) (tl : List fx_Sh) (M : fx_M) {N : Nat} (x : Int32) (hN : M 1 8 = nI N) (hN16 : N ≤ 16) : CI l Z yX4_sumOfCosts (.code yX4_sumOfCosts cX4_sumOfCosts 4 (some .int)) 2 [.ref (ad 12), .int x] ad (c_C sw ++ tl) M (fun r m => r = sm (fun b => if M 13 b < x then pf_cc (M 3) (M 4) (M 5) (M 8) (M 9) b (M 14 b) else 0) N ∧ m = M) := by
  refine CT_of (ret := (some .int)) (lv0 := [some (.ref (ad 12)), some (.int x), none, none]) (by decide +kernel) hl (by simp [Value.category]) (Nat.le_of_ble_eq_true rfl) rfl ?_
  intro X F Rt _
  have lp : ∀ (k : Nat) (i : Nat), k = N - i → i ≤ N → GG X ad 4 [some (.ref (ad 12)), some (.int x), some (.int (sm (fun b => if M 13 b < x then pf_cc (M 3) (M 4) (M 5) (M 8) (M 9) b (M 14 b) else 0) i)), some (.int (nI i))] [] 0 0 (c_C sw ++ tl) M := by
    intro k
    induction k using Nat.strongRecOn with
    | _ k ih =>
      intro i hk hi
      refine G_iload_n F dX4_sumOfCosts_4 rfl ?_
      refine G_aload_n F dX4_sumOfCosts_5 rfl ?_
      refine G_getr F fl_X4_33 dX4_sumOfCosts_6 rfl rfl ?_
      refine G_geti F fl_X4_52 dX4_sumOfCosts_9 rfl rfl ?_
      rw [hN]
      refine G_icmp_ge (tgt := 48) F dX4_sumOfCosts_12 (by decide) (fun h12 => ?_) (fun h12 => ?_)
      · rw [nI_leI (by omega) (by omega)] at h12
        have hiN : i = N := by omega
        subst hiN
        refine G_iload_n F dX4_sumOfCosts_48 rfl ?_
        refine G_iret F Rt dX4_sumOfCosts_49 (rfl) ⟨rfl, rfl, _, rfl, ?_⟩ (Nat.le_refl _) (Nat.le_refl _)
        exact ⟨rfl, rfl⟩
      · rw [nI_leI (by omega) (by omega)] at h12
        refine G_aload_n F dX4_sumOfCosts_15 rfl ?_
        refine G_getr F fl_X4_9 dX4_sumOfCosts_16 rfl rfl ?_
        refine G_iload_n F dX4_sumOfCosts_19 rfl ?_
        refine G_ialdN F dX4_sumOfCosts_20 rfl (by omega) (by decide) ?_
        refine G_iload_n F dX4_sumOfCosts_21 rfl ?_
        refine G_icmp_ge (tgt := 42) F dX4_sumOfCosts_22 (by decide) (fun h22 => ?_) (fun h22 => ?_)
        · have hB : (M 13 i < x) = False := eq_false (by simp only [Int32.lt_iff_toInt_lt, Int32.le_iff_toInt_le] at h22 ⊢; omega)
          refine G_iinc F (1) dX4_sumOfCosts_42 rfl rfl rfl rfl ?_
          simp only [List.set_cons_zero, List.set_cons_succ, nI_1]
          refine G_goto (tgt := 4) F dX4_sumOfCosts_45 (by decide) ?_
          have hgo := ih (N - (i + 1)) (by omega) (i + 1) rfl (by omega)
          simp only [sm, hB, if_true, if_false, Int32.add_zero] at hgo
          exact hgo
        · have hB : (M 13 i < x) = True := eq_true (by simp only [Int32.lt_iff_toInt_lt, Int32.le_iff_toInt_le] at h22 ⊢; omega)
          refine G_iload_n F dX4_sumOfCosts_25 rfl ?_
          refine G_aload_n F dX4_sumOfCosts_26 rfl ?_
          refine G_getr F fl_X4_33 dX4_sumOfCosts_27 rfl rfl ?_
          refine G_iload_n F dX4_sumOfCosts_30 rfl ?_
          refine G_aload_n F dX4_sumOfCosts_31 rfl ?_
          refine G_getr F fl_X4_15 dX4_sumOfCosts_32 rfl rfl ?_
          refine G_iload_n F dX4_sumOfCosts_35 rfl ?_
          refine G_ialdN F dX4_sumOfCosts_36 rfl (by omega) (by decide) ?_
          refine G_vI F mv_X4_127 dX4_sumOfCosts_37 (s_costOf hl ad sw tl M (b := i) _ (by omega)) rfl rfl rfl rfl (Nat.le_of_ble_eq_true rfl) ⟨Nat.le_of_ble_eq_true rfl, Nat.le_of_ble_eq_true rfl, Nat.le_of_ble_eq_true rfl, Nat.le_of_ble_eq_true rfl⟩ (fun r37 M37 h37 => ?_)
          rw [h37.1, h37.2]
          refine G_iadd F dX4_sumOfCosts_40 ?_
          refine G_istore_n F 2 dX4_sumOfCosts_41 rfl rfl rfl (Nat.le_of_ble_eq_true rfl) ?_
          simp only [List.set_cons_zero, List.set_cons_succ]
          refine G_iinc F (1) dX4_sumOfCosts_42 rfl rfl rfl rfl ?_
          simp only [List.set_cons_zero, List.set_cons_succ, nI_1]
          refine G_goto (tgt := 4) F dX4_sumOfCosts_45 (by decide) ?_
          have hgo := ih (N - (i + 1)) (by omega) (i + 1) rfl (by omega)
          simp only [sm, hB, if_true, if_false, Int32.add_zero] at hgo
          exact hgo
  refine G_iconst (v := 0) F dX4_sumOfCosts_0 rfl ?_
  refine G_istore_n F 2 dX4_sumOfCosts_1 rfl rfl rfl (Nat.le_of_ble_eq_true rfl) ?_
  simp only [List.set_cons_zero, List.set_cons_succ]
  refine G_iconst (v := 0) F dX4_sumOfCosts_2 rfl ?_
  refine G_istore_n F 3 dX4_sumOfCosts_3 rfl rfl rfl (Nat.le_of_ble_eq_true rfl) ?_
  simp only [List.set_cons_zero, List.set_cons_succ]
  exact lp N 0 (by omega) (by omega)
/-- whether a next block has padding -/
def pf_pn (nx pd : Nat → Int32) (b : Nat) : Bool := decide (nx b ≠ -1) && decide (0 < pd (nx b).toNatClampNeg)
set_option maxRecDepth 20000 in
theorem s_hasPaddedNext {l : Launch} {Z : fx_Z} (hl : l.stackTraces = false) (ad : Nat → Nat) (sw : Bool) (tl : List fx_Sh) (M : fx_M) {b : Nat} (hb : b < 16) (hx : M 14 b ≠ -1 → vp_in (M 14 b) 16) : CI l Z yX4_hasPaddedNext (.code yX4_hasPaddedNext cX4_hasPaddedNext 2 (some .boolean)) 0 [.ref (ad 12), .int (nI b)] ad (c_C sw ++ tl) M (fun r m => r = (if pf_pn (M 14) (M 19) b then 1 else 0) ∧ m = M) := by
  refine CT_of (ret := (some .boolean)) (lv0 := [some (.ref (ad 12)), some (.int (nI b))]) (by decide +kernel) hl (by simp [Value.category]) (Nat.le_of_ble_eq_true rfl) rfl ?_
  intro X F Rt _
  refine G_aload_n F dX4_hasPaddedNext_0 rfl ?_
  refine G_getr F fl_X4_15 dX4_hasPaddedNext_1 rfl rfl ?_
  refine G_iload_n F dX4_hasPaddedNext_4 rfl ?_
  refine G_ialdN F dX4_hasPaddedNext_5 rfl (by omega) (by decide) ?_
  refine G_iconst (v := -1) F dX4_hasPaddedNext_6 rfl ?_
  refine G_icmp_eq (tgt := 28) F dX4_hasPaddedNext_7 (by decide) (fun h7 => ?_) (fun h7 => ?_)
  · have h7a : M 14 b = -1 := h7
    refine G_iconst (v := 0) F dX4_hasPaddedNext_28 rfl ?_
    refine G_iret F Rt dX4_hasPaddedNext_29 (rfl) ⟨rfl, rfl, _, rfl, ?_⟩ (Nat.le_refl _) (Nat.le_refl _)
    clear F Rt
    refine ⟨?_, rfl⟩
    simp_all [pf_pn]
  · refine G_aload_n F dX4_hasPaddedNext_10 rfl ?_
    refine G_getr F fl_X4_30 dX4_hasPaddedNext_11 rfl rfl ?_
    refine G_aload_n F dX4_hasPaddedNext_14 rfl ?_
    refine G_getr F fl_X4_15 dX4_hasPaddedNext_15 rfl rfl ?_
    refine G_iload_n F dX4_hasPaddedNext_18 rfl ?_
    refine G_ialdN F dX4_hasPaddedNext_19 rfl (by omega) (by decide) ?_
    refine G_iald F dX4_hasPaddedNext_20 rfl (by exact hx h7) ?_
    refine G_if_le (tgt := 28) F dX4_hasPaddedNext_21 (by decide) (fun h21 => ?_) (fun h21 => ?_)
    · have h21a : ¬ 0 < M 19 (M 14 b).toNatClampNeg := by simp only [Int32.lt_iff_toInt_lt, Int32.le_iff_toInt_le] at h21 ⊢; omega
      refine G_iconst (v := 0) F dX4_hasPaddedNext_28 rfl ?_
      refine G_iret F Rt dX4_hasPaddedNext_29 (rfl) ⟨rfl, rfl, _, rfl, ?_⟩ (Nat.le_refl _) (Nat.le_refl _)
      clear F Rt
      refine ⟨?_, rfl⟩
      simp_all [pf_pn]
    · have h21a : 0 < M 19 (M 14 b).toNatClampNeg := by simp only [Int32.lt_iff_toInt_lt, Int32.le_iff_toInt_le] at h21 ⊢; omega
      refine G_iconst (v := 1) F dX4_hasPaddedNext_24 rfl ?_
      refine G_goto (tgt := 29) F dX4_hasPaddedNext_25 (by decide) ?_
      refine G_iret F Rt dX4_hasPaddedNext_29 (rfl) ⟨rfl, rfl, _, rfl, ?_⟩ (Nat.le_refl _) (Nat.le_refl _)
      clear F Rt
      refine ⟨?_, rfl⟩
      simp_all [pf_pn]
set_option maxRecDepth 20000 in
theorem s_cyclesOfProfile {l : Launch} {Z : fx_Z} (hl : l.stackTraces = false) (ad : Nat → Nat) (sw : Bool) (tl : List fx_Sh) (M : fx_M) {N : Nat} (hN : M 1 8 = nI N) (hN16 : N ≤ 16) (hx : ∀ b, b < N → M 14 b ≠ -1 → vp_in (M 14 b) 16) : CI l Z yX4_cyclesOfProfile (.code yX4_cyclesOfProfile cX4_cyclesOfProfile 3 (some .int)) 3 [.ref (ad 12)] ad (c_C sw ++ tl) M (fun r m => r = sm (fun b => if M 13 b < nI N then pf_cc (M 3) (M 4) (M 5) (M 8) (M 9) b (M 14 b) else 0) N + sm (fun b => if pf_pn (M 14) (M 19) b then pf_wt (M 4) (M 5) (M 8) (M 9) b (M 14 b) else 0) N ∧ m = M) := by
  refine CT_of (ret := (some .int)) (lv0 := [some (.ref (ad 12)), none, none]) (by decide +kernel) hl (by simp [Value.category]) (Nat.le_of_ble_eq_true rfl) rfl ?_
  intro X F Rt _
  obtain ⟨s0, hs0⟩ : ∃ s0, s0 = sm (fun b => if M 13 b < nI N then pf_cc (M 3) (M 4) (M 5) (M 8) (M 9) b (M 14 b) else 0) N := ⟨_, rfl⟩
  rw [← hs0] at Rt
  have lp : ∀ (k : Nat) (i : Nat), k = N - i → i ≤ N → GG X ad 14 [some (.ref (ad 12)), some (.int (s0 + sm (fun b => if pf_pn (M 14) (M 19) b then pf_wt (M 4) (M 5) (M 8) (M 9) b (M 14 b) else 0) i)), some (.int (nI i))] [] 0 0 (c_C sw ++ tl) M := by
    intro k
    induction k using Nat.strongRecOn with
    | _ k ih =>
      intro i hk hi
      refine G_iload_n F dX4_cyclesOfProfile_14 rfl ?_
      refine G_aload_n F dX4_cyclesOfProfile_15 rfl ?_
      refine G_getr F fl_X4_33 dX4_cyclesOfProfile_16 rfl rfl ?_
      refine G_geti F fl_X4_52 dX4_cyclesOfProfile_19 rfl rfl ?_
      rw [hN]
      refine G_icmp_ge (tgt := 56) F dX4_cyclesOfProfile_22 (by decide) (fun h22 => ?_) (fun h22 => ?_)
      · rw [nI_leI (by omega) (by omega)] at h22
        have hiN : i = N := by omega
        subst hiN
        refine G_iload_n F dX4_cyclesOfProfile_56 rfl ?_
        refine G_iret F Rt dX4_cyclesOfProfile_57 (rfl) ⟨rfl, rfl, _, rfl, ?_⟩ (Nat.le_refl _) (Nat.le_refl _)
        exact ⟨rfl, rfl⟩
      · rw [nI_leI (by omega) (by omega)] at h22
        refine G_aload_n F dX4_cyclesOfProfile_25 rfl ?_
        refine G_iload_n F dX4_cyclesOfProfile_26 rfl ?_
        refine G_vI F mv_X4_133 dX4_cyclesOfProfile_27 (s_hasPaddedNext hl ad sw tl M (b := i) (by omega) (hx i (by omega))) rfl rfl rfl rfl (Nat.le_of_ble_eq_true rfl) ⟨Nat.le_of_ble_eq_true rfl, Nat.le_of_ble_eq_true rfl, Nat.le_of_ble_eq_true rfl, Nat.le_of_ble_eq_true rfl⟩ (fun r27 M27 h27 => ?_)
        rw [h27.1, h27.2]
        refine G_if_eq (tgt := 50) F dX4_cyclesOfProfile_30 (by decide) (fun h30 => ?_) (fun h30 => ?_)
        · have hB : pf_pn (M 14) (M 19) i = false := by simpa using h30
          refine G_iinc F (1) dX4_cyclesOfProfile_50 rfl rfl rfl rfl ?_
          simp only [List.set_cons_zero, List.set_cons_succ, nI_1]
          refine G_goto (tgt := 14) F dX4_cyclesOfProfile_53 (by decide) ?_
          have hgo := ih (N - (i + 1)) (by omega) (i + 1) rfl (by omega)
          simp only [sm, hB, if_true, if_false, Int32.add_zero, Bool.false_eq_true, ← Int32.add_assoc] at hgo
          exact hgo
        · have hB : pf_pn (M 14) (M 19) i = true := by simpa using h30
          refine G_iload_n F dX4_cyclesOfProfile_33 rfl ?_
          refine G_aload_n F dX4_cyclesOfProfile_34 rfl ?_
          refine G_getr F fl_X4_33 dX4_cyclesOfProfile_35 rfl rfl ?_
          refine G_iload_n F dX4_cyclesOfProfile_38 rfl ?_
          refine G_aload_n F dX4_cyclesOfProfile_39 rfl ?_
          refine G_getr F fl_X4_15 dX4_cyclesOfProfile_40 rfl rfl ?_
          refine G_iload_n F dX4_cyclesOfProfile_43 rfl ?_
          refine G_ialdN F dX4_cyclesOfProfile_44 rfl (by omega) (by decide) ?_
          refine G_vI F mv_X4_136 dX4_cyclesOfProfile_45 (s_weightTo hl ad sw tl M (b := i) _ (by omega)) rfl rfl rfl rfl (Nat.le_of_ble_eq_true rfl) ⟨Nat.le_of_ble_eq_true rfl, Nat.le_of_ble_eq_true rfl, Nat.le_of_ble_eq_true rfl, Nat.le_of_ble_eq_true rfl⟩ (fun r45 M45 h45 => ?_)
          rw [h45.1, h45.2]
          refine G_iadd F dX4_cyclesOfProfile_48 ?_
          refine G_istore_n F 1 dX4_cyclesOfProfile_49 rfl rfl rfl (Nat.le_of_ble_eq_true rfl) ?_
          simp only [List.set_cons_zero, List.set_cons_succ]
          refine G_iinc F (1) dX4_cyclesOfProfile_50 rfl rfl rfl rfl ?_
          simp only [List.set_cons_zero, List.set_cons_succ, nI_1]
          refine G_goto (tgt := 14) F dX4_cyclesOfProfile_53 (by decide) ?_
          have hgo := ih (N - (i + 1)) (by omega) (i + 1) rfl (by omega)
          simp only [sm, hB, if_true, if_false, Int32.add_zero, Bool.false_eq_true, ← Int32.add_assoc] at hgo
          exact hgo
  refine G_aload_n F dX4_cyclesOfProfile_0 rfl ?_
  refine G_aload_n F dX4_cyclesOfProfile_1 rfl ?_
  refine G_getr F fl_X4_33 dX4_cyclesOfProfile_2 rfl rfl ?_
  refine G_geti F fl_X4_52 dX4_cyclesOfProfile_5 rfl rfl ?_
  rw [hN]
  refine G_vI F mv_X4_130 dX4_cyclesOfProfile_8 (s_sumOfCosts hl ad sw tl M (N := N) (nI N) hN hN16) rfl rfl rfl rfl (Nat.le_of_ble_eq_true rfl) ⟨Nat.le_of_ble_eq_true rfl, Nat.le_of_ble_eq_true rfl, Nat.le_of_ble_eq_true rfl, Nat.le_of_ble_eq_true rfl⟩ (fun r8 M8 h8 => ?_)
  rw [h8.1, h8.2, ← hs0]
  refine G_istore_n F 1 dX4_cyclesOfProfile_11 rfl rfl rfl (Nat.le_of_ble_eq_true rfl) ?_
  simp only [List.set_cons_zero, List.set_cons_succ]
  refine G_iconst (v := 0) F dX4_cyclesOfProfile_12 rfl ?_
  refine G_istore_n F 2 dX4_cyclesOfProfile_13 rfl rfl rfl (Nat.le_of_ble_eq_true rfl) ?_
  simp only [List.set_cons_zero, List.set_cons_succ]
  have q := lp N 0 (by omega) (by omega)
  simp only [sm, Int32.add_zero] at q
  exact q
set_option maxRecDepth 20000 in
theorem s_cyclesOfPath {l : Launch} {Z : fx_Z} (hl : l.stackTraces = false) (ad : Nat → Nat) (sw : Bool) (tl : List fx_Sh) (M : fx_M) {L : Nat} (q : Nat → Nat) (hL : M 27 4 = nI L) (hL1 : 1 ≤ L) (hL5 : L ≤ 500) (hp : ∀ j, j < L → M (cond sw 29 28) j = nI (q j)) (hq : ∀ j, j < L → q j < 16) : CI l Z yX4_cyclesOfPath (.code yX4_cyclesOfPath cX4_cyclesOfPath 6 (some .int)) 1 [.ref (ad 12), .ref (ad 27)] ad (c_C sw ++ tl) M (fun r m => r = sm (fun j => pf_ed (M 3) (q j) (nI (q (j + 1))) (M 14 (q j)) + (if nI (q (j + 1)) = M 14 (q j) ∧ 0 < M 19 (q (j + 1)) then 1 else 0)) (L - 1) ∧ m = M) := by
  refine CT_of (ret := (some .int)) (lv0 := [some (.ref (ad 12)), some (.ref (ad 27)), none, none, none, none]) (by decide +kernel) hl (by simp [Value.category]) (Nat.le_of_ble_eq_true rfl) rfl ?_
  intro X F Rt _
  have lp : ∀ (k : Nat) (i : Nat), k = L - i → i ≤ L - 1 → GG X ad 4 [some (.ref (ad 12)), some (.ref (ad 27)), some (.int (sm (fun j => pf_ed (M 3) (q j) (nI (q (j + 1))) (M 14 (q j)) + (if nI (q (j + 1)) = M 14 (q j) ∧ 0 < M 19 (q (j + 1)) then 1 else 0)) i)), some (.int (nI i)), none, none] [] 0 0 (c_C sw ++ tl) M := by
    intro k
    induction k using Nat.strongRecOn with
    | _ k ih =>
      intro i hk hi
      refine G_iload_n F dX4_cyclesOfPath_4 rfl ?_
      refine G_iconst (v := nI 1) F dX4_cyclesOfPath_5 (by decide) ?_
      refine G_iadd F dX4_cyclesOfPath_6 ?_
      rw [nI_add]
      refine G_aload_n F dX4_cyclesOfPath_7 rfl ?_
      refine G_geti F fl_X4_139 dX4_cyclesOfPath_8 rfl rfl ?_
      rw [hL]
      refine G_icmp_ge (tgt := 84) F dX4_cyclesOfPath_11 (by decide) (fun h11 => ?_) (fun h11 => ?_)
      · rw [nI_leI (by omega) (by omega)] at h11
        have hiL : i = L - 1 := by omega
        subst hiL
        refine G_iload_n F dX4_cyclesOfPath_84 rfl ?_
        refine G_iret F Rt dX4_cyclesOfPath_85 (rfl) ⟨rfl, rfl, _, rfl, ?_⟩ (Nat.le_refl _) (Nat.le_refl _)
        exact ⟨rfl, rfl⟩
      · rw [nI_leI (by omega) (by omega)] at h11
        refine G_aload_n F dX4_cyclesOfPath_14 rfl ?_
        refine G_getr F fl_X4_144 dX4_cyclesOfPath_15 rfl rfl ?_
        refine G_iload_n F dX4_cyclesOfPath_18 rfl ?_
        refine G_ialdN F dX4_cyclesOfPath_19 (by cases sw <;> rfl) (by omega) (by decide) ?_
        rw [hp i (by omega)]
        have hqi := hq i (by omega)
        have hqj := hq (i + 1) (by omega)
        refine G_istore F dX4_cyclesOfPath_20 rfl rfl (Nat.le_of_ble_eq_true rfl) ?_
        simp only [List.set_cons_zero, List.set_cons_succ]
        refine G_aload_n F dX4_cyclesOfPath_22 rfl ?_
        refine G_getr F fl_X4_144 dX4_cyclesOfPath_23 rfl rfl ?_
        refine G_iload_n F dX4_cyclesOfPath_26 rfl ?_
        refine G_iconst (v := nI 1) F dX4_cyclesOfPath_27 (by decide) ?_
        refine G_iadd F dX4_cyclesOfPath_28 ?_
        rw [nI_add]
        refine G_ialdN F dX4_cyclesOfPath_29 (by cases sw <;> rfl) (by omega) (by decide) ?_
        rw [hp (i + 1) (by omega)]
        refine G_istore F dX4_cyclesOfPath_30 rfl rfl (Nat.le_of_ble_eq_true rfl) ?_
        simp only [List.set_cons_zero, List.set_cons_succ]
        refine G_iload_n F dX4_cyclesOfPath_32 rfl ?_
        refine G_aload_n F dX4_cyclesOfPath_33 rfl ?_
        refine G_getr F fl_X4_33 dX4_cyclesOfPath_34 rfl rfl ?_
        refine G_iload F dX4_cyclesOfPath_37 rfl ?_
        refine G_iload F dX4_cyclesOfPath_39 rfl ?_
        refine G_aload_n F dX4_cyclesOfPath_41 rfl ?_
        refine G_getr F fl_X4_15 dX4_cyclesOfPath_42 rfl rfl ?_
        refine G_iload F dX4_cyclesOfPath_45 rfl ?_
        refine G_ialdN F dX4_cyclesOfPath_47 rfl (by omega) (by decide) ?_
        refine G_vI F mv_X4_147 dX4_cyclesOfPath_48 (s_edgeCycles hl ad sw tl M (b := q i) _ _ hqi) rfl rfl rfl rfl (Nat.le_of_ble_eq_true rfl) ⟨Nat.le_of_ble_eq_true rfl, Nat.le_of_ble_eq_true rfl, Nat.le_of_ble_eq_true rfl, Nat.le_of_ble_eq_true rfl⟩ (fun r48 M48 h48 => ?_)
        rw [h48.1, h48.2]
        refine G_iadd F dX4_cyclesOfPath_51 ?_
        refine G_istore_n F 2 dX4_cyclesOfPath_52 rfl rfl rfl (Nat.le_of_ble_eq_true rfl) ?_
        simp only [List.set_cons_zero, List.set_cons_succ]
        refine G_iload F dX4_cyclesOfPath_53 rfl ?_
        refine G_aload_n F dX4_cyclesOfPath_55 rfl ?_
        refine G_getr F fl_X4_15 dX4_cyclesOfPath_56 rfl rfl ?_
        refine G_iload F dX4_cyclesOfPath_59 rfl ?_
        refine G_ialdN F dX4_cyclesOfPath_61 rfl (by omega) (by decide) ?_
        refine G_icmp_ne (tgt := 78) F dX4_cyclesOfPath_62 (by decide) (fun h62 => ?_) (fun h62 => ?_)
        · have hB : (nI (q (i + 1)) = M 14 (q i) ∧ 0 < M 19 (q (i + 1))) = False := eq_false (fun z => h62 z.1)
          refine G_iinc F (1) dX4_cyclesOfPath_78 rfl rfl rfl rfl ?_
          simp only [List.set_cons_zero, List.set_cons_succ, nI_1]
          refine G_goto (tgt := 4) F dX4_cyclesOfPath_81 (by decide) ?_
          refine G_drop F 4 ?_
          refine G_drop F 5 ?_
          simp only [List.set_cons_zero, List.set_cons_succ]
          have hgo := ih (L - (i + 1)) (by omega) (i + 1) rfl (by omega)
          simp only [sm, hB, if_true, if_false, Int32.add_zero, ← Int32.add_assoc] at hgo
          exact hgo
        · refine G_aload_n F dX4_cyclesOfPath_65 rfl ?_
          refine G_getr F fl_X4_30 dX4_cyclesOfPath_66 rfl rfl ?_
          refine G_iload F dX4_cyclesOfPath_69 rfl ?_
          refine G_ialdN F dX4_cyclesOfPath_71 rfl (by omega) (by decide) ?_
          refine G_if_le (tgt := 78) F dX4_cyclesOfPath_72 (by decide) (fun h72 => ?_) (fun h72 => ?_)
          · have hB : (nI (q (i + 1)) = M 14 (q i) ∧ 0 < M 19 (q (i + 1))) = False := eq_false (fun z => by have := z.2; simp only [Int32.lt_iff_toInt_lt, Int32.le_iff_toInt_le] at h72 this; omega)
            refine G_iinc F (1) dX4_cyclesOfPath_78 rfl rfl rfl rfl ?_
            simp only [List.set_cons_zero, List.set_cons_succ, nI_1]
            refine G_goto (tgt := 4) F dX4_cyclesOfPath_81 (by decide) ?_
            refine G_drop F 4 ?_
            refine G_drop F 5 ?_
            simp only [List.set_cons_zero, List.set_cons_succ]
            have hgo := ih (L - (i + 1)) (by omega) (i + 1) rfl (by omega)
            simp only [sm, hB, if_true, if_false, Int32.add_zero, ← Int32.add_assoc] at hgo
            exact hgo
          · have hB : (nI (q (i + 1)) = M 14 (q i) ∧ 0 < M 19 (q (i + 1))) = True := eq_true ⟨h62, by simp only [Int32.lt_iff_toInt_lt, Int32.le_iff_toInt_le] at h72 ⊢; omega⟩
            refine G_iinc F (1) dX4_cyclesOfPath_75 rfl rfl rfl rfl ?_
            simp only [List.set_cons_zero, List.set_cons_succ, nI_1]
            refine G_iinc F (1) dX4_cyclesOfPath_78 rfl rfl rfl rfl ?_
            simp only [List.set_cons_zero, List.set_cons_succ, nI_1]
            refine G_goto (tgt := 4) F dX4_cyclesOfPath_81 (by decide) ?_
            refine G_drop F 4 ?_
            refine G_drop F 5 ?_
            simp only [List.set_cons_zero, List.set_cons_succ]
            have hgo := ih (L - (i + 1)) (by omega) (i + 1) rfl (by omega)
            simp only [sm, hB, if_true, if_false, Int32.add_zero, ← Int32.add_assoc] at hgo
            exact hgo
  refine G_iconst (v := 0) F dX4_cyclesOfPath_0 rfl ?_
  refine G_istore_n F 2 dX4_cyclesOfPath_1 rfl rfl rfl (Nat.le_of_ble_eq_true rfl) ?_
  simp only [List.set_cons_zero, List.set_cons_succ]
  refine G_iconst (v := 0) F dX4_cyclesOfPath_2 rfl ?_
  refine G_istore_n F 3 dX4_cyclesOfPath_3 rfl rfl rfl (Nat.le_of_ble_eq_true rfl) ?_
  simp only [List.set_cons_zero, List.set_cons_succ]
  exact lp L 0 rfl (by omega)
