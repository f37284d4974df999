/-! THE REFERENCE: the program -/
set_option maxRecDepth 20000 in
theorem t_isIn {l : Launch} {Z : fx_Z} (hl : l.stackTraces = false) (ad : Nat → Nat) (S : List fx_Sh) (M : fx_M) (v a b : Int32)  : CI l Z yX8_isIn (.code yX8_isIn cX8_isIn 3 (some .boolean)) 0 [.int v, .int a, .int b] ad S M (fun r m => r = (if a ≤ v ∧ v ≤ b then 1 else 0) ∧ m = M) := by
  refine CT_of (ret := (some .boolean)) (lv0 := [some (.int v), some (.int a), some (.int b)]) (by decide +kernel) hl (by simp [Value.category]) (Nat.le_of_ble_eq_true rfl) rfl ?_
  intro X F Rt _
  refine G_iload_n F dX8_isIn_0 rfl ?_
  refine G_iload_n F dX8_isIn_1 rfl ?_
  refine G_icmp_lt (tgt := 14) F dX8_isIn_2 (by decide) (fun h2 => ?_) (fun h2 => ?_)
  · have q : ¬ (a ≤ v ∧ v ≤ b) := by simp only [Int32.lt_iff_toInt_lt, Int32.le_iff_toInt_le] at *; omega
    refine G_iconst (v := 0) F dX8_isIn_14 rfl ?_
    refine G_iret F Rt dX8_isIn_15 (rfl) ⟨rfl, rfl, _, rfl, ?_⟩ (Nat.le_refl _) (Nat.le_refl _)
    first | exact ⟨(if_neg q).symm, rfl⟩ | exact ⟨(if_pos q).symm, rfl⟩
  · refine G_iload_n F dX8_isIn_5 rfl ?_
    refine G_iload_n F dX8_isIn_6 rfl ?_
    refine G_icmp_gt (tgt := 14) F dX8_isIn_7 (by decide) (fun h7 => ?_) (fun h7 => ?_)
    · have q : ¬ (a ≤ v ∧ v ≤ b) := by simp only [Int32.lt_iff_toInt_lt, Int32.le_iff_toInt_le] at *; omega
      refine G_iconst (v := 0) F dX8_isIn_14 rfl ?_
      refine G_iret F Rt dX8_isIn_15 (rfl) ⟨rfl, rfl, _, rfl, ?_⟩ (Nat.le_refl _) (Nat.le_refl _)
      first | exact ⟨(if_neg q).symm, rfl⟩ | exact ⟨(if_pos q).symm, rfl⟩
    · have q : (a ≤ v ∧ v ≤ b) := by simp only [Int32.lt_iff_toInt_lt, Int32.le_iff_toInt_le] at *; omega
      refine G_iconst (v := 1) F dX8_isIn_10 rfl ?_
      refine G_goto (tgt := 15) F dX8_isIn_11 (by decide) ?_
      refine G_iret F Rt dX8_isIn_15 (rfl) ⟨rfl, rfl, _, rfl, ?_⟩ (Nat.le_refl _) (Nat.le_refl _)
      first | exact ⟨(if_neg q).symm, rfl⟩ | exact ⟨(if_pos q).symm, rfl⟩
theorem pin_le {N : Nat} (h1 : 1 ≤ N) (h : N < 2 ^ 31) (b : Int32) : (if (0 : Int32) ≤ b ∧ b ≤ nI N - 1 then (1 : Int32) else 0) = (if pin N b then 1 else 0) := by
  have e1 : nI N - 1 = nI (N - 1) := by rw [show (1 : Int32) = nI 1 from by decide, nI_sub h1]
  have e2 : (0 ≤ b ∧ b ≤ nI N - 1) ↔ (0 ≤ b ∧ b < nI N) := by
    rw [e1]
    simp only [Int32.lt_iff_toInt_lt, Int32.le_iff_toInt_le]
    rw [nI_toInt (show N - 1 < 2 ^ 31 by omega), nI_toInt h]
    omega
  unfold pin
  by_cases hb : 0 ≤ b ∧ b < nI N
  · rw [if_pos (e2.mpr hb), decide_eq_true hb]; rfl
  · rw [if_neg (fun q => hb (e2.mp q)), decide_eq_false hb]; rfl
set_option maxRecDepth 20000 in
theorem t_isBlock {l : Launch} {Z : fx_Z} (hl : l.stackTraces = false) (ad : Nat → Nat) (sw : Bool) (tl : List fx_Sh) (M : fx_M) {N : Nat} (b : Int32) (hN : M 37 0 = nI N) (hN16 : N ≤ 16) (hN1 : 1 ≤ N) : CI l Z yX8_isBlock (.code yX8_isBlock cX8_isBlock 2 (some .boolean)) 1 [.ref (ad 37), .int b] ad (c_C sw ++ (m_C ++ tl)) M (fun r m => r = (if pin N b then 1 else 0) ∧ m = M) := by
  refine CT_of (ret := (some .boolean)) (lv0 := [some (.ref (ad 37)), some (.int b)]) (by decide +kernel) hl (by simp [Value.category]) (Nat.le_of_ble_eq_true rfl) rfl ?_
  intro X F Rt _
  refine G_iload_n F dX8_isBlock_0 rfl ?_
  refine G_iconst (v := 0) F dX8_isBlock_1 rfl ?_
  refine G_aload_n F dX8_isBlock_2 rfl ?_
  refine G_geti F fl_X8_106 dX8_isBlock_3 rfl rfl ?_
  refine G_iconst (v := 1) F dX8_isBlock_6 rfl ?_
  rw [hN]
  refine G_isub F dX8_isBlock_7 ?_
  refine G_sI F ms_X8_109 dX8_isBlock_8 (t_isIn hl ad _ M b 0 (nI N - 1)) rfl rfl (Nat.le_of_ble_eq_true rfl) ⟨Nat.le_of_ble_eq_true rfl, Nat.le_of_ble_eq_true rfl, Nat.le_of_ble_eq_true rfl, Nat.le_of_ble_eq_true rfl⟩ (fun r8 M8 h8 => ?_)
  rw [h8.1, h8.2, pin_le hN1 (by omega)]
  refine G_iret F Rt dX8_isBlock_11 (by split <;> rfl) ⟨rfl, rfl, _, rfl, ?_⟩ (Nat.le_refl _) (Nat.le_refl _)
  exact ⟨rfl, rfl⟩
set_option maxRecDepth 20000 in
theorem t_begins {l : Launch} {Z : fx_Z} (hl : l.stackTraces = false) (ad : Nat → Nat) (sw : Bool) (tl : List fx_Sh) (M : fx_M) (n : Int32)  : CV l Z yX8_begins (.code yX8_begins cX8_begins 3 none) 0 [.ref (ad 37), .int n] ad (c_C sw ++ (m_C ++ tl)) M (fun m => fr [37, 38, 39, 40, 41, 42, 43, 44, 45] M m ∧ m 37 = upd (M 37) 0 n ∧ ∀ b, b < 16 → m 38 b = 0 ∧ m 39 b = 2 ∧ m 40 b = -1 ∧ m 41 b = -1 ∧ m 42 b = 0 ∧ m 43 b = 0 ∧ m 44 b = 0 ∧ m 45 b = 0) := by
  refine CT_of (ret := none) (lv0 := [some (.ref (ad 37)), some (.int n), none]) (by decide +kernel) hl (by simp [Value.category]) (Nat.le_of_ble_eq_true rfl) rfl ?_
  intro X F Rt _
  have lp : ∀ (k : Nat) (i : Nat) (M' : fx_M), k = 16 - i → i ≤ 16 → fr [38, 39, 40, 41, 42, 43, 44, 45] (fx_u M 37 0 n) M' → (∀ b, b < i → M' 38 b = 0 ∧ M' 39 b = 2 ∧ M' 40 b = -1 ∧ M' 41 b = -1 ∧ M' 42 b = 0 ∧ M' 43 b = 0 ∧ M' 44 b = 0 ∧ M' 45 b = 0) → GG X ad 7 [some (.ref (ad 37)), some (.int n), some (.int (nI i))] [] 0 0 (c_C sw ++ (m_C ++ tl)) M' := by
    intro k
    induction k using Nat.strongRecOn with
    | _ k ih =>
      intro i M' hk hi h1 h2
      refine G_iload_n F dX8_begins_7 rfl ?_
      refine G_bipush (v := nI 16) F dX8_begins_8 (by decide) ?_
      refine G_icmp_ge (tgt := 75) F dX8_begins_10 (by decide) (fun h10 => ?_) (fun h10 => ?_)
      · rw [nI_leI (by omega) (by omega)] at h10
        have hi16 : i = 16 := by omega
        subst hi16
        refine G_vret F Rt dX8_begins_75 ⟨rfl, rfl, rfl, ?_⟩ (Nat.le_refl _) (Nat.le_refl _)
        exact ⟨fun k hk => by simp only [List.mem_cons, List.not_mem_nil, or_false, not_or] at hk; rw [h1 k (by simp [hk]), fx_u_ne hk.1], by rw [h1 37 (by decide), fx_u_eq], h2⟩
      · rw [nI_leI (by omega) (by omega)] at h10
        refine G_aload_n F dX8_begins_13 rfl ?_
        refine G_getr F fl_X8_16 dX8_begins_14 rfl rfl ?_
        refine G_iload_n F dX8_begins_17 rfl ?_
        refine G_iconst (v := 0) F dX8_begins_18 rfl ?_
        refine G_iastN F dX8_begins_19 rfl (by omega) (by decide) ?_
        refine G_aload_n F dX8_begins_20 rfl ?_
        refine G_getr F fl_X8_20 dX8_begins_21 rfl rfl ?_
        refine G_iload_n F dX8_begins_24 rfl ?_
        refine G_iconst (v := 2) F dX8_begins_25 rfl ?_
        refine G_iastN F dX8_begins_26 rfl (by omega) (by decide) ?_
        refine G_aload_n F dX8_begins_27 rfl ?_
        refine G_getr F fl_X8_23 dX8_begins_28 rfl rfl ?_
        refine G_iload_n F dX8_begins_31 rfl ?_
        refine G_iconst (v := -1) F dX8_begins_32 rfl ?_
        refine G_iastN F dX8_begins_33 rfl (by omega) (by decide) ?_
        refine G_aload_n F dX8_begins_34 rfl ?_
        refine G_getr F fl_X8_26 dX8_begins_35 rfl rfl ?_
        refine G_iload_n F dX8_begins_38 rfl ?_
        refine G_iconst (v := -1) F dX8_begins_39 rfl ?_
        refine G_iastN F dX8_begins_40 rfl (by omega) (by decide) ?_
        refine G_aload_n F dX8_begins_41 rfl ?_
        refine G_getr F fl_X8_29 dX8_begins_42 rfl rfl ?_
        refine G_iload_n F dX8_begins_45 rfl ?_
        refine G_iconst (v := 0) F dX8_begins_46 rfl ?_
        refine G_iastN F dX8_begins_47 rfl (by omega) (by decide) ?_
        refine G_aload_n F dX8_begins_48 rfl ?_
        refine G_getr F fl_X8_32 dX8_begins_49 rfl rfl ?_
        refine G_iload_n F dX8_begins_52 rfl ?_
        refine G_iconst (v := 0) F dX8_begins_53 rfl ?_
        refine G_iastN F dX8_begins_54 rfl (by omega) (by decide) ?_
        refine G_aload_n F dX8_begins_55 rfl ?_
        refine G_getr F fl_X8_35 dX8_begins_56 rfl rfl ?_
        refine G_iload_n F dX8_begins_59 rfl ?_
        refine G_iconst (v := 0) F dX8_begins_60 rfl ?_
        refine G_iastN F dX8_begins_61 rfl (by omega) (by decide) ?_
        refine G_aload_n F dX8_begins_62 rfl ?_
        refine G_getr F fl_X8_38 dX8_begins_63 rfl rfl ?_
        refine G_iload_n F dX8_begins_66 rfl ?_
        refine G_iconst (v := 0) F dX8_begins_67 rfl ?_
        refine G_iastN F dX8_begins_68 rfl (by omega) (by decide) ?_
        refine G_iinc F (1) dX8_begins_69 rfl rfl rfl rfl ?_
        simp only [List.set_cons_zero, List.set_cons_succ, nI_1]
        refine G_goto (tgt := 7) F dX8_begins_72 (by decide) ?_
        refine ih (16 - (i + 1)) (by omega) (i + 1) _ rfl (by omega) ((((((((h1.u (by decide)).u (by decide)).u (by decide)).u (by decide)).u (by decide)).u (by decide)).u (by decide)).u (by decide)) (fun b hb => ?_)
        by_cases e : b = i
        · subst e; simp [fx_u_at]
        · have := h2 b (by omega); simp [fx_u_at, e, this]
  refine G_aload_n F dX8_begins_0 rfl ?_
  refine G_iload_n F dX8_begins_1 rfl ?_
  refine G_puti F fl_X8_106 dX8_begins_2 rfl rfl rfl rfl ?_
  refine G_iconst (v := nI 0) F dX8_begins_5 (by decide) ?_
  refine G_istore_n F 2 dX8_begins_6 rfl rfl rfl (Nat.le_of_ble_eq_true rfl) ?_
  simp only [List.set_cons_zero, List.set_cons_succ]
  exact lp 16 0 _ rfl (by omega) fr.rfl (fun b hb => absurd hb (by omega))
set_option maxRecDepth 20000 in
theorem t_ascends {l : Launch} {Z : fx_Z} (hl : l.stackTraces = false) (ad : Nat → Nat) (sw : Bool) (tl : List fx_Sh) (M : fx_M)   : CV l Z yX8_ascends (.code yX8_ascends cX8_ascends 2 none) 0 [.ref (ad 37)] ad (c_C sw ++ (m_C ++ tl)) M (fun m => fr [37, 46] M m ∧ m 37 = upd (M 37) 3 (M 37 0) ∧ ∀ b, b < 16 → m 46 b = nI b) := by
  refine CT_of (ret := none) (lv0 := [some (.ref (ad 37)), none]) (by decide +kernel) hl (by simp [Value.category]) (Nat.le_of_ble_eq_true rfl) rfl ?_
  intro X F Rt _
  have lp : ∀ (k : Nat) (i : Nat) (M' : fx_M), k = 16 - i → i ≤ 16 → fr [46] (fx_u M 37 3 (M 37 0)) M' → (∀ b, b < i → M' 46 b = nI b) → GG X ad 10 [some (.ref (ad 37)), some (.int (nI i))] [] 0 0 (c_C sw ++ (m_C ++ tl)) M' := by
    intro k
    induction k using Nat.strongRecOn with
    | _ k ih =>
      intro i M' hk hi h1 h2
      refine G_iload_n F dX8_ascends_10 rfl ?_
      refine G_bipush (v := nI 16) F dX8_ascends_11 (by decide) ?_
      refine G_icmp_ge (tgt := 29) F dX8_ascends_13 (by decide) (fun h13 => ?_) (fun h13 => ?_)
      · rw [nI_leI (by omega) (by omega)] at h13
        have hi16 : i = 16 := by omega
        subst hi16
        refine G_vret F Rt dX8_ascends_29 ⟨rfl, rfl, rfl, ?_⟩ (Nat.le_refl _) (Nat.le_refl _)
        exact ⟨fun k hk => by simp only [List.mem_cons, List.not_mem_nil, or_false, not_or] at hk; rw [h1 k (by simp [hk]), fx_u_ne hk.1], by rw [h1 37 (by decide), fx_u_eq], h2⟩
      · rw [nI_leI (by omega) (by omega)] at h13
        refine G_aload_n F dX8_ascends_16 rfl ?_
        refine G_getr F fl_X8_41 dX8_ascends_17 rfl rfl ?_
        refine G_iload_n F dX8_ascends_20 rfl ?_
        refine G_iload_n F dX8_ascends_21 rfl ?_
        refine G_iastN F dX8_ascends_22 rfl (by omega) (by decide) ?_
        refine G_iinc F (1) dX8_ascends_23 rfl rfl rfl rfl ?_
        simp only [List.set_cons_zero, List.set_cons_succ, nI_1]
        refine G_goto (tgt := 10) F dX8_ascends_26 (by decide) ?_
        refine ih (16 - (i + 1)) (by omega) (i + 1) _ rfl (by omega) (h1.u (by decide)) (fun b hb => ?_)
        by_cases e : b = i
        · subst e; simp [fx_u_at]
        · have := h2 b (by omega); simp [fx_u_at, e, this]
  refine G_aload_n F dX8_ascends_0 rfl ?_
  refine G_aload_n F dX8_ascends_1 rfl ?_
  refine G_geti F fl_X8_106 dX8_ascends_2 rfl rfl ?_
  refine G_puti F fl_X8_113 dX8_ascends_5 rfl rfl rfl rfl ?_
  refine G_iconst (v := nI 0) F dX8_ascends_8 (by decide) ?_
  refine G_istore_n F 1 dX8_ascends_9 rfl rfl rfl (Nat.le_of_ble_eq_true rfl) ?_
  simp only [List.set_cons_zero, List.set_cons_succ]
  exact lp 16 0 _ rfl (by omega) fr.rfl (fun b hb => absurd hb (by omega))
/-- the reference's world of a cleared program -/
def rclr (n : Int32) (M m : fx_M) : Prop := fr [37, 38, 39, 40, 41, 42, 43, 44, 45, 46] M m ∧ m 37 = upd (upd (upd (upd (M 37) 13 0) 0 n) 3 n) 27 0 ∧ (∀ b, b < 16 → m 38 b = 0 ∧ m 39 b = 2 ∧ m 40 b = -1 ∧ m 41 b = -1 ∧ m 42 b = 0 ∧ m 43 b = 0 ∧ m 44 b = 0 ∧ m 45 b = 0) ∧ ∀ b, b < 16 → m 46 b = nI b
set_option maxRecDepth 20000 in
theorem t_clear {l : Launch} {Z : fx_Z} (hl : l.stackTraces = false) (ad : Nat → Nat) (sw : Bool) (tl : List fx_Sh) (M : fx_M) (n : Int32)  : CI l Z yX8_clear (.code yX8_clear cX8_clear 3 (some .int)) 1 [.ref (ad 37), .int n] ad (c_C sw ++ (m_C ++ tl)) M (fun r m => ((1 ≤ n ∧ n ≤ 16) ∧ r = M 37 0 ∧ rclr n M m) ∨ (¬ (1 ≤ n ∧ n ≤ 16) ∧ m = fx_u M 37 13 1)) := by
  refine CT_of (ret := (some .int)) (lv0 := [some (.ref (ad 37)), some (.int n), none]) (by decide +kernel) hl (by simp [Value.category]) (Nat.le_of_ble_eq_true rfl) rfl ?_
  intro X F Rt _
  have t0 : (1 ≤ n ∧ n ≤ 16) → GG X ad 16 [some (.ref (ad 37)), some (.int n), none] [.int 0, .ref (ad 37)] 0 0 (c_C sw ++ (m_C ++ tl)) M := by
    intro hv
    refine G_puti F fl_X8_103 dX8_clear_16 rfl rfl rfl rfl ?_
    refine G_aload_n F dX8_clear_19 rfl ?_
    refine G_geti F fl_X8_103 dX8_clear_20 rfl rfl ?_
    try simp only [fx_u_at, Nat.reduceEqDiff, false_and, and_false, true_and, and_true, ↓reduceIte]
    refine G_if_eq (tgt := 28) F dX8_clear_23 (by decide) (fun h23 => ?_) (fun h23 => ?_)
    · skip
      refine G_aload_n F dX8_clear_28 rfl ?_
      refine G_geti F fl_X8_106 dX8_clear_29 rfl rfl ?_
      try simp only [fx_u_at, Nat.reduceEqDiff, false_and, and_false, true_and, and_true, ↓reduceIte]
      refine G_istore_n F 2 dX8_clear_32 rfl rfl rfl (Nat.le_of_ble_eq_true rfl) ?_
      simp only [List.set_cons_zero, List.set_cons_succ]
      refine G_aload_n F dX8_clear_33 rfl ?_
      refine G_iload_n F dX8_clear_34 rfl ?_
      refine G_vv F mv_X8_96 dX8_clear_35 (t_begins hl ad sw tl _ n) rfl rfl rfl rfl (Nat.le_of_ble_eq_true rfl) ⟨Nat.le_of_ble_eq_true rfl, Nat.le_of_ble_eq_true rfl, Nat.le_of_ble_eq_true rfl, Nat.le_of_ble_eq_true rfl⟩ (fun M35 h35 => ?_)
      skip
      refine G_aload_n F dX8_clear_38 rfl ?_
      refine G_vv F mv_X8_100 dX8_clear_39 (t_ascends hl ad sw tl M35) rfl rfl rfl rfl (Nat.le_of_ble_eq_true rfl) ⟨Nat.le_of_ble_eq_true rfl, Nat.le_of_ble_eq_true rfl, Nat.le_of_ble_eq_true rfl, Nat.le_of_ble_eq_true rfl⟩ (fun M39 h39 => ?_)
      skip
      refine G_aload_n F dX8_clear_42 rfl ?_
      refine G_iconst (v := 0) F dX8_clear_43 rfl ?_
      refine G_puti F fl_X8_116 dX8_clear_44 rfl rfl rfl rfl ?_
      refine G_iload_n F dX8_clear_47 rfl ?_
      refine G_iret F Rt dX8_clear_48 (rfl) ⟨rfl, rfl, _, rfl, ?_⟩ (Nat.le_refl _) (Nat.le_refl _)
      refine Or.inl ⟨hv, by simp [fx_u_at], ?_, ?_, ?_, ?_⟩
      · intro k hk
        simp only [List.mem_cons, List.not_mem_nil, or_false, not_or] at hk
        rw [fx_u_ne hk.1, h39.1 k (by simp [hk]), h35.1 k (by simp [hk]), fx_u_ne hk.1]
      · rw [fx_u_eq, h39.2.1, h35.2.1, fx_u_eq, upd_self]
      · intro b hb
        have q := h35.2.2 b hb
        simp only [fx_u_ne (show (38 : Nat) ≠ 37 by decide), fx_u_ne (show (39 : Nat) ≠ 37 by decide), fx_u_ne (show (40 : Nat) ≠ 37 by decide), fx_u_ne (show (41 : Nat) ≠ 37 by decide), fx_u_ne (show (42 : Nat) ≠ 37 by decide), fx_u_ne (show (43 : Nat) ≠ 37 by decide), fx_u_ne (show (44 : Nat) ≠ 37 by decide), fx_u_ne (show (45 : Nat) ≠ 37 by decide)]
        rw [h39.1 38 (by decide), h39.1 39 (by decide), h39.1 40 (by decide), h39.1 41 (by decide), h39.1 42 (by decide), h39.1 43 (by decide), h39.1 44 (by decide), h39.1 45 (by decide)]
        exact q
      · intro b hb
        rw [fx_u_ne (by decide)]; exact h39.2.2 b hb
    · exact absurd rfl h23 --stop
  have t1 : ¬ (1 ≤ n ∧ n ≤ 16) → GG X ad 16 [some (.ref (ad 37)), some (.int n), none] [.int 1, .ref (ad 37)] 0 0 (c_C sw ++ (m_C ++ tl)) M := by
    intro hv
    refine G_puti F fl_X8_103 dX8_clear_16 rfl rfl rfl rfl ?_
    refine G_aload_n F dX8_clear_19 rfl ?_
    refine G_geti F fl_X8_103 dX8_clear_20 rfl rfl ?_
    try simp only [fx_u_at, Nat.reduceEqDiff, false_and, and_false, true_and, and_true, ↓reduceIte]
    refine G_if_eq (tgt := 28) F dX8_clear_23 (by decide) (fun h23 => ?_) (fun h23 => ?_)
    · exact absurd h23 (by decide) --stop
    · skip
      refine G_iconst (v := 0) F dX8_clear_26 rfl ?_
      refine G_iret F Rt dX8_clear_27 (rfl) ⟨rfl, rfl, _, rfl, ?_⟩ (Nat.le_refl _) (Nat.le_refl _)
      exact Or.inr ⟨hv, rfl⟩
  refine G_aload_n F dX8_clear_0 rfl ?_
  refine G_iload_n F dX8_clear_1 rfl ?_
  refine G_iconst (v := 1) F dX8_clear_2 rfl ?_
  refine G_bipush (v := 16) F dX8_clear_3 rfl ?_
  refine G_sI F ms_X8_109 dX8_clear_5 (t_isIn hl ad _ M n 1 16) rfl rfl (Nat.le_of_ble_eq_true rfl) ⟨Nat.le_of_ble_eq_true rfl, Nat.le_of_ble_eq_true rfl, Nat.le_of_ble_eq_true rfl, Nat.le_of_ble_eq_true rfl⟩ (fun r5 M5 h5 => ?_)
  rw [h5.1, h5.2]
  refine G_if_eq (tgt := 15) F dX8_clear_8 (by decide) (fun h8 => ?_) (fun h8 => ?_)
  · have q : ¬ (1 ≤ n ∧ n ≤ 16) := by simpa using h8
    refine G_iconst (v := 1) F dX8_clear_15 rfl ?_
    exact t1 q
  · have q : (1 ≤ n ∧ n ≤ 16) := by simpa using h8
    refine G_iconst (v := 0) F dX8_clear_11 rfl ?_
    refine G_goto (tgt := 16) F dX8_clear_12 (by decide) ?_
    exact t0 q
set_option maxRecDepth 20000 in
theorem t_setSize {l : Launch} {Z : fx_Z} (hl : l.stackTraces = false) (ad : Nat → Nat) (sw : Bool) (tl : List fx_Sh) (M : fx_M) {N : Nat} (b v : Int32) (hN : M 37 0 = nI N) (hN16 : N ≤ 16) (hN1 : 1 ≤ N) : CI l Z yX8_setSize (.code yX8_setSize cX8_setSize 4 (some .int)) 2 [.ref (ad 37), .int b, .int v] ad (c_C sw ++ (m_C ++ tl)) M (fun r m => (∃ x, x < N ∧ b = nI x ∧ (0 ≤ v ∧ v ≤ 60) ∧ r = M 38 x ∧ m = fx_u (fx_u M 37 13 0) 38 x v) ∨ (pin N b = false ∧ m = fx_u M 37 13 1) ∨ (pin N b = true ∧ ¬ (0 ≤ v ∧ v ≤ 60) ∧ m = fx_u M 37 13 2)) := by
  refine CT_of (ret := (some .int)) (lv0 := [some (.ref (ad 37)), some (.int b), some (.int v), none]) (by decide +kernel) hl (by simp [Value.category]) (Nat.le_of_ble_eq_true rfl) rfl ?_
  intro X F Rt _
  have t0 : (pin N b = true ∧ (0 ≤ v ∧ v ≤ 60)) → GG X ad 28 [some (.ref (ad 37)), some (.int b), some (.int v), none] [.int 0, .ref (ad 37)] 0 0 (c_C sw ++ (m_C ++ tl)) M := by
    intro hv
    refine G_puti F fl_X8_103 dX8_setSize_28 rfl rfl rfl rfl ?_
    refine G_aload_n F dX8_setSize_31 rfl ?_
    refine G_geti F fl_X8_103 dX8_setSize_32 rfl rfl ?_
    try simp only [fx_u_at, Nat.reduceEqDiff, false_and, and_false, true_and, and_true, ↓reduceIte]
    refine G_if_eq (tgt := 40) F dX8_setSize_35 (by decide) (fun h35 => ?_) (fun h35 => ?_)
    · skip
      obtain ⟨x, hx1, hx2⟩ := pin_spec hN16 hv.1
      subst hx2
      refine G_aload_n F dX8_setSize_40 rfl ?_
      refine G_getr F fl_X8_16 dX8_setSize_41 rfl rfl ?_
      refine G_iload_n F dX8_setSize_44 rfl ?_
      refine G_ialdN F dX8_setSize_45 rfl (by omega) (by decide) ?_
      try simp only [fx_u_at, Nat.reduceEqDiff, false_and, and_false, true_and, and_true, ↓reduceIte]
      refine G_istore_n F 3 dX8_setSize_46 rfl rfl rfl (Nat.le_of_ble_eq_true rfl) ?_
      simp only [List.set_cons_zero, List.set_cons_succ]
      refine G_aload_n F dX8_setSize_47 rfl ?_
      refine G_getr F fl_X8_16 dX8_setSize_48 rfl rfl ?_
      refine G_iload_n F dX8_setSize_51 rfl ?_
      refine G_iload_n F dX8_setSize_52 rfl ?_
      refine G_iastN F dX8_setSize_53 rfl (by omega) (by decide) ?_
      refine G_iload_n F dX8_setSize_54 rfl ?_
      refine G_iret F Rt dX8_setSize_55 (rfl) ⟨rfl, rfl, _, rfl, ?_⟩ (Nat.le_refl _) (Nat.le_refl _)
      exact Or.inl ⟨x, hx1, rfl, hv.2, rfl, rfl⟩
    · exact absurd rfl h35 --stop
  have t1 : pin N b = false → GG X ad 28 [some (.ref (ad 37)), some (.int b), some (.int v), none] [.int 1, .ref (ad 37)] 0 0 (c_C sw ++ (m_C ++ tl)) M := by
    intro hv
    refine G_puti F fl_X8_103 dX8_setSize_28 rfl rfl rfl rfl ?_
    refine G_aload_n F dX8_setSize_31 rfl ?_
    refine G_geti F fl_X8_103 dX8_setSize_32 rfl rfl ?_
    try simp only [fx_u_at, Nat.reduceEqDiff, false_and, and_false, true_and, and_true, ↓reduceIte]
    refine G_if_eq (tgt := 40) F dX8_setSize_35 (by decide) (fun h35 => ?_) (fun h35 => ?_)
    · exact absurd h35 (by decide) --stop
    · skip
      refine G_iconst (v := 0) F dX8_setSize_38 rfl ?_
      refine G_iret F Rt dX8_setSize_39 (rfl) ⟨rfl, rfl, _, rfl, ?_⟩ (Nat.le_refl _) (Nat.le_refl _)
      exact Or.inr (Or.inl ⟨hv, rfl⟩)
  have t2 : (pin N b = true ∧ ¬ (0 ≤ v ∧ v ≤ 60)) → GG X ad 28 [some (.ref (ad 37)), some (.int b), some (.int v), none] [.int 2, .ref (ad 37)] 0 0 (c_C sw ++ (m_C ++ tl)) M := by
    intro hv
    refine G_puti F fl_X8_103 dX8_setSize_28 rfl rfl rfl rfl ?_
    refine G_aload_n F dX8_setSize_31 rfl ?_
    refine G_geti F fl_X8_103 dX8_setSize_32 rfl rfl ?_
    try simp only [fx_u_at, Nat.reduceEqDiff, false_and, and_false, true_and, and_true, ↓reduceIte]
    refine G_if_eq (tgt := 40) F dX8_setSize_35 (by decide) (fun h35 => ?_) (fun h35 => ?_)
    · exact absurd h35 (by decide) --stop
    · skip
      refine G_iconst (v := 0) F dX8_setSize_38 rfl ?_
      refine G_iret F Rt dX8_setSize_39 (rfl) ⟨rfl, rfl, _, rfl, ?_⟩ (Nat.le_refl _) (Nat.le_refl _)
      exact Or.inr (Or.inr ⟨hv.1, hv.2, rfl⟩)
  refine G_aload_n F dX8_setSize_0 rfl ?_
  refine G_aload_n F dX8_setSize_1 rfl ?_
  refine G_iload_n F dX8_setSize_2 rfl ?_
  refine G_vI F mv_X8_119 dX8_setSize_3 (t_isBlock hl ad sw tl M (N := N) b hN hN16 hN1) rfl rfl rfl rfl (Nat.le_of_ble_eq_true rfl) ⟨Nat.le_of_ble_eq_true rfl, Nat.le_of_ble_eq_true rfl, Nat.le_of_ble_eq_true rfl, Nat.le_of_ble_eq_true rfl⟩ (fun r3 M3 h3 => ?_)
  rw [h3.1, h3.2]
  refine G_if_ne (tgt := 13) F dX8_setSize_6 (by decide) (fun h6 => ?_) (fun h6 => ?_)
  · have q6 : pin N b = true := by simpa using h6
    refine G_iload_n F dX8_setSize_13 rfl ?_
    refine G_iconst (v := 0) F dX8_setSize_14 rfl ?_
    refine G_bipush (v := 60) F dX8_setSize_15 rfl ?_
    refine G_sI F ms_X8_109 dX8_setSize_17 (t_isIn hl ad _ M v 0 60) rfl rfl (Nat.le_of_ble_eq_true rfl) ⟨Nat.le_of_ble_eq_true rfl, Nat.le_of_ble_eq_true rfl, Nat.le_of_ble_eq_true rfl, Nat.le_of_ble_eq_true rfl⟩ (fun r17 M17 h17 => ?_)
    rw [h17.1, h17.2]
    refine G_if_eq (tgt := 27) F dX8_setSize_20 (by decide) (fun h20 => ?_) (fun h20 => ?_)
    · have q20 : ¬ (0 ≤ v ∧ v ≤ 60) := by simpa using h20
      refine G_iconst (v := 2) F dX8_setSize_27 rfl ?_
      exact t2 ⟨q6, q20⟩
    · have q20 : (0 ≤ v ∧ v ≤ 60) := by simpa using h20
      refine G_iconst (v := 0) F dX8_setSize_23 rfl ?_
      refine G_goto (tgt := 28) F dX8_setSize_24 (by decide) ?_
      exact t0 ⟨q6, q20⟩
  · have q6 : pin N b = false := by simpa using h6
    refine G_iconst (v := 1) F dX8_setSize_9 rfl ?_
    refine G_goto (tgt := 28) F dX8_setSize_10 (by decide) ?_
    exact t1 q6
/-- the reference's world behind a changed end -/
def r_ce (M : fx_M) (b : Nat) (k f s p : Int32) : fx_M := fx_u (fx_u (fx_u (fx_u (fx_u (fx_u M 39 b k) 40 b f) 41 b s) 42 b p) 44 b 0) 45 b 0
set_option maxRecDepth 20000 in
theorem t_ends {l : Launch} {Z : fx_Z} (hl : l.stackTraces = false) (ad : Nat → Nat) (sw : Bool) (tl : List fx_Sh) (M : fx_M) {b : Nat} (k f s p : Int32) (hb : b < 16) : CI l Z yX8_ends (.code yX8_ends cX8_ends 7 (some .int)) 0 [.ref (ad 37), .int (nI b), .int k, .int f, .int s, .int p] ad (c_C sw ++ (m_C ++ tl)) M (fun r m => r = M 39 b ∧ m = r_ce M b k f s p) := by
  refine CT_of (ret := (some .int)) (lv0 := [some (.ref (ad 37)), some (.int (nI b)), some (.int k), some (.int f), some (.int s), some (.int p), none]) (by decide +kernel) hl (by simp [Value.category]) (Nat.le_of_ble_eq_true rfl) rfl ?_
  intro X F Rt _
  refine G_aload_n F dX8_ends_0 rfl ?_
  refine G_getr F fl_X8_20 dX8_ends_1 rfl rfl ?_
  refine G_iload_n F dX8_ends_4 rfl ?_
  refine G_ialdN F dX8_ends_5 rfl (by omega) (by decide) ?_
  refine G_istore F dX8_ends_6 rfl rfl (Nat.le_of_ble_eq_true rfl) ?_
  simp only [List.set_cons_zero, List.set_cons_succ]
  refine G_aload_n F dX8_ends_8 rfl ?_
  refine G_getr F fl_X8_20 dX8_ends_9 rfl rfl ?_
  refine G_iload_n F dX8_ends_12 rfl ?_
  refine G_iload_n F dX8_ends_13 rfl ?_
  refine G_iastN F dX8_ends_14 rfl (by omega) (by decide) ?_
  refine G_aload_n F dX8_ends_15 rfl ?_
  refine G_getr F fl_X8_23 dX8_ends_16 rfl rfl ?_
  refine G_iload_n F dX8_ends_19 rfl ?_
  refine G_iload_n F dX8_ends_20 rfl ?_
  refine G_iastN F dX8_ends_21 rfl (by omega) (by decide) ?_
  refine G_aload_n F dX8_ends_22 rfl ?_
  refine G_getr F fl_X8_26 dX8_ends_23 rfl rfl ?_
  refine G_iload_n F dX8_ends_26 rfl ?_
  refine G_iload F dX8_ends_27 rfl ?_
  refine G_iastN F dX8_ends_29 rfl (by omega) (by decide) ?_
  refine G_aload_n F dX8_ends_30 rfl ?_
  refine G_getr F fl_X8_29 dX8_ends_31 rfl rfl ?_
  refine G_iload_n F dX8_ends_34 rfl ?_
  refine G_iload F dX8_ends_35 rfl ?_
  refine G_iastN F dX8_ends_37 rfl (by omega) (by decide) ?_
  refine G_aload_n F dX8_ends_38 rfl ?_
  refine G_getr F fl_X8_35 dX8_ends_39 rfl rfl ?_
  refine G_iload_n F dX8_ends_42 rfl ?_
  refine G_iconst (v := 0) F dX8_ends_43 rfl ?_
  refine G_iastN F dX8_ends_44 rfl (by omega) (by decide) ?_
  refine G_aload_n F dX8_ends_45 rfl ?_
  refine G_getr F fl_X8_38 dX8_ends_46 rfl rfl ?_
  refine G_iload_n F dX8_ends_49 rfl ?_
  refine G_iconst (v := 0) F dX8_ends_50 rfl ?_
  refine G_iastN F dX8_ends_51 rfl (by omega) (by decide) ?_
  refine G_iload F dX8_ends_52 rfl ?_
  refine G_iret F Rt dX8_ends_54 (rfl) ⟨rfl, rfl, _, rfl, ?_⟩ (Nat.le_refl _) (Nat.le_refl _)
  exact ⟨rfl, rfl⟩
set_option maxRecDepth 20000 in
theorem t_setGo {l : Launch} {Z : fx_Z} (hl : l.stackTraces = false) (ad : Nat → Nat) (sw : Bool) (tl : List fx_Sh) (M : fx_M) {N : Nat} (b t : Int32) (hN : M 37 0 = nI N) (hN16 : N ≤ 16) (hN1 : 1 ≤ N) : CI l Z yX8_setGo (.code yX8_setGo cX8_setGo 3 (some .int)) 2 [.ref (ad 37), .int b, .int t] ad (c_C sw ++ (m_C ++ tl)) M (fun r m => (∃ x y, x < N ∧ y < N ∧ b = nI x ∧ t = nI y ∧ r = M 39 x ∧ m = r_ce (fx_u M 37 13 0) x 0 (nI y) (-1) 0) ∨ ((pin N b && pin N t) = false ∧ m = fx_u M 37 13 1)) := by
  refine CT_of (ret := (some .int)) (lv0 := [some (.ref (ad 37)), some (.int b), some (.int t)]) (by decide +kernel) hl (by simp [Value.category]) (Nat.le_of_ble_eq_true rfl) rfl ?_
  intro X F Rt _
  have t0 : (pin N b = true ∧ pin N t = true) → GG X ad 22 [some (.ref (ad 37)), some (.int b), some (.int t)] [.int 0, .ref (ad 37)] 0 0 (c_C sw ++ (m_C ++ tl)) M := by
    intro hv
    refine G_puti F fl_X8_103 dX8_setGo_22 rfl rfl rfl rfl ?_
    refine G_aload_n F dX8_setGo_25 rfl ?_
    refine G_geti F fl_X8_103 dX8_setGo_26 rfl rfl ?_
    try simp only [fx_u_at, Nat.reduceEqDiff, false_and, and_false, true_and, and_true, ↓reduceIte]
    refine G_if_ne (tgt := 44) F dX8_setGo_29 (by decide) (fun h29 => ?_) (fun h29 => ?_)
    · exact absurd rfl h29 --stop
    · skip
      obtain ⟨x, hx1, hx2⟩ := pin_spec hN16 hv.1
      obtain ⟨y, hy1, hy2⟩ := pin_spec hN16 hv.2
      subst hx2 hy2
      refine G_aload_n F dX8_setGo_32 rfl ?_
      refine G_iload_n F dX8_setGo_33 rfl ?_
      refine G_iconst (v := 0) F dX8_setGo_34 rfl ?_
      refine G_iload_n F dX8_setGo_35 rfl ?_
      refine G_iconst (v := -1) F dX8_setGo_36 rfl ?_
      refine G_iconst (v := 0) F dX8_setGo_37 rfl ?_
      refine G_vI F mv_X8_123 dX8_setGo_38 (t_ends hl ad sw tl (fx_u M 37 13 0) (b := x) 0 (nI y) (-1) 0 (by omega)) rfl rfl rfl rfl (Nat.le_of_ble_eq_true rfl) ⟨Nat.le_of_ble_eq_true rfl, Nat.le_of_ble_eq_true rfl, Nat.le_of_ble_eq_true rfl, Nat.le_of_ble_eq_true rfl⟩ (fun r38 M38 h38 => ?_)
      rw [h38.1, h38.2]
      refine G_goto (tgt := 45) F dX8_setGo_41 (by decide) ?_
      refine G_iret F Rt dX8_setGo_45 (rfl) ⟨rfl, rfl, _, rfl, ?_⟩ (Nat.le_refl _) (Nat.le_refl _)
      exact Or.inl ⟨x, y, hx1, hy1, rfl, rfl, by rw [fx_u_ne (by decide)], rfl⟩
  have t1 : (pin N b && pin N t) = false → GG X ad 22 [some (.ref (ad 37)), some (.int b), some (.int t)] [.int 1, .ref (ad 37)] 0 0 (c_C sw ++ (m_C ++ tl)) M := by
    intro hv
    refine G_puti F fl_X8_103 dX8_setGo_22 rfl rfl rfl rfl ?_
    refine G_aload_n F dX8_setGo_25 rfl ?_
    refine G_geti F fl_X8_103 dX8_setGo_26 rfl rfl ?_
    try simp only [fx_u_at, Nat.reduceEqDiff, false_and, and_false, true_and, and_true, ↓reduceIte]
    refine G_if_ne (tgt := 44) F dX8_setGo_29 (by decide) (fun h29 => ?_) (fun h29 => ?_)
    · skip
      refine G_iconst (v := 0) F dX8_setGo_44 rfl ?_
      refine G_iret F Rt dX8_setGo_45 (rfl) ⟨rfl, rfl, _, rfl, ?_⟩ (Nat.le_refl _) (Nat.le_refl _)
      exact Or.inr ⟨hv, rfl⟩
    · exact absurd h29 (by decide) --stop
  refine G_aload_n F dX8_setGo_0 rfl ?_
  refine G_aload_n F dX8_setGo_1 rfl ?_
  refine G_iload_n F dX8_setGo_2 rfl ?_
  refine G_vI F mv_X8_119 dX8_setGo_3 (t_isBlock hl ad sw tl M (N := N) b hN hN16 hN1) rfl rfl rfl rfl (Nat.le_of_ble_eq_true rfl) ⟨Nat.le_of_ble_eq_true rfl, Nat.le_of_ble_eq_true rfl, Nat.le_of_ble_eq_true rfl, Nat.le_of_ble_eq_true rfl⟩ (fun r3 M3 h3 => ?_)
  rw [h3.1, h3.2]
  refine G_if_eq (tgt := 21) F dX8_setGo_6 (by decide) (fun h6 => ?_) (fun h6 => ?_)
  · have q6 : pin N b = false := by simpa using h6
    refine G_iconst (v := 1) F dX8_setGo_21 rfl ?_
    exact t1 (by rw [q6]; rfl)
  · have q6 : pin N b = true := by simpa using h6
    refine G_aload_n F dX8_setGo_9 rfl ?_
    refine G_iload_n F dX8_setGo_10 rfl ?_
    refine G_vI F mv_X8_119 dX8_setGo_11 (t_isBlock hl ad sw tl M (N := N) t hN hN16 hN1) rfl rfl rfl rfl (Nat.le_of_ble_eq_true rfl) ⟨Nat.le_of_ble_eq_true rfl, Nat.le_of_ble_eq_true rfl, Nat.le_of_ble_eq_true rfl, Nat.le_of_ble_eq_true rfl⟩ (fun r11 M11 h11 => ?_)
    rw [h11.1, h11.2]
    refine G_if_eq (tgt := 21) F dX8_setGo_14 (by decide) (fun h14 => ?_) (fun h14 => ?_)
    · have q14 : pin N t = false := by simpa using h14
      refine G_iconst (v := 1) F dX8_setGo_21 rfl ?_
      exact t1 (by rw [q6, q14]; rfl)
    · have q14 : pin N t = true := by simpa using h14
      refine G_iconst (v := 0) F dX8_setGo_17 rfl ?_
      refine G_goto (tgt := 22) F dX8_setGo_18 (by decide) ?_
      exact t0 ⟨q6, q14⟩
set_option maxRecDepth 20000 in
theorem t_setIf {l : Launch} {Z : fx_Z} (hl : l.stackTraces = false) (ad : Nat → Nat) (sw : Bool) (tl : List fx_Sh) (M : fx_M) {N : Nat} (b f s p : Int32) (hN : M 37 0 = nI N) (hN16 : N ≤ 16) (hN1 : 1 ≤ N) : CI l Z yX8_setIf (.code yX8_setIf cX8_setIf 5 (some .int)) 2 [.ref (ad 37), .int b, .int f, .int s, .int p] ad (c_C sw ++ (m_C ++ tl)) M (fun r m => (∃ x y z, x < N ∧ y < N ∧ z < N ∧ b = nI x ∧ f = nI y ∧ s = nI z ∧ y ≠ z ∧ r = M 39 x ∧ m = r_ce (fx_u M 37 13 0) x 1 (nI y) (nI z) p) ∨ ((pin N b && (pin N f && pin N s)) = false ∧ m = fx_u M 37 13 1) ∨ ((pin N b && (pin N f && pin N s)) = true ∧ f = s ∧ m = fx_u M 37 13 2)) := by
  refine CT_of (ret := (some .int)) (lv0 := [some (.ref (ad 37)), some (.int b), some (.int f), some (.int s), some (.int p)]) (by decide +kernel) hl (by simp [Value.category]) (Nat.le_of_ble_eq_true rfl) rfl ?_
  intro X F Rt _
  have t0 : (pin N b = true ∧ pin N f = true ∧ pin N s = true ∧ ¬ f = s) → GG X ad 39 [some (.ref (ad 37)), some (.int b), some (.int f), some (.int s), some (.int p)] [.int 0, .ref (ad 37)] 0 0 (c_C sw ++ (m_C ++ tl)) M := by
    intro hv
    refine G_puti F fl_X8_103 dX8_setIf_39 rfl rfl rfl rfl ?_
    refine G_aload_n F dX8_setIf_42 rfl ?_
    refine G_geti F fl_X8_103 dX8_setIf_43 rfl rfl ?_
    try simp only [fx_u_at, Nat.reduceEqDiff, false_and, and_false, true_and, and_true, ↓reduceIte]
    refine G_if_ne (tgt := 62) F dX8_setIf_46 (by decide) (fun h46 => ?_) (fun h46 => ?_)
    · exact absurd rfl h46 --stop
    · skip
      obtain ⟨x, hx1, hx2⟩ := pin_spec hN16 hv.1
      obtain ⟨y, hy1, hy2⟩ := pin_spec hN16 hv.2.1
      obtain ⟨z, hz1, hz2⟩ := pin_spec hN16 hv.2.2.1
      subst hx2 hy2 hz2
      refine G_aload_n F dX8_setIf_49 rfl ?_
      refine G_iload_n F dX8_setIf_50 rfl ?_
      refine G_iconst (v := 1) F dX8_setIf_51 rfl ?_
      refine G_iload_n F dX8_setIf_52 rfl ?_
      refine G_iload_n F dX8_setIf_53 rfl ?_
      refine G_iload F dX8_setIf_54 rfl ?_
      refine G_vI F mv_X8_123 dX8_setIf_56 (t_ends hl ad sw tl (fx_u M 37 13 0) (b := x) 1 (nI y) (nI z) p (by omega)) rfl rfl rfl rfl (Nat.le_of_ble_eq_true rfl) ⟨Nat.le_of_ble_eq_true rfl, Nat.le_of_ble_eq_true rfl, Nat.le_of_ble_eq_true rfl, Nat.le_of_ble_eq_true rfl⟩ (fun r56 M56 h56 => ?_)
      rw [h56.1, h56.2]
      refine G_goto (tgt := 63) F dX8_setIf_59 (by decide) ?_
      refine G_iret F Rt dX8_setIf_63 (rfl) ⟨rfl, rfl, _, rfl, ?_⟩ (Nat.le_refl _) (Nat.le_refl _)
      exact Or.inl ⟨x, y, z, hx1, hy1, hz1, rfl, rfl, rfl, fun q => hv.2.2.2 (by rw [q]), by rw [fx_u_ne (by decide)], rfl⟩
  have t1 : (pin N b && (pin N f && pin N s)) = false → GG X ad 39 [some (.ref (ad 37)), some (.int b), some (.int f), some (.int s), some (.int p)] [.int 1, .ref (ad 37)] 0 0 (c_C sw ++ (m_C ++ tl)) M := by
    intro hv
    refine G_puti F fl_X8_103 dX8_setIf_39 rfl rfl rfl rfl ?_
    refine G_aload_n F dX8_setIf_42 rfl ?_
    refine G_geti F fl_X8_103 dX8_setIf_43 rfl rfl ?_
    try simp only [fx_u_at, Nat.reduceEqDiff, false_and, and_false, true_and, and_true, ↓reduceIte]
    refine G_if_ne (tgt := 62) F dX8_setIf_46 (by decide) (fun h46 => ?_) (fun h46 => ?_)
    · skip
      refine G_iconst (v := 0) F dX8_setIf_62 rfl ?_
      refine G_iret F Rt dX8_setIf_63 (rfl) ⟨rfl, rfl, _, rfl, ?_⟩ (Nat.le_refl _) (Nat.le_refl _)
      exact Or.inr (Or.inl ⟨hv, rfl⟩)
    · exact absurd h46 (by decide) --stop
  have t2 : ((pin N b && (pin N f && pin N s)) = true ∧ f = s) → GG X ad 39 [some (.ref (ad 37)), some (.int b), some (.int f), some (.int s), some (.int p)] [.int 2, .ref (ad 37)] 0 0 (c_C sw ++ (m_C ++ tl)) M := by
    intro hv
    refine G_puti F fl_X8_103 dX8_setIf_39 rfl rfl rfl rfl ?_
    refine G_aload_n F dX8_setIf_42 rfl ?_
    refine G_geti F fl_X8_103 dX8_setIf_43 rfl rfl ?_
    try simp only [fx_u_at, Nat.reduceEqDiff, false_and, and_false, true_and, and_true, ↓reduceIte]
    refine G_if_ne (tgt := 62) F dX8_setIf_46 (by decide) (fun h46 => ?_) (fun h46 => ?_)
    · skip
      refine G_iconst (v := 0) F dX8_setIf_62 rfl ?_
      refine G_iret F Rt dX8_setIf_63 (rfl) ⟨rfl, rfl, _, rfl, ?_⟩ (Nat.le_refl _) (Nat.le_refl _)
      exact Or.inr (Or.inr ⟨hv.1, hv.2, rfl⟩)
    · exact absurd h46 (by decide) --stop
  refine G_aload_n F dX8_setIf_0 rfl ?_
  refine G_aload_n F dX8_setIf_1 rfl ?_
  refine G_iload_n F dX8_setIf_2 rfl ?_
  refine G_vI F mv_X8_119 dX8_setIf_3 (t_isBlock hl ad sw tl M (N := N) b hN hN16 hN1) rfl rfl rfl rfl (Nat.le_of_ble_eq_true rfl) ⟨Nat.le_of_ble_eq_true rfl, Nat.le_of_ble_eq_true rfl, Nat.le_of_ble_eq_true rfl, Nat.le_of_ble_eq_true rfl⟩ (fun r3 M3 h3 => ?_)
  rw [h3.1, h3.2]
  refine G_if_eq (tgt := 25) F dX8_setIf_6 (by decide) (fun h6 => ?_) (fun h6 => ?_)
  · have q6 : pin N b = false := by simpa using h6
    refine G_iconst (v := 1) F dX8_setIf_25 rfl ?_
    refine G_goto (tgt := 39) F dX8_setIf_26 (by decide) ?_
    exact t1 (by rw [q6]; rfl)
  · have q6 : pin N b = true := by simpa using h6
    refine G_aload_n F dX8_setIf_9 rfl ?_
    refine G_iload_n F dX8_setIf_10 rfl ?_
    refine G_vI F mv_X8_119 dX8_setIf_11 (t_isBlock hl ad sw tl M (N := N) f hN hN16 hN1) rfl rfl rfl rfl (Nat.le_of_ble_eq_true rfl) ⟨Nat.le_of_ble_eq_true rfl, Nat.le_of_ble_eq_true rfl, Nat.le_of_ble_eq_true rfl, Nat.le_of_ble_eq_true rfl⟩ (fun r11 M11 h11 => ?_)
    rw [h11.1, h11.2]
    refine G_if_eq (tgt := 25) F dX8_setIf_14 (by decide) (fun h14 => ?_) (fun h14 => ?_)
    · have q14 : pin N f = false := by simpa using h14
      refine G_iconst (v := 1) F dX8_setIf_25 rfl ?_
      refine G_goto (tgt := 39) F dX8_setIf_26 (by decide) ?_
      exact t1 (by rw [q6, q14]; rfl)
    · have q14 : pin N f = true := by simpa using h14
      refine G_aload_n F dX8_setIf_17 rfl ?_
      refine G_iload_n F dX8_setIf_18 rfl ?_
      refine G_vI F mv_X8_119 dX8_setIf_19 (t_isBlock hl ad sw tl M (N := N) s hN hN16 hN1) rfl rfl rfl rfl (Nat.le_of_ble_eq_true rfl) ⟨Nat.le_of_ble_eq_true rfl, Nat.le_of_ble_eq_true rfl, Nat.le_of_ble_eq_true rfl, Nat.le_of_ble_eq_true rfl⟩ (fun r19 M19 h19 => ?_)
      rw [h19.1, h19.2]
      refine G_if_ne (tgt := 29) F dX8_setIf_22 (by decide) (fun h22 => ?_) (fun h22 => ?_)
      · have q22 : pin N s = true := by simpa using h22
        refine G_iload_n F dX8_setIf_29 rfl ?_
        refine G_iload_n F dX8_setIf_30 rfl ?_
        refine G_icmp_ne (tgt := 38) F dX8_setIf_31 (by decide) (fun h31 => ?_) (fun h31 => ?_)
        · refine G_iconst (v := 0) F dX8_setIf_38 rfl ?_
          exact t0 ⟨q6, q14, q22, h31⟩
        · refine G_iconst (v := 2) F dX8_setIf_34 rfl ?_
          refine G_goto (tgt := 39) F dX8_setIf_35 (by decide) ?_
          exact t2 ⟨by rw [q6, q14, q22]; rfl, h31⟩
      · have q22 : pin N s = false := by simpa using h22
        refine G_iconst (v := 1) F dX8_setIf_25 rfl ?_
        refine G_goto (tgt := 39) F dX8_setIf_26 (by decide) ?_
        exact t1 (by rw [q6, q14, q22]; rfl)
set_option maxRecDepth 20000 in
theorem t_setStop {l : Launch} {Z : fx_Z} (hl : l.stackTraces = false) (ad : Nat → Nat) (sw : Bool) (tl : List fx_Sh) (M : fx_M) {N : Nat} (b : Int32) (hN : M 37 0 = nI N) (hN16 : N ≤ 16) (hN1 : 1 ≤ N) : CI l Z yX8_setStop (.code yX8_setStop cX8_setStop 2 (some .int)) 2 [.ref (ad 37), .int b] ad (c_C sw ++ (m_C ++ tl)) M (fun r m => (∃ x, x < N ∧ b = nI x ∧ r = M 39 x ∧ m = r_ce (fx_u M 37 13 0) x 2 (-1) (-1) 0) ∨ (pin N b = false ∧ m = fx_u M 37 13 1)) := by
  refine CT_of (ret := (some .int)) (lv0 := [some (.ref (ad 37)), some (.int b)]) (by decide +kernel) hl (by simp [Value.category]) (Nat.le_of_ble_eq_true rfl) rfl ?_
  intro X F Rt _
  have t0 : pin N b = true → GG X ad 14 [some (.ref (ad 37)), some (.int b)] [.int 0, .ref (ad 37)] 0 0 (c_C sw ++ (m_C ++ tl)) M := by
    intro hv
    refine G_puti F fl_X8_103 dX8_setStop_14 rfl rfl rfl rfl ?_
    refine G_aload_n F dX8_setStop_17 rfl ?_
    refine G_geti F fl_X8_103 dX8_setStop_18 rfl rfl ?_
    try simp only [fx_u_at, Nat.reduceEqDiff, false_and, and_false, true_and, and_true, ↓reduceIte]
    refine G_if_ne (tgt := 36) F dX8_setStop_21 (by decide) (fun h21 => ?_) (fun h21 => ?_)
    · exact absurd rfl h21 --stop
    · skip
      obtain ⟨x, hx1, hx2⟩ := pin_spec hN16 hv
      subst hx2
      refine G_aload_n F dX8_setStop_24 rfl ?_
      refine G_iload_n F dX8_setStop_25 rfl ?_
      refine G_iconst (v := 2) F dX8_setStop_26 rfl ?_
      refine G_iconst (v := -1) F dX8_setStop_27 rfl ?_
      refine G_iconst (v := -1) F dX8_setStop_28 rfl ?_
      refine G_iconst (v := 0) F dX8_setStop_29 rfl ?_
      refine G_vI F mv_X8_123 dX8_setStop_30 (t_ends hl ad sw tl (fx_u M 37 13 0) (b := x) 2 (-1) (-1) 0 (by omega)) rfl rfl rfl rfl (Nat.le_of_ble_eq_true rfl) ⟨Nat.le_of_ble_eq_true rfl, Nat.le_of_ble_eq_true rfl, Nat.le_of_ble_eq_true rfl, Nat.le_of_ble_eq_true rfl⟩ (fun r30 M30 h30 => ?_)
      rw [h30.1, h30.2]
      refine G_goto (tgt := 37) F dX8_setStop_33 (by decide) ?_
      refine G_iret F Rt dX8_setStop_37 (rfl) ⟨rfl, rfl, _, rfl, ?_⟩ (Nat.le_refl _) (Nat.le_refl _)
      exact Or.inl ⟨x, hx1, rfl, by rw [fx_u_ne (by decide)], rfl⟩
  have t1 : pin N b = false → GG X ad 14 [some (.ref (ad 37)), some (.int b)] [.int 1, .ref (ad 37)] 0 0 (c_C sw ++ (m_C ++ tl)) M := by
    intro hv
    refine G_puti F fl_X8_103 dX8_setStop_14 rfl rfl rfl rfl ?_
    refine G_aload_n F dX8_setStop_17 rfl ?_
    refine G_geti F fl_X8_103 dX8_setStop_18 rfl rfl ?_
    try simp only [fx_u_at, Nat.reduceEqDiff, false_and, and_false, true_and, and_true, ↓reduceIte]
    refine G_if_ne (tgt := 36) F dX8_setStop_21 (by decide) (fun h21 => ?_) (fun h21 => ?_)
    · skip
      refine G_iconst (v := 0) F dX8_setStop_36 rfl ?_
      refine G_iret F Rt dX8_setStop_37 (rfl) ⟨rfl, rfl, _, rfl, ?_⟩ (Nat.le_refl _) (Nat.le_refl _)
      exact Or.inr ⟨hv, rfl⟩
    · exact absurd h21 (by decide) --stop
  refine G_aload_n F dX8_setStop_0 rfl ?_
  refine G_aload_n F dX8_setStop_1 rfl ?_
  refine G_iload_n F dX8_setStop_2 rfl ?_
  refine G_vI F mv_X8_119 dX8_setStop_3 (t_isBlock hl ad sw tl M (N := N) b hN hN16 hN1) rfl rfl rfl rfl (Nat.le_of_ble_eq_true rfl) ⟨Nat.le_of_ble_eq_true rfl, Nat.le_of_ble_eq_true rfl, Nat.le_of_ble_eq_true rfl, Nat.le_of_ble_eq_true rfl⟩ (fun r3 M3 h3 => ?_)
  rw [h3.1, h3.2]
  refine G_if_eq (tgt := 13) F dX8_setStop_6 (by decide) (fun h6 => ?_) (fun h6 => ?_)
  · have q6 : pin N b = false := by simpa using h6
    refine G_iconst (v := 1) F dX8_setStop_13 rfl ?_
    exact t1 q6
  · have q6 : pin N b = true := by simpa using h6
    refine G_iconst (v := 0) F dX8_setStop_9 rfl ?_
    refine G_goto (tgt := 14) F dX8_setStop_10 (by decide) ?_
    exact t0 q6
def r_sw (M : fx_M) (b : Nat) : fx_M := fx_u (fx_u (fx_u (fx_u (fx_u M 40 b (M 41 b)) 41 b (M 40 b)) 44 b (M 45 b)) 45 b (M 44 b)) 42 b (M 42 b ^^^ -1)
set_option maxRecDepth 20000 in
theorem t_invert {l : Launch} {Z : fx_Z} (hl : l.stackTraces = false) (ad : Nat → Nat) (sw : Bool) (tl : List fx_Sh) (M : fx_M) {N : Nat} (b : Int32) (hN : M 37 0 = nI N) (hN16 : N ≤ 16) (hN1 : 1 ≤ N) : CI l Z yX8_invert (.code yX8_invert cX8_invert 4 (some .int)) 2 [.ref (ad 37), .int b] ad (c_C sw ++ (m_C ++ tl)) M (fun r m => (∃ x, x < N ∧ b = nI x ∧ M 39 x = 1 ∧ r = M 41 x ∧ m = r_sw (fx_u M 37 13 0) x) ∨ (pin N b = false ∧ m = fx_u M 37 13 1) ∨ ((∃ x, x < N ∧ b = nI x ∧ M 39 x ≠ 1) ∧ m = fx_u M 37 13 2)) := by
  refine CT_of (ret := (some .int)) (lv0 := [some (.ref (ad 37)), some (.int b), none, none]) (by decide +kernel) hl (by simp [Value.category]) (Nat.le_of_ble_eq_true rfl) rfl ?_
  intro X F Rt _
  have t0 : (∃ x, x < N ∧ b = nI x ∧ M 39 x = 1) → GG X ad 28 [some (.ref (ad 37)), some (.int b), none, none] [.int 0, .ref (ad 37)] 0 0 (c_C sw ++ (m_C ++ tl)) M := by
    intro hv
    refine G_puti F fl_X8_103 dX8_invert_28 rfl rfl rfl rfl ?_
    refine G_aload_n F dX8_invert_31 rfl ?_
    refine G_geti F fl_X8_103 dX8_invert_32 rfl rfl ?_
    try simp only [fx_u_at, Nat.reduceEqDiff, false_and, and_false, true_and, and_true, ↓reduceIte]
    refine G_if_eq (tgt := 40) F dX8_invert_35 (by decide) (fun h35 => ?_) (fun h35 => ?_)
    · skip
      obtain ⟨x, hx1, hx2, hx3⟩ := hv
      subst hx2
      refine G_aload_n F dX8_invert_40 rfl ?_
      refine G_getr F fl_X8_23 dX8_invert_41 rfl rfl ?_
      refine G_iload_n F dX8_invert_44 rfl ?_
      refine G_ialdN F dX8_invert_45 rfl (by omega) (by decide) ?_
      try simp only [fx_u_at, Nat.reduceEqDiff, false_and, and_false, true_and, and_true, ↓reduceIte]
      refine G_istore_n F 2 dX8_invert_46 rfl rfl rfl (Nat.le_of_ble_eq_true rfl) ?_
      simp only [List.set_cons_zero, List.set_cons_succ]
      refine G_aload_n F dX8_invert_47 rfl ?_
      refine G_getr F fl_X8_23 dX8_invert_48 rfl rfl ?_
      refine G_iload_n F dX8_invert_51 rfl ?_
      refine G_aload_n F dX8_invert_52 rfl ?_
      refine G_getr F fl_X8_26 dX8_invert_53 rfl rfl ?_
      refine G_iload_n F dX8_invert_56 rfl ?_
      refine G_ialdN F dX8_invert_57 rfl (by omega) (by decide) ?_
      try simp only [fx_u_at, Nat.reduceEqDiff, false_and, and_false, true_and, and_true, ↓reduceIte]
      refine G_iastN F dX8_invert_58 rfl (by omega) (by decide) ?_
      refine G_aload_n F dX8_invert_59 rfl ?_
      refine G_getr F fl_X8_26 dX8_invert_60 rfl rfl ?_
      refine G_iload_n F dX8_invert_63 rfl ?_
      refine G_iload_n F dX8_invert_64 rfl ?_
      refine G_iastN F dX8_invert_65 rfl (by omega) (by decide) ?_
      refine G_aload_n F dX8_invert_66 rfl ?_
      refine G_getr F fl_X8_35 dX8_invert_67 rfl rfl ?_
      refine G_iload_n F dX8_invert_70 rfl ?_
      refine G_ialdN F dX8_invert_71 rfl (by omega) (by decide) ?_
      try simp only [fx_u_at, Nat.reduceEqDiff, false_and, and_false, true_and, and_true, ↓reduceIte]
      refine G_istore_n F 3 dX8_invert_72 rfl rfl rfl (Nat.le_of_ble_eq_true rfl) ?_
      simp only [List.set_cons_zero, List.set_cons_succ]
      refine G_aload_n F dX8_invert_73 rfl ?_
      refine G_getr F fl_X8_35 dX8_invert_74 rfl rfl ?_
      refine G_iload_n F dX8_invert_77 rfl ?_
      refine G_aload_n F dX8_invert_78 rfl ?_
      refine G_getr F fl_X8_38 dX8_invert_79 rfl rfl ?_
      refine G_iload_n F dX8_invert_82 rfl ?_
      refine G_ialdN F dX8_invert_83 rfl (by omega) (by decide) ?_
      try simp only [fx_u_at, Nat.reduceEqDiff, false_and, and_false, true_and, and_true, ↓reduceIte]
      refine G_iastN F dX8_invert_84 rfl (by omega) (by decide) ?_
      refine G_aload_n F dX8_invert_85 rfl ?_
      refine G_getr F fl_X8_38 dX8_invert_86 rfl rfl ?_
      refine G_iload_n F dX8_invert_89 rfl ?_
      refine G_iload_n F dX8_invert_90 rfl ?_
      refine G_iastN F dX8_invert_91 rfl (by omega) (by decide) ?_
      refine G_aload_n F dX8_invert_92 rfl ?_
      refine G_getr F fl_X8_29 dX8_invert_93 rfl rfl ?_
      refine G_iload_n F dX8_invert_96 rfl ?_
      refine G_aload_n F dX8_invert_97 rfl ?_
      refine G_getr F fl_X8_29 dX8_invert_98 rfl rfl ?_
      refine G_iload_n F dX8_invert_101 rfl ?_
      refine G_ialdN F dX8_invert_102 rfl (by omega) (by decide) ?_
      try simp only [fx_u_at, Nat.reduceEqDiff, false_and, and_false, true_and, and_true, ↓reduceIte]
      refine G_iconst (v := -1) F dX8_invert_103 rfl ?_
      refine G_ixor F dX8_invert_104 ?_
      refine G_iastN F dX8_invert_105 rfl (by omega) (by decide) ?_
      refine G_aload_n F dX8_invert_106 rfl ?_
      refine G_getr F fl_X8_23 dX8_invert_107 rfl rfl ?_
      refine G_iload_n F dX8_invert_110 rfl ?_
      refine G_ialdN F dX8_invert_111 rfl (by omega) (by decide) ?_
      try simp only [fx_u_at, Nat.reduceEqDiff, false_and, and_false, true_and, and_true, ↓reduceIte]
      refine G_iret F Rt dX8_invert_112 (rfl) ⟨rfl, rfl, _, rfl, ?_⟩ (Nat.le_refl _) (Nat.le_refl _)
      exact Or.inl ⟨x, hx1, rfl, hx3, by simp [fx_u_at], by simp only [r_sw, fx_u_at, Nat.reduceEqDiff, false_and, if_false]⟩
    · exact absurd rfl h35 --stop
  have t1 : pin N b = false → GG X ad 28 [some (.ref (ad 37)), some (.int b), none, none] [.int 1, .ref (ad 37)] 0 0 (c_C sw ++ (m_C ++ tl)) M := by
    intro hv
    refine G_puti F fl_X8_103 dX8_invert_28 rfl rfl rfl rfl ?_
    refine G_aload_n F dX8_invert_31 rfl ?_
    refine G_geti F fl_X8_103 dX8_invert_32 rfl rfl ?_
    try simp only [fx_u_at, Nat.reduceEqDiff, false_and, and_false, true_and, and_true, ↓reduceIte]
    refine G_if_eq (tgt := 40) F dX8_invert_35 (by decide) (fun h35 => ?_) (fun h35 => ?_)
    · exact absurd h35 (by decide) --stop
    · skip
      refine G_iconst (v := 0) F dX8_invert_38 rfl ?_
      refine G_iret F Rt dX8_invert_39 (rfl) ⟨rfl, rfl, _, rfl, ?_⟩ (Nat.le_refl _) (Nat.le_refl _)
      exact Or.inr (Or.inl ⟨hv, rfl⟩)
  have t2 : (∃ x, x < N ∧ b = nI x ∧ M 39 x ≠ 1) → GG X ad 28 [some (.ref (ad 37)), some (.int b), none, none] [.int 2, .ref (ad 37)] 0 0 (c_C sw ++ (m_C ++ tl)) M := by
    intro hv
    refine G_puti F fl_X8_103 dX8_invert_28 rfl rfl rfl rfl ?_
    refine G_aload_n F dX8_invert_31 rfl ?_
    refine G_geti F fl_X8_103 dX8_invert_32 rfl rfl ?_
    try simp only [fx_u_at, Nat.reduceEqDiff, false_and, and_false, true_and, and_true, ↓reduceIte]
    refine G_if_eq (tgt := 40) F dX8_invert_35 (by decide) (fun h35 => ?_) (fun h35 => ?_)
    · exact absurd h35 (by decide) --stop
    · skip
      refine G_iconst (v := 0) F dX8_invert_38 rfl ?_
      refine G_iret F Rt dX8_invert_39 (rfl) ⟨rfl, rfl, _, rfl, ?_⟩ (Nat.le_refl _) (Nat.le_refl _)
      exact Or.inr (Or.inr ⟨hv, rfl⟩)
  refine G_aload_n F dX8_invert_0 rfl ?_
  refine G_aload_n F dX8_invert_1 rfl ?_
  refine G_iload_n F dX8_invert_2 rfl ?_
  refine G_vI F mv_X8_119 dX8_invert_3 (t_isBlock hl ad sw tl M (N := N) b hN hN16 hN1) rfl rfl rfl rfl (Nat.le_of_ble_eq_true rfl) ⟨Nat.le_of_ble_eq_true rfl, Nat.le_of_ble_eq_true rfl, Nat.le_of_ble_eq_true rfl, Nat.le_of_ble_eq_true rfl⟩ (fun r3 M3 h3 => ?_)
  rw [h3.1, h3.2]
  refine G_if_ne (tgt := 13) F dX8_invert_6 (by decide) (fun h6 => ?_) (fun h6 => ?_)
  · have q6 : pin N b = true := by simpa using h6
    obtain ⟨x, hx1, hx2⟩ := pin_spec hN16 q6
    subst hx2
    refine G_aload_n F dX8_invert_13 rfl ?_
    refine G_getr F fl_X8_20 dX8_invert_14 rfl rfl ?_
    refine G_iload_n F dX8_invert_17 rfl ?_
    refine G_ialdN F dX8_invert_18 rfl (by omega) (by decide) ?_
    refine G_iconst (v := 1) F dX8_invert_19 rfl ?_
    refine G_icmp_ne (tgt := 27) F dX8_invert_20 (by decide) (fun h20 => ?_) (fun h20 => ?_)
    · refine G_iconst (v := 2) F dX8_invert_27 rfl ?_
      exact t2 ⟨x, hx1, rfl, h20⟩
    · refine G_iconst (v := 0) F dX8_invert_23 rfl ?_
      refine G_goto (tgt := 28) F dX8_invert_24 (by decide) ?_
      exact t0 ⟨x, hx1, rfl, h20⟩
  · have q6 : pin N b = false := by simpa using h6
    refine G_iconst (v := 1) F dX8_invert_9 rfl ?_
    refine G_goto (tgt := 28) F dX8_invert_10 (by decide) ?_
    exact t1 q6
