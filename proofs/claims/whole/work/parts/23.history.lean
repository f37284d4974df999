/-! HISTORY -/
theorem nI_mul (a b : Nat) : nI a * nI b = nI (a * b) := (Int32.ofNat_mul a b).symm
theorem nI_min {a b : Nat} (ha : a < 2 ^ 31) (hb : b < 2 ^ 31) : (if nI b < nI a then nI b else nI a) = nI (min a b) := by
  by_cases h : b < a
  · rw [if_pos ((nI_ltI hb ha).mpr h), Nat.min_eq_right (by omega)]
  · rw [if_neg (fun q => h ((nI_ltI hb ha).mp q)), Nat.min_eq_left (by omega)]
set_option maxRecDepth 20000 in
theorem s_remember {l : Launch} {Z : fx_Z} (hl : l.stackTraces = false) (ad : Nat → Nat) (sw : Bool) (tl : List fx_Sh) (M : fx_M) {sl kp : Nat} (hsl : M 31 3 = nI sl) (hsl10 : sl < 10) (hkp0 : M 31 4 = nI kp) (hkp10 : kp ≤ 10) : CV l Z yX1_remember (.code yX1_remember cX1_remember 3 none) 1 [.ref (ad 31), .ref (ad 10)] ad (c_C sw ++ tl) M (fun m => fr [31, 32, 33, 34] M m ∧ m 31 3 = nI (if sl + 1 = 10 then 0 else sl + 1) ∧ m 31 4 = nI (min (kp + 1) 10) ∧ (∀ j, m 32 j = if sl * 16 ≤ j ∧ j < sl * 16 + 16 then M 11 (j - sl * 16) else M 32 j) ∧ m 33 = upd (M 33) sl (M 10 1) ∧ m 34 = upd (M 34) sl (M 10 2)) := by
  refine CT_of (ret := none) (lv0 := [some (.ref (ad 31)), some (.ref (ad 10)), none]) (by decide +kernel) hl (by simp [Value.category]) (Nat.le_of_ble_eq_true rfl) rfl ?_
  intro X F Rt _
  have lp : ∀ (k : Nat) (i : Nat) (M' : fx_M), k = 16 - i → i ≤ 16 → fr [32] M M' → (∀ j, M' 32 j = if sl * 16 ≤ j ∧ j < sl * 16 + i then M 11 (j - sl * 16) else M 32 j) → GG X ad 2 [some (.ref (ad 31)), some (.ref (ad 10)), some (.int (nI i))] [] 0 0 (c_C sw ++ tl) M' := by
    intro k
    induction k using Nat.strongRecOn with
    | _ k ih =>
      intro i M' hk hi h1 h2
      have hs : M' 31 3 = nI sl := by rw [h1 31 (by decide)]; exact hsl
      have hkp : M' 31 4 = nI kp := by rw [h1 31 (by decide)]; exact hkp0
      refine G_iload_n F dX1_remember_2 rfl ?_
      refine G_bipush (v := nI 16) F dX1_remember_3 (by decide) ?_
      refine G_icmp_ge (tgt := 34) F dX1_remember_5 (by decide) (fun h5 => ?_) (fun h5 => ?_)
      · rw [nI_leI (by omega) (by omega)] at h5
        have hi16 : i = 16 := by omega
        subst hi16
        refine G_aload_n F dX1_remember_34 rfl ?_
        refine G_getr F fl_X1_15 dX1_remember_35 rfl rfl ?_
        refine G_aload_n F dX1_remember_38 rfl ?_
        refine G_geti F fl_X1_25 dX1_remember_39 rfl rfl ?_
        try simp only [fx_u_at, Nat.reduceEqDiff, false_and, and_false, true_and, and_true, ↓reduceIte, hs, hkp]
        refine G_aload_n F dX1_remember_42 rfl ?_
        refine G_geti F fl_X1_33 dX1_remember_43 rfl rfl ?_
        try simp only [fx_u_at, Nat.reduceEqDiff, false_and, and_false, true_and, and_true, ↓reduceIte, hs, hkp]
        refine G_iastN F dX1_remember_46 rfl (by omega) (by decide) ?_
        refine G_aload_n F dX1_remember_47 rfl ?_
        refine G_getr F fl_X1_18 dX1_remember_48 rfl rfl ?_
        refine G_aload_n F dX1_remember_51 rfl ?_
        refine G_geti F fl_X1_25 dX1_remember_52 rfl rfl ?_
        try simp only [fx_u_at, Nat.reduceEqDiff, false_and, and_false, true_and, and_true, ↓reduceIte, hs, hkp]
        refine G_aload_n F dX1_remember_55 rfl ?_
        refine G_geti F fl_X1_36 dX1_remember_56 rfl rfl ?_
        try simp only [fx_u_at, Nat.reduceEqDiff, false_and, and_false, true_and, and_true, ↓reduceIte, hs, hkp]
        refine G_iastN F dX1_remember_59 rfl (by omega) (by decide) ?_
        refine G_aload_n F dX1_remember_60 rfl ?_
        refine G_aload_n F dX1_remember_61 rfl ?_
        refine G_geti F fl_X1_25 dX1_remember_62 rfl rfl ?_
        try simp only [fx_u_at, Nat.reduceEqDiff, false_and, and_false, true_and, and_true, ↓reduceIte, hs, hkp]
        refine G_iconst (v := nI 1) F dX1_remember_65 (by decide) ?_
        refine G_iadd F dX1_remember_66 ?_
        refine G_bipush (v := nI 10) F dX1_remember_67 (by decide) ?_
        refine G_icmp_ne (tgt := 76) F dX1_remember_69 (by decide) (fun h69 => ?_) (fun h69 => ?_)
        · rw [nI_add, nI_eq (by omega) (by omega)] at h69
          refine G_aload_n F dX1_remember_76 rfl ?_
          refine G_geti F fl_X1_25 dX1_remember_77 rfl rfl ?_
          try simp only [fx_u_at, Nat.reduceEqDiff, false_and, and_false, true_and, and_true, ↓reduceIte, hs, hkp]
          refine G_iconst (v := nI 1) F dX1_remember_80 (by decide) ?_
          refine G_iadd F dX1_remember_81 ?_
          try rw [nI_add]
          refine G_puti F fl_X1_25 dX1_remember_82 rfl rfl rfl rfl ?_
          refine G_aload_n F dX1_remember_85 rfl ?_
          refine G_aload_n F dX1_remember_86 rfl ?_
          refine G_geti F fl_X1_21 dX1_remember_87 rfl rfl ?_
          try simp only [fx_u_at, Nat.reduceEqDiff, false_and, and_false, true_and, and_true, ↓reduceIte, hs, hkp]
          refine G_iconst (v := nI 1) F dX1_remember_90 (by decide) ?_
          refine G_iadd F dX1_remember_91 ?_
          rw [nI_add]
          refine G_bipush (v := nI 10) F dX1_remember_92 (by decide) ?_
          refine G_min F dX1_remember_94 (fx_in 873 (by decide +kernel) rfl) (fx_in 874 (by decide +kernel) rfl) (fx_in 143 (by decide +kernel) rfl) (fx_in 875 (by decide +kernel) rfl) ⟨Nat.le_of_ble_eq_true rfl, Nat.le_of_ble_eq_true rfl, Nat.le_of_ble_eq_true rfl, Nat.le_of_ble_eq_true rfl⟩ ?_
          rw [nI_min (by omega) (by omega)]
          refine G_puti F fl_X1_21 dX1_remember_97 rfl rfl rfl rfl ?_
          refine G_vret F Rt dX1_remember_100 ⟨rfl, rfl, rfl, ?_⟩ (Nat.le_refl _) (Nat.le_refl _)
          refine ⟨fun k hk => ?_, ?_, ?_, fun j => ?_, ?_, ?_⟩
          · simp only [List.mem_cons, List.not_mem_nil, or_false, not_or] at hk
            rw [fx_u_ne hk.1, fx_u_ne hk.1, fx_u_ne hk.2.2.2, fx_u_ne hk.2.2.1, h1 k (by simp [hk.2.1])]
          · simp [fx_u_at, h69]
          · simp [fx_u_at]
          · have e1 := h2 j
            simp only [fx_u_at]
            simp [e1]
          · rw [fx_u_ne (by decide), fx_u_ne (by decide), fx_u_ne (by decide), fx_u_eq, h1 33 (by decide), h1 10 (by decide)]
          · rw [fx_u_ne (by decide), fx_u_ne (by decide), fx_u_eq]
            simp only [fx_uN, Nat.reduceEqDiff, ↓reduceIte]
            rw [h1 34 (by decide), h1 10 (by decide)]
        · rw [nI_add, nI_eq (by omega) (by omega)] at h69
          refine G_iconst (v := nI 0) F dX1_remember_72 (by decide) ?_
          refine G_goto (tgt := 82) F dX1_remember_73 (by decide) ?_
          try rw [nI_add]
          refine G_puti F fl_X1_25 dX1_remember_82 rfl rfl rfl rfl ?_
          refine G_aload_n F dX1_remember_85 rfl ?_
          refine G_aload_n F dX1_remember_86 rfl ?_
          refine G_geti F fl_X1_21 dX1_remember_87 rfl rfl ?_
          try simp only [fx_u_at, Nat.reduceEqDiff, false_and, and_false, true_and, and_true, ↓reduceIte, hs, hkp]
          refine G_iconst (v := nI 1) F dX1_remember_90 (by decide) ?_
          refine G_iadd F dX1_remember_91 ?_
          rw [nI_add]
          refine G_bipush (v := nI 10) F dX1_remember_92 (by decide) ?_
          refine G_min F dX1_remember_94 (fx_in 873 (by decide +kernel) rfl) (fx_in 874 (by decide +kernel) rfl) (fx_in 143 (by decide +kernel) rfl) (fx_in 875 (by decide +kernel) rfl) ⟨Nat.le_of_ble_eq_true rfl, Nat.le_of_ble_eq_true rfl, Nat.le_of_ble_eq_true rfl, Nat.le_of_ble_eq_true rfl⟩ ?_
          rw [nI_min (by omega) (by omega)]
          refine G_puti F fl_X1_21 dX1_remember_97 rfl rfl rfl rfl ?_
          refine G_vret F Rt dX1_remember_100 ⟨rfl, rfl, rfl, ?_⟩ (Nat.le_refl _) (Nat.le_refl _)
          refine ⟨fun k hk => ?_, ?_, ?_, fun j => ?_, ?_, ?_⟩
          · simp only [List.mem_cons, List.not_mem_nil, or_false, not_or] at hk
            rw [fx_u_ne hk.1, fx_u_ne hk.1, fx_u_ne hk.2.2.2, fx_u_ne hk.2.2.1, h1 k (by simp [hk.2.1])]
          · simp [fx_u_at, h69]
          · simp [fx_u_at]
          · have e1 := h2 j
            simp only [fx_u_at]
            simp [e1]
          · rw [fx_u_ne (by decide), fx_u_ne (by decide), fx_u_ne (by decide), fx_u_eq, h1 33 (by decide), h1 10 (by decide)]
          · rw [fx_u_ne (by decide), fx_u_ne (by decide), fx_u_eq]
            simp only [fx_uN, Nat.reduceEqDiff, ↓reduceIte]
            rw [h1 34 (by decide), h1 10 (by decide)]
      · rw [nI_leI (by omega) (by omega)] at h5
        refine G_aload_n F dX1_remember_8 rfl ?_
        refine G_getr F fl_X1_9 dX1_remember_9 rfl rfl ?_
        refine G_aload_n F dX1_remember_12 rfl ?_
        refine G_geti F fl_X1_25 dX1_remember_13 rfl rfl ?_
        try simp only [fx_u_at, Nat.reduceEqDiff, false_and, and_false, true_and, and_true, ↓reduceIte, hs, hkp]
        refine G_bipush (v := nI 16) F dX1_remember_16 (by decide) ?_
        refine G_imul F dX1_remember_18 ?_
        refine G_iload_n F dX1_remember_19 rfl ?_
        refine G_iadd F dX1_remember_20 ?_
        rw [nI_mul, nI_add]
        refine G_aload_n F dX1_remember_21 rfl ?_
        refine G_getr F fl_X1_28 dX1_remember_22 rfl rfl ?_
        refine G_iload_n F dX1_remember_25 rfl ?_
        refine G_ialdN F dX1_remember_26 rfl (by omega) (by decide) ?_
        try simp only [fx_u_at, Nat.reduceEqDiff, false_and, and_false, true_and, and_true, ↓reduceIte, hs, hkp]
        refine G_iastN F dX1_remember_27 rfl (by omega) (by decide) ?_
        refine G_iinc F (1) dX1_remember_28 rfl rfl rfl rfl ?_
        simp only [List.set_cons_zero, List.set_cons_succ, nI_1]
        refine G_goto (tgt := 2) F dX1_remember_31 (by decide) ?_
        exact ih (16 - (i + 1)) (by omega) (i + 1) _ rfl (by omega) (h1.u (by decide)) (fun j => by
          by_cases e : j = sl * 16 + i
          · subst e
            simp only [fx_u_at, true_and, if_true]
            rw [if_pos (by omega), show sl * 16 + i - sl * 16 = i from by omega, h1 11 (by decide)]
          · simp only [fx_u_at, e, and_false, if_false]
            rw [h2 j]
            by_cases e2 : sl * 16 ≤ j ∧ j < sl * 16 + i
            · rw [if_pos e2, if_pos (by omega)]
            · rw [if_neg e2, if_neg (by omega)])
  refine G_iconst (v := 0) F dX1_remember_0 rfl ?_
  refine G_istore_n F 2 dX1_remember_1 rfl rfl rfl (Nat.le_of_ble_eq_true rfl) ?_
  simp only [List.set_cons_zero, List.set_cons_succ]
  exact lp 16 0 _ rfl (by omega) fr.rfl (fun j => by rw [if_neg (by omega)])
theorem nI_sub {a b : Nat} (h : b ≤ a) : nI a - nI b = nI (a - b) := by
  have h1 := nI_add (a - b) b
  rw [Nat.sub_add_cancel h] at h1
  rw [← h1]
  exact Int32.add_sub_cancel ..
/-- the memory while a plan is restored -/
def m_rs (M : fx_M) (q kp : Nat) : fx_M := fx_u (fx_u M 31 3 (nI q)) 31 4 (nI (kp - 1))
set_option maxRecDepth 20000 in
theorem s_restore {l : Launch} {Z : fx_Z} (hl : l.stackTraces = false) (ad : Nat → Nat) (sw : Bool) (tl : List fx_Sh) (M : fx_M) {sl kp q : Nat} (hq : (if sl = 0 then 9 else sl - 1) = q) (hsl : M 31 3 = nI sl) (hsl10 : sl < 10) (hkp0 : M 31 4 = nI kp) (hkp10 : kp ≤ 10) : CI l Z yX1_restore (.code yX1_restore cX1_restore 3 (some .boolean)) 0 [.ref (ad 31), .ref (ad 10)] ad (c_C sw ++ tl) M (fun r m => (kp = 0 ∧ r = 0 ∧ m = M) ∨ (0 < kp ∧ r = 1 ∧ fr [10, 11, 31] M m ∧ m 31 3 = nI q ∧ m 31 4 = nI (kp - 1) ∧ (∀ j, m 11 j = if j < 16 then M 32 (q * 16 + j) else M 11 j) ∧ m 10 1 = M 33 q ∧ m 10 2 = M 34 q)) := by
  refine CT_of (ret := (some .boolean)) (lv0 := [some (.ref (ad 31)), some (.ref (ad 10)), none]) (by decide +kernel) hl (by simp [Value.category]) (Nat.le_of_ble_eq_true rfl) rfl ?_
  intro X F Rt _
  have lp : ∀ (k : Nat) (i : Nat) (M' : fx_M), 0 < kp → k = 16 - i → i ≤ 16 → fr [11] (m_rs M q kp) M' → (∀ j, M' 11 j = if j < i then M 32 (q * 16 + j) else M 11 j) → GG X ad 43 [some (.ref (ad 31)), some (.ref (ad 10)), some (.int (nI i))] [] 0 0 (c_C sw ++ tl) M' := by
    intro k
    induction k using Nat.strongRecOn with
    | _ k ih =>
      intro i M' hp hk hi h1 h2
      have hs : M' 31 3 = nI q := by rw [h1 31 (by decide)]; simp [m_rs, fx_u_at]
      have hs9 : q < 10 := by rw [← hq]; split <;> omega
      refine G_iload_n F dX1_restore_43 rfl ?_
      refine G_bipush (v := nI 16) F dX1_restore_44 (by decide) ?_
      refine G_icmp_ge (tgt := 75) F dX1_restore_46 (by decide) (fun h46 => ?_) (fun h46 => ?_)
      · rw [nI_leI (by omega) (by omega)] at h46
        have hi16 : i = 16 := by omega
        subst hi16
        refine G_aload_n F dX1_restore_75 rfl ?_
        refine G_aload_n F dX1_restore_76 rfl ?_
        refine G_getr F fl_X1_15 dX1_restore_77 rfl rfl ?_
        refine G_aload_n F dX1_restore_80 rfl ?_
        refine G_geti F fl_X1_25 dX1_restore_81 rfl rfl ?_
        try simp only [fx_u_at, Nat.reduceEqDiff, false_and, and_false, true_and, and_true, ↓reduceIte, hs]
        refine G_ialdN F dX1_restore_84 rfl (by omega) (by decide) ?_
        try simp only [fx_u_at, Nat.reduceEqDiff, false_and, and_false, true_and, and_true, ↓reduceIte, hs]
        refine G_puti F fl_X1_33 dX1_restore_85 rfl rfl rfl rfl ?_
        refine G_aload_n F dX1_restore_88 rfl ?_
        refine G_aload_n F dX1_restore_89 rfl ?_
        refine G_getr F fl_X1_18 dX1_restore_90 rfl rfl ?_
        refine G_aload_n F dX1_restore_93 rfl ?_
        refine G_geti F fl_X1_25 dX1_restore_94 rfl rfl ?_
        try simp only [fx_u_at, Nat.reduceEqDiff, false_and, and_false, true_and, and_true, ↓reduceIte, hs]
        refine G_ialdN F dX1_restore_97 rfl (by omega) (by decide) ?_
        try simp only [fx_u_at, Nat.reduceEqDiff, false_and, and_false, true_and, and_true, ↓reduceIte, hs]
        refine G_puti F fl_X1_36 dX1_restore_98 rfl rfl rfl rfl ?_
        refine G_iconst (v := 1) F dX1_restore_101 rfl ?_
        refine G_iret F Rt dX1_restore_102 (rfl) ⟨rfl, rfl, _, rfl, ?_⟩ (Nat.le_refl _) (Nat.le_refl _)
        refine Or.inr ⟨hp, rfl, fun k hk => ?_, ?_, ?_, fun j => ?_, ?_, ?_⟩
        · simp only [List.mem_cons, List.not_mem_nil, or_false, not_or] at hk
          rw [fx_u_ne hk.1, fx_u_ne hk.1, h1 k (by simp [hk.2.1]), m_rs, fx_u_ne hk.2.2, fx_u_ne hk.2.2]
        · simp only [fx_u_at, Nat.reduceEqDiff, false_and, ↓reduceIte]; exact hs
        · simp only [fx_u_at, Nat.reduceEqDiff, false_and, ↓reduceIte]; rw [h1 31 (by decide)]; simp [m_rs, fx_u_at]
        · simp only [fx_u_at, Nat.reduceEqDiff, false_and, ↓reduceIte]; exact h2 j
        · simp only [fx_u_at, Nat.reduceEqDiff, false_and, and_false, ↓reduceIte, and_self]
          rw [h1 33 (by decide)]; simp only [m_rs, fx_uN, Nat.reduceEqDiff, ↓reduceIte]
        · simp only [fx_u_at, Nat.reduceEqDiff, false_and, and_false, ↓reduceIte, and_self]
          rw [h1 34 (by decide)]; simp only [m_rs, fx_uN, Nat.reduceEqDiff, ↓reduceIte]
      · rw [nI_leI (by omega) (by omega)] at h46
        refine G_aload_n F dX1_restore_49 rfl ?_
        refine G_getr F fl_X1_28 dX1_restore_50 rfl rfl ?_
        refine G_iload_n F dX1_restore_53 rfl ?_
        refine G_aload_n F dX1_restore_54 rfl ?_
        refine G_getr F fl_X1_9 dX1_restore_55 rfl rfl ?_
        refine G_aload_n F dX1_restore_58 rfl ?_
        refine G_geti F fl_X1_25 dX1_restore_59 rfl rfl ?_
        try simp only [fx_u_at, Nat.reduceEqDiff, false_and, and_false, true_and, and_true, ↓reduceIte, hs]
        refine G_bipush (v := nI 16) F dX1_restore_62 (by decide) ?_
        refine G_imul F dX1_restore_64 ?_
        refine G_iload_n F dX1_restore_65 rfl ?_
        refine G_iadd F dX1_restore_66 ?_
        rw [nI_mul, nI_add]
        refine G_ialdN F dX1_restore_67 rfl (by omega) (by decide) ?_
        try simp only [fx_u_at, Nat.reduceEqDiff, false_and, and_false, true_and, and_true, ↓reduceIte, hs]
        refine G_iastN F dX1_restore_68 rfl (by omega) (by decide) ?_
        refine G_iinc F (1) dX1_restore_69 rfl rfl rfl rfl ?_
        simp only [List.set_cons_zero, List.set_cons_succ, nI_1]
        refine G_goto (tgt := 43) F dX1_restore_72 (by decide) ?_
        exact ih (16 - (i + 1)) (by omega) (i + 1) _ hp rfl (by omega) (h1.u (by decide)) (fun j => by
          by_cases e : j = i
          · subst e
            simp only [fx_u_at, true_and, if_true]
            rw [if_pos (by omega), h1 32 (by decide)]
            simp only [m_rs, fx_uN, Nat.reduceEqDiff, ↓reduceIte]
          · simp only [fx_u_at, e, and_false, if_false]
            rw [h2 j]
            by_cases e2 : j < i
            · rw [if_pos e2, if_pos (by omega)]
            · rw [if_neg e2, if_neg (by omega)])
  refine G_aload_n F dX1_restore_0 rfl ?_
  refine G_geti F fl_X1_21 dX1_restore_1 rfl rfl ?_
  try simp only [fx_u_at, Nat.reduceEqDiff, false_and, and_false, true_and, and_true, ↓reduceIte, hsl, hkp0]
  refine G_if_ne (tgt := 9) F dX1_restore_4 (by decide) (fun h4 => ?_) (fun h4 => ?_)
  · have hk4 : ¬ kp = 0 := fun q => h4 (by rw [q]; rfl)
    refine G_aload_n F dX1_restore_9 rfl ?_
    refine G_aload_n F dX1_restore_10 rfl ?_
    refine G_geti F fl_X1_25 dX1_restore_11 rfl rfl ?_
    try simp only [fx_u_at, Nat.reduceEqDiff, false_and, and_false, true_and, and_true, ↓reduceIte, hsl, hkp0]
    refine G_if_ne (tgt := 22) F dX1_restore_14 (by decide) (fun h14 => ?_) (fun h14 => ?_)
    · have hs14 : ¬ sl = 0 := fun q => h14 (by rw [q]; rfl)
      have hv28 : nI sl - nI 1 = nI q := by rw [← hq, if_neg hs14, nI_sub (by omega)]
      refine G_aload_n F dX1_restore_22 rfl ?_
      refine G_geti F fl_X1_25 dX1_restore_23 rfl rfl ?_
      try simp only [fx_u_at, Nat.reduceEqDiff, false_and, and_false, true_and, and_true, ↓reduceIte, hsl, hkp0]
      refine G_iconst (v := nI 1) F dX1_restore_26 (by decide) ?_
      refine G_isub F dX1_restore_27 ?_
      rw [hv28]
      refine G_puti F fl_X1_25 dX1_restore_28 rfl rfl rfl rfl ?_
      refine G_aload_n F dX1_restore_31 rfl ?_
      refine G_dup F dX1_restore_32 rfl ?_
      refine G_geti F fl_X1_21 dX1_restore_33 rfl rfl ?_
      try simp only [fx_u_at, Nat.reduceEqDiff, false_and, and_false, true_and, and_true, ↓reduceIte, hsl, hkp0]
      refine G_iconst (v := nI 1) F dX1_restore_36 (by decide) ?_
      refine G_isub F dX1_restore_37 ?_
      rw [nI_sub (by omega)]
      refine G_puti F fl_X1_21 dX1_restore_38 rfl rfl rfl rfl ?_
      rw [show fx_u (fx_u M 31 3 (nI q)) 31 4 (nI (kp - 1)) = m_rs M q kp from rfl]
      refine G_iconst (v := 0) F dX1_restore_41 rfl ?_
      refine G_istore_n F 2 dX1_restore_42 rfl rfl rfl (Nat.le_of_ble_eq_true rfl) ?_
      simp only [List.set_cons_zero, List.set_cons_succ]
      exact lp 16 0 _ (by omega) rfl (by omega) fr.rfl (fun j => by rw [if_neg (by omega), m_rs, fx_u_ne (by decide), fx_u_ne (by decide)])
    · have hs14 : sl = 0 := by
        rw [← nI_0, nI_eq (by omega) (by omega)] at h14
        exact h14
      have hv28 : nI 9 = nI q := by rw [← hq, if_pos hs14]
      refine G_bipush (v := nI 9) F dX1_restore_17 (by decide) ?_
      refine G_goto (tgt := 28) F dX1_restore_19 (by decide) ?_
      rw [hv28]
      refine G_puti F fl_X1_25 dX1_restore_28 rfl rfl rfl rfl ?_
      refine G_aload_n F dX1_restore_31 rfl ?_
      refine G_dup F dX1_restore_32 rfl ?_
      refine G_geti F fl_X1_21 dX1_restore_33 rfl rfl ?_
      try simp only [fx_u_at, Nat.reduceEqDiff, false_and, and_false, true_and, and_true, ↓reduceIte, hsl, hkp0]
      refine G_iconst (v := nI 1) F dX1_restore_36 (by decide) ?_
      refine G_isub F dX1_restore_37 ?_
      rw [nI_sub (by omega)]
      refine G_puti F fl_X1_21 dX1_restore_38 rfl rfl rfl rfl ?_
      rw [show fx_u (fx_u M 31 3 (nI q)) 31 4 (nI (kp - 1)) = m_rs M q kp from rfl]
      refine G_iconst (v := 0) F dX1_restore_41 rfl ?_
      refine G_istore_n F 2 dX1_restore_42 rfl rfl rfl (Nat.le_of_ble_eq_true rfl) ?_
      simp only [List.set_cons_zero, List.set_cons_succ]
      exact lp 16 0 _ (by omega) rfl (by omega) fr.rfl (fun j => by rw [if_neg (by omega), m_rs, fx_u_ne (by decide), fx_u_ne (by decide)])
  · have hk4 : kp = 0 := by
      rw [← nI_0, nI_eq (by omega) (by omega)] at h4
      exact h4
    refine G_iconst (v := 0) F dX1_restore_7 rfl ?_
    refine G_iret F Rt dX1_restore_8 (rfl) ⟨rfl, rfl, _, rfl, ?_⟩ (Nat.le_refl _) (Nat.le_refl _)
    exact Or.inl ⟨hk4, rfl, rfl⟩
