/-! THE REFERENCE: paths, profile, forms, costs -/
set_option maxRecDepth 20000 in
theorem t_thrown {l : Launch} {Z : fx_Z} (hl : l.stackTraces = false) (ad : Nat → Nat) (sw : Bool) (tl : List fx_Sh) (M : fx_M)   : CI l Z yX8_thrown (.code yX8_thrown cX8_thrown 1 (some .int)) 0 [.ref (ad 37)] ad (c_C sw ++ (m_C ++ tl)) M (fun r m => r = M 37 13 ∧ m = M) := by
  refine CT_of (ret := (some .int)) (lv0 := [some (.ref (ad 37))]) (by decide +kernel) hl (by simp [Value.category]) (Nat.le_of_ble_eq_true rfl) rfl ?_
  intro X F Rt _
  refine G_aload_n F dX8_thrown_0 rfl ?_
  refine G_geti F fl_X8_103 dX8_thrown_1 rfl rfl ?_
  refine G_iret F Rt dX8_thrown_4 (rfl) ⟨rfl, rfl, _, rfl, ?_⟩ (Nat.le_refl _) (Nat.le_refl _)
  exact ⟨rfl, rfl⟩
set_option maxRecDepth 20000 in
theorem t_pathLength {l : Launch} {Z : fx_Z} (hl : l.stackTraces = false) (ad : Nat → Nat) (sw : Bool) (tl : List fx_Sh) (M : fx_M)   : CI l Z yX8_pathLength (.code yX8_pathLength cX8_pathLength 1 (some .int)) 0 [.ref (ad 37)] ad (c_C sw ++ (m_C ++ tl)) M (fun r m => r = M 37 17 ∧ m = fx_u M 37 13 0) := by
  refine CT_of (ret := (some .int)) (lv0 := [some (.ref (ad 37))]) (by decide +kernel) hl (by simp [Value.category]) (Nat.le_of_ble_eq_true rfl) rfl ?_
  intro X F Rt _
  refine G_aload_n F dX8_pathLength_0 rfl ?_
  refine G_iconst (v := 0) F dX8_pathLength_1 rfl ?_
  refine G_puti F fl_X8_103 dX8_pathLength_2 rfl rfl rfl rfl ?_
  refine G_aload_n F dX8_pathLength_5 rfl ?_
  refine G_geti F fl_X8_141 dX8_pathLength_6 rfl rfl ?_
  try simp only [fx_u_at, Nat.reduceEqDiff, false_and, and_false, true_and, and_true, ↓reduceIte]
  refine G_iret F Rt dX8_pathLength_9 (rfl) ⟨rfl, rfl, _, rfl, ?_⟩ (Nat.le_refl _) (Nat.le_refl _)
  exact ⟨rfl, rfl⟩
theorem pin_le' {L : Nat} (h : L < 2 ^ 31) (b : Int32) : (if (0 : Int32) ≤ b ∧ b ≤ nI L - 1 then (1 : Int32) else 0) = (if pin L b then 1 else 0) := by
  by_cases h1 : 1 ≤ L
  · exact pin_le h1 h b
  · have e : L = 0 := by omega
    subst e
    have e1 : nI 0 - 1 = -1 := by decide
    have e2 : (-1 : Int32).toInt = -1 := by decide
    rw [e1, if_neg (fun q => by have := q.1; have := q.2; simp only [Int32.le_iff_toInt_le, e2, i0] at *; omega)]
    unfold pin
    rw [decide_eq_false (fun q => by have := q.1; have := q.2; rw [nI_0] at *; simp only [Int32.lt_iff_toInt_lt, Int32.le_iff_toInt_le] at *; omega)]
    rfl
set_option maxRecDepth 20000 in
theorem t_pathBlock {l : Launch} {Z : fx_Z} (hl : l.stackTraces = false) (ad : Nat → Nat) (sw : Bool) (tl : List fx_Sh) (M : fx_M) {L : Nat} (i : Int32) (hL : M 37 17 = nI L) (hL5 : L ≤ 500) : CI l Z yX8_pathBlock (.code yX8_pathBlock cX8_pathBlock 2 (some .int)) 1 [.ref (ad 37), .int i] ad (c_C sw ++ (m_C ++ tl)) M (fun r m => (∃ j, j < L ∧ i = nI j ∧ r = M 47 j ∧ m = fx_u M 37 13 0) ∨ (pin L i = false ∧ m = fx_u M 37 13 1)) := by
  refine CT_of (ret := (some .int)) (lv0 := [some (.ref (ad 37)), some (.int i)]) (by decide +kernel) hl (by simp [Value.category]) (Nat.le_of_ble_eq_true rfl) rfl ?_
  intro X F Rt _
  have t0 : pin L i = true → GG X ad 20 [some (.ref (ad 37)), some (.int i)] [.int 0, .ref (ad 37)] 0 0 (c_C sw ++ (m_C ++ tl)) M := by
    intro hv
    refine G_puti F fl_X8_103 dX8_pathBlock_20 rfl rfl rfl rfl ?_
    refine G_aload_n F dX8_pathBlock_23 rfl ?_
    refine G_geti F fl_X8_103 dX8_pathBlock_24 rfl rfl ?_
    try simp only [fx_u_at, Nat.reduceEqDiff, false_and, and_false, true_and, and_true, ↓reduceIte]
    refine G_if_ne (tgt := 39) F dX8_pathBlock_27 (by decide) (fun h27 => ?_) (fun h27 => ?_)
    · exact absurd rfl h27 --stop
    · skip
      obtain ⟨j, hj1, hj2⟩ : ∃ j, j < L ∧ i = nI j := by
        simp only [pin, decide_eq_true_eq] at hv
        obtain ⟨j, hj1, hj2⟩ := nI_of (x := i) (by have := hv.1; simp only [Int32.lt_iff_toInt_lt, Int32.le_iff_toInt_le] at *; omega)
        have h2 := hv.2
        rw [hj2, nI_ltI hj1 (by omega)] at h2
        exact ⟨j, h2, hj2⟩
      subst hj2
      refine G_aload_n F dX8_pathBlock_30 rfl ?_
      refine G_getr F fl_X8_44 dX8_pathBlock_31 rfl rfl ?_
      refine G_iload_n F dX8_pathBlock_34 rfl ?_
      refine G_ialdN F dX8_pathBlock_35 rfl (by omega) (by decide) ?_
      try simp only [fx_u_at, Nat.reduceEqDiff, false_and, and_false, true_and, and_true, ↓reduceIte]
      refine G_goto (tgt := 40) F dX8_pathBlock_36 (by decide) ?_
      refine G_iret F Rt dX8_pathBlock_40 (rfl) ⟨rfl, rfl, _, rfl, ?_⟩ (Nat.le_refl _) (Nat.le_refl _)
      exact Or.inl ⟨j, hj1, rfl, rfl, rfl⟩
  have t1 : pin L i = false → GG X ad 20 [some (.ref (ad 37)), some (.int i)] [.int 1, .ref (ad 37)] 0 0 (c_C sw ++ (m_C ++ tl)) M := by
    intro hv
    refine G_puti F fl_X8_103 dX8_pathBlock_20 rfl rfl rfl rfl ?_
    refine G_aload_n F dX8_pathBlock_23 rfl ?_
    refine G_geti F fl_X8_103 dX8_pathBlock_24 rfl rfl ?_
    try simp only [fx_u_at, Nat.reduceEqDiff, false_and, and_false, true_and, and_true, ↓reduceIte]
    refine G_if_ne (tgt := 39) F dX8_pathBlock_27 (by decide) (fun h27 => ?_) (fun h27 => ?_)
    · skip
      refine G_iconst (v := 0) F dX8_pathBlock_39 rfl ?_
      refine G_iret F Rt dX8_pathBlock_40 (rfl) ⟨rfl, rfl, _, rfl, ?_⟩ (Nat.le_refl _) (Nat.le_refl _)
      exact Or.inr ⟨hv, rfl⟩
    · exact absurd h27 (by decide) --stop
  refine G_aload_n F dX8_pathBlock_0 rfl ?_
  refine G_iload_n F dX8_pathBlock_1 rfl ?_
  refine G_iconst (v := 0) F dX8_pathBlock_2 rfl ?_
  refine G_aload_n F dX8_pathBlock_3 rfl ?_
  refine G_geti F fl_X8_141 dX8_pathBlock_4 rfl rfl ?_
  refine G_iconst (v := 1) F dX8_pathBlock_7 rfl ?_
  rw [hL]
  refine G_isub F dX8_pathBlock_8 ?_
  refine G_sI F ms_X8_109 dX8_pathBlock_9 (t_isIn hl ad _ M i 0 (nI L - 1)) rfl rfl (Nat.le_of_ble_eq_true rfl) ⟨Nat.le_of_ble_eq_true rfl, Nat.le_of_ble_eq_true rfl, Nat.le_of_ble_eq_true rfl, Nat.le_of_ble_eq_true rfl⟩ (fun r9 M9 h9 => ?_)
  rw [h9.1, h9.2, pin_le' (by omega)]
  refine G_if_eq (tgt := 19) F dX8_pathBlock_12 (by decide) (fun h12 => ?_) (fun h12 => ?_)
  · have q : pin L i = false := by simpa using h12
    refine G_iconst (v := 1) F dX8_pathBlock_19 rfl ?_
    exact t1 q
  · have q : pin L i = true := by simpa using h12
    refine G_iconst (v := 0) F dX8_pathBlock_15 rfl ?_
    refine G_goto (tgt := 20) F dX8_pathBlock_16 (by decide) ?_
    exact t0 q
set_option maxRecDepth 20000 in
theorem t_counts {l : Launch} {Z : fx_Z} (hl : l.stackTraces = false) (ad : Nat → Nat) (sw : Bool) (tl : List fx_Sh) (M : fx_M) {N : Nat} (hN : M 37 0 = nI N) (hN16 : N ≤ 16) (hN1 : 1 ≤ N) : CI l Z yX8_counts (.code yX8_counts cX8_counts 3 (some .int)) 0 [.ref (ad 37)] ad (c_C sw ++ (m_C ++ tl)) M (fun r m => r = sm (M 43) N ∧ m = M) := by
  refine CT_of (ret := (some .int)) (lv0 := [some (.ref (ad 37)), none, none]) (by decide +kernel) hl (by simp [Value.category]) (Nat.le_of_ble_eq_true rfl) rfl ?_
  intro X F Rt _
  have lp : ∀ (k : Nat) (i : Nat), k = N - i → i ≤ N → GG X ad 4 [some (.ref (ad 37)), some (.int (sm (M 43) i)), some (.int (nI i))] [] 0 0 (c_C sw ++ (m_C ++ tl)) M := by
    intro k
    induction k using Nat.strongRecOn with
    | _ k ih =>
      intro i hk hi
      refine G_iload_n F dX8_counts_4 rfl ?_
      refine G_aload_n F dX8_counts_5 rfl ?_
      refine G_geti F fl_X8_106 dX8_counts_6 rfl rfl ?_
      rw [hN]
      refine G_icmp_ge (tgt := 27) F dX8_counts_9 (by decide) (fun h9 => ?_) (fun h9 => ?_)
      · rw [nI_leI (by omega) (by omega)] at h9
        have hiN : i = N := by omega
        subst hiN
        refine G_iload_n F dX8_counts_27 rfl ?_
        refine G_iret F Rt dX8_counts_28 (rfl) ⟨rfl, rfl, _, rfl, ?_⟩ (Nat.le_refl _) (Nat.le_refl _)
        exact ⟨rfl, rfl⟩
      · rw [nI_leI (by omega) (by omega)] at h9
        refine G_iload_n F dX8_counts_12 rfl ?_
        refine G_aload_n F dX8_counts_13 rfl ?_
        refine G_getr F fl_X8_32 dX8_counts_14 rfl rfl ?_
        refine G_iload_n F dX8_counts_17 rfl ?_
        refine G_ialdN F dX8_counts_18 rfl (by omega) (by decide) ?_
        refine G_iadd F dX8_counts_19 ?_
        refine G_istore_n F 1 dX8_counts_20 rfl rfl rfl (Nat.le_of_ble_eq_true rfl) ?_
        simp only [List.set_cons_zero, List.set_cons_succ]
        refine G_iinc F (1) dX8_counts_21 rfl rfl rfl rfl ?_
        simp only [List.set_cons_zero, List.set_cons_succ, nI_1]
        refine G_goto (tgt := 4) F dX8_counts_24 (by decide) ?_
        exact ih (N - (i + 1)) (by omega) (i + 1) rfl (by omega)
  refine G_iconst (v := 0) F dX8_counts_0 rfl ?_
  refine G_istore_n F 1 dX8_counts_1 rfl rfl rfl (Nat.le_of_ble_eq_true rfl) ?_
  simp only [List.set_cons_zero, List.set_cons_succ]
  refine G_iconst (v := 0) F dX8_counts_2 rfl ?_
  refine G_istore_n F 2 dX8_counts_3 rfl rfl rfl (Nat.le_of_ble_eq_true rfl) ?_
  simp only [List.set_cons_zero, List.set_cons_succ]
  exact lp N 0 (by omega) (by omega)
set_option maxRecDepth 20000 in
theorem t_clearProfile {l : Launch} {Z : fx_Z} (hl : l.stackTraces = false) (ad : Nat → Nat) (sw : Bool) (tl : List fx_Sh) (M : fx_M) {N : Nat} (hN : M 37 0 = nI N) (hN16 : N ≤ 16) (hN1 : 1 ≤ N) : CI l Z yX8_clearProfile (.code yX8_clearProfile cX8_clearProfile 3 (some .int)) 1 [.ref (ad 37)] ad (c_C sw ++ (m_C ++ tl)) M (fun r m => r = sm (M 43) N ∧ fr [37, 43, 44, 45] M m ∧ m 37 = upd (M 37) 13 0 ∧ ∀ b, b < 16 → m 43 b = 0 ∧ m 44 b = 0 ∧ m 45 b = 0) := by
  refine CT_of (ret := (some .int)) (lv0 := [some (.ref (ad 37)), none, none]) (by decide +kernel) hl (by simp [Value.category]) (Nat.le_of_ble_eq_true rfl) rfl ?_
  intro X F Rt _
  have lp : ∀ (k : Nat) (i : Nat) (M' : fx_M), k = 16 - i → i ≤ 16 → fr [43, 44, 45] (fx_u M 37 13 0) M' → (∀ b, b < i → M' 43 b = 0 ∧ M' 44 b = 0 ∧ M' 45 b = 0) → GG X ad 12 [some (.ref (ad 37)), some (.int (sm (M 43) N)), some (.int (nI i))] [] 0 0 (c_C sw ++ (m_C ++ tl)) M' := by
    intro k
    induction k using Nat.strongRecOn with
    | _ k ih =>
      intro i M' hk hi h1 h2
      refine G_iload_n F dX8_clearProfile_12 rfl ?_
      refine G_bipush (v := nI 16) F dX8_clearProfile_13 (by decide) ?_
      refine G_icmp_ge (tgt := 45) F dX8_clearProfile_15 (by decide) (fun h15 => ?_) (fun h15 => ?_)
      · rw [nI_leI (by omega) (by omega)] at h15
        have hi16 : i = 16 := by omega
        subst hi16
        refine G_iload_n F dX8_clearProfile_45 rfl ?_
        refine G_iret F Rt dX8_clearProfile_46 (rfl) ⟨rfl, rfl, _, rfl, ?_⟩ (Nat.le_refl _) (Nat.le_refl _)
        exact ⟨rfl, fun k hk => by simp only [List.mem_cons, List.not_mem_nil, or_false, not_or] at hk; rw [h1 k (by simp [hk]), fx_u_ne hk.1], by rw [h1 37 (by decide), fx_u_eq], h2⟩
      · rw [nI_leI (by omega) (by omega)] at h15
        refine G_aload_n F dX8_clearProfile_18 rfl ?_
        refine G_getr F fl_X8_32 dX8_clearProfile_19 rfl rfl ?_
        refine G_iload_n F dX8_clearProfile_22 rfl ?_
        refine G_iconst (v := 0) F dX8_clearProfile_23 rfl ?_
        refine G_iastN F dX8_clearProfile_24 rfl (by omega) (by decide) ?_
        refine G_aload_n F dX8_clearProfile_25 rfl ?_
        refine G_getr F fl_X8_35 dX8_clearProfile_26 rfl rfl ?_
        refine G_iload_n F dX8_clearProfile_29 rfl ?_
        refine G_iconst (v := 0) F dX8_clearProfile_30 rfl ?_
        refine G_iastN F dX8_clearProfile_31 rfl (by omega) (by decide) ?_
        refine G_aload_n F dX8_clearProfile_32 rfl ?_
        refine G_getr F fl_X8_38 dX8_clearProfile_33 rfl rfl ?_
        refine G_iload_n F dX8_clearProfile_36 rfl ?_
        refine G_iconst (v := 0) F dX8_clearProfile_37 rfl ?_
        refine G_iastN F dX8_clearProfile_38 rfl (by omega) (by decide) ?_
        refine G_iinc F (1) dX8_clearProfile_39 rfl rfl rfl rfl ?_
        simp only [List.set_cons_zero, List.set_cons_succ, nI_1]
        refine G_goto (tgt := 12) F dX8_clearProfile_42 (by decide) ?_
        refine ih (16 - (i + 1)) (by omega) (i + 1) _ rfl (by omega) (((h1.u (by decide)).u (by decide)).u (by decide)) (fun b hb => ?_)
        by_cases e : b = i
        · subst e; simp [fx_u_at]
        · have := h2 b (by omega); simp [fx_u_at, e, this]
  refine G_aload_n F dX8_clearProfile_0 rfl ?_
  refine G_iconst (v := 0) F dX8_clearProfile_1 rfl ?_
  refine G_puti F fl_X8_103 dX8_clearProfile_2 rfl rfl rfl rfl ?_
  refine G_aload_n F dX8_clearProfile_5 rfl ?_
  refine G_vI F mv_X8_160 dX8_clearProfile_6 (t_counts hl ad sw tl _ (N := N) (by simp [fx_u_at]; exact hN) hN16 hN1) rfl rfl rfl rfl (Nat.le_of_ble_eq_true rfl) ⟨Nat.le_of_ble_eq_true rfl, Nat.le_of_ble_eq_true rfl, Nat.le_of_ble_eq_true rfl, Nat.le_of_ble_eq_true rfl⟩ (fun r6 M6 h6 => ?_)
  rw [h6.1, h6.2, fx_u_ne (by decide)]
  refine G_istore_n F 1 dX8_clearProfile_9 rfl rfl rfl (Nat.le_of_ble_eq_true rfl) ?_
  simp only [List.set_cons_zero, List.set_cons_succ]
  refine G_iconst (v := nI 0) F dX8_clearProfile_10 (by decide) ?_
  refine G_istore_n F 2 dX8_clearProfile_11 rfl rfl rfl (Nat.le_of_ble_eq_true rfl) ?_
  simp only [List.set_cons_zero, List.set_cons_succ]
  exact lp 16 0 _ rfl (by omega) fr.rfl (fun b hb => absurd hb (by omega))
set_option maxRecDepth 20000 in
theorem t_position {l : Launch} {Z : fx_Z} (hl : l.stackTraces = false) (ad : Nat → Nat) (sw : Bool) (tl : List fx_Sh) (M : fx_M) {N b : Nat} (hN : M 37 0 = nI N) (hN16 : N ≤ 16) (hN1 : 1 ≤ N) {rw pos : Nat → Nat} (hpm : pm N rw pos) (hr : ∀ j, j < N → M 46 j = nI (rw j)) (hb : b < N) : CI l Z yX8_position (.code yX8_position cX8_position 3 (some .int)) 0 [.ref (ad 37), .int (nI b)] ad (c_C sw ++ (m_C ++ tl)) M (fun r m => r = nI (pos b) ∧ m = M) := by
  refine CT_of (ret := (some .int)) (lv0 := [some (.ref (ad 37)), some (.int (nI b)), none]) (by decide +kernel) hl (by simp [Value.category]) (Nat.le_of_ble_eq_true rfl) rfl ?_
  intro X F Rt _
  have lp : ∀ (k : Nat) (i : Nat), k = pos b - i → i ≤ pos b → GG X ad 2 [some (.ref (ad 37)), some (.int (nI b)), some (.int (nI i))] [] 0 0 (c_C sw ++ (m_C ++ tl)) M := by
    intro k
    induction k using Nat.strongRecOn with
    | _ k ih =>
      intro i hk hi
      have hpb := (hpm.2 b hb).1
      have hiN : i < N := by omega
      have hrN := (hpm.1 i hiN).1
      refine G_aload_n F dX8_position_2 rfl ?_
      refine G_getr F fl_X8_41 dX8_position_3 rfl rfl ?_
      refine G_iload_n F dX8_position_6 rfl ?_
      refine G_ialdN F dX8_position_7 rfl (by omega) (by decide) ?_
      refine G_iload_n F dX8_position_8 rfl ?_
      rw [hr i hiN]
      refine G_icmp_eq (tgt := 18) F dX8_position_9 (by decide) (fun h9 => ?_) (fun h9 => ?_)
      · have e : i = pos b := by
          rw [nI_eq (by omega) (by omega)] at h9
          rw [← h9, (hpm.1 i hiN).2]
        refine G_iload_n F dX8_position_18 rfl ?_
        refine G_iret F Rt dX8_position_19 (rfl) ⟨rfl, rfl, _, rfl, ?_⟩ (Nat.le_refl _) (Nat.le_refl _)
        exact ⟨by rw [e], rfl⟩
      · have hne : i ≠ pos b := fun q => h9 (by rw [q, (hpm.2 b hb).2])
        refine G_iinc F (1) dX8_position_12 rfl rfl rfl rfl ?_
        simp only [List.set_cons_zero, List.set_cons_succ, nI_1]
        refine G_goto (tgt := 2) F dX8_position_15 (by decide) ?_
        exact ih (pos b - (i + 1)) (by omega) (i + 1) rfl (by omega)
  refine G_iconst (v := nI 0) F dX8_position_0 (by decide) ?_
  refine G_istore_n F 2 dX8_position_1 rfl rfl rfl (Nat.le_of_ble_eq_true rfl) ?_
  simp only [List.set_cons_zero, List.set_cons_succ]
  exact lp (pos b) 0 rfl (by omega)
set_option maxRecDepth 20000 in
theorem t_next {l : Launch} {Z : fx_Z} (hl : l.stackTraces = false) (ad : Nat → Nat) (sw : Bool) (tl : List fx_Sh) (M : fx_M) {N b : Nat} (hN : M 37 0 = nI N) (hN16 : N ≤ 16) (hN1 : 1 ≤ N) {hot : Nat} {rw pos : Nat → Nat} (hhot : M 37 3 = nI hot) (hhotN : hot ≤ N) (hpm : pm N rw pos) (hr : ∀ j, j < N → M 46 j = nI (rw j)) (hb : b < N) : CI l Z yX8_next (.code yX8_next cX8_next 3 (some .int)) 1 [.ref (ad 37), .int (nI b)] ad (c_C sw ++ (m_C ++ tl)) M (fun r m => r = l_nx N hot rw pos b ∧ m = M) := by
  refine CT_of (ret := (some .int)) (lv0 := [some (.ref (ad 37)), some (.int (nI b)), none]) (by decide +kernel) hl (by simp [Value.category]) (Nat.le_of_ble_eq_true rfl) rfl ?_
  intro X F Rt _
  have hpb := (hpm.2 b hb).1
  have hlx : l_nx N hot rw pos b = if pos b + 1 = N ∨ pos b + 1 = hot then -1 else nI (rw (pos b + 1)) := rfl
  refine G_aload_n F dX8_next_0 rfl ?_
  refine G_iload_n F dX8_next_1 rfl ?_
  refine G_vI F mv_X8_164 dX8_next_2 (t_position hl ad sw tl M (N := N) (b := b) hN hN16 hN1 hpm hr hb) rfl rfl rfl rfl (Nat.le_of_ble_eq_true rfl) ⟨Nat.le_of_ble_eq_true rfl, Nat.le_of_ble_eq_true rfl, Nat.le_of_ble_eq_true rfl, Nat.le_of_ble_eq_true rfl⟩ (fun r2 M2 h2 => ?_)
  rw [h2.1, h2.2]
  refine G_istore_n F 2 dX8_next_5 rfl rfl rfl (Nat.le_of_ble_eq_true rfl) ?_
  simp only [List.set_cons_zero, List.set_cons_succ]
  refine G_iload_n F dX8_next_6 rfl ?_
  refine G_iconst (v := 1) F dX8_next_7 rfl ?_
  refine G_iadd F dX8_next_8 ?_
  refine G_aload_n F dX8_next_9 rfl ?_
  refine G_geti F fl_X8_106 dX8_next_10 rfl rfl ?_
  rw [hN, nI_1]
  refine G_icmp_eq (tgt := 26) F dX8_next_13 (by decide) (fun h13 => ?_) (fun h13 => ?_)
  · rw [nI_eq (by omega) (by omega)] at h13
    refine G_iconst (v := -1) F dX8_next_26 rfl ?_
    refine G_goto (tgt := 38) F dX8_next_27 (by decide) ?_
    try rw [hr _ (by omega)]
    refine G_iret F Rt dX8_next_38 (rfl) ⟨rfl, rfl, _, rfl, ?_⟩ (Nat.le_refl _) (Nat.le_refl _)
    rw [hlx]
    clear F Rt
    refine ⟨?_, rfl⟩
    simp_all
  · rw [nI_eq (by omega) (by omega)] at h13
    refine G_iload_n F dX8_next_16 rfl ?_
    refine G_iconst (v := 1) F dX8_next_17 rfl ?_
    refine G_iadd F dX8_next_18 ?_
    refine G_aload_n F dX8_next_19 rfl ?_
    refine G_geti F fl_X8_113 dX8_next_20 rfl rfl ?_
    rw [hhot, nI_1]
    refine G_icmp_ne (tgt := 30) F dX8_next_23 (by decide) (fun h23 => ?_) (fun h23 => ?_)
    · rw [nI_eq (by omega) (by omega)] at h23
      refine G_aload_n F dX8_next_30 rfl ?_
      refine G_getr F fl_X8_41 dX8_next_31 rfl rfl ?_
      refine G_iload_n F dX8_next_34 rfl ?_
      refine G_iconst (v := 1) F dX8_next_35 rfl ?_
      refine G_iadd F dX8_next_36 ?_
      rw [nI_1]
      refine G_ialdN F dX8_next_37 rfl (by omega) (by decide) ?_
      try rw [hr _ (by omega)]
      refine G_iret F Rt dX8_next_38 (rfl) ⟨rfl, rfl, _, rfl, ?_⟩ (Nat.le_refl _) (Nat.le_refl _)
      rw [hlx]
      clear F Rt
      refine ⟨?_, rfl⟩
      simp_all
    · rw [nI_eq (by omega) (by omega)] at h23
      refine G_iconst (v := -1) F dX8_next_26 rfl ?_
      refine G_goto (tgt := 38) F dX8_next_27 (by decide) ?_
      try rw [hr _ (by omega)]
      refine G_iret F Rt dX8_next_38 (rfl) ⟨rfl, rfl, _, rfl, ?_⟩ (Nat.le_refl _) (Nat.le_refl _)
      rw [hlx]
      clear F Rt
      refine ⟨?_, rfl⟩
      simp_all
/-- kinds are three -/
def k3 (kd : Nat → Int32) (b : Nat) : Prop := kd b = 0 ∨ kd b = 1 ∨ kd b = 2
theorem pv_k3 {N : Nat} {kd f s : Nat → Int32} (hv : pv N kd f s) {b : Nat} (hb : b < N) : k3 kd b := by
  rcases hv b hb with ⟨p, -, -⟩ | ⟨p, -, -⟩ | ⟨p, -, -, -⟩
  · exact Or.inr (Or.inr p)
  · exact Or.inl p
  · exact Or.inr (Or.inl p)
set_option maxRecDepth 20000 in
theorem t_form {l : Launch} {Z : fx_Z} (hl : l.stackTraces = false) (ad : Nat → Nat) (sw : Bool) (tl : List fx_Sh) (M : fx_M) {b : Nat} (x : Int32) (hb : b < 16) (hk3 : k3 (M 39) b) : CI l Z yX8_form (.code yX8_form cX8_form 3 (some .int)) 0 [.ref (ad 37), .int (nI b), .int x] ad (c_C sw ++ (m_C ++ tl)) M (fun r m => r = pf_form (M 39) (M 40) (M 41) b x ∧ m = M) := by
  refine CT_of (ret := (some .int)) (lv0 := [some (.ref (ad 37)), some (.int (nI b)), some (.int x)]) (by decide +kernel) hl (by simp [Value.category]) (Nat.le_of_ble_eq_true rfl) rfl ?_
  intro X F Rt _
  refine G_aload_n F dX8_form_0 rfl ?_
  refine G_getr F fl_X8_20 dX8_form_1 rfl rfl ?_
  refine G_iload_n F dX8_form_4 rfl ?_
  refine G_ialdN F dX8_form_5 rfl (by omega) (by decide) ?_
  rcases hk3 with hk | hk | hk
  · rw [hk]
    refine G_lookup (tgt := 32) (off := 26) F dX8_form_6 (by decide) (by decide) (by decide) ?_
    refine G_aload_n F dX8_form_32 rfl ?_
    refine G_getr F fl_X8_23 dX8_form_33 rfl rfl ?_
    refine G_iload_n F dX8_form_36 rfl ?_
    refine G_ialdN F dX8_form_37 rfl (by omega) (by decide) ?_
    refine G_iload_n F dX8_form_38 rfl ?_
    refine G_icmp_ne (tgt := 46) F dX8_form_39 (by decide) (fun h39 => ?_) (fun h39 => ?_)
    · refine G_iconst (v := 1) F dX8_form_46 rfl ?_
      refine G_iret F Rt dX8_form_47 (rfl) ⟨rfl, rfl, _, rfl, ?_⟩ (Nat.le_refl _) (Nat.le_refl _)
      clear F Rt
      refine ⟨?_, rfl⟩
      simp_all [pf_form]
    · refine G_iconst (v := 0) F dX8_form_42 rfl ?_
      refine G_goto (tgt := 47) F dX8_form_43 (by decide) ?_
      refine G_iret F Rt dX8_form_47 (rfl) ⟨rfl, rfl, _, rfl, ?_⟩ (Nat.le_refl _) (Nat.le_refl _)
      clear F Rt
      refine ⟨?_, rfl⟩
      simp_all [pf_form]
  · rw [hk]
    refine G_lookup (tgt := 48) (off := 42) F dX8_form_6 (by decide) (by decide) (by decide) ?_
    refine G_aload_n F dX8_form_48 rfl ?_
    refine G_getr F fl_X8_26 dX8_form_49 rfl rfl ?_
    refine G_iload_n F dX8_form_52 rfl ?_
    refine G_ialdN F dX8_form_53 rfl (by omega) (by decide) ?_
    refine G_iload_n F dX8_form_54 rfl ?_
    refine G_icmp_ne (tgt := 62) F dX8_form_55 (by decide) (fun h55 => ?_) (fun h55 => ?_)
    · refine G_aload_n F dX8_form_62 rfl ?_
      refine G_getr F fl_X8_23 dX8_form_63 rfl rfl ?_
      refine G_iload_n F dX8_form_66 rfl ?_
      refine G_ialdN F dX8_form_67 rfl (by omega) (by decide) ?_
      refine G_iload_n F dX8_form_68 rfl ?_
      refine G_icmp_ne (tgt := 76) F dX8_form_69 (by decide) (fun h69 => ?_) (fun h69 => ?_)
      · refine G_iconst (v := 4) F dX8_form_76 rfl ?_
        refine G_iret F Rt dX8_form_77 (rfl) ⟨rfl, rfl, _, rfl, ?_⟩ (Nat.le_refl _) (Nat.le_refl _)
        clear F Rt
        refine ⟨?_, rfl⟩
        simp_all [pf_form]
      · refine G_iconst (v := 3) F dX8_form_72 rfl ?_
        refine G_goto (tgt := 77) F dX8_form_73 (by decide) ?_
        refine G_iret F Rt dX8_form_77 (rfl) ⟨rfl, rfl, _, rfl, ?_⟩ (Nat.le_refl _) (Nat.le_refl _)
        clear F Rt
        refine ⟨?_, rfl⟩
        simp_all [pf_form]
    · refine G_iconst (v := 2) F dX8_form_58 rfl ?_
      refine G_goto (tgt := 77) F dX8_form_59 (by decide) ?_
      refine G_iret F Rt dX8_form_77 (rfl) ⟨rfl, rfl, _, rfl, ?_⟩ (Nat.le_refl _) (Nat.le_refl _)
      clear F Rt
      refine ⟨?_, rfl⟩
      simp_all [pf_form]
  · rw [hk]
    refine G_lookup (tgt := 78) (off := 72) F dX8_form_6 (by decide) (by decide) (by decide) ?_
    refine G_iconst (v := 5) F dX8_form_78 rfl ?_
    refine G_iret F Rt dX8_form_79 (rfl) ⟨rfl, rfl, _, rfl, ?_⟩ (Nat.le_refl _) (Nat.le_refl _)
    clear F Rt
    refine ⟨?_, rfl⟩
    simp_all [pf_form]
/-- weights that an end lacks are 0 -/
def zw (N : Nat) (kd w1 w2 : Nat → Int32) : Prop := ∀ b, b < N → (kd b = 2 → w1 b = 0) ∧ (kd b ≠ 1 → w2 b = 0)
/-- a form's number, and what it says -/
theorem form_cost {N : Nat} {kd f s w1 w2 : Nat → Int32} (hN : N ≤ 16) (hv : pv N kd f s) (hz : zw N kd w1 w2) {b : Nat} (hb : b < N) (x : Int32) :
    (pf_form kd f s b x = 0 ∧ pf_cc kd f s w1 w2 b x = 0) ∨ (pf_form kd f s b x = 1 ∧ pf_cc kd f s w1 w2 b x = 2 * w1 b) ∨ (pf_form kd f s b x = 2 ∧ pf_cc kd f s w1 w2 b x = 3 * w1 b + w2 b) ∨ (pf_form kd f s b x = 3 ∧ pf_cc kd f s w1 w2 b x = w1 b + 3 * w2 b) ∨ (pf_form kd f s b x = 4 ∧ pf_cc kd f s w1 w2 b x = 3 * w1 b + 3 * w2 b) ∨ (pf_form kd f s b x = 5 ∧ pf_cc kd f s w1 w2 b x = 0) := by
  have z := hz b hb
  rcases hv b hb with ⟨p1, p2, p3⟩ | ⟨p1, p2, p3⟩ | ⟨p1, p2, p3, p4⟩
  · have z1 := z.1 p1
    have z2 := z.2 (by rw [p1]; decide)
    refine Or.inr (Or.inr (Or.inr (Or.inr (Or.inr ⟨?_, ?_⟩))))
    · simp [pf_form, p1]
    · simp [pf_cc, z1, z2]
  · have z2 := z.2 (by rw [p1]; decide)
    by_cases e : f b = x
    · refine Or.inl ⟨?_, ?_⟩
      · simp [pf_form, p1, e]
      · simp [pf_cc, pf_ed, p1, e, z2]
    · refine Or.inr (Or.inl ⟨?_, ?_⟩)
      · simp [pf_form, p1, e]
      · simp [pf_cc, pf_ed, p1, e, z2, Int32.mul_comm]
  · by_cases e : s b = x
    · have e2 : ¬ f b = x := fun q => p4 (by rw [q, e])
      refine Or.inr (Or.inr (Or.inl ⟨?_, ?_⟩))
      · simp [pf_form, p1, e]
      · simp [pf_cc, pf_ed, p1, e, e2, Int32.mul_comm]
    · by_cases e2 : f b = x
      · refine Or.inr (Or.inr (Or.inr (Or.inl ⟨?_, ?_⟩)))
        · simp [pf_form, p1, e, e2]
        · simp [pf_cc, pf_ed, p1, e, e2, Int32.mul_comm]
      · refine Or.inr (Or.inr (Or.inr (Or.inr (Or.inl ⟨?_, ?_⟩))))
        · simp [pf_form, p1, e, e2]
        · simp [pf_cc, pf_ed, p1, e, e2, Int32.mul_comm]
set_option maxRecDepth 20000 in
theorem t_cost {l : Launch} {Z : fx_Z} (hl : l.stackTraces = false) (ad : Nat → Nat) (sw : Bool) (tl : List fx_Sh) (M : fx_M) {N b : Nat} (x : Int32) (hN : M 37 0 = nI N) (hN16 : N ≤ 16) (hN1 : 1 ≤ N) (hv : pv N (M 39) (M 40) (M 41)) (hz : zw N (M 39) (M 44) (M 45)) (hb : b < N) : CI l Z yX8_cost (.code yX8_cost cX8_cost 3 (some .int)) 1 [.ref (ad 37), .int (nI b), .int x] ad (c_C sw ++ (m_C ++ tl)) M (fun r m => r = pf_cc (M 39) (M 40) (M 41) (M 44) (M 45) b x ∧ m = M) := by
  refine CT_of (ret := (some .int)) (lv0 := [some (.ref (ad 37)), some (.int (nI b)), some (.int x)]) (by decide +kernel) hl (by simp [Value.category]) (Nat.le_of_ble_eq_true rfl) rfl ?_
  intro X F Rt _
  refine G_aload_n F dX8_cost_0 rfl ?_
  refine G_iload_n F dX8_cost_1 rfl ?_
  refine G_iload_n F dX8_cost_2 rfl ?_
  refine G_vI F mv_X8_156 dX8_cost_3 (t_form hl ad sw tl M (b := b) x (by omega) (pv_k3 hv hb)) rfl rfl rfl rfl (Nat.le_of_ble_eq_true rfl) ⟨Nat.le_of_ble_eq_true rfl, Nat.le_of_ble_eq_true rfl, Nat.le_of_ble_eq_true rfl, Nat.le_of_ble_eq_true rfl⟩ (fun r3 M3 h3 => ?_)
  rw [h3.1, h3.2]
  have hfc := form_cost hN16 hv hz hb x
  generalize hg : pf_form (M 39) (M 40) (M 41) b x = g at hfc ⊢
  rcases hfc with ⟨hg0, hc⟩ | ⟨hg0, hc⟩ | ⟨hg0, hc⟩ | ⟨hg0, hc⟩ | ⟨hg0, hc⟩ | ⟨hg0, hc⟩
  · subst hg0
    refine G_tableOut (tgt := 95) F dX8_cost_6 (by decide) (by decide) ?_
    refine G_iconst (v := 0) F dX8_cost_95 rfl ?_
    refine G_iret F Rt dX8_cost_96 (rfl) ⟨rfl, rfl, _, rfl, ?_⟩ (Nat.le_refl _) (Nat.le_refl _)
    exact ⟨hc.symm, rfl⟩
  · subst hg0
    refine G_tableIn (tgt := 36) (off := 30) F dX8_cost_6 (by decide) (by decide) (by decide) (by decide) ?_
    refine G_iconst (v := 2) F dX8_cost_36 rfl ?_
    refine G_aload_n F dX8_cost_37 rfl ?_
    refine G_getr F fl_X8_35 dX8_cost_38 rfl rfl ?_
    refine G_iload_n F dX8_cost_41 rfl ?_
    refine G_ialdN F dX8_cost_42 rfl (by omega) (by decide) ?_
    refine G_imul F dX8_cost_43 ?_
    refine G_iret F Rt dX8_cost_44 (rfl) ⟨rfl, rfl, _, rfl, ?_⟩ (Nat.le_refl _) (Nat.le_refl _)
    exact ⟨hc.symm, rfl⟩
  · subst hg0
    refine G_tableIn (tgt := 45) (off := 39) F dX8_cost_6 (by decide) (by decide) (by decide) (by decide) ?_
    refine G_iconst (v := 3) F dX8_cost_45 rfl ?_
    refine G_aload_n F dX8_cost_46 rfl ?_
    refine G_getr F fl_X8_35 dX8_cost_47 rfl rfl ?_
    refine G_iload_n F dX8_cost_50 rfl ?_
    refine G_ialdN F dX8_cost_51 rfl (by omega) (by decide) ?_
    refine G_imul F dX8_cost_52 ?_
    refine G_aload_n F dX8_cost_53 rfl ?_
    refine G_getr F fl_X8_38 dX8_cost_54 rfl rfl ?_
    refine G_iload_n F dX8_cost_57 rfl ?_
    refine G_ialdN F dX8_cost_58 rfl (by omega) (by decide) ?_
    refine G_iadd F dX8_cost_59 ?_
    refine G_iret F Rt dX8_cost_60 (rfl) ⟨rfl, rfl, _, rfl, ?_⟩ (Nat.le_refl _) (Nat.le_refl _)
    exact ⟨hc.symm, rfl⟩
  · subst hg0
    refine G_tableIn (tgt := 61) (off := 55) F dX8_cost_6 (by decide) (by decide) (by decide) (by decide) ?_
    refine G_aload_n F dX8_cost_61 rfl ?_
    refine G_getr F fl_X8_35 dX8_cost_62 rfl rfl ?_
    refine G_iload_n F dX8_cost_65 rfl ?_
    refine G_ialdN F dX8_cost_66 rfl (by omega) (by decide) ?_
    refine G_iconst (v := 3) F dX8_cost_67 rfl ?_
    refine G_aload_n F dX8_cost_68 rfl ?_
    refine G_getr F fl_X8_38 dX8_cost_69 rfl rfl ?_
    refine G_iload_n F dX8_cost_72 rfl ?_
    refine G_ialdN F dX8_cost_73 rfl (by omega) (by decide) ?_
    refine G_imul F dX8_cost_74 ?_
    refine G_iadd F dX8_cost_75 ?_
    refine G_iret F Rt dX8_cost_76 (rfl) ⟨rfl, rfl, _, rfl, ?_⟩ (Nat.le_refl _) (Nat.le_refl _)
    exact ⟨hc.symm, rfl⟩
  · subst hg0
    refine G_tableIn (tgt := 77) (off := 71) F dX8_cost_6 (by decide) (by decide) (by decide) (by decide) ?_
    refine G_iconst (v := 3) F dX8_cost_77 rfl ?_
    refine G_aload_n F dX8_cost_78 rfl ?_
    refine G_getr F fl_X8_35 dX8_cost_79 rfl rfl ?_
    refine G_iload_n F dX8_cost_82 rfl ?_
    refine G_ialdN F dX8_cost_83 rfl (by omega) (by decide) ?_
    refine G_imul F dX8_cost_84 ?_
    refine G_iconst (v := 3) F dX8_cost_85 rfl ?_
    refine G_aload_n F dX8_cost_86 rfl ?_
    refine G_getr F fl_X8_38 dX8_cost_87 rfl rfl ?_
    refine G_iload_n F dX8_cost_90 rfl ?_
    refine G_ialdN F dX8_cost_91 rfl (by omega) (by decide) ?_
    refine G_imul F dX8_cost_92 ?_
    refine G_iadd F dX8_cost_93 ?_
    refine G_iret F Rt dX8_cost_94 (rfl) ⟨rfl, rfl, _, rfl, ?_⟩ (Nat.le_refl _) (Nat.le_refl _)
    exact ⟨hc.symm, rfl⟩
  · subst hg0
    refine G_tableOut (tgt := 95) F dX8_cost_6 (by decide) (by decide) ?_
    refine G_iconst (v := 0) F dX8_cost_95 rfl ?_
    refine G_iret F Rt dX8_cost_96 (rfl) ⟨rfl, rfl, _, rfl, ?_⟩ (Nat.le_refl _) (Nat.le_refl _)
    exact ⟨hc.symm, rfl⟩
theorem form_through {N : Nat} {kd f s w1 w2 : Nat → Int32} (hN : N ≤ 16) (hv : pv N kd f s) {b : Nat} (hb : b < N) {x : Nat} (hx : x < N) :
    (pf_form kd f s b (nI x) = 0 ∧ pf_wt f s w1 w2 b (nI x) = w1 b) ∨ (pf_form kd f s b (nI x) = 1 ∧ pf_wt f s w1 w2 b (nI x) = 0) ∨ (pf_form kd f s b (nI x) = 2 ∧ pf_wt f s w1 w2 b (nI x) = w2 b) ∨ (pf_form kd f s b (nI x) = 3 ∧ pf_wt f s w1 w2 b (nI x) = w1 b) ∨ (pf_form kd f s b (nI x) = 4 ∧ pf_wt f s w1 w2 b (nI x) = 0) ∨ (pf_form kd f s b (nI x) = 5 ∧ pf_wt f s w1 w2 b (nI x) = 0) := by
  have m1 : ¬ nI x = -1 := nI_m1 (by omega)
  have m2 : ¬ (-1 : Int32) = nI x := fun q => m1 q.symm
  rcases hv b hb with ⟨p1, p2, p3⟩ | ⟨p1, p2, p3⟩ | ⟨p1, p2, p3, p4⟩
  · exact Or.inr (Or.inr (Or.inr (Or.inr (Or.inr ⟨by simp [pf_form, p1], by simp [pf_wt, m1, p2, p3, m2]⟩))))
  · by_cases e : f b = nI x
    · exact Or.inl ⟨by simp [pf_form, p1, e], by simp [pf_wt, m1, e]⟩
    · exact Or.inr (Or.inl ⟨by simp [pf_form, p1, e], by simp [pf_wt, m1, e, p3, m2]⟩)
  · by_cases e : s b = nI x
    · have e2 : ¬ f b = nI x := fun q => p4 (by rw [q, e])
      exact Or.inr (Or.inr (Or.inl ⟨by simp [pf_form, p1, e], by simp [pf_wt, m1, e, e2]⟩))
    · by_cases e2 : f b = nI x
      · exact Or.inr (Or.inr (Or.inr (Or.inl ⟨by simp [pf_form, p1, e, e2], by simp [pf_wt, m1, e2]⟩)))
      · exact Or.inr (Or.inr (Or.inr (Or.inr (Or.inl ⟨by simp [pf_form, p1, e, e2], by simp [pf_wt, m1, e, e2]⟩))))
set_option maxRecDepth 20000 in
theorem t_through {l : Launch} {Z : fx_Z} (hl : l.stackTraces = false) (ad : Nat → Nat) (sw : Bool) (tl : List fx_Sh) (M : fx_M) {N b x : Nat} (hN : M 37 0 = nI N) (hN16 : N ≤ 16) (hN1 : 1 ≤ N) (hv : pv N (M 39) (M 40) (M 41)) (hb : b < N) (hx : x < N) : CI l Z yX8_through (.code yX8_through cX8_through 3 (some .int)) 1 [.ref (ad 37), .int (nI b), .int (nI x)] ad (c_C sw ++ (m_C ++ tl)) M (fun r m => r = pf_wt (M 40) (M 41) (M 44) (M 45) b (nI x) ∧ m = M) := by
  refine CT_of (ret := (some .int)) (lv0 := [some (.ref (ad 37)), some (.int (nI b)), some (.int (nI x))]) (by decide +kernel) hl (by simp [Value.category]) (Nat.le_of_ble_eq_true rfl) rfl ?_
  intro X F Rt _
  refine G_aload_n F dX8_through_0 rfl ?_
  refine G_iload_n F dX8_through_1 rfl ?_
  refine G_iload_n F dX8_through_2 rfl ?_
  refine G_vI F mv_X8_156 dX8_through_3 (t_form hl ad sw tl M (b := b) (nI x) (by omega) (pv_k3 hv hb)) rfl rfl rfl rfl (Nat.le_of_ble_eq_true rfl) ⟨Nat.le_of_ble_eq_true rfl, Nat.le_of_ble_eq_true rfl, Nat.le_of_ble_eq_true rfl, Nat.le_of_ble_eq_true rfl⟩ (fun r3 M3 h3 => ?_)
  rw [h3.1, h3.2]
  have hfc := form_through (w1 := M 44) (w2 := M 45) hN16 hv hb hx
  generalize hg : pf_form (M 39) (M 40) (M 41) b (nI x) = g at hfc ⊢
  rcases hfc with ⟨hg0, hc⟩ | ⟨hg0, hc⟩ | ⟨hg0, hc⟩ | ⟨hg0, hc⟩ | ⟨hg0, hc⟩ | ⟨hg0, hc⟩
  · subst hg0
    refine G_tableIn (tgt := 36) (off := 30) F dX8_through_6 (by decide) (by decide) (by decide) (by decide) ?_
    refine G_aload_n F dX8_through_36 rfl ?_
    refine G_getr F fl_X8_35 dX8_through_37 rfl rfl ?_
    refine G_iload_n F dX8_through_40 rfl ?_
    refine G_ialdN F dX8_through_41 rfl (by omega) (by decide) ?_
    refine G_iret F Rt dX8_through_42 (rfl) ⟨rfl, rfl, _, rfl, ?_⟩ (Nat.le_refl _) (Nat.le_refl _)
    exact ⟨hc.symm, rfl⟩
  · subst hg0
    refine G_tableIn (tgt := 57) (off := 51) F dX8_through_6 (by decide) (by decide) (by decide) (by decide) ?_
    refine G_iconst (v := 0) F dX8_through_57 rfl ?_
    refine G_iret F Rt dX8_through_58 (rfl) ⟨rfl, rfl, _, rfl, ?_⟩ (Nat.le_refl _) (Nat.le_refl _)
    exact ⟨hc.symm, rfl⟩
  · subst hg0
    refine G_tableIn (tgt := 43) (off := 37) F dX8_through_6 (by decide) (by decide) (by decide) (by decide) ?_
    refine G_aload_n F dX8_through_43 rfl ?_
    refine G_getr F fl_X8_38 dX8_through_44 rfl rfl ?_
    refine G_iload_n F dX8_through_47 rfl ?_
    refine G_ialdN F dX8_through_48 rfl (by omega) (by decide) ?_
    refine G_iret F Rt dX8_through_49 (rfl) ⟨rfl, rfl, _, rfl, ?_⟩ (Nat.le_refl _) (Nat.le_refl _)
    exact ⟨hc.symm, rfl⟩
  · subst hg0
    refine G_tableIn (tgt := 50) (off := 44) F dX8_through_6 (by decide) (by decide) (by decide) (by decide) ?_
    refine G_aload_n F dX8_through_50 rfl ?_
    refine G_getr F fl_X8_35 dX8_through_51 rfl rfl ?_
    refine G_iload_n F dX8_through_54 rfl ?_
    refine G_ialdN F dX8_through_55 rfl (by omega) (by decide) ?_
    refine G_iret F Rt dX8_through_56 (rfl) ⟨rfl, rfl, _, rfl, ?_⟩ (Nat.le_refl _) (Nat.le_refl _)
    exact ⟨hc.symm, rfl⟩
  · subst hg0
    refine G_tableOut (tgt := 57) F dX8_through_6 (by decide) (by decide) ?_
    refine G_iconst (v := 0) F dX8_through_57 rfl ?_
    refine G_iret F Rt dX8_through_58 (rfl) ⟨rfl, rfl, _, rfl, ?_⟩ (Nat.le_refl _) (Nat.le_refl _)
    exact ⟨hc.symm, rfl⟩
  · subst hg0
    refine G_tableOut (tgt := 57) F dX8_through_6 (by decide) (by decide) ?_
    refine G_iconst (v := 0) F dX8_through_57 rfl ?_
    refine G_iret F Rt dX8_through_58 (rfl) ⟨rfl, rfl, _, rfl, ?_⟩ (Nat.le_refl _) (Nat.le_refl _)
    exact ⟨hc.symm, rfl⟩
/-- a sum over places is one over blocks -/
theorem sm_pos {N : Nat} {rw pos : Nat → Nat} (hpm : pm N rw pos) {g : Nat → Int32} : ∀ n, n ≤ N → sm (fun k => g (rw k)) n = sm (fun b => if pos b < n then g b else 0) N := by
  intro n
  induction n with
  | zero => intro _; simp only [Nat.not_lt_zero, if_false]; rw [sm_zero]; rfl
  | succ n ih =>
    intro hn
    simp only [sm]
    rw [ih (by omega)]
    have h := sm_set (f := fun b => if pos b < n then g b else 0) (g := fun b => if pos b < n + 1 then g b else 0) (x := rw n) (by
      have := (hpm.1 n (by omega)).2
      simp [this]) (n := N) (hpm.1 n (by omega)).1 (fun b hb hne => by
      have : pos b ≠ n := fun q => hne (by rw [← q, (hpm.2 b hb).2])
      by_cases e : pos b < n
      · simp only [if_pos e, if_pos (show pos b < n + 1 by omega)]
      · simp only [if_neg e, if_neg (show ¬ pos b < n + 1 by omega)])
    rw [h]
    have := (hpm.1 n (by omega)).2
    simp [this]
set_option maxRecDepth 20000 in
theorem t_costs {l : Launch} {Z : fx_Z} (hl : l.stackTraces = false) (ad : Nat → Nat) (sw : Bool) (tl : List fx_Sh) (M : fx_M) {N n : Nat} (hN : M 37 0 = nI N) (hN16 : N ≤ 16) (hN1 : 1 ≤ N) (hv : pv N (M 39) (M 40) (M 41)) (hz : zw N (M 39) (M 44) (M 45)) {hot : Nat} {rw pos : Nat → Nat} (hhot : M 37 3 = nI hot) (hhotN : hot ≤ N) (hpm : pm N rw pos) (hr : ∀ j, j < N → M 46 j = nI (rw j)) (hnN : n ≤ N) : CI l Z yX8_costs (.code yX8_costs cX8_costs 4 (some .int)) 2 [.ref (ad 37), .int (nI n)] ad (c_C sw ++ (m_C ++ tl)) M (fun r m => r = sm (fun b => if nI (pos b) < nI n then pf_cc (M 39) (M 40) (M 41) (M 44) (M 45) b (l_nx N hot rw pos b) else 0) N ∧ m = M) := by
  refine CT_of (ret := (some .int)) (lv0 := [some (.ref (ad 37)), some (.int (nI n)), none, none]) (by decide +kernel) hl (by simp [Value.category]) (Nat.le_of_ble_eq_true rfl) rfl ?_
  intro X F Rt _
  have lp : ∀ (k : Nat) (i : Nat), k = n - i → i ≤ n → GG X ad 4 [some (.ref (ad 37)), some (.int (nI n)), some (.int (sm (fun j => pf_cc (M 39) (M 40) (M 41) (M 44) (M 45) (rw j) (l_nx N hot rw pos (rw j))) i)), some (.int (nI i))] [] 0 0 (c_C sw ++ (m_C ++ tl)) M := by
    intro k
    induction k using Nat.strongRecOn with
    | _ k ih =>
      intro i hk hi
      refine G_iload_n F dX8_costs_4 rfl ?_
      refine G_iload_n F dX8_costs_5 rfl ?_
      refine G_icmp_ge (tgt := 38) F dX8_costs_6 (by decide) (fun h6 => ?_) (fun h6 => ?_)
      · rw [nI_leI (by omega) (by omega)] at h6
        have hin : i = n := by omega
        subst hin
        refine G_iload_n F dX8_costs_38 rfl ?_
        refine G_iret F Rt dX8_costs_39 (rfl) ⟨rfl, rfl, _, rfl, ?_⟩ (Nat.le_refl _) (Nat.le_refl _)
        refine ⟨?_, rfl⟩
        rw [sm_pos hpm (g := fun b => pf_cc (M 39) (M 40) (M 41) (M 44) (M 45) b (l_nx N hot rw pos b)) i hnN]
        exact sm_congr (fun b hb => by
          by_cases e : pos b < i
          · rw [if_pos e, if_pos ((nI_ltI (by omega) (by omega)).mpr e)]
          · rw [if_neg e, if_neg (fun q => e ((nI_ltI (by have := (hpm.2 b hb).1; omega) (by omega)).mp q))])
      · rw [nI_leI (by omega) (by omega)] at h6
        have hri := (hpm.1 i (by omega)).1
        refine G_iload_n F dX8_costs_9 rfl ?_
        refine G_aload_n F dX8_costs_10 rfl ?_
        refine G_aload_n F dX8_costs_11 rfl ?_
        refine G_getr F fl_X8_41 dX8_costs_12 rfl rfl ?_
        refine G_iload_n F dX8_costs_15 rfl ?_
        skip
        refine G_ialdN F dX8_costs_16 rfl (by omega) (by decide) ?_
        rw [hr i (by omega)]
        refine G_aload_n F dX8_costs_17 rfl ?_
        refine G_aload_n F dX8_costs_18 rfl ?_
        refine G_getr F fl_X8_41 dX8_costs_19 rfl rfl ?_
        refine G_iload_n F dX8_costs_22 rfl ?_
        refine G_ialdN F dX8_costs_23 rfl (by omega) (by decide) ?_
        rw [hr i (by omega)]
        refine G_vI F mv_X8_153 dX8_costs_24 (t_next hl ad sw tl M (N := N) (b := rw i) hN hN16 hN1 hhot hhotN hpm hr hri) rfl rfl rfl rfl (Nat.le_of_ble_eq_true rfl) ⟨Nat.le_of_ble_eq_true rfl, Nat.le_of_ble_eq_true rfl, Nat.le_of_ble_eq_true rfl, Nat.le_of_ble_eq_true rfl⟩ (fun r24 M24 h24 => ?_)
        rw [h24.1, h24.2]
        refine G_vI F mv_X8_195 dX8_costs_27 (t_cost hl ad sw tl M (N := N) (b := rw i) (l_nx N hot rw pos (rw i)) hN hN16 hN1 hv hz hri) rfl rfl rfl rfl (Nat.le_of_ble_eq_true rfl) ⟨Nat.le_of_ble_eq_true rfl, Nat.le_of_ble_eq_true rfl, Nat.le_of_ble_eq_true rfl, Nat.le_of_ble_eq_true rfl⟩ (fun r27 M27 h27 => ?_)
        rw [h27.1, h27.2]
        refine G_iadd F dX8_costs_30 ?_
        refine G_istore_n F 2 dX8_costs_31 rfl rfl rfl (Nat.le_of_ble_eq_true rfl) ?_
        simp only [List.set_cons_zero, List.set_cons_succ]
        refine G_iinc F (1) dX8_costs_32 rfl rfl rfl rfl ?_
        simp only [List.set_cons_zero, List.set_cons_succ, nI_1]
        refine G_goto (tgt := 4) F dX8_costs_35 (by decide) ?_
        exact ih (n - (i + 1)) (by omega) (i + 1) rfl (by omega)
  refine G_iconst (v := 0) F dX8_costs_0 rfl ?_
  refine G_istore_n F 2 dX8_costs_1 rfl rfl rfl (Nat.le_of_ble_eq_true rfl) ?_
  simp only [List.set_cons_zero, List.set_cons_succ]
  refine G_iconst (v := nI 0) F dX8_costs_2 (by decide) ?_
  refine G_istore_n F 3 dX8_costs_3 rfl rfl rfl (Nat.le_of_ble_eq_true rfl) ?_
  simp only [List.set_cons_zero, List.set_cons_succ]
  exact lp n 0 rfl (by omega)
