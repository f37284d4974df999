/-! THE REFERENCE: chains and edges -/
set_option maxRecDepth 20000 in
theorem t_isHot {l : Launch} {Z : fx_Z} (hl : l.stackTraces = false) (ad : Nat → Nat) (sw : Bool) (tl : List fx_Sh) (M : fx_M) {b : Nat} (hb : b < 16) : CI l Z yX8_isHot (.code yX8_isHot cX8_isHot 2 (some .boolean)) 0 [.ref (ad 37), .int (nI b)] ad (c_C sw ++ (m_C ++ tl)) M (fun r m => r = (if bt (M 37 34) b then 1 else 0) ∧ m = M) := by
  refine CT_of (ret := (some .boolean)) (lv0 := [some (.ref (ad 37)), some (.int (nI b))]) (by decide +kernel) hl (by simp [Value.category]) (Nat.le_of_ble_eq_true rfl) rfl ?_
  intro X F Rt _
  refine G_aload_n F dX8_isHot_0 rfl ?_
  refine G_geti F fl_X8_204 dX8_isHot_1 rfl rfl ?_
  refine G_iload_n F dX8_isHot_4 rfl ?_
  refine G_ishr F dX8_isHot_5 ?_
  rw [nI_sh (by omega)]
  refine G_iconst (v := 1) F dX8_isHot_6 rfl ?_
  refine G_iand F dX8_isHot_7 ?_
  refine G_iconst (v := 1) F dX8_isHot_8 rfl ?_
  refine G_icmp_ne (tgt := 16) F dX8_isHot_9 (by decide) (fun h9 => ?_) (fun h9 => ?_)
  · refine G_iconst (v := 0) F dX8_isHot_16 rfl ?_
    refine G_iret F Rt dX8_isHot_17 (rfl) ⟨rfl, rfl, _, rfl, ?_⟩ (Nat.le_refl _) (Nat.le_refl _)
    clear F Rt
    refine ⟨?_, rfl⟩
    simp_all [bt]
  · refine G_iconst (v := 1) F dX8_isHot_12 rfl ?_
    refine G_goto (tgt := 17) F dX8_isHot_13 (by decide) ?_
    refine G_iret F Rt dX8_isHot_17 (rfl) ⟨rfl, rfl, _, rfl, ?_⟩ (Nat.le_refl _) (Nat.le_refl _)
    clear F Rt
    refine ⟨?_, rfl⟩
    simp_all [bt]
set_option maxRecDepth 20000 in
theorem t_firstOf {l : Launch} {Z : fx_Z} (hl : l.stackTraces = false) (ad : Nat → Nat) (sw : Bool) (tl : List fx_Sh) (M : fx_M) {N b : Nat} (hN16 : N ≤ 16) {ho : Nat → Bool} {bh : Nat → Int32} {fo rk : Nat → Nat} (hc : cgd N ho bh fo rk) (h60 : ∀ b, b < N → (fo b = b ∧ M 60 b = -1) ∨ (fo b ≠ b ∧ ∃ a, a < N ∧ M 60 b = nI a ∧ bh a = nI b)) (hb : b < N) : CI l Z yX8_firstOf (.code yX8_firstOf cX8_firstOf 3 (some .int)) 0 [.ref (ad 37), .int (nI b)] ad (c_C sw ++ (m_C ++ tl)) M (fun r m => r = nI (fo b) ∧ m = M) := by
  refine CT_of (ret := (some .int)) (lv0 := [some (.ref (ad 37)), some (.int (nI b)), none]) (by decide +kernel) hl (by simp [Value.category]) (Nat.le_of_ble_eq_true rfl) rfl ?_
  intro X F Rt _
  have lp : ∀ (k : Nat) (x : Nat), k = rk x → x < N → fo x = fo b → GG X ad 2 [some (.ref (ad 37)), some (.int (nI b)), some (.int (nI x))] [] 0 0 (c_C sw ++ (m_C ++ tl)) M := by
    intro k
    induction k using Nat.strongRecOn with
    | _ k ih =>
      intro x hk hx1 hx2
      rcases h60 x hx1 with ⟨q1, q2⟩ | ⟨q1, a, q2, q3, q4⟩
      · refine G_aload_n F dX8_firstOf_2 rfl ?_
        refine G_getr F fl_X8_84 dX8_firstOf_3 rfl rfl ?_
        refine G_iload_n F dX8_firstOf_6 rfl ?_
        refine G_ialdN F dX8_firstOf_7 rfl (by omega) (by decide) ?_
        rw [q2]
        refine G_if_lt (tgt := 21) F dX8_firstOf_8 (by decide) (fun h8 => ?_) (fun h8 => ?_)
        · skip
          refine G_iload_n F dX8_firstOf_21 rfl ?_
          refine G_iret F Rt dX8_firstOf_22 (rfl) ⟨rfl, rfl, _, rfl, ?_⟩ (Nat.le_refl _) (Nat.le_refl _)
          exact ⟨by rw [← hx2, q1], rfl⟩
        · exact absurd (by decide) h8 --stop
      · obtain ⟨x2, x3, e1, e2, e3⟩ : ∃ x2, x2 < N ∧ bh a = nI x2 ∧ fo x2 = fo a ∧ rk x2 = rk a + 1 := by
          rcases hc.2.1 a q2 with z | z
          · rw [z] at q4; exact absurd q4.symm (nI_m1 (by omega))
          · exact z
        have ex : x = x2 := (nI_eq (by omega) (by omega)).mp (q4.symm.trans e1)
        subst ex
        refine G_aload_n F dX8_firstOf_2 rfl ?_
        refine G_getr F fl_X8_84 dX8_firstOf_3 rfl rfl ?_
        refine G_iload_n F dX8_firstOf_6 rfl ?_
        refine G_ialdN F dX8_firstOf_7 rfl (by omega) (by decide) ?_
        rw [q3]
        refine G_if_lt (tgt := 21) F dX8_firstOf_8 (by decide) (fun h8 => ?_) (fun h8 => ?_)
        · exact absurd h8 (by rw [← nI_0, nI_ltI (by omega) (by omega)]; omega) --stop
        · skip
          refine G_aload_n F dX8_firstOf_11 rfl ?_
          refine G_getr F fl_X8_84 dX8_firstOf_12 rfl rfl ?_
          refine G_iload_n F dX8_firstOf_15 rfl ?_
          refine G_ialdN F dX8_firstOf_16 rfl (by omega) (by decide) ?_
          rw [q3]
          refine G_istore_n F 2 dX8_firstOf_17 rfl rfl rfl (Nat.le_of_ble_eq_true rfl) ?_
          simp only [List.set_cons_zero, List.set_cons_succ]
          refine G_goto (tgt := 2) F dX8_firstOf_18 (by decide) ?_
          exact ih (rk a) (by omega) a rfl q2 (by rw [← e2]; exact hx2)
  refine G_iload_n F dX8_firstOf_0 rfl ?_
  refine G_istore_n F 2 dX8_firstOf_1 rfl rfl rfl (Nat.le_of_ble_eq_true rfl) ?_
  simp only [List.set_cons_zero, List.set_cons_succ]
  exact lp (rk b) b rfl hb rfl
set_option maxRecDepth 20000 in
theorem t_canJoin {l : Launch} {Z : fx_Z} (hl : l.stackTraces = false) (ad : Nat → Nat) (sw : Bool) (tl : List fx_Sh) (M : fx_M) {N a y : Nat} (hN16 : N ≤ 16) {ho : Nat → Bool} {bh : Nat → Int32} {fo rk : Nat → Nat} (hc : cgd N ho bh fo rk) (hho : ∀ b, b < N → bt (M 37 34) b = ho b) (hbh : ∀ b, b < N → M 59 b = bh b) (h60 : ∀ b, b < N → (fo b = b ∧ M 60 b = -1) ∨ (fo b ≠ b ∧ ∃ a, a < N ∧ M 60 b = nI a ∧ bh a = nI b)) (ha : a < N) (hy : y < N) : CI l Z yX8_canJoin (.code yX8_canJoin cX8_canJoin 3 (some .boolean)) 1 [.ref (ad 37), .int (nI a), .int (nI y)] ad (c_C sw ++ (m_C ++ tl)) M (fun r m => r = (if (jnb ho bh fo a y) then 1 else 0) ∧ m = M) := by
  refine CT_of (ret := (some .boolean)) (lv0 := [some (.ref (ad 37)), some (.int (nI a)), some (.int (nI y))]) (by decide +kernel) hl (by simp [Value.category]) (Nat.le_of_ble_eq_true rfl) rfl ?_
  intro X F Rt _
  have hbm : bh a = -1 ∨ 0 ≤ bh a := by
    rcases hc.2.1 a ha with z | ⟨x, x1, x2, -⟩
    · exact Or.inl z
    · refine Or.inr ?_
      rw [x2, ← nI_0, nI_leI (by omega) (by omega)]; omega
  have ham : (fo y = y ∧ M 60 y = -1) ∨ (fo y ≠ y ∧ 0 ≤ M 60 y) := by
    rcases h60 y hy with z | ⟨z, x, x1, x2, -⟩
    · exact Or.inl z
    · refine Or.inr ⟨z, ?_⟩
      rw [x2, ← nI_0, nI_leI (by omega) (by omega)]; omega
  refine G_iload_n F dX8_canJoin_0 rfl ?_
  refine G_if_eq (tgt := 51) F dX8_canJoin_1 (by decide) (fun h1 => ?_) (fun h1 => ?_)
  · have f : ¬ (jnb ho bh fo a y) = true := fun q => (jnb_iff.mp q).1 ((nI_eq (by omega) (by omega)).mp (h1.trans nI_0.symm))
    refine G_iconst (v := 0) F dX8_canJoin_51 rfl ?_
    refine G_iret F Rt dX8_canJoin_52 (rfl) ⟨rfl, rfl, _, rfl, ?_⟩ (Nat.le_refl _) (Nat.le_refl _)
    first | exact ⟨(if_pos f).symm, rfl⟩ | exact ⟨(if_neg f).symm, rfl⟩
  · refine G_aload_n F dX8_canJoin_4 rfl ?_
    refine G_iload_n F dX8_canJoin_5 rfl ?_
    refine G_vI F mv_X8_207 dX8_canJoin_6 (t_isHot hl ad sw tl M (b := a) (by omega)) rfl rfl rfl rfl (Nat.le_of_ble_eq_true rfl) ⟨Nat.le_of_ble_eq_true rfl, Nat.le_of_ble_eq_true rfl, Nat.le_of_ble_eq_true rfl, Nat.le_of_ble_eq_true rfl⟩ (fun r6 M6 h6 => ?_)
    rw [h6.1, h6.2, hho a ha]
    refine G_if_eq (tgt := 51) F dX8_canJoin_9 (by decide) (fun h9 => ?_) (fun h9 => ?_)
    · have f : ¬ (jnb ho bh fo a y) = true := fun q => by rw [(jnb_iff.mp q).2.1] at h9; exact absurd h9 (by decide)
      refine G_iconst (v := 0) F dX8_canJoin_51 rfl ?_
      refine G_iret F Rt dX8_canJoin_52 (rfl) ⟨rfl, rfl, _, rfl, ?_⟩ (Nat.le_refl _) (Nat.le_refl _)
      first | exact ⟨(if_pos f).symm, rfl⟩ | exact ⟨(if_neg f).symm, rfl⟩
    · refine G_aload_n F dX8_canJoin_12 rfl ?_
      refine G_iload_n F dX8_canJoin_13 rfl ?_
      refine G_vI F mv_X8_207 dX8_canJoin_14 (t_isHot hl ad sw tl M (b := y) (by omega)) rfl rfl rfl rfl (Nat.le_of_ble_eq_true rfl) ⟨Nat.le_of_ble_eq_true rfl, Nat.le_of_ble_eq_true rfl, Nat.le_of_ble_eq_true rfl, Nat.le_of_ble_eq_true rfl⟩ (fun r14 M14 h14 => ?_)
      rw [h14.1, h14.2, hho y hy]
      refine G_if_eq (tgt := 51) F dX8_canJoin_17 (by decide) (fun h17 => ?_) (fun h17 => ?_)
      · have f : ¬ (jnb ho bh fo a y) = true := fun q => by rw [(jnb_iff.mp q).2.2.1] at h17; exact absurd h17 (by decide)
        refine G_iconst (v := 0) F dX8_canJoin_51 rfl ?_
        refine G_iret F Rt dX8_canJoin_52 (rfl) ⟨rfl, rfl, _, rfl, ?_⟩ (Nat.le_refl _) (Nat.le_refl _)
        first | exact ⟨(if_pos f).symm, rfl⟩ | exact ⟨(if_neg f).symm, rfl⟩
      · refine G_aload_n F dX8_canJoin_20 rfl ?_
        refine G_getr F fl_X8_81 dX8_canJoin_21 rfl rfl ?_
        refine G_iload_n F dX8_canJoin_24 rfl ?_
        refine G_ialdN F dX8_canJoin_25 rfl (by omega) (by decide) ?_
        rw [hbh a ha]
        refine G_if_ge (tgt := 51) F dX8_canJoin_26 (by decide) (fun h26 => ?_) (fun h26 => ?_)
        · have f : ¬ (jnb ho bh fo a y) = true := fun q => by rw [(jnb_iff.mp q).2.2.2.1] at h26; exact absurd h26 (by decide)
          refine G_iconst (v := 0) F dX8_canJoin_51 rfl ?_
          refine G_iret F Rt dX8_canJoin_52 (rfl) ⟨rfl, rfl, _, rfl, ?_⟩ (Nat.le_refl _) (Nat.le_refl _)
          first | exact ⟨(if_pos f).symm, rfl⟩ | exact ⟨(if_neg f).symm, rfl⟩
        · refine G_aload_n F dX8_canJoin_29 rfl ?_
          refine G_getr F fl_X8_84 dX8_canJoin_30 rfl rfl ?_
          refine G_iload_n F dX8_canJoin_33 rfl ?_
          refine G_ialdN F dX8_canJoin_34 rfl (by omega) (by decide) ?_
          refine G_if_ge (tgt := 51) F dX8_canJoin_35 (by decide) (fun h35 => ?_) (fun h35 => ?_)
          · have f : ¬ (jnb ho bh fo a y) = true := fun q => ham.elim (fun z => by rw [z.2] at h35; exact absurd h35 (by decide)) (fun z => z.1 (jnb_iff.mp q).2.2.2.2.1)
            refine G_iconst (v := 0) F dX8_canJoin_51 rfl ?_
            refine G_iret F Rt dX8_canJoin_52 (rfl) ⟨rfl, rfl, _, rfl, ?_⟩ (Nat.le_refl _) (Nat.le_refl _)
            first | exact ⟨(if_pos f).symm, rfl⟩ | exact ⟨(if_neg f).symm, rfl⟩
          · refine G_aload_n F dX8_canJoin_38 rfl ?_
            refine G_iload_n F dX8_canJoin_39 rfl ?_
            refine G_vI F mv_X8_210 dX8_canJoin_40 (t_firstOf hl ad sw tl M (N := N) (b := a) hN16 hc h60 ha) rfl rfl rfl rfl (Nat.le_of_ble_eq_true rfl) ⟨Nat.le_of_ble_eq_true rfl, Nat.le_of_ble_eq_true rfl, Nat.le_of_ble_eq_true rfl, Nat.le_of_ble_eq_true rfl⟩ (fun r40 M40 h40 => ?_)
            rw [h40.1, h40.2]
            refine G_iload_n F dX8_canJoin_43 rfl ?_
            refine G_icmp_eq (tgt := 51) F dX8_canJoin_44 (by decide) (fun h44 => ?_) (fun h44 => ?_)
            · have f : ¬ (jnb ho bh fo a y) = true := fun q => (jnb_iff.mp q).2.2.2.2.2 ((nI_eq (by have := (hc.1 a ha).1; omega) (by omega)).mp h44)
              refine G_iconst (v := 0) F dX8_canJoin_51 rfl ?_
              refine G_iret F Rt dX8_canJoin_52 (rfl) ⟨rfl, rfl, _, rfl, ?_⟩ (Nat.le_refl _) (Nat.le_refl _)
              first | exact ⟨(if_pos f).symm, rfl⟩ | exact ⟨(if_neg f).symm, rfl⟩
            · have f : (jnb ho bh fo a y) = true := jnb_iff.mpr ⟨fun z => h1 (by rw [z]; rfl), by simpa using h9, by simpa using h17, hbm.elim id (fun z => absurd z h26), ham.elim (fun z => z.1) (fun z => absurd z.2 h35), fun z => h44 (by rw [z])⟩
              refine G_iconst (v := 1) F dX8_canJoin_47 rfl ?_
              refine G_goto (tgt := 52) F dX8_canJoin_48 (by decide) ?_
              refine G_iret F Rt dX8_canJoin_52 (rfl) ⟨rfl, rfl, _, rfl, ?_⟩ (Nat.le_refl _) (Nat.le_refl _)
              first | exact ⟨(if_pos f).symm, rfl⟩ | exact ⟨(if_neg f).symm, rfl⟩
set_option maxRecDepth 20000 in
theorem t_joins {l : Launch} {Z : fx_Z} (hl : l.stackTraces = false) (ad : Nat → Nat) (sw : Bool) (tl : List fx_Sh) (M : fx_M) {a y : Nat} (ha : a < 16) (hy : y < 16) : CV l Z yX8_joins (.code yX8_joins cX8_joins 3 none) 0 [.ref (ad 37), .int (nI a), .int (nI y)] ad (c_C sw ++ (m_C ++ tl)) M (fun m => m = fx_u (fx_u M 59 a (nI y)) 60 y (nI a)) := by
  refine CT_of (ret := none) (lv0 := [some (.ref (ad 37)), some (.int (nI a)), some (.int (nI y))]) (by decide +kernel) hl (by simp [Value.category]) (Nat.le_of_ble_eq_true rfl) rfl ?_
  intro X F Rt _
  refine G_aload_n F dX8_joins_0 rfl ?_
  refine G_getr F fl_X8_81 dX8_joins_1 rfl rfl ?_
  refine G_iload_n F dX8_joins_4 rfl ?_
  refine G_iload_n F dX8_joins_5 rfl ?_
  refine G_iastN F dX8_joins_6 rfl (by omega) (by decide) ?_
  refine G_aload_n F dX8_joins_7 rfl ?_
  refine G_getr F fl_X8_84 dX8_joins_8 rfl rfl ?_
  refine G_iload_n F dX8_joins_11 rfl ?_
  refine G_iload_n F dX8_joins_12 rfl ?_
  refine G_iastN F dX8_joins_13 rfl (by omega) (by decide) ?_
  refine G_vret F Rt dX8_joins_14 ⟨rfl, rfl, rfl, ?_⟩ (Nat.le_refl _) (Nat.le_refl _)
  rfl
theorem half32 {e : Nat} (h : e < 32) : nI e / 2 = nI (e / 2) ∧ nI e - nI e / 2 * 2 = nI (e % 2) := by
  have : ∀ e, e < 32 → nI e / 2 = nI (e / 2) ∧ nI e - nI e / 2 * 2 = nI (e % 2) := by decide +kernel
  exact this e h
set_option maxRecDepth 20000 in
theorem t_weightOf {l : Launch} {Z : fx_Z} (hl : l.stackTraces = false) (ad : Nat → Nat) (sw : Bool) (tl : List fx_Sh) (M : fx_M) {N e : Nat} (hN16 : N ≤ 16) (he : e < 2 * N) (hz : zw N (M 39) (M 44) (M 45)) : CI l Z yX8_weightOf (.code yX8_weightOf cX8_weightOf 3 (some .int)) 0 [.ref (ad 37), .int (nI e)] ad (c_C sw ++ (m_C ++ tl)) M (fun r m => r = (eW (M 44) (M 45) e) ∧ m = M) := by
  refine CT_of (ret := (some .int)) (lv0 := [some (.ref (ad 37)), some (.int (nI e)), none]) (by decide +kernel) hl (by simp [Value.category]) (Nat.le_of_ble_eq_true rfl) rfl ?_
  intro X F Rt _
  have hh := half32 (show e < 32 by omega)
  have z := hz (e / 2) (by omega)
  refine G_iload_n F dX8_weightOf_0 rfl ?_
  refine G_iconst (v := 2) F dX8_weightOf_1 rfl ?_
  refine G_idiv F dX8_weightOf_2 (by decide) ?_
  rw [hh.1]
  refine G_istore_n F 2 dX8_weightOf_3 rfl rfl rfl (Nat.le_of_ble_eq_true rfl) ?_
  simp only [List.set_cons_zero, List.set_cons_succ]
  refine G_iload_n F dX8_weightOf_4 rfl ?_
  refine G_iconst (v := 2) F dX8_weightOf_5 rfl ?_
  refine G_irem F dX8_weightOf_6 (by decide) ?_
  rw [hh.2]
  refine G_if_ne (tgt := 33) F dX8_weightOf_7 (by decide) (fun h7 => ?_) (fun h7 => ?_)
  · have q7 : ¬ e % 2 = 0 := fun q => h7 (by rw [q]; rfl)
    refine G_aload_n F dX8_weightOf_33 rfl ?_
    refine G_getr F fl_X8_20 dX8_weightOf_34 rfl rfl ?_
    refine G_iload_n F dX8_weightOf_37 rfl ?_
    refine G_ialdN F dX8_weightOf_38 rfl (by omega) (by decide) ?_
    refine G_iconst (v := 1) F dX8_weightOf_39 rfl ?_
    refine G_icmp_ne (tgt := 52) F dX8_weightOf_40 (by decide) (fun h40 => ?_) (fun h40 => ?_)
    · refine G_iconst (v := 0) F dX8_weightOf_52 rfl ?_
      refine G_iret F Rt dX8_weightOf_53 (rfl) ⟨rfl, rfl, _, rfl, ?_⟩ (Nat.le_refl _) (Nat.le_refl _)
      refine ⟨?_, rfl⟩
      unfold eW
      first | (rw [if_pos q7, z.1 h17]) | (rw [if_pos q7]) | (rw [if_neg q7, z.2 h40]) | (rw [if_neg q7])
    · refine G_aload_n F dX8_weightOf_43 rfl ?_
      refine G_getr F fl_X8_38 dX8_weightOf_44 rfl rfl ?_
      refine G_iload_n F dX8_weightOf_47 rfl ?_
      refine G_ialdN F dX8_weightOf_48 rfl (by omega) (by decide) ?_
      refine G_goto (tgt := 53) F dX8_weightOf_49 (by decide) ?_
      refine G_iret F Rt dX8_weightOf_53 (rfl) ⟨rfl, rfl, _, rfl, ?_⟩ (Nat.le_refl _) (Nat.le_refl _)
      refine ⟨?_, rfl⟩
      unfold eW
      first | (rw [if_pos q7, z.1 h17]) | (rw [if_pos q7]) | (rw [if_neg q7, z.2 h40]) | (rw [if_neg q7])
  · have q7 : e % 2 = 0 := (nI_eq (by omega) (by omega)).mp (h7.trans nI_0.symm)
    refine G_aload_n F dX8_weightOf_10 rfl ?_
    refine G_getr F fl_X8_20 dX8_weightOf_11 rfl rfl ?_
    refine G_iload_n F dX8_weightOf_14 rfl ?_
    refine G_ialdN F dX8_weightOf_15 rfl (by omega) (by decide) ?_
    refine G_iconst (v := 2) F dX8_weightOf_16 rfl ?_
    refine G_icmp_ne (tgt := 24) F dX8_weightOf_17 (by decide) (fun h17 => ?_) (fun h17 => ?_)
    · refine G_aload_n F dX8_weightOf_24 rfl ?_
      refine G_getr F fl_X8_35 dX8_weightOf_25 rfl rfl ?_
      refine G_iload_n F dX8_weightOf_28 rfl ?_
      refine G_ialdN F dX8_weightOf_29 rfl (by omega) (by decide) ?_
      refine G_goto (tgt := 53) F dX8_weightOf_30 (by decide) ?_
      refine G_iret F Rt dX8_weightOf_53 (rfl) ⟨rfl, rfl, _, rfl, ?_⟩ (Nat.le_refl _) (Nat.le_refl _)
      refine ⟨?_, rfl⟩
      unfold eW
      first | (rw [if_pos q7, z.1 h17]) | (rw [if_pos q7]) | (rw [if_neg q7, z.2 h40]) | (rw [if_neg q7])
    · refine G_iconst (v := 0) F dX8_weightOf_20 rfl ?_
      refine G_goto (tgt := 53) F dX8_weightOf_21 (by decide) ?_
      refine G_iret F Rt dX8_weightOf_53 (rfl) ⟨rfl, rfl, _, rfl, ?_⟩ (Nat.le_refl _) (Nat.le_refl _)
      refine ⟨?_, rfl⟩
      unfold eW
      first | (rw [if_pos q7, z.1 h17]) | (rw [if_pos q7]) | (rw [if_neg q7, z.2 h40]) | (rw [if_neg q7])
set_option maxRecDepth 20000 in
theorem t_targetOf {l : Launch} {Z : fx_Z} (hl : l.stackTraces = false) (ad : Nat → Nat) (sw : Bool) (tl : List fx_Sh) (M : fx_M) {N e : Nat} (hN16 : N ≤ 16) (he : e < 2 * N) : CI l Z yX8_targetOf (.code yX8_targetOf cX8_targetOf 2 (some .int)) 0 [.ref (ad 37), .int (nI e)] ad (c_C sw ++ (m_C ++ tl)) M (fun r m => r = eT (M 40) (M 41) e ∧ m = M) := by
  refine CT_of (ret := (some .int)) (lv0 := [some (.ref (ad 37)), some (.int (nI e))]) (by decide +kernel) hl (by simp [Value.category]) (Nat.le_of_ble_eq_true rfl) rfl ?_
  intro X F Rt _
  have hh := half32 (show e < 32 by omega)
  refine G_iload_n F dX8_targetOf_0 rfl ?_
  refine G_iconst (v := 2) F dX8_targetOf_1 rfl ?_
  refine G_irem F dX8_targetOf_2 (by decide) ?_
  rw [hh.2]
  refine G_if_ne (tgt := 17) F dX8_targetOf_3 (by decide) (fun h3 => ?_) (fun h3 => ?_)
  · have q7 : ¬ e % 2 = 0 := fun q => h3 (by rw [q]; rfl)
    refine G_aload_n F dX8_targetOf_17 rfl ?_
    refine G_getr F fl_X8_26 dX8_targetOf_18 rfl rfl ?_
    refine G_iload_n F dX8_targetOf_21 rfl ?_
    refine G_iconst (v := 2) F dX8_targetOf_22 rfl ?_
    refine G_idiv F dX8_targetOf_23 (by decide) ?_
    rw [hh.1]
    refine G_ialdN F dX8_targetOf_24 rfl (by omega) (by decide) ?_
    refine G_iret F Rt dX8_targetOf_25 (rfl) ⟨rfl, rfl, _, rfl, ?_⟩ (Nat.le_refl _) (Nat.le_refl _)
    refine ⟨?_, rfl⟩
    unfold eT
    first | rw [if_pos q7] | rw [if_neg q7]
  · have q7 : e % 2 = 0 := (nI_eq (by omega) (by omega)).mp (h3.trans nI_0.symm)
    refine G_aload_n F dX8_targetOf_6 rfl ?_
    refine G_getr F fl_X8_23 dX8_targetOf_7 rfl rfl ?_
    refine G_iload_n F dX8_targetOf_10 rfl ?_
    refine G_iconst (v := 2) F dX8_targetOf_11 rfl ?_
    refine G_idiv F dX8_targetOf_12 (by decide) ?_
    rw [hh.1]
    refine G_ialdN F dX8_targetOf_13 rfl (by omega) (by decide) ?_
    refine G_goto (tgt := 25) F dX8_targetOf_14 (by decide) ?_
    refine G_iret F Rt dX8_targetOf_25 (rfl) ⟨rfl, rfl, _, rfl, ?_⟩ (Nat.le_refl _) (Nat.le_refl _)
    refine ⟨?_, rfl⟩
    unfold eT
    first | rw [if_pos q7] | rw [if_neg q7]
/-- whether an edge comes behind another one, or behind none -/
def eB (w1 w2 : Nat → Int32) (ed : Int32) (e : Nat) : Bool := decide (ed = -1) || (decide (eW w1 w2 e < eW w1 w2 ed.toNatClampNeg) || (decide (eW w1 w2 e = eW w1 w2 ed.toNatClampNeg) && decide (ed.toNatClampNeg < e)))
def eN (w1 w2 : Nat → Int32) (ed : Int32) (e : Nat) : Bool := decide (0 < eW w1 w2 e) && eB w1 w2 ed e
theorem sgc_neg {cd : Nat → Bool} {pu : Nat → Int32} {n : Nat} (hn : n < 64) : sgc cd pu n < 0 ↔ sgc cd pu n = -1 := by
  rcases sgc_in (cd := cd) (pu := pu) n with h | ⟨x, h1, h2, -⟩
  · rw [h]; decide
  · rw [h2]
    refine ⟨fun q => ?_, fun q => absurd q (nI_m1 (by omega))⟩
    rw [← nI_0, nI_ltI (by omega) (by omega)] at q
    omega
set_option maxRecDepth 20000 in
theorem t_nextEdge {l : Launch} {Z : fx_Z} (hl : l.stackTraces = false) (ad : Nat → Nat) (sw : Bool) (tl : List fx_Sh) (M : fx_M) {N : Nat} (ed : Int32) (hN : M 37 0 = nI N) (hN16 : N ≤ 16) (hN1 : 1 ≤ N) (hz : zw N (M 39) (M 44) (M 45)) (hed : ed = -1 ∨ ∃ e0, e0 < 2 * N ∧ ed = nI e0) : CI l Z yX8_nextEdge (.code yX8_nextEdge cX8_nextEdge 6 (some .int)) 1 [.ref (ad 37), .int ed] ad (c_C sw ++ (m_C ++ tl)) M (fun r m => r = (sgc (eN (M 44) (M 45) ed) (eW (M 44) (M 45)) (2 * N)) ∧ m = M) := by
  refine CT_of (ret := (some .int)) (lv0 := [some (.ref (ad 37)), some (.int ed), none, none, none, none]) (by decide +kernel) hl (by simp [Value.category]) (Nat.le_of_ble_eq_true rfl) rfl ?_
  intro X F Rt _
  have lp : ∀ (k : Nat) (e : Nat), k = 2 * N - e → e ≤ 2 * N → GG X ad 4 [some (.ref (ad 37)), some (.int ed), some (.int (sgc (eN (M 44) (M 45) ed) (eW (M 44) (M 45)) e)), some (.int (nI e)), none, none] [] 0 0 (c_C sw ++ (m_C ++ tl)) M := by
    intro k
    induction k using Nat.strongRecOn with
    | _ k ih =>
      intro e hk hi
      refine G_iload_n F dX8_nextEdge_4 rfl ?_
      refine G_iconst (v := nI 2) F dX8_nextEdge_5 (by decide) ?_
      refine G_aload_n F dX8_nextEdge_6 rfl ?_
      refine G_geti F fl_X8_106 dX8_nextEdge_7 rfl rfl ?_
      rw [hN]
      refine G_imul F dX8_nextEdge_10 ?_
      rw [nI_mul]
      refine G_icmp_ge (tgt := 89) F dX8_nextEdge_11 (by decide) (fun h11 => ?_) (fun h11 => ?_)
      · rw [nI_leI (by omega) (by omega)] at h11
        have hiN : e = 2 * N := by omega
        subst hiN
        refine G_iload_n F dX8_nextEdge_89 rfl ?_
        refine G_iret F Rt dX8_nextEdge_90 (rfl) ⟨rfl, rfl, _, rfl, ?_⟩ (Nat.le_refl _) (Nat.le_refl _)
        exact ⟨rfl, rfl⟩
      · rw [nI_leI (by omega) (by omega)] at h11
        have t83 : ∀ (x z : Int32), x = (sgc (eN (M 44) (M 45) ed) (eW (M 44) (M 45)) (e + 1)) → GG X ad 83 [some (.ref (ad 37)), some (.int ed), some (.int x), some (.int (nI e)), some (.int (eW (M 44) (M 45) e)), some (.int z)] [] 0 0 (c_C sw ++ (m_C ++ tl)) M := by
          intro x z hx
          refine G_iinc F (1) dX8_nextEdge_83 rfl rfl rfl rfl ?_
          simp only [List.set_cons_zero, List.set_cons_succ, nI_1]
          refine G_goto (tgt := 4) F dX8_nextEdge_86 (by decide) ?_
          refine G_drop F 4 ?_
          refine G_drop F 5 ?_
          simp only [List.set_cons_zero, List.set_cons_succ]
          rw [hx]
          exact ih (2 * N - (e + 1)) (by omega) (e + 1) rfl (by omega)
        have t57a : (eB (M 44) (M 45) ed e) = true → GG X ad 57 [some (.ref (ad 37)), some (.int ed), some (.int (sgc (eN (M 44) (M 45) ed) (eW (M 44) (M 45)) e)), some (.int (nI e)), some (.int (eW (M 44) (M 45) e)), some (.int 1)] [] 0 0 (c_C sw ++ (m_C ++ tl)) M := by
          intro hv
          have hs : (sgc (eN (M 44) (M 45) ed) (eW (M 44) (M 45)) (e + 1)) = if (eN (M 44) (M 45) ed e = true ∧ ((sgc (eN (M 44) (M 45) ed) (eW (M 44) (M 45)) e) = -1 ∨ eW (M 44) (M 45) ((sgc (eN (M 44) (M 45) ed) (eW (M 44) (M 45)) e)).toNatClampNeg < (eW (M 44) (M 45) e))) then nI e else (sgc (eN (M 44) (M 45) ed) (eW (M 44) (M 45)) e) := rfl
          refine G_iload F dX8_nextEdge_57 rfl ?_
          refine G_if_le (tgt := 83) F dX8_nextEdge_59 (by decide) (fun h59 => ?_) (fun h59 => ?_)
          · have q59 : ¬ 0 < (eW (M 44) (M 45) e) := by simp only [Int32.lt_iff_toInt_lt, Int32.le_iff_toInt_le] at h59 ⊢; omega
            exact t83 _ _ (by rw [hs, if_neg (fun z => q59 (by have := z.1; simp only [eN, Bool.and_eq_true, decide_eq_true_eq] at this; exact this.1))])
          · have q59 : 0 < (eW (M 44) (M 45) e) := by simp only [Int32.lt_iff_toInt_lt, Int32.le_iff_toInt_le] at h59 ⊢; omega
            refine G_iload F dX8_nextEdge_62 rfl ?_
            refine G_if_eq (tgt := 83) F dX8_nextEdge_64 (by decide) (fun h64 => ?_) (fun h64 => ?_)
            · exact absurd h64 (by decide) --stop
            · skip
              refine G_iload_n F dX8_nextEdge_67 rfl ?_
              refine G_if_lt (tgt := 81) F dX8_nextEdge_68 (by decide) (fun h68 => ?_) (fun h68 => ?_)
              · skip
                refine G_iload_n F dX8_nextEdge_81 rfl ?_
                refine G_istore_n F 2 dX8_nextEdge_82 rfl rfl rfl (Nat.le_of_ble_eq_true rfl) ?_
                simp only [List.set_cons_zero, List.set_cons_succ]
                exact t83 _ _ (by rw [hs, if_pos ⟨by simp only [eN, Bool.and_eq_true, decide_eq_true_eq]; exact ⟨q59, hv⟩, Or.inl ((sgc_neg (by omega)).mp h68)⟩])
              · refine G_iload F dX8_nextEdge_71 rfl ?_
                refine G_aload_n F dX8_nextEdge_73 rfl ?_
                refine G_iload_n F dX8_nextEdge_74 rfl ?_
                obtain ⟨x, x1, x2⟩ : ∃ x, x < e ∧ (sgc (eN (M 44) (M 45) ed) (eW (M 44) (M 45)) e) = nI x := by
                  rcases sgc_in (cd := eN (M 44) (M 45) ed) (pu := eW (M 44) (M 45)) e with z | ⟨x, x1, x2, -⟩
                  · exact absurd (by rw [z]; decide) h68
                  · exact ⟨x, x1, x2⟩
                rw [x2]
                refine G_vI F mv_X8_213 dX8_nextEdge_75 (t_weightOf hl ad sw tl M (N := N) (e := x) hN16 (by omega) hz) rfl rfl rfl rfl (Nat.le_of_ble_eq_true rfl) ⟨Nat.le_of_ble_eq_true rfl, Nat.le_of_ble_eq_true rfl, Nat.le_of_ble_eq_true rfl, Nat.le_of_ble_eq_true rfl⟩ (fun r75 M75 h75 => ?_)
                rw [h75.1, h75.2]
                rw [← x2]
                refine G_icmp_le (tgt := 83) F dX8_nextEdge_78 (by decide) (fun h78 => ?_) (fun h78 => ?_)
                · have q78 : ¬ eW (M 44) (M 45) x < (eW (M 44) (M 45) e) := by simp only [Int32.lt_iff_toInt_lt, Int32.le_iff_toInt_le] at h78 ⊢; omega
                  exact t83 _ _ (by rw [hs, if_neg (fun z => z.2.elim (fun z => absurd (by rw [z]; decide) h68) (fun z => by rw [x2, nI_clamp (by omega)] at z; exact q78 z))])
                · have q78 : eW (M 44) (M 45) x < (eW (M 44) (M 45) e) := by simp only [Int32.lt_iff_toInt_lt, Int32.le_iff_toInt_le] at h78 ⊢; omega
                  refine G_iload_n F dX8_nextEdge_81 rfl ?_
                  refine G_istore_n F 2 dX8_nextEdge_82 rfl rfl rfl (Nat.le_of_ble_eq_true rfl) ?_
                  simp only [List.set_cons_zero, List.set_cons_succ]
                  exact t83 _ _ (by rw [hs, if_pos ⟨by simp only [eN, Bool.and_eq_true, decide_eq_true_eq]; exact ⟨q59, hv⟩, Or.inr (by rw [x2, nI_clamp (by omega)]; exact q78)⟩])
        have t57b : ¬ (eB (M 44) (M 45) ed e) = true → GG X ad 57 [some (.ref (ad 37)), some (.int ed), some (.int (sgc (eN (M 44) (M 45) ed) (eW (M 44) (M 45)) e)), some (.int (nI e)), some (.int (eW (M 44) (M 45) e)), some (.int 0)] [] 0 0 (c_C sw ++ (m_C ++ tl)) M := by
          intro hv
          have hs : (sgc (eN (M 44) (M 45) ed) (eW (M 44) (M 45)) (e + 1)) = if (eN (M 44) (M 45) ed e = true ∧ ((sgc (eN (M 44) (M 45) ed) (eW (M 44) (M 45)) e) = -1 ∨ eW (M 44) (M 45) ((sgc (eN (M 44) (M 45) ed) (eW (M 44) (M 45)) e)).toNatClampNeg < (eW (M 44) (M 45) e))) then nI e else (sgc (eN (M 44) (M 45) ed) (eW (M 44) (M 45)) e) := rfl
          refine G_iload F dX8_nextEdge_57 rfl ?_
          refine G_if_le (tgt := 83) F dX8_nextEdge_59 (by decide) (fun h59 => ?_) (fun h59 => ?_)
          · have q59 : ¬ 0 < (eW (M 44) (M 45) e) := by simp only [Int32.lt_iff_toInt_lt, Int32.le_iff_toInt_le] at h59 ⊢; omega
            exact t83 _ _ (by rw [hs, if_neg (fun z => q59 (by have := z.1; simp only [eN, Bool.and_eq_true, decide_eq_true_eq] at this; exact this.1))])
          · have q59 : 0 < (eW (M 44) (M 45) e) := by simp only [Int32.lt_iff_toInt_lt, Int32.le_iff_toInt_le] at h59 ⊢; omega
            refine G_iload F dX8_nextEdge_62 rfl ?_
            refine G_if_eq (tgt := 83) F dX8_nextEdge_64 (by decide) (fun h64 => ?_) (fun h64 => ?_)
            · skip
              exact t83 _ _ (by rw [hs, if_neg (fun z => hv (by have := z.1; simp only [eN, Bool.and_eq_true, decide_eq_true_eq] at this; exact this.2))])
            · exact absurd rfl h64 --stop
        refine G_aload_n F dX8_nextEdge_14 rfl ?_
        refine G_iload_n F dX8_nextEdge_15 rfl ?_
        refine G_vI F mv_X8_213 dX8_nextEdge_16 (t_weightOf hl ad sw tl M (N := N) (e := e) hN16 (by omega) hz) rfl rfl rfl rfl (Nat.le_of_ble_eq_true rfl) ⟨Nat.le_of_ble_eq_true rfl, Nat.le_of_ble_eq_true rfl, Nat.le_of_ble_eq_true rfl, Nat.le_of_ble_eq_true rfl⟩ (fun r16 M16 h16 => ?_)
        rw [h16.1, h16.2]
        refine G_istore F dX8_nextEdge_19 rfl rfl (Nat.le_of_ble_eq_true rfl) ?_
        simp only [List.set_cons_zero, List.set_cons_succ]
        refine G_iload_n F dX8_nextEdge_21 rfl ?_
        refine G_if_lt (tgt := 50) F dX8_nextEdge_22 (by decide) (fun h22 => ?_) (fun h22 => ?_)
        · have f : (eB (M 44) (M 45) ed e) = true := by simp only [eB, Bool.or_eq_true, Bool.and_eq_true, decide_eq_true_eq]; exact Or.inl (hed.elim id (fun z => by obtain ⟨e0, z1, z2⟩ := z; rw [z2, ← nI_0, nI_ltI (by omega) (by omega)] at h22; omega))
          refine G_iconst (v := 1) F dX8_nextEdge_50 rfl ?_
          refine G_goto (tgt := 55) F dX8_nextEdge_51 (by decide) ?_
          refine G_istore F dX8_nextEdge_55 rfl rfl (Nat.le_of_ble_eq_true rfl) ?_
          simp only [List.set_cons_zero, List.set_cons_succ]
          first | exact t57a f | exact t57b f
        · obtain ⟨e0, he0, he1⟩ : ∃ e0, e0 < 2 * N ∧ ed = nI e0 := hed.elim (fun z => absurd (by rw [z]; decide) h22) id
          have ec : ed.toNatClampNeg = e0 := by rw [he1]; exact nI_clamp (by omega)
          refine G_iload F dX8_nextEdge_25 rfl ?_
          refine G_aload_n F dX8_nextEdge_27 rfl ?_
          refine G_iload_n F dX8_nextEdge_28 rfl ?_
          rw [he1]
          refine G_vI F mv_X8_213 dX8_nextEdge_29 (t_weightOf hl ad sw tl M (N := N) (e := e0) hN16 he0 hz) rfl rfl rfl rfl (Nat.le_of_ble_eq_true rfl) ⟨Nat.le_of_ble_eq_true rfl, Nat.le_of_ble_eq_true rfl, Nat.le_of_ble_eq_true rfl, Nat.le_of_ble_eq_true rfl⟩ (fun r29 M29 h29 => ?_)
          rw [h29.1, h29.2, ← he1]
          refine G_icmp_lt (tgt := 50) F dX8_nextEdge_32 (by decide) (fun h32 => ?_) (fun h32 => ?_)
          · have f : (eB (M 44) (M 45) ed e) = true := by simp only [eB, Bool.or_eq_true, Bool.and_eq_true, decide_eq_true_eq]; exact Or.inr (Or.inl (by rw [ec]; exact h32))
            refine G_iconst (v := 1) F dX8_nextEdge_50 rfl ?_
            refine G_goto (tgt := 55) F dX8_nextEdge_51 (by decide) ?_
            refine G_istore F dX8_nextEdge_55 rfl rfl (Nat.le_of_ble_eq_true rfl) ?_
            simp only [List.set_cons_zero, List.set_cons_succ]
            first | exact t57a f | exact t57b f
          · refine G_iload F dX8_nextEdge_35 rfl ?_
            refine G_aload_n F dX8_nextEdge_37 rfl ?_
            refine G_iload_n F dX8_nextEdge_38 rfl ?_
            rw [he1]
            refine G_vI F mv_X8_213 dX8_nextEdge_39 (t_weightOf hl ad sw tl M (N := N) (e := e0) hN16 he0 hz) rfl rfl rfl rfl (Nat.le_of_ble_eq_true rfl) ⟨Nat.le_of_ble_eq_true rfl, Nat.le_of_ble_eq_true rfl, Nat.le_of_ble_eq_true rfl, Nat.le_of_ble_eq_true rfl⟩ (fun r39 M39 h39 => ?_)
            rw [h39.1, h39.2, ← he1]
            refine G_icmp_ne (tgt := 54) F dX8_nextEdge_42 (by decide) (fun h42 => ?_) (fun h42 => ?_)
            · have f : ¬ (eB (M 44) (M 45) ed e) = true := fun q => by
                simp only [eB, Bool.or_eq_true, Bool.and_eq_true, decide_eq_true_eq, ec] at q
                rcases q with q | q | q
                · rw [q] at he1; exact nI_m1 (by omega) he1.symm
                · exact h32 q
                · exact h42 q.1
              refine G_iconst (v := 0) F dX8_nextEdge_54 rfl ?_
              refine G_istore F dX8_nextEdge_55 rfl rfl (Nat.le_of_ble_eq_true rfl) ?_
              simp only [List.set_cons_zero, List.set_cons_succ]
              first | exact t57a f | exact t57b f
            · refine G_iload_n F dX8_nextEdge_45 rfl ?_
              refine G_iload_n F dX8_nextEdge_46 rfl ?_
              rw [he1]
              refine G_icmp_le (tgt := 54) F dX8_nextEdge_47 (by decide) (fun h47 => ?_) (fun h47 => ?_)
              · rw [nI_leI (by omega) (by omega)] at h47
                have f : ¬ (eB (M 44) (M 45) ed e) = true := fun q => by
                  simp only [eB, Bool.or_eq_true, Bool.and_eq_true, decide_eq_true_eq, ec] at q
                  rcases q with q | q | q
                  · rw [q] at he1; exact nI_m1 (by omega) he1.symm
                  · exact h32 q
                  · omega
                rw [← he1]
                refine G_iconst (v := 0) F dX8_nextEdge_54 rfl ?_
                refine G_istore F dX8_nextEdge_55 rfl rfl (Nat.le_of_ble_eq_true rfl) ?_
                simp only [List.set_cons_zero, List.set_cons_succ]
                first | exact t57a f | exact t57b f
              · rw [nI_leI (by omega) (by omega)] at h47
                have f : (eB (M 44) (M 45) ed e) = true := by simp only [eB, Bool.or_eq_true, Bool.and_eq_true, decide_eq_true_eq]; exact Or.inr (Or.inr ⟨by rw [ec]; exact h42, by rw [ec]; omega⟩)
                rw [← he1]
                refine G_iconst (v := 1) F dX8_nextEdge_50 rfl ?_
                refine G_goto (tgt := 55) F dX8_nextEdge_51 (by decide) ?_
                refine G_istore F dX8_nextEdge_55 rfl rfl (Nat.le_of_ble_eq_true rfl) ?_
                simp only [List.set_cons_zero, List.set_cons_succ]
                first | exact t57a f | exact t57b f
  refine G_iconst (v := -1) F dX8_nextEdge_0 rfl ?_
  refine G_istore_n F 2 dX8_nextEdge_1 rfl rfl rfl (Nat.le_of_ble_eq_true rfl) ?_
  simp only [List.set_cons_zero, List.set_cons_succ]
  refine G_iconst (v := nI 0) F dX8_nextEdge_2 (by decide) ?_
  refine G_istore_n F 3 dX8_nextEdge_3 rfl rfl rfl (Nat.le_of_ble_eq_true rfl) ?_
  simp only [List.set_cons_zero, List.set_cons_succ]
  exact lp (2 * N) 0 rfl (by omega)
