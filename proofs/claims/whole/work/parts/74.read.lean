/-! THE REFERENCE: read -/
theorem te_k3 (h : Nat → Int32) (a : Nat) : (te h a).2.2.1 = 0 ∨ (te h a).2.2.1 = 1 ∨ (te h a).2.2.1 = 2 := by
  unfold te
  dsimp only
  repeat' split
  all_goals simp
theorem pp_k3 {h : Nat → Int32} {len : Nat} (e : (pp h len).2.1 = true) : (pp h len).2.2.2.1 = 0 ∨ (pp h len).2.2.2.1 = 1 ∨ (pp h len).2.2.2.1 = 2 := by
  unfold pp at *
  by_cases h1 : 0 < (tn h 2 0 0).1
  · rw [if_pos h1] at e ⊢
    by_cases h2 : (tw h [32] (tn h 2 0 0).1).1 = true
    · rw [if_pos h2]; exact te_k3 h _
    · rw [if_neg h2] at e; exact Bool.noConfusion (show false = true from e)
  · rw [if_neg h1] at e; exact Bool.noConfusion (show false = true from e)
theorem and01 {p q : Prop} {dp : Decidable p} {dq : Decidable q} : ((if p then (1 : Int32) else 0) &&& (if q then 1 else 0)) = if p ∧ q then 1 else 0 := by
  by_cases h1 : p <;> by_cases h2 : q <;> simp [h1, h2]
theorem mb_eq {N : Nat} {z k f s : Int32} (hk : k = 0 ∨ k = 1 ∨ k = 2) : (decide (z ≤ 60) && tfit N k f s) = true ↔ ((z ≤ 60 ∧ (k = 2 ∨ pin N f = true)) ∧ (k ≠ 1 ∨ (pin N s = true ∧ f ≠ s))) := by
  have e01 : ¬ (0 : Int32) = 2 := by decide
  have e12 : ¬ (1 : Int32) = 2 := by decide
  have e10 : ¬ (1 : Int32) = 0 := by decide
  have e20 : ¬ (2 : Int32) = 0 := by decide
  have e21 : ¬ (2 : Int32) = 1 := by decide
  have e001 : ¬ (0 : Int32) = 1 := by decide
  unfold tfit
  rcases hk with e | e | e <;> subst e
  · simp only [if_true, Bool.and_eq_true, decide_eq_true_eq, e01, false_or, ne_eq, e001, not_false_eq_true, true_or, and_true]
  · simp only [e10, if_false, if_true, Bool.and_eq_true, decide_eq_true_eq, e12, false_or, ne_eq, not_true_eq_false, and_assoc]
  · simp only [e20, e21, if_false, Bool.and_eq_true, decide_eq_true_eq, true_or, and_true, ne_eq, not_false_eq_true]
set_option maxRecDepth 20000 in
theorem t_mayBe {l : Launch} {Z : fx_Z} (hl : l.stackTraces = false) (ad : Nat → Nat) (sw : Bool) (tl : List fx_Sh) (M : fx_M) {N : Nat} (hN : M 37 0 = nI N) (hN16 : N ≤ 16) (hN1 : 1 ≤ N) (hk : M 37 43 = 0 ∨ M 37 43 = 1 ∨ M 37 43 = 2) : CI l Z yX8_mayBe (.code yX8_mayBe cX8_mayBe 2 (some .boolean)) 2 [.ref (ad 37)] ad (c_C sw ++ (m_C ++ tl)) M (fun r m => r = (if (decide (M 37 42 ≤ 60) && tfit N (M 37 43) (M 37 44) (M 37 45)) = true then 1 else 0) ∧ m = M) := by
  refine CT_of (ret := (some .boolean)) (lv0 := [some (.ref (ad 37)), none]) (by decide +kernel) hl (by simp [Value.category]) (Nat.le_of_ble_eq_true rfl) rfl ?_
  intro X F Rt _
  have t42 : GG X ad 42 [some (.ref (ad 37)), some (.int (if M 37 42 ≤ 60 ∧ (M 37 43 = 2 ∨ pin N (M 37 44) = true) then (1 : Int32) else 0))] [] 0 0 (c_C sw ++ (m_C ++ tl)) M := by
    refine G_iload_n F dX8_mayBe_42 rfl ?_
    refine G_if_eq (tgt := 80) F dX8_mayBe_43 (by decide) (fun h43 => ?_) (fun h43 => ?_)
    · have c43 : ¬ (M 37 42 ≤ 60 ∧ (M 37 43 = 2 ∨ pin N (M 37 44) = true)) := fun q => by rw [if_pos q] at h43; exact absurd h43 (by decide)
      have f : ¬ (decide (M 37 42 ≤ 60) && tfit N (M 37 43) (M 37 44) (M 37 45)) = true := fun q => c43 ((mb_eq hk).mp q).1
      refine G_iconst (v := 0) F dX8_mayBe_80 rfl ?_
      refine G_iret F Rt dX8_mayBe_81 (rfl) ⟨rfl, rfl, _, rfl, ?_⟩ (Nat.le_refl _) (Nat.le_refl _)
      first | exact ⟨(if_pos f).symm, rfl⟩ | exact ⟨(if_neg f).symm, rfl⟩
    · have c43 : M 37 42 ≤ 60 ∧ (M 37 43 = 2 ∨ pin N (M 37 44) = true) := Classical.byContradiction fun q => h43 (if_neg q)
      refine G_aload_n F dX8_mayBe_46 rfl ?_
      refine G_geti F fl_X8_303 dX8_mayBe_47 rfl rfl ?_
      refine G_iconst (v := 1) F dX8_mayBe_50 rfl ?_
      refine G_icmp_ne (tgt := 76) F dX8_mayBe_51 (by decide) (fun h51 => ?_) (fun h51 => ?_)
      · have f : (decide (M 37 42 ≤ 60) && tfit N (M 37 43) (M 37 44) (M 37 45)) = true := (mb_eq hk).mpr ⟨c43, Or.inl h51⟩
        refine G_iconst (v := 1) F dX8_mayBe_76 rfl ?_
        refine G_goto (tgt := 81) F dX8_mayBe_77 (by decide) ?_
        refine G_iret F Rt dX8_mayBe_81 (rfl) ⟨rfl, rfl, _, rfl, ?_⟩ (Nat.le_refl _) (Nat.le_refl _)
        first | exact ⟨(if_pos f).symm, rfl⟩ | exact ⟨(if_neg f).symm, rfl⟩
      · skip
        refine G_aload_n F dX8_mayBe_54 rfl ?_
        refine G_aload_n F dX8_mayBe_55 rfl ?_
        refine G_geti F fl_X8_320 dX8_mayBe_56 rfl rfl ?_
        refine G_vI F mv_X8_119 dX8_mayBe_59 (t_isBlock hl ad sw tl M (N := N) (M 37 45) hN hN16 hN1) rfl rfl rfl rfl (Nat.le_of_ble_eq_true rfl) ⟨Nat.le_of_ble_eq_true rfl, Nat.le_of_ble_eq_true rfl, Nat.le_of_ble_eq_true rfl, Nat.le_of_ble_eq_true rfl⟩ (fun r59 M59 h59 => ?_)
        rw [h59.1, h59.2]
        refine G_if_eq (tgt := 80) F dX8_mayBe_62 (by decide) (fun h62 => ?_) (fun h62 => ?_)
        · have c62 : ¬ pin N (M 37 45) = true := fun q => by rw [if_pos q] at h62; exact absurd h62 (by decide)
          have f : ¬ (decide (M 37 42 ≤ 60) && tfit N (M 37 43) (M 37 44) (M 37 45)) = true := fun q => ((mb_eq hk).mp q).2.elim (fun z => z h51) (fun z => c62 z.1)
          refine G_iconst (v := 0) F dX8_mayBe_80 rfl ?_
          refine G_iret F Rt dX8_mayBe_81 (rfl) ⟨rfl, rfl, _, rfl, ?_⟩ (Nat.le_refl _) (Nat.le_refl _)
          first | exact ⟨(if_pos f).symm, rfl⟩ | exact ⟨(if_neg f).symm, rfl⟩
        · have c62 : pin N (M 37 45) = true := Classical.byContradiction fun q => h62 (if_neg q)
          refine G_aload_n F dX8_mayBe_65 rfl ?_
          refine G_geti F fl_X8_315 dX8_mayBe_66 rfl rfl ?_
          refine G_aload_n F dX8_mayBe_69 rfl ?_
          refine G_geti F fl_X8_320 dX8_mayBe_70 rfl rfl ?_
          refine G_icmp_eq (tgt := 80) F dX8_mayBe_73 (by decide) (fun h73 => ?_) (fun h73 => ?_)
          · have f : ¬ (decide (M 37 42 ≤ 60) && tfit N (M 37 43) (M 37 44) (M 37 45)) = true := fun q => ((mb_eq hk).mp q).2.elim (fun z => z h51) (fun z => z.2 h73)
            refine G_iconst (v := 0) F dX8_mayBe_80 rfl ?_
            refine G_iret F Rt dX8_mayBe_81 (rfl) ⟨rfl, rfl, _, rfl, ?_⟩ (Nat.le_refl _) (Nat.le_refl _)
            first | exact ⟨(if_pos f).symm, rfl⟩ | exact ⟨(if_neg f).symm, rfl⟩
          · have f : (decide (M 37 42 ≤ 60) && tfit N (M 37 43) (M 37 44) (M 37 45)) = true := (mb_eq hk).mpr ⟨c43, Or.inr ⟨c62, h73⟩⟩
            refine G_iconst (v := 1) F dX8_mayBe_76 rfl ?_
            refine G_goto (tgt := 81) F dX8_mayBe_77 (by decide) ?_
            refine G_iret F Rt dX8_mayBe_81 (rfl) ⟨rfl, rfl, _, rfl, ?_⟩ (Nat.le_refl _) (Nat.le_refl _)
            first | exact ⟨(if_pos f).symm, rfl⟩ | exact ⟨(if_neg f).symm, rfl⟩
  have t1 : M 37 42 ≤ 60 → GG X ad 15 [some (.ref (ad 37)), some (.int 1)] [] 0 0 (c_C sw ++ (m_C ++ tl)) M := by
    intro hv
    refine G_iload_n F dX8_mayBe_15 rfl ?_
    refine G_aload_n F dX8_mayBe_16 rfl ?_
    refine G_geti F fl_X8_303 dX8_mayBe_17 rfl rfl ?_
    refine G_iconst (v := 2) F dX8_mayBe_20 rfl ?_
    refine G_icmp_eq (tgt := 35) F dX8_mayBe_21 (by decide) (fun h21 => ?_) (fun h21 => ?_)
    · have f21 : M 37 43 = 2 ∨ pin N (M 37 44) = true := Or.inl h21
      refine G_iconst (v := 1) F dX8_mayBe_35 rfl ?_
      refine G_goto (tgt := 40) F dX8_mayBe_36 (by decide) ?_
      refine G_iand F dX8_mayBe_40 ?_
      refine G_istore_n F 1 dX8_mayBe_41 rfl rfl rfl (Nat.le_of_ble_eq_true rfl) ?_
      simp only [List.set_cons_zero, List.set_cons_succ]
      have q := t42
      rw [if_pos ⟨hv, f21⟩] at q
      rw [show (1 : Int32) &&& 1 = 1 from by decide]
      exact q
    · refine G_aload_n F dX8_mayBe_24 rfl ?_
      refine G_aload_n F dX8_mayBe_25 rfl ?_
      refine G_geti F fl_X8_315 dX8_mayBe_26 rfl rfl ?_
      refine G_vI F mv_X8_119 dX8_mayBe_29 (t_isBlock hl ad sw tl M (N := N) (M 37 44) hN hN16 hN1) rfl rfl rfl rfl (Nat.le_of_ble_eq_true rfl) ⟨Nat.le_of_ble_eq_true rfl, Nat.le_of_ble_eq_true rfl, Nat.le_of_ble_eq_true rfl, Nat.le_of_ble_eq_true rfl⟩ (fun r29 M29 h29 => ?_)
      rw [h29.1, h29.2]
      refine G_if_eq (tgt := 39) F dX8_mayBe_32 (by decide) (fun h32 => ?_) (fun h32 => ?_)
      · have f21 : ¬ (M 37 43 = 2 ∨ pin N (M 37 44) = true) := fun q => q.elim h21 (fun q => by rw [if_pos q] at h32; exact absurd h32 (by decide))
        refine G_iconst (v := 0) F dX8_mayBe_39 rfl ?_
        refine G_iand F dX8_mayBe_40 ?_
        refine G_istore_n F 1 dX8_mayBe_41 rfl rfl rfl (Nat.le_of_ble_eq_true rfl) ?_
        simp only [List.set_cons_zero, List.set_cons_succ]
        have q := t42
        rw [if_neg (fun z => f21 z.2)] at q
        rw [show (1 : Int32) &&& 0 = 0 from by decide]
        exact q
      · have f21 : M 37 43 = 2 ∨ pin N (M 37 44) = true := Or.inr (Classical.byContradiction fun q => h32 (if_neg q))
        refine G_iconst (v := 1) F dX8_mayBe_35 rfl ?_
        refine G_goto (tgt := 40) F dX8_mayBe_36 (by decide) ?_
        refine G_iand F dX8_mayBe_40 ?_
        refine G_istore_n F 1 dX8_mayBe_41 rfl rfl rfl (Nat.le_of_ble_eq_true rfl) ?_
        simp only [List.set_cons_zero, List.set_cons_succ]
        have q := t42
        rw [if_pos ⟨hv, f21⟩] at q
        rw [show (1 : Int32) &&& 1 = 1 from by decide]
        exact q
  have t0 : ¬ M 37 42 ≤ 60 → GG X ad 15 [some (.ref (ad 37)), some (.int 0)] [] 0 0 (c_C sw ++ (m_C ++ tl)) M := by
    intro hv
    refine G_iload_n F dX8_mayBe_15 rfl ?_
    refine G_aload_n F dX8_mayBe_16 rfl ?_
    refine G_geti F fl_X8_303 dX8_mayBe_17 rfl rfl ?_
    refine G_iconst (v := 2) F dX8_mayBe_20 rfl ?_
    refine G_icmp_eq (tgt := 35) F dX8_mayBe_21 (by decide) (fun h21 => ?_) (fun h21 => ?_)
    · have f21 : M 37 43 = 2 ∨ pin N (M 37 44) = true := Or.inl h21
      refine G_iconst (v := 1) F dX8_mayBe_35 rfl ?_
      refine G_goto (tgt := 40) F dX8_mayBe_36 (by decide) ?_
      refine G_iand F dX8_mayBe_40 ?_
      refine G_istore_n F 1 dX8_mayBe_41 rfl rfl rfl (Nat.le_of_ble_eq_true rfl) ?_
      simp only [List.set_cons_zero, List.set_cons_succ]
      have q := t42
      rw [if_neg (fun z => hv z.1)] at q
      rw [show (0 : Int32) &&& 1 = 0 from by decide]
      exact q
    · refine G_aload_n F dX8_mayBe_24 rfl ?_
      refine G_aload_n F dX8_mayBe_25 rfl ?_
      refine G_geti F fl_X8_315 dX8_mayBe_26 rfl rfl ?_
      refine G_vI F mv_X8_119 dX8_mayBe_29 (t_isBlock hl ad sw tl M (N := N) (M 37 44) hN hN16 hN1) rfl rfl rfl rfl (Nat.le_of_ble_eq_true rfl) ⟨Nat.le_of_ble_eq_true rfl, Nat.le_of_ble_eq_true rfl, Nat.le_of_ble_eq_true rfl, Nat.le_of_ble_eq_true rfl⟩ (fun r29 M29 h29 => ?_)
      rw [h29.1, h29.2]
      refine G_if_eq (tgt := 39) F dX8_mayBe_32 (by decide) (fun h32 => ?_) (fun h32 => ?_)
      · have f21 : ¬ (M 37 43 = 2 ∨ pin N (M 37 44) = true) := fun q => q.elim h21 (fun q => by rw [if_pos q] at h32; exact absurd h32 (by decide))
        refine G_iconst (v := 0) F dX8_mayBe_39 rfl ?_
        refine G_iand F dX8_mayBe_40 ?_
        refine G_istore_n F 1 dX8_mayBe_41 rfl rfl rfl (Nat.le_of_ble_eq_true rfl) ?_
        simp only [List.set_cons_zero, List.set_cons_succ]
        have q := t42
        rw [if_neg (fun z => hv z.1)] at q
        rw [show (0 : Int32) &&& 0 = 0 from by decide]
        exact q
      · have f21 : M 37 43 = 2 ∨ pin N (M 37 44) = true := Or.inr (Classical.byContradiction fun q => h32 (if_neg q))
        refine G_iconst (v := 1) F dX8_mayBe_35 rfl ?_
        refine G_goto (tgt := 40) F dX8_mayBe_36 (by decide) ?_
        refine G_iand F dX8_mayBe_40 ?_
        refine G_istore_n F 1 dX8_mayBe_41 rfl rfl rfl (Nat.le_of_ble_eq_true rfl) ?_
        simp only [List.set_cons_zero, List.set_cons_succ]
        have q := t42
        rw [if_neg (fun z => hv z.1)] at q
        rw [show (0 : Int32) &&& 1 = 0 from by decide]
        exact q
  refine G_aload_n F dX8_mayBe_0 rfl ?_
  refine G_geti F fl_X8_335 dX8_mayBe_1 rfl rfl ?_
  refine G_bipush (v := 60) F dX8_mayBe_4 rfl ?_
  refine G_icmp_gt (tgt := 13) F dX8_mayBe_6 (by decide) (fun h6 => ?_) (fun h6 => ?_)
  · refine G_iconst (v := 0) F dX8_mayBe_13 rfl ?_
    refine G_istore_n F 1 dX8_mayBe_14 rfl rfl rfl (Nat.le_of_ble_eq_true rfl) ?_
    simp only [List.set_cons_zero, List.set_cons_succ]
    exact t0 (by simp only [Int32.lt_iff_toInt_lt, Int32.le_iff_toInt_le] at h6 ⊢; omega)
  · refine G_iconst (v := 1) F dX8_mayBe_9 rfl ?_
    refine G_goto (tgt := 14) F dX8_mayBe_10 (by decide) ?_
    refine G_istore_n F 1 dX8_mayBe_14 rfl rfl rfl (Nat.le_of_ble_eq_true rfl) ?_
    simp only [List.set_cons_zero, List.set_cons_succ]
    exact t1 (by simp only [Int32.lt_iff_toInt_lt, Int32.le_iff_toInt_le] at h6 ⊢; omega)
/-- behind the reading of a text -/
def v_rd (M m : fx_M) : Prop := fr [37] M m ∧ m 37 13 = 0 ∧ m 37 39 = 0 ∧ ∀ j, j ≠ 13 → j < 39 → m 37 j = M 37 j
set_option maxRecDepth 20000 in
theorem t_read {l : Launch} {Z : fx_Z} (hl : l.stackTraces = false) (ad : Nat → Nat) (sw : Bool) (tl : List fx_Sh) (M : fx_M) {N len : Nat} (b : Int32) (hN : M 37 0 = nI N) (hN16 : N ≤ 16) (hN1 : 1 ≤ N) (hl1 : M 37 39 = nI len) (hl60 : len ≤ 60) : CI l Z yX8_read (.code yX8_read cX8_read 4 (some .int)) 8 [.ref (ad 37), .int b] ad (c_C sw ++ (m_C ++ tl)) M (fun r m => (∃ x, x < N ∧ b = nI x ∧ ∃ m0, v_rd M m0 ∧ (((pp (hr (M 63) len) len).2.1 = false ∧ r = -100 - nI (pp (hr (M 63) len) len).1 ∧ m = m0) ∨ ((pp (hr (M 63) len) len).2.1 = true ∧ ((pp (hr (M 63) len) len).2.2.1 ≤ 60 ∧ tfit N (pp (hr (M 63) len) len).2.2.2.1 (pp (hr (M 63) len) len).2.2.2.2.1 (pp (hr (M 63) len) len).2.2.2.2.2.1 = true) ∧ r = (pp (hr (M 63) len) len).2.2.2.1 ∧ m = r_ce (fx_u m0 38 x (pp (hr (M 63) len) len).2.2.1) x (pp (hr (M 63) len) len).2.2.2.1 (pp (hr (M 63) len) len).2.2.2.2.1 (pp (hr (M 63) len) len).2.2.2.2.2.1 (pp (hr (M 63) len) len).2.2.2.2.2.2) ∨ ((pp (hr (M 63) len) len).2.1 = true ∧ ¬ ((pp (hr (M 63) len) len).2.2.1 ≤ 60 ∧ tfit N (pp (hr (M 63) len) len).2.2.2.1 (pp (hr (M 63) len) len).2.2.2.2.1 (pp (hr (M 63) len) len).2.2.2.2.2.1 = true) ∧ m = fx_u m0 37 13 2))) ∨ (pin N b = false ∧ m = fx_u M 37 13 1)) := by
  refine CT_of (ret := (some .int)) (lv0 := [some (.ref (ad 37)), some (.int b), none, none]) (by decide +kernel) hl (by simp [Value.category]) (Nat.le_of_ble_eq_true rfl) rfl ?_
  intro X F Rt _
  have t0 : pin N b = true → GG X ad 14 [some (.ref (ad 37)), some (.int b), none, none] [.int 0, .ref (ad 37)] 0 0 (c_C sw ++ (m_C ++ tl)) M := by
    intro hv
    refine G_puti F fl_X8_103 dX8_read_14 rfl rfl rfl rfl ?_
    refine G_aload_n F dX8_read_17 rfl ?_
    refine G_geti F fl_X8_103 dX8_read_18 rfl rfl ?_
    try simp only [fx_u_at, Nat.reduceEqDiff, false_and, and_false, true_and, and_true, ↓reduceIte]
    refine G_if_eq (tgt := 26) F dX8_read_21 (by decide) (fun h21 => ?_) (fun h21 => ?_)
    · skip
      obtain ⟨x, hx1, hx2⟩ := pin_spec hN16 hv
      subst hx2
      refine G_aload_n F dX8_read_26 rfl ?_
      refine G_vI F mv_X8_341 dX8_read_27 (t_reads hl ad sw tl (fx_u M 37 13 0) (len := len) (by rw [fx_u_at, if_neg (by decide)]; exact hl1) hl60) rfl rfl rfl rfl (Nat.le_of_ble_eq_true rfl) ⟨Nat.le_of_ble_eq_true rfl, Nat.le_of_ble_eq_true rfl, Nat.le_of_ble_eq_true rfl, Nat.le_of_ble_eq_true rfl⟩ (fun r27 M27 h27 => ?_)
      rw [show (fx_u M 37 13 0) 63 = M 63 from rfl] at h27
      obtain ⟨g1, g2, g3, g4⟩ := h27
      rw [g1]
      have hrd : v_rd M (fx_u M27 37 39 0) := ⟨fun k hk => by
        have e := g2.1 k hk
        simp only [List.mem_cons, List.not_mem_nil, or_false] at hk
        rw [fx_u_ne hk, e, fx_u_ne hk], by rw [fx_u_at, if_neg (by decide), g2.2 13 (Or.inl (by decide))]; rfl, by rw [fx_u_at, if_pos ⟨rfl, rfl⟩], fun j j1 j2 => by
        rw [fx_u_at, if_neg (fun q => absurd q.2 (by omega)), g2.2 j (Or.inl (by omega)), fx_u_at, if_neg (fun q => j1 q.2)]⟩
      by_cases hT : (pp (hr (M 63) len) len).2.1 = true
      · rw [if_pos hT]
        refine G_istore_n F 2 dX8_read_30 rfl rfl rfl (Nat.le_of_ble_eq_true rfl) ?_
        simp only [List.set_cons_zero, List.set_cons_succ]
        refine G_aload_n F dX8_read_31 rfl ?_
        refine G_iconst (v := 0) F dX8_read_32 rfl ?_
        refine G_puti F fl_X8_283 dX8_read_33 rfl rfl rfl rfl ?_
        refine G_iload_n F dX8_read_36 rfl ?_
        refine G_if_ne (tgt := 48) F dX8_read_37 (by decide) (fun h37 => ?_) (fun h37 => ?_)
        · skip
          have q42 : (fx_u M27 37 39 0) 37 42 = (pp (hr (M 63) len) len).2.2.1 := by rw [fx_u_at, if_neg (by decide)]; exact (g4 hT).1
          have q43 : (fx_u M27 37 39 0) 37 43 = (pp (hr (M 63) len) len).2.2.2.1 := by rw [fx_u_at, if_neg (by decide)]; exact (g4 hT).2.1
          have q44 : (fx_u M27 37 39 0) 37 44 = (pp (hr (M 63) len) len).2.2.2.2.1 := by rw [fx_u_at, if_neg (by decide)]; exact (g4 hT).2.2.1
          have q45 : (fx_u M27 37 39 0) 37 45 = (pp (hr (M 63) len) len).2.2.2.2.2.1 := by rw [fx_u_at, if_neg (by decide)]; exact (g4 hT).2.2.2.1
          have q46 : (fx_u M27 37 39 0) 37 46 = (pp (hr (M 63) len) len).2.2.2.2.2.2 := by rw [fx_u_at, if_neg (by decide)]; exact (g4 hT).2.2.2.2
          have r42 : M27 37 42 = (pp (hr (M 63) len) len).2.2.1 := (g4 hT).1
          have r43 : M27 37 43 = (pp (hr (M 63) len) len).2.2.2.1 := (g4 hT).2.1
          have r44 : M27 37 44 = (pp (hr (M 63) len) len).2.2.2.2.1 := (g4 hT).2.2.1
          have r45 : M27 37 45 = (pp (hr (M 63) len) len).2.2.2.2.2.1 := (g4 hT).2.2.2.1
          have r46 : M27 37 46 = (pp (hr (M 63) len) len).2.2.2.2.2.2 := (g4 hT).2.2.2.2
          refine G_aload_n F dX8_read_48 rfl ?_
          refine G_aload_n F dX8_read_49 rfl ?_
          refine G_vI F mv_X8_344 dX8_read_50 (t_mayBe hl ad sw tl (fx_u M27 37 39 0) (N := N) (by rw [fx_u_at, if_neg (by decide), g2.2 0 (Or.inl (by decide))]; exact hN) hN16 hN1 (by rw [q43]; exact pp_k3 hT)) rfl rfl rfl rfl (Nat.le_of_ble_eq_true rfl) ⟨Nat.le_of_ble_eq_true rfl, Nat.le_of_ble_eq_true rfl, Nat.le_of_ble_eq_true rfl, Nat.le_of_ble_eq_true rfl⟩ (fun r50 M50 h50 => ?_)
          rw [h50.1, h50.2, q42, q43, q44, q45]
          have hfe : (decide ((pp (hr (M 63) len) len).2.2.1 ≤ 60) && tfit N (pp (hr (M 63) len) len).2.2.2.1 (pp (hr (M 63) len) len).2.2.2.2.1 (pp (hr (M 63) len) len).2.2.2.2.2.1) = true ↔ ((pp (hr (M 63) len) len).2.2.1 ≤ 60 ∧ tfit N (pp (hr (M 63) len) len).2.2.2.1 (pp (hr (M 63) len) len).2.2.2.2.1 (pp (hr (M 63) len) len).2.2.2.2.2.1 = true) := by rw [Bool.and_eq_true, decide_eq_true_eq]
          by_cases hF : ((pp (hr (M 63) len) len).2.2.1 ≤ 60 ∧ tfit N (pp (hr (M 63) len) len).2.2.2.1 (pp (hr (M 63) len) len).2.2.2.2.1 (pp (hr (M 63) len) len).2.2.2.2.2.1 = true)
          · rw [if_pos (hfe.mpr hF)]
            refine G_if_eq (tgt := 60) F dX8_read_53 (by decide) (fun h53 => ?_) (fun h53 => ?_)
            · exact absurd h53 (by decide) --stop
            · skip
              refine G_iconst (v := 0) F dX8_read_56 rfl ?_
              refine G_goto (tgt := 61) F dX8_read_57 (by decide) ?_
              refine G_puti F fl_X8_103 dX8_read_61 rfl rfl rfl rfl ?_
              refine G_aload_n F dX8_read_64 rfl ?_
              refine G_geti F fl_X8_103 dX8_read_65 rfl rfl ?_
              try simp only [fx_u_at, Nat.reduceEqDiff, false_and, and_false, true_and, and_true, ↓reduceIte]
              refine G_if_eq (tgt := 73) F dX8_read_68 (by decide) (fun h68 => ?_) (fun h68 => ?_)
              · skip
                refine G_aload_n F dX8_read_73 rfl ?_
                refine G_getr F fl_X8_16 dX8_read_74 rfl rfl ?_
                refine G_iload_n F dX8_read_77 rfl ?_
                refine G_aload_n F dX8_read_78 rfl ?_
                refine G_geti F fl_X8_335 dX8_read_79 rfl rfl ?_
                try simp only [fx_u_at, Nat.reduceEqDiff, false_and, and_false, true_and, and_true, ↓reduceIte]
                rw [r42]
                refine G_iastN F dX8_read_82 rfl (by omega) (by decide) ?_
                refine G_aload_n F dX8_read_83 rfl ?_
                refine G_iload_n F dX8_read_84 rfl ?_
                refine G_aload_n F dX8_read_85 rfl ?_
                refine G_geti F fl_X8_303 dX8_read_86 rfl rfl ?_
                try simp only [fx_u_at, Nat.reduceEqDiff, false_and, and_false, true_and, and_true, ↓reduceIte]
                rw [r43]
                refine G_aload_n F dX8_read_89 rfl ?_
                refine G_geti F fl_X8_315 dX8_read_90 rfl rfl ?_
                try simp only [fx_u_at, Nat.reduceEqDiff, false_and, and_false, true_and, and_true, ↓reduceIte]
                rw [r44]
                refine G_aload_n F dX8_read_93 rfl ?_
                refine G_geti F fl_X8_320 dX8_read_94 rfl rfl ?_
                try simp only [fx_u_at, Nat.reduceEqDiff, false_and, and_false, true_and, and_true, ↓reduceIte]
                rw [r45]
                refine G_aload_n F dX8_read_97 rfl ?_
                refine G_geti F fl_X8_325 dX8_read_98 rfl rfl ?_
                try simp only [fx_u_at, Nat.reduceEqDiff, false_and, and_false, true_and, and_true, ↓reduceIte]
                rw [r46]
                refine G_vI F mv_X8_123 dX8_read_101 (t_ends hl ad sw tl _ (b := x) _ _ _ _ (by omega)) rfl rfl rfl rfl (Nat.le_of_ble_eq_true rfl) ⟨Nat.le_of_ble_eq_true rfl, Nat.le_of_ble_eq_true rfl, Nat.le_of_ble_eq_true rfl, Nat.le_of_ble_eq_true rfl⟩ (fun r101 M101 h101 => ?_)
                have q43b : M101 37 43 = (pp (hr (M 63) len) len).2.2.2.1 := by rw [h101.2]; simp [r_ce, fx_u_at]; exact r43
                refine G_istore_n F 3 dX8_read_104 rfl rfl rfl (Nat.le_of_ble_eq_true rfl) ?_
                simp only [List.set_cons_zero, List.set_cons_succ]
                refine G_aload_n F dX8_read_105 rfl ?_
                refine G_geti F fl_X8_303 dX8_read_106 rfl rfl ?_
                try simp only [fx_u_at, Nat.reduceEqDiff, false_and, and_false, true_and, and_true, ↓reduceIte]
                rw [q43b]
                refine G_iret F Rt dX8_read_109 (rfl) ⟨rfl, rfl, _, rfl, ?_⟩ (Nat.le_refl _) (Nat.le_refl _)
                have em : fx_u (fx_u M27 37 39 0) 37 13 0 = fx_u M27 37 39 0 := fx_u_same hrd.2.1
                refine Or.inl ⟨x, hx1, rfl, (fx_u M27 37 39 0), hrd, Or.inr (Or.inl ⟨hT, hF, rfl, ?_⟩)⟩
                rw [h101.2, em]
              · exact absurd rfl h68 --stop
          · rw [if_neg (fun z => hF (hfe.mp z))]
            refine G_if_eq (tgt := 60) F dX8_read_53 (by decide) (fun h53 => ?_) (fun h53 => ?_)
            · skip
              refine G_iconst (v := 2) F dX8_read_60 rfl ?_
              refine G_puti F fl_X8_103 dX8_read_61 rfl rfl rfl rfl ?_
              refine G_aload_n F dX8_read_64 rfl ?_
              refine G_geti F fl_X8_103 dX8_read_65 rfl rfl ?_
              try simp only [fx_u_at, Nat.reduceEqDiff, false_and, and_false, true_and, and_true, ↓reduceIte]
              refine G_if_eq (tgt := 73) F dX8_read_68 (by decide) (fun h68 => ?_) (fun h68 => ?_)
              · exact absurd h68 (by decide) --stop
              · skip
                refine G_iconst (v := 0) F dX8_read_71 rfl ?_
                refine G_iret F Rt dX8_read_72 (rfl) ⟨rfl, rfl, _, rfl, ?_⟩ (Nat.le_refl _) (Nat.le_refl _)
                exact Or.inl ⟨x, hx1, rfl, (fx_u M27 37 39 0), hrd, Or.inr (Or.inr ⟨hT, hF, rfl⟩)⟩
            · exact absurd rfl h53 --stop
        · exact absurd h37 (by decide) --stop
      · rw [if_neg hT]
        refine G_istore_n F 2 dX8_read_30 rfl rfl rfl (Nat.le_of_ble_eq_true rfl) ?_
        simp only [List.set_cons_zero, List.set_cons_succ]
        refine G_aload_n F dX8_read_31 rfl ?_
        refine G_iconst (v := 0) F dX8_read_32 rfl ?_
        refine G_puti F fl_X8_283 dX8_read_33 rfl rfl rfl rfl ?_
        refine G_iload_n F dX8_read_36 rfl ?_
        refine G_if_ne (tgt := 48) F dX8_read_37 (by decide) (fun h37 => ?_) (fun h37 => ?_)
        · exact absurd rfl h37 --stop
        · skip
          refine G_bipush (v := -100) F dX8_read_40 rfl ?_
          refine G_aload_n F dX8_read_42 rfl ?_
          refine G_geti F fl_X8_286 dX8_read_43 rfl rfl ?_
          try simp only [fx_u_at, Nat.reduceEqDiff, false_and, and_false, true_and, and_true, ↓reduceIte]
          rw [g3]
          refine G_isub F dX8_read_46 ?_
          refine G_iret F Rt dX8_read_47 (rfl) ⟨rfl, rfl, _, rfl, ?_⟩ (Nat.le_refl _) (Nat.le_refl _)
          exact Or.inl ⟨x, hx1, rfl, (fx_u M27 37 39 0), hrd, Or.inl ⟨by rw [← Bool.not_eq_true]; exact hT, rfl, rfl⟩⟩
    · exact absurd rfl h21 --stop
  have t1 : pin N b = false → GG X ad 14 [some (.ref (ad 37)), some (.int b), none, none] [.int 1, .ref (ad 37)] 0 0 (c_C sw ++ (m_C ++ tl)) M := by
    intro hv
    refine G_puti F fl_X8_103 dX8_read_14 rfl rfl rfl rfl ?_
    refine G_aload_n F dX8_read_17 rfl ?_
    refine G_geti F fl_X8_103 dX8_read_18 rfl rfl ?_
    try simp only [fx_u_at, Nat.reduceEqDiff, false_and, and_false, true_and, and_true, ↓reduceIte]
    refine G_if_eq (tgt := 26) F dX8_read_21 (by decide) (fun h21 => ?_) (fun h21 => ?_)
    · exact absurd h21 (by decide) --stop
    · skip
      refine G_iconst (v := 0) F dX8_read_24 rfl ?_
      refine G_iret F Rt dX8_read_25 (rfl) ⟨rfl, rfl, _, rfl, ?_⟩ (Nat.le_refl _) (Nat.le_refl _)
      exact Or.inr ⟨hv, rfl⟩
  refine G_aload_n F dX8_read_0 rfl ?_
  refine G_aload_n F dX8_read_1 rfl ?_
  refine G_iload_n F dX8_read_2 rfl ?_
  refine G_vI F mv_X8_119 dX8_read_3 (t_isBlock hl ad sw tl M (N := N) b hN hN16 hN1) rfl rfl rfl rfl (Nat.le_of_ble_eq_true rfl) ⟨Nat.le_of_ble_eq_true rfl, Nat.le_of_ble_eq_true rfl, Nat.le_of_ble_eq_true rfl, Nat.le_of_ble_eq_true rfl⟩ (fun r3 M3 h3 => ?_)
  rw [h3.1, h3.2]
  refine G_if_eq (tgt := 13) F dX8_read_6 (by decide) (fun h6 => ?_) (fun h6 => ?_)
  · have q6 : pin N b = false := by simpa using h6
    refine G_iconst (v := 1) F dX8_read_13 rfl ?_
    exact t1 q6
  · have q6 : pin N b = true := by simpa using h6
    refine G_iconst (v := 0) F dX8_read_9 rfl ?_
    refine G_goto (tgt := 14) F dX8_read_10 (by decide) ?_
    exact t0 q6
