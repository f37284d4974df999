/-! PLACEMENT: the forms -/
/-- an order and the places of its blocks -/
def pm (N : Nat) (rw pos : Nat → Nat) : Prop := (∀ j, j < N → rw j < N ∧ pos (rw j) = j) ∧ ∀ b, b < N → pos b < N ∧ rw (pos b) = b
/-- the next block -/
def l_nx (N hot : Nat) (rw pos : Nat → Nat) (b : Nat) : Int32 := if pos b + 1 = N ∨ pos b + 1 = hot then -1 else nI (rw (pos b + 1))
/-- bytes of a short branch, of a short jump, by the form -/
def l_bb (fm : Int32) : Int32 := if fm = 2 ∨ fm = 3 ∨ fm = 4 then 2 else 0
def l_jb (fm : Int32) : Int32 := if fm = 1 ∨ fm = 4 then 2 else 0
/-- what is found of a block -/
def l_ff (N hot : Nat) (rw pos : Nat → Nat) (kd f s : Nat → Int32) (m : fx_M) (b : Nat) : Prop :=
  m 13 b = nI (pos b) ∧ m 14 b = l_nx N hot rw pos b ∧ m 15 b = pf_form kd f s b (l_nx N hot rw pos b) ∧ m 16 b = l_bb (pf_form kd f s b (l_nx N hot rw pos b)) ∧ m 17 b = l_jb (pf_form kd f s b (l_nx N hot rw pos b))
set_option maxRecDepth 20000 in
theorem s_findForms {l : Launch} {Z : fx_Z} (hl : l.stackTraces = false) (ad : Nat → Nat) (sw : Bool) (tl : List fx_Sh) (M : fx_M) {N hot : Nat} {rw pos : Nat → Nat} (hN : M 1 8 = nI N) (hN16 : N ≤ 16) (hhot : M 10 1 = nI hot) (hhot16 : hot ≤ N) (hpm : pm N rw pos) (hr : ∀ j, j < N → M 11 j = nI (rw j)) : CV l Z yX4_findForms (.code yX4_findForms cX4_findForms 4 none) 1 [.ref (ad 12)] ad (c_C sw ++ tl) M (fun m => fr [13, 14, 15, 16, 17] M m ∧ ∀ b, b < N → l_ff N hot rw pos (M 3) (M 4) (M 5) m b) := by
  refine CT_of (ret := none) (lv0 := [some (.ref (ad 12)), none, none, none]) (by decide +kernel) hl (by simp [Value.category]) (Nat.le_of_ble_eq_true rfl) rfl ?_
  intro X F Rt _
  have lp : ∀ (k : Nat) (i : Nat) (M' : fx_M), k = N - i → i ≤ N → fr [13, 14, 15, 16, 17] M M' → (∀ b, b < N → pos b < i → l_ff N hot rw pos (M 3) (M 4) (M 5) M' b) → GG X ad 2 [some (.ref (ad 12)), some (.int (nI i)), none, none] [] 0 0 (c_C sw ++ tl) M' := by
    intro k
    induction k using Nat.strongRecOn with
    | _ k ih =>
      intro i M' hk hi h1 h2
      have hN1 : M' 1 8 = nI N := by rw [h1 1 (by decide)]; exact hN
      have hh1 : M' 10 1 = nI hot := by rw [h1 10 (by decide)]; exact hhot
      have hrow : ∀ j, j < N → M' 11 j = nI (rw j) := fun j hj => by rw [h1 11 (by decide)]; exact hr j hj
      refine G_iload_n F dX4_findForms_2 rfl ?_
      refine G_aload_n F dX4_findForms_3 rfl ?_
      refine G_getr F fl_X4_33 dX4_findForms_4 rfl rfl ?_
      refine G_geti F fl_X4_52 dX4_findForms_7 rfl rfl ?_
      rw [hN1]
      refine G_icmp_ge (tgt := 148) F dX4_findForms_10 (by decide) (fun h10 => ?_) (fun h10 => ?_)
      · rw [nI_leI (by omega) (by omega)] at h10
        have hiN : i = N := by omega
        subst hiN
        refine G_vret F Rt dX4_findForms_148 ⟨rfl, rfl, rfl, ?_⟩ (Nat.le_refl _) (Nat.le_refl _)
        exact ⟨h1, fun b hb => h2 b hb (hpm.2 b hb).1⟩
      · rw [nI_leI (by omega) (by omega)] at h10
        have hpi : pos (rw i) = i := (hpm.1 i (by omega)).2
        have hB : rw i < N := (hpm.1 i (by omega)).1
        have e14 : (fx_u (fx_u M' 13 (rw i) (nI i)) 14 (rw i) (l_nx N hot rw pos (rw i))) 14 (rw i) = (l_nx N hot rw pos (rw i)) := by simp [fx_u_at]
        have r3 : (fx_u (fx_u M' 13 (rw i) (nI i)) 14 (rw i) (l_nx N hot rw pos (rw i))) 3 = M 3 := by rw [fx_u_ne (by decide), fx_u_ne (by decide)]; exact h1 3 (by decide)
        have r4 : (fx_u (fx_u M' 13 (rw i) (nI i)) 14 (rw i) (l_nx N hot rw pos (rw i))) 4 = M 4 := by rw [fx_u_ne (by decide), fx_u_ne (by decide)]; exact h1 4 (by decide)
        have r5 : (fx_u (fx_u M' 13 (rw i) (nI i)) 14 (rw i) (l_nx N hot rw pos (rw i))) 5 = M 5 := by rw [fx_u_ne (by decide), fx_u_ne (by decide)]; exact h1 5 (by decide)
        have e15 : (fx_u (fx_u (fx_u M' 13 (rw i) (nI i)) 14 (rw i) (l_nx N hot rw pos (rw i))) 15 (rw i) (pf_form (M 3) (M 4) (M 5) (rw i) (l_nx N hot rw pos (rw i)))) 15 (rw i) = (pf_form (M 3) (M 4) (M 5) (rw i) (l_nx N hot rw pos (rw i))) := by simp [fx_u_at]
        have e15b : (fx_u (fx_u (fx_u (fx_u M' 13 (rw i) (nI i)) 14 (rw i) (l_nx N hot rw pos (rw i))) 15 (rw i) (pf_form (M 3) (M 4) (M 5) (rw i) (l_nx N hot rw pos (rw i)))) 16 (rw i) (l_bb (pf_form (M 3) (M 4) (M 5) (rw i) (l_nx N hot rw pos (rw i))))) 15 (rw i) = (pf_form (M 3) (M 4) (M 5) (rw i) (l_nx N hot rw pos (rw i))) := by simp [fx_u_at]
        have t141 : ∀ z : Int32, GG X ad 141 [some (.ref (ad 12)), some (.int (nI i)), some (.int (nI (rw i))), some (.int z)] [.int (l_jb (pf_form (M 3) (M 4) (M 5) (rw i) (l_nx N hot rw pos (rw i)))), .int (nI (rw i)), .ref (ad 17)] 0 0 (c_C sw ++ tl) (fx_u (fx_u (fx_u (fx_u M' 13 (rw i) (nI i)) 14 (rw i) (l_nx N hot rw pos (rw i))) 15 (rw i) (pf_form (M 3) (M 4) (M 5) (rw i) (l_nx N hot rw pos (rw i)))) 16 (rw i) (l_bb (pf_form (M 3) (M 4) (M 5) (rw i) (l_nx N hot rw pos (rw i))))) := by
          intro z
          refine G_iastN F dX4_findForms_141 rfl (by omega) (by decide) ?_
          refine G_iinc F (1) dX4_findForms_142 rfl rfl rfl rfl ?_
          simp only [List.set_cons_zero, List.set_cons_succ, nI_1]
          refine G_goto (tgt := 2) F dX4_findForms_145 (by decide) ?_
          refine G_drop F 2 ?_
          refine G_drop F 3 ?_
          simp only [List.set_cons_zero, List.set_cons_succ]
          refine ih (N - (i + 1)) (by omega) (i + 1) _ rfl (by omega) ?_ ?_
          · exact ((((h1.u (by decide)).u (by decide)).u (by decide)).u (by decide)).u (by decide)
          · intro b hb hpb
            by_cases e : b = rw i
            · subst e
              refine ⟨?_, ?_, ?_, ?_, ?_⟩ <;> simp [fx_u_at, hpi]
            · have hp2 : pos b < i := by
                have : pos b ≠ i := fun q => e (by rw [← q]; exact ((hpm.2 b hb).2).symm)
                omega
              obtain ⟨g1, g2, g3, g4, g5⟩ := h2 b hb hp2
              refine ⟨?_, ?_, ?_, ?_, ?_⟩ <;> simp [fx_u_at, e, g1, g2, g3, g4, g5]
        have t122 : ∀ z : Int32, GG X ad 122 [some (.ref (ad 12)), some (.int (nI i)), some (.int (nI (rw i))), some (.int z)] [.int (l_bb (pf_form (M 3) (M 4) (M 5) (rw i) (l_nx N hot rw pos (rw i)))), .int (nI (rw i)), .ref (ad 16)] 0 0 (c_C sw ++ tl) (fx_u (fx_u (fx_u M' 13 (rw i) (nI i)) 14 (rw i) (l_nx N hot rw pos (rw i))) 15 (rw i) (pf_form (M 3) (M 4) (M 5) (rw i) (l_nx N hot rw pos (rw i)))) := by
          intro z
          refine G_iastN F dX4_findForms_122 rfl (by omega) (by decide) ?_
          refine G_aload_n F dX4_findForms_123 rfl ?_
          refine G_getr F fl_X4_24 dX4_findForms_124 rfl rfl ?_
          refine G_iload_n F dX4_findForms_127 rfl ?_
          refine G_aload_n F dX4_findForms_128 rfl ?_
          refine G_iload_n F dX4_findForms_129 rfl ?_
          refine G_vI F mv_X4_74 dX4_findForms_130 (s_hasJump hl ad sw tl _ (b := rw i) (by omega)) rfl rfl rfl rfl (Nat.le_of_ble_eq_true rfl) ⟨Nat.le_of_ble_eq_true rfl, Nat.le_of_ble_eq_true rfl, Nat.le_of_ble_eq_true rfl, Nat.le_of_ble_eq_true rfl⟩ (fun r130 M130 h130 => ?_)
          rw [h130.1, h130.2, e15b]
          refine G_if_eq (tgt := 140) F dX4_findForms_133 (by decide) (fun h133 => ?_) (fun h133 => ?_)
          · have hj : ¬ ((pf_form (M 3) (M 4) (M 5) (rw i) (l_nx N hot rw pos (rw i))) = 1 ∨ (pf_form (M 3) (M 4) (M 5) (rw i) (l_nx N hot rw pos (rw i))) = 4) := fun q => by rw [if_pos q] at h133; exact absurd h133 (by decide)
            refine G_iconst (v := 0) F dX4_findForms_140 rfl ?_
            have q := t141 z
            unfold l_jb at q
            rw [if_neg hj] at q
            exact q
          · have hj : ((pf_form (M 3) (M 4) (M 5) (rw i) (l_nx N hot rw pos (rw i))) = 1 ∨ (pf_form (M 3) (M 4) (M 5) (rw i) (l_nx N hot rw pos (rw i))) = 4) := Classical.byContradiction fun q => h133 (if_neg q)
            refine G_iconst (v := 2) F dX4_findForms_136 rfl ?_
            refine G_goto (tgt := 141) F dX4_findForms_137 (by decide) ?_
            have q := t141 z
            unfold l_jb at q
            rw [if_pos hj] at q
            exact q
        have t86 : ∀ z : Int32, GG X ad 86 [some (.ref (ad 12)), some (.int (nI i)), some (.int (nI (rw i))), some (.int z)] [.int (l_nx N hot rw pos (rw i)), .int (nI (rw i)), .ref (ad 14)] 0 0 (c_C sw ++ tl) (fx_u M' 13 (rw i) (nI i)) := by
          intro z
          refine G_iastN F dX4_findForms_86 rfl (by omega) (by decide) ?_
          refine G_aload_n F dX4_findForms_87 rfl ?_
          refine G_getr F fl_X4_18 dX4_findForms_88 rfl rfl ?_
          refine G_iload_n F dX4_findForms_91 rfl ?_
          refine G_aload_n F dX4_findForms_92 rfl ?_
          refine G_iload_n F dX4_findForms_93 rfl ?_
          refine G_aload_n F dX4_findForms_94 rfl ?_
          refine G_getr F fl_X4_15 dX4_findForms_95 rfl rfl ?_
          refine G_iload_n F dX4_findForms_98 rfl ?_
          refine G_ialdN F dX4_findForms_99 rfl (by omega) (by decide) ?_
          rw [e14]
          refine G_vI F mv_X4_66 dX4_findForms_100 (s_formOf hl ad sw tl _ (b := rw i) _ (by omega)) rfl rfl rfl rfl (Nat.le_of_ble_eq_true rfl) ⟨Nat.le_of_ble_eq_true rfl, Nat.le_of_ble_eq_true rfl, Nat.le_of_ble_eq_true rfl, Nat.le_of_ble_eq_true rfl⟩ (fun r100 M100 h100 => ?_)
          rw [h100.1, h100.2, r3, r4, r5]
          refine G_iastN F dX4_findForms_103 rfl (by omega) (by decide) ?_
          refine G_aload_n F dX4_findForms_104 rfl ?_
          refine G_getr F fl_X4_21 dX4_findForms_105 rfl rfl ?_
          refine G_iload_n F dX4_findForms_108 rfl ?_
          refine G_aload_n F dX4_findForms_109 rfl ?_
          refine G_iload_n F dX4_findForms_110 rfl ?_
          refine G_vI F mv_X4_70 dX4_findForms_111 (s_hasBranch hl ad sw tl _ (b := rw i) (by omega)) rfl rfl rfl rfl (Nat.le_of_ble_eq_true rfl) ⟨Nat.le_of_ble_eq_true rfl, Nat.le_of_ble_eq_true rfl, Nat.le_of_ble_eq_true rfl, Nat.le_of_ble_eq_true rfl⟩ (fun r111 M111 h111 => ?_)
          rw [h111.1, h111.2, e15]
          refine G_if_eq (tgt := 121) F dX4_findForms_114 (by decide) (fun h114 => ?_) (fun h114 => ?_)
          · have hj : ¬ ((pf_form (M 3) (M 4) (M 5) (rw i) (l_nx N hot rw pos (rw i))) = 2 ∨ (pf_form (M 3) (M 4) (M 5) (rw i) (l_nx N hot rw pos (rw i))) = 3 ∨ (pf_form (M 3) (M 4) (M 5) (rw i) (l_nx N hot rw pos (rw i))) = 4) := fun q => by rw [if_pos q] at h114; exact absurd h114 (by decide)
            refine G_iconst (v := 0) F dX4_findForms_121 rfl ?_
            have q := t122 z
            unfold l_bb at q
            rw [if_neg hj] at q
            exact q
          · have hj : ((pf_form (M 3) (M 4) (M 5) (rw i) (l_nx N hot rw pos (rw i))) = 2 ∨ (pf_form (M 3) (M 4) (M 5) (rw i) (l_nx N hot rw pos (rw i))) = 3 ∨ (pf_form (M 3) (M 4) (M 5) (rw i) (l_nx N hot rw pos (rw i))) = 4) := Classical.byContradiction fun q => h114 (if_neg q)
            refine G_iconst (v := 2) F dX4_findForms_117 rfl ?_
            refine G_goto (tgt := 122) F dX4_findForms_118 (by decide) ?_
            have q := t122 z
            unfold l_bb at q
            rw [if_pos hj] at q
            exact q
        have t54a : (i + 1 = N ∨ i + 1 = hot) → GG X ad 54 [some (.ref (ad 12)), some (.int (nI i)), some (.int (nI (rw i))), none] [.int 1] 0 0 (c_C sw ++ tl) M' := by
          intro hc
          refine G_istore_n F 3 dX4_findForms_54 rfl rfl rfl (Nat.le_of_ble_eq_true rfl) ?_
          simp only [List.set_cons_zero, List.set_cons_succ]
          refine G_aload_n F dX4_findForms_55 rfl ?_
          refine G_getr F fl_X4_9 dX4_findForms_56 rfl rfl ?_
          refine G_iload_n F dX4_findForms_59 rfl ?_
          refine G_iload_n F dX4_findForms_60 rfl ?_
          refine G_iastN F dX4_findForms_61 rfl (by omega) (by decide) ?_
          refine G_aload_n F dX4_findForms_62 rfl ?_
          refine G_getr F fl_X4_15 dX4_findForms_63 rfl rfl ?_
          refine G_iload_n F dX4_findForms_66 rfl ?_
          refine G_iload_n F dX4_findForms_67 rfl ?_
          refine G_if_eq (tgt := 75) F dX4_findForms_68 (by decide) (fun h68 => ?_) (fun h68 => ?_)
          · exact absurd h68 (by decide) --stop
          · refine G_iconst (v := -1) F dX4_findForms_71 rfl ?_
            refine G_goto (tgt := 86) F dX4_findForms_72 (by decide) ?_
            have q := t86 1
            unfold l_nx at q
            rw [hpi, if_pos hc] at q
            exact q
        have t54b : ¬ (i + 1 = N ∨ i + 1 = hot) → GG X ad 54 [some (.ref (ad 12)), some (.int (nI i)), some (.int (nI (rw i))), none] [.int 0] 0 0 (c_C sw ++ tl) M' := by
          intro hc
          refine G_istore_n F 3 dX4_findForms_54 rfl rfl rfl (Nat.le_of_ble_eq_true rfl) ?_
          simp only [List.set_cons_zero, List.set_cons_succ]
          refine G_aload_n F dX4_findForms_55 rfl ?_
          refine G_getr F fl_X4_9 dX4_findForms_56 rfl rfl ?_
          refine G_iload_n F dX4_findForms_59 rfl ?_
          refine G_iload_n F dX4_findForms_60 rfl ?_
          refine G_iastN F dX4_findForms_61 rfl (by omega) (by decide) ?_
          refine G_aload_n F dX4_findForms_62 rfl ?_
          refine G_getr F fl_X4_15 dX4_findForms_63 rfl rfl ?_
          refine G_iload_n F dX4_findForms_66 rfl ?_
          refine G_iload_n F dX4_findForms_67 rfl ?_
          refine G_if_eq (tgt := 75) F dX4_findForms_68 (by decide) (fun h68 => ?_) (fun h68 => ?_)
          · refine G_aload_n F dX4_findForms_75 rfl ?_
            refine G_getr F fl_X4_37 dX4_findForms_76 rfl rfl ?_
            refine G_getr F fl_X4_58 dX4_findForms_79 rfl rfl ?_
            refine G_iload_n F dX4_findForms_82 rfl ?_
            refine G_iconst (v := nI 1) F dX4_findForms_83 (by decide) ?_
            refine G_iadd F dX4_findForms_84 ?_
            rw [nI_add]
            refine G_ialdN F dX4_findForms_85 rfl (by omega) (by decide) ?_
            rw [fx_u_ne (by decide), hrow (i + 1) (by omega)]
            have q := t86 0
            unfold l_nx at q
            rw [hpi, if_neg hc] at q
            exact q
          · exact absurd rfl h68 --stop
        refine G_aload_n F dX4_findForms_13 rfl ?_
        refine G_getr F fl_X4_37 dX4_findForms_14 rfl rfl ?_
        refine G_getr F fl_X4_58 dX4_findForms_17 rfl rfl ?_
        refine G_iload_n F dX4_findForms_20 rfl ?_
        refine G_ialdN F dX4_findForms_21 rfl (by omega) (by decide) ?_
        rw [hrow i (by omega)]
        refine G_istore_n F 2 dX4_findForms_22 rfl rfl rfl (Nat.le_of_ble_eq_true rfl) ?_
        simp only [List.set_cons_zero, List.set_cons_succ]
        refine G_iload_n F dX4_findForms_23 rfl ?_
        refine G_iconst (v := nI 1) F dX4_findForms_24 (by decide) ?_
        refine G_iadd F dX4_findForms_25 ?_
        rw [nI_add]
        refine G_aload_n F dX4_findForms_26 rfl ?_
        refine G_getr F fl_X4_33 dX4_findForms_27 rfl rfl ?_
        refine G_geti F fl_X4_52 dX4_findForms_30 rfl rfl ?_
        rw [hN1]
        refine G_icmp_eq (tgt := 49) F dX4_findForms_33 (by decide) (fun h33 => ?_) (fun h33 => ?_)
        · rw [nI_eq (by omega) (by omega)] at h33
          refine G_iconst (v := 1) F dX4_findForms_49 rfl ?_
          refine G_goto (tgt := 54) F dX4_findForms_50 (by decide) ?_
          exact t54a (Or.inl h33)
        · rw [nI_eq (by omega) (by omega)] at h33
          refine G_iload_n F dX4_findForms_36 rfl ?_
          refine G_iconst (v := nI 1) F dX4_findForms_37 (by decide) ?_
          refine G_iadd F dX4_findForms_38 ?_
          rw [nI_add]
          refine G_aload_n F dX4_findForms_39 rfl ?_
          refine G_getr F fl_X4_37 dX4_findForms_40 rfl rfl ?_
          refine G_geti F fl_X4_63 dX4_findForms_43 rfl rfl ?_
          rw [hh1]
          refine G_icmp_ne (tgt := 53) F dX4_findForms_46 (by decide) (fun h46 => ?_) (fun h46 => ?_)
          · rw [nI_eq (by omega) (by omega)] at h46
            refine G_iconst (v := 0) F dX4_findForms_53 rfl ?_
            exact t54b (fun q => q.elim h33 h46)
          · rw [nI_eq (by omega) (by omega)] at h46
            refine G_iconst (v := 1) F dX4_findForms_49 rfl ?_
            refine G_goto (tgt := 54) F dX4_findForms_50 (by decide) ?_
            exact t54a (Or.inr h46)
  refine G_iconst (v := 0) F dX4_findForms_0 rfl ?_
  refine G_istore_n F 1 dX4_findForms_1 rfl rfl rfl (Nat.le_of_ble_eq_true rfl) ?_
  simp only [List.set_cons_zero, List.set_cons_succ]
  exact lp N 0 M rfl (by omega) fr.rfl (fun b hb hp => absurd hp (by omega))
