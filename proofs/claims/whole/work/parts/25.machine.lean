/-! MACHINE: the profile -/
def apc (q : Nat → Nat) (c : Nat → Int32) : Nat → Nat → Int32
  | 0 => c
  | i + 1 => upd (apc q c i) (q i) (apc q c i (q i) + 1)
def ap1 (q : Nat → Nat) (f w : Nat → Int32) : Nat → Nat → Int32
  | 0 => w
  | i + 1 => if f (q i) = nI (q (i + 1)) then upd (ap1 q f w i) (q i) (ap1 q f w i (q i) + 1) else ap1 q f w i
def ap2 (q : Nat → Nat) (f w : Nat → Int32) : Nat → Nat → Int32
  | 0 => w
  | i + 1 => if f (q i) = nI (q (i + 1)) then ap2 q f w i else upd (ap2 q f w i) (q i) (ap2 q f w i (q i) + 1)
set_option maxRecDepth 20000 in
theorem s_addToProfile {l : Launch} {Z : fx_Z} (hl : l.stackTraces = false) (ad : Nat → Nat) (sw : Bool) (tl : List fx_Sh) (M : fx_M) {L : Nat} (q : Nat → Nat) (hL : M 27 4 = nI L) (hL5 : L ≤ 500) (hp : ∀ j, j < L → M (cond sw 29 28) j = nI (q j)) (hq : ∀ j, j < L → q j < 16) : CV l Z yX3_addToProfile (.code yX3_addToProfile cX3_addToProfile 3 none) 1 [.ref (ad 27)] ad (c_C sw ++ tl) M (fun m => fr [7, 8, 9] M m ∧ m 7 = apc q (M 7) L ∧ m 8 = ap1 q (M 4) (M 8) (L - 1) ∧ m 9 = ap2 q (M 4) (M 9) (L - 1)) := by
  refine CT_of (ret := none) (lv0 := [some (.ref (ad 27)), none, none]) (by decide +kernel) hl (by simp [Value.category]) (Nat.le_of_ble_eq_true rfl) rfl ?_
  intro X F Rt _
  have lp : ∀ (k : Nat) (i : Nat) (M' : fx_M), k = L - i → i ≤ L → fr [7, 8, 9] M M' → M' 7 = apc q (M 7) i → M' 8 = ap1 q (M 4) (M 8) (min i (L - 1)) → M' 9 = ap2 q (M 4) (M 9) (min i (L - 1)) → GG X ad 2 [some (.ref (ad 27)), some (.int (nI i)), none] [] 0 0 (c_C sw ++ tl) M' := by
    intro k
    induction k using Nat.strongRecOn with
    | _ k ih =>
      intro i M' hk hi h1 h2 h3 h4
      have hL1 : M' 27 4 = nI L := by rw [h1 27 (by decide)]; exact hL
      have hpa : ∀ j, j < L → M' (cond sw 29 28) j = nI (q j) := fun j hj => by rw [h1 _ (by cases sw <;> decide)]; exact hp j hj
      refine G_iload_n F dX3_addToProfile_2 rfl ?_
      refine G_aload_n F dX3_addToProfile_3 rfl ?_
      refine G_geti F fl_X3_51 dX3_addToProfile_4 rfl rfl ?_
      rw [hL1]
      refine G_icmp_ge (tgt := 59) F dX3_addToProfile_7 (by decide) (fun h7 => ?_) (fun h7 => ?_)
      · rw [nI_leI (by omega) (by omega)] at h7
        have hiL : i = L := by omega
        subst hiL
        refine G_vret F Rt dX3_addToProfile_59 ⟨rfl, rfl, rfl, ?_⟩ (Nat.le_refl _) (Nat.le_refl _)
        refine ⟨h1, h2, ?_, ?_⟩
        · rw [h3, Nat.min_eq_right (by omega)]
        · rw [h4, Nat.min_eq_right (by omega)]
      · rw [nI_leI (by omega) (by omega)] at h7
        refine G_aload_n F dX3_addToProfile_10 rfl ?_
        refine G_getr F fl_X3_9 dX3_addToProfile_11 rfl rfl ?_
        refine G_iload_n F dX3_addToProfile_14 rfl ?_
        refine G_ialdN F dX3_addToProfile_15 (by cases sw <;> rfl) (by omega) (by decide) ?_
        rw [hpa i (by omega)]
        have hqi : q i < 16 := hq i (by omega)
        refine G_istore_n F 2 dX3_addToProfile_16 rfl rfl rfl (Nat.le_of_ble_eq_true rfl) ?_
        simp only [List.set_cons_zero, List.set_cons_succ]
        refine G_aload_n F dX3_addToProfile_17 rfl ?_
        refine G_getr F fl_X3_21 dX3_addToProfile_18 rfl rfl ?_
        refine G_getr F fl_X3_55 dX3_addToProfile_21 rfl rfl ?_
        refine G_iload_n F dX3_addToProfile_24 rfl ?_
        refine G_dup2 F dX3_addToProfile_25 rfl rfl ?_
        refine G_ialdN F dX3_addToProfile_26 rfl (by omega) (by decide) ?_
        refine G_iconst (v := 1) F dX3_addToProfile_27 rfl ?_
        refine G_iadd F dX3_addToProfile_28 ?_
        refine G_iastN F dX3_addToProfile_29 rfl (by omega) (by decide) ?_
        refine G_iload_n F dX3_addToProfile_30 rfl ?_
        refine G_iconst (v := nI 1) F dX3_addToProfile_31 (by decide) ?_
        refine G_iadd F dX3_addToProfile_32 ?_
        rw [nI_add]
        refine G_aload_n F dX3_addToProfile_33 rfl ?_
        refine G_geti F fl_X3_51 dX3_addToProfile_34 rfl rfl ?_
        rw [fx_u_ne (by decide), hL1]
        refine G_icmp_ge (tgt := 53) F dX3_addToProfile_37 (by decide) (fun h37 => ?_) (fun h37 => ?_)
        · rw [nI_leI (by omega) (by omega)] at h37
          refine G_drop F 2 ?_
          simp only [List.set_cons_zero, List.set_cons_succ]
          refine G_iinc F (1) dX3_addToProfile_53 rfl rfl rfl rfl ?_
          simp only [List.set_cons_zero, List.set_cons_succ, nI_1]
          refine G_goto (tgt := 2) F dX3_addToProfile_56 (by decide) ?_
          refine ih (L - (i + 1)) (by omega) (i + 1) _ rfl (by omega) (h1.u (by decide)) ?_ ?_ ?_
          · rw [fx_u_eq, h2]; rfl
          · rw [fx_u_ne (by decide), h3, show min (i + 1) (L - 1) = min i (L - 1) from by omega]
          · rw [fx_u_ne (by decide), h4, show min (i + 1) (L - 1) = min i (L - 1) from by omega]
        · rw [nI_leI (by omega) (by omega)] at h37
          refine G_aload_n F dX3_addToProfile_40 rfl ?_
          refine G_iload_n F dX3_addToProfile_41 rfl ?_
          refine G_aload_n F dX3_addToProfile_42 rfl ?_
          refine G_getr F fl_X3_9 dX3_addToProfile_43 rfl rfl ?_
          refine G_iload_n F dX3_addToProfile_46 rfl ?_
          refine G_iconst (v := nI 1) F dX3_addToProfile_47 (by decide) ?_
          refine G_iadd F dX3_addToProfile_48 ?_
          rw [nI_add]
          refine G_ialdN F dX3_addToProfile_49 (by cases sw <;> rfl) (by omega) (by decide) ?_
          rw [fx_u_ne (by cases sw <;> decide), hpa (i + 1) (by omega)]
          refine G_vv F mv_X3_58 dX3_addToProfile_50 (s_addToEdge hl ad sw tl _ (b := q i) _ hqi) rfl rfl rfl rfl (Nat.le_of_ble_eq_true rfl) ⟨Nat.le_of_ble_eq_true rfl, Nat.le_of_ble_eq_true rfl, Nat.le_of_ble_eq_true rfl, Nat.le_of_ble_eq_true rfl⟩ (fun M50 h50 => ?_)
          rw [h50]
          refine G_drop F 2 ?_
          simp only [List.set_cons_zero, List.set_cons_succ]
          refine G_iinc F (1) dX3_addToProfile_53 rfl rfl rfl rfl ?_
          simp only [List.set_cons_zero, List.set_cons_succ, nI_1]
          refine G_goto (tgt := 2) F dX3_addToProfile_56 (by decide) ?_
          refine ih (L - (i + 1)) (by omega) (i + 1) _ rfl (by omega) ?_ ?_ ?_ ?_
          · split
            · exact (h1.u (by decide)).u (by decide)
            · exact (h1.u (by decide)).u (by decide)
          · split <;> (rw [fx_u_ne (by decide), fx_u_eq, h2]; rfl)
          · rw [show min (i + 1) (L - 1) = i + 1 from by omega]
            simp only [ap1]
            rw [fx_u_ne (by decide), h1 4 (by decide)]
            have h3a := h3
            rw [show min i (L - 1) = i from by omega] at h3a
            split
            · rw [fx_u_eq, fx_u_ne (by decide), h3a]
            · rw [fx_u_ne (by decide), fx_u_ne (by decide), h3a]
          · rw [show min (i + 1) (L - 1) = i + 1 from by omega]
            simp only [ap2]
            rw [fx_u_ne (by decide), h1 4 (by decide)]
            have h4a := h4
            rw [show min i (L - 1) = i from by omega] at h4a
            split
            · rw [fx_u_ne (by decide), fx_u_ne (by decide), h4a]
            · rw [fx_u_eq, fx_u_ne (by decide), h4a]
  refine G_iconst (v := 0) F dX3_addToProfile_0 rfl ?_
  refine G_istore_n F 1 dX3_addToProfile_1 rfl rfl rfl (Nat.le_of_ble_eq_true rfl) ?_
  simp only [List.set_cons_zero, List.set_cons_succ]
  exact lp L 0 M rfl (by omega) fr.rfl rfl (by simp [ap1]) (by simp [ap2])
