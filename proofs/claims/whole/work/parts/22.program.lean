/-! PROGRAM: writes; PLAN, HISTORY -/
theorem fx_uN {M : fx_M} {k j a : Nat} {x : Int32} : fx_u M k j x a = if a = k then upd (M a) j x else M a := rfl
theorem fx_uu {M : fx_M} {k j : Nat} {x y : Int32} : fx_u (fx_u M k j x) k j y = fx_u M k j y := by
  funext a b
  simp only [fx_u_at]
  split <;> rfl
/-- the loop heads among the blocks ahead of n, as bits -/
def hds (tg : Nat → Int32) (N : Nat) : Nat → Int32
  | 0 => 0
  | n + 1 => if ag tg (rc tg 65535 N N (65535 &&& 1) &&& (rc tg (65535 &&& ((1 : Int32) <<< (nI n &&& 31) ^^^ -1)) N N ((65535 &&& ((1 : Int32) <<< (nI n &&& 31) ^^^ -1)) &&& 1) ^^^ -1)) n N then hds tg N n ||| (1 : Int32) <<< (nI n &&& 31) else hds tg N n
set_option maxRecDepth 20000 in
theorem s_findHeads {l : Launch} {Z : fx_Z} (hl : l.stackTraces = false) (ad : Nat → Nat) (sw : Bool) (tl : List fx_Sh) (M : fx_M) {N : Nat} (hN : M 1 8 = nI N) (hN16 : N ≤ 16) : CV l Z yX6_findHeads (.code yX6_findHeads cX6_findHeads 4 none) 2 [.ref (ad 1)] ad (c_C sw ++ tl) M (fun m => m = fx_u M 1 9 (hds (pf_tg (M 4) (M 5)) N N)) := by
  refine CT_of (ret := none) (lv0 := [some (.ref (ad 1)), none, none, none]) (by decide +kernel) hl (by simp [Value.category]) (Nat.le_of_ble_eq_true rfl) rfl ?_
  intro X F Rt _
  have hN2 : ∀ x, fx_u M 1 9 x 1 8 = nI N := fun x => by simpa [fx_u, upd] using hN
  have hM9 : ∀ x, fx_u M 1 9 x 1 9 = x := fun x => by simp [fx_u, upd]
  have hM4 : ∀ x, fx_u M 1 9 x 4 = M 4 := fun x => by simp [fx_u]
  have hM5 : ∀ x, fx_u M 1 9 x 5 = M 5 := fun x => by simp [fx_u]
  have lp : ∀ (k : Nat) (i : Nat), k = N - i → i ≤ N → GG X ad 14 [some (.ref (ad 1)), some (.int (rc (pf_tg (M 4) (M 5)) 65535 N N (65535 &&& 1))), some (.int (nI i)), none] [] 0 0 (c_C sw ++ tl) (fx_u M 1 9 (hds (pf_tg (M 4) (M 5)) N i)) := by
    intro k
    induction k using Nat.strongRecOn with
    | _ k ih =>
      intro i hk hi
      refine G_iload_n F dX6_findHeads_14 rfl ?_
      refine G_aload_n F dX6_findHeads_15 rfl ?_
      refine G_geti F fl_X6_36 dX6_findHeads_16 rfl rfl ?_
      rw [hN2]
      refine G_icmp_ge (tgt := 66) F dX6_findHeads_19 (by decide) (fun h19 => ?_) (fun h19 => ?_)
      · rw [nI_leI (by omega) (by omega)] at h19
        have hiN : i = N := by omega
        subst hiN
        refine G_vret F Rt dX6_findHeads_66 ⟨rfl, rfl, rfl, ?_⟩ (Nat.le_refl _) (Nat.le_refl _)
        rfl
      · rw [nI_leI (by omega) (by omega)] at h19
        refine G_iload_n F dX6_findHeads_22 rfl ?_
        refine G_aload_n F dX6_findHeads_23 rfl ?_
        refine G_ldc (v := 65535) F dX6_findHeads_24 (fx_in 726 (by decide +kernel) rfl) ?_
        refine G_iconst (v := 1) F dX6_findHeads_26 rfl ?_
        refine G_iload_n F dX6_findHeads_27 rfl ?_
        refine G_ishl F dX6_findHeads_28 ?_
        refine G_iconst (v := -1) F dX6_findHeads_29 rfl ?_
        refine G_ixor F dX6_findHeads_30 ?_
        refine G_iand F dX6_findHeads_31 ?_
        refine G_vI F mv_X6_58 dX6_findHeads_32 (s_reachedWithin hl ad sw tl (fx_u M 1 9 (hds (pf_tg (M 4) (M 5)) N i)) (65535 &&& ((1 : Int32) <<< (nI i &&& 31) ^^^ -1)) (N := N) (hN2 _) hN16) rfl rfl rfl rfl (Nat.le_of_ble_eq_true rfl) ⟨Nat.le_of_ble_eq_true rfl, Nat.le_of_ble_eq_true rfl, Nat.le_of_ble_eq_true rfl, Nat.le_of_ble_eq_true rfl⟩ (fun r32 M32 h32 => ?_)
        rw [h32.1, h32.2]
        refine G_iconst (v := -1) F dX6_findHeads_35 rfl ?_
        refine G_ixor F dX6_findHeads_36 ?_
        refine G_iand F dX6_findHeads_37 ?_
        refine G_istore_n F 3 dX6_findHeads_38 rfl rfl rfl (Nat.le_of_ble_eq_true rfl) ?_
        simp only [List.set_cons_zero, List.set_cons_succ]
        refine G_aload_n F dX6_findHeads_39 rfl ?_
        refine G_iload_n F dX6_findHeads_40 rfl ?_
        refine G_iload_n F dX6_findHeads_41 rfl ?_
        refine G_vI F mv_X6_62 dX6_findHeads_42 (s_anyGoesTo hl ad sw tl (fx_u M 1 9 (hds (pf_tg (M 4) (M 5)) N i)) (N := N) (t := i) _ (hN2 _) hN16 (by omega)) rfl rfl rfl rfl (Nat.le_of_ble_eq_true rfl) ⟨Nat.le_of_ble_eq_true rfl, Nat.le_of_ble_eq_true rfl, Nat.le_of_ble_eq_true rfl, Nat.le_of_ble_eq_true rfl⟩ (fun r42 M42 h42 => ?_)
        rw [h42.1, h42.2]
        refine G_if_eq (tgt := 60) F dX6_findHeads_45 (by decide) (fun h45 => ?_) (fun h45 => ?_)
        · have hb45 : ag (pf_tg (M 4) (M 5)) ((rc (pf_tg (M 4) (M 5)) 65535 N N (65535 &&& 1)) &&& (rc (pf_tg (M 4) (M 5)) (65535 &&& ((1 : Int32) <<< (nI i &&& 31) ^^^ -1)) N N ((65535 &&& ((1 : Int32) <<< (nI i &&& 31) ^^^ -1)) &&& 1) ^^^ -1)) i N = false := by simpa [hM4, hM5] using h45
          refine G_drop F 3 ?_
          simp only [List.set_cons_zero, List.set_cons_succ]
          try simp only [fx_uu, hM9]
          refine G_iinc F (1) dX6_findHeads_60 rfl rfl rfl rfl ?_
          simp only [List.set_cons_zero, List.set_cons_succ, nI_1]
          refine G_goto (tgt := 14) F dX6_findHeads_63 (by decide) ?_
          have hgo := ih (N - (i + 1)) (by omega) (i + 1) rfl (by omega)
          simp only [hds, hb45, Bool.false_eq_true, ↓reduceIte] at hgo
          exact hgo
        · have hb45 : ag (pf_tg (M 4) (M 5)) ((rc (pf_tg (M 4) (M 5)) 65535 N N (65535 &&& 1)) &&& (rc (pf_tg (M 4) (M 5)) (65535 &&& ((1 : Int32) <<< (nI i &&& 31) ^^^ -1)) N N ((65535 &&& ((1 : Int32) <<< (nI i &&& 31) ^^^ -1)) &&& 1) ^^^ -1)) i N = true := by simpa [hM4, hM5] using h45
          refine G_drop F 3 ?_
          simp only [List.set_cons_zero, List.set_cons_succ]
          refine G_aload_n F dX6_findHeads_48 rfl ?_
          refine G_dup F dX6_findHeads_49 rfl ?_
          refine G_geti F fl_X6_43 dX6_findHeads_50 rfl rfl ?_
          refine G_iconst (v := 1) F dX6_findHeads_53 rfl ?_
          refine G_iload_n F dX6_findHeads_54 rfl ?_
          refine G_ishl F dX6_findHeads_55 ?_
          refine G_ior F dX6_findHeads_56 ?_
          refine G_puti F fl_X6_43 dX6_findHeads_57 rfl rfl rfl rfl ?_
          try simp only [fx_uu, hM9]
          refine G_iinc F (1) dX6_findHeads_60 rfl rfl rfl rfl ?_
          simp only [List.set_cons_zero, List.set_cons_succ, nI_1]
          refine G_goto (tgt := 14) F dX6_findHeads_63 (by decide) ?_
          have hgo := ih (N - (i + 1)) (by omega) (i + 1) rfl (by omega)
          simp only [hds, hb45, Bool.false_eq_true, ↓reduceIte] at hgo
          exact hgo
  refine G_aload_n F dX6_findHeads_0 rfl ?_
  refine G_iconst (v := 0) F dX6_findHeads_1 rfl ?_
  refine G_puti F fl_X6_43 dX6_findHeads_2 rfl rfl rfl rfl ?_
  refine G_aload_n F dX6_findHeads_5 rfl ?_
  refine G_ldc (v := 65535) F dX6_findHeads_6 (fx_in 726 (by decide +kernel) rfl) ?_
  refine G_vI F mv_X6_58 dX6_findHeads_8 (s_reachedWithin hl ad sw tl (fx_u M 1 9 0) 65535 (N := N) (hN2 _) hN16) rfl rfl rfl rfl (Nat.le_of_ble_eq_true rfl) ⟨Nat.le_of_ble_eq_true rfl, Nat.le_of_ble_eq_true rfl, Nat.le_of_ble_eq_true rfl, Nat.le_of_ble_eq_true rfl⟩ (fun r8 M8 h8 => ?_)
  rw [h8.1, h8.2]
  refine G_istore_n F 1 dX6_findHeads_11 rfl rfl rfl (Nat.le_of_ble_eq_true rfl) ?_
  simp only [List.set_cons_zero, List.set_cons_succ]
  refine G_iconst (v := 0) F dX6_findHeads_12 rfl ?_
  refine G_istore_n F 2 dX6_findHeads_13 rfl rfl rfl (Nat.le_of_ble_eq_true rfl) ?_
  simp only [List.set_cons_zero, List.set_cons_succ]
  exact lp N 0 (by omega) (by omega)
set_option maxRecDepth 20000 in
theorem s_forgetProfile {l : Launch} {Z : fx_Z} (hl : l.stackTraces = false) (ad : Nat → Nat) (sw : Bool) (tl : List fx_Sh) (M : fx_M)   : CV l Z yX6_forgetProfile (.code yX6_forgetProfile cX6_forgetProfile 2 none) 0 [.ref (ad 1)] ad (c_C sw ++ tl) M (fun m => fr [7, 8, 9] M m ∧ ∀ b, b < 16 → m 7 b = 0 ∧ m 8 b = 0 ∧ m 9 b = 0) := by
  refine CT_of (ret := none) (lv0 := [some (.ref (ad 1)), none]) (by decide +kernel) hl (by simp [Value.category]) (Nat.le_of_ble_eq_true rfl) rfl ?_
  intro X F Rt _
  have lp : ∀ (k : Nat) (i : Nat) (M' : fx_M), k = 16 - i → i ≤ 16 → fr [7, 8, 9] M M' → (∀ b, b < i → M' 7 b = 0 ∧ M' 8 b = 0 ∧ M' 9 b = 0) → GG X ad 2 [some (.ref (ad 1)), some (.int (nI i))] [] 0 0 (c_C sw ++ tl) M' := by
    intro k
    induction k using Nat.strongRecOn with
    | _ k ih =>
      intro i M' hk hi h1 h2
      refine G_iload_n F dX6_forgetProfile_2 rfl ?_
      refine G_bipush (v := nI 16) F dX6_forgetProfile_3 (by decide) ?_
      refine G_icmp_ge (tgt := 35) F dX6_forgetProfile_5 (by decide) (fun h5 => ?_) (fun h5 => ?_)
      · rw [nI_leI (by omega) (by omega)] at h5
        have hi16 : i = 16 := by omega
        subst hi16
        refine G_vret F Rt dX6_forgetProfile_35 ⟨rfl, rfl, rfl, ?_⟩ (Nat.le_refl _) (Nat.le_refl _)
        exact ⟨h1, h2⟩
      · rw [nI_leI (by omega) (by omega)] at h5
        refine G_aload_n F dX6_forgetProfile_8 rfl ?_
        refine G_getr F fl_X6_27 dX6_forgetProfile_9 rfl rfl ?_
        refine G_iload_n F dX6_forgetProfile_12 rfl ?_
        refine G_iconst (v := 0) F dX6_forgetProfile_13 rfl ?_
        refine G_iastN F dX6_forgetProfile_14 rfl (by omega) (by decide) ?_
        refine G_aload_n F dX6_forgetProfile_15 rfl ?_
        refine G_getr F fl_X6_30 dX6_forgetProfile_16 rfl rfl ?_
        refine G_iload_n F dX6_forgetProfile_19 rfl ?_
        refine G_iconst (v := 0) F dX6_forgetProfile_20 rfl ?_
        refine G_iastN F dX6_forgetProfile_21 rfl (by omega) (by decide) ?_
        refine G_aload_n F dX6_forgetProfile_22 rfl ?_
        refine G_getr F fl_X6_33 dX6_forgetProfile_23 rfl rfl ?_
        refine G_iload_n F dX6_forgetProfile_26 rfl ?_
        refine G_iconst (v := 0) F dX6_forgetProfile_27 rfl ?_
        refine G_iastN F dX6_forgetProfile_28 rfl (by omega) (by decide) ?_
        refine G_iinc F (1) dX6_forgetProfile_29 rfl rfl rfl rfl ?_
        simp only [List.set_cons_zero, List.set_cons_succ, nI_1]
        refine G_goto (tgt := 2) F dX6_forgetProfile_32 (by decide) ?_
        exact ih (16 - (i + 1)) (by omega) (i + 1) _ rfl (by omega) (((h1.u (by decide)).u (by decide)).u (by decide)) (fun b hb => by
          by_cases e : b = i
          · subst e; simp [fx_u_at]
          · have := h2 b (by omega); simp [fx_u_at, e, this])
  refine G_iconst (v := 0) F dX6_forgetProfile_0 rfl ?_
  refine G_istore_n F 1 dX6_forgetProfile_1 rfl rfl rfl (Nat.le_of_ble_eq_true rfl) ?_
  simp only [List.set_cons_zero, List.set_cons_succ]
  exact lp 16 0 M rfl (by omega) fr.rfl (fun b hb => absurd hb (by omega))
set_option maxRecDepth 20000 in
theorem s_progBegin {l : Launch} {Z : fx_Z} (hl : l.stackTraces = false) (ad : Nat → Nat) (sw : Bool) (tl : List fx_Sh) (M : fx_M) (n : Int32)  : CV l Z yX6_begin (.code yX6_begin cX6_begin 3 none) 1 [.ref (ad 1), .int n] ad (c_C sw ++ tl) M (fun m => fr [1, 2, 3, 4, 5, 6, 7, 8, 9] M m ∧ m 1 8 = n ∧ m 1 9 = 0 ∧ ∀ b, b < 16 → m 2 b = 0 ∧ m 3 b = 2 ∧ m 4 b = -1 ∧ m 5 b = -1 ∧ m 6 b = 0 ∧ m 7 b = 0 ∧ m 8 b = 0 ∧ m 9 b = 0) := by
  refine CT_of (ret := none) (lv0 := [some (.ref (ad 1)), some (.int n), none]) (by decide +kernel) hl (by simp [Value.category]) (Nat.le_of_ble_eq_true rfl) rfl ?_
  intro X F Rt _
  have lp : ∀ (k : Nat) (i : Nat) (M' : fx_M), k = 16 - i → i ≤ 16 → fr [2, 3, 4, 5, 6] (fx_u M 1 8 n) M' → (∀ b, b < i → M' 2 b = 0 ∧ M' 3 b = 2 ∧ M' 4 b = -1 ∧ M' 5 b = -1 ∧ M' 6 b = 0) → GG X ad 7 [some (.ref (ad 1)), some (.int n), some (.int (nI i))] [] 0 0 (c_C sw ++ tl) M' := by
    intro k
    induction k using Nat.strongRecOn with
    | _ k ih =>
      intro i M' hk hi h1 h2
      refine G_iload_n F dX6_begin_7 rfl ?_
      refine G_bipush (v := nI 16) F dX6_begin_8 (by decide) ?_
      refine G_icmp_ge (tgt := 54) F dX6_begin_10 (by decide) (fun h10 => ?_) (fun h10 => ?_)
      · rw [nI_leI (by omega) (by omega)] at h10
        have hi16 : i = 16 := by omega
        subst hi16
        refine G_aload_n F dX6_begin_54 rfl ?_
        refine G_vv F mv_X6_40 dX6_begin_55 (s_forgetProfile hl ad sw tl M') rfl rfl rfl rfl (Nat.le_of_ble_eq_true rfl) ⟨Nat.le_of_ble_eq_true rfl, Nat.le_of_ble_eq_true rfl, Nat.le_of_ble_eq_true rfl, Nat.le_of_ble_eq_true rfl⟩ (fun M55 h55 => ?_)
        obtain ⟨q1, q2⟩ := h55
        refine G_aload_n F dX6_begin_58 rfl ?_
        refine G_iconst (v := 0) F dX6_begin_59 rfl ?_
        refine G_puti F fl_X6_43 dX6_begin_60 rfl rfl rfl rfl ?_
        refine G_vret F Rt dX6_begin_63 ⟨rfl, rfl, rfl, ?_⟩ (Nat.le_refl _) (Nat.le_refl _)
        refine ⟨fun k hk => ?_, ?_, ?_, fun b hb => ?_⟩
        · rw [fx_u_ne (by intro e; subst e; simp at hk), q1 k (by intro e; apply hk; simp only [List.mem_cons, List.not_mem_nil, or_false] at e ⊢; omega), h1 k (by intro e; apply hk; simp only [List.mem_cons, List.not_mem_nil, or_false] at e ⊢; omega), fx_u_ne (by intro e; subst e; simp at hk)]
        · have e1 := congrFun (q1 1 (by decide)) 8
          have e2 := congrFun (h1 1 (by decide)) 8
          simp only [fx_u_at] at e1 e2 ⊢
          simp [e1, e2]
        · simp [fx_u_at]
        · have e2 := congrFun (q1 2 (by decide)) b
          have e3 := congrFun (q1 3 (by decide)) b
          have e4 := congrFun (q1 4 (by decide)) b
          have e5 := congrFun (q1 5 (by decide)) b
          have e6 := congrFun (q1 6 (by decide)) b
          have e7 := q2 b hb
          have e8 := h2 b hb
          simp [fx_u_at, e2, e3, e4, e5, e6, e7, e8]
      · rw [nI_leI (by omega) (by omega)] at h10
        refine G_aload_n F dX6_begin_13 rfl ?_
        refine G_getr F fl_X6_9 dX6_begin_14 rfl rfl ?_
        refine G_iload_n F dX6_begin_17 rfl ?_
        refine G_iconst (v := 0) F dX6_begin_18 rfl ?_
        refine G_iastN F dX6_begin_19 rfl (by omega) (by decide) ?_
        refine G_aload_n F dX6_begin_20 rfl ?_
        refine G_getr F fl_X6_15 dX6_begin_21 rfl rfl ?_
        refine G_iload_n F dX6_begin_24 rfl ?_
        refine G_iconst (v := 2) F dX6_begin_25 rfl ?_
        refine G_iastN F dX6_begin_26 rfl (by omega) (by decide) ?_
        refine G_aload_n F dX6_begin_27 rfl ?_
        refine G_getr F fl_X6_18 dX6_begin_28 rfl rfl ?_
        refine G_iload_n F dX6_begin_31 rfl ?_
        refine G_iconst (v := -1) F dX6_begin_32 rfl ?_
        refine G_iastN F dX6_begin_33 rfl (by omega) (by decide) ?_
        refine G_aload_n F dX6_begin_34 rfl ?_
        refine G_getr F fl_X6_21 dX6_begin_35 rfl rfl ?_
        refine G_iload_n F dX6_begin_38 rfl ?_
        refine G_iconst (v := -1) F dX6_begin_39 rfl ?_
        refine G_iastN F dX6_begin_40 rfl (by omega) (by decide) ?_
        refine G_aload_n F dX6_begin_41 rfl ?_
        refine G_getr F fl_X6_24 dX6_begin_42 rfl rfl ?_
        refine G_iload_n F dX6_begin_45 rfl ?_
        refine G_iconst (v := 0) F dX6_begin_46 rfl ?_
        refine G_iastN F dX6_begin_47 rfl (by omega) (by decide) ?_
        refine G_iinc F (1) dX6_begin_48 rfl rfl rfl rfl ?_
        simp only [List.set_cons_zero, List.set_cons_succ, nI_1]
        refine G_goto (tgt := 7) F dX6_begin_51 (by decide) ?_
        exact ih (16 - (i + 1)) (by omega) (i + 1) _ rfl (by omega) (((((h1.u (by decide)).u (by decide)).u (by decide)).u (by decide)).u (by decide)) (fun b hb => by
          by_cases e : b = i
          · subst e; simp [fx_u_at]
          · have := h2 b (by omega); simp [fx_u_at, e, this])
  refine G_aload_n F dX6_begin_0 rfl ?_
  refine G_iload_n F dX6_begin_1 rfl ?_
  refine G_puti F fl_X6_36 dX6_begin_2 rfl rfl rfl rfl ?_
  refine G_iconst (v := 0) F dX6_begin_5 rfl ?_
  refine G_istore_n F 2 dX6_begin_6 rfl rfl rfl (Nat.le_of_ble_eq_true rfl) ?_
  simp only [List.set_cons_zero, List.set_cons_succ]
  exact lp 16 0 _ rfl (by omega) fr.rfl (fun b hb => absurd hb (by omega))
/-- the memory behind a change of an end, heads apart -/
def m_ce (M : fx_M) (b : Nat) (k f s p : Int32) : fx_M := fx_u (fx_u (fx_u (fx_u (fx_u (fx_u M 3 b k) 4 b f) 5 b s) 6 b p) 8 b 0) 9 b 0
set_option maxRecDepth 20000 in
theorem s_changeEnd {l : Launch} {Z : fx_Z} (hl : l.stackTraces = false) (ad : Nat → Nat) (sw : Bool) (tl : List fx_Sh) (M : fx_M) {N b : Nat} (k f s p : Int32) (hN : M 1 8 = nI N) (hN16 : N ≤ 16) (hb : b < 16) : CI l Z yX6_changeEnd (.code yX6_changeEnd cX6_changeEnd 7 (some .int)) 3 [.ref (ad 1), .int (nI b), .int k, .int f, .int s, .int p] ad (c_C sw ++ tl) M (fun r m => r = M 3 b ∧ m = fx_u (m_ce M b k f s p) 1 9 (hds (pf_tg (m_ce M b k f s p 4) (m_ce M b k f s p 5)) N N)) := by
  refine CT_of (ret := (some .int)) (lv0 := [some (.ref (ad 1)), some (.int (nI b)), some (.int k), some (.int f), some (.int s), some (.int p), none]) (by decide +kernel) hl (by simp [Value.category]) (Nat.le_of_ble_eq_true rfl) rfl ?_
  intro X F Rt _
  refine G_aload_n F dX6_changeEnd_0 rfl ?_
  refine G_getr F fl_X6_15 dX6_changeEnd_1 rfl rfl ?_
  refine G_iload_n F dX6_changeEnd_4 rfl ?_
  refine G_ialdN F dX6_changeEnd_5 rfl (by omega) (by decide) ?_
  refine G_istore F dX6_changeEnd_6 rfl rfl (Nat.le_of_ble_eq_true rfl) ?_
  simp only [List.set_cons_zero, List.set_cons_succ]
  refine G_aload_n F dX6_changeEnd_8 rfl ?_
  refine G_getr F fl_X6_15 dX6_changeEnd_9 rfl rfl ?_
  refine G_iload_n F dX6_changeEnd_12 rfl ?_
  refine G_iload_n F dX6_changeEnd_13 rfl ?_
  refine G_iastN F dX6_changeEnd_14 rfl (by omega) (by decide) ?_
  refine G_aload_n F dX6_changeEnd_15 rfl ?_
  refine G_getr F fl_X6_18 dX6_changeEnd_16 rfl rfl ?_
  refine G_iload_n F dX6_changeEnd_19 rfl ?_
  refine G_iload_n F dX6_changeEnd_20 rfl ?_
  refine G_iastN F dX6_changeEnd_21 rfl (by omega) (by decide) ?_
  refine G_aload_n F dX6_changeEnd_22 rfl ?_
  refine G_getr F fl_X6_21 dX6_changeEnd_23 rfl rfl ?_
  refine G_iload_n F dX6_changeEnd_26 rfl ?_
  refine G_iload F dX6_changeEnd_27 rfl ?_
  refine G_iastN F dX6_changeEnd_29 rfl (by omega) (by decide) ?_
  refine G_aload_n F dX6_changeEnd_30 rfl ?_
  refine G_getr F fl_X6_24 dX6_changeEnd_31 rfl rfl ?_
  refine G_iload_n F dX6_changeEnd_34 rfl ?_
  refine G_iload F dX6_changeEnd_35 rfl ?_
  refine G_iastN F dX6_changeEnd_37 rfl (by omega) (by decide) ?_
  refine G_aload_n F dX6_changeEnd_38 rfl ?_
  refine G_getr F fl_X6_30 dX6_changeEnd_39 rfl rfl ?_
  refine G_iload_n F dX6_changeEnd_42 rfl ?_
  refine G_iconst (v := 0) F dX6_changeEnd_43 rfl ?_
  refine G_iastN F dX6_changeEnd_44 rfl (by omega) (by decide) ?_
  refine G_aload_n F dX6_changeEnd_45 rfl ?_
  refine G_getr F fl_X6_33 dX6_changeEnd_46 rfl rfl ?_
  refine G_iload_n F dX6_changeEnd_49 rfl ?_
  refine G_iconst (v := 0) F dX6_changeEnd_50 rfl ?_
  refine G_iastN F dX6_changeEnd_51 rfl (by omega) (by decide) ?_
  refine G_aload_n F dX6_changeEnd_52 rfl ?_
  refine G_vv F mv_X6_46 dX6_changeEnd_53 (s_findHeads hl ad sw tl (m_ce M b k f s p) (N := N) (by simpa [m_ce, fx_u, upd] using hN) hN16) rfl rfl rfl rfl (Nat.le_of_ble_eq_true rfl) ⟨Nat.le_of_ble_eq_true rfl, Nat.le_of_ble_eq_true rfl, Nat.le_of_ble_eq_true rfl, Nat.le_of_ble_eq_true rfl⟩ (fun M53 h53 => ?_)
  rw [h53]
  refine G_iload F dX6_changeEnd_56 rfl ?_
  refine G_iret F Rt dX6_changeEnd_58 (rfl) ⟨rfl, rfl, _, rfl, ?_⟩ (Nat.le_refl _) (Nat.le_refl _)
  exact ⟨rfl, rfl⟩
/-- the memory behind an exchange of a block's targets -/
def m_sw (M : fx_M) (b : Nat) : fx_M := fx_u (fx_u (fx_u (fx_u (fx_u M 4 b (M 5 b)) 5 b (M 4 b)) 8 b (M 9 b)) 9 b (M 8 b)) 6 b (M 6 b ^^^ -1)
set_option maxRecDepth 20000 in
theorem s_swapTargets {l : Launch} {Z : fx_Z} (hl : l.stackTraces = false) (ad : Nat → Nat) (sw : Bool) (tl : List fx_Sh) (M : fx_M) {b : Nat} (hb : b < 16) : CV l Z yX6_swapTargets (.code yX6_swapTargets cX6_swapTargets 4 none) 0 [.ref (ad 1), .int (nI b)] ad (c_C sw ++ tl) M (fun m => m = m_sw M b) := by
  refine CT_of (ret := none) (lv0 := [some (.ref (ad 1)), some (.int (nI b)), none, none]) (by decide +kernel) hl (by simp [Value.category]) (Nat.le_of_ble_eq_true rfl) rfl ?_
  intro X F Rt _
  refine G_aload_n F dX6_swapTargets_0 rfl ?_
  refine G_getr F fl_X6_18 dX6_swapTargets_1 rfl rfl ?_
  refine G_iload_n F dX6_swapTargets_4 rfl ?_
  refine G_ialdN F dX6_swapTargets_5 rfl (by omega) (by decide) ?_
  refine G_istore_n F 2 dX6_swapTargets_6 rfl rfl rfl (Nat.le_of_ble_eq_true rfl) ?_
  simp only [List.set_cons_zero, List.set_cons_succ]
  refine G_aload_n F dX6_swapTargets_7 rfl ?_
  refine G_getr F fl_X6_18 dX6_swapTargets_8 rfl rfl ?_
  refine G_iload_n F dX6_swapTargets_11 rfl ?_
  refine G_aload_n F dX6_swapTargets_12 rfl ?_
  refine G_getr F fl_X6_21 dX6_swapTargets_13 rfl rfl ?_
  refine G_iload_n F dX6_swapTargets_16 rfl ?_
  refine G_ialdN F dX6_swapTargets_17 rfl (by omega) (by decide) ?_
  refine G_iastN F dX6_swapTargets_18 rfl (by omega) (by decide) ?_
  refine G_aload_n F dX6_swapTargets_19 rfl ?_
  refine G_getr F fl_X6_21 dX6_swapTargets_20 rfl rfl ?_
  refine G_iload_n F dX6_swapTargets_23 rfl ?_
  refine G_iload_n F dX6_swapTargets_24 rfl ?_
  refine G_iastN F dX6_swapTargets_25 rfl (by omega) (by decide) ?_
  refine G_aload_n F dX6_swapTargets_26 rfl ?_
  refine G_getr F fl_X6_30 dX6_swapTargets_27 rfl rfl ?_
  refine G_iload_n F dX6_swapTargets_30 rfl ?_
  refine G_ialdN F dX6_swapTargets_31 rfl (by omega) (by decide) ?_
  refine G_istore_n F 3 dX6_swapTargets_32 rfl rfl rfl (Nat.le_of_ble_eq_true rfl) ?_
  simp only [List.set_cons_zero, List.set_cons_succ]
  refine G_aload_n F dX6_swapTargets_33 rfl ?_
  refine G_getr F fl_X6_30 dX6_swapTargets_34 rfl rfl ?_
  refine G_iload_n F dX6_swapTargets_37 rfl ?_
  refine G_aload_n F dX6_swapTargets_38 rfl ?_
  refine G_getr F fl_X6_33 dX6_swapTargets_39 rfl rfl ?_
  refine G_iload_n F dX6_swapTargets_42 rfl ?_
  refine G_ialdN F dX6_swapTargets_43 rfl (by omega) (by decide) ?_
  refine G_iastN F dX6_swapTargets_44 rfl (by omega) (by decide) ?_
  refine G_aload_n F dX6_swapTargets_45 rfl ?_
  refine G_getr F fl_X6_33 dX6_swapTargets_46 rfl rfl ?_
  refine G_iload_n F dX6_swapTargets_49 rfl ?_
  refine G_iload_n F dX6_swapTargets_50 rfl ?_
  refine G_iastN F dX6_swapTargets_51 rfl (by omega) (by decide) ?_
  refine G_aload_n F dX6_swapTargets_52 rfl ?_
  refine G_getr F fl_X6_24 dX6_swapTargets_53 rfl rfl ?_
  refine G_iload_n F dX6_swapTargets_56 rfl ?_
  refine G_aload_n F dX6_swapTargets_57 rfl ?_
  refine G_getr F fl_X6_24 dX6_swapTargets_58 rfl rfl ?_
  refine G_iload_n F dX6_swapTargets_61 rfl ?_
  refine G_ialdN F dX6_swapTargets_62 rfl (by omega) (by decide) ?_
  refine G_iconst (v := -1) F dX6_swapTargets_63 rfl ?_
  refine G_ixor F dX6_swapTargets_64 ?_
  refine G_iastN F dX6_swapTargets_65 rfl (by omega) (by decide) ?_
  refine G_vret F Rt dX6_swapTargets_66 ⟨rfl, rfl, rfl, ?_⟩ (Nat.le_refl _) (Nat.le_refl _)
  rfl
set_option maxRecDepth 20000 in
theorem s_planBegin {l : Launch} {Z : fx_Z} (hl : l.stackTraces = false) (ad : Nat → Nat) (sw : Bool) (tl : List fx_Sh) (M : fx_M) (n : Int32)  : CV l Z yX5_begin (.code yX5_begin cX5_begin 3 none) 0 [.ref (ad 10), .int n] ad (c_C sw ++ tl) M (fun m => fr [10, 11] M m ∧ m 10 1 = n ∧ m 10 2 = M 10 2 ∧ ∀ b, b < 16 → m 11 b = nI b) := by
  refine CT_of (ret := none) (lv0 := [some (.ref (ad 10)), some (.int n), none]) (by decide +kernel) hl (by simp [Value.category]) (Nat.le_of_ble_eq_true rfl) rfl ?_
  intro X F Rt _
  have lp : ∀ (k : Nat) (i : Nat) (M' : fx_M), k = 16 - i → i ≤ 16 → fr [11] M M' → (∀ b, b < i → M' 11 b = nI b) → GG X ad 2 [some (.ref (ad 10)), some (.int n), some (.int (nI i))] [] 0 0 (c_C sw ++ tl) M' := by
    intro k
    induction k using Nat.strongRecOn with
    | _ k ih =>
      intro i M' hk hi h1 h2
      refine G_iload_n F dX5_begin_2 rfl ?_
      refine G_bipush (v := nI 16) F dX5_begin_3 (by decide) ?_
      refine G_icmp_ge (tgt := 21) F dX5_begin_5 (by decide) (fun h5 => ?_) (fun h5 => ?_)
      · rw [nI_leI (by omega) (by omega)] at h5
        have hi16 : i = 16 := by omega
        subst hi16
        refine G_aload_n F dX5_begin_21 rfl ?_
        refine G_iload_n F dX5_begin_22 rfl ?_
        refine G_puti F fl_X5_19 dX5_begin_23 rfl rfl rfl rfl ?_
        refine G_vret F Rt dX5_begin_26 ⟨rfl, rfl, rfl, ?_⟩ (Nat.le_refl _) (Nat.le_refl _)
        refine ⟨fun k hk => ?_, ?_, ?_, fun b hb => ?_⟩
        · rw [fx_u_ne (by intro e; subst e; simp at hk), h1 k (by intro e; apply hk; simp only [List.mem_cons, List.not_mem_nil, or_false] at e ⊢; omega)]
        · simp [fx_u_at]
        · have e1 := congrFun (h1 10 (by decide)) 2
          simp [fx_u_at, e1]
        · have e1 := h2 b hb
          simp [fx_u_at, e1]
      · rw [nI_leI (by omega) (by omega)] at h5
        refine G_aload_n F dX5_begin_8 rfl ?_
        refine G_getr F fl_X5_9 dX5_begin_9 rfl rfl ?_
        refine G_iload_n F dX5_begin_12 rfl ?_
        refine G_iload_n F dX5_begin_13 rfl ?_
        refine G_iastN F dX5_begin_14 rfl (by omega) (by decide) ?_
        refine G_iinc F (1) dX5_begin_15 rfl rfl rfl rfl ?_
        simp only [List.set_cons_zero, List.set_cons_succ, nI_1]
        refine G_goto (tgt := 2) F dX5_begin_18 (by decide) ?_
        exact ih (16 - (i + 1)) (by omega) (i + 1) _ rfl (by omega) (h1.u (by decide)) (fun b hb => by
          by_cases e : b = i
          · subst e; simp [fx_u_at]
          · have := h2 b (by omega); simp [fx_u_at, e, this])
  refine G_iconst (v := 0) F dX5_begin_0 rfl ?_
  refine G_istore_n F 2 dX5_begin_1 rfl rfl rfl (Nat.le_of_ble_eq_true rfl) ?_
  simp only [List.set_cons_zero, List.set_cons_succ]
  exact lp 16 0 _ rfl (by omega) fr.rfl (fun b hb => absurd hb (by omega))
set_option maxRecDepth 20000 in
theorem s_forget {l : Launch} {Z : fx_Z} (hl : l.stackTraces = false) (ad : Nat → Nat) (sw : Bool) (tl : List fx_Sh) (M : fx_M)   : CV l Z yX1_forget (.code yX1_forget cX1_forget 1 none) 0 [.ref (ad 31)] ad (c_C sw ++ tl) M (fun m => m = fx_u M 31 4 0) := by
  refine CT_of (ret := none) (lv0 := [some (.ref (ad 31))]) (by decide +kernel) hl (by simp [Value.category]) (Nat.le_of_ble_eq_true rfl) rfl ?_
  intro X F Rt _
  refine G_aload_n F dX1_forget_0 rfl ?_
  refine G_iconst (v := 0) F dX1_forget_1 rfl ?_
  refine G_puti F fl_X1_21 dX1_forget_2 rfl rfl rfl rfl ?_
  refine G_vret F Rt dX1_forget_5 ⟨rfl, rfl, rfl, ?_⟩ (Nat.le_refl _) (Nat.le_refl _)
  rfl
