/-! ARRANGER: hot blocks, joining -/
/-- whether a block is hot -/
def hob (cn : Nat → Int32) (cold : Int32) (b : Nat) : Bool := decide (b = 0) || decide (cold < cn b)
/-- how many of the first n are -/
def hcn (ho : Nat → Bool) : Nat → Nat
  | 0 => 0
  | n + 1 => hcn ho n + (if ho n then 1 else 0)
theorem hcn_le {ho : Nat → Bool} : ∀ n, hcn ho n ≤ n := by
  intro n
  induction n with
  | zero => exact Nat.le_refl 0
  | succ n ih => simp only [hcn]; split <;> omega
theorem upd_upd {f : Nat → Int32} {k : Nat} {x y : Int32} : upd (upd f k x) k y = upd f k y := by
  funext j
  simp only [upd]
  split <;> rfl
theorem upd_self {f : Nat → Int32} {k : Nat} {x : Int32} : upd f k x k = x := by simp [upd]
set_option maxRecDepth 20000 in
theorem s_divide {l : Launch} {Z : fx_Z} (hl : l.stackTraces = false) (ad : Nat → Nat) (sw : Bool) (tl : List fx_Sh) (M : fx_M) {N : Nat} (cold : Int32) (hN : M 1 8 = nI N) (hN16 : N ≤ 16) : CV l Z yX0_divide (.code yX0_divide cX0_divide 3 none) 0 [.ref (ad 20), .int cold] ad (c_C sw ++ tl) M (fun m => fr [20, 21] M m ∧ m 20 = upd (M 20) 3 (nI (hcn (hob (M 7) cold) N)) ∧ ∀ b, b < N → m 21 b = (if (hob (M 7) cold) b then 1 else 0)) := by
  refine CT_of (ret := none) (lv0 := [some (.ref (ad 20)), some (.int cold), none]) (by decide +kernel) hl (by simp [Value.category]) (Nat.le_of_ble_eq_true rfl) rfl ?_
  intro X F Rt _
  have lp : ∀ (k : Nat) (i : Nat) (M' : fx_M), k = N - i → i ≤ N → fr [20, 21] M M' → M' 20 = upd (M 20) 3 (nI (hcn (hob (M 7) cold) i)) → (∀ b, b < i → M' 21 b = (if (hob (M 7) cold) b then 1 else 0)) → GG X ad 7 [some (.ref (ad 20)), some (.int cold), some (.int (nI i))] [] 0 0 (c_C sw ++ tl) M' := by
    intro k
    induction k using Nat.strongRecOn with
    | _ k ih =>
      intro i M' hk hi h1 h2 h3
      have hN1 : M' 1 8 = nI N := by rw [h1 1 (by decide)]; exact hN
      refine G_iload_n F dX0_divide_7 rfl ?_
      refine G_aload_n F dX0_divide_8 rfl ?_
      refine G_getr F fl_X0_31 dX0_divide_9 rfl rfl ?_
      refine G_geti F fl_X0_43 dX0_divide_12 rfl rfl ?_
      rw [hN1]
      refine G_icmp_ge (tgt := 75) F dX0_divide_15 (by decide) (fun h15 => ?_) (fun h15 => ?_)
      · rw [nI_leI (by omega) (by omega)] at h15
        have hiN : i = N := by omega
        subst hiN
        refine G_vret F Rt dX0_divide_75 ⟨rfl, rfl, rfl, ?_⟩ (Nat.le_refl _) (Nat.le_refl _)
        exact ⟨h1, h2, h3⟩
      · rw [nI_leI (by omega) (by omega)] at h15
        have t45a : (hob (M 7) cold) i = true → GG X ad 45 [some (.ref (ad 20)), some (.int cold), some (.int (nI i))] [.int 1, .int (nI i), .ref (ad 21)] 0 0 (c_C sw ++ tl) M' := by
          intro hv
          refine G_zastN F dX0_divide_45 rfl (by omega) (by decide) (by first | exact Or.inl rfl | exact Or.inr rfl) ?_
          refine G_aload_n F dX0_divide_46 rfl ?_
          refine G_dup F dX0_divide_47 rfl ?_
          refine G_geti F fl_X0_39 dX0_divide_48 rfl rfl ?_
          rw [fx_u_ne (by decide), h2, upd_self]
          refine G_aload_n F dX0_divide_51 rfl ?_
          refine G_getr F fl_X0_9 dX0_divide_52 rfl rfl ?_
          refine G_iload_n F dX0_divide_55 rfl ?_
          refine G_zaldN F dX0_divide_56 rfl (by omega) (by decide) ?_
          rw [fx_u_at, if_pos ⟨rfl, rfl⟩]
          refine G_if_eq (tgt := 64) F dX0_divide_57 (by decide) (fun h57 => ?_) (fun h57 => ?_)
          · exact absurd h57 (by decide) --stop
          · skip
            refine G_iconst (v := nI 1) F dX0_divide_60 (by decide) ?_
            refine G_goto (tgt := 65) F dX0_divide_61 (by decide) ?_
            refine G_iadd F dX0_divide_65 ?_
            refine G_puti F fl_X0_39 dX0_divide_66 rfl rfl rfl rfl ?_
            refine G_iinc F (1) dX0_divide_69 rfl rfl rfl rfl ?_
            simp only [List.set_cons_zero, List.set_cons_succ, nI_1]
            refine G_goto (tgt := 7) F dX0_divide_72 (by decide) ?_
            exact ih (N - (i + 1)) (by omega) (i + 1) _ rfl (by omega) ((h1.u (by decide)).u (by decide)) (by
              rw [fx_u_eq, fx_u_ne (by decide), h2, upd_upd, nI_add]
              simp only [hcn, hv, Bool.false_eq_true, ↓reduceIte]
              try rfl) (fun b hb => by
              rw [fx_u_ne (by decide), fx_u_at]
              by_cases e : b = i
              · rw [if_pos ⟨rfl, e⟩, e, hv]; simp
              · rw [if_neg (fun q => e q.2)]; exact h3 b (by omega))
        have t45b : (hob (M 7) cold) i = false → GG X ad 45 [some (.ref (ad 20)), some (.int cold), some (.int (nI i))] [.int 0, .int (nI i), .ref (ad 21)] 0 0 (c_C sw ++ tl) M' := by
          intro hv
          refine G_zastN F dX0_divide_45 rfl (by omega) (by decide) (by first | exact Or.inl rfl | exact Or.inr rfl) ?_
          refine G_aload_n F dX0_divide_46 rfl ?_
          refine G_dup F dX0_divide_47 rfl ?_
          refine G_geti F fl_X0_39 dX0_divide_48 rfl rfl ?_
          rw [fx_u_ne (by decide), h2, upd_self]
          refine G_aload_n F dX0_divide_51 rfl ?_
          refine G_getr F fl_X0_9 dX0_divide_52 rfl rfl ?_
          refine G_iload_n F dX0_divide_55 rfl ?_
          refine G_zaldN F dX0_divide_56 rfl (by omega) (by decide) ?_
          rw [fx_u_at, if_pos ⟨rfl, rfl⟩]
          refine G_if_eq (tgt := 64) F dX0_divide_57 (by decide) (fun h57 => ?_) (fun h57 => ?_)
          · skip
            refine G_iconst (v := nI 0) F dX0_divide_64 (by decide) ?_
            refine G_iadd F dX0_divide_65 ?_
            refine G_puti F fl_X0_39 dX0_divide_66 rfl rfl rfl rfl ?_
            refine G_iinc F (1) dX0_divide_69 rfl rfl rfl rfl ?_
            simp only [List.set_cons_zero, List.set_cons_succ, nI_1]
            refine G_goto (tgt := 7) F dX0_divide_72 (by decide) ?_
            exact ih (N - (i + 1)) (by omega) (i + 1) _ rfl (by omega) ((h1.u (by decide)).u (by decide)) (by
              rw [fx_u_eq, fx_u_ne (by decide), h2, upd_upd, nI_add]
              simp only [hcn, hv, Bool.false_eq_true, ↓reduceIte]
              try rfl) (fun b hb => by
              rw [fx_u_ne (by decide), fx_u_at]
              by_cases e : b = i
              · rw [if_pos ⟨rfl, e⟩, e, hv]; simp
              · rw [if_neg (fun q => e q.2)]; exact h3 b (by omega))
          · exact absurd rfl h57 --stop
        refine G_aload_n F dX0_divide_18 rfl ?_
        refine G_getr F fl_X0_9 dX0_divide_19 rfl rfl ?_
        refine G_iload_n F dX0_divide_22 rfl ?_
        refine G_iload_n F dX0_divide_23 rfl ?_
        refine G_if_eq (tgt := 40) F dX0_divide_24 (by decide) (fun h24 => ?_) (fun h24 => ?_)
        · have hi0 : i = 0 := by
            rw [← nI_0, nI_eq (by omega) (by omega)] at h24
            exact h24
          refine G_iconst (v := 1) F dX0_divide_40 rfl ?_
          refine G_goto (tgt := 45) F dX0_divide_41 (by decide) ?_
          exact t45a (by simp [hob, hi0])
        · have hi0 : ¬ i = 0 := fun q => h24 (by rw [q]; rfl)
          refine G_aload_n F dX0_divide_27 rfl ?_
          refine G_getr F fl_X0_31 dX0_divide_28 rfl rfl ?_
          refine G_getr F fl_X0_48 dX0_divide_31 rfl rfl ?_
          refine G_iload_n F dX0_divide_34 rfl ?_
          refine G_ialdN F dX0_divide_35 rfl (by omega) (by decide) ?_
          refine G_iload_n F dX0_divide_36 rfl ?_
          refine G_icmp_le (tgt := 44) F dX0_divide_37 (by decide) (fun h37 => ?_) (fun h37 => ?_)
          · rw [h1 7 (by decide)] at h37
            refine G_iconst (v := 0) F dX0_divide_44 rfl ?_
            exact t45b (by simp only [hob, hi0, decide_false, Bool.false_or, decide_eq_false_iff_not]; simp only [Int32.lt_iff_toInt_lt, Int32.le_iff_toInt_le] at h37 ⊢; omega)
          · rw [h1 7 (by decide)] at h37
            refine G_iconst (v := 1) F dX0_divide_40 rfl ?_
            refine G_goto (tgt := 45) F dX0_divide_41 (by decide) ?_
            exact t45a (by simp only [hob, hi0, decide_false, Bool.false_or, decide_eq_true_eq]; simp only [Int32.lt_iff_toInt_lt, Int32.le_iff_toInt_le] at h37 ⊢; omega)
  refine G_aload_n F dX0_divide_0 rfl ?_
  refine G_iconst (v := 0) F dX0_divide_1 rfl ?_
  refine G_puti F fl_X0_39 dX0_divide_2 rfl rfl rfl rfl ?_
  refine G_iconst (v := 0) F dX0_divide_5 rfl ?_
  refine G_istore_n F 2 dX0_divide_6 rfl rfl rfl (Nat.le_of_ble_eq_true rfl) ?_
  simp only [List.set_cons_zero, List.set_cons_succ]
  exact lp N 0 _ rfl (by omega) (fr.rfl.u (by decide)) (by rw [fx_u_eq]; rfl) (fun b hb => absurd hb (by omega))
/-- whether two chains can be joined, as the class has it -/
def pf_cj (n : Int32) (ho bh ch : Nat → Int32) (a : Nat) (t : Int32) : Bool := decide (0 < t) && (decide (t < n) && (decide (ho a ≠ 0) && (decide (ho t.toNatClampNeg ≠ 0) && (decide (bh a = -1) && (decide (ch t.toNatClampNeg = t) && decide (ch a ≠ t))))))
set_option maxRecDepth 20000 in
theorem s_canJoin {l : Launch} {Z : fx_Z} (hl : l.stackTraces = false) (ad : Nat → Nat) (sw : Bool) (tl : List fx_Sh) (M : fx_M) {a : Nat} (t : Int32) (ha : a < 16) (hn : M 1 8 ≤ 16) : CI l Z yX0_canJoin (.code yX0_canJoin cX0_canJoin 3 (some .boolean)) 1 [.ref (ad 20), .int (nI a), .int t] ad (c_C sw ++ tl) M (fun r m => r = (if (pf_cj (M 1 8) (M 21) (M 22) (M 23) a t) then 1 else 0) ∧ m = M) := by
  refine CT_of (ret := (some .boolean)) (lv0 := [some (.ref (ad 20)), some (.int (nI a)), some (.int t)]) (by decide +kernel) hl (by simp [Value.category]) (Nat.le_of_ble_eq_true rfl) rfl ?_
  intro X F Rt _
  refine G_iload_n F dX0_canJoin_0 rfl ?_
  refine G_if_le (tgt := 33) F dX0_canJoin_1 (by decide) (fun h1 => ?_) (fun h1 => ?_)
  · have q1 : ¬ 0 < t := by simp only [Int32.lt_iff_toInt_lt, Int32.le_iff_toInt_le] at h1 ⊢; omega
    refine G_iconst (v := 0) F dX0_canJoin_33 rfl ?_
    refine G_iret F Rt dX0_canJoin_34 (rfl) ⟨rfl, rfl, _, rfl, ?_⟩ (Nat.le_refl _) (Nat.le_refl _)
    clear F Rt
    refine ⟨?_, rfl⟩
    simp_all [pf_cj, -Int32.not_lt, -Int32.not_le]
  · have q1 : 0 < t := by simp only [Int32.lt_iff_toInt_lt, Int32.le_iff_toInt_le] at h1 ⊢; omega
    refine G_aload_n F dX0_canJoin_4 rfl ?_
    refine G_getr F fl_X0_31 dX0_canJoin_5 rfl rfl ?_
    refine G_iload_n F dX0_canJoin_8 rfl ?_
    refine G_vI F mv_X0_115 dX0_canJoin_9 (s_has hl ad sw tl M t) rfl rfl rfl rfl (Nat.le_of_ble_eq_true rfl) ⟨Nat.le_of_ble_eq_true rfl, Nat.le_of_ble_eq_true rfl, Nat.le_of_ble_eq_true rfl, Nat.le_of_ble_eq_true rfl⟩ (fun r9 M9 h9 => ?_)
    rw [h9.1, h9.2]
    refine G_if_eq (tgt := 33) F dX0_canJoin_12 (by decide) (fun h12 => ?_) (fun h12 => ?_)
    · have q2 : ¬ t < M 1 8 := fun q => by
        rw [if_pos ⟨by simp only [Int32.lt_iff_toInt_lt, Int32.le_iff_toInt_le] at q1 ⊢; omega, q⟩] at h12
        exact absurd h12 (by decide)
      refine G_iconst (v := 0) F dX0_canJoin_33 rfl ?_
      refine G_iret F Rt dX0_canJoin_34 (rfl) ⟨rfl, rfl, _, rfl, ?_⟩ (Nat.le_refl _) (Nat.le_refl _)
      clear F Rt
      refine ⟨?_, rfl⟩
      simp_all [pf_cj, -Int32.not_lt, -Int32.not_le]
    · have q2 : t < M 1 8 := Classical.byContradiction fun q => h12 (if_neg (fun z => q z.2))
      have hin : vp_in t 16 := by
        rw [vp_in_iff]
        have e16 : (16 : Int32).toInt = 16 := by decide
        simp only [Int32.lt_iff_toInt_lt, Int32.le_iff_toInt_le, i0, e16] at q1 q2 hn ⊢
        omega
      refine G_aload_n F dX0_canJoin_15 rfl ?_
      refine G_getr F fl_X0_9 dX0_canJoin_16 rfl rfl ?_
      refine G_iload_n F dX0_canJoin_19 rfl ?_
      refine G_zaldN F dX0_canJoin_20 rfl (by omega) (by decide) ?_
      refine G_if_eq (tgt := 33) F dX0_canJoin_21 (by decide) (fun h21 => ?_) (fun h21 => ?_)
      · refine G_iconst (v := 0) F dX0_canJoin_33 rfl ?_
        refine G_iret F Rt dX0_canJoin_34 (rfl) ⟨rfl, rfl, _, rfl, ?_⟩ (Nat.le_refl _) (Nat.le_refl _)
        clear F Rt
        refine ⟨?_, rfl⟩
        simp_all [pf_cj, -Int32.not_lt, -Int32.not_le]
      · refine G_aload_n F dX0_canJoin_24 rfl ?_
        refine G_getr F fl_X0_9 dX0_canJoin_25 rfl rfl ?_
        refine G_iload_n F dX0_canJoin_28 rfl ?_
        refine G_zald F dX0_canJoin_29 rfl (by exact hin) ?_
        refine G_if_ne (tgt := 35) F dX0_canJoin_30 (by decide) (fun h30 => ?_) (fun h30 => ?_)
        · refine G_aload_n F dX0_canJoin_35 rfl ?_
          refine G_getr F fl_X0_15 dX0_canJoin_36 rfl rfl ?_
          refine G_iload_n F dX0_canJoin_39 rfl ?_
          refine G_ialdN F dX0_canJoin_40 rfl (by omega) (by decide) ?_
          refine G_iconst (v := -1) F dX0_canJoin_41 rfl ?_
          refine G_icmp_ne (tgt := 69) F dX0_canJoin_42 (by decide) (fun h42 => ?_) (fun h42 => ?_)
          · refine G_iconst (v := 0) F dX0_canJoin_69 rfl ?_
            refine G_iret F Rt dX0_canJoin_70 (rfl) ⟨rfl, rfl, _, rfl, ?_⟩ (Nat.le_refl _) (Nat.le_refl _)
            clear F Rt
            refine ⟨?_, rfl⟩
            simp_all [pf_cj, -Int32.not_lt, -Int32.not_le]
          · refine G_aload_n F dX0_canJoin_45 rfl ?_
            refine G_getr F fl_X0_19 dX0_canJoin_46 rfl rfl ?_
            refine G_iload_n F dX0_canJoin_49 rfl ?_
            refine G_iald F dX0_canJoin_50 rfl (by exact hin) ?_
            refine G_iload_n F dX0_canJoin_51 rfl ?_
            refine G_icmp_ne (tgt := 69) F dX0_canJoin_52 (by decide) (fun h52 => ?_) (fun h52 => ?_)
            · refine G_iconst (v := 0) F dX0_canJoin_69 rfl ?_
              refine G_iret F Rt dX0_canJoin_70 (rfl) ⟨rfl, rfl, _, rfl, ?_⟩ (Nat.le_refl _) (Nat.le_refl _)
              clear F Rt
              refine ⟨?_, rfl⟩
              simp_all [pf_cj, -Int32.not_lt, -Int32.not_le]
            · refine G_aload_n F dX0_canJoin_55 rfl ?_
              refine G_getr F fl_X0_19 dX0_canJoin_56 rfl rfl ?_
              refine G_iload_n F dX0_canJoin_59 rfl ?_
              refine G_ialdN F dX0_canJoin_60 rfl (by omega) (by decide) ?_
              refine G_iload_n F dX0_canJoin_61 rfl ?_
              refine G_icmp_eq (tgt := 69) F dX0_canJoin_62 (by decide) (fun h62 => ?_) (fun h62 => ?_)
              · refine G_iconst (v := 0) F dX0_canJoin_69 rfl ?_
                refine G_iret F Rt dX0_canJoin_70 (rfl) ⟨rfl, rfl, _, rfl, ?_⟩ (Nat.le_refl _) (Nat.le_refl _)
                clear F Rt
                refine ⟨?_, rfl⟩
                simp_all [pf_cj, -Int32.not_lt, -Int32.not_le]
              · refine G_iconst (v := 1) F dX0_canJoin_65 rfl ?_
                refine G_goto (tgt := 70) F dX0_canJoin_66 (by decide) ?_
                refine G_iret F Rt dX0_canJoin_70 (rfl) ⟨rfl, rfl, _, rfl, ?_⟩ (Nat.le_refl _) (Nat.le_refl _)
                clear F Rt
                refine ⟨?_, rfl⟩
                simp_all [pf_cj, -Int32.not_lt, -Int32.not_le]
        · refine G_iconst (v := 0) F dX0_canJoin_33 rfl ?_
          refine G_iret F Rt dX0_canJoin_34 (rfl) ⟨rfl, rfl, _, rfl, ?_⟩ (Nat.le_refl _) (Nat.le_refl _)
          clear F Rt
          refine ⟨?_, rfl⟩
          simp_all [pf_cj, -Int32.not_lt, -Int32.not_le]
set_option maxRecDepth 20000 in
theorem s_append {l : Launch} {Z : fx_Z} (hl : l.stackTraces = false) (ad : Nat → Nat) (sw : Bool) (tl : List fx_Sh) (M : fx_M) {N a t : Nat} (hN : M 1 8 = nI N) (hN16 : N ≤ 16) (ha : a < N) (ht : ¬ M 23 a = nI t) : CV l Z yX0_append (.code yX0_append cX0_append 4 none) 0 [.ref (ad 20), .int (nI a), .int (nI t)] ad (c_C sw ++ tl) M (fun m => fr [22, 23] M m ∧ m 22 = upd (M 22) a (nI t) ∧ ∀ b, b < N → m 23 b = if M 23 b = nI t then M 23 a else M 23 b) := by
  refine CT_of (ret := none) (lv0 := [some (.ref (ad 20)), some (.int (nI a)), some (.int (nI t)), none]) (by decide +kernel) hl (by simp [Value.category]) (Nat.le_of_ble_eq_true rfl) rfl ?_
  intro X F Rt _
  have lp : ∀ (k : Nat) (i : Nat) (M' : fx_M), k = N - i → i ≤ N → fr [23] (fx_u M 22 a (nI t)) M' → (∀ b, M' 23 b = if b < i then (if M 23 b = nI t then M 23 a else M 23 b) else M 23 b) → GG X ad 9 [some (.ref (ad 20)), some (.int (nI a)), some (.int (nI t)), some (.int (nI i))] [] 0 0 (c_C sw ++ tl) M' := by
    intro k
    induction k using Nat.strongRecOn with
    | _ k ih =>
      intro i M' hk hi h1 h3
      have hN1 : M' 1 8 = nI N := by rw [h1 1 (by decide), fx_u_ne (by decide)]; exact hN
      refine G_iload_n F dX0_append_9 rfl ?_
      refine G_aload_n F dX0_append_10 rfl ?_
      refine G_getr F fl_X0_31 dX0_append_11 rfl rfl ?_
      refine G_geti F fl_X0_43 dX0_append_14 rfl rfl ?_
      rw [hN1]
      refine G_icmp_ge (tgt := 48) F dX0_append_17 (by decide) (fun h17 => ?_) (fun h17 => ?_)
      · rw [nI_leI (by omega) (by omega)] at h17
        have hiN : i = N := by omega
        subst hiN
        refine G_vret F Rt dX0_append_48 ⟨rfl, rfl, rfl, ?_⟩ (Nat.le_refl _) (Nat.le_refl _)
        exact ⟨fun k hk => by
        simp only [List.mem_cons, List.not_mem_nil, or_false, not_or] at hk
        rw [h1 k (by simp [hk.2]), fx_u_ne hk.1], by rw [h1 22 (by decide), fx_u_eq], fun b hb => by rw [h3 b, if_pos hb]⟩
      · rw [nI_leI (by omega) (by omega)] at h17
        refine G_aload_n F dX0_append_20 rfl ?_
        refine G_getr F fl_X0_19 dX0_append_21 rfl rfl ?_
        refine G_iload_n F dX0_append_24 rfl ?_
        refine G_ialdN F dX0_append_25 rfl (by omega) (by decide) ?_
        refine G_iload_n F dX0_append_26 rfl ?_
        refine G_icmp_ne (tgt := 42) F dX0_append_27 (by decide) (fun h27 => ?_) (fun h27 => ?_)
        · refine G_iinc F (1) dX0_append_42 rfl rfl rfl rfl ?_
          simp only [List.set_cons_zero, List.set_cons_succ, nI_1]
          refine G_goto (tgt := 9) F dX0_append_45 (by decide) ?_
          exact ih (N - (i + 1)) (by omega) (i + 1) _ rfl (by omega) h1 (fun b => by
            rw [h3 b]
            by_cases e : b = i
            · subst e
              have q := h27
              rw [h3 b, if_neg (Nat.lt_irrefl b)] at q
              simp only [if_neg (Nat.lt_irrefl b), if_pos (show b < b + 1 by omega), if_neg q]
            · by_cases e2 : b < i
              · simp only [if_pos e2, if_pos (show b < i + 1 by omega)]
              · simp only [if_neg e2, if_neg (show ¬ b < i + 1 by omega)])
        · refine G_aload_n F dX0_append_30 rfl ?_
          refine G_getr F fl_X0_19 dX0_append_31 rfl rfl ?_
          refine G_iload_n F dX0_append_34 rfl ?_
          refine G_aload_n F dX0_append_35 rfl ?_
          refine G_getr F fl_X0_19 dX0_append_36 rfl rfl ?_
          refine G_iload_n F dX0_append_39 rfl ?_
          refine G_ialdN F dX0_append_40 rfl (by omega) (by decide) ?_
          refine G_iastN F dX0_append_41 rfl (by omega) (by decide) ?_
          refine G_iinc F (1) dX0_append_42 rfl rfl rfl rfl ?_
          simp only [List.set_cons_zero, List.set_cons_succ, nI_1]
          refine G_goto (tgt := 9) F dX0_append_45 (by decide) ?_
          exact ih (N - (i + 1)) (by omega) (i + 1) _ rfl (by omega) (h1.u (by decide)) (fun b => by
            rw [fx_u_at]
            by_cases e : b = i
            · subst e
              have q := h27
              rw [h3 b, if_neg (Nat.lt_irrefl b)] at q
              have hna : ¬ M 23 a = nI t := ht
              rw [if_pos ⟨rfl, rfl⟩, h3 a]
              simp only [if_pos (show b < b + 1 by omega), if_pos q, if_neg hna, ite_self]
            · rw [if_neg (fun z => e z.2), h3 b]
              by_cases e2 : b < i
              · simp only [if_pos e2, if_pos (show b < i + 1 by omega)]
              · simp only [if_neg e2, if_neg (show ¬ b < i + 1 by omega)])
  refine G_aload_n F dX0_append_0 rfl ?_
  refine G_getr F fl_X0_15 dX0_append_1 rfl rfl ?_
  refine G_iload_n F dX0_append_4 rfl ?_
  refine G_iload_n F dX0_append_5 rfl ?_
  refine G_iastN F dX0_append_6 rfl (by omega) (by decide) ?_
  refine G_iconst (v := 0) F dX0_append_7 rfl ?_
  refine G_istore_n F 3 dX0_append_8 rfl rfl rfl (Nat.le_of_ble_eq_true rfl) ?_
  simp only [List.set_cons_zero, List.set_cons_succ]
  exact lp N 0 _ rfl (by omega) fr.rfl (fun b => by rw [if_neg (Nat.not_lt_zero b), fx_u_ne (by decide)])
/-- the best gain, last and first so far, as the class keeps them -/
def m_b3 (M : fx_M) (x : Int32 × Int32 × Int32) : fx_M := fx_u (fx_u (fx_u M 20 8 x.1) 20 9 x.2.1) 20 10 x.2.2
set_option maxRecDepth 20000 in
theorem s_weigh {l : Launch} {Z : fx_Z} (hl : l.stackTraces = false) (ad : Nat → Nat) (sw : Bool) (tl : List fx_Sh) (M : fx_M) {a : Nat} (t bw : Int32) (ha : a < 16) (hn : M 1 8 ≤ 16) : CV l Z yX0_weigh (.code yX0_weigh cX0_weigh 5 none) 2 [.ref (ad 20), .int (nI a), .int t, .int bw] ad (c_C sw ++ tl) M (fun m => m = if (pf_cj (M 1 8) (M 21) (M 22) (M 23) a t) = true ∧ M 20 8 < (if bw = 0 then pf_cc (M 3) (M 4) (M 5) (M 8) (M 9) a (-1) - pf_cc (M 3) (M 4) (M 5) (M 8) (M 9) a t else pf_wt (M 4) (M 5) (M 8) (M 9) a t) then m_b3 M ((if bw = 0 then pf_cc (M 3) (M 4) (M 5) (M 8) (M 9) a (-1) - pf_cc (M 3) (M 4) (M 5) (M 8) (M 9) a t else pf_wt (M 4) (M 5) (M 8) (M 9) a t), nI a, t) else M) := by
  refine CT_of (ret := none) (lv0 := [some (.ref (ad 20)), some (.int (nI a)), some (.int t), some (.int bw), none]) (by decide +kernel) hl (by simp [Value.category]) (Nat.le_of_ble_eq_true rfl) rfl ?_
  intro X F Rt _
  refine G_aload_n F dX0_weigh_0 rfl ?_
  refine G_iload_n F dX0_weigh_1 rfl ?_
  refine G_iload_n F dX0_weigh_2 rfl ?_
  refine G_vI F mv_X0_104 dX0_weigh_3 (s_canJoin hl ad sw tl M t ha hn) rfl rfl rfl rfl (Nat.le_of_ble_eq_true rfl) ⟨Nat.le_of_ble_eq_true rfl, Nat.le_of_ble_eq_true rfl, Nat.le_of_ble_eq_true rfl, Nat.le_of_ble_eq_true rfl⟩ (fun r3 M3 h3 => ?_)
  rw [h3.1, h3.2]
  refine G_if_ne (tgt := 10) F dX0_weigh_6 (by decide) (fun h6 => ?_) (fun h6 => ?_)
  · have hc : (pf_cj (M 1 8) (M 21) (M 22) (M 23) a t) = true := by simpa using h6
    refine G_iload_n F dX0_weigh_10 rfl ?_
    refine G_if_eq (tgt := 26) F dX0_weigh_11 (by decide) (fun h11 => ?_) (fun h11 => ?_)
    · have hb : bw = 0 := h11
      refine G_aload_n F dX0_weigh_26 rfl ?_
      refine G_getr F fl_X0_31 dX0_weigh_27 rfl rfl ?_
      refine G_iload_n F dX0_weigh_30 rfl ?_
      refine G_iconst (v := -1) F dX0_weigh_31 rfl ?_
      refine G_vI F mv_X0_112 dX0_weigh_32 (s_costOf hl ad sw tl M (b := a) (-1) ha) rfl rfl rfl rfl (Nat.le_of_ble_eq_true rfl) ⟨Nat.le_of_ble_eq_true rfl, Nat.le_of_ble_eq_true rfl, Nat.le_of_ble_eq_true rfl, Nat.le_of_ble_eq_true rfl⟩ (fun r32 M32 h32 => ?_)
      rw [h32.1, h32.2]
      refine G_aload_n F dX0_weigh_35 rfl ?_
      refine G_getr F fl_X0_31 dX0_weigh_36 rfl rfl ?_
      refine G_iload_n F dX0_weigh_39 rfl ?_
      refine G_iload_n F dX0_weigh_40 rfl ?_
      refine G_vI F mv_X0_112 dX0_weigh_41 (s_costOf hl ad sw tl M (b := a) t ha) rfl rfl rfl rfl (Nat.le_of_ble_eq_true rfl) ⟨Nat.le_of_ble_eq_true rfl, Nat.le_of_ble_eq_true rfl, Nat.le_of_ble_eq_true rfl, Nat.le_of_ble_eq_true rfl⟩ (fun r41 M41 h41 => ?_)
      rw [h41.1, h41.2]
      refine G_isub F dX0_weigh_44 ?_
      refine G_istore F dX0_weigh_45 rfl rfl (Nat.le_of_ble_eq_true rfl) ?_
      simp only [List.set_cons_zero, List.set_cons_succ]
      refine G_iload F dX0_weigh_47 rfl ?_
      refine G_aload_n F dX0_weigh_49 rfl ?_
      refine G_geti F fl_X0_81 dX0_weigh_50 rfl rfl ?_
      refine G_icmp_le (tgt := 72) F dX0_weigh_53 (by decide) (fun h53 => ?_) (fun h53 => ?_)
      · refine G_vret F Rt dX0_weigh_72 ⟨rfl, rfl, rfl, ?_⟩ (Nat.le_refl _) (Nat.le_refl _)
        clear F Rt
        have hn : ¬ M 20 8 < (if bw = 0 then pf_cc (M 3) (M 4) (M 5) (M 8) (M 9) a (-1) - pf_cc (M 3) (M 4) (M 5) (M 8) (M 9) a t else pf_wt (M 4) (M 5) (M 8) (M 9) a t) := by
          simp only [hb, ↓reduceIte]
          simp only [Int32.lt_iff_toInt_lt, Int32.le_iff_toInt_le] at h53 ⊢; omega
        rw [if_neg (fun q => hn q.2)]
      · refine G_aload_n F dX0_weigh_56 rfl ?_
        refine G_iload F dX0_weigh_57 rfl ?_
        refine G_puti F fl_X0_81 dX0_weigh_59 rfl rfl rfl rfl ?_
        refine G_aload_n F dX0_weigh_62 rfl ?_
        refine G_iload_n F dX0_weigh_63 rfl ?_
        refine G_puti F fl_X0_94 dX0_weigh_64 rfl rfl rfl rfl ?_
        refine G_aload_n F dX0_weigh_67 rfl ?_
        refine G_iload_n F dX0_weigh_68 rfl ?_
        refine G_puti F fl_X0_97 dX0_weigh_69 rfl rfl rfl rfl ?_
        refine G_vret F Rt dX0_weigh_72 ⟨rfl, rfl, rfl, ?_⟩ (Nat.le_refl _) (Nat.le_refl _)
        clear F Rt
        have hn : M 20 8 < (if bw = 0 then pf_cc (M 3) (M 4) (M 5) (M 8) (M 9) a (-1) - pf_cc (M 3) (M 4) (M 5) (M 8) (M 9) a t else pf_wt (M 4) (M 5) (M 8) (M 9) a t) := by
          simp only [hb, ↓reduceIte]
          simp only [Int32.lt_iff_toInt_lt, Int32.le_iff_toInt_le] at h53 ⊢; omega
        rw [if_pos ⟨hc, hn⟩]
        simp only [hb, ↓reduceIte]
        rfl
    · have hb : ¬ bw = 0 := h11
      refine G_aload_n F dX0_weigh_14 rfl ?_
      refine G_getr F fl_X0_31 dX0_weigh_15 rfl rfl ?_
      refine G_iload_n F dX0_weigh_18 rfl ?_
      refine G_iload_n F dX0_weigh_19 rfl ?_
      refine G_vI F mv_X0_108 dX0_weigh_20 (s_weightTo hl ad sw tl M (b := a) t ha) rfl rfl rfl rfl (Nat.le_of_ble_eq_true rfl) ⟨Nat.le_of_ble_eq_true rfl, Nat.le_of_ble_eq_true rfl, Nat.le_of_ble_eq_true rfl, Nat.le_of_ble_eq_true rfl⟩ (fun r20 M20 h20 => ?_)
      rw [h20.1, h20.2]
      refine G_goto (tgt := 45) F dX0_weigh_23 (by decide) ?_
      refine G_istore F dX0_weigh_45 rfl rfl (Nat.le_of_ble_eq_true rfl) ?_
      simp only [List.set_cons_zero, List.set_cons_succ]
      refine G_iload F dX0_weigh_47 rfl ?_
      refine G_aload_n F dX0_weigh_49 rfl ?_
      refine G_geti F fl_X0_81 dX0_weigh_50 rfl rfl ?_
      refine G_icmp_le (tgt := 72) F dX0_weigh_53 (by decide) (fun h53 => ?_) (fun h53 => ?_)
      · refine G_vret F Rt dX0_weigh_72 ⟨rfl, rfl, rfl, ?_⟩ (Nat.le_refl _) (Nat.le_refl _)
        clear F Rt
        have hn : ¬ M 20 8 < (if bw = 0 then pf_cc (M 3) (M 4) (M 5) (M 8) (M 9) a (-1) - pf_cc (M 3) (M 4) (M 5) (M 8) (M 9) a t else pf_wt (M 4) (M 5) (M 8) (M 9) a t) := by
          simp only [hb, ↓reduceIte]
          simp only [Int32.lt_iff_toInt_lt, Int32.le_iff_toInt_le] at h53 ⊢; omega
        rw [if_neg (fun q => hn q.2)]
      · refine G_aload_n F dX0_weigh_56 rfl ?_
        refine G_iload F dX0_weigh_57 rfl ?_
        refine G_puti F fl_X0_81 dX0_weigh_59 rfl rfl rfl rfl ?_
        refine G_aload_n F dX0_weigh_62 rfl ?_
        refine G_iload_n F dX0_weigh_63 rfl ?_
        refine G_puti F fl_X0_94 dX0_weigh_64 rfl rfl rfl rfl ?_
        refine G_aload_n F dX0_weigh_67 rfl ?_
        refine G_iload_n F dX0_weigh_68 rfl ?_
        refine G_puti F fl_X0_97 dX0_weigh_69 rfl rfl rfl rfl ?_
        refine G_vret F Rt dX0_weigh_72 ⟨rfl, rfl, rfl, ?_⟩ (Nat.le_refl _) (Nat.le_refl _)
        clear F Rt
        have hn : M 20 8 < (if bw = 0 then pf_cc (M 3) (M 4) (M 5) (M 8) (M 9) a (-1) - pf_cc (M 3) (M 4) (M 5) (M 8) (M 9) a t else pf_wt (M 4) (M 5) (M 8) (M 9) a t) := by
          simp only [hb, ↓reduceIte]
          simp only [Int32.lt_iff_toInt_lt, Int32.le_iff_toInt_le] at h53 ⊢; omega
        rw [if_pos ⟨hc, hn⟩]
        simp only [hb, ↓reduceIte]
        rfl
  · have hc : ¬ (pf_cj (M 1 8) (M 21) (M 22) (M 23) a t) = true := by simpa using h6
    refine G_vret F Rt dX0_weigh_9 ⟨rfl, rfl, rfl, ?_⟩ (Nat.le_refl _) (Nat.le_refl _)
    rw [if_neg (fun q => hc q.1)]
