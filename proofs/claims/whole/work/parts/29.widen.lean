/-! PLACEMENT: short ones become long -/
/-- bytes of a branch, of a jump, behind a round -/
def l_wb (A sz tb bb : Nat → Nat) (b : Nat) : Nat := if bb b = 2 ∧ far (A (tb b)) (A b + sz b + bb b) = true then 6 else bb b
def l_wj (A sz tj bb jb : Nat → Nat) (b : Nat) : Nat := if jb b = 2 ∧ far (A (tj b)) (A b + sz b + bb b + jb b) = true then 5 else jb b
/-- whether one of the blocks ahead of n has changed -/
def l_wa (A sz tb tj bb jb : Nat → Nat) : Nat → Bool
  | 0 => false
  | n + 1 => l_wa A sz tb tj bb jb n || decide (l_wb A sz tb bb n ≠ bb n) || decide (l_wj A sz tj bb jb n ≠ jb n)
set_option maxRecDepth 20000 in
theorem s_widen {l : Launch} {Z : fx_Z} (hl : l.stackTraces = false) (ad : Nat → Nat) (sw : Bool) (tl : List fx_Sh) (M : fx_M) {N : Nat} {A sz tb tj bb jb : Nat → Nat} (hN : M 1 8 = nI N) (hN16 : N ≤ 16) (hA : ∀ b, b < N → M 18 b = nI (A b) ∧ A b < 8192) (hsz : ∀ b, b < N → M 2 b = nI (sz b) ∧ sz b ≤ 60) (hbb : ∀ b, b < N → M 16 b = nI (bb b) ∧ M 17 b = nI (jb b) ∧ bb b ≤ 6 ∧ jb b ≤ 5) (htb : ∀ b, b < N → bb b ≠ 0 → tb b < N ∧ (if M 15 b = 3 then M 5 b else M 4 b) = nI (tb b)) (htj : ∀ b, b < N → jb b ≠ 0 → tj b < N ∧ (if M 15 b = 1 then M 4 b else M 5 b) = nI (tj b)) : CI l Z yX4_widen (.code yX4_widen cX4_widen 5 (some .boolean)) 2 [.ref (ad 12)] ad (c_C sw ++ tl) M (fun r m => r = (if (l_wa A sz tb tj bb jb N) then 1 else 0) ∧ fr [16, 17] M m ∧ ∀ b, b < N → m 16 b = nI (l_wb A sz tb bb b) ∧ m 17 b = nI (l_wj A sz tj bb jb b)) := by
  refine CT_of (ret := (some .boolean)) (lv0 := [some (.ref (ad 12)), none, none, none, none]) (by decide +kernel) hl (by simp [Value.category]) (Nat.le_of_ble_eq_true rfl) rfl ?_
  intro X F Rt _
  have lp : ∀ (k : Nat) (i : Nat) (M' : fx_M), k = N - i → i ≤ N → fr [16, 17] M M' → (∀ b, b < N → M' 16 b = nI (if b < i then (l_wb A sz tb bb b) else bb b) ∧ M' 17 b = nI (if b < i then (l_wj A sz tj bb jb b) else jb b)) → GG X ad 4 [some (.ref (ad 12)), some (.int (if (l_wa A sz tb tj bb jb i) then 1 else 0)), some (.int (nI i)), none, none] [] 0 0 (c_C sw ++ tl) M' := by
    intro k
    induction k using Nat.strongRecOn with
    | _ k ih =>
      intro i M' hk hi h1 h2
      have hN1 : M' 1 8 = nI N := by rw [h1 1 (by decide)]; exact hN
      refine G_iload_n F dX4_widen_4 rfl ?_
      refine G_aload_n F dX4_widen_5 rfl ?_
      refine G_getr F fl_X4_33 dX4_widen_6 rfl rfl ?_
      refine G_geti F fl_X4_52 dX4_widen_9 rfl rfl ?_
      rw [hN1]
      refine G_icmp_ge (tgt := 121) F dX4_widen_12 (by decide) (fun h12 => ?_) (fun h12 => ?_)
      · rw [nI_leI (by omega) (by omega)] at h12
        have hiN : i = N := by omega
        subst hiN
        refine G_iload_n F dX4_widen_121 rfl ?_
        refine G_iret F Rt dX4_widen_122 (by split <;> rfl) ⟨rfl, rfl, _, rfl, ?_⟩ (Nat.le_refl _) (Nat.le_refl _)
        exact ⟨rfl, h1, fun b hb => by have q := h2 b hb; simp only [if_pos hb] at q; exact q⟩
      · rw [nI_leI (by omega) (by omega)] at h12
        have hAi := hA i (by omega)
        have hszi := hsz i (by omega)
        have hbi := hbb i (by omega)
        have hq16 : M' 16 i = nI (bb i) := by
          have q := (h2 i (by omega)).1
          rw [if_neg (Nat.lt_irrefl i)] at q; exact q
        have hq17 : M' 17 i = nI (jb i) := by
          have q := (h2 i (by omega)).2
          rw [if_neg (Nat.lt_irrefl i)] at q; exact q
        have t115 : ∀ (m : fx_M) (z : Int32), fr [16, 17] M m → (∀ b, b < N → m 16 b = nI (if b < (i + 1) then (l_wb A sz tb bb b) else bb b) ∧ m 17 b = nI (if b < (i + 1) then (l_wj A sz tj bb jb b) else jb b)) → z = (if (l_wa A sz tb tj bb jb (i + 1)) then 1 else 0) → GG X ad 115 [some (.ref (ad 12)), some (.int z), some (.int (nI i)), some (.int (nI (A i + sz i + bb i))), some (.int (nI (A i + sz i + bb i + jb i)))] [] 0 0 (c_C sw ++ tl) m := by
          intro m z g1 g2 g3
          refine G_iinc F (1) dX4_widen_115 rfl rfl rfl rfl ?_
          simp only [List.set_cons_zero, List.set_cons_succ, nI_1]
          refine G_goto (tgt := 4) F dX4_widen_118 (by decide) ?_
          refine G_drop F 3 ?_
          refine G_drop F 4 ?_
          simp only [List.set_cons_zero, List.set_cons_succ]
          rw [g3]
          exact ih (N - (i + 1)) (by omega) (i + 1) _ rfl (by omega) g1 g2
        have t82 : ∀ (m : fx_M) (z : Int32), fr [16, 17] M m → (∀ b, b < N → m 16 b = nI (if b < (i + 1) then (l_wb A sz tb bb b) else bb b) ∧ m 17 b = nI (if b < i then (l_wj A sz tj bb jb b) else jb b)) → z = (if (l_wa A sz tb tj bb jb i) || decide ((l_wb A sz tb bb i) ≠ bb i) then 1 else 0) → GG X ad 82 [some (.ref (ad 12)), some (.int z), some (.int (nI i)), some (.int (nI (A i + sz i + bb i))), some (.int (nI (A i + sz i + bb i + jb i)))] [] 0 0 (c_C sw ++ tl) m := by
          intro m z g1 g2 g3
          have gq17 : m 17 i = nI (jb i) := by
            have q := (g2 i (by omega)).2
            rw [if_neg (Nat.lt_irrefl i)] at q; exact q
          refine G_aload_n F dX4_widen_82 rfl ?_
          refine G_getr F fl_X4_24 dX4_widen_83 rfl rfl ?_
          refine G_iload_n F dX4_widen_86 rfl ?_
          refine G_ialdN F dX4_widen_87 rfl (by omega) (by decide) ?_
          rw [gq17]
          refine G_iconst (v := nI 2) F dX4_widen_88 (by decide) ?_
          refine G_icmp_ne (tgt := 115) F dX4_widen_89 (by decide) (fun h89 => ?_) (fun h89 => ?_)
          · rw [nI_eq (by omega) (by omega)] at h89
            have hwj : (l_wj A sz tj bb jb i) = jb i := by unfold l_wj; rw [if_neg (fun q => h89 q.1)]
            exact t115 m z g1 (fun b hb => by
              have q := g2 b hb
              by_cases e : b = i
              · subst e
                simp only [if_pos (show b < b + 1 by omega), if_neg (Nat.lt_irrefl b)] at q ⊢
                rw [hwj]; exact q
              · by_cases e2 : b < i
                · simp only [if_pos e2, if_pos (show b < i + 1 by omega)] at q ⊢; exact q
                · simp only [if_neg e2, if_neg (show ¬ b < i + 1 by omega)] at q ⊢; exact q) (by rw [g3]; simp [l_wa, hwj])
          · rw [nI_eq (by omega) (by omega)] at h89
            refine G_aload_n F dX4_widen_92 rfl ?_
            refine G_aload_n F dX4_widen_93 rfl ?_
            refine G_iload_n F dX4_widen_94 rfl ?_
            refine G_vI F mv_X4_115 dX4_widen_95 (s_jumpTarget hl ad sw tl m (b := i) (by omega)) rfl rfl rfl rfl (Nat.le_of_ble_eq_true rfl) ⟨Nat.le_of_ble_eq_true rfl, Nat.le_of_ble_eq_true rfl, Nat.le_of_ble_eq_true rfl, Nat.le_of_ble_eq_true rfl⟩ (fun r95 M95 h95 => ?_)
            rw [h95.1, h95.2, g1 15 (by decide), g1 4 (by decide), g1 5 (by decide), (htj i (by omega) (by omega)).2]
            refine G_iload F dX4_widen_98 rfl ?_
            refine G_vI F mv_X4_111 dX4_widen_100 (s_isFar hl ad sw tl m (N := N) (t := tj i) (a := A (tj i)) (e := (A i + sz i + bb i + jb i)) (by rw [g1 1 (by decide)]; exact hN) hN16 (htj i (by omega) (by omega)).1 (by rw [g1 18 (by decide)]; exact (hA _ (htj i (by omega) (by omega)).1).1) (by have := hA _ (htj i (by omega) (by omega)).1; omega) (by omega)) rfl rfl rfl rfl (Nat.le_of_ble_eq_true rfl) ⟨Nat.le_of_ble_eq_true rfl, Nat.le_of_ble_eq_true rfl, Nat.le_of_ble_eq_true rfl, Nat.le_of_ble_eq_true rfl⟩ (fun r100 M100 h100 => ?_)
            rw [h100.1, h100.2]
            refine G_if_eq (tgt := 115) F dX4_widen_103 (by decide) (fun h103 => ?_) (fun h103 => ?_)
            · have hwj : (l_wj A sz tj bb jb i) = jb i := by
                have hf : far (A (tj i)) (A i + sz i + bb i + jb i) = false := by simpa using h103
                unfold l_wj; rw [if_neg (fun q => by rw [hf] at q; exact absurd q.2 (by decide))]
              exact t115 m z g1 (fun b hb => by
                have q := g2 b hb
                by_cases e : b = i
                · subst e
                  simp only [if_pos (show b < b + 1 by omega), if_neg (Nat.lt_irrefl b)] at q ⊢
                  rw [hwj]; exact q
                · by_cases e2 : b < i
                  · simp only [if_pos e2, if_pos (show b < i + 1 by omega)] at q ⊢; exact q
                  · simp only [if_neg e2, if_neg (show ¬ b < i + 1 by omega)] at q ⊢; exact q) (by rw [g3]; simp [l_wa, hwj])
            · have hwj : (l_wj A sz tj bb jb i) = 5 := by
                have hf : far (A (tj i)) (A i + sz i + bb i + jb i) = true := by simpa using h103
                unfold l_wj; rw [if_pos ⟨h89, hf⟩]
              refine G_aload_n F dX4_widen_106 rfl ?_
              refine G_getr F fl_X4_24 dX4_widen_107 rfl rfl ?_
              refine G_iload_n F dX4_widen_110 rfl ?_
              refine G_iconst (v := nI 5) F dX4_widen_111 (by decide) ?_
              refine G_iastN F dX4_widen_112 rfl (by omega) (by decide) ?_
              refine G_iconst (v := 1) F dX4_widen_113 rfl ?_
              refine G_istore_n F 1 dX4_widen_114 rfl rfl rfl (Nat.le_of_ble_eq_true rfl) ?_
              simp only [List.set_cons_zero, List.set_cons_succ]
              exact t115 _ 1 (g1.u (by decide)) (fun b hb => by
                have q := g2 b hb
                rw [fx_u_ne (by decide : 16 ≠ 17)]
                by_cases e : b = i
                · subst e
                  rw [show fx_u m 17 b (nI 5) 17 b = nI 5 from by simp [fx_u_at]]
                  simp only [if_pos (show b < b + 1 by omega), if_neg (Nat.lt_irrefl b)] at q ⊢
                  rw [hwj]; exact ⟨q.1, rfl⟩
                · rw [show fx_u m 17 i (nI 5) 17 b = m 17 b from by simp [fx_u_at, e]]
                  by_cases e2 : b < i
                  · simp only [if_pos e2, if_pos (show b < i + 1 by omega)] at q ⊢; exact q
                  · simp only [if_neg e2, if_neg (show ¬ b < i + 1 by omega)] at q ⊢; exact q) (by
                have : (l_wj A sz tj bb jb i) ≠ jb i := by rw [hwj]; omega
                simp [l_wa, this])
        refine G_aload_n F dX4_widen_15 rfl ?_
        refine G_getr F fl_X4_27 dX4_widen_16 rfl rfl ?_
        refine G_iload_n F dX4_widen_19 rfl ?_
        refine G_ialdN F dX4_widen_20 rfl (by omega) (by decide) ?_
        rw [h1 18 (by decide), (hA i (by omega)).1]
        refine G_aload_n F dX4_widen_21 rfl ?_
        refine G_getr F fl_X4_33 dX4_widen_22 rfl rfl ?_
        refine G_getr F fl_X4_95 dX4_widen_25 rfl rfl ?_
        refine G_iload_n F dX4_widen_28 rfl ?_
        refine G_ialdN F dX4_widen_29 rfl (by omega) (by decide) ?_
        rw [h1 2 (by decide), (hsz i (by omega)).1]
        refine G_iadd F dX4_widen_30 ?_
        rw [nI_add]
        refine G_aload_n F dX4_widen_31 rfl ?_
        refine G_getr F fl_X4_21 dX4_widen_32 rfl rfl ?_
        refine G_iload_n F dX4_widen_35 rfl ?_
        refine G_ialdN F dX4_widen_36 rfl (by omega) (by decide) ?_
        rw [hq16]
        refine G_iadd F dX4_widen_37 ?_
        rw [nI_add]
        refine G_istore_n F 3 dX4_widen_38 rfl rfl rfl (Nat.le_of_ble_eq_true rfl) ?_
        simp only [List.set_cons_zero, List.set_cons_succ]
        refine G_iload_n F dX4_widen_39 rfl ?_
        refine G_aload_n F dX4_widen_40 rfl ?_
        refine G_getr F fl_X4_24 dX4_widen_41 rfl rfl ?_
        refine G_iload_n F dX4_widen_44 rfl ?_
        refine G_ialdN F dX4_widen_45 rfl (by omega) (by decide) ?_
        rw [hq17]
        refine G_iadd F dX4_widen_46 ?_
        rw [nI_add]
        refine G_istore F dX4_widen_47 rfl rfl (Nat.le_of_ble_eq_true rfl) ?_
        simp only [List.set_cons_zero, List.set_cons_succ]
        refine G_aload_n F dX4_widen_49 rfl ?_
        refine G_getr F fl_X4_21 dX4_widen_50 rfl rfl ?_
        refine G_iload_n F dX4_widen_53 rfl ?_
        refine G_ialdN F dX4_widen_54 rfl (by omega) (by decide) ?_
        rw [hq16]
        refine G_iconst (v := nI 2) F dX4_widen_55 (by decide) ?_
        refine G_icmp_ne (tgt := 82) F dX4_widen_56 (by decide) (fun h56 => ?_) (fun h56 => ?_)
        · rw [nI_eq (by omega) (by omega)] at h56
          have hwb : (l_wb A sz tb bb i) = bb i := by unfold l_wb; rw [if_neg (fun q => h56 q.1)]
          exact t82 M' _ h1 (fun b hb => by
            have q := h2 b hb
            by_cases e : b = i
            · subst e
              simp only [if_pos (show b < b + 1 by omega), if_neg (Nat.lt_irrefl b)] at q ⊢
              rw [hwb]; exact q
            · by_cases e2 : b < i
              · simp only [if_pos e2, if_pos (show b < i + 1 by omega)] at q ⊢; exact q
              · simp only [if_neg e2, if_neg (show ¬ b < i + 1 by omega)] at q ⊢; exact q) (by simp [hwb])
        · rw [nI_eq (by omega) (by omega)] at h56
          refine G_aload_n F dX4_widen_59 rfl ?_
          refine G_aload_n F dX4_widen_60 rfl ?_
          refine G_iload_n F dX4_widen_61 rfl ?_
          refine G_vI F mv_X4_108 dX4_widen_62 (s_branchTarget hl ad sw tl M' (b := i) (by omega)) rfl rfl rfl rfl (Nat.le_of_ble_eq_true rfl) ⟨Nat.le_of_ble_eq_true rfl, Nat.le_of_ble_eq_true rfl, Nat.le_of_ble_eq_true rfl, Nat.le_of_ble_eq_true rfl⟩ (fun r62 M62 h62 => ?_)
          rw [h62.1, h62.2, h1 15 (by decide), h1 4 (by decide), h1 5 (by decide), (htb i (by omega) (by omega)).2]
          refine G_iload_n F dX4_widen_65 rfl ?_
          refine G_vI F mv_X4_111 dX4_widen_66 (s_isFar hl ad sw tl M' (N := N) (t := tb i) (a := A (tb i)) (e := (A i + sz i + bb i)) hN1 hN16 (htb i (by omega) (by omega)).1 (by rw [h1 18 (by decide)]; exact (hA _ (htb i (by omega) (by omega)).1).1) (by have := hA _ (htb i (by omega) (by omega)).1; omega) (by omega)) rfl rfl rfl rfl (Nat.le_of_ble_eq_true rfl) ⟨Nat.le_of_ble_eq_true rfl, Nat.le_of_ble_eq_true rfl, Nat.le_of_ble_eq_true rfl, Nat.le_of_ble_eq_true rfl⟩ (fun r66 M66 h66 => ?_)
          rw [h66.1, h66.2]
          refine G_if_eq (tgt := 82) F dX4_widen_69 (by decide) (fun h69 => ?_) (fun h69 => ?_)
          · have hwb : (l_wb A sz tb bb i) = bb i := by
              have hf : far (A (tb i)) (A i + sz i + bb i) = false := by simpa using h69
              unfold l_wb; rw [if_neg (fun q => by rw [hf] at q; exact absurd q.2 (by decide))]
            exact t82 M' _ h1 (fun b hb => by
              have q := h2 b hb
              by_cases e : b = i
              · subst e
                simp only [if_pos (show b < b + 1 by omega), if_neg (Nat.lt_irrefl b)] at q ⊢
                rw [hwb]; exact q
              · by_cases e2 : b < i
                · simp only [if_pos e2, if_pos (show b < i + 1 by omega)] at q ⊢; exact q
                · simp only [if_neg e2, if_neg (show ¬ b < i + 1 by omega)] at q ⊢; exact q) (by simp [hwb])
          · have hwb : (l_wb A sz tb bb i) = 6 := by
              have hf : far (A (tb i)) (A i + sz i + bb i) = true := by simpa using h69
              unfold l_wb; rw [if_pos ⟨h56, hf⟩]
            refine G_aload_n F dX4_widen_72 rfl ?_
            refine G_getr F fl_X4_21 dX4_widen_73 rfl rfl ?_
            refine G_iload_n F dX4_widen_76 rfl ?_
            refine G_bipush (v := nI 6) F dX4_widen_77 (by decide) ?_
            refine G_iastN F dX4_widen_79 rfl (by omega) (by decide) ?_
            refine G_iconst (v := 1) F dX4_widen_80 rfl ?_
            refine G_istore_n F 1 dX4_widen_81 rfl rfl rfl (Nat.le_of_ble_eq_true rfl) ?_
            simp only [List.set_cons_zero, List.set_cons_succ]
            exact t82 _ 1 (h1.u (by decide)) (fun b hb => by
              have q := h2 b hb
              rw [fx_u_ne (by decide : 17 ≠ 16)]
              by_cases e : b = i
              · subst e
                rw [show fx_u M' 16 b (nI 6) 16 b = nI 6 from by simp [fx_u_at]]
                simp only [if_pos (show b < b + 1 by omega), if_neg (Nat.lt_irrefl b)] at q ⊢
                rw [hwb]; exact ⟨rfl, q.2⟩
              · rw [show fx_u M' 16 i (nI 6) 16 b = M' 16 b from by simp [fx_u_at, e]]
                by_cases e2 : b < i
                · simp only [if_pos e2, if_pos (show b < i + 1 by omega)] at q ⊢; exact q
                · simp only [if_neg e2, if_neg (show ¬ b < i + 1 by omega)] at q ⊢; exact q) (by
              have : (l_wb A sz tb bb i) ≠ bb i := by rw [hwb]; omega
              simp [this])
  refine G_iconst (v := 0) F dX4_widen_0 rfl ?_
  refine G_istore_n F 1 dX4_widen_1 rfl rfl rfl (Nat.le_of_ble_eq_true rfl) ?_
  simp only [List.set_cons_zero, List.set_cons_succ]
  refine G_iconst (v := 0) F dX4_widen_2 rfl ?_
  refine G_istore_n F 2 dX4_widen_3 rfl rfl rfl (Nat.le_of_ble_eq_true rfl) ?_
  simp only [List.set_cons_zero, List.set_cons_succ]
  exact lp N 0 M rfl (by omega) fr.rfl (fun b hb => by simp only [if_neg (Nat.not_lt_zero b)]; exact ⟨(hbb b hb).1, (hbb b hb).2.1⟩)
