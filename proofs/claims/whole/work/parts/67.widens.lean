/-! THE REFERENCE: short ones become long -/
theorem or01 {p q : Prop} {dp : Decidable p} {dq : Decidable q} : ((if p then (1 : Int32) else 0) ||| (if q then 1 else 0)) = if p ∨ q then 1 else 0 := by
  by_cases h1 : p <;> by_cases h2 : q <;> simp [h1, h2]
theorem is01 {p : Prop} {dp : Decidable p} : (if p then (1 : Int32) else 0) = 0 ∨ (if p then (1 : Int32) else 0) = 1 := by
  by_cases h : p
  · exact Or.inr (if_pos h)
  · exact Or.inl (if_neg h)
set_option maxRecDepth 20000 in
theorem t_widens {l : Launch} {Z : fx_Z} (hl : l.stackTraces = false) (ad : Nat → Nat) (sw : Bool) (tl : List fx_Sh) (M : fx_M) {N : Nat} {A sz tb tj bb jb : Nat → Nat} (hN : M 37 0 = nI N) (hN16 : N ≤ 16) (hN1 : 1 ≤ N) (hA : ∀ b, b < N → M 51 b = nI (A b) ∧ A b < 8192) (hsz : ∀ b, b < N → M 38 b = nI (sz b) ∧ sz b ≤ 60) (hbj : ∀ b, b < N → bjv (M 53 b) (bb b) (jb b) ∧ M 54 b = (if bb b = 6 then 1 else 0) ∧ M 55 b = (if jb b = 5 then 1 else 0)) (htb : ∀ b, b < N → bb b ≠ 0 → tb b < N ∧ (if M 53 b = 3 then M 41 b else M 40 b) = nI (tb b)) (htj : ∀ b, b < N → jb b ≠ 0 → tj b < N ∧ (if M 53 b = 1 then M 40 b else M 41 b) = nI (tj b)) : CI l Z yX8_widens (.code yX8_widens cX8_widens 9 (some .boolean)) 2 [.ref (ad 37)] ad (c_C sw ++ (m_C ++ tl)) M (fun r m => r = (if (l_wa A sz tb tj bb jb N) then 1 else 0) ∧ fr [54, 55] M m ∧ ∀ b, b < N → m 54 b = (if (l_wb A sz tb bb b) = 6 then 1 else 0) ∧ m 55 b = (if (l_wj A sz tj bb jb b) = 5 then 1 else 0)) := by
  refine CT_of (ret := (some .boolean)) (lv0 := [some (.ref (ad 37)), none, none, none, none, none, none, none, none]) (by decide +kernel) hl (by simp [Value.category]) (Nat.le_of_ble_eq_true rfl) rfl ?_
  intro X F Rt _
  have lp : ∀ (k : Nat) (i : Nat) (M' : fx_M), k = N - i → i ≤ N → fr [54, 55] M M' → (∀ b, b < N → M' 54 b = (if (if b < i then (l_wb A sz tb bb b) else bb b) = 6 then 1 else 0) ∧ M' 55 b = (if (if b < i then (l_wj A sz tj bb jb b) else jb b) = 5 then 1 else 0)) → GG X ad 4 [some (.ref (ad 37)), some (.int (if (l_wa A sz tb tj bb jb i) then 1 else 0)), some (.int (nI i)), none, none, none, none, none, none] [] 0 0 (c_C sw ++ (m_C ++ tl)) M' := by
    intro k
    induction k using Nat.strongRecOn with
    | _ k ih =>
      intro i M' hk hi h1 h2
      have hN9 : M' 37 0 = nI N := by rw [h1 37 (by decide)]; exact hN
      refine G_iload_n F dX8_widens_4 rfl ?_
      refine G_aload_n F dX8_widens_5 rfl ?_
      refine G_geti F fl_X8_106 dX8_widens_6 rfl rfl ?_
      rw [hN9]
      refine G_icmp_ge (tgt := 202) F dX8_widens_9 (by decide) (fun h9 => ?_) (fun h9 => ?_)
      · rw [nI_leI (by omega) (by omega)] at h9
        have hiN : i = N := by omega
        subst hiN
        refine G_iload_n F dX8_widens_202 rfl ?_
        refine G_iret F Rt dX8_widens_203 (by split <;> rfl) ⟨rfl, rfl, _, rfl, ?_⟩ (Nat.le_refl _) (Nat.le_refl _)
        exact ⟨rfl, h1, fun b hb => by have q := h2 b hb; simp only [if_pos hb] at q; exact q⟩
      · rw [nI_leI (by omega) (by omega)] at h9
        have hAi := hA i (by omega)
        have hszi := hsz i (by omega)
        have hbi : bjv (M' 53 i) (bb i) (jb i) := by rw [h1 53 (by decide)]; exact (hbj i (by omega)).1
        have hble := bjv_le hbi
        have hq54 : M' 54 i = (if bb i = 6 then 1 else 0) := by
          have q := (h2 i (by omega)).1
          simp only [if_neg (Nat.lt_irrefl i)] at q; exact q
        have hq55 : M' 55 i = (if jb i = 5 then 1 else 0) := by
          have q := (h2 i (by omega)).2
          simp only [if_neg (Nat.lt_irrefl i)] at q; exact q
        have t194 : ∀ (m : fx_M) (v5 v6 zb zj x : Int32), fr [54, 55] M m → (∀ b, b < N → m 54 b = (if (if b < (i + 1) then (l_wb A sz tb bb b) else bb b) = 6 then 1 else 0) ∧ m 55 b = (if (if b < (i + 1) then (l_wj A sz tj bb jb b) else jb b) = 5 then 1 else 0)) → x = (if (l_wb A sz tb bb i) ≠ bb i ∨ (l_wj A sz tj bb jb i) ≠ jb i then 1 else 0) → GG X ad 194 [some (.ref (ad 37)), some (.int (if (l_wa A sz tb tj bb jb i) then 1 else 0)), some (.int (nI i)), some (.int (nI (A i + sz i + bb i))), some (.int (nI (A i + sz i + bb i + jb i))), some (.int v5), some (.int v6), some (.int zb), some (.int zj)] [.int x, .int (if (l_wa A sz tb tj bb jb i) then 1 else 0)] 0 0 (c_C sw ++ (m_C ++ tl)) m := by
          intro m v5 v6 zb zj x g1 g2 g3
          refine G_ior F dX8_widens_194 ?_
          rw [g3, or01]
          have ez : (if (l_wa A sz tb tj bb jb i) = true ∨ ((l_wb A sz tb bb i) ≠ bb i ∨ (l_wj A sz tj bb jb i) ≠ jb i) then (1 : Int32) else 0) = (if (l_wa A sz tb tj bb jb (i + 1)) then 1 else 0) := by simp [l_wa, or_assoc]
          rw [ez]
          refine G_istore_n F 1 dX8_widens_195 rfl rfl rfl (Nat.le_of_ble_eq_true rfl) ?_
          simp only [List.set_cons_zero, List.set_cons_succ]
          refine G_iinc F (1) dX8_widens_196 rfl rfl rfl rfl ?_
          simp only [List.set_cons_zero, List.set_cons_succ, nI_1]
          refine G_goto (tgt := 4) F dX8_widens_199 (by decide) ?_
          refine G_drop F 3 ?_
          refine G_drop F 4 ?_
          refine G_drop F 5 ?_
          refine G_drop F 6 ?_
          refine G_drop F 7 ?_
          refine G_drop F 8 ?_
          simp only [List.set_cons_zero, List.set_cons_succ]
          exact ih (N - (i + 1)) (by omega) (i + 1) _ rfl (by omega) g1 g2
        have t156 : ∀ (v5 v6 zb zj : Int32), zb = (if (l_wb A sz tb bb i) ≠ bb i then 1 else 0) → zj = (if (l_wj A sz tj bb jb i) ≠ jb i then 1 else 0) → GG X ad 156 [some (.ref (ad 37)), some (.int (if (l_wa A sz tb tj bb jb i) then 1 else 0)), some (.int (nI i)), some (.int (nI (A i + sz i + bb i))), some (.int (nI (A i + sz i + bb i + jb i))), some (.int v5), some (.int v6), some (.int zb), some (.int zj)] [] 0 0 (c_C sw ++ (m_C ++ tl)) M' := by
          intro v5 v6 zb zj g1 g2
          refine G_aload_n F dX8_widens_156 rfl ?_
          refine G_getr F fl_X8_66 dX8_widens_157 rfl rfl ?_
          refine G_iload_n F dX8_widens_160 rfl ?_
          refine G_dup2 F dX8_widens_161 rfl rfl ?_
          refine G_zaldN F dX8_widens_162 rfl (by omega) (by decide) ?_
          refine G_iload F dX8_widens_163 rfl ?_
          refine G_ior F dX8_widens_165 ?_
          rw [hq54, g1, or01]
          have ez : (if bb i = 6 ∨ (l_wb A sz tb bb i) ≠ bb i then (1 : Int32) else 0) = (if (l_wb A sz tb bb i) = 6 then 1 else 0) := by
            rcases l_wb_lt (A := A) (sz := sz) (tb := tb) (bb := bb) (b := i) with e | ⟨e1, e2⟩
            · simp [e]
            · simp [e1, e2]
          rw [ez, ← g1]
          refine G_zastN F dX8_widens_166 rfl (by omega) (by decide) (is01) ?_
          refine G_aload_n F dX8_widens_167 rfl ?_
          refine G_getr F fl_X8_69 dX8_widens_168 rfl rfl ?_
          refine G_iload_n F dX8_widens_171 rfl ?_
          refine G_dup2 F dX8_widens_172 rfl rfl ?_
          refine G_zaldN F dX8_widens_173 rfl (by omega) (by decide) ?_
          refine G_iload F dX8_widens_174 rfl ?_
          refine G_ior F dX8_widens_176 ?_
          rw [fx_u_ne (by decide), hq55, g2, or01]
          have ez : (if jb i = 5 ∨ (l_wj A sz tj bb jb i) ≠ jb i then (1 : Int32) else 0) = (if (l_wj A sz tj bb jb i) = 5 then 1 else 0) := by
            rcases l_wj_lt (A := A) (sz := sz) (tj := tj) (bb := bb) (jb := jb) (b := i) with e | ⟨e1, e2⟩
            · simp [e]
            · simp [e1, e2]
          rw [ez, ← g2]
          refine G_zastN F dX8_widens_177 rfl (by omega) (by decide) (is01) ?_
          refine G_iload_n F dX8_widens_178 rfl ?_
          refine G_iload F dX8_widens_179 rfl ?_
          refine G_if_ne (tgt := 189) F dX8_widens_181 (by decide) (fun h181 => ?_) (fun h181 => ?_)
          · refine G_iconst (v := 1) F dX8_widens_189 rfl ?_
            refine G_goto (tgt := 194) F dX8_widens_190 (by decide) ?_
            exact t194 _ v5 v6 zb zj 1 ((h1.u (by decide)).u (by decide)) (fun b hb => by
              have q := h2 b hb
              by_cases e : b = i
              · subst e
                constructor
                · simp only [fx_u_at, if_pos (show b < b + 1 by omega)]; simp
                · simp only [fx_u_at, if_pos (show b < b + 1 by omega)]; simp
              · have e9 : (b < i + 1) = (b < i) := propext ⟨fun q => by omega, fun q => by omega⟩
                simp only [fx_u_at, e9, e, and_false, if_false]
                exact q) (by
              clear ih F Rt
              simp_all)
          · refine G_iload F dX8_widens_184 rfl ?_
            refine G_if_eq (tgt := 193) F dX8_widens_186 (by decide) (fun h186 => ?_) (fun h186 => ?_)
            · refine G_iconst (v := 0) F dX8_widens_193 rfl ?_
              exact t194 _ v5 v6 zb zj 0 ((h1.u (by decide)).u (by decide)) (fun b hb => by
                have q := h2 b hb
                by_cases e : b = i
                · subst e
                  constructor
                  · simp only [fx_u_at, if_pos (show b < b + 1 by omega)]; simp
                  · simp only [fx_u_at, if_pos (show b < b + 1 by omega)]; simp
                · have e9 : (b < i + 1) = (b < i) := propext ⟨fun q => by omega, fun q => by omega⟩
                  simp only [fx_u_at, e9, e, and_false, if_false]
                  exact q) (by
                clear ih F Rt
                simp_all)
            · refine G_iconst (v := 1) F dX8_widens_189 rfl ?_
              refine G_goto (tgt := 194) F dX8_widens_190 (by decide) ?_
              exact t194 _ v5 v6 zb zj 1 ((h1.u (by decide)).u (by decide)) (fun b hb => by
                have q := h2 b hb
                by_cases e : b = i
                · subst e
                  constructor
                  · simp only [fx_u_at, if_pos (show b < b + 1 by omega)]; simp
                  · simp only [fx_u_at, if_pos (show b < b + 1 by omega)]; simp
                · have e9 : (b < i + 1) = (b < i) := propext ⟨fun q => by omega, fun q => by omega⟩
                  simp only [fx_u_at, e9, e, and_false, if_false]
                  exact q) (by
                clear ih F Rt
                simp_all)
        have t125 : ∀ (v5 zb : Int32), zb = (if (l_wb A sz tb bb i) ≠ bb i then 1 else 0) → GG X ad 125 [some (.ref (ad 37)), some (.int (if (l_wa A sz tb tj bb jb i) then 1 else 0)), some (.int (nI i)), some (.int (nI (A i + sz i + bb i))), some (.int (nI (A i + sz i + bb i + jb i))), some (.int v5), some (.int (if M 53 i = 1 then M 40 i else M 41 i)), some (.int zb), none] [] 0 0 (c_C sw ++ (m_C ++ tl)) M' := by
          intro v5 zb g1
          refine G_aload_n F dX8_widens_125 rfl ?_
          refine G_iload_n F dX8_widens_126 rfl ?_
          refine G_vI F mv_X8_170 dX8_widens_127 (t_jumpBytes hl ad sw tl M' (b := i) (x := bb i) (z := jb i) (by omega) hbi hq54 hq55) rfl rfl rfl rfl (Nat.le_of_ble_eq_true rfl) ⟨Nat.le_of_ble_eq_true rfl, Nat.le_of_ble_eq_true rfl, Nat.le_of_ble_eq_true rfl, Nat.le_of_ble_eq_true rfl⟩ (fun r127 M127 h127 => ?_)
          rw [h127.1, h127.2]
          refine G_iconst (v := nI 2) F dX8_widens_130 (by decide) ?_
          refine G_icmp_ne (tgt := 153) F dX8_widens_131 (by decide) (fun h131 => ?_) (fun h131 => ?_)
          · rw [nI_eq (by omega) (by omega)] at h131
            have hwj : (l_wj A sz tj bb jb i) = jb i := by unfold l_wj; rw [if_neg (fun q => h131 q.1)]
            refine G_iconst (v := 0) F dX8_widens_153 rfl ?_
            refine G_istore F dX8_widens_154 rfl rfl (Nat.le_of_ble_eq_true rfl) ?_
            simp only [List.set_cons_zero, List.set_cons_succ]
            exact t156 v5 _ zb 0 g1 (if_neg (fun q => q hwj)).symm
          · rw [nI_eq (by omega) (by omega)] at h131
            have htji := htj i (by omega) (by omega)
            refine G_iload F dX8_widens_134 rfl ?_
            refine G_aload_n F dX8_widens_136 rfl ?_
            refine G_getr F fl_X8_57 dX8_widens_137 rfl rfl ?_
            refine G_iload F dX8_widens_140 rfl ?_
            rw [htji.2]
            refine G_ialdN F dX8_widens_142 rfl (by omega) (by decide) ?_
            rw [h1 51 (by decide), (hA _ htji.1).1]
            refine G_sI F ms_X8_185 dX8_widens_143 (t_isFar hl ad _ M' (a := A (tj i)) (e := (A i + sz i + bb i + jb i)) (by have := (hA _ htji.1).2; omega) (by omega)) rfl rfl (Nat.le_of_ble_eq_true rfl) ⟨Nat.le_of_ble_eq_true rfl, Nat.le_of_ble_eq_true rfl, Nat.le_of_ble_eq_true rfl, Nat.le_of_ble_eq_true rfl⟩ (fun r143 M143 h143 => ?_)
            rw [h143.1, h143.2]
            refine G_if_eq (tgt := 153) F dX8_widens_146 (by decide) (fun h146 => ?_) (fun h146 => ?_)
            · have hwj : (l_wj A sz tj bb jb i) = jb i := by
                have hf : far (A (tj i)) (A i + sz i + bb i + jb i) = false := by simpa using h146
                unfold l_wj; rw [if_neg (fun q => by rw [hf] at q; exact absurd q.2 (by decide))]
              refine G_iconst (v := 0) F dX8_widens_153 rfl ?_
              refine G_istore F dX8_widens_154 rfl rfl (Nat.le_of_ble_eq_true rfl) ?_
              simp only [List.set_cons_zero, List.set_cons_succ]
              exact t156 v5 _ zb 0 g1 (if_neg (fun q => q hwj)).symm
            · have hwj : (l_wj A sz tj bb jb i) = 5 := by
                have hf : far (A (tj i)) (A i + sz i + bb i + jb i) = true := by simpa using h146
                unfold l_wj; rw [if_pos ⟨h131, hf⟩]
              refine G_iconst (v := 1) F dX8_widens_149 rfl ?_
              refine G_goto (tgt := 154) F dX8_widens_150 (by decide) ?_
              refine G_istore F dX8_widens_154 rfl rfl (Nat.le_of_ble_eq_true rfl) ?_
              simp only [List.set_cons_zero, List.set_cons_succ]
              exact t156 v5 _ zb 1 g1 (if_pos (by rw [hwj]; omega)).symm
        have t95 : GG X ad 95 [some (.ref (ad 37)), some (.int (if (l_wa A sz tb tj bb jb i) then 1 else 0)), some (.int (nI i)), some (.int (nI (A i + sz i + bb i))), some (.int (nI (A i + sz i + bb i + jb i))), some (.int (if M 53 i = 3 then M 41 i else M 40 i)), some (.int (if M 53 i = 1 then M 40 i else M 41 i)), none, none] [] 0 0 (c_C sw ++ (m_C ++ tl)) M' := by
          refine G_aload_n F dX8_widens_95 rfl ?_
          refine G_iload_n F dX8_widens_96 rfl ?_
          refine G_vI F mv_X8_167 dX8_widens_97 (t_branchBytes hl ad sw tl M' (b := i) (x := bb i) (z := jb i) (by omega) hbi hq54 hq55) rfl rfl rfl rfl (Nat.le_of_ble_eq_true rfl) ⟨Nat.le_of_ble_eq_true rfl, Nat.le_of_ble_eq_true rfl, Nat.le_of_ble_eq_true rfl, Nat.le_of_ble_eq_true rfl⟩ (fun r97 M97 h97 => ?_)
          rw [h97.1, h97.2]
          refine G_iconst (v := nI 2) F dX8_widens_100 (by decide) ?_
          refine G_icmp_ne (tgt := 122) F dX8_widens_101 (by decide) (fun h101 => ?_) (fun h101 => ?_)
          · rw [nI_eq (by omega) (by omega)] at h101
            have hwb : (l_wb A sz tb bb i) = bb i := by unfold l_wb; rw [if_neg (fun q => h101 q.1)]
            refine G_iconst (v := 0) F dX8_widens_122 rfl ?_
            refine G_istore F dX8_widens_123 rfl rfl (Nat.le_of_ble_eq_true rfl) ?_
            simp only [List.set_cons_zero, List.set_cons_succ]
            exact t125 _ 0 (if_neg (fun q => q hwb)).symm
          · rw [nI_eq (by omega) (by omega)] at h101
            have htbi := htb i (by omega) (by omega)
            refine G_iload_n F dX8_widens_104 rfl ?_
            refine G_aload_n F dX8_widens_105 rfl ?_
            refine G_getr F fl_X8_57 dX8_widens_106 rfl rfl ?_
            refine G_iload F dX8_widens_109 rfl ?_
            rw [htbi.2]
            refine G_ialdN F dX8_widens_111 rfl (by omega) (by decide) ?_
            rw [h1 51 (by decide), (hA _ htbi.1).1]
            refine G_sI F ms_X8_185 dX8_widens_112 (t_isFar hl ad _ M' (a := A (tb i)) (e := (A i + sz i + bb i)) (by have := (hA _ htbi.1).2; omega) (by omega)) rfl rfl (Nat.le_of_ble_eq_true rfl) ⟨Nat.le_of_ble_eq_true rfl, Nat.le_of_ble_eq_true rfl, Nat.le_of_ble_eq_true rfl, Nat.le_of_ble_eq_true rfl⟩ (fun r112 M112 h112 => ?_)
            rw [h112.1, h112.2]
            refine G_if_eq (tgt := 122) F dX8_widens_115 (by decide) (fun h115 => ?_) (fun h115 => ?_)
            · have hwb : (l_wb A sz tb bb i) = bb i := by
                have hf : far (A (tb i)) (A i + sz i + bb i) = false := by simpa using h115
                unfold l_wb; rw [if_neg (fun q => by rw [hf] at q; exact absurd q.2 (by decide))]
              refine G_iconst (v := 0) F dX8_widens_122 rfl ?_
              refine G_istore F dX8_widens_123 rfl rfl (Nat.le_of_ble_eq_true rfl) ?_
              simp only [List.set_cons_zero, List.set_cons_succ]
              exact t125 _ 0 (if_neg (fun q => q hwb)).symm
            · have hwb : (l_wb A sz tb bb i) = 6 := by
                have hf : far (A (tb i)) (A i + sz i + bb i) = true := by simpa using h115
                unfold l_wb; rw [if_pos ⟨h101, hf⟩]
              refine G_iconst (v := 1) F dX8_widens_118 rfl ?_
              refine G_goto (tgt := 123) F dX8_widens_119 (by decide) ?_
              refine G_istore F dX8_widens_123 rfl rfl (Nat.le_of_ble_eq_true rfl) ?_
              simp only [List.set_cons_zero, List.set_cons_succ]
              exact t125 _ 1 (if_pos (by rw [hwb]; omega)).symm
        have t66 : GG X ad 66 [some (.ref (ad 37)), some (.int (if (l_wa A sz tb tj bb jb i) then 1 else 0)), some (.int (nI i)), some (.int (nI (A i + sz i + bb i))), some (.int (nI (A i + sz i + bb i + jb i))), none, none, none, none] [.int (if M 53 i = 3 then M 41 i else M 40 i)] 0 0 (c_C sw ++ (m_C ++ tl)) M' := by
          refine G_istore F dX8_widens_66 rfl rfl (Nat.le_of_ble_eq_true rfl) ?_
          simp only [List.set_cons_zero, List.set_cons_succ]
          refine G_aload_n F dX8_widens_68 rfl ?_
          refine G_getr F fl_X8_63 dX8_widens_69 rfl rfl ?_
          refine G_iload_n F dX8_widens_72 rfl ?_
          refine G_ialdN F dX8_widens_73 rfl (by omega) (by decide) ?_
          rw [h1 53 (by decide)]
          refine G_iconst (v := 1) F dX8_widens_74 rfl ?_
          refine G_icmp_ne (tgt := 87) F dX8_widens_75 (by decide) (fun h75 => ?_) (fun h75 => ?_)
          · refine G_aload_n F dX8_widens_87 rfl ?_
            refine G_getr F fl_X8_26 dX8_widens_88 rfl rfl ?_
            refine G_iload_n F dX8_widens_91 rfl ?_
            refine G_ialdN F dX8_widens_92 rfl (by omega) (by decide) ?_
            skip
            refine G_istore F dX8_widens_93 rfl rfl (Nat.le_of_ble_eq_true rfl) ?_
            simp only [List.set_cons_zero, List.set_cons_succ]
            rw [h1 41 (by decide)]
            have q := t95
            rw [show (if M 53 i = 1 then M 40 i else M 41 i) = M 41 i from if_neg h75] at q
            exact q
          · refine G_aload_n F dX8_widens_78 rfl ?_
            refine G_getr F fl_X8_23 dX8_widens_79 rfl rfl ?_
            refine G_iload_n F dX8_widens_82 rfl ?_
            refine G_ialdN F dX8_widens_83 rfl (by omega) (by decide) ?_
            rw [h1 40 (by decide)]
            refine G_goto (tgt := 93) F dX8_widens_84 (by decide) ?_
            skip
            refine G_istore F dX8_widens_93 rfl rfl (Nat.le_of_ble_eq_true rfl) ?_
            simp only [List.set_cons_zero, List.set_cons_succ]
            have q := t95
            rw [show (if M 53 i = 1 then M 40 i else M 41 i) = M 40 i from if_pos h75] at q
            exact q
        refine G_aload_n F dX8_widens_12 rfl ?_
        refine G_getr F fl_X8_57 dX8_widens_13 rfl rfl ?_
        refine G_iload_n F dX8_widens_16 rfl ?_
        refine G_ialdN F dX8_widens_17 rfl (by omega) (by decide) ?_
        rw [h1 51 (by decide), hAi.1]
        refine G_aload_n F dX8_widens_18 rfl ?_
        refine G_getr F fl_X8_16 dX8_widens_19 rfl rfl ?_
        refine G_iload_n F dX8_widens_22 rfl ?_
        refine G_ialdN F dX8_widens_23 rfl (by omega) (by decide) ?_
        rw [h1 38 (by decide), hszi.1]
        refine G_iadd F dX8_widens_24 ?_
        rw [nI_add]
        refine G_aload_n F dX8_widens_25 rfl ?_
        refine G_iload_n F dX8_widens_26 rfl ?_
        refine G_vI F mv_X8_167 dX8_widens_27 (t_branchBytes hl ad sw tl M' (b := i) (x := bb i) (z := jb i) (by omega) hbi hq54 hq55) rfl rfl rfl rfl (Nat.le_of_ble_eq_true rfl) ⟨Nat.le_of_ble_eq_true rfl, Nat.le_of_ble_eq_true rfl, Nat.le_of_ble_eq_true rfl, Nat.le_of_ble_eq_true rfl⟩ (fun r27 M27 h27 => ?_)
        rw [h27.1, h27.2]
        refine G_iadd F dX8_widens_30 ?_
        rw [nI_add]
        refine G_istore_n F 3 dX8_widens_31 rfl rfl rfl (Nat.le_of_ble_eq_true rfl) ?_
        simp only [List.set_cons_zero, List.set_cons_succ]
        refine G_iload_n F dX8_widens_32 rfl ?_
        refine G_aload_n F dX8_widens_33 rfl ?_
        refine G_iload_n F dX8_widens_34 rfl ?_
        refine G_vI F mv_X8_170 dX8_widens_35 (t_jumpBytes hl ad sw tl M' (b := i) (x := bb i) (z := jb i) (by omega) hbi hq54 hq55) rfl rfl rfl rfl (Nat.le_of_ble_eq_true rfl) ⟨Nat.le_of_ble_eq_true rfl, Nat.le_of_ble_eq_true rfl, Nat.le_of_ble_eq_true rfl, Nat.le_of_ble_eq_true rfl⟩ (fun r35 M35 h35 => ?_)
        rw [h35.1, h35.2]
        refine G_iadd F dX8_widens_38 ?_
        rw [nI_add]
        refine G_istore F dX8_widens_39 rfl rfl (Nat.le_of_ble_eq_true rfl) ?_
        simp only [List.set_cons_zero, List.set_cons_succ]
        refine G_aload_n F dX8_widens_41 rfl ?_
        refine G_getr F fl_X8_63 dX8_widens_42 rfl rfl ?_
        refine G_iload_n F dX8_widens_45 rfl ?_
        refine G_ialdN F dX8_widens_46 rfl (by omega) (by decide) ?_
        rw [h1 53 (by decide)]
        refine G_iconst (v := 3) F dX8_widens_47 rfl ?_
        refine G_icmp_ne (tgt := 60) F dX8_widens_48 (by decide) (fun h48 => ?_) (fun h48 => ?_)
        · refine G_aload_n F dX8_widens_60 rfl ?_
          refine G_getr F fl_X8_23 dX8_widens_61 rfl rfl ?_
          refine G_iload_n F dX8_widens_64 rfl ?_
          refine G_ialdN F dX8_widens_65 rfl (by omega) (by decide) ?_
          rw [h1 40 (by decide)]
          have q := t66
          rw [show (if M 53 i = 3 then M 41 i else M 40 i) = M 40 i from if_neg h48] at q
          exact q
        · refine G_aload_n F dX8_widens_51 rfl ?_
          refine G_getr F fl_X8_26 dX8_widens_52 rfl rfl ?_
          refine G_iload_n F dX8_widens_55 rfl ?_
          refine G_ialdN F dX8_widens_56 rfl (by omega) (by decide) ?_
          refine G_goto (tgt := 66) F dX8_widens_57 (by decide) ?_
          rw [h1 41 (by decide)]
          have q := t66
          rw [show (if M 53 i = 3 then M 41 i else M 40 i) = M 41 i from if_pos h48] at q
          exact q
  refine G_iconst (v := 0) F dX8_widens_0 rfl ?_
  refine G_istore_n F 1 dX8_widens_1 rfl rfl rfl (Nat.le_of_ble_eq_true rfl) ?_
  simp only [List.set_cons_zero, List.set_cons_succ]
  refine G_iconst (v := nI 0) F dX8_widens_2 (by decide) ?_
  refine G_istore_n F 2 dX8_widens_3 rfl rfl rfl (Nat.le_of_ble_eq_true rfl) ?_
  simp only [List.set_cons_zero, List.set_cons_succ]
  exact lp N 0 M rfl (by omega) fr.rfl (fun b hb => by simp only [if_neg (Nat.not_lt_zero b)]; exact (hbj b hb).2)
