/-! THE REFERENCE: meanCycles, bestAlignment, runLayout -/
set_option maxRecDepth 20000 in
theorem t_meanCycles {l : Launch} {Z : fx_Z} (hl : l.stackTraces = false) (ad : Nat → Nat) (sw : Bool) (tl : List fx_Sh) (M : fx_M) {N : Nat} {hot al : Nat} {rw pos sz : Nat → Nat} (hH : v_H N hot al rw pos sz M) (hz : zw N (M 39) (M 44) (M 45)) : CQ l Z yX8_meanCycles (.code yX8_meanCycles cX8_meanCycles 2 (some .double)) 5 0 0 [.ref (ad 37)] ad (c_C sw ++ (m_C ++ tl)) M (fun v m => (¬ (sm (M 43) N) = 0 ∧ v = some (.double (fx_dd (r_cy N hot al rw pos sz M) (sm (M 43) N))) ∧ v_f (fx_u M 37 13 0) m) ∨ ((sm (M 43) N) = 0 ∧ (∃ x, v = some (.double x)) ∧ m = fx_u M 37 13 1)) (fun _ _ => False) := by
  refine CT_of (ret := (some .double)) (lv0 := [some (.ref (ad 37)), none]) (by decide +kernel) hl (by simp [Value.category]) (Nat.le_of_ble_eq_true rfl) rfl ?_
  intro X F Rt _
  have hN := hH.1
  have hN16 := hH.2.1
  have hN1 : 1 ≤ N := Nat.le_trans hH.2.2.2.1 hH.2.2.2.2.1
  have hpm := hH.2.2.2.2.2.1
  have t0 : ¬ (sm (M 43) N) = 0 → GG X ad 15 [some (.ref (ad 37)), some (.int (sm (M 43) N))] [.int 0, .ref (ad 37)] 0 0 (c_C sw ++ (m_C ++ tl)) M := by
    intro hv
    refine G_puti F fl_X8_103 dX8_meanCycles_15 rfl rfl rfl rfl ?_
    refine G_aload_n F dX8_meanCycles_18 rfl ?_
    refine G_geti F fl_X8_103 dX8_meanCycles_19 rfl rfl ?_
    try simp only [fx_u_at, Nat.reduceEqDiff, false_and, and_false, true_and, and_true, ↓reduceIte]
    refine G_if_ne (tgt := 36) F dX8_meanCycles_22 (by decide) (fun h22 => ?_) (fun h22 => ?_)
    · exact absurd rfl h22 --stop
    · skip
      refine G_aload_n F dX8_meanCycles_25 rfl ?_
      refine G_vI F mv_X8_280 dX8_meanCycles_26 (t_cyclesNow hl ad sw tl (fx_u M 37 13 0) (v_H_th hH) hz) rfl rfl rfl rfl (Nat.le_of_ble_eq_true rfl) ⟨Nat.le_of_ble_eq_true rfl, Nat.le_of_ble_eq_true rfl, Nat.le_of_ble_eq_true rfl, Nat.le_of_ble_eq_true rfl⟩ (fun r26 M26 h26 => ?_)
      rw [h26.1]
      refine G_i2d F dX8_meanCycles_29 ?_
      refine G_iload_n F dX8_meanCycles_30 rfl ?_
      refine G_i2d F dX8_meanCycles_31 ?_
      refine G_ddiv F dX8_meanCycles_32 (by exact dd_nn hv) ?_
      refine G_goto (tgt := 37) F dX8_meanCycles_33 (by decide) ?_
      refine G_dret F Rt dX8_meanCycles_37 ⟨rfl, rfl, ?_⟩ (Nat.le_refl _) (Nat.le_refl _)
      exact Or.inl ⟨hv, by simp only [fx_dd, hv, if_false]; rfl, h26.2.1⟩
  have t1 : (sm (M 43) N) = 0 → GG X ad 15 [some (.ref (ad 37)), some (.int (sm (M 43) N))] [.int 1, .ref (ad 37)] 0 0 (c_C sw ++ (m_C ++ tl)) M := by
    intro hv
    refine G_puti F fl_X8_103 dX8_meanCycles_15 rfl rfl rfl rfl ?_
    refine G_aload_n F dX8_meanCycles_18 rfl ?_
    refine G_geti F fl_X8_103 dX8_meanCycles_19 rfl rfl ?_
    try simp only [fx_u_at, Nat.reduceEqDiff, false_and, and_false, true_and, and_true, ↓reduceIte]
    refine G_if_ne (tgt := 36) F dX8_meanCycles_22 (by decide) (fun h22 => ?_) (fun h22 => ?_)
    · skip
      refine G_dconst0 F dX8_meanCycles_36 ?_
      refine G_dret F Rt dX8_meanCycles_37 ⟨rfl, rfl, ?_⟩ (Nat.le_refl _) (Nat.le_refl _)
      exact Or.inr ⟨hv, ⟨_, rfl⟩, rfl⟩
    · exact absurd h22 (by decide) --stop
  refine G_aload_n F dX8_meanCycles_0 rfl ?_
  refine G_vI F mv_X8_160 dX8_meanCycles_1 (t_counts hl ad sw tl M (N := N) hN hN16 hN1) rfl rfl rfl rfl (Nat.le_of_ble_eq_true rfl) ⟨Nat.le_of_ble_eq_true rfl, Nat.le_of_ble_eq_true rfl, Nat.le_of_ble_eq_true rfl, Nat.le_of_ble_eq_true rfl⟩ (fun r1 M1 h1 => ?_)
  rw [h1.1, h1.2]
  refine G_istore_n F 1 dX8_meanCycles_4 rfl rfl rfl (Nat.le_of_ble_eq_true rfl) ?_
  simp only [List.set_cons_zero, List.set_cons_succ]
  refine G_aload_n F dX8_meanCycles_5 rfl ?_
  refine G_iload_n F dX8_meanCycles_6 rfl ?_
  refine G_if_ne (tgt := 14) F dX8_meanCycles_7 (by decide) (fun h7 => ?_) (fun h7 => ?_)
  · refine G_iconst (v := 0) F dX8_meanCycles_14 rfl ?_
    exact t0 h7
  · refine G_iconst (v := 1) F dX8_meanCycles_10 rfl ?_
    refine G_goto (tgt := 15) F dX8_meanCycles_11 (by decide) ?_
    exact t1 h7
theorem pow_ne {j : Nat} (h : j ≤ 5) : ¬ nI (2 ^ j) = 0 := by
  have : j = 0 ∨ j = 1 ∨ j = 2 ∨ j = 3 ∨ j = 4 ∨ j = 5 := by omega
  rcases this with e | e | e | e | e | e <;> subst e <;> decide
theorem ba_ne {cy en : Nat → Int32} : ∀ k, k ≤ 5 → ¬ (ba cy en k).1 = 0 := by
  intro k
  induction k with
  | zero => intro _; show ¬ (1 : Int32) = 0; decide
  | succ k ih =>
    intro h
    simp only [ba]
    split
    · exact pow_ne h
    · exact ih (by omega)
theorem pow_al {k : Nat} (h : k ≤ 5) : isAl (2 ^ k) ∧ 2 ^ k ≤ 32 := by
  have : k = 0 ∨ k = 1 ∨ k = 2 ∨ k = 3 ∨ k = 4 ∨ k = 5 := by omega
  rcases this with e | e | e | e | e | e <;> subst e <;> simp [isAl]
/-- what of the reference's memory stays while alignments are tried -/
def v_b (M m : fx_M) : Prop := fr [37, 51, 52, 53, 54, 55] M m ∧ ∀ j, j ≠ 25 → j ≠ 26 → j ≠ 1 → m 37 j = M 37 j
theorem v_b_H {N hot al a2 : Nat} {rw pos sz : Nat → Nat} {M m : fx_M} (h : v_H N hot al rw pos sz M) (hf : v_b M m) (h1 : isAl a2) (h2 : a2 ≤ 32) : v_H N hot a2 rw pos sz (fx_u m 37 1 (nI a2)) := by
  obtain ⟨g0, g1, g2, g3, g4, g5, g6, g7, g8, g9, g10, g11⟩ := h
  refine ⟨?_, g1, ?_, g3, g4, g5, ?_, ?_, ?_, ?_, h1, h2⟩
  · rw [fx_u_at, if_neg (by decide), hf.2 0 (by decide) (by decide) (by decide)]; exact g0
  · rw [fx_u_at, if_neg (by decide), hf.2 3 (by decide) (by decide) (by decide)]; exact g2
  · rw [fx_u_ne (by decide), hf.1 46 (by decide)]; exact g6
  · rw [fx_u_ne (by decide), hf.1 38 (by decide)]; exact g7
  · rw [fx_u_ne (by decide), fx_u_ne (by decide), fx_u_ne (by decide), hf.1 39 (by decide), hf.1 40 (by decide), hf.1 41 (by decide)]; exact g8
  · rw [fx_u_at, if_pos ⟨rfl, rfl⟩]
theorem v_b_cy {N hot al : Nat} {rw pos sz : Nat → Nat} {M m : fx_M} {x : Int32} (hf : v_b M m) : r_cy N hot al rw pos sz (fx_u m 37 1 x) = r_cy N hot al rw pos sz M ∧ r_en N hot al rw pos sz (fx_u m 37 1 x) = r_en N hot al rw pos sz M := by
  unfold r_cy r_en
  rw [fx_u_at, if_neg (by decide), hf.2 2 (by decide) (by decide) (by decide)]
  simp only [fx_uN, Nat.reduceEqDiff, ↓reduceIte]
  rw [hf.1 39 (by decide), hf.1 40 (by decide), hf.1 41 (by decide), hf.1 43 (by decide), hf.1 44 (by decide), hf.1 45 (by decide)]
  exact ⟨rfl, rfl⟩
theorem v_b_f {M m m2 : fx_M} {x : Int32} (hf : v_b M m) (h2 : v_f (fx_u m 37 1 x) m2) : v_b M m2 := by
  refine ⟨fun k hk => ?_, fun j j1 j2 j3 => ?_⟩
  · have e := h2.1 k hk
    simp only [List.mem_cons, List.not_mem_nil, or_false, not_or] at hk
    rw [e, fx_u_ne hk.1]; exact hf.1 k (by simp [hk])
  · rw [h2.2 j j1 j2, fx_u_at, if_neg (fun z => j3 z.2)]; exact hf.2 j j1 j2 j3
set_option maxRecDepth 20000 in
theorem t_bestAlignment {l : Launch} {Z : fx_Z} (hl : l.stackTraces = false) (ad : Nat → Nat) (sw : Bool) (tl : List fx_Sh) (M : fx_M) {N : Nat} (cy en : Nat → Int32) {hot al : Nat} {rw pos sz : Nat → Nat} (hH : v_H N hot al rw pos sz M) (hz : zw N (M 39) (M 44) (M 45)) (hcy : ∀ al, cy al = r_cy N hot al rw pos sz M) (hen : ∀ al, en al = nI (r_en N hot al rw pos sz M)) : CI l Z yX8_bestAlignment (.code yX8_bestAlignment cX8_bestAlignment 7 (some .int)) 5 [.ref (ad 37)] ad (c_C sw ++ (m_C ++ tl)) M (fun r m => v_f (fx_u M 37 13 0) m ∧ r = (ba cy en 5).1) := by
  refine CT_of (ret := (some .int)) (lv0 := [some (.ref (ad 37)), none, none, none, none, none, none]) (by decide +kernel) hl (by simp [Value.category]) (Nat.le_of_ble_eq_true rfl) rfl ?_
  intro X F Rt _
  have hN := hH.1
  have hN16 := hH.2.1
  have hN1 : 1 ≤ N := Nat.le_trans hH.2.2.2.1 hH.2.2.2.2.1
  have hpm := hH.2.2.2.2.2.1
  have hH0 : v_H N hot al rw pos sz (fx_u M 37 13 0) := v_H_th hH
  have hcy0 : ∀ al, cy al = r_cy N hot al rw pos sz (fx_u M 37 13 0) := hcy
  have hen0 : ∀ al, en al = nI (r_en N hot al rw pos sz (fx_u M 37 13 0)) := hen
  have lp : ∀ (k : Nat) (k1 : Nat) (M' : fx_M), k = 6 - k1 → 1 ≤ k1 → k1 ≤ 6 → v_b (fx_u M 37 13 0) M' → GG X ad 20 [some (.ref (ad 37)), some (.int (M 37 1)), some (.int (ba cy en (k1 - 1)).1), some (.int (ba cy en (k1 - 1)).2.1), some (.int (ba cy en (k1 - 1)).2.2), some (.int (nI (2 ^ k1))), none] [] 0 0 (c_C sw ++ (m_C ++ tl)) M' := by
    intro k
    induction k using Nat.strongRecOn with
    | _ k ih =>
      intro k1 M' hk hk1 hk6' g1
      have hp31 : 2 ^ k1 < 2 ^ 31 := Nat.pow_lt_pow_right (by omega) (by omega)
      refine G_iload F dX8_bestAlignment_20 rfl ?_
      refine G_bipush (v := nI 32) F dX8_bestAlignment_22 (by decide) ?_
      refine G_icmp_gt (tgt := 85) F dX8_bestAlignment_24 (by decide) (fun h24 => ?_) (fun h24 => ?_)
      · rw [nI_ltI (by omega) hp31] at h24
        have hk6 : k1 = 6 := by
          apply Classical.byContradiction
          intro q
          have h5 : 2 ^ k1 ≤ 2 ^ 5 := Nat.pow_le_pow_right (by omega) (by omega)
          omega
        subst hk6
        refine G_aload_n F dX8_bestAlignment_85 rfl ?_
        refine G_iload_n F dX8_bestAlignment_86 rfl ?_
        refine G_puti F fl_X8_7 dX8_bestAlignment_87 rfl rfl rfl rfl ?_
        refine G_iload_n F dX8_bestAlignment_90 rfl ?_
        refine G_iret F Rt dX8_bestAlignment_91 (rfl) ⟨rfl, rfl, _, rfl, ?_⟩ (Nat.le_refl _) (Nat.le_refl _)
        exact ⟨⟨fun k hk => by
          have e := g1.1 k hk
          simp only [List.mem_cons, List.not_mem_nil, or_false, not_or] at hk
          rw [fx_u_ne hk.1]; exact e, fun j j1 j2 => by
          rw [fx_u_at]
          by_cases e : j = 1
          · rw [if_pos ⟨rfl, e⟩, e]; rfl
          · rw [if_neg (fun z => e z.2)]; exact g1.2 j j1 j2 e⟩, rfl⟩
      · rw [nI_ltI (by omega) hp31] at h24
        have hk5 : k1 ≤ 5 := by
          apply Classical.byContradiction
          intro q
          have h6 : k1 = 6 := by omega
          subst h6
          omega
        refine G_aload_n F dX8_bestAlignment_27 rfl ?_
        refine G_iload F dX8_bestAlignment_28 rfl ?_
        refine G_puti F fl_X8_7 dX8_bestAlignment_30 rfl rfl rfl rfl ?_
        refine G_aload_n F dX8_bestAlignment_33 rfl ?_
        refine G_vI F mv_X8_280 dX8_bestAlignment_34 (t_cyclesNow hl ad sw tl (fx_u M' 37 1 (nI (2 ^ k1))) (v_b_H hH0 g1 (pow_al (show k1 ≤ 5 by omega)).1 (pow_al (show k1 ≤ 5 by omega)).2) (by rw [fx_u_ne (by decide), fx_u_ne (by decide), fx_u_ne (by decide), g1.1 39 (by decide), g1.1 44 (by decide), g1.1 45 (by decide)]; exact hz)) rfl rfl rfl rfl (Nat.le_of_ble_eq_true rfl) ⟨Nat.le_of_ble_eq_true rfl, Nat.le_of_ble_eq_true rfl, Nat.le_of_ble_eq_true rfl, Nat.le_of_ble_eq_true rfl⟩ (fun r34 M34 h34 => ?_)
        obtain ⟨k2, k3, ke⟩ := h34
        have kb := v_b_f g1 k3
        rw [(v_b_cy g1).1, ← hcy0] at k2
        rw [(v_b_cy g1).2, ← hen0] at ke
        rw [k2]
        refine G_istore F dX8_bestAlignment_37 rfl rfl (Nat.le_of_ble_eq_true rfl) ?_
        simp only [List.set_cons_zero, List.set_cons_succ]
        refine G_iload_n F dX8_bestAlignment_39 rfl ?_
        refine G_if_eq (tgt := 64) F dX8_bestAlignment_40 (by decide) (fun h40 => ?_) (fun h40 => ?_)
        · exact absurd h40 (ba_ne _ (by omega)) --stop
        · refine G_iload F dX8_bestAlignment_43 rfl ?_
          refine G_iload_n F dX8_bestAlignment_45 rfl ?_
          refine G_icmp_lt (tgt := 64) F dX8_bestAlignment_46 (by decide) (fun h46 => ?_) (fun h46 => ?_)
          · have q46 : cy (2 ^ k1) < (ba cy en (k1 - 1)).2.1 := h46
            refine G_iload F dX8_bestAlignment_64 rfl ?_
            refine G_istore_n F 2 dX8_bestAlignment_66 rfl rfl rfl (Nat.le_of_ble_eq_true rfl) ?_
            simp only [List.set_cons_zero, List.set_cons_succ]
            refine G_iload F dX8_bestAlignment_67 rfl ?_
            refine G_istore_n F 3 dX8_bestAlignment_69 rfl rfl rfl (Nat.le_of_ble_eq_true rfl) ?_
            simp only [List.set_cons_zero, List.set_cons_succ]
            refine G_aload_n F dX8_bestAlignment_70 rfl ?_
            refine G_geti F fl_X8_182 dX8_bestAlignment_71 rfl rfl ?_
            rw [ke]
            refine G_istore F dX8_bestAlignment_74 rfl rfl (Nat.le_of_ble_eq_true rfl) ?_
            simp only [List.set_cons_zero, List.set_cons_succ]
            refine G_iload F dX8_bestAlignment_76 rfl ?_
            refine G_iconst (v := nI 2) F dX8_bestAlignment_78 (by decide) ?_
            refine G_imul F dX8_bestAlignment_79 ?_
            refine G_istore F dX8_bestAlignment_80 rfl rfl (Nat.le_of_ble_eq_true rfl) ?_
            simp only [List.set_cons_zero, List.set_cons_succ]
            refine G_goto (tgt := 20) F dX8_bestAlignment_82 (by decide) ?_
            refine G_drop F 6 ?_
            simp only [List.set_cons_zero, List.set_cons_succ]
            rw [nI_mul, show 2 ^ k1 * 2 = 2 ^ (k1 + 1) from by rw [Nat.pow_succ]]
            have hgo := ih (6 - (k1 + 1)) (by omega) (k1 + 1) M34 rfl (by omega) (by omega) kb
            rw [show k1 + 1 - 1 = (k1 - 1) + 1 from by omega] at hgo
            simp only [ba] at hgo
            rw [show k1 - 1 + 1 = k1 from by omega] at hgo
            rw [if_pos (Or.inl q46)] at hgo
            exact hgo
          · have q46 : ¬ cy (2 ^ k1) < (ba cy en (k1 - 1)).2.1 := h46
            refine G_iload F dX8_bestAlignment_49 rfl ?_
            refine G_iload_n F dX8_bestAlignment_51 rfl ?_
            refine G_icmp_ne (tgt := 76) F dX8_bestAlignment_52 (by decide) (fun h52 => ?_) (fun h52 => ?_)
            · have q52 : ¬ cy (2 ^ k1) = (ba cy en (k1 - 1)).2.1 := h52
              refine G_iload F dX8_bestAlignment_76 rfl ?_
              refine G_iconst (v := nI 2) F dX8_bestAlignment_78 (by decide) ?_
              refine G_imul F dX8_bestAlignment_79 ?_
              refine G_istore F dX8_bestAlignment_80 rfl rfl (Nat.le_of_ble_eq_true rfl) ?_
              simp only [List.set_cons_zero, List.set_cons_succ]
              refine G_goto (tgt := 20) F dX8_bestAlignment_82 (by decide) ?_
              refine G_drop F 6 ?_
              simp only [List.set_cons_zero, List.set_cons_succ]
              rw [nI_mul, show 2 ^ k1 * 2 = 2 ^ (k1 + 1) from by rw [Nat.pow_succ]]
              have hgo := ih (6 - (k1 + 1)) (by omega) (k1 + 1) M34 rfl (by omega) (by omega) kb
              rw [show k1 + 1 - 1 = (k1 - 1) + 1 from by omega] at hgo
              simp only [ba] at hgo
              rw [show k1 - 1 + 1 = k1 from by omega] at hgo
              rw [if_neg (fun q => q.elim q46 (fun q => q52 q.1))] at hgo
              exact hgo
            · have q52 : cy (2 ^ k1) = (ba cy en (k1 - 1)).2.1 := h52
              skip
              refine G_aload_n F dX8_bestAlignment_55 rfl ?_
              refine G_geti F fl_X8_182 dX8_bestAlignment_56 rfl rfl ?_
              rw [ke]
              refine G_iload F dX8_bestAlignment_59 rfl ?_
              refine G_icmp_ge (tgt := 76) F dX8_bestAlignment_61 (by decide) (fun h61 => ?_) (fun h61 => ?_)
              · have q61 : ¬ en (2 ^ k1) < (ba cy en (k1 - 1)).2.2 := by
                  simp only [Int32.lt_iff_toInt_lt, Int32.le_iff_toInt_le] at h61 ⊢
                  omega
                refine G_iload F dX8_bestAlignment_76 rfl ?_
                refine G_iconst (v := nI 2) F dX8_bestAlignment_78 (by decide) ?_
                refine G_imul F dX8_bestAlignment_79 ?_
                refine G_istore F dX8_bestAlignment_80 rfl rfl (Nat.le_of_ble_eq_true rfl) ?_
                simp only [List.set_cons_zero, List.set_cons_succ]
                refine G_goto (tgt := 20) F dX8_bestAlignment_82 (by decide) ?_
                refine G_drop F 6 ?_
                simp only [List.set_cons_zero, List.set_cons_succ]
                rw [nI_mul, show 2 ^ k1 * 2 = 2 ^ (k1 + 1) from by rw [Nat.pow_succ]]
                have hgo := ih (6 - (k1 + 1)) (by omega) (k1 + 1) M34 rfl (by omega) (by omega) kb
                rw [show k1 + 1 - 1 = (k1 - 1) + 1 from by omega] at hgo
                simp only [ba] at hgo
                rw [show k1 - 1 + 1 = k1 from by omega] at hgo
                rw [if_neg (fun q => q.elim q46 (fun q => q61 q.2))] at hgo
                exact hgo
              · have q61 : en (2 ^ k1) < (ba cy en (k1 - 1)).2.2 := by
                  simp only [Int32.lt_iff_toInt_lt, Int32.le_iff_toInt_le] at h61 ⊢
                  omega
                refine G_iload F dX8_bestAlignment_64 rfl ?_
                refine G_istore_n F 2 dX8_bestAlignment_66 rfl rfl rfl (Nat.le_of_ble_eq_true rfl) ?_
                simp only [List.set_cons_zero, List.set_cons_succ]
                refine G_iload F dX8_bestAlignment_67 rfl ?_
                refine G_istore_n F 3 dX8_bestAlignment_69 rfl rfl rfl (Nat.le_of_ble_eq_true rfl) ?_
                simp only [List.set_cons_zero, List.set_cons_succ]
                refine G_aload_n F dX8_bestAlignment_70 rfl ?_
                refine G_geti F fl_X8_182 dX8_bestAlignment_71 rfl rfl ?_
                rw [ke]
                refine G_istore F dX8_bestAlignment_74 rfl rfl (Nat.le_of_ble_eq_true rfl) ?_
                simp only [List.set_cons_zero, List.set_cons_succ]
                refine G_iload F dX8_bestAlignment_76 rfl ?_
                refine G_iconst (v := nI 2) F dX8_bestAlignment_78 (by decide) ?_
                refine G_imul F dX8_bestAlignment_79 ?_
                refine G_istore F dX8_bestAlignment_80 rfl rfl (Nat.le_of_ble_eq_true rfl) ?_
                simp only [List.set_cons_zero, List.set_cons_succ]
                refine G_goto (tgt := 20) F dX8_bestAlignment_82 (by decide) ?_
                refine G_drop F 6 ?_
                simp only [List.set_cons_zero, List.set_cons_succ]
                rw [nI_mul, show 2 ^ k1 * 2 = 2 ^ (k1 + 1) from by rw [Nat.pow_succ]]
                have hgo := ih (6 - (k1 + 1)) (by omega) (k1 + 1) M34 rfl (by omega) (by omega) kb
                rw [show k1 + 1 - 1 = (k1 - 1) + 1 from by omega] at hgo
                simp only [ba] at hgo
                rw [show k1 - 1 + 1 = k1 from by omega] at hgo
                rw [if_pos (Or.inr ⟨q52, q61⟩)] at hgo
                exact hgo
  have t20 : ∀ M' : fx_M, v_b (fx_u M 37 13 0) M' → GG X ad 20 [some (.ref (ad 37)), some (.int (M 37 1)), some (.int 0), some (.int 0), some (.int 0), some (.int (nI (2 ^ 0))), none] [] 0 0 (c_C sw ++ (m_C ++ tl)) M' := by
    intro M' g1
    refine G_iload F dX8_bestAlignment_20 rfl ?_
    refine G_bipush (v := 32) F dX8_bestAlignment_22 rfl ?_
    refine G_icmp_gt (tgt := 85) F dX8_bestAlignment_24 (by decide) (fun h24 => ?_) (fun h24 => ?_)
    · exact absurd h24 (by decide) --stop
    · skip
      refine G_aload_n F dX8_bestAlignment_27 rfl ?_
      refine G_iload F dX8_bestAlignment_28 rfl ?_
      refine G_puti F fl_X8_7 dX8_bestAlignment_30 rfl rfl rfl rfl ?_
      refine G_aload_n F dX8_bestAlignment_33 rfl ?_
      refine G_vI F mv_X8_280 dX8_bestAlignment_34 (t_cyclesNow hl ad sw tl (fx_u M' 37 1 (nI (2 ^ 0))) (v_b_H hH0 g1 (pow_al (show 0 ≤ 5 by omega)).1 (pow_al (show 0 ≤ 5 by omega)).2) (by rw [fx_u_ne (by decide), fx_u_ne (by decide), fx_u_ne (by decide), g1.1 39 (by decide), g1.1 44 (by decide), g1.1 45 (by decide)]; exact hz)) rfl rfl rfl rfl (Nat.le_of_ble_eq_true rfl) ⟨Nat.le_of_ble_eq_true rfl, Nat.le_of_ble_eq_true rfl, Nat.le_of_ble_eq_true rfl, Nat.le_of_ble_eq_true rfl⟩ (fun r34 M34 h34 => ?_)
      obtain ⟨k2, k3, ke⟩ := h34
      have kb := v_b_f g1 k3
      rw [(v_b_cy g1).1, ← hcy0] at k2
      rw [(v_b_cy g1).2, ← hen0] at ke
      rw [k2]
      refine G_istore F dX8_bestAlignment_37 rfl rfl (Nat.le_of_ble_eq_true rfl) ?_
      simp only [List.set_cons_zero, List.set_cons_succ]
      refine G_iload_n F dX8_bestAlignment_39 rfl ?_
      refine G_if_eq (tgt := 64) F dX8_bestAlignment_40 (by decide) (fun h40 => ?_) (fun h40 => ?_)
      · refine G_iload F dX8_bestAlignment_64 rfl ?_
        refine G_istore_n F 2 dX8_bestAlignment_66 rfl rfl rfl (Nat.le_of_ble_eq_true rfl) ?_
        simp only [List.set_cons_zero, List.set_cons_succ]
        refine G_iload F dX8_bestAlignment_67 rfl ?_
        refine G_istore_n F 3 dX8_bestAlignment_69 rfl rfl rfl (Nat.le_of_ble_eq_true rfl) ?_
        simp only [List.set_cons_zero, List.set_cons_succ]
        refine G_aload_n F dX8_bestAlignment_70 rfl ?_
        refine G_geti F fl_X8_182 dX8_bestAlignment_71 rfl rfl ?_
        rw [ke]
        refine G_istore F dX8_bestAlignment_74 rfl rfl (Nat.le_of_ble_eq_true rfl) ?_
        simp only [List.set_cons_zero, List.set_cons_succ]
        refine G_iload F dX8_bestAlignment_76 rfl ?_
        refine G_iconst (v := nI 2) F dX8_bestAlignment_78 (by decide) ?_
        refine G_imul F dX8_bestAlignment_79 ?_
        refine G_istore F dX8_bestAlignment_80 rfl rfl (Nat.le_of_ble_eq_true rfl) ?_
        simp only [List.set_cons_zero, List.set_cons_succ]
        refine G_goto (tgt := 20) F dX8_bestAlignment_82 (by decide) ?_
        refine G_drop F 6 ?_
        simp only [List.set_cons_zero, List.set_cons_succ]
        exact lp 5 1 M34 rfl (by omega) (by omega) kb
      · exact absurd rfl h40 --stop
  refine G_aload_n F dX8_bestAlignment_0 rfl ?_
  refine G_iconst (v := 0) F dX8_bestAlignment_1 rfl ?_
  refine G_puti F fl_X8_103 dX8_bestAlignment_2 rfl rfl rfl rfl ?_
  refine G_aload_n F dX8_bestAlignment_5 rfl ?_
  refine G_geti F fl_X8_7 dX8_bestAlignment_6 rfl rfl ?_
  try simp only [fx_u_at, Nat.reduceEqDiff, false_and, and_false, true_and, and_true, ↓reduceIte]
  refine G_istore_n F 1 dX8_bestAlignment_9 rfl rfl rfl (Nat.le_of_ble_eq_true rfl) ?_
  simp only [List.set_cons_zero, List.set_cons_succ]
  refine G_iconst (v := 0) F dX8_bestAlignment_10 rfl ?_
  refine G_istore_n F 2 dX8_bestAlignment_11 rfl rfl rfl (Nat.le_of_ble_eq_true rfl) ?_
  simp only [List.set_cons_zero, List.set_cons_succ]
  refine G_iconst (v := 0) F dX8_bestAlignment_12 rfl ?_
  refine G_istore_n F 3 dX8_bestAlignment_13 rfl rfl rfl (Nat.le_of_ble_eq_true rfl) ?_
  simp only [List.set_cons_zero, List.set_cons_succ]
  refine G_iconst (v := 0) F dX8_bestAlignment_14 rfl ?_
  refine G_istore F dX8_bestAlignment_15 rfl rfl (Nat.le_of_ble_eq_true rfl) ?_
  simp only [List.set_cons_zero, List.set_cons_succ]
  refine G_iconst (v := nI 1) F dX8_bestAlignment_17 (by decide) ?_
  refine G_istore F dX8_bestAlignment_18 rfl rfl (Nat.le_of_ble_eq_true rfl) ?_
  simp only [List.set_cons_zero, List.set_cons_succ]
  exact t20 (fx_u M 37 13 0) ⟨fr.rfl, fun _ _ _ _ => rfl⟩
/-- the cycles of a step -/
theorem form_step {N : Nat} {kd f s : Nat → Int32} (hN : N ≤ 16) (hv : pv N kd f s) {b : Nat} (hb : b < N) (hk : kd b ≠ 2) {t : Int32} (ht : t = f b ∨ (kd b = 1 ∧ t = s b)) (x : Int32) :
    (pf_form kd f s b x = 0 ∧ pf_ed kd b t x = 0) ∨ (pf_form kd f s b x = 1 ∧ pf_ed kd b t x = 2) ∨ (pf_form kd f s b x = 4 ∧ pf_ed kd b t x = 3) ∨ ((pf_form kd f s b x = 2 ∨ pf_form kd f s b x = 3) ∧ pf_ed kd b t x = if t = x then 1 else 3) := by
  rcases hv b hb with ⟨p1, p2, p3⟩ | ⟨p1, p2, p3⟩ | ⟨p1, p2, p3, p4⟩
  · exact absurd p1 hk
  · have e : t = f b := ht.elim id (fun q => absurd q.1 (by rw [p1]; decide))
    subst e
    by_cases e : f b = x
    · exact Or.inl ⟨by simp [pf_form, p1, e], by simp [pf_ed, p1, e]⟩
    · exact Or.inr (Or.inl ⟨by simp [pf_form, p1, e], by simp [pf_ed, p1, e]⟩)
  · by_cases e : s b = x
    · exact Or.inr (Or.inr (Or.inr ⟨Or.inl (by simp [pf_form, p1, e]), by simp [pf_ed, p1]⟩))
    · by_cases e2 : f b = x
      · exact Or.inr (Or.inr (Or.inr ⟨Or.inr (by simp [pf_form, p1, e, e2]), by simp [pf_ed, p1]⟩))
      · refine Or.inr (Or.inr (Or.inl ⟨by simp [pf_form, p1, e, e2], ?_⟩))
        have e3 : ¬ t = x := ht.elim (fun q => by rw [q]; exact e2) (fun q => by rw [q.2]; exact e)
        simp [pf_ed, p1, e3]
set_option maxRecDepth 20000 in
theorem t_runLayout {l : Launch} {Z : fx_Z} (hl : l.stackTraces = false) (ad : Nat → Nat) (sw : Bool) (tl : List fx_Sh) (M : fx_M) {N : Nat} (n : Int32) {hot al : Nat} {rw pos sz : Nat → Nat} (hH : v_H N hot al rw pos sz M) : CI l Z yX8_runLayout (.code yX8_runLayout cX8_runLayout 8 (some .int)) 4 [.ref (ad 37), .int n] ad (c_C sw ++ (m_C ++ tl)) M (fun r m => (¬ (1 ≤ n ∧ n ≤ 500) ∧ m = fx_u M 37 13 1) ∨ (∃ lim L, 1 ≤ lim ∧ lim ≤ 500 ∧ n = nI lim ∧ xok (M 39) (M 40) (M 41) (M 42) lim L ∧ r = sm (fun j => pf_ed (M 39) (tr (M 39) (M 40) (M 41) (M 42) j).1 (nI (tr (M 39) (M 40) (M 41) (M 42) (j + 1)).1) (l_nx N hot rw pos (tr (M 39) (M 40) (M 41) (M 42) j).1) + (if nI (tr (M 39) (M 40) (M 41) (M 42) (j + 1)).1 = (l_nx N hot rw pos (tr (M 39) (M 40) (M 41) (M 42) j).1) ∧ 0 < nI (r_pd N hot al rw pos sz M (tr (M 39) (M 40) (M 41) (M 42) (j + 1)).1) then 1 else 0)) (L - 1) ∧ fr [37, 47, 48, 49, 50, 51, 52, 53, 54, 55] M m ∧ m 37 13 = 0 ∧ m 37 17 = nI L ∧ (∀ j, j ≠ 13 → j ≠ 17 → j ≠ 18 → j ≠ 25 → j ≠ 26 → m 37 j = M 37 j) ∧ (∀ j, j < L → m 47 j = nI (tr (M 39) (M 40) (M 41) (M 42) j).1 ∧ m 48 j = nI (tr (M 39) (M 40) (M 41) (M 42) j).1 ∧ m 50 j = (if isF (M 39) (M 42) (tr (M 39) (M 40) (M 41) (M 42) j) then 1 else 0))) ∨ (∃ lim, 1 ≤ lim ∧ lim ≤ 500 ∧ n = nI lim ∧ xno (M 39) (M 40) (M 41) (M 42) lim ∧ fr [37, 48, 49, 50] M m ∧ m 37 13 = 2 ∧ ∀ j, j ≠ 18 → j ≠ 13 → m 37 j = M 37 j)) := by
  refine CT_of (ret := (some .int)) (lv0 := [some (.ref (ad 37)), some (.int n), none, none, none, none, none, none]) (by decide +kernel) hl (by simp [Value.category]) (Nat.le_of_ble_eq_true rfl) rfl ?_
  intro X F Rt _
  have hN := hH.1
  have hN16 := hH.2.1
  have hN1 : 1 ≤ N := Nat.le_trans hH.2.2.2.1 hH.2.2.2.2.1
  have hpm := hH.2.2.2.2.2.1
  refine G_aload_n F dX8_runLayout_0 rfl ?_
  refine G_iload_n F dX8_runLayout_1 rfl ?_
  refine G_vI F mv_X8_147 dX8_runLayout_2 (t_mayRun hl ad sw tl M (N := N) n hN hN16 hN1 hH.2.2.2.2.2.2.2.2.1) rfl rfl rfl rfl (Nat.le_of_ble_eq_true rfl) ⟨Nat.le_of_ble_eq_true rfl, Nat.le_of_ble_eq_true rfl, Nat.le_of_ble_eq_true rfl, Nat.le_of_ble_eq_true rfl⟩ (fun r2 M2 h2 => ?_)
  rcases h2 with ⟨q2, rfl, rfl⟩ | ⟨rfl, h2⟩ | ⟨rfl, h2⟩
  · refine G_if_ne (tgt := 10) F dX8_runLayout_5 (by decide) (fun h5 => ?_) (fun h5 => ?_)
    · exact absurd rfl h5 --stop
    · skip
      refine G_iconst (v := 0) F dX8_runLayout_8 rfl ?_
      refine G_iret F Rt dX8_runLayout_9 (rfl) ⟨rfl, rfl, _, rfl, ?_⟩ (Nat.le_refl _) (Nat.le_refl _)
      exact Or.inl ⟨q2, rfl⟩
  · refine G_if_ne (tgt := 10) F dX8_runLayout_5 (by decide) (fun h5 => ?_) (fun h5 => ?_)
    · skip
      obtain ⟨lim, L, l1, l2, l3, e4, e5, e6, e7⟩ := h2
      rw [l3]
      have hLl := e4.2.1
      have hv := hH.2.2.2.2.2.2.2.2.1
      have hH2 : v_H N hot al rw pos sz M2 := by
        obtain ⟨g0, g1, g2, g3, g4, g5, g6, g7, g8, g9, g10, g11⟩ := hH
        refine ⟨by rw [e6]; exact g0, g1, by rw [e6]; exact g2, g3, g4, g5, by rw [e5 46 (by decide)]; exact g6, by rw [e5 38 (by decide)]; exact g7, by rw [e5 39 (by decide), e5 40 (by decide), e5 41 (by decide)]; exact g8, by rw [e6]; exact g9, g10, g11⟩
      have er : ∀ b, r_pd N hot al rw pos sz M2 b = r_pd N hot al rw pos sz M b := by
        intro b
        unfold r_pd
        rw [e5 39 (by decide), e5 40 (by decide), e5 41 (by decide), e5 43 (by decide), show M2 37 2 = M 37 2 from by rw [e6]; rfl]
      refine G_aload_n F dX8_runLayout_10 rfl ?_
      refine G_vv F mv_X8_150 dX8_runLayout_11 (t_laysR hl ad sw tl M2 hH2) rfl rfl rfl rfl (Nat.le_of_ble_eq_true rfl) ⟨Nat.le_of_ble_eq_true rfl, Nat.le_of_ble_eq_true rfl, Nat.le_of_ble_eq_true rfl, Nat.le_of_ble_eq_true rfl⟩ (fun M11 h11 => ?_)
      have hS := h11
      have hf := hS.1
      have hZ0 := v_S_z hN16 hS
      have hZ : (M11 37 25 = nI (r_he N hot al rw pos sz M2) ∧ M11 37 26 = nI (r_en N hot al rw pos sz M2)) ∧ (∀ b, b < N → M11 53 b = r_fm N hot rw pos M2 b ∧ M11 54 b = (if r_bb N hot al rw pos sz M2 b = 6 then 1 else 0) ∧ M11 55 b = (if r_jb N hot al rw pos sz M2 b = 5 then 1 else 0) ∧ M11 51 b = nI (r_ad N hot al rw pos sz M2 b) ∧ M11 52 b = nI (r_pd N hot al rw pos sz M b)) := ⟨hZ0.1, fun b hb => by have q := hZ0.2 b hb; rw [er b] at q; exact q⟩
      have hL : v_H N hot al rw pos sz M11 := v_H_f hH2 hf
      generalize hm : M11 = m at *
      have hst : m 37 18 = nI L := by rw [hf.2 18 (by decide) (by decide), e6]; rfl
      have hgo : ∀ j, j < L → m 48 j = nI (tr (M 39) (M 40) (M 41) (M 42) j).1 := fun j hj => by rw [hf.1 48 (by decide)]; exact (e7 j hj).2.1
      have his : ∀ j, j < L → m 50 j = (if isF (M 39) (M 42) (tr (M 39) (M 40) (M 41) (M 42) j) then 1 else 0) := fun j hj => by rw [hf.1 50 (by decide)]; exact (e7 j hj).2.2
      have r39 : m 39 = M 39 := by rw [hf.1 39 (by decide), e5 39 (by decide)]
      have r40 : m 40 = M 40 := by rw [hf.1 40 (by decide), e5 40 (by decide)]
      have r41 : m 41 = M 41 := by rw [hf.1 41 (by decide), e5 41 (by decide)]
      have hfin : ∀ r : Int32, r = sm (fun j => pf_ed (M 39) (tr (M 39) (M 40) (M 41) (M 42) j).1 (nI (tr (M 39) (M 40) (M 41) (M 42) (j + 1)).1) (l_nx N hot rw pos (tr (M 39) (M 40) (M 41) (M 42) j).1) + (if nI (tr (M 39) (M 40) (M 41) (M 42) (j + 1)).1 = (l_nx N hot rw pos (tr (M 39) (M 40) (M 41) (M 42) j).1) ∧ 0 < nI (r_pd N hot al rw pos sz M (tr (M 39) (M 40) (M 41) (M 42) (j + 1)).1) then 1 else 0)) (L - 1) → (fun r m => (¬ (1 ≤ n ∧ n ≤ 500) ∧ m = fx_u M 37 13 1) ∨ (∃ lim L, 1 ≤ lim ∧ lim ≤ 500 ∧ n = nI lim ∧ xok (M 39) (M 40) (M 41) (M 42) lim L ∧ r = sm (fun j => pf_ed (M 39) (tr (M 39) (M 40) (M 41) (M 42) j).1 (nI (tr (M 39) (M 40) (M 41) (M 42) (j + 1)).1) (l_nx N hot rw pos (tr (M 39) (M 40) (M 41) (M 42) j).1) + (if nI (tr (M 39) (M 40) (M 41) (M 42) (j + 1)).1 = (l_nx N hot rw pos (tr (M 39) (M 40) (M 41) (M 42) j).1) ∧ 0 < nI (r_pd N hot al rw pos sz M (tr (M 39) (M 40) (M 41) (M 42) (j + 1)).1) then 1 else 0)) (L - 1) ∧ fr [37, 47, 48, 49, 50, 51, 52, 53, 54, 55] M m ∧ m 37 13 = 0 ∧ m 37 17 = nI L ∧ (∀ j, j ≠ 13 → j ≠ 17 → j ≠ 18 → j ≠ 25 → j ≠ 26 → m 37 j = M 37 j) ∧ (∀ j, j < L → m 47 j = nI (tr (M 39) (M 40) (M 41) (M 42) j).1 ∧ m 48 j = nI (tr (M 39) (M 40) (M 41) (M 42) j).1 ∧ m 50 j = (if isF (M 39) (M 42) (tr (M 39) (M 40) (M 41) (M 42) j) then 1 else 0))) ∨ (∃ lim, 1 ≤ lim ∧ lim ≤ 500 ∧ n = nI lim ∧ xno (M 39) (M 40) (M 41) (M 42) lim ∧ fr [37, 48, 49, 50] M m ∧ m 37 13 = 2 ∧ ∀ j, j ≠ 18 → j ≠ 13 → m 37 j = M 37 j)) r m := fun r hr => Or.inr (Or.inl ⟨lim, L, l1, l2, l3, e4, hr, fun k hk => by
        simp only [List.mem_cons, List.not_mem_nil, or_false, not_or] at hk
        rw [hf.1 k (by simp [hk]), e5 k (by simp [hk])], by rw [hf.2 13 (by decide) (by decide), e6]; rfl, by rw [hf.2 17 (by decide) (by decide), e6]; rfl, fun j j1 j2 j3 j4 j5 => by rw [hf.2 j j4 j5, e6]; simp [upd, j1, j2, j3], fun j hj => by rw [hf.1 47 (by decide), hf.1 48 (by decide), hf.1 50 (by decide)]; exact e7 j hj⟩)
      have lp : ∀ (k : Nat) (k0 : Nat), k = L - k0 → k0 ≤ L → GG X ad 18 [some (.ref (ad 37)), some (.int (nI lim)), some (.int (sm (fun j => pf_ed (M 39) (tr (M 39) (M 40) (M 41) (M 42) j).1 (nI (tr (M 39) (M 40) (M 41) (M 42) (j + 1)).1) (l_nx N hot rw pos (tr (M 39) (M 40) (M 41) (M 42) j).1) + (if nI (tr (M 39) (M 40) (M 41) (M 42) (j + 1)).1 = (l_nx N hot rw pos (tr (M 39) (M 40) (M 41) (M 42) j).1) ∧ 0 < nI (r_pd N hot al rw pos sz M (tr (M 39) (M 40) (M 41) (M 42) (j + 1)).1) then 1 else 0)) (min k0 (L - 1)))), some (.int (nI k0)), none, none, none, none] [] 0 0 (c_C sw ++ (m_C ++ tl)) m := by
        intro k
        induction k using Nat.strongRecOn with
        | _ k ih =>
          intro k0 hk hk0
          refine G_iload_n F dX8_runLayout_18 rfl ?_
          refine G_aload_n F dX8_runLayout_19 rfl ?_
          refine G_geti F fl_X8_138 dX8_runLayout_20 rfl rfl ?_
          rw [hst]
          refine G_icmp_ge (tgt := 176) F dX8_runLayout_23 (by decide) (fun h23 => ?_) (fun h23 => ?_)
          · rw [nI_leI (by omega) (by omega)] at h23
            have hkL : k0 = L := by omega
            subst hkL
            refine G_iload_n F dX8_runLayout_176 rfl ?_
            refine G_iret F Rt dX8_runLayout_177 (rfl) ⟨rfl, rfl, _, rfl, ?_⟩ (Nat.le_refl _) (Nat.le_refl _)
            exact hfin _ (by rw [show min k0 (k0 - 1) = k0 - 1 from by omega])
          · rw [nI_leI (by omega) (by omega)] at h23
            have hbN : (tr (M 39) (M 40) (M 41) (M 42) k0).1 < N := tr_in hN16 hN1 hv k0 (fun j hj => e4.2.2.2 j (by omega))
            refine G_aload_n F dX8_runLayout_26 rfl ?_
            refine G_getr F fl_X8_47 dX8_runLayout_27 rfl rfl ?_
            refine G_iload_n F dX8_runLayout_30 rfl ?_
            refine G_ialdN F dX8_runLayout_31 rfl (by omega) (by decide) ?_
            rw [hgo k0 (by omega)]
            refine G_istore F dX8_runLayout_32 rfl rfl (Nat.le_of_ble_eq_true rfl) ?_
            simp only [List.set_cons_zero, List.set_cons_succ]
            refine G_aload_n F dX8_runLayout_34 rfl ?_
            refine G_iload F dX8_runLayout_35 rfl ?_
            refine G_vI F mv_X8_153 dX8_runLayout_37 (t_next hl ad sw tl m (N := N) (b := (tr (M 39) (M 40) (M 41) (M 42) k0).1) (hot := hot) (rw := rw) (pos := pos) hL.1 hN16 hN1 hL.2.2.1 hL.2.2.2.2.1 hpm hL.2.2.2.2.2.2.1 hbN) rfl rfl rfl rfl (Nat.le_of_ble_eq_true rfl) ⟨Nat.le_of_ble_eq_true rfl, Nat.le_of_ble_eq_true rfl, Nat.le_of_ble_eq_true rfl, Nat.le_of_ble_eq_true rfl⟩ (fun r37 M37 h37 => ?_)
            rw [h37.1, h37.2]
            refine G_istore F dX8_runLayout_40 rfl rfl (Nat.le_of_ble_eq_true rfl) ?_
            simp only [List.set_cons_zero, List.set_cons_succ]
            refine G_aload_n F dX8_runLayout_42 rfl ?_
            refine G_getr F fl_X8_20 dX8_runLayout_43 rfl rfl ?_
            refine G_iload F dX8_runLayout_46 rfl ?_
            refine G_ialdN F dX8_runLayout_48 rfl (by omega) (by decide) ?_
            rw [r39]
            refine G_iconst (v := 2) F dX8_runLayout_49 rfl ?_
            refine G_icmp_ne (tgt := 56) F dX8_runLayout_50 (by decide) (fun h50 => ?_) (fun h50 => ?_)
            · have hL1 : k0 + 1 < L := by
                apply Classical.byContradiction
                intro q
                have e9 : k0 = L - 1 := by omega
                have := e4.2.2.1
                rw [← e9] at this
                exact h50 this
              have hkk : M 39 (tr (M 39) (M 40) (M 41) (M 42) k0).1 ≠ 2 := h50
              have hnx := isF_next (p := M 42) hN16 hv hbN hkk
              have hto : (tr (M 39) (M 40) (M 41) (M 42) (k0 + 1)).1 < N := hnx.2
              have hto2 : (nI (tr (M 39) (M 40) (M 41) (M 42) (k0 + 1)).1) = M 40 (tr (M 39) (M 40) (M 41) (M 42) k0).1 ∨ (M 39 (tr (M 39) (M 40) (M 41) (M 42) k0).1 = 1 ∧ (nI (tr (M 39) (M 40) (M 41) (M 42) (k0 + 1)).1) = M 41 (tr (M 39) (M 40) (M 41) (M 42) k0).1) := by
                have z : (if isF (M 39) (M 42) (tr (M 39) (M 40) (M 41) (M 42) k0) then M 40 (tr (M 39) (M 40) (M 41) (M 42) k0).1 else M 41 (tr (M 39) (M 40) (M 41) (M 42) k0).1) = (nI (tr (M 39) (M 40) (M 41) (M 42) (k0 + 1)).1) := hnx.1
                cases hF : isF (M 39) (M 42) (tr (M 39) (M 40) (M 41) (M 42) k0)
                · rw [hF] at z
                  refine Or.inr ⟨?_, z.symm⟩
                  rcases hv _ hbN with ⟨p1, -, -⟩ | ⟨p1, -, -⟩ | ⟨p1, -, -, p4⟩
                  · exact absurd p1 hkk
                  · simp [isF, p1] at hF
                  · exact p1
                · rw [hF] at z
                  exact Or.inl z.symm
              have t168 : ∀ (v x5 : Int32), v = (if (nI (tr (M 39) (M 40) (M 41) (M 42) (k0 + 1)).1) = (l_nx N hot rw pos (tr (M 39) (M 40) (M 41) (M 42) k0).1) ∧ 0 < nI (r_pd N hot al rw pos sz M (tr (M 39) (M 40) (M 41) (M 42) (k0 + 1)).1) then 1 else 0) → x5 = (sm (fun j => pf_ed (M 39) (tr (M 39) (M 40) (M 41) (M 42) j).1 (nI (tr (M 39) (M 40) (M 41) (M 42) (j + 1)).1) (l_nx N hot rw pos (tr (M 39) (M 40) (M 41) (M 42) j).1) + (if nI (tr (M 39) (M 40) (M 41) (M 42) (j + 1)).1 = (l_nx N hot rw pos (tr (M 39) (M 40) (M 41) (M 42) j).1) ∧ 0 < nI (r_pd N hot al rw pos sz M (tr (M 39) (M 40) (M 41) (M 42) (j + 1)).1) then 1 else 0)) (min k0 (L - 1))) + pf_ed (M 39) (tr (M 39) (M 40) (M 41) (M 42) k0).1 (nI (tr (M 39) (M 40) (M 41) (M 42) (k0 + 1)).1) (l_nx N hot rw pos (tr (M 39) (M 40) (M 41) (M 42) k0).1) → GG X ad 168 [some (.ref (ad 37)), some (.int (nI lim)), some (.int x5), some (.int (nI k0)), some (.int (nI (tr (M 39) (M 40) (M 41) (M 42) k0).1)), some (.int (l_nx N hot rw pos (tr (M 39) (M 40) (M 41) (M 42) k0).1)), some (.int (nI (tr (M 39) (M 40) (M 41) (M 42) (k0 + 1)).1)), some (.int (pf_form (M 39) (M 40) (M 41) (tr (M 39) (M 40) (M 41) (M 42) k0).1 (l_nx N hot rw pos (tr (M 39) (M 40) (M 41) (M 42) k0).1)))] [.int v, .int x5] 0 0 (c_C sw ++ (m_C ++ tl)) m := by
                intro v x5 g1 g2
                refine G_iadd F dX8_runLayout_168 ?_
                rw [g1, g2, Int32.add_assoc]
                refine G_istore_n F 2 dX8_runLayout_169 rfl rfl rfl (Nat.le_of_ble_eq_true rfl) ?_
                simp only [List.set_cons_zero, List.set_cons_succ]
                refine G_iinc F (1) dX8_runLayout_170 rfl rfl rfl rfl ?_
                simp only [List.set_cons_zero, List.set_cons_succ, nI_1]
                refine G_goto (tgt := 18) F dX8_runLayout_173 (by decide) ?_
                refine G_drop F 4 ?_
                refine G_drop F 5 ?_
                refine G_drop F 6 ?_
                refine G_drop F 7 ?_
                simp only [List.set_cons_zero, List.set_cons_succ]
                have hgo := ih (L - (k0 + 1)) (by omega) (k0 + 1) rfl (by omega)
                rw [show min (k0 + 1) (L - 1) = min k0 (L - 1) + 1 from by omega] at hgo
                simp only [sm] at hgo
                rw [show min k0 (L - 1) = k0 from by omega] at hgo ⊢
                exact hgo
              have t145 : ∀ x5 : Int32, x5 = (sm (fun j => pf_ed (M 39) (tr (M 39) (M 40) (M 41) (M 42) j).1 (nI (tr (M 39) (M 40) (M 41) (M 42) (j + 1)).1) (l_nx N hot rw pos (tr (M 39) (M 40) (M 41) (M 42) j).1) + (if nI (tr (M 39) (M 40) (M 41) (M 42) (j + 1)).1 = (l_nx N hot rw pos (tr (M 39) (M 40) (M 41) (M 42) j).1) ∧ 0 < nI (r_pd N hot al rw pos sz M (tr (M 39) (M 40) (M 41) (M 42) (j + 1)).1) then 1 else 0)) (min k0 (L - 1))) + pf_ed (M 39) (tr (M 39) (M 40) (M 41) (M 42) k0).1 (nI (tr (M 39) (M 40) (M 41) (M 42) (k0 + 1)).1) (l_nx N hot rw pos (tr (M 39) (M 40) (M 41) (M 42) k0).1) → GG X ad 145 [some (.ref (ad 37)), some (.int (nI lim)), some (.int x5), some (.int (nI k0)), some (.int (nI (tr (M 39) (M 40) (M 41) (M 42) k0).1)), some (.int (l_nx N hot rw pos (tr (M 39) (M 40) (M 41) (M 42) k0).1)), some (.int (nI (tr (M 39) (M 40) (M 41) (M 42) (k0 + 1)).1)), some (.int (pf_form (M 39) (M 40) (M 41) (tr (M 39) (M 40) (M 41) (M 42) k0).1 (l_nx N hot rw pos (tr (M 39) (M 40) (M 41) (M 42) k0).1)))] [] 0 0 (c_C sw ++ (m_C ++ tl)) m := by
                intro x5 g2
                refine G_iload_n F dX8_runLayout_145 rfl ?_
                refine G_iload F dX8_runLayout_146 rfl ?_
                refine G_iload F dX8_runLayout_148 rfl ?_
                refine G_icmp_ne (tgt := 167) F dX8_runLayout_150 (by decide) (fun h150 => ?_) (fun h150 => ?_)
                · skip
                  refine G_iconst (v := 0) F dX8_runLayout_167 rfl ?_
                  exact t168 0 _ (by rw [if_neg (fun q => h150 q.1)]) g2
                · refine G_aload_n F dX8_runLayout_153 rfl ?_
                  refine G_getr F fl_X8_60 dX8_runLayout_154 rfl rfl ?_
                  refine G_iload F dX8_runLayout_157 rfl ?_
                  refine G_ialdN F dX8_runLayout_159 rfl (by omega) (by decide) ?_
                  rw [(hZ.2 _ hto).2.2.2.2]
                  refine G_if_le (tgt := 167) F dX8_runLayout_160 (by decide) (fun h160 => ?_) (fun h160 => ?_)
                  · have q160 : ¬ 0 < nI (r_pd N hot al rw pos sz M (tr (M 39) (M 40) (M 41) (M 42) (k0 + 1)).1) := fun q => by
                      have z : nI (r_pd N hot al rw pos sz M (tr (M 39) (M 40) (M 41) (M 42) (k0 + 1)).1) ≤ 0 := h160
                      simp only [Int32.lt_iff_toInt_lt, Int32.le_iff_toInt_le] at q z
                      omega
                    refine G_iconst (v := 0) F dX8_runLayout_167 rfl ?_
                    exact t168 0 _ (by rw [if_neg (fun q => q160 q.2)]) g2
                  · have q160 : 0 < nI (r_pd N hot al rw pos sz M (tr (M 39) (M 40) (M 41) (M 42) (k0 + 1)).1) := by
                      have z : ¬ nI (r_pd N hot al rw pos sz M (tr (M 39) (M 40) (M 41) (M 42) (k0 + 1)).1) ≤ 0 := h160
                      simp only [Int32.lt_iff_toInt_lt, Int32.le_iff_toInt_le] at z ⊢
                      omega
                    refine G_iconst (v := 1) F dX8_runLayout_163 rfl ?_
                    refine G_goto (tgt := 168) F dX8_runLayout_164 (by decide) ?_
                    exact t168 1 _ (by rw [if_pos ⟨h150, q160⟩]) g2
              have t94 : GG X ad 94 [some (.ref (ad 37)), some (.int (nI lim)), some (.int (sm (fun j => pf_ed (M 39) (tr (M 39) (M 40) (M 41) (M 42) j).1 (nI (tr (M 39) (M 40) (M 41) (M 42) (j + 1)).1) (l_nx N hot rw pos (tr (M 39) (M 40) (M 41) (M 42) j).1) + (if nI (tr (M 39) (M 40) (M 41) (M 42) (j + 1)).1 = (l_nx N hot rw pos (tr (M 39) (M 40) (M 41) (M 42) j).1) ∧ 0 < nI (r_pd N hot al rw pos sz M (tr (M 39) (M 40) (M 41) (M 42) (j + 1)).1) then 1 else 0)) (min k0 (L - 1)))), some (.int (nI k0)), some (.int (nI (tr (M 39) (M 40) (M 41) (M 42) k0).1)), some (.int (l_nx N hot rw pos (tr (M 39) (M 40) (M 41) (M 42) k0).1)), some (.int (nI (tr (M 39) (M 40) (M 41) (M 42) (k0 + 1)).1)), some (.int (pf_form (M 39) (M 40) (M 41) (tr (M 39) (M 40) (M 41) (M 42) k0).1 (l_nx N hot rw pos (tr (M 39) (M 40) (M 41) (M 42) k0).1)))] [] 0 0 (c_C sw ++ (m_C ++ tl)) m := by
                rcases form_step hN16 hv hbN hkk hto2 (l_nx N hot rw pos (tr (M 39) (M 40) (M 41) (M 42) k0).1) with ⟨hfm, hed⟩ | ⟨hfm, hed⟩ | ⟨hfm, hed⟩ | ⟨hfm, hed⟩
                · refine G_iload F dX8_runLayout_94 rfl ?_
                  refine G_iconst (v := 1) F dX8_runLayout_96 rfl ?_
                  refine G_icmp_ne (tgt := 106) F dX8_runLayout_97 (by decide) (fun h97 => ?_) (fun h97 => ?_)
                  · skip
                    refine G_iload F dX8_runLayout_106 rfl ?_
                    refine G_iconst (v := 4) F dX8_runLayout_108 rfl ?_
                    refine G_icmp_ne (tgt := 118) F dX8_runLayout_109 (by decide) (fun h109 => ?_) (fun h109 => ?_)
                    · skip
                      refine G_iload F dX8_runLayout_118 rfl ?_
                      refine G_iconst (v := 2) F dX8_runLayout_120 rfl ?_
                      refine G_icmp_eq (tgt := 130) F dX8_runLayout_121 (by decide) (fun h121 => ?_) (fun h121 => ?_)
                      · exact absurd h121 (by rw [hfm]; decide) --stop
                      · skip
                        refine G_iload F dX8_runLayout_124 rfl ?_
                        refine G_iconst (v := 3) F dX8_runLayout_126 rfl ?_
                        refine G_icmp_ne (tgt := 145) F dX8_runLayout_127 (by decide) (fun h127 => ?_) (fun h127 => ?_)
                        · skip
                          exact t145 _ (by rw [hed, Int32.add_zero])
                        · exact absurd h127 (by rw [hfm]; decide) --stop
                    · exact absurd h109 (by rw [hfm]; decide) --stop
                  · exact absurd h97 (by rw [hfm]; decide) --stop
                · refine G_iload F dX8_runLayout_94 rfl ?_
                  refine G_iconst (v := 1) F dX8_runLayout_96 rfl ?_
                  refine G_icmp_ne (tgt := 106) F dX8_runLayout_97 (by decide) (fun h97 => ?_) (fun h97 => ?_)
                  · exact absurd hfm h97 --stop
                  · skip
                    refine G_iinc F (2) dX8_runLayout_100 rfl rfl rfl rfl ?_
                    simp only [List.set_cons_zero, List.set_cons_succ, nI_1]
                    refine G_goto (tgt := 145) F dX8_runLayout_103 (by decide) ?_
                    exact t145 _ (by rw [hed])
                · refine G_iload F dX8_runLayout_94 rfl ?_
                  refine G_iconst (v := 1) F dX8_runLayout_96 rfl ?_
                  refine G_icmp_ne (tgt := 106) F dX8_runLayout_97 (by decide) (fun h97 => ?_) (fun h97 => ?_)
                  · skip
                    refine G_iload F dX8_runLayout_106 rfl ?_
                    refine G_iconst (v := 4) F dX8_runLayout_108 rfl ?_
                    refine G_icmp_ne (tgt := 118) F dX8_runLayout_109 (by decide) (fun h109 => ?_) (fun h109 => ?_)
                    · exact absurd hfm h109 --stop
                    · skip
                      refine G_iinc F (3) dX8_runLayout_112 rfl rfl rfl rfl ?_
                      simp only [List.set_cons_zero, List.set_cons_succ, nI_1]
                      refine G_goto (tgt := 145) F dX8_runLayout_115 (by decide) ?_
                      exact t145 _ (by rw [hed])
                  · exact absurd h97 (by rw [hfm]; decide) --stop
                · refine G_iload F dX8_runLayout_94 rfl ?_
                  refine G_iconst (v := 1) F dX8_runLayout_96 rfl ?_
                  refine G_icmp_ne (tgt := 106) F dX8_runLayout_97 (by decide) (fun h97 => ?_) (fun h97 => ?_)
                  · skip
                    refine G_iload F dX8_runLayout_106 rfl ?_
                    refine G_iconst (v := 4) F dX8_runLayout_108 rfl ?_
                    refine G_icmp_ne (tgt := 118) F dX8_runLayout_109 (by decide) (fun h109 => ?_) (fun h109 => ?_)
                    · skip
                      refine G_iload F dX8_runLayout_118 rfl ?_
                      refine G_iconst (v := 2) F dX8_runLayout_120 rfl ?_
                      refine G_icmp_eq (tgt := 130) F dX8_runLayout_121 (by decide) (fun h121 => ?_) (fun h121 => ?_)
                      · skip
                        refine G_iload_n F dX8_runLayout_130 rfl ?_
                        refine G_iload F dX8_runLayout_131 rfl ?_
                        refine G_iload F dX8_runLayout_133 rfl ?_
                        refine G_icmp_ne (tgt := 142) F dX8_runLayout_135 (by decide) (fun h135 => ?_) (fun h135 => ?_)
                        · skip
                          refine G_iconst (v := 3) F dX8_runLayout_142 rfl ?_
                          refine G_iadd F dX8_runLayout_143 ?_
                          refine G_istore_n F 2 dX8_runLayout_144 rfl rfl rfl (Nat.le_of_ble_eq_true rfl) ?_
                          simp only [List.set_cons_zero, List.set_cons_succ]
                          exact t145 _ (by rw [hed, if_neg h135])
                        · skip
                          refine G_iconst (v := 1) F dX8_runLayout_138 rfl ?_
                          refine G_goto (tgt := 143) F dX8_runLayout_139 (by decide) ?_
                          refine G_iadd F dX8_runLayout_143 ?_
                          refine G_istore_n F 2 dX8_runLayout_144 rfl rfl rfl (Nat.le_of_ble_eq_true rfl) ?_
                          simp only [List.set_cons_zero, List.set_cons_succ]
                          exact t145 _ (by rw [hed, if_pos h135])
                      · skip
                        refine G_iload F dX8_runLayout_124 rfl ?_
                        refine G_iconst (v := 3) F dX8_runLayout_126 rfl ?_
                        refine G_icmp_ne (tgt := 145) F dX8_runLayout_127 (by decide) (fun h127 => ?_) (fun h127 => ?_)
                        · exact absurd h127 (fun q => hfm.elim h121 q) --stop
                        · skip
                          refine G_iload_n F dX8_runLayout_130 rfl ?_
                          refine G_iload F dX8_runLayout_131 rfl ?_
                          refine G_iload F dX8_runLayout_133 rfl ?_
                          refine G_icmp_ne (tgt := 142) F dX8_runLayout_135 (by decide) (fun h135 => ?_) (fun h135 => ?_)
                          · skip
                            refine G_iconst (v := 3) F dX8_runLayout_142 rfl ?_
                            refine G_iadd F dX8_runLayout_143 ?_
                            refine G_istore_n F 2 dX8_runLayout_144 rfl rfl rfl (Nat.le_of_ble_eq_true rfl) ?_
                            simp only [List.set_cons_zero, List.set_cons_succ]
                            exact t145 _ (by rw [hed, if_neg h135])
                          · skip
                            refine G_iconst (v := 1) F dX8_runLayout_138 rfl ?_
                            refine G_goto (tgt := 143) F dX8_runLayout_139 (by decide) ?_
                            refine G_iadd F dX8_runLayout_143 ?_
                            refine G_istore_n F 2 dX8_runLayout_144 rfl rfl rfl (Nat.le_of_ble_eq_true rfl) ?_
                            simp only [List.set_cons_zero, List.set_cons_succ]
                            exact t145 _ (by rw [hed, if_pos h135])
                    · exact absurd h109 (fun q => by rcases hfm with e | e <;> rw [e] at q <;> exact absurd q (by decide)) --stop
                  · exact absurd h97 (fun q => by rcases hfm with e | e <;> rw [e] at q <;> exact absurd q (by decide)) --stop
              refine G_aload_n F dX8_runLayout_56 rfl ?_
              refine G_getr F fl_X8_53 dX8_runLayout_57 rfl rfl ?_
              refine G_iload_n F dX8_runLayout_60 rfl ?_
              refine G_zaldN F dX8_runLayout_61 rfl (by omega) (by decide) ?_
              rw [his k0 (by omega)]
              refine G_if_eq (tgt := 75) F dX8_runLayout_62 (by decide) (fun h62 => ?_) (fun h62 => ?_)
              · have hF : isF (M 39) (M 42) (tr (M 39) (M 40) (M 41) (M 42) k0) = false := by simpa using h62
                refine G_aload_n F dX8_runLayout_75 rfl ?_
                refine G_getr F fl_X8_26 dX8_runLayout_76 rfl rfl ?_
                refine G_iload F dX8_runLayout_79 rfl ?_
                refine G_ialdN F dX8_runLayout_81 rfl (by omega) (by decide) ?_
                rw [r41, show M 41 (tr (M 39) (M 40) (M 41) (M 42) k0).1 = (nI (tr (M 39) (M 40) (M 41) (M 42) (k0 + 1)).1) from by have z := hnx.1; rw [hF] at z; exact z]
                skip
                refine G_istore F dX8_runLayout_82 rfl rfl (Nat.le_of_ble_eq_true rfl) ?_
                simp only [List.set_cons_zero, List.set_cons_succ]
                refine G_aload_n F dX8_runLayout_84 rfl ?_
                refine G_iload F dX8_runLayout_85 rfl ?_
                refine G_iload F dX8_runLayout_87 rfl ?_
                refine G_vI F mv_X8_156 dX8_runLayout_89 (t_form hl ad sw tl m (b := (tr (M 39) (M 40) (M 41) (M 42) k0).1) _ (by omega) (by rw [r39]; exact pv_k3 hv hbN)) rfl rfl rfl rfl (Nat.le_of_ble_eq_true rfl) ⟨Nat.le_of_ble_eq_true rfl, Nat.le_of_ble_eq_true rfl, Nat.le_of_ble_eq_true rfl, Nat.le_of_ble_eq_true rfl⟩ (fun r89 M89 h89 => ?_)
                rw [h89.1, h89.2, r39, r40, r41]
                refine G_istore F dX8_runLayout_92 rfl rfl (Nat.le_of_ble_eq_true rfl) ?_
                simp only [List.set_cons_zero, List.set_cons_succ]
                exact t94
              · have hF : isF (M 39) (M 42) (tr (M 39) (M 40) (M 41) (M 42) k0) = true := by simpa using h62
                refine G_aload_n F dX8_runLayout_65 rfl ?_
                refine G_getr F fl_X8_23 dX8_runLayout_66 rfl rfl ?_
                refine G_iload F dX8_runLayout_69 rfl ?_
                refine G_ialdN F dX8_runLayout_71 rfl (by omega) (by decide) ?_
                rw [r40, show M 40 (tr (M 39) (M 40) (M 41) (M 42) k0).1 = (nI (tr (M 39) (M 40) (M 41) (M 42) (k0 + 1)).1) from by have z := hnx.1; rw [hF] at z; exact z]
                refine G_goto (tgt := 82) F dX8_runLayout_72 (by decide) ?_
                skip
                refine G_istore F dX8_runLayout_82 rfl rfl (Nat.le_of_ble_eq_true rfl) ?_
                simp only [List.set_cons_zero, List.set_cons_succ]
                refine G_aload_n F dX8_runLayout_84 rfl ?_
                refine G_iload F dX8_runLayout_85 rfl ?_
                refine G_iload F dX8_runLayout_87 rfl ?_
                refine G_vI F mv_X8_156 dX8_runLayout_89 (t_form hl ad sw tl m (b := (tr (M 39) (M 40) (M 41) (M 42) k0).1) _ (by omega) (by rw [r39]; exact pv_k3 hv hbN)) rfl rfl rfl rfl (Nat.le_of_ble_eq_true rfl) ⟨Nat.le_of_ble_eq_true rfl, Nat.le_of_ble_eq_true rfl, Nat.le_of_ble_eq_true rfl, Nat.le_of_ble_eq_true rfl⟩ (fun r89 M89 h89 => ?_)
                rw [h89.1, h89.2, r39, r40, r41]
                refine G_istore F dX8_runLayout_92 rfl rfl (Nat.le_of_ble_eq_true rfl) ?_
                simp only [List.set_cons_zero, List.set_cons_succ]
                exact t94
            · have hlast : k0 + 1 = L := Classical.byContradiction fun q => e4.2.2.2 k0 (by omega) h50
              refine G_goto (tgt := 170) F dX8_runLayout_53 (by decide) ?_
              refine G_iinc F (1) dX8_runLayout_170 rfl rfl rfl rfl ?_
              simp only [List.set_cons_zero, List.set_cons_succ, nI_1]
              refine G_goto (tgt := 18) F dX8_runLayout_173 (by decide) ?_
              refine G_drop F 4 ?_
              refine G_drop F 5 ?_
              refine G_drop F 6 ?_
              refine G_drop F 7 ?_
              simp only [List.set_cons_zero, List.set_cons_succ]
              have hgo := ih (L - (k0 + 1)) (by omega) (k0 + 1) rfl (by omega)
              rw [show min (k0 + 1) (L - 1) = min k0 (L - 1) from by omega] at hgo
              exact hgo
      refine G_iconst (v := 0) F dX8_runLayout_14 rfl ?_
      refine G_istore_n F 2 dX8_runLayout_15 rfl rfl rfl (Nat.le_of_ble_eq_true rfl) ?_
      simp only [List.set_cons_zero, List.set_cons_succ]
      refine G_iconst (v := nI 0) F dX8_runLayout_16 (by decide) ?_
      refine G_istore_n F 3 dX8_runLayout_17 rfl rfl rfl (Nat.le_of_ble_eq_true rfl) ?_
      simp only [List.set_cons_zero, List.set_cons_succ]
      have q := lp L 0 rfl (by omega)
      simp only [Nat.zero_min, sm] at q
      exact q
    · exact absurd h5 (by decide) --stop
  · refine G_if_ne (tgt := 10) F dX8_runLayout_5 (by decide) (fun h5 => ?_) (fun h5 => ?_)
    · exact absurd rfl h5 --stop
    · skip
      refine G_iconst (v := 0) F dX8_runLayout_8 rfl ?_
      refine G_iret F Rt dX8_runLayout_9 (rfl) ⟨rfl, rfl, _, rfl, ?_⟩ (Nat.le_refl _) (Nat.le_refl _)
      exact Or.inr (Or.inr h2)
