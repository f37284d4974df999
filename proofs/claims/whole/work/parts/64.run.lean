/-! THE REFERENCE: runs, profile, forms, costs -/
theorem lim_of {n : Int32} (h : 1 ≤ n ∧ n ≤ 500) : ∃ lim, 1 ≤ lim ∧ lim ≤ 500 ∧ n = nI lim := by
  obtain ⟨j, j1, j2⟩ := nI_of (x := n) (by
    have e1 : (1 : Int32).toInt = 1 := by decide
    have := h.1
    simp only [Int32.lt_iff_toInt_lt, Int32.le_iff_toInt_le, e1, i0] at *; omega)
  refine ⟨j, ?_, ?_, j2⟩
  · have := h.1
    rw [j2, show (1 : Int32) = nI 1 from by decide, nI_leI (by omega) j1] at this
    exact this
  · have := h.2
    rw [j2, show (500 : Int32) = nI 500 from by decide, nI_leI j1 (by omega)] at this
    exact this
set_option maxRecDepth 20000 in
theorem t_mayRun {l : Launch} {Z : fx_Z} (hl : l.stackTraces = false) (ad : Nat → Nat) (sw : Bool) (tl : List fx_Sh) (M : fx_M) {N : Nat} (n : Int32) (hN : M 37 0 = nI N) (hN16 : N ≤ 16) (hN1 : 1 ≤ N) (hv : pv N (M 39) (M 40) (M 41)) : CI l Z yX8_mayRun (.code yX8_mayRun cX8_mayRun 2 (some .boolean)) 1 [.ref (ad 37), .int n] ad (c_C sw ++ (m_C ++ tl)) M (fun r m => (¬ (1 ≤ n ∧ n ≤ 500) ∧ r = 0 ∧ m = fx_u M 37 13 1) ∨ (r = 1 ∧ ∃ lim L, 1 ≤ lim ∧ lim ≤ 500 ∧ n = nI lim ∧ xok (M 39) (M 40) (M 41) (M 42) lim L ∧ fr [37, 47, 48, 49, 50] M m ∧ m 37 = upd (upd (upd (M 37) 18 (nI L)) 17 (nI L)) 13 0 ∧ (∀ j, j < L → m 47 j = nI (tr (M 39) (M 40) (M 41) (M 42) j).1 ∧ m 48 j = nI (tr (M 39) (M 40) (M 41) (M 42) j).1 ∧ m 50 j = (if isF (M 39) (M 42) (tr (M 39) (M 40) (M 41) (M 42) j) then 1 else 0))) ∨ (r = 0 ∧ ∃ lim, 1 ≤ lim ∧ lim ≤ 500 ∧ n = nI lim ∧ xno (M 39) (M 40) (M 41) (M 42) lim ∧ fr [37, 48, 49, 50] M m ∧ m 37 13 = 2 ∧ ∀ j, j ≠ 18 → j ≠ 13 → m 37 j = M 37 j)) := by
  refine CT_of (ret := (some .boolean)) (lv0 := [some (.ref (ad 37)), some (.int n)]) (by decide +kernel) hl (by simp [Value.category]) (Nat.le_of_ble_eq_true rfl) rfl ?_
  intro X F Rt _
  refine G_aload_n F dX8_mayRun_0 rfl ?_
  refine G_iload_n F dX8_mayRun_1 rfl ?_
  refine G_iconst (v := 1) F dX8_mayRun_2 rfl ?_
  refine G_sipush (v := 500) F dX8_mayRun_3 rfl ?_
  refine G_sI F ms_X8_109 dX8_mayRun_6 (t_isIn hl ad _ M n 1 500) rfl rfl (Nat.le_of_ble_eq_true rfl) ⟨Nat.le_of_ble_eq_true rfl, Nat.le_of_ble_eq_true rfl, Nat.le_of_ble_eq_true rfl, Nat.le_of_ble_eq_true rfl⟩ (fun r6 M6 h6 => ?_)
  rw [h6.1, h6.2]
  refine G_if_ne (tgt := 16) F dX8_mayRun_9 (by decide) (fun h9 => ?_) (fun h9 => ?_)
  · have q9 : (1 ≤ n ∧ n ≤ 500) := by simpa using h9
    refine G_aload_n F dX8_mayRun_16 rfl ?_
    refine G_iload_n F dX8_mayRun_17 rfl ?_
    obtain ⟨lim, l1, l2, l3⟩ := lim_of q9
    subst l3
    refine G_vI F mv_X8_144 dX8_mayRun_18 (t_executes hl ad sw tl M (N := N) (lim := lim) hN hN16 hN1 hv l1 l2) rfl rfl rfl rfl (Nat.le_of_ble_eq_true rfl) ⟨Nat.le_of_ble_eq_true rfl, Nat.le_of_ble_eq_true rfl, Nat.le_of_ble_eq_true rfl, Nat.le_of_ble_eq_true rfl⟩ (fun r18 M18 h18 => ?_)
    rcases h18 with ⟨e1, L, e2, e3, e4, e5⟩ | ⟨e1, e2, e3, e4⟩
    · rw [e1]
      refine G_if_eq (tgt := 28) F dX8_mayRun_21 (by decide) (fun h21 => ?_) (fun h21 => ?_)
      · exact absurd h21 (by decide) --stop
      · skip
        refine G_iconst (v := 0) F dX8_mayRun_24 rfl ?_
        refine G_goto (tgt := 29) F dX8_mayRun_25 (by decide) ?_
        refine G_puti F fl_X8_103 dX8_mayRun_29 rfl rfl rfl rfl ?_
        refine G_aload_n F dX8_mayRun_32 rfl ?_
        refine G_geti F fl_X8_103 dX8_mayRun_33 rfl rfl ?_
        try simp only [fx_u_at, Nat.reduceEqDiff, false_and, and_false, true_and, and_true, ↓reduceIte]
        refine G_if_ne (tgt := 43) F dX8_mayRun_36 (by decide) (fun h36 => ?_) (fun h36 => ?_)
        · exact absurd rfl h36 --stop
        · skip
          refine G_iconst (v := 1) F dX8_mayRun_39 rfl ?_
          refine G_goto (tgt := 44) F dX8_mayRun_40 (by decide) ?_
          refine G_iret F Rt dX8_mayRun_44 (rfl) ⟨rfl, rfl, _, rfl, ?_⟩ (Nat.le_refl _) (Nat.le_refl _)
          exact Or.inr (Or.inl ⟨rfl, lim, L, l1, l2, rfl, e2, e3.u (by decide), by rw [fx_u_eq, e4], fun j hj => by rw [fx_u_ne (by decide), fx_u_ne (by decide), fx_u_ne (by decide)]; exact e5 j hj⟩)
    · rw [e1]
      refine G_if_eq (tgt := 28) F dX8_mayRun_21 (by decide) (fun h21 => ?_) (fun h21 => ?_)
      · skip
        refine G_iconst (v := 2) F dX8_mayRun_28 rfl ?_
        refine G_puti F fl_X8_103 dX8_mayRun_29 rfl rfl rfl rfl ?_
        refine G_aload_n F dX8_mayRun_32 rfl ?_
        refine G_geti F fl_X8_103 dX8_mayRun_33 rfl rfl ?_
        try simp only [fx_u_at, Nat.reduceEqDiff, false_and, and_false, true_and, and_true, ↓reduceIte]
        refine G_if_ne (tgt := 43) F dX8_mayRun_36 (by decide) (fun h36 => ?_) (fun h36 => ?_)
        · skip
          refine G_iconst (v := 0) F dX8_mayRun_43 rfl ?_
          refine G_iret F Rt dX8_mayRun_44 (rfl) ⟨rfl, rfl, _, rfl, ?_⟩ (Nat.le_refl _) (Nat.le_refl _)
          exact Or.inr (Or.inr ⟨rfl, lim, l1, l2, rfl, e2, e3.u (by decide), by simp [fx_u_at], fun j j1 j2 => by simp only [fx_u_at, j2, and_false, if_false]; exact e4 j j1⟩)
        · exact absurd h36 (by decide) --stop
      · exact absurd rfl h21 --stop
  · have q9 : ¬ (1 ≤ n ∧ n ≤ 500) := by simpa using h9
    refine G_iconst (v := 1) F dX8_mayRun_12 rfl ?_
    refine G_goto (tgt := 29) F dX8_mayRun_13 (by decide) ?_
    refine G_puti F fl_X8_103 dX8_mayRun_29 rfl rfl rfl rfl ?_
    refine G_aload_n F dX8_mayRun_32 rfl ?_
    refine G_geti F fl_X8_103 dX8_mayRun_33 rfl rfl ?_
    try simp only [fx_u_at, Nat.reduceEqDiff, false_and, and_false, true_and, and_true, ↓reduceIte]
    refine G_if_ne (tgt := 43) F dX8_mayRun_36 (by decide) (fun h36 => ?_) (fun h36 => ?_)
    · skip
      refine G_iconst (v := 0) F dX8_mayRun_43 rfl ?_
      refine G_iret F Rt dX8_mayRun_44 (rfl) ⟨rfl, rfl, _, rfl, ?_⟩ (Nat.le_refl _) (Nat.le_refl _)
      exact Or.inl ⟨q9, rfl, rfl⟩
    · exact absurd h36 (by decide) --stop
theorem upd_same {f : Nat → Int32} {b : Nat} {x : Int32} (h : f b = x) : upd f b x = f := by
  funext j
  simp only [upd]
  split
  · rename_i e; rw [e, h]
  · rfl
/-- a step goes by the first target just where the first target comes next -/
theorem isF_eq {N : Nat} {kd f s p : Nat → Int32} (hN : N ≤ 16) (hv : pv N kd f s) {i : Nat} (hx : (tr kd f s p i).1 < N) (hk : kd (tr kd f s p i).1 ≠ 2) : isF kd p (tr kd f s p i) = decide (f (tr kd f s p i).1 = nI (tr kd f s p (i + 1)).1) := by
  have h := (isF_next (p := p) hN hv hx hk).1
  show _ = decide (f (tr kd f s p i).1 = nI (tq kd f s p (tr kd f s p i)).1)
  cases hF : isF kd p (tr kd f s p i)
  · rw [hF] at h
    rw [← h]
    symm
    apply decide_eq_false
    rcases hv _ hx with ⟨p1, -, -⟩ | ⟨p1, -, -⟩ | ⟨p1, -, -, p4⟩
    · exact absurd p1 hk
    · simp [isF, p1] at hF
    · exact p4
  · rw [hF] at h
    rw [← h]
    simp
set_option maxRecDepth 20000 in
theorem t_run {l : Launch} {Z : fx_Z} (hl : l.stackTraces = false) (ad : Nat → Nat) (sw : Bool) (tl : List fx_Sh) (M : fx_M) {N : Nat} (n : Int32) (hN : M 37 0 = nI N) (hN16 : N ≤ 16) (hN1 : 1 ≤ N) (hv : pv N (M 39) (M 40) (M 41)) : CI l Z yX8_run (.code yX8_run cX8_run 4 (some .int)) 2 [.ref (ad 37), .int n] ad (c_C sw ++ (m_C ++ tl)) M (fun r m => (¬ (1 ≤ n ∧ n ≤ 500) ∧ m = fx_u M 37 13 1) ∨ (∃ lim L, 1 ≤ lim ∧ lim ≤ 500 ∧ n = nI lim ∧ xok (M 39) (M 40) (M 41) (M 42) lim L ∧ r = nI L ∧ fr [37, 43, 44, 45, 47, 48, 49, 50] M m ∧ m 37 = upd (upd (upd (M 37) 18 (nI L)) 17 (nI L)) 13 0 ∧ (∀ j, j < L → m 47 j = nI (tr (M 39) (M 40) (M 41) (M 42) j).1 ∧ m 48 j = nI (tr (M 39) (M 40) (M 41) (M 42) j).1 ∧ m 50 j = (if isF (M 39) (M 42) (tr (M 39) (M 40) (M 41) (M 42) j) then 1 else 0)) ∧ m 43 = apc (fun j => (tr (M 39) (M 40) (M 41) (M 42) j).1) (M 43) L ∧ m 44 = ap1 (fun j => (tr (M 39) (M 40) (M 41) (M 42) j).1) (M 40) (M 44) (L - 1) ∧ m 45 = ap2 (fun j => (tr (M 39) (M 40) (M 41) (M 42) j).1) (M 40) (M 45) (L - 1)) ∨ (∃ lim, 1 ≤ lim ∧ lim ≤ 500 ∧ n = nI lim ∧ xno (M 39) (M 40) (M 41) (M 42) lim ∧ fr [37, 48, 49, 50] M m ∧ m 37 13 = 2 ∧ ∀ j, j ≠ 18 → j ≠ 13 → m 37 j = M 37 j)) := by
  refine CT_of (ret := (some .int)) (lv0 := [some (.ref (ad 37)), some (.int n), none, none]) (by decide +kernel) hl (by simp [Value.category]) (Nat.le_of_ble_eq_true rfl) rfl ?_
  intro X F Rt _
  refine G_aload_n F dX8_run_0 rfl ?_
  refine G_iload_n F dX8_run_1 rfl ?_
  refine G_vI F mv_X8_147 dX8_run_2 (t_mayRun hl ad sw tl M (N := N) n hN hN16 hN1 hv) rfl rfl rfl rfl (Nat.le_of_ble_eq_true rfl) ⟨Nat.le_of_ble_eq_true rfl, Nat.le_of_ble_eq_true rfl, Nat.le_of_ble_eq_true rfl, Nat.le_of_ble_eq_true rfl⟩ (fun r2 M1 h2 => ?_)
  rcases h2 with ⟨e1, e2, e3⟩ | ⟨e1, lim, L, l1, l2, l3, e4, e5, e6, e7⟩ | ⟨e1, e2⟩
  · rw [e2, e3]
    refine G_if_ne (tgt := 10) F dX8_run_5 (by decide) (fun h5 => ?_) (fun h5 => ?_)
    · exact absurd rfl h5 --stop
    · skip
      refine G_iconst (v := 0) F dX8_run_8 rfl ?_
      refine G_iret F Rt dX8_run_9 (rfl) ⟨rfl, rfl, _, rfl, ?_⟩ (Nat.le_refl _) (Nat.le_refl _)
      exact Or.inl ⟨e1, rfl⟩
  · rw [e1]
    subst l3
    have h500 : L ≤ 500 := by have := e4.2.1; omega
    have lp : ∀ (k : Nat) (k0 : Nat) (M' : fx_M), k = L - k0 → k0 ≤ L → fr [43, 44, 45] M1 M' → M' 43 = apc (fun j => (tr (M 39) (M 40) (M 41) (M 42) j).1) (M 43) k0 → M' 44 = ap1 (fun j => (tr (M 39) (M 40) (M 41) (M 42) j).1) (M 40) (M 44) (min k0 (L - 1)) → M' 45 = ap2 (fun j => (tr (M 39) (M 40) (M 41) (M 42) j).1) (M 40) (M 45) (min k0 (L - 1)) → GG X ad 12 [some (.ref (ad 37)), some (.int (nI lim)), some (.int (nI k0)), none] [] 0 0 (c_C sw ++ (m_C ++ tl)) M' := by
      intro k
      induction k using Nat.strongRecOn with
      | _ k ih =>
        intro k0 M' hk hk0 g1 g2 g3 g4
        have c18 : M' 37 18 = nI L := by rw [g1 37 (by decide), e6]; simp [upd]
        have m39 : M' 39 = M 39 := by rw [g1 39 (by decide), e5 39 (by decide)]
        refine G_iload_n F dX8_run_12 rfl ?_
        refine G_aload_n F dX8_run_13 rfl ?_
        refine G_geti F fl_X8_138 dX8_run_14 rfl rfl ?_
        try simp only [fx_u_at, Nat.reduceEqDiff, false_and, and_false, true_and, and_true, ↓reduceIte]
        rw [c18]
        refine G_icmp_ge (tgt := 109) F dX8_run_17 (by decide) (fun h17 => ?_) (fun h17 => ?_)
        · rw [nI_leI (by omega) (by omega)] at h17
          have hkL : k0 = L := by omega
          subst hkL
          refine G_aload_n F dX8_run_109 rfl ?_
          refine G_geti F fl_X8_138 dX8_run_110 rfl rfl ?_
          try simp only [fx_u_at, Nat.reduceEqDiff, false_and, and_false, true_and, and_true, ↓reduceIte]
          rw [c18]
          refine G_iret F Rt dX8_run_113 (rfl) ⟨rfl, rfl, _, rfl, ?_⟩ (Nat.le_refl _) (Nat.le_refl _)
          refine Or.inr (Or.inl ⟨lim, k0, l1, l2, rfl, e4, rfl, fun k hk => ?_, by rw [g1 37 (by decide)]; exact e6, fun j hj => ?_, g2, ?_, ?_⟩)
          · simp only [List.mem_cons, List.not_mem_nil, or_false, not_or] at hk
            rw [g1 k (by simp [hk]), e5 k (by simp [hk])]
          · rw [g1 47 (by decide), g1 48 (by decide), g1 50 (by decide)]; exact e7 j hj
          · rw [g3, show min k0 (k0 - 1) = k0 - 1 from by omega]
          · rw [g4, show min k0 (k0 - 1) = k0 - 1 from by omega]
        · rw [nI_leI (by omega) (by omega)] at h17
          have hgo : M' 48 k0 = nI (tr (M 39) (M 40) (M 41) (M 42) k0).1 := by rw [g1 48 (by decide)]; exact (e7 k0 (by omega)).2.1
          have hi50 : M' 50 k0 = (if isF (M 39) (M 42) (tr (M 39) (M 40) (M 41) (M 42) k0) then 1 else 0) := by rw [g1 50 (by decide)]; exact (e7 k0 (by omega)).2.2
          have hbN : (tr (M 39) (M 40) (M 41) (M 42) k0).1 < N := tr_in hN16 hN1 hv k0 (fun j hj => e4.2.2.2 j (by omega))
          refine G_aload_n F dX8_run_20 rfl ?_
          refine G_getr F fl_X8_47 dX8_run_21 rfl rfl ?_
          refine G_iload_n F dX8_run_24 rfl ?_
          refine G_ialdN F dX8_run_25 rfl (by omega) (by decide) ?_
          try simp only [fx_u_at, Nat.reduceEqDiff, false_and, and_false, true_and, and_true, ↓reduceIte]
          rw [hgo]
          refine G_istore_n F 3 dX8_run_26 rfl rfl rfl (Nat.le_of_ble_eq_true rfl) ?_
          simp only [List.set_cons_zero, List.set_cons_succ]
          refine G_aload_n F dX8_run_27 rfl ?_
          refine G_getr F fl_X8_32 dX8_run_28 rfl rfl ?_
          refine G_iload_n F dX8_run_31 rfl ?_
          refine G_dup2 F dX8_run_32 rfl rfl ?_
          refine G_ialdN F dX8_run_33 rfl (by omega) (by decide) ?_
          try simp only [fx_u_at, Nat.reduceEqDiff, false_and, and_false, true_and, and_true, ↓reduceIte]
          refine G_iconst (v := 1) F dX8_run_34 rfl ?_
          refine G_iadd F dX8_run_35 ?_
          refine G_iastN F dX8_run_36 rfl (by omega) (by decide) ?_
          refine G_aload_n F dX8_run_37 rfl ?_
          refine G_getr F fl_X8_35 dX8_run_38 rfl rfl ?_
          refine G_iload_n F dX8_run_41 rfl ?_
          refine G_dup2 F dX8_run_42 rfl rfl ?_
          refine G_ialdN F dX8_run_43 rfl (by omega) (by decide) ?_
          try simp only [fx_u_at, Nat.reduceEqDiff, false_and, and_false, true_and, and_true, ↓reduceIte]
          refine G_aload_n F dX8_run_44 rfl ?_
          refine G_getr F fl_X8_20 dX8_run_45 rfl rfl ?_
          refine G_iload_n F dX8_run_48 rfl ?_
          refine G_ialdN F dX8_run_49 rfl (by omega) (by decide) ?_
          try simp only [fx_u_at, Nat.reduceEqDiff, false_and, and_false, true_and, and_true, ↓reduceIte]
          refine G_iconst (v := 2) F dX8_run_50 rfl ?_
          rw [m39]
          refine G_icmp_eq (tgt := 67) F dX8_run_51 (by decide) (fun h51 => ?_) (fun h51 => ?_)
          · refine G_iconst (v := 0) F dX8_run_67 rfl ?_
            refine G_iadd F dX8_run_68 ?_
            refine G_iastN F dX8_run_69 rfl (by omega) (by decide) ?_
            refine G_aload_n F dX8_run_70 rfl ?_
            refine G_getr F fl_X8_38 dX8_run_71 rfl rfl ?_
            refine G_iload_n F dX8_run_74 rfl ?_
            refine G_dup2 F dX8_run_75 rfl rfl ?_
            refine G_ialdN F dX8_run_76 rfl (by omega) (by decide) ?_
            try simp only [fx_u_at, Nat.reduceEqDiff, false_and, and_false, true_and, and_true, ↓reduceIte]
            refine G_aload_n F dX8_run_77 rfl ?_
            refine G_getr F fl_X8_20 dX8_run_78 rfl rfl ?_
            refine G_iload_n F dX8_run_81 rfl ?_
            refine G_ialdN F dX8_run_82 rfl (by omega) (by decide) ?_
            try simp only [fx_u_at, Nat.reduceEqDiff, false_and, and_false, true_and, and_true, ↓reduceIte]
            refine G_iconst (v := 1) F dX8_run_83 rfl ?_
            rw [m39]
            refine G_icmp_ne (tgt := 100) F dX8_run_84 (by decide) (fun h84 => ?_) (fun h84 => ?_)
            · refine G_iconst (v := 0) F dX8_run_100 rfl ?_
              refine G_iadd F dX8_run_101 ?_
              refine G_iastN F dX8_run_102 rfl (by omega) (by decide) ?_
              refine G_iinc F (1) dX8_run_103 rfl rfl rfl rfl ?_
              simp only [List.set_cons_zero, List.set_cons_succ, nI_1]
              refine G_goto (tgt := 12) F dX8_run_106 (by decide) ?_
              have hlast : k0 + 1 = L := Classical.byContradiction fun q => e4.2.2.2 k0 (by omega) h51
              have em : min (k0 + 1) (L - 1) = min k0 (L - 1) := by omega
              have hw1 : ∀ w : Nat → Int32, w = ap1 (fun j => (tr (M 39) (M 40) (M 41) (M 42) j).1) (M 40) (M 44) (min k0 (L - 1)) → upd w (tr (M 39) (M 40) (M 41) (M 42) k0).1 (w (tr (M 39) (M 40) (M 41) (M 42) k0).1 + 0) = ap1 (fun j => (tr (M 39) (M 40) (M 41) (M 42) j).1) (M 40) (M 44) (min (k0 + 1) (L - 1)) := fun w hw => by rw [em, ← hw, Int32.add_zero, upd_same rfl]
              have hw2 : ∀ w : Nat → Int32, w = ap2 (fun j => (tr (M 39) (M 40) (M 41) (M 42) j).1) (M 40) (M 45) (min k0 (L - 1)) → upd w (tr (M 39) (M 40) (M 41) (M 42) k0).1 (w (tr (M 39) (M 40) (M 41) (M 42) k0).1 + 0) = ap2 (fun j => (tr (M 39) (M 40) (M 41) (M 42) j).1) (M 40) (M 45) (min (k0 + 1) (L - 1)) := fun w hw => by rw [em, ← hw, Int32.add_zero, upd_same rfl]
              refine G_drop F 3 ?_
              simp only [List.set_cons_zero, List.set_cons_succ]
              refine ih (L - (k0 + 1)) (by omega) (k0 + 1) _ rfl (by omega) (((g1.u (by decide)).u (by decide)).u (by decide)) ?_ ?_ ?_
              · rw [fx_u_ne (by decide), fx_u_ne (by decide), fx_u_eq, g2]; rfl
              · rw [fx_u_ne (by decide), fx_u_eq, fx_u_ne (by decide)]
                exact (hw1 _ g3)
              · rw [fx_u_eq, fx_u_ne (by decide), fx_u_ne (by decide)]
                exact (hw2 _ g4)
            · refine G_aload_n F dX8_run_87 rfl ?_
              refine G_getr F fl_X8_53 dX8_run_88 rfl rfl ?_
              refine G_iload_n F dX8_run_91 rfl ?_
              refine G_zaldN F dX8_run_92 rfl (by omega) (by decide) ?_
              try simp only [fx_u_at, Nat.reduceEqDiff, false_and, and_false, true_and, and_true, ↓reduceIte]
              rw [hi50]
              refine G_if_ne (tgt := 100) F dX8_run_93 (by decide) (fun h93 => ?_) (fun h93 => ?_)
              · have hF9 : isF (M 39) (M 42) (tr (M 39) (M 40) (M 41) (M 42) k0) = true := by simpa using h93
                refine G_iconst (v := 0) F dX8_run_100 rfl ?_
                refine G_iadd F dX8_run_101 ?_
                refine G_iastN F dX8_run_102 rfl (by omega) (by decide) ?_
                refine G_iinc F (1) dX8_run_103 rfl rfl rfl rfl ?_
                simp only [List.set_cons_zero, List.set_cons_succ, nI_1]
                refine G_goto (tgt := 12) F dX8_run_106 (by decide) ?_
                exact absurd (h51.symm.trans h84) (by decide)
              · have hF9 : isF (M 39) (M 42) (tr (M 39) (M 40) (M 41) (M 42) k0) = false := by simpa using h93
                refine G_iconst (v := 1) F dX8_run_96 rfl ?_
                refine G_goto (tgt := 101) F dX8_run_97 (by decide) ?_
                refine G_iadd F dX8_run_101 ?_
                refine G_iastN F dX8_run_102 rfl (by omega) (by decide) ?_
                refine G_iinc F (1) dX8_run_103 rfl rfl rfl rfl ?_
                simp only [List.set_cons_zero, List.set_cons_succ, nI_1]
                refine G_goto (tgt := 12) F dX8_run_106 (by decide) ?_
                exact absurd (h51.symm.trans h84) (by decide)
          · refine G_aload_n F dX8_run_54 rfl ?_
            refine G_getr F fl_X8_53 dX8_run_55 rfl rfl ?_
            refine G_iload_n F dX8_run_58 rfl ?_
            refine G_zaldN F dX8_run_59 rfl (by omega) (by decide) ?_
            try simp only [fx_u_at, Nat.reduceEqDiff, false_and, and_false, true_and, and_true, ↓reduceIte]
            rw [hi50]
            refine G_if_eq (tgt := 67) F dX8_run_60 (by decide) (fun h60 => ?_) (fun h60 => ?_)
            · have hF : isF (M 39) (M 42) (tr (M 39) (M 40) (M 41) (M 42) k0) = false := by simpa using h60
              refine G_iconst (v := 0) F dX8_run_67 rfl ?_
              refine G_iadd F dX8_run_68 ?_
              refine G_iastN F dX8_run_69 rfl (by omega) (by decide) ?_
              refine G_aload_n F dX8_run_70 rfl ?_
              refine G_getr F fl_X8_38 dX8_run_71 rfl rfl ?_
              refine G_iload_n F dX8_run_74 rfl ?_
              refine G_dup2 F dX8_run_75 rfl rfl ?_
              refine G_ialdN F dX8_run_76 rfl (by omega) (by decide) ?_
              try simp only [fx_u_at, Nat.reduceEqDiff, false_and, and_false, true_and, and_true, ↓reduceIte]
              refine G_aload_n F dX8_run_77 rfl ?_
              refine G_getr F fl_X8_20 dX8_run_78 rfl rfl ?_
              refine G_iload_n F dX8_run_81 rfl ?_
              refine G_ialdN F dX8_run_82 rfl (by omega) (by decide) ?_
              try simp only [fx_u_at, Nat.reduceEqDiff, false_and, and_false, true_and, and_true, ↓reduceIte]
              refine G_iconst (v := 1) F dX8_run_83 rfl ?_
              rw [m39]
              refine G_icmp_ne (tgt := 100) F dX8_run_84 (by decide) (fun h84 => ?_) (fun h84 => ?_)
              · refine G_iconst (v := 0) F dX8_run_100 rfl ?_
                refine G_iadd F dX8_run_101 ?_
                refine G_iastN F dX8_run_102 rfl (by omega) (by decide) ?_
                refine G_iinc F (1) dX8_run_103 rfl rfl rfl rfl ?_
                simp only [List.set_cons_zero, List.set_cons_succ, nI_1]
                refine G_goto (tgt := 12) F dX8_run_106 (by decide) ?_
                exfalso
                rcases hv _ hbN with ⟨p1, -, -⟩ | ⟨p1, -, -⟩ | ⟨p1, -, -, -⟩
                · exact h51 p1
                · simp [isF, p1] at hF
                · exact h84 p1
              · refine G_aload_n F dX8_run_87 rfl ?_
                refine G_getr F fl_X8_53 dX8_run_88 rfl rfl ?_
                refine G_iload_n F dX8_run_91 rfl ?_
                refine G_zaldN F dX8_run_92 rfl (by omega) (by decide) ?_
                try simp only [fx_u_at, Nat.reduceEqDiff, false_and, and_false, true_and, and_true, ↓reduceIte]
                rw [hi50]
                refine G_if_ne (tgt := 100) F dX8_run_93 (by decide) (fun h93 => ?_) (fun h93 => ?_)
                · have hF9 : isF (M 39) (M 42) (tr (M 39) (M 40) (M 41) (M 42) k0) = true := by simpa using h93
                  refine G_iconst (v := 0) F dX8_run_100 rfl ?_
                  refine G_iadd F dX8_run_101 ?_
                  refine G_iastN F dX8_run_102 rfl (by omega) (by decide) ?_
                  refine G_iinc F (1) dX8_run_103 rfl rfl rfl rfl ?_
                  simp only [List.set_cons_zero, List.set_cons_succ, nI_1]
                  refine G_goto (tgt := 12) F dX8_run_106 (by decide) ?_
                  rw [hF] at hF9; exact Bool.noConfusion hF9
                · have hF9 : isF (M 39) (M 42) (tr (M 39) (M 40) (M 41) (M 42) k0) = false := by simpa using h93
                  refine G_iconst (v := 1) F dX8_run_96 rfl ?_
                  refine G_goto (tgt := 101) F dX8_run_97 (by decide) ?_
                  refine G_iadd F dX8_run_101 ?_
                  refine G_iastN F dX8_run_102 rfl (by omega) (by decide) ?_
                  refine G_iinc F (1) dX8_run_103 rfl rfl rfl rfl ?_
                  simp only [List.set_cons_zero, List.set_cons_succ, nI_1]
                  refine G_goto (tgt := 12) F dX8_run_106 (by decide) ?_
                  have hL1 : k0 + 1 < L := by
                    apply Classical.byContradiction
                    intro q
                    have e9 : k0 = L - 1 := by omega
                    have := e4.2.2.1
                    rw [← e9] at this
                    exact h51 this
                  have hFe := isF_eq (p := M 42) hN16 hv hbN h51
                  have hc : ¬ M 40 (tr (M 39) (M 40) (M 41) (M 42) k0).1 = nI (tr (M 39) (M 40) (M 41) (M 42) (k0 + 1)).1 := by rw [hF] at hFe; simpa using hFe.symm
                  have em : min (k0 + 1) (L - 1) = min k0 (L - 1) + 1 := by omega
                  have ek : min k0 (L - 1) = k0 := by omega
                  have hw1 : ∀ w : Nat → Int32, w = ap1 (fun j => (tr (M 39) (M 40) (M 41) (M 42) j).1) (M 40) (M 44) (min k0 (L - 1)) → upd w (tr (M 39) (M 40) (M 41) (M 42) k0).1 (w (tr (M 39) (M 40) (M 41) (M 42) k0).1 + 0) = ap1 (fun j => (tr (M 39) (M 40) (M 41) (M 42) j).1) (M 40) (M 44) (min (k0 + 1) (L - 1)) := fun w hw => by
                    rw [em, ek]
                    rw [ek] at hw
                    simp only [ap1]
                    rw [if_neg hc, ← hw]
                    rw [Int32.add_zero, upd_same rfl]
                  have hw2 : ∀ w : Nat → Int32, w = ap2 (fun j => (tr (M 39) (M 40) (M 41) (M 42) j).1) (M 40) (M 45) (min k0 (L - 1)) → upd w (tr (M 39) (M 40) (M 41) (M 42) k0).1 (w (tr (M 39) (M 40) (M 41) (M 42) k0).1 + 1) = ap2 (fun j => (tr (M 39) (M 40) (M 41) (M 42) j).1) (M 40) (M 45) (min (k0 + 1) (L - 1)) := fun w hw => by
                    rw [em, ek]
                    rw [ek] at hw
                    simp only [ap2]
                    rw [if_neg hc, ← hw]
                  
                  refine G_drop F 3 ?_
                  simp only [List.set_cons_zero, List.set_cons_succ]
                  refine ih (L - (k0 + 1)) (by omega) (k0 + 1) _ rfl (by omega) (((g1.u (by decide)).u (by decide)).u (by decide)) ?_ ?_ ?_
                  · rw [fx_u_ne (by decide), fx_u_ne (by decide), fx_u_eq, g2]; rfl
                  · rw [fx_u_ne (by decide), fx_u_eq, fx_u_ne (by decide)]
                    exact (hw1 _ g3)
                  · rw [fx_u_eq, fx_u_ne (by decide), fx_u_ne (by decide)]
                    exact (hw2 _ g4)
            · have hF : isF (M 39) (M 42) (tr (M 39) (M 40) (M 41) (M 42) k0) = true := by simpa using h60
              refine G_iconst (v := 1) F dX8_run_63 rfl ?_
              refine G_goto (tgt := 68) F dX8_run_64 (by decide) ?_
              refine G_iadd F dX8_run_68 ?_
              refine G_iastN F dX8_run_69 rfl (by omega) (by decide) ?_
              refine G_aload_n F dX8_run_70 rfl ?_
              refine G_getr F fl_X8_38 dX8_run_71 rfl rfl ?_
              refine G_iload_n F dX8_run_74 rfl ?_
              refine G_dup2 F dX8_run_75 rfl rfl ?_
              refine G_ialdN F dX8_run_76 rfl (by omega) (by decide) ?_
              try simp only [fx_u_at, Nat.reduceEqDiff, false_and, and_false, true_and, and_true, ↓reduceIte]
              refine G_aload_n F dX8_run_77 rfl ?_
              refine G_getr F fl_X8_20 dX8_run_78 rfl rfl ?_
              refine G_iload_n F dX8_run_81 rfl ?_
              refine G_ialdN F dX8_run_82 rfl (by omega) (by decide) ?_
              try simp only [fx_u_at, Nat.reduceEqDiff, false_and, and_false, true_and, and_true, ↓reduceIte]
              refine G_iconst (v := 1) F dX8_run_83 rfl ?_
              rw [m39]
              refine G_icmp_ne (tgt := 100) F dX8_run_84 (by decide) (fun h84 => ?_) (fun h84 => ?_)
              · refine G_iconst (v := 0) F dX8_run_100 rfl ?_
                refine G_iadd F dX8_run_101 ?_
                refine G_iastN F dX8_run_102 rfl (by omega) (by decide) ?_
                refine G_iinc F (1) dX8_run_103 rfl rfl rfl rfl ?_
                simp only [List.set_cons_zero, List.set_cons_succ, nI_1]
                refine G_goto (tgt := 12) F dX8_run_106 (by decide) ?_
                have hL1 : k0 + 1 < L := by
                  apply Classical.byContradiction
                  intro q
                  have e9 : k0 = L - 1 := by omega
                  have := e4.2.2.1
                  rw [← e9] at this
                  exact h51 this
                have hFe := isF_eq (p := M 42) hN16 hv hbN h51
                have hc : M 40 (tr (M 39) (M 40) (M 41) (M 42) k0).1 = nI (tr (M 39) (M 40) (M 41) (M 42) (k0 + 1)).1 := by rw [hF] at hFe; simpa using hFe.symm
                have em : min (k0 + 1) (L - 1) = min k0 (L - 1) + 1 := by omega
                have ek : min k0 (L - 1) = k0 := by omega
                have hw1 : ∀ w : Nat → Int32, w = ap1 (fun j => (tr (M 39) (M 40) (M 41) (M 42) j).1) (M 40) (M 44) (min k0 (L - 1)) → upd w (tr (M 39) (M 40) (M 41) (M 42) k0).1 (w (tr (M 39) (M 40) (M 41) (M 42) k0).1 + 1) = ap1 (fun j => (tr (M 39) (M 40) (M 41) (M 42) j).1) (M 40) (M 44) (min (k0 + 1) (L - 1)) := fun w hw => by
                  rw [em, ek]
                  rw [ek] at hw
                  simp only [ap1]
                  rw [if_pos hc, ← hw]
                
                have hw2 : ∀ w : Nat → Int32, w = ap2 (fun j => (tr (M 39) (M 40) (M 41) (M 42) j).1) (M 40) (M 45) (min k0 (L - 1)) → upd w (tr (M 39) (M 40) (M 41) (M 42) k0).1 (w (tr (M 39) (M 40) (M 41) (M 42) k0).1 + 0) = ap2 (fun j => (tr (M 39) (M 40) (M 41) (M 42) j).1) (M 40) (M 45) (min (k0 + 1) (L - 1)) := fun w hw => by
                  rw [em, ek]
                  rw [ek] at hw
                  simp only [ap2]
                  rw [if_pos hc, ← hw]
                  rw [Int32.add_zero, upd_same rfl]
                refine G_drop F 3 ?_
                simp only [List.set_cons_zero, List.set_cons_succ]
                refine ih (L - (k0 + 1)) (by omega) (k0 + 1) _ rfl (by omega) (((g1.u (by decide)).u (by decide)).u (by decide)) ?_ ?_ ?_
                · rw [fx_u_ne (by decide), fx_u_ne (by decide), fx_u_eq, g2]; rfl
                · rw [fx_u_ne (by decide), fx_u_eq, fx_u_ne (by decide)]
                  exact (hw1 _ g3)
                · rw [fx_u_eq, fx_u_ne (by decide), fx_u_ne (by decide)]
                  exact (hw2 _ g4)
              · refine G_aload_n F dX8_run_87 rfl ?_
                refine G_getr F fl_X8_53 dX8_run_88 rfl rfl ?_
                refine G_iload_n F dX8_run_91 rfl ?_
                refine G_zaldN F dX8_run_92 rfl (by omega) (by decide) ?_
                try simp only [fx_u_at, Nat.reduceEqDiff, false_and, and_false, true_and, and_true, ↓reduceIte]
                rw [hi50]
                refine G_if_ne (tgt := 100) F dX8_run_93 (by decide) (fun h93 => ?_) (fun h93 => ?_)
                · have hF9 : isF (M 39) (M 42) (tr (M 39) (M 40) (M 41) (M 42) k0) = true := by simpa using h93
                  refine G_iconst (v := 0) F dX8_run_100 rfl ?_
                  refine G_iadd F dX8_run_101 ?_
                  refine G_iastN F dX8_run_102 rfl (by omega) (by decide) ?_
                  refine G_iinc F (1) dX8_run_103 rfl rfl rfl rfl ?_
                  simp only [List.set_cons_zero, List.set_cons_succ, nI_1]
                  refine G_goto (tgt := 12) F dX8_run_106 (by decide) ?_
                  have hL1 : k0 + 1 < L := by
                    apply Classical.byContradiction
                    intro q
                    have e9 : k0 = L - 1 := by omega
                    have := e4.2.2.1
                    rw [← e9] at this
                    exact h51 this
                  have hFe := isF_eq (p := M 42) hN16 hv hbN h51
                  have hc : M 40 (tr (M 39) (M 40) (M 41) (M 42) k0).1 = nI (tr (M 39) (M 40) (M 41) (M 42) (k0 + 1)).1 := by rw [hF] at hFe; simpa using hFe.symm
                  have em : min (k0 + 1) (L - 1) = min k0 (L - 1) + 1 := by omega
                  have ek : min k0 (L - 1) = k0 := by omega
                  have hw1 : ∀ w : Nat → Int32, w = ap1 (fun j => (tr (M 39) (M 40) (M 41) (M 42) j).1) (M 40) (M 44) (min k0 (L - 1)) → upd w (tr (M 39) (M 40) (M 41) (M 42) k0).1 (w (tr (M 39) (M 40) (M 41) (M 42) k0).1 + 1) = ap1 (fun j => (tr (M 39) (M 40) (M 41) (M 42) j).1) (M 40) (M 44) (min (k0 + 1) (L - 1)) := fun w hw => by
                    rw [em, ek]
                    rw [ek] at hw
                    simp only [ap1]
                    rw [if_pos hc, ← hw]
                  
                  have hw2 : ∀ w : Nat → Int32, w = ap2 (fun j => (tr (M 39) (M 40) (M 41) (M 42) j).1) (M 40) (M 45) (min k0 (L - 1)) → upd w (tr (M 39) (M 40) (M 41) (M 42) k0).1 (w (tr (M 39) (M 40) (M 41) (M 42) k0).1 + 0) = ap2 (fun j => (tr (M 39) (M 40) (M 41) (M 42) j).1) (M 40) (M 45) (min (k0 + 1) (L - 1)) := fun w hw => by
                    rw [em, ek]
                    rw [ek] at hw
                    simp only [ap2]
                    rw [if_pos hc, ← hw]
                    rw [Int32.add_zero, upd_same rfl]
                  refine G_drop F 3 ?_
                  simp only [List.set_cons_zero, List.set_cons_succ]
                  refine ih (L - (k0 + 1)) (by omega) (k0 + 1) _ rfl (by omega) (((g1.u (by decide)).u (by decide)).u (by decide)) ?_ ?_ ?_
                  · rw [fx_u_ne (by decide), fx_u_ne (by decide), fx_u_eq, g2]; rfl
                  · rw [fx_u_ne (by decide), fx_u_eq, fx_u_ne (by decide)]
                    exact (hw1 _ g3)
                  · rw [fx_u_eq, fx_u_ne (by decide), fx_u_ne (by decide)]
                    exact (hw2 _ g4)
                · have hF9 : isF (M 39) (M 42) (tr (M 39) (M 40) (M 41) (M 42) k0) = false := by simpa using h93
                  refine G_iconst (v := 1) F dX8_run_96 rfl ?_
                  refine G_goto (tgt := 101) F dX8_run_97 (by decide) ?_
                  refine G_iadd F dX8_run_101 ?_
                  refine G_iastN F dX8_run_102 rfl (by omega) (by decide) ?_
                  refine G_iinc F (1) dX8_run_103 rfl rfl rfl rfl ?_
                  simp only [List.set_cons_zero, List.set_cons_succ, nI_1]
                  refine G_goto (tgt := 12) F dX8_run_106 (by decide) ?_
                  rw [hF] at hF9; exact Bool.noConfusion hF9
    refine G_if_ne (tgt := 10) F dX8_run_5 (by decide) (fun h5 => ?_) (fun h5 => ?_)
    · skip
      refine G_iconst (v := nI 0) F dX8_run_10 (by decide) ?_
      refine G_istore_n F 2 dX8_run_11 rfl rfl rfl (Nat.le_of_ble_eq_true rfl) ?_
      simp only [List.set_cons_zero, List.set_cons_succ]
      exact lp L 0 M1 rfl (by omega) fr.rfl (by rw [e5 43 (by decide)]; rfl) (by rw [e5 44 (by decide), Nat.zero_min]; rfl) (by rw [e5 45 (by decide), Nat.zero_min]; rfl)
    · exact absurd h5 (by decide) --stop
  · rw [e1]
    refine G_if_ne (tgt := 10) F dX8_run_5 (by decide) (fun h5 => ?_) (fun h5 => ?_)
    · exact absurd rfl h5 --stop
    · skip
      refine G_iconst (v := 0) F dX8_run_8 rfl ?_
      refine G_iret F Rt dX8_run_9 (rfl) ⟨rfl, rfl, _, rfl, ?_⟩ (Nat.le_refl _) (Nat.le_refl _)
      exact Or.inr (Or.inr e2)
