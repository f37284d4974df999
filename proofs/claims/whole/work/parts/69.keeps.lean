/-! THE REFERENCE: block, what undo needs, settings of the layout -/
set_option maxRecDepth 20000 in
theorem t_block {l : Launch} {Z : fx_Z} (hl : l.stackTraces = false) (ad : Nat → Nat) (sw : Bool) (tl : List fx_Sh) (M : fx_M) {N : Nat} (b w : Int32) (hN : M 37 0 = nI N) (hN16 : N ≤ 16) (hN1 : 1 ≤ N) (hvv : pv N (M 39) (M 40) (M 41)) : CI l Z yX8_block (.code yX8_block cX8_block 3 (some .int)) 2 [.ref (ad 37), .int b, .int w] ad (c_C sw ++ (m_C ++ tl)) M (fun r m => (∃ x, x < N ∧ b = nI x ∧ m = fx_u M 37 13 0 ∧ ((w = 0 ∧ r = M 38 x) ∨ (w = 1 ∧ r = M 39 x) ∨ (w = 2 ∧ r = M 40 x) ∨ (w = 3 ∧ r = M 41 x) ∨ (w = 4 ∧ r = M 43 x) ∨ (w = 5 ∧ r = M 44 x) ∨ (w = 6 ∧ r = M 45 x) ∨ (w = 7 ∧ r = (if bt (hds (pf_tg (M 40) (M 41)) N N) x then 1 else 0)))) ∨ (pin N b = false ∧ m = fx_u M 37 13 1) ∨ (pin N b = true ∧ ¬ (0 ≤ w ∧ w ≤ 7) ∧ m = fx_u M 37 13 2)) := by
  refine CT_of (ret := (some .int)) (lv0 := [some (.ref (ad 37)), some (.int b), some (.int w)]) (by decide +kernel) hl (by simp [Value.category]) (Nat.le_of_ble_eq_true rfl) rfl ?_
  intro X F Rt _
  have t0 : (pin N b = true ∧ (0 ≤ w ∧ w ≤ 7)) → GG X ad 28 [some (.ref (ad 37)), some (.int b), some (.int w)] [.int 0, .ref (ad 37)] 0 0 (c_C sw ++ (m_C ++ tl)) M := by
    intro hv
    refine G_puti F fl_X8_103 dX8_block_28 rfl rfl rfl rfl ?_
    refine G_aload_n F dX8_block_31 rfl ?_
    refine G_geti F fl_X8_103 dX8_block_32 rfl rfl ?_
    try simp only [fx_u_at, Nat.reduceEqDiff, false_and, and_false, true_and, and_true, ↓reduceIte]
    refine G_if_eq (tgt := 40) F dX8_block_35 (by decide) (fun h35 => ?_) (fun h35 => ?_)
    · skip
      obtain ⟨x, hx1, hx2⟩ := pin_spec hN16 hv.1
      subst hx2
      refine G_iload_n F dX8_block_40 rfl ?_
      by_cases c41_0 : w = 0
      · subst c41_0
        refine G_tableIn (tgt := 84) (off := 43) F dX8_block_41 (by decide) (by decide) (by decide) (by decide) ?_
        refine G_aload_n F dX8_block_84 rfl ?_
        refine G_getr F fl_X8_16 dX8_block_85 rfl rfl ?_
        refine G_iload_n F dX8_block_88 rfl ?_
        refine G_ialdN F dX8_block_89 rfl (by omega) (by decide) ?_
        try simp only [fx_u_at, Nat.reduceEqDiff, false_and, and_false, true_and, and_true, ↓reduceIte]
        refine G_iret F Rt dX8_block_90 (rfl) ⟨rfl, rfl, _, rfl, ?_⟩ (Nat.le_refl _) (Nat.le_refl _)
        exact Or.inl ⟨x, hx1, rfl, rfl, Or.inl (⟨rfl, rfl⟩)⟩
      by_cases c41_1 : w = 1
      · subst c41_1
        refine G_tableIn (tgt := 91) (off := 50) F dX8_block_41 (by decide) (by decide) (by decide) (by decide) ?_
        refine G_aload_n F dX8_block_91 rfl ?_
        refine G_getr F fl_X8_20 dX8_block_92 rfl rfl ?_
        refine G_iload_n F dX8_block_95 rfl ?_
        refine G_ialdN F dX8_block_96 rfl (by omega) (by decide) ?_
        try simp only [fx_u_at, Nat.reduceEqDiff, false_and, and_false, true_and, and_true, ↓reduceIte]
        refine G_iret F Rt dX8_block_97 (rfl) ⟨rfl, rfl, _, rfl, ?_⟩ (Nat.le_refl _) (Nat.le_refl _)
        exact Or.inl ⟨x, hx1, rfl, rfl, Or.inr (Or.inl (⟨rfl, rfl⟩))⟩
      by_cases c41_2 : w = 2
      · subst c41_2
        refine G_tableIn (tgt := 98) (off := 57) F dX8_block_41 (by decide) (by decide) (by decide) (by decide) ?_
        refine G_aload_n F dX8_block_98 rfl ?_
        refine G_getr F fl_X8_23 dX8_block_99 rfl rfl ?_
        refine G_iload_n F dX8_block_102 rfl ?_
        refine G_ialdN F dX8_block_103 rfl (by omega) (by decide) ?_
        try simp only [fx_u_at, Nat.reduceEqDiff, false_and, and_false, true_and, and_true, ↓reduceIte]
        refine G_iret F Rt dX8_block_104 (rfl) ⟨rfl, rfl, _, rfl, ?_⟩ (Nat.le_refl _) (Nat.le_refl _)
        exact Or.inl ⟨x, hx1, rfl, rfl, Or.inr (Or.inr (Or.inl (⟨rfl, rfl⟩)))⟩
      by_cases c41_3 : w = 3
      · subst c41_3
        refine G_tableIn (tgt := 105) (off := 64) F dX8_block_41 (by decide) (by decide) (by decide) (by decide) ?_
        refine G_aload_n F dX8_block_105 rfl ?_
        refine G_getr F fl_X8_26 dX8_block_106 rfl rfl ?_
        refine G_iload_n F dX8_block_109 rfl ?_
        refine G_ialdN F dX8_block_110 rfl (by omega) (by decide) ?_
        try simp only [fx_u_at, Nat.reduceEqDiff, false_and, and_false, true_and, and_true, ↓reduceIte]
        refine G_iret F Rt dX8_block_111 (rfl) ⟨rfl, rfl, _, rfl, ?_⟩ (Nat.le_refl _) (Nat.le_refl _)
        exact Or.inl ⟨x, hx1, rfl, rfl, Or.inr (Or.inr (Or.inr (Or.inl (⟨rfl, rfl⟩))))⟩
      by_cases c41_4 : w = 4
      · subst c41_4
        refine G_tableIn (tgt := 112) (off := 71) F dX8_block_41 (by decide) (by decide) (by decide) (by decide) ?_
        refine G_aload_n F dX8_block_112 rfl ?_
        refine G_getr F fl_X8_32 dX8_block_113 rfl rfl ?_
        refine G_iload_n F dX8_block_116 rfl ?_
        refine G_ialdN F dX8_block_117 rfl (by omega) (by decide) ?_
        try simp only [fx_u_at, Nat.reduceEqDiff, false_and, and_false, true_and, and_true, ↓reduceIte]
        refine G_iret F Rt dX8_block_118 (rfl) ⟨rfl, rfl, _, rfl, ?_⟩ (Nat.le_refl _) (Nat.le_refl _)
        exact Or.inl ⟨x, hx1, rfl, rfl, Or.inr (Or.inr (Or.inr (Or.inr (Or.inl (⟨rfl, rfl⟩)))))⟩
      by_cases c41_5 : w = 5
      · subst c41_5
        refine G_tableIn (tgt := 119) (off := 78) F dX8_block_41 (by decide) (by decide) (by decide) (by decide) ?_
        refine G_aload_n F dX8_block_119 rfl ?_
        refine G_getr F fl_X8_35 dX8_block_120 rfl rfl ?_
        refine G_iload_n F dX8_block_123 rfl ?_
        refine G_ialdN F dX8_block_124 rfl (by omega) (by decide) ?_
        try simp only [fx_u_at, Nat.reduceEqDiff, false_and, and_false, true_and, and_true, ↓reduceIte]
        refine G_iret F Rt dX8_block_125 (rfl) ⟨rfl, rfl, _, rfl, ?_⟩ (Nat.le_refl _) (Nat.le_refl _)
        exact Or.inl ⟨x, hx1, rfl, rfl, Or.inr (Or.inr (Or.inr (Or.inr (Or.inr (Or.inl (⟨rfl, rfl⟩))))))⟩
      by_cases c41_6 : w = 6
      · subst c41_6
        refine G_tableIn (tgt := 126) (off := 85) F dX8_block_41 (by decide) (by decide) (by decide) (by decide) ?_
        refine G_aload_n F dX8_block_126 rfl ?_
        refine G_getr F fl_X8_38 dX8_block_127 rfl rfl ?_
        refine G_iload_n F dX8_block_130 rfl ?_
        refine G_ialdN F dX8_block_131 rfl (by omega) (by decide) ?_
        try simp only [fx_u_at, Nat.reduceEqDiff, false_and, and_false, true_and, and_true, ↓reduceIte]
        refine G_iret F Rt dX8_block_132 (rfl) ⟨rfl, rfl, _, rfl, ?_⟩ (Nat.le_refl _) (Nat.le_refl _)
        exact Or.inl ⟨x, hx1, rfl, rfl, Or.inr (Or.inr (Or.inr (Or.inr (Or.inr (Or.inr (Or.inl (⟨rfl, rfl⟩)))))))⟩
      refine G_tableOut (tgt := 133) F dX8_block_41 (by
        have u0 : w.toInt ≠ 0 := fun q => c41_0 (Int32.toInt_inj.mp (q.trans (by decide)))
        have u1 : w.toInt ≠ 1 := fun q => c41_1 (Int32.toInt_inj.mp (q.trans (by decide)))
        have u2 : w.toInt ≠ 2 := fun q => c41_2 (Int32.toInt_inj.mp (q.trans (by decide)))
        have u3 : w.toInt ≠ 3 := fun q => c41_3 (Int32.toInt_inj.mp (q.trans (by decide)))
        have u4 : w.toInt ≠ 4 := fun q => c41_4 (Int32.toInt_inj.mp (q.trans (by decide)))
        have u5 : w.toInt ≠ 5 := fun q => c41_5 (Int32.toInt_inj.mp (q.trans (by decide)))
        have u6 : w.toInt ≠ 6 := fun q => c41_6 (Int32.toInt_inj.mp (q.trans (by decide)))
        omega) (by decide) ?_
      have e7 : w = 7 := by
        apply Int32.toInt_inj.mp
        have z0 := hv.2.1
        have z1 := hv.2.2
        have y7 : (7 : Int32).toInt = 7 := by decide
        simp only [Int32.le_iff_toInt_le, i0, y7] at z0 z1
        have u0 : w.toInt ≠ 0 := fun q => c41_0 (Int32.toInt_inj.mp (q.trans (by decide)))
        have u1 : w.toInt ≠ 1 := fun q => c41_1 (Int32.toInt_inj.mp (q.trans (by decide)))
        have u2 : w.toInt ≠ 2 := fun q => c41_2 (Int32.toInt_inj.mp (q.trans (by decide)))
        have u3 : w.toInt ≠ 3 := fun q => c41_3 (Int32.toInt_inj.mp (q.trans (by decide)))
        have u4 : w.toInt ≠ 4 := fun q => c41_4 (Int32.toInt_inj.mp (q.trans (by decide)))
        have u5 : w.toInt ≠ 5 := fun q => c41_5 (Int32.toInt_inj.mp (q.trans (by decide)))
        have u6 : w.toInt ≠ 6 := fun q => c41_6 (Int32.toInt_inj.mp (q.trans (by decide)))
        rw [y7]
        omega
      refine G_aload_n F dX8_block_133 rfl ?_
      refine G_iload_n F dX8_block_134 rfl ?_
      refine G_vI F mv_X8_127 dX8_block_135 (t_isHeadB hl ad sw tl _ (N := N) (h := x) (by rw [fx_u_at, if_neg (by decide)]; exact hN) hN16 hN1 (by rw [fx_u_ne (by decide), fx_u_ne (by decide), fx_u_ne (by decide)]; exact hvv) hx1) rfl rfl rfl rfl (Nat.le_of_ble_eq_true rfl) ⟨Nat.le_of_ble_eq_true rfl, Nat.le_of_ble_eq_true rfl, Nat.le_of_ble_eq_true rfl, Nat.le_of_ble_eq_true rfl⟩ (fun r135 M135 h135 => ?_)
      rw [h135.1, h135.2, fx_u_ne (by decide), fx_u_ne (by decide)]
      refine G_if_eq (tgt := 145) F dX8_block_138 (by decide) (fun h138 => ?_) (fun h138 => ?_)
      · have q138 : bt (hds (pf_tg (M 40) (M 41)) N N) x = false := by simpa using h138
        refine G_iconst (v := 0) F dX8_block_145 rfl ?_
        refine G_iret F Rt dX8_block_146 (rfl) ⟨rfl, rfl, _, rfl, ?_⟩ (Nat.le_refl _) (Nat.le_refl _)
        exact Or.inl ⟨x, hx1, rfl, rfl, Or.inr (Or.inr (Or.inr (Or.inr (Or.inr (Or.inr (Or.inr (⟨e7, by rw [q138]; rfl⟩)))))))⟩
      · have q138 : bt (hds (pf_tg (M 40) (M 41)) N N) x = true := by simpa using h138
        refine G_iconst (v := 1) F dX8_block_141 rfl ?_
        refine G_goto (tgt := 146) F dX8_block_142 (by decide) ?_
        refine G_iret F Rt dX8_block_146 (rfl) ⟨rfl, rfl, _, rfl, ?_⟩ (Nat.le_refl _) (Nat.le_refl _)
        exact Or.inl ⟨x, hx1, rfl, rfl, Or.inr (Or.inr (Or.inr (Or.inr (Or.inr (Or.inr (Or.inr (⟨e7, by rw [q138]; rfl⟩)))))))⟩
    · exact absurd rfl h35 --stop
  have t1 : pin N b = false → GG X ad 28 [some (.ref (ad 37)), some (.int b), some (.int w)] [.int 1, .ref (ad 37)] 0 0 (c_C sw ++ (m_C ++ tl)) M := by
    intro hv
    refine G_puti F fl_X8_103 dX8_block_28 rfl rfl rfl rfl ?_
    refine G_aload_n F dX8_block_31 rfl ?_
    refine G_geti F fl_X8_103 dX8_block_32 rfl rfl ?_
    try simp only [fx_u_at, Nat.reduceEqDiff, false_and, and_false, true_and, and_true, ↓reduceIte]
    refine G_if_eq (tgt := 40) F dX8_block_35 (by decide) (fun h35 => ?_) (fun h35 => ?_)
    · exact absurd h35 (by decide) --stop
    · skip
      refine G_iconst (v := 0) F dX8_block_38 rfl ?_
      refine G_iret F Rt dX8_block_39 (rfl) ⟨rfl, rfl, _, rfl, ?_⟩ (Nat.le_refl _) (Nat.le_refl _)
      exact Or.inr (Or.inl ⟨hv, rfl⟩)
  have t2 : (pin N b = true ∧ ¬ (0 ≤ w ∧ w ≤ 7)) → GG X ad 28 [some (.ref (ad 37)), some (.int b), some (.int w)] [.int 2, .ref (ad 37)] 0 0 (c_C sw ++ (m_C ++ tl)) M := by
    intro hv
    refine G_puti F fl_X8_103 dX8_block_28 rfl rfl rfl rfl ?_
    refine G_aload_n F dX8_block_31 rfl ?_
    refine G_geti F fl_X8_103 dX8_block_32 rfl rfl ?_
    try simp only [fx_u_at, Nat.reduceEqDiff, false_and, and_false, true_and, and_true, ↓reduceIte]
    refine G_if_eq (tgt := 40) F dX8_block_35 (by decide) (fun h35 => ?_) (fun h35 => ?_)
    · exact absurd h35 (by decide) --stop
    · skip
      refine G_iconst (v := 0) F dX8_block_38 rfl ?_
      refine G_iret F Rt dX8_block_39 (rfl) ⟨rfl, rfl, _, rfl, ?_⟩ (Nat.le_refl _) (Nat.le_refl _)
      exact Or.inr (Or.inr ⟨hv.1, hv.2, rfl⟩)
  refine G_aload_n F dX8_block_0 rfl ?_
  refine G_aload_n F dX8_block_1 rfl ?_
  refine G_iload_n F dX8_block_2 rfl ?_
  refine G_vI F mv_X8_119 dX8_block_3 (t_isBlock hl ad sw tl M (N := N) b hN hN16 hN1) rfl rfl rfl rfl (Nat.le_of_ble_eq_true rfl) ⟨Nat.le_of_ble_eq_true rfl, Nat.le_of_ble_eq_true rfl, Nat.le_of_ble_eq_true rfl, Nat.le_of_ble_eq_true rfl⟩ (fun r3 M3 h3 => ?_)
  rw [h3.1, h3.2]
  refine G_if_ne (tgt := 13) F dX8_block_6 (by decide) (fun h6 => ?_) (fun h6 => ?_)
  · have q6 : pin N b = true := by simpa using h6
    refine G_iload_n F dX8_block_13 rfl ?_
    refine G_iconst (v := 0) F dX8_block_14 rfl ?_
    refine G_bipush (v := 7) F dX8_block_15 rfl ?_
    refine G_sI F ms_X8_109 dX8_block_17 (t_isIn hl ad _ M w 0 7) rfl rfl (Nat.le_of_ble_eq_true rfl) ⟨Nat.le_of_ble_eq_true rfl, Nat.le_of_ble_eq_true rfl, Nat.le_of_ble_eq_true rfl, Nat.le_of_ble_eq_true rfl⟩ (fun r17 M17 h17 => ?_)
    rw [h17.1, h17.2]
    refine G_if_eq (tgt := 27) F dX8_block_20 (by decide) (fun h20 => ?_) (fun h20 => ?_)
    · have q20 : ¬ (0 ≤ w ∧ w ≤ 7) := by simpa using h20
      refine G_iconst (v := 2) F dX8_block_27 rfl ?_
      exact t2 ⟨q6, q20⟩
    · have q20 : (0 ≤ w ∧ w ≤ 7) := by simpa using h20
      refine G_iconst (v := 0) F dX8_block_23 rfl ?_
      refine G_goto (tgt := 28) F dX8_block_24 (by decide) ?_
      exact t0 ⟨q6, q20⟩
  · have q6 : pin N b = false := by simpa using h6
    refine G_iconst (v := 1) F dX8_block_9 rfl ?_
    refine G_goto (tgt := 28) F dX8_block_10 (by decide) ?_
    exact t1 q6
/-- what is kept of layouts, u of them, and one more now -/
def v_kp (u : Nat) (M m : fx_M) : Prop := fr [37, 56, 57, 58] M m ∧ (∀ j, j ≠ 27 → m 37 j = M 37 j) ∧ m 37 27 = nI (min (u + 1) 10) ∧
  (∀ p, m 56 p = if 16 * (u - (if u = 10 then 1 else 0)) ≤ p ∧ p < 16 * (u - (if u = 10 then 1 else 0)) + 16 then M 46 (p - 16 * (u - (if u = 10 then 1 else 0))) else if u = 10 ∧ p < 144 then M 56 (p + 16) else M 56 p) ∧
  (∀ v, m 57 v = if v = u - (if u = 10 then 1 else 0) then M 37 3 else if u = 10 ∧ v < 9 then M 57 (v + 1) else M 57 v) ∧
  (∀ v, m 58 v = if v = u - (if u = 10 then 1 else 0) then M 37 1 else if u = 10 ∧ v < 9 then M 58 (v + 1) else M 58 v)
set_option maxRecDepth 20000 in
theorem t_keeps {l : Launch} {Z : fx_Z} (hl : l.stackTraces = false) (ad : Nat → Nat) (sw : Bool) (tl : List fx_Sh) (M : fx_M) {u : Nat} (hu : M 37 27 = nI u) (hu9 : u ≤ 10) : CV l Z yX8_keeps (.code yX8_keeps cX8_keeps 3 none) 0 [.ref (ad 37)] ad (c_C sw ++ (m_C ++ tl)) M (fun m => v_kp u M m) := by
  refine CT_of (ret := none) (lv0 := [some (.ref (ad 37)), none, none]) (by decide +kernel) hl (by simp [Value.category]) (Nat.le_of_ble_eq_true rfl) rfl ?_
  intro X F Rt _
  have t125 : ∀ (q : Nat) (m1 : fx_M), q < 10 → m1 37 27 = nI q → (∀ m : fx_M, m 37 = upd (m1 37) 27 (nI (q + 1)) → fr [37, 56] m1 m → (∀ p, m 56 p = if 16 * q ≤ p ∧ p < 16 * q + 16 then m1 46 (p - 16 * q) else m1 56 p) → v_kp u M m) → GG X ad 125 [some (.ref (ad 37)), none, none] [] 0 0 (c_C sw ++ (m_C ++ tl)) m1 := by
    intro q m1 hq g27 hfin
    have lp3 : ∀ (k : Nat) (i : Nat) (M' : fx_M), k = 16 - i → i ≤ 16 → fr [56] m1 M' → (∀ p, M' 56 p = if 16 * q ≤ p ∧ p < 16 * q + i then m1 46 (p - 16 * q) else m1 56 p) → GG X ad 127 [some (.ref (ad 37)), some (.int (nI i)), none] [] 0 0 (c_C sw ++ (m_C ++ tl)) M' := by
      intro k
      induction k using Nat.strongRecOn with
      | _ k ih =>
        intro i M' hk hi h1 h2
        refine G_iload_n F dX8_keeps_127 rfl ?_
        refine G_bipush (v := nI 16) F dX8_keeps_128 (by decide) ?_
        refine G_icmp_ge (tgt := 159) F dX8_keeps_130 (by decide) (fun h130 => ?_) (fun h130 => ?_)
        · rw [nI_leI (by omega) (by omega)] at h130
          have hi16 : i = 16 := by omega
          subst hi16
          have h37 : M' 37 27 = nI q := by rw [h1 37 (by decide)]; exact g27
          refine G_aload_n F dX8_keeps_159 rfl ?_
          refine G_dup F dX8_keeps_160 rfl ?_
          refine G_geti F fl_X8_116 dX8_keeps_161 rfl rfl ?_
          refine G_iconst (v := nI 1) F dX8_keeps_164 (by decide) ?_
          rw [h37]
          refine G_iadd F dX8_keeps_165 ?_
          rw [nI_add]
          refine G_puti F fl_X8_116 dX8_keeps_166 rfl rfl rfl rfl ?_
          refine G_vret F Rt dX8_keeps_169 ⟨rfl, rfl, rfl, ?_⟩ (Nat.le_refl _) (Nat.le_refl _)
          exact hfin _ (by rw [fx_u_eq, h1 37 (by decide)]) (fun k hk => by rw [fx_u_ne (fun e => hk (by rw [e]; simp))]; exact h1 k (fun e => hk (by simp at e ⊢; exact Or.inr e))) (fun p => by rw [fx_u_ne (by decide)]; exact h2 p)
        · rw [nI_leI (by omega) (by omega)] at h130
          have h37 : M' 37 27 = nI q := by rw [h1 37 (by decide)]; exact g27
          refine G_aload_n F dX8_keeps_133 rfl ?_
          refine G_getr F fl_X8_72 dX8_keeps_134 rfl rfl ?_
          refine G_bipush (v := nI 16) F dX8_keeps_137 (by decide) ?_
          refine G_aload_n F dX8_keeps_139 rfl ?_
          refine G_geti F fl_X8_116 dX8_keeps_140 rfl rfl ?_
          rw [h37]
          refine G_imul F dX8_keeps_143 ?_
          rw [nI_mul]
          refine G_iload_n F dX8_keeps_144 rfl ?_
          refine G_iadd F dX8_keeps_145 ?_
          rw [nI_add]
          refine G_aload_n F dX8_keeps_146 rfl ?_
          refine G_getr F fl_X8_41 dX8_keeps_147 rfl rfl ?_
          refine G_iload_n F dX8_keeps_150 rfl ?_
          refine G_ialdN F dX8_keeps_151 rfl (by omega) (by decide) ?_
          refine G_iastN F dX8_keeps_152 rfl (by omega) (by decide) ?_
          refine G_iinc F (1) dX8_keeps_153 rfl rfl rfl rfl ?_
          simp only [List.set_cons_zero, List.set_cons_succ, nI_1]
          refine G_goto (tgt := 127) F dX8_keeps_156 (by decide) ?_
          refine ih (16 - (i + 1)) (by omega) (i + 1) _ rfl (by omega) (h1.u (by decide)) (fun p => ?_)
          rw [fx_u_at]
          by_cases e : p = 16 * q + i
          · rw [if_pos ⟨rfl, e⟩, if_pos (by omega), h1 46 (by decide), show p - 16 * q = i from by omega]
          · rw [if_neg (fun z => e z.2), h2 p]
            by_cases e2 : 16 * q ≤ p ∧ p < 16 * q + i
            · rw [if_pos e2, if_pos (by omega)]
            · rw [if_neg e2, if_neg (by omega)]
    refine G_iconst (v := nI 0) F dX8_keeps_125 (by decide) ?_
    refine G_istore_n F 1 dX8_keeps_126 rfl rfl rfl (Nat.le_of_ble_eq_true rfl) ?_
    simp only [List.set_cons_zero, List.set_cons_succ]
    exact lp3 16 0 m1 rfl (by omega) fr.rfl (fun p => by rw [if_neg (by omega)])
  have t99 : ∀ (q : Nat) (m0 : fx_M), q < 10 → q = u - (if u = 10 then 1 else 0) → m0 37 27 = nI q → fr [37, 56, 57, 58] M m0 → (∀ j, j ≠ 27 → m0 37 j = M 37 j) → (∀ p, m0 56 p = if u = 10 ∧ p < 144 then M 56 (p + 16) else M 56 p) → (∀ v, m0 57 v = if u = 10 ∧ v < 9 then M 57 (v + 1) else M 57 v) → (∀ v, m0 58 v = if u = 10 ∧ v < 9 then M 58 (v + 1) else M 58 v) → GG X ad 99 [some (.ref (ad 37)), none, none] [] 0 0 (c_C sw ++ (m_C ++ tl)) m0 := by
    intro q m0 hq hqu g2 g3 g4 g5 g6 g7
    refine G_aload_n F dX8_keeps_99 rfl ?_
    refine G_getr F fl_X8_75 dX8_keeps_100 rfl rfl ?_
    refine G_aload_n F dX8_keeps_103 rfl ?_
    refine G_geti F fl_X8_116 dX8_keeps_104 rfl rfl ?_
    rw [g2]
    refine G_aload_n F dX8_keeps_107 rfl ?_
    refine G_geti F fl_X8_113 dX8_keeps_108 rfl rfl ?_
    rw [g4 3 (by decide)]
    refine G_iastN F dX8_keeps_111 rfl (by omega) (by decide) ?_
    refine G_aload_n F dX8_keeps_112 rfl ?_
    refine G_getr F fl_X8_78 dX8_keeps_113 rfl rfl ?_
    refine G_aload_n F dX8_keeps_116 rfl ?_
    refine G_geti F fl_X8_116 dX8_keeps_117 rfl rfl ?_
    rw [fx_u_ne (by decide), g2]
    refine G_aload_n F dX8_keeps_120 rfl ?_
    refine G_geti F fl_X8_7 dX8_keeps_121 rfl rfl ?_
    rw [fx_u_ne (by decide), g4 1 (by decide)]
    refine G_iastN F dX8_keeps_124 rfl (by omega) (by decide) ?_
    refine t125 q _ hq (by rw [fx_u_ne (by decide), fx_u_ne (by decide)]; exact g2) (fun m e1 e2 e3 => ?_)
    rw [fx_u_ne (by decide), fx_u_ne (by decide)] at e1
    have r46 : (fx_u (fx_u m0 57 q (M 37 3)) 58 q (M 37 1)) 46 = M 46 := by rw [fx_u_ne (by decide), fx_u_ne (by decide)]; exact g3 46 (by decide)
    have r56 : (fx_u (fx_u m0 57 q (M 37 3)) 58 q (M 37 1)) 56 = m0 56 := by rw [fx_u_ne (by decide), fx_u_ne (by decide)]
    unfold v_kp
    rw [← hqu]
    refine ⟨fun k hk => ?_, fun j hj => ?_, ?_, fun p => ?_, fun v => ?_, fun v => ?_⟩
    · simp only [List.mem_cons, List.not_mem_nil, or_false, not_or] at hk
      rw [e2 k (by simp [hk]), fx_u_ne hk.2.2.2, fx_u_ne hk.2.2.1]
      exact g3 k (by simp [hk])
    · rw [e1]
      simp only [upd, if_neg hj]
      exact g4 j hj
    · rw [e1, upd_self]
      congr 1
      rw [hqu]
      split <;> omega
    · rw [e3 p, r46, r56, g5 p]
    · rw [e2 57 (by decide), fx_u_ne (by decide), fx_u_at]
      by_cases e : v = q
      · rw [if_pos ⟨rfl, e⟩, if_pos e]
      · rw [if_neg (fun z => e z.2), if_neg e]; exact g6 v
    · rw [e2 58 (by decide), fx_u_at]
      by_cases e : v = q
      · rw [if_pos ⟨rfl, e⟩, if_pos e]
      · rw [if_neg (fun z => e z.2), if_neg e, fx_u_ne (by decide)]; exact g7 v
  refine G_aload_n F dX8_keeps_0 rfl ?_
  refine G_geti F fl_X8_116 dX8_keeps_1 rfl rfl ?_
  rw [hu]
  refine G_bipush (v := nI 10) F dX8_keeps_4 (by decide) ?_
  refine G_icmp_ne (tgt := 99) F dX8_keeps_6 (by decide) (fun h6 => ?_) (fun h6 => ?_)
  · rw [nI_eq (by omega) (by omega)] at h6
    exact t99 u M (by omega) (by rw [if_neg h6]; omega) hu fr.rfl (fun _ _ => rfl) (fun p => by rw [if_neg (fun z => h6 z.1)]) (fun v => by rw [if_neg (fun z => h6 z.1)]) (fun v => by rw [if_neg (fun z => h6 z.1)])
  · rw [nI_eq (by omega) (by omega)] at h6
    have hu10 : u = 10 := h6
    have lp : ∀ (k : Nat) (i : Nat) (M' : fx_M), k = 10 - i → i ≤ 10 → 1 ≤ i → fr [56, 57, 58] M M' → (∀ p, M' 56 p = if p < 16 * (i - 1) then M 56 (p + 16) else M 56 p) → (∀ v, M' 57 v = if v + 1 < i then M 57 (v + 1) else M 57 v) → (∀ v, M' 58 v = if v + 1 < i then M 58 (v + 1) else M 58 v) → GG X ad 11 [some (.ref (ad 37)), some (.int (nI i)), none] [] 0 0 (c_C sw ++ (m_C ++ tl)) M' := by
      intro k
      induction k using Nat.strongRecOn with
      | _ k ih =>
        intro i M' hk hi hi1 h1 h2 h3 h4
        refine G_iload_n F dX8_keeps_11 rfl ?_
        refine G_bipush (v := nI 10) F dX8_keeps_12 (by decide) ?_
        refine G_icmp_ge (tgt := 89) F dX8_keeps_14 (by decide) (fun h14 => ?_) (fun h14 => ?_)
        · rw [nI_leI (by omega) (by omega)] at h14
          have hi10 : i = 10 := by omega
          subst hi10
          refine G_aload_n F dX8_keeps_89 rfl ?_
          refine G_dup F dX8_keeps_90 rfl ?_
          skip
          refine G_geti F fl_X8_116 dX8_keeps_91 rfl rfl ?_
          refine G_iconst (v := 1) F dX8_keeps_94 rfl ?_
          refine G_isub F dX8_keeps_95 ?_
          refine G_puti F fl_X8_116 dX8_keeps_96 rfl rfl rfl rfl ?_
          refine G_drop F 1 ?_
          simp only [List.set_cons_zero, List.set_cons_succ]
          have eu : M' 37 27 - 1 = nI 9 := by rw [h1 37 (by decide), hu, hu10]; decide
          refine t99 9 _ (by omega) (by rw [if_pos hu10]; omega) ?_ (fun k hk => ?_) (fun j hj => ?_) (fun p => ?_) (fun v => ?_) (fun v => ?_)
          · rw [fx_u_at, if_pos ⟨rfl, rfl⟩]; exact eu
          · simp only [List.mem_cons, List.not_mem_nil, or_false, not_or] at hk
            rw [fx_u_ne hk.1]; exact h1 k (by simp [hk])
          · rw [fx_u_at, if_neg (fun z => hj z.2), h1 37 (by decide)]
          · rw [fx_u_ne (by decide), h2 p]
            simp only [hu10, true_and, show 16 * (10 - 1) = 144 from rfl]
          · rw [fx_u_ne (by decide), h3 v]
            simp only [hu10, true_and, show (v + 1 < 10) = (v < 9) from propext ⟨fun q => by omega, fun q => by omega⟩]
          · rw [fx_u_ne (by decide), h4 v]
            simp only [hu10, true_and, show (v + 1 < 10) = (v < 9) from propext ⟨fun q => by omega, fun q => by omega⟩]
        · rw [nI_leI (by omega) (by omega)] at h14
          have lp2 : ∀ (k : Nat) (j : Nat) (M' : fx_M), k = 16 - j → j ≤ 16 → fr [56, 57, 58] M M' → (∀ p, M' 56 p = if p < 16 * (i - 1) + j then M 56 (p + 16) else M 56 p) → (∀ v, M' 57 v = if v + 1 < (i + 1) then M 57 (v + 1) else M 57 v) → (∀ v, M' 58 v = if v + 1 < (i + 1) then M 58 (v + 1) else M 58 v) → GG X ad 47 [some (.ref (ad 37)), some (.int (nI i)), some (.int (nI j))] [] 0 0 (c_C sw ++ (m_C ++ tl)) M' := by
            intro k
            induction k using Nat.strongRecOn with
            | _ k ih2 =>
              intro j M' hk2 hj h1 h2 h3 h4
              refine G_iload_n F dX8_keeps_47 rfl ?_
              refine G_bipush (v := nI 16) F dX8_keeps_48 (by decide) ?_
              refine G_icmp_ge (tgt := 83) F dX8_keeps_50 (by decide) (fun h50 => ?_) (fun h50 => ?_)
              · rw [nI_leI (by omega) (by omega)] at h50
                have hj16 : j = 16 := by omega
                subst hj16
                refine G_iinc F (1) dX8_keeps_83 rfl rfl rfl rfl ?_
                simp only [List.set_cons_zero, List.set_cons_succ, nI_1]
                refine G_goto (tgt := 11) F dX8_keeps_86 (by decide) ?_
                refine G_drop F 2 ?_
                simp only [List.set_cons_zero, List.set_cons_succ]
                refine ih (10 - (i + 1)) (by omega) (i + 1) M' rfl (by omega) (by omega) h1 (fun p => ?_) h3 h4
                rw [h2 p]
                by_cases e2 : p < 16 * (i - 1) + 16
                · rw [if_pos e2, if_pos (by omega)]
                · rw [if_neg e2, if_neg (by omega)]
              · rw [nI_leI (by omega) (by omega)] at h50
                refine G_aload_n F dX8_keeps_53 rfl ?_
                refine G_getr F fl_X8_72 dX8_keeps_54 rfl rfl ?_
                refine G_bipush (v := nI 16) F dX8_keeps_57 (by decide) ?_
                refine G_iload_n F dX8_keeps_59 rfl ?_
                refine G_iconst (v := nI 1) F dX8_keeps_60 (by decide) ?_
                refine G_isub F dX8_keeps_61 ?_
                rw [nI_sub (by omega)]
                refine G_imul F dX8_keeps_62 ?_
                rw [nI_mul]
                refine G_iload_n F dX8_keeps_63 rfl ?_
                refine G_iadd F dX8_keeps_64 ?_
                rw [nI_add]
                refine G_aload_n F dX8_keeps_65 rfl ?_
                refine G_getr F fl_X8_72 dX8_keeps_66 rfl rfl ?_
                refine G_bipush (v := nI 16) F dX8_keeps_69 (by decide) ?_
                refine G_iload_n F dX8_keeps_71 rfl ?_
                refine G_imul F dX8_keeps_72 ?_
                rw [nI_mul]
                refine G_iload_n F dX8_keeps_73 rfl ?_
                refine G_iadd F dX8_keeps_74 ?_
                rw [nI_add]
                refine G_ialdN F dX8_keeps_75 rfl (by omega) (by decide) ?_
                rw [h2 (16 * i + j), if_neg (by omega)]
                refine G_iastN F dX8_keeps_76 rfl (by omega) (by decide) ?_
                refine G_iinc F (1) dX8_keeps_77 rfl rfl rfl rfl ?_
                simp only [List.set_cons_zero, List.set_cons_succ, nI_1]
                refine G_goto (tgt := 47) F dX8_keeps_80 (by decide) ?_
                refine ih2 (16 - (j + 1)) (by omega) (j + 1) _ rfl (by omega) (h1.u (by decide)) (fun p => ?_) (fun v => by rw [fx_u_ne (by decide)]; exact h3 v) (fun v => by rw [fx_u_ne (by decide)]; exact h4 v)
                rw [fx_u_at]
                by_cases e : p = 16 * (i - 1) + j
                · rw [if_pos ⟨rfl, e⟩, if_pos (by omega), show p + 16 = 16 * i + j from by omega]
                · rw [if_neg (fun z => e z.2), h2 p]
                  by_cases e2 : p < 16 * (i - 1) + j
                  · rw [if_pos e2, if_pos (by omega)]
                  · rw [if_neg e2, if_neg (by omega)]
          refine G_aload_n F dX8_keeps_17 rfl ?_
          refine G_getr F fl_X8_75 dX8_keeps_18 rfl rfl ?_
          refine G_iload_n F dX8_keeps_21 rfl ?_
          refine G_iconst (v := nI 1) F dX8_keeps_22 (by decide) ?_
          refine G_isub F dX8_keeps_23 ?_
          rw [nI_sub (by omega)]
          refine G_aload_n F dX8_keeps_24 rfl ?_
          refine G_getr F fl_X8_75 dX8_keeps_25 rfl rfl ?_
          refine G_iload_n F dX8_keeps_28 rfl ?_
          refine G_ialdN F dX8_keeps_29 rfl (by omega) (by decide) ?_
          rw [h3 i, if_neg (by omega)]
          refine G_iastN F dX8_keeps_30 rfl (by omega) (by decide) ?_
          refine G_aload_n F dX8_keeps_31 rfl ?_
          refine G_getr F fl_X8_78 dX8_keeps_32 rfl rfl ?_
          refine G_iload_n F dX8_keeps_35 rfl ?_
          refine G_iconst (v := nI 1) F dX8_keeps_36 (by decide) ?_
          refine G_isub F dX8_keeps_37 ?_
          rw [nI_sub (by omega)]
          refine G_aload_n F dX8_keeps_38 rfl ?_
          refine G_getr F fl_X8_78 dX8_keeps_39 rfl rfl ?_
          refine G_iload_n F dX8_keeps_42 rfl ?_
          refine G_ialdN F dX8_keeps_43 rfl (by omega) (by decide) ?_
          rw [fx_u_ne (by decide), h4 i, if_neg (by omega)]
          refine G_iastN F dX8_keeps_44 rfl (by omega) (by decide) ?_
          refine G_iconst (v := nI 0) F dX8_keeps_45 (by decide) ?_
          refine G_istore_n F 2 dX8_keeps_46 rfl rfl rfl (Nat.le_of_ble_eq_true rfl) ?_
          simp only [List.set_cons_zero, List.set_cons_succ]
          refine lp2 16 0 _ rfl (by omega) ((h1.u (by decide)).u (by decide)) (fun p => by rw [fx_u_ne (by decide), fx_u_ne (by decide)]; exact h2 p) (fun v => ?_) (fun v => ?_)
          · rw [fx_u_ne (by decide), fx_u_at]
            by_cases e : v = i - 1
            · rw [if_pos ⟨rfl, e⟩, if_pos (by omega), show v + 1 = i from by omega]
            · rw [if_neg (fun z => e z.2), h3 v]
              by_cases e2 : v + 1 < i
              · rw [if_pos e2, if_pos (by omega)]
              · rw [if_neg e2, if_neg (by omega)]
          · rw [fx_u_at]
            by_cases e : v = i - 1
            · rw [if_pos ⟨rfl, e⟩, if_pos (by omega), show v + 1 = i from by omega]
            · rw [if_neg (fun z => e z.2), fx_u_ne (by decide), h4 v]
              by_cases e2 : v + 1 < i
              · rw [if_pos e2, if_pos (by omega)]
              · rw [if_neg e2, if_neg (by omega)]
    refine G_iconst (v := nI 1) F dX8_keeps_9 (by decide) ?_
    refine G_istore_n F 1 dX8_keeps_10 rfl rfl rfl (Nat.le_of_ble_eq_true rfl) ?_
    simp only [List.set_cons_zero, List.set_cons_succ]
    exact lp 9 1 M rfl (by omega) (by omega) fr.rfl (fun p => by rw [if_neg (by omega)]) (fun v => by rw [if_neg (by omega)]) (fun v => by rw [if_neg (by omega)])
set_option maxRecDepth 20000 in
theorem t_undo {l : Launch} {Z : fx_Z} (hl : l.stackTraces = false) (ad : Nat → Nat) (sw : Bool) (tl : List fx_Sh) (M : fx_M) {u : Nat} (hu : M 37 27 = nI u) (hu9 : u ≤ 10) : CI l Z yX8_undo (.code yX8_undo cX8_undo 2 (some .int)) 0 [.ref (ad 37)] ad (c_C sw ++ (m_C ++ tl)) M (fun r m => (0 < u ∧ r = nI (u - 1) ∧ fr [37, 46] M m ∧ (∀ j, j ≠ 13 → j ≠ 27 → j ≠ 3 → j ≠ 1 → m 37 j = M 37 j) ∧ m 37 13 = 0 ∧ m 37 27 = nI (u - 1) ∧ m 37 3 = M 57 (u - 1) ∧ m 37 1 = M 58 (u - 1) ∧ ∀ j, m 46 j = if j < 16 then M 56 (16 * (u - 1) + j) else M 46 j) ∨ (u = 0 ∧ m = fx_u M 37 13 1)) := by
  refine CT_of (ret := (some .int)) (lv0 := [some (.ref (ad 37)), none]) (by decide +kernel) hl (by simp [Value.category]) (Nat.le_of_ble_eq_true rfl) rfl ?_
  intro X F Rt _
  have t0 : 0 < u → GG X ad 25 [some (.ref (ad 37)), none] [] 0 0 (c_C sw ++ (m_C ++ tl)) (fx_u M 37 13 0) := by
    intro hu0
    have lp : ∀ (k : Nat) (i : Nat) (M' : fx_M), k = 16 - i → i ≤ 16 → fr [46] (fx_u (fx_u (fx_u (fx_u M 37 13 0) 37 27 (nI (u - 1))) 37 3 (M 57 (u - 1))) 37 1 (M 58 (u - 1))) M' → (∀ j, M' 46 j = if j < i then M 56 (16 * (u - 1) + j) else M 46 j) → GG X ad 63 [some (.ref (ad 37)), some (.int (nI i))] [] 0 0 (c_C sw ++ (m_C ++ tl)) M' := by
      intro k
      induction k using Nat.strongRecOn with
      | _ k ih =>
        intro i M' hk hi h1 h2
        have h27 : M' 37 27 = nI (u - 1) := by rw [h1 37 (by decide)]; simp [fx_u_at]
        refine G_iload_n F dX8_undo_63 rfl ?_
        refine G_bipush (v := nI 16) F dX8_undo_64 (by decide) ?_
        refine G_icmp_ge (tgt := 95) F dX8_undo_66 (by decide) (fun h66 => ?_) (fun h66 => ?_)
        · rw [nI_leI (by omega) (by omega)] at h66
          have hi16 : i = 16 := by omega
          subst hi16
          refine G_aload_n F dX8_undo_95 rfl ?_
          refine G_geti F fl_X8_116 dX8_undo_96 rfl rfl ?_
          try simp only [fx_u_at, Nat.reduceEqDiff, false_and, and_false, true_and, and_true, ↓reduceIte]
          rw [h27]
          refine G_iret F Rt dX8_undo_99 (rfl) ⟨rfl, rfl, _, rfl, ?_⟩ (Nat.le_refl _) (Nat.le_refl _)
          exact Or.inl ⟨by omega, rfl, fun k hk => by
            simp only [List.mem_cons, List.not_mem_nil, or_false, not_or] at hk
            rw [h1 k (by simp [hk])]
            simp only [fx_u_ne hk.1], fun j j1 j2 j3 j4 => by rw [h1 37 (by decide)]; simp [fx_u_at, j1, j2, j3, j4], by rw [h1 37 (by decide)]; simp [fx_u_at], by rw [h1 37 (by decide)]; simp [fx_u_at], by rw [h1 37 (by decide)]; simp [fx_u_at], by rw [h1 37 (by decide)]; simp [fx_u_at], h2⟩
        · rw [nI_leI (by omega) (by omega)] at h66
          refine G_aload_n F dX8_undo_69 rfl ?_
          refine G_getr F fl_X8_41 dX8_undo_70 rfl rfl ?_
          refine G_iload_n F dX8_undo_73 rfl ?_
          refine G_aload_n F dX8_undo_74 rfl ?_
          refine G_getr F fl_X8_72 dX8_undo_75 rfl rfl ?_
          refine G_bipush (v := nI 16) F dX8_undo_78 (by decide) ?_
          refine G_aload_n F dX8_undo_80 rfl ?_
          refine G_geti F fl_X8_116 dX8_undo_81 rfl rfl ?_
          try simp only [fx_u_at, Nat.reduceEqDiff, false_and, and_false, true_and, and_true, ↓reduceIte]
          rw [h27]
          refine G_imul F dX8_undo_84 ?_
          rw [nI_mul]
          refine G_iload_n F dX8_undo_85 rfl ?_
          refine G_iadd F dX8_undo_86 ?_
          rw [nI_add]
          refine G_ialdN F dX8_undo_87 rfl (by omega) (by decide) ?_
          try simp only [fx_u_at, Nat.reduceEqDiff, false_and, and_false, true_and, and_true, ↓reduceIte]
          rw [h1 56 (by decide)]
          simp only [fx_uN, Nat.reduceEqDiff, ↓reduceIte]
          refine G_iastN F dX8_undo_88 rfl (by omega) (by decide) ?_
          refine G_iinc F (1) dX8_undo_89 rfl rfl rfl rfl ?_
          simp only [List.set_cons_zero, List.set_cons_succ, nI_1]
          refine G_goto (tgt := 63) F dX8_undo_92 (by decide) ?_
          refine ih (16 - (i + 1)) (by omega) (i + 1) _ rfl (by omega) (h1.u (by decide)) (fun j => ?_)
          rw [fx_u_at]
          by_cases e : j = i
          · rw [if_pos ⟨rfl, e⟩, if_pos (by omega), e]
          · rw [if_neg (fun z => e z.2), h2 j]
            by_cases e2 : j < i
            · rw [if_pos e2, if_pos (by omega)]
            · rw [if_neg e2, if_neg (by omega)]
    refine G_aload_n F dX8_undo_25 rfl ?_
    refine G_dup F dX8_undo_26 rfl ?_
    refine G_geti F fl_X8_116 dX8_undo_27 rfl rfl ?_
    try simp only [fx_u_at, Nat.reduceEqDiff, false_and, and_false, true_and, and_true, ↓reduceIte]
    rw [hu]
    refine G_iconst (v := nI 1) F dX8_undo_30 (by decide) ?_
    refine G_isub F dX8_undo_31 ?_
    rw [nI_sub (by omega)]
    refine G_puti F fl_X8_116 dX8_undo_32 rfl rfl rfl rfl ?_
    refine G_aload_n F dX8_undo_35 rfl ?_
    refine G_aload_n F dX8_undo_36 rfl ?_
    refine G_getr F fl_X8_75 dX8_undo_37 rfl rfl ?_
    refine G_aload_n F dX8_undo_40 rfl ?_
    refine G_geti F fl_X8_116 dX8_undo_41 rfl rfl ?_
    try simp only [fx_u_at, Nat.reduceEqDiff, false_and, and_false, true_and, and_true, ↓reduceIte]
    refine G_ialdN F dX8_undo_44 rfl (by omega) (by decide) ?_
    try simp only [fx_u_at, Nat.reduceEqDiff, false_and, and_false, true_and, and_true, ↓reduceIte]
    refine G_puti F fl_X8_113 dX8_undo_45 rfl rfl rfl rfl ?_
    refine G_aload_n F dX8_undo_48 rfl ?_
    refine G_aload_n F dX8_undo_49 rfl ?_
    refine G_getr F fl_X8_78 dX8_undo_50 rfl rfl ?_
    refine G_aload_n F dX8_undo_53 rfl ?_
    refine G_geti F fl_X8_116 dX8_undo_54 rfl rfl ?_
    try simp only [fx_u_at, Nat.reduceEqDiff, false_and, and_false, true_and, and_true, ↓reduceIte]
    refine G_ialdN F dX8_undo_57 rfl (by omega) (by decide) ?_
    try simp only [fx_u_at, Nat.reduceEqDiff, false_and, and_false, true_and, and_true, ↓reduceIte]
    refine G_puti F fl_X8_7 dX8_undo_58 rfl rfl rfl rfl ?_
    refine G_iconst (v := nI 0) F dX8_undo_61 (by decide) ?_
    refine G_istore_n F 1 dX8_undo_62 rfl rfl rfl (Nat.le_of_ble_eq_true rfl) ?_
    simp only [List.set_cons_zero, List.set_cons_succ]
    exact lp 16 0 _ rfl (by omega) fr.rfl (fun j => by simp only [fx_uN, Nat.reduceEqDiff, ↓reduceIte, Nat.not_lt_zero])
  have tz : 0 < u → GG X ad 13 [some (.ref (ad 37)), none] [.int 0, .ref (ad 37)] 0 0 (c_C sw ++ (m_C ++ tl)) M := by
    intro hv
    refine G_puti F fl_X8_103 dX8_undo_13 rfl rfl rfl rfl ?_
    refine G_aload_n F dX8_undo_16 rfl ?_
    refine G_geti F fl_X8_103 dX8_undo_17 rfl rfl ?_
    try simp only [fx_u_at, Nat.reduceEqDiff, false_and, and_false, true_and, and_true, ↓reduceIte]
    refine G_if_eq (tgt := 25) F dX8_undo_20 (by decide) (fun h20 => ?_) (fun h20 => ?_)
    · skip
      exact t0 hv
    · exact absurd rfl h20 --stop
  have t1 : u = 0 → GG X ad 13 [some (.ref (ad 37)), none] [.int 1, .ref (ad 37)] 0 0 (c_C sw ++ (m_C ++ tl)) M := by
    intro hv
    refine G_puti F fl_X8_103 dX8_undo_13 rfl rfl rfl rfl ?_
    refine G_aload_n F dX8_undo_16 rfl ?_
    refine G_geti F fl_X8_103 dX8_undo_17 rfl rfl ?_
    try simp only [fx_u_at, Nat.reduceEqDiff, false_and, and_false, true_and, and_true, ↓reduceIte]
    refine G_if_eq (tgt := 25) F dX8_undo_20 (by decide) (fun h20 => ?_) (fun h20 => ?_)
    · exact absurd h20 (by decide) --stop
    · skip
      refine G_iconst (v := 0) F dX8_undo_23 rfl ?_
      refine G_iret F Rt dX8_undo_24 (rfl) ⟨rfl, rfl, _, rfl, ?_⟩ (Nat.le_refl _) (Nat.le_refl _)
      exact Or.inr ⟨hv, rfl⟩
  refine G_aload_n F dX8_undo_0 rfl ?_
  refine G_aload_n F dX8_undo_1 rfl ?_
  refine G_geti F fl_X8_116 dX8_undo_2 rfl rfl ?_
  rw [hu]
  refine G_if_ne (tgt := 12) F dX8_undo_5 (by decide) (fun h5 => ?_) (fun h5 => ?_)
  · have hu0 : ¬ u = 0 := fun q => h5 (by rw [q]; decide)
    refine G_iconst (v := 0) F dX8_undo_12 rfl ?_
    exact tz (by omega)
  · have hu0 : u = 0 := (nI_eq (by omega) (by omega)).mp (h5.trans (by decide : (0 : Int32) = nI 0))
    refine G_iconst (v := 1) F dX8_undo_8 rfl ?_
    refine G_goto (tgt := 13) F dX8_undo_9 (by decide) ?_
    exact t1 hu0
set_option maxRecDepth 20000 in
theorem t_isAlignment {l : Launch} {Z : fx_Z} (hl : l.stackTraces = false) (ad : Nat → Nat) (S : List fx_Sh) (M : fx_M) (a : Int32)  : CI l Z yX8_isAlignment (.code yX8_isAlignment cX8_isAlignment 1 (some .boolean)) 1 [.int a] ad S M (fun r m => r = (if (1 ≤ a ∧ a ≤ 32 ∧ a &&& (a - 1) = 0) then 1 else 0) ∧ m = M) := by
  refine CT_of (ret := (some .boolean)) (lv0 := [some (.int a)]) (by decide +kernel) hl (by simp [Value.category]) (Nat.le_of_ble_eq_true rfl) rfl ?_
  intro X F Rt _
  refine G_iload_n F dX8_isAlignment_0 rfl ?_
  refine G_iconst (v := 1) F dX8_isAlignment_1 rfl ?_
  refine G_bipush (v := 32) F dX8_isAlignment_2 rfl ?_
  refine G_sI F ms_X8_109 dX8_isAlignment_4 (t_isIn hl ad _ M a 1 32) rfl rfl (Nat.le_of_ble_eq_true rfl) ⟨Nat.le_of_ble_eq_true rfl, Nat.le_of_ble_eq_true rfl, Nat.le_of_ble_eq_true rfl, Nat.le_of_ble_eq_true rfl⟩ (fun r4 M4 h4 => ?_)
  rw [h4.1, h4.2]
  refine G_if_eq (tgt := 22) F dX8_isAlignment_7 (by decide) (fun h7 => ?_) (fun h7 => ?_)
  · have q : ¬ (1 ≤ a ∧ a ≤ 32 ∧ a &&& (a - 1) = 0) := fun z => by rw [if_pos ⟨z.1, z.2.1⟩] at h7; exact absurd h7 (by decide)
    refine G_iconst (v := 0) F dX8_isAlignment_22 rfl ?_
    refine G_iret F Rt dX8_isAlignment_23 (rfl) ⟨rfl, rfl, _, rfl, ?_⟩ (Nat.le_refl _) (Nat.le_refl _)
    first | exact ⟨(if_neg q).symm, rfl⟩ | exact ⟨(if_pos q).symm, rfl⟩
  · have q7 : 1 ≤ a ∧ a ≤ 32 := Classical.byContradiction fun z => h7 (if_neg z)
    refine G_iload_n F dX8_isAlignment_10 rfl ?_
    refine G_iload_n F dX8_isAlignment_11 rfl ?_
    refine G_iconst (v := 1) F dX8_isAlignment_12 rfl ?_
    refine G_isub F dX8_isAlignment_13 ?_
    refine G_iand F dX8_isAlignment_14 ?_
    refine G_if_ne (tgt := 22) F dX8_isAlignment_15 (by decide) (fun h15 => ?_) (fun h15 => ?_)
    · have q : ¬ (1 ≤ a ∧ a ≤ 32 ∧ a &&& (a - 1) = 0) := fun z => h15 z.2.2
      refine G_iconst (v := 0) F dX8_isAlignment_22 rfl ?_
      refine G_iret F Rt dX8_isAlignment_23 (rfl) ⟨rfl, rfl, _, rfl, ?_⟩ (Nat.le_refl _) (Nat.le_refl _)
      first | exact ⟨(if_neg q).symm, rfl⟩ | exact ⟨(if_pos q).symm, rfl⟩
    · have q : (1 ≤ a ∧ a ≤ 32 ∧ a &&& (a - 1) = 0) := ⟨q7.1, q7.2, h15⟩
      refine G_iconst (v := 1) F dX8_isAlignment_18 rfl ?_
      refine G_goto (tgt := 23) F dX8_isAlignment_19 (by decide) ?_
      refine G_iret F Rt dX8_isAlignment_23 (rfl) ⟨rfl, rfl, _, rfl, ?_⟩ (Nat.le_refl _) (Nat.le_refl _)
      first | exact ⟨(if_neg q).symm, rfl⟩ | exact ⟨(if_pos q).symm, rfl⟩
set_option maxRecDepth 20000 in
theorem t_setAlignment {l : Launch} {Z : fx_Z} (hl : l.stackTraces = false) (ad : Nat → Nat) (sw : Bool) (tl : List fx_Sh) (M : fx_M) (a : Int32) {u : Nat} (hu : M 37 27 = nI u) (hu9 : u ≤ 10) : CI l Z yX8_setAlignment (.code yX8_setAlignment cX8_setAlignment 3 (some .int)) 2 [.ref (ad 37), .int a] ad (c_C sw ++ (m_C ++ tl)) M (fun r m => ((1 ≤ a ∧ a ≤ 32 ∧ a &&& (a - 1) = 0) ∧ r = M 37 1 ∧ ∃ m0, v_kp u (fx_u M 37 13 0) m0 ∧ m = fx_u m0 37 1 a) ∨ (¬ (1 ≤ a ∧ a ≤ 32 ∧ a &&& (a - 1) = 0) ∧ m = fx_u M 37 13 1)) := by
  refine CT_of (ret := (some .int)) (lv0 := [some (.ref (ad 37)), some (.int a), none]) (by decide +kernel) hl (by simp [Value.category]) (Nat.le_of_ble_eq_true rfl) rfl ?_
  intro X F Rt _
  have t0 : (1 ≤ a ∧ a ≤ 32 ∧ a &&& (a - 1) = 0) → GG X ad 13 [some (.ref (ad 37)), some (.int a), none] [.int 0, .ref (ad 37)] 0 0 (c_C sw ++ (m_C ++ tl)) M := by
    intro hv
    refine G_puti F fl_X8_103 dX8_setAlignment_13 rfl rfl rfl rfl ?_
    refine G_aload_n F dX8_setAlignment_16 rfl ?_
    refine G_geti F fl_X8_103 dX8_setAlignment_17 rfl rfl ?_
    try simp only [fx_u_at, Nat.reduceEqDiff, false_and, and_false, true_and, and_true, ↓reduceIte]
    refine G_if_eq (tgt := 25) F dX8_setAlignment_20 (by decide) (fun h20 => ?_) (fun h20 => ?_)
    · skip
      refine G_aload_n F dX8_setAlignment_25 rfl ?_
      refine G_vv F mv_X8_201 dX8_setAlignment_26 (t_keeps hl ad sw tl (fx_u M 37 13 0) (u := u) (by rw [fx_u_at, if_neg (by decide)]; exact hu) hu9) rfl rfl rfl rfl (Nat.le_of_ble_eq_true rfl) ⟨Nat.le_of_ble_eq_true rfl, Nat.le_of_ble_eq_true rfl, Nat.le_of_ble_eq_true rfl, Nat.le_of_ble_eq_true rfl⟩ (fun M26 h26 => ?_)
      have r1 : M26 37 1 = M 37 1 := by rw [h26.2.1 1 (by decide), fx_u_at, if_neg (by decide)]
      skip
      refine G_aload_n F dX8_setAlignment_29 rfl ?_
      refine G_geti F fl_X8_7 dX8_setAlignment_30 rfl rfl ?_
      try simp only [fx_u_at, Nat.reduceEqDiff, false_and, and_false, true_and, and_true, ↓reduceIte]
      rw [r1]
      refine G_istore_n F 2 dX8_setAlignment_33 rfl rfl rfl (Nat.le_of_ble_eq_true rfl) ?_
      simp only [List.set_cons_zero, List.set_cons_succ]
      refine G_aload_n F dX8_setAlignment_34 rfl ?_
      refine G_iload_n F dX8_setAlignment_35 rfl ?_
      refine G_puti F fl_X8_7 dX8_setAlignment_36 rfl rfl rfl rfl ?_
      refine G_iload_n F dX8_setAlignment_39 rfl ?_
      refine G_iret F Rt dX8_setAlignment_40 (rfl) ⟨rfl, rfl, _, rfl, ?_⟩ (Nat.le_refl _) (Nat.le_refl _)
      exact Or.inl ⟨hv, rfl, M26, h26, rfl⟩
    · exact absurd rfl h20 --stop
  have t1 : ¬ (1 ≤ a ∧ a ≤ 32 ∧ a &&& (a - 1) = 0) → GG X ad 13 [some (.ref (ad 37)), some (.int a), none] [.int 1, .ref (ad 37)] 0 0 (c_C sw ++ (m_C ++ tl)) M := by
    intro hv
    refine G_puti F fl_X8_103 dX8_setAlignment_13 rfl rfl rfl rfl ?_
    refine G_aload_n F dX8_setAlignment_16 rfl ?_
    refine G_geti F fl_X8_103 dX8_setAlignment_17 rfl rfl ?_
    try simp only [fx_u_at, Nat.reduceEqDiff, false_and, and_false, true_and, and_true, ↓reduceIte]
    refine G_if_eq (tgt := 25) F dX8_setAlignment_20 (by decide) (fun h20 => ?_) (fun h20 => ?_)
    · exact absurd h20 (by decide) --stop
    · skip
      refine G_iconst (v := 0) F dX8_setAlignment_23 rfl ?_
      refine G_iret F Rt dX8_setAlignment_24 (rfl) ⟨rfl, rfl, _, rfl, ?_⟩ (Nat.le_refl _) (Nat.le_refl _)
      exact Or.inr ⟨hv, rfl⟩
  refine G_aload_n F dX8_setAlignment_0 rfl ?_
  refine G_iload_n F dX8_setAlignment_1 rfl ?_
  refine G_sI F ms_X8_198 dX8_setAlignment_2 (t_isAlignment hl ad _ M a) rfl rfl (Nat.le_of_ble_eq_true rfl) ⟨Nat.le_of_ble_eq_true rfl, Nat.le_of_ble_eq_true rfl, Nat.le_of_ble_eq_true rfl, Nat.le_of_ble_eq_true rfl⟩ (fun r2 M2 h2 => ?_)
  rw [h2.1, h2.2]
  refine G_if_eq (tgt := 12) F dX8_setAlignment_5 (by decide) (fun h5 => ?_) (fun h5 => ?_)
  · have q : ¬ (1 ≤ a ∧ a ≤ 32 ∧ a &&& (a - 1) = 0) := fun z => by rw [if_pos z] at h5; exact absurd h5 (by decide)
    refine G_iconst (v := 1) F dX8_setAlignment_12 rfl ?_
    exact t1 q
  · have q : (1 ≤ a ∧ a ≤ 32 ∧ a &&& (a - 1) = 0) := Classical.byContradiction fun z => h5 (if_neg z)
    refine G_iconst (v := 0) F dX8_setAlignment_8 rfl ?_
    refine G_goto (tgt := 13) F dX8_setAlignment_9 (by decide) ?_
    exact t0 q
set_option maxRecDepth 20000 in
theorem t_setLoopLimit {l : Launch} {Z : fx_Z} (hl : l.stackTraces = false) (ad : Nat → Nat) (sw : Bool) (tl : List fx_Sh) (M : fx_M) (v : Int32)  : CI l Z yX8_setLoopLimit (.code yX8_setLoopLimit cX8_setLoopLimit 3 (some .int)) 1 [.ref (ad 37), .int v] ad (c_C sw ++ (m_C ++ tl)) M (fun r m => ((0 ≤ v ∧ v ≤ 9999) ∧ r = M 37 2 ∧ m = fx_u (fx_u M 37 13 0) 37 2 v) ∨ (¬ (0 ≤ v ∧ v ≤ 9999) ∧ m = fx_u M 37 13 1)) := by
  refine CT_of (ret := (some .int)) (lv0 := [some (.ref (ad 37)), some (.int v), none]) (by decide +kernel) hl (by simp [Value.category]) (Nat.le_of_ble_eq_true rfl) rfl ?_
  intro X F Rt _
  have t0 : (0 ≤ v ∧ v ≤ 9999) → GG X ad 17 [some (.ref (ad 37)), some (.int v), none] [.int 0, .ref (ad 37)] 0 0 (c_C sw ++ (m_C ++ tl)) M := by
    intro hv
    refine G_puti F fl_X8_103 dX8_setLoopLimit_17 rfl rfl rfl rfl ?_
    refine G_aload_n F dX8_setLoopLimit_20 rfl ?_
    refine G_geti F fl_X8_103 dX8_setLoopLimit_21 rfl rfl ?_
    try simp only [fx_u_at, Nat.reduceEqDiff, false_and, and_false, true_and, and_true, ↓reduceIte]
    refine G_if_eq (tgt := 29) F dX8_setLoopLimit_24 (by decide) (fun h24 => ?_) (fun h24 => ?_)
    · skip
      refine G_aload_n F dX8_setLoopLimit_29 rfl ?_
      refine G_geti F fl_X8_13 dX8_setLoopLimit_30 rfl rfl ?_
      try simp only [fx_u_at, Nat.reduceEqDiff, false_and, and_false, true_and, and_true, ↓reduceIte]
      refine G_istore_n F 2 dX8_setLoopLimit_33 rfl rfl rfl (Nat.le_of_ble_eq_true rfl) ?_
      simp only [List.set_cons_zero, List.set_cons_succ]
      refine G_aload_n F dX8_setLoopLimit_34 rfl ?_
      refine G_iload_n F dX8_setLoopLimit_35 rfl ?_
      refine G_puti F fl_X8_13 dX8_setLoopLimit_36 rfl rfl rfl rfl ?_
      refine G_iload_n F dX8_setLoopLimit_39 rfl ?_
      refine G_iret F Rt dX8_setLoopLimit_40 (rfl) ⟨rfl, rfl, _, rfl, ?_⟩ (Nat.le_refl _) (Nat.le_refl _)
      exact Or.inl ⟨hv, rfl, rfl⟩
    · exact absurd rfl h24 --stop
  have t1 : ¬ (0 ≤ v ∧ v ≤ 9999) → GG X ad 17 [some (.ref (ad 37)), some (.int v), none] [.int 1, .ref (ad 37)] 0 0 (c_C sw ++ (m_C ++ tl)) M := by
    intro hv
    refine G_puti F fl_X8_103 dX8_setLoopLimit_17 rfl rfl rfl rfl ?_
    refine G_aload_n F dX8_setLoopLimit_20 rfl ?_
    refine G_geti F fl_X8_103 dX8_setLoopLimit_21 rfl rfl ?_
    try simp only [fx_u_at, Nat.reduceEqDiff, false_and, and_false, true_and, and_true, ↓reduceIte]
    refine G_if_eq (tgt := 29) F dX8_setLoopLimit_24 (by decide) (fun h24 => ?_) (fun h24 => ?_)
    · exact absurd h24 (by decide) --stop
    · skip
      refine G_iconst (v := 0) F dX8_setLoopLimit_27 rfl ?_
      refine G_iret F Rt dX8_setLoopLimit_28 (rfl) ⟨rfl, rfl, _, rfl, ?_⟩ (Nat.le_refl _) (Nat.le_refl _)
      exact Or.inr ⟨hv, rfl⟩
  refine G_aload_n F dX8_setLoopLimit_0 rfl ?_
  refine G_iload_n F dX8_setLoopLimit_1 rfl ?_
  refine G_iconst (v := 0) F dX8_setLoopLimit_2 rfl ?_
  refine G_sipush (v := 9999) F dX8_setLoopLimit_3 rfl ?_
  refine G_sI F ms_X8_109 dX8_setLoopLimit_6 (t_isIn hl ad _ M v 0 9999) rfl rfl (Nat.le_of_ble_eq_true rfl) ⟨Nat.le_of_ble_eq_true rfl, Nat.le_of_ble_eq_true rfl, Nat.le_of_ble_eq_true rfl, Nat.le_of_ble_eq_true rfl⟩ (fun r6 M6 h6 => ?_)
  rw [h6.1, h6.2]
  refine G_if_eq (tgt := 16) F dX8_setLoopLimit_9 (by decide) (fun h9 => ?_) (fun h9 => ?_)
  · have q : ¬ (0 ≤ v ∧ v ≤ 9999) := by simpa using h9
    refine G_iconst (v := 1) F dX8_setLoopLimit_16 rfl ?_
    exact t1 q
  · have q : (0 ≤ v ∧ v ≤ 9999) := by simpa using h9
    refine G_iconst (v := 0) F dX8_setLoopLimit_12 rfl ?_
    refine G_goto (tgt := 17) F dX8_setLoopLimit_13 (by decide) ?_
    exact t0 q
set_option maxRecDepth 20000 in
theorem t_exchange {l : Launch} {Z : fx_Z} (hl : l.stackTraces = false) (ad : Nat → Nat) (sw : Bool) (tl : List fx_Sh) (M : fx_M) {N : Nat} (i j : Int32) (hN : M 37 0 = nI N) (hN16 : N ≤ 16) (hN1 : 1 ≤ N) {u : Nat} (hu : M 37 27 = nI u) (hu9 : u ≤ 10) : CI l Z yX8_exchange (.code yX8_exchange cX8_exchange 4 (some .int)) 2 [.ref (ad 37), .int i, .int j] ad (c_C sw ++ (m_C ++ tl)) M (fun r m => (∃ x y, x < N ∧ y < N ∧ i = nI x ∧ j = nI y ∧ x ≠ 0 ∧ y ≠ 0 ∧ ∃ m0, v_kp u (fx_u M 37 13 0) m0 ∧ m = fx_u (fx_u m0 46 x (m0 46 y)) 46 y (m0 46 x) ∧ r = m 46 x) ∨ ((pin N i && pin N j) = false ∧ m = fx_u M 37 13 1) ∨ ((pin N i && pin N j) = true ∧ (i = 0 ∨ j = 0) ∧ m = fx_u M 37 13 2)) := by
  refine CT_of (ret := (some .int)) (lv0 := [some (.ref (ad 37)), some (.int i), some (.int j), none]) (by decide +kernel) hl (by simp [Value.category]) (Nat.le_of_ble_eq_true rfl) rfl ?_
  intro X F Rt _
  have t0 : (pin N i = true ∧ pin N j = true ∧ ¬ (i = 0 ∨ j = 0)) → GG X ad 34 [some (.ref (ad 37)), some (.int i), some (.int j), none] [.int 0, .ref (ad 37)] 0 0 (c_C sw ++ (m_C ++ tl)) M := by
    intro hv
    refine G_puti F fl_X8_103 dX8_exchange_34 rfl rfl rfl rfl ?_
    refine G_aload_n F dX8_exchange_37 rfl ?_
    refine G_geti F fl_X8_103 dX8_exchange_38 rfl rfl ?_
    refine G_if_eq (tgt := 46) F dX8_exchange_41 (by decide) (fun h41 => ?_) (fun h41 => ?_)
    · skip
      obtain ⟨x, hx1, hx2⟩ := pin_spec hN16 hv.1
      obtain ⟨y, hy1, hy2⟩ := pin_spec hN16 hv.2.1
      subst hx2
      subst hy2
      have x0 : x ≠ 0 := fun q => hv.2.2 (Or.inl (by rw [q]; decide))
      have y0 : y ≠ 0 := fun q => hv.2.2 (Or.inr (by rw [q]; decide))
      refine G_aload_n F dX8_exchange_46 rfl ?_
      refine G_vv F mv_X8_201 dX8_exchange_47 (t_keeps hl ad sw tl (fx_u M 37 13 0) (u := u) (by rw [fx_u_at, if_neg (by decide)]; exact hu) hu9) rfl rfl rfl rfl (Nat.le_of_ble_eq_true rfl) ⟨Nat.le_of_ble_eq_true rfl, Nat.le_of_ble_eq_true rfl, Nat.le_of_ble_eq_true rfl, Nat.le_of_ble_eq_true rfl⟩ (fun M47 h47 => ?_)
      skip
      refine G_aload_n F dX8_exchange_50 rfl ?_
      refine G_getr F fl_X8_41 dX8_exchange_51 rfl rfl ?_
      refine G_iload_n F dX8_exchange_54 rfl ?_
      refine G_ialdN F dX8_exchange_55 rfl (by omega) (by decide) ?_
      refine G_istore_n F 3 dX8_exchange_56 rfl rfl rfl (Nat.le_of_ble_eq_true rfl) ?_
      simp only [List.set_cons_zero, List.set_cons_succ]
      refine G_aload_n F dX8_exchange_57 rfl ?_
      refine G_getr F fl_X8_41 dX8_exchange_58 rfl rfl ?_
      refine G_iload_n F dX8_exchange_61 rfl ?_
      refine G_aload_n F dX8_exchange_62 rfl ?_
      refine G_getr F fl_X8_41 dX8_exchange_63 rfl rfl ?_
      refine G_iload_n F dX8_exchange_66 rfl ?_
      refine G_ialdN F dX8_exchange_67 rfl (by omega) (by decide) ?_
      refine G_iastN F dX8_exchange_68 rfl (by omega) (by decide) ?_
      refine G_aload_n F dX8_exchange_69 rfl ?_
      refine G_getr F fl_X8_41 dX8_exchange_70 rfl rfl ?_
      refine G_iload_n F dX8_exchange_73 rfl ?_
      refine G_iload_n F dX8_exchange_74 rfl ?_
      refine G_iastN F dX8_exchange_75 rfl (by omega) (by decide) ?_
      refine G_aload_n F dX8_exchange_76 rfl ?_
      refine G_getr F fl_X8_41 dX8_exchange_77 rfl rfl ?_
      refine G_iload_n F dX8_exchange_80 rfl ?_
      refine G_ialdN F dX8_exchange_81 rfl (by omega) (by decide) ?_
      refine G_iret F Rt dX8_exchange_82 (rfl) ⟨rfl, rfl, _, rfl, ?_⟩ (Nat.le_refl _) (Nat.le_refl _)
      exact Or.inl ⟨x, y, hx1, hy1, rfl, rfl, x0, y0, M47, h47, rfl, rfl⟩
    · exact absurd rfl h41 --stop
  have t1 : (pin N i && pin N j) = false → GG X ad 34 [some (.ref (ad 37)), some (.int i), some (.int j), none] [.int 1, .ref (ad 37)] 0 0 (c_C sw ++ (m_C ++ tl)) M := by
    intro hv
    refine G_puti F fl_X8_103 dX8_exchange_34 rfl rfl rfl rfl ?_
    refine G_aload_n F dX8_exchange_37 rfl ?_
    refine G_geti F fl_X8_103 dX8_exchange_38 rfl rfl ?_
    try simp only [fx_u_at, Nat.reduceEqDiff, false_and, and_false, true_and, and_true, ↓reduceIte]
    refine G_if_eq (tgt := 46) F dX8_exchange_41 (by decide) (fun h41 => ?_) (fun h41 => ?_)
    · exact absurd h41 (by decide) --stop
    · skip
      refine G_iconst (v := 0) F dX8_exchange_44 rfl ?_
      refine G_iret F Rt dX8_exchange_45 (rfl) ⟨rfl, rfl, _, rfl, ?_⟩ (Nat.le_refl _) (Nat.le_refl _)
      exact Or.inr (Or.inl ⟨hv, rfl⟩)
  have t2 : ((pin N i && pin N j) = true ∧ (i = 0 ∨ j = 0)) → GG X ad 34 [some (.ref (ad 37)), some (.int i), some (.int j), none] [.int 2, .ref (ad 37)] 0 0 (c_C sw ++ (m_C ++ tl)) M := by
    intro hv
    refine G_puti F fl_X8_103 dX8_exchange_34 rfl rfl rfl rfl ?_
    refine G_aload_n F dX8_exchange_37 rfl ?_
    refine G_geti F fl_X8_103 dX8_exchange_38 rfl rfl ?_
    try simp only [fx_u_at, Nat.reduceEqDiff, false_and, and_false, true_and, and_true, ↓reduceIte]
    refine G_if_eq (tgt := 46) F dX8_exchange_41 (by decide) (fun h41 => ?_) (fun h41 => ?_)
    · exact absurd h41 (by decide) --stop
    · skip
      refine G_iconst (v := 0) F dX8_exchange_44 rfl ?_
      refine G_iret F Rt dX8_exchange_45 (rfl) ⟨rfl, rfl, _, rfl, ?_⟩ (Nat.le_refl _) (Nat.le_refl _)
      exact Or.inr (Or.inr ⟨hv.1, hv.2, rfl⟩)
  refine G_aload_n F dX8_exchange_0 rfl ?_
  refine G_aload_n F dX8_exchange_1 rfl ?_
  refine G_iload_n F dX8_exchange_2 rfl ?_
  refine G_vI F mv_X8_119 dX8_exchange_3 (t_isBlock hl ad sw tl M (N := N) i hN hN16 hN1) rfl rfl rfl rfl (Nat.le_of_ble_eq_true rfl) ⟨Nat.le_of_ble_eq_true rfl, Nat.le_of_ble_eq_true rfl, Nat.le_of_ble_eq_true rfl, Nat.le_of_ble_eq_true rfl⟩ (fun r3 M3 h3 => ?_)
  rw [h3.1, h3.2]
  refine G_if_eq (tgt := 17) F dX8_exchange_6 (by decide) (fun h6 => ?_) (fun h6 => ?_)
  · have q6 : pin N i = false := by simpa using h6
    refine G_iconst (v := 1) F dX8_exchange_17 rfl ?_
    refine G_goto (tgt := 34) F dX8_exchange_18 (by decide) ?_
    exact t1 (by simp [q6])
  · have q6 : pin N i = true := by simpa using h6
    refine G_aload_n F dX8_exchange_9 rfl ?_
    refine G_iload_n F dX8_exchange_10 rfl ?_
    refine G_vI F mv_X8_119 dX8_exchange_11 (t_isBlock hl ad sw tl M (N := N) j hN hN16 hN1) rfl rfl rfl rfl (Nat.le_of_ble_eq_true rfl) ⟨Nat.le_of_ble_eq_true rfl, Nat.le_of_ble_eq_true rfl, Nat.le_of_ble_eq_true rfl, Nat.le_of_ble_eq_true rfl⟩ (fun r11 M11 h11 => ?_)
    rw [h11.1, h11.2]
    refine G_if_ne (tgt := 21) F dX8_exchange_14 (by decide) (fun h14 => ?_) (fun h14 => ?_)
    · have q14 : pin N j = true := by simpa using h14
      refine G_iload_n F dX8_exchange_21 rfl ?_
      refine G_if_eq (tgt := 29) F dX8_exchange_22 (by decide) (fun h22 => ?_) (fun h22 => ?_)
      · refine G_iconst (v := 2) F dX8_exchange_29 rfl ?_
        refine G_goto (tgt := 34) F dX8_exchange_30 (by decide) ?_
        exact t2 ⟨by simp [q6, q14], Or.inl h22⟩
      · refine G_iload_n F dX8_exchange_25 rfl ?_
        refine G_if_ne (tgt := 33) F dX8_exchange_26 (by decide) (fun h26 => ?_) (fun h26 => ?_)
        · refine G_iconst (v := 0) F dX8_exchange_33 rfl ?_
          exact t0 ⟨q6, q14, fun z => z.elim h22 h26⟩
        · refine G_iconst (v := 2) F dX8_exchange_29 rfl ?_
          refine G_goto (tgt := 34) F dX8_exchange_30 (by decide) ?_
          exact t2 ⟨by simp [q6, q14], Or.inr h26⟩
    · have q14 : pin N j = false := by simpa using h14
      refine G_iconst (v := 1) F dX8_exchange_17 rfl ?_
      refine G_goto (tgt := 34) F dX8_exchange_18 (by decide) ?_
      exact t1 (by simp [q14])
set_option maxRecDepth 20000 in
theorem t_setHot {l : Launch} {Z : fx_Z} (hl : l.stackTraces = false) (ad : Nat → Nat) (sw : Bool) (tl : List fx_Sh) (M : fx_M) {N : Nat} (n : Int32) (hN : M 37 0 = nI N) {u : Nat} (hu : M 37 27 = nI u) (hu9 : u ≤ 10) : CI l Z yX8_setHot (.code yX8_setHot cX8_setHot 3 (some .int)) 2 [.ref (ad 37), .int n] ad (c_C sw ++ (m_C ++ tl)) M (fun r m => ((1 ≤ n ∧ n ≤ nI N) ∧ r = M 37 3 ∧ ∃ m0, v_kp u (fx_u M 37 13 0) m0 ∧ m = fx_u m0 37 3 n) ∨ (¬ (1 ≤ n ∧ n ≤ nI N) ∧ m = fx_u M 37 13 1)) := by
  refine CT_of (ret := (some .int)) (lv0 := [some (.ref (ad 37)), some (.int n), none]) (by decide +kernel) hl (by simp [Value.category]) (Nat.le_of_ble_eq_true rfl) rfl ?_
  intro X F Rt _
  have t0 : (1 ≤ n ∧ n ≤ nI N) → GG X ad 18 [some (.ref (ad 37)), some (.int n), none] [.int 0, .ref (ad 37)] 0 0 (c_C sw ++ (m_C ++ tl)) M := by
    intro hv
    refine G_puti F fl_X8_103 dX8_setHot_18 rfl rfl rfl rfl ?_
    refine G_aload_n F dX8_setHot_21 rfl ?_
    refine G_geti F fl_X8_103 dX8_setHot_22 rfl rfl ?_
    try simp only [fx_u_at, Nat.reduceEqDiff, false_and, and_false, true_and, and_true, ↓reduceIte]
    refine G_if_eq (tgt := 30) F dX8_setHot_25 (by decide) (fun h25 => ?_) (fun h25 => ?_)
    · skip
      refine G_aload_n F dX8_setHot_30 rfl ?_
      refine G_vv F mv_X8_201 dX8_setHot_31 (t_keeps hl ad sw tl (fx_u M 37 13 0) (u := u) (by rw [fx_u_at, if_neg (by decide)]; exact hu) hu9) rfl rfl rfl rfl (Nat.le_of_ble_eq_true rfl) ⟨Nat.le_of_ble_eq_true rfl, Nat.le_of_ble_eq_true rfl, Nat.le_of_ble_eq_true rfl, Nat.le_of_ble_eq_true rfl⟩ (fun M31 h31 => ?_)
      have r1 : M31 37 3 = M 37 3 := by rw [h31.2.1 3 (by decide), fx_u_at, if_neg (by decide)]
      skip
      refine G_aload_n F dX8_setHot_34 rfl ?_
      refine G_geti F fl_X8_113 dX8_setHot_35 rfl rfl ?_
      try simp only [fx_u_at, Nat.reduceEqDiff, false_and, and_false, true_and, and_true, ↓reduceIte]
      rw [r1]
      refine G_istore_n F 2 dX8_setHot_38 rfl rfl rfl (Nat.le_of_ble_eq_true rfl) ?_
      simp only [List.set_cons_zero, List.set_cons_succ]
      refine G_aload_n F dX8_setHot_39 rfl ?_
      refine G_iload_n F dX8_setHot_40 rfl ?_
      refine G_puti F fl_X8_113 dX8_setHot_41 rfl rfl rfl rfl ?_
      refine G_iload_n F dX8_setHot_44 rfl ?_
      refine G_iret F Rt dX8_setHot_45 (rfl) ⟨rfl, rfl, _, rfl, ?_⟩ (Nat.le_refl _) (Nat.le_refl _)
      exact Or.inl ⟨hv, rfl, M31, h31, rfl⟩
    · exact absurd rfl h25 --stop
  have t1 : ¬ (1 ≤ n ∧ n ≤ nI N) → GG X ad 18 [some (.ref (ad 37)), some (.int n), none] [.int 1, .ref (ad 37)] 0 0 (c_C sw ++ (m_C ++ tl)) M := by
    intro hv
    refine G_puti F fl_X8_103 dX8_setHot_18 rfl rfl rfl rfl ?_
    refine G_aload_n F dX8_setHot_21 rfl ?_
    refine G_geti F fl_X8_103 dX8_setHot_22 rfl rfl ?_
    try simp only [fx_u_at, Nat.reduceEqDiff, false_and, and_false, true_and, and_true, ↓reduceIte]
    refine G_if_eq (tgt := 30) F dX8_setHot_25 (by decide) (fun h25 => ?_) (fun h25 => ?_)
    · exact absurd h25 (by decide) --stop
    · skip
      refine G_iconst (v := 0) F dX8_setHot_28 rfl ?_
      refine G_iret F Rt dX8_setHot_29 (rfl) ⟨rfl, rfl, _, rfl, ?_⟩ (Nat.le_refl _) (Nat.le_refl _)
      exact Or.inr ⟨hv, rfl⟩
  refine G_aload_n F dX8_setHot_0 rfl ?_
  refine G_iload_n F dX8_setHot_1 rfl ?_
  refine G_iconst (v := 1) F dX8_setHot_2 rfl ?_
  refine G_aload_n F dX8_setHot_3 rfl ?_
  refine G_geti F fl_X8_106 dX8_setHot_4 rfl rfl ?_
  rw [hN]
  refine G_sI F ms_X8_109 dX8_setHot_7 (t_isIn hl ad _ M n 1 (nI N)) rfl rfl (Nat.le_of_ble_eq_true rfl) ⟨Nat.le_of_ble_eq_true rfl, Nat.le_of_ble_eq_true rfl, Nat.le_of_ble_eq_true rfl, Nat.le_of_ble_eq_true rfl⟩ (fun r7 M7 h7 => ?_)
  rw [h7.1, h7.2]
  refine G_if_eq (tgt := 17) F dX8_setHot_10 (by decide) (fun h10 => ?_) (fun h10 => ?_)
  · have q : ¬ (1 ≤ n ∧ n ≤ nI N) := by simpa using h10
    refine G_iconst (v := 1) F dX8_setHot_17 rfl ?_
    exact t1 q
  · have q : (1 ≤ n ∧ n ≤ nI N) := by simpa using h10
    refine G_iconst (v := 0) F dX8_setHot_13 rfl ?_
    refine G_goto (tgt := 18) F dX8_setHot_14 (by decide) ?_
    exact t0 q
set_option maxRecDepth 20000 in
theorem t_order {l : Launch} {Z : fx_Z} (hl : l.stackTraces = false) (ad : Nat → Nat) (sw : Bool) (tl : List fx_Sh) (M : fx_M) {N : Nat} (i : Int32) (hN : M 37 0 = nI N) (hN16 : N ≤ 16) (hN1 : 1 ≤ N) : CI l Z yX8_order (.code yX8_order cX8_order 2 (some .int)) 2 [.ref (ad 37), .int i] ad (c_C sw ++ (m_C ++ tl)) M (fun r m => (∃ x, x < N ∧ i = nI x ∧ r = M 46 x ∧ m = fx_u M 37 13 0) ∨ (pin N i = false ∧ m = fx_u M 37 13 1)) := by
  refine CT_of (ret := (some .int)) (lv0 := [some (.ref (ad 37)), some (.int i)]) (by decide +kernel) hl (by simp [Value.category]) (Nat.le_of_ble_eq_true rfl) rfl ?_
  intro X F Rt _
  have t0 : pin N i = true → GG X ad 14 [some (.ref (ad 37)), some (.int i)] [.int 0, .ref (ad 37)] 0 0 (c_C sw ++ (m_C ++ tl)) M := by
    intro hv
    refine G_puti F fl_X8_103 dX8_order_14 rfl rfl rfl rfl ?_
    refine G_aload_n F dX8_order_17 rfl ?_
    refine G_geti F fl_X8_103 dX8_order_18 rfl rfl ?_
    try simp only [fx_u_at, Nat.reduceEqDiff, false_and, and_false, true_and, and_true, ↓reduceIte]
    refine G_if_ne (tgt := 33) F dX8_order_21 (by decide) (fun h21 => ?_) (fun h21 => ?_)
    · exact absurd rfl h21 --stop
    · skip
      obtain ⟨x, hx1, hx2⟩ := pin_spec hN16 hv
      subst hx2
      refine G_aload_n F dX8_order_24 rfl ?_
      refine G_getr F fl_X8_41 dX8_order_25 rfl rfl ?_
      refine G_iload_n F dX8_order_28 rfl ?_
      refine G_ialdN F dX8_order_29 rfl (by omega) (by decide) ?_
      try simp only [fx_u_at, Nat.reduceEqDiff, false_and, and_false, true_and, and_true, ↓reduceIte]
      refine G_goto (tgt := 34) F dX8_order_30 (by decide) ?_
      refine G_iret F Rt dX8_order_34 (rfl) ⟨rfl, rfl, _, rfl, ?_⟩ (Nat.le_refl _) (Nat.le_refl _)
      exact Or.inl ⟨x, hx1, rfl, rfl, rfl⟩
  have t1 : pin N i = false → GG X ad 14 [some (.ref (ad 37)), some (.int i)] [.int 1, .ref (ad 37)] 0 0 (c_C sw ++ (m_C ++ tl)) M := by
    intro hv
    refine G_puti F fl_X8_103 dX8_order_14 rfl rfl rfl rfl ?_
    refine G_aload_n F dX8_order_17 rfl ?_
    refine G_geti F fl_X8_103 dX8_order_18 rfl rfl ?_
    try simp only [fx_u_at, Nat.reduceEqDiff, false_and, and_false, true_and, and_true, ↓reduceIte]
    refine G_if_ne (tgt := 33) F dX8_order_21 (by decide) (fun h21 => ?_) (fun h21 => ?_)
    · skip
      refine G_iconst (v := 0) F dX8_order_33 rfl ?_
      refine G_iret F Rt dX8_order_34 (rfl) ⟨rfl, rfl, _, rfl, ?_⟩ (Nat.le_refl _) (Nat.le_refl _)
      exact Or.inr ⟨hv, rfl⟩
    · exact absurd h21 (by decide) --stop
  refine G_aload_n F dX8_order_0 rfl ?_
  refine G_aload_n F dX8_order_1 rfl ?_
  refine G_iload_n F dX8_order_2 rfl ?_
  refine G_vI F mv_X8_119 dX8_order_3 (t_isBlock hl ad sw tl M (N := N) i hN hN16 hN1) rfl rfl rfl rfl (Nat.le_of_ble_eq_true rfl) ⟨Nat.le_of_ble_eq_true rfl, Nat.le_of_ble_eq_true rfl, Nat.le_of_ble_eq_true rfl, Nat.le_of_ble_eq_true rfl⟩ (fun r3 M3 h3 => ?_)
  rw [h3.1, h3.2]
  refine G_if_eq (tgt := 13) F dX8_order_6 (by decide) (fun h6 => ?_) (fun h6 => ?_)
  · have q6 : pin N i = false := by simpa using h6
    refine G_iconst (v := 1) F dX8_order_13 rfl ?_
    exact t1 q6
  · have q6 : pin N i = true := by simpa using h6
    refine G_iconst (v := 0) F dX8_order_9 rfl ?_
    refine G_goto (tgt := 14) F dX8_order_10 (by decide) ?_
    exact t0 q6
