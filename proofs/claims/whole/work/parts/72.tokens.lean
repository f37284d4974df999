/-! THE REFERENCE: its parser -/
theorem G_ldcKW {X : fx_C} {l : Launch} {Z : fx_Z} {R : Room} {own : String} {cc : ByteArray} {ad : Nat → Nat} {pc : Nat} {lv : List (Option Value)} {rest : List Value} {ce sl : Nat} {S : List fx_Sh} {M : fx_M} (F : fx_F X l Z R own cc) {i k : Nat} {tx : String} {bs : List Int32} (hq : fx_txt[i]? = some (own, k, tx, bs)) (d : decode cc pc = .ok (.ldc_w k, 3)) (kk : GG X ad (pc + 3) lv (.ref (Z.2.2.1 i) :: rest) ce sl S M) : GG X ad pc lv rest ce sl S M := by
  obtain ⟨p, l', e, R', s, m, args, below, meth, c, Z', A, Q, nL⟩ := X
  obtain ⟨rfl, rfl, rfl, ⟨hx, hb, hml, hown, hts⟩, hA, hE, hlk, htr⟩ := F
  intro H locs ls hL hP hD hS T hT Y
  obtain ⟨t, a1, b1⟩ := kk H locs ls hL hP hD hS T hT Y
  have hZ := (hE.2.2.2.1 i _ hq).1
  exact ⟨t, Y.ldcStringW hx hown (text := tx) (a := Z'.2.2.1 i) hZ.1 hZ.2 (g := F0 m pc ls rest) rfl (by rw [hb]; exact d) t a1, b1⟩
set_option maxRecDepth 20000 in
theorem t_here {l : Launch} {Z : fx_Z} (hl : l.stackTraces = false) (ad : Nat → Nat) (sw : Bool) (tl : List fx_Sh) (M : fx_M)  {len a : Nat} (hl1 : M 37 39 = nI len) (hl60 : len ≤ 60) (ha : M 37 40 = nI a) (hal : a ≤ len) : CI l Z yX8_here (.code yX8_here cX8_here 1 (some .int)) 0 [.ref (ad 37)] ad (c_C sw ++ (m_C ++ tl)) M (fun r m => r = (hr (M 63) len) a ∧ m = M) := by
  refine CT_of (ret := (some .int)) (lv0 := [some (.ref (ad 37))]) (by decide +kernel) hl (by simp [Value.category]) (Nat.le_of_ble_eq_true rfl) rfl ?_
  intro X F Rt _
  refine G_aload_n F dX8_here_0 rfl ?_
  refine G_geti F fl_X8_286 dX8_here_1 rfl rfl ?_
  try simp only [fx_u_at, Nat.reduceEqDiff, false_and, and_false, true_and, and_true, ↓reduceIte, hl1, ha]
  refine G_aload_n F dX8_here_4 rfl ?_
  refine G_geti F fl_X8_283 dX8_here_5 rfl rfl ?_
  try simp only [fx_u_at, Nat.reduceEqDiff, false_and, and_false, true_and, and_true, ↓reduceIte, hl1, ha]
  refine G_icmp_ge (tgt := 23) F dX8_here_8 (by decide) (fun h8 => ?_) (fun h8 => ?_)
  · rw [nI_leI (by omega) (by omega)] at h8
    have q : (hr (M 63) len) a = -1 := if_neg (by omega)
    refine G_iconst (v := -1) F dX8_here_23 rfl ?_
    refine G_iret F Rt dX8_here_24 (rfl) ⟨rfl, rfl, _, rfl, ?_⟩ (Nat.le_refl _) (Nat.le_refl _)
    exact ⟨q.symm, rfl⟩
  · rw [nI_leI (by omega) (by omega)] at h8
    have q : (hr (M 63) len) a = M 63 a := if_pos (by omega)
    refine G_aload_n F dX8_here_11 rfl ?_
    refine G_getr F fl_X8_93 dX8_here_12 rfl rfl ?_
    refine G_aload_n F dX8_here_15 rfl ?_
    refine G_geti F fl_X8_286 dX8_here_16 rfl rfl ?_
    try simp only [fx_u_at, Nat.reduceEqDiff, false_and, and_false, true_and, and_true, ↓reduceIte, hl1, ha]
    refine G_ialdN F dX8_here_19 rfl (by omega) (by decide) ?_
    try simp only [fx_u_at, Nat.reduceEqDiff, false_and, and_false, true_and, and_true, ↓reduceIte, hl1, ha]
    refine G_goto (tgt := 24) F dX8_here_20 (by decide) ?_
    refine G_iret F Rt dX8_here_24 (rfl) ⟨rfl, rfl, _, rfl, ?_⟩ (Nat.le_refl _) (Nat.le_refl _)
    exact ⟨q.symm, rfl⟩
set_option maxRecDepth 20000 in
theorem t_feed {l : Launch} {Z : fx_Z} (hl : l.stackTraces = false) (ad : Nat → Nat) (sw : Bool) (tl : List fx_Sh) (M : fx_M) (c : Int32) {len : Nat} (hl1 : M 37 39 = nI len) (hl60 : len ≤ 60) : CI l Z yX8_feed (.code yX8_feed cX8_feed 2 (some .int)) 0 [.ref (ad 37), .int c] ad (c_C sw ++ (m_C ++ tl)) M (fun r m => (len < 60 ∧ r = nI (len + 1) ∧ m = fx_u (fx_u (fx_u M 37 13 0) 63 len c) 37 39 (nI (len + 1))) ∨ (len = 60 ∧ m = fx_u M 37 13 1)) := by
  refine CT_of (ret := (some .int)) (lv0 := [some (.ref (ad 37)), some (.int c)]) (by decide +kernel) hl (by simp [Value.category]) (Nat.le_of_ble_eq_true rfl) rfl ?_
  intro X F Rt _
  have t0 : len < 60 → GG X ad 15 [some (.ref (ad 37)), some (.int c)] [.int 0, .ref (ad 37)] 0 0 (c_C sw ++ (m_C ++ tl)) M := by
    intro hv
    refine G_puti F fl_X8_103 dX8_feed_15 rfl rfl rfl rfl ?_
    refine G_aload_n F dX8_feed_18 rfl ?_
    refine G_geti F fl_X8_103 dX8_feed_19 rfl rfl ?_
    try simp only [fx_u_at, Nat.reduceEqDiff, false_and, and_false, true_and, and_true, ↓reduceIte, hl1]
    refine G_if_eq (tgt := 27) F dX8_feed_22 (by decide) (fun h22 => ?_) (fun h22 => ?_)
    · skip
      refine G_aload_n F dX8_feed_27 rfl ?_
      refine G_getr F fl_X8_93 dX8_feed_28 rfl rfl ?_
      refine G_aload_n F dX8_feed_31 rfl ?_
      refine G_geti F fl_X8_283 dX8_feed_32 rfl rfl ?_
      try simp only [fx_u_at, Nat.reduceEqDiff, false_and, and_false, true_and, and_true, ↓reduceIte, hl1]
      refine G_iload_n F dX8_feed_35 rfl ?_
      refine G_iastN F dX8_feed_36 rfl (by omega) (by decide) ?_
      refine G_aload_n F dX8_feed_37 rfl ?_
      refine G_dup F dX8_feed_38 rfl ?_
      refine G_geti F fl_X8_283 dX8_feed_39 rfl rfl ?_
      try simp only [fx_u_at, Nat.reduceEqDiff, false_and, and_false, true_and, and_true, ↓reduceIte, hl1]
      refine G_iconst (v := 1) F dX8_feed_42 rfl ?_
      refine G_iadd F dX8_feed_43 ?_
      rw [nI_1]
      refine G_puti F fl_X8_283 dX8_feed_44 rfl rfl rfl rfl ?_
      refine G_aload_n F dX8_feed_47 rfl ?_
      refine G_geti F fl_X8_283 dX8_feed_48 rfl rfl ?_
      try simp only [fx_u_at, Nat.reduceEqDiff, false_and, and_false, true_and, and_true, ↓reduceIte, hl1]
      refine G_iret F Rt dX8_feed_51 (rfl) ⟨rfl, rfl, _, rfl, ?_⟩ (Nat.le_refl _) (Nat.le_refl _)
      exact Or.inl ⟨hv, rfl, rfl⟩
    · exact absurd rfl h22 --stop
  have t1 : len = 60 → GG X ad 15 [some (.ref (ad 37)), some (.int c)] [.int 1, .ref (ad 37)] 0 0 (c_C sw ++ (m_C ++ tl)) M := by
    intro hv
    refine G_puti F fl_X8_103 dX8_feed_15 rfl rfl rfl rfl ?_
    refine G_aload_n F dX8_feed_18 rfl ?_
    refine G_geti F fl_X8_103 dX8_feed_19 rfl rfl ?_
    try simp only [fx_u_at, Nat.reduceEqDiff, false_and, and_false, true_and, and_true, ↓reduceIte]
    refine G_if_eq (tgt := 27) F dX8_feed_22 (by decide) (fun h22 => ?_) (fun h22 => ?_)
    · exact absurd h22 (by decide) --stop
    · skip
      refine G_iconst (v := 0) F dX8_feed_25 rfl ?_
      refine G_iret F Rt dX8_feed_26 (rfl) ⟨rfl, rfl, _, rfl, ?_⟩ (Nat.le_refl _) (Nat.le_refl _)
      exact Or.inr ⟨hv, rfl⟩
  refine G_aload_n F dX8_feed_0 rfl ?_
  refine G_aload_n F dX8_feed_1 rfl ?_
  refine G_geti F fl_X8_283 dX8_feed_2 rfl rfl ?_
  try simp only [fx_u_at, Nat.reduceEqDiff, false_and, and_false, true_and, and_true, ↓reduceIte, hl1]
  refine G_bipush (v := nI 60) F dX8_feed_5 (by decide) ?_
  refine G_icmp_ne (tgt := 14) F dX8_feed_7 (by decide) (fun h7 => ?_) (fun h7 => ?_)
  · rw [nI_eq (by omega) (by omega)] at h7
    refine G_iconst (v := 0) F dX8_feed_14 rfl ?_
    exact t0 (by omega)
  · rw [nI_eq (by omega) (by omega)] at h7
    refine G_iconst (v := 1) F dX8_feed_10 rfl ?_
    refine G_goto (tgt := 15) F dX8_feed_11 (by decide) ?_
    exact t1 h7
set_option maxRecDepth 20000 in
theorem t_takes {l : Launch} {Z : fx_Z} (hl : l.stackTraces = false) (ad : Nat → Nat) (sw : Bool) (tl : List fx_Sh) (M : fx_M) {i0 kk : Nat} {ow tx : String} {bs : List Int32} (hq : fx_txt[i0]? = some (ow, kk, tx, bs)) {len a : Nat} (hl1 : M 37 39 = nI len) (hl60 : len ≤ 60) (ha : M 37 40 = nI a) (hal : a ≤ len) : CI l Z yX8_takes (.code yX8_takes cX8_takes 3 (some .boolean)) 4 [.ref (ad 37), .ref (Z.2.2.1 i0)] ad (c_C sw ++ (m_C ++ tl)) M (fun r m => r = (if (tw (hr (M 63) len) bs a).1 then 1 else 0) ∧ fr [37] M m ∧ m 37 40 = nI (tw (hr (M 63) len) bs a).2 ∧ ∀ j, j ≠ 40 → m 37 j = M 37 j) := by
  refine CT_of (ret := (some .boolean)) (lv0 := [some (.ref (ad 37)), some (.ref (Z.2.2.1 i0)), none]) (by decide +kernel) hl (by simp [Value.category]) (Nat.le_of_ble_eq_true rfl) rfl ?_
  intro X F Rt _
  have hok := txt_at hq
  have hne := txt_ne hq
  have hlen4 := txt_len hq
  have lp : ∀ (k : Nat) (i : Nat) (M' : fx_M) (b : Nat), k = bs.length - i → i ≤ bs.length → b ≤ len → fr [37] M M' → M' 37 40 = nI b → (∀ j, j ≠ 40 → M' 37 j = M 37 j) → tw (hr (M 63) len) (bs.drop i) b = (tw (hr (M 63) len) bs a) → GG X ad 2 [some (.ref (ad 37)), some (.ref (Z.2.2.1 i0)), some (.int (nI i))] [] 0 0 (c_C sw ++ (m_C ++ tl)) M' := by
    intro k
    induction k using Nat.strongRecOn with
    | _ k ih =>
      intro i M' b hk hi hab g1 ha1 g3 g6
      refine G_iload_n F dX8_takes_2 rfl ?_
      refine G_aload_n F dX8_takes_3 rfl ?_
      refine G_callK F hq rfl mv_X8_289 dX8_takes_4 (s_length hl ad _ M' hq) rfl rfl (Nat.le_of_ble_eq_true rfl) ⟨Nat.le_of_ble_eq_true rfl, Nat.le_of_ble_eq_true rfl, Nat.le_of_ble_eq_true rfl, Nat.le_of_ble_eq_true rfl⟩ (fun r4 M4 h4 => ?_)
      rw [h4.1, h4.2]
      refine G_icmp_ge (tgt := 40) F dX8_takes_7 (by decide) (fun h7 => ?_) (fun h7 => ?_)
      · rw [nI_leI (by omega) (by omega)] at h7
        have hib : i = bs.length := by omega
        refine G_iconst (v := 1) F dX8_takes_40 rfl ?_
        refine G_iret F Rt dX8_takes_41 (rfl) ⟨rfl, rfl, _, rfl, ?_⟩ (Nat.le_refl _) (Nat.le_refl _)
        have hT : (true, b) = (tw (hr (M 63) len) bs a) := by rw [← g6, hib, List.drop_length]; rfl
        exact ⟨by rw [← hT]; rfl, g1, by rw [← hT]; exact ha1, g3⟩
      · rw [nI_leI (by omega) (by omega)] at h7
        have hci : bs.getD i 0 ≠ -1 := hne _ (by rw [List.getD_eq_getElem?_getD, List.getElem?_eq_getElem (show i < bs.length by omega)]; exact List.getElem_mem (show i < bs.length by omega))
        refine G_aload_n F dX8_takes_10 rfl ?_
        refine G_vI F mv_X8_293 dX8_takes_11 (t_here hl ad sw tl M' (len := len) (a := b) (by rw [g3 39 (by decide)]; exact hl1) hl60 ha1 hab) rfl rfl rfl rfl (Nat.le_of_ble_eq_true rfl) ⟨Nat.le_of_ble_eq_true rfl, Nat.le_of_ble_eq_true rfl, Nat.le_of_ble_eq_true rfl, Nat.le_of_ble_eq_true rfl⟩ (fun r11 M11 h11 => ?_)
        rw [h11.1, h11.2, g1 63 (by decide)]
        refine G_aload_n F dX8_takes_14 rfl ?_
        refine G_iload_n F dX8_takes_15 rfl ?_
        refine G_callK F hq rfl mv_X8_296 dX8_takes_16 (s_charAt hl ad _ M' hq (j := i) (by omega) hok.1 (hok.2 i (by omega))) rfl rfl (Nat.le_of_ble_eq_true rfl) ⟨Nat.le_of_ble_eq_true rfl, Nat.le_of_ble_eq_true rfl, Nat.le_of_ble_eq_true rfl, Nat.le_of_ble_eq_true rfl⟩ (fun r16 M16 h16 => ?_)
        rw [h16.1, h16.2]
        refine G_icmp_eq (tgt := 24) F dX8_takes_19 (by decide) (fun h19 => ?_) (fun h19 => ?_)
        · have hd : (hr (M 63) len) b = bs.getD i 0 := h19
          refine G_aload_n F dX8_takes_24 rfl ?_
          refine G_dup F dX8_takes_25 rfl ?_
          refine G_geti F fl_X8_286 dX8_takes_26 rfl rfl ?_
          try simp only [fx_u_at, Nat.reduceEqDiff, false_and, and_false, true_and, and_true, ↓reduceIte, ha1]
          refine G_iconst (v := 1) F dX8_takes_29 rfl ?_
          refine G_iadd F dX8_takes_30 ?_
          rw [nI_1]
          refine G_puti F fl_X8_286 dX8_takes_31 rfl rfl rfl rfl ?_
          refine G_iinc F (1) dX8_takes_34 rfl rfl rfl rfl ?_
          simp only [List.set_cons_zero, List.set_cons_succ, nI_1]
          refine G_goto (tgt := 2) F dX8_takes_37 (by decide) ?_
          have hb1 := (hr_eq (ch := M 63) (len := len) (a := b) hci).mp hd
          refine ih (bs.length - (i + 1)) (by omega) (i + 1) _ (b + 1) rfl (by omega) (by omega) (g1.u (by decide)) (by rw [fx_u_at, if_pos ⟨rfl, rfl⟩]) (fun j j1 => by simp only [fx_u_at, j1, and_false, if_false]; exact g3 j j1) ?_
          rw [← g6, List.drop_eq_getElem_cons (show i < bs.length by omega)]
          simp only [tw]
          rw [if_pos (by rw [hd, List.getD_eq_getElem?_getD, List.getElem?_eq_getElem (show i < bs.length by omega)]; rfl)]
        · have hd : ¬ (hr (M 63) len) b = bs.getD i 0 := h19
          refine G_iconst (v := 0) F dX8_takes_22 rfl ?_
          refine G_iret F Rt dX8_takes_23 (rfl) ⟨rfl, rfl, _, rfl, ?_⟩ (Nat.le_refl _) (Nat.le_refl _)
          have hT : (false, b) = (tw (hr (M 63) len) bs a) := by
            rw [← g6, List.drop_eq_getElem_cons (show i < bs.length by omega)]
            simp only [tw]
            rw [if_neg (fun q => hd (by rw [q, List.getD_eq_getElem?_getD, List.getElem?_eq_getElem (show i < bs.length by omega)]; rfl))]
          exact ⟨by rw [← hT]; rfl, g1, by rw [← hT]; exact ha1, g3⟩
  refine G_iconst (v := nI 0) F dX8_takes_0 (by decide) ?_
  refine G_istore_n F 2 dX8_takes_1 rfl rfl rfl (Nat.le_of_ble_eq_true rfl) ?_
  simp only [List.set_cons_zero, List.set_cons_succ]
  exact lp bs.length 0 M a rfl (by omega) hal fr.rfl ha (fun _ _ => rfl) rfl
theorem dg_in (x : Int32) : (if (48 : Int32) ≤ x ∧ x ≤ 57 then (1 : Int32) else 0) = if dg x = true then 1 else 0 := by
  unfold dg
  by_cases q : (48 : Int32) ≤ x ∧ x ≤ 57
  · rw [if_pos q, if_pos (by simp [q.1, q.2])]
  · rw [if_neg q, if_neg (fun z => q (by simpa using z))]
theorem num10 (n x : Int32) : 10 * n + x - 48 = n * 10 + (x - 48) := by
  rw [Int32.mul_comm, Int32.sub_eq_add_neg, Int32.sub_eq_add_neg, Int32.add_assoc]
set_option maxRecDepth 20000 in
theorem t_takesNumber {l : Launch} {Z : fx_Z} (hl : l.stackTraces = false) (ad : Nat → Nat) (sw : Bool) (tl : List fx_Sh) (M : fx_M) {k0 : Nat} {len a : Nat} (hl1 : M 37 39 = nI len) (hl60 : len ≤ 60) (ha : M 37 40 = nI a) (hal : a ≤ len) (hk1 : 1 ≤ k0) (hk6 : k0 ≤ 6) : CI l Z yX8_takesNumber (.code yX8_takesNumber cX8_takesNumber 3 (some .boolean)) 1 [.ref (ad 37), .int (nI k0)] ad (c_C sw ++ (m_C ++ tl)) M (fun r m => r = (if a < (tn (hr (M 63) len) k0 a 0).1 then 1 else 0) ∧ fr [37] M m ∧ m 37 40 = nI (tn (hr (M 63) len) k0 a 0).1 ∧ (a < (tn (hr (M 63) len) k0 a 0).1 → m 37 41 = (tn (hr (M 63) len) k0 a 0).2) ∧ ∀ j, j ≠ 40 → j ≠ 41 → m 37 j = M 37 j) := by
  refine CT_of (ret := (some .boolean)) (lv0 := [some (.ref (ad 37)), some (.int (nI k0)), none]) (by decide +kernel) hl (by simp [Value.category]) (Nat.le_of_ble_eq_true rfl) rfl ?_
  intro X F Rt _
  refine G_aload_n F dX8_takesNumber_0 rfl ?_
  refine G_vI F mv_X8_293 dX8_takesNumber_1 (t_here hl ad sw tl M hl1 hl60 ha hal) rfl rfl rfl rfl (Nat.le_of_ble_eq_true rfl) ⟨Nat.le_of_ble_eq_true rfl, Nat.le_of_ble_eq_true rfl, Nat.le_of_ble_eq_true rfl, Nat.le_of_ble_eq_true rfl⟩ (fun r1 M1 h1 => ?_)
  rw [h1.1, h1.2]
  refine G_bipush (v := 48) F dX8_takesNumber_4 rfl ?_
  refine G_bipush (v := 57) F dX8_takesNumber_6 rfl ?_
  refine G_sI F ms_X8_109 dX8_takesNumber_8 (t_isIn hl ad _ M ((hr (M 63) len) a) 48 57) rfl rfl (Nat.le_of_ble_eq_true rfl) ⟨Nat.le_of_ble_eq_true rfl, Nat.le_of_ble_eq_true rfl, Nat.le_of_ble_eq_true rfl, Nat.le_of_ble_eq_true rfl⟩ (fun r8 M8 h8 => ?_)
  rw [h8.1, h8.2, dg_in]
  refine G_if_ne (tgt := 16) F dX8_takesNumber_11 (by decide) (fun h11 => ?_) (fun h11 => ?_)
  · have hd0 : dg ((hr (M 63) len) a) = true := Classical.byContradiction fun q => h11 (if_neg q)
    have hdT : a < (tn (hr (M 63) len) k0 a 0).1 := by
      have q1 := hr_dg hd0
      have q2 := (tn_le (ch := M 63) (len := len) (k0 - 1) (a + 1) (0 * 10 + ((hr (M 63) len) a - 48)) (by omega)).1
      rw [show k0 = k0 - 1 + 1 from by omega]
      simp only [tn, hd0, if_true]
      omega
    have lp : ∀ (k : Nat) (i : Nat) (M' : fx_M) (n : Int32), k = k0 - i → i ≤ k0 → a + i ≤ len → fr [37] M M' → M' 37 40 = nI (a + i) → (∀ j, j ≠ 40 → j ≠ 41 → M' 37 j = M 37 j) → M' 37 41 = n → tn (hr (M 63) len) (k0 - i) (a + i) n = (tn (hr (M 63) len) k0 a 0) → GG X ad 23 [some (.ref (ad 37)), some (.int (nI k0)), some (.int (nI i))] [] 0 0 (c_C sw ++ (m_C ++ tl)) M' := by
      intro k
      induction k using Nat.strongRecOn with
      | _ k ih =>
        intro i M' n hk hi hai g1 ha1 g3 g5 g6
        refine G_iload_n F dX8_takesNumber_23 rfl ?_
        refine G_iload_n F dX8_takesNumber_24 rfl ?_
        refine G_icmp_ge (tgt := 77) F dX8_takesNumber_25 (by decide) (fun h25 => ?_) (fun h25 => ?_)
        · rw [nI_leI (by omega) (by omega)] at h25
          have hik : i = k0 := by omega
          have hT : (a + i, n) = (tn (hr (M 63) len) k0 a 0) := by rw [← g6, hik, Nat.sub_self]; rfl
          refine G_iconst (v := 1) F dX8_takesNumber_77 rfl ?_
          refine G_iret F Rt dX8_takesNumber_78 (rfl) ⟨rfl, rfl, _, rfl, ?_⟩ (Nat.le_refl _) (Nat.le_refl _)
          exact ⟨by rw [if_pos hdT], g1, by rw [← hT]; exact ha1, fun _ => by rw [← hT]; exact g5, g3⟩
        · rw [nI_leI (by omega) (by omega)] at h25
          refine G_aload_n F dX8_takesNumber_28 rfl ?_
          refine G_vI F mv_X8_293 dX8_takesNumber_29 (t_here hl ad sw tl M' (len := len) (a := a + i) (by rw [g3 39 (by decide) (by decide)]; exact hl1) hl60 ha1 hai) rfl rfl rfl rfl (Nat.le_of_ble_eq_true rfl) ⟨Nat.le_of_ble_eq_true rfl, Nat.le_of_ble_eq_true rfl, Nat.le_of_ble_eq_true rfl, Nat.le_of_ble_eq_true rfl⟩ (fun r29 M29 h29 => ?_)
          rw [h29.1, h29.2, g1 63 (by decide)]
          refine G_bipush (v := 48) F dX8_takesNumber_32 rfl ?_
          refine G_bipush (v := 57) F dX8_takesNumber_34 rfl ?_
          refine G_sI F ms_X8_109 dX8_takesNumber_36 (t_isIn hl ad _ M' ((hr (M 63) len) (a + i)) 48 57) rfl rfl (Nat.le_of_ble_eq_true rfl) ⟨Nat.le_of_ble_eq_true rfl, Nat.le_of_ble_eq_true rfl, Nat.le_of_ble_eq_true rfl, Nat.le_of_ble_eq_true rfl⟩ (fun r36 M36 h36 => ?_)
          rw [h36.1, h36.2, dg_in]
          refine G_if_eq (tgt := 77) F dX8_takesNumber_39 (by decide) (fun h39 => ?_) (fun h39 => ?_)
          · have hd : ¬ dg ((hr (M 63) len) (a + i)) = true := fun q => by rw [if_pos q] at h39; exact absurd h39 (by decide)
            have hT : (a + i, n) = (tn (hr (M 63) len) k0 a 0) := by
              rw [← g6]
              cases hk9 : k0 - i with
              | zero => rfl
              | succ q => simp only [tn]; rw [if_neg hd]
            refine G_iconst (v := 1) F dX8_takesNumber_77 rfl ?_
            refine G_iret F Rt dX8_takesNumber_78 (rfl) ⟨rfl, rfl, _, rfl, ?_⟩ (Nat.le_refl _) (Nat.le_refl _)
            exact ⟨by rw [if_pos hdT], g1, by rw [← hT]; exact ha1, fun _ => by rw [← hT]; exact g5, g3⟩
          · have hd : dg ((hr (M 63) len) (a + i)) = true := Classical.byContradiction fun q => h39 (if_neg q)
            have hd2 := hr_dg hd
            refine G_aload_n F dX8_takesNumber_42 rfl ?_
            refine G_bipush (v := 10) F dX8_takesNumber_43 rfl ?_
            refine G_aload_n F dX8_takesNumber_45 rfl ?_
            refine G_geti F fl_X8_300 dX8_takesNumber_46 rfl rfl ?_
            try simp only [fx_u_at, Nat.reduceEqDiff, false_and, and_false, true_and, and_true, ↓reduceIte, ha1, g5]
            refine G_imul F dX8_takesNumber_49 ?_
            refine G_aload_n F dX8_takesNumber_50 rfl ?_
            refine G_vI F mv_X8_293 dX8_takesNumber_51 (t_here hl ad sw tl M' (len := len) (a := a + i) (by rw [g3 39 (by decide) (by decide)]; exact hl1) hl60 ha1 hai) rfl rfl rfl rfl (Nat.le_of_ble_eq_true rfl) ⟨Nat.le_of_ble_eq_true rfl, Nat.le_of_ble_eq_true rfl, Nat.le_of_ble_eq_true rfl, Nat.le_of_ble_eq_true rfl⟩ (fun r51 M51 h51 => ?_)
            rw [h51.1, h51.2, g1 63 (by decide)]
            refine G_iadd F dX8_takesNumber_54 ?_
            refine G_bipush (v := 48) F dX8_takesNumber_55 rfl ?_
            refine G_isub F dX8_takesNumber_57 ?_
            rw [num10]
            refine G_puti F fl_X8_300 dX8_takesNumber_58 rfl rfl rfl rfl ?_
            refine G_aload_n F dX8_takesNumber_61 rfl ?_
            refine G_dup F dX8_takesNumber_62 rfl ?_
            refine G_geti F fl_X8_286 dX8_takesNumber_63 rfl rfl ?_
            try simp only [fx_u_at, Nat.reduceEqDiff, false_and, and_false, true_and, and_true, ↓reduceIte, ha1, g5]
            refine G_iconst (v := 1) F dX8_takesNumber_66 rfl ?_
            refine G_iadd F dX8_takesNumber_67 ?_
            rw [nI_1]
            refine G_puti F fl_X8_286 dX8_takesNumber_68 rfl rfl rfl rfl ?_
            refine G_iinc F (1) dX8_takesNumber_71 rfl rfl rfl rfl ?_
            simp only [List.set_cons_zero, List.set_cons_succ, nI_1]
            refine G_goto (tgt := 23) F dX8_takesNumber_74 (by decide) ?_
            refine ih (k0 - (i + 1)) (by omega) (i + 1) _ (n * 10 + ((hr (M 63) len) (a + i) - 48)) rfl (by omega) (by omega) ((g1.u (by decide)).u (by decide)) (by rw [fx_u_at, if_pos ⟨rfl, rfl⟩]; rfl) (fun j j1 j2 => by simp only [fx_u_at, j1, j2, and_false, if_false]; exact g3 j j1 j2) (by simp [fx_u_at]) ?_
            rw [← g6, show k0 - i = (k0 - (i + 1)) + 1 from by omega]
            simp only [tn, hd, if_true]
            rfl
    refine G_aload_n F dX8_takesNumber_16 rfl ?_
    refine G_iconst (v := 0) F dX8_takesNumber_17 rfl ?_
    refine G_puti F fl_X8_300 dX8_takesNumber_18 rfl rfl rfl rfl ?_
    refine G_iconst (v := nI 0) F dX8_takesNumber_21 (by decide) ?_
    refine G_istore_n F 2 dX8_takesNumber_22 rfl rfl rfl (Nat.le_of_ble_eq_true rfl) ?_
    simp only [List.set_cons_zero, List.set_cons_succ]
    refine lp k0 0 _ 0 rfl (by omega) (by omega) (fr.rfl.u (by decide)) (by simp [fx_u_at]; exact ha) (fun j j1 j2 => by simp [fx_u_at, j2]) (by simp [fx_u_at]) rfl
  · have hd0 : ¬ dg ((hr (M 63) len) a) = true := fun q => by rw [if_pos q] at h11; exact absurd h11 (by decide)
    have hT : (a, 0) = (tn (hr (M 63) len) k0 a 0) := by
      rw [show k0 = k0 - 1 + 1 from by omega]
      simp only [tn]
      rw [if_neg hd0]
    refine G_iconst (v := 0) F dX8_takesNumber_14 rfl ?_
    refine G_iret F Rt dX8_takesNumber_15 (rfl) ⟨rfl, rfl, _, rfl, ?_⟩ (Nat.le_refl _) (Nat.le_refl _)
    exact ⟨by rw [← hT]; simp, fr.rfl, by rw [← hT]; exact ha, fun q => by rw [← hT] at q; exact absurd q (Nat.lt_irrefl a), fun _ _ _ => rfl⟩
