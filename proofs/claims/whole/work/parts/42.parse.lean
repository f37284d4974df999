/-! INPUT: append, parse -/
set_option maxRecDepth 20000 in
theorem s_inAppend {l : Launch} {Z : fx_Z} (hl : l.stackTraces = false) (ad : Nat → Nat) (sw : Bool) (tl : List fx_Sh) (M : fx_M) (c : Int32) {len : Nat} (hl1 : M 35 1 = nI len) (hl60 : len ≤ 60) : CI l Z yX2_append (.code yX2_append cX2_append 2 (some .boolean)) 0 [.ref (ad 35), .int c] ad (c_C sw ++ tl) M (fun r m => (len = 60 ∧ r = 0 ∧ m = M) ∨ (len < 60 ∧ r = 1 ∧ m = fx_u (fx_u M 36 len (vp_nar .char c)) 35 1 (nI (len + 1)))) := by
  refine CT_of (ret := (some .boolean)) (lv0 := [some (.ref (ad 35)), some (.int c)]) (by decide +kernel) hl (by simp [Value.category]) (Nat.le_of_ble_eq_true rfl) rfl ?_
  intro X F Rt _
  refine G_aload_n F dX2_append_0 rfl ?_
  refine G_geti F fl_X2_15 dX2_append_1 rfl rfl ?_
  try simp only [fx_u_at, Nat.reduceEqDiff, false_and, and_false, true_and, and_true, ↓reduceIte, hl1]
  refine G_bipush (v := nI 60) F dX2_append_4 (by decide) ?_
  refine G_icmp_lt (tgt := 11) F dX2_append_6 (by decide) (fun h6 => ?_) (fun h6 => ?_)
  · rw [nI_ltI (by omega) (by omega)] at h6
    refine G_aload_n F dX2_append_11 rfl ?_
    refine G_getr F fl_X2_9 dX2_append_12 rfl rfl ?_
    refine G_aload_n F dX2_append_15 rfl ?_
    refine G_geti F fl_X2_15 dX2_append_16 rfl rfl ?_
    try simp only [fx_u_at, Nat.reduceEqDiff, false_and, and_false, true_and, and_true, ↓reduceIte, hl1]
    refine G_iload_n F dX2_append_19 rfl ?_
    refine G_cast F dX2_append_20 rfl (by exact vp_in_nI (by omega) (by decide)) ?_
    rw [nI_clamp (by omega)]
    refine G_aload_n F dX2_append_21 rfl ?_
    refine G_dup F dX2_append_22 rfl ?_
    refine G_geti F fl_X2_15 dX2_append_23 rfl rfl ?_
    try simp only [fx_u_at, Nat.reduceEqDiff, false_and, and_false, true_and, and_true, ↓reduceIte, hl1]
    refine G_iconst (v := 1) F dX2_append_26 rfl ?_
    refine G_iadd F dX2_append_27 ?_
    rw [nI_1]
    refine G_puti F fl_X2_15 dX2_append_28 rfl rfl rfl rfl ?_
    refine G_iconst (v := 1) F dX2_append_31 rfl ?_
    refine G_iret F Rt dX2_append_32 (rfl) ⟨rfl, rfl, _, rfl, ?_⟩ (Nat.le_refl _) (Nat.le_refl _)
    exact Or.inr ⟨by omega, rfl, rfl⟩
  · rw [nI_ltI (by omega) (by omega)] at h6
    refine G_iconst (v := 0) F dX2_append_9 rfl ?_
    refine G_iret F Rt dX2_append_10 (rfl) ⟨rfl, rfl, _, rfl, ?_⟩ (Nat.le_refl _) (Nat.le_refl _)
    exact Or.inl ⟨by omega, rfl, rfl⟩
set_option maxRecDepth 20000 in
theorem s_takeFirst {l : Launch} {Z : fx_Z} (hl : l.stackTraces = false) (ad : Nat → Nat) (sw : Bool) (tl : List fx_Sh) (M : fx_M)  {len a : Nat} (hl1 : M 35 1 = nI len) (hl60 : len ≤ 60) (ha : M 35 2 = nI a) (hal : a ≤ len) : CI l Z yX2_takeFirst (.code yX2_takeFirst cX2_takeFirst 2 (some .boolean)) 2 [.ref (ad 35)] ad (c_C sw ++ tl) M (fun r m => r = (if a < (tn (hr (M 36) len) 2 a 0).1 then 1 else 0) ∧ fr [35] M m ∧ m 35 2 = nI (tn (hr (M 36) len) 2 a 0).1 ∧ m 35 6 = (tn (hr (M 36) len) 2 a 0).2 ∧ ∀ j, j ≠ 2 → j ≠ 3 → j ≠ 6 → m 35 j = M 35 j) := by
  refine CT_of (ret := (some .boolean)) (lv0 := [some (.ref (ad 35)), none]) (by decide +kernel) hl (by simp [Value.category]) (Nat.le_of_ble_eq_true rfl) rfl ?_
  intro X F Rt _
  refine G_aload_n F dX2_takeFirst_0 rfl ?_
  refine G_iconst (v := nI 2) F dX2_takeFirst_1 (by decide) ?_
  refine G_vI F mv_X2_31 dX2_takeFirst_2 (s_takeNumber hl ad sw tl M (k0 := 2) hl1 hl60 ha hal (by omega)) rfl rfl rfl rfl (Nat.le_of_ble_eq_true rfl) ⟨Nat.le_of_ble_eq_true rfl, Nat.le_of_ble_eq_true rfl, Nat.le_of_ble_eq_true rfl, Nat.le_of_ble_eq_true rfl⟩ (fun r2 M2 h2 => ?_)
  obtain ⟨g1, g2, g3, g4, g5⟩ := h2
  rw [g1]
  refine G_istore_n F 1 dX2_takeFirst_5 rfl rfl rfl (Nat.le_of_ble_eq_true rfl) ?_
  simp only [List.set_cons_zero, List.set_cons_succ]
  refine G_aload_n F dX2_takeFirst_6 rfl ?_
  refine G_aload_n F dX2_takeFirst_7 rfl ?_
  refine G_geti F fl_X2_35 dX2_takeFirst_8 rfl rfl ?_
  rw [g4]
  refine G_puti F fl_X2_22 dX2_takeFirst_11 rfl rfl rfl rfl ?_
  refine G_iload_n F dX2_takeFirst_14 rfl ?_
  refine G_iret F Rt dX2_takeFirst_15 (by split <;> rfl) ⟨rfl, rfl, _, rfl, ?_⟩ (Nat.le_refl _) (Nat.le_refl _)
  refine ⟨rfl, g2.u (by decide), by simp [fx_u_at]; exact g3, by simp [fx_u_at], fun j j1 j2 j3 => by simp only [fx_u_at, j3, and_false, if_false]; exact g5 j j1 j2⟩
set_option maxRecDepth 20000 in
theorem s_takeSecond {l : Launch} {Z : fx_Z} (hl : l.stackTraces = false) (ad : Nat → Nat) (sw : Bool) (tl : List fx_Sh) (M : fx_M)  {len a : Nat} (hl1 : M 35 1 = nI len) (hl60 : len ≤ 60) (ha : M 35 2 = nI a) (hal : a ≤ len) : CI l Z yX2_takeSecond (.code yX2_takeSecond cX2_takeSecond 2 (some .boolean)) 2 [.ref (ad 35)] ad (c_C sw ++ tl) M (fun r m => r = (if a < (tn (hr (M 36) len) 2 a 0).1 then 1 else 0) ∧ fr [35] M m ∧ m 35 2 = nI (tn (hr (M 36) len) 2 a 0).1 ∧ m 35 7 = (tn (hr (M 36) len) 2 a 0).2 ∧ ∀ j, j ≠ 2 → j ≠ 3 → j ≠ 7 → m 35 j = M 35 j) := by
  refine CT_of (ret := (some .boolean)) (lv0 := [some (.ref (ad 35)), none]) (by decide +kernel) hl (by simp [Value.category]) (Nat.le_of_ble_eq_true rfl) rfl ?_
  intro X F Rt _
  refine G_aload_n F dX2_takeSecond_0 rfl ?_
  refine G_iconst (v := nI 2) F dX2_takeSecond_1 (by decide) ?_
  refine G_vI F mv_X2_31 dX2_takeSecond_2 (s_takeNumber hl ad sw tl M (k0 := 2) hl1 hl60 ha hal (by omega)) rfl rfl rfl rfl (Nat.le_of_ble_eq_true rfl) ⟨Nat.le_of_ble_eq_true rfl, Nat.le_of_ble_eq_true rfl, Nat.le_of_ble_eq_true rfl, Nat.le_of_ble_eq_true rfl⟩ (fun r2 M2 h2 => ?_)
  obtain ⟨g1, g2, g3, g4, g5⟩ := h2
  rw [g1]
  refine G_istore_n F 1 dX2_takeSecond_5 rfl rfl rfl (Nat.le_of_ble_eq_true rfl) ?_
  simp only [List.set_cons_zero, List.set_cons_succ]
  refine G_aload_n F dX2_takeSecond_6 rfl ?_
  refine G_aload_n F dX2_takeSecond_7 rfl ?_
  refine G_geti F fl_X2_35 dX2_takeSecond_8 rfl rfl ?_
  rw [g4]
  refine G_puti F fl_X2_25 dX2_takeSecond_11 rfl rfl rfl rfl ?_
  refine G_iload_n F dX2_takeSecond_14 rfl ?_
  refine G_iret F Rt dX2_takeSecond_15 (by split <;> rfl) ⟨rfl, rfl, _, rfl, ?_⟩ (Nat.le_refl _) (Nat.le_refl _)
  refine ⟨rfl, g2.u (by decide), by simp [fx_u_at]; exact g3, by simp [fx_u_at], fun j j1 j2 j3 => by simp only [fx_u_at, j3, and_false, if_false]; exact g5 j j1 j2⟩
/-- a sign and digits: the offset behind, whether there were digits, the number -/
def tp (h : Nat → Int32) (a : Nat) : Nat × Bool × Int32 := if h a = 45 then ((tn h 6 (a + 1) 0).1, decide (a + 1 < (tn h 6 (a + 1) 0).1), -(tn h 6 (a + 1) 0).2) else ((tn h 6 a 0).1, decide (a < (tn h 6 a 0).1), (tn h 6 a 0).2)
set_option maxRecDepth 20000 in
theorem s_takePattern {l : Launch} {Z : fx_Z} (hl : l.stackTraces = false) (ad : Nat → Nat) (sw : Bool) (tl : List fx_Sh) (M : fx_M)  {len a : Nat} (hl1 : M 35 1 = nI len) (hl60 : len ≤ 60) (ha : M 35 2 = nI a) (hal : a ≤ len) : CI l Z yX2_takePattern (.code yX2_takePattern cX2_takePattern 3 (some .boolean)) 2 [.ref (ad 35)] ad (c_C sw ++ tl) M (fun r m => r = (if (tp (hr (M 36) len) a).2.1 then 1 else 0) ∧ fr [35] M m ∧ m 35 2 = nI (tp (hr (M 36) len) a).1 ∧ m 35 8 = (tp (hr (M 36) len) a).2.2 ∧ ∀ j, j ≠ 2 → j ≠ 3 → j ≠ 8 → m 35 j = M 35 j) := by
  refine CT_of (ret := (some .boolean)) (lv0 := [some (.ref (ad 35)), none, none]) (by decide +kernel) hl (by simp [Value.category]) (Nat.le_of_ble_eq_true rfl) rfl ?_
  intro X F Rt _
  refine G_aload_n F dX2_takePattern_0 rfl ?_
  refine G_bipush (v := 45) F dX2_takePattern_1 rfl ?_
  refine G_vI F mv_X2_51 dX2_takePattern_3 (s_sees hl ad sw tl M 45 hl1 hl60 ha hal (by decide)) rfl rfl rfl rfl (Nat.le_of_ble_eq_true rfl) ⟨Nat.le_of_ble_eq_true rfl, Nat.le_of_ble_eq_true rfl, Nat.le_of_ble_eq_true rfl, Nat.le_of_ble_eq_true rfl⟩ (fun r3 M3 h3 => ?_)
  rw [h3.1, h3.2]
  by_cases hs : (hr (M 36) len) a = 45
  · rw [if_pos hs]
    refine G_istore_n F 1 dX2_takePattern_6 rfl rfl rfl (Nat.le_of_ble_eq_true rfl) ?_
    simp only [List.set_cons_zero, List.set_cons_succ]
    refine G_iload_n F dX2_takePattern_7 rfl ?_
    refine G_if_eq (tgt := 21) F dX2_takePattern_8 (by decide) (fun h8 => ?_) (fun h8 => ?_)
    · exact absurd h8 (by decide) --stop
    · skip
      refine G_aload_n F dX2_takePattern_11 rfl ?_
      refine G_dup F dX2_takePattern_12 rfl ?_
      refine G_geti F fl_X2_19 dX2_takePattern_13 rfl rfl ?_
      try simp only [fx_u_at, Nat.reduceEqDiff, false_and, and_false, true_and, and_true, ↓reduceIte, ha]
      refine G_iconst (v := 1) F dX2_takePattern_16 rfl ?_
      refine G_iadd F dX2_takePattern_17 ?_
      rw [nI_1]
      refine G_puti F fl_X2_19 dX2_takePattern_18 rfl rfl rfl rfl ?_
      refine G_aload_n F dX2_takePattern_21 rfl ?_
      refine G_bipush (v := nI 6) F dX2_takePattern_22 (by decide) ?_
      refine G_vI F mv_X2_31 dX2_takePattern_24 (s_takeNumber hl ad sw tl _ (k0 := 6) (len := len) (a := a + 1) (by simp [fx_u_at]; exact hl1) hl60 (by simp [fx_u_at]) (by have := (hr_eq (ch := M 36) (len := len) (a := a) (c := 45) (by decide)).mp hs; omega) (by omega)) rfl rfl rfl rfl (Nat.le_of_ble_eq_true rfl) ⟨Nat.le_of_ble_eq_true rfl, Nat.le_of_ble_eq_true rfl, Nat.le_of_ble_eq_true rfl, Nat.le_of_ble_eq_true rfl⟩ (fun r24 M24 h24 => ?_)
      rw [fx_u_ne (a := 36) (by decide)] at h24
      obtain ⟨g1, g2, g3, g4, g5⟩ := h24
      rw [g1]
      refine G_istore_n F 2 dX2_takePattern_27 rfl rfl rfl (Nat.le_of_ble_eq_true rfl) ?_
      simp only [List.set_cons_zero, List.set_cons_succ]
      refine G_aload_n F dX2_takePattern_28 rfl ?_
      refine G_iload_n F dX2_takePattern_29 rfl ?_
      refine G_if_eq (tgt := 41) F dX2_takePattern_30 (by decide) (fun h30 => ?_) (fun h30 => ?_)
      · exact absurd h30 (by decide) --stop
      · skip
        refine G_aload_n F dX2_takePattern_33 rfl ?_
        refine G_geti F fl_X2_35 dX2_takePattern_34 rfl rfl ?_
        try simp only [fx_u_at, Nat.reduceEqDiff, false_and, and_false, true_and, and_true, ↓reduceIte, ha]
        rw [g4]
        refine G_ineg F dX2_takePattern_37 ?_
        refine G_goto (tgt := 45) F dX2_takePattern_38 (by decide) ?_
        skip
        refine G_puti F fl_X2_28 dX2_takePattern_45 rfl rfl rfl rfl ?_
        refine G_iload_n F dX2_takePattern_48 rfl ?_
        refine G_iret F Rt dX2_takePattern_49 (by split <;> rfl) ⟨rfl, rfl, _, rfl, ?_⟩ (Nat.le_refl _) (Nat.le_refl _)
        refine ⟨?_, ?_, ?_, ?_, ?_⟩
        · unfold tp; simp only [hs, if_true, if_false, decide_eq_true_eq]
        · exact fun k hk => by
            simp only [List.mem_cons, List.not_mem_nil, or_false] at hk
            first | rw [fx_u_ne hk, g2 k (by simp [hk]), fx_u_ne hk] | rw [fx_u_ne hk, g2 k (by simp [hk])]
        · unfold tp; simp only [hs, if_true, if_false]; simp [fx_u_at]; exact g3
        · unfold tp; simp only [hs, if_true, if_false]; simp [fx_u_at]
        · intro j j1 j2 j3
          simp only [fx_u_at, j3, and_false, if_false]
          first | (rw [g5 j j1 j2]; simp only [fx_u_at, j1, and_false, if_false]) | (rw [g5 j j1 j2])
  · rw [if_neg hs]
    refine G_istore_n F 1 dX2_takePattern_6 rfl rfl rfl (Nat.le_of_ble_eq_true rfl) ?_
    simp only [List.set_cons_zero, List.set_cons_succ]
    refine G_iload_n F dX2_takePattern_7 rfl ?_
    refine G_if_eq (tgt := 21) F dX2_takePattern_8 (by decide) (fun h8 => ?_) (fun h8 => ?_)
    · skip
      refine G_aload_n F dX2_takePattern_21 rfl ?_
      refine G_bipush (v := nI 6) F dX2_takePattern_22 (by decide) ?_
      refine G_vI F mv_X2_31 dX2_takePattern_24 (s_takeNumber hl ad sw tl M (k0 := 6) hl1 hl60 ha hal (by omega)) rfl rfl rfl rfl (Nat.le_of_ble_eq_true rfl) ⟨Nat.le_of_ble_eq_true rfl, Nat.le_of_ble_eq_true rfl, Nat.le_of_ble_eq_true rfl, Nat.le_of_ble_eq_true rfl⟩ (fun r24 M24 h24 => ?_)
      obtain ⟨g1, g2, g3, g4, g5⟩ := h24
      rw [g1]
      refine G_istore_n F 2 dX2_takePattern_27 rfl rfl rfl (Nat.le_of_ble_eq_true rfl) ?_
      simp only [List.set_cons_zero, List.set_cons_succ]
      refine G_aload_n F dX2_takePattern_28 rfl ?_
      refine G_iload_n F dX2_takePattern_29 rfl ?_
      refine G_if_eq (tgt := 41) F dX2_takePattern_30 (by decide) (fun h30 => ?_) (fun h30 => ?_)
      · skip
        refine G_aload_n F dX2_takePattern_41 rfl ?_
        refine G_geti F fl_X2_35 dX2_takePattern_42 rfl rfl ?_
        try simp only [fx_u_at, Nat.reduceEqDiff, false_and, and_false, true_and, and_true, ↓reduceIte, ha]
        rw [g4]
        refine G_puti F fl_X2_28 dX2_takePattern_45 rfl rfl rfl rfl ?_
        refine G_iload_n F dX2_takePattern_48 rfl ?_
        refine G_iret F Rt dX2_takePattern_49 (by split <;> rfl) ⟨rfl, rfl, _, rfl, ?_⟩ (Nat.le_refl _) (Nat.le_refl _)
        refine ⟨?_, ?_, ?_, ?_, ?_⟩
        · unfold tp; simp only [hs, if_true, if_false, decide_eq_true_eq]
        · exact fun k hk => by
            simp only [List.mem_cons, List.not_mem_nil, or_false] at hk
            first | rw [fx_u_ne hk, g2 k (by simp [hk]), fx_u_ne hk] | rw [fx_u_ne hk, g2 k (by simp [hk])]
        · unfold tp; simp only [hs, if_true, if_false]; simp [fx_u_at]; exact g3
        · unfold tp; simp only [hs, if_true, if_false]; simp [fx_u_at]
        · intro j j1 j2 j3
          simp only [fx_u_at, j3, and_false, if_false]
          first | (rw [g5 j j1 j2]; simp only [fx_u_at, j1, and_false, if_false]) | (rw [g5 j j1 j2])
      · exact absurd rfl h30 --stop
    · exact absurd rfl h8 --stop
/-- the end of a block: the offset behind, whether it is one, kind, first, second, pattern -/
def te (h : Nat → Int32) (a : Nat) : Nat × Bool × Int32 × Int32 × Int32 × Int32 :=
  if h a = 115 then ((tw h [115, 116, 111, 112] a).2, (tw h [115, 116, 111, 112] a).1, 2, -1, -1, 0)
  else if h a = 103 then
    (if (tw h [103, 111, 32] a).1 = true then ((tn h 2 (tw h [103, 111, 32] a).2 0).1, decide ((tw h [103, 111, 32] a).2 < (tn h 2 (tw h [103, 111, 32] a).2 0).1), 0, (tn h 2 (tw h [103, 111, 32] a).2 0).2, -1, 0)
      else ((tw h [103, 111, 32] a).2, false, 0, -1, -1, 0))
  else if (tw h [105, 102, 32] a).1 = true then
    (let b := (tw h [105, 102, 32] a).2
     let n := tn h 2 b 0
     if b < n.1 then
       (let w := tw h [32] n.1
        if w.1 = true then
          (let n2 := tn h 2 w.2 0
           if w.2 < n2.1 then
             (let w2 := tw h [32] n2.1
              if w2.1 = true then ((tp h w2.2).1, (tp h w2.2).2.1, 1, n.2, n2.2, (tp h w2.2).2.2)
              else (w2.2, false, 1, -1, -1, 0))
           else (n2.1, false, 1, -1, -1, 0))
        else (w.2, false, 1, -1, -1, 0))
     else (n.1, false, 1, -1, -1, 0))
  else ((tw h [105, 102, 32] a).2, false, 1, -1, -1, 0)
set_option maxRecDepth 20000 in
theorem s_takeEnd {l : Launch} {Z : fx_Z} (hl : l.stackTraces = false) (ad : Nat → Nat) (sw : Bool) (tl : List fx_Sh) (M : fx_M)  {len a : Nat} (hl1 : M 35 1 = nI len) (hl60 : len ≤ 60) (ha : M 35 2 = nI a) (hal : a ≤ len) (h6' : M 35 6 = -1) (h7 : M 35 7 = -1) (h8 : M 35 8 = 0) : CI l Z yX2_takeEnd (.code yX2_takeEnd cX2_takeEnd 1 (some .boolean)) 5 [.ref (ad 35)] ad (c_C sw ++ tl) M (fun r m => r = (if (te (hr (M 36) len) a).2.1 then 1 else 0) ∧ fr [35] M m ∧ m 35 2 = nI (te (hr (M 36) len) a).1 ∧ m 35 1 = M 35 1 ∧ m 35 4 = M 35 4 ∧ ((te (hr (M 36) len) a).2.1 = true → m 35 5 = (te (hr (M 36) len) a).2.2.1 ∧ m 35 6 = (te (hr (M 36) len) a).2.2.2.1 ∧ m 35 7 = (te (hr (M 36) len) a).2.2.2.2.1 ∧ m 35 8 = (te (hr (M 36) len) a).2.2.2.2.2)) := by
  refine CT_of (ret := (some .boolean)) (lv0 := [some (.ref (ad 35))]) (by decide +kernel) hl (by simp [Value.category]) (Nat.le_of_ble_eq_true rfl) rfl ?_
  intro X F Rt _
  refine G_aload_n F dX2_takeEnd_0 rfl ?_
  refine G_bipush (v := 115) F dX2_takeEnd_1 rfl ?_
  refine G_vI F mv_X2_51 dX2_takeEnd_3 (s_sees hl ad sw tl M 115 hl1 hl60 ha hal (by decide)) rfl rfl rfl rfl (Nat.le_of_ble_eq_true rfl) ⟨Nat.le_of_ble_eq_true rfl, Nat.le_of_ble_eq_true rfl, Nat.le_of_ble_eq_true rfl, Nat.le_of_ble_eq_true rfl⟩ (fun r3 M3 h3 => ?_)
  rw [h3.1, h3.2]
  refine G_if_eq (tgt := 21) F dX2_takeEnd_6 (by decide) (fun h6 => ?_) (fun h6 => ?_)
  · have b6 : ¬ (hr (M 36) len) a = 115 := by simpa using h6
    refine G_aload_n F dX2_takeEnd_21 rfl ?_
    refine G_bipush (v := 103) F dX2_takeEnd_22 rfl ?_
    refine G_vI F mv_X2_51 dX2_takeEnd_24 (s_sees hl ad sw tl M 103 hl1 hl60 ha hal (by decide)) rfl rfl rfl rfl (Nat.le_of_ble_eq_true rfl) ⟨Nat.le_of_ble_eq_true rfl, Nat.le_of_ble_eq_true rfl, Nat.le_of_ble_eq_true rfl, Nat.le_of_ble_eq_true rfl⟩ (fun r24 M24 h24 => ?_)
    rw [h24.1, h24.2]
    refine G_if_eq (tgt := 57) F dX2_takeEnd_27 (by decide) (fun h27 => ?_) (fun h27 => ?_)
    · have b27 : ¬ (hr (M 36) len) a = 103 := by simpa using h27
      refine G_aload_n F dX2_takeEnd_57 rfl ?_
      refine G_iconst (v := 1) F dX2_takeEnd_58 rfl ?_
      refine G_puti F fl_X2_55 dX2_takeEnd_59 rfl rfl rfl rfl ?_
      refine G_aload_n F dX2_takeEnd_62 rfl ?_
      refine G_ldcK F (i := 3) rfl dX2_takeEnd_63 ?_
      refine G_vI F mv_X2_43 dX2_takeEnd_65 (s_takeWord hl ad sw tl _ (i0 := 3) (bs := [105, 102, 32]) rfl (len := len) (a := a) (by simp [fx_u_at]; exact hl1) hl60 (by simp [fx_u_at]; exact ha) hal) rfl rfl rfl rfl (Nat.le_of_ble_eq_true rfl) ⟨Nat.le_of_ble_eq_true rfl, Nat.le_of_ble_eq_true rfl, Nat.le_of_ble_eq_true rfl, Nat.le_of_ble_eq_true rfl⟩ (fun r65 M65 h65 => ?_)
      rw [fx_u_ne (a := 36) (by decide)] at h65
      obtain ⟨g1, g2, g3, g4⟩ := h65
      rw [g1]
      have q1 := tw_le (ch := M 36) (len := len) [105, 102, 32] a (by decide) hal
      have w36 : M65 36 = M 36 := by rw [g2 36 (by decide), fx_u_ne (a := 36) (by decide)]
      refine G_if_eq (tgt := 114) F dX2_takeEnd_68 (by decide) (fun h68 => ?_) (fun h68 => ?_)
      · have b68 : (tw (hr (M 36) len) [105, 102, 32] a).1 = false := by simpa using h68
        refine G_iconst (v := 0) F dX2_takeEnd_114 rfl ?_
        refine G_iret F Rt dX2_takeEnd_115 (rfl) ⟨rfl, rfl, _, rfl, ?_⟩ (Nat.le_refl _) (Nat.le_refl _)
        have e : te (hr (M 36) len) a = ((tw (hr (M 36) len) [105, 102, 32] a).2, false, 1, -1, -1, 0) := by
          unfold te
          simp only [b6, b27, b68, if_true, if_false, Bool.false_eq_true, decide_true, decide_false]
        rw [e]
        refine ⟨rfl, fun k hk => ?_, g3, ?_, ?_, fun q => Bool.noConfusion (show false = true from q)⟩
        · simp only [List.mem_cons, List.not_mem_nil, or_false] at hk
          rw [g2 k (by simp [hk]), fx_u_ne hk]
        · rw [g4 1 (by decide)]; simp [fx_u_at]
        · rw [g4 4 (by decide)]; simp [fx_u_at]
      · have b68 : (tw (hr (M 36) len) [105, 102, 32] a).1 = true := by simpa using h68
        refine G_aload_n F dX2_takeEnd_71 rfl ?_
        refine G_vI F mv_X2_62 dX2_takeEnd_72 (s_takeFirst hl ad sw tl M65 (len := len) (a := (tw (hr (M 36) len) [105, 102, 32] a).2) (by rw [g4 1 (by decide)]; simp [fx_u_at]; exact hl1) hl60 g3 q1.2) rfl rfl rfl rfl (Nat.le_of_ble_eq_true rfl) ⟨Nat.le_of_ble_eq_true rfl, Nat.le_of_ble_eq_true rfl, Nat.le_of_ble_eq_true rfl, Nat.le_of_ble_eq_true rfl⟩ (fun r72 M72 h72 => ?_)
        rw [w36] at h72
        obtain ⟨k1, k2, k3, k4, k5⟩ := h72
        rw [k1]
        have q2 := tn_le (ch := M 36) (len := len) 2 ((tw (hr (M 36) len) [105, 102, 32] a).2) 0 q1.2
        have x36 : M72 36 = M 36 := by rw [k2 36 (by decide), w36]
        refine G_if_eq (tgt := 114) F dX2_takeEnd_75 (by decide) (fun h75 => ?_) (fun h75 => ?_)
        · have b75 : ¬ (tw (hr (M 36) len) [105, 102, 32] a).2 < (tn (hr (M 36) len) 2 (tw (hr (M 36) len) [105, 102, 32] a).2 0).1 := by simpa using h75
          refine G_iconst (v := 0) F dX2_takeEnd_114 rfl ?_
          refine G_iret F Rt dX2_takeEnd_115 (rfl) ⟨rfl, rfl, _, rfl, ?_⟩ (Nat.le_refl _) (Nat.le_refl _)
          have e : te (hr (M 36) len) a = ((tn (hr (M 36) len) 2 (tw (hr (M 36) len) [105, 102, 32] a).2 0).1, false, 1, -1, -1, 0) := by
            unfold te
            simp only [b6, b27, b68, b75, if_true, if_false, Bool.false_eq_true, decide_true, decide_false]
          rw [e]
          refine ⟨rfl, fun k hk => ?_, k3, ?_, ?_, fun q => Bool.noConfusion (show false = true from q)⟩
          · simp only [List.mem_cons, List.not_mem_nil, or_false] at hk
            rw [k2 k (by simp [hk]), g2 k (by simp [hk]), fx_u_ne hk]
          · rw [k5 1 (by decide) (by decide) (by decide), g4 1 (by decide)]; simp [fx_u_at]
          · rw [k5 4 (by decide) (by decide) (by decide), g4 4 (by decide)]; simp [fx_u_at]
        · have b75 : (tw (hr (M 36) len) [105, 102, 32] a).2 < (tn (hr (M 36) len) 2 (tw (hr (M 36) len) [105, 102, 32] a).2 0).1 := by simpa using h75
          refine G_aload_n F dX2_takeEnd_78 rfl ?_
          refine G_ldcK F (i := 0) rfl dX2_takeEnd_79 ?_
          refine G_vI F mv_X2_43 dX2_takeEnd_81 (s_takeWord hl ad sw tl M72 (i0 := 0) (bs := [32]) rfl (len := len) (a := (tn (hr (M 36) len) 2 (tw (hr (M 36) len) [105, 102, 32] a).2 0).1) (by rw [k5 1 (by decide) (by decide) (by decide), g4 1 (by decide)]; simp [fx_u_at]; exact hl1) hl60 k3 q2.2.1) rfl rfl rfl rfl (Nat.le_of_ble_eq_true rfl) ⟨Nat.le_of_ble_eq_true rfl, Nat.le_of_ble_eq_true rfl, Nat.le_of_ble_eq_true rfl, Nat.le_of_ble_eq_true rfl⟩ (fun r81 M81 h81 => ?_)
          rw [x36] at h81
          obtain ⟨l1, l2, l3, l4⟩ := h81
          rw [l1]
          have q3 := tw_le (ch := M 36) (len := len) [32] (tn (hr (M 36) len) 2 (tw (hr (M 36) len) [105, 102, 32] a).2 0).1 (by decide) q2.2.1
          have y36 : M81 36 = M 36 := by rw [l2 36 (by decide), x36]
          refine G_if_eq (tgt := 114) F dX2_takeEnd_84 (by decide) (fun h84 => ?_) (fun h84 => ?_)
          · have b84 : (tw (hr (M 36) len) [32] (tn (hr (M 36) len) 2 (tw (hr (M 36) len) [105, 102, 32] a).2 0).1).1 = false := by simpa using h84
            refine G_iconst (v := 0) F dX2_takeEnd_114 rfl ?_
            refine G_iret F Rt dX2_takeEnd_115 (rfl) ⟨rfl, rfl, _, rfl, ?_⟩ (Nat.le_refl _) (Nat.le_refl _)
            have e : te (hr (M 36) len) a = ((tw (hr (M 36) len) [32] (tn (hr (M 36) len) 2 (tw (hr (M 36) len) [105, 102, 32] a).2 0).1).2, false, 1, -1, -1, 0) := by
              unfold te
              simp only [b6, b27, b68, b75, b84, if_true, if_false, Bool.false_eq_true, decide_true, decide_false]
            rw [e]
            refine ⟨rfl, fun k hk => ?_, l3, ?_, ?_, fun q => Bool.noConfusion (show false = true from q)⟩
            · simp only [List.mem_cons, List.not_mem_nil, or_false] at hk
              rw [l2 k (by simp [hk]), k2 k (by simp [hk]), g2 k (by simp [hk]), fx_u_ne hk]
            · rw [l4 1 (by decide), k5 1 (by decide) (by decide) (by decide), g4 1 (by decide)]; simp [fx_u_at]
            · rw [l4 4 (by decide), k5 4 (by decide) (by decide) (by decide), g4 4 (by decide)]; simp [fx_u_at]
          · have b84 : (tw (hr (M 36) len) [32] (tn (hr (M 36) len) 2 (tw (hr (M 36) len) [105, 102, 32] a).2 0).1).1 = true := by simpa using h84
            refine G_aload_n F dX2_takeEnd_87 rfl ?_
            refine G_vI F mv_X2_67 dX2_takeEnd_88 (s_takeSecond hl ad sw tl M81 (len := len) (a := (tw (hr (M 36) len) [32] (tn (hr (M 36) len) 2 (tw (hr (M 36) len) [105, 102, 32] a).2 0).1).2) (by rw [l4 1 (by decide), k5 1 (by decide) (by decide) (by decide), g4 1 (by decide)]; simp [fx_u_at]; exact hl1) hl60 l3 q3.2) rfl rfl rfl rfl (Nat.le_of_ble_eq_true rfl) ⟨Nat.le_of_ble_eq_true rfl, Nat.le_of_ble_eq_true rfl, Nat.le_of_ble_eq_true rfl, Nat.le_of_ble_eq_true rfl⟩ (fun r88 M88 h88 => ?_)
            rw [y36] at h88
            obtain ⟨m1, m2, m3, m4, m5⟩ := h88
            rw [m1]
            have q4 := tn_le (ch := M 36) (len := len) 2 ((tw (hr (M 36) len) [32] (tn (hr (M 36) len) 2 (tw (hr (M 36) len) [105, 102, 32] a).2 0).1).2) 0 q3.2
            have z36 : M88 36 = M 36 := by rw [m2 36 (by decide), y36]
            refine G_if_eq (tgt := 114) F dX2_takeEnd_91 (by decide) (fun h91 => ?_) (fun h91 => ?_)
            · have b91 : ¬ (tw (hr (M 36) len) [32] (tn (hr (M 36) len) 2 (tw (hr (M 36) len) [105, 102, 32] a).2 0).1).2 < (tn (hr (M 36) len) 2 (tw (hr (M 36) len) [32] (tn (hr (M 36) len) 2 (tw (hr (M 36) len) [105, 102, 32] a).2 0).1).2 0).1 := by simpa using h91
              refine G_iconst (v := 0) F dX2_takeEnd_114 rfl ?_
              refine G_iret F Rt dX2_takeEnd_115 (rfl) ⟨rfl, rfl, _, rfl, ?_⟩ (Nat.le_refl _) (Nat.le_refl _)
              have e : te (hr (M 36) len) a = ((tn (hr (M 36) len) 2 (tw (hr (M 36) len) [32] (tn (hr (M 36) len) 2 (tw (hr (M 36) len) [105, 102, 32] a).2 0).1).2 0).1, false, 1, -1, -1, 0) := by
                unfold te
                simp only [b6, b27, b68, b75, b84, b91, if_true, if_false, Bool.false_eq_true, decide_true, decide_false]
              rw [e]
              refine ⟨rfl, fun k hk => ?_, m3, ?_, ?_, fun q => Bool.noConfusion (show false = true from q)⟩
              · simp only [List.mem_cons, List.not_mem_nil, or_false] at hk
                rw [m2 k (by simp [hk]), l2 k (by simp [hk]), k2 k (by simp [hk]), g2 k (by simp [hk]), fx_u_ne hk]
              · rw [m5 1 (by decide) (by decide) (by decide), l4 1 (by decide), k5 1 (by decide) (by decide) (by decide), g4 1 (by decide)]; simp [fx_u_at]
              · rw [m5 4 (by decide) (by decide) (by decide), l4 4 (by decide), k5 4 (by decide) (by decide) (by decide), g4 4 (by decide)]; simp [fx_u_at]
            · have b91 : (tw (hr (M 36) len) [32] (tn (hr (M 36) len) 2 (tw (hr (M 36) len) [105, 102, 32] a).2 0).1).2 < (tn (hr (M 36) len) 2 (tw (hr (M 36) len) [32] (tn (hr (M 36) len) 2 (tw (hr (M 36) len) [105, 102, 32] a).2 0).1).2 0).1 := by simpa using h91
              refine G_aload_n F dX2_takeEnd_94 rfl ?_
              refine G_ldcK F (i := 0) rfl dX2_takeEnd_95 ?_
              refine G_vI F mv_X2_43 dX2_takeEnd_97 (s_takeWord hl ad sw tl M88 (i0 := 0) (bs := [32]) rfl (len := len) (a := (tn (hr (M 36) len) 2 (tw (hr (M 36) len) [32] (tn (hr (M 36) len) 2 (tw (hr (M 36) len) [105, 102, 32] a).2 0).1).2 0).1) (by rw [m5 1 (by decide) (by decide) (by decide), l4 1 (by decide), k5 1 (by decide) (by decide) (by decide), g4 1 (by decide)]; simp [fx_u_at]; exact hl1) hl60 m3 q4.2.1) rfl rfl rfl rfl (Nat.le_of_ble_eq_true rfl) ⟨Nat.le_of_ble_eq_true rfl, Nat.le_of_ble_eq_true rfl, Nat.le_of_ble_eq_true rfl, Nat.le_of_ble_eq_true rfl⟩ (fun r97 M97 h97 => ?_)
              rw [z36] at h97
              obtain ⟨n1, n2, n3, n4⟩ := h97
              rw [n1]
              have q5 := tw_le (ch := M 36) (len := len) [32] (tn (hr (M 36) len) 2 (tw (hr (M 36) len) [32] (tn (hr (M 36) len) 2 (tw (hr (M 36) len) [105, 102, 32] a).2 0).1).2 0).1 (by decide) q4.2.1
              have u36 : M97 36 = M 36 := by rw [n2 36 (by decide), z36]
              refine G_if_eq (tgt := 114) F dX2_takeEnd_100 (by decide) (fun h100 => ?_) (fun h100 => ?_)
              · have b100 : (tw (hr (M 36) len) [32] (tn (hr (M 36) len) 2 (tw (hr (M 36) len) [32] (tn (hr (M 36) len) 2 (tw (hr (M 36) len) [105, 102, 32] a).2 0).1).2 0).1).1 = false := by simpa using h100
                refine G_iconst (v := 0) F dX2_takeEnd_114 rfl ?_
                refine G_iret F Rt dX2_takeEnd_115 (rfl) ⟨rfl, rfl, _, rfl, ?_⟩ (Nat.le_refl _) (Nat.le_refl _)
                have e : te (hr (M 36) len) a = ((tw (hr (M 36) len) [32] (tn (hr (M 36) len) 2 (tw (hr (M 36) len) [32] (tn (hr (M 36) len) 2 (tw (hr (M 36) len) [105, 102, 32] a).2 0).1).2 0).1).2, false, 1, -1, -1, 0) := by
                  unfold te
                  simp only [b6, b27, b68, b75, b84, b91, b100, if_true, if_false, Bool.false_eq_true, decide_true, decide_false]
                rw [e]
                refine ⟨rfl, fun k hk => ?_, n3, ?_, ?_, fun q => Bool.noConfusion (show false = true from q)⟩
                · simp only [List.mem_cons, List.not_mem_nil, or_false] at hk
                  rw [n2 k (by simp [hk]), m2 k (by simp [hk]), l2 k (by simp [hk]), k2 k (by simp [hk]), g2 k (by simp [hk]), fx_u_ne hk]
                · rw [n4 1 (by decide), m5 1 (by decide) (by decide) (by decide), l4 1 (by decide), k5 1 (by decide) (by decide) (by decide), g4 1 (by decide)]; simp [fx_u_at]
                · rw [n4 4 (by decide), m5 4 (by decide) (by decide) (by decide), l4 4 (by decide), k5 4 (by decide) (by decide) (by decide), g4 4 (by decide)]; simp [fx_u_at]
              · have b100 : (tw (hr (M 36) len) [32] (tn (hr (M 36) len) 2 (tw (hr (M 36) len) [32] (tn (hr (M 36) len) 2 (tw (hr (M 36) len) [105, 102, 32] a).2 0).1).2 0).1).1 = true := by simpa using h100
                refine G_aload_n F dX2_takeEnd_103 rfl ?_
                refine G_vI F mv_X2_70 dX2_takeEnd_104 (s_takePattern hl ad sw tl M97 (len := len) (a := (tw (hr (M 36) len) [32] (tn (hr (M 36) len) 2 (tw (hr (M 36) len) [32] (tn (hr (M 36) len) 2 (tw (hr (M 36) len) [105, 102, 32] a).2 0).1).2 0).1).2) (by rw [n4 1 (by decide), m5 1 (by decide) (by decide) (by decide), l4 1 (by decide), k5 1 (by decide) (by decide) (by decide), g4 1 (by decide)]; simp [fx_u_at]; exact hl1) hl60 n3 q5.2) rfl rfl rfl rfl (Nat.le_of_ble_eq_true rfl) ⟨Nat.le_of_ble_eq_true rfl, Nat.le_of_ble_eq_true rfl, Nat.le_of_ble_eq_true rfl, Nat.le_of_ble_eq_true rfl⟩ (fun r104 M104 h104 => ?_)
                rw [u36] at h104
                obtain ⟨o1, o2, o3, o4, o5⟩ := h104
                rw [o1]
                refine G_if_eq (tgt := 114) F dX2_takeEnd_107 (by decide) (fun h107 => ?_) (fun h107 => ?_)
                · have b107 : (tp (hr (M 36) len) ((tw (hr (M 36) len) [32] (tn (hr (M 36) len) 2 (tw (hr (M 36) len) [32] (tn (hr (M 36) len) 2 (tw (hr (M 36) len) [105, 102, 32] a).2 0).1).2 0).1).2)).2.1 = false := by simpa using h107
                  refine G_iconst (v := 0) F dX2_takeEnd_114 rfl ?_
                  refine G_iret F Rt dX2_takeEnd_115 (rfl) ⟨rfl, rfl, _, rfl, ?_⟩ (Nat.le_refl _) (Nat.le_refl _)
                  have e : te (hr (M 36) len) a = ((tp (hr (M 36) len) ((tw (hr (M 36) len) [32] (tn (hr (M 36) len) 2 (tw (hr (M 36) len) [32] (tn (hr (M 36) len) 2 (tw (hr (M 36) len) [105, 102, 32] a).2 0).1).2 0).1).2)).1, false, 1, (tn (hr (M 36) len) 2 (tw (hr (M 36) len) [105, 102, 32] a).2 0).2, (tn (hr (M 36) len) 2 (tw (hr (M 36) len) [32] (tn (hr (M 36) len) 2 (tw (hr (M 36) len) [105, 102, 32] a).2 0).1).2 0).2, (tp (hr (M 36) len) ((tw (hr (M 36) len) [32] (tn (hr (M 36) len) 2 (tw (hr (M 36) len) [32] (tn (hr (M 36) len) 2 (tw (hr (M 36) len) [105, 102, 32] a).2 0).1).2 0).1).2)).2.2) := by
                    unfold te
                    simp only [b6, b27, b68, b75, b84, b91, b100, b107, if_true, if_false, Bool.false_eq_true, decide_true, decide_false]
                  rw [e]
                  refine ⟨rfl, fun k hk => ?_, o3, ?_, ?_, fun q => Bool.noConfusion (show false = true from q)⟩
                  · simp only [List.mem_cons, List.not_mem_nil, or_false] at hk
                    rw [o2 k (by simp [hk]), n2 k (by simp [hk]), m2 k (by simp [hk]), l2 k (by simp [hk]), k2 k (by simp [hk]), g2 k (by simp [hk]), fx_u_ne hk]
                  · rw [o5 1 (by decide) (by decide) (by decide), n4 1 (by decide), m5 1 (by decide) (by decide) (by decide), l4 1 (by decide), k5 1 (by decide) (by decide) (by decide), g4 1 (by decide)]; simp [fx_u_at]
                  · rw [o5 4 (by decide) (by decide) (by decide), n4 4 (by decide), m5 4 (by decide) (by decide) (by decide), l4 4 (by decide), k5 4 (by decide) (by decide) (by decide), g4 4 (by decide)]; simp [fx_u_at]
                · have b107 : (tp (hr (M 36) len) ((tw (hr (M 36) len) [32] (tn (hr (M 36) len) 2 (tw (hr (M 36) len) [32] (tn (hr (M 36) len) 2 (tw (hr (M 36) len) [105, 102, 32] a).2 0).1).2 0).1).2)).2.1 = true := by simpa using h107
                  refine G_iconst (v := 1) F dX2_takeEnd_110 rfl ?_
                  refine G_goto (tgt := 115) F dX2_takeEnd_111 (by decide) ?_
                  refine G_iret F Rt dX2_takeEnd_115 (rfl) ⟨rfl, rfl, _, rfl, ?_⟩ (Nat.le_refl _) (Nat.le_refl _)
                  have e : te (hr (M 36) len) a = ((tp (hr (M 36) len) ((tw (hr (M 36) len) [32] (tn (hr (M 36) len) 2 (tw (hr (M 36) len) [32] (tn (hr (M 36) len) 2 (tw (hr (M 36) len) [105, 102, 32] a).2 0).1).2 0).1).2)).1, true, 1, (tn (hr (M 36) len) 2 (tw (hr (M 36) len) [105, 102, 32] a).2 0).2, (tn (hr (M 36) len) 2 (tw (hr (M 36) len) [32] (tn (hr (M 36) len) 2 (tw (hr (M 36) len) [105, 102, 32] a).2 0).1).2 0).2, (tp (hr (M 36) len) ((tw (hr (M 36) len) [32] (tn (hr (M 36) len) 2 (tw (hr (M 36) len) [32] (tn (hr (M 36) len) 2 (tw (hr (M 36) len) [105, 102, 32] a).2 0).1).2 0).1).2)).2.2) := by
                    unfold te
                    simp only [b6, b27, b68, b75, b84, b91, b100, b107, if_true, if_false, Bool.false_eq_true, decide_true, decide_false]
                  rw [e]
                  refine ⟨rfl, fun k hk => ?_, o3, ?_, ?_, fun _ => ⟨by rw [o5 5 (by decide) (by decide) (by decide), n4 5 (by decide), m5 5 (by decide) (by decide) (by decide), l4 5 (by decide), k5 5 (by decide) (by decide) (by decide), g4 5 (by decide)]; simp [fx_u_at], by rw [o5 6 (by decide) (by decide) (by decide), n4 6 (by decide), m5 6 (by decide) (by decide) (by decide), l4 6 (by decide)]; exact k4, by rw [o5 7 (by decide) (by decide) (by decide), n4 7 (by decide)]; exact m4, o4⟩⟩
                  · simp only [List.mem_cons, List.not_mem_nil, or_false] at hk
                    rw [o2 k (by simp [hk]), n2 k (by simp [hk]), m2 k (by simp [hk]), l2 k (by simp [hk]), k2 k (by simp [hk]), g2 k (by simp [hk]), fx_u_ne hk]
                  · rw [o5 1 (by decide) (by decide) (by decide), n4 1 (by decide), m5 1 (by decide) (by decide) (by decide), l4 1 (by decide), k5 1 (by decide) (by decide) (by decide), g4 1 (by decide)]; simp [fx_u_at]
                  · rw [o5 4 (by decide) (by decide) (by decide), n4 4 (by decide), m5 4 (by decide) (by decide) (by decide), l4 4 (by decide), k5 4 (by decide) (by decide) (by decide), g4 4 (by decide)]; simp [fx_u_at]
    · have b27 : (hr (M 36) len) a = 103 := by simpa using h27
      refine G_aload_n F dX2_takeEnd_30 rfl ?_
      refine G_iconst (v := 0) F dX2_takeEnd_31 rfl ?_
      refine G_puti F fl_X2_55 dX2_takeEnd_32 rfl rfl rfl rfl ?_
      refine G_aload_n F dX2_takeEnd_35 rfl ?_
      refine G_ldcK F (i := 2) rfl dX2_takeEnd_36 ?_
      refine G_vI F mv_X2_43 dX2_takeEnd_38 (s_takeWord hl ad sw tl _ (i0 := 2) (bs := [103, 111, 32]) rfl (len := len) (a := a) (by simp [fx_u_at]; exact hl1) hl60 (by simp [fx_u_at]; exact ha) hal) rfl rfl rfl rfl (Nat.le_of_ble_eq_true rfl) ⟨Nat.le_of_ble_eq_true rfl, Nat.le_of_ble_eq_true rfl, Nat.le_of_ble_eq_true rfl, Nat.le_of_ble_eq_true rfl⟩ (fun r38 M38 h38 => ?_)
      rw [fx_u_ne (a := 36) (by decide)] at h38
      obtain ⟨g1, g2, g3, g4⟩ := h38
      rw [g1]
      have q1 := tw_le (ch := M 36) (len := len) [103, 111, 32] a (by decide) hal
      refine G_if_eq (tgt := 55) F dX2_takeEnd_41 (by decide) (fun h41 => ?_) (fun h41 => ?_)
      · have b41 : (tw (hr (M 36) len) [103, 111, 32] a).1 = false := by simpa using h41
        refine G_iconst (v := 0) F dX2_takeEnd_55 rfl ?_
        refine G_iret F Rt dX2_takeEnd_56 (rfl) ⟨rfl, rfl, _, rfl, ?_⟩ (Nat.le_refl _) (Nat.le_refl _)
        have e : te (hr (M 36) len) a = ((tw (hr (M 36) len) [103, 111, 32] a).2, false, 0, -1, -1, 0) := by
          unfold te
          rw [if_neg b6, if_pos b27]
          simp only [b41, if_true, if_false, Bool.false_eq_true, decide_true, decide_false]
        rw [e]
        refine ⟨rfl, fun k hk => ?_, g3, ?_, ?_, fun q => Bool.noConfusion (show false = true from q)⟩
        · simp only [List.mem_cons, List.not_mem_nil, or_false] at hk
          rw [g2 k (by simp [hk]), fx_u_ne hk]
        · rw [g4 1 (by decide)]; simp [fx_u_at]
        · rw [g4 4 (by decide)]; simp [fx_u_at]
      · have b41 : (tw (hr (M 36) len) [103, 111, 32] a).1 = true := by simpa using h41
        refine G_aload_n F dX2_takeEnd_44 rfl ?_
        refine G_vI F mv_X2_62 dX2_takeEnd_45 (s_takeFirst hl ad sw tl M38 (len := len) (a := (tw (hr (M 36) len) [103, 111, 32] a).2) (by rw [g4 1 (by decide)]; simp [fx_u_at]; exact hl1) hl60 g3 q1.2) rfl rfl rfl rfl (Nat.le_of_ble_eq_true rfl) ⟨Nat.le_of_ble_eq_true rfl, Nat.le_of_ble_eq_true rfl, Nat.le_of_ble_eq_true rfl, Nat.le_of_ble_eq_true rfl⟩ (fun r45 M45 h45 => ?_)
        rw [g2 36 (by decide), fx_u_ne (a := 36) (by decide)] at h45
        obtain ⟨k1, k2, k3, k4, k5⟩ := h45
        rw [k1]
        refine G_if_eq (tgt := 55) F dX2_takeEnd_48 (by decide) (fun h48 => ?_) (fun h48 => ?_)
        · have b48 : ¬ (tw (hr (M 36) len) [103, 111, 32] a).2 < (tn (hr (M 36) len) 2 (tw (hr (M 36) len) [103, 111, 32] a).2 0).1 := by simpa using h48
          refine G_iconst (v := 0) F dX2_takeEnd_55 rfl ?_
          refine G_iret F Rt dX2_takeEnd_56 (rfl) ⟨rfl, rfl, _, rfl, ?_⟩ (Nat.le_refl _) (Nat.le_refl _)
          have e : te (hr (M 36) len) a = ((tn (hr (M 36) len) 2 (tw (hr (M 36) len) [103, 111, 32] a).2 0).1, false, 0, (tn (hr (M 36) len) 2 (tw (hr (M 36) len) [103, 111, 32] a).2 0).2, -1, 0) := by
            unfold te
            rw [if_neg b6, if_pos b27]
            simp only [b41, b48, if_true, if_false, Bool.false_eq_true, decide_true, decide_false]
          rw [e]
          refine ⟨rfl, fun k hk => ?_, k3, ?_, ?_, fun q => Bool.noConfusion (show false = true from q)⟩
          · simp only [List.mem_cons, List.not_mem_nil, or_false] at hk
            rw [k2 k (by simp [hk]), g2 k (by simp [hk]), fx_u_ne hk]
          · rw [k5 1 (by decide) (by decide) (by decide), g4 1 (by decide)]; simp [fx_u_at]
          · rw [k5 4 (by decide) (by decide) (by decide), g4 4 (by decide)]; simp [fx_u_at]
        · have b48 : (tw (hr (M 36) len) [103, 111, 32] a).2 < (tn (hr (M 36) len) 2 (tw (hr (M 36) len) [103, 111, 32] a).2 0).1 := by simpa using h48
          refine G_iconst (v := 1) F dX2_takeEnd_51 rfl ?_
          refine G_goto (tgt := 56) F dX2_takeEnd_52 (by decide) ?_
          refine G_iret F Rt dX2_takeEnd_56 (rfl) ⟨rfl, rfl, _, rfl, ?_⟩ (Nat.le_refl _) (Nat.le_refl _)
          have e : te (hr (M 36) len) a = ((tn (hr (M 36) len) 2 (tw (hr (M 36) len) [103, 111, 32] a).2 0).1, true, 0, (tn (hr (M 36) len) 2 (tw (hr (M 36) len) [103, 111, 32] a).2 0).2, -1, 0) := by
            unfold te
            rw [if_neg b6, if_pos b27]
            simp only [b41, b48, if_true, if_false, Bool.false_eq_true, decide_true, decide_false]
          rw [e]
          refine ⟨rfl, fun k hk => ?_, k3, ?_, ?_, fun _ => ⟨by rw [k5 5 (by decide) (by decide) (by decide), g4 5 (by decide)]; simp [fx_u_at], k4, by rw [k5 7 (by decide) (by decide) (by decide), g4 7 (by decide)]; simp [fx_u_at]; exact h7, by rw [k5 8 (by decide) (by decide) (by decide), g4 8 (by decide)]; simp [fx_u_at]; exact h8⟩⟩
          · simp only [List.mem_cons, List.not_mem_nil, or_false] at hk
            rw [k2 k (by simp [hk]), g2 k (by simp [hk]), fx_u_ne hk]
          · rw [k5 1 (by decide) (by decide) (by decide), g4 1 (by decide)]; simp [fx_u_at]
          · rw [k5 4 (by decide) (by decide) (by decide), g4 4 (by decide)]; simp [fx_u_at]
  · have b6 : (hr (M 36) len) a = 115 := by simpa using h6
    refine G_aload_n F dX2_takeEnd_9 rfl ?_
    refine G_iconst (v := 2) F dX2_takeEnd_10 rfl ?_
    refine G_puti F fl_X2_55 dX2_takeEnd_11 rfl rfl rfl rfl ?_
    refine G_aload_n F dX2_takeEnd_14 rfl ?_
    refine G_ldcK F (i := 1) rfl dX2_takeEnd_15 ?_
    refine G_vI F mv_X2_43 dX2_takeEnd_17 (s_takeWord hl ad sw tl _ (i0 := 1) (bs := [115, 116, 111, 112]) rfl (len := len) (a := a) (by simp [fx_u_at]; exact hl1) hl60 (by simp [fx_u_at]; exact ha) hal) rfl rfl rfl rfl (Nat.le_of_ble_eq_true rfl) ⟨Nat.le_of_ble_eq_true rfl, Nat.le_of_ble_eq_true rfl, Nat.le_of_ble_eq_true rfl, Nat.le_of_ble_eq_true rfl⟩ (fun r17 M17 h17 => ?_)
    rw [fx_u_ne (a := 36) (by decide)] at h17
    obtain ⟨g1, g2, g3, g4⟩ := h17
    rw [g1]
    refine G_iret F Rt dX2_takeEnd_20 (by split <;> rfl) ⟨rfl, rfl, _, rfl, ?_⟩ (Nat.le_refl _) (Nat.le_refl _)
    have e : te (hr (M 36) len) a = ((tw (hr (M 36) len) [115, 116, 111, 112] a).2, (tw (hr (M 36) len) [115, 116, 111, 112] a).1, 2, -1, -1, 0) := by
      unfold te
      simp only [b6, if_true]
    rw [e]
    refine ⟨rfl, fun k hk => ?_, g3, ?_, ?_, fun _ => ⟨?_, ?_, ?_, ?_⟩⟩
    · simp only [List.mem_cons, List.not_mem_nil, or_false] at hk
      rw [g2 k (by simp [hk]), fx_u_ne hk]
    · rw [g4 1 (by decide)]; simp [fx_u_at]
    · rw [g4 4 (by decide)]; simp [fx_u_at]
    · rw [g4 5 (by decide)]; simp [fx_u_at]
    · rw [g4 6 (by decide)]; simp [fx_u_at]; exact h6'
    · rw [g4 7 (by decide)]; simp [fx_u_at]; exact h7
    · rw [g4 8 (by decide)]; simp [fx_u_at]; exact h8
