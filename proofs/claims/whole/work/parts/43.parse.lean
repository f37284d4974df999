/-! INPUT: parse -/
theorem tp_le {ch : Nat → Int32} {len a : Nat} (h : a ≤ len) : (tp (hr ch len) a).1 ≤ len := by
  unfold tp
  by_cases e : hr ch len a = 45
  · rw [if_pos e]
    have := (hr_eq (ch := ch) (len := len) (a := a) (c := 45) (by decide)).mp e
    exact (tn_le (ch := ch) (len := len) 6 (a + 1) 0 (by omega)).2.1
  · rw [if_neg e]
    exact (tn_le (ch := ch) (len := len) 6 a 0 h).2.1
theorem te_le {ch : Nat → Int32} {len a : Nat} (h : a ≤ len) : (te (hr ch len) a).1 ≤ len := by
  unfold te
  dsimp only
  have w1 := (tw_le (ch := ch) (len := len) [115, 116, 111, 112] a (by decide) h).2
  have w2 := (tw_le (ch := ch) (len := len) [103, 111, 32] a (by decide) h).2
  have w3 := (tw_le (ch := ch) (len := len) [105, 102, 32] a (by decide) h).2
  have n2 := (tn_le (ch := ch) (len := len) 2 _ 0 w2).2.1
  have n3 := (tn_le (ch := ch) (len := len) 2 _ 0 w3).2.1
  have w4 := (tw_le (ch := ch) (len := len) [32] _ (by decide) n3).2
  have n4 := (tn_le (ch := ch) (len := len) 2 _ 0 w4).2.1
  have w5 := (tw_le (ch := ch) (len := len) [32] _ (by decide) n4).2
  have p5 := tp_le (ch := ch) w5
  repeat' split
  all_goals assumption
/-- a text: the offset where it ends or fails, whether it is one, size, kind, first, second, pattern -/
def pp (h : Nat → Int32) (len : Nat) : Nat × Bool × Int32 × Int32 × Int32 × Int32 × Int32 :=
  if 0 < (tn h 2 0 0).1 then
    (if (tw h [32] (tn h 2 0 0).1).1 = true then ((te h (tw h [32] (tn h 2 0 0).1).2).1, (te h (tw h [32] (tn h 2 0 0).1).2).2.1 && decide ((te h (tw h [32] (tn h 2 0 0).1).2).1 = len), (tn h 2 0 0).2, (te h (tw h [32] (tn h 2 0 0).1).2).2.2)
     else ((tw h [32] (tn h 2 0 0).1).2, false, 0, 0, 0, 0, 0))
  else ((tn h 2 0 0).1, false, 0, 0, 0, 0, 0)
set_option maxRecDepth 20000 in
theorem s_parse {l : Launch} {Z : fx_Z} (hl : l.stackTraces = false) (ad : Nat → Nat) (sw : Bool) (tl : List fx_Sh) (M : fx_M)  {len : Nat} (hl1 : M 35 1 = nI len) (hl60 : len ≤ 60) : CI l Z yX2_parse (.code yX2_parse cX2_parse 1 (some .boolean)) 6 [.ref (ad 35)] ad (c_C sw ++ tl) M (fun r m => r = (if (pp (hr (M 36) len) len).2.1 then 1 else 0) ∧ fr [35] M m ∧ m 35 2 = nI (pp (hr (M 36) len) len).1 ∧ m 35 1 = M 35 1 ∧ ((pp (hr (M 36) len) len).2.1 = true → m 35 4 = (pp (hr (M 36) len) len).2.2.1 ∧ m 35 5 = (pp (hr (M 36) len) len).2.2.2.1 ∧ m 35 6 = (pp (hr (M 36) len) len).2.2.2.2.1 ∧ m 35 7 = (pp (hr (M 36) len) len).2.2.2.2.2.1 ∧ m 35 8 = (pp (hr (M 36) len) len).2.2.2.2.2.2)) := by
  refine CT_of (ret := (some .boolean)) (lv0 := [some (.ref (ad 35))]) (by decide +kernel) hl (by simp [Value.category]) (Nat.le_of_ble_eq_true rfl) rfl ?_
  intro X F Rt _
  refine G_aload_n F dX2_parse_0 rfl ?_
  refine G_iconst (v := 0) F dX2_parse_1 rfl ?_
  refine G_puti F fl_X2_19 dX2_parse_2 rfl rfl rfl rfl ?_
  refine G_aload_n F dX2_parse_5 rfl ?_
  refine G_iconst (v := -1) F dX2_parse_6 rfl ?_
  refine G_puti F fl_X2_22 dX2_parse_7 rfl rfl rfl rfl ?_
  refine G_aload_n F dX2_parse_10 rfl ?_
  refine G_iconst (v := -1) F dX2_parse_11 rfl ?_
  refine G_puti F fl_X2_25 dX2_parse_12 rfl rfl rfl rfl ?_
  refine G_aload_n F dX2_parse_15 rfl ?_
  refine G_iconst (v := 0) F dX2_parse_16 rfl ?_
  refine G_puti F fl_X2_28 dX2_parse_17 rfl rfl rfl rfl ?_
  refine G_aload_n F dX2_parse_20 rfl ?_
  refine G_iconst (v := 2) F dX2_parse_21 rfl ?_
  refine G_vI F mv_X2_31 dX2_parse_22 (s_takeNumber hl ad sw tl (fx_u (fx_u (fx_u (fx_u M 35 2 0) 35 6 (-1)) 35 7 (-1)) 35 8 0) (k0 := 2) (len := len) (a := 0) (by simp [fx_u_at]; exact hl1) hl60 (by simp [fx_u_at]; rfl) (by omega) (by omega)) rfl rfl rfl rfl (Nat.le_of_ble_eq_true rfl) ⟨Nat.le_of_ble_eq_true rfl, Nat.le_of_ble_eq_true rfl, Nat.le_of_ble_eq_true rfl, Nat.le_of_ble_eq_true rfl⟩ (fun r22 M22 h22 => ?_)
  rw [show (fx_u (fx_u (fx_u (fx_u M 35 2 0) 35 6 (-1)) 35 7 (-1)) 35 8 0) 36 = M 36 from by simp only [fx_uN]; rfl] at h22
  obtain ⟨g1, g2, g3, g4, g5⟩ := h22
  rw [g1]
  have q1 := tn_le (ch := M 36) (len := len) 2 0 0 (by omega)
  have w36 : M22 36 = M 36 := by rw [g2 36 (by decide)]; simp only [fx_uN]; rfl
  refine G_if_ne (tgt := 30) F dX2_parse_25 (by decide) (fun h25 => ?_) (fun h25 => ?_)
  · have b25 : 0 < (tn (hr (M 36) len) 2 0 0).1 := by
      have q : ¬ (tn (hr (M 36) len) 2 0 0).1 = 0 := by simpa using h25
      omega
    refine G_aload_n F dX2_parse_30 rfl ?_
    refine G_aload_n F dX2_parse_31 rfl ?_
    refine G_geti F fl_X2_35 dX2_parse_32 rfl rfl ?_
    rw [g4]
    refine G_puti F fl_X2_38 dX2_parse_35 rfl rfl rfl rfl ?_
    refine G_aload_n F dX2_parse_38 rfl ?_
    refine G_ldcK F (i := 0) rfl dX2_parse_39 ?_
    refine G_vI F mv_X2_43 dX2_parse_41 (s_takeWord hl ad sw tl (fx_u M22 35 4 (tn (hr (M 36) len) 2 0 0).2) (i0 := 0) (bs := [32]) rfl (len := len) (a := (tn (hr (M 36) len) 2 0 0).1) (by rw [fx_u_at, if_neg (by decide), g5 1 (by decide) (by decide)]; simp [fx_u_at]; exact hl1) hl60 (by rw [fx_u_at, if_neg (by decide)]; exact g3) q1.2.1) rfl rfl rfl rfl (Nat.le_of_ble_eq_true rfl) ⟨Nat.le_of_ble_eq_true rfl, Nat.le_of_ble_eq_true rfl, Nat.le_of_ble_eq_true rfl, Nat.le_of_ble_eq_true rfl⟩ (fun r41 M41 h41 => ?_)
    rw [show fx_u M22 35 4 (tn (hr (M 36) len) 2 0 0).2 36 = M 36 from by rw [fx_u_ne (by decide)]; exact w36] at h41
    obtain ⟨k1, k2, k3, k4⟩ := h41
    rw [k1]
    have q2 := tw_le (ch := M 36) (len := len) [32] (tn (hr (M 36) len) 2 0 0).1 (by decide) q1.2.1
    have x36 : M41 36 = M 36 := by rw [k2 36 (by decide), fx_u_ne (by decide)]; exact w36
    have kk : ∀ j, j ≠ 2 → j ≠ 3 → j ≠ 4 → M41 35 j = (fx_u (fx_u (fx_u (fx_u M 35 2 0) 35 6 (-1)) 35 7 (-1)) 35 8 0) 35 j := fun j j1 j2 j3 => by rw [k4 j j1, fx_u_at, if_neg (fun q => j3 q.2), g5 j j1 j2]
    refine G_if_eq (tgt := 69) F dX2_parse_44 (by decide) (fun h44 => ?_) (fun h44 => ?_)
    · have b44 : (tw (hr (M 36) len) [32] (tn (hr (M 36) len) 2 0 0).1).1 = false := by simpa using h44
      refine G_iconst (v := 0) F dX2_parse_69 rfl ?_
      refine G_iret F Rt dX2_parse_70 (rfl) ⟨rfl, rfl, _, rfl, ?_⟩ (Nat.le_refl _) (Nat.le_refl _)
      have e : pp (hr (M 36) len) len = ((tw (hr (M 36) len) [32] (tn (hr (M 36) len) 2 0 0).1).2, false, 0, 0, 0, 0, 0) := by
        unfold pp
        simp only [b25, b44, if_true, if_false, Bool.false_eq_true, decide_true, decide_false, Bool.false_and, Bool.true_and, Bool.and_false]
      rw [e]
      refine ⟨rfl, fun k hk => ?_, k3, ?_, fun q => Bool.noConfusion (show false = true from q)⟩
      · simp only [List.mem_cons, List.not_mem_nil, or_false] at hk
        rw [k2 k (by simp [hk]), fx_u_ne hk, g2 k (by simp [hk])]
        simp only [fx_uN, hk, if_false]
      · rw [kk 1 (by decide) (by decide) (by decide)]; simp [fx_u_at]
    · have b44 : (tw (hr (M 36) len) [32] (tn (hr (M 36) len) 2 0 0).1).1 = true := by simpa using h44
      refine G_aload_n F dX2_parse_47 rfl ?_
      refine G_vI F mv_X2_47 dX2_parse_48 (s_takeEnd hl ad sw tl M41 (len := len) (a := (tw (hr (M 36) len) [32] (tn (hr (M 36) len) 2 0 0).1).2) (by rw [kk 1 (by decide) (by decide) (by decide)]; simp [fx_u_at]; exact hl1) hl60 k3 q2.2 (by rw [kk 6 (by decide) (by decide) (by decide)]; simp [fx_u_at]) (by rw [kk 7 (by decide) (by decide) (by decide)]; simp [fx_u_at]) (by rw [kk 8 (by decide) (by decide) (by decide)]; simp [fx_u_at])) rfl rfl rfl rfl (Nat.le_of_ble_eq_true rfl) ⟨Nat.le_of_ble_eq_true rfl, Nat.le_of_ble_eq_true rfl, Nat.le_of_ble_eq_true rfl, Nat.le_of_ble_eq_true rfl⟩ (fun r48 M48 h48 => ?_)
      rw [x36] at h48
      obtain ⟨l1, l2, l3, l4, l5, l6⟩ := h48
      rw [l1]
      have q3 := te_le (ch := M 36) q2.2
      refine G_if_eq (tgt := 69) F dX2_parse_51 (by decide) (fun h51 => ?_) (fun h51 => ?_)
      · have b51 : (te (hr (M 36) len) (tw (hr (M 36) len) [32] (tn (hr (M 36) len) 2 0 0).1).2).2.1 = false := by simpa using h51
        refine G_iconst (v := 0) F dX2_parse_69 rfl ?_
        refine G_iret F Rt dX2_parse_70 (rfl) ⟨rfl, rfl, _, rfl, ?_⟩ (Nat.le_refl _) (Nat.le_refl _)
        have e : pp (hr (M 36) len) len = ((te (hr (M 36) len) (tw (hr (M 36) len) [32] (tn (hr (M 36) len) 2 0 0).1).2).1, false, (tn (hr (M 36) len) 2 0 0).2, (te (hr (M 36) len) (tw (hr (M 36) len) [32] (tn (hr (M 36) len) 2 0 0).1).2).2.2) := by
          unfold pp
          simp only [b25, b44, b51, if_true, if_false, Bool.false_eq_true, decide_true, decide_false, Bool.false_and, Bool.true_and, Bool.and_false]
        rw [e]
        refine ⟨rfl, fun k hk => ?_, l3, ?_, fun q => Bool.noConfusion (show false = true from q)⟩
        · simp only [List.mem_cons, List.not_mem_nil, or_false] at hk
          rw [l2 k (by simp [hk]), k2 k (by simp [hk]), fx_u_ne hk, g2 k (by simp [hk])]
          simp only [fx_uN, hk, if_false]
        · rw [l4, kk 1 (by decide) (by decide) (by decide)]; simp [fx_u_at]
      · have b51 : (te (hr (M 36) len) (tw (hr (M 36) len) [32] (tn (hr (M 36) len) 2 0 0).1).2).2.1 = true := by simpa using h51
        refine G_aload_n F dX2_parse_54 rfl ?_
        refine G_geti F fl_X2_19 dX2_parse_55 rfl rfl ?_
        refine G_aload_n F dX2_parse_58 rfl ?_
        refine G_geti F fl_X2_15 dX2_parse_59 rfl rfl ?_
        rw [l3, l4, kk 1 (by decide) (by decide) (by decide), show (fx_u (fx_u (fx_u (fx_u M 35 2 0) 35 6 (-1)) 35 7 (-1)) 35 8 0) 35 1 = nI len from by simp [fx_u_at]; exact hl1]
        refine G_icmp_ne (tgt := 69) F dX2_parse_62 (by decide) (fun h62 => ?_) (fun h62 => ?_)
        · have b62 : ¬ (te (hr (M 36) len) (tw (hr (M 36) len) [32] (tn (hr (M 36) len) 2 0 0).1).2).1 = len := fun q => h62 (by rw [q])
          refine G_iconst (v := 0) F dX2_parse_69 rfl ?_
          refine G_iret F Rt dX2_parse_70 (rfl) ⟨rfl, rfl, _, rfl, ?_⟩ (Nat.le_refl _) (Nat.le_refl _)
          have e : pp (hr (M 36) len) len = ((te (hr (M 36) len) (tw (hr (M 36) len) [32] (tn (hr (M 36) len) 2 0 0).1).2).1, false, (tn (hr (M 36) len) 2 0 0).2, (te (hr (M 36) len) (tw (hr (M 36) len) [32] (tn (hr (M 36) len) 2 0 0).1).2).2.2) := by
            unfold pp
            simp only [b25, b44, b51, b62, if_true, if_false, Bool.false_eq_true, decide_true, decide_false, Bool.false_and, Bool.true_and, Bool.and_false]
          rw [e]
          refine ⟨rfl, fun k hk => ?_, l3, ?_, fun q => Bool.noConfusion (show false = true from q)⟩
          · simp only [List.mem_cons, List.not_mem_nil, or_false] at hk
            rw [l2 k (by simp [hk]), k2 k (by simp [hk]), fx_u_ne hk, g2 k (by simp [hk])]
            simp only [fx_uN, hk, if_false]
          · rw [l4, kk 1 (by decide) (by decide) (by decide)]; simp [fx_u_at]
        · have b62 : (te (hr (M 36) len) (tw (hr (M 36) len) [32] (tn (hr (M 36) len) 2 0 0).1).2).1 = len := by rw [nI_eq (by omega) (by omega)] at h62; exact h62
          refine G_iconst (v := 1) F dX2_parse_65 rfl ?_
          refine G_goto (tgt := 70) F dX2_parse_66 (by decide) ?_
          refine G_iret F Rt dX2_parse_70 (rfl) ⟨rfl, rfl, _, rfl, ?_⟩ (Nat.le_refl _) (Nat.le_refl _)
          have e : pp (hr (M 36) len) len = ((te (hr (M 36) len) (tw (hr (M 36) len) [32] (tn (hr (M 36) len) 2 0 0).1).2).1, true, (tn (hr (M 36) len) 2 0 0).2, (te (hr (M 36) len) (tw (hr (M 36) len) [32] (tn (hr (M 36) len) 2 0 0).1).2).2.2) := by
            unfold pp
            simp only [b25, b44, b51, b62, if_true, if_false, Bool.false_eq_true, decide_true, decide_false, Bool.false_and, Bool.true_and, Bool.and_false]
          rw [e]
          refine ⟨rfl, fun k hk => ?_, l3, ?_, fun _ => ⟨by rw [l5, k4 4 (by decide)]; simp [fx_u_at], (l6 b51).1, (l6 b51).2.1, (l6 b51).2.2.1, (l6 b51).2.2.2⟩⟩
          · simp only [List.mem_cons, List.not_mem_nil, or_false] at hk
            rw [l2 k (by simp [hk]), k2 k (by simp [hk]), fx_u_ne hk, g2 k (by simp [hk])]
            simp only [fx_uN, hk, if_false]
          · rw [l4, kk 1 (by decide) (by decide) (by decide)]; simp [fx_u_at]
  · have b25 : ¬ 0 < (tn (hr (M 36) len) 2 0 0).1 := by simpa using h25
    refine G_iconst (v := 0) F dX2_parse_28 rfl ?_
    refine G_iret F Rt dX2_parse_29 (rfl) ⟨rfl, rfl, _, rfl, ?_⟩ (Nat.le_refl _) (Nat.le_refl _)
    have e : pp (hr (M 36) len) len = ((tn (hr (M 36) len) 2 0 0).1, false, 0, 0, 0, 0, 0) := by
      unfold pp
      simp only [b25, if_true, if_false, Bool.false_eq_true, decide_true, decide_false, Bool.false_and, Bool.true_and, Bool.and_false]
    rw [e]
    refine ⟨rfl, fun k hk => ?_, g3, ?_, fun q => Bool.noConfusion (show false = true from q)⟩
    · simp only [List.mem_cons, List.not_mem_nil, or_false] at hk
      rw [g2 k (by simp [hk])]
      simp only [fx_uN, hk, if_false]
    · rw [g5 1 (by decide) (by decide)]; simp [fx_u_at]
