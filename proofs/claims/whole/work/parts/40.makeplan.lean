/-! ARRANGER: makePlan -/
theorem cgd_congr {N : Nat} {ho : Nat → Bool} {bh bh' : Nat → Int32} {fo rk : Nat → Nat} (h : cgd N ho bh fo rk) (e : ∀ b, b < N → bh b = bh' b) : cgd N ho bh' fo rk := by
  obtain ⟨h1, h2, h3, h4⟩ := h
  refine ⟨h1, fun b hb => by rw [← e b hb]; exact h2 b hb, h3, fun b hb hr => ?_⟩
  obtain ⟨a, a1, a2⟩ := h4 b hb hr
  exact ⟨a, a1, by rw [← e a a1]; exact a2⟩
/-- the row of hot blocks by each method -/
def mkr (N : Nat) (ho : Nat → Bool) (M : fx_M) (mt : Int32) (r : Nat → Int32) : Prop :=
  if mt = 2 then r = (sr N (hcn ho N) ho (pf_cc (M 3) (M 4) (M 5) (M 8) (M 9)) 6 1 (fun _ => 0) 1 0 (2147483647, M 11)).2
  else ∃ (bh : Nat → Int32) (fo rk : Nat → Nat), (∀ b, b < N → bh b = (pk N (M 21) (fun a t => if (if mt = 0 then (1 : Int32) else 0) = 0 then pf_cc (M 3) (M 4) (M 5) (M 8) (M 9) a (-1) - pf_cc (M 3) (M 4) (M 5) (M 8) (M 9) a t else pf_wt (M 4) (M 5) (M 8) (M 9) a t) (fun n => !decide ((if mt = 0 then (1 : Int32) else 0) = 0) || decide (M 4 n < M 5 n)) (M 4) (M 5) 16).1 b) ∧ (∀ b, b < N → (pk N (M 21) (fun a t => if (if mt = 0 then (1 : Int32) else 0) = 0 then pf_cc (M 3) (M 4) (M 5) (M 8) (M 9) a (-1) - pf_cc (M 3) (M 4) (M 5) (M 8) (M 9) a t else pf_wt (M 4) (M 5) (M 8) (M 9) a t) (fun n => !decide ((if mt = 0 then (1 : Int32) else 0) = 0) || decide (M 4 n < M 5 n)) (M 4) (M 5) 16).2 b = nI (fo b) ∧ fo b < N) ∧ cgd N ho bh fo rk ∧ fo 0 = 0 ∧ r = (pch N ho fo bh (M 4) (M 5) (M 8) (M 9) (M 11) 16).2
set_option maxRecDepth 20000 in
theorem s_makePlan {l : Launch} {Z : fx_Z} (hl : l.stackTraces = false) (ad : Nat → Nat) (sw : Bool) (tl : List fx_Sh) (M : fx_M) {N : Nat} (ho : Nat → Bool) (mt : Int32) (hN : M 1 8 = nI N) (hN16 : N ≤ 16) (hh : M 20 3 = nI (hcn ho N)) (e21 : ∀ x, x < N → M 21 x = (if ho x then 1 else 0)) (h0 : 0 < N) (ho0 : ho 0 = true) : CV l Z yX0_makePlan (.code yX0_makePlan cX0_makePlan 2 none) 9 [.ref (ad 20), .int mt] ad (c_C sw ++ tl) M (fun m => fr [10, 11, 20, 22, 23, 24, 25, 26] M m ∧ m 10 = upd (M 10) 1 (nI (hcn ho N)) ∧ ∃ r, mkr N ho M mt r ∧ m 11 = pcd ho (hcn ho N) r N) := by
  refine CT_of (ret := none) (lv0 := [some (.ref (ad 20)), some (.int mt)]) (by decide +kernel) hl (by simp [Value.category]) (Nat.le_of_ble_eq_true rfl) rfl ?_
  intro X F Rt _
  have t45 : ∀ m : fx_M, fr [11, 20, 22, 23, 24, 25, 26] M m → (m 20 3 = nI (hcn ho N)) → mkr N ho M mt (m 11) → GG X ad 45 [some (.ref (ad 20)), some (.int mt)] [] 0 0 (c_C sw ++ tl) m := by
    intro m g1 g2 g3
    refine G_aload_n F dX0_makePlan_45 rfl ?_
    refine G_getr F fl_X0_35 dX0_makePlan_46 rfl rfl ?_
    refine G_aload_n F dX0_makePlan_49 rfl ?_
    refine G_geti F fl_X0_39 dX0_makePlan_50 rfl rfl ?_
    rw [g2]
    refine G_puti F fl_X0_66 dX0_makePlan_53 rfl rfl rfl rfl ?_
    refine G_aload_n F dX0_makePlan_56 rfl ?_
    refine G_vv F mv_X0_71 dX0_makePlan_57 (s_placeCold hl ad sw tl _ (N := N) ho (by rw [fx_u_ne (by decide), g1 1 (by decide)]; exact hN) hN16 (by rw [fx_u_ne (by decide)]; exact g2) (fun b hb => by rw [fx_u_ne (by decide), g1 21 (by decide)]; exact e21 b hb)) rfl rfl rfl rfl (Nat.le_of_ble_eq_true rfl) ⟨Nat.le_of_ble_eq_true rfl, Nat.le_of_ble_eq_true rfl, Nat.le_of_ble_eq_true rfl, Nat.le_of_ble_eq_true rfl⟩ (fun M57 h57 => ?_)
    skip
    refine G_vret F Rt dX0_makePlan_60 ⟨rfl, rfl, rfl, ?_⟩ (Nat.le_refl _) (Nat.le_refl _)
    refine ⟨fun k hk => ?_, ?_, m 11, g3, ?_⟩
    · simp only [List.mem_cons, List.not_mem_nil, or_false, not_or] at hk
      rw [h57.1 k (by simp [hk]), fx_u_ne hk.1, g1 k (by simp [hk])]
    · rw [h57.1 10 (by decide), fx_u_eq, g1 10 (by decide)]
    · rw [h57.2, fx_u_ne (by decide)]
  refine G_iload_n F dX0_makePlan_0 rfl ?_
  refine G_iconst (v := 2) F dX0_makePlan_1 rfl ?_
  refine G_icmp_ne (tgt := 28) F dX0_makePlan_2 (by decide) (fun h2 => ?_) (fun h2 => ?_)
  · have hm2 : ¬ mt = 2 := h2
    refine G_aload_n F dX0_makePlan_28 rfl ?_
    refine G_iload_n F dX0_makePlan_29 rfl ?_
    refine G_if_ne (tgt := 37) F dX0_makePlan_30 (by decide) (fun h30 => ?_) (fun h30 => ?_)
    · have hm0 : ¬ mt = 0 := h30
      refine G_iconst (v := 0) F dX0_makePlan_37 rfl ?_
      refine G_vv F mv_X0_59 dX0_makePlan_38 (s_joinChains hl ad sw tl M (N := N) _ hN hN16) rfl rfl rfl rfl (Nat.le_of_ble_eq_true rfl) ⟨Nat.le_of_ble_eq_true rfl, Nat.le_of_ble_eq_true rfl, Nat.le_of_ble_eq_true rfl, Nat.le_of_ble_eq_true rfl⟩ (fun M38 h38 => ?_)
      obtain ⟨fo, rk, c1, c2, c3⟩ := pk_ok (ho := ho) (hr := M 21) (gn := (fun a t => if (0 : Int32) = 0 then pf_cc (M 3) (M 4) (M 5) (M 8) (M 9) a (-1) - pf_cc (M 3) (M 4) (M 5) (M 8) (M 9) a t else pf_wt (M 4) (M 5) (M 8) (M 9) a t)) (ld := (fun n => !decide ((0 : Int32) = 0) || decide (M 4 n < M 5 n))) (f := M 4) (s := M 5) hN16 h0 e21 16
      have j1 := h38.1
      have hC := s_placeChains (Z := Z) hl ad sw tl M38 (N := N) ho fo rk (by rw [j1 1 (by decide)]; exact hN) hN16 (by rw [h38.2.1 3 (by decide) (by decide) (by decide)]; exact hh) (fun x hx => by rw [j1 21 (by decide)]; exact e21 x hx) (fun b hb => by rw [(h38.2.2 b hb).2]; exact c2 b hb) (cgd_congr c1 (fun b hb => (h38.2.2 b hb).1.symm)) h0 ho0 c3
      rw [j1 4 (by decide), j1 5 (by decide), j1 8 (by decide), j1 9 (by decide), j1 11 (by decide)] at hC
      refine G_aload_n F dX0_makePlan_41 rfl ?_
      refine G_vv F mv_X0_63 dX0_makePlan_42 (hC) rfl rfl rfl rfl (Nat.le_of_ble_eq_true rfl) ⟨Nat.le_of_ble_eq_true rfl, Nat.le_of_ble_eq_true rfl, Nat.le_of_ble_eq_true rfl, Nat.le_of_ble_eq_true rfl⟩ (fun M42 h42 => ?_)
      skip
      refine t45 _ (fun k hk => ?_) ?_ ?_
      · simp only [List.mem_cons, List.not_mem_nil, or_false, not_or] at hk
        rw [h42.1 k (by simp [hk]), j1 k (by simp [hk])]
      · rw [h42.1 20 (by decide), h38.2.1 3 (by decide) (by decide) (by decide)]; exact hh
      · unfold mkr
        rw [if_neg hm2]
        have ebw : (if mt = 0 then (1 : Int32) else 0) = (0 : Int32) := by simp [hm0]
        rw [ebw]
        exact ⟨M38 22, fo, rk, fun b hb => (h38.2.2 b hb).1, c2, cgd_congr c1 (fun b hb => (h38.2.2 b hb).1.symm), c3, h42.2⟩
    · have hm0 : mt = 0 := by simpa using h30
      refine G_iconst (v := 1) F dX0_makePlan_33 rfl ?_
      refine G_goto (tgt := 38) F dX0_makePlan_34 (by decide) ?_
      refine G_vv F mv_X0_59 dX0_makePlan_38 (s_joinChains hl ad sw tl M (N := N) _ hN hN16) rfl rfl rfl rfl (Nat.le_of_ble_eq_true rfl) ⟨Nat.le_of_ble_eq_true rfl, Nat.le_of_ble_eq_true rfl, Nat.le_of_ble_eq_true rfl, Nat.le_of_ble_eq_true rfl⟩ (fun M38 h38 => ?_)
      obtain ⟨fo, rk, c1, c2, c3⟩ := pk_ok (ho := ho) (hr := M 21) (gn := (fun a t => if (1 : Int32) = 0 then pf_cc (M 3) (M 4) (M 5) (M 8) (M 9) a (-1) - pf_cc (M 3) (M 4) (M 5) (M 8) (M 9) a t else pf_wt (M 4) (M 5) (M 8) (M 9) a t)) (ld := (fun n => !decide ((1 : Int32) = 0) || decide (M 4 n < M 5 n))) (f := M 4) (s := M 5) hN16 h0 e21 16
      have j1 := h38.1
      have hC := s_placeChains (Z := Z) hl ad sw tl M38 (N := N) ho fo rk (by rw [j1 1 (by decide)]; exact hN) hN16 (by rw [h38.2.1 3 (by decide) (by decide) (by decide)]; exact hh) (fun x hx => by rw [j1 21 (by decide)]; exact e21 x hx) (fun b hb => by rw [(h38.2.2 b hb).2]; exact c2 b hb) (cgd_congr c1 (fun b hb => (h38.2.2 b hb).1.symm)) h0 ho0 c3
      rw [j1 4 (by decide), j1 5 (by decide), j1 8 (by decide), j1 9 (by decide), j1 11 (by decide)] at hC
      refine G_aload_n F dX0_makePlan_41 rfl ?_
      refine G_vv F mv_X0_63 dX0_makePlan_42 (hC) rfl rfl rfl rfl (Nat.le_of_ble_eq_true rfl) ⟨Nat.le_of_ble_eq_true rfl, Nat.le_of_ble_eq_true rfl, Nat.le_of_ble_eq_true rfl, Nat.le_of_ble_eq_true rfl⟩ (fun M42 h42 => ?_)
      skip
      refine t45 _ (fun k hk => ?_) ?_ ?_
      · simp only [List.mem_cons, List.not_mem_nil, or_false, not_or] at hk
        rw [h42.1 k (by simp [hk]), j1 k (by simp [hk])]
      · rw [h42.1 20 (by decide), h38.2.1 3 (by decide) (by decide) (by decide)]; exact hh
      · unfold mkr
        rw [if_neg hm2]
        have ebw : (if mt = 0 then (1 : Int32) else 0) = (1 : Int32) := by simp [hm0]
        rw [ebw]
        exact ⟨M38 22, fo, rk, fun b hb => (h38.2.2 b hb).1, c2, cgd_congr c1 (fun b hb => (h38.2.2 b hb).1.symm), c3, h42.2⟩
  · have hm2 : mt = 2 := h2
    refine G_aload_n F dX0_makePlan_5 rfl ?_
    refine G_ldc (v := 2147483647) F dX0_makePlan_6 (fx_in 902 (by decide +kernel) rfl) ?_
    refine G_puti F fl_X0_52 dX0_makePlan_8 rfl rfl rfl rfl ?_
    refine G_aload_n F dX0_makePlan_11 rfl ?_
    refine G_getr F fl_X0_28 dX0_makePlan_12 rfl rfl ?_
    refine G_iconst (v := nI 0) F dX0_makePlan_15 (by decide) ?_
    refine G_iconst (v := 0) F dX0_makePlan_16 rfl ?_
    refine G_iastN F dX0_makePlan_17 rfl (by omega) (by decide) ?_
    refine G_aload_n F dX0_makePlan_18 rfl ?_
    refine G_iconst (v := nI 1) F dX0_makePlan_19 (by decide) ?_
    refine G_iconst (v := 1) F dX0_makePlan_20 rfl ?_
    refine G_iconst (v := 0) F dX0_makePlan_21 rfl ?_
    refine G_vv F mv_X0_55 dX0_makePlan_22 (s_search hl ad sw tl ho hN16 6 1 (fun _ => 0) 1 0 _ (by rw [fx_u_ne (by decide), fx_u_ne (by decide)]; exact hN) (by simp [fx_u_at]; exact hh) (fun x hx => by rw [fx_u_ne (by decide), fx_u_ne (by decide)]; exact e21 x hx) rfl (Nat.le_refl 1) (fun j hj => by rw [show j = 0 from by omega]; exact ⟨by simp [fx_u_at]; rfl, h0⟩)) rfl rfl rfl rfl (Nat.le_of_ble_eq_true rfl) ⟨Nat.le_of_ble_eq_true rfl, Nat.le_of_ble_eq_true rfl, Nat.le_of_ble_eq_true rfl, Nat.le_of_ble_eq_true rfl⟩ (fun M22 h22 => ?_)
    skip
    refine G_goto (tgt := 45) F dX0_makePlan_25 (by decide) ?_
    refine t45 _ (fun k hk => ?_) ?_ ?_
    · simp only [List.mem_cons, List.not_mem_nil, or_false, not_or] at hk
      rw [h22.1 k (by simp [hk]), fx_u_ne hk.2.2.2.2.2.2, fx_u_ne hk.2.1]
    · rw [h22.2.1 3 (by decide)]; simp [fx_u_at]; exact hh
    · unfold mkr
      rw [if_pos hm2]
      have e := h22.2.2.2
      rw [fx_u_ne (a := 3) (by decide), fx_u_ne (a := 3) (by decide), fx_u_ne (a := 4) (by decide), fx_u_ne (a := 4) (by decide), fx_u_ne (a := 5) (by decide), fx_u_ne (a := 5) (by decide), fx_u_ne (a := 8) (by decide), fx_u_ne (a := 8) (by decide), fx_u_ne (a := 9) (by decide), fx_u_ne (a := 9) (by decide), fx_u_ne (a := 11) (by decide), fx_u_ne (a := 11) (by decide), fx_u_ne (a := 20) (by decide), fx_u_eq, upd_self] at e
      exact congrArg Prod.snd e
