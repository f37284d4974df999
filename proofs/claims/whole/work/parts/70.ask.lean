/-! THE REFERENCE: calls that ask for the layout -/
section Rz
variable (N hot al : Nat) (rw pos sz : Nat → Nat) (M : fx_M)
/-- a layout's numbers, out of the reference's memory -/
def r_cy : Int32 := z_cy (M 39) (M 40) (M 41) (M 43) (M 44) (M 45) (hds (pf_tg (M 40) (M 41)) N N) N hot al rw pos sz (M 37 2)
def r_en : Nat := z_en (M 39) (M 40) (M 41) (M 43) (hds (pf_tg (M 40) (M 41)) N N) N hot al rw pos sz (M 37 2)
def r_he : Nat := z_he (M 39) (M 40) (M 41) (M 43) (hds (pf_tg (M 40) (M 41)) N N) N hot al rw pos sz (M 37 2)
def r_ad (b : Nat) : Nat := z_ad (M 39) (M 40) (M 41) (M 43) (hds (pf_tg (M 40) (M 41)) N N) N hot al rw pos sz (M 37 2) b
def r_pd (b : Nat) : Nat := z_pd (M 39) (M 40) (M 41) (M 43) (hds (pf_tg (M 40) (M 41)) N N) N hot al rw pos sz (M 37 2) b
def r_bb (b : Nat) : Nat := z_bb (M 39) (M 40) (M 41) (M 43) (hds (pf_tg (M 40) (M 41)) N N) N hot al rw pos sz (M 37 2) b
def r_jb (b : Nat) : Nat := z_jb (M 39) (M 40) (M 41) (M 43) (hds (pf_tg (M 40) (M 41)) N N) N hot al rw pos sz (M 37 2) b
def r_fm (b : Nat) : Int32 := y_fm (M 39) (M 40) (M 41) N hot rw pos b
end Rz
/-- a settled layout, as numbers -/
theorem v_S_z {N hot al : Nat} {rw pos sz : Nat → Nat} {M m : fx_M} (hN : N ≤ 16) (h : v_S N hot al rw pos sz M m) :
    (m 37 25 = nI (r_he N hot al rw pos sz M) ∧ m 37 26 = nI (r_en N hot al rw pos sz M)) ∧
    (∀ b, b < N → m 53 b = r_fm N hot rw pos M b ∧ m 54 b = (if r_bb N hot al rw pos sz M b = 6 then 1 else 0) ∧ m 55 b = (if r_jb N hot al rw pos sz M b = 5 then 1 else 0) ∧ m 51 b = nI (r_ad N hot al rw pos sz M b) ∧ m 52 b = nI (r_pd N hot al rw pos sz M b)) := by
  obtain ⟨-, T, h1, h2, hP, hQ⟩ := h
  have hT : z_T (M 39) (M 40) (M 41) (M 43) (hds (pf_tg (M 40) (M 41)) N N) N hot al rw pos sz (M 37 2) = T := lst_eq h2 33 0 (fun i _ b => h1 i b) (by omega) (by have := y_end2 h1; omega)
  unfold r_he r_en r_bb r_jb r_ad r_pd z_he z_en z_bb z_jb z_ad z_pd z_bs
  rw [hT]
  refine ⟨⟨hQ.1, hQ.2.1⟩, fun b hb => ?_⟩
  have p := hP b hb
  have q := hQ.2.2 b hb
  exact ⟨p.1, p.2.1, p.2.2, q.1, q.2⟩
theorem r_bjv {N hot al : Nat} {rw pos sz : Nat → Nat} {M : fx_M} (b : Nat) : bjv (r_fm N hot rw pos M b) (r_bb N hot al rw pos sz M b) (r_jb N hot al rw pos sz M b) := y_bjv (form6 b _) _
theorem v_H_th {N hot al : Nat} {rw pos sz : Nat → Nat} {M : fx_M} {x : Int32} (h : v_H N hot al rw pos sz M) : v_H N hot al rw pos sz (fx_u M 37 13 x) := h
theorem v_H_f {N hot al : Nat} {rw pos sz : Nat → Nat} {M m : fx_M} (h : v_H N hot al rw pos sz M) (hf : v_f M m) : v_H N hot al rw pos sz m := by
  obtain ⟨h0, h1, h2, h3, h4, h5, h6, h7, h8, h9, h10, h11⟩ := h
  refine ⟨by rw [hf.2 0 (by decide) (by decide)]; exact h0, h1, by rw [hf.2 3 (by decide) (by decide)]; exact h2, h3, h4, h5, by rw [hf.1 46 (by decide)]; exact h6, by rw [hf.1 38 (by decide)]; exact h7, by rw [hf.1 39 (by decide), hf.1 40 (by decide), hf.1 41 (by decide)]; exact h8, by rw [hf.2 1 (by decide) (by decide)]; exact h9, h10, h11⟩
set_option maxRecDepth 20000 in
theorem t_place {l : Launch} {Z : fx_Z} (hl : l.stackTraces = false) (ad : Nat → Nat) (sw : Bool) (tl : List fx_Sh) (M : fx_M) {N : Nat} (b w : Int32) {hot al : Nat} {rw pos sz : Nat → Nat} (hH : v_H N hot al rw pos sz M) : CI l Z yX8_place (.code yX8_place cX8_place 3 (some .int)) 4 [.ref (ad 37), .int b, .int w] ad (c_C sw ++ (m_C ++ tl)) M (fun r m => (∃ x, x < N ∧ b = nI x ∧ v_f (fx_u M 37 13 0) m ∧ ((w = 0 ∧ r = nI (pos x)) ∨ (w = 1 ∧ r = nI (r_ad N hot al rw pos sz M x)) ∨ (w = 2 ∧ r = nI (r_pd N hot al rw pos sz M x)) ∨ (w = 3 ∧ r = if pos x < hot then 1 else 0))) ∨ (pin N b = false ∧ m = fx_u M 37 13 1) ∨ (pin N b = true ∧ ¬ (0 ≤ w ∧ w ≤ 3) ∧ m = fx_u M 37 13 2)) := by
  refine CT_of (ret := (some .int)) (lv0 := [some (.ref (ad 37)), some (.int b), some (.int w)]) (by decide +kernel) hl (by simp [Value.category]) (Nat.le_of_ble_eq_true rfl) rfl ?_
  intro X F Rt _
  have hN := hH.1
  have hN16 := hH.2.1
  have hN1 : 1 ≤ N := Nat.le_trans hH.2.2.2.1 hH.2.2.2.2.1
  have hpm := hH.2.2.2.2.2.1
  have t0 : (pin N b = true ∧ (0 ≤ w ∧ w ≤ 3)) → GG X ad 27 [some (.ref (ad 37)), some (.int b), some (.int w)] [.int 0, .ref (ad 37)] 0 0 (c_C sw ++ (m_C ++ tl)) M := by
    intro hv
    refine G_puti F fl_X8_103 dX8_place_27 rfl rfl rfl rfl ?_
    refine G_aload_n F dX8_place_30 rfl ?_
    refine G_geti F fl_X8_103 dX8_place_31 rfl rfl ?_
    try simp only [fx_u_at, Nat.reduceEqDiff, false_and, and_false, true_and, and_true, ↓reduceIte]
    refine G_if_eq (tgt := 39) F dX8_place_34 (by decide) (fun h34 => ?_) (fun h34 => ?_)
    · skip
      obtain ⟨x, hx1, hx2⟩ := pin_spec hN16 hv.1
      subst hx2
      have hvw := hv.2
      refine G_aload_n F dX8_place_39 rfl ?_
      refine G_vv F mv_X8_150 dX8_place_40 (t_laysR hl ad sw tl (fx_u M 37 13 0) (v_H_th hH)) rfl rfl rfl rfl (Nat.le_of_ble_eq_true rfl) ⟨Nat.le_of_ble_eq_true rfl, Nat.le_of_ble_eq_true rfl, Nat.le_of_ble_eq_true rfl, Nat.le_of_ble_eq_true rfl⟩ (fun M40 h40 => ?_)
      have hS := h40
      have hf := hS.1
      have hZ := v_S_z hN16 hS
      have hL : v_H N hot al rw pos sz M40 := v_H_f (v_H_th hH) hf
      refine G_iload_n F dX8_place_43 rfl ?_
      by_cases c44_0 : w = 0
      · subst c44_0
        refine G_tableIn (tgt := 72) (off := 28) F dX8_place_44 (by decide) (by decide) (by decide) (by decide) ?_
        refine G_aload_n F dX8_place_72 rfl ?_
        refine G_iload_n F dX8_place_73 rfl ?_
        refine G_vI F mv_X8_164 dX8_place_74 (t_position hl ad sw tl M40 (N := N) (b := x) hL.1 hN16 hN1 (rw := rw) (pos := pos) hpm hL.2.2.2.2.2.2.1 hx1) rfl rfl rfl rfl (Nat.le_of_ble_eq_true rfl) ⟨Nat.le_of_ble_eq_true rfl, Nat.le_of_ble_eq_true rfl, Nat.le_of_ble_eq_true rfl, Nat.le_of_ble_eq_true rfl⟩ (fun r74 M74 h74 => ?_)
        rw [h74.1, h74.2]
        refine G_iret F Rt dX8_place_77 (rfl) ⟨rfl, rfl, _, rfl, ?_⟩ (Nat.le_refl _) (Nat.le_refl _)
        exact Or.inl ⟨x, hx1, rfl, hf, Or.inl (⟨rfl, rfl⟩)⟩
      by_cases c44_1 : w = 1
      · subst c44_1
        refine G_tableIn (tgt := 78) (off := 34) F dX8_place_44 (by decide) (by decide) (by decide) (by decide) ?_
        refine G_aload_n F dX8_place_78 rfl ?_
        refine G_getr F fl_X8_57 dX8_place_79 rfl rfl ?_
        refine G_iload_n F dX8_place_82 rfl ?_
        refine G_ialdN F dX8_place_83 rfl (by omega) (by decide) ?_
        rw [(hZ.2 x hx1).2.2.2.1]
        refine G_iret F Rt dX8_place_84 (rfl) ⟨rfl, rfl, _, rfl, ?_⟩ (Nat.le_refl _) (Nat.le_refl _)
        exact Or.inl ⟨x, hx1, rfl, hf, Or.inr (Or.inl (⟨rfl, rfl⟩))⟩
      by_cases c44_2 : w = 2
      · subst c44_2
        refine G_tableIn (tgt := 85) (off := 41) F dX8_place_44 (by decide) (by decide) (by decide) (by decide) ?_
        refine G_aload_n F dX8_place_85 rfl ?_
        refine G_getr F fl_X8_60 dX8_place_86 rfl rfl ?_
        refine G_iload_n F dX8_place_89 rfl ?_
        refine G_ialdN F dX8_place_90 rfl (by omega) (by decide) ?_
        rw [(hZ.2 x hx1).2.2.2.2]
        refine G_iret F Rt dX8_place_91 (rfl) ⟨rfl, rfl, _, rfl, ?_⟩ (Nat.le_refl _) (Nat.le_refl _)
        exact Or.inl ⟨x, hx1, rfl, hf, Or.inr (Or.inr (Or.inl (⟨rfl, rfl⟩)))⟩
      refine G_tableOut (tgt := 92) F dX8_place_44 (by
        have u0 : w.toInt ≠ 0 := fun q => c44_0 (Int32.toInt_inj.mp (q.trans (by decide)))
        have u1 : w.toInt ≠ 1 := fun q => c44_1 (Int32.toInt_inj.mp (q.trans (by decide)))
        have u2 : w.toInt ≠ 2 := fun q => c44_2 (Int32.toInt_inj.mp (q.trans (by decide)))
        omega) (by decide) ?_
      have hw3 : w = 3 := by
        have e0 : (0 : Int32).toInt = 0 := by decide
        have eg : (3 : Int32).toInt = 3 := by decide
        have hw := hvw
        simp only [Int32.le_iff_toInt_le, e0, eg] at hw
        have u0 : w.toInt ≠ 0 := fun q => c44_0 (Int32.toInt_inj.mp (q.trans (by decide)))
        have u1 : w.toInt ≠ 1 := fun q => c44_1 (Int32.toInt_inj.mp (q.trans (by decide)))
        have u2 : w.toInt ≠ 2 := fun q => c44_2 (Int32.toInt_inj.mp (q.trans (by decide)))
        exact Int32.toInt_inj.mp (by rw [eg]; omega)
      subst hw3
      refine G_aload_n F dX8_place_92 rfl ?_
      refine G_iload_n F dX8_place_93 rfl ?_
      refine G_vI F mv_X8_164 dX8_place_94 (t_position hl ad sw tl M40 (N := N) (b := x) hL.1 hN16 hN1 (rw := rw) (pos := pos) hpm hL.2.2.2.2.2.2.1 hx1) rfl rfl rfl rfl (Nat.le_of_ble_eq_true rfl) ⟨Nat.le_of_ble_eq_true rfl, Nat.le_of_ble_eq_true rfl, Nat.le_of_ble_eq_true rfl, Nat.le_of_ble_eq_true rfl⟩ (fun r94 M94 h94 => ?_)
      rw [h94.1, h94.2]
      refine G_aload_n F dX8_place_97 rfl ?_
      refine G_geti F fl_X8_113 dX8_place_98 rfl rfl ?_
      rw [hL.2.2.1]
      refine G_icmp_ge (tgt := 108) F dX8_place_101 (by decide) (fun h101 => ?_) (fun h101 => ?_)
      · have b101 : ¬ pos x < hot := by
          have hp := (hpm.2 x hx1).1
          have hh := hH.2.2.2.2.1
          rw [nI_leI (by omega) (by omega)] at h101
          omega
        refine G_iconst (v := 0) F dX8_place_108 rfl ?_
        refine G_iret F Rt dX8_place_109 (rfl) ⟨rfl, rfl, _, rfl, ?_⟩ (Nat.le_refl _) (Nat.le_refl _)
        exact Or.inl ⟨x, hx1, rfl, hf, Or.inr (Or.inr (Or.inr (⟨rfl, by simp [b101]⟩)))⟩
      · have b101 : pos x < hot := by
          have hp := (hpm.2 x hx1).1
          have hh := hH.2.2.2.2.1
          rw [nI_leI (by omega) (by omega)] at h101
          omega
        refine G_iconst (v := 1) F dX8_place_104 rfl ?_
        refine G_goto (tgt := 109) F dX8_place_105 (by decide) ?_
        refine G_iret F Rt dX8_place_109 (rfl) ⟨rfl, rfl, _, rfl, ?_⟩ (Nat.le_refl _) (Nat.le_refl _)
        exact Or.inl ⟨x, hx1, rfl, hf, Or.inr (Or.inr (Or.inr (⟨rfl, by simp [b101]⟩)))⟩
    · exact absurd rfl h34 --stop
  have t1 : pin N b = false → GG X ad 27 [some (.ref (ad 37)), some (.int b), some (.int w)] [.int 1, .ref (ad 37)] 0 0 (c_C sw ++ (m_C ++ tl)) M := by
    intro hv
    refine G_puti F fl_X8_103 dX8_place_27 rfl rfl rfl rfl ?_
    refine G_aload_n F dX8_place_30 rfl ?_
    refine G_geti F fl_X8_103 dX8_place_31 rfl rfl ?_
    try simp only [fx_u_at, Nat.reduceEqDiff, false_and, and_false, true_and, and_true, ↓reduceIte]
    refine G_if_eq (tgt := 39) F dX8_place_34 (by decide) (fun h34 => ?_) (fun h34 => ?_)
    · exact absurd h34 (by decide) --stop
    · skip
      refine G_iconst (v := 0) F dX8_place_37 rfl ?_
      refine G_iret F Rt dX8_place_38 (rfl) ⟨rfl, rfl, _, rfl, ?_⟩ (Nat.le_refl _) (Nat.le_refl _)
      exact Or.inr (Or.inl ⟨hv, rfl⟩)
  have t2 : (pin N b = true ∧ ¬ (0 ≤ w ∧ w ≤ 3)) → GG X ad 27 [some (.ref (ad 37)), some (.int b), some (.int w)] [.int 2, .ref (ad 37)] 0 0 (c_C sw ++ (m_C ++ tl)) M := by
    intro hv
    refine G_puti F fl_X8_103 dX8_place_27 rfl rfl rfl rfl ?_
    refine G_aload_n F dX8_place_30 rfl ?_
    refine G_geti F fl_X8_103 dX8_place_31 rfl rfl ?_
    try simp only [fx_u_at, Nat.reduceEqDiff, false_and, and_false, true_and, and_true, ↓reduceIte]
    refine G_if_eq (tgt := 39) F dX8_place_34 (by decide) (fun h34 => ?_) (fun h34 => ?_)
    · exact absurd h34 (by decide) --stop
    · skip
      refine G_iconst (v := 0) F dX8_place_37 rfl ?_
      refine G_iret F Rt dX8_place_38 (rfl) ⟨rfl, rfl, _, rfl, ?_⟩ (Nat.le_refl _) (Nat.le_refl _)
      exact Or.inr (Or.inr ⟨hv.1, hv.2, rfl⟩)
  refine G_aload_n F dX8_place_0 rfl ?_
  refine G_aload_n F dX8_place_1 rfl ?_
  refine G_iload_n F dX8_place_2 rfl ?_
  refine G_vI F mv_X8_119 dX8_place_3 (t_isBlock hl ad sw tl M (N := N) b hN hN16 hN1) rfl rfl rfl rfl (Nat.le_of_ble_eq_true rfl) ⟨Nat.le_of_ble_eq_true rfl, Nat.le_of_ble_eq_true rfl, Nat.le_of_ble_eq_true rfl, Nat.le_of_ble_eq_true rfl⟩ (fun r3 M3 h3 => ?_)
  rw [h3.1, h3.2]
  refine G_if_ne (tgt := 13) F dX8_place_6 (by decide) (fun h6 => ?_) (fun h6 => ?_)
  · have q6 : pin N b = true := by simpa using h6
    refine G_iload_n F dX8_place_13 rfl ?_
    refine G_iconst (v := 0) F dX8_place_14 rfl ?_
    refine G_iconst (v := 3) F dX8_place_15 rfl ?_
    refine G_sI F ms_X8_109 dX8_place_16 (t_isIn hl ad _ M w 0 3) rfl rfl (Nat.le_of_ble_eq_true rfl) ⟨Nat.le_of_ble_eq_true rfl, Nat.le_of_ble_eq_true rfl, Nat.le_of_ble_eq_true rfl, Nat.le_of_ble_eq_true rfl⟩ (fun r16 M16 h16 => ?_)
    rw [h16.1, h16.2]
    refine G_if_eq (tgt := 26) F dX8_place_19 (by decide) (fun h19 => ?_) (fun h19 => ?_)
    · have q20 : ¬ (0 ≤ w ∧ w ≤ 3) := by simpa using h19
      refine G_iconst (v := 2) F dX8_place_26 rfl ?_
      exact t2 ⟨q6, q20⟩
    · have q20 : (0 ≤ w ∧ w ≤ 3) := by simpa using h19
      refine G_iconst (v := 0) F dX8_place_22 rfl ?_
      refine G_goto (tgt := 27) F dX8_place_23 (by decide) ?_
      exact t0 ⟨q6, q20⟩
  · have q6 : pin N b = false := by simpa using h6
    refine G_iconst (v := 1) F dX8_place_9 rfl ?_
    refine G_goto (tgt := 27) F dX8_place_10 (by decide) ?_
    exact t1 q6
set_option maxRecDepth 20000 in
theorem t_end {l : Launch} {Z : fx_Z} (hl : l.stackTraces = false) (ad : Nat → Nat) (sw : Bool) (tl : List fx_Sh) (M : fx_M) {N : Nat} (b w : Int32) {hot al : Nat} {rw pos sz : Nat → Nat} (hH : v_H N hot al rw pos sz M) : CI l Z yX8_end (.code yX8_end cX8_end 3 (some .int)) 4 [.ref (ad 37), .int b, .int w] ad (c_C sw ++ (m_C ++ tl)) M (fun r m => (∃ x, x < N ∧ b = nI x ∧ v_f (fx_u M 37 13 0) m ∧ ((w = 0 ∧ r = r_fm N hot rw pos M x) ∨ (w = 1 ∧ r = nI (if r_fm N hot rw pos M x = 5 then 1 else r_bb N hot al rw pos sz M x + r_jb N hot al rw pos sz M x)) ∨ (w = 2 ∧ r = if r_bb N hot al rw pos sz M x = 6 then 1 else 0) ∨ (w = 3 ∧ r = if r_jb N hot al rw pos sz M x = 5 then 1 else 0))) ∨ (pin N b = false ∧ m = fx_u M 37 13 1) ∨ (pin N b = true ∧ ¬ (0 ≤ w ∧ w ≤ 3) ∧ m = fx_u M 37 13 2)) := by
  refine CT_of (ret := (some .int)) (lv0 := [some (.ref (ad 37)), some (.int b), some (.int w)]) (by decide +kernel) hl (by simp [Value.category]) (Nat.le_of_ble_eq_true rfl) rfl ?_
  intro X F Rt _
  have hN := hH.1
  have hN16 := hH.2.1
  have hN1 : 1 ≤ N := Nat.le_trans hH.2.2.2.1 hH.2.2.2.2.1
  have hpm := hH.2.2.2.2.2.1
  have t0 : (pin N b = true ∧ (0 ≤ w ∧ w ≤ 3)) → GG X ad 27 [some (.ref (ad 37)), some (.int b), some (.int w)] [.int 0, .ref (ad 37)] 0 0 (c_C sw ++ (m_C ++ tl)) M := by
    intro hv
    refine G_puti F fl_X8_103 dX8_end_27 rfl rfl rfl rfl ?_
    refine G_aload_n F dX8_end_30 rfl ?_
    refine G_geti F fl_X8_103 dX8_end_31 rfl rfl ?_
    try simp only [fx_u_at, Nat.reduceEqDiff, false_and, and_false, true_and, and_true, ↓reduceIte]
    refine G_if_eq (tgt := 39) F dX8_end_34 (by decide) (fun h34 => ?_) (fun h34 => ?_)
    · skip
      obtain ⟨x, hx1, hx2⟩ := pin_spec hN16 hv.1
      subst hx2
      have hvw := hv.2
      refine G_aload_n F dX8_end_39 rfl ?_
      refine G_vv F mv_X8_150 dX8_end_40 (t_laysR hl ad sw tl (fx_u M 37 13 0) (v_H_th hH)) rfl rfl rfl rfl (Nat.le_of_ble_eq_true rfl) ⟨Nat.le_of_ble_eq_true rfl, Nat.le_of_ble_eq_true rfl, Nat.le_of_ble_eq_true rfl, Nat.le_of_ble_eq_true rfl⟩ (fun M40 h40 => ?_)
      have hS := h40
      have hf := hS.1
      have hZ := v_S_z hN16 hS
      have hL : v_H N hot al rw pos sz M40 := v_H_f (v_H_th hH) hf
      refine G_iload_n F dX8_end_43 rfl ?_
      by_cases c44_0 : w = 0
      · subst c44_0
        refine G_tableIn (tgt := 72) (off := 28) F dX8_end_44 (by decide) (by decide) (by decide) (by decide) ?_
        refine G_aload_n F dX8_end_72 rfl ?_
        refine G_getr F fl_X8_63 dX8_end_73 rfl rfl ?_
        refine G_iload_n F dX8_end_76 rfl ?_
        refine G_ialdN F dX8_end_77 rfl (by omega) (by decide) ?_
        rw [(hZ.2 x hx1).1]
        refine G_iret F Rt dX8_end_78 (rfl) ⟨rfl, rfl, _, rfl, ?_⟩ (Nat.le_refl _) (Nat.le_refl _)
        exact Or.inl ⟨x, hx1, rfl, hf, Or.inl (⟨rfl, rfl⟩)⟩
      by_cases c44_1 : w = 1
      · subst c44_1
        refine G_tableIn (tgt := 79) (off := 35) F dX8_end_44 (by decide) (by decide) (by decide) (by decide) ?_
        refine G_aload_n F dX8_end_79 rfl ?_
        refine G_iload_n F dX8_end_80 rfl ?_
        refine G_vI F mv_X8_176 dX8_end_81 (t_bytes hl ad sw tl M40 (b := x) (x := r_bb N hot al rw pos sz M x) (z := r_jb N hot al rw pos sz M x) (by omega) (by rw [(hZ.2 x hx1).1]; exact r_bjv x) (hZ.2 x hx1).2.1 (hZ.2 x hx1).2.2.1) rfl rfl rfl rfl (Nat.le_of_ble_eq_true rfl) ⟨Nat.le_of_ble_eq_true rfl, Nat.le_of_ble_eq_true rfl, Nat.le_of_ble_eq_true rfl, Nat.le_of_ble_eq_true rfl⟩ (fun r81 M81 h81 => ?_)
        rw [h81.1, h81.2, (hZ.2 x hx1).1]
        refine G_iret F Rt dX8_end_84 (rfl) ⟨rfl, rfl, _, rfl, ?_⟩ (Nat.le_refl _) (Nat.le_refl _)
        exact Or.inl ⟨x, hx1, rfl, hf, Or.inr (Or.inl (⟨rfl, rfl⟩))⟩
      by_cases c44_2 : w = 2
      · subst c44_2
        refine G_tableIn (tgt := 85) (off := 41) F dX8_end_44 (by decide) (by decide) (by decide) (by decide) ?_
        refine G_aload_n F dX8_end_85 rfl ?_
        refine G_getr F fl_X8_66 dX8_end_86 rfl rfl ?_
        refine G_iload_n F dX8_end_89 rfl ?_
        refine G_zaldN F dX8_end_90 rfl (by omega) (by decide) ?_
        rw [(hZ.2 x hx1).2.1]
        refine G_if_eq (tgt := 98) F dX8_end_91 (by decide) (fun h91 => ?_) (fun h91 => ?_)
        · have b91 : ¬ r_bb N hot al rw pos sz M x = 6 := fun q => by
            have z : r_bb N hot al rw pos sz (fx_u M 37 13 0) x = 6 := q
            rw [if_pos z] at h91; exact absurd h91 (by decide)
          refine G_iconst (v := 0) F dX8_end_98 rfl ?_
          refine G_iret F Rt dX8_end_99 (rfl) ⟨rfl, rfl, _, rfl, ?_⟩ (Nat.le_refl _) (Nat.le_refl _)
          exact Or.inl ⟨x, hx1, rfl, hf, Or.inr (Or.inr (Or.inl (⟨rfl, by simp [b91]⟩)))⟩
        · have b91 : r_bb N hot al rw pos sz M x = 6 := Classical.byContradiction fun q => h91 (if_neg q)
          refine G_iconst (v := 1) F dX8_end_94 rfl ?_
          refine G_goto (tgt := 99) F dX8_end_95 (by decide) ?_
          refine G_iret F Rt dX8_end_99 (rfl) ⟨rfl, rfl, _, rfl, ?_⟩ (Nat.le_refl _) (Nat.le_refl _)
          exact Or.inl ⟨x, hx1, rfl, hf, Or.inr (Or.inr (Or.inl (⟨rfl, by simp [b91]⟩)))⟩
      refine G_tableOut (tgt := 100) F dX8_end_44 (by
        have u0 : w.toInt ≠ 0 := fun q => c44_0 (Int32.toInt_inj.mp (q.trans (by decide)))
        have u1 : w.toInt ≠ 1 := fun q => c44_1 (Int32.toInt_inj.mp (q.trans (by decide)))
        have u2 : w.toInt ≠ 2 := fun q => c44_2 (Int32.toInt_inj.mp (q.trans (by decide)))
        omega) (by decide) ?_
      have hw3 : w = 3 := by
        have e0 : (0 : Int32).toInt = 0 := by decide
        have eg : (3 : Int32).toInt = 3 := by decide
        have hw := hvw
        simp only [Int32.le_iff_toInt_le, e0, eg] at hw
        have u0 : w.toInt ≠ 0 := fun q => c44_0 (Int32.toInt_inj.mp (q.trans (by decide)))
        have u1 : w.toInt ≠ 1 := fun q => c44_1 (Int32.toInt_inj.mp (q.trans (by decide)))
        have u2 : w.toInt ≠ 2 := fun q => c44_2 (Int32.toInt_inj.mp (q.trans (by decide)))
        exact Int32.toInt_inj.mp (by rw [eg]; omega)
      subst hw3
      refine G_aload_n F dX8_end_100 rfl ?_
      refine G_getr F fl_X8_69 dX8_end_101 rfl rfl ?_
      refine G_iload_n F dX8_end_104 rfl ?_
      refine G_zaldN F dX8_end_105 rfl (by omega) (by decide) ?_
      rw [(hZ.2 x hx1).2.2.1]
      refine G_if_eq (tgt := 113) F dX8_end_106 (by decide) (fun h106 => ?_) (fun h106 => ?_)
      · have b106 : ¬ r_jb N hot al rw pos sz M x = 5 := fun q => by
          have z : r_jb N hot al rw pos sz (fx_u M 37 13 0) x = 5 := q
          rw [if_pos z] at h106; exact absurd h106 (by decide)
        refine G_iconst (v := 0) F dX8_end_113 rfl ?_
        refine G_iret F Rt dX8_end_114 (rfl) ⟨rfl, rfl, _, rfl, ?_⟩ (Nat.le_refl _) (Nat.le_refl _)
        exact Or.inl ⟨x, hx1, rfl, hf, Or.inr (Or.inr (Or.inr (⟨rfl, by simp [b106]⟩)))⟩
      · have b106 : r_jb N hot al rw pos sz M x = 5 := Classical.byContradiction fun q => h106 (if_neg q)
        refine G_iconst (v := 1) F dX8_end_109 rfl ?_
        refine G_goto (tgt := 114) F dX8_end_110 (by decide) ?_
        refine G_iret F Rt dX8_end_114 (rfl) ⟨rfl, rfl, _, rfl, ?_⟩ (Nat.le_refl _) (Nat.le_refl _)
        exact Or.inl ⟨x, hx1, rfl, hf, Or.inr (Or.inr (Or.inr (⟨rfl, by simp [b106]⟩)))⟩
    · exact absurd rfl h34 --stop
  have t1 : pin N b = false → GG X ad 27 [some (.ref (ad 37)), some (.int b), some (.int w)] [.int 1, .ref (ad 37)] 0 0 (c_C sw ++ (m_C ++ tl)) M := by
    intro hv
    refine G_puti F fl_X8_103 dX8_end_27 rfl rfl rfl rfl ?_
    refine G_aload_n F dX8_end_30 rfl ?_
    refine G_geti F fl_X8_103 dX8_end_31 rfl rfl ?_
    try simp only [fx_u_at, Nat.reduceEqDiff, false_and, and_false, true_and, and_true, ↓reduceIte]
    refine G_if_eq (tgt := 39) F dX8_end_34 (by decide) (fun h34 => ?_) (fun h34 => ?_)
    · exact absurd h34 (by decide) --stop
    · skip
      refine G_iconst (v := 0) F dX8_end_37 rfl ?_
      refine G_iret F Rt dX8_end_38 (rfl) ⟨rfl, rfl, _, rfl, ?_⟩ (Nat.le_refl _) (Nat.le_refl _)
      exact Or.inr (Or.inl ⟨hv, rfl⟩)
  have t2 : (pin N b = true ∧ ¬ (0 ≤ w ∧ w ≤ 3)) → GG X ad 27 [some (.ref (ad 37)), some (.int b), some (.int w)] [.int 2, .ref (ad 37)] 0 0 (c_C sw ++ (m_C ++ tl)) M := by
    intro hv
    refine G_puti F fl_X8_103 dX8_end_27 rfl rfl rfl rfl ?_
    refine G_aload_n F dX8_end_30 rfl ?_
    refine G_geti F fl_X8_103 dX8_end_31 rfl rfl ?_
    try simp only [fx_u_at, Nat.reduceEqDiff, false_and, and_false, true_and, and_true, ↓reduceIte]
    refine G_if_eq (tgt := 39) F dX8_end_34 (by decide) (fun h34 => ?_) (fun h34 => ?_)
    · exact absurd h34 (by decide) --stop
    · skip
      refine G_iconst (v := 0) F dX8_end_37 rfl ?_
      refine G_iret F Rt dX8_end_38 (rfl) ⟨rfl, rfl, _, rfl, ?_⟩ (Nat.le_refl _) (Nat.le_refl _)
      exact Or.inr (Or.inr ⟨hv.1, hv.2, rfl⟩)
  refine G_aload_n F dX8_end_0 rfl ?_
  refine G_aload_n F dX8_end_1 rfl ?_
  refine G_iload_n F dX8_end_2 rfl ?_
  refine G_vI F mv_X8_119 dX8_end_3 (t_isBlock hl ad sw tl M (N := N) b hN hN16 hN1) rfl rfl rfl rfl (Nat.le_of_ble_eq_true rfl) ⟨Nat.le_of_ble_eq_true rfl, Nat.le_of_ble_eq_true rfl, Nat.le_of_ble_eq_true rfl, Nat.le_of_ble_eq_true rfl⟩ (fun r3 M3 h3 => ?_)
  rw [h3.1, h3.2]
  refine G_if_ne (tgt := 13) F dX8_end_6 (by decide) (fun h6 => ?_) (fun h6 => ?_)
  · have q6 : pin N b = true := by simpa using h6
    refine G_iload_n F dX8_end_13 rfl ?_
    refine G_iconst (v := 0) F dX8_end_14 rfl ?_
    refine G_iconst (v := 3) F dX8_end_15 rfl ?_
    refine G_sI F ms_X8_109 dX8_end_16 (t_isIn hl ad _ M w 0 3) rfl rfl (Nat.le_of_ble_eq_true rfl) ⟨Nat.le_of_ble_eq_true rfl, Nat.le_of_ble_eq_true rfl, Nat.le_of_ble_eq_true rfl, Nat.le_of_ble_eq_true rfl⟩ (fun r16 M16 h16 => ?_)
    rw [h16.1, h16.2]
    refine G_if_eq (tgt := 26) F dX8_end_19 (by decide) (fun h19 => ?_) (fun h19 => ?_)
    · have q20 : ¬ (0 ≤ w ∧ w ≤ 3) := by simpa using h19
      refine G_iconst (v := 2) F dX8_end_26 rfl ?_
      exact t2 ⟨q6, q20⟩
    · have q20 : (0 ≤ w ∧ w ≤ 3) := by simpa using h19
      refine G_iconst (v := 0) F dX8_end_22 rfl ?_
      refine G_goto (tgt := 27) F dX8_end_23 (by decide) ?_
      exact t0 ⟨q6, q20⟩
  · have q6 : pin N b = false := by simpa using h6
    refine G_iconst (v := 1) F dX8_end_9 rfl ?_
    refine G_goto (tgt := 27) F dX8_end_10 (by decide) ?_
    exact t1 q6
set_option maxRecDepth 20000 in
theorem t_sumOfPadding {l : Launch} {Z : fx_Z} (hl : l.stackTraces = false) (ad : Nat → Nat) (sw : Bool) (tl : List fx_Sh) (M : fx_M) {N : Nat} (hN : M 37 0 = nI N) (hN16 : N ≤ 16) (hN1 : 1 ≤ N) : CI l Z yX8_sumOfPadding (.code yX8_sumOfPadding cX8_sumOfPadding 3 (some .int)) 0 [.ref (ad 37)] ad (c_C sw ++ (m_C ++ tl)) M (fun r m => r = sm (M 52) N ∧ m = M) := by
  refine CT_of (ret := (some .int)) (lv0 := [some (.ref (ad 37)), none, none]) (by decide +kernel) hl (by simp [Value.category]) (Nat.le_of_ble_eq_true rfl) rfl ?_
  intro X F Rt _
  have lp : ∀ (k : Nat) (i : Nat), k = N - i → i ≤ N → GG X ad 4 [some (.ref (ad 37)), some (.int (sm (M 52) i)), some (.int (nI i))] [] 0 0 (c_C sw ++ (m_C ++ tl)) M := by
    intro k
    induction k using Nat.strongRecOn with
    | _ k ih =>
      intro i hk hi
      refine G_iload_n F dX8_sumOfPadding_4 rfl ?_
      refine G_aload_n F dX8_sumOfPadding_5 rfl ?_
      refine G_geti F fl_X8_106 dX8_sumOfPadding_6 rfl rfl ?_
      rw [hN]
      refine G_icmp_ge (tgt := 27) F dX8_sumOfPadding_9 (by decide) (fun h9 => ?_) (fun h9 => ?_)
      · rw [nI_leI (by omega) (by omega)] at h9
        have hiN : i = N := by omega
        subst hiN
        refine G_iload_n F dX8_sumOfPadding_27 rfl ?_
        refine G_iret F Rt dX8_sumOfPadding_28 (rfl) ⟨rfl, rfl, _, rfl, ?_⟩ (Nat.le_refl _) (Nat.le_refl _)
        exact ⟨rfl, rfl⟩
      · rw [nI_leI (by omega) (by omega)] at h9
        refine G_iload_n F dX8_sumOfPadding_12 rfl ?_
        refine G_aload_n F dX8_sumOfPadding_13 rfl ?_
        refine G_getr F fl_X8_60 dX8_sumOfPadding_14 rfl rfl ?_
        refine G_iload_n F dX8_sumOfPadding_17 rfl ?_
        refine G_ialdN F dX8_sumOfPadding_18 rfl (by omega) (by decide) ?_
        refine G_iadd F dX8_sumOfPadding_19 ?_
        refine G_istore_n F 1 dX8_sumOfPadding_20 rfl rfl rfl (Nat.le_of_ble_eq_true rfl) ?_
        simp only [List.set_cons_zero, List.set_cons_succ]
        refine G_iinc F (1) dX8_sumOfPadding_21 rfl rfl rfl rfl ?_
        simp only [List.set_cons_zero, List.set_cons_succ, nI_1]
        refine G_goto (tgt := 4) F dX8_sumOfPadding_24 (by decide) ?_
        exact ih (N - (i + 1)) (by omega) (i + 1) rfl (by omega)
  refine G_iconst (v := 0) F dX8_sumOfPadding_0 rfl ?_
  refine G_istore_n F 1 dX8_sumOfPadding_1 rfl rfl rfl (Nat.le_of_ble_eq_true rfl) ?_
  simp only [List.set_cons_zero, List.set_cons_succ]
  refine G_iconst (v := nI 0) F dX8_sumOfPadding_2 (by decide) ?_
  refine G_istore_n F 2 dX8_sumOfPadding_3 rfl rfl rfl (Nat.le_of_ble_eq_true rfl) ?_
  simp only [List.set_cons_zero, List.set_cons_succ]
  exact lp N 0 (by omega) (by omega)
set_option maxRecDepth 20000 in
theorem t_invertedOnes {l : Launch} {Z : fx_Z} (hl : l.stackTraces = false) (ad : Nat → Nat) (sw : Bool) (tl : List fx_Sh) (M : fx_M) {N : Nat} (hN : M 37 0 = nI N) (hN16 : N ≤ 16) (hN1 : 1 ≤ N) : CI l Z yX8_invertedOnes (.code yX8_invertedOnes cX8_invertedOnes 3 (some .int)) 0 [.ref (ad 37)] ad (c_C sw ++ (m_C ++ tl)) M (fun r m => r = sm (fun b => if M 53 b = 3 then (1 : Int32) else 0) N ∧ m = M) := by
  refine CT_of (ret := (some .int)) (lv0 := [some (.ref (ad 37)), none, none]) (by decide +kernel) hl (by simp [Value.category]) (Nat.le_of_ble_eq_true rfl) rfl ?_
  intro X F Rt _
  have lp : ∀ (k : Nat) (i : Nat), k = N - i → i ≤ N → GG X ad 4 [some (.ref (ad 37)), some (.int (sm (fun b => if M 53 b = 3 then (1 : Int32) else 0) i)), some (.int (nI i))] [] 0 0 (c_C sw ++ (m_C ++ tl)) M := by
    intro k
    induction k using Nat.strongRecOn with
    | _ k ih =>
      intro i hk hi
      refine G_iload_n F dX8_invertedOnes_4 rfl ?_
      refine G_aload_n F dX8_invertedOnes_5 rfl ?_
      refine G_geti F fl_X8_106 dX8_invertedOnes_6 rfl rfl ?_
      rw [hN]
      refine G_icmp_ge (tgt := 36) F dX8_invertedOnes_9 (by decide) (fun h9 => ?_) (fun h9 => ?_)
      · rw [nI_leI (by omega) (by omega)] at h9
        have hiN : i = N := by omega
        subst hiN
        refine G_iload_n F dX8_invertedOnes_36 rfl ?_
        refine G_iret F Rt dX8_invertedOnes_37 (rfl) ⟨rfl, rfl, _, rfl, ?_⟩ (Nat.le_refl _) (Nat.le_refl _)
        exact ⟨rfl, rfl⟩
      · rw [nI_leI (by omega) (by omega)] at h9
        refine G_iload_n F dX8_invertedOnes_12 rfl ?_
        refine G_aload_n F dX8_invertedOnes_13 rfl ?_
        refine G_getr F fl_X8_63 dX8_invertedOnes_14 rfl rfl ?_
        refine G_iload_n F dX8_invertedOnes_17 rfl ?_
        refine G_ialdN F dX8_invertedOnes_18 rfl (by omega) (by decide) ?_
        refine G_iconst (v := 3) F dX8_invertedOnes_19 rfl ?_
        refine G_icmp_ne (tgt := 27) F dX8_invertedOnes_20 (by decide) (fun h20 => ?_) (fun h20 => ?_)
        · refine G_iconst (v := 0) F dX8_invertedOnes_27 rfl ?_
          refine G_iadd F dX8_invertedOnes_28 ?_
          refine G_istore_n F 1 dX8_invertedOnes_29 rfl rfl rfl (Nat.le_of_ble_eq_true rfl) ?_
          simp only [List.set_cons_zero, List.set_cons_succ]
          refine G_iinc F (1) dX8_invertedOnes_30 rfl rfl rfl rfl ?_
          simp only [List.set_cons_zero, List.set_cons_succ, nI_1]
          refine G_goto (tgt := 4) F dX8_invertedOnes_33 (by decide) ?_
          have q := ih (N - (i + 1)) (by omega) (i + 1) rfl (by omega)
          simp only [sm] at q
          rw [if_neg h20] at q
          exact q
        · refine G_iconst (v := 1) F dX8_invertedOnes_23 rfl ?_
          refine G_goto (tgt := 28) F dX8_invertedOnes_24 (by decide) ?_
          refine G_iadd F dX8_invertedOnes_28 ?_
          refine G_istore_n F 1 dX8_invertedOnes_29 rfl rfl rfl (Nat.le_of_ble_eq_true rfl) ?_
          simp only [List.set_cons_zero, List.set_cons_succ]
          refine G_iinc F (1) dX8_invertedOnes_30 rfl rfl rfl rfl ?_
          simp only [List.set_cons_zero, List.set_cons_succ, nI_1]
          refine G_goto (tgt := 4) F dX8_invertedOnes_33 (by decide) ?_
          have q := ih (N - (i + 1)) (by omega) (i + 1) rfl (by omega)
          simp only [sm] at q
          rw [if_pos h20] at q
          exact q
  refine G_iconst (v := 0) F dX8_invertedOnes_0 rfl ?_
  refine G_istore_n F 1 dX8_invertedOnes_1 rfl rfl rfl (Nat.le_of_ble_eq_true rfl) ?_
  simp only [List.set_cons_zero, List.set_cons_succ]
  refine G_iconst (v := nI 0) F dX8_invertedOnes_2 (by decide) ?_
  refine G_istore_n F 2 dX8_invertedOnes_3 rfl rfl rfl (Nat.le_of_ble_eq_true rfl) ?_
  simp only [List.set_cons_zero, List.set_cons_succ]
  exact lp N 0 (by omega) (by omega)
set_option maxRecDepth 20000 in
theorem t_longOnes {l : Launch} {Z : fx_Z} (hl : l.stackTraces = false) (ad : Nat → Nat) (sw : Bool) (tl : List fx_Sh) (M : fx_M) {N : Nat} (hN : M 37 0 = nI N) (hN16 : N ≤ 16) (hN1 : 1 ≤ N) : CI l Z yX8_longOnes (.code yX8_longOnes cX8_longOnes 3 (some .int)) 0 [.ref (ad 37)] ad (c_C sw ++ (m_C ++ tl)) M (fun r m => r = sm (fun b => (if M 54 b = 0 then (0 : Int32) else 1) + (if M 55 b = 0 then 0 else 1)) N ∧ m = M) := by
  refine CT_of (ret := (some .int)) (lv0 := [some (.ref (ad 37)), none, none]) (by decide +kernel) hl (by simp [Value.category]) (Nat.le_of_ble_eq_true rfl) rfl ?_
  intro X F Rt _
  have lp : ∀ (k : Nat) (i : Nat), k = N - i → i ≤ N → GG X ad 4 [some (.ref (ad 37)), some (.int (sm (fun b => (if M 54 b = 0 then (0 : Int32) else 1) + (if M 55 b = 0 then 0 else 1)) i)), some (.int (nI i))] [] 0 0 (c_C sw ++ (m_C ++ tl)) M := by
    intro k
    induction k using Nat.strongRecOn with
    | _ k ih =>
      intro i hk hi
      refine G_iload_n F dX8_longOnes_4 rfl ?_
      refine G_aload_n F dX8_longOnes_5 rfl ?_
      refine G_geti F fl_X8_106 dX8_longOnes_6 rfl rfl ?_
      rw [hN]
      refine G_icmp_ge (tgt := 50) F dX8_longOnes_9 (by decide) (fun h9 => ?_) (fun h9 => ?_)
      · rw [nI_leI (by omega) (by omega)] at h9
        have hiN : i = N := by omega
        subst hiN
        refine G_iload_n F dX8_longOnes_50 rfl ?_
        refine G_iret F Rt dX8_longOnes_51 (rfl) ⟨rfl, rfl, _, rfl, ?_⟩ (Nat.le_refl _) (Nat.le_refl _)
        exact ⟨rfl, rfl⟩
      · rw [nI_leI (by omega) (by omega)] at h9
        refine G_iload_n F dX8_longOnes_12 rfl ?_
        refine G_aload_n F dX8_longOnes_13 rfl ?_
        refine G_getr F fl_X8_66 dX8_longOnes_14 rfl rfl ?_
        refine G_iload_n F dX8_longOnes_17 rfl ?_
        refine G_zaldN F dX8_longOnes_18 rfl (by omega) (by decide) ?_
        refine G_if_eq (tgt := 26) F dX8_longOnes_19 (by decide) (fun h19 => ?_) (fun h19 => ?_)
        · refine G_iconst (v := 0) F dX8_longOnes_26 rfl ?_
          refine G_aload_n F dX8_longOnes_27 rfl ?_
          refine G_getr F fl_X8_69 dX8_longOnes_28 rfl rfl ?_
          refine G_iload_n F dX8_longOnes_31 rfl ?_
          refine G_zaldN F dX8_longOnes_32 rfl (by omega) (by decide) ?_
          refine G_if_eq (tgt := 40) F dX8_longOnes_33 (by decide) (fun h33 => ?_) (fun h33 => ?_)
          · refine G_iconst (v := 0) F dX8_longOnes_40 rfl ?_
            refine G_iadd F dX8_longOnes_41 ?_
            refine G_iadd F dX8_longOnes_42 ?_
            refine G_istore_n F 1 dX8_longOnes_43 rfl rfl rfl (Nat.le_of_ble_eq_true rfl) ?_
            simp only [List.set_cons_zero, List.set_cons_succ]
            refine G_iinc F (1) dX8_longOnes_44 rfl rfl rfl rfl ?_
            simp only [List.set_cons_zero, List.set_cons_succ, nI_1]
            refine G_goto (tgt := 4) F dX8_longOnes_47 (by decide) ?_
            have q := ih (N - (i + 1)) (by omega) (i + 1) rfl (by omega)
            simp only [sm] at q
            rw [if_pos h19, if_pos h33] at q
            exact q
          · refine G_iconst (v := 1) F dX8_longOnes_36 rfl ?_
            refine G_goto (tgt := 41) F dX8_longOnes_37 (by decide) ?_
            refine G_iadd F dX8_longOnes_41 ?_
            refine G_iadd F dX8_longOnes_42 ?_
            refine G_istore_n F 1 dX8_longOnes_43 rfl rfl rfl (Nat.le_of_ble_eq_true rfl) ?_
            simp only [List.set_cons_zero, List.set_cons_succ]
            refine G_iinc F (1) dX8_longOnes_44 rfl rfl rfl rfl ?_
            simp only [List.set_cons_zero, List.set_cons_succ, nI_1]
            refine G_goto (tgt := 4) F dX8_longOnes_47 (by decide) ?_
            have q := ih (N - (i + 1)) (by omega) (i + 1) rfl (by omega)
            simp only [sm] at q
            rw [if_pos h19, if_neg h33] at q
            exact q
        · refine G_iconst (v := 1) F dX8_longOnes_22 rfl ?_
          refine G_goto (tgt := 27) F dX8_longOnes_23 (by decide) ?_
          refine G_aload_n F dX8_longOnes_27 rfl ?_
          refine G_getr F fl_X8_69 dX8_longOnes_28 rfl rfl ?_
          refine G_iload_n F dX8_longOnes_31 rfl ?_
          refine G_zaldN F dX8_longOnes_32 rfl (by omega) (by decide) ?_
          refine G_if_eq (tgt := 40) F dX8_longOnes_33 (by decide) (fun h33 => ?_) (fun h33 => ?_)
          · refine G_iconst (v := 0) F dX8_longOnes_40 rfl ?_
            refine G_iadd F dX8_longOnes_41 ?_
            refine G_iadd F dX8_longOnes_42 ?_
            refine G_istore_n F 1 dX8_longOnes_43 rfl rfl rfl (Nat.le_of_ble_eq_true rfl) ?_
            simp only [List.set_cons_zero, List.set_cons_succ]
            refine G_iinc F (1) dX8_longOnes_44 rfl rfl rfl rfl ?_
            simp only [List.set_cons_zero, List.set_cons_succ, nI_1]
            refine G_goto (tgt := 4) F dX8_longOnes_47 (by decide) ?_
            have q := ih (N - (i + 1)) (by omega) (i + 1) rfl (by omega)
            simp only [sm] at q
            rw [if_neg h19, if_pos h33] at q
            exact q
          · refine G_iconst (v := 1) F dX8_longOnes_36 rfl ?_
            refine G_goto (tgt := 41) F dX8_longOnes_37 (by decide) ?_
            refine G_iadd F dX8_longOnes_41 ?_
            refine G_iadd F dX8_longOnes_42 ?_
            refine G_istore_n F 1 dX8_longOnes_43 rfl rfl rfl (Nat.le_of_ble_eq_true rfl) ?_
            simp only [List.set_cons_zero, List.set_cons_succ]
            refine G_iinc F (1) dX8_longOnes_44 rfl rfl rfl rfl ?_
            simp only [List.set_cons_zero, List.set_cons_succ, nI_1]
            refine G_goto (tgt := 4) F dX8_longOnes_47 (by decide) ?_
            have q := ih (N - (i + 1)) (by omega) (i + 1) rfl (by omega)
            simp only [sm] at q
            rw [if_neg h19, if_neg h33] at q
            exact q
  refine G_iconst (v := 0) F dX8_longOnes_0 rfl ?_
  refine G_istore_n F 1 dX8_longOnes_1 rfl rfl rfl (Nat.le_of_ble_eq_true rfl) ?_
  simp only [List.set_cons_zero, List.set_cons_succ]
  refine G_iconst (v := nI 0) F dX8_longOnes_2 (by decide) ?_
  refine G_istore_n F 2 dX8_longOnes_3 rfl rfl rfl (Nat.le_of_ble_eq_true rfl) ?_
  simp only [List.set_cons_zero, List.set_cons_succ]
  exact lp N 0 (by omega) (by omega)
set_option maxRecDepth 20000 in
theorem t_layout {l : Launch} {Z : fx_Z} (hl : l.stackTraces = false) (ad : Nat → Nat) (sw : Bool) (tl : List fx_Sh) (M : fx_M) {N : Nat} (w : Int32) {hot al : Nat} {rw pos sz : Nat → Nat} (hH : v_H N hot al rw pos sz M) (hz : zw N (M 39) (M 44) (M 45)) : CI l Z yX8_layout (.code yX8_layout cX8_layout 2 (some .int)) 4 [.ref (ad 37), .int w] ad (c_C sw ++ (m_C ++ tl)) M (fun r m => ((0 ≤ w ∧ w ≤ 8) ∧ v_f (fx_u M 37 13 0) m ∧ ((w = 0 ∧ r = nI (r_he N hot al rw pos sz M)) ∨ (w = 1 ∧ r = nI (r_en N hot al rw pos sz M)) ∨ (w = 2 ∧ r = M 37 3) ∨ (w = 3 ∧ r = sm (fun b => nI (r_pd N hot al rw pos sz M b)) N) ∨ (w = 4 ∧ r = sm (fun b => (if r_bb N hot al rw pos sz M b = 6 then (1 : Int32) else 0) + (if r_jb N hot al rw pos sz M b = 5 then 1 else 0)) N) ∨ (w = 5 ∧ r = sm (fun b => if nI (pos b) < nI N then pf_cc (M 39) (M 40) (M 41) (M 44) (M 45) b (l_nx N hot rw pos b) else 0) N) ∨ (w = 6 ∧ r = sm (fun b => if r_fm N hot rw pos M b = 3 then (1 : Int32) else 0) N) ∨ (w = 7 ∧ r = M 37 1) ∨ (w = 8 ∧ r = M 37 2))) ∨ (¬ (0 ≤ w ∧ w ≤ 8) ∧ m = fx_u M 37 13 1)) := by
  refine CT_of (ret := (some .int)) (lv0 := [some (.ref (ad 37)), some (.int w)]) (by decide +kernel) hl (by simp [Value.category]) (Nat.le_of_ble_eq_true rfl) rfl ?_
  intro X F Rt _
  have hN := hH.1
  have hN16 := hH.2.1
  have hN1 : 1 ≤ N := Nat.le_trans hH.2.2.2.1 hH.2.2.2.2.1
  have hpm := hH.2.2.2.2.2.1
  have t0 : (0 ≤ w ∧ w ≤ 8) → GG X ad 16 [some (.ref (ad 37)), some (.int w)] [.int 0, .ref (ad 37)] 0 0 (c_C sw ++ (m_C ++ tl)) M := by
    intro hv
    refine G_puti F fl_X8_103 dX8_layout_16 rfl rfl rfl rfl ?_
    refine G_aload_n F dX8_layout_19 rfl ?_
    refine G_geti F fl_X8_103 dX8_layout_20 rfl rfl ?_
    try simp only [fx_u_at, Nat.reduceEqDiff, false_and, and_false, true_and, and_true, ↓reduceIte]
    refine G_if_eq (tgt := 28) F dX8_layout_23 (by decide) (fun h23 => ?_) (fun h23 => ?_)
    · skip
      have hvw := hv
      refine G_aload_n F dX8_layout_28 rfl ?_
      refine G_vv F mv_X8_150 dX8_layout_29 (t_laysR hl ad sw tl (fx_u M 37 13 0) (v_H_th hH)) rfl rfl rfl rfl (Nat.le_of_ble_eq_true rfl) ⟨Nat.le_of_ble_eq_true rfl, Nat.le_of_ble_eq_true rfl, Nat.le_of_ble_eq_true rfl, Nat.le_of_ble_eq_true rfl⟩ (fun M29 h29 => ?_)
      have hS := h29
      have hf := hS.1
      have hZ := v_S_z hN16 hS
      have hL : v_H N hot al rw pos sz M29 := v_H_f (v_H_th hH) hf
      refine G_iload_n F dX8_layout_32 rfl ?_
      by_cases c33_0 : w = 0
      · subst c33_0
        refine G_tableIn (tgt := 80) (off := 47) F dX8_layout_33 (by decide) (by decide) (by decide) (by decide) ?_
        refine G_aload_n F dX8_layout_80 rfl ?_
        refine G_geti F fl_X8_179 dX8_layout_81 rfl rfl ?_
        rw [hZ.1.1]
        refine G_iret F Rt dX8_layout_84 (rfl) ⟨rfl, rfl, _, rfl, ?_⟩ (Nat.le_refl _) (Nat.le_refl _)
        exact Or.inl ⟨hvw, hf, Or.inl (⟨rfl, rfl⟩)⟩
      by_cases c33_1 : w = 1
      · subst c33_1
        refine G_tableIn (tgt := 85) (off := 52) F dX8_layout_33 (by decide) (by decide) (by decide) (by decide) ?_
        refine G_aload_n F dX8_layout_85 rfl ?_
        refine G_geti F fl_X8_182 dX8_layout_86 rfl rfl ?_
        rw [hZ.1.2]
        refine G_iret F Rt dX8_layout_89 (rfl) ⟨rfl, rfl, _, rfl, ?_⟩ (Nat.le_refl _) (Nat.le_refl _)
        exact Or.inl ⟨hvw, hf, Or.inr (Or.inl (⟨rfl, rfl⟩))⟩
      by_cases c33_2 : w = 2
      · subst c33_2
        refine G_tableIn (tgt := 90) (off := 57) F dX8_layout_33 (by decide) (by decide) (by decide) (by decide) ?_
        refine G_aload_n F dX8_layout_90 rfl ?_
        refine G_geti F fl_X8_113 dX8_layout_91 rfl rfl ?_
        rw [hf.2 3 (by decide) (by decide), show (fx_u M 37 13 0) 37 3 = M 37 3 from rfl]
        refine G_iret F Rt dX8_layout_94 (rfl) ⟨rfl, rfl, _, rfl, ?_⟩ (Nat.le_refl _) (Nat.le_refl _)
        exact Or.inl ⟨hvw, hf, Or.inr (Or.inr (Or.inl (⟨rfl, rfl⟩)))⟩
      by_cases c33_3 : w = 3
      · subst c33_3
        refine G_tableIn (tgt := 95) (off := 62) F dX8_layout_33 (by decide) (by decide) (by decide) (by decide) ?_
        refine G_aload_n F dX8_layout_95 rfl ?_
        refine G_vI F mv_X8_268 dX8_layout_96 (t_sumOfPadding hl ad sw tl M29 (N := N) hL.1 hN16 hN1) rfl rfl rfl rfl (Nat.le_of_ble_eq_true rfl) ⟨Nat.le_of_ble_eq_true rfl, Nat.le_of_ble_eq_true rfl, Nat.le_of_ble_eq_true rfl, Nat.le_of_ble_eq_true rfl⟩ (fun r96 M96 h96 => ?_)
        rw [h96.1, h96.2, sm_congr (fun b hb => (hZ.2 b hb).2.2.2.2)]
        refine G_iret F Rt dX8_layout_99 (rfl) ⟨rfl, rfl, _, rfl, ?_⟩ (Nat.le_refl _) (Nat.le_refl _)
        exact Or.inl ⟨hvw, hf, Or.inr (Or.inr (Or.inr (Or.inl (⟨rfl, rfl⟩))))⟩
      by_cases c33_4 : w = 4
      · subst c33_4
        refine G_tableIn (tgt := 100) (off := 67) F dX8_layout_33 (by decide) (by decide) (by decide) (by decide) ?_
        refine G_aload_n F dX8_layout_100 rfl ?_
        refine G_vI F mv_X8_271 dX8_layout_101 (t_longOnes hl ad sw tl M29 (N := N) hL.1 hN16 hN1) rfl rfl rfl rfl (Nat.le_of_ble_eq_true rfl) ⟨Nat.le_of_ble_eq_true rfl, Nat.le_of_ble_eq_true rfl, Nat.le_of_ble_eq_true rfl, Nat.le_of_ble_eq_true rfl⟩ (fun r101 M101 h101 => ?_)
        rw [h101.1, h101.2, sm_congr (g := fun b => (if r_bb N hot al rw pos sz M b = 6 then (1 : Int32) else 0) + (if r_jb N hot al rw pos sz M b = 5 then 1 else 0)) (fun b hb => by
          have z := hZ.2 b hb
          rw [z.2.1, z.2.2.1]
          have e1 : ∀ p : Prop, ∀ dp : Decidable p, (if (if p then (1 : Int32) else 0) = 0 then (0 : Int32) else 1) = if p then 1 else 0 := by
            intro p dp
            by_cases h : p <;> simp [h]
          rw [e1, e1]
          rfl)]
        refine G_iret F Rt dX8_layout_104 (rfl) ⟨rfl, rfl, _, rfl, ?_⟩ (Nat.le_refl _) (Nat.le_refl _)
        exact Or.inl ⟨hvw, hf, Or.inr (Or.inr (Or.inr (Or.inr (Or.inl (⟨rfl, rfl⟩)))))⟩
      by_cases c33_5 : w = 5
      · subst c33_5
        refine G_tableIn (tgt := 105) (off := 72) F dX8_layout_33 (by decide) (by decide) (by decide) (by decide) ?_
        refine G_aload_n F dX8_layout_105 rfl ?_
        refine G_aload_n F dX8_layout_106 rfl ?_
        refine G_geti F fl_X8_106 dX8_layout_107 rfl rfl ?_
        rw [hL.1]
        refine G_vI F mv_X8_265 dX8_layout_110 (t_costs hl ad sw tl M29 (N := N) (n := N) hL.1 hN16 hN1 hL.2.2.2.2.2.2.2.2.1 (by rw [hf.1 39 (by decide), hf.1 44 (by decide), hf.1 45 (by decide)]; exact hz) (hot := hot) (rw := rw) (pos := pos) hL.2.2.1 hL.2.2.2.2.1 hpm hL.2.2.2.2.2.2.1 (Nat.le_refl N)) rfl rfl rfl rfl (Nat.le_of_ble_eq_true rfl) ⟨Nat.le_of_ble_eq_true rfl, Nat.le_of_ble_eq_true rfl, Nat.le_of_ble_eq_true rfl, Nat.le_of_ble_eq_true rfl⟩ (fun r110 M110 h110 => ?_)
        rw [h110.1, h110.2, hf.1 39 (by decide), hf.1 40 (by decide), hf.1 41 (by decide), hf.1 44 (by decide), hf.1 45 (by decide)]
        refine G_iret F Rt dX8_layout_113 (rfl) ⟨rfl, rfl, _, rfl, ?_⟩ (Nat.le_refl _) (Nat.le_refl _)
        exact Or.inl ⟨hvw, hf, Or.inr (Or.inr (Or.inr (Or.inr (Or.inr (Or.inl (⟨rfl, rfl⟩))))))⟩
      by_cases c33_6 : w = 6
      · subst c33_6
        refine G_tableIn (tgt := 114) (off := 81) F dX8_layout_33 (by decide) (by decide) (by decide) (by decide) ?_
        refine G_aload_n F dX8_layout_114 rfl ?_
        refine G_vI F mv_X8_274 dX8_layout_115 (t_invertedOnes hl ad sw tl M29 (N := N) hL.1 hN16 hN1) rfl rfl rfl rfl (Nat.le_of_ble_eq_true rfl) ⟨Nat.le_of_ble_eq_true rfl, Nat.le_of_ble_eq_true rfl, Nat.le_of_ble_eq_true rfl, Nat.le_of_ble_eq_true rfl⟩ (fun r115 M115 h115 => ?_)
        rw [h115.1, h115.2, sm_congr (g := fun b => if r_fm N hot rw pos M b = 3 then (1 : Int32) else 0) (fun b hb => by rw [(hZ.2 b hb).1]; rfl)]
        refine G_iret F Rt dX8_layout_118 (rfl) ⟨rfl, rfl, _, rfl, ?_⟩ (Nat.le_refl _) (Nat.le_refl _)
        exact Or.inl ⟨hvw, hf, Or.inr (Or.inr (Or.inr (Or.inr (Or.inr (Or.inr (Or.inl (⟨rfl, rfl⟩)))))))⟩
      by_cases c33_7 : w = 7
      · subst c33_7
        refine G_tableIn (tgt := 119) (off := 86) F dX8_layout_33 (by decide) (by decide) (by decide) (by decide) ?_
        refine G_aload_n F dX8_layout_119 rfl ?_
        refine G_geti F fl_X8_7 dX8_layout_120 rfl rfl ?_
        rw [hf.2 1 (by decide) (by decide), show (fx_u M 37 13 0) 37 1 = M 37 1 from rfl]
        refine G_iret F Rt dX8_layout_123 (rfl) ⟨rfl, rfl, _, rfl, ?_⟩ (Nat.le_refl _) (Nat.le_refl _)
        exact Or.inl ⟨hvw, hf, Or.inr (Or.inr (Or.inr (Or.inr (Or.inr (Or.inr (Or.inr (Or.inl (⟨rfl, rfl⟩))))))))⟩
      refine G_tableOut (tgt := 124) F dX8_layout_33 (by
        have u0 : w.toInt ≠ 0 := fun q => c33_0 (Int32.toInt_inj.mp (q.trans (by decide)))
        have u1 : w.toInt ≠ 1 := fun q => c33_1 (Int32.toInt_inj.mp (q.trans (by decide)))
        have u2 : w.toInt ≠ 2 := fun q => c33_2 (Int32.toInt_inj.mp (q.trans (by decide)))
        have u3 : w.toInt ≠ 3 := fun q => c33_3 (Int32.toInt_inj.mp (q.trans (by decide)))
        have u4 : w.toInt ≠ 4 := fun q => c33_4 (Int32.toInt_inj.mp (q.trans (by decide)))
        have u5 : w.toInt ≠ 5 := fun q => c33_5 (Int32.toInt_inj.mp (q.trans (by decide)))
        have u6 : w.toInt ≠ 6 := fun q => c33_6 (Int32.toInt_inj.mp (q.trans (by decide)))
        have u7 : w.toInt ≠ 7 := fun q => c33_7 (Int32.toInt_inj.mp (q.trans (by decide)))
        omega) (by decide) ?_
      have hw3 : w = 8 := by
        have e0 : (0 : Int32).toInt = 0 := by decide
        have eg : (8 : Int32).toInt = 8 := by decide
        have hw := hvw
        simp only [Int32.le_iff_toInt_le, e0, eg] at hw
        have u0 : w.toInt ≠ 0 := fun q => c33_0 (Int32.toInt_inj.mp (q.trans (by decide)))
        have u1 : w.toInt ≠ 1 := fun q => c33_1 (Int32.toInt_inj.mp (q.trans (by decide)))
        have u2 : w.toInt ≠ 2 := fun q => c33_2 (Int32.toInt_inj.mp (q.trans (by decide)))
        have u3 : w.toInt ≠ 3 := fun q => c33_3 (Int32.toInt_inj.mp (q.trans (by decide)))
        have u4 : w.toInt ≠ 4 := fun q => c33_4 (Int32.toInt_inj.mp (q.trans (by decide)))
        have u5 : w.toInt ≠ 5 := fun q => c33_5 (Int32.toInt_inj.mp (q.trans (by decide)))
        have u6 : w.toInt ≠ 6 := fun q => c33_6 (Int32.toInt_inj.mp (q.trans (by decide)))
        have u7 : w.toInt ≠ 7 := fun q => c33_7 (Int32.toInt_inj.mp (q.trans (by decide)))
        exact Int32.toInt_inj.mp (by rw [eg]; omega)
      subst hw3
      refine G_aload_n F dX8_layout_124 rfl ?_
      refine G_geti F fl_X8_13 dX8_layout_125 rfl rfl ?_
      rw [hf.2 2 (by decide) (by decide), show (fx_u M 37 13 0) 37 2 = M 37 2 from rfl]
      refine G_iret F Rt dX8_layout_128 (rfl) ⟨rfl, rfl, _, rfl, ?_⟩ (Nat.le_refl _) (Nat.le_refl _)
      exact Or.inl ⟨hvw, hf, Or.inr (Or.inr (Or.inr (Or.inr (Or.inr (Or.inr (Or.inr (Or.inr (⟨rfl, rfl⟩))))))))⟩
    · exact absurd rfl h23 --stop
  have t1 : ¬ (0 ≤ w ∧ w ≤ 8) → GG X ad 16 [some (.ref (ad 37)), some (.int w)] [.int 1, .ref (ad 37)] 0 0 (c_C sw ++ (m_C ++ tl)) M := by
    intro hv
    refine G_puti F fl_X8_103 dX8_layout_16 rfl rfl rfl rfl ?_
    refine G_aload_n F dX8_layout_19 rfl ?_
    refine G_geti F fl_X8_103 dX8_layout_20 rfl rfl ?_
    try simp only [fx_u_at, Nat.reduceEqDiff, false_and, and_false, true_and, and_true, ↓reduceIte]
    refine G_if_eq (tgt := 28) F dX8_layout_23 (by decide) (fun h23 => ?_) (fun h23 => ?_)
    · exact absurd h23 (by decide) --stop
    · skip
      refine G_iconst (v := 0) F dX8_layout_26 rfl ?_
      refine G_iret F Rt dX8_layout_27 (rfl) ⟨rfl, rfl, _, rfl, ?_⟩ (Nat.le_refl _) (Nat.le_refl _)
      exact Or.inr ⟨hv, rfl⟩
  refine G_aload_n F dX8_layout_0 rfl ?_
  refine G_iload_n F dX8_layout_1 rfl ?_
  refine G_iconst (v := 0) F dX8_layout_2 rfl ?_
  refine G_bipush (v := 8) F dX8_layout_3 rfl ?_
  refine G_sI F ms_X8_109 dX8_layout_5 (t_isIn hl ad _ M w 0 8) rfl rfl (Nat.le_of_ble_eq_true rfl) ⟨Nat.le_of_ble_eq_true rfl, Nat.le_of_ble_eq_true rfl, Nat.le_of_ble_eq_true rfl, Nat.le_of_ble_eq_true rfl⟩ (fun r5 M5 h5 => ?_)
  rw [h5.1, h5.2]
  refine G_if_eq (tgt := 15) F dX8_layout_8 (by decide) (fun h8 => ?_) (fun h8 => ?_)
  · have q : ¬ (0 ≤ w ∧ w ≤ 8) := by simpa using h8
    refine G_iconst (v := 1) F dX8_layout_15 rfl ?_
    exact t1 q
  · have q : (0 ≤ w ∧ w ≤ 8) := by simpa using h8
    refine G_iconst (v := 0) F dX8_layout_11 rfl ?_
    refine G_goto (tgt := 16) F dX8_layout_12 (by decide) ?_
    exact t0 q
set_option maxRecDepth 20000 in
theorem t_cyclesNow {l : Launch} {Z : fx_Z} (hl : l.stackTraces = false) (ad : Nat → Nat) (sw : Bool) (tl : List fx_Sh) (M : fx_M) {N : Nat} {hot al : Nat} {rw pos sz : Nat → Nat} (hH : v_H N hot al rw pos sz M) (hz : zw N (M 39) (M 44) (M 45)) : CI l Z yX8_cyclesNow (.code yX8_cyclesNow cX8_cyclesNow 4 (some .int)) 4 [.ref (ad 37)] ad (c_C sw ++ (m_C ++ tl)) M (fun r m => r = r_cy N hot al rw pos sz M ∧ v_f M m ∧ m 37 26 = nI (r_en N hot al rw pos sz M)) := by
  refine CT_of (ret := (some .int)) (lv0 := [some (.ref (ad 37)), none, none, none]) (by decide +kernel) hl (by simp [Value.category]) (Nat.le_of_ble_eq_true rfl) rfl ?_
  intro X F Rt _
  have hN := hH.1
  have hN16 := hH.2.1
  have hN1 : 1 ≤ N := Nat.le_trans hH.2.2.2.1 hH.2.2.2.2.1
  have hpm := hH.2.2.2.2.2.1
  refine G_aload_n F dX8_cyclesNow_0 rfl ?_
  refine G_vv F mv_X8_150 dX8_cyclesNow_1 (t_laysR hl ad sw tl M hH) rfl rfl rfl rfl (Nat.le_of_ble_eq_true rfl) ⟨Nat.le_of_ble_eq_true rfl, Nat.le_of_ble_eq_true rfl, Nat.le_of_ble_eq_true rfl, Nat.le_of_ble_eq_true rfl⟩ (fun M1 h1 => ?_)
  have hS := h1
  have hf := hS.1
  have hZ := v_S_z hN16 hS
  have hL : v_H N hot al rw pos sz M1 := v_H_f hH hf
  refine G_aload_n F dX8_cyclesNow_4 rfl ?_
  refine G_aload_n F dX8_cyclesNow_5 rfl ?_
  refine G_geti F fl_X8_106 dX8_cyclesNow_6 rfl rfl ?_
  rw [hL.1]
  refine G_vI F mv_X8_265 dX8_cyclesNow_9 (t_costs hl ad sw tl M1 (N := N) (n := N) hL.1 hN16 hN1 hL.2.2.2.2.2.2.2.2.1 (by rw [hf.1 39 (by decide), hf.1 44 (by decide), hf.1 45 (by decide)]; exact hz) (hot := hot) (rw := rw) (pos := pos) hL.2.2.1 hL.2.2.2.2.1 hpm hL.2.2.2.2.2.2.1 (Nat.le_refl N)) rfl rfl rfl rfl (Nat.le_of_ble_eq_true rfl) ⟨Nat.le_of_ble_eq_true rfl, Nat.le_of_ble_eq_true rfl, Nat.le_of_ble_eq_true rfl, Nat.le_of_ble_eq_true rfl⟩ (fun r9 M9 h9 => ?_)
  rw [h9.1, h9.2, hf.1 39 (by decide), hf.1 40 (by decide), hf.1 41 (by decide), hf.1 44 (by decide), hf.1 45 (by decide)]
  have lp : ∀ (k : Nat) (i : Nat), k = N - i → i ≤ N → GG X ad 15 [some (.ref (ad 37)), some (.int ((sm (fun b => if nI (pos b) < nI N then pf_cc (M 39) (M 40) (M 41) (M 44) (M 45) b (l_nx N hot rw pos b) else 0) N) + sm (fun b => if pf_pn (l_nx N hot rw pos) (fun x => nI (r_pd N hot al rw pos sz M x)) b then pf_wt (M 40) (M 41) (M 44) (M 45) b (l_nx N hot rw pos b) else 0) i)), some (.int (nI i)), none] [] 0 0 (c_C sw ++ (m_C ++ tl)) M1 := by
    intro k
    induction k using Nat.strongRecOn with
    | _ k ih =>
      intro i hk hi
      refine G_iload_n F dX8_cyclesNow_15 rfl ?_
      refine G_aload_n F dX8_cyclesNow_16 rfl ?_
      refine G_geti F fl_X8_106 dX8_cyclesNow_17 rfl rfl ?_
      rw [hL.1]
      refine G_icmp_ge (tgt := 61) F dX8_cyclesNow_20 (by decide) (fun h20 => ?_) (fun h20 => ?_)
      · rw [nI_leI (by omega) (by omega)] at h20
        have hiN : i = N := by omega
        subst hiN
        refine G_iload_n F dX8_cyclesNow_61 rfl ?_
        refine G_iret F Rt dX8_cyclesNow_62 (rfl) ⟨rfl, rfl, _, rfl, ?_⟩ (Nat.le_refl _) (Nat.le_refl _)
        exact ⟨rfl, hf, hZ.1.2⟩
      · rw [nI_leI (by omega) (by omega)] at h20
        have t53 : ∀ v : Int32, v = (fun b => if pf_pn (l_nx N hot rw pos) (fun x => nI (r_pd N hot al rw pos sz M x)) b then pf_wt (M 40) (M 41) (M 44) (M 45) b (l_nx N hot rw pos b) else 0) i → GG X ad 53 [some (.ref (ad 37)), some (.int ((sm (fun b => if nI (pos b) < nI N then pf_cc (M 39) (M 40) (M 41) (M 44) (M 45) b (l_nx N hot rw pos b) else 0) N) + sm (fun b => if pf_pn (l_nx N hot rw pos) (fun x => nI (r_pd N hot al rw pos sz M x)) b then pf_wt (M 40) (M 41) (M 44) (M 45) b (l_nx N hot rw pos b) else 0) i)), some (.int (nI i)), some (.int (l_nx N hot rw pos i))] [.int v, .int ((sm (fun b => if nI (pos b) < nI N then pf_cc (M 39) (M 40) (M 41) (M 44) (M 45) b (l_nx N hot rw pos b) else 0) N) + sm (fun b => if pf_pn (l_nx N hot rw pos) (fun x => nI (r_pd N hot al rw pos sz M x)) b then pf_wt (M 40) (M 41) (M 44) (M 45) b (l_nx N hot rw pos b) else 0) i)] 0 0 (c_C sw ++ (m_C ++ tl)) M1 := by
          intro v hv9
          refine G_iadd F dX8_cyclesNow_53 ?_
          rw [hv9, Int32.add_assoc]
          refine G_istore_n F 1 dX8_cyclesNow_54 rfl rfl rfl (Nat.le_of_ble_eq_true rfl) ?_
          simp only [List.set_cons_zero, List.set_cons_succ]
          refine G_iinc F (1) dX8_cyclesNow_55 rfl rfl rfl rfl ?_
          simp only [List.set_cons_zero, List.set_cons_succ, nI_1]
          refine G_goto (tgt := 15) F dX8_cyclesNow_58 (by decide) ?_
          refine G_drop F 3 ?_
          simp only [List.set_cons_zero, List.set_cons_succ]
          exact ih (N - (i + 1)) (by omega) (i + 1) rfl (by omega)
        refine G_aload_n F dX8_cyclesNow_23 rfl ?_
        refine G_iload_n F dX8_cyclesNow_24 rfl ?_
        refine G_vI F mv_X8_153 dX8_cyclesNow_25 (t_next hl ad sw tl M1 (N := N) (b := i) hL.1 hN16 hN1 (hot := hot) (rw := rw) (pos := pos) hL.2.2.1 hL.2.2.2.2.1 hpm hL.2.2.2.2.2.2.1 (by omega)) rfl rfl rfl rfl (Nat.le_of_ble_eq_true rfl) ⟨Nat.le_of_ble_eq_true rfl, Nat.le_of_ble_eq_true rfl, Nat.le_of_ble_eq_true rfl, Nat.le_of_ble_eq_true rfl⟩ (fun r25 M25 h25 => ?_)
        rw [h25.1, h25.2]
        refine G_istore_n F 3 dX8_cyclesNow_28 rfl rfl rfl (Nat.le_of_ble_eq_true rfl) ?_
        simp only [List.set_cons_zero, List.set_cons_succ]
        refine G_iload_n F dX8_cyclesNow_29 rfl ?_
        refine G_iload_n F dX8_cyclesNow_30 rfl ?_
        refine G_if_lt (tgt := 52) F dX8_cyclesNow_31 (by decide) (fun h31 => ?_) (fun h31 => ?_)
        · have e31 : (l_nx N hot rw pos i) = -1 := Classical.byContradiction fun q => by
            obtain ⟨x, x1, x2⟩ := l_nx_in hN16 hpm (show i < N by omega) q
            rw [x2] at h31
            simp only [Int32.lt_iff_toInt_lt, i0] at h31
            rw [nI_toInt (by omega)] at h31
            omega
          refine G_iconst (v := 0) F dX8_cyclesNow_52 rfl ?_
          exact t53 0 (by simp [pf_pn, e31])
        · obtain ⟨x, hx1, hx2⟩ := l_nx_in hN16 hpm (show i < N by omega) (fun q => h31 (by rw [q]; decide))
          refine G_aload_n F dX8_cyclesNow_34 rfl ?_
          refine G_getr F fl_X8_60 dX8_cyclesNow_35 rfl rfl ?_
          refine G_iload_n F dX8_cyclesNow_38 rfl ?_
          rw [hx2]
          refine G_ialdN F dX8_cyclesNow_39 rfl (by omega) (by decide) ?_
          rw [(hZ.2 x hx1).2.2.2.2]
          refine G_if_le (tgt := 52) F dX8_cyclesNow_40 (by decide) (fun h40 => ?_) (fun h40 => ?_)
          · have q40 : ¬ (0 : Int32) < nI (r_pd N hot al rw pos sz M x) := fun q => by
              have z : nI (r_pd N hot al rw pos sz M x) ≤ 0 := h40
              simp only [Int32.lt_iff_toInt_lt, Int32.le_iff_toInt_le] at q z
              omega
            refine G_iconst (v := 0) F dX8_cyclesNow_52 rfl ?_
            rw [← hx2]
            exact t53 0 (by simp only [pf_pn, hx2, nI_clamp (show x < 2 ^ 31 by omega), q40, decide_false, Bool.and_false]; simp)
          · have q40 : (0 : Int32) < nI (r_pd N hot al rw pos sz M x) := by
              have z : ¬ nI (r_pd N hot al rw pos sz M x) ≤ 0 := h40
              simp only [Int32.lt_iff_toInt_lt, Int32.le_iff_toInt_le] at z ⊢
              omega
            refine G_aload_n F dX8_cyclesNow_43 rfl ?_
            refine G_iload_n F dX8_cyclesNow_44 rfl ?_
            refine G_iload_n F dX8_cyclesNow_45 rfl ?_
            refine G_vI F mv_X8_277 dX8_cyclesNow_46 (t_through hl ad sw tl M1 (N := N) (b := i) (x := x) hL.1 hN16 hN1 hL.2.2.2.2.2.2.2.2.1 (by omega) hx1) rfl rfl rfl rfl (Nat.le_of_ble_eq_true rfl) ⟨Nat.le_of_ble_eq_true rfl, Nat.le_of_ble_eq_true rfl, Nat.le_of_ble_eq_true rfl, Nat.le_of_ble_eq_true rfl⟩ (fun r46 M46 h46 => ?_)
            rw [h46.1, h46.2, hf.1 40 (by decide), hf.1 41 (by decide), hf.1 44 (by decide), hf.1 45 (by decide)]
            refine G_goto (tgt := 53) F dX8_cyclesNow_49 (by decide) ?_
            have hm1 := nI_m1 (show x < 2 ^ 31 by omega)
            have q := t53 (pf_wt (M 40) (M 41) (M 44) (M 45) i (nI x)) (by simp only [pf_pn, hx2, nI_clamp (show x < 2 ^ 31 by omega), q40, decide_true]; simp [hm1])
            rw [hx2] at q
            exact q
  refine G_istore_n F 1 dX8_cyclesNow_12 rfl rfl rfl (Nat.le_of_ble_eq_true rfl) ?_
  simp only [List.set_cons_zero, List.set_cons_succ]
  refine G_iconst (v := nI 0) F dX8_cyclesNow_13 (by decide) ?_
  refine G_istore_n F 2 dX8_cyclesNow_14 rfl rfl rfl (Nat.le_of_ble_eq_true rfl) ?_
  simp only [List.set_cons_zero, List.set_cons_succ]
  have q := lp N 0 rfl (by omega)
  simp only [sm, Int32.add_zero] at q
  exact q
set_option maxRecDepth 20000 in
theorem t_cycles {l : Launch} {Z : fx_Z} (hl : l.stackTraces = false) (ad : Nat → Nat) (sw : Bool) (tl : List fx_Sh) (M : fx_M) {N : Nat} {hot al : Nat} {rw pos sz : Nat → Nat} (hH : v_H N hot al rw pos sz M) (hz : zw N (M 39) (M 44) (M 45)) : CI l Z yX8_cycles (.code yX8_cycles cX8_cycles 1 (some .int)) 5 [.ref (ad 37)] ad (c_C sw ++ (m_C ++ tl)) M (fun r m => r = r_cy N hot al rw pos sz M ∧ v_f (fx_u M 37 13 0) m) := by
  refine CT_of (ret := (some .int)) (lv0 := [some (.ref (ad 37))]) (by decide +kernel) hl (by simp [Value.category]) (Nat.le_of_ble_eq_true rfl) rfl ?_
  intro X F Rt _
  refine G_aload_n F dX8_cycles_0 rfl ?_
  refine G_iconst (v := 0) F dX8_cycles_1 rfl ?_
  refine G_puti F fl_X8_103 dX8_cycles_2 rfl rfl rfl rfl ?_
  refine G_aload_n F dX8_cycles_5 rfl ?_
  refine G_vI F mv_X8_280 dX8_cycles_6 (t_cyclesNow hl ad sw tl (fx_u M 37 13 0) (v_H_th hH) hz) rfl rfl rfl rfl (Nat.le_of_ble_eq_true rfl) ⟨Nat.le_of_ble_eq_true rfl, Nat.le_of_ble_eq_true rfl, Nat.le_of_ble_eq_true rfl, Nat.le_of_ble_eq_true rfl⟩ (fun r6 M6 h6 => ?_)
  rw [h6.1]
  refine G_iret F Rt dX8_cycles_9 (rfl) ⟨rfl, rfl, _, rfl, ?_⟩ (Nat.le_refl _) (Nat.le_refl _)
  exact ⟨rfl, h6.2.1⟩
