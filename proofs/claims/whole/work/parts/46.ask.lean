/-! BLOCKLAYOUT: calls that ask for the layout -/
theorem dd_nn {a b : Int32} (h : b ≠ 0) : vf_n64 (FP.ddiv (FP.i2d a) (FP.i2d b)) := by
  have hb := FP.Core.i2d_big (v := b) (fun q => h (Int32.toInt_inj.mp (q.trans (by decide))))
  have hm := FP.Core.ddiv_mag (a := FP.i2d a) (b := FP.i2d b) (K := 1056) (L := 1023) (FP.Core.i2d_mag a) hb.1 hb.2 (by decide) (by decide)
  unfold vf_n64
  rw [UInt64.le_iff_toNat_le, FP.Core.mask_toNat]
  have e : (0x7ff0000000000000 : UInt64).toNat = 2047 * 2 ^ 52 := by decide
  rw [e]
  have e2 : FP.ddiv (FP.i2d a) (FP.i2d b) = FP.Core.ddiv (FP.i2d a) (FP.i2d b) := rfl
  rw [e2]
  omega
/-- the layout is settled -/
def y_S (N hot al : Nat) (rw pos sz : Nat → Nat) (lim : Int32) (M m : fx_M) : Prop := fr [12, 13, 14, 15, 16, 17, 18, 19] M m ∧ ∃ T, (∀ t, t < T → y_W (M 3) (M 4) (M 5) N hot al rw pos (l_hd (M 1 9) (M 7) lim) sz t = true) ∧ y_W (M 3) (M 4) (M 5) N hot al rw pos (l_hd (M 1 9) (M 7) lim) sz T = false ∧ y_P (M 3) (M 4) (M 5) N hot al rw pos (l_hd (M 1 9) (M 7) lim) sz T m ∧ y_Q (M 3) (M 4) (M 5) N hot al rw pos (l_hd (M 1 9) (M 7) lim) sz T m
/-- a next block is a block -/
theorem l_nx_in {N hot : Nat} {rw pos : Nat → Nat} (hN : N ≤ 16) (hpm : pm N rw pos) {b : Nat} (hb : b < N) (h : l_nx N hot rw pos b ≠ -1) : ∃ x, x < N ∧ l_nx N hot rw pos b = nI x := by
  unfold l_nx at *
  by_cases e : pos b + 1 = N ∨ pos b + 1 = hot
  · rw [if_pos e] at h; exact absurd rfl h
  · rw [if_neg e]
    have := (hpm.2 b hb).1
    exact ⟨_, (hpm.1 (pos b + 1) (by omega)).1, rfl⟩
set_option maxRecDepth 20000 in
theorem s_place {l : Launch} {Z : fx_Z} (hl : l.stackTraces = false) (ad : Nat → Nat) (sw : Bool) (tl : List fx_Sh) (M : fx_M) {N : Nat} (b w : Int32) {hot al : Nat} {rw pos sz : Nat → Nat} (hH : y_H N hot rw pos sz M) (hal : M 10 2 = nI al) (ha : isAl al) (ha32 : al ≤ 32) : CA l Z yX7_place (.code yX7_place cX7_place 3 (some .int)) 4 [.ref (ad 0), .int b, .int w] ad (c_C sw ++ tl) M (fun r m => ∃ x, x < N ∧ b = nI x ∧ y_S N hot al rw pos sz (M 0 7) M m ∧ ((w = 0 ∧ r = m 13 x) ∨ (w = 1 ∧ r = m 18 x) ∨ (w = 2 ∧ r = m 19 x) ∨ (w = 3 ∧ r = if m 13 x < M 10 1 then 1 else 0))) (fun E m => m = M ∧ ((E = xIO ∧ pin N b = false) ∨ (E = xIA ∧ pin N b = true ∧ ¬ (0 ≤ w ∧ w ≤ 3)))) := by
  refine CT_of (ret := (some .int)) (lv0 := [some (.ref (ad 0)), some (.int b), some (.int w)]) (by decide +kernel) hl (by simp [Value.category]) (Nat.le_of_ble_eq_true rfl) rfl ?_
  intro X F Rt _
  have hN := hH.1
  have hN16 := hH.2.1
  refine G_aload_n F dX7_place_0 rfl ?_
  refine G_iload_n F dX7_place_1 rfl ?_
  refine G_qV F mv_X7_84 dX7_place_2 (s_checkBlock hl ad sw tl M b hN) rfl rfl rfl rfl (Nat.le_of_ble_eq_true rfl) ⟨Nat.le_of_ble_eq_true rfl, Nat.le_of_ble_eq_true rfl, Nat.le_of_ble_eq_true rfl, Nat.le_of_ble_eq_true rfl⟩ (fun E2 M2 x2 => GX_out F Rt ?_ (Nat.le_of_ble_eq_true rfl) (Nat.le_of_ble_eq_true rfl)) (fun v2 M2 h2 => ?_)
  · exact ⟨x2.2.1, Or.inl ⟨x2.1, x2.2.2⟩⟩
  rw [h2.1, h2.2.1]
  simp only [Option.toList_none, List.nil_append]
  have hp2 := h2.2.2
  obtain ⟨x, hx1, hx2⟩ := pin_spec hN16 hp2
  subst hx2
  refine G_iload_n F dX7_place_5 rfl ?_
  refine G_iconst (v := 3) F dX7_place_6 rfl ?_
  refine G_qS F ms_X7_209 dX7_place_7 (s_checkWhat hl ad _ M w 3) rfl rfl (Nat.le_of_ble_eq_true rfl) ⟨Nat.le_of_ble_eq_true rfl, Nat.le_of_ble_eq_true rfl, Nat.le_of_ble_eq_true rfl, Nat.le_of_ble_eq_true rfl⟩ (fun E7 M7 x7 => GX_out F Rt ?_ (Nat.le_of_ble_eq_true rfl) (Nat.le_of_ble_eq_true rfl)) (fun v7 M7 h7 => ?_)
  · exact ⟨x7.2.1, Or.inr ⟨x7.1, hp2, x7.2.2⟩⟩
  rw [h7.1, h7.2.1]
  simp only [Option.toList_none, List.nil_append]
  have hw := h7.2.2
  refine G_aload_n F dX7_place_10 rfl ?_
  refine G_getr F fl_X7_28 dX7_place_11 rfl rfl ?_
  refine G_aload_n F dX7_place_14 rfl ?_
  refine G_getr F fl_X7_19 dX7_place_15 rfl rfl ?_
  refine G_geti F fl_X7_140 dX7_place_18 rfl rfl ?_
  refine G_aload_n F dX7_place_21 rfl ?_
  refine G_geti F fl_X7_62 dX7_place_22 rfl rfl ?_
  rw [hal]
  refine G_vv F mv_X7_143 dX7_place_25 (s_settle hl ad sw tl M (al := al) (M 0 7) hH ha ha32) rfl rfl rfl rfl (Nat.le_of_ble_eq_true rfl) ⟨Nat.le_of_ble_eq_true rfl, Nat.le_of_ble_eq_true rfl, Nat.le_of_ble_eq_true rfl, Nat.le_of_ble_eq_true rfl⟩ (fun M25 h25 => ?_)
  have hS : y_S N hot al rw pos sz (M 0 7) M M25 := h25
  have hf := hS.1
  refine G_iload_n F dX7_place_28 rfl ?_
  by_cases c29_0 : w = 0
  · subst c29_0
    refine G_tableIn (tgt := 56) (off := 27) F dX7_place_29 (by decide) (by decide) (by decide) (by decide) ?_
    refine G_aload_n F dX7_place_56 rfl ?_
    refine G_getr F fl_X7_28 dX7_place_57 rfl rfl ?_
    refine G_getr F fl_X7_212 dX7_place_60 rfl rfl ?_
    refine G_iload_n F dX7_place_63 rfl ?_
    refine G_ialdN F dX7_place_64 rfl (by omega) (by decide) ?_
    refine G_iret F Rt dX7_place_65 (rfl) ⟨rfl, rfl, _, rfl, ?_⟩ (Nat.le_of_ble_eq_true rfl) (Nat.le_of_ble_eq_true rfl)
    exact ⟨x, hx1, rfl, hS, Or.inl ⟨rfl, rfl⟩⟩
  by_cases c29_1 : w = 1
  · subst c29_1
    refine G_tableIn (tgt := 66) (off := 37) F dX7_place_29 (by decide) (by decide) (by decide) (by decide) ?_
    refine G_aload_n F dX7_place_66 rfl ?_
    refine G_getr F fl_X7_28 dX7_place_67 rfl rfl ?_
    refine G_getr F fl_X7_215 dX7_place_70 rfl rfl ?_
    refine G_iload_n F dX7_place_73 rfl ?_
    refine G_ialdN F dX7_place_74 rfl (by omega) (by decide) ?_
    refine G_iret F Rt dX7_place_75 (rfl) ⟨rfl, rfl, _, rfl, ?_⟩ (Nat.le_of_ble_eq_true rfl) (Nat.le_of_ble_eq_true rfl)
    exact ⟨x, hx1, rfl, hS, Or.inr (Or.inl ⟨rfl, rfl⟩)⟩
  by_cases c29_2 : w = 2
  · subst c29_2
    refine G_tableIn (tgt := 76) (off := 47) F dX7_place_29 (by decide) (by decide) (by decide) (by decide) ?_
    refine G_aload_n F dX7_place_76 rfl ?_
    refine G_getr F fl_X7_28 dX7_place_77 rfl rfl ?_
    refine G_getr F fl_X7_218 dX7_place_80 rfl rfl ?_
    refine G_iload_n F dX7_place_83 rfl ?_
    refine G_ialdN F dX7_place_84 rfl (by omega) (by decide) ?_
    refine G_iret F Rt dX7_place_85 (rfl) ⟨rfl, rfl, _, rfl, ?_⟩ (Nat.le_of_ble_eq_true rfl) (Nat.le_of_ble_eq_true rfl)
    exact ⟨x, hx1, rfl, hS, Or.inr (Or.inr (Or.inl ⟨rfl, rfl⟩))⟩
  refine G_tableOut (tgt := 86) F dX7_place_29 (by
    have u0 : w.toInt ≠ 0 := fun q => c29_0 (Int32.toInt_inj.mp (q.trans (by decide)))
    have u1 : w.toInt ≠ 1 := fun q => c29_1 (Int32.toInt_inj.mp (q.trans (by decide)))
    have u2 : w.toInt ≠ 2 := fun q => c29_2 (Int32.toInt_inj.mp (q.trans (by decide)))
    omega) (by decide) ?_
  have hw3 : w = 3 := by
    have e0 : (0 : Int32).toInt = 0 := by decide
    have eg : (3 : Int32).toInt = 3 := by decide
    simp only [Int32.le_iff_toInt_le, e0, eg] at hw
    have u0 : w.toInt ≠ 0 := fun q => c29_0 (Int32.toInt_inj.mp (q.trans (by decide)))
    have u1 : w.toInt ≠ 1 := fun q => c29_1 (Int32.toInt_inj.mp (q.trans (by decide)))
    have u2 : w.toInt ≠ 2 := fun q => c29_2 (Int32.toInt_inj.mp (q.trans (by decide)))
    exact Int32.toInt_inj.mp (by rw [eg]; omega)
  subst hw3
  refine G_aload_n F dX7_place_86 rfl ?_
  refine G_getr F fl_X7_28 dX7_place_87 rfl rfl ?_
  refine G_getr F fl_X7_212 dX7_place_90 rfl rfl ?_
  refine G_iload_n F dX7_place_93 rfl ?_
  refine G_ialdN F dX7_place_94 rfl (by omega) (by decide) ?_
  refine G_aload_n F dX7_place_95 rfl ?_
  refine G_getr F fl_X7_19 dX7_place_96 rfl rfl ?_
  refine G_geti F fl_X7_192 dX7_place_99 rfl rfl ?_
  rw [hf 10 (by decide)]
  refine G_icmp_ge (tgt := 109) F dX7_place_102 (by decide) (fun h102 => ?_) (fun h102 => ?_)
  · have b102 : ¬ M25 13 x < M 10 1 := by
      simp only [Int32.lt_iff_toInt_lt, Int32.le_iff_toInt_le] at h102 ⊢
      omega
    refine G_iconst (v := 0) F dX7_place_109 rfl ?_
    refine G_iret F Rt dX7_place_110 (rfl) ⟨rfl, rfl, _, rfl, ?_⟩ (Nat.le_of_ble_eq_true rfl) (Nat.le_of_ble_eq_true rfl)
    exact ⟨x, hx1, rfl, hS, Or.inr (Or.inr (Or.inr ⟨rfl, by simp [b102]⟩))⟩
  · have b102 : M25 13 x < M 10 1 := by
      simp only [Int32.lt_iff_toInt_lt, Int32.le_iff_toInt_le] at h102 ⊢
      omega
    refine G_iconst (v := 1) F dX7_place_105 rfl ?_
    refine G_goto (tgt := 110) F dX7_place_106 (by decide) ?_
    refine G_iret F Rt dX7_place_110 (rfl) ⟨rfl, rfl, _, rfl, ?_⟩ (Nat.le_of_ble_eq_true rfl) (Nat.le_of_ble_eq_true rfl)
    exact ⟨x, hx1, rfl, hS, Or.inr (Or.inr (Or.inr ⟨rfl, by simp [b102]⟩))⟩
set_option maxRecDepth 20000 in
theorem s_end {l : Launch} {Z : fx_Z} (hl : l.stackTraces = false) (ad : Nat → Nat) (sw : Bool) (tl : List fx_Sh) (M : fx_M) {N : Nat} (b w : Int32) {hot al : Nat} {rw pos sz : Nat → Nat} (hH : y_H N hot rw pos sz M) (hal : M 10 2 = nI al) (ha : isAl al) (ha32 : al ≤ 32) : CA l Z yX7_end (.code yX7_end cX7_end 3 (some .int)) 4 [.ref (ad 0), .int b, .int w] ad (c_C sw ++ tl) M (fun r m => ∃ x, x < N ∧ b = nI x ∧ y_S N hot al rw pos sz (M 0 7) M m ∧ ((w = 0 ∧ r = m 15 x) ∨ (w = 1 ∧ r = (if m 15 x = 5 then 1 else m 16 x + m 17 x)) ∨ (w = 2 ∧ r = if m 16 x = 6 then 1 else 0) ∨ (w = 3 ∧ r = if m 17 x = 5 then 1 else 0))) (fun E m => m = M ∧ ((E = xIO ∧ pin N b = false) ∨ (E = xIA ∧ pin N b = true ∧ ¬ (0 ≤ w ∧ w ≤ 3)))) := by
  refine CT_of (ret := (some .int)) (lv0 := [some (.ref (ad 0)), some (.int b), some (.int w)]) (by decide +kernel) hl (by simp [Value.category]) (Nat.le_of_ble_eq_true rfl) rfl ?_
  intro X F Rt _
  have hN := hH.1
  have hN16 := hH.2.1
  refine G_aload_n F dX7_end_0 rfl ?_
  refine G_iload_n F dX7_end_1 rfl ?_
  refine G_qV F mv_X7_84 dX7_end_2 (s_checkBlock hl ad sw tl M b hN) rfl rfl rfl rfl (Nat.le_of_ble_eq_true rfl) ⟨Nat.le_of_ble_eq_true rfl, Nat.le_of_ble_eq_true rfl, Nat.le_of_ble_eq_true rfl, Nat.le_of_ble_eq_true rfl⟩ (fun E2 M2 x2 => GX_out F Rt ?_ (Nat.le_of_ble_eq_true rfl) (Nat.le_of_ble_eq_true rfl)) (fun v2 M2 h2 => ?_)
  · exact ⟨x2.2.1, Or.inl ⟨x2.1, x2.2.2⟩⟩
  rw [h2.1, h2.2.1]
  simp only [Option.toList_none, List.nil_append]
  have hp2 := h2.2.2
  obtain ⟨x, hx1, hx2⟩ := pin_spec hN16 hp2
  subst hx2
  refine G_iload_n F dX7_end_5 rfl ?_
  refine G_iconst (v := 3) F dX7_end_6 rfl ?_
  refine G_qS F ms_X7_209 dX7_end_7 (s_checkWhat hl ad _ M w 3) rfl rfl (Nat.le_of_ble_eq_true rfl) ⟨Nat.le_of_ble_eq_true rfl, Nat.le_of_ble_eq_true rfl, Nat.le_of_ble_eq_true rfl, Nat.le_of_ble_eq_true rfl⟩ (fun E7 M7 x7 => GX_out F Rt ?_ (Nat.le_of_ble_eq_true rfl) (Nat.le_of_ble_eq_true rfl)) (fun v7 M7 h7 => ?_)
  · exact ⟨x7.2.1, Or.inr ⟨x7.1, hp2, x7.2.2⟩⟩
  rw [h7.1, h7.2.1]
  simp only [Option.toList_none, List.nil_append]
  have hw := h7.2.2
  refine G_aload_n F dX7_end_10 rfl ?_
  refine G_getr F fl_X7_28 dX7_end_11 rfl rfl ?_
  refine G_aload_n F dX7_end_14 rfl ?_
  refine G_getr F fl_X7_19 dX7_end_15 rfl rfl ?_
  refine G_geti F fl_X7_140 dX7_end_18 rfl rfl ?_
  refine G_aload_n F dX7_end_21 rfl ?_
  refine G_geti F fl_X7_62 dX7_end_22 rfl rfl ?_
  rw [hal]
  refine G_vv F mv_X7_143 dX7_end_25 (s_settle hl ad sw tl M (al := al) (M 0 7) hH ha ha32) rfl rfl rfl rfl (Nat.le_of_ble_eq_true rfl) ⟨Nat.le_of_ble_eq_true rfl, Nat.le_of_ble_eq_true rfl, Nat.le_of_ble_eq_true rfl, Nat.le_of_ble_eq_true rfl⟩ (fun M25 h25 => ?_)
  have hS : y_S N hot al rw pos sz (M 0 7) M M25 := h25
  have hf := hS.1
  refine G_iload_n F dX7_end_28 rfl ?_
  by_cases c29_0 : w = 0
  · subst c29_0
    refine G_tableIn (tgt := 56) (off := 27) F dX7_end_29 (by decide) (by decide) (by decide) (by decide) ?_
    refine G_aload_n F dX7_end_56 rfl ?_
    refine G_getr F fl_X7_28 dX7_end_57 rfl rfl ?_
    refine G_getr F fl_X7_221 dX7_end_60 rfl rfl ?_
    refine G_iload_n F dX7_end_63 rfl ?_
    refine G_ialdN F dX7_end_64 rfl (by omega) (by decide) ?_
    refine G_iret F Rt dX7_end_65 (rfl) ⟨rfl, rfl, _, rfl, ?_⟩ (Nat.le_of_ble_eq_true rfl) (Nat.le_of_ble_eq_true rfl)
    exact ⟨x, hx1, rfl, hS, Or.inl ⟨rfl, rfl⟩⟩
  by_cases c29_1 : w = 1
  · subst c29_1
    refine G_tableIn (tgt := 66) (off := 37) F dX7_end_29 (by decide) (by decide) (by decide) (by decide) ?_
    refine G_aload_n F dX7_end_66 rfl ?_
    refine G_getr F fl_X7_28 dX7_end_67 rfl rfl ?_
    refine G_iload_n F dX7_end_70 rfl ?_
    refine G_vI F mv_X7_224 dX7_end_71 (s_bytesOfEnd hl ad sw tl M25 (b := x) (by omega)) rfl rfl rfl rfl (Nat.le_of_ble_eq_true rfl) ⟨Nat.le_of_ble_eq_true rfl, Nat.le_of_ble_eq_true rfl, Nat.le_of_ble_eq_true rfl, Nat.le_of_ble_eq_true rfl⟩ (fun r71 M71 h71 => ?_)
    rw [h71.1, h71.2]
    refine G_iret F Rt dX7_end_74 (rfl) ⟨rfl, rfl, _, rfl, ?_⟩ (Nat.le_of_ble_eq_true rfl) (Nat.le_of_ble_eq_true rfl)
    exact ⟨x, hx1, rfl, hS, Or.inr (Or.inl ⟨rfl, rfl⟩)⟩
  by_cases c29_2 : w = 2
  · subst c29_2
    refine G_tableIn (tgt := 75) (off := 46) F dX7_end_29 (by decide) (by decide) (by decide) (by decide) ?_
    refine G_aload_n F dX7_end_75 rfl ?_
    refine G_getr F fl_X7_28 dX7_end_76 rfl rfl ?_
    refine G_iload_n F dX7_end_79 rfl ?_
    refine G_vI F mv_X7_227 dX7_end_80 (s_isBranchLong hl ad sw tl M25 (b := x) (by omega)) rfl rfl rfl rfl (Nat.le_of_ble_eq_true rfl) ⟨Nat.le_of_ble_eq_true rfl, Nat.le_of_ble_eq_true rfl, Nat.le_of_ble_eq_true rfl, Nat.le_of_ble_eq_true rfl⟩ (fun r80 M80 h80 => ?_)
    rw [h80.1, h80.2]
    refine G_if_eq (tgt := 90) F dX7_end_83 (by decide) (fun h83 => ?_) (fun h83 => ?_)
    · have b83 : ¬ M25 16 x = 6 := by simpa using h83
      refine G_iconst (v := 0) F dX7_end_90 rfl ?_
      refine G_iret F Rt dX7_end_91 (rfl) ⟨rfl, rfl, _, rfl, ?_⟩ (Nat.le_of_ble_eq_true rfl) (Nat.le_of_ble_eq_true rfl)
      exact ⟨x, hx1, rfl, hS, Or.inr (Or.inr (Or.inl ⟨rfl, by simp [b83]⟩))⟩
    · have b83 : M25 16 x = 6 := by simpa using h83
      refine G_iconst (v := 1) F dX7_end_86 rfl ?_
      refine G_goto (tgt := 91) F dX7_end_87 (by decide) ?_
      refine G_iret F Rt dX7_end_91 (rfl) ⟨rfl, rfl, _, rfl, ?_⟩ (Nat.le_of_ble_eq_true rfl) (Nat.le_of_ble_eq_true rfl)
      exact ⟨x, hx1, rfl, hS, Or.inr (Or.inr (Or.inl ⟨rfl, by simp [b83]⟩))⟩
  refine G_tableOut (tgt := 92) F dX7_end_29 (by
    have u0 : w.toInt ≠ 0 := fun q => c29_0 (Int32.toInt_inj.mp (q.trans (by decide)))
    have u1 : w.toInt ≠ 1 := fun q => c29_1 (Int32.toInt_inj.mp (q.trans (by decide)))
    have u2 : w.toInt ≠ 2 := fun q => c29_2 (Int32.toInt_inj.mp (q.trans (by decide)))
    omega) (by decide) ?_
  have hw3 : w = 3 := by
    have e0 : (0 : Int32).toInt = 0 := by decide
    have eg : (3 : Int32).toInt = 3 := by decide
    simp only [Int32.le_iff_toInt_le, e0, eg] at hw
    have u0 : w.toInt ≠ 0 := fun q => c29_0 (Int32.toInt_inj.mp (q.trans (by decide)))
    have u1 : w.toInt ≠ 1 := fun q => c29_1 (Int32.toInt_inj.mp (q.trans (by decide)))
    have u2 : w.toInt ≠ 2 := fun q => c29_2 (Int32.toInt_inj.mp (q.trans (by decide)))
    exact Int32.toInt_inj.mp (by rw [eg]; omega)
  subst hw3
  refine G_aload_n F dX7_end_92 rfl ?_
  refine G_getr F fl_X7_28 dX7_end_93 rfl rfl ?_
  refine G_iload_n F dX7_end_96 rfl ?_
  refine G_vI F mv_X7_230 dX7_end_97 (s_isJumpLong hl ad sw tl M25 (b := x) (by omega)) rfl rfl rfl rfl (Nat.le_of_ble_eq_true rfl) ⟨Nat.le_of_ble_eq_true rfl, Nat.le_of_ble_eq_true rfl, Nat.le_of_ble_eq_true rfl, Nat.le_of_ble_eq_true rfl⟩ (fun r97 M97 h97 => ?_)
  rw [h97.1, h97.2]
  refine G_if_eq (tgt := 107) F dX7_end_100 (by decide) (fun h100 => ?_) (fun h100 => ?_)
  · have b100 : ¬ M25 17 x = 5 := by simpa using h100
    refine G_iconst (v := 0) F dX7_end_107 rfl ?_
    refine G_iret F Rt dX7_end_108 (rfl) ⟨rfl, rfl, _, rfl, ?_⟩ (Nat.le_of_ble_eq_true rfl) (Nat.le_of_ble_eq_true rfl)
    exact ⟨x, hx1, rfl, hS, Or.inr (Or.inr (Or.inr ⟨rfl, by simp [b100]⟩))⟩
  · have b100 : M25 17 x = 5 := by simpa using h100
    refine G_iconst (v := 1) F dX7_end_103 rfl ?_
    refine G_goto (tgt := 108) F dX7_end_104 (by decide) ?_
    refine G_iret F Rt dX7_end_108 (rfl) ⟨rfl, rfl, _, rfl, ?_⟩ (Nat.le_of_ble_eq_true rfl) (Nat.le_of_ble_eq_true rfl)
    exact ⟨x, hx1, rfl, hS, Or.inr (Or.inr (Or.inr ⟨rfl, by simp [b100]⟩))⟩
set_option maxRecDepth 20000 in
theorem s_layout {l : Launch} {Z : fx_Z} (hl : l.stackTraces = false) (ad : Nat → Nat) (sw : Bool) (tl : List fx_Sh) (M : fx_M) {N : Nat} (w : Int32) {hot al : Nat} {rw pos sz : Nat → Nat} (hH : y_H N hot rw pos sz M) (hal : M 10 2 = nI al) (ha : isAl al) (ha32 : al ≤ 32) : CA l Z yX7_layout (.code yX7_layout cX7_layout 2 (some .int)) 5 [.ref (ad 0), .int w] ad (c_C sw ++ tl) M (fun r m => y_S N hot al rw pos sz (M 0 7) M m ∧ ((w = 0 ∧ r = m 12 9) ∨ (w = 1 ∧ r = m 12 10) ∨ (w = 2 ∧ r = M 10 1) ∨ (w = 3 ∧ r = sm (m 19) N) ∨ (w = 4 ∧ r = sm (fun b => (if m 16 b = 6 then (1 : Int32) else 0) + (if m 17 b = 5 then 1 else 0)) N) ∨ (w = 5 ∧ r = sm (fun b => if m 13 b < nI N then pf_cc (M 3) (M 4) (M 5) (M 8) (M 9) b (m 14 b) else 0) N) ∨ (w = 6 ∧ r = sm (fun b => if m 15 b = 3 then (1 : Int32) else 0) N) ∨ (w = 7 ∧ r = M 10 2) ∨ (w = 8 ∧ r = M 0 7))) (fun E m => m = M ∧ E = xIA ∧ ¬ (0 ≤ w ∧ w ≤ 8)) := by
  refine CT_of (ret := (some .int)) (lv0 := [some (.ref (ad 0)), some (.int w)]) (by decide +kernel) hl (by simp [Value.category]) (Nat.le_of_ble_eq_true rfl) rfl ?_
  intro X F Rt _
  have hN := hH.1
  have hN16 := hH.2.1
  refine G_iload_n F dX7_layout_0 rfl ?_
  refine G_bipush (v := 8) F dX7_layout_1 rfl ?_
  refine G_qS F ms_X7_209 dX7_layout_3 (s_checkWhat hl ad _ M w 8) rfl rfl (Nat.le_of_ble_eq_true rfl) ⟨Nat.le_of_ble_eq_true rfl, Nat.le_of_ble_eq_true rfl, Nat.le_of_ble_eq_true rfl, Nat.le_of_ble_eq_true rfl⟩ (fun E3 M3 x3 => GX_out F Rt ?_ (Nat.le_of_ble_eq_true rfl) (Nat.le_of_ble_eq_true rfl)) (fun v3 M3 h3 => ?_)
  · exact ⟨x3.2.1, x3.1, x3.2.2⟩
  rw [h3.1, h3.2.1]
  simp only [Option.toList_none, List.nil_append]
  have hw := h3.2.2
  refine G_aload_n F dX7_layout_6 rfl ?_
  refine G_getr F fl_X7_28 dX7_layout_7 rfl rfl ?_
  refine G_aload_n F dX7_layout_10 rfl ?_
  refine G_getr F fl_X7_19 dX7_layout_11 rfl rfl ?_
  refine G_geti F fl_X7_140 dX7_layout_14 rfl rfl ?_
  refine G_aload_n F dX7_layout_17 rfl ?_
  refine G_geti F fl_X7_62 dX7_layout_18 rfl rfl ?_
  rw [hal]
  refine G_vv F mv_X7_143 dX7_layout_21 (s_settle hl ad sw tl M (al := al) (M 0 7) hH ha ha32) rfl rfl rfl rfl (Nat.le_of_ble_eq_true rfl) ⟨Nat.le_of_ble_eq_true rfl, Nat.le_of_ble_eq_true rfl, Nat.le_of_ble_eq_true rfl, Nat.le_of_ble_eq_true rfl⟩ (fun M21 h21 => ?_)
  have hS : y_S N hot al rw pos sz (M 0 7) M M21 := h21
  have hf := hS.1
  refine G_iload_n F dX7_layout_24 rfl ?_
  by_cases c25_0 : w = 0
  · subst c25_0
    refine G_tableIn (tgt := 72) (off := 47) F dX7_layout_25 (by decide) (by decide) (by decide) (by decide) ?_
    refine G_aload_n F dX7_layout_72 rfl ?_
    refine G_getr F fl_X7_28 dX7_layout_73 rfl rfl ?_
    refine G_geti F fl_X7_233 dX7_layout_76 rfl rfl ?_
    refine G_iret F Rt dX7_layout_79 (rfl) ⟨rfl, rfl, _, rfl, ?_⟩ (Nat.le_of_ble_eq_true rfl) (Nat.le_of_ble_eq_true rfl)
    exact ⟨hS, by simp⟩
  by_cases c25_1 : w = 1
  · subst c25_1
    refine G_tableIn (tgt := 80) (off := 55) F dX7_layout_25 (by decide) (by decide) (by decide) (by decide) ?_
    refine G_aload_n F dX7_layout_80 rfl ?_
    refine G_getr F fl_X7_28 dX7_layout_81 rfl rfl ?_
    refine G_geti F fl_X7_236 dX7_layout_84 rfl rfl ?_
    refine G_iret F Rt dX7_layout_87 (rfl) ⟨rfl, rfl, _, rfl, ?_⟩ (Nat.le_of_ble_eq_true rfl) (Nat.le_of_ble_eq_true rfl)
    exact ⟨hS, by simp⟩
  by_cases c25_2 : w = 2
  · subst c25_2
    refine G_tableIn (tgt := 88) (off := 63) F dX7_layout_25 (by decide) (by decide) (by decide) (by decide) ?_
    refine G_aload_n F dX7_layout_88 rfl ?_
    refine G_getr F fl_X7_19 dX7_layout_89 rfl rfl ?_
    refine G_geti F fl_X7_192 dX7_layout_92 rfl rfl ?_
    refine G_iret F Rt dX7_layout_95 (rfl) ⟨rfl, rfl, _, rfl, ?_⟩ (Nat.le_of_ble_eq_true rfl) (Nat.le_of_ble_eq_true rfl)
    exact ⟨hS, by simp [hf 10 (by decide)]⟩
  by_cases c25_3 : w = 3
  · subst c25_3
    refine G_tableIn (tgt := 96) (off := 71) F dX7_layout_25 (by decide) (by decide) (by decide) (by decide) ?_
    refine G_aload_n F dX7_layout_96 rfl ?_
    refine G_getr F fl_X7_28 dX7_layout_97 rfl rfl ?_
    refine G_vI F mv_X7_239 dX7_layout_100 (s_sumOfPadding hl ad sw tl M21 (N := N) (by rw [hf 1 (by decide)]; exact hN) hN16) rfl rfl rfl rfl (Nat.le_of_ble_eq_true rfl) ⟨Nat.le_of_ble_eq_true rfl, Nat.le_of_ble_eq_true rfl, Nat.le_of_ble_eq_true rfl, Nat.le_of_ble_eq_true rfl⟩ (fun r100 M100 h100 => ?_)
    rw [h100.1, h100.2]
    refine G_iret F Rt dX7_layout_103 (rfl) ⟨rfl, rfl, _, rfl, ?_⟩ (Nat.le_of_ble_eq_true rfl) (Nat.le_of_ble_eq_true rfl)
    exact ⟨hS, by simp⟩
  by_cases c25_4 : w = 4
  · subst c25_4
    refine G_tableIn (tgt := 104) (off := 79) F dX7_layout_25 (by decide) (by decide) (by decide) (by decide) ?_
    refine G_aload_n F dX7_layout_104 rfl ?_
    refine G_getr F fl_X7_28 dX7_layout_105 rfl rfl ?_
    refine G_vI F mv_X7_242 dX7_layout_108 (s_countOfLong hl ad sw tl M21 (N := N) (by rw [hf 1 (by decide)]; exact hN) hN16) rfl rfl rfl rfl (Nat.le_of_ble_eq_true rfl) ⟨Nat.le_of_ble_eq_true rfl, Nat.le_of_ble_eq_true rfl, Nat.le_of_ble_eq_true rfl, Nat.le_of_ble_eq_true rfl⟩ (fun r108 M108 h108 => ?_)
    rw [h108.1, h108.2]
    refine G_iret F Rt dX7_layout_111 (rfl) ⟨rfl, rfl, _, rfl, ?_⟩ (Nat.le_of_ble_eq_true rfl) (Nat.le_of_ble_eq_true rfl)
    exact ⟨hS, by simp⟩
  by_cases c25_5 : w = 5
  · subst c25_5
    refine G_tableIn (tgt := 112) (off := 87) F dX7_layout_25 (by decide) (by decide) (by decide) (by decide) ?_
    refine G_aload_n F dX7_layout_112 rfl ?_
    refine G_getr F fl_X7_28 dX7_layout_113 rfl rfl ?_
    refine G_aload_n F dX7_layout_116 rfl ?_
    refine G_getr F fl_X7_12 dX7_layout_117 rfl rfl ?_
    refine G_geti F fl_X7_78 dX7_layout_120 rfl rfl ?_
    rw [hf 1 (by decide), hN]
    refine G_vI F mv_X7_195 dX7_layout_123 (s_sumOfCosts hl ad sw tl M21 (N := N) (nI N) (by rw [hf 1 (by decide)]; exact hN) hN16) rfl rfl rfl rfl (Nat.le_of_ble_eq_true rfl) ⟨Nat.le_of_ble_eq_true rfl, Nat.le_of_ble_eq_true rfl, Nat.le_of_ble_eq_true rfl, Nat.le_of_ble_eq_true rfl⟩ (fun r123 M123 h123 => ?_)
    rw [h123.1, h123.2]
    rw [hf 3 (by decide), hf 4 (by decide), hf 5 (by decide), hf 8 (by decide), hf 9 (by decide)]
    refine G_iret F Rt dX7_layout_126 (rfl) ⟨rfl, rfl, _, rfl, ?_⟩ (Nat.le_of_ble_eq_true rfl) (Nat.le_of_ble_eq_true rfl)
    exact ⟨hS, by simp⟩
  by_cases c25_6 : w = 6
  · subst c25_6
    refine G_tableIn (tgt := 127) (off := 102) F dX7_layout_25 (by decide) (by decide) (by decide) (by decide) ?_
    refine G_aload_n F dX7_layout_127 rfl ?_
    refine G_getr F fl_X7_28 dX7_layout_128 rfl rfl ?_
    refine G_iconst (v := 3) F dX7_layout_131 rfl ?_
    refine G_vI F mv_X7_245 dX7_layout_132 (s_countOfForm hl ad sw tl M21 (N := N) 3 (by rw [hf 1 (by decide)]; exact hN) hN16) rfl rfl rfl rfl (Nat.le_of_ble_eq_true rfl) ⟨Nat.le_of_ble_eq_true rfl, Nat.le_of_ble_eq_true rfl, Nat.le_of_ble_eq_true rfl, Nat.le_of_ble_eq_true rfl⟩ (fun r132 M132 h132 => ?_)
    rw [h132.1, h132.2]
    refine G_iret F Rt dX7_layout_135 (rfl) ⟨rfl, rfl, _, rfl, ?_⟩ (Nat.le_of_ble_eq_true rfl) (Nat.le_of_ble_eq_true rfl)
    exact ⟨hS, by simp⟩
  by_cases c25_7 : w = 7
  · subst c25_7
    refine G_tableIn (tgt := 136) (off := 111) F dX7_layout_25 (by decide) (by decide) (by decide) (by decide) ?_
    refine G_aload_n F dX7_layout_136 rfl ?_
    refine G_getr F fl_X7_19 dX7_layout_137 rfl rfl ?_
    refine G_geti F fl_X7_140 dX7_layout_140 rfl rfl ?_
    refine G_iret F Rt dX7_layout_143 (rfl) ⟨rfl, rfl, _, rfl, ?_⟩ (Nat.le_of_ble_eq_true rfl) (Nat.le_of_ble_eq_true rfl)
    exact ⟨hS, by simp [hf 10 (by decide)]⟩
  refine G_tableOut (tgt := 144) F dX7_layout_25 (by
    have u0 : w.toInt ≠ 0 := fun q => c25_0 (Int32.toInt_inj.mp (q.trans (by decide)))
    have u1 : w.toInt ≠ 1 := fun q => c25_1 (Int32.toInt_inj.mp (q.trans (by decide)))
    have u2 : w.toInt ≠ 2 := fun q => c25_2 (Int32.toInt_inj.mp (q.trans (by decide)))
    have u3 : w.toInt ≠ 3 := fun q => c25_3 (Int32.toInt_inj.mp (q.trans (by decide)))
    have u4 : w.toInt ≠ 4 := fun q => c25_4 (Int32.toInt_inj.mp (q.trans (by decide)))
    have u5 : w.toInt ≠ 5 := fun q => c25_5 (Int32.toInt_inj.mp (q.trans (by decide)))
    have u6 : w.toInt ≠ 6 := fun q => c25_6 (Int32.toInt_inj.mp (q.trans (by decide)))
    have u7 : w.toInt ≠ 7 := fun q => c25_7 (Int32.toInt_inj.mp (q.trans (by decide)))
    omega) (by decide) ?_
  have hw3 : w = 8 := by
    have e0 : (0 : Int32).toInt = 0 := by decide
    have eg : (8 : Int32).toInt = 8 := by decide
    simp only [Int32.le_iff_toInt_le, e0, eg] at hw
    have u0 : w.toInt ≠ 0 := fun q => c25_0 (Int32.toInt_inj.mp (q.trans (by decide)))
    have u1 : w.toInt ≠ 1 := fun q => c25_1 (Int32.toInt_inj.mp (q.trans (by decide)))
    have u2 : w.toInt ≠ 2 := fun q => c25_2 (Int32.toInt_inj.mp (q.trans (by decide)))
    have u3 : w.toInt ≠ 3 := fun q => c25_3 (Int32.toInt_inj.mp (q.trans (by decide)))
    have u4 : w.toInt ≠ 4 := fun q => c25_4 (Int32.toInt_inj.mp (q.trans (by decide)))
    have u5 : w.toInt ≠ 5 := fun q => c25_5 (Int32.toInt_inj.mp (q.trans (by decide)))
    have u6 : w.toInt ≠ 6 := fun q => c25_6 (Int32.toInt_inj.mp (q.trans (by decide)))
    have u7 : w.toInt ≠ 7 := fun q => c25_7 (Int32.toInt_inj.mp (q.trans (by decide)))
    exact Int32.toInt_inj.mp (by rw [eg]; omega)
  subst hw3
  refine G_aload_n F dX7_layout_144 rfl ?_
  refine G_geti F fl_X7_62 dX7_layout_145 rfl rfl ?_
  refine G_iret F Rt dX7_layout_148 (rfl) ⟨rfl, rfl, _, rfl, ?_⟩ (Nat.le_of_ble_eq_true rfl) (Nat.le_of_ble_eq_true rfl)
  exact ⟨hS, by simp [hf 0 (by decide)]⟩
set_option maxRecDepth 20000 in
theorem s_cyclesAligned {l : Launch} {Z : fx_Z} (hl : l.stackTraces = false) (ad : Nat → Nat) (sw : Bool) (tl : List fx_Sh) (M : fx_M) {N : Nat} {hot al : Nat} {rw pos sz : Nat → Nat} (hH : y_H N hot rw pos sz M) (ha : isAl al) (ha32 : al ≤ 32) : CI l Z yX7_cyclesAligned (.code yX7_cyclesAligned cX7_cyclesAligned 2 (some .int)) 4 [.ref (ad 0), .int (nI al)] ad (c_C sw ++ tl) M (fun r m => y_S N hot al rw pos sz (M 0 7) M m ∧ r = sm (fun b => if m 13 b < nI N then pf_cc (M 3) (M 4) (M 5) (M 8) (M 9) b (m 14 b) else 0) N + sm (fun b => if pf_pn (m 14) (m 19) b then pf_wt (M 4) (M 5) (M 8) (M 9) b (m 14 b) else 0) N) := by
  refine CT_of (ret := (some .int)) (lv0 := [some (.ref (ad 0)), some (.int (nI al))]) (by decide +kernel) hl (by simp [Value.category]) (Nat.le_of_ble_eq_true rfl) rfl ?_
  intro X F Rt _
  have hN := hH.1
  have hN16 := hH.2.1
  refine G_aload_n F dX7_cyclesAligned_0 rfl ?_
  refine G_getr F fl_X7_28 dX7_cyclesAligned_1 rfl rfl ?_
  refine G_iload_n F dX7_cyclesAligned_4 rfl ?_
  refine G_aload_n F dX7_cyclesAligned_5 rfl ?_
  refine G_geti F fl_X7_62 dX7_cyclesAligned_6 rfl rfl ?_
  refine G_vv F mv_X7_143 dX7_cyclesAligned_9 (s_settle hl ad sw tl M (al := al) (M 0 7) hH ha ha32) rfl rfl rfl rfl (Nat.le_of_ble_eq_true rfl) ⟨Nat.le_of_ble_eq_true rfl, Nat.le_of_ble_eq_true rfl, Nat.le_of_ble_eq_true rfl, Nat.le_of_ble_eq_true rfl⟩ (fun M9 h9 => ?_)
  have hS : y_S N hot al rw pos sz (M 0 7) M M9 := h9
  have hf := hS.1
  refine G_aload_n F dX7_cyclesAligned_12 rfl ?_
  refine G_getr F fl_X7_28 dX7_cyclesAligned_13 rfl rfl ?_
  refine G_vI F mv_X7_317 dX7_cyclesAligned_16 (s_cyclesOfProfile hl ad sw tl M9 (N := N) (by rw [hf 1 (by decide)]; exact hN) hN16 (fun b hb hne => by
    obtain ⟨T, -, -, hP, -⟩ := hS.2
    rw [(hP b hb).2.1] at hne ⊢
    obtain ⟨x, x1, x2⟩ := l_nx_in hH.2.1 hH.2.2.2.2.2.1 hb hne
    rw [x2]
    exact vp_in_nI (by omega) (by decide))) rfl rfl rfl rfl (Nat.le_of_ble_eq_true rfl) ⟨Nat.le_of_ble_eq_true rfl, Nat.le_of_ble_eq_true rfl, Nat.le_of_ble_eq_true rfl, Nat.le_of_ble_eq_true rfl⟩ (fun r16 M16 h16 => ?_)
  rw [h16.1, h16.2, hf 3 (by decide), hf 4 (by decide), hf 5 (by decide), hf 8 (by decide), hf 9 (by decide)]
  refine G_iret F Rt dX7_cyclesAligned_19 (rfl) ⟨rfl, rfl, _, rfl, ?_⟩ (Nat.le_refl _) (Nat.le_refl _)
  exact ⟨hS, rfl⟩
set_option maxRecDepth 20000 in
theorem s_cycles {l : Launch} {Z : fx_Z} (hl : l.stackTraces = false) (ad : Nat → Nat) (sw : Bool) (tl : List fx_Sh) (M : fx_M) {N : Nat} {hot al : Nat} {rw pos sz : Nat → Nat} (hH : y_H N hot rw pos sz M) (hal : M 10 2 = nI al) (ha : isAl al) (ha32 : al ≤ 32) : CA l Z yX7_cycles (.code yX7_cycles cX7_cycles 1 (some .int)) 5 [.ref (ad 0)] ad (c_C sw ++ tl) M (fun r m => y_S N hot al rw pos sz (M 0 7) M m ∧ r = sm (fun b => if m 13 b < nI N then pf_cc (M 3) (M 4) (M 5) (M 8) (M 9) b (m 14 b) else 0) N + sm (fun b => if pf_pn (m 14) (m 19) b then pf_wt (M 4) (M 5) (M 8) (M 9) b (m 14 b) else 0) N) (fun E m => False) := by
  refine CT_of (ret := (some .int)) (lv0 := [some (.ref (ad 0))]) (by decide +kernel) hl (by simp [Value.category]) (Nat.le_of_ble_eq_true rfl) rfl ?_
  intro X F Rt _
  refine G_aload_n F dX7_cycles_0 rfl ?_
  refine G_aload_n F dX7_cycles_1 rfl ?_
  refine G_getr F fl_X7_19 dX7_cycles_2 rfl rfl ?_
  refine G_geti F fl_X7_140 dX7_cycles_5 rfl rfl ?_
  rw [hal]
  refine G_vI F mv_X7_248 dX7_cycles_8 (s_cyclesAligned hl ad sw tl M (al := al) hH ha ha32) rfl rfl rfl rfl (Nat.le_of_ble_eq_true rfl) ⟨Nat.le_of_ble_eq_true rfl, Nat.le_of_ble_eq_true rfl, Nat.le_of_ble_eq_true rfl, Nat.le_of_ble_eq_true rfl⟩ (fun r8 M8 h8 => ?_)
  skip
  refine G_iret F Rt dX7_cycles_11 (rfl) ⟨rfl, rfl, _, rfl, ?_⟩ (Nat.le_of_ble_eq_true rfl) (Nat.le_of_ble_eq_true rfl)
  exact h8
set_option maxRecDepth 20000 in
theorem s_meanCycles {l : Launch} {Z : fx_Z} (hl : l.stackTraces = false) (ad : Nat → Nat) (sw : Bool) (tl : List fx_Sh) (M : fx_M) {N : Nat} {hot al : Nat} {rw pos sz : Nat → Nat} (hH : y_H N hot rw pos sz M) (hal : M 10 2 = nI al) (ha : isAl al) (ha32 : al ≤ 32) : CQ l Z yX7_meanCycles (.code yX7_meanCycles cX7_meanCycles 2 (some .double)) 5 4 24 [.ref (ad 0)] ad (c_C sw ++ tl) M (fun v m => ∃ c : Int32, v = some (.double (fx_dd c (sm (M 7) N))) ∧ sm (M 7) N ≠ 0 ∧ y_S N hot al rw pos sz (M 0 7) M m ∧ c = sm (fun b => if m 13 b < nI N then pf_cc (M 3) (M 4) (M 5) (M 8) (M 9) b (m 14 b) else 0) N + sm (fun b => if pf_pn (m 14) (m 19) b then pf_wt (M 4) (M 5) (M 8) (M 9) b (m 14 b) else 0) N) (fun E m => m = M ∧ E = xAE ∧ sm (M 7) N = 0) := by
  refine CT_of (ret := (some .double)) (lv0 := [some (.ref (ad 0)), none]) (by decide +kernel) hl (by simp [Value.category]) (Nat.le_of_ble_eq_true rfl) rfl ?_
  intro X F Rt _
  have hN := hH.1
  have hN16 := hH.2.1
  refine G_aload_n F dX7_meanCycles_0 rfl ?_
  refine G_getr F fl_X7_12 dX7_meanCycles_1 rfl rfl ?_
  refine G_vI F mv_X7_159 dX7_meanCycles_4 (s_sumOfCounts hl ad sw tl M (N := N) hN hN16) rfl rfl rfl rfl (Nat.le_of_ble_eq_true rfl) ⟨Nat.le_of_ble_eq_true rfl, Nat.le_of_ble_eq_true rfl, Nat.le_of_ble_eq_true rfl, Nat.le_of_ble_eq_true rfl⟩ (fun r4 M4 h4 => ?_)
  rw [h4.1, h4.2]
  refine G_istore_n F 1 dX7_meanCycles_7 rfl rfl rfl (Nat.le_of_ble_eq_true rfl) ?_
  simp only [List.set_cons_zero, List.set_cons_succ]
  refine G_iload_n F dX7_meanCycles_8 rfl ?_
  refine G_if_ne (tgt := 22) F dX7_meanCycles_9 (by decide) (fun h9 => ?_) (fun h9 => ?_)
  · refine G_aload_n F dX7_meanCycles_22 rfl ?_
    refine G_aload_n F dX7_meanCycles_23 rfl ?_
    refine G_getr F fl_X7_19 dX7_meanCycles_24 rfl rfl ?_
    refine G_geti F fl_X7_140 dX7_meanCycles_27 rfl rfl ?_
    rw [hal]
    refine G_vI F mv_X7_248 dX7_meanCycles_30 (s_cyclesAligned hl ad sw tl M (al := al) hH ha ha32) rfl rfl rfl rfl (Nat.le_of_ble_eq_true rfl) ⟨Nat.le_of_ble_eq_true rfl, Nat.le_of_ble_eq_true rfl, Nat.le_of_ble_eq_true rfl, Nat.le_of_ble_eq_true rfl⟩ (fun r30 M30 h30 => ?_)
    skip
    refine G_i2d F dX7_meanCycles_33 ?_
    refine G_iload_n F dX7_meanCycles_34 rfl ?_
    refine G_i2d F dX7_meanCycles_35 ?_
    refine G_ddiv F dX7_meanCycles_36 (by exact dd_nn h9) ?_
    refine G_dret F Rt dX7_meanCycles_37 ⟨rfl, rfl, ?_⟩ (Nat.le_of_ble_eq_true rfl) (Nat.le_of_ble_eq_true rfl)
    exact ⟨r30, by simp [fx_dd, h9], h9, h30⟩
  · refine G_throwS F Rt (cls := "java/lang/ArithmeticException") (text := "no block was executed") nmsR dX7_meanCycles_12 dX7_meanCycles_15 dX7_meanCycles_16 dX7_meanCycles_18 dX7_meanCycles_21 fit_AE nmsR_fit (fx_in 830 (by decide +kernel) rfl) (fx_in 142 (by decide +kernel) rfl) (List.mem_of_getElem? (i := 18) rfl) at_AE ⟨Nat.le_of_ble_eq_true rfl, Nat.le_of_ble_eq_true rfl, Nat.le_of_ble_eq_true rfl, Nat.le_of_ble_eq_true rfl⟩ ?_ (Nat.le_of_ble_eq_true rfl) (Nat.le_of_ble_eq_true rfl)
    exact ⟨rfl, rfl, h9⟩
