/-! THE LAW: arrange, and its loop -/
set_option maxRecDepth 20000 in
theorem k_14 {X : fx_C} {l : Launch} {Z : fx_Z} {ad : Nat → Nat} {b n i c cx sx : Nat} {xs : Nat → Int32} {sw : Bool} {M : fx_M} (F : fx_F X l Z room_1 RL cL_law) (hl : l.stackTraces = false) (hs : fx_Scr X b n xs) (hn : n < 2 ^ 31) (hi : i + 4 < n) (hc : c ≤ 600) (hce : cx + 4 ≤ 603072) (hsl : sx + 24 ≤ 7202922) (hI : Iv c sw M) (hE : Eqs M) (next : ∀ (s1 : Bool) (M2 : fx_M), Iv (c + 1) s1 M2 → GG X ad 1627 [some (.ref b), some (.ref (ad 0)), some (.ref (ad 37)), some (.ref (ad 64)), some (.ref (ad 65)), some (.int (nI i)), none, none, none] [] (cx + 4) (sx + 24) (w_S s1) M2) : GG X ad 938 [some (.ref b), some (.ref (ad 0)), some (.ref (ad 37)), some (.ref (ad 64)), some (.ref (ad 65)), some (.int (nI i)), none, none, none] [] cx sx (w_S sw) M := by
  obtain ⟨N, sz, hP, ⟨hot, al, rw, pos, hL⟩, ⟨sl, kp, hH⟩, ⟨len, hT⟩, ⟨np, hQ⟩, hlim⟩ := id hI
  obtain ⟨e38, e39, e40, e41, e42, e43, e44, e45, e46⟩ := id hE
  have hN16 := hP.2.2.1
  have hN1 := hP.2.1
  refine G_aload_n F dL_law_938 rfl ?_
  refine G_aload_n F dL_law_939 rfl ?_
  refine G_iload F dL_law_940 rfl ?_
  refine G_iconst (v := nI 1) F dL_law_942 (by decide) ?_
  refine G_iadd F dL_law_943 ?_
  rw [nI_add]
  refine G_sld F hs dL_law_944 (by omega) hn ?_
  refine G_aload_n F dL_law_945 rfl ?_
  refine G_iload F dL_law_946 rfl ?_
  refine G_iconst (v := nI 2) F dL_law_948 (by decide) ?_
  refine G_iadd F dL_law_949 ?_
  rw [nI_add]
  refine G_sld F hs dL_law_950 (by omega) hn ?_
  refine G_aload_n F dL_law_951 rfl ?_
  refine G_callX F mx_L_152 dL_law_952 (w_arrange hl ad ((xs (i + 1))) ((xs (i + 2))) (by decide) (s_arrange2 hl ad sw (m_C ++ o_C) M (N := N) (xs (i + 1)) (xs (i + 2)) hP.1 hN16 hH.1 hH.2.1 hH.2.2.1 hH.2.2.2.1 hN1 (fun hno r h => mkp_pm hN16 hN1 rfl (wbd_of hc hP) hno h)) (fun E m h => h.imp (fun q => q.1) (fun q => q.1))) (As := [.ref (ad 0), .int (xs (i + 1)), .int (xs (i + 2)), .ref (ad 64)]) rfl rfl (Nat.le_of_ble_eq_true rfl) ⟨Nat.le_of_ble_eq_true rfl, Nat.le_of_ble_eq_true rfl, by show cx + 4 ≤ 603072; omega, by show sx + 24 ≤ 7202922; omega⟩ (fun _ _ q => q.elim) (fun v1 a1 S1 M1 h1 => ?_)
  obtain ⟨ea, k, s1, rfl, rfl, q1⟩ := h1
  subst ea
  have hq : ∀ a, 37 ≤ a → a < 64 → M1 a = M a := by
    rcases q1 with ⟨-, -, r, m0, ⟨-, -, f1, -⟩, rfl⟩ | ⟨-, -, z⟩ | ⟨-, -, z⟩
    · intro a h1 h2
      rw [fx_u_ne (by omega)]; exact f1 a (by simp only [List.mem_cons, List.not_mem_nil, or_false]; omega)
    · intro a h1 h2
      rcases z with ⟨-, e, -⟩ | ⟨q, -⟩
      · rw [e]
      · exact absurd q x4
    · intro a h1 h2
      rcases z with ⟨q, -⟩ | ⟨-, -, -, -, f1⟩
      · exact absurd q.symm x4
      · exact f1 a (by simp only [List.mem_cons, List.not_mem_nil, or_false]; omega)
  skip
  refine G_istore F dL_law_955 rfl rfl (Nat.le_of_ble_eq_true rfl) ?_
  simp only [List.set_cons_zero, List.set_cons_succ]
  refine G_aload_n F dL_law_957 rfl ?_
  refine G_aload_n F dL_law_958 rfl ?_
  refine G_iload F dL_law_959 rfl ?_
  refine G_iconst (v := nI 1) F dL_law_961 (by decide) ?_
  refine G_iadd F dL_law_962 ?_
  rw [nI_add]
  refine G_sld F hs dL_law_963 (by omega) hn ?_
  refine G_aload_n F dL_law_964 rfl ?_
  refine G_iload F dL_law_965 rfl ?_
  refine G_iconst (v := nI 2) F dL_law_967 (by decide) ?_
  refine G_iadd F dL_law_968 ?_
  rw [nI_add]
  refine G_sld F hs dL_law_969 (by omega) hn ?_
  refine G_vI F (k := 37) mv_L_154 dL_law_970 (t_arrange hl _ s1 o_C M1 (N := N) (u := kp) (xs (i + 1)) (xs (i + 2)) (n0_of hP hq) hN16 hN1 (pv_of hP hE hq) (zw_of hP hE hq) (by rw [hq 44 (by omega) (by omega), hq 45 (by omega) (by omega), e44, e45]; exact wbd_of hc hP) (by rw [hq 37 (by omega) (by omega), hH.2.2.2.2.1]; exact hH.2.2.1) hH.2.2.2.1) (As := [.int (xs (i + 1)), .int (xs (i + 2))]) rfl rfl rfl rfl (Nat.le_of_ble_eq_true rfl) ⟨Nat.le_of_ble_eq_true rfl, Nat.le_of_ble_eq_true rfl, by show cx + 4 ≤ 603072; omega, by show sx + 24 ≤ 7202922; omega⟩ (fun r2 M2 h2 => ?_)
  refine G_istore F dL_law_973 rfl rfl (Nat.le_of_ble_eq_true rfl) ?_
  simp only [List.set_cons_zero, List.set_cons_succ]
  refine G_aload_n F dL_law_975 rfl ?_
  refine G_vI F (k := 37) mv_L_106 dL_law_976 (t_thrown hl _ s1 o_C M2) (As := []) rfl rfl rfl rfl (Nat.le_of_ble_eq_true rfl) ⟨Nat.le_of_ble_eq_true rfl, Nat.le_of_ble_eq_true rfl, by show cx + 4 ≤ 603072; omega, by show sx + 24 ≤ 7202922; omega⟩ (fun r3 M3 h3 => ?_)
  rw [h3.1, h3.2]
  have key : M2 37 13 = k ∧ (k = 0 → M2 64 0 = r2) ∧ Iv (c + 1) s1 M2 := by
    have t39 : M1 39 = M 3 := (hq 39 (by omega) (by omega)).trans e39
    have t40 : M1 40 = M 4 := (hq 40 (by omega) (by omega)).trans e40
    have t41 : M1 41 = M 5 := (hq 41 (by omega) (by omega)).trans e41
    have t43 : M1 43 = M 7 := (hq 43 (by omega) (by omega)).trans e43
    have t44 : M1 44 = M 8 := (hq 44 (by omega) (by omega)).trans e44
    have t45 : M1 45 = M 9 := (hq 45 (by omega) (by omega)).trans e45
    have t46 : M1 46 = M 11 := (hq 46 (by omega) (by omega)).trans e46
    rw [t39, t40, t41, t43, t44, t45, t46] at h2
    rcases q1 with ⟨rfl, rfl, r, m0, ⟨hr, hno, f1, f2, f3, ⟨r0, f4, f5⟩, rw1, pos1, f6, f7, rfl⟩, rfl⟩ | ⟨rfl, rfl, z⟩ | ⟨rfl, rfl, z⟩
    · rcases h2 with ⟨hn, -⟩ | ⟨-, em, h7, -⟩ | ⟨-, -, g1, g2, g13, g3, gk, ⟨r0', g4, g5⟩, rw2, pos2, g6, g7, rfl⟩
      · exact absurd hr hn
      · exact absurd ⟨em, h7⟩ hno
      · have er := mkp_one hN16 hN1 f4 g4
        subst er
        have hrow : M2 46 = m0 11 := by rw [g5, f5]
        have cc : ∀ a, a < 37 → M2 a = m0 a := fun a ha => (g1 a (by simp only [List.mem_cons, List.not_mem_nil, or_false]; omega)).trans (fx_u_ne (by omega))
        have ck : ∀ a, (a < 37 ∧ a ≠ 10 ∧ a ≠ 11 ∧ (a < 13 ∨ 18 ≤ a) ∧ (a < 20 ∨ 27 ≤ a) ∧ (a < 31 ∨ 35 ≤ a)) → M2 a = M a := fun a h => (cc a h.1).trans (f1 a (by simp only [List.mem_cons, List.not_mem_nil, or_false]; omega))
        have cr : ∀ a, (37 < a ∧ a < 64 ∧ a ≠ 46 ∧ (a < 56 ∨ 63 ≤ a)) → M2 a = M a := fun a h => (g1 a (by simp only [List.mem_cons, List.not_mem_nil, or_false]; omega)).trans (hq a (by omega) (by omega))
        have c37 : ∀ j, (j ≠ 3 ∧ j ≠ 13 ∧ j ≠ 27 ∧ j ≠ 33 ∧ j ≠ 34 ∧ j ≠ 37) → M2 37 j = M 37 j := fun j h => (g2 j h.1 h.2.1 h.2.2.1 h.2.2.2.1 h.2.2.2.2.1 h.2.2.2.2.2).trans (congrFun (hq 37 (by omega) (by omega)) j)
        have hH1 : 1 ≤ (hcn (hob (M 7) (xs (i + 2))) N) := by have := hcn_slt (ho := (hob (M 7) (xs (i + 2)))) hN1 rfl; omega
        refine ⟨g13, fun _ => ?_, ?_⟩
        · rw [g1 64 (by decide), fx_u_at, if_pos ⟨rfl, rfl⟩]
          have hpo := pm_one (hot := (hcn (hob (M 7) (xs (i + 2))) N)) hN16 f6 g6 (fun j hj => by rw [← f7 j hj, ← g7 j hj, hrow])
          exact sm_congr (fun b hb => by rw [(hpo b hb).1, (hpo b hb).2])
        · have hsy := Hsy_rem (m := M2) hH hL hN16 ⟨by rw [cc 31 (by omega)]; exact f2.1, by rw [cc 31 (by omega)]; exact f2.2.1, fun j => by rw [cc 32 (by omega)]; exact f2.2.2.1 j, by rw [cc 33 (by omega)]; exact f2.2.2.2.1, by rw [cc 34 (by omega)]; exact f2.2.2.2.2⟩ (v_kr_of gk (hq 46 (by omega) (by omega)) (hq 56 (by omega) (by omega)) (hq 57 (by omega) (by omega)) (hq 58 (by omega) (by omega)) (congrFun (hq 37 (by omega) (by omega)) 3) (congrFun (hq 37 (by omega) (by omega)) 1) rfl rfl rfl rfl)
          have h101 : M2 10 1 = nI (hcn (hob (M 7) (xs (i + 2))) N) := by rw [cc 10 (by omega), f3, upd_eq]
          have h102 : M2 10 2 = M 10 2 := by rw [cc 10 (by omega), f3, upd_ne (by decide)]
          exact ⟨N, sz, hP.keep (Nat.le_succ c) (fun a h1 h2 => ck a (by omega)) (fun a h1 h2 => cr a (by omega)) (c37 0 (by omega)), ⟨(hcn (hob (M 7) (xs (i + 2))) N), al, rw1, pos1, h101, hH1, hcn_le N, by rw [h102]; exact hL.2.2.2.1, hL.2.2.2.2.1, hL.2.2.2.2.2.1, f6, fun j hj => by rw [cc 11 (by omega)]; exact f7 j hj, by rw [g3, h101], by rw [c37 1 (by omega), h102]; exact hL.2.2.2.2.2.2.2.2.2.1, fun j hj => by rw [hrow, cc 11 (by omega)]⟩, ⟨_, _, hsy⟩, ⟨len, hT.keep (ck 35 (by omega)) (ck 36 (by omega)) (cr 63 (by omega)) (c37 39 (by omega))⟩, ⟨np, hQ.keep (ck 27 (by omega)) (ck 28 (by omega)) (ck 29 (by omega)) (cr 47 (by omega)) (c37 17 (by omega))⟩, by rw [c37 2 (by omega), ck 0 (by omega)]; exact hlim⟩
    · rcases z with ⟨-, em, hn⟩ | ⟨q, -⟩
      · rcases h2 with ⟨-, rfl⟩ | ⟨hr, -⟩ | ⟨hr, -⟩
        · rw [em]; exact ⟨by rw [fx_u_at, if_pos ⟨rfl, rfl⟩], fun z => absurd z (by decide), hI.keep (Nat.le_succ c) (fun a h => fx_u_ne (by omega)) (fun j h => by rw [fx_u_at, if_neg (by omega)])⟩
        · exact absurd hr hn
        · exact absurd hr hn
      · exact absurd q x4
    · rcases z with ⟨q, -⟩ | ⟨-, hr, em, h7, f1⟩
      · exact absurd q.symm x4
      · rcases h2 with ⟨hn, -⟩ | ⟨-, -, -, g1, g2, g13⟩ | ⟨-, hno, -⟩
        · exact absurd hr hn
        · refine ⟨g13, fun z => absurd z (by decide), hI.keep (Nat.le_succ c) (fun a h => ?_) (fun j h => ?_)⟩
          · rw [g1 a (by simp only [List.mem_cons, List.not_mem_nil, or_false]; omega)]
            by_cases ha : a < 37
            · exact f1 a (by simp only [List.mem_cons, List.not_mem_nil, or_false]; omega)
            · exact hq a (by omega) (by omega)
          · rw [g2 j (by omega) (by omega) (by omega)]; exact congrFun (hq 37 (by omega) (by omega)) j
        · exact absurd ⟨em, h7⟩ hno
  refine G_iload F dL_law_979 rfl ?_
  refine G_icmp_eq (tgt := 986) F dL_law_981 (by decide) (fun g1 => ?_) (fun g1 => absurd key.1 g1)
  refine G_iload F dL_law_986 rfl ?_
  refine G_if_ne (tgt := 1003) F dL_law_988 (by decide) (fun g2 => ?_) (fun g2 => ?_)
  · refine G_goto (tgt := 1627) F dL_law_1003 (by decide) ?_
    refine G_drop F 6 ?_
    refine G_drop F 7 ?_
    simp only [List.set_cons_zero, List.set_cons_succ]
    exact next s1 M2 key.2.2
  · refine G_aload_n F dL_law_991 rfl ?_
    refine G_iconst (v := 0) F dL_law_992 rfl ?_
    refine G_lald F dL_law_993 (k := 64) rfl vp_in01 ?_
    rw [show M2 64 (Int32.toNatClampNeg 0) = r2 from key.2.1 g2]
    refine G_iload F dL_law_994 rfl ?_
    refine G_i2l F dL_law_996 ?_
    refine G_lcmp F dL_law_997 ?_
    rw [lg_cmp_rfl]
    refine G_if_eq (tgt := 1003) F dL_law_998 (by decide) (fun _ => ?_) (fun g3 => absurd rfl g3)
    refine G_goto (tgt := 1627) F dL_law_1003 (by decide) ?_
    refine G_drop F 6 ?_
    refine G_drop F 7 ?_
    simp only [List.set_cons_zero, List.set_cons_succ]
    exact next s1 M2 key.2.2
set_option maxRecDepth 20000 in
/-- one call of the script, whichever it is -/
theorem law_step {X : fx_C} {l : Launch} {Z : fx_Z} {ad : Nat → Nat} {b n i c cx sx : Nat} {xs : Nat → Int32} {sw : Bool} {M : fx_M} (F : fx_F X l Z room_1 RL cL_law) (hl : l.stackTraces = false) (hs : fx_Scr X b n xs) (hn : n ≤ 2560) (hi : i + 4 < n) (hc : c ≤ 600) (hce : cx + 4 ≤ 603072) (hsl : sx + 24 ≤ 7202922) (hI : Iv c sw M) (next : ∀ (s1 : Bool) (M2 : fx_M), Iv (c + 1) s1 M2 → GG X ad 1627 [some (.ref b), some (.ref (ad 0)), some (.ref (ad 37)), some (.ref (ad 64)), some (.ref (ad 65)), some (.int (nI i)), none, none, none] [] (cx + 4) (sx + 24) (w_S s1) M2) : GG X ad 44 [some (.ref b), some (.ref (ad 0)), some (.ref (ad 37)), some (.ref (ad 64)), some (.ref (ad 65)), some (.int (nI i)), none, none, none] [.int (xs i &&& 31)] cx sx (w_S sw) M := by
  refine G_cong F (nrm_G hI) ?_
  have hI' := Iv_nrm hI
  have hE := nrm_Eqs M
  generalize nrm M = M' at hI' hE ⊢
  by_cases c0 : xs i &&& 31 = 0
  · rw [c0]
    refine G_tableIn (tgt := 168) (off := 124) F dL_law_44 (by decide) (by decide) (by decide) (by decide) ?_
    exact k_0 F hl hs (by omega) (by omega) (by omega) (by omega) (by omega) hI' hE next
  by_cases c1 : xs i &&& 31 = 1
  · rw [c1]
    refine G_tableIn (tgt := 224) (off := 180) F dL_law_44 (by decide) (by decide) (by decide) (by decide) ?_
    exact k_1 F hl hs (by omega) (by omega) (by omega) (by omega) (by omega) hI' hE next
  by_cases c2 : xs i &&& 31 = 2
  · rw [c2]
    refine G_tableIn (tgt := 292) (off := 248) F dL_law_44 (by decide) (by decide) (by decide) (by decide) ?_
    exact k_2 F hl hs (by omega) (by omega) (by omega) (by omega) (by omega) hI' hE next
  by_cases c3 : xs i &&& 31 = 3
  · rw [c3]
    refine G_tableIn (tgt := 360) (off := 316) F dL_law_44 (by decide) (by decide) (by decide) (by decide) ?_
    exact k_3 F hl hs (by omega) (by omega) (by omega) (by omega) (by omega) hI' hE next
  by_cases c4 : xs i &&& 31 = 4
  · rw [c4]
    refine G_tableIn (tgt := 452) (off := 408) F dL_law_44 (by decide) (by decide) (by decide) (by decide) ?_
    exact k_4 F hl hs (by omega) (by omega) (by omega) (by omega) (by omega) hI' hE next
  by_cases c5 : xs i &&& 31 = 5
  · rw [c5]
    refine G_tableIn (tgt := 508) (off := 464) F dL_law_44 (by decide) (by decide) (by decide) (by decide) ?_
    exact k_5 F hl hs (by omega) (by omega) (by omega) (by omega) (by omega) hI' hE next
  by_cases c6 : xs i &&& 31 = 6
  · rw [c6]
    refine G_tableIn (tgt := 564) (off := 520) F dL_law_44 (by decide) (by decide) (by decide) (by decide) ?_
    exact k_6 F hl hs (by omega) (by omega) (by omega) (by omega) (by omega) hI' hE next
  by_cases c7 : xs i &&& 31 = 7
  · rw [c7]
    refine G_tableIn (tgt := 632) (off := 588) F dL_law_44 (by decide) (by decide) (by decide) (by decide) ?_
    exact k_7 F hl hs (by omega) (by omega) (by omega) (by omega) (by omega) hI' hE next
  by_cases c8 : xs i &&& 31 = 8
  · rw [c8]
    refine G_tableIn (tgt := 688) (off := 644) F dL_law_44 (by decide) (by decide) (by decide) (by decide) ?_
    exact k_8 F hl hs (by omega) (by omega) (by omega) (by omega) (by omega) hI' hE next
  by_cases c9 : xs i &&& 31 = 9
  · rw [c9]
    refine G_tableIn (tgt := 744) (off := 700) F dL_law_44 (by decide) (by decide) (by decide) (by decide) ?_
    exact k_9 F hl hs (by omega) (by omega) (by omega) (by omega) (by omega) hI' hE next
  by_cases c10 : xs i &&& 31 = 10
  · rw [c10]
    refine G_tableIn (tgt := 757) (off := 713) F dL_law_44 (by decide) (by decide) (by decide) (by decide) ?_
    exact k_10 F hl hs (by omega) (by omega) (by omega) (by omega) (by omega) hI' hE next
  by_cases c11 : xs i &&& 31 = 11
  · rw [c11]
    refine G_tableIn (tgt := 813) (off := 769) F dL_law_44 (by decide) (by decide) (by decide) (by decide) ?_
    exact k_11 F hl hs (by omega) (by omega) (by omega) (by omega) (by omega) hI' hE next
  by_cases c12 : xs i &&& 31 = 12
  · rw [c12]
    refine G_tableIn (tgt := 826) (off := 782) F dL_law_44 (by decide) (by decide) (by decide) (by decide) ?_
    exact k_12 F hl hs (by omega) (by omega) (by omega) (by omega) (by omega) hI' hE next
  by_cases c13 : xs i &&& 31 = 13
  · rw [c13]
    refine G_tableIn (tgt := 882) (off := 838) F dL_law_44 (by decide) (by decide) (by decide) (by decide) ?_
    exact k_13 F hl hs (by omega) (by omega) (by omega) (by omega) (by omega) hI' hE next
  by_cases c14 : xs i &&& 31 = 14
  · rw [c14]
    refine G_tableIn (tgt := 938) (off := 894) F dL_law_44 (by decide) (by decide) (by decide) (by decide) ?_
    exact k_14 F hl hs (by omega) (by omega) (by omega) (by omega) (by omega) hI' hE next
  by_cases c15 : xs i &&& 31 = 15
  · rw [c15]
    refine G_tableIn (tgt := 1006) (off := 962) F dL_law_44 (by decide) (by decide) (by decide) (by decide) ?_
    exact k_15 F hl hs (by omega) (by omega) (by omega) (by omega) (by omega) hI' hE next
  by_cases c16 : xs i &&& 31 = 16
  · rw [c16]
    refine G_tableIn (tgt := 1074) (off := 1030) F dL_law_44 (by decide) (by decide) (by decide) (by decide) ?_
    exact k_16 F hl hs (by omega) (by omega) (by omega) (by omega) (by omega) hI' hE next
  by_cases c17 : xs i &&& 31 = 17
  · rw [c17]
    refine G_tableIn (tgt := 1130) (off := 1086) F dL_law_44 (by decide) (by decide) (by decide) (by decide) ?_
    exact k_17 F hl hs (by omega) (by omega) (by omega) (by omega) (by omega) hI' hE next
  by_cases c18 : xs i &&& 31 = 18
  · rw [c18]
    refine G_tableIn (tgt := 1186) (off := 1142) F dL_law_44 (by decide) (by decide) (by decide) (by decide) ?_
    exact k_18 F hl hs (by omega) (by omega) (by omega) (by omega) (by omega) hI' hE next
  by_cases c19 : xs i &&& 31 = 19
  · rw [c19]
    refine G_tableIn (tgt := 1254) (off := 1210) F dL_law_44 (by decide) (by decide) (by decide) (by decide) ?_
    exact k_19 F hl hs (by omega) (by omega) (by omega) (by omega) (by omega) hI' hE next
  by_cases c20 : xs i &&& 31 = 20
  · rw [c20]
    refine G_tableIn (tgt := 1322) (off := 1278) F dL_law_44 (by decide) (by decide) (by decide) (by decide) ?_
    exact k_20 F hl hs (by omega) (by omega) (by omega) (by omega) (by omega) hI' hE next
  by_cases c21 : xs i &&& 31 = 21
  · rw [c21]
    refine G_tableIn (tgt := 1378) (off := 1334) F dL_law_44 (by decide) (by decide) (by decide) (by decide) ?_
    exact k_21 F hl hs (by omega) (by omega) (by omega) (by omega) (by omega) hI' hE next
  by_cases c22 : xs i &&& 31 = 22
  · rw [c22]
    refine G_tableIn (tgt := 1391) (off := 1347) F dL_law_44 (by decide) (by decide) (by decide) (by decide) ?_
    exact k_22 F hl hs (by omega) (by omega) (by omega) (by omega) (by omega) hI' hE next
  by_cases c23 : xs i &&& 31 = 23
  · rw [c23]
    refine G_tableIn (tgt := 1456) (off := 1412) F dL_law_44 (by decide) (by decide) (by decide) (by decide) ?_
    exact k_23 F hl hs (by omega) (by omega) (by omega) (by omega) (by omega) hI' hE next
  by_cases c24 : xs i &&& 31 = 24
  · rw [c24]
    refine G_tableIn (tgt := 1469) (off := 1425) F dL_law_44 (by decide) (by decide) (by decide) (by decide) ?_
    exact k_24 F hl hs (by omega) (by omega) (by omega) (by omega) (by omega) hI' hE next
  by_cases c25 : xs i &&& 31 = 25
  · rw [c25]
    refine G_tableIn (tgt := 1527) (off := 1483) F dL_law_44 (by decide) (by decide) (by decide) (by decide) ?_
    exact k_25 F hl hs (by omega) (by omega) (by omega) (by omega) (by omega) hI' hE next
  by_cases c26 : xs i &&& 31 = 26
  · rw [c26]
    refine G_tableIn (tgt := 1583) (off := 1539) F dL_law_44 (by decide) (by decide) (by decide) (by decide) ?_
    exact k_26 F hl hs (by omega) (by omega) (by omega) (by omega) (by omega) hI' hE next
  refine G_tableOut (tgt := 1627) F dL_law_44 (by
    have u0 : (xs i &&& 31).toInt ≠ 0 := fun q => c0 (Int32.toInt_inj.mp (q.trans (by decide)))
    have u1 : (xs i &&& 31).toInt ≠ 1 := fun q => c1 (Int32.toInt_inj.mp (q.trans (by decide)))
    have u2 : (xs i &&& 31).toInt ≠ 2 := fun q => c2 (Int32.toInt_inj.mp (q.trans (by decide)))
    have u3 : (xs i &&& 31).toInt ≠ 3 := fun q => c3 (Int32.toInt_inj.mp (q.trans (by decide)))
    have u4 : (xs i &&& 31).toInt ≠ 4 := fun q => c4 (Int32.toInt_inj.mp (q.trans (by decide)))
    have u5 : (xs i &&& 31).toInt ≠ 5 := fun q => c5 (Int32.toInt_inj.mp (q.trans (by decide)))
    have u6 : (xs i &&& 31).toInt ≠ 6 := fun q => c6 (Int32.toInt_inj.mp (q.trans (by decide)))
    have u7 : (xs i &&& 31).toInt ≠ 7 := fun q => c7 (Int32.toInt_inj.mp (q.trans (by decide)))
    have u8 : (xs i &&& 31).toInt ≠ 8 := fun q => c8 (Int32.toInt_inj.mp (q.trans (by decide)))
    have u9 : (xs i &&& 31).toInt ≠ 9 := fun q => c9 (Int32.toInt_inj.mp (q.trans (by decide)))
    have u10 : (xs i &&& 31).toInt ≠ 10 := fun q => c10 (Int32.toInt_inj.mp (q.trans (by decide)))
    have u11 : (xs i &&& 31).toInt ≠ 11 := fun q => c11 (Int32.toInt_inj.mp (q.trans (by decide)))
    have u12 : (xs i &&& 31).toInt ≠ 12 := fun q => c12 (Int32.toInt_inj.mp (q.trans (by decide)))
    have u13 : (xs i &&& 31).toInt ≠ 13 := fun q => c13 (Int32.toInt_inj.mp (q.trans (by decide)))
    have u14 : (xs i &&& 31).toInt ≠ 14 := fun q => c14 (Int32.toInt_inj.mp (q.trans (by decide)))
    have u15 : (xs i &&& 31).toInt ≠ 15 := fun q => c15 (Int32.toInt_inj.mp (q.trans (by decide)))
    have u16 : (xs i &&& 31).toInt ≠ 16 := fun q => c16 (Int32.toInt_inj.mp (q.trans (by decide)))
    have u17 : (xs i &&& 31).toInt ≠ 17 := fun q => c17 (Int32.toInt_inj.mp (q.trans (by decide)))
    have u18 : (xs i &&& 31).toInt ≠ 18 := fun q => c18 (Int32.toInt_inj.mp (q.trans (by decide)))
    have u19 : (xs i &&& 31).toInt ≠ 19 := fun q => c19 (Int32.toInt_inj.mp (q.trans (by decide)))
    have u20 : (xs i &&& 31).toInt ≠ 20 := fun q => c20 (Int32.toInt_inj.mp (q.trans (by decide)))
    have u21 : (xs i &&& 31).toInt ≠ 21 := fun q => c21 (Int32.toInt_inj.mp (q.trans (by decide)))
    have u22 : (xs i &&& 31).toInt ≠ 22 := fun q => c22 (Int32.toInt_inj.mp (q.trans (by decide)))
    have u23 : (xs i &&& 31).toInt ≠ 23 := fun q => c23 (Int32.toInt_inj.mp (q.trans (by decide)))
    have u24 : (xs i &&& 31).toInt ≠ 24 := fun q => c24 (Int32.toInt_inj.mp (q.trans (by decide)))
    have u25 : (xs i &&& 31).toInt ≠ 25 := fun q => c25 (Int32.toInt_inj.mp (q.trans (by decide)))
    have u26 : (xs i &&& 31).toInt ≠ 26 := fun q => c26 (Int32.toInt_inj.mp (q.trans (by decide)))
    omega) (by decide) ?_
  refine G_widen F (ce' := cx + 4) (sl' := sx + 24) (by omega) (by omega) ?_
  exact next sw M' (hI'.keep (Nat.le_succ c) (fun _ _ => rfl) (fun _ _ => rfl))
set_option maxRecDepth 20000 in
/-- the law's loop -/
theorem law_loop {X : fx_C} {l : Launch} {Z : fx_Z} {ad : Nat → Nat} {b n : Nat} {xs : Nat → Int32} (F : fx_F X l Z room_1 RL cL_law) (hl : l.stackTraces = false) (hs : fx_Scr X b n xs) (hn : n ≤ 2560) (fin : ∀ (sw : Bool) (M : fx_M) (cx sx : Nat) (lv : List (Option Value)), cx ≤ 603072 → sx ≤ 7202922 → GG X ad 1634 lv [.int 1] cx sx (w_S sw) M) : ∀ (k i c : Nat) (sw : Bool) (M : fx_M), k = n - i → i = 5 * c → c ≤ 512 → Iv c sw M → GG X ad 28 [some (.ref b), some (.ref (ad 0)), some (.ref (ad 37)), some (.ref (ad 64)), some (.ref (ad 65)), some (.int (nI i)), none, none, none] [] (66 + 4 * c) (3740 + 24 * c) (w_S sw) M := by
  intro k
  induction k using Nat.strongRecOn with
  | _ k ih =>
    intro i c sw M hk hic hc5 hI
    refine G_iload F dL_law_28 rfl ?_
    refine G_aload_n F dL_law_30 rfl ?_
    refine G_slen F hs dL_law_31 ?_
    refine G_iconst (v := nI 5) F dL_law_32 (by decide) ?_
    refine G_isub F dL_law_33 ?_
    refine G_icmp_gt (tgt := 1633) F dL_law_34 (by decide) (fun h34 => ?_) (fun h34 => ?_)
    · refine G_iconst (v := 1) F dL_law_1633 rfl ?_
      exact fin sw M _ _ _ (by omega) (by omega)
    · rw [Int32.lt_iff_toInt_lt, nI_subI (by omega) (by omega), nI_toInt (by omega)] at h34
      have hi5 : i + 5 ≤ n := by omega
      refine G_aload_n F dL_law_37 rfl ?_
      refine G_iload F dL_law_38 rfl ?_
      refine G_sld F hs dL_law_40 (by omega) (by omega) ?_
      refine G_bipush (v := 31) F dL_law_41 rfl ?_
      refine G_iand F dL_law_43 ?_
      refine law_step F hl hs hn (by omega) (by omega) (by omega) (by omega) hI (fun s1 M2 h2 => ?_)
      refine G_iinc F (5) dL_law_1627 rfl rfl rfl rfl ?_
      simp only [List.set_cons_zero, List.set_cons_succ]
      rw [show (5 : Int32) = nI 5 from rfl, nI_add]
      refine G_goto (tgt := 28) F dL_law_1630 (by decide) ?_
      have h9 := ih (n - (i + 5)) (by omega) (i + 5) (c + 1) s1 M2 rfl (by omega) (by omega) h2
      rw [show 66 + 4 * (c + 1) = 66 + 4 * c + 4 from by omega, show 3740 + 24 * (c + 1) = 3740 + 24 * c + 24 from by omega] at h9
      exact h9
