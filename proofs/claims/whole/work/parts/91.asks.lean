/-! THE LAW: its cases, questions of a layout -/
set_option maxRecDepth 20000 in
theorem k_17 {X : fx_C} {l : Launch} {Z : fx_Z} {ad : Nat → Nat} {b n i c cx sx : Nat} {xs : Nat → Int32} {sw : Bool} {M : fx_M} (F : fx_F X l Z room_1 RL cL_law) (hl : l.stackTraces = false) (hs : fx_Scr X b n xs) (hn : n < 2 ^ 31) (hi : i + 4 < n) (hc : c ≤ 600) (hce : cx + 4 ≤ 603072) (hsl : sx + 24 ≤ 7202922) (hI : Iv c sw M) (hE : Eqs M) (next : ∀ (s1 : Bool) (M2 : fx_M), Iv (c + 1) s1 M2 → GG X ad 1627 [some (.ref b), some (.ref (ad 0)), some (.ref (ad 37)), some (.ref (ad 64)), some (.ref (ad 65)), some (.int (nI i)), none, none, none] [] (cx + 4) (sx + 24) (w_S s1) M2) : GG X ad 1130 [some (.ref b), some (.ref (ad 0)), some (.ref (ad 37)), some (.ref (ad 64)), some (.ref (ad 65)), some (.int (nI i)), none, none, none] [] cx sx (w_S sw) M := by
  obtain ⟨N, sz, hP, ⟨hot, al, rw, pos, hL⟩, ⟨sl, kp, hH⟩, ⟨len, hT⟩, ⟨np, hQ⟩, hlim⟩ := id hI
  obtain ⟨e38, e39, e40, e41, e42, e43, e44, e45, e46⟩ := id hE
  have hN16 := hP.2.2.1
  have hN1 := hP.2.1
  refine G_aload_n F dL_law_1130 rfl ?_
  refine G_aload_n F dL_law_1131 rfl ?_
  refine G_iload F dL_law_1132 rfl ?_
  refine G_iconst (v := nI 1) F dL_law_1134 (by decide) ?_
  refine G_iadd F dL_law_1135 ?_
  rw [nI_add]
  refine G_sld F hs dL_law_1136 (by omega) hn ?_
  refine G_aload_n F dL_law_1137 rfl ?_
  refine G_callX F mx_L_161 dL_law_1138 (w_order hl ad ((xs (i + 1))) (by decide) (s_order hl ad sw (m_C ++ o_C) M (N := N) (xs (i + 1)) hP.1 hN16) (fun E m h => h.2.1)) (As := [.ref (ad 0), .int (xs (i + 1)), .ref (ad 64)]) rfl rfl (Nat.le_of_ble_eq_true rfl) ⟨Nat.le_of_ble_eq_true rfl, Nat.le_of_ble_eq_true rfl, by show cx + 4 ≤ 603072; omega, by show sx + 24 ≤ 7202922; omega⟩ (fun _ _ q => q.elim) (fun v1 a1 S1 M1 h1 => ?_)
  obtain ⟨ea, k, s1, rfl, rfl, q1⟩ := h1
  subst ea
  have hq : ∀ a, 37 ≤ a → a < 64 → M1 a = M a := by
    rcases q1 with ⟨-, -, r, m0, ⟨x, -, -, -, rfl⟩, rfl⟩ | ⟨-, -, e, -⟩
    · intro a h1 h2
      rw [fx_u_ne (by omega)]
    · intro a _ _; rw [e]
  skip
  refine G_istore F dL_law_1141 rfl rfl (Nat.le_of_ble_eq_true rfl) ?_
  simp only [List.set_cons_zero, List.set_cons_succ]
  refine G_aload_n F dL_law_1143 rfl ?_
  refine G_aload_n F dL_law_1144 rfl ?_
  refine G_iload F dL_law_1145 rfl ?_
  refine G_iconst (v := nI 1) F dL_law_1147 (by decide) ?_
  refine G_iadd F dL_law_1148 ?_
  rw [nI_add]
  refine G_sld F hs dL_law_1149 (by omega) hn ?_
  refine G_vI F (k := 37) mv_L_163 dL_law_1150 (t_order hl _ s1 o_C M1 (N := N) (xs (i + 1)) (n0_of hP hq) hN16 hN1) (As := [.int (xs (i + 1))]) rfl rfl rfl rfl (Nat.le_of_ble_eq_true rfl) ⟨Nat.le_of_ble_eq_true rfl, Nat.le_of_ble_eq_true rfl, by show cx + 4 ≤ 603072; omega, by show sx + 24 ≤ 7202922; omega⟩ (fun r2 M2 h2 => ?_)
  refine G_istore F dL_law_1153 rfl rfl (Nat.le_of_ble_eq_true rfl) ?_
  simp only [List.set_cons_zero, List.set_cons_succ]
  refine G_aload_n F dL_law_1155 rfl ?_
  refine G_vI F (k := 37) mv_L_106 dL_law_1156 (t_thrown hl _ s1 o_C M2) (As := []) rfl rfl rfl rfl (Nat.le_of_ble_eq_true rfl) ⟨Nat.le_of_ble_eq_true rfl, Nat.le_of_ble_eq_true rfl, by show cx + 4 ≤ 603072; omega, by show sx + 24 ≤ 7202922; omega⟩ (fun r3 M3 h3 => ?_)
  rw [h3.1, h3.2]
  have key : M2 37 13 = k ∧ (k = 0 → M2 64 0 = r2) ∧ Iv (c + 1) s1 M2 := by
    rcases q1 with ⟨rfl, rfl, r, m0, ⟨x, x1, x2, rfl, rfl⟩, rfl⟩ | ⟨rfl, rfl, rfl, -, z⟩
    · rcases h2 with ⟨y, y1, y2, rfl, rfl⟩ | ⟨z, -⟩
      · have exy := nI_i hN16 x1 y1 (x2.symm.trans y2)
        subst exy
        exact ⟨rfl, fun _ => (congrFun e46 x).symm, hI.keep (Nat.le_succ c) (fun a h => by rw [fx_u_ne (by omega), fx_u_ne (by omega)]) (fun j h => by rw [fx_u_at, if_neg (by omega), fx_u_ne (by decide)])⟩
      · rw [x2, pin_t hN16 x1] at z; exact Bool.noConfusion z
    · rcases h2 with ⟨y, y1, y2, -, -⟩ | ⟨-, rfl⟩
      · rw [y2, pin_t hN16 y1] at z; exact Bool.noConfusion z
      · exact ⟨by rw [fx_u_at, if_pos ⟨rfl, rfl⟩], fun z => absurd z (by decide), hI.keep (Nat.le_succ c) (fun a h => fx_u_ne (by omega)) (fun j h => by rw [fx_u_at, if_neg (by omega)])⟩
  refine G_iload F dL_law_1159 rfl ?_
  refine G_icmp_eq (tgt := 1166) F dL_law_1161 (by decide) (fun g1 => ?_) (fun g1 => absurd key.1 g1)
  refine G_iload F dL_law_1166 rfl ?_
  refine G_if_ne (tgt := 1183) F dL_law_1168 (by decide) (fun g2 => ?_) (fun g2 => ?_)
  · refine G_goto (tgt := 1627) F dL_law_1183 (by decide) ?_
    refine G_drop F 6 ?_
    refine G_drop F 7 ?_
    simp only [List.set_cons_zero, List.set_cons_succ]
    exact next s1 M2 key.2.2
  · refine G_aload_n F dL_law_1171 rfl ?_
    refine G_iconst (v := 0) F dL_law_1172 rfl ?_
    refine G_lald F dL_law_1173 (k := 64) rfl vp_in01 ?_
    rw [show M2 64 (Int32.toNatClampNeg 0) = r2 from key.2.1 g2]
    refine G_iload F dL_law_1174 rfl ?_
    refine G_i2l F dL_law_1176 ?_
    refine G_lcmp F dL_law_1177 ?_
    rw [lg_cmp_rfl]
    refine G_if_eq (tgt := 1183) F dL_law_1178 (by decide) (fun _ => ?_) (fun g3 => absurd rfl g3)
    refine G_goto (tgt := 1627) F dL_law_1183 (by decide) ?_
    refine G_drop F 6 ?_
    refine G_drop F 7 ?_
    simp only [List.set_cons_zero, List.set_cons_succ]
    exact next s1 M2 key.2.2
theorem nI6 {x : Nat} (h : x ≤ 6) : nI x = 6 ↔ x = 6 := nI_eq (b := 6) (by omega) (by omega)
theorem nI5 {x : Nat} (h : x ≤ 5) : nI x = 5 ↔ x = 5 := nI_eq (b := 5) (by omega) (by omega)
set_option maxRecDepth 20000 in
theorem k_18 {X : fx_C} {l : Launch} {Z : fx_Z} {ad : Nat → Nat} {b n i c cx sx : Nat} {xs : Nat → Int32} {sw : Bool} {M : fx_M} (F : fx_F X l Z room_1 RL cL_law) (hl : l.stackTraces = false) (hs : fx_Scr X b n xs) (hn : n < 2 ^ 31) (hi : i + 4 < n) (hc : c ≤ 600) (hce : cx + 4 ≤ 603072) (hsl : sx + 24 ≤ 7202922) (hI : Iv c sw M) (hE : Eqs M) (next : ∀ (s1 : Bool) (M2 : fx_M), Iv (c + 1) s1 M2 → GG X ad 1627 [some (.ref b), some (.ref (ad 0)), some (.ref (ad 37)), some (.ref (ad 64)), some (.ref (ad 65)), some (.int (nI i)), none, none, none] [] (cx + 4) (sx + 24) (w_S s1) M2) : GG X ad 1186 [some (.ref b), some (.ref (ad 0)), some (.ref (ad 37)), some (.ref (ad 64)), some (.ref (ad 65)), some (.int (nI i)), none, none, none] [] cx sx (w_S sw) M := by
  obtain ⟨N, sz, hP, ⟨hot, al, rw, pos, hL⟩, ⟨sl, kp, hH⟩, ⟨len, hT⟩, ⟨np, hQ⟩, hlim⟩ := id hI
  obtain ⟨e38, e39, e40, e41, e42, e43, e44, e45, e46⟩ := id hE
  have hN16 := hP.2.2.1
  have hN1 := hP.2.1
  refine G_aload_n F dL_law_1186 rfl ?_
  refine G_aload_n F dL_law_1187 rfl ?_
  refine G_iload F dL_law_1188 rfl ?_
  refine G_iconst (v := nI 1) F dL_law_1190 (by decide) ?_
  refine G_iadd F dL_law_1191 ?_
  rw [nI_add]
  refine G_sld F hs dL_law_1192 (by omega) hn ?_
  refine G_aload_n F dL_law_1193 rfl ?_
  refine G_iload F dL_law_1194 rfl ?_
  refine G_iconst (v := nI 2) F dL_law_1196 (by decide) ?_
  refine G_iadd F dL_law_1197 ?_
  rw [nI_add]
  refine G_sld F hs dL_law_1198 (by omega) hn ?_
  refine G_aload_n F dL_law_1199 rfl ?_
  refine G_callX F mx_L_164 dL_law_1200 (w_place hl ad ((xs (i + 1))) ((xs (i + 2))) (by decide) (s_place hl ad sw (m_C ++ o_C) M (N := N) (xs (i + 1)) (xs (i + 2)) (yH_of hP hL) hL.2.2.2.1 hL.2.2.2.2.1 hL.2.2.2.2.2.1) (fun E m h => h.2.imp (fun q => q.1) (fun q => q.1))) (As := [.ref (ad 0), .int (xs (i + 1)), .int (xs (i + 2)), .ref (ad 64)]) rfl rfl (Nat.le_of_ble_eq_true rfl) ⟨Nat.le_of_ble_eq_true rfl, Nat.le_of_ble_eq_true rfl, by show cx + 4 ≤ 603072; omega, by show sx + 24 ≤ 7202922; omega⟩ (fun _ _ q => q.elim) (fun v1 a1 S1 M1 h1 => ?_)
  obtain ⟨ea, k, s1, rfl, rfl, q1⟩ := h1
  subst ea
  have hq : ∀ a, 37 ≤ a → a < 64 → M1 a = M a := by
    rcases q1 with ⟨-, -, r, m0, ⟨x, -, -, hy, -⟩, rfl⟩ | ⟨-, -, e, -⟩ | ⟨-, -, e, -⟩
    · intro a h1 h2
      rw [fx_u_ne (by omega)]; exact hy.1 a (by simp only [List.mem_cons, List.not_mem_nil, or_false]; omega)
    · intro a _ _; rw [e]
    · intro a _ _; rw [e]
  skip
  refine G_istore F dL_law_1203 rfl rfl (Nat.le_of_ble_eq_true rfl) ?_
  simp only [List.set_cons_zero, List.set_cons_succ]
  refine G_aload_n F dL_law_1205 rfl ?_
  refine G_aload_n F dL_law_1206 rfl ?_
  refine G_iload F dL_law_1207 rfl ?_
  refine G_iconst (v := nI 1) F dL_law_1209 (by decide) ?_
  refine G_iadd F dL_law_1210 ?_
  rw [nI_add]
  refine G_sld F hs dL_law_1211 (by omega) hn ?_
  refine G_aload_n F dL_law_1212 rfl ?_
  refine G_iload F dL_law_1213 rfl ?_
  refine G_iconst (v := nI 2) F dL_law_1215 (by decide) ?_
  refine G_iadd F dL_law_1216 ?_
  rw [nI_add]
  refine G_sld F hs dL_law_1217 (by omega) hn ?_
  refine G_vI F (k := 37) mv_L_166 dL_law_1218 (t_place hl _ s1 o_C M1 (N := N) (xs (i + 1)) (xs (i + 2)) (vH_of hP hL hE hq)) (As := [.int (xs (i + 1)), .int (xs (i + 2))]) rfl rfl rfl rfl (Nat.le_of_ble_eq_true rfl) ⟨Nat.le_of_ble_eq_true rfl, Nat.le_of_ble_eq_true rfl, by show cx + 4 ≤ 603072; omega, by show sx + 24 ≤ 7202922; omega⟩ (fun r2 M2 h2 => ?_)
  refine G_istore F dL_law_1221 rfl rfl (Nat.le_of_ble_eq_true rfl) ?_
  simp only [List.set_cons_zero, List.set_cons_succ]
  refine G_aload_n F dL_law_1223 rfl ?_
  refine G_vI F (k := 37) mv_L_106 dL_law_1224 (t_thrown hl _ s1 o_C M2) (As := []) rfl rfl rfl rfl (Nat.le_of_ble_eq_true rfl) ⟨Nat.le_of_ble_eq_true rfl, Nat.le_of_ble_eq_true rfl, by show cx + 4 ≤ 603072; omega, by show sx + 24 ≤ 7202922; omega⟩ (fun r3 M3 h3 => ?_)
  rw [h3.1, h3.2]
  have key : M2 37 13 = k ∧ (k = 0 → M2 64 0 = r2) ∧ Iv (c + 1) s1 M2 := by
    have hbb : ∀ b, z_bb (M 3) (M 4) (M 5) (M 7) (M 1 9) N hot al rw pos sz (M 0 7) b ≤ 6 ∧ z_jb (M 3) (M 4) (M 5) (M 7) (M 1 9) N hot al rw pos sz (M 0 7) b ≤ 5 := fun b => by
      have h0 := bjv_le (r_bjv (N := N) (hot := hot) (al := al) (rw := rw) (pos := pos) (sz := sz) (M := M1) b)
      rw [rz_bb hP hE hlim hq b, rz_jb hP hE hlim hq b] at h0
      exact h0
    rcases q1 with ⟨rfl, rfl, r, m0, ⟨x, x1, x2, hy, hw⟩, rfl⟩ | ⟨rfl, rfl, rfl, z⟩ | ⟨rfl, rfl, rfl, z⟩
    · have hz := y_S_z hN16 hL.2.2.2.2.2.2.1 hy
      rcases h2 with ⟨y, y1, y2, hv, hw'⟩ | ⟨z, -⟩ | ⟨-, z, -⟩
      · have exy := nI_i hN16 x1 y1 (x2.symm.trans y2)
        subst exy
        have hx := hz.2 x x1
        refine ⟨by rw [hv.2 13 (by decide) (by decide), fx_u_at, if_pos ⟨rfl, rfl⟩], fun _ => ?_, hI.keep (Nat.le_succ c) (fun a h => by rw [hv.1 a (by simp only [List.mem_cons, List.not_mem_nil, or_false]; omega), fx_u_ne (by omega), fx_u_ne (by omega)]; exact hy.1 a (by simp only [List.mem_cons, List.not_mem_nil, or_false]; omega)) (fun j h => by rw [hv.2 j (by omega) (by omega), fx_u_at, if_neg (by omega), fx_u_ne (by decide)]; exact congrFun (hy.1 37 (by decide)) j)⟩
        rw [hv.1 64 (by decide), fx_u_ne (by decide), fx_u_at, if_pos ⟨rfl, rfl⟩]
        rcases hw with ⟨w1, rfl⟩ | ⟨w1, rfl⟩ | ⟨w1, rfl⟩ | ⟨w1, rfl⟩
        · rcases hw' with ⟨w2, rfl⟩ | ⟨w2, rfl⟩ | ⟨w2, rfl⟩ | ⟨w2, rfl⟩
          · rw [hx.1]
          · exact absurd (w1.symm.trans w2) (by decide)
          · exact absurd (w1.symm.trans w2) (by decide)
          · exact absurd (w1.symm.trans w2) (by decide)
        · rcases hw' with ⟨w2, rfl⟩ | ⟨w2, rfl⟩ | ⟨w2, rfl⟩ | ⟨w2, rfl⟩
          · exact absurd (w1.symm.trans w2) (by decide)
          · rw [rz_ad hP hE hlim hq x, hx.2.2.2.2.2.1]
          · exact absurd (w1.symm.trans w2) (by decide)
          · exact absurd (w1.symm.trans w2) (by decide)
        · rcases hw' with ⟨w2, rfl⟩ | ⟨w2, rfl⟩ | ⟨w2, rfl⟩ | ⟨w2, rfl⟩
          · exact absurd (w1.symm.trans w2) (by decide)
          · exact absurd (w1.symm.trans w2) (by decide)
          · rw [rz_pd hP hE hlim hq x, hx.2.2.2.2.2.2]
          · exact absurd (w1.symm.trans w2) (by decide)
        · rcases hw' with ⟨w2, rfl⟩ | ⟨w2, rfl⟩ | ⟨w2, rfl⟩ | ⟨w2, rfl⟩
          · exact absurd (w1.symm.trans w2) (by decide)
          · exact absurd (w1.symm.trans w2) (by decide)
          · exact absurd (w1.symm.trans w2) (by decide)
          · rw [hx.1, hL.1]
            have hlt := (hL.2.2.2.2.2.2.1.2 x x1).1
            have hh := hL.2.2.1
            by_cases q : pos x < hot
            · rw [if_pos ((nI_ltI (by omega) (by omega)).mpr q), if_pos q]
            · rw [if_neg (fun z => q ((nI_ltI (by omega) (by omega)).mp z)), if_neg q]
      · rw [x2, pin_t hN16 x1] at z; exact Bool.noConfusion z
      · refine absurd ?_ z
        rcases hw with ⟨w1, -⟩ | ⟨w1, -⟩ | ⟨w1, -⟩ | ⟨w1, -⟩ <;> rw [w1] <;> decide
    · have zp : pin N (xs (i + 1)) = false := z.elim (fun q => q.2) (fun q => absurd q.1 x1)
      rcases h2 with ⟨y, y1, y2, -, -⟩ | ⟨-, rfl⟩ | ⟨z, -, -⟩
      · rw [y2, pin_t hN16 y1] at zp; exact Bool.noConfusion zp
      · exact ⟨by rw [fx_u_at, if_pos ⟨rfl, rfl⟩], fun z => absurd z (by decide), hI.keep (Nat.le_succ c) (fun a h => fx_u_ne (by omega)) (fun j h => by rw [fx_u_at, if_neg (by omega)])⟩
      · rw [zp] at z; exact Bool.noConfusion z
    · have zp : pin N (xs (i + 1)) = true ∧ ¬ (0 ≤ (xs (i + 2)) ∧ (xs (i + 2)) ≤ 3) := z.elim (fun q => absurd q.1.symm x1) (fun q => q.2)
      rcases h2 with ⟨y, y1, y2, -, hw⟩ | ⟨z, -⟩ | ⟨-, -, rfl⟩
      · refine absurd ?_ zp.2
        rcases hw with ⟨w1, -⟩ | ⟨w1, -⟩ | ⟨w1, -⟩ | ⟨w1, -⟩ <;> rw [w1] <;> decide
      · rw [zp.1] at z; exact Bool.noConfusion z
      · exact ⟨by rw [fx_u_at, if_pos ⟨rfl, rfl⟩], fun z => absurd z (by decide), hI.keep (Nat.le_succ c) (fun a h => fx_u_ne (by omega)) (fun j h => by rw [fx_u_at, if_neg (by omega)])⟩
  refine G_iload F dL_law_1227 rfl ?_
  refine G_icmp_eq (tgt := 1234) F dL_law_1229 (by decide) (fun g1 => ?_) (fun g1 => absurd key.1 g1)
  refine G_iload F dL_law_1234 rfl ?_
  refine G_if_ne (tgt := 1251) F dL_law_1236 (by decide) (fun g2 => ?_) (fun g2 => ?_)
  · refine G_goto (tgt := 1627) F dL_law_1251 (by decide) ?_
    refine G_drop F 6 ?_
    refine G_drop F 7 ?_
    simp only [List.set_cons_zero, List.set_cons_succ]
    exact next s1 M2 key.2.2
  · refine G_aload_n F dL_law_1239 rfl ?_
    refine G_iconst (v := 0) F dL_law_1240 rfl ?_
    refine G_lald F dL_law_1241 (k := 64) rfl vp_in01 ?_
    rw [show M2 64 (Int32.toNatClampNeg 0) = r2 from key.2.1 g2]
    refine G_iload F dL_law_1242 rfl ?_
    refine G_i2l F dL_law_1244 ?_
    refine G_lcmp F dL_law_1245 ?_
    rw [lg_cmp_rfl]
    refine G_if_eq (tgt := 1251) F dL_law_1246 (by decide) (fun _ => ?_) (fun g3 => absurd rfl g3)
    refine G_goto (tgt := 1627) F dL_law_1251 (by decide) ?_
    refine G_drop F 6 ?_
    refine G_drop F 7 ?_
    simp only [List.set_cons_zero, List.set_cons_succ]
    exact next s1 M2 key.2.2
set_option maxRecDepth 20000 in
theorem k_19 {X : fx_C} {l : Launch} {Z : fx_Z} {ad : Nat → Nat} {b n i c cx sx : Nat} {xs : Nat → Int32} {sw : Bool} {M : fx_M} (F : fx_F X l Z room_1 RL cL_law) (hl : l.stackTraces = false) (hs : fx_Scr X b n xs) (hn : n < 2 ^ 31) (hi : i + 4 < n) (hc : c ≤ 600) (hce : cx + 4 ≤ 603072) (hsl : sx + 24 ≤ 7202922) (hI : Iv c sw M) (hE : Eqs M) (next : ∀ (s1 : Bool) (M2 : fx_M), Iv (c + 1) s1 M2 → GG X ad 1627 [some (.ref b), some (.ref (ad 0)), some (.ref (ad 37)), some (.ref (ad 64)), some (.ref (ad 65)), some (.int (nI i)), none, none, none] [] (cx + 4) (sx + 24) (w_S s1) M2) : GG X ad 1254 [some (.ref b), some (.ref (ad 0)), some (.ref (ad 37)), some (.ref (ad 64)), some (.ref (ad 65)), some (.int (nI i)), none, none, none] [] cx sx (w_S sw) M := by
  obtain ⟨N, sz, hP, ⟨hot, al, rw, pos, hL⟩, ⟨sl, kp, hH⟩, ⟨len, hT⟩, ⟨np, hQ⟩, hlim⟩ := id hI
  obtain ⟨e38, e39, e40, e41, e42, e43, e44, e45, e46⟩ := id hE
  have hN16 := hP.2.2.1
  have hN1 := hP.2.1
  refine G_aload_n F dL_law_1254 rfl ?_
  refine G_aload_n F dL_law_1255 rfl ?_
  refine G_iload F dL_law_1256 rfl ?_
  refine G_iconst (v := nI 1) F dL_law_1258 (by decide) ?_
  refine G_iadd F dL_law_1259 ?_
  rw [nI_add]
  refine G_sld F hs dL_law_1260 (by omega) hn ?_
  refine G_aload_n F dL_law_1261 rfl ?_
  refine G_iload F dL_law_1262 rfl ?_
  refine G_iconst (v := nI 2) F dL_law_1264 (by decide) ?_
  refine G_iadd F dL_law_1265 ?_
  rw [nI_add]
  refine G_sld F hs dL_law_1266 (by omega) hn ?_
  refine G_aload_n F dL_law_1267 rfl ?_
  refine G_callX F mx_L_167 dL_law_1268 (w_end hl ad ((xs (i + 1))) ((xs (i + 2))) (by decide) (s_end hl ad sw (m_C ++ o_C) M (N := N) (xs (i + 1)) (xs (i + 2)) (yH_of hP hL) hL.2.2.2.1 hL.2.2.2.2.1 hL.2.2.2.2.2.1) (fun E m h => h.2.imp (fun q => q.1) (fun q => q.1))) (As := [.ref (ad 0), .int (xs (i + 1)), .int (xs (i + 2)), .ref (ad 64)]) rfl rfl (Nat.le_of_ble_eq_true rfl) ⟨Nat.le_of_ble_eq_true rfl, Nat.le_of_ble_eq_true rfl, by show cx + 4 ≤ 603072; omega, by show sx + 24 ≤ 7202922; omega⟩ (fun _ _ q => q.elim) (fun v1 a1 S1 M1 h1 => ?_)
  obtain ⟨ea, k, s1, rfl, rfl, q1⟩ := h1
  subst ea
  have hq : ∀ a, 37 ≤ a → a < 64 → M1 a = M a := by
    rcases q1 with ⟨-, -, r, m0, ⟨x, -, -, hy, -⟩, rfl⟩ | ⟨-, -, e, -⟩ | ⟨-, -, e, -⟩
    · intro a h1 h2
      rw [fx_u_ne (by omega)]; exact hy.1 a (by simp only [List.mem_cons, List.not_mem_nil, or_false]; omega)
    · intro a _ _; rw [e]
    · intro a _ _; rw [e]
  skip
  refine G_istore F dL_law_1271 rfl rfl (Nat.le_of_ble_eq_true rfl) ?_
  simp only [List.set_cons_zero, List.set_cons_succ]
  refine G_aload_n F dL_law_1273 rfl ?_
  refine G_aload_n F dL_law_1274 rfl ?_
  refine G_iload F dL_law_1275 rfl ?_
  refine G_iconst (v := nI 1) F dL_law_1277 (by decide) ?_
  refine G_iadd F dL_law_1278 ?_
  rw [nI_add]
  refine G_sld F hs dL_law_1279 (by omega) hn ?_
  refine G_aload_n F dL_law_1280 rfl ?_
  refine G_iload F dL_law_1281 rfl ?_
  refine G_iconst (v := nI 2) F dL_law_1283 (by decide) ?_
  refine G_iadd F dL_law_1284 ?_
  rw [nI_add]
  refine G_sld F hs dL_law_1285 (by omega) hn ?_
  refine G_vI F (k := 37) mv_L_169 dL_law_1286 (t_end hl _ s1 o_C M1 (N := N) (xs (i + 1)) (xs (i + 2)) (vH_of hP hL hE hq)) (As := [.int (xs (i + 1)), .int (xs (i + 2))]) rfl rfl rfl rfl (Nat.le_of_ble_eq_true rfl) ⟨Nat.le_of_ble_eq_true rfl, Nat.le_of_ble_eq_true rfl, by show cx + 4 ≤ 603072; omega, by show sx + 24 ≤ 7202922; omega⟩ (fun r2 M2 h2 => ?_)
  refine G_istore F dL_law_1289 rfl rfl (Nat.le_of_ble_eq_true rfl) ?_
  simp only [List.set_cons_zero, List.set_cons_succ]
  refine G_aload_n F dL_law_1291 rfl ?_
  refine G_vI F (k := 37) mv_L_106 dL_law_1292 (t_thrown hl _ s1 o_C M2) (As := []) rfl rfl rfl rfl (Nat.le_of_ble_eq_true rfl) ⟨Nat.le_of_ble_eq_true rfl, Nat.le_of_ble_eq_true rfl, by show cx + 4 ≤ 603072; omega, by show sx + 24 ≤ 7202922; omega⟩ (fun r3 M3 h3 => ?_)
  rw [h3.1, h3.2]
  have key : M2 37 13 = k ∧ (k = 0 → M2 64 0 = r2) ∧ Iv (c + 1) s1 M2 := by
    have hbb : ∀ b, z_bb (M 3) (M 4) (M 5) (M 7) (M 1 9) N hot al rw pos sz (M 0 7) b ≤ 6 ∧ z_jb (M 3) (M 4) (M 5) (M 7) (M 1 9) N hot al rw pos sz (M 0 7) b ≤ 5 := fun b => by
      have h0 := bjv_le (r_bjv (N := N) (hot := hot) (al := al) (rw := rw) (pos := pos) (sz := sz) (M := M1) b)
      rw [rz_bb hP hE hlim hq b, rz_jb hP hE hlim hq b] at h0
      exact h0
    rcases q1 with ⟨rfl, rfl, r, m0, ⟨x, x1, x2, hy, hw⟩, rfl⟩ | ⟨rfl, rfl, rfl, z⟩ | ⟨rfl, rfl, rfl, z⟩
    · have hz := y_S_z hN16 hL.2.2.2.2.2.2.1 hy
      rcases h2 with ⟨y, y1, y2, hv, hw'⟩ | ⟨z, -⟩ | ⟨-, z, -⟩
      · have exy := nI_i hN16 x1 y1 (x2.symm.trans y2)
        subst exy
        have hx := hz.2 x x1
        refine ⟨by rw [hv.2 13 (by decide) (by decide), fx_u_at, if_pos ⟨rfl, rfl⟩], fun _ => ?_, hI.keep (Nat.le_succ c) (fun a h => by rw [hv.1 a (by simp only [List.mem_cons, List.not_mem_nil, or_false]; omega), fx_u_ne (by omega), fx_u_ne (by omega)]; exact hy.1 a (by simp only [List.mem_cons, List.not_mem_nil, or_false]; omega)) (fun j h => by rw [hv.2 j (by omega) (by omega), fx_u_at, if_neg (by omega), fx_u_ne (by decide)]; exact congrFun (hy.1 37 (by decide)) j)⟩
        rw [hv.1 64 (by decide), fx_u_ne (by decide), fx_u_at, if_pos ⟨rfl, rfl⟩]
        rcases hw with ⟨w1, rfl⟩ | ⟨w1, rfl⟩ | ⟨w1, rfl⟩ | ⟨w1, rfl⟩
        · rcases hw' with ⟨w2, rfl⟩ | ⟨w2, rfl⟩ | ⟨w2, rfl⟩ | ⟨w2, rfl⟩
          · rw [rz_fm hE hq x, hx.2.2.1]
          · exact absurd (w1.symm.trans w2) (by decide)
          · exact absurd (w1.symm.trans w2) (by decide)
          · exact absurd (w1.symm.trans w2) (by decide)
        · rcases hw' with ⟨w2, rfl⟩ | ⟨w2, rfl⟩ | ⟨w2, rfl⟩ | ⟨w2, rfl⟩
          · exact absurd (w1.symm.trans w2) (by decide)
          · rw [rz_fm hE hq x, rz_bb hP hE hlim hq x, rz_jb hP hE hlim hq x, hx.2.2.1, hx.2.2.2.1, hx.2.2.2.2.1]
            by_cases q : y_fm (M 3) (M 4) (M 5) N hot rw pos x = 5
            · rw [if_pos q, if_pos q]; rfl
            · rw [if_neg q, if_neg q, nI_add]
          · exact absurd (w1.symm.trans w2) (by decide)
          · exact absurd (w1.symm.trans w2) (by decide)
        · rcases hw' with ⟨w2, rfl⟩ | ⟨w2, rfl⟩ | ⟨w2, rfl⟩ | ⟨w2, rfl⟩
          · exact absurd (w1.symm.trans w2) (by decide)
          · exact absurd (w1.symm.trans w2) (by decide)
          · rw [rz_bb hP hE hlim hq x, hx.2.2.2.1]
            simp only [nI6 (hbb x).1]
          · exact absurd (w1.symm.trans w2) (by decide)
        · rcases hw' with ⟨w2, rfl⟩ | ⟨w2, rfl⟩ | ⟨w2, rfl⟩ | ⟨w2, rfl⟩
          · exact absurd (w1.symm.trans w2) (by decide)
          · exact absurd (w1.symm.trans w2) (by decide)
          · exact absurd (w1.symm.trans w2) (by decide)
          · rw [rz_jb hP hE hlim hq x, hx.2.2.2.2.1]
            simp only [nI5 (hbb x).2]
      · rw [x2, pin_t hN16 x1] at z; exact Bool.noConfusion z
      · refine absurd ?_ z
        rcases hw with ⟨w1, -⟩ | ⟨w1, -⟩ | ⟨w1, -⟩ | ⟨w1, -⟩ <;> rw [w1] <;> decide
    · have zp : pin N (xs (i + 1)) = false := z.elim (fun q => q.2) (fun q => absurd q.1 x1)
      rcases h2 with ⟨y, y1, y2, -, -⟩ | ⟨-, rfl⟩ | ⟨z, -, -⟩
      · rw [y2, pin_t hN16 y1] at zp; exact Bool.noConfusion zp
      · exact ⟨by rw [fx_u_at, if_pos ⟨rfl, rfl⟩], fun z => absurd z (by decide), hI.keep (Nat.le_succ c) (fun a h => fx_u_ne (by omega)) (fun j h => by rw [fx_u_at, if_neg (by omega)])⟩
      · rw [zp] at z; exact Bool.noConfusion z
    · have zp : pin N (xs (i + 1)) = true ∧ ¬ (0 ≤ (xs (i + 2)) ∧ (xs (i + 2)) ≤ 3) := z.elim (fun q => absurd q.1.symm x1) (fun q => q.2)
      rcases h2 with ⟨y, y1, y2, -, hw⟩ | ⟨z, -⟩ | ⟨-, -, rfl⟩
      · refine absurd ?_ zp.2
        rcases hw with ⟨w1, -⟩ | ⟨w1, -⟩ | ⟨w1, -⟩ | ⟨w1, -⟩ <;> rw [w1] <;> decide
      · rw [zp.1] at z; exact Bool.noConfusion z
      · exact ⟨by rw [fx_u_at, if_pos ⟨rfl, rfl⟩], fun z => absurd z (by decide), hI.keep (Nat.le_succ c) (fun a h => fx_u_ne (by omega)) (fun j h => by rw [fx_u_at, if_neg (by omega)])⟩
  refine G_iload F dL_law_1295 rfl ?_
  refine G_icmp_eq (tgt := 1302) F dL_law_1297 (by decide) (fun g1 => ?_) (fun g1 => absurd key.1 g1)
  refine G_iload F dL_law_1302 rfl ?_
  refine G_if_ne (tgt := 1319) F dL_law_1304 (by decide) (fun g2 => ?_) (fun g2 => ?_)
  · refine G_goto (tgt := 1627) F dL_law_1319 (by decide) ?_
    refine G_drop F 6 ?_
    refine G_drop F 7 ?_
    simp only [List.set_cons_zero, List.set_cons_succ]
    exact next s1 M2 key.2.2
  · refine G_aload_n F dL_law_1307 rfl ?_
    refine G_iconst (v := 0) F dL_law_1308 rfl ?_
    refine G_lald F dL_law_1309 (k := 64) rfl vp_in01 ?_
    rw [show M2 64 (Int32.toNatClampNeg 0) = r2 from key.2.1 g2]
    refine G_iload F dL_law_1310 rfl ?_
    refine G_i2l F dL_law_1312 ?_
    refine G_lcmp F dL_law_1313 ?_
    rw [lg_cmp_rfl]
    refine G_if_eq (tgt := 1319) F dL_law_1314 (by decide) (fun _ => ?_) (fun g3 => absurd rfl g3)
    refine G_goto (tgt := 1627) F dL_law_1319 (by decide) ?_
    refine G_drop F 6 ?_
    refine G_drop F 7 ?_
    simp only [List.set_cons_zero, List.set_cons_succ]
    exact next s1 M2 key.2.2
set_option maxRecDepth 20000 in
theorem k_20 {X : fx_C} {l : Launch} {Z : fx_Z} {ad : Nat → Nat} {b n i c cx sx : Nat} {xs : Nat → Int32} {sw : Bool} {M : fx_M} (F : fx_F X l Z room_1 RL cL_law) (hl : l.stackTraces = false) (hs : fx_Scr X b n xs) (hn : n < 2 ^ 31) (hi : i + 4 < n) (hc : c ≤ 600) (hce : cx + 4 ≤ 603072) (hsl : sx + 24 ≤ 7202922) (hI : Iv c sw M) (hE : Eqs M) (next : ∀ (s1 : Bool) (M2 : fx_M), Iv (c + 1) s1 M2 → GG X ad 1627 [some (.ref b), some (.ref (ad 0)), some (.ref (ad 37)), some (.ref (ad 64)), some (.ref (ad 65)), some (.int (nI i)), none, none, none] [] (cx + 4) (sx + 24) (w_S s1) M2) : GG X ad 1322 [some (.ref b), some (.ref (ad 0)), some (.ref (ad 37)), some (.ref (ad 64)), some (.ref (ad 65)), some (.int (nI i)), none, none, none] [] cx sx (w_S sw) M := by
  obtain ⟨N, sz, hP, ⟨hot, al, rw, pos, hL⟩, ⟨sl, kp, hH⟩, ⟨len, hT⟩, ⟨np, hQ⟩, hlim⟩ := id hI
  obtain ⟨e38, e39, e40, e41, e42, e43, e44, e45, e46⟩ := id hE
  have hN16 := hP.2.2.1
  have hN1 := hP.2.1
  refine G_aload_n F dL_law_1322 rfl ?_
  refine G_aload_n F dL_law_1323 rfl ?_
  refine G_iload F dL_law_1324 rfl ?_
  refine G_iconst (v := nI 1) F dL_law_1326 (by decide) ?_
  refine G_iadd F dL_law_1327 ?_
  rw [nI_add]
  refine G_sld F hs dL_law_1328 (by omega) hn ?_
  refine G_aload_n F dL_law_1329 rfl ?_
  refine G_callX F mx_L_170 dL_law_1330 (w_layout hl ad ((xs (i + 1))) (by decide) (s_layout hl ad sw (m_C ++ o_C) M (N := N) (xs (i + 1)) (yH_of hP hL) hL.2.2.2.1 hL.2.2.2.2.1 hL.2.2.2.2.2.1) (fun E m h => h.2.1)) (As := [.ref (ad 0), .int (xs (i + 1)), .ref (ad 64)]) rfl rfl (Nat.le_of_ble_eq_true rfl) ⟨Nat.le_of_ble_eq_true rfl, Nat.le_of_ble_eq_true rfl, by show cx + 4 ≤ 603072; omega, by show sx + 24 ≤ 7202922; omega⟩ (fun _ _ q => q.elim) (fun v1 a1 S1 M1 h1 => ?_)
  obtain ⟨ea, k, s1, rfl, rfl, q1⟩ := h1
  subst ea
  have hq : ∀ a, 37 ≤ a → a < 64 → M1 a = M a := by
    rcases q1 with ⟨-, -, r, m0, ⟨hy, -⟩, rfl⟩ | ⟨-, -, e, -⟩
    · intro a h1 h2
      rw [fx_u_ne (by omega)]; exact hy.1 a (by simp only [List.mem_cons, List.not_mem_nil, or_false]; omega)
    · intro a _ _; rw [e]
  skip
  refine G_istore F dL_law_1333 rfl rfl (Nat.le_of_ble_eq_true rfl) ?_
  simp only [List.set_cons_zero, List.set_cons_succ]
  refine G_aload_n F dL_law_1335 rfl ?_
  refine G_aload_n F dL_law_1336 rfl ?_
  refine G_iload F dL_law_1337 rfl ?_
  refine G_iconst (v := nI 1) F dL_law_1339 (by decide) ?_
  refine G_iadd F dL_law_1340 ?_
  rw [nI_add]
  refine G_sld F hs dL_law_1341 (by omega) hn ?_
  refine G_vI F (k := 37) mv_L_172 dL_law_1342 (t_layout hl _ s1 o_C M1 (N := N) (xs (i + 1)) (vH_of hP hL hE hq) (zw_of hP hE hq)) (As := [.int (xs (i + 1))]) rfl rfl rfl rfl (Nat.le_of_ble_eq_true rfl) ⟨Nat.le_of_ble_eq_true rfl, Nat.le_of_ble_eq_true rfl, by show cx + 4 ≤ 603072; omega, by show sx + 24 ≤ 7202922; omega⟩ (fun r2 M2 h2 => ?_)
  refine G_istore F dL_law_1345 rfl rfl (Nat.le_of_ble_eq_true rfl) ?_
  simp only [List.set_cons_zero, List.set_cons_succ]
  refine G_aload_n F dL_law_1347 rfl ?_
  refine G_vI F (k := 37) mv_L_106 dL_law_1348 (t_thrown hl _ s1 o_C M2) (As := []) rfl rfl rfl rfl (Nat.le_of_ble_eq_true rfl) ⟨Nat.le_of_ble_eq_true rfl, Nat.le_of_ble_eq_true rfl, by show cx + 4 ≤ 603072; omega, by show sx + 24 ≤ 7202922; omega⟩ (fun r3 M3 h3 => ?_)
  rw [h3.1, h3.2]
  have key : M2 37 13 = k ∧ (k = 0 → M2 64 0 = r2) ∧ Iv (c + 1) s1 M2 := by
    have hbb : ∀ b, z_bb (M 3) (M 4) (M 5) (M 7) (M 1 9) N hot al rw pos sz (M 0 7) b ≤ 6 ∧ z_jb (M 3) (M 4) (M 5) (M 7) (M 1 9) N hot al rw pos sz (M 0 7) b ≤ 5 := fun b => by
      have h0 := bjv_le (r_bjv (N := N) (hot := hot) (al := al) (rw := rw) (pos := pos) (sz := sz) (M := M1) b)
      rw [rz_bb hP hE hlim hq b, rz_jb hP hE hlim hq b] at h0
      exact h0
    rcases q1 with ⟨rfl, rfl, r, m0, ⟨hy, hw⟩, rfl⟩ | ⟨rfl, rfl, rfl, -, zp⟩
    · have hz := y_S_z hN16 hL.2.2.2.2.2.2.1 hy
      rcases h2 with ⟨-, hv, hw'⟩ | ⟨z, -⟩
      · refine ⟨by rw [hv.2 13 (by decide) (by decide), fx_u_at, if_pos ⟨rfl, rfl⟩], fun _ => ?_, hI.keep (Nat.le_succ c) (fun a h => by rw [hv.1 a (by simp only [List.mem_cons, List.not_mem_nil, or_false]; omega), fx_u_ne (by omega), fx_u_ne (by omega)]; exact hy.1 a (by simp only [List.mem_cons, List.not_mem_nil, or_false]; omega)) (fun j h => by rw [hv.2 j (by omega) (by omega), fx_u_at, if_neg (by omega), fx_u_ne (by decide)]; exact congrFun (hy.1 37 (by decide)) j)⟩
        rw [hv.1 64 (by decide), fx_u_ne (by decide), fx_u_at, if_pos ⟨rfl, rfl⟩]
        rcases hw with ⟨w1, rfl⟩ | ⟨w1, rfl⟩ | ⟨w1, rfl⟩ | ⟨w1, rfl⟩ | ⟨w1, rfl⟩ | ⟨w1, rfl⟩ | ⟨w1, rfl⟩ | ⟨w1, rfl⟩ | ⟨w1, rfl⟩
        · rcases hw' with ⟨w2, rfl⟩ | ⟨w2, rfl⟩ | ⟨w2, rfl⟩ | ⟨w2, rfl⟩ | ⟨w2, rfl⟩ | ⟨w2, rfl⟩ | ⟨w2, rfl⟩ | ⟨w2, rfl⟩ | ⟨w2, rfl⟩
          · rw [rz_he hP hE hlim hq, hz.1.1]
          · exact absurd (w1.symm.trans w2) (by decide)
          · exact absurd (w1.symm.trans w2) (by decide)
          · exact absurd (w1.symm.trans w2) (by decide)
          · exact absurd (w1.symm.trans w2) (by decide)
          · exact absurd (w1.symm.trans w2) (by decide)
          · exact absurd (w1.symm.trans w2) (by decide)
          · exact absurd (w1.symm.trans w2) (by decide)
          · exact absurd (w1.symm.trans w2) (by decide)
        · rcases hw' with ⟨w2, rfl⟩ | ⟨w2, rfl⟩ | ⟨w2, rfl⟩ | ⟨w2, rfl⟩ | ⟨w2, rfl⟩ | ⟨w2, rfl⟩ | ⟨w2, rfl⟩ | ⟨w2, rfl⟩ | ⟨w2, rfl⟩
          · exact absurd (w1.symm.trans w2) (by decide)
          · rw [rz_en hP hE hlim hq, hz.1.2]
          · exact absurd (w1.symm.trans w2) (by decide)
          · exact absurd (w1.symm.trans w2) (by decide)
          · exact absurd (w1.symm.trans w2) (by decide)
          · exact absurd (w1.symm.trans w2) (by decide)
          · exact absurd (w1.symm.trans w2) (by decide)
          · exact absurd (w1.symm.trans w2) (by decide)
          · exact absurd (w1.symm.trans w2) (by decide)
        · rcases hw' with ⟨w2, rfl⟩ | ⟨w2, rfl⟩ | ⟨w2, rfl⟩ | ⟨w2, rfl⟩ | ⟨w2, rfl⟩ | ⟨w2, rfl⟩ | ⟨w2, rfl⟩ | ⟨w2, rfl⟩ | ⟨w2, rfl⟩
          · exact absurd (w1.symm.trans w2) (by decide)
          · exact absurd (w1.symm.trans w2) (by decide)
          · exact (hL.2.2.2.2.2.2.2.2.1.symm.trans (congrFun (hq 37 (by omega) (by omega)) 3).symm)
          · exact absurd (w1.symm.trans w2) (by decide)
          · exact absurd (w1.symm.trans w2) (by decide)
          · exact absurd (w1.symm.trans w2) (by decide)
          · exact absurd (w1.symm.trans w2) (by decide)
          · exact absurd (w1.symm.trans w2) (by decide)
          · exact absurd (w1.symm.trans w2) (by decide)
        · rcases hw' with ⟨w2, rfl⟩ | ⟨w2, rfl⟩ | ⟨w2, rfl⟩ | ⟨w2, rfl⟩ | ⟨w2, rfl⟩ | ⟨w2, rfl⟩ | ⟨w2, rfl⟩ | ⟨w2, rfl⟩ | ⟨w2, rfl⟩
          · exact absurd (w1.symm.trans w2) (by decide)
          · exact absurd (w1.symm.trans w2) (by decide)
          · exact absurd (w1.symm.trans w2) (by decide)
          · refine sm_congr (fun b hb => ?_)
            rw [rz_pd hP hE hlim hq b, (hz.2 b hb).2.2.2.2.2.2]
          · exact absurd (w1.symm.trans w2) (by decide)
          · exact absurd (w1.symm.trans w2) (by decide)
          · exact absurd (w1.symm.trans w2) (by decide)
          · exact absurd (w1.symm.trans w2) (by decide)
          · exact absurd (w1.symm.trans w2) (by decide)
        · rcases hw' with ⟨w2, rfl⟩ | ⟨w2, rfl⟩ | ⟨w2, rfl⟩ | ⟨w2, rfl⟩ | ⟨w2, rfl⟩ | ⟨w2, rfl⟩ | ⟨w2, rfl⟩ | ⟨w2, rfl⟩ | ⟨w2, rfl⟩
          · exact absurd (w1.symm.trans w2) (by decide)
          · exact absurd (w1.symm.trans w2) (by decide)
          · exact absurd (w1.symm.trans w2) (by decide)
          · exact absurd (w1.symm.trans w2) (by decide)
          · refine sm_congr (fun b hb => ?_)
            rw [rz_bb hP hE hlim hq b, rz_jb hP hE hlim hq b, (hz.2 b hb).2.2.2.1, (hz.2 b hb).2.2.2.2.1]
            simp only [nI6 (hbb b).1, nI5 (hbb b).2]
          · exact absurd (w1.symm.trans w2) (by decide)
          · exact absurd (w1.symm.trans w2) (by decide)
          · exact absurd (w1.symm.trans w2) (by decide)
          · exact absurd (w1.symm.trans w2) (by decide)
        · rcases hw' with ⟨w2, rfl⟩ | ⟨w2, rfl⟩ | ⟨w2, rfl⟩ | ⟨w2, rfl⟩ | ⟨w2, rfl⟩ | ⟨w2, rfl⟩ | ⟨w2, rfl⟩ | ⟨w2, rfl⟩ | ⟨w2, rfl⟩
          · exact absurd (w1.symm.trans w2) (by decide)
          · exact absurd (w1.symm.trans w2) (by decide)
          · exact absurd (w1.symm.trans w2) (by decide)
          · exact absurd (w1.symm.trans w2) (by decide)
          · exact absurd (w1.symm.trans w2) (by decide)
          · refine sm_congr (fun b hb => ?_)
            rw [hq 39 (by omega) (by omega), hq 40 (by omega) (by omega), hq 41 (by omega) (by omega), hq 44 (by omega) (by omega), hq 45 (by omega) (by omega), e39, e40, e41, e44, e45, (hz.2 b hb).1, (hz.2 b hb).2.1]
          · exact absurd (w1.symm.trans w2) (by decide)
          · exact absurd (w1.symm.trans w2) (by decide)
          · exact absurd (w1.symm.trans w2) (by decide)
        · rcases hw' with ⟨w2, rfl⟩ | ⟨w2, rfl⟩ | ⟨w2, rfl⟩ | ⟨w2, rfl⟩ | ⟨w2, rfl⟩ | ⟨w2, rfl⟩ | ⟨w2, rfl⟩ | ⟨w2, rfl⟩ | ⟨w2, rfl⟩
          · exact absurd (w1.symm.trans w2) (by decide)
          · exact absurd (w1.symm.trans w2) (by decide)
          · exact absurd (w1.symm.trans w2) (by decide)
          · exact absurd (w1.symm.trans w2) (by decide)
          · exact absurd (w1.symm.trans w2) (by decide)
          · exact absurd (w1.symm.trans w2) (by decide)
          · refine sm_congr (fun b hb => ?_)
            rw [rz_fm hE hq b, (hz.2 b hb).2.2.1]
          · exact absurd (w1.symm.trans w2) (by decide)
          · exact absurd (w1.symm.trans w2) (by decide)
        · rcases hw' with ⟨w2, rfl⟩ | ⟨w2, rfl⟩ | ⟨w2, rfl⟩ | ⟨w2, rfl⟩ | ⟨w2, rfl⟩ | ⟨w2, rfl⟩ | ⟨w2, rfl⟩ | ⟨w2, rfl⟩ | ⟨w2, rfl⟩
          · exact absurd (w1.symm.trans w2) (by decide)
          · exact absurd (w1.symm.trans w2) (by decide)
          · exact absurd (w1.symm.trans w2) (by decide)
          · exact absurd (w1.symm.trans w2) (by decide)
          · exact absurd (w1.symm.trans w2) (by decide)
          · exact absurd (w1.symm.trans w2) (by decide)
          · exact absurd (w1.symm.trans w2) (by decide)
          · exact (hL.2.2.2.2.2.2.2.2.2.1.symm.trans (congrFun (hq 37 (by omega) (by omega)) 1).symm)
          · exact absurd (w1.symm.trans w2) (by decide)
        · rcases hw' with ⟨w2, rfl⟩ | ⟨w2, rfl⟩ | ⟨w2, rfl⟩ | ⟨w2, rfl⟩ | ⟨w2, rfl⟩ | ⟨w2, rfl⟩ | ⟨w2, rfl⟩ | ⟨w2, rfl⟩ | ⟨w2, rfl⟩
          · exact absurd (w1.symm.trans w2) (by decide)
          · exact absurd (w1.symm.trans w2) (by decide)
          · exact absurd (w1.symm.trans w2) (by decide)
          · exact absurd (w1.symm.trans w2) (by decide)
          · exact absurd (w1.symm.trans w2) (by decide)
          · exact absurd (w1.symm.trans w2) (by decide)
          · exact absurd (w1.symm.trans w2) (by decide)
          · exact absurd (w1.symm.trans w2) (by decide)
          · exact (hlim.symm.trans (congrFun (hq 37 (by omega) (by omega)) 2).symm)
      · refine absurd ?_ z
        rcases hw with ⟨w1, -⟩ | ⟨w1, -⟩ | ⟨w1, -⟩ | ⟨w1, -⟩ | ⟨w1, -⟩ | ⟨w1, -⟩ | ⟨w1, -⟩ | ⟨w1, -⟩ | ⟨w1, -⟩ <;> rw [w1] <;> decide
    · rcases h2 with ⟨z, -, -⟩ | ⟨-, rfl⟩
      · exact absurd z zp
      · exact ⟨by rw [fx_u_at, if_pos ⟨rfl, rfl⟩], fun z => absurd z (by decide), hI.keep (Nat.le_succ c) (fun a h => fx_u_ne (by omega)) (fun j h => by rw [fx_u_at, if_neg (by omega)])⟩
  refine G_iload F dL_law_1351 rfl ?_
  refine G_icmp_eq (tgt := 1358) F dL_law_1353 (by decide) (fun g1 => ?_) (fun g1 => absurd key.1 g1)
  refine G_iload F dL_law_1358 rfl ?_
  refine G_if_ne (tgt := 1375) F dL_law_1360 (by decide) (fun g2 => ?_) (fun g2 => ?_)
  · refine G_goto (tgt := 1627) F dL_law_1375 (by decide) ?_
    refine G_drop F 6 ?_
    refine G_drop F 7 ?_
    simp only [List.set_cons_zero, List.set_cons_succ]
    exact next s1 M2 key.2.2
  · refine G_aload_n F dL_law_1363 rfl ?_
    refine G_iconst (v := 0) F dL_law_1364 rfl ?_
    refine G_lald F dL_law_1365 (k := 64) rfl vp_in01 ?_
    rw [show M2 64 (Int32.toNatClampNeg 0) = r2 from key.2.1 g2]
    refine G_iload F dL_law_1366 rfl ?_
    refine G_i2l F dL_law_1368 ?_
    refine G_lcmp F dL_law_1369 ?_
    rw [lg_cmp_rfl]
    refine G_if_eq (tgt := 1375) F dL_law_1370 (by decide) (fun _ => ?_) (fun g3 => absurd rfl g3)
    refine G_goto (tgt := 1627) F dL_law_1375 (by decide) ?_
    refine G_drop F 6 ?_
    refine G_drop F 7 ?_
    simp only [List.set_cons_zero, List.set_cons_succ]
    exact next s1 M2 key.2.2
set_option maxRecDepth 20000 in
theorem k_21 {X : fx_C} {l : Launch} {Z : fx_Z} {ad : Nat → Nat} {b n i c cx sx : Nat} {xs : Nat → Int32} {sw : Bool} {M : fx_M} (F : fx_F X l Z room_1 RL cL_law) (hl : l.stackTraces = false) (hs : fx_Scr X b n xs) (hn : n < 2 ^ 31) (hi : i + 4 < n) (hc : c ≤ 600) (hce : cx + 4 ≤ 603072) (hsl : sx + 24 ≤ 7202922) (hI : Iv c sw M) (hE : Eqs M) (next : ∀ (s1 : Bool) (M2 : fx_M), Iv (c + 1) s1 M2 → GG X ad 1627 [some (.ref b), some (.ref (ad 0)), some (.ref (ad 37)), some (.ref (ad 64)), some (.ref (ad 65)), some (.int (nI i)), none, none, none] [] (cx + 4) (sx + 24) (w_S s1) M2) : GG X ad 1378 [some (.ref b), some (.ref (ad 0)), some (.ref (ad 37)), some (.ref (ad 64)), some (.ref (ad 65)), some (.int (nI i)), none, none, none] [] cx sx (w_S sw) M := by
  obtain ⟨N, sz, hP, ⟨hot, al, rw, pos, hL⟩, ⟨sl, kp, hH⟩, ⟨len, hT⟩, ⟨np, hQ⟩, hlim⟩ := id hI
  obtain ⟨e38, e39, e40, e41, e42, e43, e44, e45, e46⟩ := id hE
  have hN16 := hP.2.2.1
  have hN1 := hP.2.1
  refine G_aload_n F dL_law_1378 rfl ?_
  refine G_qV F (k := 0) mv_L_173 dL_law_1379 (s_cycles hl ad sw (m_C ++ o_C) M (N := N) (yH_of hP hL) hL.2.2.2.1 hL.2.2.2.2.1 hL.2.2.2.2.2.1) (As := []) rfl rfl rfl rfl (Nat.le_of_ble_eq_true rfl) ⟨Nat.le_of_ble_eq_true rfl, Nat.le_of_ble_eq_true rfl, by show cx + 4 ≤ 603072; omega, by show sx + 24 ≤ 7202922; omega⟩ (fun _ _ q => q.elim) (fun v1 M1 h1 => ?_)
  obtain ⟨r, rfl, q1⟩ := h1
  have hq : ∀ a, 37 ≤ a → a < 64 → M1 a = M a := by
    intro a h1 h2
    exact q1.1.1 a (by simp only [List.mem_cons, List.not_mem_nil, or_false]; omega)
  show GG X ad 1382 [some (.ref b), some (.ref (ad 0)), some (.ref (ad 37)), some (.ref (ad 64)), some (.ref (ad 65)), some (.int (nI i)), none, none, none] [.int r] (cx + 4) (sx + 24) (w_S sw) M1
  refine G_aload_n F dL_law_1382 rfl ?_
  refine G_vI F (k := 37) mv_L_176 dL_law_1383 (t_cycles hl _ sw o_C M1 (N := N) (vH_of hP hL hE hq) (zw_of hP hE hq)) (As := []) rfl rfl rfl rfl (Nat.le_of_ble_eq_true rfl) ⟨Nat.le_of_ble_eq_true rfl, Nat.le_of_ble_eq_true rfl, by show cx + 4 ≤ 603072; omega, by show sx + 24 ≤ 7202922; omega⟩ (fun r2 M2 h2 => ?_)
  have key : r = r2 ∧ Iv (c + 1) sw M2 := by
    obtain ⟨hy, rfl⟩ := q1
    obtain ⟨rfl, hv⟩ := h2
    refine ⟨?_, hI.keep (Nat.le_succ c) (fun a h => by rw [hv.1 a (by simp only [List.mem_cons, List.not_mem_nil, or_false]; omega), fx_u_ne (by omega)]; exact hy.1 a (by simp only [List.mem_cons, List.not_mem_nil, or_false]; omega)) (fun j h => by rw [hv.2 j (by omega) (by omega), fx_u_at, if_neg (by omega)]; exact congrFun (hy.1 37 (by decide)) j)⟩
    rw [y_S_cy hN16 hL.2.2.2.2.2.2.1 hy, rz_cy hP hE hlim hq]
  exact G_icmp_eq (tgt := 1627) F dL_law_1386 (by decide) (fun _ => next sw M2 key.2) (fun g1 => absurd key.1 g1)
set_option maxRecDepth 20000 in
theorem k_22 {X : fx_C} {l : Launch} {Z : fx_Z} {ad : Nat → Nat} {b n i c cx sx : Nat} {xs : Nat → Int32} {sw : Bool} {M : fx_M} (F : fx_F X l Z room_1 RL cL_law) (hl : l.stackTraces = false) (hs : fx_Scr X b n xs) (hn : n < 2 ^ 31) (hi : i + 4 < n) (hc : c ≤ 600) (hce : cx + 4 ≤ 603072) (hsl : sx + 24 ≤ 7202922) (hI : Iv c sw M) (hE : Eqs M) (next : ∀ (s1 : Bool) (M2 : fx_M), Iv (c + 1) s1 M2 → GG X ad 1627 [some (.ref b), some (.ref (ad 0)), some (.ref (ad 37)), some (.ref (ad 64)), some (.ref (ad 65)), some (.int (nI i)), none, none, none] [] (cx + 4) (sx + 24) (w_S s1) M2) : GG X ad 1391 [some (.ref b), some (.ref (ad 0)), some (.ref (ad 37)), some (.ref (ad 64)), some (.ref (ad 65)), some (.int (nI i)), none, none, none] [] cx sx (w_S sw) M := by
  obtain ⟨N, sz, hP, ⟨hot, al, rw, pos, hL⟩, ⟨sl, kp, hH⟩, ⟨len, hT⟩, ⟨np, hQ⟩, hlim⟩ := id hI
  obtain ⟨e38, e39, e40, e41, e42, e43, e44, e45, e46⟩ := id hE
  have hN16 := hP.2.2.1
  have hN1 := hP.2.1
  refine G_aload_n F dL_law_1391 rfl ?_
  refine G_aload F dL_law_1392 rfl ?_
  refine G_callX F mx_L_177 dL_law_1394 (w_meanCycles hl ad  (by decide) (CT.mono (P' := fun v a s m => a = ad ∧ s = w_S sw ∧ ∃ x y : Int32, v = some (.double (fx_dd x y)) ∧ (fun (x y : Int32) (m : fx_M) => sm (M 7) N ≠ 0 ∧ y_S N hot al rw pos sz (M 0 7) M m ∧ x = sm (fun b => if m 13 b < nI N then pf_cc (M 3) (M 4) (M 5) (M 8) (M 9) b (m 14 b) else 0) N + sm (fun b => if pf_pn (m 14) (m 19) b then pf_wt (M 4) (M 5) (M 8) (M 9) b (m 14 b) else 0) N ∧ y = sm (M 7) N) x y m) (s_meanCycles hl ad sw (m_C ++ o_C) M (N := N) (yH_of hP hL) hL.2.2.2.1 hL.2.2.2.2.1 hL.2.2.2.2.2.1) (fun v a s m q => by obtain ⟨q1, q2, x, q3, q4, q5, q6⟩ := q; exact ⟨q1, q2, x, _, q3, q4, q5, q6, rfl⟩) (fun _ _ q => q)) (fun E m h => h.2.1)) (As := [.ref (ad 0), .ref (ad 65)]) rfl rfl (Nat.le_of_ble_eq_true rfl) ⟨Nat.le_of_ble_eq_true rfl, Nat.le_of_ble_eq_true rfl, by show cx + 4 ≤ 603072; omega, by show sx + 24 ≤ 7202922; omega⟩ (fun _ _ q => q.elim) (fun v1 a1 S1 M1 h1 => ?_)
  obtain ⟨ea, k, s1, rfl, rfl, q1⟩ := h1
  subst ea
  have hq : ∀ a, 37 ≤ a → a < 64 → M1 a = M a := by
    rcases q1 with ⟨-, -, x, y, m0, ⟨-, hy, -⟩, rfl⟩ | ⟨-, -, e, -⟩
    · intro a h1 h2
      rw [fx_u_ne (by omega), fx_u_ne (by omega)]; exact hy.1 a (by simp only [List.mem_cons, List.not_mem_nil, or_false]; omega)
    · intro a _ _; rw [e]
  skip
  refine G_istore F dL_law_1397 rfl rfl (Nat.le_of_ble_eq_true rfl) ?_
  simp only [List.set_cons_zero, List.set_cons_succ]
  refine G_aload_n F dL_law_1399 rfl ?_
  refine G_qV F (k := 37) mv_L_180 dL_law_1400 (t_meanCycles hl _ s1 o_C M1 (N := N) (vH_of hP hL hE hq) (zw_of hP hE hq)) (As := []) rfl rfl rfl rfl (Nat.le_of_ble_eq_true rfl) ⟨Nat.le_of_ble_eq_true rfl, Nat.le_of_ble_eq_true rfl, by show cx + 4 ≤ 603072; omega, by show sx + 24 ≤ 7202922; omega⟩ (fun _ _ q => q.elim) (fun v2 M2 h2 => ?_)
  obtain ⟨y2, rfl⟩ : ∃ y2 : UInt64, v2 = some (.double y2) := by
    rcases h2 with ⟨-, z, -⟩ | ⟨-, ⟨x, z⟩, -⟩
    · exact ⟨_, z⟩
    · exact ⟨x, z⟩
  refine G_dstore F dL_law_1403 rfl rfl (Nat.le_of_ble_eq_true rfl) ?_
  simp only [List.set_cons_zero, List.set_cons_succ]
  refine G_aload_n F dL_law_1405 rfl ?_
  refine G_vI F (k := 37) mv_L_106 dL_law_1406 (t_thrown hl _ s1 o_C M2) (As := []) rfl rfl rfl rfl (Nat.le_of_ble_eq_true rfl) ⟨Nat.le_of_ble_eq_true rfl, Nat.le_of_ble_eq_true rfl, by show cx + 4 ≤ 603072; omega, by show sx + 24 ≤ 7202922; omega⟩ (fun r3 M3 h3 => ?_)
  rw [h3.1, h3.2]
  have key : M2 37 13 = k ∧ (k = 0 → fx_dd (M2 65 0) (M2 65 1) = y2) ∧ Iv (c + 1) s1 M2 := by
    have es : sm (M1 43) N = sm (M 7) N := by rw [hq 43 (by omega) (by omega), e43]
    have hy2 : ∀ z : UInt64, some (Value.double y2) = some (Value.double z) → y2 = z := fun z h => by
      have h3 := Option.some.inj h
      injection h3
    rw [es, rz_cy hP hE hlim hq] at h2
    rcases q1 with ⟨rfl, rfl, x, y, m0, ⟨hne, hy, ex, ey⟩, rfl⟩ | ⟨rfl, rfl, rfl, -, z⟩
    · rcases h2 with ⟨-, hv2, hv⟩ | ⟨z, -, -⟩
      · refine ⟨by rw [hv.2 13 (by decide) (by decide), fx_u_at, if_pos ⟨rfl, rfl⟩], fun _ => ?_, hI.keep (Nat.le_succ c) (fun a h => by rw [hv.1 a (by simp only [List.mem_cons, List.not_mem_nil, or_false]; omega), fx_u_ne (by omega), fx_u_ne (by omega), fx_u_ne (by omega)]; exact hy.1 a (by simp only [List.mem_cons, List.not_mem_nil, or_false]; omega)) (fun j h => by rw [hv.2 j (by omega) (by omega), fx_u_at, if_neg (by omega), fx_u_ne (by decide), fx_u_ne (by decide)]; exact congrFun (hy.1 37 (by decide)) j)⟩
        have e65 : M2 65 = (fx_u (fx_u m0 65 0 x) 65 1 y) 65 := (hv.1 65 (by decide)).trans (fx_u_ne (by decide))
        rw [hy2 _ hv2, e65, fx_u_at, fx_u_at, fx_u_at, if_neg (fun z => absurd z.2 (by decide)), if_pos ⟨rfl, rfl⟩, if_pos ⟨rfl, rfl⟩, ex, ey, y_S_cy hN16 hL.2.2.2.2.2.2.1 hy]
      · exact absurd z hne
    · rcases h2 with ⟨z', -, -⟩ | ⟨-, -, rfl⟩
      · exact absurd z z'
      · exact ⟨by rw [fx_u_at, if_pos ⟨rfl, rfl⟩], fun z => absurd z (by decide), hI.keep (Nat.le_succ c) (fun a h => fx_u_ne (by omega)) (fun j h => by rw [fx_u_at, if_neg (by omega)])⟩
  refine G_iload F dL_law_1409 rfl ?_
  refine G_icmp_eq (tgt := 1416) F dL_law_1411 (by decide) (fun g1 => ?_) (fun g1 => absurd key.1 g1)
  refine G_iload F dL_law_1416 rfl ?_
  refine G_if_ne (tgt := 1453) F dL_law_1418 (by decide) (fun g2 => ?_) (fun g2 => ?_)
  · refine G_goto (tgt := 1627) F dL_law_1453 (by decide) ?_
    refine G_drop F 6 ?_
    refine G_drop F 7 ?_
    simp only [List.set_cons_zero, List.set_cons_succ]
    exact next s1 M2 key.2.2
  · refine G_aload F dL_law_1421 rfl ?_
    refine G_iconst (v := 0) F dL_law_1423 rfl ?_
    refine G_dald F dL_law_1424 (k := 65) rfl vp_in01 ?_
    rw [key.2.1 g2]
    refine G_dload F dL_law_1425 rfl ?_
    refine G_dcmp F dL_law_1427 ?_
    refine G_if_eq (tgt := 1453) F dL_law_1428 (by decide) (fun _ => ?_) (fun g3 => ?_)
    · refine G_goto (tgt := 1627) F dL_law_1453 (by decide) ?_
      refine G_drop F 6 ?_
      refine G_drop F 7 ?_
      simp only [List.set_cons_zero, List.set_cons_succ]
      exact next s1 M2 key.2.2
    refine G_aload F dL_law_1431 rfl ?_
    refine G_iconst (v := 0) F dL_law_1433 rfl ?_
    refine G_dald F dL_law_1434 (k := 65) rfl vp_in01 ?_
    rw [key.2.1 g2]
    refine G_aload F dL_law_1435 rfl ?_
    refine G_iconst (v := 0) F dL_law_1437 rfl ?_
    refine G_dald F dL_law_1438 (k := 65) rfl vp_in01 ?_
    try rw [key.2.1 g2]
    refine G_dcmp F dL_law_1439 ?_
    refine G_if_eq (tgt := 1451) F dL_law_1440 (by decide) (fun g4 => absurd g4 g3) (fun g4 => ?_)
    refine G_dload F dL_law_1443 rfl ?_
    refine G_dload F dL_law_1445 rfl ?_
    refine G_dcmp F dL_law_1447 ?_
    refine G_if_ne (tgt := 1453) F dL_law_1448 (by decide) (fun _ => ?_) (fun g5 => absurd g5 g3)
    refine G_goto (tgt := 1627) F dL_law_1453 (by decide) ?_
    refine G_drop F 6 ?_
    refine G_drop F 7 ?_
    simp only [List.set_cons_zero, List.set_cons_succ]
    exact next s1 M2 key.2.2
set_option maxRecDepth 20000 in
theorem k_23 {X : fx_C} {l : Launch} {Z : fx_Z} {ad : Nat → Nat} {b n i c cx sx : Nat} {xs : Nat → Int32} {sw : Bool} {M : fx_M} (F : fx_F X l Z room_1 RL cL_law) (hl : l.stackTraces = false) (hs : fx_Scr X b n xs) (hn : n < 2 ^ 31) (hi : i + 4 < n) (hc : c ≤ 600) (hce : cx + 4 ≤ 603072) (hsl : sx + 24 ≤ 7202922) (hI : Iv c sw M) (hE : Eqs M) (next : ∀ (s1 : Bool) (M2 : fx_M), Iv (c + 1) s1 M2 → GG X ad 1627 [some (.ref b), some (.ref (ad 0)), some (.ref (ad 37)), some (.ref (ad 64)), some (.ref (ad 65)), some (.int (nI i)), none, none, none] [] (cx + 4) (sx + 24) (w_S s1) M2) : GG X ad 1456 [some (.ref b), some (.ref (ad 0)), some (.ref (ad 37)), some (.ref (ad 64)), some (.ref (ad 65)), some (.int (nI i)), none, none, none] [] cx sx (w_S sw) M := by
  obtain ⟨N, sz, hP, ⟨hot, al, rw, pos, hL⟩, ⟨sl, kp, hH⟩, ⟨len, hT⟩, ⟨np, hQ⟩, hlim⟩ := id hI
  obtain ⟨e38, e39, e40, e41, e42, e43, e44, e45, e46⟩ := id hE
  have hN16 := hP.2.2.1
  have hN1 := hP.2.1
  obtain ⟨cy, hcy⟩ : ∃ cy : Nat → Int32, ∀ al, cy al = z_cy (M 3) (M 4) (M 5) (M 7) (M 8) (M 9) (M 1 9) N hot al rw pos sz (M 0 7) := ⟨_, fun _ => rfl⟩
  obtain ⟨en, hen⟩ : ∃ en : Nat → Int32, ∀ al, en al = nI (z_en (M 3) (M 4) (M 5) (M 7) (M 1 9) N hot al rw pos sz (M 0 7)) := ⟨_, fun _ => rfl⟩
  refine G_aload_n F dL_law_1456 rfl ?_
  refine G_qV F (k := 0) mv_L_181 dL_law_1457 (s_bestAlignment hl ad sw (m_C ++ o_C) M (N := N) cy en (yH_of hP hL) hcy hen) (As := []) rfl rfl rfl rfl (Nat.le_of_ble_eq_true rfl) ⟨Nat.le_of_ble_eq_true rfl, Nat.le_of_ble_eq_true rfl, by show cx + 4 ≤ 603072; omega, by show sx + 24 ≤ 7202922; omega⟩ (fun _ _ q => q.elim) (fun v1 M1 h1 => ?_)
  obtain ⟨r, rfl, q1⟩ := h1
  have hq : ∀ a, 37 ≤ a → a < 64 → M1 a = M a := by
    intro a h1 h2
    exact q1.1 a (by simp only [List.mem_cons, List.not_mem_nil, or_false]; omega)
  show GG X ad 1460 [some (.ref b), some (.ref (ad 0)), some (.ref (ad 37)), some (.ref (ad 64)), some (.ref (ad 65)), some (.int (nI i)), none, none, none] [.int r] (cx + 4) (sx + 24) (w_S sw) M1
  refine G_aload_n F dL_law_1460 rfl ?_
  refine G_vI F (k := 37) mv_L_184 dL_law_1461 (t_bestAlignment hl _ sw o_C M1 (N := N) cy en (vH_of hP hL hE hq) (zw_of hP hE hq) (fun al => (hcy al).trans (rz_cy hP hE hlim hq).symm) (fun al => (hen al).trans (congrArg nI (rz_en hP hE hlim hq).symm))) (As := []) rfl rfl rfl rfl (Nat.le_of_ble_eq_true rfl) ⟨Nat.le_of_ble_eq_true rfl, Nat.le_of_ble_eq_true rfl, by show cx + 4 ≤ 603072; omega, by show sx + 24 ≤ 7202922; omega⟩ (fun r2 M2 h2 => ?_)
  have key : r = r2 ∧ Iv (c + 1) sw M2 := by
    refine ⟨q1.2.trans h2.2.symm, hI.keep (Nat.le_succ c) (fun a h => by rw [h2.1.1 a (by simp only [List.mem_cons, List.not_mem_nil, or_false]; omega), fx_u_ne (by omega)]; exact q1.1 a (by simp only [List.mem_cons, List.not_mem_nil, or_false]; omega)) (fun j h => by rw [h2.1.2 j (by omega) (by omega), fx_u_at, if_neg (by omega)]; exact congrFun (q1.1 37 (by decide)) j)⟩
  exact G_icmp_eq (tgt := 1627) F dL_law_1464 (by decide) (fun _ => next sw M2 key.2) (fun g1 => absurd key.1 g1)
set_option maxRecDepth 20000 in
theorem k_8 {X : fx_C} {l : Launch} {Z : fx_Z} {ad : Nat → Nat} {b n i c cx sx : Nat} {xs : Nat → Int32} {sw : Bool} {M : fx_M} (F : fx_F X l Z room_1 RL cL_law) (hl : l.stackTraces = false) (hs : fx_Scr X b n xs) (hn : n < 2 ^ 31) (hi : i + 4 < n) (hc : c ≤ 600) (hce : cx + 4 ≤ 603072) (hsl : sx + 24 ≤ 7202922) (hI : Iv c sw M) (hE : Eqs M) (next : ∀ (s1 : Bool) (M2 : fx_M), Iv (c + 1) s1 M2 → GG X ad 1627 [some (.ref b), some (.ref (ad 0)), some (.ref (ad 37)), some (.ref (ad 64)), some (.ref (ad 65)), some (.int (nI i)), none, none, none] [] (cx + 4) (sx + 24) (w_S s1) M2) : GG X ad 688 [some (.ref b), some (.ref (ad 0)), some (.ref (ad 37)), some (.ref (ad 64)), some (.ref (ad 65)), some (.int (nI i)), none, none, none] [] cx sx (w_S sw) M := by
  obtain ⟨N, sz, hP, ⟨hot, al, rw, pos, hL⟩, ⟨sl, kp, hH⟩, ⟨len, hT⟩, ⟨np, hQ⟩, hlim⟩ := id hI
  obtain ⟨e38, e39, e40, e41, e42, e43, e44, e45, e46⟩ := id hE
  have hN16 := hP.2.2.1
  have hN1 := hP.2.1
  have hcd := cnd sw
  have hv := hP.2.2.2.2.1
  refine G_aload_n F dL_law_688 rfl ?_
  refine G_aload_n F dL_law_689 rfl ?_
  refine G_iload F dL_law_690 rfl ?_
  refine G_iconst (v := nI 1) F dL_law_692 (by decide) ?_
  refine G_iadd F dL_law_693 ?_
  rw [nI_add]
  refine G_sld F hs dL_law_694 (by omega) hn ?_
  refine G_aload_n F dL_law_695 rfl ?_
  refine G_callX F mx_L_132 dL_law_696 (w_runLayout hl ad ((xs (i + 1))) (by decide) (CT.mono (P' := fun v a s m => a = ad ∧ s = w_S (!sw) ∧ ∃ r : Int32, v = some (.int r) ∧ (fun (r : Int32) (m : fx_M) => ∃ lim L : Nat, 1 ≤ lim ∧ lim ≤ 500 ∧ (xs (i + 1)) = nI lim ∧ xok (M 3) (M 4) (M 5) (M 6) lim L ∧ r = sm (fun j => pf_ed (M 3) (tr (M 3) (M 4) (M 5) (M 6) j).1 (nI (tr (M 3) (M 4) (M 5) (M 6) (j + 1)).1) (m 14 (tr (M 3) (M 4) (M 5) (M 6) j).1) + (if nI (tr (M 3) (M 4) (M 5) (M 6) (j + 1)).1 = m 14 (tr (M 3) (M 4) (M 5) (M 6) j).1 ∧ 0 < m 19 (tr (M 3) (M 4) (M 5) (M 6) (j + 1)).1 then 1 else 0)) (L - 1) ∧ (∃ M2, fr [27, 30, (cond sw 28 29)] M M2 ∧ y_S N hot al rw pos sz (M 0 7) M2 m) ∧ m 27 4 = nI L ∧ ∀ j, j < L → m (cond sw 28 29) j = nI (tr (M 3) (M 4) (M 5) (M 6) j).1) r m) (s_runLayout hl ad sw (m_C ++ o_C) M (N := N) (xs (i + 1)) (yH_of hP hL) hL.2.2.2.1 hL.2.2.2.2.1 hL.2.2.2.2.2.1 hN1) (fun v a s m q => by obtain ⟨q1, q2, lim, L, q3, q4, q5, q6, q7, q8, q9, q10⟩ := q; exact ⟨q1, q2, _, q10, lim, L, q3, q4, q5, q6, rfl, q7, q8, q9⟩) (fun _ _ q => q)) (fun E m h => h.imp (fun q => q.1) (fun q => q.1))) (As := [.ref (ad 0), .int (xs (i + 1)), .ref (ad 64)]) rfl rfl (Nat.le_of_ble_eq_true rfl) ⟨Nat.le_of_ble_eq_true rfl, Nat.le_of_ble_eq_true rfl, by show cx + 4 ≤ 603072; omega, by show sx + 24 ≤ 7202922; omega⟩ (fun _ _ q => q.elim) (fun v1 a1 S1 M1 h1 => ?_)
  obtain ⟨ea, k, s1, rfl, rfl, q1⟩ := h1
  subst ea
  have hq : ∀ a, 37 ≤ a → a < 64 → M1 a = M a := by
    rcases q1 with ⟨-, -, r, m0, ⟨lim, n', -, -, -, -, -, ⟨M3, hf3, hy⟩, -⟩, rfl⟩ | ⟨-, -, z⟩ | ⟨-, -, z⟩
    · intro a h1 h2
      rw [fx_u_ne (by omega), hy.1 a (by simp only [List.mem_cons, List.not_mem_nil, or_false]; omega)]; exact hf3 a (by simp only [List.mem_cons, List.not_mem_nil, or_false]; omega)
    · intro a h1 h2
      rcases z with ⟨-, e, -⟩ | ⟨q, -⟩
      · rw [e]
      · exact absurd q x3
    · intro a h1 h2
      rcases z with ⟨q, -⟩ | ⟨-, lim, -, -, -, -, hf⟩
      · exact absurd q.symm x3
      · exact hf a (by simp only [List.mem_cons, List.not_mem_nil, or_false]; omega)
  skip
  refine G_istore F dL_law_699 rfl rfl (Nat.le_of_ble_eq_true rfl) ?_
  simp only [List.set_cons_zero, List.set_cons_succ]
  refine G_aload_n F dL_law_701 rfl ?_
  refine G_aload_n F dL_law_702 rfl ?_
  refine G_iload F dL_law_703 rfl ?_
  refine G_iconst (v := nI 1) F dL_law_705 (by decide) ?_
  refine G_iadd F dL_law_706 ?_
  rw [nI_add]
  refine G_sld F hs dL_law_707 (by omega) hn ?_
  refine G_vI F (k := 37) mv_L_134 dL_law_708 (t_runLayout hl _ s1 o_C M1 (N := N) (xs (i + 1)) (vH_of hP hL hE hq)) (As := [.int (xs (i + 1))]) rfl rfl rfl rfl (Nat.le_of_ble_eq_true rfl) ⟨Nat.le_of_ble_eq_true rfl, Nat.le_of_ble_eq_true rfl, by show cx + 4 ≤ 603072; omega, by show sx + 24 ≤ 7202922; omega⟩ (fun r2 M2 h2 => ?_)
  refine G_istore F dL_law_711 rfl rfl (Nat.le_of_ble_eq_true rfl) ?_
  simp only [List.set_cons_zero, List.set_cons_succ]
  refine G_aload_n F dL_law_713 rfl ?_
  refine G_vI F (k := 37) mv_L_106 dL_law_714 (t_thrown hl _ s1 o_C M2) (As := []) rfl rfl rfl rfl (Nat.le_of_ble_eq_true rfl) ⟨Nat.le_of_ble_eq_true rfl, Nat.le_of_ble_eq_true rfl, by show cx + 4 ≤ 603072; omega, by show sx + 24 ≤ 7202922; omega⟩ (fun r3 M3 h3 => ?_)
  rw [h3.1, h3.2]
  have key : M2 37 13 = k ∧ (k = 0 → M2 64 0 = r2) ∧ Iv (c + 1) s1 M2 := by
    have hrp : ∀ x, r_pd N hot al rw pos sz M1 x = z_pd (M 3) (M 4) (M 5) (M 7) (M 1 9) N hot al rw pos sz (M 0 7) x := fun x => rz_pd hP hE hlim hq x
    have t39 : M1 39 = M 3 := (hq 39 (by omega) (by omega)).trans e39
    have t40 : M1 40 = M 4 := (hq 40 (by omega) (by omega)).trans e40
    have t41 : M1 41 = M 5 := (hq 41 (by omega) (by omega)).trans e41
    have t42 : M1 42 = M 6 := (hq 42 (by omega) (by omega)).trans e42
    rw [t39, t40, t41, t42] at h2
    rcases q1 with ⟨rfl, rfl, r, m0, ⟨lim, n', l1, l2, l3, ok, rfl, ⟨M3, hf3, hy⟩, f27, fp⟩, rfl⟩ | ⟨rfl, rfl, z⟩ | ⟨rfl, rfl, z⟩
    · have hz := (y_S_z hN16 hL.2.2.2.2.2.2.1 hy).2
      rw [hf3 1 (by simp only [List.mem_cons, List.not_mem_nil, or_false]; omega), hf3 3 (by simp only [List.mem_cons, List.not_mem_nil, or_false]; omega), hf3 4 (by simp only [List.mem_cons, List.not_mem_nil, or_false]; omega), hf3 5 (by simp only [List.mem_cons, List.not_mem_nil, or_false]; omega), hf3 7 (by simp only [List.mem_cons, List.not_mem_nil, or_false]; omega)] at hz
      rcases h2 with ⟨z, -⟩ | ⟨lim', n2, a1, a2, a3, ok2, rfl, g1, g13, g17, g37, g3⟩ | ⟨lim', a1, a2, a3, no, -⟩
      · rw [l3] at z; exact absurd (rng_t l1 l2) z
      · have el : lim = lim' := (nI_eq (by omega) (by omega)).mp (l3.symm.trans a3)
        subst el
        have en := xok_one ok ok2
        subst en
        have cc : ∀ a, a < 37 → M2 a = m0 a := fun a ha => (g1 a (by simp only [List.mem_cons, List.not_mem_nil, or_false]; omega)).trans (fx_u_ne (by omega))
        have ck : ∀ a, (a < 37 ∧ (a < 12 ∨ 20 ≤ a) ∧ a ≠ 27 ∧ a ≠ 30 ∧ a ≠ 28 ∧ a ≠ 29) → M2 a = M a := fun a h => ((cc a h.1).trans (hy.1 a (by simp only [List.mem_cons, List.not_mem_nil, or_false]; omega))).trans (hf3 a (by simp only [List.mem_cons, List.not_mem_nil, or_false]; omega))
        have cr : ∀ a, (37 < a ∧ a < 64 ∧ (a < 47 ∨ 56 ≤ a)) → M2 a = M a := fun a h => (g1 a (by simp only [List.mem_cons, List.not_mem_nil, or_false]; omega)).trans (hq a (by omega) (by omega))
        have c37 : ∀ j, (j ≠ 13 ∧ j ≠ 17 ∧ j ≠ 18 ∧ j ≠ 25 ∧ j ≠ 26) → M2 37 j = M 37 j := fun j h => (g37 j h.1 h.2.1 h.2.2.1 h.2.2.2.1 h.2.2.2.2).trans (congrFun (hq 37 (by omega) (by omega)) j)
        refine ⟨g13, fun _ => ?_, ?_⟩
        · rw [g1 64 (by decide), fx_u_at, if_pos ⟨rfl, rfl⟩]
          refine sm_congr (fun j hj => ?_)
          have j1 := xok_in hN16 hN1 hv ok j (by omega)
          have j2 := xok_in hN16 hN1 hv ok (j + 1) (by omega)
          rw [(hz _ j1).2.1, (hz _ j2).2.2.2.2.2.2, hrp]
        · refine ⟨N, sz, hP.keep (Nat.le_succ c) (fun a h1 h2 => ck a (by omega)) (fun a h1 h2 => cr a (by omega)) (c37 0 (by omega)), ⟨hot, al, rw, pos, hL.keep (ck 10 (by omega)) (ck 11 (by omega)) (cr 46 (by omega)) (c37 3 (by omega)) (c37 1 (by omega))⟩, ⟨sl, kp, hH.keep (ck 31 (by omega)) (ck 32 (by omega)) (ck 33 (by omega)) (ck 34 (by omega)) (cr 56 (by omega)) (cr 57 (by omega)) (cr 58 (by omega)) (c37 27 (by omega))⟩, ⟨len, hT.keep (ck 35 (by omega)) (ck 36 (by omega)) (cr 63 (by omega)) (c37 39 (by omega))⟩, ⟨n', by rw [cc 27 (by omega), f27], by have := ok.2.1; omega, ?_, fun j hj => ?_⟩, by rw [c37 2 (by omega), ck 0 (by omega)]; exact hlim⟩
          · rw [g17, cc 27 (by omega), f27]
          · rw [(g3 j hj).1, cnd2, cc _ (by omega), fp j hj]
      · have el : lim = lim' := (nI_eq (by omega) (by omega)).mp (l3.symm.trans a3)
        subst el
        exact (xok_no ok no).elim
    · rcases z with ⟨-, em, hn⟩ | ⟨q, -⟩
      · rcases h2 with ⟨-, rfl⟩ | ⟨lim', n2, a1, a2, a3, -⟩ | ⟨lim', a1, a2, a3, -⟩
        · rw [em]; exact ⟨by rw [fx_u_at, if_pos ⟨rfl, rfl⟩], fun z => absurd z (by decide), hI.keep (Nat.le_succ c) (fun a h => fx_u_ne (by omega)) (fun j h => by rw [fx_u_at, if_neg (by omega)])⟩
        · rw [a3] at hn; exact absurd (rng_t a1 a2) hn
        · rw [a3] at hn; exact absurd (rng_t a1 a2) hn
      · exact absurd q x3
    · rcases z with ⟨q, -⟩ | ⟨-, lim, l1, l2, l3, no, hf⟩
      · exact absurd q.symm x3
      · rcases h2 with ⟨z, -⟩ | ⟨lim', n2, a1, a2, a3, ok2, -⟩ | ⟨lim', a1, a2, a3, -, g1, g2, g3⟩
        · rw [l3] at z; exact absurd (rng_t l1 l2) z
        · have el : lim = lim' := (nI_eq (by omega) (by omega)).mp (l3.symm.trans a3)
          subst el
          exact (xok_no ok2 no).elim
        · have cc : ∀ a, (a ≠ 30 ∧ a ≠ cond s1 28 29 ∧ a ≠ 37 ∧ a ≠ 48 ∧ a ≠ 49 ∧ a ≠ 50) → M2 a = M a := fun a h => (g1 a (by simp only [List.mem_cons, List.not_mem_nil, or_false]; omega)).trans (hf a (by simp only [List.mem_cons, List.not_mem_nil, or_false]; omega))
          have c37 : ∀ j, (j ≠ 18 ∧ j ≠ 13) → M2 37 j = M 37 j := fun j h => (g3 j h.1 h.2).trans (congrFun (hq 37 (by omega) (by omega)) j)
          refine ⟨g2, fun z => absurd z (by decide), ?_⟩
          exact ⟨N, sz, hP.keep (Nat.le_succ c) (fun a h1 h2 => cc a (by omega)) (fun a h1 h2 => cc a (by omega)) (c37 0 (by omega)), ⟨hot, al, rw, pos, hL.keep (cc 10 (by omega)) (cc 11 (by omega)) (cc 46 (by omega)) (c37 3 (by omega)) (c37 1 (by omega))⟩, ⟨sl, kp, hH.keep (cc 31 (by omega)) (cc 32 (by omega)) (cc 33 (by omega)) (cc 34 (by omega)) (cc 56 (by omega)) (cc 57 (by omega)) (cc 58 (by omega)) (c37 27 (by omega))⟩, ⟨len, hT.keep (cc 35 (by omega)) (cc 36 (by omega)) (cc 63 (by omega)) (c37 39 (by omega))⟩, ⟨np, hQ.keep2 (cc 27 (by omega)) (cc _ (by omega)) (cc 47 (by omega)) (c37 17 (by omega))⟩, by rw [c37 2 (by omega), cc 0 (by omega)]; exact hlim⟩
  refine G_iload F dL_law_717 rfl ?_
  refine G_icmp_eq (tgt := 724) F dL_law_719 (by decide) (fun g1 => ?_) (fun g1 => absurd key.1 g1)
  refine G_iload F dL_law_724 rfl ?_
  refine G_if_ne (tgt := 741) F dL_law_726 (by decide) (fun g2 => ?_) (fun g2 => ?_)
  · refine G_goto (tgt := 1627) F dL_law_741 (by decide) ?_
    refine G_drop F 6 ?_
    refine G_drop F 7 ?_
    simp only [List.set_cons_zero, List.set_cons_succ]
    exact next s1 M2 key.2.2
  · refine G_aload_n F dL_law_729 rfl ?_
    refine G_iconst (v := 0) F dL_law_730 rfl ?_
    refine G_lald F dL_law_731 (k := 64) rfl vp_in01 ?_
    rw [show M2 64 (Int32.toNatClampNeg 0) = r2 from key.2.1 g2]
    refine G_iload F dL_law_732 rfl ?_
    refine G_i2l F dL_law_734 ?_
    refine G_lcmp F dL_law_735 ?_
    rw [lg_cmp_rfl]
    refine G_if_eq (tgt := 741) F dL_law_736 (by decide) (fun _ => ?_) (fun g3 => absurd rfl g3)
    refine G_goto (tgt := 1627) F dL_law_741 (by decide) ?_
    refine G_drop F 6 ?_
    refine G_drop F 7 ?_
    simp only [List.set_cons_zero, List.set_cons_succ]
    exact next s1 M2 key.2.2
