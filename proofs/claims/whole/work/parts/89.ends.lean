/-! THE LAW: its cases, ends and sizes -/
theorem Prg_size {c N x v : Nat} {sz : Nat → Nat} {M m : fx_M} (hP : Prg c N sz M) (hv : v ≤ 60) (h2 : m 2 = upd (M 2) x (nI v)) (g38 : m 38 = upd (M 38) x (nI v)) (e : ∀ a, (a = 1 ∨ (3 ≤ a ∧ a < 10) ∨ (39 ≤ a ∧ a < 46)) → m a = M a) (f : m 37 0 = M 37 0) : Prg (c + 1) N (fun b => if b = x then v else sz b) m := by
  obtain ⟨a1, a2, a3, a4, a5, a6, a7, a8, a9, a10⟩ := hP
  refine ⟨by rw [e 1 (by omega)]; exact a1, a2, a3, fun b hb => ?_, by rw [e 3 (by omega), e 4 (by omega), e 5 (by omega)]; exact a5, by rw [e 3 (by omega), e 8 (by omega), e 9 (by omega)]; exact a6, by rw [e 1 (by omega), e 4 (by omega), e 5 (by omega)]; exact a7, fun b hb => ?_, by rw [f, e 1 (by omega)]; exact a9, fun j hj => ?_⟩
  · rw [h2]
    by_cases q : b = x
    · subst q; rw [upd_eq]; (try dsimp only); rw [if_pos rfl]; exact ⟨rfl, hv⟩
    · rw [upd_ne q]; (try dsimp only); rw [if_neg q]; exact a4 b hb
  · rw [e 8 (by omega), e 9 (by omega)]
    obtain ⟨⟨n, n1, n2⟩, n', n3, n4⟩ := a8 b hb
    exact ⟨⟨n, by omega, n2⟩, n', by omega, n4⟩
  · obtain ⟨b1, b2⟩ := a10 j hj
    rw [h2, g38, e 3 (by omega), e 4 (by omega), e 5 (by omega), e 6 (by omega), e 7 (by omega), e 8 (by omega), e 9 (by omega), e 39 (by omega), e 40 (by omega), e 41 (by omega), e 42 (by omega), e 43 (by omega), e 44 (by omega), e 45 (by omega)]
    exact ⟨upd_eqs b1, b2⟩
set_option maxRecDepth 20000 in
theorem k_0 {X : fx_C} {l : Launch} {Z : fx_Z} {ad : Nat → Nat} {b n i c cx sx : Nat} {xs : Nat → Int32} {sw : Bool} {M : fx_M} (F : fx_F X l Z room_1 RL cL_law) (hl : l.stackTraces = false) (hs : fx_Scr X b n xs) (hn : n < 2 ^ 31) (hi : i + 4 < n) (hc : c ≤ 600) (hce : cx + 4 ≤ 603072) (hsl : sx + 24 ≤ 7202922) (hI : Iv c sw M) (hE : Eqs M) (next : ∀ (s1 : Bool) (M2 : fx_M), Iv (c + 1) s1 M2 → GG X ad 1627 [some (.ref b), some (.ref (ad 0)), some (.ref (ad 37)), some (.ref (ad 64)), some (.ref (ad 65)), some (.int (nI i)), none, none, none] [] (cx + 4) (sx + 24) (w_S s1) M2) : GG X ad 168 [some (.ref b), some (.ref (ad 0)), some (.ref (ad 37)), some (.ref (ad 64)), some (.ref (ad 65)), some (.int (nI i)), none, none, none] [] cx sx (w_S sw) M := by
  obtain ⟨N, sz, hP, ⟨hot, al, rw, pos, hL⟩, ⟨sl, kp, hH⟩, ⟨len, hT⟩, ⟨np, hQ⟩, hlim⟩ := id hI
  obtain ⟨e38, e39, e40, e41, e42, e43, e44, e45, e46⟩ := id hE
  have hN16 := hP.2.2.1
  have hN1 := hP.2.1
  refine G_aload_n F dL_law_168 rfl ?_
  refine G_aload_n F dL_law_169 rfl ?_
  refine G_iload F dL_law_170 rfl ?_
  refine G_iconst (v := nI 1) F dL_law_172 (by decide) ?_
  refine G_iadd F dL_law_173 ?_
  rw [nI_add]
  refine G_sld F hs dL_law_174 (by omega) hn ?_
  refine G_aload_n F dL_law_175 rfl ?_
  refine G_callX F mx_L_100 dL_law_176 (w_clear hl ad ((xs (i + 1))) (by decide) (s_clear hl ad sw (m_C ++ o_C) M (xs (i + 1))) (fun E m h => h.2.1)) (As := [.ref (ad 0), .int (xs (i + 1)), .ref (ad 64)]) rfl rfl (Nat.le_of_ble_eq_true rfl) ⟨Nat.le_of_ble_eq_true rfl, Nat.le_of_ble_eq_true rfl, by show cx + 4 ≤ 603072; omega, by show sx + 24 ≤ 7202922; omega⟩ (fun _ _ q => q.elim) (fun v1 a1 S1 M1 h1 => ?_)
  obtain ⟨ea, k, s1, rfl, rfl, q1⟩ := h1
  subst ea
  have hq : ∀ a, 37 ≤ a → a < 64 → M1 a = M a := by
    rcases q1 with ⟨-, -, r, m0, ⟨-, -, hcl⟩, rfl⟩ | ⟨-, -, e, -⟩
    · intro a h1 h2
      rw [fx_u_ne (by omega)]; exact hcl.1 a (by simp only [List.mem_cons, List.not_mem_nil, or_false]; omega)
    · intro a _ _; rw [e]
  skip
  refine G_istore F dL_law_179 rfl rfl (Nat.le_of_ble_eq_true rfl) ?_
  simp only [List.set_cons_zero, List.set_cons_succ]
  refine G_aload_n F dL_law_181 rfl ?_
  refine G_aload_n F dL_law_182 rfl ?_
  refine G_iload F dL_law_183 rfl ?_
  refine G_iconst (v := nI 1) F dL_law_185 (by decide) ?_
  refine G_iadd F dL_law_186 ?_
  rw [nI_add]
  refine G_sld F hs dL_law_187 (by omega) hn ?_
  refine G_vI F (k := 37) mv_L_105 dL_law_188 (t_clear hl _ s1 o_C M1 (xs (i + 1))) (As := [.int (xs (i + 1))]) rfl rfl rfl rfl (Nat.le_of_ble_eq_true rfl) ⟨Nat.le_of_ble_eq_true rfl, Nat.le_of_ble_eq_true rfl, by show cx + 4 ≤ 603072; omega, by show sx + 24 ≤ 7202922; omega⟩ (fun r2 M2 h2 => ?_)
  refine G_istore F dL_law_191 rfl rfl (Nat.le_of_ble_eq_true rfl) ?_
  simp only [List.set_cons_zero, List.set_cons_succ]
  refine G_aload_n F dL_law_193 rfl ?_
  refine G_vI F (k := 37) mv_L_106 dL_law_194 (t_thrown hl _ s1 o_C M2) (As := []) rfl rfl rfl rfl (Nat.le_of_ble_eq_true rfl) ⟨Nat.le_of_ble_eq_true rfl, Nat.le_of_ble_eq_true rfl, by show cx + 4 ≤ 603072; omega, by show sx + 24 ≤ 7202922; omega⟩ (fun r3 M3 h3 => ?_)
  rw [h3.1, h3.2]
  have key : M2 37 13 = k ∧ (k = 0 → M2 64 0 = r2) ∧ Iv (c + 1) s1 M2 := by
    rcases q1 with ⟨rfl, rfl, r, m0, ⟨hr, rfl, hcl⟩, rfl⟩ | ⟨rfl, rfl, rfl, -, hn⟩
    · rcases h2 with ⟨-, rfl, hrc⟩ | ⟨hn, -⟩
      · obtain ⟨n', n1, n2, n3⟩ := int_rng (a := 1) (b := 16) (by decide) (by decide) hr.1 hr.2
        obtain ⟨f1, f2, f3, f4, f5, f6, f7, f8, f9⟩ := hcl
        obtain ⟨g1, g2, g3, g4⟩ := hrc
        have cc : ∀ a, a < 37 → M2 a = m0 a := fun a ha => (g1 a (by simp only [List.mem_cons, List.not_mem_nil, or_false]; omega)).trans (fx_u_ne (by omega))
        refine ⟨by rw [g2]; simp [upd], fun _ => ?_, ?_⟩
        · rw [g1 64 (by decide), fx_u_at, if_pos ⟨rfl, rfl⟩]
          exact (hP.2.2.2.2.2.2.2.2.1.symm.trans (congrFun (hq 37 (by omega) (by omega)) 0).symm)
        · refine ⟨n', fun _ => 0, ⟨?_, n1, n2, fun b hb => ?_, fun b hb => ?_, fun b hb => ?_, ?_, fun b hb => ?_, ?_, fun j hj => ?_⟩, ⟨n', al, fun j => j, fun j => j, ?_, n1, Nat.le_refl n', ?_, hL.2.2.2.2.1, hL.2.2.2.2.2.1, ⟨fun j hj => ⟨hj, rfl⟩, fun j hj => ⟨hj, rfl⟩⟩, fun j hj => ?_, ?_, ?_, fun j hj => ?_⟩, ⟨sl, 0, ?_, hH.2.1, ?_, by omega, ?_, fun t ht => absurd ht (by omega)⟩, ⟨len, hT.keep ?_ ?_ ?_ ?_⟩, ⟨np, hQ.keep ?_ ?_ ?_ ?_ ?_⟩, ?_⟩
          · rw [cc 1 (by omega), f2, n3]
          · rw [cc 2 (by omega)]; exact ⟨(f4 b (by omega)).1, Nat.zero_le _⟩
          · rw [cc 3 (by omega), cc 4 (by omega), cc 5 (by omega)]; exact Or.inl ⟨(f4 b (by omega)).2.1, (f4 b (by omega)).2.2.1, (f4 b (by omega)).2.2.2.1⟩
          · rw [cc 3 (by omega), cc 8 (by omega), cc 9 (by omega)]; exact ⟨fun _ => (f4 b (by omega)).2.2.2.2.2.2.1, fun _ => (f4 b (by omega)).2.2.2.2.2.2.2⟩
          · rw [cc 1 (by omega), cc 4 (by omega), cc 5 (by omega), f3, hds_0 (fun b hb => tg_0 (f4 b (by omega)).2.2.1 (f4 b (by omega)).2.2.2.1)]
          · rw [cc 8 (by omega), cc 9 (by omega)]; exact ⟨⟨0, by omega, (f4 b hb).2.2.2.2.2.2.1⟩, 0, by omega, (f4 b hb).2.2.2.2.2.2.2⟩
          · rw [g2, cc 1 (by omega), f2]; simp [upd]
          · have a := f4 j hj
            have a' := g3 j hj
            rw [cc 2 (by omega), cc 3 (by omega), cc 4 (by omega), cc 5 (by omega), cc 6 (by omega), cc 7 (by omega), cc 8 (by omega), cc 9 (by omega)]
            exact ⟨a'.1.trans a.1.symm, a'.2.1.trans a.2.1.symm, a'.2.2.1.trans a.2.2.1.symm, a'.2.2.2.1.trans a.2.2.2.1.symm, a'.2.2.2.2.1.trans a.2.2.2.2.1.symm, a'.2.2.2.2.2.1.trans a.2.2.2.2.2.1.symm, a'.2.2.2.2.2.2.1.trans a.2.2.2.2.2.2.1.symm, a'.2.2.2.2.2.2.2.trans a.2.2.2.2.2.2.2.symm⟩
          · rw [cc 10 (by omega), f5, n3]
          · rw [cc 10 (by omega), f6]; exact hL.2.2.2.1
          · rw [cc 11 (by omega)]; exact f7 j (by omega)
          · rw [g2, cc 10 (by omega), f5]; simp [upd]
          · rw [g2, cc 10 (by omega), f6]; simp only [upd]; exact (congrFun (hq 37 (by omega) (by omega)) 1).trans hL.2.2.2.2.2.2.2.2.2.1
          · rw [cc 11 (by omega), g4 j hj, f7 j hj]
          · rw [cc 31 (by omega), f8]; exact hH.1
          · rw [cc 31 (by omega), f9]; rfl
          · rw [g2, cc 31 (by omega), f9]; simp [upd]
          · rw [cc 35 (by omega)]; exact f1 35 (by decide)
          · rw [cc 36 (by omega)]; exact f1 36 (by decide)
          · rw [g1 63 (by decide)]; exact hq 63 (by omega) (by omega)
          · rw [g2]; simp only [upd]; exact congrFun (hq 37 (by omega) (by omega)) 39
          · rw [cc 27 (by omega)]; exact f1 27 (by decide)
          · rw [cc 28 (by omega)]; exact f1 28 (by decide)
          · rw [cc 29 (by omega)]; exact f1 29 (by decide)
          · rw [g1 47 (by decide)]; exact hq 47 (by omega) (by omega)
          · rw [g2]; simp only [upd]; exact congrFun (hq 37 (by omega) (by omega)) 17
          · rw [g2, cc 0 (by omega), f1 0 (by decide)]; simp only [upd]; exact (congrFun (hq 37 (by omega) (by omega)) 2).trans hlim
      · exact absurd hr hn
    · rcases h2 with ⟨hr, -, -⟩ | ⟨-, rfl⟩
      · exact absurd hr hn
      · exact ⟨by rw [fx_u_at, if_pos ⟨rfl, rfl⟩], fun z => absurd z (by decide), hI.keep (Nat.le_succ c) (fun a h => fx_u_ne (by omega)) (fun j h => by rw [fx_u_at, if_neg (by omega)])⟩
  refine G_iload F dL_law_197 rfl ?_
  refine G_icmp_eq (tgt := 204) F dL_law_199 (by decide) (fun g1 => ?_) (fun g1 => absurd key.1 g1)
  refine G_iload F dL_law_204 rfl ?_
  refine G_if_ne (tgt := 221) F dL_law_206 (by decide) (fun g2 => ?_) (fun g2 => ?_)
  · refine G_goto (tgt := 1627) F dL_law_221 (by decide) ?_
    refine G_drop F 6 ?_
    refine G_drop F 7 ?_
    simp only [List.set_cons_zero, List.set_cons_succ]
    exact next s1 M2 key.2.2
  · refine G_aload_n F dL_law_209 rfl ?_
    refine G_iconst (v := 0) F dL_law_210 rfl ?_
    refine G_lald F dL_law_211 (k := 64) rfl vp_in01 ?_
    rw [show M2 64 (Int32.toNatClampNeg 0) = r2 from key.2.1 g2]
    refine G_iload F dL_law_212 rfl ?_
    refine G_i2l F dL_law_214 ?_
    refine G_lcmp F dL_law_215 ?_
    rw [lg_cmp_rfl]
    refine G_if_eq (tgt := 221) F dL_law_216 (by decide) (fun _ => ?_) (fun g3 => absurd rfl g3)
    refine G_goto (tgt := 1627) F dL_law_221 (by decide) ?_
    refine G_drop F 6 ?_
    refine G_drop F 7 ?_
    simp only [List.set_cons_zero, List.set_cons_succ]
    exact next s1 M2 key.2.2
set_option maxRecDepth 20000 in
theorem k_1 {X : fx_C} {l : Launch} {Z : fx_Z} {ad : Nat → Nat} {b n i c cx sx : Nat} {xs : Nat → Int32} {sw : Bool} {M : fx_M} (F : fx_F X l Z room_1 RL cL_law) (hl : l.stackTraces = false) (hs : fx_Scr X b n xs) (hn : n < 2 ^ 31) (hi : i + 4 < n) (hc : c ≤ 600) (hce : cx + 4 ≤ 603072) (hsl : sx + 24 ≤ 7202922) (hI : Iv c sw M) (hE : Eqs M) (next : ∀ (s1 : Bool) (M2 : fx_M), Iv (c + 1) s1 M2 → GG X ad 1627 [some (.ref b), some (.ref (ad 0)), some (.ref (ad 37)), some (.ref (ad 64)), some (.ref (ad 65)), some (.int (nI i)), none, none, none] [] (cx + 4) (sx + 24) (w_S s1) M2) : GG X ad 224 [some (.ref b), some (.ref (ad 0)), some (.ref (ad 37)), some (.ref (ad 64)), some (.ref (ad 65)), some (.int (nI i)), none, none, none] [] cx sx (w_S sw) M := by
  obtain ⟨N, sz, hP, ⟨hot, al, rw, pos, hL⟩, ⟨sl, kp, hH⟩, ⟨len, hT⟩, ⟨np, hQ⟩, hlim⟩ := id hI
  obtain ⟨e38, e39, e40, e41, e42, e43, e44, e45, e46⟩ := id hE
  have hN16 := hP.2.2.1
  have hN1 := hP.2.1
  refine G_aload_n F dL_law_224 rfl ?_
  refine G_aload_n F dL_law_225 rfl ?_
  refine G_iload F dL_law_226 rfl ?_
  refine G_iconst (v := nI 1) F dL_law_228 (by decide) ?_
  refine G_iadd F dL_law_229 ?_
  rw [nI_add]
  refine G_sld F hs dL_law_230 (by omega) hn ?_
  refine G_aload_n F dL_law_231 rfl ?_
  refine G_iload F dL_law_232 rfl ?_
  refine G_iconst (v := nI 2) F dL_law_234 (by decide) ?_
  refine G_iadd F dL_law_235 ?_
  rw [nI_add]
  refine G_sld F hs dL_law_236 (by omega) hn ?_
  refine G_aload_n F dL_law_237 rfl ?_
  refine G_callX F mx_L_109 dL_law_238 (w_setSize hl ad ((xs (i + 1))) ((xs (i + 2))) (by decide) (s_setSize hl ad sw (m_C ++ o_C) M (N := N) (xs (i + 1)) (xs (i + 2)) hP.1 hN16) (fun E m h => h.2.imp (fun q => q.1) (fun q => q.1))) (As := [.ref (ad 0), .int (xs (i + 1)), .int (xs (i + 2)), .ref (ad 64)]) rfl rfl (Nat.le_of_ble_eq_true rfl) ⟨Nat.le_of_ble_eq_true rfl, Nat.le_of_ble_eq_true rfl, by show cx + 4 ≤ 603072; omega, by show sx + 24 ≤ 7202922; omega⟩ (fun _ _ q => q.elim) (fun v1 a1 S1 M1 h1 => ?_)
  obtain ⟨ea, k, s1, rfl, rfl, q1⟩ := h1
  subst ea
  have hq : ∀ a, 37 ≤ a → a < 64 → M1 a = M a := by
    rcases q1 with ⟨-, -, r, m0, ⟨x, -, -, -, -, rfl⟩, rfl⟩ | ⟨-, -, e, -⟩ | ⟨-, -, e, -⟩
    · intro a h1 h2
      rw [fx_u_ne (by omega), fx_u_ne (by omega)]
    · intro a _ _; rw [e]
    · intro a _ _; rw [e]
  skip
  refine G_istore F dL_law_241 rfl rfl (Nat.le_of_ble_eq_true rfl) ?_
  simp only [List.set_cons_zero, List.set_cons_succ]
  refine G_aload_n F dL_law_243 rfl ?_
  refine G_aload_n F dL_law_244 rfl ?_
  refine G_iload F dL_law_245 rfl ?_
  refine G_iconst (v := nI 1) F dL_law_247 (by decide) ?_
  refine G_iadd F dL_law_248 ?_
  rw [nI_add]
  refine G_sld F hs dL_law_249 (by omega) hn ?_
  refine G_aload_n F dL_law_250 rfl ?_
  refine G_iload F dL_law_251 rfl ?_
  refine G_iconst (v := nI 2) F dL_law_253 (by decide) ?_
  refine G_iadd F dL_law_254 ?_
  rw [nI_add]
  refine G_sld F hs dL_law_255 (by omega) hn ?_
  refine G_vI F (k := 37) mv_L_112 dL_law_256 (t_setSize hl _ s1 o_C M1 (N := N) (xs (i + 1)) (xs (i + 2)) (n0_of hP hq) hN16 hN1) (As := [.int (xs (i + 1)), .int (xs (i + 2))]) rfl rfl rfl rfl (Nat.le_of_ble_eq_true rfl) ⟨Nat.le_of_ble_eq_true rfl, Nat.le_of_ble_eq_true rfl, by show cx + 4 ≤ 603072; omega, by show sx + 24 ≤ 7202922; omega⟩ (fun r2 M2 h2 => ?_)
  refine G_istore F dL_law_259 rfl rfl (Nat.le_of_ble_eq_true rfl) ?_
  simp only [List.set_cons_zero, List.set_cons_succ]
  refine G_aload_n F dL_law_261 rfl ?_
  refine G_vI F (k := 37) mv_L_106 dL_law_262 (t_thrown hl _ s1 o_C M2) (As := []) rfl rfl rfl rfl (Nat.le_of_ble_eq_true rfl) ⟨Nat.le_of_ble_eq_true rfl, Nat.le_of_ble_eq_true rfl, by show cx + 4 ≤ 603072; omega, by show sx + 24 ≤ 7202922; omega⟩ (fun r3 M3 h3 => ?_)
  rw [h3.1, h3.2]
  have key : M2 37 13 = k ∧ (k = 0 → M2 64 0 = r2) ∧ Iv (c + 1) s1 M2 := by
    rcases q1 with ⟨rfl, rfl, r, m0, ⟨x, x1, x2, x3, rfl, rfl⟩, rfl⟩ | ⟨rfl, rfl, rfl, z⟩ | ⟨rfl, rfl, rfl, z⟩
    · rcases h2 with ⟨y, y1, y2, y3, rfl, rfl⟩ | ⟨z, -⟩ | ⟨-, z, -⟩
      · have exy := nI_i hN16 x1 y1 (x2.symm.trans y2)
        subst exy
        obtain ⟨v, -, v2, v3⟩ := int_rng (a := 0) (b := 60) (by decide) (by decide) x3.1 x3.2
        refine ⟨rfl, fun _ => ?_, ?_⟩
        · show M 2 x = M 38 x
          rw [e38]
        · rw [v3]
          exact ⟨N, _, Prg_size (x := x) hP v2 rfl rfl (fun a h => by rw [fx_u_ne (by omega), fx_u_ne (by omega), fx_u_ne (by omega), fx_u_ne (by omega)]) rfl, ⟨hot, al, rw, pos, hL.keep rfl rfl rfl rfl rfl⟩, ⟨sl, kp, hH.keep rfl rfl rfl rfl rfl rfl rfl rfl⟩, ⟨len, hT.keep rfl rfl rfl rfl⟩, ⟨np, hQ.keep rfl rfl rfl rfl rfl⟩, hlim⟩
      · rw [x2, pin_t hN16 x1] at z; exact Bool.noConfusion z
      · exact absurd x3 z
    · have zp : pin N (xs (i + 1)) = false := z.elim (fun q => q.2) (fun q => absurd q.1 x1)
      rcases h2 with ⟨y, y1, y2, y3, -, -⟩ | ⟨-, rfl⟩ | ⟨z, -, -⟩
      · rw [y2, pin_t hN16 y1] at zp; exact Bool.noConfusion zp
      · exact ⟨by rw [fx_u_at, if_pos ⟨rfl, rfl⟩], fun z => absurd z (by decide), hI.keep (Nat.le_succ c) (fun a h => fx_u_ne (by omega)) (fun j h => by rw [fx_u_at, if_neg (by omega)])⟩
      · rw [zp] at z; exact Bool.noConfusion z
    · have zp : pin N (xs (i + 1)) = true ∧ ¬ (0 ≤ (xs (i + 2)) ∧ (xs (i + 2)) ≤ 60) := z.elim (fun q => absurd q.1.symm x1) (fun q => q.2)
      rcases h2 with ⟨y, y1, y2, y3, -, -⟩ | ⟨z, -⟩ | ⟨-, -, rfl⟩
      · exact absurd y3 zp.2
      · rw [zp.1] at z; exact Bool.noConfusion z
      · exact ⟨by rw [fx_u_at, if_pos ⟨rfl, rfl⟩], fun z => absurd z (by decide), hI.keep (Nat.le_succ c) (fun a h => fx_u_ne (by omega)) (fun j h => by rw [fx_u_at, if_neg (by omega)])⟩
  refine G_iload F dL_law_265 rfl ?_
  refine G_icmp_eq (tgt := 272) F dL_law_267 (by decide) (fun g1 => ?_) (fun g1 => absurd key.1 g1)
  refine G_iload F dL_law_272 rfl ?_
  refine G_if_ne (tgt := 289) F dL_law_274 (by decide) (fun g2 => ?_) (fun g2 => ?_)
  · refine G_goto (tgt := 1627) F dL_law_289 (by decide) ?_
    refine G_drop F 6 ?_
    refine G_drop F 7 ?_
    simp only [List.set_cons_zero, List.set_cons_succ]
    exact next s1 M2 key.2.2
  · refine G_aload_n F dL_law_277 rfl ?_
    refine G_iconst (v := 0) F dL_law_278 rfl ?_
    refine G_lald F dL_law_279 (k := 64) rfl vp_in01 ?_
    rw [show M2 64 (Int32.toNatClampNeg 0) = r2 from key.2.1 g2]
    refine G_iload F dL_law_280 rfl ?_
    refine G_i2l F dL_law_282 ?_
    refine G_lcmp F dL_law_283 ?_
    rw [lg_cmp_rfl]
    refine G_if_eq (tgt := 289) F dL_law_284 (by decide) (fun _ => ?_) (fun g3 => absurd rfl g3)
    refine G_goto (tgt := 1627) F dL_law_289 (by decide) ?_
    refine G_drop F 6 ?_
    refine G_drop F 7 ?_
    simp only [List.set_cons_zero, List.set_cons_succ]
    exact next s1 M2 key.2.2
set_option maxRecDepth 20000 in
theorem k_2 {X : fx_C} {l : Launch} {Z : fx_Z} {ad : Nat → Nat} {b n i c cx sx : Nat} {xs : Nat → Int32} {sw : Bool} {M : fx_M} (F : fx_F X l Z room_1 RL cL_law) (hl : l.stackTraces = false) (hs : fx_Scr X b n xs) (hn : n < 2 ^ 31) (hi : i + 4 < n) (hc : c ≤ 600) (hce : cx + 4 ≤ 603072) (hsl : sx + 24 ≤ 7202922) (hI : Iv c sw M) (hE : Eqs M) (next : ∀ (s1 : Bool) (M2 : fx_M), Iv (c + 1) s1 M2 → GG X ad 1627 [some (.ref b), some (.ref (ad 0)), some (.ref (ad 37)), some (.ref (ad 64)), some (.ref (ad 65)), some (.int (nI i)), none, none, none] [] (cx + 4) (sx + 24) (w_S s1) M2) : GG X ad 292 [some (.ref b), some (.ref (ad 0)), some (.ref (ad 37)), some (.ref (ad 64)), some (.ref (ad 65)), some (.int (nI i)), none, none, none] [] cx sx (w_S sw) M := by
  obtain ⟨N, sz, hP, ⟨hot, al, rw, pos, hL⟩, ⟨sl, kp, hH⟩, ⟨len, hT⟩, ⟨np, hQ⟩, hlim⟩ := id hI
  obtain ⟨e38, e39, e40, e41, e42, e43, e44, e45, e46⟩ := id hE
  have hN16 := hP.2.2.1
  have hN1 := hP.2.1
  refine G_aload_n F dL_law_292 rfl ?_
  refine G_aload_n F dL_law_293 rfl ?_
  refine G_iload F dL_law_294 rfl ?_
  refine G_iconst (v := nI 1) F dL_law_296 (by decide) ?_
  refine G_iadd F dL_law_297 ?_
  rw [nI_add]
  refine G_sld F hs dL_law_298 (by omega) hn ?_
  refine G_aload_n F dL_law_299 rfl ?_
  refine G_iload F dL_law_300 rfl ?_
  refine G_iconst (v := nI 2) F dL_law_302 (by decide) ?_
  refine G_iadd F dL_law_303 ?_
  rw [nI_add]
  refine G_sld F hs dL_law_304 (by omega) hn ?_
  refine G_aload_n F dL_law_305 rfl ?_
  refine G_callX F mx_L_113 dL_law_306 (w_setGo hl ad ((xs (i + 1))) ((xs (i + 2))) (by decide) (s_setGo hl ad sw (m_C ++ o_C) M (N := N) (xs (i + 1)) (xs (i + 2)) hP.1 hN16) (fun E m h => h.2.1)) (As := [.ref (ad 0), .int (xs (i + 1)), .int (xs (i + 2)), .ref (ad 64)]) rfl rfl (Nat.le_of_ble_eq_true rfl) ⟨Nat.le_of_ble_eq_true rfl, Nat.le_of_ble_eq_true rfl, by show cx + 4 ≤ 603072; omega, by show sx + 24 ≤ 7202922; omega⟩ (fun _ _ q => q.elim) (fun v1 a1 S1 M1 h1 => ?_)
  obtain ⟨ea, k, s1, rfl, rfl, q1⟩ := h1
  subst ea
  have hq : ∀ a, 37 ≤ a → a < 64 → M1 a = M a := by
    rcases q1 with ⟨-, -, r, m0, ⟨x, y, -, -, -, -, -, rfl⟩, rfl⟩ | ⟨-, -, e, -⟩
    · intro a h1 h2
      unfold m_end m_ce
      rw [fx_u_ne (by omega), fx_u_ne (by omega), fx_u_ne (by omega), fx_u_ne (by omega), fx_u_ne (by omega), fx_u_ne (by omega), fx_u_ne (by omega), fx_u_ne (by omega)]
    · intro a _ _; rw [e]
  skip
  refine G_istore F dL_law_309 rfl rfl (Nat.le_of_ble_eq_true rfl) ?_
  simp only [List.set_cons_zero, List.set_cons_succ]
  refine G_aload_n F dL_law_311 rfl ?_
  refine G_aload_n F dL_law_312 rfl ?_
  refine G_iload F dL_law_313 rfl ?_
  refine G_iconst (v := nI 1) F dL_law_315 (by decide) ?_
  refine G_iadd F dL_law_316 ?_
  rw [nI_add]
  refine G_sld F hs dL_law_317 (by omega) hn ?_
  refine G_aload_n F dL_law_318 rfl ?_
  refine G_iload F dL_law_319 rfl ?_
  refine G_iconst (v := nI 2) F dL_law_321 (by decide) ?_
  refine G_iadd F dL_law_322 ?_
  rw [nI_add]
  refine G_sld F hs dL_law_323 (by omega) hn ?_
  refine G_vI F (k := 37) mv_L_115 dL_law_324 (t_setGo hl _ s1 o_C M1 (N := N) (xs (i + 1)) (xs (i + 2)) (n0_of hP hq) hN16 hN1) (As := [.int (xs (i + 1)), .int (xs (i + 2))]) rfl rfl rfl rfl (Nat.le_of_ble_eq_true rfl) ⟨Nat.le_of_ble_eq_true rfl, Nat.le_of_ble_eq_true rfl, by show cx + 4 ≤ 603072; omega, by show sx + 24 ≤ 7202922; omega⟩ (fun r2 M2 h2 => ?_)
  refine G_istore F dL_law_327 rfl rfl (Nat.le_of_ble_eq_true rfl) ?_
  simp only [List.set_cons_zero, List.set_cons_succ]
  refine G_aload_n F dL_law_329 rfl ?_
  refine G_vI F (k := 37) mv_L_106 dL_law_330 (t_thrown hl _ s1 o_C M2) (As := []) rfl rfl rfl rfl (Nat.le_of_ble_eq_true rfl) ⟨Nat.le_of_ble_eq_true rfl, Nat.le_of_ble_eq_true rfl, by show cx + 4 ≤ 603072; omega, by show sx + 24 ≤ 7202922; omega⟩ (fun r3 M3 h3 => ?_)
  rw [h3.1, h3.2]
  have key : M2 37 13 = k ∧ (k = 0 → M2 64 0 = r2) ∧ Iv (c + 1) s1 M2 := by
    rcases q1 with ⟨rfl, rfl, r, m0, ⟨x, y, x1, y1, x2, y2, rfl, rfl⟩, rfl⟩ | ⟨rfl, rfl, rfl, -, z⟩
    · rcases h2 with ⟨x', y', x1', y1', x2', y2', rfl, rfl⟩ | ⟨z, -⟩
      · have ex := nI_i hN16 x1 x1' (x2.symm.trans x2')
        have ey := nI_i hN16 y1 y1' (y2.symm.trans y2')
        subst ex
        subst ey
        refine ⟨rfl, fun _ => ?_, ⟨N, sz, Prg_end hP x1 (Or.inr (Or.inl ⟨rfl, ⟨y, y1, rfl⟩, rfl⟩)) rfl rfl hP.2.2.2.1 rfl rfl rfl rfl rfl rfl rfl rfl (fun j hj => (hP.2.2.2.2.2.2.2.2.2 j hj).1) rfl rfl rfl rfl rfl rfl rfl, ⟨hot, al, rw, pos, hL.keep rfl rfl rfl rfl rfl⟩, ⟨sl, kp, hH.keep rfl rfl rfl rfl rfl rfl rfl rfl⟩, ⟨len, hT.keep rfl rfl rfl rfl⟩, ⟨np, hQ.keep rfl rfl rfl rfl rfl⟩, hlim⟩⟩
        · show M 3 x = M 39 x
          rw [e39]
      · rw [x2, y2, pin_t hN16 x1, pin_t hN16 y1] at z; exact absurd z (by decide)
    · rcases h2 with ⟨x', y', x1', y1', x2', y2', -, -⟩ | ⟨-, rfl⟩
      · rw [x2', y2', pin_t hN16 x1', pin_t hN16 y1'] at z; exact absurd z (by decide)
      · exact ⟨by rw [fx_u_at, if_pos ⟨rfl, rfl⟩], fun z => absurd z (by decide), hI.keep (Nat.le_succ c) (fun a h => fx_u_ne (by omega)) (fun j h => by rw [fx_u_at, if_neg (by omega)])⟩
  refine G_iload F dL_law_333 rfl ?_
  refine G_icmp_eq (tgt := 340) F dL_law_335 (by decide) (fun g1 => ?_) (fun g1 => absurd key.1 g1)
  refine G_iload F dL_law_340 rfl ?_
  refine G_if_ne (tgt := 357) F dL_law_342 (by decide) (fun g2 => ?_) (fun g2 => ?_)
  · refine G_goto (tgt := 1627) F dL_law_357 (by decide) ?_
    refine G_drop F 6 ?_
    refine G_drop F 7 ?_
    simp only [List.set_cons_zero, List.set_cons_succ]
    exact next s1 M2 key.2.2
  · refine G_aload_n F dL_law_345 rfl ?_
    refine G_iconst (v := 0) F dL_law_346 rfl ?_
    refine G_lald F dL_law_347 (k := 64) rfl vp_in01 ?_
    rw [show M2 64 (Int32.toNatClampNeg 0) = r2 from key.2.1 g2]
    refine G_iload F dL_law_348 rfl ?_
    refine G_i2l F dL_law_350 ?_
    refine G_lcmp F dL_law_351 ?_
    rw [lg_cmp_rfl]
    refine G_if_eq (tgt := 357) F dL_law_352 (by decide) (fun _ => ?_) (fun g3 => absurd rfl g3)
    refine G_goto (tgt := 1627) F dL_law_357 (by decide) ?_
    refine G_drop F 6 ?_
    refine G_drop F 7 ?_
    simp only [List.set_cons_zero, List.set_cons_succ]
    exact next s1 M2 key.2.2
set_option maxRecDepth 20000 in
theorem k_3 {X : fx_C} {l : Launch} {Z : fx_Z} {ad : Nat → Nat} {b n i c cx sx : Nat} {xs : Nat → Int32} {sw : Bool} {M : fx_M} (F : fx_F X l Z room_1 RL cL_law) (hl : l.stackTraces = false) (hs : fx_Scr X b n xs) (hn : n < 2 ^ 31) (hi : i + 4 < n) (hc : c ≤ 600) (hce : cx + 4 ≤ 603072) (hsl : sx + 24 ≤ 7202922) (hI : Iv c sw M) (hE : Eqs M) (next : ∀ (s1 : Bool) (M2 : fx_M), Iv (c + 1) s1 M2 → GG X ad 1627 [some (.ref b), some (.ref (ad 0)), some (.ref (ad 37)), some (.ref (ad 64)), some (.ref (ad 65)), some (.int (nI i)), none, none, none] [] (cx + 4) (sx + 24) (w_S s1) M2) : GG X ad 360 [some (.ref b), some (.ref (ad 0)), some (.ref (ad 37)), some (.ref (ad 64)), some (.ref (ad 65)), some (.int (nI i)), none, none, none] [] cx sx (w_S sw) M := by
  obtain ⟨N, sz, hP, ⟨hot, al, rw, pos, hL⟩, ⟨sl, kp, hH⟩, ⟨len, hT⟩, ⟨np, hQ⟩, hlim⟩ := id hI
  obtain ⟨e38, e39, e40, e41, e42, e43, e44, e45, e46⟩ := id hE
  have hN16 := hP.2.2.1
  have hN1 := hP.2.1
  refine G_aload_n F dL_law_360 rfl ?_
  refine G_aload_n F dL_law_361 rfl ?_
  refine G_iload F dL_law_362 rfl ?_
  refine G_iconst (v := nI 1) F dL_law_364 (by decide) ?_
  refine G_iadd F dL_law_365 ?_
  rw [nI_add]
  refine G_sld F hs dL_law_366 (by omega) hn ?_
  refine G_aload_n F dL_law_367 rfl ?_
  refine G_iload F dL_law_368 rfl ?_
  refine G_iconst (v := nI 2) F dL_law_370 (by decide) ?_
  refine G_iadd F dL_law_371 ?_
  rw [nI_add]
  refine G_sld F hs dL_law_372 (by omega) hn ?_
  refine G_aload_n F dL_law_373 rfl ?_
  refine G_iload F dL_law_374 rfl ?_
  refine G_iconst (v := nI 3) F dL_law_376 (by decide) ?_
  refine G_iadd F dL_law_377 ?_
  rw [nI_add]
  refine G_sld F hs dL_law_378 (by omega) hn ?_
  refine G_aload_n F dL_law_379 rfl ?_
  refine G_iload F dL_law_380 rfl ?_
  refine G_iconst (v := nI 4) F dL_law_382 (by decide) ?_
  refine G_iadd F dL_law_383 ?_
  rw [nI_add]
  refine G_sld F hs dL_law_384 (by omega) hn ?_
  refine G_aload_n F dL_law_385 rfl ?_
  refine G_callX F mx_L_116 dL_law_386 (w_setIf hl ad ((xs (i + 1))) ((xs (i + 2))) ((xs (i + 3))) ((xs (i + 4))) (by decide) (s_setIf hl ad sw (m_C ++ o_C) M (N := N) (xs (i + 1)) (xs (i + 2)) (xs (i + 3)) (xs (i + 4)) hP.1 hN16) (fun E m h => h.2.imp (fun q => q.1) (fun q => q.1))) (As := [.ref (ad 0), .int (xs (i + 1)), .int (xs (i + 2)), .int (xs (i + 3)), .int (xs (i + 4)), .ref (ad 64)]) rfl rfl (Nat.le_of_ble_eq_true rfl) ⟨Nat.le_of_ble_eq_true rfl, Nat.le_of_ble_eq_true rfl, by show cx + 4 ≤ 603072; omega, by show sx + 24 ≤ 7202922; omega⟩ (fun _ _ q => q.elim) (fun v1 a1 S1 M1 h1 => ?_)
  obtain ⟨ea, k, s1, rfl, rfl, q1⟩ := h1
  subst ea
  have hq : ∀ a, 37 ≤ a → a < 64 → M1 a = M a := by
    rcases q1 with ⟨-, -, r, m0, ⟨x, y, w, -, -, -, -, -, -, -, -, rfl⟩, rfl⟩ | ⟨-, -, e, -⟩ | ⟨-, -, e, -⟩
    · intro a h1 h2
      unfold m_end m_ce
      rw [fx_u_ne (by omega), fx_u_ne (by omega), fx_u_ne (by omega), fx_u_ne (by omega), fx_u_ne (by omega), fx_u_ne (by omega), fx_u_ne (by omega), fx_u_ne (by omega)]
    · intro a _ _; rw [e]
    · intro a _ _; rw [e]
  skip
  refine G_istore F dL_law_389 rfl rfl (Nat.le_of_ble_eq_true rfl) ?_
  simp only [List.set_cons_zero, List.set_cons_succ]
  refine G_aload_n F dL_law_391 rfl ?_
  refine G_aload_n F dL_law_392 rfl ?_
  refine G_iload F dL_law_393 rfl ?_
  refine G_iconst (v := nI 1) F dL_law_395 (by decide) ?_
  refine G_iadd F dL_law_396 ?_
  rw [nI_add]
  refine G_sld F hs dL_law_397 (by omega) hn ?_
  refine G_aload_n F dL_law_398 rfl ?_
  refine G_iload F dL_law_399 rfl ?_
  refine G_iconst (v := nI 2) F dL_law_401 (by decide) ?_
  refine G_iadd F dL_law_402 ?_
  rw [nI_add]
  refine G_sld F hs dL_law_403 (by omega) hn ?_
  refine G_aload_n F dL_law_404 rfl ?_
  refine G_iload F dL_law_405 rfl ?_
  refine G_iconst (v := nI 3) F dL_law_407 (by decide) ?_
  refine G_iadd F dL_law_408 ?_
  rw [nI_add]
  refine G_sld F hs dL_law_409 (by omega) hn ?_
  refine G_aload_n F dL_law_410 rfl ?_
  refine G_iload F dL_law_411 rfl ?_
  refine G_iconst (v := nI 4) F dL_law_413 (by decide) ?_
  refine G_iadd F dL_law_414 ?_
  rw [nI_add]
  refine G_sld F hs dL_law_415 (by omega) hn ?_
  refine G_vI F (k := 37) mv_L_119 dL_law_416 (t_setIf hl _ s1 o_C M1 (N := N) (xs (i + 1)) (xs (i + 2)) (xs (i + 3)) (xs (i + 4)) (n0_of hP hq) hN16 hN1) (As := [.int (xs (i + 1)), .int (xs (i + 2)), .int (xs (i + 3)), .int (xs (i + 4))]) rfl rfl rfl rfl (Nat.le_of_ble_eq_true rfl) ⟨Nat.le_of_ble_eq_true rfl, Nat.le_of_ble_eq_true rfl, by show cx + 4 ≤ 603072; omega, by show sx + 24 ≤ 7202922; omega⟩ (fun r2 M2 h2 => ?_)
  refine G_istore F dL_law_419 rfl rfl (Nat.le_of_ble_eq_true rfl) ?_
  simp only [List.set_cons_zero, List.set_cons_succ]
  refine G_aload_n F dL_law_421 rfl ?_
  refine G_vI F (k := 37) mv_L_106 dL_law_422 (t_thrown hl _ s1 o_C M2) (As := []) rfl rfl rfl rfl (Nat.le_of_ble_eq_true rfl) ⟨Nat.le_of_ble_eq_true rfl, Nat.le_of_ble_eq_true rfl, by show cx + 4 ≤ 603072; omega, by show sx + 24 ≤ 7202922; omega⟩ (fun r3 M3 h3 => ?_)
  rw [h3.1, h3.2]
  have key : M2 37 13 = k ∧ (k = 0 → M2 64 0 = r2) ∧ Iv (c + 1) s1 M2 := by
    rcases q1 with ⟨rfl, rfl, r, m0, ⟨x, y, w, x1, y1, w1, x2, y2, w2, hne, rfl, rfl⟩, rfl⟩ | ⟨rfl, rfl, rfl, z⟩ | ⟨rfl, rfl, rfl, z⟩
    · rcases h2 with ⟨x', y', w', x1', y1', w1', x2', y2', w2', -, rfl, rfl⟩ | ⟨z, -⟩ | ⟨-, z, -⟩
      · have ex := nI_i hN16 x1 x1' (x2.symm.trans x2')
        have ey := nI_i hN16 y1 y1' (y2.symm.trans y2')
        have ew := nI_i hN16 w1 w1' (w2.symm.trans w2')
        subst ex
        subst ey
        subst ew
        refine ⟨rfl, fun _ => ?_, ⟨N, sz, Prg_end hP x1 (Or.inr (Or.inr ⟨rfl, ⟨y, y1, rfl⟩, ⟨w, w1, rfl⟩, fun q => hne (nI_i hN16 y1 w1 q)⟩)) rfl rfl hP.2.2.2.1 rfl rfl rfl rfl rfl rfl rfl rfl (fun j hj => (hP.2.2.2.2.2.2.2.2.2 j hj).1) rfl rfl rfl rfl rfl rfl rfl, ⟨hot, al, rw, pos, hL.keep rfl rfl rfl rfl rfl⟩, ⟨sl, kp, hH.keep rfl rfl rfl rfl rfl rfl rfl rfl⟩, ⟨len, hT.keep rfl rfl rfl rfl⟩, ⟨np, hQ.keep rfl rfl rfl rfl rfl⟩, hlim⟩⟩
        · show M 3 x = M 39 x
          rw [e39]
      · rw [x2, y2, w2, pin_t hN16 x1, pin_t hN16 y1, pin_t hN16 w1] at z; exact absurd z (by decide)
      · rw [y2, w2] at z; exact absurd (nI_i hN16 y1 w1 z) hne
    · have zp : (pin N (xs (i + 1)) && (pin N (xs (i + 2)) && pin N (xs (i + 3)))) = false := z.elim (fun q => q.2) (fun q => absurd q.1 x1)
      rcases h2 with ⟨x', y', w', x1', y1', w1', x2', y2', w2', -, -, -⟩ | ⟨-, rfl⟩ | ⟨z, -, -⟩
      · rw [x2', y2', w2', pin_t hN16 x1', pin_t hN16 y1', pin_t hN16 w1'] at zp; exact absurd zp (by decide)
      · exact ⟨by rw [fx_u_at, if_pos ⟨rfl, rfl⟩], fun z => absurd z (by decide), hI.keep (Nat.le_succ c) (fun a h => fx_u_ne (by omega)) (fun j h => by rw [fx_u_at, if_neg (by omega)])⟩
      · rw [zp] at z; exact Bool.noConfusion z
    · have zp : (pin N (xs (i + 1)) && (pin N (xs (i + 2)) && pin N (xs (i + 3)))) = true ∧ (xs (i + 2)) = (xs (i + 3)) := z.elim (fun q => absurd q.1.symm x1) (fun q => q.2)
      rcases h2 with ⟨x', y', w', x1', y1', w1', x2', y2', w2', hne, -, -⟩ | ⟨z, -⟩ | ⟨-, -, rfl⟩
      · have z2 := zp.2
        rw [y2', w2'] at z2
        exact absurd (nI_i hN16 y1' w1' z2) hne
      · rw [zp.1] at z; exact Bool.noConfusion z
      · exact ⟨by rw [fx_u_at, if_pos ⟨rfl, rfl⟩], fun z => absurd z (by decide), hI.keep (Nat.le_succ c) (fun a h => fx_u_ne (by omega)) (fun j h => by rw [fx_u_at, if_neg (by omega)])⟩
  refine G_iload F dL_law_425 rfl ?_
  refine G_icmp_eq (tgt := 432) F dL_law_427 (by decide) (fun g1 => ?_) (fun g1 => absurd key.1 g1)
  refine G_iload F dL_law_432 rfl ?_
  refine G_if_ne (tgt := 449) F dL_law_434 (by decide) (fun g2 => ?_) (fun g2 => ?_)
  · refine G_goto (tgt := 1627) F dL_law_449 (by decide) ?_
    refine G_drop F 6 ?_
    refine G_drop F 7 ?_
    simp only [List.set_cons_zero, List.set_cons_succ]
    exact next s1 M2 key.2.2
  · refine G_aload_n F dL_law_437 rfl ?_
    refine G_iconst (v := 0) F dL_law_438 rfl ?_
    refine G_lald F dL_law_439 (k := 64) rfl vp_in01 ?_
    rw [show M2 64 (Int32.toNatClampNeg 0) = r2 from key.2.1 g2]
    refine G_iload F dL_law_440 rfl ?_
    refine G_i2l F dL_law_442 ?_
    refine G_lcmp F dL_law_443 ?_
    rw [lg_cmp_rfl]
    refine G_if_eq (tgt := 449) F dL_law_444 (by decide) (fun _ => ?_) (fun g3 => absurd rfl g3)
    refine G_goto (tgt := 1627) F dL_law_449 (by decide) ?_
    refine G_drop F 6 ?_
    refine G_drop F 7 ?_
    simp only [List.set_cons_zero, List.set_cons_succ]
    exact next s1 M2 key.2.2
set_option maxRecDepth 20000 in
theorem k_4 {X : fx_C} {l : Launch} {Z : fx_Z} {ad : Nat → Nat} {b n i c cx sx : Nat} {xs : Nat → Int32} {sw : Bool} {M : fx_M} (F : fx_F X l Z room_1 RL cL_law) (hl : l.stackTraces = false) (hs : fx_Scr X b n xs) (hn : n < 2 ^ 31) (hi : i + 4 < n) (hc : c ≤ 600) (hce : cx + 4 ≤ 603072) (hsl : sx + 24 ≤ 7202922) (hI : Iv c sw M) (hE : Eqs M) (next : ∀ (s1 : Bool) (M2 : fx_M), Iv (c + 1) s1 M2 → GG X ad 1627 [some (.ref b), some (.ref (ad 0)), some (.ref (ad 37)), some (.ref (ad 64)), some (.ref (ad 65)), some (.int (nI i)), none, none, none] [] (cx + 4) (sx + 24) (w_S s1) M2) : GG X ad 452 [some (.ref b), some (.ref (ad 0)), some (.ref (ad 37)), some (.ref (ad 64)), some (.ref (ad 65)), some (.int (nI i)), none, none, none] [] cx sx (w_S sw) M := by
  obtain ⟨N, sz, hP, ⟨hot, al, rw, pos, hL⟩, ⟨sl, kp, hH⟩, ⟨len, hT⟩, ⟨np, hQ⟩, hlim⟩ := id hI
  obtain ⟨e38, e39, e40, e41, e42, e43, e44, e45, e46⟩ := id hE
  have hN16 := hP.2.2.1
  have hN1 := hP.2.1
  refine G_aload_n F dL_law_452 rfl ?_
  refine G_aload_n F dL_law_453 rfl ?_
  refine G_iload F dL_law_454 rfl ?_
  refine G_iconst (v := nI 1) F dL_law_456 (by decide) ?_
  refine G_iadd F dL_law_457 ?_
  rw [nI_add]
  refine G_sld F hs dL_law_458 (by omega) hn ?_
  refine G_aload_n F dL_law_459 rfl ?_
  refine G_callX F mx_L_120 dL_law_460 (w_setStop hl ad ((xs (i + 1))) (by decide) (s_setStop hl ad sw (m_C ++ o_C) M (N := N) (xs (i + 1)) hP.1 hN16) (fun E m h => h.2.1)) (As := [.ref (ad 0), .int (xs (i + 1)), .ref (ad 64)]) rfl rfl (Nat.le_of_ble_eq_true rfl) ⟨Nat.le_of_ble_eq_true rfl, Nat.le_of_ble_eq_true rfl, by show cx + 4 ≤ 603072; omega, by show sx + 24 ≤ 7202922; omega⟩ (fun _ _ q => q.elim) (fun v1 a1 S1 M1 h1 => ?_)
  obtain ⟨ea, k, s1, rfl, rfl, q1⟩ := h1
  subst ea
  have hq : ∀ a, 37 ≤ a → a < 64 → M1 a = M a := by
    rcases q1 with ⟨-, -, r, m0, ⟨x, -, -, -, rfl⟩, rfl⟩ | ⟨-, -, e, -⟩
    · intro a h1 h2
      unfold m_end m_ce
      rw [fx_u_ne (by omega), fx_u_ne (by omega), fx_u_ne (by omega), fx_u_ne (by omega), fx_u_ne (by omega), fx_u_ne (by omega), fx_u_ne (by omega), fx_u_ne (by omega)]
    · intro a _ _; rw [e]
  skip
  refine G_istore F dL_law_463 rfl rfl (Nat.le_of_ble_eq_true rfl) ?_
  simp only [List.set_cons_zero, List.set_cons_succ]
  refine G_aload_n F dL_law_465 rfl ?_
  refine G_aload_n F dL_law_466 rfl ?_
  refine G_iload F dL_law_467 rfl ?_
  refine G_iconst (v := nI 1) F dL_law_469 (by decide) ?_
  refine G_iadd F dL_law_470 ?_
  rw [nI_add]
  refine G_sld F hs dL_law_471 (by omega) hn ?_
  refine G_vI F (k := 37) mv_L_122 dL_law_472 (t_setStop hl _ s1 o_C M1 (N := N) (xs (i + 1)) (n0_of hP hq) hN16 hN1) (As := [.int (xs (i + 1))]) rfl rfl rfl rfl (Nat.le_of_ble_eq_true rfl) ⟨Nat.le_of_ble_eq_true rfl, Nat.le_of_ble_eq_true rfl, by show cx + 4 ≤ 603072; omega, by show sx + 24 ≤ 7202922; omega⟩ (fun r2 M2 h2 => ?_)
  refine G_istore F dL_law_475 rfl rfl (Nat.le_of_ble_eq_true rfl) ?_
  simp only [List.set_cons_zero, List.set_cons_succ]
  refine G_aload_n F dL_law_477 rfl ?_
  refine G_vI F (k := 37) mv_L_106 dL_law_478 (t_thrown hl _ s1 o_C M2) (As := []) rfl rfl rfl rfl (Nat.le_of_ble_eq_true rfl) ⟨Nat.le_of_ble_eq_true rfl, Nat.le_of_ble_eq_true rfl, by show cx + 4 ≤ 603072; omega, by show sx + 24 ≤ 7202922; omega⟩ (fun r3 M3 h3 => ?_)
  rw [h3.1, h3.2]
  have key : M2 37 13 = k ∧ (k = 0 → M2 64 0 = r2) ∧ Iv (c + 1) s1 M2 := by
    rcases q1 with ⟨rfl, rfl, r, m0, ⟨x, x1, x2, rfl, rfl⟩, rfl⟩ | ⟨rfl, rfl, rfl, -, z⟩
    · rcases h2 with ⟨x', x1', x2', rfl, rfl⟩ | ⟨z, -⟩
      · have ex := nI_i hN16 x1 x1' (x2.symm.trans x2')
        subst ex
        refine ⟨rfl, fun _ => ?_, ⟨N, sz, Prg_end hP x1 (Or.inl ⟨rfl, rfl, rfl⟩) rfl rfl hP.2.2.2.1 rfl rfl rfl rfl rfl rfl rfl rfl (fun j hj => (hP.2.2.2.2.2.2.2.2.2 j hj).1) rfl rfl rfl rfl rfl rfl rfl, ⟨hot, al, rw, pos, hL.keep rfl rfl rfl rfl rfl⟩, ⟨sl, kp, hH.keep rfl rfl rfl rfl rfl rfl rfl rfl⟩, ⟨len, hT.keep rfl rfl rfl rfl⟩, ⟨np, hQ.keep rfl rfl rfl rfl rfl⟩, hlim⟩⟩
        · show M 3 x = M 39 x
          rw [e39]
      · rw [x2, pin_t hN16 x1] at z; exact absurd z (by decide)
    · rcases h2 with ⟨x', x1', x2', -, -⟩ | ⟨-, rfl⟩
      · rw [x2', pin_t hN16 x1'] at z; exact absurd z (by decide)
      · exact ⟨by rw [fx_u_at, if_pos ⟨rfl, rfl⟩], fun z => absurd z (by decide), hI.keep (Nat.le_succ c) (fun a h => fx_u_ne (by omega)) (fun j h => by rw [fx_u_at, if_neg (by omega)])⟩
  refine G_iload F dL_law_481 rfl ?_
  refine G_icmp_eq (tgt := 488) F dL_law_483 (by decide) (fun g1 => ?_) (fun g1 => absurd key.1 g1)
  refine G_iload F dL_law_488 rfl ?_
  refine G_if_ne (tgt := 505) F dL_law_490 (by decide) (fun g2 => ?_) (fun g2 => ?_)
  · refine G_goto (tgt := 1627) F dL_law_505 (by decide) ?_
    refine G_drop F 6 ?_
    refine G_drop F 7 ?_
    simp only [List.set_cons_zero, List.set_cons_succ]
    exact next s1 M2 key.2.2
  · refine G_aload_n F dL_law_493 rfl ?_
    refine G_iconst (v := 0) F dL_law_494 rfl ?_
    refine G_lald F dL_law_495 (k := 64) rfl vp_in01 ?_
    rw [show M2 64 (Int32.toNatClampNeg 0) = r2 from key.2.1 g2]
    refine G_iload F dL_law_496 rfl ?_
    refine G_i2l F dL_law_498 ?_
    refine G_lcmp F dL_law_499 ?_
    rw [lg_cmp_rfl]
    refine G_if_eq (tgt := 505) F dL_law_500 (by decide) (fun _ => ?_) (fun g3 => absurd rfl g3)
    refine G_goto (tgt := 1627) F dL_law_505 (by decide) ?_
    refine G_drop F 6 ?_
    refine G_drop F 7 ?_
    simp only [List.set_cons_zero, List.set_cons_succ]
    exact next s1 M2 key.2.2
set_option maxRecDepth 20000 in
theorem k_5 {X : fx_C} {l : Launch} {Z : fx_Z} {ad : Nat → Nat} {b n i c cx sx : Nat} {xs : Nat → Int32} {sw : Bool} {M : fx_M} (F : fx_F X l Z room_1 RL cL_law) (hl : l.stackTraces = false) (hs : fx_Scr X b n xs) (hn : n < 2 ^ 31) (hi : i + 4 < n) (hc : c ≤ 600) (hce : cx + 4 ≤ 603072) (hsl : sx + 24 ≤ 7202922) (hI : Iv c sw M) (hE : Eqs M) (next : ∀ (s1 : Bool) (M2 : fx_M), Iv (c + 1) s1 M2 → GG X ad 1627 [some (.ref b), some (.ref (ad 0)), some (.ref (ad 37)), some (.ref (ad 64)), some (.ref (ad 65)), some (.int (nI i)), none, none, none] [] (cx + 4) (sx + 24) (w_S s1) M2) : GG X ad 508 [some (.ref b), some (.ref (ad 0)), some (.ref (ad 37)), some (.ref (ad 64)), some (.ref (ad 65)), some (.int (nI i)), none, none, none] [] cx sx (w_S sw) M := by
  obtain ⟨N, sz, hP, ⟨hot, al, rw, pos, hL⟩, ⟨sl, kp, hH⟩, ⟨len, hT⟩, ⟨np, hQ⟩, hlim⟩ := id hI
  obtain ⟨e38, e39, e40, e41, e42, e43, e44, e45, e46⟩ := id hE
  have hN16 := hP.2.2.1
  have hN1 := hP.2.1
  refine G_aload_n F dL_law_508 rfl ?_
  refine G_aload_n F dL_law_509 rfl ?_
  refine G_iload F dL_law_510 rfl ?_
  refine G_iconst (v := nI 1) F dL_law_512 (by decide) ?_
  refine G_iadd F dL_law_513 ?_
  rw [nI_add]
  refine G_sld F hs dL_law_514 (by omega) hn ?_
  refine G_aload_n F dL_law_515 rfl ?_
  refine G_callX F mx_L_123 dL_law_516 (w_invert hl ad ((xs (i + 1))) (by decide) (s_invert hl ad sw (m_C ++ o_C) M (N := N) (xs (i + 1)) hP.1 hN16) (fun E m h => h.2.imp (fun q => q.1) (fun q => q.1))) (As := [.ref (ad 0), .int (xs (i + 1)), .ref (ad 64)]) rfl rfl (Nat.le_of_ble_eq_true rfl) ⟨Nat.le_of_ble_eq_true rfl, Nat.le_of_ble_eq_true rfl, by show cx + 4 ≤ 603072; omega, by show sx + 24 ≤ 7202922; omega⟩ (fun _ _ q => q.elim) (fun v1 a1 S1 M1 h1 => ?_)
  obtain ⟨ea, k, s1, rfl, rfl, q1⟩ := h1
  subst ea
  have hq : ∀ a, 37 ≤ a → a < 64 → M1 a = M a := by
    rcases q1 with ⟨-, -, r, m0, ⟨x, -, -, -, -, rfl⟩, rfl⟩ | ⟨-, -, e, -⟩ | ⟨-, -, e, -⟩
    · intro a h1 h2
      unfold m_sw
      rw [fx_u_ne (by omega), fx_u_ne (by omega), fx_u_ne (by omega), fx_u_ne (by omega), fx_u_ne (by omega), fx_u_ne (by omega)]
    · intro a _ _; rw [e]
    · intro a _ _; rw [e]
  skip
  refine G_istore F dL_law_519 rfl rfl (Nat.le_of_ble_eq_true rfl) ?_
  simp only [List.set_cons_zero, List.set_cons_succ]
  refine G_aload_n F dL_law_521 rfl ?_
  refine G_aload_n F dL_law_522 rfl ?_
  refine G_iload F dL_law_523 rfl ?_
  refine G_iconst (v := nI 1) F dL_law_525 (by decide) ?_
  refine G_iadd F dL_law_526 ?_
  rw [nI_add]
  refine G_sld F hs dL_law_527 (by omega) hn ?_
  refine G_vI F (k := 37) mv_L_125 dL_law_528 (t_invert hl _ s1 o_C M1 (N := N) (xs (i + 1)) (n0_of hP hq) hN16 hN1) (As := [.int (xs (i + 1))]) rfl rfl rfl rfl (Nat.le_of_ble_eq_true rfl) ⟨Nat.le_of_ble_eq_true rfl, Nat.le_of_ble_eq_true rfl, by show cx + 4 ≤ 603072; omega, by show sx + 24 ≤ 7202922; omega⟩ (fun r2 M2 h2 => ?_)
  refine G_istore F dL_law_531 rfl rfl (Nat.le_of_ble_eq_true rfl) ?_
  simp only [List.set_cons_zero, List.set_cons_succ]
  refine G_aload_n F dL_law_533 rfl ?_
  refine G_vI F (k := 37) mv_L_106 dL_law_534 (t_thrown hl _ s1 o_C M2) (As := []) rfl rfl rfl rfl (Nat.le_of_ble_eq_true rfl) ⟨Nat.le_of_ble_eq_true rfl, Nat.le_of_ble_eq_true rfl, by show cx + 4 ≤ 603072; omega, by show sx + 24 ≤ 7202922; omega⟩ (fun r3 M3 h3 => ?_)
  rw [h3.1, h3.2]
  have key : M2 37 13 = k ∧ (k = 0 → M2 64 0 = r2) ∧ Iv (c + 1) s1 M2 := by
    rcases q1 with ⟨rfl, rfl, r, m0, ⟨x, x1, x2, x3, rfl, rfl⟩, rfl⟩ | ⟨rfl, rfl, rfl, z⟩ | ⟨rfl, rfl, rfl, z⟩
    · rcases h2 with ⟨y, y1, y2, y3, rfl, rfl⟩ | ⟨z, -⟩ | ⟨⟨y, y1, y2, y3⟩, -⟩
      · have exy := nI_i hN16 x1 y1 (x2.symm.trans y2)
        subst exy
        refine ⟨rfl, fun _ => ?_, ⟨N, sz, Prg_inv hP x1 x3 rfl rfl rfl rfl rfl rfl rfl rfl rfl rfl rfl rfl rfl rfl rfl rfl rfl rfl, ⟨hot, al, rw, pos, hL.keep rfl rfl rfl rfl rfl⟩, ⟨sl, kp, hH.keep rfl rfl rfl rfl rfl rfl rfl rfl⟩, ⟨len, hT.keep rfl rfl rfl rfl⟩, ⟨np, hQ.keep rfl rfl rfl rfl rfl⟩, hlim⟩⟩
        show M 5 x = M 41 x
        rw [e41]
      · rw [x2, pin_t hN16 x1] at z; exact Bool.noConfusion z
      · have exy := nI_i hN16 x1 y1 (x2.symm.trans y2)
        subst exy
        refine absurd ?_ y3
        show M 39 x = 1
        rw [e39]; exact x3
    · have zp : pin N (xs (i + 1)) = false := z.elim (fun q => q.2) (fun q => absurd q.1.symm x2)
      rcases h2 with ⟨y, y1, y2, y3, -, -⟩ | ⟨-, rfl⟩ | ⟨⟨y, y1, y2, -⟩, -⟩
      · rw [y2, pin_t hN16 y1] at zp; exact Bool.noConfusion zp
      · exact ⟨by rw [fx_u_at, if_pos ⟨rfl, rfl⟩], fun z => absurd z (by decide), hI.keep (Nat.le_succ c) (fun a h => fx_u_ne (by omega)) (fun j h => by rw [fx_u_at, if_neg (by omega)])⟩
      · rw [y2, pin_t hN16 y1] at zp; exact Bool.noConfusion zp
    · obtain ⟨x, x1, x2', x3⟩ : ∃ x, x < N ∧ (xs (i + 1)) = nI x ∧ M1 3 x ≠ 1 := z.elim (fun q => absurd q.1 x2) (fun q => q.2)
      rcases h2 with ⟨y, y1, y2, y3, -, -⟩ | ⟨z, -⟩ | ⟨-, rfl⟩
      · have exy := nI_i hN16 x1 y1 (x2'.symm.trans y2)
        subst exy
        rw [e39] at y3
        exact absurd y3 x3
      · rw [x2', pin_t hN16 x1] at z; exact Bool.noConfusion z
      · exact ⟨by rw [fx_u_at, if_pos ⟨rfl, rfl⟩], fun z => absurd z (by decide), hI.keep (Nat.le_succ c) (fun a h => fx_u_ne (by omega)) (fun j h => by rw [fx_u_at, if_neg (by omega)])⟩
  refine G_iload F dL_law_537 rfl ?_
  refine G_icmp_eq (tgt := 544) F dL_law_539 (by decide) (fun g1 => ?_) (fun g1 => absurd key.1 g1)
  refine G_iload F dL_law_544 rfl ?_
  refine G_if_ne (tgt := 561) F dL_law_546 (by decide) (fun g2 => ?_) (fun g2 => ?_)
  · refine G_goto (tgt := 1627) F dL_law_561 (by decide) ?_
    refine G_drop F 6 ?_
    refine G_drop F 7 ?_
    simp only [List.set_cons_zero, List.set_cons_succ]
    exact next s1 M2 key.2.2
  · refine G_aload_n F dL_law_549 rfl ?_
    refine G_iconst (v := 0) F dL_law_550 rfl ?_
    refine G_lald F dL_law_551 (k := 64) rfl vp_in01 ?_
    rw [show M2 64 (Int32.toNatClampNeg 0) = r2 from key.2.1 g2]
    refine G_iload F dL_law_552 rfl ?_
    refine G_i2l F dL_law_554 ?_
    refine G_lcmp F dL_law_555 ?_
    rw [lg_cmp_rfl]
    refine G_if_eq (tgt := 561) F dL_law_556 (by decide) (fun _ => ?_) (fun g3 => absurd rfl g3)
    refine G_goto (tgt := 1627) F dL_law_561 (by decide) ?_
    refine G_drop F 6 ?_
    refine G_drop F 7 ?_
    simp only [List.set_cons_zero, List.set_cons_succ]
    exact next s1 M2 key.2.2
