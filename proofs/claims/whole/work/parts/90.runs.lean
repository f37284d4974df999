/-! THE LAW: its cases, blocks and executions -/
theorem rng_t {n : Nat} (h1 : 1 ≤ n) (h2 : n ≤ 500) : (1 : Int32) ≤ nI n ∧ nI n ≤ 500 := ⟨(nI_leI (a := 1) (by omega) (by omega)).mpr h1, (nI_leI (b := 500) (by omega) (by omega)).mpr h2⟩
theorem Pth.keep2 {n : Nat} {sw : Bool} {M m : fx_M} (h : Pth n sw M) (e27 : m 27 = M 27) (ep : m (cond sw 29 28) = M (cond sw 29 28)) (e47 : m 47 = M 47) (f : m 37 17 = M 37 17) : Pth n sw m := by
  unfold Pth at h ⊢
  rw [e27, ep, e47, f]; exact h
theorem cnd (sw : Bool) : (cond sw 28 29 = 28 ∧ cond sw 29 28 = 29) ∨ (cond sw 28 29 = 29 ∧ cond sw 29 28 = 28) := by
  cases sw
  · exact Or.inr ⟨rfl, rfl⟩
  · exact Or.inl ⟨rfl, rfl⟩
theorem cnd2 (sw : Bool) : cond (!sw) 29 28 = cond sw 28 29 := by cases sw <;> rfl
/-- the blocks of an execution -/
theorem xok_in {N : Nat} {kd f s p : Nat → Int32} {lim n : Nat} (hN : N ≤ 16) (h0 : 0 < N) (hv : pv N kd f s) (h : xok kd f s p lim n) : ∀ i, i < n → (tr kd f s p i).1 < N := fun i hi => tr_in hN h0 hv i (fun j hj => h.2.2.2 j (by omega))
theorem zw_run {N : Nat} {kd f s p w1 w2 : Nat → Int32} {lim n : Nat} (hN : N ≤ 16) (h0 : 0 < N) (hv : pv N kd f s) (h : xok kd f s p lim n) (hz : zw N kd w1 w2) : zw N kd (ap1 (fun j => (tr kd f s p j).1) f w1 (n - 1)) (ap2 (fun j => (tr kd f s p j).1) f w2 (n - 1)) := by
  intro b hb
  refine ⟨fun z => ?_, fun z => ?_⟩
  · rw [ap1_z (n - 1) (fun i hi e => h.2.2.2 i (by omega) (by have e' : (tr kd f s p i).1 = b := e; rw [e']; exact z))]
    exact (hz b hb).1 z
  · rw [ap2_z (n - 1) (fun i hi e => ?_)]
    · exact (hz b hb).2 z
    · have e' : (tr kd f s p i).1 = b := e
      have hk := h.2.2.2 i (by omega)
      have h1 := isF_eq (p := p) hN hv (xok_in hN h0 hv h i (by omega)) hk
      have h2 : kd (tr kd f s p i).1 = 0 := by
        rcases hv _ (xok_in hN h0 hv h i (by omega)) with q | q | q
        · exact absurd q.1 hk
        · exact q.1
        · rw [e'] at q; exact absurd q.1 z
      have h3 : isF kd p (tr kd f s p i) = true := by simp [isF, h2]
      rw [h3] at h1
      exact of_decide_eq_true h1.symm
set_option maxRecDepth 20000 in
theorem k_6 {X : fx_C} {l : Launch} {Z : fx_Z} {ad : Nat → Nat} {b n i c cx sx : Nat} {xs : Nat → Int32} {sw : Bool} {M : fx_M} (F : fx_F X l Z room_1 RL cL_law) (hl : l.stackTraces = false) (hs : fx_Scr X b n xs) (hn : n < 2 ^ 31) (hi : i + 4 < n) (hc : c ≤ 600) (hce : cx + 4 ≤ 603072) (hsl : sx + 24 ≤ 7202922) (hI : Iv c sw M) (hE : Eqs M) (next : ∀ (s1 : Bool) (M2 : fx_M), Iv (c + 1) s1 M2 → GG X ad 1627 [some (.ref b), some (.ref (ad 0)), some (.ref (ad 37)), some (.ref (ad 64)), some (.ref (ad 65)), some (.int (nI i)), none, none, none] [] (cx + 4) (sx + 24) (w_S s1) M2) : GG X ad 564 [some (.ref b), some (.ref (ad 0)), some (.ref (ad 37)), some (.ref (ad 64)), some (.ref (ad 65)), some (.int (nI i)), none, none, none] [] cx sx (w_S sw) M := by
  obtain ⟨N, sz, hP, ⟨hot, al, rw, pos, hL⟩, ⟨sl, kp, hH⟩, ⟨len, hT⟩, ⟨np, hQ⟩, hlim⟩ := id hI
  obtain ⟨e38, e39, e40, e41, e42, e43, e44, e45, e46⟩ := id hE
  have hN16 := hP.2.2.1
  have hN1 := hP.2.1
  refine G_aload_n F dL_law_564 rfl ?_
  refine G_aload_n F dL_law_565 rfl ?_
  refine G_iload F dL_law_566 rfl ?_
  refine G_iconst (v := nI 1) F dL_law_568 (by decide) ?_
  refine G_iadd F dL_law_569 ?_
  rw [nI_add]
  refine G_sld F hs dL_law_570 (by omega) hn ?_
  refine G_aload_n F dL_law_571 rfl ?_
  refine G_iload F dL_law_572 rfl ?_
  refine G_iconst (v := nI 2) F dL_law_574 (by decide) ?_
  refine G_iadd F dL_law_575 ?_
  rw [nI_add]
  refine G_sld F hs dL_law_576 (by omega) hn ?_
  refine G_aload_n F dL_law_577 rfl ?_
  refine G_callX F mx_L_126 dL_law_578 (w_block hl ad ((xs (i + 1))) ((xs (i + 2))) (by decide) (s_block hl ad sw (m_C ++ o_C) M (N := N) (xs (i + 1)) (xs (i + 2)) hP.1 hN16) (fun E m h => h.2.imp (fun q => q.1) (fun q => q.1))) (As := [.ref (ad 0), .int (xs (i + 1)), .int (xs (i + 2)), .ref (ad 64)]) rfl rfl (Nat.le_of_ble_eq_true rfl) ⟨Nat.le_of_ble_eq_true rfl, Nat.le_of_ble_eq_true rfl, by show cx + 4 ≤ 603072; omega, by show sx + 24 ≤ 7202922; omega⟩ (fun _ _ q => q.elim) (fun v1 a1 S1 M1 h1 => ?_)
  obtain ⟨ea, k, s1, rfl, rfl, q1⟩ := h1
  subst ea
  have hq : ∀ a, 37 ≤ a → a < 64 → M1 a = M a := by
    rcases q1 with ⟨-, -, r, m0, ⟨x, -, -, rfl, -⟩, rfl⟩ | ⟨-, -, e, -⟩ | ⟨-, -, e, -⟩
    · intro a h1 h2
      rw [fx_u_ne (by omega)]
    · intro a _ _; rw [e]
    · intro a _ _; rw [e]
  skip
  refine G_istore F dL_law_581 rfl rfl (Nat.le_of_ble_eq_true rfl) ?_
  simp only [List.set_cons_zero, List.set_cons_succ]
  refine G_aload_n F dL_law_583 rfl ?_
  refine G_aload_n F dL_law_584 rfl ?_
  refine G_iload F dL_law_585 rfl ?_
  refine G_iconst (v := nI 1) F dL_law_587 (by decide) ?_
  refine G_iadd F dL_law_588 ?_
  rw [nI_add]
  refine G_sld F hs dL_law_589 (by omega) hn ?_
  refine G_aload_n F dL_law_590 rfl ?_
  refine G_iload F dL_law_591 rfl ?_
  refine G_iconst (v := nI 2) F dL_law_593 (by decide) ?_
  refine G_iadd F dL_law_594 ?_
  rw [nI_add]
  refine G_sld F hs dL_law_595 (by omega) hn ?_
  refine G_vI F (k := 37) mv_L_128 dL_law_596 (t_block hl _ s1 o_C M1 (N := N) (xs (i + 1)) (xs (i + 2)) (n0_of hP hq) hN16 hN1 (pv_of hP hE hq)) (As := [.int (xs (i + 1)), .int (xs (i + 2))]) rfl rfl rfl rfl (Nat.le_of_ble_eq_true rfl) ⟨Nat.le_of_ble_eq_true rfl, Nat.le_of_ble_eq_true rfl, by show cx + 4 ≤ 603072; omega, by show sx + 24 ≤ 7202922; omega⟩ (fun r2 M2 h2 => ?_)
  refine G_istore F dL_law_599 rfl rfl (Nat.le_of_ble_eq_true rfl) ?_
  simp only [List.set_cons_zero, List.set_cons_succ]
  refine G_aload_n F dL_law_601 rfl ?_
  refine G_vI F (k := 37) mv_L_106 dL_law_602 (t_thrown hl _ s1 o_C M2) (As := []) rfl rfl rfl rfl (Nat.le_of_ble_eq_true rfl) ⟨Nat.le_of_ble_eq_true rfl, Nat.le_of_ble_eq_true rfl, by show cx + 4 ≤ 603072; omega, by show sx + 24 ≤ 7202922; omega⟩ (fun r3 M3 h3 => ?_)
  rw [h3.1, h3.2]
  have key : M2 37 13 = k ∧ (k = 0 → M2 64 0 = r2) ∧ Iv (c + 1) s1 M2 := by
    rcases q1 with ⟨rfl, rfl, r, m0, ⟨x, x1, x2, rfl, hw⟩, rfl⟩ | ⟨rfl, rfl, rfl, z⟩ | ⟨rfl, rfl, rfl, z⟩
    · rcases h2 with ⟨y, y1, y2, rfl, hw'⟩ | ⟨z, -⟩ | ⟨-, z, -⟩
      · have exy := nI_i hN16 x1 y1 (x2.symm.trans y2)
        subst exy
        refine ⟨rfl, fun _ => ?_, hI.keep (Nat.le_succ c) (fun a h => by rw [fx_u_ne (by omega), fx_u_ne (by omega)]) (fun j h => by rw [fx_u_at, if_neg (by omega), fx_u_ne (by decide)])⟩
        show r = r2
        have e9 : hds (pf_tg (m0 40) (m0 41)) N N = m0 1 9 := by rw [e40, e41]; exact hP.2.2.2.2.2.2.1.symm
        rcases hw with ⟨w1, rfl⟩ | ⟨w1, rfl⟩ | ⟨w1, rfl⟩ | ⟨w1, rfl⟩ | ⟨w1, rfl⟩ | ⟨w1, rfl⟩ | ⟨w1, rfl⟩ | ⟨w1, rfl⟩ <;> rcases hw' with ⟨w2, rfl⟩ | ⟨w2, rfl⟩ | ⟨w2, rfl⟩ | ⟨w2, rfl⟩ | ⟨w2, rfl⟩ | ⟨w2, rfl⟩ | ⟨w2, rfl⟩ | ⟨w2, rfl⟩ <;> first | exact absurd (w1.symm.trans w2) (by decide) | exact (congrFun e38 x).symm | exact (congrFun e39 x).symm | exact (congrFun e40 x).symm | exact (congrFun e41 x).symm | exact (congrFun e43 x).symm | exact (congrFun e44 x).symm | exact (congrFun e45 x).symm | (show (if bt (m0 1 9) x then (1 : Int32) else 0) = (if bt (hds (pf_tg (m0 40) (m0 41)) N N) x then 1 else 0); rw [e9])
      · rw [x2, pin_t hN16 x1] at z; exact Bool.noConfusion z
      · refine absurd ?_ z
        rcases hw with ⟨w1, -⟩ | ⟨w1, -⟩ | ⟨w1, -⟩ | ⟨w1, -⟩ | ⟨w1, -⟩ | ⟨w1, -⟩ | ⟨w1, -⟩ | ⟨w1, -⟩ <;> rw [w1] <;> decide
    · have zp : pin N (xs (i + 1)) = false := z.elim (fun q => q.2) (fun q => absurd q.1 x1)
      rcases h2 with ⟨y, y1, y2, -, -⟩ | ⟨-, rfl⟩ | ⟨z, -, -⟩
      · rw [y2, pin_t hN16 y1] at zp; exact Bool.noConfusion zp
      · exact ⟨by rw [fx_u_at, if_pos ⟨rfl, rfl⟩], fun z => absurd z (by decide), hI.keep (Nat.le_succ c) (fun a h => fx_u_ne (by omega)) (fun j h => by rw [fx_u_at, if_neg (by omega)])⟩
      · rw [zp] at z; exact Bool.noConfusion z
    · have zp : pin N (xs (i + 1)) = true ∧ ¬ (0 ≤ (xs (i + 2)) ∧ (xs (i + 2)) ≤ 7) := z.elim (fun q => absurd q.1.symm x1) (fun q => q.2)
      rcases h2 with ⟨y, y1, y2, -, hw⟩ | ⟨z, -⟩ | ⟨-, -, rfl⟩
      · refine absurd ?_ zp.2
        rcases hw with ⟨w1, -⟩ | ⟨w1, -⟩ | ⟨w1, -⟩ | ⟨w1, -⟩ | ⟨w1, -⟩ | ⟨w1, -⟩ | ⟨w1, -⟩ | ⟨w1, -⟩ <;> rw [w1] <;> decide
      · rw [zp.1] at z; exact Bool.noConfusion z
      · exact ⟨by rw [fx_u_at, if_pos ⟨rfl, rfl⟩], fun z => absurd z (by decide), hI.keep (Nat.le_succ c) (fun a h => fx_u_ne (by omega)) (fun j h => by rw [fx_u_at, if_neg (by omega)])⟩
  refine G_iload F dL_law_605 rfl ?_
  refine G_icmp_eq (tgt := 612) F dL_law_607 (by decide) (fun g1 => ?_) (fun g1 => absurd key.1 g1)
  refine G_iload F dL_law_612 rfl ?_
  refine G_if_ne (tgt := 629) F dL_law_614 (by decide) (fun g2 => ?_) (fun g2 => ?_)
  · refine G_goto (tgt := 1627) F dL_law_629 (by decide) ?_
    refine G_drop F 6 ?_
    refine G_drop F 7 ?_
    simp only [List.set_cons_zero, List.set_cons_succ]
    exact next s1 M2 key.2.2
  · refine G_aload_n F dL_law_617 rfl ?_
    refine G_iconst (v := 0) F dL_law_618 rfl ?_
    refine G_lald F dL_law_619 (k := 64) rfl vp_in01 ?_
    rw [show M2 64 (Int32.toNatClampNeg 0) = r2 from key.2.1 g2]
    refine G_iload F dL_law_620 rfl ?_
    refine G_i2l F dL_law_622 ?_
    refine G_lcmp F dL_law_623 ?_
    rw [lg_cmp_rfl]
    refine G_if_eq (tgt := 629) F dL_law_624 (by decide) (fun _ => ?_) (fun g3 => absurd rfl g3)
    refine G_goto (tgt := 1627) F dL_law_629 (by decide) ?_
    refine G_drop F 6 ?_
    refine G_drop F 7 ?_
    simp only [List.set_cons_zero, List.set_cons_succ]
    exact next s1 M2 key.2.2
set_option maxRecDepth 20000 in
theorem k_7 {X : fx_C} {l : Launch} {Z : fx_Z} {ad : Nat → Nat} {b n i c cx sx : Nat} {xs : Nat → Int32} {sw : Bool} {M : fx_M} (F : fx_F X l Z room_1 RL cL_law) (hl : l.stackTraces = false) (hs : fx_Scr X b n xs) (hn : n < 2 ^ 31) (hi : i + 4 < n) (hc : c ≤ 600) (hce : cx + 4 ≤ 603072) (hsl : sx + 24 ≤ 7202922) (hI : Iv c sw M) (hE : Eqs M) (next : ∀ (s1 : Bool) (M2 : fx_M), Iv (c + 1) s1 M2 → GG X ad 1627 [some (.ref b), some (.ref (ad 0)), some (.ref (ad 37)), some (.ref (ad 64)), some (.ref (ad 65)), some (.int (nI i)), none, none, none] [] (cx + 4) (sx + 24) (w_S s1) M2) : GG X ad 632 [some (.ref b), some (.ref (ad 0)), some (.ref (ad 37)), some (.ref (ad 64)), some (.ref (ad 65)), some (.int (nI i)), none, none, none] [] cx sx (w_S sw) M := by
  obtain ⟨N, sz, hP, ⟨hot, al, rw, pos, hL⟩, ⟨sl, kp, hH⟩, ⟨len, hT⟩, ⟨np, hQ⟩, hlim⟩ := id hI
  obtain ⟨e38, e39, e40, e41, e42, e43, e44, e45, e46⟩ := id hE
  have hN16 := hP.2.2.1
  have hN1 := hP.2.1
  have hcd := cnd sw
  have hv := hP.2.2.2.2.1
  refine G_aload_n F dL_law_632 rfl ?_
  refine G_aload_n F dL_law_633 rfl ?_
  refine G_iload F dL_law_634 rfl ?_
  refine G_iconst (v := nI 1) F dL_law_636 (by decide) ?_
  refine G_iadd F dL_law_637 ?_
  rw [nI_add]
  refine G_sld F hs dL_law_638 (by omega) hn ?_
  refine G_aload_n F dL_law_639 rfl ?_
  refine G_callX F mx_L_129 dL_law_640 (w_run hl ad ((xs (i + 1))) (by decide) (CT.mono (P' := fun v a s m => a = ad ∧ s = w_S (!sw) ∧ ∃ r : Int32, v = some (.int r) ∧ (fun (r : Int32) (m : fx_M) => ∃ lim L : Nat, 1 ≤ lim ∧ lim ≤ 500 ∧ (xs (i + 1)) = nI lim ∧ xok (M 3) (M 4) (M 5) (M 6) lim L ∧ r = nI L ∧ fr [7, 8, 9, 27, 30, (cond sw 28 29)] M m ∧ m 27 4 = nI L ∧ (∀ j, j < L → m (cond sw 28 29) j = nI (tr (M 3) (M 4) (M 5) (M 6) j).1) ∧ m 7 = apc (fun j => (tr (M 3) (M 4) (M 5) (M 6) j).1) (M 7) L ∧ m 8 = ap1 (fun j => (tr (M 3) (M 4) (M 5) (M 6) j).1) (M 4) (M 8) (L - 1) ∧ m 9 = ap2 (fun j => (tr (M 3) (M 4) (M 5) (M 6) j).1) (M 4) (M 9) (L - 1)) r m) (s_run hl ad sw (m_C ++ o_C) M (N := N) (xs (i + 1)) hP.1 hN16 hN1 hP.2.2.2.2.1) (fun v a s m q => by obtain ⟨q1, q2, lim, L, q3, q4, q5, q6, q7, q8⟩ := q; exact ⟨q1, q2, nI L, q7, lim, L, q3, q4, q5, q6, rfl, q8⟩) (fun _ _ q => q)) (fun E m h => h.imp (fun q => q.1) (fun q => q.1))) (As := [.ref (ad 0), .int (xs (i + 1)), .ref (ad 64)]) rfl rfl (Nat.le_of_ble_eq_true rfl) ⟨Nat.le_of_ble_eq_true rfl, Nat.le_of_ble_eq_true rfl, by show cx + 4 ≤ 603072; omega, by show sx + 24 ≤ 7202922; omega⟩ (fun _ _ q => q.elim) (fun v1 a1 S1 M1 h1 => ?_)
  obtain ⟨ea, k, s1, rfl, rfl, q1⟩ := h1
  subst ea
  have hq : ∀ a, 37 ≤ a → a < 64 → M1 a = M a := by
    rcases q1 with ⟨-, -, r, m0, ⟨lim, n', -, -, -, -, -, hf, -⟩, rfl⟩ | ⟨-, -, z⟩ | ⟨-, -, z⟩
    · intro a h1 h2
      rw [fx_u_ne (by omega)]; exact hf a (by simp only [List.mem_cons, List.not_mem_nil, or_false]; omega)
    · intro a h1 h2
      rcases z with ⟨-, e, -⟩ | ⟨q, -⟩
      · rw [e]
      · exact absurd q x3
    · intro a h1 h2
      rcases z with ⟨q, -⟩ | ⟨-, lim, -, -, -, -, hf⟩
      · exact absurd q.symm x3
      · exact hf a (by simp only [List.mem_cons, List.not_mem_nil, or_false]; omega)
  skip
  refine G_istore F dL_law_643 rfl rfl (Nat.le_of_ble_eq_true rfl) ?_
  simp only [List.set_cons_zero, List.set_cons_succ]
  refine G_aload_n F dL_law_645 rfl ?_
  refine G_aload_n F dL_law_646 rfl ?_
  refine G_iload F dL_law_647 rfl ?_
  refine G_iconst (v := nI 1) F dL_law_649 (by decide) ?_
  refine G_iadd F dL_law_650 ?_
  rw [nI_add]
  refine G_sld F hs dL_law_651 (by omega) hn ?_
  refine G_vI F (k := 37) mv_L_131 dL_law_652 (t_run hl _ s1 o_C M1 (N := N) (xs (i + 1)) (n0_of hP hq) hN16 hN1 (pv_of hP hE hq)) (As := [.int (xs (i + 1))]) rfl rfl rfl rfl (Nat.le_of_ble_eq_true rfl) ⟨Nat.le_of_ble_eq_true rfl, Nat.le_of_ble_eq_true rfl, by show cx + 4 ≤ 603072; omega, by show sx + 24 ≤ 7202922; omega⟩ (fun r2 M2 h2 => ?_)
  refine G_istore F dL_law_655 rfl rfl (Nat.le_of_ble_eq_true rfl) ?_
  simp only [List.set_cons_zero, List.set_cons_succ]
  refine G_aload_n F dL_law_657 rfl ?_
  refine G_vI F (k := 37) mv_L_106 dL_law_658 (t_thrown hl _ s1 o_C M2) (As := []) rfl rfl rfl rfl (Nat.le_of_ble_eq_true rfl) ⟨Nat.le_of_ble_eq_true rfl, Nat.le_of_ble_eq_true rfl, by show cx + 4 ≤ 603072; omega, by show sx + 24 ≤ 7202922; omega⟩ (fun r3 M3 h3 => ?_)
  rw [h3.1, h3.2]
  have key : M2 37 13 = k ∧ (k = 0 → M2 64 0 = r2) ∧ Iv (c + 1) s1 M2 := by
    have t39 : M1 39 = M 3 := (hq 39 (by omega) (by omega)).trans e39
    have t40 : M1 40 = M 4 := (hq 40 (by omega) (by omega)).trans e40
    have t41 : M1 41 = M 5 := (hq 41 (by omega) (by omega)).trans e41
    have t42 : M1 42 = M 6 := (hq 42 (by omega) (by omega)).trans e42
    have t43 : M1 43 = M 7 := (hq 43 (by omega) (by omega)).trans e43
    have t44 : M1 44 = M 8 := (hq 44 (by omega) (by omega)).trans e44
    have t45 : M1 45 = M 9 := (hq 45 (by omega) (by omega)).trans e45
    rw [t39, t40, t41, t42, t43, t44, t45] at h2
    rcases q1 with ⟨rfl, rfl, r, m0, ⟨lim, n', l1, l2, l3, ok, rfl, hf, f27, fp, f7, f8, f9⟩, rfl⟩ | ⟨rfl, rfl, z⟩ | ⟨rfl, rfl, z⟩
    · rcases h2 with ⟨z, -⟩ | ⟨lim', n2, a1, a2, a3, ok2, rfl, g1, g2, g3, g7, g8, g9⟩ | ⟨lim', a1, a2, a3, no, -⟩
      · rw [l3] at z; exact absurd (rng_t l1 l2) z
      · have el : lim = lim' := (nI_eq (by omega) (by omega)).mp (l3.symm.trans a3)
        subst el
        have en := xok_one ok ok2
        subst en
        have cc : ∀ a, a < 37 → M2 a = m0 a := fun a ha => (g1 a (by simp only [List.mem_cons, List.not_mem_nil, or_false]; omega)).trans (fx_u_ne (by omega))
        have ck : ∀ a, (a < 37 ∧ a ≠ 7 ∧ a ≠ 8 ∧ a ≠ 9 ∧ a ≠ 27 ∧ a ≠ 30 ∧ a ≠ 28 ∧ a ≠ 29) → M2 a = M a := fun a h => (cc a h.1).trans (hf a (by simp only [List.mem_cons, List.not_mem_nil, or_false]; omega))
        have cr : ∀ a, (37 < a ∧ a < 64 ∧ a ≠ 43 ∧ a ≠ 44 ∧ a ≠ 45 ∧ a ≠ 47 ∧ a ≠ 48 ∧ a ≠ 49 ∧ a ≠ 50) → M2 a = M a := fun a h => (g1 a (by simp only [List.mem_cons, List.not_mem_nil, or_false]; omega)).trans (hq a (by omega) (by omega))
        have c37 : ∀ j, (j ≠ 13 ∧ j ≠ 17 ∧ j ≠ 18) → M2 37 j = M 37 j := fun j h => by
          rw [g2]; simp only [upd, if_neg h.1, if_neg h.2.1, if_neg h.2.2]; exact congrFun (hq 37 (by omega) (by omega)) j
        refine ⟨by rw [g2]; simp [upd], fun _ => ?_, ?_⟩
        · rw [g1 64 (by decide), fx_u_at, if_pos ⟨rfl, rfl⟩]
        · obtain ⟨a1, a2, a3, a4, a5, a6, a7, a8, a9, a10⟩ := id hP
          refine ⟨N, sz, ⟨by rw [ck 1 (by omega)]; exact a1, a2, a3, by rw [ck 2 (by omega)]; exact a4, by rw [ck 3 (by omega), ck 4 (by omega), ck 5 (by omega)]; exact a5, ?_, by rw [ck 1 (by omega), ck 4 (by omega), ck 5 (by omega)]; exact a7, fun b hb => ?_, by rw [c37 0 (by omega), ck 1 (by omega)]; exact a9, fun j hj => ?_⟩, ⟨hot, al, rw, pos, hL.keep (ck 10 (by omega)) (ck 11 (by omega)) (cr 46 (by omega)) (c37 3 (by omega)) (c37 1 (by omega))⟩, ⟨sl, kp, hH.keep (ck 31 (by omega)) (ck 32 (by omega)) (ck 33 (by omega)) (ck 34 (by omega)) (cr 56 (by omega)) (cr 57 (by omega)) (cr 58 (by omega)) (c37 27 (by omega))⟩, ⟨len, hT.keep (ck 35 (by omega)) (ck 36 (by omega)) (cr 63 (by omega)) (c37 39 (by omega))⟩, ⟨n', by rw [cc 27 (by omega), f27], by have := ok.2.1; omega, ?_, fun j hj => ?_⟩, by rw [c37 2 (by omega), ck 0 (by omega)]; exact hlim⟩
          · rw [ck 3 (by omega), cc 8 (by omega), cc 9 (by omega), f8, f9]; exact zw_run hN16 hN1 hv ok a6
          · rw [cc 8 (by omega), cc 9 (by omega), f8, f9]
            obtain ⟨w1, w2⟩ := a8 b hb
            have hle := ok.2.1
            obtain ⟨u1, u2, u3⟩ := ap1_bd (q := (fun j => (tr (M 3) (M 4) (M 5) (M 6) j).1)) (f := M 4) (n' - 1) w1
            obtain ⟨v1, v2, v3⟩ := ap2_bd (q := (fun j => (tr (M 3) (M 4) (M 5) (M 6) j).1)) (f := M 4) (n' - 1) w2
            exact ⟨⟨u1, by omega, u3⟩, v1, by omega, v3⟩
          · obtain ⟨b1, b2, b3, b4, b5, b6, b7, b8⟩ := a10 j hj
            rw [cr 38 (by omega), cr 39 (by omega), cr 40 (by omega), cr 41 (by omega), cr 42 (by omega), ck 2 (by omega), ck 3 (by omega), ck 4 (by omega), ck 5 (by omega), ck 6 (by omega), g7, g8, g9, cc 7 (by omega), cc 8 (by omega), cc 9 (by omega), f7, f8, f9]
            exact ⟨b1, b2, b3, b4, b5, rfl, rfl, rfl⟩
          · rw [g2, cc 27 (by omega), f27]; simp [upd]
          · rw [(g3 j hj).1, cnd2, cc _ (by omega), fp j hj]
      · have el : lim = lim' := (nI_eq (by omega) (by omega)).mp (l3.symm.trans a3)
        subst el
        exact (xok_no ok no).elim
    · rcases z with ⟨-, em, hn⟩ | ⟨q, -⟩
      · rcases h2 with ⟨-, rfl⟩ | ⟨lim', n2, a1, a2, a3, -⟩ | ⟨lim', a1, a2, a3, -⟩
        · rw [em]; exact ⟨by rw [fx_u_at, if_pos ⟨rfl, rfl⟩], fun z => absurd z (by decide), hI.keep (Nat.le_succ c) (fun a h => fx_u_ne (by omega)) (fun j h => by rw [fx_u_at, if_neg (by omega)])⟩
        · rw [a3] at hn; exact absurd (rng_t a1 a2) hn
        · rw [a3] at hn; exact absurd (rng_t a1 a2) hn
      · exact absurd q x3
    · rcases z with ⟨q, -⟩ | ⟨-, lim, l1, l2, l3, no, hf⟩
      · exact absurd q.symm x3
      · rcases h2 with ⟨z, -⟩ | ⟨lim', n2, a1, a2, a3, ok2, -⟩ | ⟨lim', a1, a2, a3, -, g1, g2, g3⟩
        · rw [l3] at z; exact absurd (rng_t l1 l2) z
        · have el : lim = lim' := (nI_eq (by omega) (by omega)).mp (l3.symm.trans a3)
          subst el
          exact (xok_no ok2 no).elim
        · have cc : ∀ a, (a ≠ 30 ∧ a ≠ cond s1 28 29 ∧ a ≠ 37 ∧ a ≠ 48 ∧ a ≠ 49 ∧ a ≠ 50) → M2 a = M a := fun a h => (g1 a (by simp only [List.mem_cons, List.not_mem_nil, or_false]; omega)).trans (hf a (by simp only [List.mem_cons, List.not_mem_nil, or_false]; omega))
          have c37 : ∀ j, (j ≠ 18 ∧ j ≠ 13) → M2 37 j = M 37 j := fun j h => (g3 j h.1 h.2).trans (congrFun (hq 37 (by omega) (by omega)) j)
          refine ⟨g2, fun z => absurd z (by decide), ?_⟩
          exact ⟨N, sz, hP.keep (Nat.le_succ c) (fun a h1 h2 => cc a (by omega)) (fun a h1 h2 => cc a (by omega)) (c37 0 (by omega)), ⟨hot, al, rw, pos, hL.keep (cc 10 (by omega)) (cc 11 (by omega)) (cc 46 (by omega)) (c37 3 (by omega)) (c37 1 (by omega))⟩, ⟨sl, kp, hH.keep (cc 31 (by omega)) (cc 32 (by omega)) (cc 33 (by omega)) (cc 34 (by omega)) (cc 56 (by omega)) (cc 57 (by omega)) (cc 58 (by omega)) (c37 27 (by omega))⟩, ⟨len, hT.keep (cc 35 (by omega)) (cc 36 (by omega)) (cc 63 (by omega)) (c37 39 (by omega))⟩, ⟨np, hQ.keep2 (cc 27 (by omega)) (cc _ (by omega)) (cc 47 (by omega)) (c37 17 (by omega))⟩, by rw [c37 2 (by omega), cc 0 (by omega)]; exact hlim⟩
  refine G_iload F dL_law_661 rfl ?_
  refine G_icmp_eq (tgt := 668) F dL_law_663 (by decide) (fun g1 => ?_) (fun g1 => absurd key.1 g1)
  refine G_iload F dL_law_668 rfl ?_
  refine G_if_ne (tgt := 685) F dL_law_670 (by decide) (fun g2 => ?_) (fun g2 => ?_)
  · refine G_goto (tgt := 1627) F dL_law_685 (by decide) ?_
    refine G_drop F 6 ?_
    refine G_drop F 7 ?_
    simp only [List.set_cons_zero, List.set_cons_succ]
    exact next s1 M2 key.2.2
  · refine G_aload_n F dL_law_673 rfl ?_
    refine G_iconst (v := 0) F dL_law_674 rfl ?_
    refine G_lald F dL_law_675 (k := 64) rfl vp_in01 ?_
    rw [show M2 64 (Int32.toNatClampNeg 0) = r2 from key.2.1 g2]
    refine G_iload F dL_law_676 rfl ?_
    refine G_i2l F dL_law_678 ?_
    refine G_lcmp F dL_law_679 ?_
    rw [lg_cmp_rfl]
    refine G_if_eq (tgt := 685) F dL_law_680 (by decide) (fun _ => ?_) (fun g3 => absurd rfl g3)
    refine G_goto (tgt := 1627) F dL_law_685 (by decide) ?_
    refine G_drop F 6 ?_
    refine G_drop F 7 ?_
    simp only [List.set_cons_zero, List.set_cons_succ]
    exact next s1 M2 key.2.2
set_option maxRecDepth 20000 in
theorem k_9 {X : fx_C} {l : Launch} {Z : fx_Z} {ad : Nat → Nat} {b n i c cx sx : Nat} {xs : Nat → Int32} {sw : Bool} {M : fx_M} (F : fx_F X l Z room_1 RL cL_law) (hl : l.stackTraces = false) (hs : fx_Scr X b n xs) (hn : n < 2 ^ 31) (hi : i + 4 < n) (hc : c ≤ 600) (hce : cx + 4 ≤ 603072) (hsl : sx + 24 ≤ 7202922) (hI : Iv c sw M) (hE : Eqs M) (next : ∀ (s1 : Bool) (M2 : fx_M), Iv (c + 1) s1 M2 → GG X ad 1627 [some (.ref b), some (.ref (ad 0)), some (.ref (ad 37)), some (.ref (ad 64)), some (.ref (ad 65)), some (.int (nI i)), none, none, none] [] (cx + 4) (sx + 24) (w_S s1) M2) : GG X ad 744 [some (.ref b), some (.ref (ad 0)), some (.ref (ad 37)), some (.ref (ad 64)), some (.ref (ad 65)), some (.int (nI i)), none, none, none] [] cx sx (w_S sw) M := by
  obtain ⟨N, sz, hP, ⟨hot, al, rw, pos, hL⟩, ⟨sl, kp, hH⟩, ⟨len, hT⟩, ⟨np, hQ⟩, hlim⟩ := id hI
  obtain ⟨e38, e39, e40, e41, e42, e43, e44, e45, e46⟩ := id hE
  have hN16 := hP.2.2.1
  have hN1 := hP.2.1
  refine G_aload_n F dL_law_744 rfl ?_
  refine G_qV F (k := 0) mv_L_135 dL_law_745 (s_pathLength hl ad sw (m_C ++ o_C) M) (As := []) rfl rfl rfl rfl (Nat.le_of_ble_eq_true rfl) ⟨Nat.le_of_ble_eq_true rfl, Nat.le_of_ble_eq_true rfl, by show cx + 4 ≤ 603072; omega, by show sx + 24 ≤ 7202922; omega⟩ (fun _ _ q => q.elim) (fun v1 M1 h1 => ?_)
  obtain ⟨r, rfl, q1⟩ := h1
  have hq : ∀ a, 37 ≤ a → a < 64 → M1 a = M a := by
    obtain ⟨-, e⟩ := q1
    intro a _ _; rw [e]
  show GG X ad 748 [some (.ref b), some (.ref (ad 0)), some (.ref (ad 37)), some (.ref (ad 64)), some (.ref (ad 65)), some (.int (nI i)), none, none, none] [.int r] (cx + 4) (sx + 24) (w_S sw) M1
  refine G_aload_n F dL_law_748 rfl ?_
  refine G_vI F (k := 37) mv_L_138 dL_law_749 (t_pathLength hl _ sw o_C M1) (As := []) rfl rfl rfl rfl (Nat.le_of_ble_eq_true rfl) ⟨Nat.le_of_ble_eq_true rfl, Nat.le_of_ble_eq_true rfl, by show cx + 4 ≤ 603072; omega, by show sx + 24 ≤ 7202922; omega⟩ (fun r2 M2 h2 => ?_)
  have key : r = r2 ∧ Iv (c + 1) sw M2 := by
    obtain ⟨rfl, rfl⟩ := q1
    obtain ⟨rfl, rfl⟩ := h2
    exact ⟨hQ.2.2.1.symm, hI.keep (Nat.le_succ c) (fun a h => fx_u_ne (by omega)) (fun j h => by rw [fx_u_at, if_neg (by omega)])⟩
  exact G_icmp_eq (tgt := 1627) F dL_law_752 (by decide) (fun _ => next sw M2 key.2) (fun g1 => absurd key.1 g1)
theorem pin_p {n x : Nat} (hn : n ≤ 500) (hx : x < n) : pin n (nI x) = true := by
  unfold pin
  rw [decide_eq_true_eq]
  exact ⟨nI_pos' (by omega), (nI_ltI (by omega) (by omega)).mpr hx⟩
set_option maxRecDepth 20000 in
theorem k_10 {X : fx_C} {l : Launch} {Z : fx_Z} {ad : Nat → Nat} {b n i c cx sx : Nat} {xs : Nat → Int32} {sw : Bool} {M : fx_M} (F : fx_F X l Z room_1 RL cL_law) (hl : l.stackTraces = false) (hs : fx_Scr X b n xs) (hn : n < 2 ^ 31) (hi : i + 4 < n) (hc : c ≤ 600) (hce : cx + 4 ≤ 603072) (hsl : sx + 24 ≤ 7202922) (hI : Iv c sw M) (hE : Eqs M) (next : ∀ (s1 : Bool) (M2 : fx_M), Iv (c + 1) s1 M2 → GG X ad 1627 [some (.ref b), some (.ref (ad 0)), some (.ref (ad 37)), some (.ref (ad 64)), some (.ref (ad 65)), some (.int (nI i)), none, none, none] [] (cx + 4) (sx + 24) (w_S s1) M2) : GG X ad 757 [some (.ref b), some (.ref (ad 0)), some (.ref (ad 37)), some (.ref (ad 64)), some (.ref (ad 65)), some (.int (nI i)), none, none, none] [] cx sx (w_S sw) M := by
  obtain ⟨N, sz, hP, ⟨hot, al, rw, pos, hL⟩, ⟨sl, kp, hH⟩, ⟨len, hT⟩, ⟨np, hQ⟩, hlim⟩ := id hI
  obtain ⟨e38, e39, e40, e41, e42, e43, e44, e45, e46⟩ := id hE
  have hN16 := hP.2.2.1
  have hN1 := hP.2.1
  refine G_aload_n F dL_law_757 rfl ?_
  refine G_aload_n F dL_law_758 rfl ?_
  refine G_iload F dL_law_759 rfl ?_
  refine G_iconst (v := nI 1) F dL_law_761 (by decide) ?_
  refine G_iadd F dL_law_762 ?_
  rw [nI_add]
  refine G_sld F hs dL_law_763 (by omega) hn ?_
  refine G_aload_n F dL_law_764 rfl ?_
  refine G_callX F mx_L_139 dL_law_765 (w_pathBlock hl ad ((xs (i + 1))) (by decide) (s_pathBlock hl ad sw (m_C ++ o_C) M (L := np) (xs (i + 1)) hQ.1 hQ.2.1) (fun E m h => h.2.1)) (As := [.ref (ad 0), .int (xs (i + 1)), .ref (ad 64)]) rfl rfl (Nat.le_of_ble_eq_true rfl) ⟨Nat.le_of_ble_eq_true rfl, Nat.le_of_ble_eq_true rfl, by show cx + 4 ≤ 603072; omega, by show sx + 24 ≤ 7202922; omega⟩ (fun _ _ q => q.elim) (fun v1 a1 S1 M1 h1 => ?_)
  obtain ⟨ea, k, s1, rfl, rfl, q1⟩ := h1
  subst ea
  have hq : ∀ a, 37 ≤ a → a < 64 → M1 a = M a := by
    rcases q1 with ⟨-, -, r, m0, ⟨x, -, -, -, rfl⟩, rfl⟩ | ⟨-, -, e, -⟩
    · intro a h1 h2
      rw [fx_u_ne (by omega)]
    · intro a _ _; rw [e]
  skip
  refine G_istore F dL_law_768 rfl rfl (Nat.le_of_ble_eq_true rfl) ?_
  simp only [List.set_cons_zero, List.set_cons_succ]
  refine G_aload_n F dL_law_770 rfl ?_
  refine G_aload_n F dL_law_771 rfl ?_
  refine G_iload F dL_law_772 rfl ?_
  refine G_iconst (v := nI 1) F dL_law_774 (by decide) ?_
  refine G_iadd F dL_law_775 ?_
  rw [nI_add]
  refine G_sld F hs dL_law_776 (by omega) hn ?_
  refine G_vI F (k := 37) mv_L_141 dL_law_777 (t_pathBlock hl _ s1 o_C M1 (L := np) (xs (i + 1)) (by rw [hq 37 (by omega) (by omega), hQ.2.2.1]; exact hQ.1) hQ.2.1) (As := [.int (xs (i + 1))]) rfl rfl rfl rfl (Nat.le_of_ble_eq_true rfl) ⟨Nat.le_of_ble_eq_true rfl, Nat.le_of_ble_eq_true rfl, by show cx + 4 ≤ 603072; omega, by show sx + 24 ≤ 7202922; omega⟩ (fun r2 M2 h2 => ?_)
  refine G_istore F dL_law_780 rfl rfl (Nat.le_of_ble_eq_true rfl) ?_
  simp only [List.set_cons_zero, List.set_cons_succ]
  refine G_aload_n F dL_law_782 rfl ?_
  refine G_vI F (k := 37) mv_L_106 dL_law_783 (t_thrown hl _ s1 o_C M2) (As := []) rfl rfl rfl rfl (Nat.le_of_ble_eq_true rfl) ⟨Nat.le_of_ble_eq_true rfl, Nat.le_of_ble_eq_true rfl, by show cx + 4 ≤ 603072; omega, by show sx + 24 ≤ 7202922; omega⟩ (fun r3 M3 h3 => ?_)
  rw [h3.1, h3.2]
  have key : M2 37 13 = k ∧ (k = 0 → M2 64 0 = r2) ∧ Iv (c + 1) s1 M2 := by
    have hp5 := hQ.2.1
    have ep : ∀ j, j < np → M1 47 j = M (cond sw 29 28) j := fun j hj => by rw [hq 47 (by omega) (by omega)]; exact hQ.2.2.2 j hj
    rcases q1 with ⟨rfl, rfl, r, m0, ⟨x, x1, x2, rfl, rfl⟩, rfl⟩ | ⟨rfl, rfl, rfl, -, z⟩
    · rcases h2 with ⟨y, y1, y2, rfl, rfl⟩ | ⟨z, -⟩
      · have exy : x = y := (nI_eq (by omega) (by omega)).mp (x2.symm.trans y2)
        subst exy
        exact ⟨rfl, fun _ => (ep x x1).symm, hI.keep (Nat.le_succ c) (fun a h => by rw [fx_u_ne (by omega), fx_u_ne (by omega)]) (fun j h => by rw [fx_u_at, if_neg (by omega), fx_u_ne (by decide)])⟩
      · rw [x2, pin_p hp5 x1] at z; exact Bool.noConfusion z
    · rcases h2 with ⟨y, y1, y2, -, -⟩ | ⟨-, rfl⟩
      · rw [y2, pin_p hp5 y1] at z; exact Bool.noConfusion z
      · exact ⟨by rw [fx_u_at, if_pos ⟨rfl, rfl⟩], fun z => absurd z (by decide), hI.keep (Nat.le_succ c) (fun a h => fx_u_ne (by omega)) (fun j h => by rw [fx_u_at, if_neg (by omega)])⟩
  refine G_iload F dL_law_786 rfl ?_
  refine G_icmp_eq (tgt := 793) F dL_law_788 (by decide) (fun g1 => ?_) (fun g1 => absurd key.1 g1)
  refine G_iload F dL_law_793 rfl ?_
  refine G_if_ne (tgt := 810) F dL_law_795 (by decide) (fun g2 => ?_) (fun g2 => ?_)
  · refine G_goto (tgt := 1627) F dL_law_810 (by decide) ?_
    refine G_drop F 6 ?_
    refine G_drop F 7 ?_
    simp only [List.set_cons_zero, List.set_cons_succ]
    exact next s1 M2 key.2.2
  · refine G_aload_n F dL_law_798 rfl ?_
    refine G_iconst (v := 0) F dL_law_799 rfl ?_
    refine G_lald F dL_law_800 (k := 64) rfl vp_in01 ?_
    rw [show M2 64 (Int32.toNatClampNeg 0) = r2 from key.2.1 g2]
    refine G_iload F dL_law_801 rfl ?_
    refine G_i2l F dL_law_803 ?_
    refine G_lcmp F dL_law_804 ?_
    rw [lg_cmp_rfl]
    refine G_if_eq (tgt := 810) F dL_law_805 (by decide) (fun _ => ?_) (fun g3 => absurd rfl g3)
    refine G_goto (tgt := 1627) F dL_law_810 (by decide) ?_
    refine G_drop F 6 ?_
    refine G_drop F 7 ?_
    simp only [List.set_cons_zero, List.set_cons_succ]
    exact next s1 M2 key.2.2
set_option maxRecDepth 20000 in
theorem k_11 {X : fx_C} {l : Launch} {Z : fx_Z} {ad : Nat → Nat} {b n i c cx sx : Nat} {xs : Nat → Int32} {sw : Bool} {M : fx_M} (F : fx_F X l Z room_1 RL cL_law) (hl : l.stackTraces = false) (hs : fx_Scr X b n xs) (hn : n < 2 ^ 31) (hi : i + 4 < n) (hc : c ≤ 600) (hce : cx + 4 ≤ 603072) (hsl : sx + 24 ≤ 7202922) (hI : Iv c sw M) (hE : Eqs M) (next : ∀ (s1 : Bool) (M2 : fx_M), Iv (c + 1) s1 M2 → GG X ad 1627 [some (.ref b), some (.ref (ad 0)), some (.ref (ad 37)), some (.ref (ad 64)), some (.ref (ad 65)), some (.int (nI i)), none, none, none] [] (cx + 4) (sx + 24) (w_S s1) M2) : GG X ad 813 [some (.ref b), some (.ref (ad 0)), some (.ref (ad 37)), some (.ref (ad 64)), some (.ref (ad 65)), some (.int (nI i)), none, none, none] [] cx sx (w_S sw) M := by
  obtain ⟨N, sz, hP, ⟨hot, al, rw, pos, hL⟩, ⟨sl, kp, hH⟩, ⟨len, hT⟩, ⟨np, hQ⟩, hlim⟩ := id hI
  obtain ⟨e38, e39, e40, e41, e42, e43, e44, e45, e46⟩ := id hE
  have hN16 := hP.2.2.1
  have hN1 := hP.2.1
  refine G_aload_n F dL_law_813 rfl ?_
  refine G_qV F (k := 0) mv_L_142 dL_law_814 (s_clearProfile hl ad sw (m_C ++ o_C) M (N := N) hP.1 hN16) (As := []) rfl rfl rfl rfl (Nat.le_of_ble_eq_true rfl) ⟨Nat.le_of_ble_eq_true rfl, Nat.le_of_ble_eq_true rfl, by show cx + 4 ≤ 603072; omega, by show sx + 24 ≤ 7202922; omega⟩ (fun _ _ q => q.elim) (fun v1 M1 h1 => ?_)
  obtain ⟨r, rfl, q1⟩ := h1
  have hq : ∀ a, 37 ≤ a → a < 64 → M1 a = M a := by
    intro a h1 h2
    exact q1.2.1 a (by simp only [List.mem_cons, List.not_mem_nil, or_false]; omega)
  show GG X ad 817 [some (.ref b), some (.ref (ad 0)), some (.ref (ad 37)), some (.ref (ad 64)), some (.ref (ad 65)), some (.int (nI i)), none, none, none] [.int r] (cx + 4) (sx + 24) (w_S sw) M1
  refine G_aload_n F dL_law_817 rfl ?_
  refine G_vI F (k := 37) mv_L_145 dL_law_818 (t_clearProfile hl _ sw o_C M1 (N := N) (n0_of hP hq) hN16 hN1) (As := []) rfl rfl rfl rfl (Nat.le_of_ble_eq_true rfl) ⟨Nat.le_of_ble_eq_true rfl, Nat.le_of_ble_eq_true rfl, by show cx + 4 ≤ 603072; omega, by show sx + 24 ≤ 7202922; omega⟩ (fun r2 M2 h2 => ?_)
  have key : r = r2 ∧ Iv (c + 1) sw M2 := by
    obtain ⟨rfl, f1, f2⟩ := q1
    obtain ⟨rfl, g1, g2, g3⟩ := h2
    have ck : ∀ a, (a < 37 ∧ a ≠ 7 ∧ a ≠ 8 ∧ a ≠ 9) → M2 a = M a := fun a h => (g1 a (by simp only [List.mem_cons, List.not_mem_nil, or_false]; omega)).trans (f1 a (by simp only [List.mem_cons, List.not_mem_nil, or_false]; omega))
    have cc : ∀ a, a < 37 → M2 a = M1 a := fun a h => g1 a (by simp only [List.mem_cons, List.not_mem_nil, or_false]; omega)
    have cr : ∀ a, (37 < a ∧ a < 64 ∧ a ≠ 43 ∧ a ≠ 44 ∧ a ≠ 45) → M2 a = M a := fun a h => (g1 a (by simp only [List.mem_cons, List.not_mem_nil, or_false]; omega)).trans (hq a (by omega) (by omega))
    have c37 : ∀ j, j ≠ 13 → M2 37 j = M 37 j := fun j h => by rw [g2]; simp only [upd, if_neg h]; exact congrFun (hq 37 (by omega) (by omega)) j
    refine ⟨by rw [hq 43 (by omega) (by omega), e43], ?_⟩
    obtain ⟨a1, a2, a3, a4, a5, a6, a7, a8, a9, a10⟩ := id hP
    refine ⟨N, sz, ⟨by rw [ck 1 (by omega)]; exact a1, a2, a3, by rw [ck 2 (by omega)]; exact a4, by rw [ck 3 (by omega), ck 4 (by omega), ck 5 (by omega)]; exact a5, fun b hb => ?_, by rw [ck 1 (by omega), ck 4 (by omega), ck 5 (by omega)]; exact a7, fun b hb => ?_, by rw [c37 0 (by omega), ck 1 (by omega)]; exact a9, fun j hj => ?_⟩, ⟨hot, al, rw, pos, hL.keep (ck 10 (by omega)) (ck 11 (by omega)) (cr 46 (by omega)) (c37 3 (by omega)) (c37 1 (by omega))⟩, ⟨sl, kp, hH.keep (ck 31 (by omega)) (ck 32 (by omega)) (ck 33 (by omega)) (ck 34 (by omega)) (cr 56 (by omega)) (cr 57 (by omega)) (cr 58 (by omega)) (c37 27 (by omega))⟩, ⟨len, hT.keep (ck 35 (by omega)) (ck 36 (by omega)) (cr 63 (by omega)) (c37 39 (by omega))⟩, ⟨np, hQ.keep (ck 27 (by omega)) (ck 28 (by omega)) (ck 29 (by omega)) (cr 47 (by omega)) (c37 17 (by omega))⟩, by rw [c37 2 (by omega), ck 0 (by omega)]; exact hlim⟩
    · rw [cc 8 (by omega), cc 9 (by omega)]; exact ⟨fun _ => (f2 b (by omega)).2.1, fun _ => (f2 b (by omega)).2.2⟩
    · rw [cc 8 (by omega), cc 9 (by omega)]; exact ⟨⟨0, by omega, (f2 b hb).2.1⟩, 0, by omega, (f2 b hb).2.2⟩
    · obtain ⟨b1, b2, b3, b4, b5, -⟩ := a10 j hj
      rw [cr 38 (by omega), cr 39 (by omega), cr 40 (by omega), cr 41 (by omega), cr 42 (by omega), ck 2 (by omega), ck 3 (by omega), ck 4 (by omega), ck 5 (by omega), ck 6 (by omega), cc 7 (by omega), cc 8 (by omega), cc 9 (by omega)]
      exact ⟨b1, b2, b3, b4, b5, (g3 j hj).1.trans (f2 j hj).1.symm, (g3 j hj).2.1.trans (f2 j hj).2.1.symm, (g3 j hj).2.2.trans (f2 j hj).2.2.symm⟩
  exact G_icmp_eq (tgt := 1627) F dL_law_821 (by decide) (fun _ => next sw M2 key.2) (fun g1 => absurd key.1 g1)
