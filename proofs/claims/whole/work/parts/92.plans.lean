/-! THE LAW: its cases, plans, texts, undoing -/
theorem rem2 {kp : Nat} {M M1 m2 m : fx_M} (hk : v_kp kp (fx_u M1 37 13 0) m2) (hq : ∀ a, 37 ≤ a → a < 64 → M1 a = M a) (f27 : m 37 27 = m2 37 27) (f56 : m 56 = m2 56) (f57 : m 57 = m2 57) (f58 : m 58 = m2 58) : v_kr kp M m := by
  refine v_kr_of (M2 := fx_u M1 37 13 0) (m := m2) hk.2.2 ?_ ?_ ?_ ?_ ?_ ?_ f27 f56 f57 f58
  · rw [fx_u_ne (by decide)]; exact hq 46 (by omega) (by omega)
  · rw [fx_u_ne (by decide)]; exact hq 56 (by omega) (by omega)
  · rw [fx_u_ne (by decide)]; exact hq 57 (by omega) (by omega)
  · rw [fx_u_ne (by decide)]; exact hq 58 (by omega) (by omega)
  · rw [fx_u_at, if_neg (by omega)]; exact congrFun (hq 37 (by omega) (by omega)) 3
  · rw [fx_u_at, if_neg (by omega)]; exact congrFun (hq 37 (by omega) (by omega)) 1
theorem al_of {a : Int32} (h : 1 ≤ a ∧ a ≤ 32 ∧ a &&& (a - 1) = 0) : ∃ n, isAl n ∧ n ≤ 32 ∧ a = nI n := by
  obtain ⟨n, n1, n2, rfl⟩ := int_rng (a := 1) (b := 32) (by decide) (by decide) h.1 h.2.1
  have hd : ∀ n, n < 33 → 1 ≤ n → nI n &&& (nI n - 1) = 0 → n = 1 ∨ n = 2 ∨ n = 4 ∨ n = 8 ∨ n = 16 ∨ n = 32 := by decide +kernel
  have := hd n (by omega) n1 h.2.2
  refine ⟨n, ?_, n2, rfl⟩
  unfold isAl
  omega
/-- two places of a plan exchanged -/
theorem pm_swp {N x y : Nat} {rw pos : Nat → Nat} (h : pm N rw pos) (hx : x < N) (hy : y < N) : pm N (swp rw x y) (fun b => if pos b = y then x else if pos b = x then y else pos b) := by
  have hxx := h.1 x hx
  have hyy := h.1 y hy
  refine ⟨fun j hj => ?_, fun b hb => ?_⟩
  · have hjj := h.1 j hj
    unfold swp
    by_cases e1 : j = y
    · rw [if_pos e1]
      refine ⟨hxx.1, ?_⟩
      (try dsimp only)
      rw [hxx.2]
      by_cases e2 : x = y
      · rw [if_pos e2]; omega
      · rw [if_neg e2, if_pos rfl]; exact e1.symm
    · rw [if_neg e1]
      by_cases e2 : j = x
      · rw [if_pos e2]
        refine ⟨hyy.1, ?_⟩
        (try dsimp only)
        rw [hyy.2, if_pos rfl]; exact e2.symm
      · rw [if_neg e2]
        refine ⟨hjj.1, ?_⟩
        (try dsimp only)
        rw [hjj.2, if_neg e1, if_neg e2]
  · have hbb := h.2 b hb
    (try dsimp only)
    unfold swp
    by_cases e1 : pos b = y
    · rw [if_pos e1]
      refine ⟨hx, ?_⟩
      by_cases e2 : x = y
      · rw [if_pos e2, e2, ← e1]; exact hbb.2
      · rw [if_neg e2, if_pos rfl, ← e1]; exact hbb.2
    · rw [if_neg e1]
      by_cases e2 : pos b = x
      · rw [if_pos e2]
        refine ⟨hy, ?_⟩
        rw [if_pos rfl, ← e2]; exact hbb.2
      · rw [if_neg e2]
        refine ⟨hbb.1, ?_⟩
        rw [if_neg e1, if_neg e2]; exact hbb.2
theorem swp_row {f : Nat → Int32} {rw : Nat → Nat} {N x y : Nat} (hx : x < N) (hy : y < N) (h : ∀ j, j < N → f j = nI (rw j)) : ∀ j, j < N → upd (upd f x (f y)) y (f x) j = nI (swp rw x y j) := by
  intro j hj
  unfold swp
  by_cases e1 : j = y
  · rw [if_pos e1, e1, upd_eq]; exact h x hx
  · rw [if_neg e1, upd_ne e1]
    by_cases e2 : j = x
    · rw [if_pos e2, e2, upd_eq]; exact h y hy
    · rw [if_neg e2, upd_ne e2]; exact h j hj
theorem nar_c (x : Int32) : vp_nar .char (x.toUInt32 % 65536).toInt32 = (x.toUInt32 % 65536).toInt32 := by
  have h : (x.toUInt32 % 65536).toUInt16.toUInt32 = x.toUInt32 % 65536 := by
    apply UInt32.toNat_inj.mp
    simp
  show ((x.toUInt32 % 65536).toInt32.toUInt32).toUInt16.toUInt32.toInt32 = _
  rw [UInt32.toUInt32_toInt32, h]
theorem tn_nat {h : Nat → Int32} : ∀ (k a v : Nat), ∃ w, (tn h k a (nI v)).2 = nI w ∧ w < (v + 1) * 10 ^ k := by
  intro k
  induction k with
  | zero => intro a v; exact ⟨v, rfl, by omega⟩
  | succ k ih =>
    intro a v
    simp only [tn]
    by_cases e : dg (h a) = true
    · rw [if_pos e]
      unfold dg at e
      rw [Bool.and_eq_true, decide_eq_true_eq, decide_eq_true_eq] at e
      obtain ⟨d, d1, d2, d3⟩ := int_rng (a := 48) (b := 57) (by decide) (by decide) e.1 e.2
      have e2 : nI v * 10 + (h a - 48) = nI (v * 10 + (d - 48)) := by
        rw [d3, show (48 : Int32) = nI 48 from rfl, show (10 : Int32) = nI 10 from rfl, nI_sub d1, nI_mul, nI_add]
      rw [e2]
      obtain ⟨w, w1, w2⟩ := ih (a + 1) (v * 10 + (d - 48))
      refine ⟨w, w1, Nat.lt_of_lt_of_le w2 ?_⟩
      rw [Nat.pow_succ, ← Nat.mul_assoc, Nat.mul_right_comm]
      exact Nat.mul_le_mul_right _ (by omega)
    · rw [if_neg e]
      refine ⟨v, rfl, Nat.lt_of_lt_of_le (Nat.lt_succ_self v) (Nat.le_mul_of_pos_right _ (Nat.pow_pos (by decide)))⟩
theorem te_v (h : Nat → Int32) (a : Nat) : ((te h a).2.2.1 = 2 ∧ (te h a).2.2.2.1 = -1 ∧ (te h a).2.2.2.2.1 = -1) ∨ ((te h a).2.2.1 = 0 ∧ (te h a).2.2.2.2.1 = -1) ∨ (te h a).2.2.1 = 1 := by
  unfold te
  dsimp only
  repeat' split
  all_goals simp
theorem pp_v {N : Nat} {h : Nat → Int32} {len : Nat} (hN : N ≤ 16) (e : (pp h len).2.1 = true) (hf : (pp h len).2.2.1 ≤ 60 ∧ tfit N (pp h len).2.2.2.1 (pp h len).2.2.2.2.1 (pp h len).2.2.2.2.2.1 = true) : vld N (pp h len).2.2.2.1 (pp h len).2.2.2.2.1 (pp h len).2.2.2.2.2.1 ∧ ∃ v, v ≤ 60 ∧ (pp h len).2.2.1 = nI v := by
  unfold pp at *
  by_cases h1 : 0 < (tn h 2 0 0).1
  · rw [if_pos h1] at *
    by_cases h2 : (tw h [32] (tn h 2 0 0).1).1 = true
    · rw [if_pos h2] at *
      dsimp only at hf ⊢
      obtain ⟨w, w1, w2⟩ := tn_nat (h := h) 2 0 0
      have w1' : (tn h 2 0 0).2 = nI w := w1
      refine ⟨?_, w, ?_, w1'⟩
      · have ht := hf.2
        unfold tfit at ht
        rcases te_v h (tw h [32] (tn h 2 0 0).1).2 with ⟨z, z1, z2⟩ | ⟨z, z1⟩ | z
        · exact Or.inl ⟨z, z1, z2⟩
        · rw [if_pos z] at ht
          obtain ⟨x, x1, x2⟩ := pin_spec hN ht
          exact Or.inr (Or.inl ⟨z, ⟨x, x1, x2⟩, z1⟩)
        · rw [if_neg (by rw [z]; decide), if_pos z, Bool.and_eq_true, Bool.and_eq_true, decide_eq_true_eq] at ht
          obtain ⟨x, x1, x2⟩ := pin_spec hN ht.1
          obtain ⟨y, y1, y2⟩ := pin_spec hN ht.2.1
          exact Or.inr (Or.inr ⟨z, ⟨x, x1, x2⟩, ⟨y, y1, y2⟩, ht.2.2⟩)
      · have h60 := hf.1
        rw [w1'] at h60
        exact (nI_leI (b := 60) (by omega) (by omega)).mp h60
    · rw [if_neg h2] at e; exact Bool.noConfusion (show false = true from e)
  · rw [if_neg h1] at e; exact Bool.noConfusion (show false = true from e)
theorem hr_same {f g : Nat → Int32} {len : Nat} (h : ∀ j, j < len → f j = g j) : hr f len = hr g len := by
  funext a
  unfold hr
  by_cases e : a < len
  · rw [if_pos e, if_pos e]; exact h a e
  · rw [if_neg e, if_neg e]
set_option maxRecDepth 20000 in
theorem k_13 {X : fx_C} {l : Launch} {Z : fx_Z} {ad : Nat → Nat} {b n i c cx sx : Nat} {xs : Nat → Int32} {sw : Bool} {M : fx_M} (F : fx_F X l Z room_1 RL cL_law) (hl : l.stackTraces = false) (hs : fx_Scr X b n xs) (hn : n < 2 ^ 31) (hi : i + 4 < n) (hc : c ≤ 600) (hce : cx + 4 ≤ 603072) (hsl : sx + 24 ≤ 7202922) (hI : Iv c sw M) (hE : Eqs M) (next : ∀ (s1 : Bool) (M2 : fx_M), Iv (c + 1) s1 M2 → GG X ad 1627 [some (.ref b), some (.ref (ad 0)), some (.ref (ad 37)), some (.ref (ad 64)), some (.ref (ad 65)), some (.int (nI i)), none, none, none] [] (cx + 4) (sx + 24) (w_S s1) M2) : GG X ad 882 [some (.ref b), some (.ref (ad 0)), some (.ref (ad 37)), some (.ref (ad 64)), some (.ref (ad 65)), some (.int (nI i)), none, none, none] [] cx sx (w_S sw) M := by
  obtain ⟨N, sz, hP, ⟨hot, al, rw, pos, hL⟩, ⟨sl, kp, hH⟩, ⟨len, hT⟩, ⟨np, hQ⟩, hlim⟩ := id hI
  obtain ⟨e38, e39, e40, e41, e42, e43, e44, e45, e46⟩ := id hE
  have hN16 := hP.2.2.1
  have hN1 := hP.2.1
  refine G_aload_n F dL_law_882 rfl ?_
  refine G_aload_n F dL_law_883 rfl ?_
  refine G_iload F dL_law_884 rfl ?_
  refine G_iconst (v := nI 1) F dL_law_886 (by decide) ?_
  refine G_iadd F dL_law_887 ?_
  rw [nI_add]
  refine G_sld F hs dL_law_888 (by omega) hn ?_
  refine G_aload_n F dL_law_889 rfl ?_
  refine G_callX F mx_L_149 dL_law_890 (w_setLoopLimit hl ad ((xs (i + 1))) (by decide) (s_setLoopLimit hl ad sw (m_C ++ o_C) M (xs (i + 1))) (fun E m h => h.2.1)) (As := [.ref (ad 0), .int (xs (i + 1)), .ref (ad 64)]) rfl rfl (Nat.le_of_ble_eq_true rfl) ⟨Nat.le_of_ble_eq_true rfl, Nat.le_of_ble_eq_true rfl, by show cx + 4 ≤ 603072; omega, by show sx + 24 ≤ 7202922; omega⟩ (fun _ _ q => q.elim) (fun v1 a1 S1 M1 h1 => ?_)
  obtain ⟨ea, k, s1, rfl, rfl, q1⟩ := h1
  subst ea
  have hq : ∀ a, 37 ≤ a → a < 64 → M1 a = M a := by
    rcases q1 with ⟨-, -, r, m0, ⟨-, -, rfl⟩, rfl⟩ | ⟨-, -, e, -⟩
    · intro a h1 h2
      rw [fx_u_ne (by omega), fx_u_ne (by omega)]
    · intro a _ _; rw [e]
  skip
  refine G_istore F dL_law_893 rfl rfl (Nat.le_of_ble_eq_true rfl) ?_
  simp only [List.set_cons_zero, List.set_cons_succ]
  refine G_aload_n F dL_law_895 rfl ?_
  refine G_aload_n F dL_law_896 rfl ?_
  refine G_iload F dL_law_897 rfl ?_
  refine G_iconst (v := nI 1) F dL_law_899 (by decide) ?_
  refine G_iadd F dL_law_900 ?_
  rw [nI_add]
  refine G_sld F hs dL_law_901 (by omega) hn ?_
  refine G_vI F (k := 37) mv_L_151 dL_law_902 (t_setLoopLimit hl _ s1 o_C M1 (xs (i + 1))) (As := [.int (xs (i + 1))]) rfl rfl rfl rfl (Nat.le_of_ble_eq_true rfl) ⟨Nat.le_of_ble_eq_true rfl, Nat.le_of_ble_eq_true rfl, by show cx + 4 ≤ 603072; omega, by show sx + 24 ≤ 7202922; omega⟩ (fun r2 M2 h2 => ?_)
  refine G_istore F dL_law_905 rfl rfl (Nat.le_of_ble_eq_true rfl) ?_
  simp only [List.set_cons_zero, List.set_cons_succ]
  refine G_aload_n F dL_law_907 rfl ?_
  refine G_vI F (k := 37) mv_L_106 dL_law_908 (t_thrown hl _ s1 o_C M2) (As := []) rfl rfl rfl rfl (Nat.le_of_ble_eq_true rfl) ⟨Nat.le_of_ble_eq_true rfl, Nat.le_of_ble_eq_true rfl, by show cx + 4 ≤ 603072; omega, by show sx + 24 ≤ 7202922; omega⟩ (fun r3 M3 h3 => ?_)
  rw [h3.1, h3.2]
  have key : M2 37 13 = k ∧ (k = 0 → M2 64 0 = r2) ∧ Iv (c + 1) s1 M2 := by
    rcases q1 with ⟨rfl, rfl, r, m0, ⟨hr, rfl, rfl⟩, rfl⟩ | ⟨rfl, rfl, rfl, -, hn⟩
    · rcases h2 with ⟨-, rfl, rfl⟩ | ⟨hn, -⟩
      · refine ⟨rfl, fun _ => ?_, ⟨N, sz, hP.keep (Nat.le_succ c) (fun a h1 h2 => by rw [fx_u_ne (by omega), fx_u_ne (by omega), fx_u_ne (by omega), fx_u_ne (by omega)]) (fun a h1 h2 => by rw [fx_u_ne (by omega), fx_u_ne (by omega), fx_u_ne (by omega), fx_u_ne (by omega)]) rfl, ⟨hot, al, rw, pos, hL.keep rfl rfl rfl rfl rfl⟩, ⟨sl, kp, hH.keep rfl rfl rfl rfl rfl rfl rfl rfl⟩, ⟨len, hT.keep rfl rfl rfl rfl⟩, ⟨np, hQ.keep rfl rfl rfl rfl rfl⟩, rfl⟩⟩
        show M 0 7 = M 37 2
        exact hlim.symm
      · exact absurd hr hn
    · rcases h2 with ⟨hr, -, -⟩ | ⟨-, rfl⟩
      · exact absurd hr hn
      · exact ⟨by rw [fx_u_at, if_pos ⟨rfl, rfl⟩], fun z => absurd z (by decide), hI.keep (Nat.le_succ c) (fun a h => fx_u_ne (by omega)) (fun j h => by rw [fx_u_at, if_neg (by omega)])⟩
  refine G_iload F dL_law_911 rfl ?_
  refine G_icmp_eq (tgt := 918) F dL_law_913 (by decide) (fun g1 => ?_) (fun g1 => absurd key.1 g1)
  refine G_iload F dL_law_918 rfl ?_
  refine G_if_ne (tgt := 935) F dL_law_920 (by decide) (fun g2 => ?_) (fun g2 => ?_)
  · refine G_goto (tgt := 1627) F dL_law_935 (by decide) ?_
    refine G_drop F 6 ?_
    refine G_drop F 7 ?_
    simp only [List.set_cons_zero, List.set_cons_succ]
    exact next s1 M2 key.2.2
  · refine G_aload_n F dL_law_923 rfl ?_
    refine G_iconst (v := 0) F dL_law_924 rfl ?_
    refine G_lald F dL_law_925 (k := 64) rfl vp_in01 ?_
    rw [show M2 64 (Int32.toNatClampNeg 0) = r2 from key.2.1 g2]
    refine G_iload F dL_law_926 rfl ?_
    refine G_i2l F dL_law_928 ?_
    refine G_lcmp F dL_law_929 ?_
    rw [lg_cmp_rfl]
    refine G_if_eq (tgt := 935) F dL_law_930 (by decide) (fun _ => ?_) (fun g3 => absurd rfl g3)
    refine G_goto (tgt := 1627) F dL_law_935 (by decide) ?_
    refine G_drop F 6 ?_
    refine G_drop F 7 ?_
    simp only [List.set_cons_zero, List.set_cons_succ]
    exact next s1 M2 key.2.2
set_option maxRecDepth 20000 in
theorem k_12 {X : fx_C} {l : Launch} {Z : fx_Z} {ad : Nat → Nat} {b n i c cx sx : Nat} {xs : Nat → Int32} {sw : Bool} {M : fx_M} (F : fx_F X l Z room_1 RL cL_law) (hl : l.stackTraces = false) (hs : fx_Scr X b n xs) (hn : n < 2 ^ 31) (hi : i + 4 < n) (hc : c ≤ 600) (hce : cx + 4 ≤ 603072) (hsl : sx + 24 ≤ 7202922) (hI : Iv c sw M) (hE : Eqs M) (next : ∀ (s1 : Bool) (M2 : fx_M), Iv (c + 1) s1 M2 → GG X ad 1627 [some (.ref b), some (.ref (ad 0)), some (.ref (ad 37)), some (.ref (ad 64)), some (.ref (ad 65)), some (.int (nI i)), none, none, none] [] (cx + 4) (sx + 24) (w_S s1) M2) : GG X ad 826 [some (.ref b), some (.ref (ad 0)), some (.ref (ad 37)), some (.ref (ad 64)), some (.ref (ad 65)), some (.int (nI i)), none, none, none] [] cx sx (w_S sw) M := by
  obtain ⟨N, sz, hP, ⟨hot, al, rw, pos, hL⟩, ⟨sl, kp, hH⟩, ⟨len, hT⟩, ⟨np, hQ⟩, hlim⟩ := id hI
  obtain ⟨e38, e39, e40, e41, e42, e43, e44, e45, e46⟩ := id hE
  have hN16 := hP.2.2.1
  have hN1 := hP.2.1
  refine G_aload_n F dL_law_826 rfl ?_
  refine G_aload_n F dL_law_827 rfl ?_
  refine G_iload F dL_law_828 rfl ?_
  refine G_iconst (v := nI 1) F dL_law_830 (by decide) ?_
  refine G_iadd F dL_law_831 ?_
  rw [nI_add]
  refine G_sld F hs dL_law_832 (by omega) hn ?_
  refine G_aload_n F dL_law_833 rfl ?_
  refine G_callX F mx_L_146 dL_law_834 (w_setAlignment hl ad ((xs (i + 1))) (by decide) (s_setAlignment hl ad sw (m_C ++ o_C) M (xs (i + 1)) hH.1 hH.2.1 hH.2.2.1 hH.2.2.2.1) (fun E m h => h.2.1)) (As := [.ref (ad 0), .int (xs (i + 1)), .ref (ad 64)]) rfl rfl (Nat.le_of_ble_eq_true rfl) ⟨Nat.le_of_ble_eq_true rfl, Nat.le_of_ble_eq_true rfl, by show cx + 4 ≤ 603072; omega, by show sx + 24 ≤ 7202922; omega⟩ (fun _ _ q => q.elim) (fun v1 a1 S1 M1 h1 => ?_)
  obtain ⟨ea, k, s1, rfl, rfl, q1⟩ := h1
  subst ea
  have hq : ∀ a, 37 ≤ a → a < 64 → M1 a = M a := by
    rcases q1 with ⟨-, -, r, m1, ⟨-, -, m0, hm, rfl⟩, rfl⟩ | ⟨-, -, e, -⟩
    · intro a h1 h2
      rw [fx_u_ne (by omega), fx_u_ne (by omega)]; exact hm.1 a (by simp only [List.mem_cons, List.not_mem_nil, or_false]; omega)
    · intro a _ _; rw [e]
  skip
  refine G_istore F dL_law_837 rfl rfl (Nat.le_of_ble_eq_true rfl) ?_
  simp only [List.set_cons_zero, List.set_cons_succ]
  refine G_aload_n F dL_law_839 rfl ?_
  refine G_aload_n F dL_law_840 rfl ?_
  refine G_iload F dL_law_841 rfl ?_
  refine G_iconst (v := nI 1) F dL_law_843 (by decide) ?_
  refine G_iadd F dL_law_844 ?_
  rw [nI_add]
  refine G_sld F hs dL_law_845 (by omega) hn ?_
  refine G_vI F (k := 37) mv_L_148 dL_law_846 (t_setAlignment hl _ s1 o_C M1 (xs (i + 1)) (u := kp) (by rw [hq 37 (by omega) (by omega), hH.2.2.2.2.1]; exact hH.2.2.1) hH.2.2.2.1) (As := [.int (xs (i + 1))]) rfl rfl rfl rfl (Nat.le_of_ble_eq_true rfl) ⟨Nat.le_of_ble_eq_true rfl, Nat.le_of_ble_eq_true rfl, by show cx + 4 ≤ 603072; omega, by show sx + 24 ≤ 7202922; omega⟩ (fun r2 M2 h2 => ?_)
  refine G_istore F dL_law_849 rfl rfl (Nat.le_of_ble_eq_true rfl) ?_
  simp only [List.set_cons_zero, List.set_cons_succ]
  refine G_aload_n F dL_law_851 rfl ?_
  refine G_vI F (k := 37) mv_L_106 dL_law_852 (t_thrown hl _ s1 o_C M2) (As := []) rfl rfl rfl rfl (Nat.le_of_ble_eq_true rfl) ⟨Nat.le_of_ble_eq_true rfl, Nat.le_of_ble_eq_true rfl, by show cx + 4 ≤ 603072; omega, by show sx + 24 ≤ 7202922; omega⟩ (fun r3 M3 h3 => ?_)
  rw [h3.1, h3.2]
  have key : M2 37 13 = k ∧ (k = 0 → M2 64 0 = r2) ∧ Iv (c + 1) s1 M2 := by
    rcases q1 with ⟨rfl, rfl, r, m1, ⟨hr, rfl, m0, hm, rfl⟩, rfl⟩ | ⟨rfl, rfl, rfl, -, hn⟩
    · rcases h2 with ⟨-, rfl, m2, hk, rfl⟩ | ⟨hn, -⟩
      · have cc : ∀ a, a < 37 → (fx_u m2 37 1 (xs (i + 1))) a = (fx_u m0 10 2 (xs (i + 1))) a := fun a h => by rw [fx_u_ne (by omega), hk.1 a (by simp only [List.mem_cons, List.not_mem_nil, or_false]; omega), fx_u_ne (by omega), fx_u_ne (by omega)]
        have c2 : ∀ a, a ≠ 37 → (fx_u m2 37 1 (xs (i + 1))) a = m2 a := fun a h => fx_u_ne h
        have c37 : ∀ j, (j ≠ 1 ∧ j ≠ 13 ∧ j ≠ 27) → (fx_u m2 37 1 (xs (i + 1))) 37 j = M 37 j := fun j h => by
          rw [fx_u_at, if_neg (by omega), hk.2.1 j (by omega), fx_u_at, if_neg (by omega)]; exact congrFun (hq 37 (by omega) (by omega)) j
        generalize hM2 : fx_u m2 37 1 (xs (i + 1)) = M2 at cc c2 c37 ⊢
        have h1 : M2 37 1 = (xs (i + 1)) := by rw [← hM2, fx_u_at, if_pos ⟨rfl, rfl⟩]
        have h13 : M2 37 13 = 0 := by rw [← hM2, fx_u_at, if_neg (by omega), hk.2.1 13 (by decide), fx_u_at, if_pos ⟨rfl, rfl⟩]
        have h27 : M2 37 27 = m2 37 27 := by rw [← hM2, fx_u_at, if_neg (by omega)]
        have ck : ∀ a, (a < 37 ∧ a ≠ 10 ∧ a ≠ 11 ∧ a ≠ 31 ∧ a ≠ 32 ∧ a ≠ 33 ∧ a ≠ 34) → M2 a = M a := fun a h => (cc a h.1).trans ((fx_u_ne (by omega)).trans (hm.1 a (by simp only [List.mem_cons, List.not_mem_nil, or_false]; omega)))
        have cr : ∀ a, (37 < a ∧ a < 64 ∧ a ≠ 46 ∧ a ≠ 56 ∧ a ≠ 57 ∧ a ≠ 58) → M2 a = M a := fun a h => (c2 a (by omega)).trans ((hk.1 a (by simp only [List.mem_cons, List.not_mem_nil, or_false]; omega)).trans ((fx_u_ne (by omega)).trans (hq a (by omega) (by omega))))
        have hsy := Hsy_rem hH hL hN16 ⟨by rw [cc 31 (by omega), fx_u_ne (by omega)]; exact hm.2.1, by rw [cc 31 (by omega), fx_u_ne (by omega)]; exact hm.2.2.1, fun j => by rw [cc 32 (by omega), fx_u_ne (by omega)]; exact hm.2.2.2.1 j, by rw [cc 33 (by omega), fx_u_ne (by omega)]; exact hm.2.2.2.2.1, by rw [cc 34 (by omega), fx_u_ne (by omega)]; exact hm.2.2.2.2.2⟩ (rem2 hk hq h27 (c2 56 (by omega)) (c2 57 (by omega)) (c2 58 (by omega)))
        refine ⟨h13, fun _ => ?_, ?_⟩
        · rw [c2 64 (by omega), hk.1 64 (by decide), fx_u_ne (by decide), fx_u_at, if_pos ⟨rfl, rfl⟩]
          exact (hL.2.2.2.2.2.2.2.2.2.1.symm.trans (congrFun (hq 37 (by omega) (by omega)) 1).symm)
        · obtain ⟨a0, a1, a2, a3⟩ := al_of hr
          exact ⟨N, sz, hP.keep (Nat.le_succ c) (fun a h1 h2 => ck a (by omega)) (fun a h1 h2 => cr a (by omega)) (c37 0 (by omega)), ⟨hot, a0, rw, pos, by rw [cc 10 (by omega), fx_u_at, if_neg (by omega), hm.1 10 (by decide)]; exact hL.1, hL.2.1, hL.2.2.1, by rw [cc 10 (by omega), fx_u_at, if_pos ⟨rfl, rfl⟩]; exact a3, a1, a2, hL.2.2.2.2.2.2.1, by rw [cc 11 (by omega), fx_u_ne (by omega), hm.1 11 (by decide)]; exact hL.2.2.2.2.2.2.2.1, by rw [c37 3 (by omega), cc 10 (by omega), fx_u_at, if_neg (by omega), hm.1 10 (by decide)]; exact hL.2.2.2.2.2.2.2.2.1, by rw [h1, cc 10 (by omega), fx_u_at, if_pos ⟨rfl, rfl⟩], fun j hj => by rw [c2 46 (by omega), hk.1 46 (by decide), fx_u_ne (by decide), hq 46 (by omega) (by omega), cc 11 (by omega), fx_u_ne (by omega), hm.1 11 (by decide)]; exact hL.2.2.2.2.2.2.2.2.2.2 j hj⟩, ⟨_, _, hsy⟩, ⟨len, hT.keep (ck 35 (by omega)) (ck 36 (by omega)) (cr 63 (by omega)) (c37 39 (by omega))⟩, ⟨np, hQ.keep (ck 27 (by omega)) (ck 28 (by omega)) (ck 29 (by omega)) (cr 47 (by omega)) (c37 17 (by omega))⟩, by rw [c37 2 (by omega), ck 0 (by omega)]; exact hlim⟩
      · exact absurd hr hn
    · rcases h2 with ⟨hr, -, -⟩ | ⟨-, rfl⟩
      · exact absurd hr hn
      · exact ⟨by rw [fx_u_at, if_pos ⟨rfl, rfl⟩], fun z => absurd z (by decide), hI.keep (Nat.le_succ c) (fun a h => fx_u_ne (by omega)) (fun j h => by rw [fx_u_at, if_neg (by omega)])⟩
  refine G_iload F dL_law_855 rfl ?_
  refine G_icmp_eq (tgt := 862) F dL_law_857 (by decide) (fun g1 => ?_) (fun g1 => absurd key.1 g1)
  refine G_iload F dL_law_862 rfl ?_
  refine G_if_ne (tgt := 879) F dL_law_864 (by decide) (fun g2 => ?_) (fun g2 => ?_)
  · refine G_goto (tgt := 1627) F dL_law_879 (by decide) ?_
    refine G_drop F 6 ?_
    refine G_drop F 7 ?_
    simp only [List.set_cons_zero, List.set_cons_succ]
    exact next s1 M2 key.2.2
  · refine G_aload_n F dL_law_867 rfl ?_
    refine G_iconst (v := 0) F dL_law_868 rfl ?_
    refine G_lald F dL_law_869 (k := 64) rfl vp_in01 ?_
    rw [show M2 64 (Int32.toNatClampNeg 0) = r2 from key.2.1 g2]
    refine G_iload F dL_law_870 rfl ?_
    refine G_i2l F dL_law_872 ?_
    refine G_lcmp F dL_law_873 ?_
    rw [lg_cmp_rfl]
    refine G_if_eq (tgt := 879) F dL_law_874 (by decide) (fun _ => ?_) (fun g3 => absurd rfl g3)
    refine G_goto (tgt := 1627) F dL_law_879 (by decide) ?_
    refine G_drop F 6 ?_
    refine G_drop F 7 ?_
    simp only [List.set_cons_zero, List.set_cons_succ]
    exact next s1 M2 key.2.2
set_option maxRecDepth 20000 in
theorem k_16 {X : fx_C} {l : Launch} {Z : fx_Z} {ad : Nat → Nat} {b n i c cx sx : Nat} {xs : Nat → Int32} {sw : Bool} {M : fx_M} (F : fx_F X l Z room_1 RL cL_law) (hl : l.stackTraces = false) (hs : fx_Scr X b n xs) (hn : n < 2 ^ 31) (hi : i + 4 < n) (hc : c ≤ 600) (hce : cx + 4 ≤ 603072) (hsl : sx + 24 ≤ 7202922) (hI : Iv c sw M) (hE : Eqs M) (next : ∀ (s1 : Bool) (M2 : fx_M), Iv (c + 1) s1 M2 → GG X ad 1627 [some (.ref b), some (.ref (ad 0)), some (.ref (ad 37)), some (.ref (ad 64)), some (.ref (ad 65)), some (.int (nI i)), none, none, none] [] (cx + 4) (sx + 24) (w_S s1) M2) : GG X ad 1074 [some (.ref b), some (.ref (ad 0)), some (.ref (ad 37)), some (.ref (ad 64)), some (.ref (ad 65)), some (.int (nI i)), none, none, none] [] cx sx (w_S sw) M := by
  obtain ⟨N, sz, hP, ⟨hot, al, rw, pos, hL⟩, ⟨sl, kp, hH⟩, ⟨len, hT⟩, ⟨np, hQ⟩, hlim⟩ := id hI
  obtain ⟨e38, e39, e40, e41, e42, e43, e44, e45, e46⟩ := id hE
  have hN16 := hP.2.2.1
  have hN1 := hP.2.1
  refine G_aload_n F dL_law_1074 rfl ?_
  refine G_aload_n F dL_law_1075 rfl ?_
  refine G_iload F dL_law_1076 rfl ?_
  refine G_iconst (v := nI 1) F dL_law_1078 (by decide) ?_
  refine G_iadd F dL_law_1079 ?_
  rw [nI_add]
  refine G_sld F hs dL_law_1080 (by omega) hn ?_
  refine G_aload_n F dL_law_1081 rfl ?_
  refine G_callX F mx_L_158 dL_law_1082 (w_setHot hl ad ((xs (i + 1))) (by decide) (s_setHot hl ad sw (m_C ++ o_C) M (N := N) (xs (i + 1)) hP.1 hH.1 hH.2.1 hH.2.2.1 hH.2.2.2.1) (fun E m h => h.2.1)) (As := [.ref (ad 0), .int (xs (i + 1)), .ref (ad 64)]) rfl rfl (Nat.le_of_ble_eq_true rfl) ⟨Nat.le_of_ble_eq_true rfl, Nat.le_of_ble_eq_true rfl, by show cx + 4 ≤ 603072; omega, by show sx + 24 ≤ 7202922; omega⟩ (fun _ _ q => q.elim) (fun v1 a1 S1 M1 h1 => ?_)
  obtain ⟨ea, k, s1, rfl, rfl, q1⟩ := h1
  subst ea
  have hq : ∀ a, 37 ≤ a → a < 64 → M1 a = M a := by
    rcases q1 with ⟨-, -, r, m1, ⟨-, -, m0, hm, rfl⟩, rfl⟩ | ⟨-, -, e, -⟩
    · intro a h1 h2
      rw [fx_u_ne (by omega), fx_u_ne (by omega)]; exact hm.1 a (by simp only [List.mem_cons, List.not_mem_nil, or_false]; omega)
    · intro a _ _; rw [e]
  skip
  refine G_istore F dL_law_1085 rfl rfl (Nat.le_of_ble_eq_true rfl) ?_
  simp only [List.set_cons_zero, List.set_cons_succ]
  refine G_aload_n F dL_law_1087 rfl ?_
  refine G_aload_n F dL_law_1088 rfl ?_
  refine G_iload F dL_law_1089 rfl ?_
  refine G_iconst (v := nI 1) F dL_law_1091 (by decide) ?_
  refine G_iadd F dL_law_1092 ?_
  rw [nI_add]
  refine G_sld F hs dL_law_1093 (by omega) hn ?_
  refine G_vI F (k := 37) mv_L_160 dL_law_1094 (t_setHot hl _ s1 o_C M1 (N := N) (xs (i + 1)) (n0_of hP hq) (u := kp) (by rw [hq 37 (by omega) (by omega), hH.2.2.2.2.1]; exact hH.2.2.1) hH.2.2.2.1) (As := [.int (xs (i + 1))]) rfl rfl rfl rfl (Nat.le_of_ble_eq_true rfl) ⟨Nat.le_of_ble_eq_true rfl, Nat.le_of_ble_eq_true rfl, by show cx + 4 ≤ 603072; omega, by show sx + 24 ≤ 7202922; omega⟩ (fun r2 M2 h2 => ?_)
  refine G_istore F dL_law_1097 rfl rfl (Nat.le_of_ble_eq_true rfl) ?_
  simp only [List.set_cons_zero, List.set_cons_succ]
  refine G_aload_n F dL_law_1099 rfl ?_
  refine G_vI F (k := 37) mv_L_106 dL_law_1100 (t_thrown hl _ s1 o_C M2) (As := []) rfl rfl rfl rfl (Nat.le_of_ble_eq_true rfl) ⟨Nat.le_of_ble_eq_true rfl, Nat.le_of_ble_eq_true rfl, by show cx + 4 ≤ 603072; omega, by show sx + 24 ≤ 7202922; omega⟩ (fun r3 M3 h3 => ?_)
  rw [h3.1, h3.2]
  have key : M2 37 13 = k ∧ (k = 0 → M2 64 0 = r2) ∧ Iv (c + 1) s1 M2 := by
    rcases q1 with ⟨rfl, rfl, r, m1, ⟨hr, rfl, m0, hm, rfl⟩, rfl⟩ | ⟨rfl, rfl, rfl, -, hn⟩
    · rcases h2 with ⟨-, rfl, m2, hk, rfl⟩ | ⟨hn, -⟩
      · have cc : ∀ a, a < 37 → (fx_u m2 37 3 (xs (i + 1))) a = (fx_u m0 10 1 (xs (i + 1))) a := fun a h => by rw [fx_u_ne (by omega), hk.1 a (by simp only [List.mem_cons, List.not_mem_nil, or_false]; omega), fx_u_ne (by omega), fx_u_ne (by omega)]
        have c2 : ∀ a, a ≠ 37 → (fx_u m2 37 3 (xs (i + 1))) a = m2 a := fun a h => fx_u_ne h
        have c37 : ∀ j, (j ≠ 3 ∧ j ≠ 13 ∧ j ≠ 27) → (fx_u m2 37 3 (xs (i + 1))) 37 j = M 37 j := fun j h => by
          rw [fx_u_at, if_neg (by omega), hk.2.1 j (by omega), fx_u_at, if_neg (by omega)]; exact congrFun (hq 37 (by omega) (by omega)) j
        generalize hM2 : fx_u m2 37 3 (xs (i + 1)) = M2 at cc c2 c37 ⊢
        have h1 : M2 37 3 = (xs (i + 1)) := by rw [← hM2, fx_u_at, if_pos ⟨rfl, rfl⟩]
        have h13 : M2 37 13 = 0 := by rw [← hM2, fx_u_at, if_neg (by omega), hk.2.1 13 (by decide), fx_u_at, if_pos ⟨rfl, rfl⟩]
        have h27 : M2 37 27 = m2 37 27 := by rw [← hM2, fx_u_at, if_neg (by omega)]
        have ck : ∀ a, (a < 37 ∧ a ≠ 10 ∧ a ≠ 11 ∧ a ≠ 31 ∧ a ≠ 32 ∧ a ≠ 33 ∧ a ≠ 34) → M2 a = M a := fun a h => (cc a h.1).trans ((fx_u_ne (by omega)).trans (hm.1 a (by simp only [List.mem_cons, List.not_mem_nil, or_false]; omega)))
        have cr : ∀ a, (37 < a ∧ a < 64 ∧ a ≠ 46 ∧ a ≠ 56 ∧ a ≠ 57 ∧ a ≠ 58) → M2 a = M a := fun a h => (c2 a (by omega)).trans ((hk.1 a (by simp only [List.mem_cons, List.not_mem_nil, or_false]; omega)).trans ((fx_u_ne (by omega)).trans (hq a (by omega) (by omega))))
        have hsy := Hsy_rem hH hL hN16 ⟨by rw [cc 31 (by omega), fx_u_ne (by omega)]; exact hm.2.1, by rw [cc 31 (by omega), fx_u_ne (by omega)]; exact hm.2.2.1, fun j => by rw [cc 32 (by omega), fx_u_ne (by omega)]; exact hm.2.2.2.1 j, by rw [cc 33 (by omega), fx_u_ne (by omega)]; exact hm.2.2.2.2.1, by rw [cc 34 (by omega), fx_u_ne (by omega)]; exact hm.2.2.2.2.2⟩ (rem2 hk hq h27 (c2 56 (by omega)) (c2 57 (by omega)) (c2 58 (by omega)))
        refine ⟨h13, fun _ => ?_, ?_⟩
        · rw [c2 64 (by omega), hk.1 64 (by decide), fx_u_ne (by decide), fx_u_at, if_pos ⟨rfl, rfl⟩]
          exact (hL.2.2.2.2.2.2.2.2.1.symm.trans (congrFun (hq 37 (by omega) (by omega)) 3).symm)
        · obtain ⟨a0, a1, a2, a3⟩ := int_rng (a := 1) (b := N) (by omega) hN1 hr.1 hr.2
          exact ⟨N, sz, hP.keep (Nat.le_succ c) (fun a h1 h2 => ck a (by omega)) (fun a h1 h2 => cr a (by omega)) (c37 0 (by omega)), ⟨a0, al, rw, pos, by rw [cc 10 (by omega), fx_u_at, if_pos ⟨rfl, rfl⟩]; exact a3, a1, a2, by rw [cc 10 (by omega), fx_u_at, if_neg (by omega), hm.1 10 (by decide)]; exact hL.2.2.2.1, hL.2.2.2.2.1, hL.2.2.2.2.2.1, hL.2.2.2.2.2.2.1, by rw [cc 11 (by omega), fx_u_ne (by omega), hm.1 11 (by decide)]; exact hL.2.2.2.2.2.2.2.1, by rw [h1, cc 10 (by omega), fx_u_at, if_pos ⟨rfl, rfl⟩], by rw [c37 1 (by omega), cc 10 (by omega), fx_u_at, if_neg (by omega), hm.1 10 (by decide)]; exact hL.2.2.2.2.2.2.2.2.2.1, fun j hj => by rw [c2 46 (by omega), hk.1 46 (by decide), fx_u_ne (by decide), hq 46 (by omega) (by omega), cc 11 (by omega), fx_u_ne (by omega), hm.1 11 (by decide)]; exact hL.2.2.2.2.2.2.2.2.2.2 j hj⟩, ⟨_, _, hsy⟩, ⟨len, hT.keep (ck 35 (by omega)) (ck 36 (by omega)) (cr 63 (by omega)) (c37 39 (by omega))⟩, ⟨np, hQ.keep (ck 27 (by omega)) (ck 28 (by omega)) (ck 29 (by omega)) (cr 47 (by omega)) (c37 17 (by omega))⟩, by rw [c37 2 (by omega), ck 0 (by omega)]; exact hlim⟩
      · exact absurd hr hn
    · rcases h2 with ⟨hr, -, -⟩ | ⟨-, rfl⟩
      · exact absurd hr hn
      · exact ⟨by rw [fx_u_at, if_pos ⟨rfl, rfl⟩], fun z => absurd z (by decide), hI.keep (Nat.le_succ c) (fun a h => fx_u_ne (by omega)) (fun j h => by rw [fx_u_at, if_neg (by omega)])⟩
  refine G_iload F dL_law_1103 rfl ?_
  refine G_icmp_eq (tgt := 1110) F dL_law_1105 (by decide) (fun g1 => ?_) (fun g1 => absurd key.1 g1)
  refine G_iload F dL_law_1110 rfl ?_
  refine G_if_ne (tgt := 1127) F dL_law_1112 (by decide) (fun g2 => ?_) (fun g2 => ?_)
  · refine G_goto (tgt := 1627) F dL_law_1127 (by decide) ?_
    refine G_drop F 6 ?_
    refine G_drop F 7 ?_
    simp only [List.set_cons_zero, List.set_cons_succ]
    exact next s1 M2 key.2.2
  · refine G_aload_n F dL_law_1115 rfl ?_
    refine G_iconst (v := 0) F dL_law_1116 rfl ?_
    refine G_lald F dL_law_1117 (k := 64) rfl vp_in01 ?_
    rw [show M2 64 (Int32.toNatClampNeg 0) = r2 from key.2.1 g2]
    refine G_iload F dL_law_1118 rfl ?_
    refine G_i2l F dL_law_1120 ?_
    refine G_lcmp F dL_law_1121 ?_
    rw [lg_cmp_rfl]
    refine G_if_eq (tgt := 1127) F dL_law_1122 (by decide) (fun _ => ?_) (fun g3 => absurd rfl g3)
    refine G_goto (tgt := 1627) F dL_law_1127 (by decide) ?_
    refine G_drop F 6 ?_
    refine G_drop F 7 ?_
    simp only [List.set_cons_zero, List.set_cons_succ]
    exact next s1 M2 key.2.2
set_option maxRecDepth 20000 in
theorem k_15 {X : fx_C} {l : Launch} {Z : fx_Z} {ad : Nat → Nat} {b n i c cx sx : Nat} {xs : Nat → Int32} {sw : Bool} {M : fx_M} (F : fx_F X l Z room_1 RL cL_law) (hl : l.stackTraces = false) (hs : fx_Scr X b n xs) (hn : n < 2 ^ 31) (hi : i + 4 < n) (hc : c ≤ 600) (hce : cx + 4 ≤ 603072) (hsl : sx + 24 ≤ 7202922) (hI : Iv c sw M) (hE : Eqs M) (next : ∀ (s1 : Bool) (M2 : fx_M), Iv (c + 1) s1 M2 → GG X ad 1627 [some (.ref b), some (.ref (ad 0)), some (.ref (ad 37)), some (.ref (ad 64)), some (.ref (ad 65)), some (.int (nI i)), none, none, none] [] (cx + 4) (sx + 24) (w_S s1) M2) : GG X ad 1006 [some (.ref b), some (.ref (ad 0)), some (.ref (ad 37)), some (.ref (ad 64)), some (.ref (ad 65)), some (.int (nI i)), none, none, none] [] cx sx (w_S sw) M := by
  obtain ⟨N, sz, hP, ⟨hot, al, rw, pos, hL⟩, ⟨sl, kp, hH⟩, ⟨len, hT⟩, ⟨np, hQ⟩, hlim⟩ := id hI
  obtain ⟨e38, e39, e40, e41, e42, e43, e44, e45, e46⟩ := id hE
  have hN16 := hP.2.2.1
  have hN1 := hP.2.1
  refine G_aload_n F dL_law_1006 rfl ?_
  refine G_aload_n F dL_law_1007 rfl ?_
  refine G_iload F dL_law_1008 rfl ?_
  refine G_iconst (v := nI 1) F dL_law_1010 (by decide) ?_
  refine G_iadd F dL_law_1011 ?_
  rw [nI_add]
  refine G_sld F hs dL_law_1012 (by omega) hn ?_
  refine G_aload_n F dL_law_1013 rfl ?_
  refine G_iload F dL_law_1014 rfl ?_
  refine G_iconst (v := nI 2) F dL_law_1016 (by decide) ?_
  refine G_iadd F dL_law_1017 ?_
  rw [nI_add]
  refine G_sld F hs dL_law_1018 (by omega) hn ?_
  refine G_aload_n F dL_law_1019 rfl ?_
  refine G_callX F mx_L_155 dL_law_1020 (w_exchange hl ad ((xs (i + 1))) ((xs (i + 2))) (by decide) (s_exchange hl ad sw (m_C ++ o_C) M (N := N) (xs (i + 1)) (xs (i + 2)) hP.1 hN16 hH.1 hH.2.1 hH.2.2.1 hH.2.2.2.1) (fun E m h => h.2.imp (fun q => q.1) (fun q => q.1))) (As := [.ref (ad 0), .int (xs (i + 1)), .int (xs (i + 2)), .ref (ad 64)]) rfl rfl (Nat.le_of_ble_eq_true rfl) ⟨Nat.le_of_ble_eq_true rfl, Nat.le_of_ble_eq_true rfl, by show cx + 4 ≤ 603072; omega, by show sx + 24 ≤ 7202922; omega⟩ (fun _ _ q => q.elim) (fun v1 a1 S1 M1 h1 => ?_)
  obtain ⟨ea, k, s1, rfl, rfl, q1⟩ := h1
  subst ea
  have hq : ∀ a, 37 ≤ a → a < 64 → M1 a = M a := by
    rcases q1 with ⟨-, -, r, m1, ⟨x, y, -, -, -, -, -, -, m0, hm, rfl, -⟩, rfl⟩ | ⟨-, -, e, -⟩ | ⟨-, -, e, -⟩
    · intro a h1 h2
      rw [fx_u_ne (by omega), fx_u_ne (by omega), fx_u_ne (by omega)]; exact hm.1 a (by simp only [List.mem_cons, List.not_mem_nil, or_false]; omega)
    · intro a _ _; rw [e]
    · intro a _ _; rw [e]
  skip
  refine G_istore F dL_law_1023 rfl rfl (Nat.le_of_ble_eq_true rfl) ?_
  simp only [List.set_cons_zero, List.set_cons_succ]
  refine G_aload_n F dL_law_1025 rfl ?_
  refine G_aload_n F dL_law_1026 rfl ?_
  refine G_iload F dL_law_1027 rfl ?_
  refine G_iconst (v := nI 1) F dL_law_1029 (by decide) ?_
  refine G_iadd F dL_law_1030 ?_
  rw [nI_add]
  refine G_sld F hs dL_law_1031 (by omega) hn ?_
  refine G_aload_n F dL_law_1032 rfl ?_
  refine G_iload F dL_law_1033 rfl ?_
  refine G_iconst (v := nI 2) F dL_law_1035 (by decide) ?_
  refine G_iadd F dL_law_1036 ?_
  rw [nI_add]
  refine G_sld F hs dL_law_1037 (by omega) hn ?_
  refine G_vI F (k := 37) mv_L_157 dL_law_1038 (t_exchange hl _ s1 o_C M1 (N := N) (xs (i + 1)) (xs (i + 2)) (n0_of hP hq) hN16 hN1 (u := kp) (by rw [hq 37 (by omega) (by omega), hH.2.2.2.2.1]; exact hH.2.2.1) hH.2.2.2.1) (As := [.int (xs (i + 1)), .int (xs (i + 2))]) rfl rfl rfl rfl (Nat.le_of_ble_eq_true rfl) ⟨Nat.le_of_ble_eq_true rfl, Nat.le_of_ble_eq_true rfl, by show cx + 4 ≤ 603072; omega, by show sx + 24 ≤ 7202922; omega⟩ (fun r2 M2 h2 => ?_)
  refine G_istore F dL_law_1041 rfl rfl (Nat.le_of_ble_eq_true rfl) ?_
  simp only [List.set_cons_zero, List.set_cons_succ]
  refine G_aload_n F dL_law_1043 rfl ?_
  refine G_vI F (k := 37) mv_L_106 dL_law_1044 (t_thrown hl _ s1 o_C M2) (As := []) rfl rfl rfl rfl (Nat.le_of_ble_eq_true rfl) ⟨Nat.le_of_ble_eq_true rfl, Nat.le_of_ble_eq_true rfl, by show cx + 4 ≤ 603072; omega, by show sx + 24 ≤ 7202922; omega⟩ (fun r3 M3 h3 => ?_)
  rw [h3.1, h3.2]
  have key : M2 37 13 = k ∧ (k = 0 → M2 64 0 = r2) ∧ Iv (c + 1) s1 M2 := by
    rcases q1 with ⟨rfl, rfl, r, m1, ⟨x, y, x1, y1, x2, y2, x0, y0, m0, hm, rfl, rfl⟩, rfl⟩ | ⟨rfl, rfl, rfl, z⟩ | ⟨rfl, rfl, rfl, z⟩
    · rcases h2 with ⟨x', y', x1', y1', x2', y2', -, -, m2, hk, rfl, rfl⟩ | ⟨z, -⟩ | ⟨-, z, -⟩
      · have ex := nI_i hN16 x1 x1' (x2.symm.trans x2')
        have ey := nI_i hN16 y1 y1' (y2.symm.trans y2')
        subst ex
        subst ey
        have k46 : m2 46 = M 11 := by rw [hk.1 46 (by decide), fx_u_ne (by decide), hq 46 (by omega) (by omega), e46]
        have k11 : m0 11 = M 11 := hm.1 11 (by decide)
        have cc : ∀ a, a < 37 → (fx_u (fx_u m2 46 x (m2 46 y)) 46 y (m2 46 x)) a = (fx_u (fx_u m0 11 x (m0 11 y)) 11 y (m0 11 x)) a := fun a h => by rw [fx_u_ne (by omega), fx_u_ne (by omega), hk.1 a (by simp only [List.mem_cons, List.not_mem_nil, or_false]; omega), fx_u_ne (by omega), fx_u_ne (by omega)]
        have c2 : ∀ a, a ≠ 46 → (fx_u (fx_u m2 46 x (m2 46 y)) 46 y (m2 46 x)) a = m2 a := fun a h => by rw [fx_u_ne h, fx_u_ne h]
        have r46 : (fx_u (fx_u m2 46 x (m2 46 y)) 46 y (m2 46 x)) 46 = upd (upd (M 11) x (M 11 y)) y (M 11 x) := by rw [fx_u_eq, fx_u_eq, k46]
        have r11 : (fx_u (fx_u m0 11 x (m0 11 y)) 11 y (m0 11 x)) 11 = upd (upd (M 11) x (M 11 y)) y (M 11 x) := by rw [fx_u_eq, fx_u_eq, k11]
        generalize hM2 : fx_u (fx_u m2 46 x (m2 46 y)) 46 y (m2 46 x) = M2 at cc c2 r46 ⊢
        have c37 : ∀ j, (j ≠ 13 ∧ j ≠ 27) → M2 37 j = M 37 j := fun j h => by
          rw [c2 37 (by omega), hk.2.1 j (by omega), fx_u_at, if_neg (by omega)]; exact congrFun (hq 37 (by omega) (by omega)) j
        have h27 : M2 37 27 = m2 37 27 := by rw [c2 37 (by omega)]
        have ck : ∀ a, (a < 37 ∧ a ≠ 10 ∧ a ≠ 11 ∧ a ≠ 31 ∧ a ≠ 32 ∧ a ≠ 33 ∧ a ≠ 34) → M2 a = M a := fun a h => (cc a h.1).trans ((by rw [fx_u_ne (by omega), fx_u_ne (by omega)]; exact hm.1 a (by simp only [List.mem_cons, List.not_mem_nil, or_false]; omega)))
        have cr : ∀ a, (37 < a ∧ a < 64 ∧ a ≠ 46 ∧ a ≠ 56 ∧ a ≠ 57 ∧ a ≠ 58) → M2 a = M a := fun a h => (c2 a (by omega)).trans ((hk.1 a (by simp only [List.mem_cons, List.not_mem_nil, or_false]; omega)).trans ((fx_u_ne (by omega)).trans (hq a (by omega) (by omega))))
        have hsy := Hsy_rem hH hL hN16 ⟨by rw [cc 31 (by omega), fx_u_ne (by omega), fx_u_ne (by omega)]; exact hm.2.1, by rw [cc 31 (by omega), fx_u_ne (by omega), fx_u_ne (by omega)]; exact hm.2.2.1, fun j => by rw [cc 32 (by omega), fx_u_ne (by omega), fx_u_ne (by omega)]; exact hm.2.2.2.1 j, by rw [cc 33 (by omega), fx_u_ne (by omega), fx_u_ne (by omega)]; exact hm.2.2.2.2.1, by rw [cc 34 (by omega), fx_u_ne (by omega), fx_u_ne (by omega)]; exact hm.2.2.2.2.2⟩ (rem2 hk hq h27 (c2 56 (by omega)) (c2 57 (by omega)) (c2 58 (by omega)))
        refine ⟨by rw [c2 37 (by omega), hk.2.1 13 (by decide), fx_u_at, if_pos ⟨rfl, rfl⟩], fun _ => ?_, ?_⟩
        · rw [c2 64 (by omega), hk.1 64 (by decide), fx_u_ne (by decide), fx_u_at, if_pos ⟨rfl, rfl⟩, r46, r11]
        · exact ⟨N, sz, hP.keep (Nat.le_succ c) (fun a h1 h2 => ck a (by omega)) (fun a h1 h2 => cr a (by omega)) (c37 0 (by omega)), ⟨hot, al, swp rw x y, _, by rw [cc 10 (by omega), fx_u_ne (by omega), fx_u_ne (by omega), hm.1 10 (by decide)]; exact hL.1, hL.2.1, hL.2.2.1, by rw [cc 10 (by omega), fx_u_ne (by omega), fx_u_ne (by omega), hm.1 10 (by decide)]; exact hL.2.2.2.1, hL.2.2.2.2.1, hL.2.2.2.2.2.1, pm_swp hL.2.2.2.2.2.2.1 x1 y1, by rw [cc 11 (by omega), r11]; exact swp_row x1 y1 hL.2.2.2.2.2.2.2.1, by rw [c37 3 (by omega), cc 10 (by omega), fx_u_ne (by omega), fx_u_ne (by omega), hm.1 10 (by decide)]; exact hL.2.2.2.2.2.2.2.2.1, by rw [c37 1 (by omega), cc 10 (by omega), fx_u_ne (by omega), fx_u_ne (by omega), hm.1 10 (by decide)]; exact hL.2.2.2.2.2.2.2.2.2.1, fun j hj => by rw [r46, cc 11 (by omega), r11]⟩, ⟨_, _, hsy⟩, ⟨len, hT.keep (ck 35 (by omega)) (ck 36 (by omega)) (cr 63 (by omega)) (c37 39 (by omega))⟩, ⟨np, hQ.keep (ck 27 (by omega)) (ck 28 (by omega)) (ck 29 (by omega)) (cr 47 (by omega)) (c37 17 (by omega))⟩, by rw [c37 2 (by omega), ck 0 (by omega)]; exact hlim⟩
      · rw [x2, y2, pin_t hN16 x1, pin_t hN16 y1] at z; exact absurd z (by decide)
      · rcases z with z | z
        · rw [x2] at z; exact absurd (nI_i (x := x) (y := 0) hN16 x1 (by omega) z) x0
        · rw [y2] at z; exact absurd (nI_i (x := y) (y := 0) hN16 y1 (by omega) z) y0
    · have zp : (pin N (xs (i + 1)) && pin N (xs (i + 2))) = false := z.elim (fun q => q.2) (fun q => absurd q.1 x1)
      rcases h2 with ⟨x', y', x1', y1', x2', y2', -⟩ | ⟨-, rfl⟩ | ⟨z, -, -⟩
      · rw [x2', y2', pin_t hN16 x1', pin_t hN16 y1'] at zp; exact absurd zp (by decide)
      · exact ⟨by rw [fx_u_at, if_pos ⟨rfl, rfl⟩], fun z => absurd z (by decide), hI.keep (Nat.le_succ c) (fun a h => fx_u_ne (by omega)) (fun j h => by rw [fx_u_at, if_neg (by omega)])⟩
      · rw [zp] at z; exact Bool.noConfusion z
    · have zp : (pin N (xs (i + 1)) && pin N (xs (i + 2))) = true ∧ ((xs (i + 1)) = 0 ∨ (xs (i + 2)) = 0) := z.elim (fun q => absurd q.1.symm x1) (fun q => q.2)
      rcases h2 with ⟨x', y', x1', y1', x2', y2', x0', y0', -⟩ | ⟨z, -⟩ | ⟨-, -, rfl⟩
      · rcases zp.2 with z | z
        · rw [x2'] at z; exact absurd (nI_i (x := x') (y := 0) hN16 x1' (by omega) z) x0'
        · rw [y2'] at z; exact absurd (nI_i (x := y') (y := 0) hN16 y1' (by omega) z) y0'
      · rw [zp.1] at z; exact Bool.noConfusion z
      · exact ⟨by rw [fx_u_at, if_pos ⟨rfl, rfl⟩], fun z => absurd z (by decide), hI.keep (Nat.le_succ c) (fun a h => fx_u_ne (by omega)) (fun j h => by rw [fx_u_at, if_neg (by omega)])⟩
  refine G_iload F dL_law_1047 rfl ?_
  refine G_icmp_eq (tgt := 1054) F dL_law_1049 (by decide) (fun g1 => ?_) (fun g1 => absurd key.1 g1)
  refine G_iload F dL_law_1054 rfl ?_
  refine G_if_ne (tgt := 1071) F dL_law_1056 (by decide) (fun g2 => ?_) (fun g2 => ?_)
  · refine G_goto (tgt := 1627) F dL_law_1071 (by decide) ?_
    refine G_drop F 6 ?_
    refine G_drop F 7 ?_
    simp only [List.set_cons_zero, List.set_cons_succ]
    exact next s1 M2 key.2.2
  · refine G_aload_n F dL_law_1059 rfl ?_
    refine G_iconst (v := 0) F dL_law_1060 rfl ?_
    refine G_lald F dL_law_1061 (k := 64) rfl vp_in01 ?_
    rw [show M2 64 (Int32.toNatClampNeg 0) = r2 from key.2.1 g2]
    refine G_iload F dL_law_1062 rfl ?_
    refine G_i2l F dL_law_1064 ?_
    refine G_lcmp F dL_law_1065 ?_
    rw [lg_cmp_rfl]
    refine G_if_eq (tgt := 1071) F dL_law_1066 (by decide) (fun _ => ?_) (fun g3 => absurd rfl g3)
    refine G_goto (tgt := 1627) F dL_law_1071 (by decide) ?_
    refine G_drop F 6 ?_
    refine G_drop F 7 ?_
    simp only [List.set_cons_zero, List.set_cons_succ]
    exact next s1 M2 key.2.2
set_option maxRecDepth 20000 in
theorem k_24 {X : fx_C} {l : Launch} {Z : fx_Z} {ad : Nat → Nat} {b n i c cx sx : Nat} {xs : Nat → Int32} {sw : Bool} {M : fx_M} (F : fx_F X l Z room_1 RL cL_law) (hl : l.stackTraces = false) (hs : fx_Scr X b n xs) (hn : n < 2 ^ 31) (hi : i + 4 < n) (hc : c ≤ 600) (hce : cx + 4 ≤ 603072) (hsl : sx + 24 ≤ 7202922) (hI : Iv c sw M) (hE : Eqs M) (next : ∀ (s1 : Bool) (M2 : fx_M), Iv (c + 1) s1 M2 → GG X ad 1627 [some (.ref b), some (.ref (ad 0)), some (.ref (ad 37)), some (.ref (ad 64)), some (.ref (ad 65)), some (.int (nI i)), none, none, none] [] (cx + 4) (sx + 24) (w_S s1) M2) : GG X ad 1469 [some (.ref b), some (.ref (ad 0)), some (.ref (ad 37)), some (.ref (ad 64)), some (.ref (ad 65)), some (.int (nI i)), none, none, none] [] cx sx (w_S sw) M := by
  obtain ⟨N, sz, hP, ⟨hot, al, rw, pos, hL⟩, ⟨sl, kp, hH⟩, ⟨len, hT⟩, ⟨np, hQ⟩, hlim⟩ := id hI
  obtain ⟨e38, e39, e40, e41, e42, e43, e44, e45, e46⟩ := id hE
  have hN16 := hP.2.2.1
  have hN1 := hP.2.1
  refine G_aload_n F dL_law_1469 rfl ?_
  refine G_aload_n F dL_law_1470 rfl ?_
  refine G_iload F dL_law_1471 rfl ?_
  refine G_iconst (v := nI 1) F dL_law_1473 (by decide) ?_
  refine G_iadd F dL_law_1474 ?_
  rw [nI_add]
  refine G_sld F hs dL_law_1475 (by omega) hn ?_
  refine G_i2c F dL_law_1476 ?_
  refine G_aload_n F dL_law_1477 rfl ?_
  refine G_callX F mx_L_185 dL_law_1478 (w_feed hl ad (((xs (i + 1)).toUInt32 % 65536).toInt32) (by decide) (s_feed hl ad sw (m_C ++ o_C) M (((xs (i + 1)).toUInt32 % 65536).toInt32) (len := len) hT.1 hT.2.1) (fun E m h => h.2.1)) (As := [.ref (ad 0), .int ((xs (i + 1)).toUInt32 % 65536).toInt32, .ref (ad 64)]) rfl rfl (Nat.le_of_ble_eq_true rfl) ⟨Nat.le_of_ble_eq_true rfl, Nat.le_of_ble_eq_true rfl, by show cx + 4 ≤ 603072; omega, by show sx + 24 ≤ 7202922; omega⟩ (fun _ _ q => q.elim) (fun v1 a1 S1 M1 h1 => ?_)
  obtain ⟨ea, k, s1, rfl, rfl, q1⟩ := h1
  subst ea
  have hq : ∀ a, 37 ≤ a → a < 64 → M1 a = M a := by
    rcases q1 with ⟨-, -, r, m0, ⟨-, -, rfl⟩, rfl⟩ | ⟨-, -, e, -⟩
    · intro a h1 h2
      rw [fx_u_ne (by omega), fx_u_ne (by omega), fx_u_ne (by omega)]
    · intro a _ _; rw [e]
  skip
  refine G_istore F dL_law_1481 rfl rfl (Nat.le_of_ble_eq_true rfl) ?_
  simp only [List.set_cons_zero, List.set_cons_succ]
  refine G_aload_n F dL_law_1483 rfl ?_
  refine G_aload_n F dL_law_1484 rfl ?_
  refine G_iload F dL_law_1485 rfl ?_
  refine G_iconst (v := nI 1) F dL_law_1487 (by decide) ?_
  refine G_iadd F dL_law_1488 ?_
  rw [nI_add]
  refine G_sld F hs dL_law_1489 (by omega) hn ?_
  refine G_i2c F dL_law_1490 ?_
  refine G_vI F (k := 37) mv_L_188 dL_law_1491 (t_feed hl _ s1 o_C M1 (((xs (i + 1)).toUInt32 % 65536).toInt32) (len := len) (by rw [hq 37 (by omega) (by omega), hT.2.2.1]; exact hT.1) hT.2.1) (As := [.int ((xs (i + 1)).toUInt32 % 65536).toInt32]) rfl rfl rfl rfl (Nat.le_of_ble_eq_true rfl) ⟨Nat.le_of_ble_eq_true rfl, Nat.le_of_ble_eq_true rfl, by show cx + 4 ≤ 603072; omega, by show sx + 24 ≤ 7202922; omega⟩ (fun r2 M2 h2 => ?_)
  refine G_istore F dL_law_1494 rfl rfl (Nat.le_of_ble_eq_true rfl) ?_
  simp only [List.set_cons_zero, List.set_cons_succ]
  refine G_aload_n F dL_law_1496 rfl ?_
  refine G_vI F (k := 37) mv_L_106 dL_law_1497 (t_thrown hl _ s1 o_C M2) (As := []) rfl rfl rfl rfl (Nat.le_of_ble_eq_true rfl) ⟨Nat.le_of_ble_eq_true rfl, Nat.le_of_ble_eq_true rfl, by show cx + 4 ≤ 603072; omega, by show sx + 24 ≤ 7202922; omega⟩ (fun r3 M3 h3 => ?_)
  rw [h3.1, h3.2]
  have key : M2 37 13 = k ∧ (k = 0 → M2 64 0 = r2) ∧ Iv (c + 1) s1 M2 := by
    rcases q1 with ⟨rfl, rfl, r, m0, ⟨hlt, rfl, rfl⟩, rfl⟩ | ⟨rfl, rfl, rfl, -, hn⟩
    · rcases h2 with ⟨-, rfl, rfl⟩ | ⟨hn, -⟩
      · refine ⟨rfl, fun _ => rfl, ⟨N, sz, hP.keep (Nat.le_succ c) (fun a h1 h2 => by rw [fx_u_ne (by omega), fx_u_ne (by omega), fx_u_ne (by omega), fx_u_ne (by omega), fx_u_ne (by omega), fx_u_ne (by omega)]) (fun a h1 h2 => by rw [fx_u_ne (by omega), fx_u_ne (by omega), fx_u_ne (by omega), fx_u_ne (by omega), fx_u_ne (by omega), fx_u_ne (by omega)]) rfl, ⟨hot, al, rw, pos, hL.keep rfl rfl rfl rfl rfl⟩, ⟨sl, kp, hH.keep rfl rfl rfl rfl rfl rfl rfl rfl⟩, ⟨len + 1, rfl, by omega, rfl, fun j hj => ?_⟩, ⟨np, hQ.keep rfl rfl rfl rfl rfl⟩, hlim⟩⟩
        show upd (M 63) len _ j = upd (M 36) len _ j
        rw [nar_c]
        exact upd_eqs (hT.2.2.2 j hj)
      · omega
    · rcases h2 with ⟨hlt, -, -⟩ | ⟨-, rfl⟩
      · omega
      · exact ⟨by rw [fx_u_at, if_pos ⟨rfl, rfl⟩], fun z => absurd z (by decide), hI.keep (Nat.le_succ c) (fun a h => fx_u_ne (by omega)) (fun j h => by rw [fx_u_at, if_neg (by omega)])⟩
  refine G_iload F dL_law_1500 rfl ?_
  refine G_icmp_eq (tgt := 1507) F dL_law_1502 (by decide) (fun g1 => ?_) (fun g1 => absurd key.1 g1)
  refine G_iload F dL_law_1507 rfl ?_
  refine G_if_ne (tgt := 1524) F dL_law_1509 (by decide) (fun g2 => ?_) (fun g2 => ?_)
  · refine G_goto (tgt := 1627) F dL_law_1524 (by decide) ?_
    refine G_drop F 6 ?_
    refine G_drop F 7 ?_
    simp only [List.set_cons_zero, List.set_cons_succ]
    exact next s1 M2 key.2.2
  · refine G_aload_n F dL_law_1512 rfl ?_
    refine G_iconst (v := 0) F dL_law_1513 rfl ?_
    refine G_lald F dL_law_1514 (k := 64) rfl vp_in01 ?_
    rw [show M2 64 (Int32.toNatClampNeg 0) = r2 from key.2.1 g2]
    refine G_iload F dL_law_1515 rfl ?_
    refine G_i2l F dL_law_1517 ?_
    refine G_lcmp F dL_law_1518 ?_
    rw [lg_cmp_rfl]
    refine G_if_eq (tgt := 1524) F dL_law_1519 (by decide) (fun _ => ?_) (fun g3 => absurd rfl g3)
    refine G_goto (tgt := 1627) F dL_law_1524 (by decide) ?_
    refine G_drop F 6 ?_
    refine G_drop F 7 ?_
    simp only [List.set_cons_zero, List.set_cons_succ]
    exact next s1 M2 key.2.2
set_option maxRecDepth 20000 in
theorem k_26 {X : fx_C} {l : Launch} {Z : fx_Z} {ad : Nat → Nat} {b n i c cx sx : Nat} {xs : Nat → Int32} {sw : Bool} {M : fx_M} (F : fx_F X l Z room_1 RL cL_law) (hl : l.stackTraces = false) (hs : fx_Scr X b n xs) (hn : n < 2 ^ 31) (hi : i + 4 < n) (hc : c ≤ 600) (hce : cx + 4 ≤ 603072) (hsl : sx + 24 ≤ 7202922) (hI : Iv c sw M) (hE : Eqs M) (next : ∀ (s1 : Bool) (M2 : fx_M), Iv (c + 1) s1 M2 → GG X ad 1627 [some (.ref b), some (.ref (ad 0)), some (.ref (ad 37)), some (.ref (ad 64)), some (.ref (ad 65)), some (.int (nI i)), none, none, none] [] (cx + 4) (sx + 24) (w_S s1) M2) : GG X ad 1583 [some (.ref b), some (.ref (ad 0)), some (.ref (ad 37)), some (.ref (ad 64)), some (.ref (ad 65)), some (.int (nI i)), none, none, none] [] cx sx (w_S sw) M := by
  obtain ⟨N, sz, hP, ⟨hot, al, rw, pos, hL⟩, ⟨sl, kp, hH⟩, ⟨len, hT⟩, ⟨np, hQ⟩, hlim⟩ := id hI
  obtain ⟨e38, e39, e40, e41, e42, e43, e44, e45, e46⟩ := id hE
  have hN16 := hP.2.2.1
  have hN1 := hP.2.1
  refine G_aload_n F dL_law_1583 rfl ?_
  refine G_aload_n F dL_law_1584 rfl ?_
  refine G_callX F mx_L_192 dL_law_1585 (w_undo hl ad  (by decide) (s_undo hl ad sw (m_C ++ o_C) M (q := (if sl = 0 then 9 else sl - 1)) (sl := sl) (kp := kp) rfl hH.1 hH.2.1 hH.2.2.1 hH.2.2.2.1) (fun E m h => h.2.1)) (As := [.ref (ad 0), .ref (ad 64)]) rfl rfl (Nat.le_of_ble_eq_true rfl) ⟨Nat.le_of_ble_eq_true rfl, Nat.le_of_ble_eq_true rfl, by show cx + 4 ≤ 603072; omega, by show sx + 24 ≤ 7202922; omega⟩ (fun _ _ q => q.elim) (fun v1 a1 S1 M1 h1 => ?_)
  obtain ⟨ea, k, s1, rfl, rfl, q1⟩ := h1
  subst ea
  have hq : ∀ a, 37 ≤ a → a < 64 → M1 a = M a := by
    rcases q1 with ⟨-, -, r, m0, ⟨-, -, f1, -⟩, rfl⟩ | ⟨-, -, e, -⟩
    · intro a h1 h2
      rw [fx_u_ne (by omega)]; exact f1 a (by simp only [List.mem_cons, List.not_mem_nil, or_false]; omega)
    · intro a _ _; rw [e]
  skip
  refine G_istore F dL_law_1588 rfl rfl (Nat.le_of_ble_eq_true rfl) ?_
  simp only [List.set_cons_zero, List.set_cons_succ]
  refine G_aload_n F dL_law_1590 rfl ?_
  refine G_vI F (k := 37) mv_L_195 dL_law_1591 (t_undo hl _ s1 o_C M1 (u := kp) (by rw [hq 37 (by omega) (by omega), hH.2.2.2.2.1]; exact hH.2.2.1) hH.2.2.2.1) (As := []) rfl rfl rfl rfl (Nat.le_of_ble_eq_true rfl) ⟨Nat.le_of_ble_eq_true rfl, Nat.le_of_ble_eq_true rfl, by show cx + 4 ≤ 603072; omega, by show sx + 24 ≤ 7202922; omega⟩ (fun r2 M2 h2 => ?_)
  refine G_istore F dL_law_1594 rfl rfl (Nat.le_of_ble_eq_true rfl) ?_
  simp only [List.set_cons_zero, List.set_cons_succ]
  refine G_aload_n F dL_law_1596 rfl ?_
  refine G_vI F (k := 37) mv_L_106 dL_law_1597 (t_thrown hl _ s1 o_C M2) (As := []) rfl rfl rfl rfl (Nat.le_of_ble_eq_true rfl) ⟨Nat.le_of_ble_eq_true rfl, Nat.le_of_ble_eq_true rfl, by show cx + 4 ≤ 603072; omega, by show sx + 24 ≤ 7202922; omega⟩ (fun r3 M3 h3 => ?_)
  rw [h3.1, h3.2]
  have key : M2 37 13 = k ∧ (k = 0 → M2 64 0 = r2) ∧ Iv (c + 1) s1 M2 := by
    rcases q1 with ⟨rfl, rfl, r, m0, ⟨hlt, rfl, f1, f2, f3, f4, f5, f6⟩, rfl⟩ | ⟨rfl, rfl, rfl, -, hn⟩
    · rcases h2 with ⟨-, rfl, g1, g2, g13, g27, g3, g1', g46⟩ | ⟨hn, -⟩
      · have cc : ∀ a, a < 37 → M2 a = m0 a := fun a h => (g1 a (by simp only [List.mem_cons, List.not_mem_nil, or_false]; omega)).trans (fx_u_ne (by omega))
        have ck : ∀ a, (a < 37 ∧ a ≠ 10 ∧ a ≠ 11 ∧ a ≠ 31) → M2 a = M a := fun a h => (cc a h.1).trans (f1 a (by simp only [List.mem_cons, List.not_mem_nil, or_false]; omega))
        have cr : ∀ a, (37 < a ∧ a < 64 ∧ a ≠ 46) → M2 a = M a := fun a h => (g1 a (by simp only [List.mem_cons, List.not_mem_nil, or_false]; omega)).trans (hq a (by omega) (by omega))
        have c37 : ∀ j, (j ≠ 13 ∧ j ≠ 27 ∧ j ≠ 3 ∧ j ≠ 1) → M2 37 j = M 37 j := fun j h => (g2 j h.1 h.2.1 h.2.2.1 h.2.2.2).trans (congrFun (hq 37 (by omega) (by omega)) j)
        rw [hq 46 (by omega) (by omega), hq 56 (by omega) (by omega)] at g46
        rw [hq 57 (by omega) (by omega)] at g3
        rw [hq 58 (by omega) (by omega)] at g1'
        obtain ⟨u1, hot', al', rw', pos', u2⟩ := Hsy_undo (m := M2) hH hlt hN16 (by rw [cc 31 (by omega)]; exact f2) (by rw [cc 31 (by omega)]; exact f3) (fun j => by rw [cc 11 (by omega)]; exact f4 j) (by rw [cc 10 (by omega)]; exact f5) (by rw [cc 10 (by omega)]; exact f6) (ck 32 (by omega)) (ck 33 (by omega)) (ck 34 (by omega)) (cr 56 (by omega)) (cr 57 (by omega)) (cr 58 (by omega)) g27 g3 g1' g46
        refine ⟨g13, fun _ => ?_, ⟨N, sz, hP.keep (Nat.le_succ c) (fun a h1 h2 => ck a (by omega)) (fun a h1 h2 => cr a (by omega)) (c37 0 (by omega)), ⟨hot', al', rw', pos', u2⟩, ⟨_, _, u1⟩, ⟨len, hT.keep (ck 35 (by omega)) (ck 36 (by omega)) (cr 63 (by omega)) (c37 39 (by omega))⟩, ⟨np, hQ.keep (ck 27 (by omega)) (ck 28 (by omega)) (ck 29 (by omega)) (cr 47 (by omega)) (c37 17 (by omega))⟩, by rw [c37 2 (by omega), ck 0 (by omega)]; exact hlim⟩⟩
        rw [g1 64 (by decide), fx_u_at, if_pos ⟨rfl, rfl⟩]
      · omega
    · rcases h2 with ⟨hlt, -⟩ | ⟨-, rfl⟩
      · omega
      · exact ⟨by rw [fx_u_at, if_pos ⟨rfl, rfl⟩], fun z => absurd z (by decide), hI.keep (Nat.le_succ c) (fun a h => fx_u_ne (by omega)) (fun j h => by rw [fx_u_at, if_neg (by omega)])⟩
  refine G_iload F dL_law_1600 rfl ?_
  refine G_icmp_eq (tgt := 1607) F dL_law_1602 (by decide) (fun g1 => ?_) (fun g1 => absurd key.1 g1)
  refine G_iload F dL_law_1607 rfl ?_
  refine G_if_ne (tgt := 1624) F dL_law_1609 (by decide) (fun g2 => ?_) (fun g2 => ?_)
  · refine G_goto (tgt := 1627) F dL_law_1624 (by decide) ?_
    refine G_drop F 6 ?_
    refine G_drop F 7 ?_
    simp only [List.set_cons_zero, List.set_cons_succ]
    exact next s1 M2 key.2.2
  · refine G_aload_n F dL_law_1612 rfl ?_
    refine G_iconst (v := 0) F dL_law_1613 rfl ?_
    refine G_lald F dL_law_1614 (k := 64) rfl vp_in01 ?_
    rw [show M2 64 (Int32.toNatClampNeg 0) = r2 from key.2.1 g2]
    refine G_iload F dL_law_1615 rfl ?_
    refine G_i2l F dL_law_1617 ?_
    refine G_lcmp F dL_law_1618 ?_
    rw [lg_cmp_rfl]
    refine G_if_eq (tgt := 1624) F dL_law_1619 (by decide) (fun _ => ?_) (fun g3 => absurd rfl g3)
    refine G_goto (tgt := 1627) F dL_law_1624 (by decide) ?_
    refine G_drop F 6 ?_
    refine G_drop F 7 ?_
    simp only [List.set_cons_zero, List.set_cons_succ]
    exact next s1 M2 key.2.2
set_option maxRecDepth 20000 in
theorem k_25 {X : fx_C} {l : Launch} {Z : fx_Z} {ad : Nat → Nat} {b n i c cx sx : Nat} {xs : Nat → Int32} {sw : Bool} {M : fx_M} (F : fx_F X l Z room_1 RL cL_law) (hl : l.stackTraces = false) (hs : fx_Scr X b n xs) (hn : n < 2 ^ 31) (hi : i + 4 < n) (hc : c ≤ 600) (hce : cx + 4 ≤ 603072) (hsl : sx + 24 ≤ 7202922) (hI : Iv c sw M) (hE : Eqs M) (next : ∀ (s1 : Bool) (M2 : fx_M), Iv (c + 1) s1 M2 → GG X ad 1627 [some (.ref b), some (.ref (ad 0)), some (.ref (ad 37)), some (.ref (ad 64)), some (.ref (ad 65)), some (.int (nI i)), none, none, none] [] (cx + 4) (sx + 24) (w_S s1) M2) : GG X ad 1527 [some (.ref b), some (.ref (ad 0)), some (.ref (ad 37)), some (.ref (ad 64)), some (.ref (ad 65)), some (.int (nI i)), none, none, none] [] cx sx (w_S sw) M := by
  obtain ⟨N, sz, hP, ⟨hot, al, rw, pos, hL⟩, ⟨sl, kp, hH⟩, ⟨len, hT⟩, ⟨np, hQ⟩, hlim⟩ := id hI
  obtain ⟨e38, e39, e40, e41, e42, e43, e44, e45, e46⟩ := id hE
  have hN16 := hP.2.2.1
  have hN1 := hP.2.1
  refine G_aload_n F dL_law_1527 rfl ?_
  refine G_aload_n F dL_law_1528 rfl ?_
  refine G_iload F dL_law_1529 rfl ?_
  refine G_iconst (v := nI 1) F dL_law_1531 (by decide) ?_
  refine G_iadd F dL_law_1532 ?_
  rw [nI_add]
  refine G_sld F hs dL_law_1533 (by omega) hn ?_
  refine G_aload_n F dL_law_1534 rfl ?_
  refine G_callX F mx_L_189 dL_law_1535 (w_read hl ad ((xs (i + 1))) (by decide) (s_read hl ad sw (m_C ++ o_C) M (N := N) (len := len) (xs (i + 1)) hP.1 hN16 hT.1 hT.2.1) (fun E m h => h.imp (fun q => q.1) (fun q => q.1))) (As := [.ref (ad 0), .int (xs (i + 1)), .ref (ad 64)]) rfl rfl (Nat.le_of_ble_eq_true rfl) ⟨Nat.le_of_ble_eq_true rfl, Nat.le_of_ble_eq_true rfl, by show cx + 4 ≤ 603072; omega, by show sx + 24 ≤ 7202922; omega⟩ (fun _ _ q => q.elim) (fun v1 a1 S1 M1 h1 => ?_)
  obtain ⟨ea, k, s1, rfl, rfl, q1⟩ := h1
  subst ea
  have hq : ∀ a, 37 ≤ a → a < 64 → M1 a = M a := by
    rcases q1 with ⟨-, -, r, m1, ⟨x, -, -, m0, f1, -, hcs⟩, rfl⟩ | ⟨-, -, z⟩ | ⟨-, -, z⟩
    · intro a h1 h2
      rcases hcs with ⟨-, -, rfl⟩ | ⟨-, -, -, rfl⟩
      · rw [fx_u_ne (by omega)]; exact f1 a (by simp only [List.mem_cons, List.not_mem_nil, or_false]; omega)
      · unfold m_end m_ce
        rw [fx_u_ne (by omega), fx_u_ne (by omega), fx_u_ne (by omega), fx_u_ne (by omega), fx_u_ne (by omega), fx_u_ne (by omega), fx_u_ne (by omega), fx_u_ne (by omega), fx_u_ne (by omega)]
        exact f1 a (by simp only [List.mem_cons, List.not_mem_nil, or_false]; omega)
    · intro a h1 h2
      rcases z with ⟨-, e, -⟩ | ⟨q, -⟩
      · rw [e]
      · exact absurd q x1
    · intro a h1 h2
      rcases z with ⟨q, -⟩ | ⟨-, -, f1, -⟩
      · exact absurd q.symm x1
      · exact f1 a (by simp only [List.mem_cons, List.not_mem_nil, or_false]; omega)
  skip
  refine G_istore F dL_law_1538 rfl rfl (Nat.le_of_ble_eq_true rfl) ?_
  simp only [List.set_cons_zero, List.set_cons_succ]
  refine G_aload_n F dL_law_1540 rfl ?_
  refine G_aload_n F dL_law_1541 rfl ?_
  refine G_iload F dL_law_1542 rfl ?_
  refine G_iconst (v := nI 1) F dL_law_1544 (by decide) ?_
  refine G_iadd F dL_law_1545 ?_
  rw [nI_add]
  refine G_sld F hs dL_law_1546 (by omega) hn ?_
  refine G_vI F (k := 37) mv_L_191 dL_law_1547 (t_read hl _ s1 o_C M1 (N := N) (len := len) (xs (i + 1)) (n0_of hP hq) hN16 hN1 (by rw [hq 37 (by omega) (by omega), hT.2.2.1]; exact hT.1) hT.2.1) (As := [.int (xs (i + 1))]) rfl rfl rfl rfl (Nat.le_of_ble_eq_true rfl) ⟨Nat.le_of_ble_eq_true rfl, Nat.le_of_ble_eq_true rfl, by show cx + 4 ≤ 603072; omega, by show sx + 24 ≤ 7202922; omega⟩ (fun r2 M2 h2 => ?_)
  refine G_istore F dL_law_1550 rfl rfl (Nat.le_of_ble_eq_true rfl) ?_
  simp only [List.set_cons_zero, List.set_cons_succ]
  refine G_aload_n F dL_law_1552 rfl ?_
  refine G_vI F (k := 37) mv_L_106 dL_law_1553 (t_thrown hl _ s1 o_C M2) (As := []) rfl rfl rfl rfl (Nat.le_of_ble_eq_true rfl) ⟨Nat.le_of_ble_eq_true rfl, Nat.le_of_ble_eq_true rfl, by show cx + 4 ≤ 603072; omega, by show sx + 24 ≤ 7202922; omega⟩ (fun r3 M3 h3 => ?_)
  rw [h3.1, h3.2]
  have key : M2 37 13 = k ∧ (k = 0 → M2 64 0 = r2) ∧ Iv (c + 1) s1 M2 := by
    have eh : hr (M1 63) len = hr (M 36) len := hr_same (fun j hj => by rw [hq 63 (by omega) (by omega)]; exact hT.2.2.2 j (by have := hT.2.1; omega))
    rw [eh] at h2
    have hpv := fun e hf => pp_v (N := N) (h := hr (M 36) len) (len := len) hN16 e hf
    generalize (pp (hr (M 36) len) len) = T at *
    rcases q1 with ⟨rfl, rfl, r, m1, ⟨x, x1, x2, m0, f1, f2, hcs⟩, rfl⟩ | ⟨rfl, rfl, z⟩ | ⟨rfl, rfl, z⟩
    · rcases h2 with ⟨y, y1, y2, n0, ⟨g1, g13, g39, g37⟩, hrs⟩ | ⟨z, -⟩
      · have exy := nI_i hN16 x1 y1 (x2.symm.trans y2)
        subst exy
        rcases hcs with ⟨ef, rfl, rfl⟩ | ⟨et, hfit, rfl, rfl⟩
        · rcases hrs with ⟨-, rfl, rfl⟩ | ⟨et, -⟩ | ⟨et, -⟩
          · have cc : ∀ a, a < 37 → M2 a = m1 a := fun a h => (g1 a (by simp only [List.mem_cons, List.not_mem_nil, or_false]; omega)).trans (fx_u_ne (by omega))
            have ck : ∀ a, (a < 37 ∧ a ≠ 35) → M2 a = M a := fun a h => (cc a h.1).trans (f1 a (by simp only [List.mem_cons, List.not_mem_nil, or_false]; omega))
            have cr : ∀ a, (37 < a ∧ a < 64) → M2 a = M a := fun a h => (g1 a (by simp only [List.mem_cons, List.not_mem_nil, or_false]; omega)).trans (hq a (by omega) (by omega))
            have c37 : ∀ j, (j ≠ 13 ∧ j < 39) → M2 37 j = M 37 j := fun j h => (g37 j h.1 h.2).trans (congrFun (hq 37 (by omega) (by omega)) j)
            refine ⟨g13, fun _ => by rw [g1 64 (by decide), fx_u_at, if_pos ⟨rfl, rfl⟩], ⟨N, sz, hP.keep (Nat.le_succ c) (fun a h1 h2 => ck a (by omega)) (fun a h1 h2 => cr a (by omega)) (c37 0 (by omega)), ⟨hot, al, rw, pos, hL.keep (ck 10 (by omega)) (ck 11 (by omega)) (cr 46 (by omega)) (c37 3 (by omega)) (c37 1 (by omega))⟩, ⟨sl, kp, hH.keep (ck 31 (by omega)) (ck 32 (by omega)) (ck 33 (by omega)) (ck 34 (by omega)) (cr 56 (by omega)) (cr 57 (by omega)) (cr 58 (by omega)) (c37 27 (by omega))⟩, ⟨0, by rw [cc 35 (by omega)]; exact f2, by omega, by rw [g39, cc 35 (by omega)]; exact f2.symm, fun j hj => by rw [cr 63 (by omega), ck 36 (by omega)]; exact hT.2.2.2 j hj⟩, ⟨np, hQ.keep (ck 27 (by omega)) (ck 28 (by omega)) (ck 29 (by omega)) (cr 47 (by omega)) (c37 17 (by omega))⟩, by rw [c37 2 (by omega), ck 0 (by omega)]; exact hlim⟩⟩
          · rw [ef] at et; exact Bool.noConfusion et
          · rw [ef] at et; exact Bool.noConfusion et
        · rcases hrs with ⟨ef, -⟩ | ⟨-, -, rfl, rfl⟩ | ⟨-, nf, -⟩
          · rw [et] at ef; exact Bool.noConfusion ef
          · obtain ⟨hvl, v, v1, v2⟩ := hpv et hfit
            have d0 : ∀ a, (37 < a ∧ a < 64) → n0 a = M a := fun a h => (g1 a (by simp only [List.mem_cons, List.not_mem_nil, or_false]; omega)).trans (hq a (by omega) (by omega))
            have d1 : ∀ a, a < 37 → n0 a = (m_end N (fx_u m0 2 x T.2.2.1) x T.2.2.2.1 T.2.2.2.2.1 T.2.2.2.2.2.1 T.2.2.2.2.2.2) a := fun a h => (g1 a (by simp only [List.mem_cons, List.not_mem_nil, or_false]; omega)).trans (fx_u_ne (by omega))
            have d37 : ∀ j, (j ≠ 13 ∧ j < 39) → n0 37 j = M 37 j := fun j h => (g37 j h.1 h.2).trans (congrFun (hq 37 (by omega) (by omega)) j)
            have fm : ∀ a, a ≠ 35 → m0 a = M a := fun a h => f1 a (by simp only [List.mem_cons, List.not_mem_nil, or_false]; omega)
            have k1 : ∀ a, a < 37 → (r_ce (fx_u n0 38 x T.2.2.1) x T.2.2.2.1 T.2.2.2.2.1 T.2.2.2.2.2.1 T.2.2.2.2.2.2) a = n0 a := fun a h => by unfold r_ce; rw [fx_u_ne (by omega), fx_u_ne (by omega), fx_u_ne (by omega), fx_u_ne (by omega), fx_u_ne (by omega), fx_u_ne (by omega), fx_u_ne (by omega)]
            have k2 : ∀ a, (37 ≤ a ∧ a ≠ 38 ∧ a ≠ 39 ∧ a ≠ 40 ∧ a ≠ 41 ∧ a ≠ 42 ∧ a ≠ 44 ∧ a ≠ 45) → (r_ce (fx_u n0 38 x T.2.2.1) x T.2.2.2.1 T.2.2.2.2.1 T.2.2.2.2.2.1 T.2.2.2.2.2.2) a = n0 a := fun a h => by unfold r_ce; rw [fx_u_ne (by omega), fx_u_ne (by omega), fx_u_ne (by omega), fx_u_ne (by omega), fx_u_ne (by omega), fx_u_ne (by omega), fx_u_ne (by omega)]
            have k38 : (r_ce (fx_u n0 38 x T.2.2.1) x T.2.2.2.1 T.2.2.2.2.1 T.2.2.2.2.2.1 T.2.2.2.2.2.2) 38 = upd (n0 38) x T.2.2.1 := rfl
            have k39 : (r_ce (fx_u n0 38 x T.2.2.1) x T.2.2.2.1 T.2.2.2.2.1 T.2.2.2.2.2.1 T.2.2.2.2.2.2) 39 = upd (n0 39) x T.2.2.2.1 := rfl
            have k40 : (r_ce (fx_u n0 38 x T.2.2.1) x T.2.2.2.1 T.2.2.2.2.1 T.2.2.2.2.2.1 T.2.2.2.2.2.2) 40 = upd (n0 40) x T.2.2.2.2.1 := rfl
            have k41 : (r_ce (fx_u n0 38 x T.2.2.1) x T.2.2.2.1 T.2.2.2.2.1 T.2.2.2.2.2.1 T.2.2.2.2.2.2) 41 = upd (n0 41) x T.2.2.2.2.2.1 := rfl
            have k42 : (r_ce (fx_u n0 38 x T.2.2.1) x T.2.2.2.1 T.2.2.2.2.1 T.2.2.2.2.2.1 T.2.2.2.2.2.2) 42 = upd (n0 42) x T.2.2.2.2.2.2 := rfl
            have k44 : (r_ce (fx_u n0 38 x T.2.2.1) x T.2.2.2.1 T.2.2.2.2.1 T.2.2.2.2.2.1 T.2.2.2.2.2.2) 44 = upd (n0 44) x 0 := rfl
            have k45 : (r_ce (fx_u n0 38 x T.2.2.1) x T.2.2.2.1 T.2.2.2.2.1 T.2.2.2.2.2.1 T.2.2.2.2.2.2) 45 = upd (n0 45) x 0 := rfl
            generalize r_ce (fx_u n0 38 x T.2.2.1) x T.2.2.2.1 T.2.2.2.2.1 T.2.2.2.2.2.1 T.2.2.2.2.2.2 = M2 at k1 k2 k38 k39 k40 k41 k42 k44 k45 ⊢
            have q2 : M2 2 = upd (M 2) x T.2.2.1 := by rw [k1 2 (by omega), d1 2 (by omega), ← fm 2 (by omega)]; rfl
            have q3 : M2 3 = upd (M 3) x T.2.2.2.1 := by rw [k1 3 (by omega), d1 3 (by omega), ← fm 3 (by omega)]; rfl
            have q4 : M2 4 = upd (M 4) x T.2.2.2.2.1 := by rw [k1 4 (by omega), d1 4 (by omega), ← fm 4 (by omega)]; rfl
            have q5 : M2 5 = upd (M 5) x T.2.2.2.2.2.1 := by rw [k1 5 (by omega), d1 5 (by omega), ← fm 5 (by omega)]; rfl
            have q6 : M2 6 = upd (M 6) x T.2.2.2.2.2.2 := by rw [k1 6 (by omega), d1 6 (by omega), ← fm 6 (by omega)]; rfl
            have q8 : M2 8 = upd (M 8) x 0 := by rw [k1 8 (by omega), d1 8 (by omega), ← fm 8 (by omega)]; rfl
            have q9 : M2 9 = upd (M 9) x 0 := by rw [k1 9 (by omega), d1 9 (by omega), ← fm 9 (by omega)]; rfl
            have q7 : M2 7 = M 7 := by rw [k1 7 (by omega), d1 7 (by omega), ← fm 7 (by omega)]; rfl
            have q18 : M2 1 8 = M 1 8 := by rw [k1 1 (by omega), d1 1 (by omega), ← fm 1 (by omega)]; rfl
            have q19 : M2 1 9 = hds (pf_tg (upd (M 4) x T.2.2.2.2.1) (upd (M 5) x T.2.2.2.2.2.1)) N N := by rw [k1 1 (by omega), d1 1 (by omega), ← fm 4 (by omega), ← fm 5 (by omega)]; rfl
            have qq : ∀ a, (a < 37 ∧ (a = 0 ∨ 10 ≤ a) ∧ a ≠ 35) → M2 a = M a := fun a h => by
              rw [k1 a (by omega), d1 a (by omega), ← fm a (by omega)]
              unfold m_end m_ce
              rw [fx_u_ne (by omega), fx_u_ne (by omega), fx_u_ne (by omega), fx_u_ne (by omega), fx_u_ne (by omega), fx_u_ne (by omega), fx_u_ne (by omega), fx_u_ne (by omega)]
            have q35 : M2 35 1 = 0 := by rw [k1 35 (by omega), d1 35 (by omega)]; exact f2
            have qr : ∀ a, (46 ≤ a ∧ a < 64) → M2 a = M a := fun a h => (k2 a (by omega)).trans (d0 a (by omega))
            have c37 : ∀ j, (j ≠ 13 ∧ j < 39) → M2 37 j = M 37 j := fun j h => by rw [k2 37 (by omega)]; exact d37 j h
            refine ⟨by rw [k2 37 (by omega)]; exact g13, fun _ => by rw [k2 64 (by omega), g1 64 (by decide), fx_u_at, if_pos ⟨rfl, rfl⟩], ?_⟩
            refine ⟨N, (fun b => if b = x then v else sz b), Prg_end hP x1 hvl q18 q19 (fun b hb => ?_) q3 q4 q5 q6 q7 q8 q9 (c37 0 (by omega)) (fun j hj => ?_) (by rw [k39, d0 39 (by omega)]) (by rw [k40, d0 40 (by omega)]) (by rw [k41, d0 41 (by omega)]) (by rw [k42, d0 42 (by omega)]) (by rw [k2 43 (by omega), d0 43 (by omega)]) (by rw [k44, d0 44 (by omega)]) (by rw [k45, d0 45 (by omega)]), ⟨hot, al, rw, pos, hL.keep (qq 10 (by omega)) (qq 11 (by omega)) (qr 46 (by omega)) (c37 3 (by omega)) (c37 1 (by omega))⟩, ⟨sl, kp, hH.keep (qq 31 (by omega)) (qq 32 (by omega)) (qq 33 (by omega)) (qq 34 (by omega)) (qr 56 (by omega)) (qr 57 (by omega)) (qr 58 (by omega)) (c37 27 (by omega))⟩, ⟨0, q35, by omega, by rw [k2 37 (by omega), g39, q35], fun j hj => by rw [qr 63 (by omega), qq 36 (by omega)]; exact hT.2.2.2 j hj⟩, ⟨np, hQ.keep (qq 27 (by omega)) (qq 28 (by omega)) (qq 29 (by omega)) (qr 47 (by omega)) (c37 17 (by omega))⟩, by rw [c37 2 (by omega), qq 0 (by omega)]; exact hlim⟩
            · rw [q2]
              (try dsimp only)
              by_cases q : b = x
              · subst q; rw [upd_eq, if_pos rfl]; exact ⟨v2, v1⟩
              · rw [upd_ne q, if_neg q]; exact hP.2.2.2.1 b hb
            · rw [k38, q2, d0 38 (by omega)]; exact upd_eqs (hP.2.2.2.2.2.2.2.2.2 j hj).1
          · exact absurd hfit nf
      · rw [x2, pin_t hN16 x1] at z; exact Bool.noConfusion z
    · rcases z with ⟨-, rfl, zp⟩ | ⟨q, -⟩
      · rcases h2 with ⟨y, y1, y2, -⟩ | ⟨-, rfl⟩
        · rw [y2, pin_t hN16 y1] at zp; exact Bool.noConfusion zp
        · exact ⟨by rw [fx_u_at, if_pos ⟨rfl, rfl⟩], fun z => absurd z (by decide), hI.keep (Nat.le_succ c) (fun a h => fx_u_ne (by omega)) (fun j h => by rw [fx_u_at, if_neg (by omega)])⟩
      · exact absurd q x1
    · rcases z with ⟨q, -⟩ | ⟨-, zp, f1, f2, et, nf⟩
      · exact absurd q.symm x1
      · rcases h2 with ⟨y, y1, y2, n0, ⟨g1, g13, g39, g37⟩, hrs⟩ | ⟨z, -⟩
        · rcases hrs with ⟨ef, -⟩ | ⟨-, hfit, -⟩ | ⟨-, -, rfl⟩
          · rw [et] at ef; exact Bool.noConfusion ef
          · exact absurd hfit nf
          · have ck : ∀ a, (a < 37 ∧ a ≠ 35) → (fx_u n0 37 13 2) a = M a := fun a h => (fx_u_ne (by omega)).trans ((g1 a (by simp only [List.mem_cons, List.not_mem_nil, or_false]; omega)).trans (f1 a (by simp only [List.mem_cons, List.not_mem_nil, or_false]; omega)))
            have cr : ∀ a, (37 < a ∧ a < 64) → (fx_u n0 37 13 2) a = M a := fun a h => (fx_u_ne (by omega)).trans ((g1 a (by simp only [List.mem_cons, List.not_mem_nil, or_false]; omega)).trans (hq a (by omega) (by omega)))
            have c37 : ∀ j, (j ≠ 13 ∧ j < 39) → (fx_u n0 37 13 2) 37 j = M 37 j := fun j h => by rw [fx_u_at, if_neg (by omega), g37 j h.1 h.2]; exact congrFun (hq 37 (by omega) (by omega)) j
            have q35 : (fx_u n0 37 13 2) 35 1 = 0 := by rw [fx_u_ne (by omega), g1 35 (by decide)]; exact f2
            refine ⟨by rw [fx_u_at, if_pos ⟨rfl, rfl⟩], fun z => absurd z (by decide), ⟨N, sz, hP.keep (Nat.le_succ c) (fun a h1 h2 => ck a (by omega)) (fun a h1 h2 => cr a (by omega)) (c37 0 (by omega)), ⟨hot, al, rw, pos, hL.keep (ck 10 (by omega)) (ck 11 (by omega)) (cr 46 (by omega)) (c37 3 (by omega)) (c37 1 (by omega))⟩, ⟨sl, kp, hH.keep (ck 31 (by omega)) (ck 32 (by omega)) (ck 33 (by omega)) (ck 34 (by omega)) (cr 56 (by omega)) (cr 57 (by omega)) (cr 58 (by omega)) (c37 27 (by omega))⟩, ⟨0, q35, by omega, by rw [fx_u_at, if_neg (by omega), g39, q35], fun j hj => by rw [cr 63 (by omega), ck 36 (by omega)]; exact hT.2.2.2 j hj⟩, ⟨np, hQ.keep (ck 27 (by omega)) (ck 28 (by omega)) (ck 29 (by omega)) (cr 47 (by omega)) (c37 17 (by omega))⟩, by rw [c37 2 (by omega), ck 0 (by omega)]; exact hlim⟩⟩
        · rw [zp] at z; exact Bool.noConfusion z
  refine G_iload F dL_law_1556 rfl ?_
  refine G_icmp_eq (tgt := 1563) F dL_law_1558 (by decide) (fun g1 => ?_) (fun g1 => absurd key.1 g1)
  refine G_iload F dL_law_1563 rfl ?_
  refine G_if_ne (tgt := 1580) F dL_law_1565 (by decide) (fun g2 => ?_) (fun g2 => ?_)
  · refine G_goto (tgt := 1627) F dL_law_1580 (by decide) ?_
    refine G_drop F 6 ?_
    refine G_drop F 7 ?_
    simp only [List.set_cons_zero, List.set_cons_succ]
    exact next s1 M2 key.2.2
  · refine G_aload_n F dL_law_1568 rfl ?_
    refine G_iconst (v := 0) F dL_law_1569 rfl ?_
    refine G_lald F dL_law_1570 (k := 64) rfl vp_in01 ?_
    rw [show M2 64 (Int32.toNatClampNeg 0) = r2 from key.2.1 g2]
    refine G_iload F dL_law_1571 rfl ?_
    refine G_i2l F dL_law_1573 ?_
    refine G_lcmp F dL_law_1574 ?_
    rw [lg_cmp_rfl]
    refine G_if_eq (tgt := 1580) F dL_law_1575 (by decide) (fun _ => ?_) (fun g3 => absurd rfl g3)
    refine G_goto (tgt := 1627) F dL_law_1580 (by decide) ?_
    refine G_drop F 6 ?_
    refine G_drop F 7 ?_
    simp only [List.set_cons_zero, List.set_cons_succ]
    exact next s1 M2 key.2.2
