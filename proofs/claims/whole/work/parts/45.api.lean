/-! BLOCKLAYOUT: calls that change or tell the program and the plan -/
theorem i10 : ¬ (1 : Int32) = 0 := by decide
/-- the world behind a changed end -/
def m_end (N : Nat) (M : fx_M) (b : Nat) (k f s p : Int32) : fx_M := fx_u (m_ce M b k f s p) 1 9 (hds (pf_tg (m_ce M b k f s p 4) (m_ce M b k f s p 5)) N N)
/-- the plan was remembered -/
def rmb (sl kp : Nat) (M m : fx_M) : Prop := fr [31, 32, 33, 34] M m ∧ m 31 3 = nI (if sl + 1 = 10 then 0 else sl + 1) ∧ m 31 4 = nI (min (kp + 1) 10) ∧ (∀ j, m 32 j = if sl * 16 ≤ j ∧ j < sl * 16 + 16 then M 11 (j - sl * 16) else M 32 j) ∧ m 33 = upd (M 33) sl (M 10 1) ∧ m 34 = upd (M 34) sl (M 10 2)
/-- the world of a cleared program -/
def clr (n : Int32) (M m : fx_M) : Prop := fr [1, 2, 3, 4, 5, 6, 7, 8, 9, 10, 11, 31] M m ∧ m 1 8 = n ∧ m 1 9 = 0 ∧ (∀ b, b < 16 → m 2 b = 0 ∧ m 3 b = 2 ∧ m 4 b = -1 ∧ m 5 b = -1 ∧ m 6 b = 0 ∧ m 7 b = 0 ∧ m 8 b = 0 ∧ m 9 b = 0) ∧ m 10 1 = n ∧ m 10 2 = M 10 2 ∧ (∀ b, b < 16 → m 11 b = nI b) ∧ m 31 3 = M 31 3 ∧ m 31 4 = 0
set_option maxRecDepth 20000 in
theorem s_clear {l : Launch} {Z : fx_Z} (hl : l.stackTraces = false) (ad : Nat → Nat) (sw : Bool) (tl : List fx_Sh) (M : fx_M) (n : Int32)  : CA l Z yX7_clear (.code yX7_clear cX7_clear 3 (some .int)) 2 [.ref (ad 0), .int n] ad (c_C sw ++ tl) M (fun r m => (1 ≤ n ∧ n ≤ 16) ∧ r = M 1 8 ∧ clr n M m) (fun E m => m = M ∧ E = xIA ∧ ¬ (1 ≤ n ∧ n ≤ 16)) := by
  refine CT_of (ret := (some .int)) (lv0 := [some (.ref (ad 0)), some (.int n), none]) (by decide +kernel) hl (by simp [Value.category]) (Nat.le_of_ble_eq_true rfl) rfl ?_
  intro X F Rt _
  refine G_iload_n F dX7_clear_0 rfl ?_
  refine G_iconst (v := 1) F dX7_clear_1 rfl ?_
  refine G_icmp_lt (tgt := 11) F dX7_clear_2 (by decide) (fun h2 => ?_) (fun h2 => ?_)
  · refine G_throwS F Rt (cls := "java/lang/IllegalArgumentException") (text := "the number of blocks is not from 1 to 16") nmsR dX7_clear_11 dX7_clear_14 dX7_clear_15 dX7_clear_17 dX7_clear_20 fit_IAE nmsR_fit (fx_in 585 (by decide +kernel) rfl) (fx_in 137 (by decide +kernel) rfl) (List.mem_of_getElem? (i := 0) rfl) at_IAE ⟨Nat.le_of_ble_eq_true rfl, Nat.le_of_ble_eq_true rfl, Nat.le_of_ble_eq_true rfl, Nat.le_of_ble_eq_true rfl⟩ ?_ (Nat.le_of_ble_eq_true rfl) (Nat.le_of_ble_eq_true rfl)
    refine ⟨rfl, rfl, ?_⟩
    simp only [Int32.lt_iff_toInt_lt, Int32.le_iff_toInt_le] at *
    omega
  · refine G_iload_n F dX7_clear_5 rfl ?_
    refine G_bipush (v := 16) F dX7_clear_6 rfl ?_
    refine G_icmp_le (tgt := 21) F dX7_clear_8 (by decide) (fun h8 => ?_) (fun h8 => ?_)
    · refine G_aload_n F dX7_clear_21 rfl ?_
      refine G_getr F fl_X7_12 dX7_clear_22 rfl rfl ?_
      refine G_geti F fl_X7_78 dX7_clear_25 rfl rfl ?_
      refine G_istore_n F 2 dX7_clear_28 rfl rfl rfl (Nat.le_of_ble_eq_true rfl) ?_
      simp only [List.set_cons_zero, List.set_cons_succ]
      refine G_aload_n F dX7_clear_29 rfl ?_
      refine G_getr F fl_X7_12 dX7_clear_30 rfl rfl ?_
      refine G_iload_n F dX7_clear_33 rfl ?_
      refine G_vv F mv_X7_66 dX7_clear_34 (s_progBegin hl ad sw tl M n) rfl rfl rfl rfl (Nat.le_of_ble_eq_true rfl) ⟨Nat.le_of_ble_eq_true rfl, Nat.le_of_ble_eq_true rfl, Nat.le_of_ble_eq_true rfl, Nat.le_of_ble_eq_true rfl⟩ (fun M34 h34 => ?_)
      skip
      refine G_aload_n F dX7_clear_37 rfl ?_
      refine G_getr F fl_X7_19 dX7_clear_38 rfl rfl ?_
      refine G_iload_n F dX7_clear_41 rfl ?_
      refine G_vv F mv_X7_70 dX7_clear_42 (s_planBegin hl ad sw tl M34 n) rfl rfl rfl rfl (Nat.le_of_ble_eq_true rfl) ⟨Nat.le_of_ble_eq_true rfl, Nat.le_of_ble_eq_true rfl, Nat.le_of_ble_eq_true rfl, Nat.le_of_ble_eq_true rfl⟩ (fun M42 h42 => ?_)
      skip
      refine G_aload_n F dX7_clear_45 rfl ?_
      refine G_getr F fl_X7_51 dX7_clear_46 rfl rfl ?_
      refine G_vv F mv_X7_81 dX7_clear_49 (s_forget hl ad sw tl M42) rfl rfl rfl rfl (Nat.le_of_ble_eq_true rfl) ⟨Nat.le_of_ble_eq_true rfl, Nat.le_of_ble_eq_true rfl, Nat.le_of_ble_eq_true rfl, Nat.le_of_ble_eq_true rfl⟩ (fun M49 h49 => ?_)
      rw [h49]
      refine G_iload_n F dX7_clear_52 rfl ?_
      refine G_iret F Rt dX7_clear_53 (rfl) ⟨rfl, rfl, _, rfl, ?_⟩ (Nat.le_of_ble_eq_true rfl) (Nat.le_of_ble_eq_true rfl)
      refine ⟨by simp only [Int32.lt_iff_toInt_lt, Int32.le_iff_toInt_le] at *; omega, rfl, ?_, ?_, ?_, ?_, ?_, ?_, ?_, ?_, ?_⟩
      · intro k hk
        simp only [List.mem_cons, List.not_mem_nil, or_false, not_or] at hk
        rw [fx_u_ne hk.2.2.2.2.2.2.2.2.2.2.2, h42.1 k (by simp [hk]), h34.1 k (by simp [hk])]
      · rw [fx_u_ne (by decide), h42.1 1 (by decide)]; exact h34.2.1
      · rw [fx_u_ne (by decide), h42.1 1 (by decide)]; exact h34.2.2.1
      · intro b hb
        have q := h34.2.2.2 b hb
        simp only [fx_u_ne (show (2 : Nat) ≠ 31 by decide), fx_u_ne (show (3 : Nat) ≠ 31 by decide), fx_u_ne (show (4 : Nat) ≠ 31 by decide), fx_u_ne (show (5 : Nat) ≠ 31 by decide), fx_u_ne (show (6 : Nat) ≠ 31 by decide), fx_u_ne (show (7 : Nat) ≠ 31 by decide), fx_u_ne (show (8 : Nat) ≠ 31 by decide), fx_u_ne (show (9 : Nat) ≠ 31 by decide)]
        rw [h42.1 2 (by decide), h42.1 3 (by decide), h42.1 4 (by decide), h42.1 5 (by decide), h42.1 6 (by decide), h42.1 7 (by decide), h42.1 8 (by decide), h42.1 9 (by decide)]
        exact q
      · rw [fx_u_ne (by decide)]; exact h42.2.1
      · rw [fx_u_ne (by decide), h42.2.2.1, h34.1 10 (by decide)]
      · intro b hb
        rw [fx_u_ne (by decide)]; exact h42.2.2.2 b hb
      · simp only [fx_u_at, Nat.reduceEqDiff, and_false, if_false]; rw [h42.1 31 (by decide), h34.1 31 (by decide)]
      · simp [fx_u_at]
    · refine G_throwS F Rt (cls := "java/lang/IllegalArgumentException") (text := "the number of blocks is not from 1 to 16") nmsR dX7_clear_11 dX7_clear_14 dX7_clear_15 dX7_clear_17 dX7_clear_20 fit_IAE nmsR_fit (fx_in 585 (by decide +kernel) rfl) (fx_in 137 (by decide +kernel) rfl) (List.mem_of_getElem? (i := 0) rfl) at_IAE ⟨Nat.le_of_ble_eq_true rfl, Nat.le_of_ble_eq_true rfl, Nat.le_of_ble_eq_true rfl, Nat.le_of_ble_eq_true rfl⟩ ?_ (Nat.le_of_ble_eq_true rfl) (Nat.le_of_ble_eq_true rfl)
      refine ⟨rfl, rfl, ?_⟩
      simp only [Int32.lt_iff_toInt_lt, Int32.le_iff_toInt_le] at *
      omega
set_option maxRecDepth 20000 in
theorem s_setSize {l : Launch} {Z : fx_Z} (hl : l.stackTraces = false) (ad : Nat → Nat) (sw : Bool) (tl : List fx_Sh) (M : fx_M) {N : Nat} (b v : Int32) (hN : M 1 8 = nI N) (hN16 : N ≤ 16) : CA l Z yX7_setSize (.code yX7_setSize cX7_setSize 4 (some .int)) 2 [.ref (ad 0), .int b, .int v] ad (c_C sw ++ tl) M (fun r m => ∃ x, x < N ∧ b = nI x ∧ (0 ≤ v ∧ v ≤ 60) ∧ r = M 2 x ∧ m = fx_u M 2 x v) (fun E m => m = M ∧ ((E = xIO ∧ pin N b = false) ∨ (E = xIA ∧ pin N b = true ∧ ¬ (0 ≤ v ∧ v ≤ 60)))) := by
  refine CT_of (ret := (some .int)) (lv0 := [some (.ref (ad 0)), some (.int b), some (.int v), none]) (by decide +kernel) hl (by simp [Value.category]) (Nat.le_of_ble_eq_true rfl) rfl ?_
  intro X F Rt _
  refine G_aload_n F dX7_setSize_0 rfl ?_
  refine G_iload_n F dX7_setSize_1 rfl ?_
  refine G_qV F mv_X7_84 dX7_setSize_2 (s_checkBlock hl ad sw tl M b hN) rfl rfl rfl rfl (Nat.le_of_ble_eq_true rfl) ⟨Nat.le_of_ble_eq_true rfl, Nat.le_of_ble_eq_true rfl, Nat.le_of_ble_eq_true rfl, Nat.le_of_ble_eq_true rfl⟩ (fun E2 M2 x2 => GX_out F Rt ?_ (Nat.le_of_ble_eq_true rfl) (Nat.le_of_ble_eq_true rfl)) (fun v2 M2 h2 => ?_)
  · exact ⟨x2.2.1, Or.inl ⟨x2.1, x2.2.2⟩⟩
  rw [h2.1, h2.2.1]
  simp only [Option.toList_none, List.nil_append]
  have hp2 := h2.2.2
  obtain ⟨x, hx1, hx2⟩ := pin_spec hN16 hp2
  subst hx2
  refine G_iload_n F dX7_setSize_5 rfl ?_
  refine G_if_lt (tgt := 15) F dX7_setSize_6 (by decide) (fun h6 => ?_) (fun h6 => ?_)
  · refine G_throwS F Rt (cls := "java/lang/IllegalArgumentException") (text := "the size is not from 0 to 60") nmsR dX7_setSize_15 dX7_setSize_18 dX7_setSize_19 dX7_setSize_21 dX7_setSize_24 fit_IAE nmsR_fit (fx_in 585 (by decide +kernel) rfl) (fx_in 137 (by decide +kernel) rfl) (List.mem_of_getElem? (i := 2) rfl) at_IAE ⟨Nat.le_of_ble_eq_true rfl, Nat.le_of_ble_eq_true rfl, Nat.le_of_ble_eq_true rfl, Nat.le_of_ble_eq_true rfl⟩ ?_ (Nat.le_of_ble_eq_true rfl) (Nat.le_of_ble_eq_true rfl)
    refine ⟨rfl, Or.inr ⟨rfl, hp2, ?_⟩⟩
    simp only [Int32.lt_iff_toInt_lt, Int32.le_iff_toInt_le] at *
    omega
  · refine G_iload_n F dX7_setSize_9 rfl ?_
    refine G_bipush (v := 60) F dX7_setSize_10 rfl ?_
    refine G_icmp_le (tgt := 25) F dX7_setSize_12 (by decide) (fun h12 => ?_) (fun h12 => ?_)
    · refine G_aload_n F dX7_setSize_25 rfl ?_
      refine G_getr F fl_X7_12 dX7_setSize_26 rfl rfl ?_
      refine G_getr F fl_X7_89 dX7_setSize_29 rfl rfl ?_
      refine G_iload_n F dX7_setSize_32 rfl ?_
      refine G_ialdN F dX7_setSize_33 rfl (by omega) (by decide) ?_
      refine G_istore_n F 3 dX7_setSize_34 rfl rfl rfl (Nat.le_of_ble_eq_true rfl) ?_
      simp only [List.set_cons_zero, List.set_cons_succ]
      refine G_aload_n F dX7_setSize_35 rfl ?_
      refine G_getr F fl_X7_12 dX7_setSize_36 rfl rfl ?_
      refine G_getr F fl_X7_89 dX7_setSize_39 rfl rfl ?_
      refine G_iload_n F dX7_setSize_42 rfl ?_
      refine G_iload_n F dX7_setSize_43 rfl ?_
      refine G_iastN F dX7_setSize_44 rfl (by omega) (by decide) ?_
      refine G_iload_n F dX7_setSize_45 rfl ?_
      refine G_iret F Rt dX7_setSize_46 (rfl) ⟨rfl, rfl, _, rfl, ?_⟩ (Nat.le_of_ble_eq_true rfl) (Nat.le_of_ble_eq_true rfl)
      refine ⟨x, hx1, rfl, ?_, rfl, rfl⟩
      simp only [Int32.lt_iff_toInt_lt, Int32.le_iff_toInt_le] at *
      omega
    · refine G_throwS F Rt (cls := "java/lang/IllegalArgumentException") (text := "the size is not from 0 to 60") nmsR dX7_setSize_15 dX7_setSize_18 dX7_setSize_19 dX7_setSize_21 dX7_setSize_24 fit_IAE nmsR_fit (fx_in 585 (by decide +kernel) rfl) (fx_in 137 (by decide +kernel) rfl) (List.mem_of_getElem? (i := 2) rfl) at_IAE ⟨Nat.le_of_ble_eq_true rfl, Nat.le_of_ble_eq_true rfl, Nat.le_of_ble_eq_true rfl, Nat.le_of_ble_eq_true rfl⟩ ?_ (Nat.le_of_ble_eq_true rfl) (Nat.le_of_ble_eq_true rfl)
      refine ⟨rfl, Or.inr ⟨rfl, hp2, ?_⟩⟩
      simp only [Int32.lt_iff_toInt_lt, Int32.le_iff_toInt_le] at *
      omega
set_option maxRecDepth 20000 in
theorem s_setGo {l : Launch} {Z : fx_Z} (hl : l.stackTraces = false) (ad : Nat → Nat) (sw : Bool) (tl : List fx_Sh) (M : fx_M) {N : Nat} (b t : Int32) (hN : M 1 8 = nI N) (hN16 : N ≤ 16) : CA l Z yX7_setGo (.code yX7_setGo cX7_setGo 3 (some .int)) 4 [.ref (ad 0), .int b, .int t] ad (c_C sw ++ tl) M (fun r m => ∃ x y, x < N ∧ y < N ∧ b = nI x ∧ t = nI y ∧ r = M 3 x ∧ m = m_end N M x 0 (nI y) (-1) 0) (fun E m => m = M ∧ E = xIO ∧ (pin N b && pin N t) = false) := by
  refine CT_of (ret := (some .int)) (lv0 := [some (.ref (ad 0)), some (.int b), some (.int t)]) (by decide +kernel) hl (by simp [Value.category]) (Nat.le_of_ble_eq_true rfl) rfl ?_
  intro X F Rt _
  refine G_aload_n F dX7_setGo_0 rfl ?_
  refine G_iload_n F dX7_setGo_1 rfl ?_
  refine G_qV F mv_X7_84 dX7_setGo_2 (s_checkBlock hl ad sw tl M b hN) rfl rfl rfl rfl (Nat.le_of_ble_eq_true rfl) ⟨Nat.le_of_ble_eq_true rfl, Nat.le_of_ble_eq_true rfl, Nat.le_of_ble_eq_true rfl, Nat.le_of_ble_eq_true rfl⟩ (fun E2 M2 x2 => GX_out F Rt ?_ (Nat.le_of_ble_eq_true rfl) (Nat.le_of_ble_eq_true rfl)) (fun v2 M2 h2 => ?_)
  · exact ⟨x2.2.1, x2.1, by rw [x2.2.2]; rfl⟩
  rw [h2.1, h2.2.1]
  simp only [Option.toList_none, List.nil_append]
  have hp2 := h2.2.2
  obtain ⟨x, hx1, hx2⟩ := pin_spec hN16 hp2
  subst hx2
  refine G_aload_n F dX7_setGo_5 rfl ?_
  refine G_iload_n F dX7_setGo_6 rfl ?_
  refine G_qV F mv_X7_84 dX7_setGo_7 (s_checkBlock hl ad sw tl M t hN) rfl rfl rfl rfl (Nat.le_of_ble_eq_true rfl) ⟨Nat.le_of_ble_eq_true rfl, Nat.le_of_ble_eq_true rfl, Nat.le_of_ble_eq_true rfl, Nat.le_of_ble_eq_true rfl⟩ (fun E7 M7 x7 => GX_out F Rt ?_ (Nat.le_of_ble_eq_true rfl) (Nat.le_of_ble_eq_true rfl)) (fun v7 M7 h7 => ?_)
  · exact ⟨x7.2.1, x7.1, by rw [x7.2.2]; exact Bool.and_false _⟩
  rw [h7.1, h7.2.1]
  simp only [Option.toList_none, List.nil_append]
  have hp7 := h7.2.2
  obtain ⟨y, hy1, hy2⟩ := pin_spec hN16 hp7
  subst hy2
  refine G_aload_n F dX7_setGo_10 rfl ?_
  refine G_getr F fl_X7_12 dX7_setGo_11 rfl rfl ?_
  refine G_iload_n F dX7_setGo_14 rfl ?_
  refine G_iconst (v := 0) F dX7_setGo_15 rfl ?_
  refine G_iload_n F dX7_setGo_16 rfl ?_
  refine G_iconst (v := -1) F dX7_setGo_17 rfl ?_
  refine G_iconst (v := 0) F dX7_setGo_18 rfl ?_
  refine G_vI F mv_X7_93 dX7_setGo_19 (s_changeEnd hl ad sw tl M (N := N) (b := x) 0 (nI y) (-1) 0 hN hN16 (by omega)) rfl rfl rfl rfl (Nat.le_of_ble_eq_true rfl) ⟨Nat.le_of_ble_eq_true rfl, Nat.le_of_ble_eq_true rfl, Nat.le_of_ble_eq_true rfl, Nat.le_of_ble_eq_true rfl⟩ (fun r19 M19 h19 => ?_)
  rw [h19.1, h19.2]
  refine G_iret F Rt dX7_setGo_22 (rfl) ⟨rfl, rfl, _, rfl, ?_⟩ (Nat.le_of_ble_eq_true rfl) (Nat.le_of_ble_eq_true rfl)
  exact ⟨x, y, hx1, hy1, rfl, rfl, rfl, rfl⟩
set_option maxRecDepth 20000 in
theorem s_setIf {l : Launch} {Z : fx_Z} (hl : l.stackTraces = false) (ad : Nat → Nat) (sw : Bool) (tl : List fx_Sh) (M : fx_M) {N : Nat} (b f s p : Int32) (hN : M 1 8 = nI N) (hN16 : N ≤ 16) : CA l Z yX7_setIf (.code yX7_setIf cX7_setIf 5 (some .int)) 4 [.ref (ad 0), .int b, .int f, .int s, .int p] ad (c_C sw ++ tl) M (fun r m => ∃ x y z, x < N ∧ y < N ∧ z < N ∧ b = nI x ∧ f = nI y ∧ s = nI z ∧ y ≠ z ∧ r = M 3 x ∧ m = m_end N M x 1 (nI y) (nI z) p) (fun E m => m = M ∧ ((E = xIO ∧ (pin N b && (pin N f && pin N s)) = false) ∨ (E = xIA ∧ (pin N b && (pin N f && pin N s)) = true ∧ f = s))) := by
  refine CT_of (ret := (some .int)) (lv0 := [some (.ref (ad 0)), some (.int b), some (.int f), some (.int s), some (.int p)]) (by decide +kernel) hl (by simp [Value.category]) (Nat.le_of_ble_eq_true rfl) rfl ?_
  intro X F Rt _
  refine G_aload_n F dX7_setIf_0 rfl ?_
  refine G_iload_n F dX7_setIf_1 rfl ?_
  refine G_qV F mv_X7_84 dX7_setIf_2 (s_checkBlock hl ad sw tl M b hN) rfl rfl rfl rfl (Nat.le_of_ble_eq_true rfl) ⟨Nat.le_of_ble_eq_true rfl, Nat.le_of_ble_eq_true rfl, Nat.le_of_ble_eq_true rfl, Nat.le_of_ble_eq_true rfl⟩ (fun E2 M2 x2 => GX_out F Rt ?_ (Nat.le_of_ble_eq_true rfl) (Nat.le_of_ble_eq_true rfl)) (fun v2 M2 h2 => ?_)
  · exact ⟨x2.2.1, Or.inl ⟨x2.1, by rw [x2.2.2]; rfl⟩⟩
  rw [h2.1, h2.2.1]
  simp only [Option.toList_none, List.nil_append]
  have hp2 := h2.2.2
  obtain ⟨x, hx1, hx2⟩ := pin_spec hN16 hp2
  subst hx2
  refine G_aload_n F dX7_setIf_5 rfl ?_
  refine G_iload_n F dX7_setIf_6 rfl ?_
  refine G_qV F mv_X7_84 dX7_setIf_7 (s_checkBlock hl ad sw tl M f hN) rfl rfl rfl rfl (Nat.le_of_ble_eq_true rfl) ⟨Nat.le_of_ble_eq_true rfl, Nat.le_of_ble_eq_true rfl, Nat.le_of_ble_eq_true rfl, Nat.le_of_ble_eq_true rfl⟩ (fun E7 M7 x7 => GX_out F Rt ?_ (Nat.le_of_ble_eq_true rfl) (Nat.le_of_ble_eq_true rfl)) (fun v7 M7 h7 => ?_)
  · exact ⟨x7.2.1, Or.inl ⟨x7.1, by rw [x7.2.2]; simp⟩⟩
  rw [h7.1, h7.2.1]
  simp only [Option.toList_none, List.nil_append]
  have hp7 := h7.2.2
  obtain ⟨y, hy1, hy2⟩ := pin_spec hN16 hp7
  subst hy2
  refine G_aload_n F dX7_setIf_10 rfl ?_
  refine G_iload_n F dX7_setIf_11 rfl ?_
  refine G_qV F mv_X7_84 dX7_setIf_12 (s_checkBlock hl ad sw tl M s hN) rfl rfl rfl rfl (Nat.le_of_ble_eq_true rfl) ⟨Nat.le_of_ble_eq_true rfl, Nat.le_of_ble_eq_true rfl, Nat.le_of_ble_eq_true rfl, Nat.le_of_ble_eq_true rfl⟩ (fun E12 M12 x12 => GX_out F Rt ?_ (Nat.le_of_ble_eq_true rfl) (Nat.le_of_ble_eq_true rfl)) (fun v12 M12 h12 => ?_)
  · exact ⟨x12.2.1, Or.inl ⟨x12.1, by rw [x12.2.2]; simp⟩⟩
  rw [h12.1, h12.2.1]
  simp only [Option.toList_none, List.nil_append]
  have hp12 := h12.2.2
  obtain ⟨z, hz1, hz2⟩ := pin_spec hN16 hp12
  subst hz2
  refine G_iload_n F dX7_setIf_15 rfl ?_
  refine G_iload_n F dX7_setIf_16 rfl ?_
  refine G_icmp_ne (tgt := 30) F dX7_setIf_17 (by decide) (fun h17 => ?_) (fun h17 => ?_)
  · refine G_aload_n F dX7_setIf_30 rfl ?_
    refine G_getr F fl_X7_12 dX7_setIf_31 rfl rfl ?_
    refine G_iload_n F dX7_setIf_34 rfl ?_
    refine G_iconst (v := 1) F dX7_setIf_35 rfl ?_
    refine G_iload_n F dX7_setIf_36 rfl ?_
    refine G_iload_n F dX7_setIf_37 rfl ?_
    refine G_iload F dX7_setIf_38 rfl ?_
    refine G_vI F mv_X7_93 dX7_setIf_40 (s_changeEnd hl ad sw tl M (N := N) (b := x) 1 (nI y) (nI z) p hN hN16 (by omega)) rfl rfl rfl rfl (Nat.le_of_ble_eq_true rfl) ⟨Nat.le_of_ble_eq_true rfl, Nat.le_of_ble_eq_true rfl, Nat.le_of_ble_eq_true rfl, Nat.le_of_ble_eq_true rfl⟩ (fun r40 M40 h40 => ?_)
    rw [h40.1, h40.2]
    refine G_iret F Rt dX7_setIf_43 (rfl) ⟨rfl, rfl, _, rfl, ?_⟩ (Nat.le_of_ble_eq_true rfl) (Nat.le_of_ble_eq_true rfl)
    exact ⟨x, y, z, hx1, hy1, hz1, rfl, rfl, rfl, fun q => h17 (by rw [q]), rfl, rfl⟩
  · refine G_throwS F Rt (cls := "java/lang/IllegalArgumentException") (text := "the first and the second block are the same") nmsR dX7_setIf_20 dX7_setIf_23 dX7_setIf_24 dX7_setIf_26 dX7_setIf_29 fit_IAE nmsR_fit (fx_in 585 (by decide +kernel) rfl) (fx_in 137 (by decide +kernel) rfl) (List.mem_of_getElem? (i := 3) rfl) at_IAE ⟨Nat.le_of_ble_eq_true rfl, Nat.le_of_ble_eq_true rfl, Nat.le_of_ble_eq_true rfl, Nat.le_of_ble_eq_true rfl⟩ ?_ (Nat.le_of_ble_eq_true rfl) (Nat.le_of_ble_eq_true rfl)
    exact ⟨rfl, Or.inr ⟨rfl, by rw [hp2, hp7, hp12]; rfl, h17⟩⟩
set_option maxRecDepth 20000 in
theorem s_setStop {l : Launch} {Z : fx_Z} (hl : l.stackTraces = false) (ad : Nat → Nat) (sw : Bool) (tl : List fx_Sh) (M : fx_M) {N : Nat} (b : Int32) (hN : M 1 8 = nI N) (hN16 : N ≤ 16) : CA l Z yX7_setStop (.code yX7_setStop cX7_setStop 2 (some .int)) 4 [.ref (ad 0), .int b] ad (c_C sw ++ tl) M (fun r m => ∃ x, x < N ∧ b = nI x ∧ r = M 3 x ∧ m = m_end N M x 2 (-1) (-1) 0) (fun E m => m = M ∧ E = xIO ∧ pin N b = false) := by
  refine CT_of (ret := (some .int)) (lv0 := [some (.ref (ad 0)), some (.int b)]) (by decide +kernel) hl (by simp [Value.category]) (Nat.le_of_ble_eq_true rfl) rfl ?_
  intro X F Rt _
  refine G_aload_n F dX7_setStop_0 rfl ?_
  refine G_iload_n F dX7_setStop_1 rfl ?_
  refine G_qV F mv_X7_84 dX7_setStop_2 (s_checkBlock hl ad sw tl M b hN) rfl rfl rfl rfl (Nat.le_of_ble_eq_true rfl) ⟨Nat.le_of_ble_eq_true rfl, Nat.le_of_ble_eq_true rfl, Nat.le_of_ble_eq_true rfl, Nat.le_of_ble_eq_true rfl⟩ (fun E2 M2 x2 => GX_out F Rt ?_ (Nat.le_of_ble_eq_true rfl) (Nat.le_of_ble_eq_true rfl)) (fun v2 M2 h2 => ?_)
  · exact ⟨x2.2.1, x2.1, x2.2.2⟩
  rw [h2.1, h2.2.1]
  simp only [Option.toList_none, List.nil_append]
  have hp2 := h2.2.2
  obtain ⟨x, hx1, hx2⟩ := pin_spec hN16 hp2
  subst hx2
  refine G_aload_n F dX7_setStop_5 rfl ?_
  refine G_getr F fl_X7_12 dX7_setStop_6 rfl rfl ?_
  refine G_iload_n F dX7_setStop_9 rfl ?_
  refine G_iconst (v := 2) F dX7_setStop_10 rfl ?_
  refine G_iconst (v := -1) F dX7_setStop_11 rfl ?_
  refine G_iconst (v := -1) F dX7_setStop_12 rfl ?_
  refine G_iconst (v := 0) F dX7_setStop_13 rfl ?_
  refine G_vI F mv_X7_93 dX7_setStop_14 (s_changeEnd hl ad sw tl M (N := N) (b := x) 2 (-1) (-1) 0 hN hN16 (by omega)) rfl rfl rfl rfl (Nat.le_of_ble_eq_true rfl) ⟨Nat.le_of_ble_eq_true rfl, Nat.le_of_ble_eq_true rfl, Nat.le_of_ble_eq_true rfl, Nat.le_of_ble_eq_true rfl⟩ (fun r14 M14 h14 => ?_)
  rw [h14.1, h14.2]
  refine G_iret F Rt dX7_setStop_17 (rfl) ⟨rfl, rfl, _, rfl, ?_⟩ (Nat.le_of_ble_eq_true rfl) (Nat.le_of_ble_eq_true rfl)
  exact ⟨x, hx1, rfl, rfl, rfl⟩
set_option maxRecDepth 20000 in
theorem s_invert {l : Launch} {Z : fx_Z} (hl : l.stackTraces = false) (ad : Nat → Nat) (sw : Bool) (tl : List fx_Sh) (M : fx_M) {N : Nat} (b : Int32) (hN : M 1 8 = nI N) (hN16 : N ≤ 16) : CA l Z yX7_invert (.code yX7_invert cX7_invert 2 (some .int)) 2 [.ref (ad 0), .int b] ad (c_C sw ++ tl) M (fun r m => ∃ x, x < N ∧ b = nI x ∧ M 3 x = 1 ∧ r = M 5 x ∧ m = m_sw M x) (fun E m => m = M ∧ ((E = xIO ∧ pin N b = false) ∨ (E = xUO ∧ ∃ x, x < N ∧ b = nI x ∧ M 3 x ≠ 1))) := by
  refine CT_of (ret := (some .int)) (lv0 := [some (.ref (ad 0)), some (.int b)]) (by decide +kernel) hl (by simp [Value.category]) (Nat.le_of_ble_eq_true rfl) rfl ?_
  intro X F Rt _
  refine G_aload_n F dX7_invert_0 rfl ?_
  refine G_iload_n F dX7_invert_1 rfl ?_
  refine G_qV F mv_X7_84 dX7_invert_2 (s_checkBlock hl ad sw tl M b hN) rfl rfl rfl rfl (Nat.le_of_ble_eq_true rfl) ⟨Nat.le_of_ble_eq_true rfl, Nat.le_of_ble_eq_true rfl, Nat.le_of_ble_eq_true rfl, Nat.le_of_ble_eq_true rfl⟩ (fun E2 M2 x2 => GX_out F Rt ?_ (Nat.le_of_ble_eq_true rfl) (Nat.le_of_ble_eq_true rfl)) (fun v2 M2 h2 => ?_)
  · exact ⟨x2.2.1, Or.inl ⟨x2.1, x2.2.2⟩⟩
  rw [h2.1, h2.2.1]
  simp only [Option.toList_none, List.nil_append]
  have hp2 := h2.2.2
  obtain ⟨x, hx1, hx2⟩ := pin_spec hN16 hp2
  subst hx2
  refine G_aload_n F dX7_invert_5 rfl ?_
  refine G_getr F fl_X7_12 dX7_invert_6 rfl rfl ?_
  refine G_getr F fl_X7_99 dX7_invert_9 rfl rfl ?_
  refine G_iload_n F dX7_invert_12 rfl ?_
  refine G_ialdN F dX7_invert_13 rfl (by omega) (by decide) ?_
  refine G_iconst (v := 1) F dX7_invert_14 rfl ?_
  refine G_icmp_eq (tgt := 28) F dX7_invert_15 (by decide) (fun h15 => ?_) (fun h15 => ?_)
  · refine G_aload_n F dX7_invert_28 rfl ?_
    refine G_getr F fl_X7_12 dX7_invert_29 rfl rfl ?_
    refine G_iload_n F dX7_invert_32 rfl ?_
    refine G_vv F mv_X7_107 dX7_invert_33 (s_swapTargets hl ad sw tl M (b := x) (by omega)) rfl rfl rfl rfl (Nat.le_of_ble_eq_true rfl) ⟨Nat.le_of_ble_eq_true rfl, Nat.le_of_ble_eq_true rfl, Nat.le_of_ble_eq_true rfl, Nat.le_of_ble_eq_true rfl⟩ (fun M33 h33 => ?_)
    rw [h33]
    refine G_aload_n F dX7_invert_36 rfl ?_
    refine G_getr F fl_X7_12 dX7_invert_37 rfl rfl ?_
    refine G_getr F fl_X7_110 dX7_invert_40 rfl rfl ?_
    refine G_iload_n F dX7_invert_43 rfl ?_
    refine G_ialdN F dX7_invert_44 rfl (by omega) (by decide) ?_
    refine G_iret F Rt dX7_invert_45 (rfl) ⟨rfl, rfl, _, rfl, ?_⟩ (Nat.le_of_ble_eq_true rfl) (Nat.le_of_ble_eq_true rfl)
    refine ⟨x, hx1, rfl, h15, ?_, rfl⟩
    simp [m_sw, fx_u_at]
  · refine G_throwS F Rt (cls := "java/lang/UnsupportedOperationException") (text := "the end has no condition") nmsR dX7_invert_18 dX7_invert_21 dX7_invert_22 dX7_invert_24 dX7_invert_27 fit_UOE nmsR_fit (fx_in 762 (by decide +kernel) rfl) (fx_in 141 (by decide +kernel) rfl) (List.mem_of_getElem? (i := 4) rfl) at_UOE ⟨Nat.le_of_ble_eq_true rfl, Nat.le_of_ble_eq_true rfl, Nat.le_of_ble_eq_true rfl, Nat.le_of_ble_eq_true rfl⟩ ?_ (Nat.le_of_ble_eq_true rfl) (Nat.le_of_ble_eq_true rfl)
    exact ⟨rfl, Or.inr ⟨rfl, x, hx1, rfl, h15⟩⟩
set_option maxRecDepth 20000 in
theorem s_block {l : Launch} {Z : fx_Z} (hl : l.stackTraces = false) (ad : Nat → Nat) (sw : Bool) (tl : List fx_Sh) (M : fx_M) {N : Nat} (b w : Int32) (hN : M 1 8 = nI N) (hN16 : N ≤ 16) : CA l Z yX7_block (.code yX7_block cX7_block 3 (some .int)) 2 [.ref (ad 0), .int b, .int w] ad (c_C sw ++ tl) M (fun r m => ∃ x, x < N ∧ b = nI x ∧ m = M ∧ ((w = 0 ∧ r = M 2 x) ∨ (w = 1 ∧ r = M 3 x) ∨ (w = 2 ∧ r = M 4 x) ∨ (w = 3 ∧ r = M 5 x) ∨ (w = 4 ∧ r = M 7 x) ∨ (w = 5 ∧ r = M 8 x) ∨ (w = 6 ∧ r = M 9 x) ∨ (w = 7 ∧ r = (if bt (M 1 9) x then 1 else 0)))) (fun E m => m = M ∧ ((E = xIO ∧ pin N b = false) ∨ (E = xIA ∧ pin N b = true ∧ ¬ (0 ≤ w ∧ w ≤ 7)))) := by
  refine CT_of (ret := (some .int)) (lv0 := [some (.ref (ad 0)), some (.int b), some (.int w)]) (by decide +kernel) hl (by simp [Value.category]) (Nat.le_of_ble_eq_true rfl) rfl ?_
  intro X F Rt _
  refine G_aload_n F dX7_block_0 rfl ?_
  refine G_iload_n F dX7_block_1 rfl ?_
  refine G_qV F mv_X7_84 dX7_block_2 (s_checkBlock hl ad sw tl M b hN) rfl rfl rfl rfl (Nat.le_of_ble_eq_true rfl) ⟨Nat.le_of_ble_eq_true rfl, Nat.le_of_ble_eq_true rfl, Nat.le_of_ble_eq_true rfl, Nat.le_of_ble_eq_true rfl⟩ (fun E2 M2 x2 => GX_out F Rt ?_ (Nat.le_of_ble_eq_true rfl) (Nat.le_of_ble_eq_true rfl)) (fun v2 M2 h2 => ?_)
  · exact ⟨x2.2.1, Or.inl ⟨x2.1, x2.2.2⟩⟩
  rw [h2.1, h2.2.1]
  simp only [Option.toList_none, List.nil_append]
  have hp2 := h2.2.2
  obtain ⟨x, hx1, hx2⟩ := pin_spec hN16 hp2
  subst hx2
  refine G_iload_n F dX7_block_5 rfl ?_
  by_cases c6_0 : w = 0
  · subst c6_0
    refine G_tableIn (tgt := 52) (off := 46) F dX7_block_6 (by decide) (by decide) (by decide) (by decide) ?_
    refine G_aload_n F dX7_block_52 rfl ?_
    refine G_getr F fl_X7_12 dX7_block_53 rfl rfl ?_
    refine G_getr F fl_X7_89 dX7_block_56 rfl rfl ?_
    refine G_iload_n F dX7_block_59 rfl ?_
    refine G_ialdN F dX7_block_60 rfl (by omega) (by decide) ?_
    refine G_iret F Rt dX7_block_61 (rfl) ⟨rfl, rfl, _, rfl, ?_⟩ (Nat.le_of_ble_eq_true rfl) (Nat.le_of_ble_eq_true rfl)
    exact ⟨x, hx1, rfl, rfl, by simp⟩
  by_cases c6_1 : w = 1
  · subst c6_1
    refine G_tableIn (tgt := 62) (off := 56) F dX7_block_6 (by decide) (by decide) (by decide) (by decide) ?_
    refine G_aload_n F dX7_block_62 rfl ?_
    refine G_getr F fl_X7_12 dX7_block_63 rfl rfl ?_
    refine G_getr F fl_X7_99 dX7_block_66 rfl rfl ?_
    refine G_iload_n F dX7_block_69 rfl ?_
    refine G_ialdN F dX7_block_70 rfl (by omega) (by decide) ?_
    refine G_iret F Rt dX7_block_71 (rfl) ⟨rfl, rfl, _, rfl, ?_⟩ (Nat.le_of_ble_eq_true rfl) (Nat.le_of_ble_eq_true rfl)
    exact ⟨x, hx1, rfl, rfl, by simp⟩
  by_cases c6_2 : w = 2
  · subst c6_2
    refine G_tableIn (tgt := 72) (off := 66) F dX7_block_6 (by decide) (by decide) (by decide) (by decide) ?_
    refine G_aload_n F dX7_block_72 rfl ?_
    refine G_getr F fl_X7_12 dX7_block_73 rfl rfl ?_
    refine G_getr F fl_X7_110 dX7_block_76 rfl rfl ?_
    refine G_iload_n F dX7_block_79 rfl ?_
    refine G_ialdN F dX7_block_80 rfl (by omega) (by decide) ?_
    refine G_iret F Rt dX7_block_81 (rfl) ⟨rfl, rfl, _, rfl, ?_⟩ (Nat.le_of_ble_eq_true rfl) (Nat.le_of_ble_eq_true rfl)
    exact ⟨x, hx1, rfl, rfl, by simp⟩
  by_cases c6_3 : w = 3
  · subst c6_3
    refine G_tableIn (tgt := 82) (off := 76) F dX7_block_6 (by decide) (by decide) (by decide) (by decide) ?_
    refine G_aload_n F dX7_block_82 rfl ?_
    refine G_getr F fl_X7_12 dX7_block_83 rfl rfl ?_
    refine G_getr F fl_X7_113 dX7_block_86 rfl rfl ?_
    refine G_iload_n F dX7_block_89 rfl ?_
    refine G_ialdN F dX7_block_90 rfl (by omega) (by decide) ?_
    refine G_iret F Rt dX7_block_91 (rfl) ⟨rfl, rfl, _, rfl, ?_⟩ (Nat.le_of_ble_eq_true rfl) (Nat.le_of_ble_eq_true rfl)
    exact ⟨x, hx1, rfl, rfl, by simp⟩
  by_cases c6_4 : w = 4
  · subst c6_4
    refine G_tableIn (tgt := 92) (off := 86) F dX7_block_6 (by decide) (by decide) (by decide) (by decide) ?_
    refine G_aload_n F dX7_block_92 rfl ?_
    refine G_getr F fl_X7_12 dX7_block_93 rfl rfl ?_
    refine G_getr F fl_X7_116 dX7_block_96 rfl rfl ?_
    refine G_iload_n F dX7_block_99 rfl ?_
    refine G_ialdN F dX7_block_100 rfl (by omega) (by decide) ?_
    refine G_iret F Rt dX7_block_101 (rfl) ⟨rfl, rfl, _, rfl, ?_⟩ (Nat.le_of_ble_eq_true rfl) (Nat.le_of_ble_eq_true rfl)
    exact ⟨x, hx1, rfl, rfl, by simp⟩
  by_cases c6_5 : w = 5
  · subst c6_5
    refine G_tableIn (tgt := 102) (off := 96) F dX7_block_6 (by decide) (by decide) (by decide) (by decide) ?_
    refine G_aload_n F dX7_block_102 rfl ?_
    refine G_getr F fl_X7_12 dX7_block_103 rfl rfl ?_
    refine G_getr F fl_X7_119 dX7_block_106 rfl rfl ?_
    refine G_iload_n F dX7_block_109 rfl ?_
    refine G_ialdN F dX7_block_110 rfl (by omega) (by decide) ?_
    refine G_iret F Rt dX7_block_111 (rfl) ⟨rfl, rfl, _, rfl, ?_⟩ (Nat.le_of_ble_eq_true rfl) (Nat.le_of_ble_eq_true rfl)
    exact ⟨x, hx1, rfl, rfl, by simp⟩
  by_cases c6_6 : w = 6
  · subst c6_6
    refine G_tableIn (tgt := 112) (off := 106) F dX7_block_6 (by decide) (by decide) (by decide) (by decide) ?_
    refine G_aload_n F dX7_block_112 rfl ?_
    refine G_getr F fl_X7_12 dX7_block_113 rfl rfl ?_
    refine G_getr F fl_X7_122 dX7_block_116 rfl rfl ?_
    refine G_iload_n F dX7_block_119 rfl ?_
    refine G_ialdN F dX7_block_120 rfl (by omega) (by decide) ?_
    refine G_iret F Rt dX7_block_121 (rfl) ⟨rfl, rfl, _, rfl, ?_⟩ (Nat.le_of_ble_eq_true rfl) (Nat.le_of_ble_eq_true rfl)
    exact ⟨x, hx1, rfl, rfl, by simp⟩
  by_cases c6_7 : w = 7
  · subst c6_7
    refine G_tableIn (tgt := 122) (off := 116) F dX7_block_6 (by decide) (by decide) (by decide) (by decide) ?_
    refine G_aload_n F dX7_block_122 rfl ?_
    refine G_getr F fl_X7_12 dX7_block_123 rfl rfl ?_
    refine G_iload_n F dX7_block_126 rfl ?_
    refine G_vI F mv_X7_125 dX7_block_127 (s_isHead hl ad sw tl M (b := x) (by omega)) rfl rfl rfl rfl (Nat.le_of_ble_eq_true rfl) ⟨Nat.le_of_ble_eq_true rfl, Nat.le_of_ble_eq_true rfl, Nat.le_of_ble_eq_true rfl, Nat.le_of_ble_eq_true rfl⟩ (fun r127 M127 h127 => ?_)
    rw [h127.1, h127.2]
    refine G_if_eq (tgt := 137) F dX7_block_130 (by decide) (fun h130 => ?_) (fun h130 => ?_)
    · have b130 : bt (M 1 9) x = false := by simpa using h130
      refine G_iconst (v := 0) F dX7_block_137 rfl ?_
      refine G_iret F Rt dX7_block_138 (rfl) ⟨rfl, rfl, _, rfl, ?_⟩ (Nat.le_of_ble_eq_true rfl) (Nat.le_of_ble_eq_true rfl)
      exact ⟨x, hx1, rfl, rfl, by simp [b130]⟩
    · have b130 : bt (M 1 9) x = true := by simpa using h130
      refine G_iconst (v := 1) F dX7_block_133 rfl ?_
      refine G_goto (tgt := 138) F dX7_block_134 (by decide) ?_
      refine G_iret F Rt dX7_block_138 (rfl) ⟨rfl, rfl, _, rfl, ?_⟩ (Nat.le_of_ble_eq_true rfl) (Nat.le_of_ble_eq_true rfl)
      exact ⟨x, hx1, rfl, rfl, by simp [b130]⟩
  refine G_tableOut (tgt := 139) F dX7_block_6 (by
    have u0 : w.toInt ≠ 0 := fun q => c6_0 (Int32.toInt_inj.mp (q.trans (by decide)))
    have u1 : w.toInt ≠ 1 := fun q => c6_1 (Int32.toInt_inj.mp (q.trans (by decide)))
    have u2 : w.toInt ≠ 2 := fun q => c6_2 (Int32.toInt_inj.mp (q.trans (by decide)))
    have u3 : w.toInt ≠ 3 := fun q => c6_3 (Int32.toInt_inj.mp (q.trans (by decide)))
    have u4 : w.toInt ≠ 4 := fun q => c6_4 (Int32.toInt_inj.mp (q.trans (by decide)))
    have u5 : w.toInt ≠ 5 := fun q => c6_5 (Int32.toInt_inj.mp (q.trans (by decide)))
    have u6 : w.toInt ≠ 6 := fun q => c6_6 (Int32.toInt_inj.mp (q.trans (by decide)))
    have u7 : w.toInt ≠ 7 := fun q => c6_7 (Int32.toInt_inj.mp (q.trans (by decide)))
    omega) (by decide) ?_
  refine G_throwS F Rt (cls := "java/lang/IllegalArgumentException") (text := "a block has no such property") nmsR dX7_block_139 dX7_block_142 dX7_block_143 dX7_block_145 dX7_block_148 fit_IAE nmsR_fit (fx_in 585 (by decide +kernel) rfl) (fx_in 137 (by decide +kernel) rfl) (List.mem_of_getElem? (i := 5) rfl) at_IAE ⟨Nat.le_of_ble_eq_true rfl, Nat.le_of_ble_eq_true rfl, Nat.le_of_ble_eq_true rfl, Nat.le_of_ble_eq_true rfl⟩ ?_ (Nat.le_of_ble_eq_true rfl) (Nat.le_of_ble_eq_true rfl)
  refine ⟨rfl, Or.inr ⟨rfl, hp2, fun q => ?_⟩⟩
  have e0 : (0 : Int32).toInt = 0 := by decide
  have e7 : (7 : Int32).toInt = 7 := by decide
  simp only [Int32.le_iff_toInt_le, e0, e7] at q
  have u0 : w.toInt ≠ 0 := fun q => c6_0 (Int32.toInt_inj.mp (q.trans (by decide)))
  have u1 : w.toInt ≠ 1 := fun q => c6_1 (Int32.toInt_inj.mp (q.trans (by decide)))
  have u2 : w.toInt ≠ 2 := fun q => c6_2 (Int32.toInt_inj.mp (q.trans (by decide)))
  have u3 : w.toInt ≠ 3 := fun q => c6_3 (Int32.toInt_inj.mp (q.trans (by decide)))
  have u4 : w.toInt ≠ 4 := fun q => c6_4 (Int32.toInt_inj.mp (q.trans (by decide)))
  have u5 : w.toInt ≠ 5 := fun q => c6_5 (Int32.toInt_inj.mp (q.trans (by decide)))
  have u6 : w.toInt ≠ 6 := fun q => c6_6 (Int32.toInt_inj.mp (q.trans (by decide)))
  have u7 : w.toInt ≠ 7 := fun q => c6_7 (Int32.toInt_inj.mp (q.trans (by decide)))
  omega
set_option maxRecDepth 20000 in
theorem s_pathLength {l : Launch} {Z : fx_Z} (hl : l.stackTraces = false) (ad : Nat → Nat) (sw : Bool) (tl : List fx_Sh) (M : fx_M)   : CA l Z yX7_pathLength (.code yX7_pathLength cX7_pathLength 1 (some .int)) 0 [.ref (ad 0)] ad (c_C sw ++ tl) M (fun r m => r = M 27 4 ∧ m = M) (fun E m => False) := by
  refine CT_of (ret := (some .int)) (lv0 := [some (.ref (ad 0))]) (by decide +kernel) hl (by simp [Value.category]) (Nat.le_of_ble_eq_true rfl) rfl ?_
  intro X F Rt _
  refine G_aload_n F dX7_pathLength_0 rfl ?_
  refine G_getr F fl_X7_44 dX7_pathLength_1 rfl rfl ?_
  refine G_geti F fl_X7_137 dX7_pathLength_4 rfl rfl ?_
  refine G_iret F Rt dX7_pathLength_7 (rfl) ⟨rfl, rfl, _, rfl, ?_⟩ (Nat.le_of_ble_eq_true rfl) (Nat.le_of_ble_eq_true rfl)
  exact ⟨rfl, rfl⟩
set_option maxRecDepth 20000 in
theorem s_pathBlock {l : Launch} {Z : fx_Z} (hl : l.stackTraces = false) (ad : Nat → Nat) (sw : Bool) (tl : List fx_Sh) (M : fx_M) {L : Nat} (i : Int32) (hL : M 27 4 = nI L) (hL5 : L ≤ 500) : CA l Z yX7_pathBlock (.code yX7_pathBlock cX7_pathBlock 2 (some .int)) 0 [.ref (ad 0), .int i] ad (c_C sw ++ tl) M (fun r m => ∃ j, j < L ∧ i = nI j ∧ r = M (cond sw 29 28) j ∧ m = M) (fun E m => m = M ∧ E = xIO ∧ pin L i = false) := by
  refine CT_of (ret := (some .int)) (lv0 := [some (.ref (ad 0)), some (.int i)]) (by decide +kernel) hl (by simp [Value.category]) (Nat.le_of_ble_eq_true rfl) rfl ?_
  intro X F Rt _
  refine G_iload_n F dX7_pathBlock_0 rfl ?_
  refine G_if_lt (tgt := 15) F dX7_pathBlock_1 (by decide) (fun h1 => ?_) (fun h1 => ?_)
  · refine G_throwS F Rt (cls := "java/lang/IndexOutOfBoundsException") (text := "so many blocks were not executed") nmsR dX7_pathBlock_15 dX7_pathBlock_18 dX7_pathBlock_19 dX7_pathBlock_21 dX7_pathBlock_24 fit_IOOBE nmsR_fit (fx_in 697 (by decide +kernel) rfl) (fx_in 138 (by decide +kernel) rfl) (List.mem_of_getElem? (i := 8) rfl) at_IOOBE ⟨Nat.le_of_ble_eq_true rfl, Nat.le_of_ble_eq_true rfl, Nat.le_of_ble_eq_true rfl, Nat.le_of_ble_eq_true rfl⟩ ?_ (Nat.le_of_ble_eq_true rfl) (Nat.le_of_ble_eq_true rfl)
    refine ⟨rfl, rfl, ?_⟩
    simp only [pin, decide_eq_false_iff_not]
    intro q
    obtain ⟨q1, q2⟩ := q
    simp only [Int32.lt_iff_toInt_lt, Int32.le_iff_toInt_le] at *
    omega
  · refine G_iload_n F dX7_pathBlock_4 rfl ?_
    refine G_aload_n F dX7_pathBlock_5 rfl ?_
    refine G_getr F fl_X7_44 dX7_pathBlock_6 rfl rfl ?_
    refine G_geti F fl_X7_137 dX7_pathBlock_9 rfl rfl ?_
    rw [hL]
    refine G_icmp_lt (tgt := 25) F dX7_pathBlock_12 (by decide) (fun h12 => ?_) (fun h12 => ?_)
    · have hi0 : ¬ i < 0 := h1
      obtain ⟨j, hj1, hj2⟩ := nI_of hi0
      subst hj2
      rw [nI_ltI hj1 (by omega)] at h12
      skip
      refine G_aload_n F dX7_pathBlock_25 rfl ?_
      refine G_getr F fl_X7_44 dX7_pathBlock_26 rfl rfl ?_
      refine G_getr F fl_X7_156 dX7_pathBlock_29 rfl rfl ?_
      refine G_iload_n F dX7_pathBlock_32 rfl ?_
      refine G_ialdN F dX7_pathBlock_33 (by cases sw <;> rfl) (by omega) (by decide) ?_
      refine G_iret F Rt dX7_pathBlock_34 (rfl) ⟨rfl, rfl, _, rfl, ?_⟩ (Nat.le_of_ble_eq_true rfl) (Nat.le_of_ble_eq_true rfl)
      exact ⟨j, h12, rfl, rfl, rfl⟩
    · refine G_throwS F Rt (cls := "java/lang/IndexOutOfBoundsException") (text := "so many blocks were not executed") nmsR dX7_pathBlock_15 dX7_pathBlock_18 dX7_pathBlock_19 dX7_pathBlock_21 dX7_pathBlock_24 fit_IOOBE nmsR_fit (fx_in 697 (by decide +kernel) rfl) (fx_in 138 (by decide +kernel) rfl) (List.mem_of_getElem? (i := 8) rfl) at_IOOBE ⟨Nat.le_of_ble_eq_true rfl, Nat.le_of_ble_eq_true rfl, Nat.le_of_ble_eq_true rfl, Nat.le_of_ble_eq_true rfl⟩ ?_ (Nat.le_of_ble_eq_true rfl) (Nat.le_of_ble_eq_true rfl)
      refine ⟨rfl, rfl, ?_⟩
      simp only [pin, decide_eq_false_iff_not]
      intro q
      obtain ⟨q1, q2⟩ := q
      simp only [Int32.lt_iff_toInt_lt, Int32.le_iff_toInt_le] at *
      omega
set_option maxRecDepth 20000 in
theorem s_clearProfile {l : Launch} {Z : fx_Z} (hl : l.stackTraces = false) (ad : Nat → Nat) (sw : Bool) (tl : List fx_Sh) (M : fx_M) {N : Nat} (hN : M 1 8 = nI N) (hN16 : N ≤ 16) : CA l Z yX7_clearProfile (.code yX7_clearProfile cX7_clearProfile 2 (some .int)) 1 [.ref (ad 0)] ad (c_C sw ++ tl) M (fun r m => r = sm (M 7) N ∧ fr [7, 8, 9] M m ∧ ∀ b, b < 16 → m 7 b = 0 ∧ m 8 b = 0 ∧ m 9 b = 0) (fun E m => False) := by
  refine CT_of (ret := (some .int)) (lv0 := [some (.ref (ad 0)), none]) (by decide +kernel) hl (by simp [Value.category]) (Nat.le_of_ble_eq_true rfl) rfl ?_
  intro X F Rt _
  refine G_aload_n F dX7_clearProfile_0 rfl ?_
  refine G_getr F fl_X7_12 dX7_clearProfile_1 rfl rfl ?_
  refine G_vI F mv_X7_159 dX7_clearProfile_4 (s_sumOfCounts hl ad sw tl M (N := N) hN hN16) rfl rfl rfl rfl (Nat.le_of_ble_eq_true rfl) ⟨Nat.le_of_ble_eq_true rfl, Nat.le_of_ble_eq_true rfl, Nat.le_of_ble_eq_true rfl, Nat.le_of_ble_eq_true rfl⟩ (fun r4 M4 h4 => ?_)
  rw [h4.1, h4.2]
  refine G_istore_n F 1 dX7_clearProfile_7 rfl rfl rfl (Nat.le_of_ble_eq_true rfl) ?_
  simp only [List.set_cons_zero, List.set_cons_succ]
  refine G_aload_n F dX7_clearProfile_8 rfl ?_
  refine G_getr F fl_X7_12 dX7_clearProfile_9 rfl rfl ?_
  refine G_vv F mv_X7_163 dX7_clearProfile_12 (s_forgetProfile hl ad sw tl M) rfl rfl rfl rfl (Nat.le_of_ble_eq_true rfl) ⟨Nat.le_of_ble_eq_true rfl, Nat.le_of_ble_eq_true rfl, Nat.le_of_ble_eq_true rfl, Nat.le_of_ble_eq_true rfl⟩ (fun M12 h12 => ?_)
  skip
  refine G_iload_n F dX7_clearProfile_15 rfl ?_
  refine G_iret F Rt dX7_clearProfile_16 (rfl) ⟨rfl, rfl, _, rfl, ?_⟩ (Nat.le_of_ble_eq_true rfl) (Nat.le_of_ble_eq_true rfl)
  exact ⟨rfl, h12.1, h12.2⟩
set_option maxRecDepth 20000 in
theorem s_setAlignment {l : Launch} {Z : fx_Z} (hl : l.stackTraces = false) (ad : Nat → Nat) (sw : Bool) (tl : List fx_Sh) (M : fx_M) (a : Int32) {sl kp : Nat} (hsl : M 31 3 = nI sl) (hsl10 : sl < 10) (hkp0 : M 31 4 = nI kp) (hkp10 : kp ≤ 10) : CA l Z yX7_setAlignment (.code yX7_setAlignment cX7_setAlignment 4 (some .int)) 2 [.ref (ad 0), .int a] ad (c_C sw ++ tl) M (fun r m => (1 ≤ a ∧ a ≤ 32 ∧ a &&& (a - 1) = 0) ∧ r = M 10 2 ∧ ∃ m0, rmb sl kp M m0 ∧ m = fx_u m0 10 2 a) (fun E m => m = M ∧ E = xIA ∧ ¬ (1 ≤ a ∧ a ≤ 32 ∧ a &&& (a - 1) = 0)) := by
  refine CT_of (ret := (some .int)) (lv0 := [some (.ref (ad 0)), some (.int a), none, none]) (by decide +kernel) hl (by simp [Value.category]) (Nat.le_of_ble_eq_true rfl) rfl ?_
  intro X F Rt _
  refine G_iload_n F dX7_setAlignment_0 rfl ?_
  refine G_iconst (v := 1) F dX7_setAlignment_1 rfl ?_
  refine G_icmp_lt (tgt := 15) F dX7_setAlignment_2 (by decide) (fun h2 => ?_) (fun h2 => ?_)
  · refine G_iconst (v := 0) F dX7_setAlignment_15 rfl ?_
    refine G_istore_n F 2 dX7_setAlignment_16 rfl rfl rfl (Nat.le_of_ble_eq_true rfl) ?_
    simp only [List.set_cons_zero, List.set_cons_succ]
    refine G_iload_n F dX7_setAlignment_17 rfl ?_
    refine G_if_eq (tgt := 29) F dX7_setAlignment_18 (by decide) (fun h18 => ?_) (fun h18 => ?_)
    · skip
      refine G_throwS F Rt (cls := "java/lang/IllegalArgumentException") (text := "the alignment is not 1, 2, 4, 8, 16 or 32") nmsR dX7_setAlignment_29 dX7_setAlignment_32 dX7_setAlignment_33 dX7_setAlignment_35 dX7_setAlignment_38 fit_IAE nmsR_fit (fx_in 585 (by decide +kernel) rfl) (fx_in 137 (by decide +kernel) rfl) (List.mem_of_getElem? (i := 9) rfl) at_IAE ⟨Nat.le_of_ble_eq_true rfl, Nat.le_of_ble_eq_true rfl, Nat.le_of_ble_eq_true rfl, Nat.le_of_ble_eq_true rfl⟩ ?_ (Nat.le_of_ble_eq_true rfl) (Nat.le_of_ble_eq_true rfl)
      first
        | exact absurd rfl h18
        | exact (i10 h18).elim
        | (refine ⟨rfl, rfl, fun q => ?_⟩
           first
             | exact h26 q.2.2
             | (obtain ⟨q1, q2, -⟩ := q
                simp only [Int32.lt_iff_toInt_lt, Int32.le_iff_toInt_le] at *
                omega))
    · refine G_iload_n F dX7_setAlignment_21 rfl ?_
      refine G_iload_n F dX7_setAlignment_22 rfl ?_
      refine G_iconst (v := 1) F dX7_setAlignment_23 rfl ?_
      refine G_isub F dX7_setAlignment_24 ?_
      refine G_iand F dX7_setAlignment_25 ?_
      refine G_if_eq (tgt := 39) F dX7_setAlignment_26 (by decide) (fun h26 => ?_) (fun h26 => ?_)
      · refine G_aload_n F dX7_setAlignment_39 rfl ?_
        refine G_getr F fl_X7_51 dX7_setAlignment_40 rfl rfl ?_
        refine G_aload_n F dX7_setAlignment_43 rfl ?_
        refine G_getr F fl_X7_19 dX7_setAlignment_44 rfl rfl ?_
        refine G_vv F mv_X7_168 dX7_setAlignment_47 (s_remember hl ad sw tl M hsl hsl10 hkp0 hkp10) rfl rfl rfl rfl (Nat.le_of_ble_eq_true rfl) ⟨Nat.le_of_ble_eq_true rfl, Nat.le_of_ble_eq_true rfl, Nat.le_of_ble_eq_true rfl, Nat.le_of_ble_eq_true rfl⟩ (fun M47 h47 => ?_)
        skip
        refine G_aload_n F dX7_setAlignment_50 rfl ?_
        refine G_getr F fl_X7_19 dX7_setAlignment_51 rfl rfl ?_
        refine G_geti F fl_X7_140 dX7_setAlignment_54 rfl rfl ?_
        refine G_istore_n F 3 dX7_setAlignment_57 rfl rfl rfl (Nat.le_of_ble_eq_true rfl) ?_
        simp only [List.set_cons_zero, List.set_cons_succ]
        refine G_aload_n F dX7_setAlignment_58 rfl ?_
        refine G_getr F fl_X7_19 dX7_setAlignment_59 rfl rfl ?_
        refine G_iload_n F dX7_setAlignment_62 rfl ?_
        refine G_puti F fl_X7_140 dX7_setAlignment_63 rfl rfl rfl rfl ?_
        refine G_iload_n F dX7_setAlignment_66 rfl ?_
        refine G_iret F Rt dX7_setAlignment_67 (rfl) ⟨rfl, rfl, _, rfl, ?_⟩ (Nat.le_of_ble_eq_true rfl) (Nat.le_of_ble_eq_true rfl)
        first
          | exact absurd rfl h18
          | (refine ⟨⟨?_, ?_, h26⟩, ?_, M47, h47, rfl⟩
             · simp only [Int32.lt_iff_toInt_lt, Int32.le_iff_toInt_le] at *; omega
             · simp only [Int32.lt_iff_toInt_lt, Int32.le_iff_toInt_le] at *; omega
             · rw [h47.1 10 (by decide)])
      · refine G_throwS F Rt (cls := "java/lang/IllegalArgumentException") (text := "the alignment is not 1, 2, 4, 8, 16 or 32") nmsR dX7_setAlignment_29 dX7_setAlignment_32 dX7_setAlignment_33 dX7_setAlignment_35 dX7_setAlignment_38 fit_IAE nmsR_fit (fx_in 585 (by decide +kernel) rfl) (fx_in 137 (by decide +kernel) rfl) (List.mem_of_getElem? (i := 9) rfl) at_IAE ⟨Nat.le_of_ble_eq_true rfl, Nat.le_of_ble_eq_true rfl, Nat.le_of_ble_eq_true rfl, Nat.le_of_ble_eq_true rfl⟩ ?_ (Nat.le_of_ble_eq_true rfl) (Nat.le_of_ble_eq_true rfl)
        first
          | exact absurd rfl h18
          | exact (i10 h18).elim
          | (refine ⟨rfl, rfl, fun q => ?_⟩
             first
               | exact h26 q.2.2
               | (obtain ⟨q1, q2, -⟩ := q
                  simp only [Int32.lt_iff_toInt_lt, Int32.le_iff_toInt_le] at *
                  omega))
  · refine G_iload_n F dX7_setAlignment_5 rfl ?_
    refine G_bipush (v := 32) F dX7_setAlignment_6 rfl ?_
    refine G_icmp_gt (tgt := 15) F dX7_setAlignment_8 (by decide) (fun h8 => ?_) (fun h8 => ?_)
    · refine G_iconst (v := 0) F dX7_setAlignment_15 rfl ?_
      refine G_istore_n F 2 dX7_setAlignment_16 rfl rfl rfl (Nat.le_of_ble_eq_true rfl) ?_
      simp only [List.set_cons_zero, List.set_cons_succ]
      refine G_iload_n F dX7_setAlignment_17 rfl ?_
      refine G_if_eq (tgt := 29) F dX7_setAlignment_18 (by decide) (fun h18 => ?_) (fun h18 => ?_)
      · skip
        refine G_throwS F Rt (cls := "java/lang/IllegalArgumentException") (text := "the alignment is not 1, 2, 4, 8, 16 or 32") nmsR dX7_setAlignment_29 dX7_setAlignment_32 dX7_setAlignment_33 dX7_setAlignment_35 dX7_setAlignment_38 fit_IAE nmsR_fit (fx_in 585 (by decide +kernel) rfl) (fx_in 137 (by decide +kernel) rfl) (List.mem_of_getElem? (i := 9) rfl) at_IAE ⟨Nat.le_of_ble_eq_true rfl, Nat.le_of_ble_eq_true rfl, Nat.le_of_ble_eq_true rfl, Nat.le_of_ble_eq_true rfl⟩ ?_ (Nat.le_of_ble_eq_true rfl) (Nat.le_of_ble_eq_true rfl)
        first
          | exact absurd rfl h18
          | exact (i10 h18).elim
          | (refine ⟨rfl, rfl, fun q => ?_⟩
             first
               | exact h26 q.2.2
               | (obtain ⟨q1, q2, -⟩ := q
                  simp only [Int32.lt_iff_toInt_lt, Int32.le_iff_toInt_le] at *
                  omega))
      · refine G_iload_n F dX7_setAlignment_21 rfl ?_
        refine G_iload_n F dX7_setAlignment_22 rfl ?_
        refine G_iconst (v := 1) F dX7_setAlignment_23 rfl ?_
        refine G_isub F dX7_setAlignment_24 ?_
        refine G_iand F dX7_setAlignment_25 ?_
        refine G_if_eq (tgt := 39) F dX7_setAlignment_26 (by decide) (fun h26 => ?_) (fun h26 => ?_)
        · refine G_aload_n F dX7_setAlignment_39 rfl ?_
          refine G_getr F fl_X7_51 dX7_setAlignment_40 rfl rfl ?_
          refine G_aload_n F dX7_setAlignment_43 rfl ?_
          refine G_getr F fl_X7_19 dX7_setAlignment_44 rfl rfl ?_
          refine G_vv F mv_X7_168 dX7_setAlignment_47 (s_remember hl ad sw tl M hsl hsl10 hkp0 hkp10) rfl rfl rfl rfl (Nat.le_of_ble_eq_true rfl) ⟨Nat.le_of_ble_eq_true rfl, Nat.le_of_ble_eq_true rfl, Nat.le_of_ble_eq_true rfl, Nat.le_of_ble_eq_true rfl⟩ (fun M47 h47 => ?_)
          skip
          refine G_aload_n F dX7_setAlignment_50 rfl ?_
          refine G_getr F fl_X7_19 dX7_setAlignment_51 rfl rfl ?_
          refine G_geti F fl_X7_140 dX7_setAlignment_54 rfl rfl ?_
          refine G_istore_n F 3 dX7_setAlignment_57 rfl rfl rfl (Nat.le_of_ble_eq_true rfl) ?_
          simp only [List.set_cons_zero, List.set_cons_succ]
          refine G_aload_n F dX7_setAlignment_58 rfl ?_
          refine G_getr F fl_X7_19 dX7_setAlignment_59 rfl rfl ?_
          refine G_iload_n F dX7_setAlignment_62 rfl ?_
          refine G_puti F fl_X7_140 dX7_setAlignment_63 rfl rfl rfl rfl ?_
          refine G_iload_n F dX7_setAlignment_66 rfl ?_
          refine G_iret F Rt dX7_setAlignment_67 (rfl) ⟨rfl, rfl, _, rfl, ?_⟩ (Nat.le_of_ble_eq_true rfl) (Nat.le_of_ble_eq_true rfl)
          first
            | exact absurd rfl h18
            | (refine ⟨⟨?_, ?_, h26⟩, ?_, M47, h47, rfl⟩
               · simp only [Int32.lt_iff_toInt_lt, Int32.le_iff_toInt_le] at *; omega
               · simp only [Int32.lt_iff_toInt_lt, Int32.le_iff_toInt_le] at *; omega
               · rw [h47.1 10 (by decide)])
        · refine G_throwS F Rt (cls := "java/lang/IllegalArgumentException") (text := "the alignment is not 1, 2, 4, 8, 16 or 32") nmsR dX7_setAlignment_29 dX7_setAlignment_32 dX7_setAlignment_33 dX7_setAlignment_35 dX7_setAlignment_38 fit_IAE nmsR_fit (fx_in 585 (by decide +kernel) rfl) (fx_in 137 (by decide +kernel) rfl) (List.mem_of_getElem? (i := 9) rfl) at_IAE ⟨Nat.le_of_ble_eq_true rfl, Nat.le_of_ble_eq_true rfl, Nat.le_of_ble_eq_true rfl, Nat.le_of_ble_eq_true rfl⟩ ?_ (Nat.le_of_ble_eq_true rfl) (Nat.le_of_ble_eq_true rfl)
          first
            | exact absurd rfl h18
            | exact (i10 h18).elim
            | (refine ⟨rfl, rfl, fun q => ?_⟩
               first
                 | exact h26 q.2.2
                 | (obtain ⟨q1, q2, -⟩ := q
                    simp only [Int32.lt_iff_toInt_lt, Int32.le_iff_toInt_le] at *
                    omega))
    · refine G_iconst (v := 1) F dX7_setAlignment_11 rfl ?_
      refine G_goto (tgt := 16) F dX7_setAlignment_12 (by decide) ?_
      refine G_istore_n F 2 dX7_setAlignment_16 rfl rfl rfl (Nat.le_of_ble_eq_true rfl) ?_
      simp only [List.set_cons_zero, List.set_cons_succ]
      refine G_iload_n F dX7_setAlignment_17 rfl ?_
      refine G_if_eq (tgt := 29) F dX7_setAlignment_18 (by decide) (fun h18 => ?_) (fun h18 => ?_)
      · skip
        refine G_throwS F Rt (cls := "java/lang/IllegalArgumentException") (text := "the alignment is not 1, 2, 4, 8, 16 or 32") nmsR dX7_setAlignment_29 dX7_setAlignment_32 dX7_setAlignment_33 dX7_setAlignment_35 dX7_setAlignment_38 fit_IAE nmsR_fit (fx_in 585 (by decide +kernel) rfl) (fx_in 137 (by decide +kernel) rfl) (List.mem_of_getElem? (i := 9) rfl) at_IAE ⟨Nat.le_of_ble_eq_true rfl, Nat.le_of_ble_eq_true rfl, Nat.le_of_ble_eq_true rfl, Nat.le_of_ble_eq_true rfl⟩ ?_ (Nat.le_of_ble_eq_true rfl) (Nat.le_of_ble_eq_true rfl)
        first
          | exact absurd rfl h18
          | exact (i10 h18).elim
          | (refine ⟨rfl, rfl, fun q => ?_⟩
             first
               | exact h26 q.2.2
               | (obtain ⟨q1, q2, -⟩ := q
                  simp only [Int32.lt_iff_toInt_lt, Int32.le_iff_toInt_le] at *
                  omega))
      · refine G_iload_n F dX7_setAlignment_21 rfl ?_
        refine G_iload_n F dX7_setAlignment_22 rfl ?_
        refine G_iconst (v := 1) F dX7_setAlignment_23 rfl ?_
        refine G_isub F dX7_setAlignment_24 ?_
        refine G_iand F dX7_setAlignment_25 ?_
        refine G_if_eq (tgt := 39) F dX7_setAlignment_26 (by decide) (fun h26 => ?_) (fun h26 => ?_)
        · refine G_aload_n F dX7_setAlignment_39 rfl ?_
          refine G_getr F fl_X7_51 dX7_setAlignment_40 rfl rfl ?_
          refine G_aload_n F dX7_setAlignment_43 rfl ?_
          refine G_getr F fl_X7_19 dX7_setAlignment_44 rfl rfl ?_
          refine G_vv F mv_X7_168 dX7_setAlignment_47 (s_remember hl ad sw tl M hsl hsl10 hkp0 hkp10) rfl rfl rfl rfl (Nat.le_of_ble_eq_true rfl) ⟨Nat.le_of_ble_eq_true rfl, Nat.le_of_ble_eq_true rfl, Nat.le_of_ble_eq_true rfl, Nat.le_of_ble_eq_true rfl⟩ (fun M47 h47 => ?_)
          skip
          refine G_aload_n F dX7_setAlignment_50 rfl ?_
          refine G_getr F fl_X7_19 dX7_setAlignment_51 rfl rfl ?_
          refine G_geti F fl_X7_140 dX7_setAlignment_54 rfl rfl ?_
          refine G_istore_n F 3 dX7_setAlignment_57 rfl rfl rfl (Nat.le_of_ble_eq_true rfl) ?_
          simp only [List.set_cons_zero, List.set_cons_succ]
          refine G_aload_n F dX7_setAlignment_58 rfl ?_
          refine G_getr F fl_X7_19 dX7_setAlignment_59 rfl rfl ?_
          refine G_iload_n F dX7_setAlignment_62 rfl ?_
          refine G_puti F fl_X7_140 dX7_setAlignment_63 rfl rfl rfl rfl ?_
          refine G_iload_n F dX7_setAlignment_66 rfl ?_
          refine G_iret F Rt dX7_setAlignment_67 (rfl) ⟨rfl, rfl, _, rfl, ?_⟩ (Nat.le_of_ble_eq_true rfl) (Nat.le_of_ble_eq_true rfl)
          first
            | exact absurd rfl h18
            | (refine ⟨⟨?_, ?_, h26⟩, ?_, M47, h47, rfl⟩
               · simp only [Int32.lt_iff_toInt_lt, Int32.le_iff_toInt_le] at *; omega
               · simp only [Int32.lt_iff_toInt_lt, Int32.le_iff_toInt_le] at *; omega
               · rw [h47.1 10 (by decide)])
        · refine G_throwS F Rt (cls := "java/lang/IllegalArgumentException") (text := "the alignment is not 1, 2, 4, 8, 16 or 32") nmsR dX7_setAlignment_29 dX7_setAlignment_32 dX7_setAlignment_33 dX7_setAlignment_35 dX7_setAlignment_38 fit_IAE nmsR_fit (fx_in 585 (by decide +kernel) rfl) (fx_in 137 (by decide +kernel) rfl) (List.mem_of_getElem? (i := 9) rfl) at_IAE ⟨Nat.le_of_ble_eq_true rfl, Nat.le_of_ble_eq_true rfl, Nat.le_of_ble_eq_true rfl, Nat.le_of_ble_eq_true rfl⟩ ?_ (Nat.le_of_ble_eq_true rfl) (Nat.le_of_ble_eq_true rfl)
          first
            | exact absurd rfl h18
            | exact (i10 h18).elim
            | (refine ⟨rfl, rfl, fun q => ?_⟩
               first
                 | exact h26 q.2.2
                 | (obtain ⟨q1, q2, -⟩ := q
                    simp only [Int32.lt_iff_toInt_lt, Int32.le_iff_toInt_le] at *
                    omega))
set_option maxRecDepth 20000 in
theorem s_setLoopLimit {l : Launch} {Z : fx_Z} (hl : l.stackTraces = false) (ad : Nat → Nat) (sw : Bool) (tl : List fx_Sh) (M : fx_M) (v : Int32)  : CA l Z yX7_setLoopLimit (.code yX7_setLoopLimit cX7_setLoopLimit 3 (some .int)) 0 [.ref (ad 0), .int v] ad (c_C sw ++ tl) M (fun r m => (0 ≤ v ∧ v ≤ 9999) ∧ r = M 0 7 ∧ m = fx_u M 0 7 v) (fun E m => m = M ∧ E = xIA ∧ ¬ (0 ≤ v ∧ v ≤ 9999)) := by
  refine CT_of (ret := (some .int)) (lv0 := [some (.ref (ad 0)), some (.int v), none]) (by decide +kernel) hl (by simp [Value.category]) (Nat.le_of_ble_eq_true rfl) rfl ?_
  intro X F Rt _
  refine G_iload_n F dX7_setLoopLimit_0 rfl ?_
  refine G_if_lt (tgt := 11) F dX7_setLoopLimit_1 (by decide) (fun h1 => ?_) (fun h1 => ?_)
  · refine G_throwS F Rt (cls := "java/lang/IllegalArgumentException") (text := "the loop limit is not from 0 to 9999") nmsR dX7_setLoopLimit_11 dX7_setLoopLimit_14 dX7_setLoopLimit_15 dX7_setLoopLimit_17 dX7_setLoopLimit_20 fit_IAE nmsR_fit (fx_in 585 (by decide +kernel) rfl) (fx_in 137 (by decide +kernel) rfl) (List.mem_of_getElem? (i := 10) rfl) at_IAE ⟨Nat.le_of_ble_eq_true rfl, Nat.le_of_ble_eq_true rfl, Nat.le_of_ble_eq_true rfl, Nat.le_of_ble_eq_true rfl⟩ ?_ (Nat.le_of_ble_eq_true rfl) (Nat.le_of_ble_eq_true rfl)
    refine ⟨rfl, rfl, ?_⟩
    simp only [Int32.lt_iff_toInt_lt, Int32.le_iff_toInt_le] at *
    omega
  · refine G_iload_n F dX7_setLoopLimit_4 rfl ?_
    refine G_sipush (v := 9999) F dX7_setLoopLimit_5 rfl ?_
    refine G_icmp_le (tgt := 21) F dX7_setLoopLimit_8 (by decide) (fun h8 => ?_) (fun h8 => ?_)
    · refine G_aload_n F dX7_setLoopLimit_21 rfl ?_
      refine G_geti F fl_X7_62 dX7_setLoopLimit_22 rfl rfl ?_
      refine G_istore_n F 2 dX7_setLoopLimit_25 rfl rfl rfl (Nat.le_of_ble_eq_true rfl) ?_
      simp only [List.set_cons_zero, List.set_cons_succ]
      refine G_aload_n F dX7_setLoopLimit_26 rfl ?_
      refine G_iload_n F dX7_setLoopLimit_27 rfl ?_
      refine G_puti F fl_X7_62 dX7_setLoopLimit_28 rfl rfl rfl rfl ?_
      refine G_iload_n F dX7_setLoopLimit_31 rfl ?_
      refine G_iret F Rt dX7_setLoopLimit_32 (rfl) ⟨rfl, rfl, _, rfl, ?_⟩ (Nat.le_of_ble_eq_true rfl) (Nat.le_of_ble_eq_true rfl)
      refine ⟨?_, rfl, rfl⟩
      simp only [Int32.lt_iff_toInt_lt, Int32.le_iff_toInt_le] at *
      omega
    · refine G_throwS F Rt (cls := "java/lang/IllegalArgumentException") (text := "the loop limit is not from 0 to 9999") nmsR dX7_setLoopLimit_11 dX7_setLoopLimit_14 dX7_setLoopLimit_15 dX7_setLoopLimit_17 dX7_setLoopLimit_20 fit_IAE nmsR_fit (fx_in 585 (by decide +kernel) rfl) (fx_in 137 (by decide +kernel) rfl) (List.mem_of_getElem? (i := 10) rfl) at_IAE ⟨Nat.le_of_ble_eq_true rfl, Nat.le_of_ble_eq_true rfl, Nat.le_of_ble_eq_true rfl, Nat.le_of_ble_eq_true rfl⟩ ?_ (Nat.le_of_ble_eq_true rfl) (Nat.le_of_ble_eq_true rfl)
      refine ⟨rfl, rfl, ?_⟩
      simp only [Int32.lt_iff_toInt_lt, Int32.le_iff_toInt_le] at *
      omega
set_option maxRecDepth 20000 in
theorem s_exchange {l : Launch} {Z : fx_Z} (hl : l.stackTraces = false) (ad : Nat → Nat) (sw : Bool) (tl : List fx_Sh) (M : fx_M) {N : Nat} (i j : Int32) (hN : M 1 8 = nI N) (hN16 : N ≤ 16) {sl kp : Nat} (hsl : M 31 3 = nI sl) (hsl10 : sl < 10) (hkp0 : M 31 4 = nI kp) (hkp10 : kp ≤ 10) : CA l Z yX7_exchange (.code yX7_exchange cX7_exchange 4 (some .int)) 2 [.ref (ad 0), .int i, .int j] ad (c_C sw ++ tl) M (fun r m => ∃ x y, x < N ∧ y < N ∧ i = nI x ∧ j = nI y ∧ x ≠ 0 ∧ y ≠ 0 ∧ ∃ m0, rmb sl kp M m0 ∧ m = fx_u (fx_u m0 11 x (m0 11 y)) 11 y (m0 11 x) ∧ r = m 11 x) (fun E m => m = M ∧ ((E = xIO ∧ (pin N i && pin N j) = false) ∨ (E = xIA ∧ (pin N i && pin N j) = true ∧ (i = 0 ∨ j = 0)))) := by
  refine CT_of (ret := (some .int)) (lv0 := [some (.ref (ad 0)), some (.int i), some (.int j), none]) (by decide +kernel) hl (by simp [Value.category]) (Nat.le_of_ble_eq_true rfl) rfl ?_
  intro X F Rt _
  refine G_aload_n F dX7_exchange_0 rfl ?_
  refine G_iload_n F dX7_exchange_1 rfl ?_
  refine G_qV F mv_X7_199 dX7_exchange_2 (s_checkPosition hl ad sw tl M i hN) rfl rfl rfl rfl (Nat.le_of_ble_eq_true rfl) ⟨Nat.le_of_ble_eq_true rfl, Nat.le_of_ble_eq_true rfl, Nat.le_of_ble_eq_true rfl, Nat.le_of_ble_eq_true rfl⟩ (fun E2 M2 x2 => GX_out F Rt ?_ (Nat.le_of_ble_eq_true rfl) (Nat.le_of_ble_eq_true rfl)) (fun v2 M2 h2 => ?_)
  · exact ⟨x2.2.1, Or.inl ⟨x2.1, by rw [x2.2.2]; rfl⟩⟩
  rw [h2.1, h2.2.1]
  simp only [Option.toList_none, List.nil_append]
  have hp2 := h2.2.2
  obtain ⟨x, hx1, hx2⟩ := pin_spec hN16 hp2
  subst hx2
  refine G_aload_n F dX7_exchange_5 rfl ?_
  refine G_iload_n F dX7_exchange_6 rfl ?_
  refine G_qV F mv_X7_199 dX7_exchange_7 (s_checkPosition hl ad sw tl M j hN) rfl rfl rfl rfl (Nat.le_of_ble_eq_true rfl) ⟨Nat.le_of_ble_eq_true rfl, Nat.le_of_ble_eq_true rfl, Nat.le_of_ble_eq_true rfl, Nat.le_of_ble_eq_true rfl⟩ (fun E7 M7 x7 => GX_out F Rt ?_ (Nat.le_of_ble_eq_true rfl) (Nat.le_of_ble_eq_true rfl)) (fun v7 M7 h7 => ?_)
  · exact ⟨x7.2.1, Or.inl ⟨x7.1, by rw [x7.2.2]; simp⟩⟩
  rw [h7.1, h7.2.1]
  simp only [Option.toList_none, List.nil_append]
  have hp7 := h7.2.2
  obtain ⟨y, hy1, hy2⟩ := pin_spec hN16 hp7
  subst hy2
  refine G_iload_n F dX7_exchange_10 rfl ?_
  refine G_if_eq (tgt := 18) F dX7_exchange_11 (by decide) (fun h11 => ?_) (fun h11 => ?_)
  · refine G_throwS F Rt (cls := "java/lang/IllegalArgumentException") (text := "block 0 stands first") nmsR dX7_exchange_18 dX7_exchange_21 dX7_exchange_22 dX7_exchange_24 dX7_exchange_27 fit_IAE nmsR_fit (fx_in 585 (by decide +kernel) rfl) (fx_in 137 (by decide +kernel) rfl) (List.mem_of_getElem? (i := 15) rfl) at_IAE ⟨Nat.le_of_ble_eq_true rfl, Nat.le_of_ble_eq_true rfl, Nat.le_of_ble_eq_true rfl, Nat.le_of_ble_eq_true rfl⟩ ?_ (Nat.le_of_ble_eq_true rfl) (Nat.le_of_ble_eq_true rfl)
    exact ⟨rfl, Or.inr ⟨rfl, by rw [hp2, hp7]; rfl, by first | exact Or.inl h11 | exact Or.inr h15⟩⟩
  · refine G_iload_n F dX7_exchange_14 rfl ?_
    refine G_if_ne (tgt := 28) F dX7_exchange_15 (by decide) (fun h15 => ?_) (fun h15 => ?_)
    · refine G_aload_n F dX7_exchange_28 rfl ?_
      refine G_getr F fl_X7_51 dX7_exchange_29 rfl rfl ?_
      refine G_aload_n F dX7_exchange_32 rfl ?_
      refine G_getr F fl_X7_19 dX7_exchange_33 rfl rfl ?_
      refine G_vv F mv_X7_168 dX7_exchange_36 (s_remember hl ad sw tl M hsl hsl10 hkp0 hkp10) rfl rfl rfl rfl (Nat.le_of_ble_eq_true rfl) ⟨Nat.le_of_ble_eq_true rfl, Nat.le_of_ble_eq_true rfl, Nat.le_of_ble_eq_true rfl, Nat.le_of_ble_eq_true rfl⟩ (fun M36 h36 => ?_)
      skip
      refine G_aload_n F dX7_exchange_39 rfl ?_
      refine G_getr F fl_X7_19 dX7_exchange_40 rfl rfl ?_
      refine G_getr F fl_X7_204 dX7_exchange_43 rfl rfl ?_
      refine G_iload_n F dX7_exchange_46 rfl ?_
      refine G_ialdN F dX7_exchange_47 rfl (by omega) (by decide) ?_
      refine G_istore_n F 3 dX7_exchange_48 rfl rfl rfl (Nat.le_of_ble_eq_true rfl) ?_
      simp only [List.set_cons_zero, List.set_cons_succ]
      refine G_aload_n F dX7_exchange_49 rfl ?_
      refine G_getr F fl_X7_19 dX7_exchange_50 rfl rfl ?_
      refine G_getr F fl_X7_204 dX7_exchange_53 rfl rfl ?_
      refine G_iload_n F dX7_exchange_56 rfl ?_
      refine G_aload_n F dX7_exchange_57 rfl ?_
      refine G_getr F fl_X7_19 dX7_exchange_58 rfl rfl ?_
      refine G_getr F fl_X7_204 dX7_exchange_61 rfl rfl ?_
      refine G_iload_n F dX7_exchange_64 rfl ?_
      refine G_ialdN F dX7_exchange_65 rfl (by omega) (by decide) ?_
      refine G_iastN F dX7_exchange_66 rfl (by omega) (by decide) ?_
      refine G_aload_n F dX7_exchange_67 rfl ?_
      refine G_getr F fl_X7_19 dX7_exchange_68 rfl rfl ?_
      refine G_getr F fl_X7_204 dX7_exchange_71 rfl rfl ?_
      refine G_iload_n F dX7_exchange_74 rfl ?_
      refine G_iload_n F dX7_exchange_75 rfl ?_
      refine G_iastN F dX7_exchange_76 rfl (by omega) (by decide) ?_
      refine G_aload_n F dX7_exchange_77 rfl ?_
      refine G_getr F fl_X7_19 dX7_exchange_78 rfl rfl ?_
      refine G_getr F fl_X7_204 dX7_exchange_81 rfl rfl ?_
      refine G_iload_n F dX7_exchange_84 rfl ?_
      refine G_ialdN F dX7_exchange_85 rfl (by omega) (by decide) ?_
      refine G_iret F Rt dX7_exchange_86 (rfl) ⟨rfl, rfl, _, rfl, ?_⟩ (Nat.le_of_ble_eq_true rfl) (Nat.le_of_ble_eq_true rfl)
      exact ⟨x, y, hx1, hy1, rfl, rfl, fun q => h11 (by rw [q]; rfl), fun q => h15 (by rw [q]; rfl), M36, h36, rfl, rfl⟩
    · refine G_throwS F Rt (cls := "java/lang/IllegalArgumentException") (text := "block 0 stands first") nmsR dX7_exchange_18 dX7_exchange_21 dX7_exchange_22 dX7_exchange_24 dX7_exchange_27 fit_IAE nmsR_fit (fx_in 585 (by decide +kernel) rfl) (fx_in 137 (by decide +kernel) rfl) (List.mem_of_getElem? (i := 15) rfl) at_IAE ⟨Nat.le_of_ble_eq_true rfl, Nat.le_of_ble_eq_true rfl, Nat.le_of_ble_eq_true rfl, Nat.le_of_ble_eq_true rfl⟩ ?_ (Nat.le_of_ble_eq_true rfl) (Nat.le_of_ble_eq_true rfl)
      exact ⟨rfl, Or.inr ⟨rfl, by rw [hp2, hp7]; rfl, by first | exact Or.inl h11 | exact Or.inr h15⟩⟩
set_option maxRecDepth 20000 in
theorem s_setHot {l : Launch} {Z : fx_Z} (hl : l.stackTraces = false) (ad : Nat → Nat) (sw : Bool) (tl : List fx_Sh) (M : fx_M) {N : Nat} (n : Int32) (hN : M 1 8 = nI N) {sl kp : Nat} (hsl : M 31 3 = nI sl) (hsl10 : sl < 10) (hkp0 : M 31 4 = nI kp) (hkp10 : kp ≤ 10) : CA l Z yX7_setHot (.code yX7_setHot cX7_setHot 3 (some .int)) 2 [.ref (ad 0), .int n] ad (c_C sw ++ tl) M (fun r m => (1 ≤ n ∧ n ≤ nI N) ∧ r = M 10 1 ∧ ∃ m0, rmb sl kp M m0 ∧ m = fx_u m0 10 1 n) (fun E m => m = M ∧ E = xIA ∧ ¬ (1 ≤ n ∧ n ≤ nI N)) := by
  refine CT_of (ret := (some .int)) (lv0 := [some (.ref (ad 0)), some (.int n), none]) (by decide +kernel) hl (by simp [Value.category]) (Nat.le_of_ble_eq_true rfl) rfl ?_
  intro X F Rt _
  refine G_iload_n F dX7_setHot_0 rfl ?_
  refine G_iconst (v := 1) F dX7_setHot_1 rfl ?_
  refine G_icmp_lt (tgt := 16) F dX7_setHot_2 (by decide) (fun h2 => ?_) (fun h2 => ?_)
  · refine G_throwS F Rt (cls := "java/lang/IllegalArgumentException") (text := "the number of hot blocks is not from 1 to that of all") nmsR dX7_setHot_16 dX7_setHot_19 dX7_setHot_20 dX7_setHot_22 dX7_setHot_25 fit_IAE nmsR_fit (fx_in 585 (by decide +kernel) rfl) (fx_in 137 (by decide +kernel) rfl) (List.mem_of_getElem? (i := 16) rfl) at_IAE ⟨Nat.le_of_ble_eq_true rfl, Nat.le_of_ble_eq_true rfl, Nat.le_of_ble_eq_true rfl, Nat.le_of_ble_eq_true rfl⟩ ?_ (Nat.le_of_ble_eq_true rfl) (Nat.le_of_ble_eq_true rfl)
    refine ⟨rfl, rfl, ?_⟩
    simp only [Int32.lt_iff_toInt_lt, Int32.le_iff_toInt_le] at *
    omega
  · refine G_iload_n F dX7_setHot_5 rfl ?_
    refine G_aload_n F dX7_setHot_6 rfl ?_
    refine G_getr F fl_X7_12 dX7_setHot_7 rfl rfl ?_
    refine G_geti F fl_X7_78 dX7_setHot_10 rfl rfl ?_
    rw [hN]
    refine G_icmp_le (tgt := 26) F dX7_setHot_13 (by decide) (fun h13 => ?_) (fun h13 => ?_)
    · refine G_aload_n F dX7_setHot_26 rfl ?_
      refine G_getr F fl_X7_51 dX7_setHot_27 rfl rfl ?_
      refine G_aload_n F dX7_setHot_30 rfl ?_
      refine G_getr F fl_X7_19 dX7_setHot_31 rfl rfl ?_
      refine G_vv F mv_X7_168 dX7_setHot_34 (s_remember hl ad sw tl M hsl hsl10 hkp0 hkp10) rfl rfl rfl rfl (Nat.le_of_ble_eq_true rfl) ⟨Nat.le_of_ble_eq_true rfl, Nat.le_of_ble_eq_true rfl, Nat.le_of_ble_eq_true rfl, Nat.le_of_ble_eq_true rfl⟩ (fun M34 h34 => ?_)
      skip
      refine G_aload_n F dX7_setHot_37 rfl ?_
      refine G_getr F fl_X7_19 dX7_setHot_38 rfl rfl ?_
      refine G_geti F fl_X7_192 dX7_setHot_41 rfl rfl ?_
      refine G_istore_n F 2 dX7_setHot_44 rfl rfl rfl (Nat.le_of_ble_eq_true rfl) ?_
      simp only [List.set_cons_zero, List.set_cons_succ]
      refine G_aload_n F dX7_setHot_45 rfl ?_
      refine G_getr F fl_X7_19 dX7_setHot_46 rfl rfl ?_
      refine G_iload_n F dX7_setHot_49 rfl ?_
      refine G_puti F fl_X7_192 dX7_setHot_50 rfl rfl rfl rfl ?_
      refine G_iload_n F dX7_setHot_53 rfl ?_
      refine G_iret F Rt dX7_setHot_54 (rfl) ⟨rfl, rfl, _, rfl, ?_⟩ (Nat.le_of_ble_eq_true rfl) (Nat.le_of_ble_eq_true rfl)
      refine ⟨by simp only [Int32.lt_iff_toInt_lt, Int32.le_iff_toInt_le] at *; omega, ?_, M34, h34, rfl⟩
      rw [h34.1 10 (by decide)]
    · refine G_throwS F Rt (cls := "java/lang/IllegalArgumentException") (text := "the number of hot blocks is not from 1 to that of all") nmsR dX7_setHot_16 dX7_setHot_19 dX7_setHot_20 dX7_setHot_22 dX7_setHot_25 fit_IAE nmsR_fit (fx_in 585 (by decide +kernel) rfl) (fx_in 137 (by decide +kernel) rfl) (List.mem_of_getElem? (i := 16) rfl) at_IAE ⟨Nat.le_of_ble_eq_true rfl, Nat.le_of_ble_eq_true rfl, Nat.le_of_ble_eq_true rfl, Nat.le_of_ble_eq_true rfl⟩ ?_ (Nat.le_of_ble_eq_true rfl) (Nat.le_of_ble_eq_true rfl)
      refine ⟨rfl, rfl, ?_⟩
      simp only [Int32.lt_iff_toInt_lt, Int32.le_iff_toInt_le] at *
      omega
set_option maxRecDepth 20000 in
theorem s_order {l : Launch} {Z : fx_Z} (hl : l.stackTraces = false) (ad : Nat → Nat) (sw : Bool) (tl : List fx_Sh) (M : fx_M) {N : Nat} (i : Int32) (hN : M 1 8 = nI N) (hN16 : N ≤ 16) : CA l Z yX7_order (.code yX7_order cX7_order 2 (some .int)) 2 [.ref (ad 0), .int i] ad (c_C sw ++ tl) M (fun r m => ∃ x, x < N ∧ i = nI x ∧ r = M 11 x ∧ m = M) (fun E m => m = M ∧ E = xIO ∧ pin N i = false) := by
  refine CT_of (ret := (some .int)) (lv0 := [some (.ref (ad 0)), some (.int i)]) (by decide +kernel) hl (by simp [Value.category]) (Nat.le_of_ble_eq_true rfl) rfl ?_
  intro X F Rt _
  refine G_aload_n F dX7_order_0 rfl ?_
  refine G_iload_n F dX7_order_1 rfl ?_
  refine G_qV F mv_X7_199 dX7_order_2 (s_checkPosition hl ad sw tl M i hN) rfl rfl rfl rfl (Nat.le_of_ble_eq_true rfl) ⟨Nat.le_of_ble_eq_true rfl, Nat.le_of_ble_eq_true rfl, Nat.le_of_ble_eq_true rfl, Nat.le_of_ble_eq_true rfl⟩ (fun E2 M2 x2 => GX_out F Rt ?_ (Nat.le_of_ble_eq_true rfl) (Nat.le_of_ble_eq_true rfl)) (fun v2 M2 h2 => ?_)
  · exact ⟨x2.2.1, x2.1, x2.2.2⟩
  rw [h2.1, h2.2.1]
  simp only [Option.toList_none, List.nil_append]
  have hp2 := h2.2.2
  obtain ⟨x, hx1, hx2⟩ := pin_spec hN16 hp2
  subst hx2
  refine G_aload_n F dX7_order_5 rfl ?_
  refine G_getr F fl_X7_19 dX7_order_6 rfl rfl ?_
  refine G_getr F fl_X7_204 dX7_order_9 rfl rfl ?_
  refine G_iload_n F dX7_order_12 rfl ?_
  refine G_ialdN F dX7_order_13 rfl (by omega) (by decide) ?_
  refine G_iret F Rt dX7_order_14 (rfl) ⟨rfl, rfl, _, rfl, ?_⟩ (Nat.le_of_ble_eq_true rfl) (Nat.le_of_ble_eq_true rfl)
  exact ⟨x, hx1, rfl, rfl, rfl⟩
set_option maxRecDepth 20000 in
theorem s_feed {l : Launch} {Z : fx_Z} (hl : l.stackTraces = false) (ad : Nat → Nat) (sw : Bool) (tl : List fx_Sh) (M : fx_M) (c : Int32) {len : Nat} (hl1 : M 35 1 = nI len) (hl60 : len ≤ 60) : CA l Z yX7_feed (.code yX7_feed cX7_feed 2 (some .int)) 1 [.ref (ad 0), .int c] ad (c_C sw ++ tl) M (fun r m => len < 60 ∧ r = nI (len + 1) ∧ m = fx_u (fx_u M 36 len (vp_nar .char c)) 35 1 (nI (len + 1))) (fun E m => m = M ∧ E = xIS ∧ len = 60) := by
  refine CT_of (ret := (some .int)) (lv0 := [some (.ref (ad 0)), some (.int c)]) (by decide +kernel) hl (by simp [Value.category]) (Nat.le_of_ble_eq_true rfl) rfl ?_
  intro X F Rt _
  refine G_aload_n F dX7_feed_0 rfl ?_
  refine G_getr F fl_X7_58 dX7_feed_1 rfl rfl ?_
  refine G_iload_n F dX7_feed_4 rfl ?_
  refine G_vI F mv_X7_256 dX7_feed_5 (s_inAppend hl ad sw tl M c hl1 hl60) rfl rfl rfl rfl (Nat.le_of_ble_eq_true rfl) ⟨Nat.le_of_ble_eq_true rfl, Nat.le_of_ble_eq_true rfl, Nat.le_of_ble_eq_true rfl, Nat.le_of_ble_eq_true rfl⟩ (fun r5 M5 h5 => ?_)
  rcases h5 with ⟨g1, g2, g3⟩ | ⟨g1, g2, g3⟩
  · rw [g2, g3]
    refine G_if_ne (tgt := 22) F dX7_feed_8 (by decide) (fun h8 => ?_) (fun h8 => ?_)
    · exact absurd rfl h8 --stop
    · skip
      refine G_throwSW F Rt (cls := "java/lang/IllegalStateException") (text := "the input has 60 characters") nmsR dX7_feed_11 dX7_feed_14 dX7_feed_15 dX7_feed_18 dX7_feed_21 fit_ISE nmsR_fit (fx_in 1052 (by decide +kernel) rfl) (fx_in 144 (by decide +kernel) rfl) (List.mem_of_getElem? (i := 19) rfl) at_ISE ⟨Nat.le_of_ble_eq_true rfl, Nat.le_of_ble_eq_true rfl, Nat.le_of_ble_eq_true rfl, Nat.le_of_ble_eq_true rfl⟩ ?_ (Nat.le_of_ble_eq_true rfl) (Nat.le_of_ble_eq_true rfl)
      exact ⟨rfl, rfl, g1⟩
  · rw [g2, g3]
    refine G_if_ne (tgt := 22) F dX7_feed_8 (by decide) (fun h8 => ?_) (fun h8 => ?_)
    · skip
      refine G_aload_n F dX7_feed_22 rfl ?_
      refine G_getr F fl_X7_58 dX7_feed_23 rfl rfl ?_
      refine G_geti F fl_X7_265 dX7_feed_26 rfl rfl ?_
      refine G_iret F Rt dX7_feed_29 (rfl) ⟨rfl, rfl, _, rfl, ?_⟩ (Nat.le_of_ble_eq_true rfl) (Nat.le_of_ble_eq_true rfl)
      exact ⟨g1, by simp [fx_u_at], rfl⟩
    · exact absurd h8 (by decide) --stop
set_option maxRecDepth 20000 in
theorem s_undo {l : Launch} {Z : fx_Z} (hl : l.stackTraces = false) (ad : Nat → Nat) (sw : Bool) (tl : List fx_Sh) (M : fx_M)  {q : Nat} {sl kp : Nat} (hq : (if sl = 0 then 9 else sl - 1) = q) (hsl : M 31 3 = nI sl) (hsl10 : sl < 10) (hkp0 : M 31 4 = nI kp) (hkp10 : kp ≤ 10) : CA l Z yX7_undo (.code yX7_undo cX7_undo 1 (some .int)) 1 [.ref (ad 0)] ad (c_C sw ++ tl) M (fun r m => 0 < kp ∧ r = nI (kp - 1) ∧ fr [10, 11, 31] M m ∧ m 31 3 = nI q ∧ m 31 4 = nI (kp - 1) ∧ (∀ j, m 11 j = if j < 16 then M 32 (q * 16 + j) else M 11 j) ∧ m 10 1 = M 33 q ∧ m 10 2 = M 34 q) (fun E m => m = M ∧ E = xNS ∧ kp = 0) := by
  refine CT_of (ret := (some .int)) (lv0 := [some (.ref (ad 0))]) (by decide +kernel) hl (by simp [Value.category]) (Nat.le_of_ble_eq_true rfl) rfl ?_
  intro X F Rt _
  refine G_aload_n F dX7_undo_0 rfl ?_
  refine G_getr F fl_X7_51 dX7_undo_1 rfl rfl ?_
  refine G_aload_n F dX7_undo_4 rfl ?_
  refine G_getr F fl_X7_19 dX7_undo_5 rfl rfl ?_
  refine G_vI F mv_X7_289 dX7_undo_8 (s_restore hl ad sw tl M hq hsl hsl10 hkp0 hkp10) rfl rfl rfl rfl (Nat.le_of_ble_eq_true rfl) ⟨Nat.le_of_ble_eq_true rfl, Nat.le_of_ble_eq_true rfl, Nat.le_of_ble_eq_true rfl, Nat.le_of_ble_eq_true rfl⟩ (fun r8 M8 h8 => ?_)
  rcases h8 with ⟨g1, g2, g3⟩ | ⟨g1, g2, g3⟩
  · rw [g2, g3]
    refine G_if_ne (tgt := 25) F dX7_undo_11 (by decide) (fun h11 => ?_) (fun h11 => ?_)
    · exact absurd rfl h11 --stop
    · skip
      refine G_throwXW F Rt (cls := "java/util/NoSuchElementException") (text := "there is no call to undo") nmsR rxN_0 rxN_1 rxN_2 rxN_5 dX7_undo_14 dX7_undo_17 dX7_undo_18 dX7_undo_21 dX7_undo_24 fit_NSEE nmsR_fit (fx_in 1180 (by decide +kernel) rfl) (fx_in 148 (by decide +kernel) rfl) (List.mem_of_getElem? (i := 21) rfl) at_NSEE ⟨Nat.le_of_ble_eq_true rfl, Nat.le_of_ble_eq_true rfl, Nat.le_of_ble_eq_true rfl, Nat.le_of_ble_eq_true rfl⟩ ?_ (Nat.le_of_ble_eq_true rfl) (Nat.le_of_ble_eq_true rfl)
      exact ⟨rfl, rfl, g1⟩
  · rw [g2]
    refine G_if_ne (tgt := 25) F dX7_undo_11 (by decide) (fun h11 => ?_) (fun h11 => ?_)
    · skip
      refine G_aload_n F dX7_undo_25 rfl ?_
      refine G_getr F fl_X7_51 dX7_undo_26 rfl rfl ?_
      refine G_geti F fl_X7_298 dX7_undo_29 rfl rfl ?_
      refine G_iret F Rt dX7_undo_32 (rfl) ⟨rfl, rfl, _, rfl, ?_⟩ (Nat.le_of_ble_eq_true rfl) (Nat.le_of_ble_eq_true rfl)
      exact ⟨g1, g3.2.2.1, g3⟩
    · exact absurd h11 (by decide) --stop
