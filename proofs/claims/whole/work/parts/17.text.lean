/-! TEXTS: String.length and charAt of constants, by the JDK's own code -/
theorem mv_X2_76 : fx_MV RX2 76 yJ0_length_8abf5 cJ0_length_8abf5 1 (some .int) 0 := ⟨Or.inl (fx_in 1092 (by decide +kernel) rfl), fx_in 1093 (by decide +kernel) rfl, fx_in 1094 (by decide +kernel) rfl, fx_in 140 (by decide +kernel) rfl, fx_in 1095 (by decide +kernel) rfl, ⟨by decide, by decide, by decide +kernel⟩⟩
theorem mv_J0_335 : fx_MV RJ0 335 yJ0_coder_7d493 cJ0_coder_7d493 1 (some .byte) 0 := ⟨Or.inl (fx_in 1096 (by decide +kernel) rfl), fx_in 1097 (by decide +kernel) rfl, fx_in 1098 (by decide +kernel) rfl, fx_in 140 (by decide +kernel) rfl, fx_in 1099 (by decide +kernel) rfl, ⟨by decide, by decide, by decide +kernel⟩⟩
theorem mv_X2_81 : fx_MV RX2 81 yJ0_charAt_5068e cJ0_charAt_5068e 2 (some .char) 1 := ⟨Or.inl (fx_in 1102 (by decide +kernel) rfl), fx_in 1103 (by decide +kernel) rfl, fx_in 1104 (by decide +kernel) rfl, fx_in 140 (by decide +kernel) rfl, fx_in 1105 (by decide +kernel) rfl, ⟨by decide, by decide, by decide +kernel⟩⟩
theorem mv_J0_492 : fx_MV RJ0 492 yJ0_isLatin1_aae02 cJ0_isLatin1_aae02 1 (some .boolean) 0 := ⟨Or.inl (fx_in 1106 (by decide +kernel) rfl), fx_in 1107 (by decide +kernel) rfl, fx_in 1108 (by decide +kernel) rfl, fx_in 140 (by decide +kernel) rfl, fx_in 1109 (by decide +kernel) rfl, ⟨by decide, by decide, by decide +kernel⟩⟩
theorem ms_J0_495 : fx_MS RJ0 495 yJ1_charAt_3b067 cJ1_charAt_3b067 2 (some .char) 2 := ⟨Or.inl (fx_in 1110 (by decide +kernel) rfl), fx_in 1111 (by decide +kernel) rfl, fx_in 145 (by decide +kernel) rfl, fx_in 1112 (by decide +kernel) rfl, ⟨by decide, by decide, by decide +kernel⟩⟩
theorem ms_J1_9 : fx_MS RJ1 9 yJ0_checkIndex_df160 cJ0_checkIndex_df160 2 none 2 := ⟨Or.inl (fx_in 1113 (by decide +kernel) rfl), fx_in 1114 (by decide +kernel) rfl, fx_in 140 (by decide +kernel) rfl, fx_in 1115 (by decide +kernel) rfl, ⟨by decide, by decide, by decide +kernel⟩⟩
theorem ms_J0_1059 : fx_MS RJ0 1059 yJ3_checkIndex_8e157 cJ3_checkIndex_8e157 3 (some .int) 3 := ⟨Or.inl (fx_in 1118 (by decide +kernel) rfl), fx_in 1119 (by decide +kernel) rfl, fx_in 146 (by decide +kernel) rfl, fx_in 1120 (by decide +kernel) rfl, ⟨by decide, by decide, by decide +kernel⟩⟩
theorem mv_X8_289 : fx_MV RX8 289 yJ0_length_8abf5 cJ0_length_8abf5 1 (some .int) 0 := ⟨Or.inl (fx_in 1661 (by decide +kernel) rfl), fx_in 1093 (by decide +kernel) rfl, fx_in 1094 (by decide +kernel) rfl, fx_in 140 (by decide +kernel) rfl, fx_in 1095 (by decide +kernel) rfl, ⟨by decide, by decide, by decide +kernel⟩⟩
theorem mv_X8_296 : fx_MV RX8 296 yJ0_charAt_5068e cJ0_charAt_5068e 2 (some .char) 1 := ⟨Or.inl (fx_in 1662 (by decide +kernel) rfl), fx_in 1103 (by decide +kernel) rfl, fx_in 1104 (by decide +kernel) rfl, fx_in 140 (by decide +kernel) rfl, fx_in 1105 (by decide +kernel) rfl, ⟨by decide, by decide, by decide +kernel⟩⟩
section FxT
variable {X : fx_C} {l : Launch} {Z : fx_Z} {R : Room} {own : String} {cc : ByteArray} {ad : Nat → Nat} {pc : Nat} {lv : List (Option Value)} {rest st : List Value} {ce sl : Nat} {S : List fx_Sh} {M : fx_M}
/-- the i-th text as a constant -/
theorem G_ldcK (F : fx_F X l Z R own cc) {i k : Nat} {tx : String} {bs : List Int32} (hq : fx_txt[i]? = some (own, k, tx, bs)) (d : decode cc pc = .ok (.ldc k, 2)) (kk : GG X ad (pc + 2) lv (.ref (Z.2.2.1 i) :: rest) ce sl S M) : GG X ad pc lv rest ce sl S M := by
  obtain ⟨p, l', e, R', s, m, args, below, meth, c, Z', A, Q, nL⟩ := X
  obtain ⟨rfl, rfl, rfl, ⟨hx, hb, hml, hown, hts⟩, hA, hE, hlk, htr⟩ := F
  intro H locs ls hL hP hD hS
  exact va_ldcS hx hb hown (hE.2.2.2.1 i _ hq).1 d (kk H locs ls hL hP hD hS)
theorem G_valK (F : fx_F X l Z R own cc) {i k : Nat} {o tx : String} {k0 : Nat} {bs : List Int32} (hq : fx_txt[i]? = some (o, k0, tx, bs)) (hl : Cond.fieldLink own k "java/lang/String" "value" "[B" ∈ fx_ww) (d : decode cc pc = .ok (.getfield k, 3)) (kk : GG X ad (pc + 3) lv (.ref (Z.2.2.2 i) :: rest) ce sl S M) : GG X ad pc lv (.ref (Z.2.2.1 i) :: rest) ce sl S M := by
  obtain ⟨p, l', e, R', s, m, args, below, meth, c, Z', A, Q, nL⟩ := X
  obtain ⟨rfl, rfl, rfl, ⟨hx, hb, hml, hown, hts⟩, hA, hE, hlk, htr⟩ := F
  intro H locs ls hL hP hD hS
  exact vk_getf hx hb (((hE.2.2.2.1 i _ hq).2.1 0 (by decide)).2.2.1) hS hown (hts _ hl) (fun _ h => h) d (kk H locs ls hL hP hD hS)
theorem G_codK (F : fx_F X l Z R own cc) {i k : Nat} {o tx : String} {k0 : Nat} {bs : List Int32} (hq : fx_txt[i]? = some (o, k0, tx, bs)) (hl : Cond.fieldLink own k "java/lang/String" "coder" "B" ∈ fx_ww) (d : decode cc pc = .ok (.getfield k, 3)) (kk : GG X ad (pc + 3) lv (.int 0 :: rest) ce sl S M) : GG X ad pc lv (.ref (Z.2.2.1 i) :: rest) ce sl S M := by
  obtain ⟨p, l', e, R', s, m, args, below, meth, c, Z', A, Q, nL⟩ := X
  obtain ⟨rfl, rfl, rfl, ⟨hx, hb, hml, hown, hts⟩, hA, hE, hlk, htr⟩ := F
  intro H locs ls hL hP hD hS
  exact vk_getf hx hb (((hE.2.2.2.1 i _ hq).2.1 0 (by decide)).2.1) hS hown (hts _ hl) (fun _ h => h) d (kk H locs ls hL hP hD hS)
theorem G_lenK (F : fx_F X l Z R own cc) {i : Nat} {o tx : String} {k0 : Nat} {bs : List Int32} (hq : fx_txt[i]? = some (o, k0, tx, bs)) (d : decode cc pc = .ok (.arraylength, 1)) (kk : GG X ad (pc + 1) lv (.int (nI bs.length) :: rest) ce sl S M) : GG X ad pc lv (.ref (Z.2.2.2 i) :: rest) ce sl S M := by
  obtain ⟨p, l', e, R', s, m, args, below, meth, c, Z', A, Q, nL⟩ := X
  obtain ⟨rfl, rfl, rfl, ⟨hx, hb, hml, hown, hts⟩, hA, hE, hlk, htr⟩ := F
  intro H locs ls hL hP hD hS
  exact va_tlen hx hb (((hE.2.2.2.1 i _ hq).2.1 0 (by decide)).2.2.2) hS rfl d (kk H locs ls hL hP hD hS)
theorem G_bald (F : fx_F X l Z R own cc) {i j : Nat} {o tx : String} {k0 : Nat} {bs : List Int32} (hq : fx_txt[i]? = some (o, k0, tx, bs)) (hj : j < bs.length) (hn : bs.length < 2 ^ 31) (d : decode cc pc = .ok (.baload, 1)) (kk : GG X ad (pc + 1) lv (.int (bs.getD j 0) :: rest) ce sl S M) : GG X ad pc lv (.int (nI j) :: .ref (Z.2.2.2 i) :: rest) ce sl S M := by
  obtain ⟨p, l', e, R', s, m, args, below, meth, c, Z', A, Q, nL⟩ := X
  obtain ⟨rfl, rfl, rfl, ⟨hx, hb, hml, hown, hts⟩, hA, hE, hlk, htr⟩ := F
  intro H locs ls hL hP hD hS
  exact va_tb hx hb (((hE.2.2.2.1 i _ hq).2.1 0 (by decide)).2.2.2) hS (i := nI j) (vp_in_nI hj hn) (v := .int (bs.getD j 0)) (by rw [nI_clamp (by omega)]; rfl) d (kk H locs ls hL hP hD hS)
theorem G_compact (F : fx_F X l Z R own cc) {k : Nat} (hl : Cond.fieldLink own k "java/lang/String" "COMPACT_STRINGS" "Z" ∈ fx_ww) (d : decode cc pc = .ok (.getstatic k, 3)) (kk : GG X ad (pc + 3) lv (.int 1 :: rest) ce sl S M) : GG X ad pc lv rest ce sl S M := by
  obtain ⟨p, l', e, R', s, m, args, below, meth, c, Z', A, Q, nL⟩ := X
  obtain ⟨rfl, rfl, rfl, ⟨hx, hb, hml, hown, hts⟩, hA, hE, hlk, htr⟩ := F
  intro H locs ls hL hP hD hS
  exact va_gets hx hb hE.2.2.2.2.2.2.1.1 hS hown (hts _ hl) (fun _ h => h) d (kk H locs ls hL hP hD hS)
theorem G_sioobe (F : fx_F X l Z R own cc) {k : Nat} (hl : Cond.fieldLink own k "jdk/internal/util/Preconditions" "SIOOBE_FORMATTER" "Ljava/util/function/BiFunction;" ∈ fx_ww) (d : decode cc pc = .ok (.getstatic k, 3)) (kk : ∀ v : Value, (v = .null ∨ ∃ t : Nat, v = .ref t) → GG X ad (pc + 3) lv (v :: rest) ce sl S M) : GG X ad pc lv rest ce sl S M := by
  obtain ⟨p, l', e, R', s, m, args, below, meth, c, Z', A, Q, nL⟩ := X
  obtain ⟨rfl, rfl, rfl, ⟨hx, hb, hml, hown, hts⟩, hA, hE, hlk, htr⟩ := F
  intro H locs ls hL hP hD hS
  rcases hE.2.2.2.2.2.2.1.2 with h | ⟨t, h⟩
  · exact va_gets hx hb h hS hown (hts _ hl) (fun _ h => h) d (kk _ (Or.inl rfl) H locs ls hL hP hD hS)
  · exact va_gets hx hb h hS hown (hts _ hl) (fun _ h => h) d (kk _ (Or.inr ⟨t, rfl⟩) H locs ls hL hP hD hS)
/-- a call of a text's method -/
theorem G_callK (F : fx_F X l Z R own cc) {i d' maxL n i0 k0 : Nat} {o tx : String} {bs : List Int32} {y : MethodName} {bytes : ByteArray} {ret : Option FieldType} {As : List Value} {P : Int32 → fx_M → Prop} (hq : fx_txt[i0]? = some (o, k0, tx, bs)) (hy : y.cls = "java/lang/String") (f : fx_MV own i y bytes maxL ret n) (d : decode cc pc = .ok (.invokevirtual i, 3)) (hM : CI l Z y (.code y bytes maxL ret) d' (.ref (Z.2.2.1 i0) :: As) ad S M P)
    (hst : st = As.reverse ++ .ref (Z.2.2.1 i0) :: rest) (hn : As.length = n) (hW : (rest.map fun v => v.category).sum ≤ 8) (hR : d' + 8 + 1 ≤ R.frames ∧ 8 + (maxL + 11) + (32 * d' + 160) ≤ R.locals ∧ ce ≤ R.cells ∧ sl ≤ R.slots)
    (kk : ∀ (r : Int32) (M' : fx_M), P r M' → GG X ad (pc + 3) lv (.int r :: rest) ce sl S M') : GG X ad pc lv st ce sl S M := by
  obtain ⟨p, l', e, R', s, m, args, below, meth, c, Z', A, Q, nL⟩ := X
  obtain ⟨rfl, rfl, rfl, ⟨hx, hb, hml, hown, hts⟩, hA, hE, hlk, htr⟩ := F
  intro H locs ls hL hP hD hS
  obtain ⟨hl, hin, hse, hini, hco, hd⟩ := f
  obtain ⟨hR1, hR2, hR3, hR4⟩ := hR
  have hrecv := vk_recv (hE.2.2.2.1 i0 _ hq).2 (Nat.zero_lt_one) hS
  have hpv : PreV s H y.cls (Z'.2.2.1 i0) (va_Pc (.ref (Z'.2.2.1 i0) :: As) (fx_pre Z' ad S M H.size)) As := ⟨fx_blind, by rw [hy]; exact hrecv, fun U hU hW => ⟨rfl, fx_prU hA hE hP hD hS U hU hW⟩⟩
  have hstk : (F0 m pc ls st).stack = As.reverse ++ .ref (Z'.2.2.1 i0) :: rest := hst
  have kk2 : ∀ (v : Option Value) (ad' : Nat → Nat) (S' : List fx_Sh) (M' : fx_M), (ad' = ad ∧ S' = S ∧ ∃ r : Int32, v = some (.int r) ∧ P r M') → GG (p, l', e, R', s, m, args, below, meth, c, Z', A, Q, nL) ad' (pc + 3) lv (v.toList ++ rest) (ce + 0) (sl + 0) S' M' := fun v a s M' h => by obtain ⟨rfl, rfl, r, rfl, hp⟩ := h; exact kk r M' hp
  rcases hl with hl | ⟨host, hl⟩
  · have cb : CallB R' s args own i y bytes maxL ret (.code y bytes maxL ret :: fx_ww) (fx_rm d' 0 0) 0 0 n := callB_of n hts (fx_GI hco) rfl rfl rfl (hts _ hini) (hts _ hl) hd ⟨hR1, hR2⟩
    exact fx_after (vx_runV ⟨hx, hb, hml, hown, hts⟩ (hM H.size) ⟨cb, hts _ hin, hts _ hse⟩ hpv rfl hn hL.1.1 hstk (lv_room hW) d ⟨hR3, hR4⟩) hL hS (fx_AA hA hD hS) (fun E M' h => h.elim) kk2
  · have cb : va_CN R' s args own i y host bytes maxL ret (.code y bytes maxL ret :: fx_ww) (fx_rm d' 0 0) 0 0 n := va_cnB n hts (fx_GI hco) rfl rfl rfl (hE.2.1 _ hl) (hts _ hini) hd ⟨hR1, hR2⟩
    exact fx_after (vx_runVN ⟨hx, hb, hml, hown, hts⟩ (hM H.size) ⟨cb, hts _ hin, hts _ hse⟩ hpv rfl hn hL.1.1 hstk (lv_room hW) d ⟨hR3, hR4⟩) hL hS (fx_AA hA hD hS) (fun E M' h => h.elim) kk2
end FxT
set_option maxRecDepth 20000 in
theorem s_coder {l : Launch} {Z : fx_Z} (hl : l.stackTraces = false) (ad : Nat → Nat) (S : List fx_Sh) (M : fx_M) {i0 k0 : Nat} {o tx : String} {bs : List Int32} (hq : fx_txt[i0]? = some (o, k0, tx, bs)) : CI l Z yJ0_coder_7d493 (.code yJ0_coder_7d493 cJ0_coder_7d493 1 (some .byte)) 0 [.ref (Z.2.2.1 i0)] ad S M (fun r m => r = 0 ∧ m = M) := by
  refine CT_of (ret := (some .byte)) (lv0 := [some (.ref (Z.2.2.1 i0))]) (by decide +kernel) hl (by simp [Value.category]) (Nat.le_of_ble_eq_true rfl) rfl ?_
  intro X F Rt _
  refine G_compact F (fx_in 1100 (by decide +kernel) rfl) dJ0_coder_7d493_0 ?_
  refine G_if_eq (tgt := 13) F dJ0_coder_7d493_3 (by decide) (fun h3 => absurd h3 (by decide)) (fun _ => ?_)
  refine G_aload_n F dJ0_coder_7d493_6 rfl ?_
  refine G_codK F hq (fx_in 1702 (by decide +kernel) rfl) dJ0_coder_7d493_7 ?_
  refine G_goto (tgt := 14) F dJ0_coder_7d493_10 (by decide) ?_
  exact G_iret F Rt dJ0_coder_7d493_14 (rfl) ⟨rfl, rfl, _, rfl, rfl, rfl⟩ (Nat.le_refl _) (Nat.le_refl _)
set_option maxRecDepth 20000 in
theorem s_isLatin1 {l : Launch} {Z : fx_Z} (hl : l.stackTraces = false) (ad : Nat → Nat) (S : List fx_Sh) (M : fx_M) {i0 k0 : Nat} {o tx : String} {bs : List Int32} (hq : fx_txt[i0]? = some (o, k0, tx, bs)) : CI l Z yJ0_isLatin1_aae02 (.code yJ0_isLatin1_aae02 cJ0_isLatin1_aae02 1 (some .boolean)) 0 [.ref (Z.2.2.1 i0)] ad S M (fun r m => r = 1 ∧ m = M) := by
  refine CT_of (ret := (some .boolean)) (lv0 := [some (.ref (Z.2.2.1 i0))]) (by decide +kernel) hl (by simp [Value.category]) (Nat.le_of_ble_eq_true rfl) rfl ?_
  intro X F Rt _
  refine G_compact F (fx_in 1100 (by decide +kernel) rfl) dJ0_isLatin1_aae02_0 ?_
  refine G_if_eq (tgt := 17) F dJ0_isLatin1_aae02_3 (by decide) (fun h3 => absurd h3 (by decide)) (fun _ => ?_)
  refine G_aload_n F dJ0_isLatin1_aae02_6 rfl ?_
  refine G_codK F hq (fx_in 1702 (by decide +kernel) rfl) dJ0_isLatin1_aae02_7 ?_
  refine G_if_ne (tgt := 17) F dJ0_isLatin1_aae02_10 (by decide) (fun h => absurd rfl h) (fun _ => ?_)
  refine G_iconst (v := 1) F dJ0_isLatin1_aae02_13 rfl ?_
  refine G_goto (tgt := 18) F dJ0_isLatin1_aae02_14 (by decide) ?_
  exact G_iret F Rt dJ0_isLatin1_aae02_18 (rfl) ⟨rfl, rfl, _, rfl, rfl, rfl⟩ (Nat.le_refl _) (Nat.le_refl _)
theorem shr0 (x : Int32) : x >>> (0 : Int32) = x := by simp
set_option maxRecDepth 20000 in
theorem s_length {l : Launch} {Z : fx_Z} (hl : l.stackTraces = false) (ad : Nat → Nat) (S : List fx_Sh) (M : fx_M) {i0 k0 : Nat} {o tx : String} {bs : List Int32} (hq : fx_txt[i0]? = some (o, k0, tx, bs)) : CI l Z yJ0_length_8abf5 (.code yJ0_length_8abf5 cJ0_length_8abf5 1 (some .int)) 1 [.ref (Z.2.2.1 i0)] ad S M (fun r m => r = nI bs.length ∧ m = M) := by
  refine CT_of (ret := (some .int)) (lv0 := [some (.ref (Z.2.2.1 i0))]) (by decide +kernel) hl (by simp [Value.category]) (Nat.le_of_ble_eq_true rfl) rfl ?_
  intro X F Rt _
  refine G_aload_n F dJ0_length_8abf5_0 rfl ?_
  refine G_valK F hq (fx_in 1701 (by decide +kernel) rfl) dJ0_length_8abf5_1 ?_
  refine G_lenK F hq dJ0_length_8abf5_4 ?_
  refine G_aload_n F dJ0_length_8abf5_5 rfl ?_
  refine G_callK F hq rfl mv_J0_335 dJ0_length_8abf5_6 (s_coder hl ad S M hq) rfl rfl (Nat.le_of_ble_eq_true rfl) ⟨Nat.le_of_ble_eq_true rfl, Nat.le_of_ble_eq_true rfl, Nat.le_of_ble_eq_true rfl, Nat.le_of_ble_eq_true rfl⟩ (fun r6 M6 h6 => ?_)
  rw [h6.1, h6.2]
  refine G_ishr F dJ0_length_8abf5_9 ?_
  rw [show ∀ x : Int32, x >>> ((0 : Int32) &&& 31) = x from fun x => by rw [show ((0 : Int32) &&& 31) = 0 from by decide]; exact shr0 x]
  exact G_iret F Rt dJ0_length_8abf5_10 (rfl) ⟨rfl, rfl, _, rfl, rfl, rfl⟩ (Nat.le_refl _) (Nat.le_refl _)
set_option maxRecDepth 20000 in
theorem s_checkIndexP {l : Launch} {Z : fx_Z} (hl : l.stackTraces = false) (ad : Nat → Nat) (S : List fx_Sh) (M : fx_M) {j n : Nat} {v : Value} (hv : v = .null ∨ ∃ t : Nat, v = .ref t) (hj : j < n) (hn : n < 2 ^ 31) : CI l Z yJ3_checkIndex_8e157 (.code yJ3_checkIndex_8e157 cJ3_checkIndex_8e157 3 (some .int)) 0 [.int (nI j), .int (nI n), v] ad S M (fun r m => r = nI j ∧ m = M) := by
  refine CT_of (ret := (some .int)) (lv0 := [some (.int (nI j)), some (.int (nI n)), some v]) (by decide +kernel) hl (by rcases hv with rfl | ⟨t, rfl⟩ <;> simp [Value.category]) (Nat.le_of_ble_eq_true rfl) rfl ?_
  intro X F Rt _
  refine G_iload_n F dJ3_checkIndex_8e157_0 rfl ?_
  refine G_if_lt (tgt := 9) F dJ3_checkIndex_8e157_1 (by decide) (fun h => absurd h (nI_pos (by omega))) (fun _ => ?_)
  refine G_iload_n F dJ3_checkIndex_8e157_4 rfl ?_
  refine G_iload_n F dJ3_checkIndex_8e157_5 rfl ?_
  refine G_icmp_lt (tgt := 16) F dJ3_checkIndex_8e157_6 (by decide) (fun _ => ?_) (fun h => absurd (nI_lt hj (by omega)) h)
  refine G_iload_n F dJ3_checkIndex_8e157_16 rfl ?_
  exact G_iret F Rt dJ3_checkIndex_8e157_17 (rfl) ⟨rfl, rfl, _, rfl, rfl, rfl⟩ (Nat.le_refl _) (Nat.le_refl _)
set_option maxRecDepth 20000 in
theorem s_checkIndexS {l : Launch} {Z : fx_Z} (hl : l.stackTraces = false) (ad : Nat → Nat) (S : List fx_Sh) (M : fx_M) {j n : Nat} (hj : j < n) (hn : n < 2 ^ 31) : CV l Z yJ0_checkIndex_df160 (.code yJ0_checkIndex_df160 cJ0_checkIndex_df160 2 none) 1 [.int (nI j), .int (nI n)] ad S M (fun m => m = M) := by
  refine CT_of (ret := none) (lv0 := [some (.int (nI j)), some (.int (nI n))]) (by decide +kernel) hl (by simp [Value.category]) (Nat.le_of_ble_eq_true rfl) rfl ?_
  intro X F Rt _
  refine G_iload_n F dJ0_checkIndex_df160_0 rfl ?_
  refine G_iload_n F dJ0_checkIndex_df160_1 rfl ?_
  refine G_sioobe F (fx_in 1116 (by decide +kernel) rfl) dJ0_checkIndex_df160_2 (fun v hv => ?_)
  refine G_sI F ms_J0_1059 dJ0_checkIndex_df160_5 (s_checkIndexP hl ad S M hv hj hn) rfl rfl (Nat.le_of_ble_eq_true rfl) ⟨Nat.le_of_ble_eq_true rfl, Nat.le_of_ble_eq_true rfl, Nat.le_of_ble_eq_true rfl, Nat.le_of_ble_eq_true rfl⟩ (fun r5 M5 h5 => ?_)
  rw [h5.1, h5.2]
  refine G_pop F dJ0_checkIndex_df160_8 rfl ?_
  exact G_vret F Rt dJ0_checkIndex_df160_9 ⟨rfl, rfl, rfl, rfl⟩ (Nat.le_refl _) (Nat.le_refl _)
set_option maxRecDepth 20000 in
theorem s_charAtL {l : Launch} {Z : fx_Z} (hl : l.stackTraces = false) (ad : Nat → Nat) (S : List fx_Sh) (M : fx_M) {i0 k0 : Nat} {o tx : String} {bs : List Int32} (hq : fx_txt[i0]? = some (o, k0, tx, bs)) {j : Nat} (hj : j < bs.length) (hn : bs.length < 2 ^ 31) (hb : ((bs.getD j 0 &&& 255).toUInt32 % 65536).toInt32 = bs.getD j 0 ∧ narrow .char (.int (bs.getD j 0)) = .int (bs.getD j 0)) : CI l Z yJ1_charAt_3b067 (.code yJ1_charAt_3b067 cJ1_charAt_3b067 2 (some .char)) 2 [.ref (Z.2.2.2 i0), .int (nI j)] ad S M (fun r m => r = bs.getD j 0 ∧ m = M) := by
  refine CT_of (ret := (some .char)) (lv0 := [some (.ref (Z.2.2.2 i0)), some (.int (nI j))]) (by decide +kernel) hl (by simp [Value.category]) (Nat.le_of_ble_eq_true rfl) rfl ?_
  intro X F Rt _
  refine G_iload_n F dJ1_charAt_3b067_0 rfl ?_
  refine G_aload_n F dJ1_charAt_3b067_1 rfl ?_
  refine G_lenK F hq dJ1_charAt_3b067_2 ?_
  refine G_sv F ms_J1_9 dJ1_charAt_3b067_3 (s_checkIndexS hl ad S M hj hn) rfl rfl (Nat.le_of_ble_eq_true rfl) ⟨Nat.le_of_ble_eq_true rfl, Nat.le_of_ble_eq_true rfl, Nat.le_of_ble_eq_true rfl, Nat.le_of_ble_eq_true rfl⟩ (fun M3 h3 => ?_)
  rw [h3]
  refine G_aload_n F dJ1_charAt_3b067_6 rfl ?_
  refine G_iload_n F dJ1_charAt_3b067_7 rfl ?_
  refine G_bald F hq hj hn dJ1_charAt_3b067_8 ?_
  refine G_sipush (v := 255) F dJ1_charAt_3b067_9 rfl ?_
  refine G_iand F dJ1_charAt_3b067_12 ?_
  refine G_i2c F dJ1_charAt_3b067_13 ?_
  rw [hb.1]
  exact G_iret F Rt dJ1_charAt_3b067_14 hb.2 ⟨rfl, rfl, _, rfl, rfl, rfl⟩ (Nat.le_refl _) (Nat.le_refl _)
set_option maxRecDepth 20000 in
theorem s_charAt {l : Launch} {Z : fx_Z} (hl : l.stackTraces = false) (ad : Nat → Nat) (S : List fx_Sh) (M : fx_M) {i0 k0 : Nat} {o tx : String} {bs : List Int32} (hq : fx_txt[i0]? = some (o, k0, tx, bs)) {j : Nat} (hj : j < bs.length) (hn : bs.length < 2 ^ 31) (hb : ((bs.getD j 0 &&& 255).toUInt32 % 65536).toInt32 = bs.getD j 0 ∧ narrow .char (.int (bs.getD j 0)) = .int (bs.getD j 0)) : CI l Z yJ0_charAt_5068e (.code yJ0_charAt_5068e cJ0_charAt_5068e 2 (some .char)) 3 [.ref (Z.2.2.1 i0), .int (nI j)] ad S M (fun r m => r = bs.getD j 0 ∧ m = M) := by
  refine CT_of (ret := (some .char)) (lv0 := [some (.ref (Z.2.2.1 i0)), some (.int (nI j))]) (by decide +kernel) hl (by simp [Value.category]) (Nat.le_of_ble_eq_true rfl) rfl ?_
  intro X F Rt _
  refine G_aload_n F dJ0_charAt_5068e_0 rfl ?_
  refine G_callK F hq rfl mv_J0_492 dJ0_charAt_5068e_1 (s_isLatin1 hl ad S M hq) rfl rfl (Nat.le_of_ble_eq_true rfl) ⟨Nat.le_of_ble_eq_true rfl, Nat.le_of_ble_eq_true rfl, Nat.le_of_ble_eq_true rfl, Nat.le_of_ble_eq_true rfl⟩ (fun r1 M1 h1 => ?_)
  rw [h1.1, h1.2]
  refine G_if_eq (tgt := 16) F dJ0_charAt_5068e_4 (by decide) (fun h => absurd h (by decide)) (fun _ => ?_)
  refine G_aload_n F dJ0_charAt_5068e_7 rfl ?_
  refine G_valK F hq (fx_in 1701 (by decide +kernel) rfl) dJ0_charAt_5068e_8 ?_
  refine G_iload_n F dJ0_charAt_5068e_11 rfl ?_
  refine G_sI F ms_J0_495 dJ0_charAt_5068e_12 (s_charAtL hl ad S M hq hj hn hb) rfl rfl (Nat.le_of_ble_eq_true rfl) ⟨Nat.le_of_ble_eq_true rfl, Nat.le_of_ble_eq_true rfl, Nat.le_of_ble_eq_true rfl, Nat.le_of_ble_eq_true rfl⟩ (fun r12 M12 h12 => ?_)
  rw [h12.1, h12.2]
  exact G_iret F Rt dJ0_charAt_5068e_15 hb.2 ⟨rfl, rfl, _, rfl, rfl, rfl⟩ (Nat.le_refl _) (Nat.le_refl _)
/-- the texts are short, and of plain characters -/
theorem txt_ok : ∀ q ∈ fx_txt, q.2.2.2.length < 2 ^ 31 ∧ ∀ c ∈ q.2.2.2, ((c &&& 255).toUInt32 % 65536).toInt32 = c ∧ narrow .char (.int c) = .int c := by
  have h1 : ∀ q ∈ fx_txt, q.2.2.2.length < 5 ∧ ∀ c ∈ q.2.2.2, ((c &&& 255).toUInt32 % 65536).toInt32 = c := by decide +kernel
  have h2 : ∀ q ∈ fx_txt, ∀ c ∈ q.2.2.2, narrow .char (.int c) = .int c := by
    intro q hq c hc
    simp only [fx_txt, List.mem_cons, List.not_mem_nil, or_false] at hq
    rcases hq with rfl | rfl | rfl | rfl | rfl | rfl | rfl | rfl | rfl <;> simp only [List.mem_cons, List.not_mem_nil, or_false] at hc <;> (first | (rcases hc with rfl | rfl | rfl | rfl <;> rfl) | (rcases hc with rfl | rfl | rfl <;> rfl) | (subst hc; rfl))
  exact fun q hq => ⟨by have := (h1 q hq).1; omega, fun c hc => ⟨(h1 q hq).2 c hc, h2 q hq c hc⟩⟩
theorem txt_at {i0 k0 : Nat} {o tx : String} {bs : List Int32} (hq : fx_txt[i0]? = some (o, k0, tx, bs)) : bs.length < 2 ^ 31 ∧ ∀ j, j < bs.length → ((bs.getD j 0 &&& 255).toUInt32 % 65536).toInt32 = bs.getD j 0 ∧ narrow .char (.int (bs.getD j 0)) = .int (bs.getD j 0) := by
  have h := txt_ok _ (List.mem_of_getElem? hq)
  refine ⟨h.1, fun j hj => h.2 _ ?_⟩
  rw [List.getD_eq_getElem?_getD, List.getElem?_eq_getElem hj]
  exact List.getElem_mem hj
