/-! INPUT: the parser -/
/-- the character at an offset, -1 behind the last one -/
def hr (ch : Nat → Int32) (len a : Nat) : Int32 := if a < len then ch a else -1
def dg (x : Int32) : Bool := decide (48 ≤ x) && decide (x ≤ 57)
/-- digits from an offset on, k at most -/
def tn (h : Nat → Int32) : Nat → Nat → Int32 → Nat × Int32
  | 0, a, n => (a, n)
  | k + 1, a, n => if dg (h a) = true then tn h k (a + 1) (n * 10 + (h a - 48)) else (a, n)
/-- a word from an offset on -/
def tw (h : Nat → Int32) : List Int32 → Nat → Bool × Nat
  | [], a => (true, a)
  | c :: cs, a => if h a = c then tw h cs (a + 1) else (false, a)
theorem hr_dg {ch : Nat → Int32} {len a : Nat} (h : dg (hr ch len a) = true) : a < len ∧ hr ch len a = ch a := by
  unfold hr at *
  by_cases e : a < len
  · rw [if_pos e]; exact ⟨e, rfl⟩
  · rw [if_neg e] at h; exact absurd h (by decide)
theorem hr_eq {ch : Nat → Int32} {len a : Nat} {c : Int32} (hc : c ≠ -1) : hr ch len a = c ↔ a < len ∧ ch a = c := by
  unfold hr
  by_cases e : a < len
  · simp [e]
  · simp [e, Ne.symm hc]
theorem tn_le {ch : Nat → Int32} {len : Nat} : ∀ (k a : Nat) (n : Int32), a ≤ len → a ≤ (tn (hr ch len) k a n).1 ∧ (tn (hr ch len) k a n).1 ≤ len ∧ (tn (hr ch len) k a n).1 ≤ a + k := by
  intro k
  induction k with
  | zero => intro a n h; exact ⟨Nat.le_refl a, h, Nat.le_refl a⟩
  | succ k ih =>
    intro a n h
    simp only [tn]
    split
    · rename_i hd
      have := hr_dg hd
      have := ih (a + 1) (n * 10 + (hr ch len a - 48)) (by omega)
      omega
    · exact ⟨Nat.le_refl a, h, by omega⟩
theorem tw_le {ch : Nat → Int32} {len : Nat} : ∀ (cs : List Int32) (a : Nat), (∀ c ∈ cs, c ≠ -1) → a ≤ len → a ≤ (tw (hr ch len) cs a).2 ∧ (tw (hr ch len) cs a).2 ≤ len := by
  intro cs
  induction cs with
  | nil => intro a _ h; exact ⟨Nat.le_refl a, h⟩
  | cons c cs ih =>
    intro a hc h
    simp only [tw]
    split
    · rename_i hd
      have := (hr_eq (hc c (by simp))).mp hd
      have := ih (a + 1) (fun x hx => hc x (by simp [hx])) (by omega)
      omega
    · exact ⟨Nat.le_refl a, h⟩
theorem txt_ne {i0 k0 : Nat} {o tx : String} {bs : List Int32} (hq : fx_txt[i0]? = some (o, k0, tx, bs)) : ∀ c ∈ bs, c ≠ -1 := by
  have h : ∀ q ∈ fx_txt, ∀ c ∈ q.2.2.2, c ≠ -1 := by decide +kernel
  exact h _ (List.mem_of_getElem? hq)
theorem txt_len {i0 k0 : Nat} {o tx : String} {bs : List Int32} (hq : fx_txt[i0]? = some (o, k0, tx, bs)) : bs.length ≤ 4 := by
  have h : ∀ q ∈ fx_txt, q.2.2.2.length ≤ 4 := by decide +kernel
  exact h _ (List.mem_of_getElem? hq)
theorem fx_u_same {M : fx_M} {k j : Nat} {x : Int32} (h : M k j = x) : fx_u M k j x = M := by
  funext a b
  rw [fx_u_at]
  split
  · rename_i e; rw [e.1, e.2, h]
  · rfl
set_option maxRecDepth 20000 in
theorem s_sees {l : Launch} {Z : fx_Z} (hl : l.stackTraces = false) (ad : Nat → Nat) (sw : Bool) (tl : List fx_Sh) (M : fx_M) (c : Int32) {len a : Nat} (hl1 : M 35 1 = nI len) (hl60 : len ≤ 60) (ha : M 35 2 = nI a) (hal : a ≤ len) (hc : c ≠ -1) : CI l Z yX2_sees (.code yX2_sees cX2_sees 2 (some .boolean)) 0 [.ref (ad 35), .int c] ad (c_C sw ++ tl) M (fun r m => r = (if (hr (M 36) len) a = c then 1 else 0) ∧ m = M) := by
  refine CT_of (ret := (some .boolean)) (lv0 := [some (.ref (ad 35)), some (.int c)]) (by decide +kernel) hl (by simp [Value.category]) (Nat.le_of_ble_eq_true rfl) rfl ?_
  intro X F Rt _
  refine G_aload_n F dX2_sees_0 rfl ?_
  refine G_geti F fl_X2_19 dX2_sees_1 rfl rfl ?_
  refine G_aload_n F dX2_sees_4 rfl ?_
  refine G_geti F fl_X2_15 dX2_sees_5 rfl rfl ?_
  rw [ha, hl1]
  refine G_icmp_ge (tgt := 28) F dX2_sees_8 (by decide) (fun h8 => ?_) (fun h8 => ?_)
  · rw [nI_leI (by omega) (by omega)] at h8
    have e : ¬ (hr (M 36) len) a = c := fun q => by have := ((hr_eq hc).mp q).1; omega
    refine G_iconst (v := 0) F dX2_sees_28 rfl ?_
    refine G_iret F Rt dX2_sees_29 (rfl) ⟨rfl, rfl, _, rfl, ?_⟩ (Nat.le_refl _) (Nat.le_refl _)
    clear F Rt
    first | exact ⟨by rw [if_pos e], rfl⟩ | exact ⟨by rw [if_neg e], rfl⟩
  · rw [nI_leI (by omega) (by omega)] at h8
    refine G_aload_n F dX2_sees_11 rfl ?_
    refine G_getr F fl_X2_9 dX2_sees_12 rfl rfl ?_
    refine G_aload_n F dX2_sees_15 rfl ?_
    refine G_geti F fl_X2_19 dX2_sees_16 rfl rfl ?_
    rw [ha]
    refine G_caldN F dX2_sees_19 rfl (by omega) (by decide) ?_
    refine G_iload_n F dX2_sees_20 rfl ?_
    refine G_icmp_ne (tgt := 28) F dX2_sees_21 (by decide) (fun h21 => ?_) (fun h21 => ?_)
    · have e : ¬ (hr (M 36) len) a = c := fun q => h21 ((hr_eq hc).mp q).2
      refine G_iconst (v := 0) F dX2_sees_28 rfl ?_
      refine G_iret F Rt dX2_sees_29 (rfl) ⟨rfl, rfl, _, rfl, ?_⟩ (Nat.le_refl _) (Nat.le_refl _)
      clear F Rt
      first | exact ⟨by rw [if_pos e], rfl⟩ | exact ⟨by rw [if_neg e], rfl⟩
    · have e : (hr (M 36) len) a = c := (hr_eq hc).mpr ⟨by omega, h21⟩
      refine G_iconst (v := 1) F dX2_sees_24 rfl ?_
      refine G_goto (tgt := 29) F dX2_sees_25 (by decide) ?_
      refine G_iret F Rt dX2_sees_29 (rfl) ⟨rfl, rfl, _, rfl, ?_⟩ (Nat.le_refl _) (Nat.le_refl _)
      clear F Rt
      first | exact ⟨by rw [if_pos e], rfl⟩ | exact ⟨by rw [if_neg e], rfl⟩
set_option maxRecDepth 20000 in
theorem s_seesDigit {l : Launch} {Z : fx_Z} (hl : l.stackTraces = false) (ad : Nat → Nat) (sw : Bool) (tl : List fx_Sh) (M : fx_M)  {len a : Nat} (hl1 : M 35 1 = nI len) (hl60 : len ≤ 60) (ha : M 35 2 = nI a) (hal : a ≤ len) : CI l Z yX2_seesDigit (.code yX2_seesDigit cX2_seesDigit 1 (some .boolean)) 0 [.ref (ad 35)] ad (c_C sw ++ tl) M (fun r m => r = (if dg ((hr (M 36) len) a) then 1 else 0) ∧ m = M) := by
  refine CT_of (ret := (some .boolean)) (lv0 := [some (.ref (ad 35))]) (by decide +kernel) hl (by simp [Value.category]) (Nat.le_of_ble_eq_true rfl) rfl ?_
  intro X F Rt _
  refine G_aload_n F dX2_seesDigit_0 rfl ?_
  refine G_geti F fl_X2_19 dX2_seesDigit_1 rfl rfl ?_
  refine G_aload_n F dX2_seesDigit_4 rfl ?_
  refine G_geti F fl_X2_15 dX2_seesDigit_5 rfl rfl ?_
  rw [ha, hl1]
  refine G_icmp_ge (tgt := 43) F dX2_seesDigit_8 (by decide) (fun h8 => ?_) (fun h8 => ?_)
  · rw [nI_leI (by omega) (by omega)] at h8
    have e : ¬ dg ((hr (M 36) len) a) = true := fun q => by have := (hr_dg q).1; omega
    refine G_iconst (v := 0) F dX2_seesDigit_43 rfl ?_
    refine G_iret F Rt dX2_seesDigit_44 (rfl) ⟨rfl, rfl, _, rfl, ?_⟩ (Nat.le_refl _) (Nat.le_refl _)
    clear F Rt
    first | exact ⟨by rw [if_pos e], rfl⟩ | exact ⟨by rw [if_neg e], rfl⟩
  · rw [nI_leI (by omega) (by omega)] at h8
    refine G_aload_n F dX2_seesDigit_11 rfl ?_
    refine G_getr F fl_X2_9 dX2_seesDigit_12 rfl rfl ?_
    refine G_aload_n F dX2_seesDigit_15 rfl ?_
    refine G_geti F fl_X2_19 dX2_seesDigit_16 rfl rfl ?_
    rw [ha]
    refine G_caldN F dX2_seesDigit_19 rfl (by omega) (by decide) ?_
    refine G_bipush (v := 48) F dX2_seesDigit_20 rfl ?_
    refine G_icmp_lt (tgt := 43) F dX2_seesDigit_22 (by decide) (fun h22 => ?_) (fun h22 => ?_)
    · have e : ¬ dg ((hr (M 36) len) a) = true := fun q => by
        have q2 := (hr_dg q).2
        rw [q2] at q
        simp only [dg, Bool.and_eq_true, decide_eq_true_eq, Int32.lt_iff_toInt_lt, Int32.le_iff_toInt_le] at q h22
        omega
      refine G_iconst (v := 0) F dX2_seesDigit_43 rfl ?_
      refine G_iret F Rt dX2_seesDigit_44 (rfl) ⟨rfl, rfl, _, rfl, ?_⟩ (Nat.le_refl _) (Nat.le_refl _)
      clear F Rt
      first | exact ⟨by rw [if_pos e], rfl⟩ | exact ⟨by rw [if_neg e], rfl⟩
    · refine G_aload_n F dX2_seesDigit_25 rfl ?_
      refine G_getr F fl_X2_9 dX2_seesDigit_26 rfl rfl ?_
      refine G_aload_n F dX2_seesDigit_29 rfl ?_
      refine G_geti F fl_X2_19 dX2_seesDigit_30 rfl rfl ?_
      rw [ha]
      refine G_caldN F dX2_seesDigit_33 rfl (by omega) (by decide) ?_
      refine G_bipush (v := 57) F dX2_seesDigit_34 rfl ?_
      refine G_icmp_gt (tgt := 43) F dX2_seesDigit_36 (by decide) (fun h36 => ?_) (fun h36 => ?_)
      · have e : ¬ dg ((hr (M 36) len) a) = true := fun q => by
          have q2 := (hr_dg q).2
          rw [q2] at q
          simp only [dg, Bool.and_eq_true, decide_eq_true_eq, Int32.lt_iff_toInt_lt, Int32.le_iff_toInt_le] at q h36
          omega
        refine G_iconst (v := 0) F dX2_seesDigit_43 rfl ?_
        refine G_iret F Rt dX2_seesDigit_44 (rfl) ⟨rfl, rfl, _, rfl, ?_⟩ (Nat.le_refl _) (Nat.le_refl _)
        clear F Rt
        first | exact ⟨by rw [if_pos e], rfl⟩ | exact ⟨by rw [if_neg e], rfl⟩
      · have e : dg ((hr (M 36) len) a) = true := by
          unfold hr
          rw [if_pos (by omega)]
          simp only [dg, Bool.and_eq_true, decide_eq_true_eq, Int32.lt_iff_toInt_lt, Int32.le_iff_toInt_le] at h22 h36 ⊢
          omega
        refine G_iconst (v := 1) F dX2_seesDigit_39 rfl ?_
        refine G_goto (tgt := 44) F dX2_seesDigit_40 (by decide) ?_
        refine G_iret F Rt dX2_seesDigit_44 (rfl) ⟨rfl, rfl, _, rfl, ?_⟩ (Nat.le_refl _) (Nat.le_refl _)
        clear F Rt
        first | exact ⟨by rw [if_pos e], rfl⟩ | exact ⟨by rw [if_neg e], rfl⟩
set_option maxRecDepth 20000 in
theorem s_takeNumber {l : Launch} {Z : fx_Z} (hl : l.stackTraces = false) (ad : Nat → Nat) (sw : Bool) (tl : List fx_Sh) (M : fx_M) {k0 : Nat} {len a : Nat} (hl1 : M 35 1 = nI len) (hl60 : len ≤ 60) (ha : M 35 2 = nI a) (hal : a ≤ len) (hk6 : k0 ≤ 6) : CI l Z yX2_takeNumber (.code yX2_takeNumber cX2_takeNumber 3 (some .boolean)) 1 [.ref (ad 35), .int (nI k0)] ad (c_C sw ++ tl) M (fun r m => r = (if a < (tn (hr (M 36) len) k0 a 0).1 then 1 else 0) ∧ fr [35] M m ∧ m 35 2 = nI (tn (hr (M 36) len) k0 a 0).1 ∧ m 35 3 = (tn (hr (M 36) len) k0 a 0).2 ∧ ∀ j, j ≠ 2 → j ≠ 3 → m 35 j = M 35 j) := by
  refine CT_of (ret := (some .boolean)) (lv0 := [some (.ref (ad 35)), some (.int (nI k0)), none]) (by decide +kernel) hl (by simp [Value.category]) (Nat.le_of_ble_eq_true rfl) rfl ?_
  intro X F Rt _
  have lp : ∀ (k : Nat) (i : Nat) (M' : fx_M) (n : Int32), k = k0 - i → i ≤ k0 → a + i ≤ len → fr [35] M M' → M' 35 2 = nI (a + i) → (∀ j, j ≠ 2 → j ≠ 3 → M' 35 j = M 35 j) → M' 35 3 = n → tn (hr (M 36) len) (k0 - i) (a + i) n = (tn (hr (M 36) len) k0 a 0) → GG X ad 7 [some (.ref (ad 35)), some (.int (nI k0)), some (.int (nI i))] [] 0 0 (c_C sw ++ tl) M' := by
    intro k
    induction k using Nat.strongRecOn with
    | _ k ih =>
      intro i M' n hk hi hai g1 ha1 g3 g5 g6
      refine G_iload_n F dX2_takeNumber_7 rfl ?_
      refine G_iload_n F dX2_takeNumber_8 rfl ?_
      refine G_icmp_ge (tgt := 59) F dX2_takeNumber_9 (by decide) (fun h9 => ?_) (fun h9 => ?_)
      · rw [nI_leI (by omega) (by omega)] at h9
        have hik : i = k0 := by omega
        have hT : (a + i, n) = (tn (hr (M 36) len) k0 a 0) := by rw [← g6, hik, Nat.sub_self]; rfl
        refine G_iload_n F dX2_takeNumber_59 rfl ?_
        refine G_if_le (tgt := 67) F dX2_takeNumber_60 (by decide) (fun h60 => ?_) (fun h60 => ?_)
        · rw [← nI_0, nI_leI (by omega) (by omega)] at h60
          refine G_iconst (v := 0) F dX2_takeNumber_67 rfl ?_
          refine G_iret F Rt dX2_takeNumber_68 (rfl) ⟨rfl, rfl, _, rfl, ?_⟩ (Nat.le_refl _) (Nat.le_refl _)
          refine ⟨?_, g1, by rw [← hT]; exact ha1, by rw [← hT]; exact g5, g3⟩
          rw [← hT]
          first | (rw [if_neg (show ¬ a < a + i by omega)]) | (rw [if_pos (show a < a + i by omega)])
        · rw [← nI_0, nI_leI (by omega) (by omega)] at h60
          refine G_iconst (v := 1) F dX2_takeNumber_63 rfl ?_
          refine G_goto (tgt := 68) F dX2_takeNumber_64 (by decide) ?_
          refine G_iret F Rt dX2_takeNumber_68 (rfl) ⟨rfl, rfl, _, rfl, ?_⟩ (Nat.le_refl _) (Nat.le_refl _)
          refine ⟨?_, g1, by rw [← hT]; exact ha1, by rw [← hT]; exact g5, g3⟩
          rw [← hT]
          first | (rw [if_neg (show ¬ a < a + i by omega)]) | (rw [if_pos (show a < a + i by omega)])
      · rw [nI_leI (by omega) (by omega)] at h9
        refine G_aload_n F dX2_takeNumber_12 rfl ?_
        refine G_vI F mv_X2_73 dX2_takeNumber_13 (s_seesDigit hl ad sw tl M' (len := len) (a := a + i) (by rw [g3 1 (by decide) (by decide)]; exact hl1) hl60 ha1 hai) rfl rfl rfl rfl (Nat.le_of_ble_eq_true rfl) ⟨Nat.le_of_ble_eq_true rfl, Nat.le_of_ble_eq_true rfl, Nat.le_of_ble_eq_true rfl, Nat.le_of_ble_eq_true rfl⟩ (fun r13 M13 h13 => ?_)
        rw [h13.1, h13.2, g1 36 (by decide)]
        refine G_if_eq (tgt := 59) F dX2_takeNumber_16 (by decide) (fun h16 => ?_) (fun h16 => ?_)
        · have hd : ¬ dg ((hr (M 36) len) (a + i)) = true := by simpa using h16
          have hT : (a + i, n) = (tn (hr (M 36) len) k0 a 0) := by
            rw [← g6]
            cases hk9 : k0 - i with
            | zero => rfl
            | succ q => simp only [tn]; rw [if_neg hd]
          refine G_iload_n F dX2_takeNumber_59 rfl ?_
          refine G_if_le (tgt := 67) F dX2_takeNumber_60 (by decide) (fun h60 => ?_) (fun h60 => ?_)
          · rw [← nI_0, nI_leI (by omega) (by omega)] at h60
            refine G_iconst (v := 0) F dX2_takeNumber_67 rfl ?_
            refine G_iret F Rt dX2_takeNumber_68 (rfl) ⟨rfl, rfl, _, rfl, ?_⟩ (Nat.le_refl _) (Nat.le_refl _)
            refine ⟨?_, g1, by rw [← hT]; exact ha1, by rw [← hT]; exact g5, g3⟩
            rw [← hT]
            first | (rw [if_neg (show ¬ a < a + i by omega)]) | (rw [if_pos (show a < a + i by omega)])
          · rw [← nI_0, nI_leI (by omega) (by omega)] at h60
            refine G_iconst (v := 1) F dX2_takeNumber_63 rfl ?_
            refine G_goto (tgt := 68) F dX2_takeNumber_64 (by decide) ?_
            refine G_iret F Rt dX2_takeNumber_68 (rfl) ⟨rfl, rfl, _, rfl, ?_⟩ (Nat.le_refl _) (Nat.le_refl _)
            refine ⟨?_, g1, by rw [← hT]; exact ha1, by rw [← hT]; exact g5, g3⟩
            rw [← hT]
            first | (rw [if_neg (show ¬ a < a + i by omega)]) | (rw [if_pos (show a < a + i by omega)])
        · have hd : dg ((hr (M 36) len) (a + i)) = true := by simpa using h16
          have hd2 := hr_dg hd
          refine G_aload_n F dX2_takeNumber_19 rfl ?_
          refine G_aload_n F dX2_takeNumber_20 rfl ?_
          refine G_geti F fl_X2_35 dX2_takeNumber_21 rfl rfl ?_
          refine G_bipush (v := 10) F dX2_takeNumber_24 rfl ?_
          refine G_imul F dX2_takeNumber_26 ?_
          refine G_aload_n F dX2_takeNumber_27 rfl ?_
          refine G_getr F fl_X2_9 dX2_takeNumber_28 rfl rfl ?_
          refine G_aload_n F dX2_takeNumber_31 rfl ?_
          refine G_geti F fl_X2_19 dX2_takeNumber_32 rfl rfl ?_
          try simp only [fx_u_at, Nat.reduceEqDiff, false_and, and_false, true_and, and_true, ↓reduceIte, ha1]
          refine G_caldN F dX2_takeNumber_35 rfl (by omega) (by decide) ?_
          try simp only [fx_u_at, Nat.reduceEqDiff, false_and, and_false, true_and, and_true, ↓reduceIte, ha1]
          refine G_bipush (v := 48) F dX2_takeNumber_36 rfl ?_
          refine G_isub F dX2_takeNumber_38 ?_
          refine G_iadd F dX2_takeNumber_39 ?_
          refine G_puti F fl_X2_35 dX2_takeNumber_40 rfl rfl rfl rfl ?_
          refine G_aload_n F dX2_takeNumber_43 rfl ?_
          refine G_dup F dX2_takeNumber_44 rfl ?_
          refine G_geti F fl_X2_19 dX2_takeNumber_45 rfl rfl ?_
          try simp only [fx_u_at, Nat.reduceEqDiff, false_and, and_false, true_and, and_true, ↓reduceIte, ha1]
          refine G_iconst (v := 1) F dX2_takeNumber_48 rfl ?_
          refine G_iadd F dX2_takeNumber_49 ?_
          refine G_puti F fl_X2_19 dX2_takeNumber_50 rfl rfl rfl rfl ?_
          refine G_iinc F (1) dX2_takeNumber_53 rfl rfl rfl rfl ?_
          simp only [List.set_cons_zero, List.set_cons_succ, nI_1]
          refine G_goto (tgt := 7) F dX2_takeNumber_56 (by decide) ?_
          have gn : M' 35 3 * 10 + (M' 36 (a + i) - 48) = n * 10 + ((hr (M 36) len) (a + i) - 48) := by rw [g5, g1 36 (by decide), hd2.2]
          refine ih (k0 - (i + 1)) (by omega) (i + 1) _ (n * 10 + ((hr (M 36) len) (a + i) - 48)) rfl (by omega) (by omega) ((g1.u (by decide)).u (by decide)) (by rw [fx_u_at, if_pos ⟨rfl, rfl⟩]; rfl) (fun j j1 j2 => by simp only [fx_u_at, j1, j2, and_false, if_false]; exact g3 j j1 j2) (by simp [fx_u_at]; exact gn) ?_
          rw [← g6, show k0 - i = (k0 - (i + 1)) + 1 from by omega]
          simp only [tn, hd, if_true]
          rfl
  refine G_aload_n F dX2_takeNumber_0 rfl ?_
  refine G_iconst (v := 0) F dX2_takeNumber_1 rfl ?_
  refine G_puti F fl_X2_35 dX2_takeNumber_2 rfl rfl rfl rfl ?_
  refine G_iconst (v := nI 0) F dX2_takeNumber_5 (by decide) ?_
  refine G_istore_n F 2 dX2_takeNumber_6 rfl rfl rfl (Nat.le_of_ble_eq_true rfl) ?_
  simp only [List.set_cons_zero, List.set_cons_succ]
  refine lp k0 0 _ 0 rfl (by omega) (by omega) (fr.rfl.u (by decide)) (by simp [fx_u_at]; exact ha) (fun j j1 j2 => by simp [fx_u_at, j2]) (by simp [fx_u_at]) rfl
set_option maxRecDepth 20000 in
theorem s_takeWord {l : Launch} {Z : fx_Z} (hl : l.stackTraces = false) (ad : Nat → Nat) (sw : Bool) (tl : List fx_Sh) (M : fx_M) {i0 kk : Nat} {ow tx : String} {bs : List Int32} (hq : fx_txt[i0]? = some (ow, kk, tx, bs)) {len a : Nat} (hl1 : M 35 1 = nI len) (hl60 : len ≤ 60) (ha : M 35 2 = nI a) (hal : a ≤ len) : CI l Z yX2_takeWord (.code yX2_takeWord cX2_takeWord 3 (some .boolean)) 4 [.ref (ad 35), .ref (Z.2.2.1 i0)] ad (c_C sw ++ tl) M (fun r m => r = (if (tw (hr (M 36) len) bs a).1 then 1 else 0) ∧ fr [35] M m ∧ m 35 2 = nI (tw (hr (M 36) len) bs a).2 ∧ ∀ j, j ≠ 2 → m 35 j = M 35 j) := by
  refine CT_of (ret := (some .boolean)) (lv0 := [some (.ref (ad 35)), some (.ref (Z.2.2.1 i0)), none]) (by decide +kernel) hl (by simp [Value.category]) (Nat.le_of_ble_eq_true rfl) rfl ?_
  intro X F Rt _
  have hok := txt_at hq
  have hne := txt_ne hq
  have hlen4 := txt_len hq
  have lp : ∀ (k : Nat) (i : Nat) (M' : fx_M) (b : Nat), k = bs.length - i → i ≤ bs.length → b ≤ len → fr [35] M M' → M' 35 2 = nI b → (∀ j, j ≠ 2 → M' 35 j = M 35 j) → tw (hr (M 36) len) (bs.drop i) b = (tw (hr (M 36) len) bs a) → GG X ad 2 [some (.ref (ad 35)), some (.ref (Z.2.2.1 i0)), some (.int (nI i))] [] 0 0 (c_C sw ++ tl) M' := by
    intro k
    induction k using Nat.strongRecOn with
    | _ k ih =>
      intro i M' b hk hi hab g1 ha1 g3 g6
      refine G_iload_n F dX2_takeWord_2 rfl ?_
      refine G_aload_n F dX2_takeWord_3 rfl ?_
      refine G_callK F hq rfl mv_X2_76 dX2_takeWord_4 (s_length hl ad _ M' hq) rfl rfl (Nat.le_of_ble_eq_true rfl) ⟨Nat.le_of_ble_eq_true rfl, Nat.le_of_ble_eq_true rfl, Nat.le_of_ble_eq_true rfl, Nat.le_of_ble_eq_true rfl⟩ (fun r4 M4 h4 => ?_)
      rw [h4.1, h4.2]
      refine G_icmp_ge (tgt := 40) F dX2_takeWord_7 (by decide) (fun h7 => ?_) (fun h7 => ?_)
      · rw [nI_leI (by omega) (by omega)] at h7
        have hib : i = bs.length := by omega
        refine G_iconst (v := 1) F dX2_takeWord_40 rfl ?_
        refine G_iret F Rt dX2_takeWord_41 (rfl) ⟨rfl, rfl, _, rfl, ?_⟩ (Nat.le_refl _) (Nat.le_refl _)
        have hT : (true, b) = (tw (hr (M 36) len) bs a) := by rw [← g6, hib, List.drop_length]; rfl
        exact ⟨by rw [← hT]; rfl, g1, by rw [← hT]; exact ha1, g3⟩
      · rw [nI_leI (by omega) (by omega)] at h7
        have hci : bs.getD i 0 ≠ -1 := hne _ (by rw [List.getD_eq_getElem?_getD, List.getElem?_eq_getElem (show i < bs.length by omega)]; exact List.getElem_mem (show i < bs.length by omega))
        refine G_aload_n F dX2_takeWord_10 rfl ?_
        refine G_aload_n F dX2_takeWord_11 rfl ?_
        refine G_iload_n F dX2_takeWord_12 rfl ?_
        refine G_callK F hq rfl mv_X2_81 dX2_takeWord_13 (s_charAt hl ad _ M' hq (j := i) (by omega) hok.1 (hok.2 i (by omega))) rfl rfl (Nat.le_of_ble_eq_true rfl) ⟨Nat.le_of_ble_eq_true rfl, Nat.le_of_ble_eq_true rfl, Nat.le_of_ble_eq_true rfl, Nat.le_of_ble_eq_true rfl⟩ (fun r13 M13 h13 => ?_)
        rw [h13.1, h13.2]
        refine G_vI F mv_X2_51 dX2_takeWord_16 (s_sees hl ad sw tl M' (bs.getD i 0) (len := len) (a := b) (by rw [g3 1 (by decide)]; exact hl1) hl60 ha1 hab (hne _ (by rw [List.getD_eq_getElem?_getD, List.getElem?_eq_getElem (show i < bs.length by omega)]; exact List.getElem_mem (show i < bs.length by omega)))) rfl rfl rfl rfl (Nat.le_of_ble_eq_true rfl) ⟨Nat.le_of_ble_eq_true rfl, Nat.le_of_ble_eq_true rfl, Nat.le_of_ble_eq_true rfl, Nat.le_of_ble_eq_true rfl⟩ (fun r16 M16 h16 => ?_)
        rw [h16.1, h16.2, g1 36 (by decide)]
        refine G_if_ne (tgt := 24) F dX2_takeWord_19 (by decide) (fun h19 => ?_) (fun h19 => ?_)
        · have hd : (hr (M 36) len) b = bs.getD i 0 := by simpa using h19
          refine G_aload_n F dX2_takeWord_24 rfl ?_
          refine G_dup F dX2_takeWord_25 rfl ?_
          refine G_geti F fl_X2_19 dX2_takeWord_26 rfl rfl ?_
          try simp only [fx_u_at, Nat.reduceEqDiff, false_and, and_false, true_and, and_true, ↓reduceIte, ha1]
          refine G_iconst (v := 1) F dX2_takeWord_29 rfl ?_
          refine G_iadd F dX2_takeWord_30 ?_
          refine G_puti F fl_X2_19 dX2_takeWord_31 rfl rfl rfl rfl ?_
          refine G_iinc F (1) dX2_takeWord_34 rfl rfl rfl rfl ?_
          simp only [List.set_cons_zero, List.set_cons_succ, nI_1]
          refine G_goto (tgt := 2) F dX2_takeWord_37 (by decide) ?_
          have hb1 := (hr_eq (ch := M 36) (len := len) (a := b) hci).mp hd
          refine ih (bs.length - (i + 1)) (by omega) (i + 1) _ (b + 1) rfl (by omega) (by omega) (g1.u (by decide)) (by rw [fx_u_at, if_pos ⟨rfl, rfl⟩]) (fun j j1 => by simp only [fx_u_at, j1, and_false, if_false]; exact g3 j j1) ?_
          rw [← g6, List.drop_eq_getElem_cons (show i < bs.length by omega)]
          simp only [tw]
          rw [if_pos (by rw [hd, List.getD_eq_getElem?_getD, List.getElem?_eq_getElem (show i < bs.length by omega)]; rfl)]
        · have hd : ¬ (hr (M 36) len) b = bs.getD i 0 := by simpa using h19
          refine G_iconst (v := 0) F dX2_takeWord_22 rfl ?_
          refine G_iret F Rt dX2_takeWord_23 (rfl) ⟨rfl, rfl, _, rfl, ?_⟩ (Nat.le_refl _) (Nat.le_refl _)
          have hT : (false, b) = (tw (hr (M 36) len) bs a) := by
            rw [← g6, List.drop_eq_getElem_cons (show i < bs.length by omega)]
            simp only [tw]
            rw [if_neg (fun q => hd (by rw [q, List.getD_eq_getElem?_getD, List.getElem?_eq_getElem (show i < bs.length by omega)]; rfl))]
          exact ⟨by rw [← hT]; rfl, g1, by rw [← hT]; exact ha1, g3⟩
  refine G_iconst (v := nI 0) F dX2_takeWord_0 (by decide) ?_
  refine G_istore_n F 2 dX2_takeWord_1 rfl rfl rfl (Nat.le_of_ble_eq_true rfl) ?_
  simp only [List.set_cons_zero, List.set_cons_succ]
  exact lp bs.length 0 M a rfl (by omega) hal fr.rfl ha (fun _ _ => rfl) rfl
