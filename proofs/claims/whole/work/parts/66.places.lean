/-! THE REFERENCE: bytes, addresses -/
set_option maxRecDepth 20000 in
theorem t_branchBytesR {l : Launch} {Z : fx_Z} (hl : l.stackTraces = false) (ad : Nat → Nat) (sw : Bool) (tl : List fx_Sh) (M : fx_M) {b : Nat} (hb : b < 16) : CI l Z yX8_branchBytes (.code yX8_branchBytes cX8_branchBytes 2 (some .int)) 0 [.ref (ad 37), .int (nI b)] ad (c_C sw ++ (m_C ++ tl)) M (fun r m => r = (if M 53 b < 2 ∨ ¬ M 53 b ≤ 4 then 0 else if M 54 b = 0 then 2 else 6) ∧ m = M) := by
  refine CT_of (ret := (some .int)) (lv0 := [some (.ref (ad 37)), some (.int (nI b))]) (by decide +kernel) hl (by simp [Value.category]) (Nat.le_of_ble_eq_true rfl) rfl ?_
  intro X F Rt _
  refine G_aload_n F dX8_branchBytes_0 rfl ?_
  refine G_getr F fl_X8_63 dX8_branchBytes_1 rfl rfl ?_
  refine G_iload_n F dX8_branchBytes_4 rfl ?_
  refine G_ialdN F dX8_branchBytes_5 rfl (by omega) (by decide) ?_
  refine G_iconst (v := 2) F dX8_branchBytes_6 rfl ?_
  refine G_icmp_lt (tgt := 20) F dX8_branchBytes_7 (by decide) (fun h7 => ?_) (fun h7 => ?_)
  · refine G_iconst (v := 0) F dX8_branchBytes_20 rfl ?_
    refine G_goto (tgt := 39) F dX8_branchBytes_21 (by decide) ?_
    refine G_iret F Rt dX8_branchBytes_39 (rfl) ⟨rfl, rfl, _, rfl, ?_⟩ (Nat.le_refl _) (Nat.le_refl _)
    first | exact ⟨(if_pos (Or.inl h7)).symm, rfl⟩ | exact ⟨(if_pos (Or.inr h17)).symm, rfl⟩ | exact ⟨by rw [if_neg (fun q => q.elim h7 (fun z => z h17)), if_pos h30], rfl⟩ | exact ⟨by rw [if_neg (fun q => q.elim h7 (fun z => z h17)), if_neg h30], rfl⟩
  · refine G_aload_n F dX8_branchBytes_10 rfl ?_
    refine G_getr F fl_X8_63 dX8_branchBytes_11 rfl rfl ?_
    refine G_iload_n F dX8_branchBytes_14 rfl ?_
    refine G_ialdN F dX8_branchBytes_15 rfl (by omega) (by decide) ?_
    refine G_iconst (v := 4) F dX8_branchBytes_16 rfl ?_
    refine G_icmp_le (tgt := 24) F dX8_branchBytes_17 (by decide) (fun h17 => ?_) (fun h17 => ?_)
    · refine G_aload_n F dX8_branchBytes_24 rfl ?_
      refine G_getr F fl_X8_66 dX8_branchBytes_25 rfl rfl ?_
      refine G_iload_n F dX8_branchBytes_28 rfl ?_
      refine G_zaldN F dX8_branchBytes_29 rfl (by omega) (by decide) ?_
      refine G_if_eq (tgt := 38) F dX8_branchBytes_30 (by decide) (fun h30 => ?_) (fun h30 => ?_)
      · refine G_iconst (v := 2) F dX8_branchBytes_38 rfl ?_
        refine G_iret F Rt dX8_branchBytes_39 (rfl) ⟨rfl, rfl, _, rfl, ?_⟩ (Nat.le_refl _) (Nat.le_refl _)
        first | exact ⟨(if_pos (Or.inl h7)).symm, rfl⟩ | exact ⟨(if_pos (Or.inr h17)).symm, rfl⟩ | exact ⟨by rw [if_neg (fun q => q.elim h7 (fun z => z h17)), if_pos h30], rfl⟩ | exact ⟨by rw [if_neg (fun q => q.elim h7 (fun z => z h17)), if_neg h30], rfl⟩
      · refine G_bipush (v := 6) F dX8_branchBytes_33 rfl ?_
        refine G_goto (tgt := 39) F dX8_branchBytes_35 (by decide) ?_
        refine G_iret F Rt dX8_branchBytes_39 (rfl) ⟨rfl, rfl, _, rfl, ?_⟩ (Nat.le_refl _) (Nat.le_refl _)
        first | exact ⟨(if_pos (Or.inl h7)).symm, rfl⟩ | exact ⟨(if_pos (Or.inr h17)).symm, rfl⟩ | exact ⟨by rw [if_neg (fun q => q.elim h7 (fun z => z h17)), if_pos h30], rfl⟩ | exact ⟨by rw [if_neg (fun q => q.elim h7 (fun z => z h17)), if_neg h30], rfl⟩
    · refine G_iconst (v := 0) F dX8_branchBytes_20 rfl ?_
      refine G_goto (tgt := 39) F dX8_branchBytes_21 (by decide) ?_
      refine G_iret F Rt dX8_branchBytes_39 (rfl) ⟨rfl, rfl, _, rfl, ?_⟩ (Nat.le_refl _) (Nat.le_refl _)
      first | exact ⟨(if_pos (Or.inl h7)).symm, rfl⟩ | exact ⟨(if_pos (Or.inr h17)).symm, rfl⟩ | exact ⟨by rw [if_neg (fun q => q.elim h7 (fun z => z h17)), if_pos h30], rfl⟩ | exact ⟨by rw [if_neg (fun q => q.elim h7 (fun z => z h17)), if_neg h30], rfl⟩
set_option maxRecDepth 20000 in
theorem t_jumpBytesR {l : Launch} {Z : fx_Z} (hl : l.stackTraces = false) (ad : Nat → Nat) (sw : Bool) (tl : List fx_Sh) (M : fx_M) {b : Nat} (hb : b < 16) : CI l Z yX8_jumpBytes (.code yX8_jumpBytes cX8_jumpBytes 2 (some .int)) 0 [.ref (ad 37), .int (nI b)] ad (c_C sw ++ (m_C ++ tl)) M (fun r m => r = (if M 53 b = 1 ∨ M 53 b = 4 then (if M 55 b = 0 then 2 else 5) else 0) ∧ m = M) := by
  refine CT_of (ret := (some .int)) (lv0 := [some (.ref (ad 37)), some (.int (nI b))]) (by decide +kernel) hl (by simp [Value.category]) (Nat.le_of_ble_eq_true rfl) rfl ?_
  intro X F Rt _
  refine G_aload_n F dX8_jumpBytes_0 rfl ?_
  refine G_getr F fl_X8_63 dX8_jumpBytes_1 rfl rfl ?_
  refine G_iload_n F dX8_jumpBytes_4 rfl ?_
  refine G_ialdN F dX8_jumpBytes_5 rfl (by omega) (by decide) ?_
  refine G_iconst (v := 1) F dX8_jumpBytes_6 rfl ?_
  refine G_icmp_eq (tgt := 24) F dX8_jumpBytes_7 (by decide) (fun h7 => ?_) (fun h7 => ?_)
  · refine G_aload_n F dX8_jumpBytes_24 rfl ?_
    refine G_getr F fl_X8_69 dX8_jumpBytes_25 rfl rfl ?_
    refine G_iload_n F dX8_jumpBytes_28 rfl ?_
    refine G_zaldN F dX8_jumpBytes_29 rfl (by omega) (by decide) ?_
    refine G_if_eq (tgt := 37) F dX8_jumpBytes_30 (by decide) (fun h30 => ?_) (fun h30 => ?_)
    · refine G_iconst (v := 2) F dX8_jumpBytes_37 rfl ?_
      refine G_iret F Rt dX8_jumpBytes_38 (rfl) ⟨rfl, rfl, _, rfl, ?_⟩ (Nat.le_refl _) (Nat.le_refl _)
      first | exact ⟨by rw [if_pos (Or.inl h7), if_pos h30], rfl⟩ | exact ⟨by rw [if_pos (Or.inl h7), if_neg h30], rfl⟩ | exact ⟨by rw [if_pos (Or.inr h17), if_pos h30], rfl⟩ | exact ⟨by rw [if_pos (Or.inr h17), if_neg h30], rfl⟩ | exact ⟨(if_neg (fun q => q.elim h7 h17)).symm, rfl⟩
    · refine G_iconst (v := 5) F dX8_jumpBytes_33 rfl ?_
      refine G_goto (tgt := 38) F dX8_jumpBytes_34 (by decide) ?_
      refine G_iret F Rt dX8_jumpBytes_38 (rfl) ⟨rfl, rfl, _, rfl, ?_⟩ (Nat.le_refl _) (Nat.le_refl _)
      first | exact ⟨by rw [if_pos (Or.inl h7), if_pos h30], rfl⟩ | exact ⟨by rw [if_pos (Or.inl h7), if_neg h30], rfl⟩ | exact ⟨by rw [if_pos (Or.inr h17), if_pos h30], rfl⟩ | exact ⟨by rw [if_pos (Or.inr h17), if_neg h30], rfl⟩ | exact ⟨(if_neg (fun q => q.elim h7 h17)).symm, rfl⟩
  · refine G_aload_n F dX8_jumpBytes_10 rfl ?_
    refine G_getr F fl_X8_63 dX8_jumpBytes_11 rfl rfl ?_
    refine G_iload_n F dX8_jumpBytes_14 rfl ?_
    refine G_ialdN F dX8_jumpBytes_15 rfl (by omega) (by decide) ?_
    refine G_iconst (v := 4) F dX8_jumpBytes_16 rfl ?_
    refine G_icmp_eq (tgt := 24) F dX8_jumpBytes_17 (by decide) (fun h17 => ?_) (fun h17 => ?_)
    · refine G_aload_n F dX8_jumpBytes_24 rfl ?_
      refine G_getr F fl_X8_69 dX8_jumpBytes_25 rfl rfl ?_
      refine G_iload_n F dX8_jumpBytes_28 rfl ?_
      refine G_zaldN F dX8_jumpBytes_29 rfl (by omega) (by decide) ?_
      refine G_if_eq (tgt := 37) F dX8_jumpBytes_30 (by decide) (fun h30 => ?_) (fun h30 => ?_)
      · refine G_iconst (v := 2) F dX8_jumpBytes_37 rfl ?_
        refine G_iret F Rt dX8_jumpBytes_38 (rfl) ⟨rfl, rfl, _, rfl, ?_⟩ (Nat.le_refl _) (Nat.le_refl _)
        first | exact ⟨by rw [if_pos (Or.inl h7), if_pos h30], rfl⟩ | exact ⟨by rw [if_pos (Or.inl h7), if_neg h30], rfl⟩ | exact ⟨by rw [if_pos (Or.inr h17), if_pos h30], rfl⟩ | exact ⟨by rw [if_pos (Or.inr h17), if_neg h30], rfl⟩ | exact ⟨(if_neg (fun q => q.elim h7 h17)).symm, rfl⟩
      · refine G_iconst (v := 5) F dX8_jumpBytes_33 rfl ?_
        refine G_goto (tgt := 38) F dX8_jumpBytes_34 (by decide) ?_
        refine G_iret F Rt dX8_jumpBytes_38 (rfl) ⟨rfl, rfl, _, rfl, ?_⟩ (Nat.le_refl _) (Nat.le_refl _)
        first | exact ⟨by rw [if_pos (Or.inl h7), if_pos h30], rfl⟩ | exact ⟨by rw [if_pos (Or.inl h7), if_neg h30], rfl⟩ | exact ⟨by rw [if_pos (Or.inr h17), if_pos h30], rfl⟩ | exact ⟨by rw [if_pos (Or.inr h17), if_neg h30], rfl⟩ | exact ⟨(if_neg (fun q => q.elim h7 h17)).symm, rfl⟩
    · refine G_iconst (v := 0) F dX8_jumpBytes_20 rfl ?_
      refine G_goto (tgt := 38) F dX8_jumpBytes_21 (by decide) ?_
      refine G_iret F Rt dX8_jumpBytes_38 (rfl) ⟨rfl, rfl, _, rfl, ?_⟩ (Nat.le_refl _) (Nat.le_refl _)
      first | exact ⟨by rw [if_pos (Or.inl h7), if_pos h30], rfl⟩ | exact ⟨by rw [if_pos (Or.inl h7), if_neg h30], rfl⟩ | exact ⟨by rw [if_pos (Or.inr h17), if_pos h30], rfl⟩ | exact ⟨by rw [if_pos (Or.inr h17), if_neg h30], rfl⟩ | exact ⟨(if_neg (fun q => q.elim h7 h17)).symm, rfl⟩
/-- bytes of a branch and of a jump go with a form -/
def bjv (fm : Int32) (x z : Nat) : Prop := (((fm = 2 ∨ fm = 3 ∨ fm = 4) ∧ (x = 2 ∨ x = 6)) ∨ ((fm = 0 ∨ fm = 1 ∨ fm = 5) ∧ x = 0)) ∧ (((fm = 1 ∨ fm = 4) ∧ (z = 2 ∨ z = 5)) ∨ ((fm = 0 ∨ fm = 2 ∨ fm = 3 ∨ fm = 5) ∧ z = 0))
theorem bjv_b {fm L : Int32} {x z : Nat} (h : bjv fm x z) (hL : L = if x = 6 then 1 else 0) : (if fm < 2 ∨ ¬ fm ≤ 4 then (0 : Int32) else if L = 0 then 2 else 6) = nI x := by
  rcases h.1 with ⟨h | h | h, e | e⟩ | ⟨h | h | h, e⟩ <;> subst h <;> subst e <;> subst hL <;> decide
theorem bjv_j {fm L : Int32} {x z : Nat} (h : bjv fm x z) (hL : L = if z = 5 then 1 else 0) : (if fm = 1 ∨ fm = 4 then (if L = 0 then (2 : Int32) else 5) else 0) = nI z := by
  rcases h.2 with ⟨h | h, e | e⟩ | ⟨h | h | h | h, e⟩ <;> subst h <;> subst e <;> subst hL <;> decide
theorem bjv_le {fm : Int32} {x z : Nat} (h : bjv fm x z) : x ≤ 6 ∧ z ≤ 5 := by
  constructor
  · rcases h.1 with ⟨-, e | e⟩ | ⟨-, e⟩ <;> omega
  · rcases h.2 with ⟨-, e | e⟩ | ⟨-, e⟩ <;> omega
theorem t_branchBytes {l : Launch} {Z : fx_Z} (hl : l.stackTraces = false) (ad : Nat → Nat) (sw : Bool) (tl : List fx_Sh) (M : fx_M) {b x z : Nat} (hb : b < 16) (hfm : bjv (M 53 b) x z) (h54 : M 54 b = if x = 6 then 1 else 0) (h55 : M 55 b = if z = 5 then 1 else 0) : CI l Z yX8_branchBytes (.code yX8_branchBytes cX8_branchBytes 2 (some .int)) 0 [.ref (ad 37), .int (nI b)] ad (c_C sw ++ (m_C ++ tl)) M (fun r m => r = nI x ∧ m = M) := (t_branchBytesR hl ad sw tl M hb).mono (fun r m h => ⟨by rw [h.1]; exact bjv_b hfm h54, h.2⟩)
theorem t_jumpBytes {l : Launch} {Z : fx_Z} (hl : l.stackTraces = false) (ad : Nat → Nat) (sw : Bool) (tl : List fx_Sh) (M : fx_M) {b x z : Nat} (hb : b < 16) (hfm : bjv (M 53 b) x z) (h54 : M 54 b = if x = 6 then 1 else 0) (h55 : M 55 b = if z = 5 then 1 else 0) : CI l Z yX8_jumpBytes (.code yX8_jumpBytes cX8_jumpBytes 2 (some .int)) 0 [.ref (ad 37), .int (nI b)] ad (c_C sw ++ (m_C ++ tl)) M (fun r m => r = nI z ∧ m = M) := (t_jumpBytesR hl ad sw tl M hb).mono (fun r m h => ⟨by rw [h.1]; exact bjv_j hfm h55, h.2⟩)
set_option maxRecDepth 20000 in
theorem t_bytes {l : Launch} {Z : fx_Z} (hl : l.stackTraces = false) (ad : Nat → Nat) (sw : Bool) (tl : List fx_Sh) (M : fx_M) {b x z : Nat} (hb : b < 16) (hfm : bjv (M 53 b) x z) (h54 : M 54 b = if x = 6 then 1 else 0) (h55 : M 55 b = if z = 5 then 1 else 0) : CI l Z yX8_bytes (.code yX8_bytes cX8_bytes 2 (some .int)) 1 [.ref (ad 37), .int (nI b)] ad (c_C sw ++ (m_C ++ tl)) M (fun r m => r = nI (if M 53 b = 5 then 1 else x + z) ∧ m = M) := by
  refine CT_of (ret := (some .int)) (lv0 := [some (.ref (ad 37)), some (.int (nI b))]) (by decide +kernel) hl (by simp [Value.category]) (Nat.le_of_ble_eq_true rfl) rfl ?_
  intro X F Rt _
  refine G_aload_n F dX8_bytes_0 rfl ?_
  refine G_getr F fl_X8_63 dX8_bytes_1 rfl rfl ?_
  refine G_iload_n F dX8_bytes_4 rfl ?_
  refine G_ialdN F dX8_bytes_5 rfl (by omega) (by decide) ?_
  refine G_iconst (v := 5) F dX8_bytes_6 rfl ?_
  refine G_icmp_ne (tgt := 14) F dX8_bytes_7 (by decide) (fun h7 => ?_) (fun h7 => ?_)
  · refine G_aload_n F dX8_bytes_14 rfl ?_
    refine G_iload_n F dX8_bytes_15 rfl ?_
    refine G_vI F mv_X8_167 dX8_bytes_16 (t_branchBytes hl ad sw tl M (b := b) (x := x) (z := z) hb hfm h54 h55) rfl rfl rfl rfl (Nat.le_of_ble_eq_true rfl) ⟨Nat.le_of_ble_eq_true rfl, Nat.le_of_ble_eq_true rfl, Nat.le_of_ble_eq_true rfl, Nat.le_of_ble_eq_true rfl⟩ (fun r16 M16 h16 => ?_)
    rw [h16.1, h16.2]
    refine G_aload_n F dX8_bytes_19 rfl ?_
    refine G_iload_n F dX8_bytes_20 rfl ?_
    refine G_vI F mv_X8_170 dX8_bytes_21 (t_jumpBytes hl ad sw tl M (b := b) (x := x) (z := z) hb hfm h54 h55) rfl rfl rfl rfl (Nat.le_of_ble_eq_true rfl) ⟨Nat.le_of_ble_eq_true rfl, Nat.le_of_ble_eq_true rfl, Nat.le_of_ble_eq_true rfl, Nat.le_of_ble_eq_true rfl⟩ (fun r21 M21 h21 => ?_)
    rw [h21.1, h21.2]
    refine G_iadd F dX8_bytes_24 ?_
    refine G_iret F Rt dX8_bytes_25 (rfl) ⟨rfl, rfl, _, rfl, ?_⟩ (Nat.le_refl _) (Nat.le_refl _)
    first | exact ⟨by rw [if_neg h7, ← nI_add], rfl⟩ | exact ⟨by rw [if_pos h7]; rfl, rfl⟩
  · refine G_iconst (v := 1) F dX8_bytes_10 rfl ?_
    refine G_goto (tgt := 25) F dX8_bytes_11 (by decide) ?_
    refine G_iret F Rt dX8_bytes_25 (rfl) ⟨rfl, rfl, _, rfl, ?_⟩ (Nat.le_refl _) (Nat.le_refl _)
    first | exact ⟨by rw [if_neg h7, ← nI_add], rfl⟩ | exact ⟨by rw [if_pos h7]; rfl, rfl⟩
theorem lifted_eq {v s : Nat} (hv : v < 4096) (hs : isAl s) : (nI v + nI s - 1) / nI s * nI s = nI (lift v s) := by
  have h : ∀ s ∈ [1, 2, 4, 8, 16, 32, 64], ∀ q, q < 64 → ∀ r, r < 64 → (nI (64 * q + r) + nI s - 1) / nI s * nI s = nI (lift (64 * q + r) s) := by decide +kernel
  have h1 := h s (by rcases hs with h | h | h | h | h | h | h <;> subst h <;> decide) (v / 64) (by omega) (v % 64) (by omega)
  rw [Nat.div_add_mod] at h1
  exact h1
theorem isAl_ne {s : Nat} (hs : isAl s) : ¬ nI s = 0 := by
  rcases hs with h | h | h | h | h | h | h <;> subst h <;> decide
set_option maxRecDepth 20000 in
theorem t_lifted {l : Launch} {Z : fx_Z} (hl : l.stackTraces = false) (ad : Nat → Nat) (S : List fx_Sh) (M : fx_M) {v s : Nat} (hv : v < 4096) (hs : isAl s) : CI l Z yX8_lifted (.code yX8_lifted cX8_lifted 2 (some .int)) 0 [.int (nI v), .int (nI s)] ad S M (fun r m => r = nI (lift v s) ∧ m = M) := by
  refine CT_of (ret := (some .int)) (lv0 := [some (.int (nI v)), some (.int (nI s))]) (by decide +kernel) hl (by simp [Value.category]) (Nat.le_of_ble_eq_true rfl) rfl ?_
  intro X F Rt _
  refine G_iload_n F dX8_lifted_0 rfl ?_
  refine G_iload_n F dX8_lifted_1 rfl ?_
  refine G_iadd F dX8_lifted_2 ?_
  refine G_iconst (v := 1) F dX8_lifted_3 rfl ?_
  refine G_isub F dX8_lifted_4 ?_
  refine G_iload_n F dX8_lifted_5 rfl ?_
  refine G_idiv F dX8_lifted_6 (by exact isAl_ne hs) ?_
  refine G_iload_n F dX8_lifted_7 rfl ?_
  refine G_imul F dX8_lifted_8 ?_
  refine G_iret F Rt dX8_lifted_9 (rfl) ⟨rfl, rfl, _, rfl, ?_⟩ (Nat.le_refl _) (Nat.le_refl _)
  exact ⟨lifted_eq hv hs, rfl⟩
theorem far_in {a e : Nat} (ha : a < 2 ^ 30) (he : e < 2 ^ 30) : (if (-128 : Int32) ≤ nI a - nI e ∧ nI a - nI e ≤ 127 then (1 : Int32) else 0) = if far a e then 0 else 1 := by
  have hd := nI_subI ha he
  have e1 : (-128 : Int32).toInt = -128 := by decide
  have e2 : (127 : Int32).toInt = 127 := by decide
  have hi : ((-128 : Int32) ≤ nI a - nI e ∧ nI a - nI e ≤ 127) ↔ ¬ ((a : Int) - e < -128 ∨ (a : Int) - e > 127) := by
    simp only [Int32.le_iff_toInt_le, hd, e1, e2]
    omega
  unfold far
  by_cases q : (a : Int) - e < -128 ∨ (a : Int) - e > 127
  · rw [if_neg (fun z => hi.mp z q), decide_eq_true q]; rfl
  · rw [if_pos (hi.mpr q), decide_eq_false q]; rfl
set_option maxRecDepth 20000 in
theorem t_isFar {l : Launch} {Z : fx_Z} (hl : l.stackTraces = false) (ad : Nat → Nat) (S : List fx_Sh) (M : fx_M) {a e : Nat} (ha : a < 2 ^ 30) (he : e < 2 ^ 30) : CI l Z yX8_isFar (.code yX8_isFar cX8_isFar 2 (some .boolean)) 1 [.int (nI e), .int (nI a)] ad S M (fun r m => r = (if far a e then 1 else 0) ∧ m = M) := by
  refine CT_of (ret := (some .boolean)) (lv0 := [some (.int (nI e)), some (.int (nI a))]) (by decide +kernel) hl (by simp [Value.category]) (Nat.le_of_ble_eq_true rfl) rfl ?_
  intro X F Rt _
  refine G_iload_n F dX8_isFar_0 rfl ?_
  refine G_iload_n F dX8_isFar_1 rfl ?_
  refine G_isub F dX8_isFar_2 ?_
  refine G_bipush (v := -128) F dX8_isFar_3 rfl ?_
  refine G_bipush (v := 127) F dX8_isFar_5 rfl ?_
  refine G_sI F ms_X8_109 dX8_isFar_7 (t_isIn hl ad _ M (nI a - nI e) (-128) 127) rfl rfl (Nat.le_of_ble_eq_true rfl) ⟨Nat.le_of_ble_eq_true rfl, Nat.le_of_ble_eq_true rfl, Nat.le_of_ble_eq_true rfl, Nat.le_of_ble_eq_true rfl⟩ (fun r7 M7 h7 => ?_)
  rw [h7.1, h7.2, far_in ha he]
  refine G_if_ne (tgt := 17) F dX8_isFar_10 (by decide) (fun h10 => ?_) (fun h10 => ?_)
  · refine G_iconst (v := 0) F dX8_isFar_17 rfl ?_
    refine G_iret F Rt dX8_isFar_18 (rfl) ⟨rfl, rfl, _, rfl, ?_⟩ (Nat.le_refl _) (Nat.le_refl _)
    clear F Rt
    refine ⟨?_, rfl⟩
    cases hf : far a e <;> simp_all
  · refine G_iconst (v := 1) F dX8_isFar_13 rfl ?_
    refine G_goto (tgt := 18) F dX8_isFar_14 (by decide) ?_
    refine G_iret F Rt dX8_isFar_18 (rfl) ⟨rfl, rfl, _, rfl, ?_⟩ (Nat.le_refl _) (Nat.le_refl _)
    clear F Rt
    refine ⟨?_, rfl⟩
    cases hf : far a e <;> simp_all
set_option maxRecDepth 20000 in
theorem t_places {l : Launch} {Z : fx_Z} (hl : l.stackTraces = false) (ad : Nat → Nat) (sw : Bool) (tl : List fx_Sh) (M : fx_M) {N al : Nat} {sz bs bb jb : Nat → Nat} (hs : Int32) (hN : M 37 0 = nI N) (hN16 : N ≤ 16) (hN1 : 1 ≤ N) {hot : Nat} {rw pos : Nat → Nat} (hhot : M 37 3 = nI hot) (hhotN : hot ≤ N) (hpm : pm N rw pos) (hr : ∀ j, j < N → M 46 j = nI (rw j)) (hhot1 : 1 ≤ hot) (hal : M 37 1 = nI al) (ha : isAl al) (ha32 : al ≤ 32) (hsz : ∀ b, b < N → M 38 b = nI (sz b) ∧ sz b ≤ 60) (hbj : ∀ b, b < N → bjv (M 53 b) (bb b) (jb b) ∧ M 54 b = (if bb b = 6 then 1 else 0) ∧ M 55 b = (if jb b = 5 then 1 else 0)) (hbs : ∀ b, b < N → (if M 53 b = 5 then 1 else bb b + jb b) = bs b ∧ bs b ≤ 11) : CV l Z yX8_places (.code yX8_places cX8_places 6 none) 2 [.ref (ad 37), .int hs] ad (c_C sw ++ (m_C ++ tl)) M (fun m => fr [37, 51, 52] M m ∧ (∀ j, j ≠ 25 → j ≠ 26 → m 37 j = M 37 j) ∧ m 37 25 = nI (l_be hot al rw (l_hd hs (M 43) (M 37 2)) sz bs hot) ∧ m 37 26 = nI (l_be hot al rw (l_hd hs (M 43) (M 37 2)) sz bs N) ∧ ∀ b, b < N → m 51 b = nI (l_ad hot al rw pos (l_hd hs (M 43) (M 37 2)) sz bs b) ∧ m 52 b = nI (l_pd hot al rw pos (l_hd hs (M 43) (M 37 2)) sz bs b)) := by
  refine CT_of (ret := none) (lv0 := [some (.ref (ad 37)), some (.int hs), none, none, none, none]) (by decide +kernel) hl (by simp [Value.category]) (Nat.le_of_ble_eq_true rfl) rfl ?_
  intro X F Rt _
  have lp : ∀ (k : Nat) (i : Nat) (M' : fx_M), k = N - i → i ≤ N → fr [37, 51, 52] M M' → (∀ j, j ≠ 25 → j ≠ 26 → M' 37 j = M 37 j) → (hot ≤ i → M' 37 25 = nI (l_be hot al rw (l_hd hs (M 43) (M 37 2)) sz bs hot)) → (∀ b, b < N → pos b < i → M' 51 b = nI (l_ad hot al rw pos (l_hd hs (M 43) (M 37 2)) sz bs b) ∧ M' 52 b = nI (l_pd hot al rw pos (l_hd hs (M 43) (M 37 2)) sz bs b)) → GG X ad 4 [some (.ref (ad 37)), some (.int hs), some (.int (nI (l_be hot al rw (l_hd hs (M 43) (M 37 2)) sz bs i))), some (.int (nI i)), none, none] [] 0 0 (c_C sw ++ (m_C ++ tl)) M' := by
    intro k
    induction k using Nat.strongRecOn with
    | _ k ih =>
      intro i M' hk hi h0 h1 h2 h3
      have hN9 : M' 37 0 = nI N := by rw [h1 0 (by decide) (by decide)]; exact hN
      have hh1 : M' 37 3 = nI hot := by rw [h1 3 (by decide) (by decide)]; exact hhot
      have hrow : ∀ j, j < N → M' 46 j = nI (rw j) := fun j hj => by rw [h0 46 (by decide)]; exact hr j hj
      refine G_iload_n F dX8_places_4 rfl ?_
      refine G_aload_n F dX8_places_5 rfl ?_
      refine G_geti F fl_X8_106 dX8_places_6 rfl rfl ?_
      rw [hN9]
      refine G_icmp_ge (tgt := 128) F dX8_places_9 (by decide) (fun h9 => ?_) (fun h9 => ?_)
      · rw [nI_leI (by omega) (by omega)] at h9
        have hiN : i = N := by omega
        subst hiN
        refine G_aload_n F dX8_places_128 rfl ?_
        refine G_iload_n F dX8_places_129 rfl ?_
        refine G_puti F fl_X8_182 dX8_places_130 rfl rfl rfl rfl ?_
        refine G_vret F Rt dX8_places_133 ⟨rfl, rfl, rfl, ?_⟩ (Nat.le_refl _) (Nat.le_refl _)
        refine ⟨h0.u (by decide), ?_, ?_, ?_, fun b hb => ?_⟩
        · intro j j1 j2
          rw [fx_u_at, if_neg (fun q => j2 q.2)]; exact h1 j j1 j2
        · rw [fx_u_at, if_neg (by decide)]; exact h2 (by omega)
        · rw [fx_u_at, if_pos ⟨rfl, rfl⟩]
        · have := h3 b hb (hpm.2 b hb).1
          constructor <;> simp [fx_u_at, this]
      · rw [nI_leI (by omega) (by omega)] at h9
        have hpi : pos (rw i) = i := (hpm.1 i (by omega)).2
        have hB : rw i < N := (hpm.1 i (by omega)).1
        have hbe := l_be_le (hot := hot) (hd := (l_hd hs (M 43) (M 37 2))) (bs := bs) ha ha32 hpm (fun b hb => ⟨(hsz b hb).2, (hbs b hb).2⟩) i hi
        have hse := l_st_le (hot := hot) (rw := rw) (hd := (l_hd hs (M 43) (M 37 2))) (e := (l_be hot al rw (l_hd hs (M 43) (M 37 2)) sz bs i)) (i := i) ha ha32
        have h64 : isAl 64 := by simp [isAl]
        have hl64 := lift_le (v := (l_be hot al rw (l_hd hs (M 43) (M 37 2)) sz bs i)) h64
        have hs0 : (if i = hot then lift (l_be hot al rw (l_hd hs (M 43) (M 37 2)) sz bs i) 64 else (l_be hot al rw (l_hd hs (M 43) (M 37 2)) sz bs i)) < 4096 := by split <;> omega
        have t122 : ∀ m : fx_M, fr [37, 51, 52] M m → (∀ j, j ≠ 25 → j ≠ 26 → m 37 j = M 37 j) → (hot ≤ i + 1 → m 37 25 = nI (l_be hot al rw (l_hd hs (M 43) (M 37 2)) sz bs hot)) → (∀ b, b < N → pos b < i + 1 → m 51 b = nI (l_ad hot al rw pos (l_hd hs (M 43) (M 37 2)) sz bs b) ∧ m 52 b = nI (l_pd hot al rw pos (l_hd hs (M 43) (M 37 2)) sz bs b)) → GG X ad 122 [some (.ref (ad 37)), some (.int hs), some (.int (nI (l_be hot al rw (l_hd hs (M 43) (M 37 2)) sz bs (i + 1)))), some (.int (nI i)), some (.int (nI (rw i))), some (.int (nI (l_be hot al rw (l_hd hs (M 43) (M 37 2)) sz bs i)))] [] 0 0 (c_C sw ++ (m_C ++ tl)) m := by
          intro m g0 g1 g2 g3
          refine G_iinc F (1) dX8_places_122 rfl rfl rfl rfl ?_
          simp only [List.set_cons_zero, List.set_cons_succ, nI_1]
          refine G_goto (tgt := 4) F dX8_places_125 (by decide) ?_
          refine G_drop F 4 ?_
          refine G_drop F 5 ?_
          simp only [List.set_cons_zero, List.set_cons_succ]
          exact ih (N - (i + 1)) (by omega) (i + 1) _ rfl (by omega) g0 g1 g2 g3
        have t71 : GG X ad 71 [some (.ref (ad 37)), some (.int hs), some (.int (nI (l_st hot al rw (l_hd hs (M 43) (M 37 2)) (l_be hot al rw (l_hd hs (M 43) (M 37 2)) sz bs i) i))), some (.int (nI i)), some (.int (nI (rw i))), some (.int (nI (l_be hot al rw (l_hd hs (M 43) (M 37 2)) sz bs i)))] [] 0 0 (c_C sw ++ (m_C ++ tl)) M' := by
          refine G_aload_n F dX8_places_71 rfl ?_
          refine G_getr F fl_X8_57 dX8_places_72 rfl rfl ?_
          refine G_iload F dX8_places_75 rfl ?_
          refine G_iload_n F dX8_places_77 rfl ?_
          refine G_iastN F dX8_places_78 rfl (by omega) (by decide) ?_
          refine G_aload_n F dX8_places_79 rfl ?_
          refine G_getr F fl_X8_60 dX8_places_80 rfl rfl ?_
          refine G_iload F dX8_places_83 rfl ?_
          refine G_iload_n F dX8_places_85 rfl ?_
          refine G_iload F dX8_places_86 rfl ?_
          refine G_isub F dX8_places_88 ?_
          rw [nI_sub hse.1]
          refine G_iastN F dX8_places_89 rfl (by omega) (by decide) ?_
          refine G_iload_n F dX8_places_90 rfl ?_
          refine G_aload_n F dX8_places_91 rfl ?_
          refine G_getr F fl_X8_16 dX8_places_92 rfl rfl ?_
          refine G_iload F dX8_places_95 rfl ?_
          refine G_ialdN F dX8_places_97 rfl (by omega) (by decide) ?_
          rw [fx_u_ne (by decide), fx_u_ne (by decide), h0 38 (by decide), (hsz (rw i) hB).1]
          refine G_aload_n F dX8_places_98 rfl ?_
          refine G_iload F dX8_places_99 rfl ?_
          refine G_vI F mv_X8_176 dX8_places_101 (t_bytes hl ad sw tl _ (b := rw i) (x := bb (rw i)) (z := jb (rw i)) (by omega) (by rw [fx_u_ne (by decide), fx_u_ne (by decide), h0 53 (by decide)]; exact (hbj (rw i) hB).1) (by rw [fx_u_ne (by decide), fx_u_ne (by decide), h0 54 (by decide)]; exact (hbj (rw i) hB).2.1) (by rw [fx_u_ne (by decide), fx_u_ne (by decide), h0 55 (by decide)]; exact (hbj (rw i) hB).2.2)) rfl rfl rfl rfl (Nat.le_of_ble_eq_true rfl) ⟨Nat.le_of_ble_eq_true rfl, Nat.le_of_ble_eq_true rfl, Nat.le_of_ble_eq_true rfl, Nat.le_of_ble_eq_true rfl⟩ (fun r101 M101 h101 => ?_)
          rw [h101.1, h101.2]
          simp only [fx_uN, Nat.reduceEqDiff, ↓reduceIte]
          rw [h0 53 (by decide), show (if M 53 (rw i) = 5 then 1 else bb (rw i) + jb (rw i)) = bs (rw i) from (hbs (rw i) hB).1]
          refine G_iadd F dX8_places_104 ?_
          rw [nI_add]
          refine G_iadd F dX8_places_105 ?_
          rw [nI_add, show (l_st hot al rw (l_hd hs (M 43) (M 37 2)) (l_be hot al rw (l_hd hs (M 43) (M 37 2)) sz bs i) i) + (sz (rw i) + bs (rw i)) = (l_be hot al rw (l_hd hs (M 43) (M 37 2)) sz bs (i + 1)) from (Nat.add_assoc _ _ _).symm]
          refine G_istore_n F 2 dX8_places_106 rfl rfl rfl (Nat.le_of_ble_eq_true rfl) ?_
          simp only [List.set_cons_zero, List.set_cons_succ]
          refine G_iload_n F dX8_places_107 rfl ?_
          refine G_aload_n F dX8_places_108 rfl ?_
          refine G_geti F fl_X8_113 dX8_places_109 rfl rfl ?_
          refine G_iconst (v := 1) F dX8_places_112 rfl ?_
          refine G_isub F dX8_places_113 ?_
          rw [fx_u_ne (by decide), fx_u_ne (by decide), hh1, show (1 : Int32) = nI 1 from by decide, nI_sub hhot1]
          refine G_icmp_ne (tgt := 122) F dX8_places_114 (by decide) (fun h114 => ?_) (fun h114 => ?_)
          · rw [nI_eq (by omega) (by omega)] at h114
            exact t122 _ ((h0.u (by decide)).u (by decide)) (fun j j1 j2 => by rw [fx_u_ne (by decide), fx_u_ne (by decide)]; exact h1 j j1 j2) (fun q => by rw [fx_u_ne (by decide), fx_u_ne (by decide)]; exact h2 (by omega)) (fun b hb hpb => by
              by_cases e : b = rw i
              · subst e
                simp only [l_pd, l_ad, hpi]
                constructor <;> simp [fx_u_at]
              · have hp2 : pos b < i := by
                  have : pos b ≠ i := fun q => e (by rw [← q]; exact ((hpm.2 b hb).2).symm)
                  omega
                have := h3 b hb hp2
                constructor <;> simp [fx_u_at, e, this])
          · rw [nI_eq (by omega) (by omega)] at h114
            refine G_aload_n F dX8_places_117 rfl ?_
            refine G_iload_n F dX8_places_118 rfl ?_
            refine G_puti F fl_X8_179 dX8_places_119 rfl rfl rfl rfl ?_
            exact t122 _ (((h0.u (by decide)).u (by decide)).u (by decide)) (fun j j1 j2 => by rw [fx_u_at, if_neg (fun q => j1 q.2), fx_u_ne (by decide), fx_u_ne (by decide)]; exact h1 j j1 j2) (fun q => by rw [fx_u_at, if_pos ⟨rfl, rfl⟩, show hot = i + 1 from by omega]) (fun b hb hpb => by
              by_cases e : b = rw i
              · subst e
                simp only [l_pd, l_ad, hpi]
                constructor <;> simp [fx_u_at]
              · have hp2 : pos b < i := by
                  have : pos b ≠ i := fun q => e (by rw [← q]; exact ((hpm.2 b hb).2).symm)
                  omega
                have := h3 b hb hp2
                constructor <;> simp [fx_u_at, e, this])
        have t38 : GG X ad 38 [some (.ref (ad 37)), some (.int hs), some (.int (nI (if i = hot then lift (l_be hot al rw (l_hd hs (M 43) (M 37 2)) sz bs i) 64 else (l_be hot al rw (l_hd hs (M 43) (M 37 2)) sz bs i)))), some (.int (nI i)), some (.int (nI (rw i))), some (.int (nI (l_be hot al rw (l_hd hs (M 43) (M 37 2)) sz bs i)))] [] 0 0 (c_C sw ++ (m_C ++ tl)) M' := by
          refine G_iload_n F dX8_places_38 rfl ?_
          refine G_iload F dX8_places_39 rfl ?_
          refine G_ishr F dX8_places_41 ?_
          rw [nI_sh (by omega)]
          refine G_iconst (v := 1) F dX8_places_42 rfl ?_
          refine G_iand F dX8_places_43 ?_
          refine G_iconst (v := 1) F dX8_places_44 rfl ?_
          refine G_icmp_ne (tgt := 71) F dX8_places_45 (by decide) (fun h45 => ?_) (fun h45 => ?_)
          · have hh : (l_hd hs (M 43) (M 37 2)) (rw i) = false := by
              unfold l_hd
              have : bt hs (rw i) = false := by
                rw [bt_false]
                rcases and1 (hs >>> nI (rw i)) with q | q
                · exact q
                · exact absurd q h45
              simp [this]
            have q := t71
            unfold l_st at q
            simp only [hh, Bool.false_eq_true, ↓reduceIte] at q
            exact q
          · refine G_aload_n F dX8_places_48 rfl ?_
            refine G_getr F fl_X8_32 dX8_places_49 rfl rfl ?_
            refine G_iload F dX8_places_52 rfl ?_
            refine G_ialdN F dX8_places_54 rfl (by omega) (by decide) ?_
            rw [h0 43 (by decide)]
            refine G_aload_n F dX8_places_55 rfl ?_
            refine G_geti F fl_X8_13 dX8_places_56 rfl rfl ?_
            rw [h1 2 (by decide) (by decide)]
            refine G_icmp_lt (tgt := 71) F dX8_places_59 (by decide) (fun h59 => ?_) (fun h59 => ?_)
            · have hh : (l_hd hs (M 43) (M 37 2)) (rw i) = false := by
                unfold l_hd
                simp only [Bool.and_eq_false_iff, decide_eq_false_iff_not]
                exact Or.inr (by simp only [Int32.lt_iff_toInt_lt, Int32.le_iff_toInt_le] at h59 ⊢; omega)
              have q := t71
              unfold l_st at q
              simp only [hh, Bool.false_eq_true, ↓reduceIte] at q
              exact q
            · have hh : (l_hd hs (M 43) (M 37 2)) (rw i) = true := by
                unfold l_hd
                have h1b : bt hs (rw i) = true := bt_true.mpr h45
                simp only [h1b, Bool.true_and, decide_eq_true_eq]
                simp only [Int32.lt_iff_toInt_lt, Int32.le_iff_toInt_le] at h59 ⊢; omega
              refine G_iload_n F dX8_places_62 rfl ?_
              refine G_aload_n F dX8_places_63 rfl ?_
              refine G_geti F fl_X8_7 dX8_places_64 rfl rfl ?_
              rw [h1 1 (by decide) (by decide), hal]
              refine G_sI F ms_X8_173 dX8_places_67 (t_lifted hl ad _ M' (v := (if i = hot then lift (l_be hot al rw (l_hd hs (M 43) (M 37 2)) sz bs i) 64 else (l_be hot al rw (l_hd hs (M 43) (M 37 2)) sz bs i))) (s := al) (by omega) ha) rfl rfl (Nat.le_of_ble_eq_true rfl) ⟨Nat.le_of_ble_eq_true rfl, Nat.le_of_ble_eq_true rfl, Nat.le_of_ble_eq_true rfl, Nat.le_of_ble_eq_true rfl⟩ (fun r67 M67 h67 => ?_)
              rw [h67.1, h67.2]
              refine G_istore_n F 2 dX8_places_70 rfl rfl rfl (Nat.le_of_ble_eq_true rfl) ?_
              simp only [List.set_cons_zero, List.set_cons_succ]
              have q := t71
              unfold l_st at q
              simp only [hh, Bool.false_eq_true, ↓reduceIte] at q
              exact q
        refine G_aload_n F dX8_places_12 rfl ?_
        refine G_getr F fl_X8_41 dX8_places_13 rfl rfl ?_
        refine G_iload_n F dX8_places_16 rfl ?_
        refine G_ialdN F dX8_places_17 rfl (by omega) (by decide) ?_
        rw [hrow i (by omega)]
        refine G_istore F dX8_places_18 rfl rfl (Nat.le_of_ble_eq_true rfl) ?_
        simp only [List.set_cons_zero, List.set_cons_succ]
        refine G_iload_n F dX8_places_20 rfl ?_
        refine G_istore F dX8_places_21 rfl rfl (Nat.le_of_ble_eq_true rfl) ?_
        simp only [List.set_cons_zero, List.set_cons_succ]
        refine G_iload_n F dX8_places_23 rfl ?_
        refine G_aload_n F dX8_places_24 rfl ?_
        refine G_geti F fl_X8_113 dX8_places_25 rfl rfl ?_
        rw [hh1]
        refine G_icmp_ne (tgt := 38) F dX8_places_28 (by decide) (fun h28 => ?_) (fun h28 => ?_)
        · rw [nI_eq (by omega) (by omega)] at h28
          have q := t38
          rw [if_neg h28] at q
          exact q
        · rw [nI_eq (by omega) (by omega)] at h28
          refine G_iload_n F dX8_places_31 rfl ?_
          refine G_bipush (v := nI 64) F dX8_places_32 (by decide) ?_
          refine G_sI F ms_X8_173 dX8_places_34 (t_lifted hl ad _ M' (v := (l_be hot al rw (l_hd hs (M 43) (M 37 2)) sz bs i)) (s := 64) (by omega) h64) rfl rfl (Nat.le_of_ble_eq_true rfl) ⟨Nat.le_of_ble_eq_true rfl, Nat.le_of_ble_eq_true rfl, Nat.le_of_ble_eq_true rfl, Nat.le_of_ble_eq_true rfl⟩ (fun r34 M34 h34 => ?_)
          rw [h34.1, h34.2]
          refine G_istore_n F 2 dX8_places_37 rfl rfl rfl (Nat.le_of_ble_eq_true rfl) ?_
          simp only [List.set_cons_zero, List.set_cons_succ]
          have q := t38
          rw [if_pos h28] at q
          exact q
  refine G_iconst (v := nI 0) F dX8_places_0 (by decide) ?_
  refine G_istore_n F 2 dX8_places_1 rfl rfl rfl (Nat.le_of_ble_eq_true rfl) ?_
  simp only [List.set_cons_zero, List.set_cons_succ]
  refine G_iconst (v := nI 0) F dX8_places_2 (by decide) ?_
  refine G_istore_n F 3 dX8_places_3 rfl rfl rfl (Nat.le_of_ble_eq_true rfl) ?_
  simp only [List.set_cons_zero, List.set_cons_succ]
  exact lp N 0 M rfl (by omega) fr.rfl (fun _ _ _ => rfl) (fun q => absurd q (by omega)) (fun b hb hp => absurd hp (by omega))
