/-! BLOCKLAYOUT: throws, and what several calls share -/
def nmsR : List String := ["java/lang/RuntimeException", "java/lang/Exception"]
theorem nmsR_fit : ∀ n ∈ nmsR, Bundle.fit n = true := by decide +kernel
def rxN : ByteArray := ⟨#[0x2a, 0x2b, 0xb7, 0x00, 0x0d, 0xb1]⟩
theorem rxN_0 : decode rxN 0 = .ok (.aload_n 0, 1) := by decide +kernel
theorem rxN_1 : decode rxN 1 = .ok (.aload_n 1, 1) := by decide +kernel
theorem rxN_2 : decode rxN 2 = .ok (.invokespecial 13, 3) := by decide +kernel
theorem rxN_5 : decode rxN 5 = .ok (.return_, 1) := by decide +kernel
theorem fit_IAE : Bundle.fit "java/lang/IllegalArgumentException" = true := by decide +kernel
theorem at_IAE : ∀ w ∈ vx_atS RX7 75 "java/lang/IllegalArgumentException" nmsR, w ∈ fx_ww ∨ w ∈ fx_nw := fx_inBoth [134, 607, 616, 624, 627, 629, 608, 609, 155, 156, 610, 615, 625, 645, 597, 646, 599, 647, 601, 611, 613, 603, 641, 642, 644, 603, 632, 633, 634, 635, 589, 635, 636, 637, 638, 591, 638, 639, 640, 641, 593, 631, 586, 587, 594, 595, 596, 598, 600, 602, 606, 605, 604] (by decide +kernel) (by decide +kernel)
theorem fit_IOOBE : Bundle.fit "java/lang/IndexOutOfBoundsException" = true := by decide +kernel
theorem at_IOOBE : ∀ w ∈ vx_atS RX7 155 "java/lang/IndexOutOfBoundsException" nmsR, w ∈ fx_ww ∨ w ∈ fx_nw := fx_inBoth [134, 607, 616, 624, 627, 629, 608, 609, 155, 156, 610, 615, 625, 645, 597, 646, 599, 647, 601, 611, 613, 603, 641, 642, 644, 603, 669, 670, 671, 635, 589, 635, 636, 637, 638, 591, 638, 639, 640, 641, 593, 707, 698, 699, 700, 621, 701, 702, 703, 704, 606, 605, 705] (by decide +kernel) (by decide +kernel)
theorem fit_UOE : Bundle.fit "java/lang/UnsupportedOperationException" = true := by decide +kernel
theorem at_UOE : ∀ w ∈ vx_atS RX7 106 "java/lang/UnsupportedOperationException" nmsR, w ∈ fx_ww ∨ w ∈ fx_nw := fx_inBoth [134, 607, 616, 624, 627, 629, 608, 609, 155, 156, 610, 615, 625, 645, 597, 646, 599, 647, 601, 611, 613, 603, 641, 642, 644, 603, 773, 774, 775, 635, 589, 635, 636, 637, 638, 591, 638, 639, 640, 641, 593, 772, 763, 764, 765, 622, 766, 767, 768, 769, 606, 605, 770] (by decide +kernel) (by decide +kernel)
theorem fit_AE : Bundle.fit "java/lang/ArithmeticException" = true := by decide +kernel
theorem at_AE : ∀ w ∈ vx_atS RX7 255 "java/lang/ArithmeticException" nmsR, w ∈ fx_ww ∨ w ∈ fx_nw := fx_inBoth [134, 607, 616, 624, 627, 629, 608, 609, 155, 156, 610, 615, 625, 645, 597, 646, 599, 647, 601, 611, 613, 603, 641, 642, 644, 603, 796, 797, 798, 635, 589, 635, 636, 637, 638, 591, 638, 639, 640, 641, 593, 832, 795, 806, 807, 618, 801, 802, 804, 800, 606, 605, 799] (by decide +kernel) (by decide +kernel)
theorem fit_ISE : Bundle.fit "java/lang/IllegalStateException" = true := by decide +kernel
theorem at_ISE : ∀ w ∈ vx_atS RX7 264 "java/lang/IllegalStateException" nmsR, w ∈ fx_ww ∨ w ∈ fx_nw := fx_inBoth [134, 607, 616, 624, 627, 629, 608, 609, 155, 156, 610, 615, 625, 645, 597, 646, 599, 647, 601, 611, 613, 603, 641, 642, 644, 603, 1063, 1064, 1065, 635, 589, 635, 636, 637, 638, 591, 638, 639, 640, 641, 593, 1062, 1053, 1054, 1055, 620, 1056, 1057, 1058, 1059, 606, 605, 1060] (by decide +kernel) (by decide +kernel)
theorem fit_NSEE : Bundle.fit "java/util/NoSuchElementException" = true := by decide +kernel
theorem at_NSEE : ∀ w ∈ vx_atX RX7 297 "java/util/NoSuchElementException" 13 rxN nmsR, w ∈ fx_ww ∨ w ∈ fx_nw := fx_inBoth [134, 607, 616, 624, 627, 629, 608, 609, 155, 156, 610, 615, 625, 645, 597, 646, 599, 647, 601, 611, 613, 603, 641, 642, 644, 603, 1191, 1192, 1193, 635, 589, 635, 636, 637, 638, 591, 638, 639, 640, 641, 593, 1190, 1181, 1182, 1183, 623, 1184, 1185, 1186, 1187, 606, 605, 1188] (by decide +kernel) (by decide +kernel)
/-- a contract of a call: it answers an int or throws -/
abbrev CA (l : Launch) (Z : fx_Z) (y : MethodName) (w0 : Cond) (d : Nat) (av : List Value) (ad : Nat → Nat) (S : List fx_Sh) (M : fx_M) (P : Int32 → fx_M → Prop) (PX : String → fx_M → Prop) : Prop :=
  CQ l Z y w0 d 4 24 av ad S M (fun v m => ∃ r : Int32, v = some (.int r) ∧ P r m) PX
def xIA : String := "java/lang/IllegalArgumentException"
def xIO : String := "java/lang/IndexOutOfBoundsException"
def xUO : String := "java/lang/UnsupportedOperationException"
def xAE : String := "java/lang/ArithmeticException"
def xIS : String := "java/lang/IllegalStateException"
def xNS : String := "java/util/NoSuchElementException"
set_option maxRecDepth 20000 in
theorem s_checkBlock {l : Launch} {Z : fx_Z} (hl : l.stackTraces = false) (ad : Nat → Nat) (sw : Bool) (tl : List fx_Sh) (M : fx_M) {N : Nat} (b : Int32) (hN : M 1 8 = nI N) : CQ l Z yX7_checkBlock (.code yX7_checkBlock cX7_checkBlock 2 none) 1 1 6 [.ref (ad 0), .int b] ad (c_C sw ++ tl) M (fun v m => v = none ∧ m = M ∧ pin N b = true) (fun E m => E = xIO ∧ m = M ∧ pin N b = false) := by
  refine CT_of (ret := none) (lv0 := [some (.ref (ad 0)), some (.int b)]) (by decide +kernel) hl (by simp [Value.category]) (Nat.le_of_ble_eq_true rfl) rfl ?_
  intro X F Rt _
  refine G_aload_n F dX7_checkBlock_0 rfl ?_
  refine G_getr F fl_X7_12 dX7_checkBlock_1 rfl rfl ?_
  refine G_iload_n F dX7_checkBlock_4 rfl ?_
  refine G_vI F mv_X7_301 dX7_checkBlock_5 (s_has hl ad sw tl M b) rfl rfl rfl rfl (Nat.le_of_ble_eq_true rfl) ⟨Nat.le_of_ble_eq_true rfl, Nat.le_of_ble_eq_true rfl, Nat.le_of_ble_eq_true rfl, Nat.le_of_ble_eq_true rfl⟩ (fun r5 M5 h5 => ?_)
  rw [h5.1, h5.2]
  refine G_if_ne (tgt := 22) F dX7_checkBlock_8 (by decide) (fun h8 => ?_) (fun h8 => ?_)
  · have hp : pin N b = true := by
      rw [hN] at h8
      simp only [pin, decide_eq_true_eq]
      exact Classical.byContradiction fun q => h8 (if_neg q)
    refine G_vret F Rt dX7_checkBlock_22 ⟨rfl, rfl, ?_⟩ (Nat.le_of_ble_eq_true rfl) (Nat.le_of_ble_eq_true rfl)
    exact ⟨rfl, rfl, hp⟩
  · have hp : pin N b = false := by
      rw [hN] at h8
      simp only [pin, decide_eq_false_iff_not]
      intro q
      rw [if_pos q] at h8
      exact absurd h8 (by decide)
    refine G_throwSW F Rt (cls := "java/lang/IndexOutOfBoundsException") (text := "there is no such block") nmsR dX7_checkBlock_11 dX7_checkBlock_14 dX7_checkBlock_15 dX7_checkBlock_18 dX7_checkBlock_21 fit_IOOBE nmsR_fit (fx_in 697 (by decide +kernel) rfl) (fx_in 138 (by decide +kernel) rfl) (List.mem_of_getElem? (i := 1) rfl) at_IOOBE ⟨Nat.le_of_ble_eq_true rfl, Nat.le_of_ble_eq_true rfl, Nat.le_of_ble_eq_true rfl, Nat.le_of_ble_eq_true rfl⟩ ?_ (Nat.le_of_ble_eq_true rfl) (Nat.le_of_ble_eq_true rfl)
    exact ⟨rfl, rfl, hp⟩
set_option maxRecDepth 20000 in
theorem s_checkPosition {l : Launch} {Z : fx_Z} (hl : l.stackTraces = false) (ad : Nat → Nat) (sw : Bool) (tl : List fx_Sh) (M : fx_M) {N : Nat} (b : Int32) (hN : M 1 8 = nI N) : CQ l Z yX7_checkPosition (.code yX7_checkPosition cX7_checkPosition 2 none) 1 1 6 [.ref (ad 0), .int b] ad (c_C sw ++ tl) M (fun v m => v = none ∧ m = M ∧ pin N b = true) (fun E m => E = xIO ∧ m = M ∧ pin N b = false) := by
  refine CT_of (ret := none) (lv0 := [some (.ref (ad 0)), some (.int b)]) (by decide +kernel) hl (by simp [Value.category]) (Nat.le_of_ble_eq_true rfl) rfl ?_
  intro X F Rt _
  refine G_aload_n F dX7_checkPosition_0 rfl ?_
  refine G_getr F fl_X7_12 dX7_checkPosition_1 rfl rfl ?_
  refine G_iload_n F dX7_checkPosition_4 rfl ?_
  refine G_vI F mv_X7_301 dX7_checkPosition_5 (s_has hl ad sw tl M b) rfl rfl rfl rfl (Nat.le_of_ble_eq_true rfl) ⟨Nat.le_of_ble_eq_true rfl, Nat.le_of_ble_eq_true rfl, Nat.le_of_ble_eq_true rfl, Nat.le_of_ble_eq_true rfl⟩ (fun r5 M5 h5 => ?_)
  rw [h5.1, h5.2]
  refine G_if_ne (tgt := 22) F dX7_checkPosition_8 (by decide) (fun h8 => ?_) (fun h8 => ?_)
  · have hp : pin N b = true := by
      rw [hN] at h8
      simp only [pin, decide_eq_true_eq]
      exact Classical.byContradiction fun q => h8 (if_neg q)
    refine G_vret F Rt dX7_checkPosition_22 ⟨rfl, rfl, ?_⟩ (Nat.le_of_ble_eq_true rfl) (Nat.le_of_ble_eq_true rfl)
    exact ⟨rfl, rfl, hp⟩
  · have hp : pin N b = false := by
      rw [hN] at h8
      simp only [pin, decide_eq_false_iff_not]
      intro q
      rw [if_pos q] at h8
      exact absurd h8 (by decide)
    refine G_throwSW F Rt (cls := "java/lang/IndexOutOfBoundsException") (text := "there is no such position") nmsR dX7_checkPosition_11 dX7_checkPosition_14 dX7_checkPosition_15 dX7_checkPosition_18 dX7_checkPosition_21 fit_IOOBE nmsR_fit (fx_in 697 (by decide +kernel) rfl) (fx_in 138 (by decide +kernel) rfl) (List.mem_of_getElem? (i := 14) rfl) at_IOOBE ⟨Nat.le_of_ble_eq_true rfl, Nat.le_of_ble_eq_true rfl, Nat.le_of_ble_eq_true rfl, Nat.le_of_ble_eq_true rfl⟩ ?_ (Nat.le_of_ble_eq_true rfl) (Nat.le_of_ble_eq_true rfl)
    exact ⟨rfl, rfl, hp⟩
set_option maxRecDepth 20000 in
theorem s_checkWhat {l : Launch} {Z : fx_Z} (hl : l.stackTraces = false) (ad : Nat → Nat) (S : List fx_Sh) (M : fx_M) (w g : Int32)  : CQ l Z yX7_checkWhat (.code yX7_checkWhat cX7_checkWhat 2 none) 0 1 6 [.int w, .int g] ad S M (fun v m => v = none ∧ m = M ∧ (0 ≤ w ∧ w ≤ g)) (fun E m => E = xIA ∧ m = M ∧ ¬ (0 ≤ w ∧ w ≤ g)) := by
  refine CT_of (ret := none) (lv0 := [some (.int w), some (.int g)]) (by decide +kernel) hl (by simp [Value.category]) (Nat.le_of_ble_eq_true rfl) rfl ?_
  intro X F Rt _
  refine G_iload_n F dX7_checkWhat_0 rfl ?_
  refine G_if_lt (tgt := 9) F dX7_checkWhat_1 (by decide) (fun h1 => ?_) (fun h1 => ?_)
  · refine G_throwSW F Rt (cls := "java/lang/IllegalArgumentException") (text := "there is no such number") nmsR dX7_checkWhat_9 dX7_checkWhat_12 dX7_checkWhat_13 dX7_checkWhat_16 dX7_checkWhat_19 fit_IAE nmsR_fit (fx_in 585 (by decide +kernel) rfl) (fx_in 137 (by decide +kernel) rfl) (List.mem_of_getElem? (i := 17) rfl) at_IAE ⟨Nat.le_of_ble_eq_true rfl, Nat.le_of_ble_eq_true rfl, Nat.le_of_ble_eq_true rfl, Nat.le_of_ble_eq_true rfl⟩ ?_ (Nat.le_of_ble_eq_true rfl) (Nat.le_of_ble_eq_true rfl)
    refine ⟨rfl, rfl, ?_⟩
    simp only [Int32.lt_iff_toInt_lt, Int32.le_iff_toInt_le] at *
    omega
  · refine G_iload_n F dX7_checkWhat_4 rfl ?_
    refine G_iload_n F dX7_checkWhat_5 rfl ?_
    refine G_icmp_le (tgt := 20) F dX7_checkWhat_6 (by decide) (fun h6 => ?_) (fun h6 => ?_)
    · refine G_vret F Rt dX7_checkWhat_20 ⟨rfl, rfl, ?_⟩ (Nat.le_of_ble_eq_true rfl) (Nat.le_of_ble_eq_true rfl)
      refine ⟨rfl, rfl, ?_⟩
      simp only [Int32.lt_iff_toInt_lt, Int32.le_iff_toInt_le] at *
      omega
    · refine G_throwSW F Rt (cls := "java/lang/IllegalArgumentException") (text := "there is no such number") nmsR dX7_checkWhat_9 dX7_checkWhat_12 dX7_checkWhat_13 dX7_checkWhat_16 dX7_checkWhat_19 fit_IAE nmsR_fit (fx_in 585 (by decide +kernel) rfl) (fx_in 137 (by decide +kernel) rfl) (List.mem_of_getElem? (i := 17) rfl) at_IAE ⟨Nat.le_of_ble_eq_true rfl, Nat.le_of_ble_eq_true rfl, Nat.le_of_ble_eq_true rfl, Nat.le_of_ble_eq_true rfl⟩ ?_ (Nat.le_of_ble_eq_true rfl) (Nat.le_of_ble_eq_true rfl)
      refine ⟨rfl, rfl, ?_⟩
      simp only [Int32.lt_iff_toInt_lt, Int32.le_iff_toInt_le] at *
      omega
