/-! BLOCKLAYOUT: executions, arrange, read -/
/-- an execution that comes to a stop in L steps -/
def xok (kd f s p : Nat → Int32) (lim L : Nat) : Prop := 0 < L ∧ L ≤ lim ∧ kd (tr kd f s p (L - 1)).1 = 2 ∧ ∀ i, i + 1 < L → kd (tr kd f s p i).1 ≠ 2
/-- one that does not -/
def xno (kd f s p : Nat → Int32) (lim : Nat) : Prop := ∀ i, i < lim → kd (tr kd f s p i).1 ≠ 2
set_option maxRecDepth 20000 in
theorem s_executeWithin {l : Launch} {Z : fx_Z} (hl : l.stackTraces = false) (ad : Nat → Nat) (sw : Bool) (tl : List fx_Sh) (M : fx_M) {N : Nat} (n : Int32) (hN : M 1 8 = nI N) (hN16 : N ≤ 16) (h0 : 0 < N) (hv : pv N (M 3) (M 4) (M 5)) : CT l Z yX7_executeWithin (.code yX7_executeWithin cX7_executeWithin 2 none) 2 1 6 [.ref (ad 0), .int n] ad (c_C sw ++ tl) M (fun v a s m => v = none ∧ a = ad ∧ s = c_C (!sw) ++ tl ∧ ∃ lim L, 1 ≤ lim ∧ lim ≤ 500 ∧ n = nI lim ∧ xok (M 3) (M 4) (M 5) (M 6) lim L ∧ fr [27, 30, (cond sw 28 29)] M m ∧ m 27 4 = nI L ∧ ∀ j, j < L → m (cond sw 28 29) j = nI (tr (M 3) (M 4) (M 5) (M 6) j).1) (fun E m => (E = xIA ∧ m = M ∧ ¬ (1 ≤ n ∧ n ≤ 500)) ∨ (E = xAE ∧ ∃ lim, 1 ≤ lim ∧ lim ≤ 500 ∧ n = nI lim ∧ xno (M 3) (M 4) (M 5) (M 6) lim ∧ fr [30, (cond sw 28 29)] M m)) := by
  refine CT_of (ret := none) (lv0 := [some (.ref (ad 0)), some (.int n)]) (by decide +kernel) hl (by simp [Value.category]) (Nat.le_of_ble_eq_true rfl) rfl ?_
  intro X F Rt _
  refine G_iload_n F dX7_executeWithin_0 rfl ?_
  refine G_iconst (v := 1) F dX7_executeWithin_1 rfl ?_
  refine G_icmp_lt (tgt := 12) F dX7_executeWithin_2 (by decide) (fun h2 => ?_) (fun h2 => ?_)
  · refine G_throwSW F Rt (cls := "java/lang/IllegalArgumentException") (text := "the limit is not from 1 to 500") nmsR dX7_executeWithin_12 dX7_executeWithin_15 dX7_executeWithin_16 dX7_executeWithin_19 dX7_executeWithin_22 fit_IAE nmsR_fit (fx_in 585 (by decide +kernel) rfl) (fx_in 137 (by decide +kernel) rfl) (List.mem_of_getElem? (i := 6) rfl) at_IAE ⟨Nat.le_of_ble_eq_true rfl, Nat.le_of_ble_eq_true rfl, Nat.le_of_ble_eq_true rfl, Nat.le_of_ble_eq_true rfl⟩ ?_ (Nat.le_of_ble_eq_true rfl) (Nat.le_of_ble_eq_true rfl)
    refine Or.inl ⟨rfl, rfl, ?_⟩
    simp only [Int32.lt_iff_toInt_lt, Int32.le_iff_toInt_le] at *
    omega
  · refine G_iload_n F dX7_executeWithin_5 rfl ?_
    refine G_sipush (v := 500) F dX7_executeWithin_6 rfl ?_
    refine G_icmp_le (tgt := 23) F dX7_executeWithin_9 (by decide) (fun h9 => ?_) (fun h9 => ?_)
    · refine G_aload_n F dX7_executeWithin_23 rfl ?_
      refine G_getr F fl_X7_44 dX7_executeWithin_24 rfl rfl ?_
      refine G_iload_n F dX7_executeWithin_27 rfl ?_
      obtain ⟨lim, hl1, hl2⟩ := nI_of (x := n) (by
        have e1 : (1 : Int32).toInt = 1 := by decide
        simp only [Int32.lt_iff_toInt_lt, Int32.le_iff_toInt_le, e1, i0] at *; omega)
      subst hl2
      have hlim : 1 ≤ lim ∧ lim ≤ 500 := by
        have e1 : (1 : Int32) = nI 1 := by decide
        have e5 : (500 : Int32) = nI 500 := by decide
        rw [e1, nI_ltI hl1 (by omega)] at h2
        rw [e5, nI_leI hl1 (by omega)] at h9
        omega
      refine G_callV F mv_X7_312 dX7_executeWithin_28 (s_execute hl ad sw tl M (N := N) (lim := lim) hN hN16 h0 hv hlim.2) rfl rfl rfl rfl (Nat.le_of_ble_eq_true rfl) ⟨Nat.le_of_ble_eq_true rfl, Nat.le_of_ble_eq_true rfl, Nat.le_of_ble_eq_true rfl, Nat.le_of_ble_eq_true rfl⟩ (fun E M' h => h.elim) (fun v a s M' h => ?_)
      obtain ⟨ea, h⟩ := h
      subst ea
      rcases h with ⟨L, g1, g2, g3, g4, g5, g6, g7, g8, g9⟩ | ⟨g1, g2, g3, g4⟩
      · subst g3 g4
        refine G_if_ne (tgt := 45) F dX7_executeWithin_31 (by decide) (fun h31 => ?_) (fun h31 => ?_)
        · skip
          refine G_vret F Rt dX7_executeWithin_45 ⟨rfl, rfl, rfl, ?_⟩ (Nat.le_of_ble_eq_true rfl) (Nat.le_of_ble_eq_true rfl)
          exact ⟨lim, L, hlim.1, hlim.2, rfl, ⟨g1, g2, g5, g6⟩, g7, g8, g9⟩
        · exact absurd h31 (by decide) --stop
      · subst g2 g3
        refine G_if_ne (tgt := 45) F dX7_executeWithin_31 (by decide) (fun h31 => ?_) (fun h31 => ?_)
        · exact absurd rfl h31 --stop
        · skip
          refine G_throwSW F Rt (cls := "java/lang/ArithmeticException") (text := "the limit is not enough") nmsR dX7_executeWithin_34 dX7_executeWithin_37 dX7_executeWithin_38 dX7_executeWithin_41 dX7_executeWithin_44 fit_AE nmsR_fit (fx_in 830 (by decide +kernel) rfl) (fx_in 142 (by decide +kernel) rfl) (List.mem_of_getElem? (i := 7) rfl) at_AE ⟨Nat.le_of_ble_eq_true rfl, Nat.le_of_ble_eq_true rfl, Nat.le_of_ble_eq_true rfl, Nat.le_of_ble_eq_true rfl⟩ ?_ (Nat.le_of_ble_eq_true rfl) (Nat.le_of_ble_eq_true rfl)
          exact Or.inr ⟨rfl, lim, hlim.1, hlim.2, rfl, g1, g4⟩
    · refine G_throwSW F Rt (cls := "java/lang/IllegalArgumentException") (text := "the limit is not from 1 to 500") nmsR dX7_executeWithin_12 dX7_executeWithin_15 dX7_executeWithin_16 dX7_executeWithin_19 dX7_executeWithin_22 fit_IAE nmsR_fit (fx_in 585 (by decide +kernel) rfl) (fx_in 137 (by decide +kernel) rfl) (List.mem_of_getElem? (i := 6) rfl) at_IAE ⟨Nat.le_of_ble_eq_true rfl, Nat.le_of_ble_eq_true rfl, Nat.le_of_ble_eq_true rfl, Nat.le_of_ble_eq_true rfl⟩ ?_ (Nat.le_of_ble_eq_true rfl) (Nat.le_of_ble_eq_true rfl)
      refine Or.inl ⟨rfl, rfl, ?_⟩
      simp only [Int32.lt_iff_toInt_lt, Int32.le_iff_toInt_le] at *
      omega
set_option maxRecDepth 20000 in
theorem s_run {l : Launch} {Z : fx_Z} (hl : l.stackTraces = false) (ad : Nat → Nat) (sw : Bool) (tl : List fx_Sh) (M : fx_M) {N : Nat} (n : Int32) (hN : M 1 8 = nI N) (hN16 : N ≤ 16) (h0 : 0 < N) (hv : pv N (M 3) (M 4) (M 5)) : CT l Z yX7_run (.code yX7_run cX7_run 2 (some .int)) 3 4 24 [.ref (ad 0), .int n] ad (c_C sw ++ tl) M (fun v a s m => a = ad ∧ s = c_C (!sw) ++ tl ∧ ∃ lim L, 1 ≤ lim ∧ lim ≤ 500 ∧ n = nI lim ∧ xok (M 3) (M 4) (M 5) (M 6) lim L ∧ v = some (.int (nI L)) ∧ fr [7, 8, 9, 27, 30, (cond sw 28 29)] M m ∧ m 27 4 = nI L ∧ (∀ j, j < L → m (cond sw 28 29) j = nI (tr (M 3) (M 4) (M 5) (M 6) j).1) ∧ m 7 = apc (fun j => (tr (M 3) (M 4) (M 5) (M 6) j).1) (M 7) L ∧ m 8 = ap1 (fun j => (tr (M 3) (M 4) (M 5) (M 6) j).1) (M 4) (M 8) (L - 1) ∧ m 9 = ap2 (fun j => (tr (M 3) (M 4) (M 5) (M 6) j).1) (M 4) (M 9) (L - 1)) (fun E m => (E = xIA ∧ m = M ∧ ¬ (1 ≤ n ∧ n ≤ 500)) ∨ (E = xAE ∧ ∃ lim, 1 ≤ lim ∧ lim ≤ 500 ∧ n = nI lim ∧ xno (M 3) (M 4) (M 5) (M 6) lim ∧ fr [30, (cond sw 28 29)] M m)) := by
  refine CT_of (ret := (some .int)) (lv0 := [some (.ref (ad 0)), some (.int n)]) (by decide +kernel) hl (by simp [Value.category]) (Nat.le_of_ble_eq_true rfl) rfl ?_
  intro X F Rt _
  refine G_aload_n F dX7_run_0 rfl ?_
  refine G_iload_n F dX7_run_1 rfl ?_
  refine G_callV F mv_X7_131 dX7_run_2 (s_executeWithin hl ad sw tl M n hN hN16 h0 hv) rfl rfl rfl rfl (Nat.le_of_ble_eq_true rfl) ⟨Nat.le_of_ble_eq_true rfl, Nat.le_of_ble_eq_true rfl, Nat.le_of_ble_eq_true rfl, Nat.le_of_ble_eq_true rfl⟩ (fun E M' h => GX_out F Rt ?_ (Nat.le_of_ble_eq_true rfl) (Nat.le_of_ble_eq_true rfl)) (fun v a s M2 h => ?_)
  · exact h
  obtain ⟨e1, e2, e3, lim, L, l1, l2, l3, hx, hf, hL, hp⟩ := h
  rw [e1, e2, e3]
  simp only [Option.toList_none, List.nil_append]
  have hin : ∀ j, j < L → (tr (M 3) (M 4) (M 5) (M 6) j).1 < 16 := fun j hj => by
    have := tr_in (p := M 6) hN16 h0 hv j (fun i hi => hx.2.2.2 i (by omega))
    omega
  refine G_aload_n F dX7_run_5 rfl ?_
  refine G_getr F fl_X7_44 dX7_run_6 rfl rfl ?_
  refine G_vv F mv_X7_134 dX7_run_9 (s_addToProfile hl ad (!sw) tl M2 (L := L) (fun j => (tr (M 3) (M 4) (M 5) (M 6) j).1) hL (by have := hx.2.1; omega) (fun j hj => by have := hp j hj; cases sw <;> exact this) hin) rfl rfl rfl rfl (Nat.le_of_ble_eq_true rfl) ⟨Nat.le_of_ble_eq_true rfl, Nat.le_of_ble_eq_true rfl, Nat.le_of_ble_eq_true rfl, Nat.le_of_ble_eq_true rfl⟩ (fun M9 h9 => ?_)
  obtain ⟨k1, k2, k3, k4⟩ := h9
  refine G_aload_n F dX7_run_12 rfl ?_
  refine G_getr F fl_X7_44 dX7_run_13 rfl rfl ?_
  refine G_geti F fl_X7_137 dX7_run_16 rfl rfl ?_
  rw [k1 27 (by decide), hL]
  refine G_iret F Rt dX7_run_19 (rfl) ⟨rfl, rfl, ?_⟩ (Nat.le_of_ble_eq_true rfl) (Nat.le_of_ble_eq_true rfl)
  refine ⟨lim, L, l1, l2, l3, hx, rfl, fun k hk => ?_, by rw [k1 27 (by decide)]; exact hL, fun j hj => ?_, ?_, ?_, ?_⟩
  · simp only [List.mem_cons, List.not_mem_nil, or_false, not_or] at hk
    rw [k1 k (by simp [hk]), hf k (by simp [hk])]
  · rw [k1 _ (by cases sw <;> decide)]; exact hp j hj
  · rw [k2, hf 7 (by cases sw <;> decide)]
  · rw [k3, hf 4 (by cases sw <;> decide), hf 8 (by cases sw <;> decide)]
  · rw [k4, hf 4 (by cases sw <;> decide), hf 9 (by cases sw <;> decide)]
set_option maxRecDepth 20000 in
theorem s_runLayout {l : Launch} {Z : fx_Z} (hl : l.stackTraces = false) (ad : Nat → Nat) (sw : Bool) (tl : List fx_Sh) (M : fx_M) {N : Nat} (n : Int32) {hot al : Nat} {rw pos sz : Nat → Nat} (hH : y_H N hot rw pos sz M) (hal : M 10 2 = nI al) (ha : isAl al) (ha32 : al ≤ 32) (h0 : 0 < N) : CT l Z yX7_runLayout (.code yX7_runLayout cX7_runLayout 2 (some .int)) 4 4 24 [.ref (ad 0), .int n] ad (c_C sw ++ tl) M (fun v a s m => a = ad ∧ s = c_C (!sw) ++ tl ∧ ∃ lim L, 1 ≤ lim ∧ lim ≤ 500 ∧ n = nI lim ∧ xok (M 3) (M 4) (M 5) (M 6) lim L ∧ (∃ M2, fr [27, 30, (cond sw 28 29)] M M2 ∧ y_S N hot al rw pos sz (M 0 7) M2 m) ∧ m 27 4 = nI L ∧ (∀ j, j < L → m (cond sw 28 29) j = nI (tr (M 3) (M 4) (M 5) (M 6) j).1) ∧ v = some (.int (sm (fun j => pf_ed (M 3) (tr (M 3) (M 4) (M 5) (M 6) j).1 (nI (tr (M 3) (M 4) (M 5) (M 6) (j + 1)).1) (m 14 (tr (M 3) (M 4) (M 5) (M 6) j).1) + (if nI (tr (M 3) (M 4) (M 5) (M 6) (j + 1)).1 = m 14 (tr (M 3) (M 4) (M 5) (M 6) j).1 ∧ 0 < m 19 (tr (M 3) (M 4) (M 5) (M 6) (j + 1)).1 then 1 else 0)) (L - 1)))) (fun E m => (E = xIA ∧ m = M ∧ ¬ (1 ≤ n ∧ n ≤ 500)) ∨ (E = xAE ∧ ∃ lim, 1 ≤ lim ∧ lim ≤ 500 ∧ n = nI lim ∧ xno (M 3) (M 4) (M 5) (M 6) lim ∧ fr [30, (cond sw 28 29)] M m)) := by
  refine CT_of (ret := (some .int)) (lv0 := [some (.ref (ad 0)), some (.int n)]) (by decide +kernel) hl (by simp [Value.category]) (Nat.le_of_ble_eq_true rfl) rfl ?_
  intro X F Rt _
  have hN := hH.1
  have hN16 := hH.2.1
  have hv := hH.2.2.2.2.2.2.2.2
  refine G_aload_n F dX7_runLayout_0 rfl ?_
  refine G_iload_n F dX7_runLayout_1 rfl ?_
  refine G_callV F mv_X7_131 dX7_runLayout_2 (s_executeWithin hl ad sw tl M n hN hN16 h0 hv) rfl rfl rfl rfl (Nat.le_of_ble_eq_true rfl) ⟨Nat.le_of_ble_eq_true rfl, Nat.le_of_ble_eq_true rfl, Nat.le_of_ble_eq_true rfl, Nat.le_of_ble_eq_true rfl⟩ (fun E M' h => GX_out F Rt ?_ (Nat.le_of_ble_eq_true rfl) (Nat.le_of_ble_eq_true rfl)) (fun v a s M2 h => ?_)
  · exact h
  obtain ⟨e1, e2, e3, lim, L, l1, l2, l3, hx, hf, hL, hp⟩ := h
  rw [e1, e2, e3]
  simp only [Option.toList_none, List.nil_append]
  have hin : ∀ j, j < L → (tr (M 3) (M 4) (M 5) (M 6) j).1 < 16 := fun j hj => by
    have := tr_in (p := M 6) hN16 h0 hv j (fun i hi => hx.2.2.2 i (by omega))
    omega
  have hH2 : y_H N hot rw pos sz M2 := by
    unfold y_H at *
    rw [hf 1 (by cases sw <;> decide), hf 10 (by cases sw <;> decide), hf 11 (by cases sw <;> decide), hf 2 (by cases sw <;> decide), hf 3 (by cases sw <;> decide), hf 4 (by cases sw <;> decide), hf 5 (by cases sw <;> decide)]
    exact hH
  refine G_aload_n F dX7_runLayout_5 rfl ?_
  refine G_getr F fl_X7_28 dX7_runLayout_6 rfl rfl ?_
  refine G_aload_n F dX7_runLayout_9 rfl ?_
  refine G_getr F fl_X7_19 dX7_runLayout_10 rfl rfl ?_
  refine G_geti F fl_X7_140 dX7_runLayout_13 rfl rfl ?_
  rw [hf 10 (by cases sw <;> decide), hal]
  refine G_aload_n F dX7_runLayout_16 rfl ?_
  refine G_geti F fl_X7_62 dX7_runLayout_17 rfl rfl ?_
  rw [hf 0 (by cases sw <;> decide)]
  refine G_vv F mv_X7_143 dX7_runLayout_20 (s_settle hl ad (!sw) tl M2 (al := al) (M 0 7) hH2 ha ha32) rfl rfl rfl rfl (Nat.le_of_ble_eq_true rfl) ⟨Nat.le_of_ble_eq_true rfl, Nat.le_of_ble_eq_true rfl, Nat.le_of_ble_eq_true rfl, Nat.le_of_ble_eq_true rfl⟩ (fun M20 h20 => ?_)
  have hS : y_S N hot al rw pos sz (M 0 7) M2 M20 := h20
  have h8 := hS.1
  refine G_aload_n F dX7_runLayout_23 rfl ?_
  refine G_getr F fl_X7_28 dX7_runLayout_24 rfl rfl ?_
  refine G_aload_n F dX7_runLayout_27 rfl ?_
  refine G_getr F fl_X7_44 dX7_runLayout_28 rfl rfl ?_
  refine G_vI F mv_X7_147 dX7_runLayout_31 (s_cyclesOfPath hl ad (!sw) tl M20 (L := L) (fun j => (tr (M 3) (M 4) (M 5) (M 6) j).1) (by rw [h8 27 (by decide)]; exact hL) hx.1 (by have := hx.2.1; omega) (fun j hj => by rw [h8 _ (by cases sw <;> decide)]; have := hp j hj; cases sw <;> exact this) hin) rfl rfl rfl rfl (Nat.le_of_ble_eq_true rfl) ⟨Nat.le_of_ble_eq_true rfl, Nat.le_of_ble_eq_true rfl, Nat.le_of_ble_eq_true rfl, Nat.le_of_ble_eq_true rfl⟩ (fun r31 M31 h31 => ?_)
  rw [h31.1, h31.2, h8 3 (by decide), hf 3 (by cases sw <;> decide)]
  refine G_iret F Rt dX7_runLayout_34 (rfl) ⟨rfl, rfl, ?_⟩ (Nat.le_of_ble_eq_true rfl) (Nat.le_of_ble_eq_true rfl)
  refine ⟨lim, L, l1, l2, l3, hx, ⟨M2, hf, hS⟩, by rw [h8 27 (by decide)]; exact hL, fun j hj => ?_, rfl⟩
  rw [h8 _ (by cases sw <;> decide)]; exact hp j hj
/-- whether a text's targets fit -/
def tfit (N : Nat) (k f s : Int32) : Bool := if k = 0 then pin N f else if k = 1 then (pin N f && (pin N s && decide (f ≠ s))) else true
theorem pin_if {N : Nat} {b : Int32} : (if 0 ≤ b ∧ b < nI N then (1 : Int32) else 0) = (if pin N b then 1 else 0) := by
  unfold pin
  by_cases h : 0 ≤ b ∧ b < nI N
  · rw [if_pos h, decide_eq_true h]; rfl
  · rw [if_neg h, decide_eq_false h]; rfl
set_option maxRecDepth 20000 in
theorem s_areTargetsFit {l : Launch} {Z : fx_Z} (hl : l.stackTraces = false) (ad : Nat → Nat) (sw : Bool) (tl : List fx_Sh) (M : fx_M) {N : Nat} (hN : M 1 8 = nI N) : CI l Z yX7_areTargetsFit (.code yX7_areTargetsFit cX7_areTargetsFit 1 (some .boolean)) 1 [.ref (ad 0)] ad (c_C sw ++ tl) M (fun r m => r = (if tfit N (M 35 5) (M 35 6) (M 35 7) then 1 else 0) ∧ m = M) := by
  refine CT_of (ret := (some .boolean)) (lv0 := [some (.ref (ad 0))]) (by decide +kernel) hl (by simp [Value.category]) (Nat.le_of_ble_eq_true rfl) rfl ?_
  intro X F Rt _
  refine G_aload_n F dX7_areTargetsFit_0 rfl ?_
  refine G_getr F fl_X7_58 dX7_areTargetsFit_1 rfl rfl ?_
  refine G_geti F fl_X7_280 dX7_areTargetsFit_4 rfl rfl ?_
  refine G_if_ne (tgt := 25) F dX7_areTargetsFit_7 (by decide) (fun h7 => ?_) (fun h7 => ?_)
  · refine G_aload_n F dX7_areTargetsFit_25 rfl ?_
    refine G_getr F fl_X7_58 dX7_areTargetsFit_26 rfl rfl ?_
    refine G_geti F fl_X7_280 dX7_areTargetsFit_29 rfl rfl ?_
    refine G_iconst (v := 1) F dX7_areTargetsFit_32 rfl ?_
    refine G_icmp_ne (tgt := 93) F dX7_areTargetsFit_33 (by decide) (fun h33 => ?_) (fun h33 => ?_)
    · refine G_iconst (v := 1) F dX7_areTargetsFit_93 rfl ?_
      refine G_iret F Rt dX7_areTargetsFit_94 (rfl) ⟨rfl, rfl, _, rfl, ?_⟩ (Nat.le_refl _) (Nat.le_refl _)
      refine ⟨?_, rfl⟩
      unfold tfit
      simp_all
    · refine G_aload_n F dX7_areTargetsFit_36 rfl ?_
      refine G_getr F fl_X7_12 dX7_areTargetsFit_37 rfl rfl ?_
      refine G_aload_n F dX7_areTargetsFit_40 rfl ?_
      refine G_getr F fl_X7_58 dX7_areTargetsFit_41 rfl rfl ?_
      refine G_geti F fl_X7_282 dX7_areTargetsFit_44 rfl rfl ?_
      refine G_vI F mv_X7_301 dX7_areTargetsFit_47 (s_has hl ad sw tl M (M 35 6)) rfl rfl rfl rfl (Nat.le_of_ble_eq_true rfl) ⟨Nat.le_of_ble_eq_true rfl, Nat.le_of_ble_eq_true rfl, Nat.le_of_ble_eq_true rfl, Nat.le_of_ble_eq_true rfl⟩ (fun r47 M47 h47 => ?_)
      rw [h47.1, h47.2, hN, pin_if]
      refine G_if_eq (tgt := 91) F dX7_areTargetsFit_50 (by decide) (fun h50 => ?_) (fun h50 => ?_)
      · have b50 : pin N (M 35 6) = false := by simpa using h50
        refine G_iconst (v := 0) F dX7_areTargetsFit_91 rfl ?_
        refine G_iret F Rt dX7_areTargetsFit_92 (rfl) ⟨rfl, rfl, _, rfl, ?_⟩ (Nat.le_refl _) (Nat.le_refl _)
        refine ⟨?_, rfl⟩
        unfold tfit
        simp_all
      · have b50 : pin N (M 35 6) = true := by simpa using h50
        refine G_aload_n F dX7_areTargetsFit_53 rfl ?_
        refine G_getr F fl_X7_12 dX7_areTargetsFit_54 rfl rfl ?_
        refine G_aload_n F dX7_areTargetsFit_57 rfl ?_
        refine G_getr F fl_X7_58 dX7_areTargetsFit_58 rfl rfl ?_
        refine G_geti F fl_X7_284 dX7_areTargetsFit_61 rfl rfl ?_
        refine G_vI F mv_X7_301 dX7_areTargetsFit_64 (s_has hl ad sw tl M (M 35 7)) rfl rfl rfl rfl (Nat.le_of_ble_eq_true rfl) ⟨Nat.le_of_ble_eq_true rfl, Nat.le_of_ble_eq_true rfl, Nat.le_of_ble_eq_true rfl, Nat.le_of_ble_eq_true rfl⟩ (fun r64 M64 h64 => ?_)
        rw [h64.1, h64.2, hN, pin_if]
        refine G_if_eq (tgt := 91) F dX7_areTargetsFit_67 (by decide) (fun h67 => ?_) (fun h67 => ?_)
        · have b67 : pin N (M 35 7) = false := by simpa using h67
          refine G_iconst (v := 0) F dX7_areTargetsFit_91 rfl ?_
          refine G_iret F Rt dX7_areTargetsFit_92 (rfl) ⟨rfl, rfl, _, rfl, ?_⟩ (Nat.le_refl _) (Nat.le_refl _)
          refine ⟨?_, rfl⟩
          unfold tfit
          simp_all
        · have b67 : pin N (M 35 7) = true := by simpa using h67
          refine G_aload_n F dX7_areTargetsFit_70 rfl ?_
          refine G_getr F fl_X7_58 dX7_areTargetsFit_71 rfl rfl ?_
          refine G_geti F fl_X7_282 dX7_areTargetsFit_74 rfl rfl ?_
          refine G_aload_n F dX7_areTargetsFit_77 rfl ?_
          refine G_getr F fl_X7_58 dX7_areTargetsFit_78 rfl rfl ?_
          refine G_geti F fl_X7_284 dX7_areTargetsFit_81 rfl rfl ?_
          refine G_icmp_eq (tgt := 91) F dX7_areTargetsFit_84 (by decide) (fun h84 => ?_) (fun h84 => ?_)
          · refine G_iconst (v := 0) F dX7_areTargetsFit_91 rfl ?_
            refine G_iret F Rt dX7_areTargetsFit_92 (rfl) ⟨rfl, rfl, _, rfl, ?_⟩ (Nat.le_refl _) (Nat.le_refl _)
            refine ⟨?_, rfl⟩
            unfold tfit
            simp_all
          · refine G_iconst (v := 1) F dX7_areTargetsFit_87 rfl ?_
            refine G_goto (tgt := 92) F dX7_areTargetsFit_88 (by decide) ?_
            refine G_iret F Rt dX7_areTargetsFit_92 (rfl) ⟨rfl, rfl, _, rfl, ?_⟩ (Nat.le_refl _) (Nat.le_refl _)
            refine ⟨?_, rfl⟩
            unfold tfit
            simp_all
  · refine G_aload_n F dX7_areTargetsFit_10 rfl ?_
    refine G_getr F fl_X7_12 dX7_areTargetsFit_11 rfl rfl ?_
    refine G_aload_n F dX7_areTargetsFit_14 rfl ?_
    refine G_getr F fl_X7_58 dX7_areTargetsFit_15 rfl rfl ?_
    refine G_geti F fl_X7_282 dX7_areTargetsFit_18 rfl rfl ?_
    refine G_vI F mv_X7_301 dX7_areTargetsFit_21 (s_has hl ad sw tl M (M 35 6)) rfl rfl rfl rfl (Nat.le_of_ble_eq_true rfl) ⟨Nat.le_of_ble_eq_true rfl, Nat.le_of_ble_eq_true rfl, Nat.le_of_ble_eq_true rfl, Nat.le_of_ble_eq_true rfl⟩ (fun r21 M21 h21 => ?_)
    rw [h21.1, h21.2, hN, pin_if]
    refine G_iret F Rt dX7_areTargetsFit_24 (by split <;> rfl) ⟨rfl, rfl, _, rfl, ?_⟩ (Nat.le_refl _) (Nat.le_refl _)
    refine ⟨?_, rfl⟩
    unfold tfit
    simp_all
set_option maxRecDepth 20000 in
theorem s_read {l : Launch} {Z : fx_Z} (hl : l.stackTraces = false) (ad : Nat → Nat) (sw : Bool) (tl : List fx_Sh) (M : fx_M) {N len : Nat} (b : Int32) (hN : M 1 8 = nI N) (hN16 : N ≤ 16) (hl1 : M 35 1 = nI len) (hl60 : len ≤ 60) : CA l Z yX7_read (.code yX7_read cX7_read 3 (some .int)) 7 [.ref (ad 0), .int b] ad (c_C sw ++ tl) M (fun r m => ∃ x, x < N ∧ b = nI x ∧ ∃ m0, fr [35] M m0 ∧ m0 35 1 = 0 ∧ (((pp (hr (M 36) len) len).2.1 = false ∧ r = -100 - nI (pp (hr (M 36) len) len).1 ∧ m = m0) ∨ ((pp (hr (M 36) len) len).2.1 = true ∧ ((pp (hr (M 36) len) len).2.2.1 ≤ 60 ∧ tfit N (pp (hr (M 36) len) len).2.2.2.1 (pp (hr (M 36) len) len).2.2.2.2.1 (pp (hr (M 36) len) len).2.2.2.2.2.1 = true) ∧ r = (pp (hr (M 36) len) len).2.2.2.1 ∧ m = m_end N (fx_u m0 2 x (pp (hr (M 36) len) len).2.2.1) x (pp (hr (M 36) len) len).2.2.2.1 (pp (hr (M 36) len) len).2.2.2.2.1 (pp (hr (M 36) len) len).2.2.2.2.2.1 (pp (hr (M 36) len) len).2.2.2.2.2.2))) (fun E m => (E = xIO ∧ m = M ∧ pin N b = false) ∨ (E = xIA ∧ pin N b = true ∧ fr [35] M m ∧ m 35 1 = 0 ∧ (pp (hr (M 36) len) len).2.1 = true ∧ ¬ ((pp (hr (M 36) len) len).2.2.1 ≤ 60 ∧ tfit N (pp (hr (M 36) len) len).2.2.2.1 (pp (hr (M 36) len) len).2.2.2.2.1 (pp (hr (M 36) len) len).2.2.2.2.2.1 = true))) := by
  refine CT_of (ret := (some .int)) (lv0 := [some (.ref (ad 0)), some (.int b), none]) (by decide +kernel) hl (by simp [Value.category]) (Nat.le_of_ble_eq_true rfl) rfl ?_
  intro X F Rt _
  refine G_aload_n F dX7_read_0 rfl ?_
  refine G_iload_n F dX7_read_1 rfl ?_
  refine G_qV F mv_X7_84 dX7_read_2 (s_checkBlock hl ad sw tl M b hN) rfl rfl rfl rfl (Nat.le_of_ble_eq_true rfl) ⟨Nat.le_of_ble_eq_true rfl, Nat.le_of_ble_eq_true rfl, Nat.le_of_ble_eq_true rfl, Nat.le_of_ble_eq_true rfl⟩ (fun E2 M2 x2 => GX_out F Rt ?_ (Nat.le_of_ble_eq_true rfl) (Nat.le_of_ble_eq_true rfl)) (fun v2 M2 h2 => ?_)
  · exact Or.inl ⟨x2.1, x2.2.1, x2.2.2⟩
  rw [h2.1, h2.2.1]
  simp only [Option.toList_none, List.nil_append]
  have hp2 := h2.2.2
  obtain ⟨x, hx1, hx2⟩ := pin_spec hN16 hp2
  subst hx2
  refine G_aload_n F dX7_read_5 rfl ?_
  refine G_getr F fl_X7_58 dX7_read_6 rfl rfl ?_
  refine G_vI F mv_X7_266 dX7_read_9 (s_parse hl ad sw tl M (len := len) hl1 hl60) rfl rfl rfl rfl (Nat.le_of_ble_eq_true rfl) ⟨Nat.le_of_ble_eq_true rfl, Nat.le_of_ble_eq_true rfl, Nat.le_of_ble_eq_true rfl, Nat.le_of_ble_eq_true rfl⟩ (fun r9 M9 h9 => ?_)
  obtain ⟨g1, g2, g3, g4, g5⟩ := h9
  rw [g1]
  have hm0 : fr [35] M (fx_u M9 35 1 0) := g2.u (by decide)
  refine G_istore_n F 2 dX7_read_12 rfl rfl rfl (Nat.le_of_ble_eq_true rfl) ?_
  simp only [List.set_cons_zero, List.set_cons_succ]
  refine G_aload_n F dX7_read_13 rfl ?_
  refine G_getr F fl_X7_58 dX7_read_14 rfl rfl ?_
  refine G_iconst (v := 0) F dX7_read_17 rfl ?_
  refine G_puti F fl_X7_265 dX7_read_18 rfl rfl rfl rfl ?_
  refine G_iload_n F dX7_read_21 rfl ?_
  refine G_if_ne (tgt := 36) F dX7_read_22 (by decide) (fun h22 => ?_) (fun h22 => ?_)
  · have b22 : (pp (hr (M 36) len) len).2.1 = true := by simpa using h22
    obtain ⟨v4, v5, v6, v7, v8⟩ := g5 b22
    have w4 : fx_u M9 35 1 0 35 4 = (pp (hr (M 36) len) len).2.2.1 := by simp [fx_u_at]; exact v4
    have w5 : fx_u M9 35 1 0 35 5 = (pp (hr (M 36) len) len).2.2.2.1 := by simp [fx_u_at]; exact v5
    have w6 : fx_u M9 35 1 0 35 6 = (pp (hr (M 36) len) len).2.2.2.2.1 := by simp [fx_u_at]; exact v6
    have w7 : fx_u M9 35 1 0 35 7 = (pp (hr (M 36) len) len).2.2.2.2.2.1 := by simp [fx_u_at]; exact v7
    have w8 : fx_u M9 35 1 0 35 8 = (pp (hr (M 36) len) len).2.2.2.2.2.2 := by simp [fx_u_at]; exact v8
    refine G_aload_n F dX7_read_36 rfl ?_
    refine G_getr F fl_X7_58 dX7_read_37 rfl rfl ?_
    refine G_geti F fl_X7_273 dX7_read_40 rfl rfl ?_
    rw [w4]
    refine G_bipush (v := 60) F dX7_read_43 rfl ?_
    refine G_icmp_gt (tgt := 55) F dX7_read_45 (by decide) (fun h45 => ?_) (fun h45 => ?_)
    · skip
      refine G_throwSW F Rt (cls := "java/lang/IllegalArgumentException") (text := "the text does not fit the program") nmsR dX7_read_55 dX7_read_58 dX7_read_59 dX7_read_62 dX7_read_65 fit_IAE nmsR_fit (fx_in 585 (by decide +kernel) rfl) (fx_in 137 (by decide +kernel) rfl) (List.mem_of_getElem? (i := 20) rfl) at_IAE ⟨Nat.le_of_ble_eq_true rfl, Nat.le_of_ble_eq_true rfl, Nat.le_of_ble_eq_true rfl, Nat.le_of_ble_eq_true rfl⟩ ?_ (Nat.le_of_ble_eq_true rfl) (Nat.le_of_ble_eq_true rfl)
      exact Or.inr ⟨rfl, hp2, hm0, by simp [fx_u_at], b22, fun q => by
        have q1 := q.1
        simp only [Int32.lt_iff_toInt_lt, Int32.le_iff_toInt_le] at h45 q1; omega⟩
    · refine G_aload_n F dX7_read_48 rfl ?_
      refine G_vI F mv_X7_275 dX7_read_49 (s_areTargetsFit hl ad sw tl (fx_u M9 35 1 0) (N := N) (by rw [hm0 1 (by decide)]; exact hN)) rfl rfl rfl rfl (Nat.le_of_ble_eq_true rfl) ⟨Nat.le_of_ble_eq_true rfl, Nat.le_of_ble_eq_true rfl, Nat.le_of_ble_eq_true rfl, Nat.le_of_ble_eq_true rfl⟩ (fun r49 M49 h49 => ?_)
      rw [h49.1, h49.2]
      refine G_if_ne (tgt := 66) F dX7_read_52 (by decide) (fun h52 => ?_) (fun h52 => ?_)
      · have b52 : tfit N (pp (hr (M 36) len) len).2.2.2.1 (pp (hr (M 36) len) len).2.2.2.2.1 (pp (hr (M 36) len) len).2.2.2.2.2.1 = true := by rw [w5, w6, w7] at h52; simpa using h52
        refine G_aload_n F dX7_read_66 rfl ?_
        refine G_getr F fl_X7_12 dX7_read_67 rfl rfl ?_
        refine G_getr F fl_X7_89 dX7_read_70 rfl rfl ?_
        refine G_iload_n F dX7_read_73 rfl ?_
        refine G_aload_n F dX7_read_74 rfl ?_
        refine G_getr F fl_X7_58 dX7_read_75 rfl rfl ?_
        refine G_geti F fl_X7_273 dX7_read_78 rfl rfl ?_
        rw [w4]
        refine G_iastN F dX7_read_81 rfl (by omega) (by decide) ?_
        refine G_aload_n F dX7_read_82 rfl ?_
        refine G_getr F fl_X7_12 dX7_read_83 rfl rfl ?_
        refine G_iload_n F dX7_read_86 rfl ?_
        refine G_aload_n F dX7_read_87 rfl ?_
        refine G_getr F fl_X7_58 dX7_read_88 rfl rfl ?_
        refine G_geti F fl_X7_280 dX7_read_91 rfl rfl ?_
        rw [fx_u_ne (by decide), w5]
        refine G_aload_n F dX7_read_94 rfl ?_
        refine G_getr F fl_X7_58 dX7_read_95 rfl rfl ?_
        refine G_geti F fl_X7_282 dX7_read_98 rfl rfl ?_
        rw [fx_u_ne (by decide), w6]
        refine G_aload_n F dX7_read_101 rfl ?_
        refine G_getr F fl_X7_58 dX7_read_102 rfl rfl ?_
        refine G_geti F fl_X7_284 dX7_read_105 rfl rfl ?_
        rw [fx_u_ne (by decide), w7]
        refine G_aload_n F dX7_read_108 rfl ?_
        refine G_getr F fl_X7_58 dX7_read_109 rfl rfl ?_
        refine G_geti F fl_X7_286 dX7_read_112 rfl rfl ?_
        rw [fx_u_ne (by decide), w8]
        refine G_vI F mv_X7_93 dX7_read_115 (s_changeEnd hl ad sw tl (fx_u (fx_u M9 35 1 0) 2 x (pp (hr (M 36) len) len).2.2.1) (N := N) (b := x) (pp (hr (M 36) len) len).2.2.2.1 (pp (hr (M 36) len) len).2.2.2.2.1 (pp (hr (M 36) len) len).2.2.2.2.2.1 (pp (hr (M 36) len) len).2.2.2.2.2.2 (by rw [fx_u_ne (by decide), hm0 1 (by decide)]; exact hN) hN16 (by omega)) rfl rfl rfl rfl (Nat.le_of_ble_eq_true rfl) ⟨Nat.le_of_ble_eq_true rfl, Nat.le_of_ble_eq_true rfl, Nat.le_of_ble_eq_true rfl, Nat.le_of_ble_eq_true rfl⟩ (fun r115 M115 h115 => ?_)
        rw [h115.1, h115.2]
        refine G_pop F dX7_read_118 rfl ?_
        refine G_aload_n F dX7_read_119 rfl ?_
        refine G_getr F fl_X7_58 dX7_read_120 rfl rfl ?_
        refine G_geti F fl_X7_280 dX7_read_123 rfl rfl ?_
        refine G_iret F Rt dX7_read_126 (rfl) ⟨rfl, rfl, _, rfl, ?_⟩ (Nat.le_of_ble_eq_true rfl) (Nat.le_of_ble_eq_true rfl)
        refine ⟨x, hx1, rfl, fx_u M9 35 1 0, hm0, by simp [fx_u_at], Or.inr ⟨b22, ⟨?_, b52⟩, ?_, rfl⟩⟩
        · simp only [Int32.lt_iff_toInt_lt, Int32.le_iff_toInt_le] at h45 ⊢; omega
        · rw [fx_u_ne (by decide)]; simp only [m_ce, fx_u_ne (show (35 : Nat) ≠ 9 by decide), fx_u_ne (show (35 : Nat) ≠ 8 by decide), fx_u_ne (show (35 : Nat) ≠ 6 by decide), fx_u_ne (show (35 : Nat) ≠ 5 by decide), fx_u_ne (show (35 : Nat) ≠ 4 by decide), fx_u_ne (show (35 : Nat) ≠ 3 by decide), fx_u_ne (show (35 : Nat) ≠ 2 by decide)]; exact w5
      · have b52 : tfit N (pp (hr (M 36) len) len).2.2.2.1 (pp (hr (M 36) len) len).2.2.2.2.1 (pp (hr (M 36) len) len).2.2.2.2.2.1 = false := by rw [w5, w6, w7] at h52; simpa using h52
        refine G_throwSW F Rt (cls := "java/lang/IllegalArgumentException") (text := "the text does not fit the program") nmsR dX7_read_55 dX7_read_58 dX7_read_59 dX7_read_62 dX7_read_65 fit_IAE nmsR_fit (fx_in 585 (by decide +kernel) rfl) (fx_in 137 (by decide +kernel) rfl) (List.mem_of_getElem? (i := 20) rfl) at_IAE ⟨Nat.le_of_ble_eq_true rfl, Nat.le_of_ble_eq_true rfl, Nat.le_of_ble_eq_true rfl, Nat.le_of_ble_eq_true rfl⟩ ?_ (Nat.le_of_ble_eq_true rfl) (Nat.le_of_ble_eq_true rfl)
        exact Or.inr ⟨rfl, hp2, hm0, by simp [fx_u_at], b22, fun q => by rw [b52] at q; exact Bool.noConfusion q.2⟩
  · have b22 : (pp (hr (M 36) len) len).2.1 = false := by simpa using h22
    refine G_bipush (v := -100) F dX7_read_25 rfl ?_
    refine G_aload_n F dX7_read_27 rfl ?_
    refine G_getr F fl_X7_58 dX7_read_28 rfl rfl ?_
    refine G_geti F fl_X7_270 dX7_read_31 rfl rfl ?_
    rw [show fx_u M9 35 1 0 35 2 = nI (pp (hr (M 36) len) len).1 from by simp [fx_u_at]; exact g3]
    refine G_isub F dX7_read_34 ?_
    refine G_iret F Rt dX7_read_35 (rfl) ⟨rfl, rfl, _, rfl, ?_⟩ (Nat.le_of_ble_eq_true rfl) (Nat.le_of_ble_eq_true rfl)
    exact ⟨x, hx1, rfl, fx_u M9 35 1 0, hm0, by simp [fx_u_at], Or.inl ⟨b22, rfl, rfl⟩⟩
