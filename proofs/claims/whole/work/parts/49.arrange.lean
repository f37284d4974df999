/-! BLOCKLAYOUT: arrange -/
def hrw (ho : Nat → Bool) (b : Nat) : Int32 := if ho b then 1 else 0
/-- what a join gains: by weights, by gains -/
def gnp (kd f s w1 w2 : Nat → Int32) (bw : Int32) (a : Nat) (t : Int32) : Int32 := if bw = 0 then pf_cc kd f s w1 w2 a (-1) - pf_cc kd f s w1 w2 a t else pf_wt f s w1 w2 a t
def ldp (f s : Nat → Int32) (bw : Int32) (n : Nat) : Bool := !decide (bw = 0) || decide (f n < s n)
def bwm (mt : Int32) : Int32 := if mt = 0 then 1 else 0
/-- the row of hot blocks by each method, of rows alone -/
def mkp (N : Nat) (ho : Nat → Bool) (kd f s w1 w2 r0 : Nat → Int32) (mt : Int32) (r : Nat → Int32) : Prop :=
  if mt = 2 then r = (sr N (hcn ho N) ho (pf_cc kd f s w1 w2) 6 1 (fun _ => 0) 1 0 (2147483647, r0)).2
  else ∃ (bh : Nat → Int32) (fo rk : Nat → Nat), (∀ b, b < N → bh b = (pk N (hrw ho) (gnp kd f s w1 w2 (bwm mt)) (ldp f s (bwm mt)) f s 16).1 b) ∧ (∀ b, b < N → (pk N (hrw ho) (gnp kd f s w1 w2 (bwm mt)) (ldp f s (bwm mt)) f s 16).2 b = nI (fo b) ∧ fo b < N) ∧ cgd N ho bh fo rk ∧ fo 0 = 0 ∧ r = (pch N ho fo bh f s w1 w2 r0 16).2
theorem pf_cj_hr {N : Nat} (hN : N ≤ 16) {h1 h2 bh ch : Nat → Int32} (h : ∀ b, b < N → h1 b = h2 b) {a : Nat} (ha : a < N) (t : Int32) : pf_cj (nI N) h1 bh ch a t = pf_cj (nI N) h2 bh ch a t := by
  unfold pf_cj
  by_cases e1 : 0 < t
  · by_cases e2 : t < nI N
    · have ht : t.toNatClampNeg < N := by
        obtain ⟨j, hj1, hj2⟩ := nI_of (x := t) (by simp only [Int32.lt_iff_toInt_lt, i0] at *; omega)
        rw [hj2, nI_ltI hj1 (by omega)] at e2
        rw [hj2, nI_clamp hj1]; exact e2
      rw [h a ha, h _ ht]
    · simp [e2]
  · simp [e1]
theorem pk_hr {N : Nat} (hN : N ≤ 16) {h1 h2 : Nat → Int32} {gn : Nat → Int32 → Int32} {ld : Nat → Bool} {f s : Nat → Int32} (h : ∀ b, b < N → h1 b = h2 b) : ∀ k, pk N h1 gn ld f s k = pk N h2 gn ld f s k := by
  intro k
  induction k with
  | zero => rfl
  | succ k ih =>
    show pn N h1 gn ld f s (pk N h1 gn ld f s k) = pn N h2 gn ld f s (pk N h2 gn ld f s k)
    rw [ih]
    have e : pj N h1 gn ld f s (pk N h2 gn ld f s k) = pj N h2 gn ld f s (pk N h2 gn ld f s k) := jf_congr N (fun a ha t => pf_cj_hr hN h ha t)
    unfold pn
    rw [e]
theorem mkr_mkp {N : Nat} (hN : N ≤ 16) {ho : Nat → Bool} {M : fx_M} {mt : Int32} {r : Nat → Int32} (h21 : ∀ b, b < N → M 21 b = (if ho b then 1 else 0)) (h : mkr N ho M mt r) : mkp N ho (M 3) (M 4) (M 5) (M 8) (M 9) (M 11) mt r := by
  unfold mkr at h
  unfold mkp
  by_cases e : mt = 2
  · rw [if_pos e] at h ⊢; exact h
  · rw [if_neg e] at h ⊢
    obtain ⟨bh, fo, rk, q1, q2, q3, q4, q5⟩ := h
    have ek := pk_hr (gn := gnp (M 3) (M 4) (M 5) (M 8) (M 9) (bwm mt)) (ld := ldp (M 4) (M 5) (bwm mt)) (f := M 4) (s := M 5) hN (h1 := M 21) (h2 := hrw ho) h21 16
    refine ⟨bh, fo, rk, fun b hb => ?_, fun b hb => ?_, q3, q4, q5⟩
    · rw [← ek]; exact q1 b hb
    · rw [← ek]; exact q2 b hb
/-- the plan was remembered, whatever else was done -/
def rmh (sl kp : Nat) (M m : fx_M) : Prop := m 31 3 = nI (if sl + 1 = 10 then 0 else sl + 1) ∧ m 31 4 = nI (min (kp + 1) 10) ∧ (∀ j, m 32 j = if sl * 16 ≤ j ∧ j < sl * 16 + 16 then M 11 (j - sl * 16) else M 32 j) ∧ m 33 = upd (M 33) sl (M 10 1) ∧ m 34 = upd (M 34) sl (M 10 2)
set_option maxRecDepth 20000 in
theorem s_arrange {l : Launch} {Z : fx_Z} (hl : l.stackTraces = false) (ad : Nat → Nat) (sw : Bool) (tl : List fx_Sh) (M : fx_M) {N : Nat} (mt cold : Int32) (hN : M 1 8 = nI N) (hN16 : N ≤ 16) {sl kp : Nat} (hsl : M 31 3 = nI sl) (hsl10 : sl < 10) (hkp0 : M 31 4 = nI kp) (hkp10 : kp ≤ 10) (h0 : 0 < N) (hperm : ∀ r, mkp N (hob (M 7) cold) (M 3) (M 4) (M 5) (M 8) (M 9) (M 11) mt r → ∃ rw pos : Nat → Nat, pm N rw pos ∧ ∀ j, j < N → pcd (hob (M 7) cold) (hcn (hob (M 7) cold) N) r N j = nI (rw j)) : CA l Z yX7_arrange (.code yX7_arrange cX7_arrange 3 (some .int)) 10 [.ref (ad 0), .int mt, .int cold] ad (c_C sw ++ tl) M (fun r m => (0 ≤ mt ∧ mt ≤ 2 ∧ -1 ≤ cold ∧ cold ≤ 9999) ∧ ¬ (mt = 2 ∧ 7 < hcn (hob (M 7) cold) N) ∧ fr [10, 11, 13, 14, 15, 16, 17, 20, 21, 22, 23, 24, 25, 26, 31, 32, 33, 34] M m ∧ rmh sl kp M m ∧ m 10 = upd (M 10) 1 (nI (hcn (hob (M 7) cold) N)) ∧ (∃ r0, mkp N (hob (M 7) cold) (M 3) (M 4) (M 5) (M 8) (M 9) (M 11) mt r0 ∧ m 11 = pcd (hob (M 7) cold) (hcn (hob (M 7) cold) N) r0 N) ∧ ∃ rw pos, pm N rw pos ∧ (∀ j, j < N → m 11 j = nI (rw j)) ∧ r = sm (fun b => if nI (pos b) < nI (hcn (hob (M 7) cold) N) then pf_cc (M 3) (M 4) (M 5) (M 8) (M 9) b (l_nx N (hcn (hob (M 7) cold) N) rw pos b) else 0) N) (fun E m => (E = xIA ∧ m = M ∧ ¬ (0 ≤ mt ∧ mt ≤ 2 ∧ -1 ≤ cold ∧ cold ≤ 9999)) ∨ (E = xUO ∧ (0 ≤ mt ∧ mt ≤ 2 ∧ -1 ≤ cold ∧ cold ≤ 9999) ∧ mt = 2 ∧ 7 < hcn (hob (M 7) cold) N ∧ fr [20, 21] M m)) := by
  refine CT_of (ret := (some .int)) (lv0 := [some (.ref (ad 0)), some (.int mt), some (.int cold)]) (by decide +kernel) hl (by simp [Value.category]) (Nat.le_of_ble_eq_true rfl) rfl ?_
  intro X F Rt _
  refine G_iload_n F dX7_arrange_0 rfl ?_
  refine G_if_lt (tgt := 9) F dX7_arrange_1 (by decide) (fun h1 => ?_) (fun h1 => ?_)
  · refine G_throwS F Rt (cls := "java/lang/IllegalArgumentException") (text := "there is no such method") nmsR dX7_arrange_9 dX7_arrange_12 dX7_arrange_13 dX7_arrange_15 dX7_arrange_18 fit_IAE nmsR_fit (fx_in 585 (by decide +kernel) rfl) (fx_in 137 (by decide +kernel) rfl) (List.mem_of_getElem? (i := 11) rfl) at_IAE ⟨Nat.le_of_ble_eq_true rfl, Nat.le_of_ble_eq_true rfl, Nat.le_of_ble_eq_true rfl, Nat.le_of_ble_eq_true rfl⟩ ?_ (Nat.le_of_ble_eq_true rfl) (Nat.le_of_ble_eq_true rfl)
    refine Or.inl ⟨rfl, rfl, ?_⟩
    simp only [Int32.lt_iff_toInt_lt, Int32.le_iff_toInt_le] at *
    omega
  · refine G_iload_n F dX7_arrange_4 rfl ?_
    refine G_iconst (v := 2) F dX7_arrange_5 rfl ?_
    refine G_icmp_le (tgt := 19) F dX7_arrange_6 (by decide) (fun h6 => ?_) (fun h6 => ?_)
    · refine G_iload_n F dX7_arrange_19 rfl ?_
      refine G_iconst (v := -1) F dX7_arrange_20 rfl ?_
      refine G_icmp_lt (tgt := 31) F dX7_arrange_21 (by decide) (fun h21 => ?_) (fun h21 => ?_)
      · refine G_throwS F Rt (cls := "java/lang/IllegalArgumentException") (text := "the cold limit is not from -1 to 9999") nmsR dX7_arrange_31 dX7_arrange_34 dX7_arrange_35 dX7_arrange_37 dX7_arrange_40 fit_IAE nmsR_fit (fx_in 585 (by decide +kernel) rfl) (fx_in 137 (by decide +kernel) rfl) (List.mem_of_getElem? (i := 12) rfl) at_IAE ⟨Nat.le_of_ble_eq_true rfl, Nat.le_of_ble_eq_true rfl, Nat.le_of_ble_eq_true rfl, Nat.le_of_ble_eq_true rfl⟩ ?_ (Nat.le_of_ble_eq_true rfl) (Nat.le_of_ble_eq_true rfl)
        refine Or.inl ⟨rfl, rfl, ?_⟩
        simp only [Int32.lt_iff_toInt_lt, Int32.le_iff_toInt_le] at *
        omega
      · refine G_iload_n F dX7_arrange_24 rfl ?_
        refine G_sipush (v := 9999) F dX7_arrange_25 rfl ?_
        refine G_icmp_le (tgt := 41) F dX7_arrange_28 (by decide) (fun h28 => ?_) (fun h28 => ?_)
        · refine G_aload_n F dX7_arrange_41 rfl ?_
          refine G_getr F fl_X7_35 dX7_arrange_42 rfl rfl ?_
          refine G_iload_n F dX7_arrange_45 rfl ?_
          refine G_vv F mv_X7_178 dX7_arrange_46 (s_divide hl ad sw tl M (N := N) cold hN hN16) rfl rfl rfl rfl (Nat.le_of_ble_eq_true rfl) ⟨Nat.le_of_ble_eq_true rfl, Nat.le_of_ble_eq_true rfl, Nat.le_of_ble_eq_true rfl, Nat.le_of_ble_eq_true rfl⟩ (fun M46 h46 => ?_)
          have hrng : (0 ≤ mt ∧ mt ≤ 2 ∧ -1 ≤ cold ∧ cold ≤ 9999) := by
            simp only [Int32.lt_iff_toInt_lt, Int32.le_iff_toInt_le] at *
            omega
          refine G_iload_n F dX7_arrange_49 rfl ?_
          refine G_iconst (v := 2) F dX7_arrange_50 rfl ?_
          refine G_icmp_ne (tgt := 76) F dX7_arrange_51 (by decide) (fun h51 => ?_) (fun h51 => ?_)
          · have hno : ¬ (mt = 2 ∧ 7 < hcn (hob (M 7) cold) N) := fun q => h51 q.1
            refine G_aload_n F dX7_arrange_76 rfl ?_
            refine G_getr F fl_X7_51 dX7_arrange_77 rfl rfl ?_
            refine G_aload_n F dX7_arrange_80 rfl ?_
            refine G_getr F fl_X7_19 dX7_arrange_81 rfl rfl ?_
            refine G_vv F mv_X7_168 dX7_arrange_84 (s_remember hl ad sw tl M46 (sl := sl) (kp := kp) (by rw [h46.1 31 (by decide)]; exact hsl) hsl10 (by rw [h46.1 31 (by decide)]; exact hkp0) hkp10) rfl rfl rfl rfl (Nat.le_of_ble_eq_true rfl) ⟨Nat.le_of_ble_eq_true rfl, Nat.le_of_ble_eq_true rfl, Nat.le_of_ble_eq_true rfl, Nat.le_of_ble_eq_true rfl⟩ (fun M84 h84 => ?_)
            have f84 : ∀ k, k ∉ [20, 21, 31, 32, 33, 34] → M84 k = M k := fun k hk => by
              simp only [List.mem_cons, List.not_mem_nil, or_false, not_or] at hk
              rw [h84.1 k (by simp [hk]), h46.1 k (by simp [hk])]
            have d21 : ∀ x, x < N → M84 21 x = (if (hob (M 7) cold) x then 1 else 0) := fun x hx => by rw [h84.1 21 (by decide)]; exact h46.2.2 x hx
            have d20 : M84 20 3 = nI (hcn (hob (M 7) cold) N) := by rw [h84.1 20 (by decide), h46.2.1, upd_self]
            refine G_aload_n F dX7_arrange_87 rfl ?_
            refine G_getr F fl_X7_35 dX7_arrange_88 rfl rfl ?_
            refine G_iload_n F dX7_arrange_91 rfl ?_
            refine G_vv F mv_X7_186 dX7_arrange_92 (s_makePlan hl ad sw tl M84 (N := N) (hob (M 7) cold) mt (by rw [f84 1 (by decide)]; exact hN) hN16 d20 d21 h0 rfl) rfl rfl rfl rfl (Nat.le_of_ble_eq_true rfl) ⟨Nat.le_of_ble_eq_true rfl, Nat.le_of_ble_eq_true rfl, Nat.le_of_ble_eq_true rfl, Nat.le_of_ble_eq_true rfl⟩ (fun M92 h92 => ?_)
            obtain ⟨k1, k2, r0, k3, k4⟩ := h92
            have k5 := mkr_mkp hN16 d21 k3
            rw [f84 3 (by decide), f84 4 (by decide), f84 5 (by decide), f84 8 (by decide), f84 9 (by decide), f84 11 (by decide)] at k5
            obtain ⟨rw, pos, hpm, hrw⟩ := hperm r0 k5
            have hle := hcn_le (ho := (hob (M 7) cold)) N
            have hrow : ∀ j, j < N → M92 11 j = nI (rw j) := fun j hj => by rw [k4]; exact hrw j hj
            have h1N : M92 1 8 = nI N := by rw [k1 1 (by decide), f84 1 (by decide)]; exact hN
            have hhot : M92 10 1 = nI (hcn (hob (M 7) cold) N) := by rw [k2, upd_self]
            refine G_aload_n F dX7_arrange_95 rfl ?_
            refine G_getr F fl_X7_28 dX7_arrange_96 rfl rfl ?_
            refine G_vv F mv_X7_189 dX7_arrange_99 (s_findForms hl ad sw tl M92 (N := N) (hot := hcn (hob (M 7) cold) N) (rw := rw) (pos := pos) h1N hN16 hhot hle hpm hrow) rfl rfl rfl rfl (Nat.le_of_ble_eq_true rfl) ⟨Nat.le_of_ble_eq_true rfl, Nat.le_of_ble_eq_true rfl, Nat.le_of_ble_eq_true rfl, Nat.le_of_ble_eq_true rfl⟩ (fun M99 h99 => ?_)
            skip
            refine G_aload_n F dX7_arrange_102 rfl ?_
            refine G_getr F fl_X7_28 dX7_arrange_103 rfl rfl ?_
            refine G_aload_n F dX7_arrange_106 rfl ?_
            refine G_getr F fl_X7_19 dX7_arrange_107 rfl rfl ?_
            refine G_geti F fl_X7_192 dX7_arrange_110 rfl rfl ?_
            rw [h99.1 10 (by decide), hhot]
            refine G_vI F mv_X7_195 dX7_arrange_113 (s_sumOfCosts hl ad sw tl M99 (N := N) (nI (hcn (hob (M 7) cold) N)) (by rw [h99.1 1 (by decide)]; exact h1N) hN16) rfl rfl rfl rfl (Nat.le_of_ble_eq_true rfl) ⟨Nat.le_of_ble_eq_true rfl, Nat.le_of_ble_eq_true rfl, Nat.le_of_ble_eq_true rfl, Nat.le_of_ble_eq_true rfl⟩ (fun r113 M113 h113 => ?_)
            rw [h113.1, h113.2, h99.1 3 (by decide), k1 3 (by decide), f84 3 (by decide), h99.1 4 (by decide), k1 4 (by decide), f84 4 (by decide), h99.1 5 (by decide), k1 5 (by decide), f84 5 (by decide), h99.1 8 (by decide), k1 8 (by decide), f84 8 (by decide), h99.1 9 (by decide), k1 9 (by decide), f84 9 (by decide)]
            refine G_iret F Rt dX7_arrange_116 (rfl) ⟨rfl, rfl, _, rfl, ?_⟩ (Nat.le_of_ble_eq_true rfl) (Nat.le_of_ble_eq_true rfl)
            refine ⟨hrng, hno, fun k hk => ?_, ⟨?_, ?_, ?_, ?_, ?_⟩, ?_, ⟨r0, k5, ?_⟩, rw, pos, hpm, fun j hj => ?_, ?_⟩
            · simp only [List.mem_cons, List.not_mem_nil, or_false, not_or] at hk
              rw [h99.1 k (by simp [hk]), k1 k (by simp [hk]), f84 k (by simp [hk])]
            · rw [h99.1 31 (by decide), k1 31 (by decide)]; exact h84.2.1
            · rw [h99.1 31 (by decide), k1 31 (by decide)]; exact h84.2.2.1
            · intro j
              rw [h99.1 32 (by decide), k1 32 (by decide), h84.2.2.2.1 j, h46.1 11 (by decide), h46.1 32 (by decide)]
            · rw [h99.1 33 (by decide), k1 33 (by decide), h84.2.2.2.2.1, h46.1 33 (by decide), h46.1 10 (by decide)]
            · rw [h99.1 34 (by decide), k1 34 (by decide), h84.2.2.2.2.2, h46.1 34 (by decide), h46.1 10 (by decide)]
            · rw [h99.1 10 (by decide), k2, f84 10 (by decide)]
            · rw [h99.1 11 (by decide), k4]
            · rw [h99.1 11 (by decide)]; exact hrow j hj
            · exact sm_congr (fun b hb => by rw [(h99.2 b hb).1, (h99.2 b hb).2.1])
          · refine G_aload_n F dX7_arrange_54 rfl ?_
            refine G_getr F fl_X7_35 dX7_arrange_55 rfl rfl ?_
            refine G_geti F fl_X7_181 dX7_arrange_58 rfl rfl ?_
            refine G_bipush (v := nI 7) F dX7_arrange_61 (by decide) ?_
            rw [show M46 20 3 = nI (hcn (hob (M 7) cold) N) from by rw [h46.2.1, upd_self]]
            refine G_icmp_le (tgt := 76) F dX7_arrange_63 (by decide) (fun h63 => ?_) (fun h63 => ?_)
            · have hle0 := hcn_le (ho := (hob (M 7) cold)) N
              rw [nI_leI (by omega) (by omega)] at h63
              have hno : ¬ (mt = 2 ∧ 7 < hcn (hob (M 7) cold) N) := fun q => by omega
              refine G_aload_n F dX7_arrange_76 rfl ?_
              refine G_getr F fl_X7_51 dX7_arrange_77 rfl rfl ?_
              refine G_aload_n F dX7_arrange_80 rfl ?_
              refine G_getr F fl_X7_19 dX7_arrange_81 rfl rfl ?_
              refine G_vv F mv_X7_168 dX7_arrange_84 (s_remember hl ad sw tl M46 (sl := sl) (kp := kp) (by rw [h46.1 31 (by decide)]; exact hsl) hsl10 (by rw [h46.1 31 (by decide)]; exact hkp0) hkp10) rfl rfl rfl rfl (Nat.le_of_ble_eq_true rfl) ⟨Nat.le_of_ble_eq_true rfl, Nat.le_of_ble_eq_true rfl, Nat.le_of_ble_eq_true rfl, Nat.le_of_ble_eq_true rfl⟩ (fun M84 h84 => ?_)
              have f84 : ∀ k, k ∉ [20, 21, 31, 32, 33, 34] → M84 k = M k := fun k hk => by
                simp only [List.mem_cons, List.not_mem_nil, or_false, not_or] at hk
                rw [h84.1 k (by simp [hk]), h46.1 k (by simp [hk])]
              have d21 : ∀ x, x < N → M84 21 x = (if (hob (M 7) cold) x then 1 else 0) := fun x hx => by rw [h84.1 21 (by decide)]; exact h46.2.2 x hx
              have d20 : M84 20 3 = nI (hcn (hob (M 7) cold) N) := by rw [h84.1 20 (by decide), h46.2.1, upd_self]
              refine G_aload_n F dX7_arrange_87 rfl ?_
              refine G_getr F fl_X7_35 dX7_arrange_88 rfl rfl ?_
              refine G_iload_n F dX7_arrange_91 rfl ?_
              refine G_vv F mv_X7_186 dX7_arrange_92 (s_makePlan hl ad sw tl M84 (N := N) (hob (M 7) cold) mt (by rw [f84 1 (by decide)]; exact hN) hN16 d20 d21 h0 rfl) rfl rfl rfl rfl (Nat.le_of_ble_eq_true rfl) ⟨Nat.le_of_ble_eq_true rfl, Nat.le_of_ble_eq_true rfl, Nat.le_of_ble_eq_true rfl, Nat.le_of_ble_eq_true rfl⟩ (fun M92 h92 => ?_)
              obtain ⟨k1, k2, r0, k3, k4⟩ := h92
              have k5 := mkr_mkp hN16 d21 k3
              rw [f84 3 (by decide), f84 4 (by decide), f84 5 (by decide), f84 8 (by decide), f84 9 (by decide), f84 11 (by decide)] at k5
              obtain ⟨rw, pos, hpm, hrw⟩ := hperm r0 k5
              have hle := hcn_le (ho := (hob (M 7) cold)) N
              have hrow : ∀ j, j < N → M92 11 j = nI (rw j) := fun j hj => by rw [k4]; exact hrw j hj
              have h1N : M92 1 8 = nI N := by rw [k1 1 (by decide), f84 1 (by decide)]; exact hN
              have hhot : M92 10 1 = nI (hcn (hob (M 7) cold) N) := by rw [k2, upd_self]
              refine G_aload_n F dX7_arrange_95 rfl ?_
              refine G_getr F fl_X7_28 dX7_arrange_96 rfl rfl ?_
              refine G_vv F mv_X7_189 dX7_arrange_99 (s_findForms hl ad sw tl M92 (N := N) (hot := hcn (hob (M 7) cold) N) (rw := rw) (pos := pos) h1N hN16 hhot hle hpm hrow) rfl rfl rfl rfl (Nat.le_of_ble_eq_true rfl) ⟨Nat.le_of_ble_eq_true rfl, Nat.le_of_ble_eq_true rfl, Nat.le_of_ble_eq_true rfl, Nat.le_of_ble_eq_true rfl⟩ (fun M99 h99 => ?_)
              skip
              refine G_aload_n F dX7_arrange_102 rfl ?_
              refine G_getr F fl_X7_28 dX7_arrange_103 rfl rfl ?_
              refine G_aload_n F dX7_arrange_106 rfl ?_
              refine G_getr F fl_X7_19 dX7_arrange_107 rfl rfl ?_
              refine G_geti F fl_X7_192 dX7_arrange_110 rfl rfl ?_
              rw [h99.1 10 (by decide), hhot]
              refine G_vI F mv_X7_195 dX7_arrange_113 (s_sumOfCosts hl ad sw tl M99 (N := N) (nI (hcn (hob (M 7) cold) N)) (by rw [h99.1 1 (by decide)]; exact h1N) hN16) rfl rfl rfl rfl (Nat.le_of_ble_eq_true rfl) ⟨Nat.le_of_ble_eq_true rfl, Nat.le_of_ble_eq_true rfl, Nat.le_of_ble_eq_true rfl, Nat.le_of_ble_eq_true rfl⟩ (fun r113 M113 h113 => ?_)
              rw [h113.1, h113.2, h99.1 3 (by decide), k1 3 (by decide), f84 3 (by decide), h99.1 4 (by decide), k1 4 (by decide), f84 4 (by decide), h99.1 5 (by decide), k1 5 (by decide), f84 5 (by decide), h99.1 8 (by decide), k1 8 (by decide), f84 8 (by decide), h99.1 9 (by decide), k1 9 (by decide), f84 9 (by decide)]
              refine G_iret F Rt dX7_arrange_116 (rfl) ⟨rfl, rfl, _, rfl, ?_⟩ (Nat.le_of_ble_eq_true rfl) (Nat.le_of_ble_eq_true rfl)
              refine ⟨hrng, hno, fun k hk => ?_, ⟨?_, ?_, ?_, ?_, ?_⟩, ?_, ⟨r0, k5, ?_⟩, rw, pos, hpm, fun j hj => ?_, ?_⟩
              · simp only [List.mem_cons, List.not_mem_nil, or_false, not_or] at hk
                rw [h99.1 k (by simp [hk]), k1 k (by simp [hk]), f84 k (by simp [hk])]
              · rw [h99.1 31 (by decide), k1 31 (by decide)]; exact h84.2.1
              · rw [h99.1 31 (by decide), k1 31 (by decide)]; exact h84.2.2.1
              · intro j
                rw [h99.1 32 (by decide), k1 32 (by decide), h84.2.2.2.1 j, h46.1 11 (by decide), h46.1 32 (by decide)]
              · rw [h99.1 33 (by decide), k1 33 (by decide), h84.2.2.2.2.1, h46.1 33 (by decide), h46.1 10 (by decide)]
              · rw [h99.1 34 (by decide), k1 34 (by decide), h84.2.2.2.2.2, h46.1 34 (by decide), h46.1 10 (by decide)]
              · rw [h99.1 10 (by decide), k2, f84 10 (by decide)]
              · rw [h99.1 11 (by decide), k4]
              · rw [h99.1 11 (by decide)]; exact hrow j hj
              · exact sm_congr (fun b hb => by rw [(h99.2 b hb).1, (h99.2 b hb).2.1])
            · have hle0 := hcn_le (ho := (hob (M 7) cold)) N
              rw [nI_leI (by omega) (by omega)] at h63
              refine G_throwS F Rt (cls := "java/lang/UnsupportedOperationException") (text := "there are more than 7 hot blocks") nmsR dX7_arrange_66 dX7_arrange_69 dX7_arrange_70 dX7_arrange_72 dX7_arrange_75 fit_UOE nmsR_fit (fx_in 762 (by decide +kernel) rfl) (fx_in 141 (by decide +kernel) rfl) (List.mem_of_getElem? (i := 13) rfl) at_UOE ⟨Nat.le_of_ble_eq_true rfl, Nat.le_of_ble_eq_true rfl, Nat.le_of_ble_eq_true rfl, Nat.le_of_ble_eq_true rfl⟩ ?_ (Nat.le_of_ble_eq_true rfl) (Nat.le_of_ble_eq_true rfl)
              exact Or.inr ⟨rfl, hrng, h51, by omega, h46.1⟩
        · refine G_throwS F Rt (cls := "java/lang/IllegalArgumentException") (text := "the cold limit is not from -1 to 9999") nmsR dX7_arrange_31 dX7_arrange_34 dX7_arrange_35 dX7_arrange_37 dX7_arrange_40 fit_IAE nmsR_fit (fx_in 585 (by decide +kernel) rfl) (fx_in 137 (by decide +kernel) rfl) (List.mem_of_getElem? (i := 12) rfl) at_IAE ⟨Nat.le_of_ble_eq_true rfl, Nat.le_of_ble_eq_true rfl, Nat.le_of_ble_eq_true rfl, Nat.le_of_ble_eq_true rfl⟩ ?_ (Nat.le_of_ble_eq_true rfl) (Nat.le_of_ble_eq_true rfl)
          refine Or.inl ⟨rfl, rfl, ?_⟩
          simp only [Int32.lt_iff_toInt_lt, Int32.le_iff_toInt_le] at *
          omega
    · refine G_throwS F Rt (cls := "java/lang/IllegalArgumentException") (text := "there is no such method") nmsR dX7_arrange_9 dX7_arrange_12 dX7_arrange_13 dX7_arrange_15 dX7_arrange_18 fit_IAE nmsR_fit (fx_in 585 (by decide +kernel) rfl) (fx_in 137 (by decide +kernel) rfl) (List.mem_of_getElem? (i := 11) rfl) at_IAE ⟨Nat.le_of_ble_eq_true rfl, Nat.le_of_ble_eq_true rfl, Nat.le_of_ble_eq_true rfl, Nat.le_of_ble_eq_true rfl⟩ ?_ (Nat.le_of_ble_eq_true rfl) (Nat.le_of_ble_eq_true rfl)
      refine Or.inl ⟨rfl, rfl, ?_⟩
      simp only [Int32.lt_iff_toInt_lt, Int32.le_iff_toInt_le] at *
      omega
