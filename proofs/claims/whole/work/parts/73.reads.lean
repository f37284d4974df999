/-! THE REFERENCE: reading a text -/
/-- what reading leaves alone -/
def v_i (M m : fx_M) : Prop := fr [37] M m ∧ ∀ j, (j < 40 ∨ j = 42 ∨ 46 < j) → m 37 j = M 37 j
theorem v_i.u {M m : fx_M} {j : Nat} {x : Int32} (h : v_i M m) (hj : ¬ (j < 40 ∨ j = 42 ∨ 46 < j)) : v_i M (fx_u m 37 j x) :=
  ⟨h.1.u (by simp), fun i hi => by rw [fx_u_at, if_neg (fun q => hj (by rw [← q.2]; exact hi))]; exact h.2 i hi⟩
theorem v_i.rfl {M : fx_M} : v_i M M := ⟨fr.rfl, fun _ _ => Eq.refl _⟩
theorem v_i.step {M m m' : fx_M} (h : v_i M m) (h1 : fr [37] m m') (h2 : ∀ j, j ≠ 40 → j ≠ 41 → m' 37 j = m 37 j) : v_i M m' :=
  ⟨h.1.trans h1, fun i hi => by rw [h2 i (by omega) (by omega)]; exact h.2 i hi⟩
theorem v_i.trans {M m m' : fx_M} (h : v_i M m) (h1 : v_i m m') : v_i M m' := ⟨h.1.trans h1.1, fun i hi => (h1.2 i hi).trans (h.2 i hi)⟩
theorem tw1 {h : Nat → Int32} {c : Int32} {a : Nat} (q : h a = c) : tw h [c] a = (true, a + 1) := by simp only [tw, q, if_true]
set_option maxRecDepth 20000 in
theorem t_readsIf {l : Launch} {Z : fx_Z} (hl : l.stackTraces = false) (ad : Nat → Nat) (sw : Bool) (tl : List fx_Sh) (M : fx_M)  {len a : Nat} (hl1 : M 37 39 = nI len) (hl60 : len ≤ 60) (ha : M 37 40 = nI a) (hal : a ≤ len) (ha5 : (hr (M 63) len) a = 105) : CI l Z yX8_readsIf (.code yX8_readsIf cX8_readsIf 2 (some .boolean)) 5 [.ref (ad 37)] ad (c_C sw ++ (m_C ++ tl)) M (fun r m => r = (if (te (hr (M 63) len) a).2.1 then 1 else 0) ∧ v_i M m ∧ m 37 40 = nI (te (hr (M 63) len) a).1 ∧ ((te (hr (M 63) len) a).2.1 = true → m 37 43 = (te (hr (M 63) len) a).2.2.1 ∧ m 37 44 = (te (hr (M 63) len) a).2.2.2.1 ∧ m 37 45 = (te (hr (M 63) len) a).2.2.2.2.1 ∧ m 37 46 = (te (hr (M 63) len) a).2.2.2.2.2)) := by
  refine CT_of (ret := (some .boolean)) (lv0 := [some (.ref (ad 37)), none]) (by decide +kernel) hl (by simp [Value.category]) (Nat.le_of_ble_eq_true rfl) rfl ?_
  intro X F Rt _
  skip
  refine G_aload_n F dX8_readsIf_0 rfl ?_
  refine G_iconst (v := 1) F dX8_readsIf_1 rfl ?_
  refine G_puti F fl_X8_303 dX8_readsIf_2 rfl rfl rfl rfl ?_
  have v1 : v_i M (fx_u M 37 43 1) := v_i.rfl.u (by decide)
  refine G_aload_n F dX8_readsIf_5 rfl ?_
  refine G_ldcKW F (i := 6) rfl dX8_readsIf_6 ?_
  refine G_vI F mv_X8_308 dX8_readsIf_9 (t_takes hl ad sw tl (fx_u M 37 43 1) (i0 := 6) (bs := [105, 102, 32]) rfl (len := len) (a := a) (by rw [v1.2 39 (Or.inl (by decide))]; exact hl1) hl60 (by rw [fx_u_at, if_neg (by decide)]; exact ha) hal) rfl rfl rfl rfl (Nat.le_of_ble_eq_true rfl) ⟨Nat.le_of_ble_eq_true rfl, Nat.le_of_ble_eq_true rfl, Nat.le_of_ble_eq_true rfl, Nat.le_of_ble_eq_true rfl⟩ (fun r9 M9 h9 => ?_)
  rw [v1.1 63 (by decide)] at h9
  obtain ⟨g1, g2, g3, g4⟩ := h9
  rw [g1]
  have q1 := tw_le (ch := M 63) (len := len) [105, 102, 32] a (by decide) hal
  have v9 : v_i M M9 := v1.step g2 (fun j j1 _ => g4 j j1)
  have s43 : M9 37 43 = 1 := by rw [g4 43 (by decide)]; simp [fx_u_at]
  refine G_if_eq (tgt := 23) F dX8_readsIf_12 (by decide) (fun h12 => ?_) (fun h12 => ?_)
  · have b12 : (tw (hr (M 63) len) [105, 102, 32] a).1 = false := by simpa using h12
    refine G_iconst (v := 0) F dX8_readsIf_23 rfl ?_
    refine G_iret F Rt dX8_readsIf_24 (rfl) ⟨rfl, rfl, _, rfl, ?_⟩ (Nat.le_refl _) (Nat.le_refl _)
    have e : te (hr (M 63) len) a = ((tw (hr (M 63) len) [105, 102, 32] a).2, false, 1, -1, -1, 0) := by
      unfold te
      rw [if_neg (fun q => absurd (ha5.symm.trans q) (by decide)), if_neg (fun q => absurd (ha5.symm.trans q) (by decide))]
      simp only [b12, if_true, if_false, Bool.false_eq_true, decide_true, decide_false]
    rw [e]
    exact ⟨rfl, v9, g3, fun q => Bool.noConfusion (show false = true from q)⟩
  · have b12 : (tw (hr (M 63) len) [105, 102, 32] a).1 = true := by simpa using h12
    refine G_aload_n F dX8_readsIf_15 rfl ?_
    refine G_iconst (v := 2) F dX8_readsIf_16 rfl ?_
    refine G_vI F mv_X8_312 dX8_readsIf_17 (t_takesNumber hl ad sw tl M9 (k0 := 2) (len := len) (a := (tw (hr (M 63) len) [105, 102, 32] a).2) (by rw [v9.2 39 (Or.inl (by decide))]; exact hl1) hl60 g3 q1.2 (by omega) (by omega)) rfl rfl rfl rfl (Nat.le_of_ble_eq_true rfl) ⟨Nat.le_of_ble_eq_true rfl, Nat.le_of_ble_eq_true rfl, Nat.le_of_ble_eq_true rfl, Nat.le_of_ble_eq_true rfl⟩ (fun r17 M17 h17 => ?_)
    rw [v9.1 63 (by decide)] at h17
    obtain ⟨k1, k2, k3, k4, k5⟩ := h17
    rw [k1]
    have q2 := tn_le (ch := M 63) (len := len) 2 ((tw (hr (M 63) len) [105, 102, 32] a).2) 0 q1.2
    have v17 : v_i M M17 := v9.step k2 k5
    refine G_if_ne (tgt := 25) F dX8_readsIf_20 (by decide) (fun h20 => ?_) (fun h20 => ?_)
    · have b20 : (tw (hr (M 63) len) [105, 102, 32] a).2 < (tn (hr (M 63) len) 2 (tw (hr (M 63) len) [105, 102, 32] a).2 0).1 := by simpa using h20
      have kn := k4 b20
      have w17 : v_i M (fx_u M17 37 44 (tn (hr (M 63) len) 2 (tw (hr (M 63) len) [105, 102, 32] a).2 0).2) := v17.u (by decide)
      refine G_aload_n F dX8_readsIf_25 rfl ?_
      refine G_aload_n F dX8_readsIf_26 rfl ?_
      refine G_geti F fl_X8_300 dX8_readsIf_27 rfl rfl ?_
      rw [kn]
      refine G_puti F fl_X8_315 dX8_readsIf_30 rfl rfl rfl rfl ?_
      refine G_aload_n F dX8_readsIf_33 rfl ?_
      refine G_ldcKW F (i := 4) rfl dX8_readsIf_34 ?_
      refine G_vI F mv_X8_308 dX8_readsIf_37 (t_takes hl ad sw tl (fx_u M17 37 44 (tn (hr (M 63) len) 2 (tw (hr (M 63) len) [105, 102, 32] a).2 0).2) (i0 := 4) (bs := [32]) rfl (len := len) (a := (tn (hr (M 63) len) 2 (tw (hr (M 63) len) [105, 102, 32] a).2 0).1) (by rw [w17.2 39 (Or.inl (by decide))]; exact hl1) hl60 (by rw [fx_u_at, if_neg (by decide)]; exact k3) q2.2.1) rfl rfl rfl rfl (Nat.le_of_ble_eq_true rfl) ⟨Nat.le_of_ble_eq_true rfl, Nat.le_of_ble_eq_true rfl, Nat.le_of_ble_eq_true rfl, Nat.le_of_ble_eq_true rfl⟩ (fun r37 M37 h37 => ?_)
      rw [w17.1 63 (by decide)] at h37
      obtain ⟨l1, l2, l3, l4⟩ := h37
      rw [l1]
      have q3 := tw_le (ch := M 63) (len := len) [32] (tn (hr (M 63) len) 2 (tw (hr (M 63) len) [105, 102, 32] a).2 0).1 (by decide) q2.2.1
      have v37 : v_i M M37 := w17.step l2 (fun j j1 _ => l4 j j1)
      refine G_if_eq (tgt := 51) F dX8_readsIf_40 (by decide) (fun h40 => ?_) (fun h40 => ?_)
      · have b40 : (tw (hr (M 63) len) [32] (tn (hr (M 63) len) 2 (tw (hr (M 63) len) [105, 102, 32] a).2 0).1).1 = false := by simpa using h40
        refine G_iconst (v := 0) F dX8_readsIf_51 rfl ?_
        refine G_iret F Rt dX8_readsIf_52 (rfl) ⟨rfl, rfl, _, rfl, ?_⟩ (Nat.le_refl _) (Nat.le_refl _)
        have e : te (hr (M 63) len) a = ((tw (hr (M 63) len) [32] (tn (hr (M 63) len) 2 (tw (hr (M 63) len) [105, 102, 32] a).2 0).1).2, false, 1, -1, -1, 0) := by
          unfold te
          rw [if_neg (fun q => absurd (ha5.symm.trans q) (by decide)), if_neg (fun q => absurd (ha5.symm.trans q) (by decide))]
          simp only [b12, b12, b20, b40, if_true, if_false, Bool.false_eq_true, decide_true, decide_false]
        rw [e]
        exact ⟨rfl, v37, l3, fun q => Bool.noConfusion (show false = true from q)⟩
      · have b40 : (tw (hr (M 63) len) [32] (tn (hr (M 63) len) 2 (tw (hr (M 63) len) [105, 102, 32] a).2 0).1).1 = true := by simpa using h40
        refine G_aload_n F dX8_readsIf_43 rfl ?_
        refine G_iconst (v := 2) F dX8_readsIf_44 rfl ?_
        refine G_vI F mv_X8_312 dX8_readsIf_45 (t_takesNumber hl ad sw tl M37 (k0 := 2) (len := len) (a := (tw (hr (M 63) len) [32] (tn (hr (M 63) len) 2 (tw (hr (M 63) len) [105, 102, 32] a).2 0).1).2) (by rw [v37.2 39 (Or.inl (by decide))]; exact hl1) hl60 l3 q3.2 (by omega) (by omega)) rfl rfl rfl rfl (Nat.le_of_ble_eq_true rfl) ⟨Nat.le_of_ble_eq_true rfl, Nat.le_of_ble_eq_true rfl, Nat.le_of_ble_eq_true rfl, Nat.le_of_ble_eq_true rfl⟩ (fun r45 M45 h45 => ?_)
        rw [v37.1 63 (by decide)] at h45
        obtain ⟨m1, m2, m3, m4, m5⟩ := h45
        rw [m1]
        have q4 := tn_le (ch := M 63) (len := len) 2 ((tw (hr (M 63) len) [32] (tn (hr (M 63) len) 2 (tw (hr (M 63) len) [105, 102, 32] a).2 0).1).2) 0 q3.2
        have v45 : v_i M M45 := v37.step m2 m5
        refine G_if_ne (tgt := 53) F dX8_readsIf_48 (by decide) (fun h48 => ?_) (fun h48 => ?_)
        · have b48 : (tw (hr (M 63) len) [32] (tn (hr (M 63) len) 2 (tw (hr (M 63) len) [105, 102, 32] a).2 0).1).2 < (tn (hr (M 63) len) 2 (tw (hr (M 63) len) [32] (tn (hr (M 63) len) 2 (tw (hr (M 63) len) [105, 102, 32] a).2 0).1).2 0).1 := by simpa using h48
          have mn := m4 b48
          have w45 : v_i M (fx_u M45 37 45 (tn (hr (M 63) len) 2 (tw (hr (M 63) len) [32] (tn (hr (M 63) len) 2 (tw (hr (M 63) len) [105, 102, 32] a).2 0).1).2 0).2) := v45.u (by decide)
          refine G_aload_n F dX8_readsIf_53 rfl ?_
          refine G_aload_n F dX8_readsIf_54 rfl ?_
          refine G_geti F fl_X8_300 dX8_readsIf_55 rfl rfl ?_
          rw [mn]
          refine G_puti F fl_X8_320 dX8_readsIf_58 rfl rfl rfl rfl ?_
          refine G_aload_n F dX8_readsIf_61 rfl ?_
          refine G_ldcKW F (i := 4) rfl dX8_readsIf_62 ?_
          refine G_vI F mv_X8_308 dX8_readsIf_65 (t_takes hl ad sw tl (fx_u M45 37 45 (tn (hr (M 63) len) 2 (tw (hr (M 63) len) [32] (tn (hr (M 63) len) 2 (tw (hr (M 63) len) [105, 102, 32] a).2 0).1).2 0).2) (i0 := 4) (bs := [32]) rfl (len := len) (a := (tn (hr (M 63) len) 2 (tw (hr (M 63) len) [32] (tn (hr (M 63) len) 2 (tw (hr (M 63) len) [105, 102, 32] a).2 0).1).2 0).1) (by rw [w45.2 39 (Or.inl (by decide))]; exact hl1) hl60 (by rw [fx_u_at, if_neg (by decide)]; exact m3) q4.2.1) rfl rfl rfl rfl (Nat.le_of_ble_eq_true rfl) ⟨Nat.le_of_ble_eq_true rfl, Nat.le_of_ble_eq_true rfl, Nat.le_of_ble_eq_true rfl, Nat.le_of_ble_eq_true rfl⟩ (fun r65 M65 h65 => ?_)
          rw [w45.1 63 (by decide)] at h65
          obtain ⟨n1, n2, n3, n4⟩ := h65
          rw [n1]
          have q5 := tw_le (ch := M 63) (len := len) [32] (tn (hr (M 63) len) 2 (tw (hr (M 63) len) [32] (tn (hr (M 63) len) 2 (tw (hr (M 63) len) [105, 102, 32] a).2 0).1).2 0).1 (by decide) q4.2.1
          have v65 : v_i M M65 := w45.step n2 (fun j j1 _ => n4 j j1)
          refine G_if_ne (tgt := 73) F dX8_readsIf_68 (by decide) (fun h68 => ?_) (fun h68 => ?_)
          · have b68 : (tw (hr (M 63) len) [32] (tn (hr (M 63) len) 2 (tw (hr (M 63) len) [32] (tn (hr (M 63) len) 2 (tw (hr (M 63) len) [105, 102, 32] a).2 0).1).2 0).1).1 = true := by simpa using h68
            refine G_aload_n F dX8_readsIf_73 rfl ?_
            refine G_vI F mv_X8_293 dX8_readsIf_74 (t_here hl ad sw tl M65 (len := len) (a := (tw (hr (M 63) len) [32] (tn (hr (M 63) len) 2 (tw (hr (M 63) len) [32] (tn (hr (M 63) len) 2 (tw (hr (M 63) len) [105, 102, 32] a).2 0).1).2 0).1).2) (by rw [v65.2 39 (Or.inl (by decide))]; exact hl1) hl60 n3 q5.2) rfl rfl rfl rfl (Nat.le_of_ble_eq_true rfl) ⟨Nat.le_of_ble_eq_true rfl, Nat.le_of_ble_eq_true rfl, Nat.le_of_ble_eq_true rfl, Nat.le_of_ble_eq_true rfl⟩ (fun r74 M74 h74 => ?_)
            rw [h74.1, h74.2, v65.1 63 (by decide)]
            refine G_bipush (v := 45) F dX8_readsIf_77 rfl ?_
            refine G_icmp_ne (tgt := 96) F dX8_readsIf_79 (by decide) (fun h79 => ?_) (fun h79 => ?_)
            · have b79 : ¬ (hr (M 63) len) ((tw (hr (M 63) len) [32] (tn (hr (M 63) len) 2 (tw (hr (M 63) len) [32] (tn (hr (M 63) len) 2 (tw (hr (M 63) len) [105, 102, 32] a).2 0).1).2 0).1).2) = 45 := by simpa using h79
              refine G_iconst (v := 0) F dX8_readsIf_96 rfl ?_
              refine G_istore_n F 1 dX8_readsIf_97 rfl rfl rfl (Nat.le_of_ble_eq_true rfl) ?_
              simp only [List.set_cons_zero, List.set_cons_succ]
              refine G_aload_n F dX8_readsIf_98 rfl ?_
              refine G_bipush (v := nI 6) F dX8_readsIf_99 (by decide) ?_
              refine G_vI F mv_X8_312 dX8_readsIf_101 (t_takesNumber hl ad sw tl M65 (k0 := 6) (len := len) (a := (tw (hr (M 63) len) [32] (tn (hr (M 63) len) 2 (tw (hr (M 63) len) [32] (tn (hr (M 63) len) 2 (tw (hr (M 63) len) [105, 102, 32] a).2 0).1).2 0).1).2) (by rw [v65.2 39 (Or.inl (by decide))]; exact hl1) hl60 n3 q5.2 (by omega) (by omega)) rfl rfl rfl rfl (Nat.le_of_ble_eq_true rfl) ⟨Nat.le_of_ble_eq_true rfl, Nat.le_of_ble_eq_true rfl, Nat.le_of_ble_eq_true rfl, Nat.le_of_ble_eq_true rfl⟩ (fun r101 M101 h101 => ?_)
              rw [v65.1 63 (by decide)] at h101
              obtain ⟨p1, p2, p3, p4, p5⟩ := h101
              rw [p1]
              have v101 : v_i M M101 := v65.step p2 p5
              have etp : tp (hr (M 63) len) ((tw (hr (M 63) len) [32] (tn (hr (M 63) len) 2 (tw (hr (M 63) len) [32] (tn (hr (M 63) len) 2 (tw (hr (M 63) len) [105, 102, 32] a).2 0).1).2 0).1).2) = ((tn (hr (M 63) len) 6 ((tw (hr (M 63) len) [32] (tn (hr (M 63) len) 2 (tw (hr (M 63) len) [32] (tn (hr (M 63) len) 2 (tw (hr (M 63) len) [105, 102, 32] a).2 0).1).2 0).1).2) 0).1, decide ((tw (hr (M 63) len) [32] (tn (hr (M 63) len) 2 (tw (hr (M 63) len) [32] (tn (hr (M 63) len) 2 (tw (hr (M 63) len) [105, 102, 32] a).2 0).1).2 0).1).2 < (tn (hr (M 63) len) 6 ((tw (hr (M 63) len) [32] (tn (hr (M 63) len) 2 (tw (hr (M 63) len) [32] (tn (hr (M 63) len) 2 (tw (hr (M 63) len) [105, 102, 32] a).2 0).1).2 0).1).2) 0).1), (tn (hr (M 63) len) 6 ((tw (hr (M 63) len) [32] (tn (hr (M 63) len) 2 (tw (hr (M 63) len) [32] (tn (hr (M 63) len) 2 (tw (hr (M 63) len) [105, 102, 32] a).2 0).1).2 0).1).2) 0).2) := by unfold tp; rw [if_neg b79]
              refine G_if_ne (tgt := 109) F dX8_readsIf_104 (by decide) (fun h104 => ?_) (fun h104 => ?_)
              · have b104 : (tw (hr (M 63) len) [32] (tn (hr (M 63) len) 2 (tw (hr (M 63) len) [32] (tn (hr (M 63) len) 2 (tw (hr (M 63) len) [105, 102, 32] a).2 0).1).2 0).1).2 < (tn (hr (M 63) len) 6 ((tw (hr (M 63) len) [32] (tn (hr (M 63) len) 2 (tw (hr (M 63) len) [32] (tn (hr (M 63) len) 2 (tw (hr (M 63) len) [105, 102, 32] a).2 0).1).2 0).1).2) 0).1 := by simpa using h104
                have pn := p4 b104
                refine G_aload_n F dX8_readsIf_109 rfl ?_
                refine G_iload_n F dX8_readsIf_110 rfl ?_
                refine G_if_eq (tgt := 122) F dX8_readsIf_111 (by decide) (fun h111 => ?_) (fun h111 => ?_)
                · skip
                  refine G_aload_n F dX8_readsIf_122 rfl ?_
                  refine G_geti F fl_X8_300 dX8_readsIf_123 rfl rfl ?_
                  rw [pn]
                  refine G_puti F fl_X8_325 dX8_readsIf_126 rfl rfl rfl rfl ?_
                  refine G_iconst (v := 1) F dX8_readsIf_129 rfl ?_
                  refine G_iret F Rt dX8_readsIf_130 (rfl) ⟨rfl, rfl, _, rfl, ?_⟩ (Nat.le_refl _) (Nat.le_refl _)
                  have e : te (hr (M 63) len) a = ((tp (hr (M 63) len) ((tw (hr (M 63) len) [32] (tn (hr (M 63) len) 2 (tw (hr (M 63) len) [32] (tn (hr (M 63) len) 2 (tw (hr (M 63) len) [105, 102, 32] a).2 0).1).2 0).1).2)).1, (tp (hr (M 63) len) ((tw (hr (M 63) len) [32] (tn (hr (M 63) len) 2 (tw (hr (M 63) len) [32] (tn (hr (M 63) len) 2 (tw (hr (M 63) len) [105, 102, 32] a).2 0).1).2 0).1).2)).2.1, 1, (tn (hr (M 63) len) 2 (tw (hr (M 63) len) [105, 102, 32] a).2 0).2, (tn (hr (M 63) len) 2 (tw (hr (M 63) len) [32] (tn (hr (M 63) len) 2 (tw (hr (M 63) len) [105, 102, 32] a).2 0).1).2 0).2, (tp (hr (M 63) len) ((tw (hr (M 63) len) [32] (tn (hr (M 63) len) 2 (tw (hr (M 63) len) [32] (tn (hr (M 63) len) 2 (tw (hr (M 63) len) [105, 102, 32] a).2 0).1).2 0).1).2)).2.2) := by
                    unfold te
                    rw [if_neg (fun q => absurd (ha5.symm.trans q) (by decide)), if_neg (fun q => absurd (ha5.symm.trans q) (by decide))]
                    simp only [b12, b20, b40, b48, b68, if_true, if_false, Bool.false_eq_true, decide_true, decide_false]
                  rw [e, etp]
                  refine ⟨by simp [b104], v101.u (by decide), by rw [fx_u_at, if_neg (by decide)]; exact p3, fun _ => ⟨?_, ?_, ?_, ?_⟩⟩
                  · rw [fx_u_at, if_neg (by decide), p5 43 (by decide) (by decide), n4 43 (by decide), fx_u_at, if_neg (by decide), m5 43 (by decide) (by decide), l4 43 (by decide), fx_u_at, if_neg (by decide), k5 43 (by decide) (by decide)]; exact s43
                  · rw [fx_u_at, if_neg (by decide), p5 44 (by decide) (by decide), n4 44 (by decide), fx_u_at, if_neg (by decide), m5 44 (by decide) (by decide), l4 44 (by decide), fx_u_at, if_pos ⟨rfl, rfl⟩]
                  · rw [fx_u_at, if_neg (by decide), p5 45 (by decide) (by decide), n4 45 (by decide), fx_u_at, if_pos ⟨rfl, rfl⟩]
                  · rw [fx_u_at, if_pos ⟨rfl, rfl⟩]
                · exact absurd rfl h111 --stop
              · have b104 : ¬ (tw (hr (M 63) len) [32] (tn (hr (M 63) len) 2 (tw (hr (M 63) len) [32] (tn (hr (M 63) len) 2 (tw (hr (M 63) len) [105, 102, 32] a).2 0).1).2 0).1).2 < (tn (hr (M 63) len) 6 ((tw (hr (M 63) len) [32] (tn (hr (M 63) len) 2 (tw (hr (M 63) len) [32] (tn (hr (M 63) len) 2 (tw (hr (M 63) len) [105, 102, 32] a).2 0).1).2 0).1).2) 0).1 := by simpa using h104
                refine G_iconst (v := 0) F dX8_readsIf_107 rfl ?_
                refine G_iret F Rt dX8_readsIf_108 (rfl) ⟨rfl, rfl, _, rfl, ?_⟩ (Nat.le_refl _) (Nat.le_refl _)
                have e : te (hr (M 63) len) a = ((tp (hr (M 63) len) ((tw (hr (M 63) len) [32] (tn (hr (M 63) len) 2 (tw (hr (M 63) len) [32] (tn (hr (M 63) len) 2 (tw (hr (M 63) len) [105, 102, 32] a).2 0).1).2 0).1).2)).1, (tp (hr (M 63) len) ((tw (hr (M 63) len) [32] (tn (hr (M 63) len) 2 (tw (hr (M 63) len) [32] (tn (hr (M 63) len) 2 (tw (hr (M 63) len) [105, 102, 32] a).2 0).1).2 0).1).2)).2.1, 1, (tn (hr (M 63) len) 2 (tw (hr (M 63) len) [105, 102, 32] a).2 0).2, (tn (hr (M 63) len) 2 (tw (hr (M 63) len) [32] (tn (hr (M 63) len) 2 (tw (hr (M 63) len) [105, 102, 32] a).2 0).1).2 0).2, (tp (hr (M 63) len) ((tw (hr (M 63) len) [32] (tn (hr (M 63) len) 2 (tw (hr (M 63) len) [32] (tn (hr (M 63) len) 2 (tw (hr (M 63) len) [105, 102, 32] a).2 0).1).2 0).1).2)).2.2) := by
                  unfold te
                  rw [if_neg (fun q => absurd (ha5.symm.trans q) (by decide)), if_neg (fun q => absurd (ha5.symm.trans q) (by decide))]
                  simp only [b12, b20, b40, b48, b68, if_true, if_false, Bool.false_eq_true, decide_true, decide_false]
                rw [e, etp]
                refine ⟨?_, v101, p3, fun q => absurd q (by simp [b104])⟩
                simp [b104]
            · have b79 : (hr (M 63) len) ((tw (hr (M 63) len) [32] (tn (hr (M 63) len) 2 (tw (hr (M 63) len) [32] (tn (hr (M 63) len) 2 (tw (hr (M 63) len) [105, 102, 32] a).2 0).1).2 0).1).2) = 45 := by simpa using h79
              refine G_aload_n F dX8_readsIf_82 rfl ?_
              refine G_ldcKW F (i := 7) rfl dX8_readsIf_83 ?_
              refine G_vI F mv_X8_308 dX8_readsIf_86 (t_takes hl ad sw tl M65 (i0 := 7) (bs := [45]) rfl (len := len) (a := (tw (hr (M 63) len) [32] (tn (hr (M 63) len) 2 (tw (hr (M 63) len) [32] (tn (hr (M 63) len) 2 (tw (hr (M 63) len) [105, 102, 32] a).2 0).1).2 0).1).2) (by rw [v65.2 39 (Or.inl (by decide))]; exact hl1) hl60 n3 q5.2) rfl rfl rfl rfl (Nat.le_of_ble_eq_true rfl) ⟨Nat.le_of_ble_eq_true rfl, Nat.le_of_ble_eq_true rfl, Nat.le_of_ble_eq_true rfl, Nat.le_of_ble_eq_true rfl⟩ (fun r86 M86 h86 => ?_)
              rw [v65.1 63 (by decide)] at h86
              rw [tw1 b79] at h86
              obtain ⟨o1, o2, o3, o4⟩ := h86
              rw [o1]
              have q6 := (hr_eq (ch := M 63) (len := len) (a := (tw (hr (M 63) len) [32] (tn (hr (M 63) len) 2 (tw (hr (M 63) len) [32] (tn (hr (M 63) len) 2 (tw (hr (M 63) len) [105, 102, 32] a).2 0).1).2 0).1).2) (c := 45) (by decide)).mp b79
              have v86 : v_i M M86 := v65.step o2 (fun j j1 _ => o4 j j1)
              refine G_if_eq (tgt := 96) F dX8_readsIf_89 (by decide) (fun h89 => ?_) (fun h89 => ?_)
              · exact absurd (show (1 : Int32) = 0 from h89) (by decide) --stop
              · skip
                refine G_iconst (v := 1) F dX8_readsIf_92 rfl ?_
                refine G_goto (tgt := 97) F dX8_readsIf_93 (by decide) ?_
                refine G_istore_n F 1 dX8_readsIf_97 rfl rfl rfl (Nat.le_of_ble_eq_true rfl) ?_
                simp only [List.set_cons_zero, List.set_cons_succ]
                refine G_aload_n F dX8_readsIf_98 rfl ?_
                refine G_bipush (v := nI 6) F dX8_readsIf_99 (by decide) ?_
                refine G_vI F mv_X8_312 dX8_readsIf_101 (t_takesNumber hl ad sw tl M86 (k0 := 6) (len := len) (a := (tw (hr (M 63) len) [32] (tn (hr (M 63) len) 2 (tw (hr (M 63) len) [32] (tn (hr (M 63) len) 2 (tw (hr (M 63) len) [105, 102, 32] a).2 0).1).2 0).1).2 + 1) (by rw [v86.2 39 (Or.inl (by decide))]; exact hl1) hl60 o3 (by omega) (by omega) (by omega)) rfl rfl rfl rfl (Nat.le_of_ble_eq_true rfl) ⟨Nat.le_of_ble_eq_true rfl, Nat.le_of_ble_eq_true rfl, Nat.le_of_ble_eq_true rfl, Nat.le_of_ble_eq_true rfl⟩ (fun r101 M101 h101 => ?_)
                rw [v86.1 63 (by decide)] at h101
                obtain ⟨p1, p2, p3, p4, p5⟩ := h101
                rw [p1]
                have v101 : v_i M M101 := v86.step p2 p5
                have etp : tp (hr (M 63) len) ((tw (hr (M 63) len) [32] (tn (hr (M 63) len) 2 (tw (hr (M 63) len) [32] (tn (hr (M 63) len) 2 (tw (hr (M 63) len) [105, 102, 32] a).2 0).1).2 0).1).2) = ((tn (hr (M 63) len) 6 ((tw (hr (M 63) len) [32] (tn (hr (M 63) len) 2 (tw (hr (M 63) len) [32] (tn (hr (M 63) len) 2 (tw (hr (M 63) len) [105, 102, 32] a).2 0).1).2 0).1).2 + 1) 0).1, decide ((tw (hr (M 63) len) [32] (tn (hr (M 63) len) 2 (tw (hr (M 63) len) [32] (tn (hr (M 63) len) 2 (tw (hr (M 63) len) [105, 102, 32] a).2 0).1).2 0).1).2 + 1 < (tn (hr (M 63) len) 6 ((tw (hr (M 63) len) [32] (tn (hr (M 63) len) 2 (tw (hr (M 63) len) [32] (tn (hr (M 63) len) 2 (tw (hr (M 63) len) [105, 102, 32] a).2 0).1).2 0).1).2 + 1) 0).1), -(tn (hr (M 63) len) 6 ((tw (hr (M 63) len) [32] (tn (hr (M 63) len) 2 (tw (hr (M 63) len) [32] (tn (hr (M 63) len) 2 (tw (hr (M 63) len) [105, 102, 32] a).2 0).1).2 0).1).2 + 1) 0).2) := by unfold tp; rw [if_pos b79]
                refine G_if_ne (tgt := 109) F dX8_readsIf_104 (by decide) (fun h104 => ?_) (fun h104 => ?_)
                · have b104 : (tw (hr (M 63) len) [32] (tn (hr (M 63) len) 2 (tw (hr (M 63) len) [32] (tn (hr (M 63) len) 2 (tw (hr (M 63) len) [105, 102, 32] a).2 0).1).2 0).1).2 + 1 < (tn (hr (M 63) len) 6 ((tw (hr (M 63) len) [32] (tn (hr (M 63) len) 2 (tw (hr (M 63) len) [32] (tn (hr (M 63) len) 2 (tw (hr (M 63) len) [105, 102, 32] a).2 0).1).2 0).1).2 + 1) 0).1 := by simpa using h104
                  have pn := p4 b104
                  refine G_aload_n F dX8_readsIf_109 rfl ?_
                  refine G_iload_n F dX8_readsIf_110 rfl ?_
                  refine G_if_eq (tgt := 122) F dX8_readsIf_111 (by decide) (fun h111 => ?_) (fun h111 => ?_)
                  · exact absurd h111 (by decide) --stop
                  · skip
                    refine G_aload_n F dX8_readsIf_114 rfl ?_
                    refine G_geti F fl_X8_300 dX8_readsIf_115 rfl rfl ?_
                    rw [pn]
                    refine G_ineg F dX8_readsIf_118 ?_
                    refine G_goto (tgt := 126) F dX8_readsIf_119 (by decide) ?_
                    skip
                    refine G_puti F fl_X8_325 dX8_readsIf_126 rfl rfl rfl rfl ?_
                    refine G_iconst (v := 1) F dX8_readsIf_129 rfl ?_
                    refine G_iret F Rt dX8_readsIf_130 (rfl) ⟨rfl, rfl, _, rfl, ?_⟩ (Nat.le_refl _) (Nat.le_refl _)
                    have e : te (hr (M 63) len) a = ((tp (hr (M 63) len) ((tw (hr (M 63) len) [32] (tn (hr (M 63) len) 2 (tw (hr (M 63) len) [32] (tn (hr (M 63) len) 2 (tw (hr (M 63) len) [105, 102, 32] a).2 0).1).2 0).1).2)).1, (tp (hr (M 63) len) ((tw (hr (M 63) len) [32] (tn (hr (M 63) len) 2 (tw (hr (M 63) len) [32] (tn (hr (M 63) len) 2 (tw (hr (M 63) len) [105, 102, 32] a).2 0).1).2 0).1).2)).2.1, 1, (tn (hr (M 63) len) 2 (tw (hr (M 63) len) [105, 102, 32] a).2 0).2, (tn (hr (M 63) len) 2 (tw (hr (M 63) len) [32] (tn (hr (M 63) len) 2 (tw (hr (M 63) len) [105, 102, 32] a).2 0).1).2 0).2, (tp (hr (M 63) len) ((tw (hr (M 63) len) [32] (tn (hr (M 63) len) 2 (tw (hr (M 63) len) [32] (tn (hr (M 63) len) 2 (tw (hr (M 63) len) [105, 102, 32] a).2 0).1).2 0).1).2)).2.2) := by
                      unfold te
                      rw [if_neg (fun q => absurd (ha5.symm.trans q) (by decide)), if_neg (fun q => absurd (ha5.symm.trans q) (by decide))]
                      simp only [b12, b20, b40, b48, b68, if_true, if_false, Bool.false_eq_true, decide_true, decide_false]
                    rw [e, etp]
                    refine ⟨by simp [b104], v101.u (by decide), by rw [fx_u_at, if_neg (by decide)]; exact p3, fun _ => ⟨?_, ?_, ?_, ?_⟩⟩
                    · rw [fx_u_at, if_neg (by decide), p5 43 (by decide) (by decide), o4 43 (by decide), n4 43 (by decide), fx_u_at, if_neg (by decide), m5 43 (by decide) (by decide), l4 43 (by decide), fx_u_at, if_neg (by decide), k5 43 (by decide) (by decide)]; exact s43
                    · rw [fx_u_at, if_neg (by decide), p5 44 (by decide) (by decide), o4 44 (by decide), n4 44 (by decide), fx_u_at, if_neg (by decide), m5 44 (by decide) (by decide), l4 44 (by decide), fx_u_at, if_pos ⟨rfl, rfl⟩]
                    · rw [fx_u_at, if_neg (by decide), p5 45 (by decide) (by decide), o4 45 (by decide), n4 45 (by decide), fx_u_at, if_pos ⟨rfl, rfl⟩]
                    · rw [fx_u_at, if_pos ⟨rfl, rfl⟩]
                · have b104 : ¬ (tw (hr (M 63) len) [32] (tn (hr (M 63) len) 2 (tw (hr (M 63) len) [32] (tn (hr (M 63) len) 2 (tw (hr (M 63) len) [105, 102, 32] a).2 0).1).2 0).1).2 + 1 < (tn (hr (M 63) len) 6 ((tw (hr (M 63) len) [32] (tn (hr (M 63) len) 2 (tw (hr (M 63) len) [32] (tn (hr (M 63) len) 2 (tw (hr (M 63) len) [105, 102, 32] a).2 0).1).2 0).1).2 + 1) 0).1 := by simpa using h104
                  refine G_iconst (v := 0) F dX8_readsIf_107 rfl ?_
                  refine G_iret F Rt dX8_readsIf_108 (rfl) ⟨rfl, rfl, _, rfl, ?_⟩ (Nat.le_refl _) (Nat.le_refl _)
                  have e : te (hr (M 63) len) a = ((tp (hr (M 63) len) ((tw (hr (M 63) len) [32] (tn (hr (M 63) len) 2 (tw (hr (M 63) len) [32] (tn (hr (M 63) len) 2 (tw (hr (M 63) len) [105, 102, 32] a).2 0).1).2 0).1).2)).1, (tp (hr (M 63) len) ((tw (hr (M 63) len) [32] (tn (hr (M 63) len) 2 (tw (hr (M 63) len) [32] (tn (hr (M 63) len) 2 (tw (hr (M 63) len) [105, 102, 32] a).2 0).1).2 0).1).2)).2.1, 1, (tn (hr (M 63) len) 2 (tw (hr (M 63) len) [105, 102, 32] a).2 0).2, (tn (hr (M 63) len) 2 (tw (hr (M 63) len) [32] (tn (hr (M 63) len) 2 (tw (hr (M 63) len) [105, 102, 32] a).2 0).1).2 0).2, (tp (hr (M 63) len) ((tw (hr (M 63) len) [32] (tn (hr (M 63) len) 2 (tw (hr (M 63) len) [32] (tn (hr (M 63) len) 2 (tw (hr (M 63) len) [105, 102, 32] a).2 0).1).2 0).1).2)).2.2) := by
                    unfold te
                    rw [if_neg (fun q => absurd (ha5.symm.trans q) (by decide)), if_neg (fun q => absurd (ha5.symm.trans q) (by decide))]
                    simp only [b12, b20, b40, b48, b68, if_true, if_false, Bool.false_eq_true, decide_true, decide_false]
                  rw [e, etp]
                  refine ⟨?_, v101, p3, fun q => absurd q (by simp [b104])⟩
                  simp [b104]
          · have b68 : (tw (hr (M 63) len) [32] (tn (hr (M 63) len) 2 (tw (hr (M 63) len) [32] (tn (hr (M 63) len) 2 (tw (hr (M 63) len) [105, 102, 32] a).2 0).1).2 0).1).1 = false := by simpa using h68
            refine G_iconst (v := 0) F dX8_readsIf_71 rfl ?_
            refine G_iret F Rt dX8_readsIf_72 (rfl) ⟨rfl, rfl, _, rfl, ?_⟩ (Nat.le_refl _) (Nat.le_refl _)
            have e : te (hr (M 63) len) a = ((tw (hr (M 63) len) [32] (tn (hr (M 63) len) 2 (tw (hr (M 63) len) [32] (tn (hr (M 63) len) 2 (tw (hr (M 63) len) [105, 102, 32] a).2 0).1).2 0).1).2, false, 1, -1, -1, 0) := by
              unfold te
              rw [if_neg (fun q => absurd (ha5.symm.trans q) (by decide)), if_neg (fun q => absurd (ha5.symm.trans q) (by decide))]
              simp only [b12, b12, b20, b40, b40, b48, b68, b68, if_true, if_false, Bool.false_eq_true, decide_true, decide_false]
            rw [e]
            exact ⟨rfl, v65, n3, fun q => Bool.noConfusion (show false = true from q)⟩
        · have b48 : ¬ (tw (hr (M 63) len) [32] (tn (hr (M 63) len) 2 (tw (hr (M 63) len) [105, 102, 32] a).2 0).1).2 < (tn (hr (M 63) len) 2 (tw (hr (M 63) len) [32] (tn (hr (M 63) len) 2 (tw (hr (M 63) len) [105, 102, 32] a).2 0).1).2 0).1 := by simpa using h48
          refine G_iconst (v := 0) F dX8_readsIf_51 rfl ?_
          refine G_iret F Rt dX8_readsIf_52 (rfl) ⟨rfl, rfl, _, rfl, ?_⟩ (Nat.le_refl _) (Nat.le_refl _)
          have e : te (hr (M 63) len) a = ((tn (hr (M 63) len) 2 (tw (hr (M 63) len) [32] (tn (hr (M 63) len) 2 (tw (hr (M 63) len) [105, 102, 32] a).2 0).1).2 0).1, false, 1, -1, -1, 0) := by
            unfold te
            rw [if_neg (fun q => absurd (ha5.symm.trans q) (by decide)), if_neg (fun q => absurd (ha5.symm.trans q) (by decide))]
            simp only [b12, b12, b20, b40, b40, b48, b48, if_true, if_false, Bool.false_eq_true, decide_true, decide_false]
          rw [e]
          exact ⟨rfl, v45, m3, fun q => Bool.noConfusion (show false = true from q)⟩
    · have b20 : ¬ (tw (hr (M 63) len) [105, 102, 32] a).2 < (tn (hr (M 63) len) 2 (tw (hr (M 63) len) [105, 102, 32] a).2 0).1 := by simpa using h20
      refine G_iconst (v := 0) F dX8_readsIf_23 rfl ?_
      refine G_iret F Rt dX8_readsIf_24 (rfl) ⟨rfl, rfl, _, rfl, ?_⟩ (Nat.le_refl _) (Nat.le_refl _)
      have e : te (hr (M 63) len) a = ((tn (hr (M 63) len) 2 (tw (hr (M 63) len) [105, 102, 32] a).2 0).1, false, 1, -1, -1, 0) := by
        unfold te
        rw [if_neg (fun q => absurd (ha5.symm.trans q) (by decide)), if_neg (fun q => absurd (ha5.symm.trans q) (by decide))]
        simp only [b12, b12, b20, b20, if_true, if_false, Bool.false_eq_true, decide_true, decide_false]
      rw [e]
      exact ⟨rfl, v17, k3, fun q => Bool.noConfusion (show false = true from q)⟩
set_option maxRecDepth 20000 in
theorem t_readsEnd {l : Launch} {Z : fx_Z} (hl : l.stackTraces = false) (ad : Nat → Nat) (sw : Bool) (tl : List fx_Sh) (M : fx_M)  {len a : Nat} (hl1 : M 37 39 = nI len) (hl60 : len ≤ 60) (ha : M 37 40 = nI a) (hal : a ≤ len) (h44 : M 37 44 = -1) (h45 : M 37 45 = -1) (h46 : M 37 46 = 0) : CI l Z yX8_readsEnd (.code yX8_readsEnd cX8_readsEnd 1 (some .boolean)) 6 [.ref (ad 37)] ad (c_C sw ++ (m_C ++ tl)) M (fun r m => r = (if (te (hr (M 63) len) a).2.1 then 1 else 0) ∧ v_i M m ∧ m 37 40 = nI (te (hr (M 63) len) a).1 ∧ ((te (hr (M 63) len) a).2.1 = true → m 37 43 = (te (hr (M 63) len) a).2.2.1 ∧ m 37 44 = (te (hr (M 63) len) a).2.2.2.1 ∧ m 37 45 = (te (hr (M 63) len) a).2.2.2.2.1 ∧ m 37 46 = (te (hr (M 63) len) a).2.2.2.2.2)) := by
  refine CT_of (ret := (some .boolean)) (lv0 := [some (.ref (ad 37))]) (by decide +kernel) hl (by simp [Value.category]) (Nat.le_of_ble_eq_true rfl) rfl ?_
  intro X F Rt _
  refine G_aload_n F dX8_readsEnd_0 rfl ?_
  refine G_vI F mv_X8_293 dX8_readsEnd_1 (t_here hl ad sw tl M hl1 hl60 ha hal) rfl rfl rfl rfl (Nat.le_of_ble_eq_true rfl) ⟨Nat.le_of_ble_eq_true rfl, Nat.le_of_ble_eq_true rfl, Nat.le_of_ble_eq_true rfl, Nat.le_of_ble_eq_true rfl⟩ (fun r1 M1 h1 => ?_)
  rw [h1.1, h1.2]
  refine G_bipush (v := 115) F dX8_readsEnd_4 rfl ?_
  refine G_icmp_ne (tgt := 22) F dX8_readsEnd_6 (by decide) (fun h6 => ?_) (fun h6 => ?_)
  · have b6 : ¬ (hr (M 63) len) a = 115 := h6
    refine G_aload_n F dX8_readsEnd_22 rfl ?_
    refine G_vI F mv_X8_293 dX8_readsEnd_23 (t_here hl ad sw tl M hl1 hl60 ha hal) rfl rfl rfl rfl (Nat.le_of_ble_eq_true rfl) ⟨Nat.le_of_ble_eq_true rfl, Nat.le_of_ble_eq_true rfl, Nat.le_of_ble_eq_true rfl, Nat.le_of_ble_eq_true rfl⟩ (fun r23 M23 h23 => ?_)
    rw [h23.1, h23.2]
    refine G_bipush (v := 105) F dX8_readsEnd_26 rfl ?_
    refine G_icmp_ne (tgt := 36) F dX8_readsEnd_28 (by decide) (fun h28 => ?_) (fun h28 => ?_)
    · have b28 : ¬ (hr (M 63) len) a = 105 := h28
      refine G_aload_n F dX8_readsEnd_36 rfl ?_
      refine G_iconst (v := 0) F dX8_readsEnd_37 rfl ?_
      refine G_puti F fl_X8_303 dX8_readsEnd_38 rfl rfl rfl rfl ?_
      have v0 : v_i M (fx_u M 37 43 0) := v_i.rfl.u (by decide)
      refine G_aload_n F dX8_readsEnd_41 rfl ?_
      refine G_ldcKW F (i := 8) rfl dX8_readsEnd_42 ?_
      refine G_vI F mv_X8_308 dX8_readsEnd_45 (t_takes hl ad sw tl (fx_u M 37 43 0) (i0 := 8) (bs := [103, 111, 32]) rfl (len := len) (a := a) (by rw [v0.2 39 (Or.inl (by decide))]; exact hl1) hl60 (by rw [fx_u_at, if_neg (by decide)]; exact ha) hal) rfl rfl rfl rfl (Nat.le_of_ble_eq_true rfl) ⟨Nat.le_of_ble_eq_true rfl, Nat.le_of_ble_eq_true rfl, Nat.le_of_ble_eq_true rfl, Nat.le_of_ble_eq_true rfl⟩ (fun r45 M45 h45 => ?_)
      rw [v0.1 63 (by decide)] at h45
      obtain ⟨g1, g2, g3, g4⟩ := h45
      rw [g1]
      have q1 := tw_le (ch := M 63) (len := len) [103, 111, 32] a (by decide) hal
      have v45 : v_i M M45 := v0.step g2 (fun j j1 _ => g4 j j1)
      refine G_if_eq (tgt := 59) F dX8_readsEnd_48 (by decide) (fun h48 => ?_) (fun h48 => ?_)
      · have b48 : (tw (hr (M 63) len) [103, 111, 32] a).1 = false := by simpa using h48
        refine G_iconst (v := 0) F dX8_readsEnd_59 rfl ?_
        refine G_iret F Rt dX8_readsEnd_60 (rfl) ⟨rfl, rfl, _, rfl, ?_⟩ (Nat.le_refl _) (Nat.le_refl _)
        by_cases b103 : (hr (M 63) len) a = 103
        · have e : te (hr (M 63) len) a = ((tw (hr (M 63) len) [103, 111, 32] a).2, false, 0, -1, -1, 0) := by
            unfold te
            rw [if_neg b6, if_pos b103]
            simp only [b48, if_false, Bool.false_eq_true]
          rw [e]
          exact ⟨rfl, v45, g3, fun q => Bool.noConfusion (show false = true from q)⟩
        · have e : te (hr (M 63) len) a = (a, false, 1, -1, -1, 0) := by
            unfold te
            rw [if_neg b6, if_neg b103]
            have e1 : tw (hr (M 63) len) [105, 102, 32] a = (false, a) := by simp only [tw]; rw [if_neg b28]
            simp only [e1, if_false, Bool.false_eq_true]
          have e2 : tw (hr (M 63) len) [103, 111, 32] a = (false, a) := by simp only [tw]; rw [if_neg b103]
          rw [e2] at g3
          rw [e]
          exact ⟨rfl, v45, g3, fun q => Bool.noConfusion (show false = true from q)⟩
      · have b48 : (tw (hr (M 63) len) [103, 111, 32] a).1 = true := by simpa using h48
        refine G_aload_n F dX8_readsEnd_51 rfl ?_
        refine G_iconst (v := nI 2) F dX8_readsEnd_52 (by decide) ?_
        refine G_vI F mv_X8_312 dX8_readsEnd_53 (t_takesNumber hl ad sw tl M45 (k0 := 2) (len := len) (a := (tw (hr (M 63) len) [103, 111, 32] a).2) (by rw [v45.2 39 (Or.inl (by decide))]; exact hl1) hl60 g3 q1.2 (by omega) (by omega)) rfl rfl rfl rfl (Nat.le_of_ble_eq_true rfl) ⟨Nat.le_of_ble_eq_true rfl, Nat.le_of_ble_eq_true rfl, Nat.le_of_ble_eq_true rfl, Nat.le_of_ble_eq_true rfl⟩ (fun r53 M53 h53 => ?_)
        rw [v45.1 63 (by decide)] at h53
        obtain ⟨k1, k2, k3, k4, k5⟩ := h53
        rw [k1]
        have v53 : v_i M M53 := v45.step k2 k5
        refine G_if_ne (tgt := 61) F dX8_readsEnd_56 (by decide) (fun h56 => ?_) (fun h56 => ?_)
        · have b56 : (tw (hr (M 63) len) [103, 111, 32] a).2 < (tn (hr (M 63) len) 2 (tw (hr (M 63) len) [103, 111, 32] a).2 0).1 := by simpa using h56
          have kn := k4 b56
          refine G_aload_n F dX8_readsEnd_61 rfl ?_
          refine G_aload_n F dX8_readsEnd_62 rfl ?_
          refine G_geti F fl_X8_300 dX8_readsEnd_63 rfl rfl ?_
          rw [kn]
          refine G_puti F fl_X8_315 dX8_readsEnd_66 rfl rfl rfl rfl ?_
          refine G_iconst (v := 1) F dX8_readsEnd_69 rfl ?_
          refine G_iret F Rt dX8_readsEnd_70 (rfl) ⟨rfl, rfl, _, rfl, ?_⟩ (Nat.le_refl _) (Nat.le_refl _)
          have b103 : (hr (M 63) len) a = 103 := Classical.byContradiction fun q => by
            simp only [tw] at b48
            rw [if_neg q] at b48
            exact Bool.noConfusion b48
          have e : te (hr (M 63) len) a = ((tn (hr (M 63) len) 2 (tw (hr (M 63) len) [103, 111, 32] a).2 0).1, decide ((tw (hr (M 63) len) [103, 111, 32] a).2 < (tn (hr (M 63) len) 2 (tw (hr (M 63) len) [103, 111, 32] a).2 0).1), 0, (tn (hr (M 63) len) 2 (tw (hr (M 63) len) [103, 111, 32] a).2 0).2, -1, 0) := by
            unfold te
            rw [if_neg b6, if_pos b103]
            simp only [b48, if_true]
          rw [e]
          refine ⟨by simp [b56], v53.u (by decide), by rw [fx_u_at, if_neg (by decide)]; exact k3, fun _ => ⟨?_, ?_, ?_, ?_⟩⟩
          · rw [fx_u_at, if_neg (by decide), k5 43 (by decide) (by decide), g4 43 (by decide)]; simp [fx_u_at]
          · rw [fx_u_at, if_pos ⟨rfl, rfl⟩]
          · rw [fx_u_at, if_neg (by decide), k5 45 (by decide) (by decide), g4 45 (by decide), fx_u_at, if_neg (by decide)]; exact h45
          · rw [fx_u_at, if_neg (by decide), k5 46 (by decide) (by decide), g4 46 (by decide), fx_u_at, if_neg (by decide)]; exact h46
        · have b56 : ¬ (tw (hr (M 63) len) [103, 111, 32] a).2 < (tn (hr (M 63) len) 2 (tw (hr (M 63) len) [103, 111, 32] a).2 0).1 := by simpa using h56
          refine G_iconst (v := 0) F dX8_readsEnd_59 rfl ?_
          refine G_iret F Rt dX8_readsEnd_60 (rfl) ⟨rfl, rfl, _, rfl, ?_⟩ (Nat.le_refl _) (Nat.le_refl _)
          have b103 : (hr (M 63) len) a = 103 := Classical.byContradiction fun q => by
            simp only [tw] at b48
            rw [if_neg q] at b48
            exact Bool.noConfusion b48
          have e : te (hr (M 63) len) a = ((tn (hr (M 63) len) 2 (tw (hr (M 63) len) [103, 111, 32] a).2 0).1, decide ((tw (hr (M 63) len) [103, 111, 32] a).2 < (tn (hr (M 63) len) 2 (tw (hr (M 63) len) [103, 111, 32] a).2 0).1), 0, (tn (hr (M 63) len) 2 (tw (hr (M 63) len) [103, 111, 32] a).2 0).2, -1, 0) := by
            unfold te
            rw [if_neg b6, if_pos b103]
            simp only [b48, if_true]
          rw [e]
          exact ⟨by simp [b56], v53, k3, fun q => absurd q (by simp [b56])⟩
    · have b28 : (hr (M 63) len) a = 105 := h28
      refine G_aload_n F dX8_readsEnd_31 rfl ?_
      refine G_vI F mv_X8_330 dX8_readsEnd_32 (t_readsIf hl ad sw tl M hl1 hl60 ha hal b28) rfl rfl rfl rfl (Nat.le_of_ble_eq_true rfl) ⟨Nat.le_of_ble_eq_true rfl, Nat.le_of_ble_eq_true rfl, Nat.le_of_ble_eq_true rfl, Nat.le_of_ble_eq_true rfl⟩ (fun r32 M32 h32 => ?_)
      obtain ⟨g1, g2, g3, g4⟩ := h32
      rw [g1]
      refine G_iret F Rt dX8_readsEnd_35 (by split <;> rfl) ⟨rfl, rfl, _, rfl, ?_⟩ (Nat.le_refl _) (Nat.le_refl _)
      exact ⟨rfl, g2, g3, g4⟩
  · have b6 : (hr (M 63) len) a = 115 := h6
    refine G_aload_n F dX8_readsEnd_9 rfl ?_
    refine G_iconst (v := 2) F dX8_readsEnd_10 rfl ?_
    refine G_puti F fl_X8_303 dX8_readsEnd_11 rfl rfl rfl rfl ?_
    have v2 : v_i M (fx_u M 37 43 2) := v_i.rfl.u (by decide)
    refine G_aload_n F dX8_readsEnd_14 rfl ?_
    refine G_ldcKW F (i := 5) rfl dX8_readsEnd_15 ?_
    refine G_vI F mv_X8_308 dX8_readsEnd_18 (t_takes hl ad sw tl (fx_u M 37 43 2) (i0 := 5) (bs := [115, 116, 111, 112]) rfl (len := len) (a := a) (by rw [v2.2 39 (Or.inl (by decide))]; exact hl1) hl60 (by rw [fx_u_at, if_neg (by decide)]; exact ha) hal) rfl rfl rfl rfl (Nat.le_of_ble_eq_true rfl) ⟨Nat.le_of_ble_eq_true rfl, Nat.le_of_ble_eq_true rfl, Nat.le_of_ble_eq_true rfl, Nat.le_of_ble_eq_true rfl⟩ (fun r18 M18 h18 => ?_)
    rw [v2.1 63 (by decide)] at h18
    obtain ⟨g1, g2, g3, g4⟩ := h18
    rw [g1]
    refine G_iret F Rt dX8_readsEnd_21 (by split <;> rfl) ⟨rfl, rfl, _, rfl, ?_⟩ (Nat.le_refl _) (Nat.le_refl _)
    have e : te (hr (M 63) len) a = ((tw (hr (M 63) len) [115, 116, 111, 112] a).2, (tw (hr (M 63) len) [115, 116, 111, 112] a).1, 2, -1, -1, 0) := by
      unfold te
      rw [if_pos b6]
    rw [e]
    exact ⟨rfl, v2.step g2 (fun j j1 _ => g4 j j1), g3, fun _ => ⟨by rw [g4 43 (by decide)]; simp [fx_u_at], by rw [g4 44 (by decide), fx_u_at, if_neg (by decide)]; exact h44, by rw [g4 45 (by decide), fx_u_at, if_neg (by decide)]; exact h45, by rw [g4 46 (by decide), fx_u_at, if_neg (by decide)]; exact h46⟩⟩
/-- what reading a whole text leaves alone -/
def v_j (M m : fx_M) : Prop := fr [37] M m ∧ ∀ j, (j < 40 ∨ 46 < j) → m 37 j = M 37 j
theorem v_i.j {M m : fx_M} (h : v_i M m) : v_j M m := ⟨h.1, fun j hj => h.2 j (by omega)⟩
theorem v_j.u {M m : fx_M} {j : Nat} {x : Int32} (h : v_j M m) (hj : ¬ (j < 40 ∨ 46 < j)) : v_j M (fx_u m 37 j x) :=
  ⟨h.1.u (by simp), fun i hi => by rw [fx_u_at, if_neg (fun q => hj (by rw [← q.2]; exact hi))]; exact h.2 i hi⟩
theorem v_j.trans {M m m' : fx_M} (h : v_j M m) (h1 : v_j m m') : v_j M m' := ⟨h.1.trans h1.1, fun i hi => (h1.2 i hi).trans (h.2 i hi)⟩
set_option maxRecDepth 20000 in
theorem t_reads {l : Launch} {Z : fx_Z} (hl : l.stackTraces = false) (ad : Nat → Nat) (sw : Bool) (tl : List fx_Sh) (M : fx_M)  {len : Nat} (hl1 : M 37 39 = nI len) (hl60 : len ≤ 60) : CI l Z yX8_reads (.code yX8_reads cX8_reads 1 (some .boolean)) 7 [.ref (ad 37)] ad (c_C sw ++ (m_C ++ tl)) M (fun r m => r = (if (pp (hr (M 63) len) len).2.1 then 1 else 0) ∧ v_j M m ∧ m 37 40 = nI (pp (hr (M 63) len) len).1 ∧ ((pp (hr (M 63) len) len).2.1 = true → m 37 42 = (pp (hr (M 63) len) len).2.2.1 ∧ m 37 43 = (pp (hr (M 63) len) len).2.2.2.1 ∧ m 37 44 = (pp (hr (M 63) len) len).2.2.2.2.1 ∧ m 37 45 = (pp (hr (M 63) len) len).2.2.2.2.2.1 ∧ m 37 46 = (pp (hr (M 63) len) len).2.2.2.2.2.2)) := by
  refine CT_of (ret := (some .boolean)) (lv0 := [some (.ref (ad 37))]) (by decide +kernel) hl (by simp [Value.category]) (Nat.le_of_ble_eq_true rfl) rfl ?_
  intro X F Rt _
  refine G_aload_n F dX8_reads_0 rfl ?_
  refine G_iconst (v := 0) F dX8_reads_1 rfl ?_
  refine G_puti F fl_X8_286 dX8_reads_2 rfl rfl rfl rfl ?_
  refine G_aload_n F dX8_reads_5 rfl ?_
  refine G_iconst (v := -1) F dX8_reads_6 rfl ?_
  refine G_puti F fl_X8_315 dX8_reads_7 rfl rfl rfl rfl ?_
  refine G_aload_n F dX8_reads_10 rfl ?_
  refine G_iconst (v := -1) F dX8_reads_11 rfl ?_
  refine G_puti F fl_X8_320 dX8_reads_12 rfl rfl rfl rfl ?_
  refine G_aload_n F dX8_reads_15 rfl ?_
  refine G_iconst (v := 0) F dX8_reads_16 rfl ?_
  refine G_puti F fl_X8_325 dX8_reads_17 rfl rfl rfl rfl ?_
  have v0 : v_i M (fx_u (fx_u (fx_u (fx_u M 37 40 0) 37 44 (-1)) 37 45 (-1)) 37 46 0) := (((v_i.rfl.u (by decide)).u (by decide)).u (by decide)).u (by decide)
  refine G_aload_n F dX8_reads_20 rfl ?_
  refine G_iconst (v := nI 2) F dX8_reads_21 (by decide) ?_
  refine G_vI F mv_X8_312 dX8_reads_22 (t_takesNumber hl ad sw tl (fx_u (fx_u (fx_u (fx_u M 37 40 0) 37 44 (-1)) 37 45 (-1)) 37 46 0) (k0 := 2) (len := len) (a := 0) (by rw [v0.2 39 (Or.inl (by decide))]; exact hl1) hl60 (by simp [fx_u_at]; rfl) (by omega) (by omega) (by omega)) rfl rfl rfl rfl (Nat.le_of_ble_eq_true rfl) ⟨Nat.le_of_ble_eq_true rfl, Nat.le_of_ble_eq_true rfl, Nat.le_of_ble_eq_true rfl, Nat.le_of_ble_eq_true rfl⟩ (fun r22 M22 h22 => ?_)
  rw [v0.1 63 (by decide)] at h22
  obtain ⟨g1, g2, g3, g4, g5⟩ := h22
  rw [g1]
  have q1 := tn_le (ch := M 63) (len := len) 2 0 0 (by omega)
  have v22 : v_i M M22 := v0.step g2 g5
  refine G_if_ne (tgt := 30) F dX8_reads_25 (by decide) (fun h25 => ?_) (fun h25 => ?_)
  · have b25 : 0 < (tn (hr (M 63) len) 2 0 0).1 := by
      have q : ¬ (tn (hr (M 63) len) 2 0 0).1 = 0 := by simpa using h25
      omega
    have gn := g4 b25
    have w22 : v_j M (fx_u M22 37 42 (tn (hr (M 63) len) 2 0 0).2) := v22.j.u (by decide)
    refine G_aload_n F dX8_reads_30 rfl ?_
    refine G_aload_n F dX8_reads_31 rfl ?_
    refine G_geti F fl_X8_300 dX8_reads_32 rfl rfl ?_
    rw [gn]
    refine G_puti F fl_X8_335 dX8_reads_35 rfl rfl rfl rfl ?_
    refine G_aload_n F dX8_reads_38 rfl ?_
    refine G_ldcKW F (i := 4) rfl dX8_reads_39 ?_
    refine G_vI F mv_X8_308 dX8_reads_42 (t_takes hl ad sw tl (fx_u M22 37 42 (tn (hr (M 63) len) 2 0 0).2) (i0 := 4) (bs := [32]) rfl (len := len) (a := (tn (hr (M 63) len) 2 0 0).1) (by rw [w22.2 39 (Or.inl (by decide))]; exact hl1) hl60 (by rw [fx_u_at, if_neg (by decide)]; exact g3) q1.2.1) rfl rfl rfl rfl (Nat.le_of_ble_eq_true rfl) ⟨Nat.le_of_ble_eq_true rfl, Nat.le_of_ble_eq_true rfl, Nat.le_of_ble_eq_true rfl, Nat.le_of_ble_eq_true rfl⟩ (fun r42 M42 h42 => ?_)
    rw [w22.1 63 (by decide)] at h42
    obtain ⟨k1, k2, k3, k4⟩ := h42
    rw [k1]
    have q2 := tw_le (ch := M 63) (len := len) [32] (tn (hr (M 63) len) 2 0 0).1 (by decide) q1.2.1
    have v42 : v_j M M42 := w22.trans ⟨k2, fun j hj => k4 j (by omega)⟩
    have kk : ∀ j, j ≠ 40 → j ≠ 41 → j ≠ 42 → M42 37 j = (fx_u (fx_u (fx_u (fx_u M 37 40 0) 37 44 (-1)) 37 45 (-1)) 37 46 0) 37 j := fun j j1 j2 j3 => by rw [k4 j j1, fx_u_at, if_neg (fun q => j3 q.2), g5 j j1 j2]
    refine G_if_eq (tgt := 70) F dX8_reads_45 (by decide) (fun h45 => ?_) (fun h45 => ?_)
    · have b45 : (tw (hr (M 63) len) [32] (tn (hr (M 63) len) 2 0 0).1).1 = false := by simpa using h45
      refine G_iconst (v := 0) F dX8_reads_70 rfl ?_
      refine G_iret F Rt dX8_reads_71 (rfl) ⟨rfl, rfl, _, rfl, ?_⟩ (Nat.le_refl _) (Nat.le_refl _)
      have e : pp (hr (M 63) len) len = ((tw (hr (M 63) len) [32] (tn (hr (M 63) len) 2 0 0).1).2, false, 0, 0, 0, 0, 0) := by
        unfold pp
        simp only [b25, b45, if_true, if_false, Bool.false_eq_true, decide_true, decide_false, Bool.false_and, Bool.true_and, Bool.and_false]
      rw [e]
      exact ⟨rfl, v42, k3, fun q => Bool.noConfusion (show false = true from q)⟩
    · have b45 : (tw (hr (M 63) len) [32] (tn (hr (M 63) len) 2 0 0).1).1 = true := by simpa using h45
      refine G_aload_n F dX8_reads_48 rfl ?_
      refine G_vI F mv_X8_338 dX8_reads_49 (t_readsEnd hl ad sw tl M42 (len := len) (a := (tw (hr (M 63) len) [32] (tn (hr (M 63) len) 2 0 0).1).2) (by rw [v42.2 39 (Or.inl (by decide))]; exact hl1) hl60 k3 q2.2 (by rw [kk 44 (by decide) (by decide) (by decide)]; simp [fx_u_at]) (by rw [kk 45 (by decide) (by decide) (by decide)]; simp [fx_u_at]) (by rw [kk 46 (by decide) (by decide) (by decide)]; simp [fx_u_at])) rfl rfl rfl rfl (Nat.le_of_ble_eq_true rfl) ⟨Nat.le_of_ble_eq_true rfl, Nat.le_of_ble_eq_true rfl, Nat.le_of_ble_eq_true rfl, Nat.le_of_ble_eq_true rfl⟩ (fun r49 M49 h49 => ?_)
      rw [v42.1 63 (by decide)] at h49
      obtain ⟨l1, l2, l3, l4⟩ := h49
      rw [l1]
      have q3 := te_le (ch := M 63) q2.2
      have v49 : v_j M M49 := v42.trans l2.j
      refine G_if_eq (tgt := 70) F dX8_reads_52 (by decide) (fun h52 => ?_) (fun h52 => ?_)
      · have b52 : (te (hr (M 63) len) (tw (hr (M 63) len) [32] (tn (hr (M 63) len) 2 0 0).1).2).2.1 = false := by simpa using h52
        refine G_iconst (v := 0) F dX8_reads_70 rfl ?_
        refine G_iret F Rt dX8_reads_71 (rfl) ⟨rfl, rfl, _, rfl, ?_⟩ (Nat.le_refl _) (Nat.le_refl _)
        have e : pp (hr (M 63) len) len = ((te (hr (M 63) len) (tw (hr (M 63) len) [32] (tn (hr (M 63) len) 2 0 0).1).2).1, false, (tn (hr (M 63) len) 2 0 0).2, (te (hr (M 63) len) (tw (hr (M 63) len) [32] (tn (hr (M 63) len) 2 0 0).1).2).2.2) := by
          unfold pp
          simp only [b25, b45, b52, if_true, if_false, Bool.false_eq_true, decide_true, decide_false, Bool.false_and, Bool.true_and, Bool.and_false]
        rw [e]
        exact ⟨rfl, v49, l3, fun q => Bool.noConfusion (show false = true from q)⟩
      · have b52 : (te (hr (M 63) len) (tw (hr (M 63) len) [32] (tn (hr (M 63) len) 2 0 0).1).2).2.1 = true := by simpa using h52
        refine G_aload_n F dX8_reads_55 rfl ?_
        refine G_geti F fl_X8_286 dX8_reads_56 rfl rfl ?_
        refine G_aload_n F dX8_reads_59 rfl ?_
        refine G_geti F fl_X8_283 dX8_reads_60 rfl rfl ?_
        rw [l3, v49.2 39 (Or.inl (by decide)), hl1]
        refine G_icmp_ne (tgt := 70) F dX8_reads_63 (by decide) (fun h63 => ?_) (fun h63 => ?_)
        · have b63 : ¬ (te (hr (M 63) len) (tw (hr (M 63) len) [32] (tn (hr (M 63) len) 2 0 0).1).2).1 = len := fun q => h63 (by rw [q])
          refine G_iconst (v := 0) F dX8_reads_70 rfl ?_
          refine G_iret F Rt dX8_reads_71 (rfl) ⟨rfl, rfl, _, rfl, ?_⟩ (Nat.le_refl _) (Nat.le_refl _)
          have e : pp (hr (M 63) len) len = ((te (hr (M 63) len) (tw (hr (M 63) len) [32] (tn (hr (M 63) len) 2 0 0).1).2).1, false, (tn (hr (M 63) len) 2 0 0).2, (te (hr (M 63) len) (tw (hr (M 63) len) [32] (tn (hr (M 63) len) 2 0 0).1).2).2.2) := by
            unfold pp
            simp only [b25, b45, b52, b63, if_true, if_false, Bool.false_eq_true, decide_true, decide_false, Bool.false_and, Bool.true_and, Bool.and_false]
          rw [e]
          exact ⟨rfl, v49, l3, fun q => Bool.noConfusion (show false = true from q)⟩
        · have b63 : (te (hr (M 63) len) (tw (hr (M 63) len) [32] (tn (hr (M 63) len) 2 0 0).1).2).1 = len := by rw [nI_eq (by omega) (by omega)] at h63; exact h63
          refine G_iconst (v := 1) F dX8_reads_66 rfl ?_
          refine G_goto (tgt := 71) F dX8_reads_67 (by decide) ?_
          refine G_iret F Rt dX8_reads_71 (rfl) ⟨rfl, rfl, _, rfl, ?_⟩ (Nat.le_refl _) (Nat.le_refl _)
          have e : pp (hr (M 63) len) len = (len, true, (tn (hr (M 63) len) 2 0 0).2, (te (hr (M 63) len) (tw (hr (M 63) len) [32] (tn (hr (M 63) len) 2 0 0).1).2).2.2) := by
            unfold pp
            simp only [b25, b45, b52, b63, if_true, if_false, Bool.false_eq_true, decide_true, decide_false, Bool.false_and, Bool.true_and, Bool.and_false]
          rw [e]
          exact ⟨rfl, v49, (by rw [l3, b63]), fun _ => ⟨by rw [l2.2 42 (Or.inr (Or.inl rfl)), k4 42 (by decide), fx_u_at, if_pos ⟨rfl, rfl⟩], (l4 b52).1, (l4 b52).2.1, (l4 b52).2.2.1, (l4 b52).2.2.2⟩⟩
  · have b25 : ¬ 0 < (tn (hr (M 63) len) 2 0 0).1 := by simpa using h25
    refine G_iconst (v := 0) F dX8_reads_28 rfl ?_
    refine G_iret F Rt dX8_reads_29 (rfl) ⟨rfl, rfl, _, rfl, ?_⟩ (Nat.le_refl _) (Nat.le_refl _)
    have e : pp (hr (M 63) len) len = ((tn (hr (M 63) len) 2 0 0).1, false, 0, 0, 0, 0, 0) := by
      unfold pp
      simp only [b25, if_true, if_false, Bool.false_eq_true, decide_true, decide_false, Bool.false_and, Bool.true_and, Bool.and_false]
    rw [e]
    exact ⟨rfl, v22.j, g3, fun q => Bool.noConfusion (show false = true from q)⟩
