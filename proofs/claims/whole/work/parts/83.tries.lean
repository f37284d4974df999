/-! THE REFERENCE: all orders are tried; hot blocks are found -/
/-- an order as a number -/
def oen (P : Nat → Nat) : Nat → Nat
  | 0 => 0
  | n + 1 => oen P n * 16 + P n
theorem oen_lt {P : Nat → Nat} : ∀ n, (∀ j, j < n → P j < 16) → oen P n < 16 ^ n := by
  intro n
  induction n with
  | zero => intro _; simp [oen]
  | succ n ih =>
    intro h
    have h1 := ih (fun j hj => h j (by omega))
    have h2 := h n (by omega)
    simp only [oen, Nat.pow_succ]
    omega
theorem oen_congr {P Q : Nat → Nat} : ∀ n, (∀ j, j < n → P j = Q j) → oen P n = oen Q n := by
  intro n
  induction n with
  | zero => intro _; rfl
  | succ n ih => intro h; simp only [oen]; rw [ih (fun j hj => h j (by omega)), h n (by omega)]
theorem oen_ltx {P Q : Nat → Nat} : ∀ n, (∀ j, j < n → P j < 16) → ltx n P Q → oen P n < oen Q n := by
  intro n
  induction n with
  | zero => rintro _ ⟨d, d1, -⟩; exact absurd d1 (by omega)
  | succ n ih =>
    rintro h ⟨d, d1, d2, d3⟩
    simp only [oen]
    by_cases e : d = n
    · subst e
      rw [oen_congr d d2]; omega
    · have h1 := ih (fun j hj => h j (by omega)) ⟨d, by omega, d2, d3⟩
      have h2 := h n (by omega)
      omega
theorem oen_7 {P : Nat → Nat} {H : Nat} (h7 : H ≤ 7) (h : ∀ j, j < H → P j < 16) : oen P H < 268435456 := by
  have h1 := oen_lt H h
  have h2 : 16 ^ H ≤ 16 ^ 7 := Nat.pow_le_pow_right (by decide) h7
  have h3 : 16 ^ 7 = 268435456 := by decide
  omega
theorem tN_sm {N H : Nat} {cs : Nat → Int32 → Int32} {cn : Nat → Int32 → Nat} (hcs : ∀ a x, a < N → cs a x = nI (cn a x) ∧ cn a x ≤ 67108864) {P : Nat → Nat} (hH : 1 ≤ H) (hP : ∀ j, j < H → P j < N) : sm (fun j => cs (P j) (if j + 1 < H then nI (P (j + 1)) else -1)) H = nI (tN H cn P) := by
  obtain ⟨h, rfl⟩ : ∃ h, H = h + 1 := ⟨H - 1, by omega⟩
  have e1 : sm (fun j => cs (P j) (if j + 1 < h + 1 then nI (P (j + 1)) else -1)) h = nI (pN cn P h) := by
    rw [sm_congr (g := fun j => nI (cn (P j) (nI (P (j + 1))))) (fun j hj => by
      rw [if_pos (by omega)]; exact (hcs _ _ (hP j (by omega))).1), sm_nsm]
    rfl
  have e2 : cs (P h) (if h + 1 < h + 1 then nI (P (h + 1)) else -1) = nI (cn (P h) (-1)) := by
    rw [if_neg (by omega)]; exact (hcs _ _ (hP h (by omega))).1
  show sm (fun j => cs (P j) (if j + 1 < h + 1 then nI (P (j + 1)) else -1)) h + cs (P h) (if h + 1 < h + 1 then nI (P (h + 1)) else -1) = nI (pN cn P (h + 1 - 1) + cn (P (h + 1 - 1)) (-1))
  rw [e1, e2, nI_add, Nat.add_sub_cancel]
theorem tN_bd {N H : Nat} {cs : Nat → Int32 → Int32} {cn : Nat → Int32 → Nat} (hcs : ∀ a x, a < N → cs a x = nI (cn a x) ∧ cn a x ≤ 67108864) {P : Nat → Nat} (hH : 1 ≤ H) (hH7 : H ≤ 7) (hP : ∀ j, j < H → P j < N) : tN H cn P ≤ 469762048 := by
  have h1 : pN cn P (H - 1) ≤ 67108864 * (H - 1) := nsm_le (H - 1) (fun j hj => (hcs (P j) (nI (P (j + 1))) (hP j (by omega))).2)
  have h2 := (hcs (P (H - 1)) (-1) (hP (H - 1) (by omega))).2
  show pN cn P (H - 1) + cn (P (H - 1)) (-1) ≤ 469762048
  have h3 : 67108864 * (H - 1) ≤ 67108864 * 6 := Nat.mul_le_mul_left _ (by omega)
  omega
theorem tN_congr {H : Nat} {cn : Nat → Int32 → Nat} {P Q : Nat → Nat} (hH : 1 ≤ H) (h : ∀ j, j < H → P j = Q j) : tN H cn P = tN H cn Q := by
  show pN cn P (H - 1) + cn (P (H - 1)) (-1) = pN cn Q (H - 1) + cn (Q (H - 1)) (-1)
  rw [pN_congr (fun j hj => h j (by omega)), h (H - 1) (by omega)]
theorem hcn_sur {ho : Nat → Bool} : ∀ n j, j < hcn ho n → ∃ x, x < n ∧ ho x = true ∧ hcn ho x = j := by
  intro n
  induction n with
  | zero => intro j h; exact absurd h (by simp [hcn])
  | succ n ih =>
    intro j h
    cases hh : ho n
    · simp only [hcn, hh, Bool.false_eq_true, if_false, Nat.add_zero] at h
      obtain ⟨x, x1, x2, x3⟩ := ih j h
      exact ⟨x, by omega, x2, x3⟩
    · simp only [hcn, hh, if_true] at h
      by_cases e : j = hcn ho n
      · exact ⟨n, by omega, hh, e.symm⟩
      · obtain ⟨x, x1, x2, x3⟩ := ih j (by omega)
        exact ⟨x, by omega, x2, x3⟩
theorem hcn_slt {ho : Nat → Bool} {x y : Nat} (h : x < y) (hx : ho x = true) : hcn ho x < hcn ho y := by
  have h1 := hcn_mono (ho := ho) (show x + 1 ≤ y from h)
  simp only [hcn, hx, if_true] at h1
  omega
/-- the hot blocks as they ascend are the first order -/
theorem asc_isO {N : Nat} {ho : Nat → Bool} {P : Nat → Nat} (h0 : 0 < N) (ho0 : ho 0 = true) (hP : ∀ x, x < N → ho x = true → P (hcn ho x) = x) : isO N (hcn ho N) ho P ∧ ∀ Q, isO N (hcn ho N) ho Q → ¬ ltx (hcn ho N) Q P := by
  have hj : ∀ j, j < hcn ho N → ∃ x, x < N ∧ ho x = true ∧ hcn ho x = j ∧ P j = x := fun j hj => by
    obtain ⟨x, x1, x2, x3⟩ := hcn_sur N j hj
    exact ⟨x, x1, x2, x3, by rw [← x3]; exact hP x x1 x2⟩
  refine ⟨⟨hP 0 h0 ho0, fun j h => ?_, fun i j hi hj' e => ?_⟩, ?_⟩
  · obtain ⟨x, x1, x2, x3, x4⟩ := hj j h
    rw [x4]; exact ⟨x1, x2⟩
  · obtain ⟨x, x1, x2, x3, x4⟩ := hj i hi
    obtain ⟨y, y1, y2, y3, y4⟩ := hj j hj'
    rw [x4, y4] at e
    rw [← x3, ← y3, e]
  · rintro Q hQ ⟨d, d1, d2, d3⟩
    obtain ⟨y, y1, y2, y3, y4⟩ := hj d d1
    obtain ⟨q1, q2⟩ := hQ.2.1 d d1
    have h1 := hcn_slt (ho := ho) (show Q d < y by omega) q2
    have h2 := hP (Q d) q1 q2
    have h3 := d2 (hcn ho (Q d)) (by omega)
    have := hQ.2.2 (hcn ho (Q d)) d (by omega) d1 (by rw [h3, h2])
    omega
/-- the best order, and of equal ones the first -/
def opt (N : Nat) (ho : Nat → Bool) (cn : Nat → Int32 → Nat) (Q : Nat → Nat) : Prop := isO N (hcn ho N) ho Q ∧ (∀ Q', isO N (hcn ho N) ho Q' → tN (hcn ho N) cn Q ≤ tN (hcn ho N) cn Q') ∧ ∀ Q', isO N (hcn ho N) ho Q' → ltx (hcn ho N) Q' Q → tN (hcn ho N) cn Q < tN (hcn ho N) cn Q'
theorem opt_one {N : Nat} {ho : Nat → Bool} {cn : Nat → Int32 → Nat} {P Q : Nat → Nat} (h1 : opt N ho cn P) (h2 : opt N ho cn Q) : ∀ j, j < hcn ho N → P j = Q j := by
  rcases ltx_tot (H := hcn ho N) (P := P) (Q := Q) with h | h | h
  · have a := h2.2.2 P h1.1 h
    have b := h1.2.1 Q h2.1
    omega
  · have a := h1.2.2 Q h2.1 h
    have b := h2.2.1 P h1.1
    omega
  · exact h
set_option maxRecDepth 20000 in
theorem t_findsHot {l : Launch} {Z : fx_Z} (hl : l.stackTraces = false) (ad : Nat → Nat) (sw : Bool) (tl : List fx_Sh) (M : fx_M) {N : Nat} (cold : Int32) (hN : M 37 0 = nI N) (hN16 : N ≤ 16) (hN1 : 1 ≤ N) : CV l Z yX8_findsHot (.code yX8_findsHot cX8_findsHot 4 none) 0 [.ref (ad 37), .int cold] ad (c_C sw ++ (m_C ++ tl)) M (fun m => fr [37] M m ∧ (∀ j, j ≠ 33 → j ≠ 34 → m 37 j = M 37 j) ∧ m 37 33 = nI (hcn (hob (M 43) cold) N) ∧ ∀ b, b < N → bt (m 37 34) b = (hob (M 43) cold) b) := by
  refine CT_of (ret := none) (lv0 := [some (.ref (ad 37)), some (.int cold), none, none]) (by decide +kernel) hl (by simp [Value.category]) (Nat.le_of_ble_eq_true rfl) rfl ?_
  intro X F Rt _
  have lp : ∀ (k : Nat) (b : Nat) (M' : fx_M), k = N - b → 1 ≤ b → b ≤ N → fr [37] M M' → (∀ j, j ≠ 33 → j ≠ 34 → M' 37 j = M 37 j) → M' 37 33 = nI (hcn (hob (M 43) cold) b) → (∀ x, x < 32 → bt (M' 37 34) x = (decide (x < b) && (hob (M 43) cold) x)) → GG X ad 12 [some (.ref (ad 37)), some (.int cold), some (.int (nI b)), none] [] 0 0 (c_C sw ++ (m_C ++ tl)) M' := by
    intro k
    induction k using Nat.strongRecOn with
    | _ k ih =>
      intro b M' hk hb1 hb g1 g2 g3 g4
      refine G_iload_n F dX8_findsHot_12 rfl ?_
      refine G_aload_n F dX8_findsHot_13 rfl ?_
      refine G_geti F fl_X8_106 dX8_findsHot_14 rfl rfl ?_
      rw [g2 0 (by decide) (by decide), hN]
      refine G_icmp_ge (tgt := 80) F dX8_findsHot_17 (by decide) (fun h17 => ?_) (fun h17 => ?_)
      · rw [nI_leI (by omega) (by omega)] at h17
        have hbN : b = N := by omega
        refine G_vret F Rt dX8_findsHot_80 ⟨rfl, rfl, rfl, ?_⟩ (Nat.le_refl _) (Nat.le_refl _)
        refine ⟨g1, g2, by rw [g3, hbN], fun x hx => ?_⟩
        rw [g4 x (by omega), hbN]; simp [hx]
      · rw [nI_leI (by omega) (by omega)] at h17
        have t35t : (hob (M 43) cold) b = true → GG X ad 35 [some (.ref (ad 37)), some (.int cold), some (.int (nI b)), none] [.int 1] 0 0 (c_C sw ++ (m_C ++ tl)) M' := by
          intro hq
          refine G_istore_n F 3 dX8_findsHot_35 rfl rfl rfl (Nat.le_of_ble_eq_true rfl) ?_
          simp only [List.set_cons_zero, List.set_cons_succ]
          refine G_aload_n F dX8_findsHot_36 rfl ?_
          refine G_dup F dX8_findsHot_37 rfl ?_
          refine G_geti F fl_X8_204 dX8_findsHot_38 rfl rfl ?_
          try simp only [fx_u_at, Nat.reduceEqDiff, false_and, and_false, true_and, and_true, ↓reduceIte]
          refine G_iload_n F dX8_findsHot_41 rfl ?_
          refine G_if_eq (tgt := 51) F dX8_findsHot_42 (by decide) (fun h42 => ?_) (fun h42 => ?_)
          · exact absurd h42 (by decide) --stop
          · skip
            refine G_iconst (v := 1) F dX8_findsHot_45 rfl ?_
            refine G_iload_n F dX8_findsHot_46 rfl ?_
            refine G_ishl F dX8_findsHot_47 ?_
            refine G_goto (tgt := 52) F dX8_findsHot_48 (by decide) ?_
            refine G_ior F dX8_findsHot_52 ?_
            refine G_puti F fl_X8_204 dX8_findsHot_53 rfl rfl rfl rfl ?_
            refine G_aload_n F dX8_findsHot_56 rfl ?_
            refine G_dup F dX8_findsHot_57 rfl ?_
            refine G_geti F fl_X8_232 dX8_findsHot_58 rfl rfl ?_
            try simp only [fx_u_at, Nat.reduceEqDiff, false_and, and_false, true_and, and_true, ↓reduceIte]
            refine G_iload_n F dX8_findsHot_61 rfl ?_
            refine G_if_eq (tgt := 69) F dX8_findsHot_62 (by decide) (fun h62 => ?_) (fun h62 => ?_)
            · exact absurd h62 (by decide) --stop
            · skip
              refine G_iconst (v := 1) F dX8_findsHot_65 rfl ?_
              refine G_goto (tgt := 70) F dX8_findsHot_66 (by decide) ?_
              refine G_iadd F dX8_findsHot_70 ?_
              refine G_puti F fl_X8_232 dX8_findsHot_71 rfl rfl rfl rfl ?_
              refine G_iinc F (1) dX8_findsHot_74 rfl rfl rfl rfl ?_
              simp only [List.set_cons_zero, List.set_cons_succ, nI_1]
              refine G_goto (tgt := 12) F dX8_findsHot_77 (by decide) ?_
              refine G_drop F 3 ?_
              simp only [List.set_cons_zero, List.set_cons_succ]
              refine ih (N - (b + 1)) (by omega) (b + 1) _ rfl (by omega) (by omega) ((g1.u (by decide)).u (by decide)) (fun j a1 a2 => ?_) ?_ (fun x hx => ?_)
              · rw [fx_u_at, if_neg (fun z => a1 z.2), fx_u_at, if_neg (fun z => a2 z.2)]; exact g2 j a1 a2
              · rw [fx_u_at, if_pos ⟨rfl, rfl⟩, g3]
                simp only [hcn, hq]
                rw [nI_1]; rfl
              · rw [fx_u_at, if_neg (fun z => absurd z.2 (by decide)), fx_u_at, if_pos ⟨rfl, rfl⟩, bt_or hx, g4 x hx, bt_sh (by omega) hx]
                by_cases e : x = b
                · subst e; simp [hq]
                · have e3 : decide (x < b + 1) = decide (x < b) := by simp only [decide_eq_decide]; omega
                  rw [e3] <;> simp [e]
        have t35f : (hob (M 43) cold) b = false → GG X ad 35 [some (.ref (ad 37)), some (.int cold), some (.int (nI b)), none] [.int 0] 0 0 (c_C sw ++ (m_C ++ tl)) M' := by
          intro hq
          refine G_istore_n F 3 dX8_findsHot_35 rfl rfl rfl (Nat.le_of_ble_eq_true rfl) ?_
          simp only [List.set_cons_zero, List.set_cons_succ]
          refine G_aload_n F dX8_findsHot_36 rfl ?_
          refine G_dup F dX8_findsHot_37 rfl ?_
          refine G_geti F fl_X8_204 dX8_findsHot_38 rfl rfl ?_
          try simp only [fx_u_at, Nat.reduceEqDiff, false_and, and_false, true_and, and_true, ↓reduceIte]
          refine G_iload_n F dX8_findsHot_41 rfl ?_
          refine G_if_eq (tgt := 51) F dX8_findsHot_42 (by decide) (fun h42 => ?_) (fun h42 => ?_)
          · skip
            refine G_iconst (v := 0) F dX8_findsHot_51 rfl ?_
            refine G_ior F dX8_findsHot_52 ?_
            refine G_puti F fl_X8_204 dX8_findsHot_53 rfl rfl rfl rfl ?_
            refine G_aload_n F dX8_findsHot_56 rfl ?_
            refine G_dup F dX8_findsHot_57 rfl ?_
            refine G_geti F fl_X8_232 dX8_findsHot_58 rfl rfl ?_
            try simp only [fx_u_at, Nat.reduceEqDiff, false_and, and_false, true_and, and_true, ↓reduceIte]
            refine G_iload_n F dX8_findsHot_61 rfl ?_
            refine G_if_eq (tgt := 69) F dX8_findsHot_62 (by decide) (fun h62 => ?_) (fun h62 => ?_)
            · skip
              refine G_iconst (v := 0) F dX8_findsHot_69 rfl ?_
              refine G_iadd F dX8_findsHot_70 ?_
              refine G_puti F fl_X8_232 dX8_findsHot_71 rfl rfl rfl rfl ?_
              refine G_iinc F (1) dX8_findsHot_74 rfl rfl rfl rfl ?_
              simp only [List.set_cons_zero, List.set_cons_succ, nI_1]
              refine G_goto (tgt := 12) F dX8_findsHot_77 (by decide) ?_
              refine G_drop F 3 ?_
              simp only [List.set_cons_zero, List.set_cons_succ]
              refine ih (N - (b + 1)) (by omega) (b + 1) _ rfl (by omega) (by omega) ((g1.u (by decide)).u (by decide)) (fun j a1 a2 => ?_) ?_ (fun x hx => ?_)
              · rw [fx_u_at, if_neg (fun z => a1 z.2), fx_u_at, if_neg (fun z => a2 z.2)]; exact g2 j a1 a2
              · rw [fx_u_at, if_pos ⟨rfl, rfl⟩, g3]
                simp only [hcn, hq]
                rw [Int32.add_zero]; rfl
              · rw [fx_u_at, if_neg (fun z => absurd z.2 (by decide)), fx_u_at, if_pos ⟨rfl, rfl⟩, bt_or hx, g4 x hx, bt_zero, Bool.or_false]
                by_cases e : x = b
                · subst e; simp [hq]
                · have e3 : decide (x < b + 1) = decide (x < b) := by simp only [decide_eq_decide]; omega
                  rw [e3] <;> simp [e]
            · exact absurd rfl h62 --stop
          · exact absurd rfl h42 --stop
        refine G_aload_n F dX8_findsHot_20 rfl ?_
        refine G_getr F fl_X8_32 dX8_findsHot_21 rfl rfl ?_
        refine G_iload_n F dX8_findsHot_24 rfl ?_
        refine G_ialdN F dX8_findsHot_25 rfl (by omega) (by decide) ?_
        refine G_iload_n F dX8_findsHot_26 rfl ?_
        rw [g1 43 (by decide)]
        refine G_icmp_le (tgt := 34) F dX8_findsHot_27 (by decide) (fun h27 => ?_) (fun h27 => ?_)
        · skip
          refine G_iconst (v := 0) F dX8_findsHot_34 rfl ?_
          refine t35f ?_
          simp [hob, show ¬ b = 0 from by omega, Int32.lt_iff_toInt_lt, Int32.le_iff_toInt_le] at h27 ⊢
          omega
        · skip
          refine G_iconst (v := 1) F dX8_findsHot_30 rfl ?_
          refine G_goto (tgt := 35) F dX8_findsHot_31 (by decide) ?_
          refine t35t ?_
          simp [hob, show ¬ b = 0 from by omega, Int32.lt_iff_toInt_lt, Int32.le_iff_toInt_le] at h27 ⊢
          omega
  refine G_aload_n F dX8_findsHot_0 rfl ?_
  refine G_iconst (v := 1) F dX8_findsHot_1 rfl ?_
  refine G_puti F fl_X8_204 dX8_findsHot_2 rfl rfl rfl rfl ?_
  refine G_aload_n F dX8_findsHot_5 rfl ?_
  refine G_iconst (v := 1) F dX8_findsHot_6 rfl ?_
  refine G_puti F fl_X8_232 dX8_findsHot_7 rfl rfl rfl rfl ?_
  refine G_iconst (v := nI 1) F dX8_findsHot_10 (by decide) ?_
  refine G_istore_n F 2 dX8_findsHot_11 rfl rfl rfl (Nat.le_of_ble_eq_true rfl) ?_
  simp only [List.set_cons_zero, List.set_cons_succ]
  refine lp (N - 1) 1 _ rfl (by omega) (by omega) ((fr.rfl.u (by decide)).u (by decide)) (fun j a1 a2 => ?_) ?_ (fun x hx => ?_)
  · rw [fx_u_at, if_neg (fun z => a1 z.2), fx_u_at, if_neg (fun z => a2 z.2)]
  · rw [fx_u_at, if_pos ⟨rfl, rfl⟩]; rfl
  · rw [fx_u_at, if_neg (fun z => absurd z.2 (by decide)), fx_u_at, if_pos ⟨rfl, rfl⟩, bt_one hx]
    by_cases e : x = 0
    · subst e; simp [hob]
    · simp [e]
set_option maxRecDepth 20000 in
theorem t_triesAll {l : Launch} {Z : fx_Z} (hl : l.stackTraces = false) (ad : Nat → Nat) (sw : Bool) (tl : List fx_Sh) (M : fx_M) {N : Nat} (hN : M 37 0 = nI N) (hN16 : N ≤ 16) (hN1 : 1 ≤ N) (hv : pv N (M 39) (M 40) (M 41)) (hz : zw N (M 39) (M 44) (M 45)) {ho : Nat → Bool} (hho : ∀ b, b < N → bt (M 37 34) b = ho b) (hh : M 37 33 = nI (hcn ho N)) (hH7 : hcn ho N ≤ 7) (ho0 : ho 0 = true) {cn : Nat → Int32 → Nat} (hcs : ∀ a x, a < N → pf_cc (M 39) (M 40) (M 41) (M 44) (M 45) a x = nI (cn a x) ∧ cn a x ≤ 67108864) : CV l Z yX8_triesAll (.code yX8_triesAll cX8_triesAll 5 none) 3 [.ref (ad 37)] ad (c_C sw ++ (m_C ++ tl)) M (fun m => fr [37, 46, 61, 62] M m ∧ (∀ j, j ≠ 37 → m 37 j = M 37 j) ∧ ∃ Q, opt N ho cn Q ∧ m 46 = fun j => if j < hcn ho N then nI (Q j) else M 46 j) := by
  refine CT_of (ret := none) (lv0 := [some (.ref (ad 37)), none, none, none, none]) (by decide +kernel) hl (by simp [Value.category]) (Nat.le_of_ble_eq_true rfl) rfl ?_
  intro X F Rt _
  have hH1 : 1 ≤ hcn ho N := by have := hcn_slt (ho := ho) hN1 ho0; omega
  have tF : ∀ (M0 : fx_M) (B : Nat → Nat) (n1 x3 : Int32), fr [37, 61, 62] M M0 → (∀ j, j ≠ 37 → M0 37 j = M 37 j) → opt N ho cn B → (∀ j, j < (hcn ho N) → M0 62 j = nI (B j)) → GG X ad 101 [some (.ref (ad 37)), some (.int n1), some (.int 1), some (.int x3), none] [] 0 0 (c_C sw ++ (m_C ++ tl)) M0 := by
    intro M0 B n1 x3 d1 d2 d3 d4
    have lpF : ∀ (k : Nat) (i : Nat) (M' : fx_M), k = (hcn ho N) - i → i ≤ (hcn ho N) → fr [46] M0 M' → M' 46 = (fun j => if j < i then nI (B j) else M 46 j) → GG X ad 103 [some (.ref (ad 37)), some (.int n1), some (.int 1), some (.int (nI i)), none] [] 0 0 (c_C sw ++ (m_C ++ tl)) M' := by
      intro k
      induction k using Nat.strongRecOn with
      | _ k ih =>
        intro i M' hk hi c1 c2
        refine G_iload_n F dX8_triesAll_103 rfl ?_
        refine G_aload_n F dX8_triesAll_104 rfl ?_
        refine G_geti F fl_X8_232 dX8_triesAll_105 rfl rfl ?_
        rw [show M' 37 33 = nI (hcn ho N) from by rw [c1 37 (by decide), d2 33 (by decide)]; exact hh]
        refine G_icmp_ge (tgt := 129) F dX8_triesAll_108 (by decide) (fun h108 => ?_) (fun h108 => ?_)
        · rw [nI_leI (by omega) (by omega)] at h108
          have hiH : i = (hcn ho N) := by omega
          refine G_vret F Rt dX8_triesAll_129 ⟨rfl, rfl, rfl, ?_⟩ (Nat.le_refl _) (Nat.le_refl _)
          refine ⟨(d1.mono (by decide)).trans (c1.mono (by decide)), fun j hj => ?_, B, d3, ?_⟩
          · rw [c1 37 (by decide)]; exact d2 j hj
          · rw [c2, hiH]
        · rw [nI_leI (by omega) (by omega)] at h108
          refine G_aload_n F dX8_triesAll_111 rfl ?_
          refine G_getr F fl_X8_41 dX8_triesAll_112 rfl rfl ?_
          refine G_iload_n F dX8_triesAll_115 rfl ?_
          refine G_aload_n F dX8_triesAll_116 rfl ?_
          refine G_getr F fl_X8_90 dX8_triesAll_117 rfl rfl ?_
          refine G_iload_n F dX8_triesAll_120 rfl ?_
          refine G_ialdN F dX8_triesAll_121 rfl (by omega) (by decide) ?_
          rw [show M' 62 i = nI (B i) from by rw [c1 62 (by decide)]; exact d4 i (by omega)]
          refine G_iastN F dX8_triesAll_122 rfl (by omega) (by decide) ?_
          refine G_iinc F (1) dX8_triesAll_123 rfl rfl rfl rfl ?_
          simp only [List.set_cons_zero, List.set_cons_succ, nI_1]
          refine G_goto (tgt := 103) F dX8_triesAll_126 (by decide) ?_
          refine ih ((hcn ho N) - (i + 1)) (by omega) (i + 1) _ rfl (by omega) (c1.u (by decide)) ?_
          rw [fx_u_eq, c2]
          funext j
          by_cases e : j = i
          · subst e; simp [upd]
          · simp only [upd, if_neg e]
            by_cases e2 : j < i
            · rw [if_pos e2, if_pos (by omega)]
            · rw [if_neg e2, if_neg (by omega)]
    refine G_iconst (v := nI 0) F dX8_triesAll_101 (by decide) ?_
    refine G_istore_n F 3 dX8_triesAll_102 rfl rfl rfl (Nat.le_of_ble_eq_true rfl) ?_
    simp only [List.set_cons_zero, List.set_cons_succ]
    exact lpF (hcn ho N) 0 M0 rfl (by omega) fr.rfl (by funext j; rw [if_neg (by omega)]; rw [d1 46 (by decide)])
  have lpM : ∀ (k : Nat) (P : Nat → Nat) (M' : fx_M) (n1 an : Int32), k = 268435456 - oen P (hcn ho N) → fr [37, 61, 62] M M' → (∀ j, j ≠ 37 → M' 37 j = M 37 j) → isO N (hcn ho N) ho P → (∀ j, j < (hcn ho N) → M' 61 j = nI (P j)) → ((an = 0 ∧ ∀ Q, isO N (hcn ho N) ho Q → ¬ ltx (hcn ho N) Q P) ∨ (an = 1 ∧ ∃ B, isO N (hcn ho N) ho B ∧ M' 37 37 = nI (tN (hcn ho N) cn B) ∧ (∀ j, j < (hcn ho N) → M' 62 j = nI (B j)) ∧ (∀ Q', isO N (hcn ho N) ho Q' → ltx (hcn ho N) Q' P → tN (hcn ho N) cn B ≤ tN (hcn ho N) cn Q') ∧ ∀ Q', isO N (hcn ho N) ho Q' → ltx (hcn ho N) Q' B → tN (hcn ho N) cn B < tN (hcn ho N) cn Q')) → GG X ad 38 [some (.ref (ad 37)), some (.int n1), some (.int an), none, none] [] 0 0 (c_C sw ++ (m_C ++ tl)) M' := by
    intro k
    induction k using Nat.strongRecOn with
    | _ k ih =>
      intro P M' n1 an hk g1 g2 hO g4 g5
      have hbd := tN_bd hcs hH1 hH7 (fun j hj => (hO.2.1 j hj).1)
      have e39 : sm (fun j => pf_cc (M' 39) (M' 40) (M' 41) (M' 44) (M' 45) (P j) (if j + 1 < (hcn ho N) then nI (P (j + 1)) else -1)) (hcn ho N) = nI (tN (hcn ho N) cn P) := by
        rw [g1 39 (by decide), g1 40 (by decide), g1 41 (by decide), g1 44 (by decide), g1 45 (by decide)]
        exact tN_sm hcs hH1 (fun j hj => (hO.2.1 j hj).1)
      have t94 : ∀ (M2 : fx_M) (x3 : Int32) (B : Nat → Nat), fr [37, 61, 62] M M2 → (∀ j, j ≠ 37 → M2 37 j = M 37 j) → (∀ j, j < (hcn ho N) → M2 61 j = nI (P j)) → isO N (hcn ho N) ho B → M2 37 37 = nI (tN (hcn ho N) cn B) → (∀ j, j < (hcn ho N) → M2 62 j = nI (B j)) → (∀ Q', isO N (hcn ho N) ho Q' → ¬ ltx (hcn ho N) P Q' → tN (hcn ho N) cn B ≤ tN (hcn ho N) cn Q') → (∀ Q', isO N (hcn ho N) ho Q' → ltx (hcn ho N) Q' B → tN (hcn ho N) cn B < tN (hcn ho N) cn Q') → GG X ad 94 [some (.ref (ad 37)), some (.int n1), some (.int 1), some (.int x3), none] [] 0 0 (c_C sw ++ (m_C ++ tl)) M2 := by
        intro M2 x3 B b1 b2 b3 b4 b5 b6 b7 b8
        refine G_aload_n F dX8_triesAll_94 rfl ?_
        refine G_vI F mv_X8_247 dX8_triesAll_95 (t_goesOn hl ad sw tl M2 (N := N) hN16 (H := (hcn ho N)) (P := P) (by rw [b2 33 (by decide)]; exact hh) hH7 hH1 rfl hO b3) rfl rfl rfl rfl (Nat.le_of_ble_eq_true rfl) ⟨Nat.le_of_ble_eq_true rfl, Nat.le_of_ble_eq_true rfl, Nat.le_of_ble_eq_true rfl, Nat.le_of_ble_eq_true rfl⟩ (fun r95 M95 h95 => ?_)
        obtain ⟨c1, c2⟩ := h95
        refine G_if_ne (tgt := 38) F dX8_triesAll_98 (by decide) (fun h98 => ?_) (fun h98 => ?_)
        · rcases c2 with ⟨z, -⟩ | ⟨-, P', p1, p2, p3, p4⟩
          · exact absurd z h98
          refine G_drop F 3 ?_
          simp only [List.set_cons_zero, List.set_cons_succ]
          have hlt := oen_ltx (hcn ho N) (fun j hj => by have := (hO.2.1 j hj).1; omega) p3
          have h7 := oen_7 (P := P') hH7 (fun j hj => by have := (p1.2.1 j hj).1; omega)
          exact ih (268435456 - oen P' (hcn ho N)) (by omega) P' M95 n1 1 rfl (b1.trans (c1.mono (by decide))) (fun j hj => by rw [c1 37 (by decide)]; exact b2 j hj) p1 p2 (Or.inr ⟨rfl, B, b4, by rw [c1 37 (by decide)]; exact b5, fun j hj => by rw [c1 62 (by decide)]; exact b6 j hj, fun Q' q1 q2 => b7 Q' q1 (fun z => p4 Q' q1 z q2), b8⟩)
        · rcases c2 with ⟨-, em, cN⟩ | ⟨z, -⟩
          rotate_left
          · rw [z] at h98; exact absurd h98 (by decide)
          rw [em]
          exact tF M2 B n1 x3 b1 b2 ⟨b4, fun Q' q1 => b7 Q' q1 (cN Q' q1), b8⟩ b6
      have t55 : ∀ x2 : Int32, (∀ Q', isO N (hcn ho N) ho Q' → ltx (hcn ho N) Q' P → tN (hcn ho N) cn P < tN (hcn ho N) cn Q') → GG X ad 55 [some (.ref (ad 37)), some (.int n1), some (.int x2), some (.int (nI (tN (hcn ho N) cn P))), none] [] 0 0 (c_C sw ++ (m_C ++ tl)) M' := by
        intro x2 hb
        have lpC : ∀ (k : Nat) (i : Nat) (M3 : fx_M), k = (hcn ho N) - i → i ≤ (hcn ho N) → fr [62] (fx_u M' 37 37 (nI (tN (hcn ho N) cn P))) M3 → (∀ j, j < i → M3 62 j = nI (P j)) → GG X ad 65 [some (.ref (ad 37)), some (.int n1), some (.int 1), some (.int (nI (tN (hcn ho N) cn P))), some (.int (nI i))] [] 0 0 (c_C sw ++ (m_C ++ tl)) M3 := by
          intro k
          induction k using Nat.strongRecOn with
          | _ k ih2 =>
            intro i M3 hk2 hi c1 c2
            refine G_iload F dX8_triesAll_65 rfl ?_
            refine G_aload_n F dX8_triesAll_67 rfl ?_
            refine G_geti F fl_X8_232 dX8_triesAll_68 rfl rfl ?_
            rw [show M3 37 33 = nI (hcn ho N) from by rw [c1 37 (by decide), fx_u_at, if_neg (fun z => absurd z.2 (by decide)), g2 33 (by decide)]; exact hh]
            refine G_icmp_ge (tgt := 94) F dX8_triesAll_71 (by decide) (fun h71 => ?_) (fun h71 => ?_)
            · rw [nI_leI (by omega) (by omega)] at h71
              have hiH : i = (hcn ho N) := by omega
              refine G_drop F 4 ?_
              simp only [List.set_cons_zero, List.set_cons_succ]
              refine t94 M3 _ P ((g1.u (by decide)).trans (c1.mono (by decide))) (fun j hj => ?_) (fun j hj => ?_) hO ?_ (fun j hj => c2 j (by omega)) (fun Q' q1 q2 => ?_) hb
              · rw [c1 37 (by decide), fx_u_at, if_neg (fun z => hj z.2)]; exact g2 j hj
              · rw [c1 61 (by decide), fx_u_ne (by decide)]; exact g4 j hj
              · rw [c1 37 (by decide), fx_u_at, if_pos ⟨rfl, rfl⟩]
              · rcases ltx_tot (H := (hcn ho N)) (P := P) (Q := Q') with z | z | z
                · exact absurd z q2
                · exact Nat.le_of_lt (hb Q' q1 z)
                · exact Nat.le_of_eq (tN_congr hH1 z)
            · rw [nI_leI (by omega) (by omega)] at h71
              refine G_aload_n F dX8_triesAll_74 rfl ?_
              refine G_getr F fl_X8_90 dX8_triesAll_75 rfl rfl ?_
              refine G_iload F dX8_triesAll_78 rfl ?_
              refine G_aload_n F dX8_triesAll_80 rfl ?_
              refine G_getr F fl_X8_87 dX8_triesAll_81 rfl rfl ?_
              refine G_iload F dX8_triesAll_84 rfl ?_
              refine G_ialdN F dX8_triesAll_86 rfl (by omega) (by decide) ?_
              rw [show M3 61 i = nI (P i) from by rw [c1 61 (by decide), fx_u_ne (by decide)]; exact g4 i (by omega)]
              refine G_iastN F dX8_triesAll_87 rfl (by omega) (by decide) ?_
              refine G_iinc F (1) dX8_triesAll_88 rfl rfl rfl rfl ?_
              simp only [List.set_cons_zero, List.set_cons_succ, nI_1]
              refine G_goto (tgt := 65) F dX8_triesAll_91 (by decide) ?_
              refine ih2 ((hcn ho N) - (i + 1)) (by omega) (i + 1) _ rfl (by omega) (c1.u (by decide)) (fun j hj => ?_)
              rw [fx_u_at]
              by_cases e : j = i
              · rw [if_pos ⟨rfl, e⟩, e]
              · rw [if_neg (fun z => e z.2)]; exact c2 j (by omega)
        refine G_iconst (v := 1) F dX8_triesAll_55 rfl ?_
        refine G_istore_n F 2 dX8_triesAll_56 rfl rfl rfl (Nat.le_of_ble_eq_true rfl) ?_
        simp only [List.set_cons_zero, List.set_cons_succ]
        refine G_aload_n F dX8_triesAll_57 rfl ?_
        refine G_iload_n F dX8_triesAll_58 rfl ?_
        refine G_puti F fl_X8_244 dX8_triesAll_59 rfl rfl rfl rfl ?_
        refine G_iconst (v := nI 0) F dX8_triesAll_62 (by decide) ?_
        refine G_istore F dX8_triesAll_63 rfl rfl (Nat.le_of_ble_eq_true rfl) ?_
        simp only [List.set_cons_zero, List.set_cons_succ]
        exact lpC (hcn ho N) 0 _ rfl (by omega) fr.rfl (fun j hj => absurd hj (by omega))
      refine G_aload_n F dX8_triesAll_38 rfl ?_
      refine G_vI F mv_X8_241 dX8_triesAll_39 (t_triedCost hl ad sw tl M' (N := N) (H := (hcn ho N)) (P := P) (by rw [g2 0 (by decide)]; exact hN) hN16 hN1 (by rw [g1 39 (by decide), g1 40 (by decide), g1 41 (by decide)]; exact hv) (by rw [g1 39 (by decide), g1 44 (by decide), g1 45 (by decide)]; exact hz) (by rw [g2 33 (by decide)]; exact hh) hH7 (fun j hj => ⟨g4 j hj, (hO.2.1 j hj).1⟩)) rfl rfl rfl rfl (Nat.le_of_ble_eq_true rfl) ⟨Nat.le_of_ble_eq_true rfl, Nat.le_of_ble_eq_true rfl, Nat.le_of_ble_eq_true rfl, Nat.le_of_ble_eq_true rfl⟩ (fun r39 M39 h39 => ?_)
      rw [h39.1, h39.2, e39]
      refine G_istore_n F 3 dX8_triesAll_42 rfl rfl rfl (Nat.le_of_ble_eq_true rfl) ?_
      simp only [List.set_cons_zero, List.set_cons_succ]
      refine G_iload_n F dX8_triesAll_43 rfl ?_
      refine G_if_eq (tgt := 55) F dX8_triesAll_44 (by decide) (fun h44 => ?_) (fun h44 => ?_)
      · skip
        rcases g5 with ⟨z, w⟩ | ⟨z, -⟩
        · exact t55 _ (fun Q' q1 q2 => absurd q2 (w Q' q1))
        · rw [z] at h44; exact absurd h44 (by decide)
      · skip
        refine G_iload_n F dX8_triesAll_47 rfl ?_
        refine G_aload_n F dX8_triesAll_48 rfl ?_
        refine G_geti F fl_X8_244 dX8_triesAll_49 rfl rfl ?_
        refine G_icmp_ge (tgt := 94) F dX8_triesAll_52 (by decide) (fun h52 => ?_) (fun h52 => ?_)
        · skip
          rcases g5 with ⟨z, -⟩ | ⟨z, B, b1, b2, b3, b4, b5⟩
          · exact absurd z h44
          rw [z]
          rw [b2, nI_leI (by have := tN_bd hcs hH1 hH7 (fun j hj => (b1.2.1 j hj).1); omega) (by omega)] at h52
          refine t94 M' _ B g1 g2 g4 b1 b2 b3 (fun Q' q1 q2 => ?_) b5
          rcases ltx_tot (H := (hcn ho N)) (P := P) (Q := Q') with y | y | y
          · exact absurd y q2
          · exact b4 Q' q1 y
          · rw [← tN_congr hH1 y]; exact h52
        · skip
          rcases g5 with ⟨z, w⟩ | ⟨z, B, b1, b2, b3, b4, b5⟩
          · exact absurd z h44
          rw [b2, nI_leI (by have := tN_bd hcs hH1 hH7 (fun j hj => (b1.2.1 j hj).1); omega) (by omega)] at h52
          exact t55 _ (fun Q' q1 q2 => by have := b4 Q' q1 q2; omega)
  have t36 : ∀ (M' : fx_M) (n1 n2 : Int32), fr [61] M M' → (∀ x, x < N → ho x = true → M' 61 (hcn ho x) = nI x) → GG X ad 36 [some (.ref (ad 37)), some (.int n1), some (.int n2), none, none] [] 0 0 (c_C sw ++ (m_C ++ tl)) M' := by
    intro M' n1 n2 d1 d2
    refine G_iconst (v := 0) F dX8_triesAll_36 rfl ?_
    refine G_istore_n F 2 dX8_triesAll_37 rfl rfl rfl (Nat.le_of_ble_eq_true rfl) ?_
    simp only [List.set_cons_zero, List.set_cons_succ]
    obtain ⟨a1, a2⟩ := asc_isO (N := N) (ho := ho) (P := fun j => (M' 61 j).toNatClampNeg) hN1 ho0 (fun x hx hq => by
      show (M' 61 (hcn ho x)).toNatClampNeg = x
      rw [d2 x hx hq, nI_clamp (by omega)])
    refine lpM _ (fun j => (M' 61 j).toNatClampNeg) M' n1 0 rfl (d1.mono (by decide)) (fun j _ => by rw [d1 37 (by decide)]) a1 (fun j hj => ?_) (Or.inl ⟨rfl, a2⟩)
    obtain ⟨x, x1, x2, x3⟩ := hcn_sur N j hj
    rw [← x3, d2 x x1 x2, nI_clamp (by omega)]
  have lp1 : ∀ (k : Nat) (b : Nat) (M' : fx_M), k = N - b → b ≤ N → fr [61] M M' → (∀ x, x < b → ho x = true → M' 61 (hcn ho x) = nI x) → GG X ad 4 [some (.ref (ad 37)), some (.int (nI (hcn ho b))), some (.int (nI b)), none, none] [] 0 0 (c_C sw ++ (m_C ++ tl)) M' := by
    intro k
    induction k using Nat.strongRecOn with
    | _ k ih =>
      intro b M' hk hb g1 g2
      refine G_iload_n F dX8_triesAll_4 rfl ?_
      refine G_aload_n F dX8_triesAll_5 rfl ?_
      refine G_geti F fl_X8_106 dX8_triesAll_6 rfl rfl ?_
      rw [show M' 37 0 = nI N from by rw [g1 37 (by decide)]; exact hN]
      refine G_icmp_ge (tgt := 36) F dX8_triesAll_9 (by decide) (fun h9 => ?_) (fun h9 => ?_)
      · rw [nI_leI (by omega) (by omega)] at h9
        have hbN : b = N := by omega
        exact t36 M' _ _ g1 (fun x hx => g2 x (by omega))
      · rw [nI_leI (by omega) (by omega)] at h9
        refine G_aload_n F dX8_triesAll_12 rfl ?_
        refine G_iload_n F dX8_triesAll_13 rfl ?_
        refine G_vI F mv_X8_207 dX8_triesAll_14 (t_isHot hl ad sw tl M' (b := b) (by omega)) rfl rfl rfl rfl (Nat.le_of_ble_eq_true rfl) ⟨Nat.le_of_ble_eq_true rfl, Nat.le_of_ble_eq_true rfl, Nat.le_of_ble_eq_true rfl, Nat.le_of_ble_eq_true rfl⟩ (fun r14 M14 h14 => ?_)
        rw [h14.1, h14.2, show M' 37 34 = M 37 34 from by rw [g1 37 (by decide)], hho b (by omega)]
        refine G_if_eq (tgt := 30) F dX8_triesAll_17 (by decide) (fun h17 => ?_) (fun h17 => ?_)
        · have q17 : ho b = false := by simpa using h17
          refine G_iinc F (1) dX8_triesAll_30 rfl rfl rfl rfl ?_
          simp only [List.set_cons_zero, List.set_cons_succ, nI_1]
          refine G_goto (tgt := 4) F dX8_triesAll_33 (by decide) ?_
          have e : hcn ho (b + 1) = hcn ho b := by simp [hcn, q17]
          rw [← e]
          refine ih (N - (b + 1)) (by omega) (b + 1) _ rfl (by omega) g1 (fun x hx hq => ?_)
          by_cases e2 : x = b
          · rw [e2, q17] at hq; exact Bool.noConfusion hq
          · exact g2 x (by omega) hq
        · have q17 : ho b = true := by simpa using h17
          have hlt := hcn_slt (ho := ho) (show b < N from by omega) q17
          refine G_aload_n F dX8_triesAll_20 rfl ?_
          refine G_getr F fl_X8_87 dX8_triesAll_21 rfl rfl ?_
          refine G_iload_n F dX8_triesAll_24 rfl ?_
          refine G_iload_n F dX8_triesAll_25 rfl ?_
          refine G_iastN F dX8_triesAll_26 rfl (by omega) (by decide) ?_
          refine G_iinc F (1) dX8_triesAll_27 rfl rfl rfl rfl ?_
          simp only [List.set_cons_zero, List.set_cons_succ, nI_1]
          refine G_iinc F (1) dX8_triesAll_30 rfl rfl rfl rfl ?_
          simp only [List.set_cons_zero, List.set_cons_succ, nI_1]
          refine G_goto (tgt := 4) F dX8_triesAll_33 (by decide) ?_
          have e : hcn ho (b + 1) = hcn ho b + 1 := by simp [hcn, q17]
          rw [← e]
          refine ih (N - (b + 1)) (by omega) (b + 1) _ rfl (by omega) (g1.u (by decide)) (fun x hx hq => ?_)
          rw [fx_u_at]
          by_cases e2 : x = b
          · rw [e2, if_pos ⟨rfl, rfl⟩]
          · have := hcn_slt (ho := ho) (show x < b from by omega) hq
            rw [if_neg (fun z => by have := z.2; omega)]; exact g2 x (by omega) hq
  refine G_iconst (v := nI 0) F dX8_triesAll_0 (by decide) ?_
  refine G_istore_n F 1 dX8_triesAll_1 rfl rfl rfl (Nat.le_of_ble_eq_true rfl) ?_
  simp only [List.set_cons_zero, List.set_cons_succ]
  refine G_iconst (v := nI 0) F dX8_triesAll_2 (by decide) ?_
  refine G_istore_n F 2 dX8_triesAll_3 rfl rfl rfl (Nat.le_of_ble_eq_true rfl) ?_
  simp only [List.set_cons_zero, List.set_cons_succ]
  exact lp1 N 0 M rfl (by omega) fr.rfl (fun x hx => absurd hx (by omega))
