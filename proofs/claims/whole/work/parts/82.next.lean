/-! THE REFERENCE: the next order -/
set_option maxRecDepth 20000 in
theorem t_swap {l : Launch} {Z : fx_Z} (hl : l.stackTraces = false) (ad : Nat → Nat) (sw : Bool) (tl : List fx_Sh) (M : fx_M) {a b : Nat} (ha : a < 8) (hb : b < 8) : CV l Z yX8_swap (.code yX8_swap cX8_swap 4 none) 0 [.ref (ad 37), .int (nI a), .int (nI b)] ad (c_C sw ++ (m_C ++ tl)) M (fun m => m = fx_u (fx_u M 61 a (M 61 b)) 61 b (M 61 a)) := by
  refine CT_of (ret := none) (lv0 := [some (.ref (ad 37)), some (.int (nI a)), some (.int (nI b)), none]) (by decide +kernel) hl (by simp [Value.category]) (Nat.le_of_ble_eq_true rfl) rfl ?_
  intro X F Rt _
  refine G_aload_n F dX8_swap_0 rfl ?_
  refine G_getr F fl_X8_87 dX8_swap_1 rfl rfl ?_
  refine G_iload_n F dX8_swap_4 rfl ?_
  refine G_ialdN F dX8_swap_5 rfl (by omega) (by decide) ?_
  refine G_istore_n F 3 dX8_swap_6 rfl rfl rfl (Nat.le_of_ble_eq_true rfl) ?_
  simp only [List.set_cons_zero, List.set_cons_succ]
  refine G_aload_n F dX8_swap_7 rfl ?_
  refine G_getr F fl_X8_87 dX8_swap_8 rfl rfl ?_
  refine G_iload_n F dX8_swap_11 rfl ?_
  refine G_aload_n F dX8_swap_12 rfl ?_
  refine G_getr F fl_X8_87 dX8_swap_13 rfl rfl ?_
  refine G_iload_n F dX8_swap_16 rfl ?_
  refine G_ialdN F dX8_swap_17 rfl (by omega) (by decide) ?_
  refine G_iastN F dX8_swap_18 rfl (by omega) (by decide) ?_
  refine G_aload_n F dX8_swap_19 rfl ?_
  refine G_getr F fl_X8_87 dX8_swap_20 rfl rfl ?_
  refine G_iload_n F dX8_swap_23 rfl ?_
  refine G_iload_n F dX8_swap_24 rfl ?_
  refine G_iastN F dX8_swap_25 rfl (by omega) (by decide) ?_
  refine G_vret F Rt dX8_swap_26 ⟨rfl, rfl, rfl, ?_⟩ (Nat.le_refl _) (Nat.le_refl _)
  rfl
set_option maxRecDepth 20000 in
theorem t_triedCost {l : Launch} {Z : fx_Z} (hl : l.stackTraces = false) (ad : Nat → Nat) (sw : Bool) (tl : List fx_Sh) (M : fx_M) {N : Nat} (hN : M 37 0 = nI N) (hN16 : N ≤ 16) (hN1 : 1 ≤ N) (hv : pv N (M 39) (M 40) (M 41)) (hz : zw N (M 39) (M 44) (M 45)) {H : Nat} {P : Nat → Nat} (hh : M 37 33 = nI H) (hH7 : H ≤ 7) (hP : ∀ j, j < H → M 61 j = nI (P j) ∧ P j < N) : CI l Z yX8_triedCost (.code yX8_triedCost cX8_triedCost 3 (some .int)) 2 [.ref (ad 37)] ad (c_C sw ++ (m_C ++ tl)) M (fun r m => r = sm (fun j => pf_cc (M 39) (M 40) (M 41) (M 44) (M 45) (P j) (if j + 1 < H then nI (P (j + 1)) else -1)) H ∧ m = M) := by
  refine CT_of (ret := (some .int)) (lv0 := [some (.ref (ad 37)), none, none]) (by decide +kernel) hl (by simp [Value.category]) (Nat.le_of_ble_eq_true rfl) rfl ?_
  intro X F Rt _
  have lp : ∀ (k : Nat) (i : Nat), k = H - i → i ≤ H → GG X ad 4 [some (.ref (ad 37)), some (.int (sm (fun j => pf_cc (M 39) (M 40) (M 41) (M 44) (M 45) (P j) (if j + 1 < H then nI (P (j + 1)) else -1)) i)), some (.int (nI i))] [] 0 0 (c_C sw ++ (m_C ++ tl)) M := by
    intro k
    induction k using Nat.strongRecOn with
    | _ k ih =>
      intro i hk hi
      refine G_iload_n F dX8_triedCost_4 rfl ?_
      refine G_aload_n F dX8_triedCost_5 rfl ?_
      refine G_geti F fl_X8_232 dX8_triedCost_6 rfl rfl ?_
      rw [hh]
      refine G_icmp_ge (tgt := 53) F dX8_triedCost_9 (by decide) (fun h9 => ?_) (fun h9 => ?_)
      · rw [nI_leI (by omega) (by omega)] at h9
        have hiH : i = H := by omega
        subst hiH
        refine G_iload_n F dX8_triedCost_53 rfl ?_
        refine G_iret F Rt dX8_triedCost_54 (rfl) ⟨rfl, rfl, _, rfl, ?_⟩ (Nat.le_refl _) (Nat.le_refl _)
        exact ⟨rfl, rfl⟩
      · rw [nI_leI (by omega) (by omega)] at h9
        have t42 : ∀ x : Int32, x = (if i + 1 < H then nI (P (i + 1)) else -1) → GG X ad 42 [some (.ref (ad 37)), some (.int (sm (fun j => pf_cc (M 39) (M 40) (M 41) (M 44) (M 45) (P j) (if j + 1 < H then nI (P (j + 1)) else -1)) i)), some (.int (nI i))] [.int x, .int (nI (P i)), .ref (ad 37), .int (sm (fun j => pf_cc (M 39) (M 40) (M 41) (M 44) (M 45) (P j) (if j + 1 < H then nI (P (j + 1)) else -1)) i)] 0 0 (c_C sw ++ (m_C ++ tl)) M := by
          intro x hx
          rw [hx]
          refine G_vI F mv_X8_195 dX8_triedCost_42 (t_cost hl ad sw tl M (N := N) (b := P i) _ hN hN16 hN1 hv hz (hP i (by omega)).2) rfl rfl rfl rfl (Nat.le_of_ble_eq_true rfl) ⟨Nat.le_of_ble_eq_true rfl, Nat.le_of_ble_eq_true rfl, Nat.le_of_ble_eq_true rfl, Nat.le_of_ble_eq_true rfl⟩ (fun r42 M42 h42 => ?_)
          rw [h42.1, h42.2]
          refine G_iadd F dX8_triedCost_45 ?_
          refine G_istore_n F 1 dX8_triedCost_46 rfl rfl rfl (Nat.le_of_ble_eq_true rfl) ?_
          simp only [List.set_cons_zero, List.set_cons_succ]
          refine G_iinc F (1) dX8_triedCost_47 rfl rfl rfl rfl ?_
          simp only [List.set_cons_zero, List.set_cons_succ, nI_1]
          refine G_goto (tgt := 4) F dX8_triedCost_50 (by decide) ?_
          exact ih (H - (i + 1)) (by omega) (i + 1) rfl (by omega)
        refine G_iload_n F dX8_triedCost_12 rfl ?_
        refine G_aload_n F dX8_triedCost_13 rfl ?_
        refine G_aload_n F dX8_triedCost_14 rfl ?_
        refine G_getr F fl_X8_87 dX8_triedCost_15 rfl rfl ?_
        refine G_iload_n F dX8_triedCost_18 rfl ?_
        refine G_ialdN F dX8_triedCost_19 rfl (by omega) (by decide) ?_
        rw [(hP i (by omega)).1]
        refine G_iload_n F dX8_triedCost_20 rfl ?_
        refine G_iconst (v := nI 1) F dX8_triedCost_21 (by decide) ?_
        refine G_iadd F dX8_triedCost_22 ?_
        rw [nI_add]
        refine G_aload_n F dX8_triedCost_23 rfl ?_
        refine G_geti F fl_X8_232 dX8_triedCost_24 rfl rfl ?_
        rw [hh]
        refine G_icmp_ge (tgt := 41) F dX8_triedCost_27 (by decide) (fun h27 => ?_) (fun h27 => ?_)
        · rw [nI_leI (by omega) (by omega)] at h27
          refine G_iconst (v := -1) F dX8_triedCost_41 rfl ?_
          exact t42 _ (if_neg (by omega)).symm
        · rw [nI_leI (by omega) (by omega)] at h27
          refine G_aload_n F dX8_triedCost_30 rfl ?_
          refine G_getr F fl_X8_87 dX8_triedCost_31 rfl rfl ?_
          refine G_iload_n F dX8_triedCost_34 rfl ?_
          refine G_iconst (v := nI 1) F dX8_triedCost_35 (by decide) ?_
          refine G_iadd F dX8_triedCost_36 ?_
          rw [nI_add]
          refine G_ialdN F dX8_triedCost_37 rfl (by omega) (by decide) ?_
          rw [(hP (i + 1) (by omega)).1]
          refine G_goto (tgt := 42) F dX8_triedCost_38 (by decide) ?_
          exact t42 _ (if_pos (by omega)).symm
  refine G_iconst (v := 0) F dX8_triedCost_0 rfl ?_
  refine G_istore_n F 1 dX8_triedCost_1 rfl rfl rfl (Nat.le_of_ble_eq_true rfl) ?_
  simp only [List.set_cons_zero, List.set_cons_succ]
  refine G_iconst (v := nI 0) F dX8_triedCost_2 (by decide) ?_
  refine G_istore_n F 2 dX8_triedCost_3 rfl rfl rfl (Nat.le_of_ble_eq_true rfl) ?_
  simp only [List.set_cons_zero, List.set_cons_succ]
  exact lp H 0 rfl (by omega)
/-- two places exchanged -/
def swp (P : Nat → Nat) (a b k : Nat) : Nat := if k = b then P a else if k = a then P b else P k
theorem swp_isO {N H : Nat} {ho : Nat → Bool} {P : Nat → Nat} {a b : Nat} (h : isO N H ho P) (ha : 1 ≤ a) (ha' : a < H) (hb : 1 ≤ b) (hb' : b < H) : isO N H ho (swp P a b) := by
  have e : ∀ k, k < H → ∃ k', k' < H ∧ swp P a b k = P k' ∧ (k' = if k = b then a else if k = a then b else k) := fun k hk => by
    unfold swp
    by_cases h1 : k = b
    · exact ⟨a, ha', by rw [if_pos h1], by rw [if_pos h1]⟩
    · by_cases h2 : k = a
      · exact ⟨b, hb', by rw [if_neg h1, if_pos h2], by rw [if_neg h1, if_pos h2]⟩
      · exact ⟨k, hk, by rw [if_neg h1, if_neg h2], by rw [if_neg h1, if_neg h2]⟩
  refine ⟨?_, fun k hk => ?_, fun i j hi hj he => ?_⟩
  · unfold swp
    rw [if_neg (by omega), if_neg (by omega)]; exact h.1
  · obtain ⟨k', k1, k2, -⟩ := e k hk
    rw [k2]; exact h.2.1 k' k1
  · obtain ⟨i', i1, i2, i3⟩ := e i hi
    obtain ⟨j', j1, j2, j3⟩ := e j hj
    rw [i2, j2] at he
    have := h.2.2 i' j' i1 j1 he
    rw [i3, j3] at this
    (repeat' (split at this)) <;> omega
theorem nI_dm {i : Nat} (h : 1 ≤ i) : nI i + -1 = nI (i - 1) := by
  have : (-1 : Int32) = -(nI 1) := by decide
  rw [this, ← Int32.sub_eq_add_neg, nI_sub h]
/-- a row whose tail falls has no order behind it that begins the same -/
theorem no_next {N : Nat} {ho : Nat → Bool} {P Q : Nat → Nat} {i : Nat} (hP : isO N (hcn ho N) ho P) (hQ : isO N (hcn ho N) ho Q) (hd : ∀ a b, i < a → a ≤ b → b < hcn ho N → P b ≤ P a) {d : Nat} (h1 : d < hcn ho N) (h2 : ∀ k, k < d → P k = Q k) (h3 : P d < Q d) : d ≤ i := by
  apply Classical.byContradiction
  intro q
  obtain ⟨e, e1, e2, e3⟩ := isO_rem hP hQ h1 h2
  have := hd d e (by omega) e1 e2
  omega
/-- the order behind P, by an exchange and a tail turned round, is the next one -/
theorem is_next {N : Nat} {ho : Nat → Bool} {P P' Q : Nat → Nat} {i j : Nat} (hP : isO N (hcn ho N) ho P) (hP' : isO N (hcn ho N) ho P') (hQ : isO N (hcn ho N) ho Q) (hij : i < j) (hj : j < hcn ho N)
    (hd : ∀ a b, i < a → a ≤ b → b < hcn ho N → P b ≤ P a) (hji : P i < P j) (hjb : ∀ e, j < e → e < hcn ho N → P e < P i)
    (ha : ∀ k, k < i → P' k = P k) (hi' : P' i = P j) (hup : ∀ a b, i < a → a ≤ b → b < hcn ho N → P' a ≤ P' b) (h1 : ltx (hcn ho N) P Q) : ¬ ltx (hcn ho N) Q P' := by
  obtain ⟨d, d1, d2, d3⟩ := h1
  rintro ⟨e, e1, e2, e3⟩
  have hdi := no_next hP hQ hd d1 d2 d3
  by_cases q : d < i
  · by_cases q1 : e < d
    · rw [← d2 e q1, ha e (by omega)] at e3; omega
    · by_cases q2 : e = d
      · subst q2; rw [ha e q] at e3; omega
      · have := e2 d (by omega); rw [ha d q] at this; omega
  · have hdi2 : d = i := by omega
    subst hdi2
    obtain ⟨g, g1, g2, g3⟩ := isO_rem hP hQ d1 d2
    have hg : g ≤ j := by
      apply Classical.byContradiction
      intro z
      have := hjb g (by omega) g2
      omega
    have hgd : g ≠ d := fun z => by rw [z] at g3; omega
    have hge := hd g j (by omega) hg hj
    by_cases q1 : e < d
    · rw [← d2 e q1, ha e q1] at e3; omega
    · by_cases q2 : e = d
      · subst q2; omega
      · obtain ⟨g', g1', g2', g3'⟩ := isO_rem hP' hQ e1 (fun k hk => (e2 k hk).symm)
        have := hup e g' (by omega) g1' g2'
        omega
theorem desc_le {H i : Nat} {P : Nat → Nat} (h : ∀ e, i < e → e + 1 < H → P (e + 1) < P e) : ∀ a b, i < a → a ≤ b → b < H → P b ≤ P a := by
  intro a b h1 h2
  obtain ⟨k, rfl⟩ := Nat.exists_eq_add_of_le h2
  clear h2
  induction k with
  | zero => intro _; exact Nat.le_refl _
  | succ k ih =>
    intro h4
    have h5 := ih (by omega)
    have h6 := h (a + k) (by omega) (by omega)
    rw [show a + (k + 1) = a + k + 1 from rfl]
    omega
set_option maxRecDepth 20000 in
theorem t_goesOn {l : Launch} {Z : fx_Z} (hl : l.stackTraces = false) (ad : Nat → Nat) (sw : Bool) (tl : List fx_Sh) (M : fx_M) {N : Nat} (hN16 : N ≤ 16) {ho : Nat → Bool} {H : Nat} {P : Nat → Nat} (hh : M 37 33 = nI H) (hH7 : H ≤ 7) (hH1 : 1 ≤ H) (hHe : H = hcn ho N) (hO : isO N H ho P) (hP0 : ∀ j, j < H → M 61 j = nI (P j)) : CI l Z yX8_goesOn (.code yX8_goesOn cX8_goesOn 5 (some .boolean)) 1 [.ref (ad 37)] ad (c_C sw ++ (m_C ++ tl)) M (fun r m => fr [61] M m ∧ ((r = 0 ∧ m = M ∧ ∀ Q, isO N H ho Q → ¬ ltx H P Q) ∨ (r = 1 ∧ (∃ P', isO N H ho P' ∧ (∀ k, k < H → m 61 k = nI (P' k)) ∧ ltx H P P' ∧ ∀ Q, isO N H ho Q → ltx H P Q → ¬ ltx H Q P')))) := by
  refine CT_of (ret := (some .boolean)) (lv0 := [some (.ref (ad 37)), none, none, none, none]) (by decide +kernel) hl (by simp [Value.category]) (Nat.le_of_ble_eq_true rfl) rfl ?_
  intro X F Rt _
  have hP : ∀ j, j < H → M 61 j = nI (P j) ∧ P j < 16 := fun j hj => ⟨hP0 j hj, by have := (hO.2.1 j hj).1; omega⟩
  have t35 : ∀ i, 1 ≤ i → i + 1 < H → P i < P (i + 1) → (∀ e, i < e → e + 1 < H → P (e + 1) < P e) → GG X ad 35 [some (.ref (ad 37)), some (.int (nI i)), none, none, none] [] 0 0 (c_C sw ++ (m_C ++ tl)) M := by
    intro i hi1 hiH hup hdes
    have t70 : ∀ j, i < j → j < H → P i < P j → (∀ e, j < e → e < H → P e < P i) → GG X ad 70 [some (.ref (ad 37)), some (.int (nI i)), some (.int (nI j)), none, none] [] 0 0 (c_C sw ++ (m_C ++ tl)) M := by
      intro j hij hjH hji hjb
      have hfin : ∀ m : fx_M, fr [61] M m → (∀ k, k < H → m 61 k = nI (if i + 1 ≤ k then swp P i j (H + i - k) else swp P i j k)) → ((fun r m => fr [61] M m ∧ ((r = 0 ∧ m = M ∧ ∀ Q, isO N H ho Q → ¬ ltx H P Q) ∨ (r = 1 ∧ (∃ P', isO N H ho P' ∧ (∀ k, k < H → m 61 k = nI (P' k)) ∧ ltx H P P' ∧ ∀ Q, isO N H ho Q → ltx H P Q → ¬ ltx H Q P')))) : Int32 → fx_M → Prop) 1 m := by
        intro m hm hr
        have hdle : ∀ a b, i < a → a ≤ b → b < H → P b ≤ P a := desc_le hdes
        have hO1 : isO N H ho (swp P i j) := swp_isO hO hi1 (by omega) (by omega) hjH
        have hsd : ∀ a b, i < a → a ≤ b → b < H → swp P i j b ≤ swp P i j a := by
          intro a b h1 h2 h3
          unfold swp
          rw [if_neg (show ¬ a = i by omega), if_neg (show ¬ b = i by omega)]
          by_cases q1 : b = j
          · rw [if_pos q1]
            by_cases q2 : a = j
            · rw [if_pos q2]; exact Nat.le_refl _
            · rw [if_neg q2]
              have := hdle a j h1 (by omega) hjH
              omega
          · rw [if_neg q1]
            by_cases q2 : a = j
            · rw [if_pos q2]
              have := hjb b (by omega) h3
              omega
            · rw [if_neg q2]; exact hdle a b h1 h2 h3
        have hO2 : isO N H ho (fun k => if i + 1 ≤ k then swp P i j (H + i - k) else swp P i j k) := by
          refine ⟨?_, fun k hk => ?_, fun a b ha hb he => ?_⟩
          · (try dsimp only); rw [if_neg (by omega)]; exact hO1.1
          · (try dsimp only)
            by_cases e : i + 1 ≤ k
            · rw [if_pos e]; exact hO1.2.1 _ (by omega)
            · rw [if_neg e]; exact hO1.2.1 k hk
          · (try dsimp only at he)
            by_cases e1 : i + 1 ≤ a <;> by_cases e2 : i + 1 ≤ b
            · rw [if_pos e1, if_pos e2] at he
              have := hO1.2.2 _ _ (by omega) (by omega) he
              omega
            · rw [if_pos e1, if_neg e2] at he
              have := hO1.2.2 _ _ (by omega) (by omega) he
              omega
            · rw [if_neg e1, if_pos e2] at he
              have := hO1.2.2 _ _ (by omega) (by omega) he
              omega
            · rw [if_neg e1, if_neg e2] at he
              exact hO1.2.2 _ _ (by omega) (by omega) he
        have ha : ∀ k, k < i → (fun k => if i + 1 ≤ k then swp P i j (H + i - k) else swp P i j k) k = P k := fun k hk => by
          (try dsimp only)
          rw [if_neg (by omega)]
          unfold swp
          rw [if_neg (by omega), if_neg (by omega)]
        have hi' : (fun k => if i + 1 ≤ k then swp P i j (H + i - k) else swp P i j k) i = P j := by
          (try dsimp only)
          rw [if_neg (by omega)]
          unfold swp
          rw [if_neg (by omega), if_pos rfl]
        refine ⟨hm, Or.inr ⟨rfl, _, hO2, hr, ⟨i, by omega, fun k hk => (ha k hk).symm, by rw [hi']; exact hji⟩, fun Q hQ hlt => ?_⟩⟩
        subst hHe
        refine is_next hO hO2 hQ (by omega) hjH hdle hji hjb ha hi' (fun a b h1 h2 h3 => ?_) hlt
        (try dsimp only)
        rw [if_pos (by omega), if_pos (by omega)]
        exact hsd _ _ (by omega) (by omega) (by omega)
      have hP1 : ∀ k, k < H → fx_u (fx_u M 61 i (M 61 j)) 61 j (M 61 i) 61 k = nI (swp P i j k) := fun k hk => by
        unfold swp
        simp only [fx_u_at, true_and]
        by_cases e1 : k = j
        · rw [if_pos e1, if_pos e1, (hP i (by omega)).1]
        · rw [if_neg e1, if_neg e1]
          by_cases e2 : k = i
          · rw [if_pos e2, if_pos e2, (hP j (by omega)).1]
          · rw [if_neg e2, if_neg e2]; exact (hP k hk).1
      have lp3 : ∀ (k : Nat) (a b : Nat) (M' : fx_M), k = b - a → i + 1 ≤ a → b < H → a + b = H + i → fr [61] M M' → (∀ k, k < H → M' 61 k = nI (if i + 1 ≤ k ∧ (k < a ∨ b < k) then swp P i j (H + i - k) else swp P i j k)) → GG X ad 88 [some (.ref (ad 37)), some (.int (nI i)), some (.int (nI j)), some (.int (nI a)), some (.int (nI b))] [] 0 0 (c_C sw ++ (m_C ++ tl)) M' := by
        intro k
        induction k using Nat.strongRecOn with
        | _ k ih =>
          intro a b M' hk ha hb hab g1 g2
          refine G_iload_n F dX8_goesOn_88 rfl ?_
          refine G_iload F dX8_goesOn_89 rfl ?_
          refine G_icmp_ge (tgt := 110) F dX8_goesOn_91 (by decide) (fun h91 => ?_) (fun h91 => ?_)
          · rw [nI_leI (by omega) (by omega)] at h91
            refine G_iconst (v := 1) F dX8_goesOn_110 rfl ?_
            refine G_iret F Rt dX8_goesOn_111 (rfl) ⟨rfl, rfl, _, rfl, ?_⟩ (Nat.le_refl _) (Nat.le_refl _)
            refine hfin _ g1 (fun k hk => ?_)
            rw [g2 k hk]
            by_cases e : i + 1 ≤ k
            · rw [if_pos e]
              by_cases e2 : k < a ∨ b < k
              · rw [if_pos ⟨e, e2⟩]
              · rw [if_neg (fun z => e2 z.2), show H + i - k = k from by omega]
            · rw [if_neg (fun z => e z.1), if_neg e]
          · rw [nI_leI (by omega) (by omega)] at h91
            refine G_aload_n F dX8_goesOn_94 rfl ?_
            refine G_iload_n F dX8_goesOn_95 rfl ?_
            refine G_iload F dX8_goesOn_96 rfl ?_
            refine G_vv F mv_X8_238 dX8_goesOn_98 (t_swap hl ad sw tl M' (a := a) (b := b) (by omega) (by omega)) rfl rfl rfl rfl (Nat.le_of_ble_eq_true rfl) ⟨Nat.le_of_ble_eq_true rfl, Nat.le_of_ble_eq_true rfl, Nat.le_of_ble_eq_true rfl, Nat.le_of_ble_eq_true rfl⟩ (fun M98 h98 => ?_)
            rw [h98]
            refine G_iinc F (1) dX8_goesOn_101 rfl rfl rfl rfl ?_
            simp only [List.set_cons_zero, List.set_cons_succ, nI_1]
            refine G_iinc F (-1) dX8_goesOn_104 rfl rfl rfl rfl ?_
            simp only [List.set_cons_zero, List.set_cons_succ, nI_1]
            rw [nI_dm (by omega)]
            refine G_goto (tgt := 88) F dX8_goesOn_107 (by decide) ?_
            exact ih (b - 1 - (a + 1)) (by omega) (a + 1) (b - 1) _ rfl (by omega) (by omega) (by omega) ((g1.u (by decide)).u (by decide)) (fun k hk => by
              simp only [fx_u_at, true_and]
              by_cases e1 : k = b
              · subst e1
                rw [if_pos rfl, g2 a (by omega), if_neg (by omega), if_pos (by omega), show H + i - k = a from by omega]
              · rw [if_neg e1]
                by_cases e2 : k = a
                · subst e2
                  rw [if_pos rfl, g2 b (by omega), if_neg (by omega), if_pos (by omega), show H + i - k = b from by omega]
                · rw [if_neg e2, g2 k hk]
                  by_cases e3 : i + 1 ≤ k ∧ (k < a ∨ b < k)
                  · rw [if_pos e3, if_pos (by omega)]
                  · rw [if_neg e3, if_neg (by omega)])
      refine G_aload_n F dX8_goesOn_70 rfl ?_
      refine G_iload_n F dX8_goesOn_71 rfl ?_
      refine G_iload_n F dX8_goesOn_72 rfl ?_
      refine G_vv F mv_X8_238 dX8_goesOn_73 (t_swap hl ad sw tl M (a := i) (b := j) (by omega) (by omega)) rfl rfl rfl rfl (Nat.le_of_ble_eq_true rfl) ⟨Nat.le_of_ble_eq_true rfl, Nat.le_of_ble_eq_true rfl, Nat.le_of_ble_eq_true rfl, Nat.le_of_ble_eq_true rfl⟩ (fun M73 h73 => ?_)
      rw [h73]
      refine G_iload_n F dX8_goesOn_76 rfl ?_
      refine G_iconst (v := nI 1) F dX8_goesOn_77 (by decide) ?_
      refine G_iadd F dX8_goesOn_78 ?_
      rw [nI_add]
      refine G_istore_n F 3 dX8_goesOn_79 rfl rfl rfl (Nat.le_of_ble_eq_true rfl) ?_
      simp only [List.set_cons_zero, List.set_cons_succ]
      refine G_aload_n F dX8_goesOn_80 rfl ?_
      refine G_geti F fl_X8_232 dX8_goesOn_81 rfl rfl ?_
      rw [fx_u_ne (by decide), fx_u_ne (by decide), hh]
      refine G_iconst (v := nI 1) F dX8_goesOn_84 (by decide) ?_
      refine G_isub F dX8_goesOn_85 ?_
      rw [nI_sub (by omega)]
      refine G_istore F dX8_goesOn_86 rfl rfl (Nat.le_of_ble_eq_true rfl) ?_
      simp only [List.set_cons_zero, List.set_cons_succ]
      exact lp3 _ (i + 1) (H - 1) _ rfl (by omega) (by omega) (by omega) ((fr.rfl.u (by decide)).u (by decide)) (fun k hk => by rw [hP1 k hk, if_neg (by omega)])
    have lp2 : ∀ (k : Nat) (j : Nat), k = j → i < j → j < H → (∀ e, j < e → e < H → P e < P i) → GG X ad 49 [some (.ref (ad 37)), some (.int (nI i)), some (.int (nI j)), none, none] [] 0 0 (c_C sw ++ (m_C ++ tl)) M := by
      intro k
      induction k using Nat.strongRecOn with
      | _ k ih =>
        intro j hk hij hjH hjb
        refine G_aload_n F dX8_goesOn_49 rfl ?_
        refine G_getr F fl_X8_87 dX8_goesOn_50 rfl rfl ?_
        refine G_iload_n F dX8_goesOn_53 rfl ?_
        skip
        refine G_ialdN F dX8_goesOn_54 rfl (by omega) (by decide) ?_
        rw [(hP j (by omega)).1]
        refine G_aload_n F dX8_goesOn_55 rfl ?_
        refine G_getr F fl_X8_87 dX8_goesOn_56 rfl rfl ?_
        refine G_iload_n F dX8_goesOn_59 rfl ?_
        refine G_ialdN F dX8_goesOn_60 rfl (by omega) (by decide) ?_
        rw [(hP i (by omega)).1]
        refine G_icmp_ge (tgt := 70) F dX8_goesOn_61 (by decide) (fun h61 => ?_) (fun h61 => ?_)
        · rw [nI_leI (by have := (hP i (by omega)).2; omega) (by have := (hP j (by omega)).2; omega)] at h61
          have hne : P i ≠ P j := fun z => by
            have := hO.2.2 i j (by omega) (by omega) z
            omega
          exact t70 j (by omega) (by omega) (by omega) hjb
        · rw [nI_leI (by have := (hP i (by omega)).2; omega) (by have := (hP j (by omega)).2; omega)] at h61
          refine G_iinc F (-1) dX8_goesOn_64 rfl rfl rfl rfl ?_
          simp only [List.set_cons_zero, List.set_cons_succ, nI_1]
          rw [nI_dm (by omega)]
          refine G_goto (tgt := 49) F dX8_goesOn_67 (by decide) ?_
          have hij2 : i + 1 < j := by
            apply Classical.byContradiction
            intro q
            have e : j = i + 1 := by omega
            rw [e] at h61
            omega
          exact ih (j - 1) (by omega) (j - 1) rfl (by omega) (by omega) (fun e h1 h2 => by
            by_cases q : e = j
            · rw [q]; omega
            · exact hjb e (by omega) h2)
    refine G_iload_n F dX8_goesOn_35 rfl ?_
    refine G_iconst (v := nI 1) F dX8_goesOn_36 (by decide) ?_
    refine G_icmp_ge (tgt := 42) F dX8_goesOn_37 (by decide) (fun h37 => ?_) (fun h37 => ?_)
    · skip
      refine G_aload_n F dX8_goesOn_42 rfl ?_
      refine G_geti F fl_X8_232 dX8_goesOn_43 rfl rfl ?_
      rw [hh]
      refine G_iconst (v := nI 1) F dX8_goesOn_46 (by decide) ?_
      refine G_isub F dX8_goesOn_47 ?_
      rw [nI_sub (by omega)]
      refine G_istore_n F 2 dX8_goesOn_48 rfl rfl rfl (Nat.le_of_ble_eq_true rfl) ?_
      simp only [List.set_cons_zero, List.set_cons_succ]
      exact lp2 (H - 1) (H - 1) rfl (by omega) (by omega) (fun e h1 h2 => absurd h2 (by omega))
    · exact absurd ((nI_leI (by omega) (by omega)).mpr hi1) h37 --stop
  have t35z : ∀ x : Int32, x < 1 → (∀ e, 0 < e → e + 1 < H → P (e + 1) < P e) → GG X ad 35 [some (.ref (ad 37)), some (.int x), none, none, none] [] 0 0 (c_C sw ++ (m_C ++ tl)) M := by
    intro x hx hdes
    refine G_iload_n F dX8_goesOn_35 rfl ?_
    refine G_iconst (v := 1) F dX8_goesOn_36 rfl ?_
    refine G_icmp_ge (tgt := 42) F dX8_goesOn_37 (by decide) (fun h37 => ?_) (fun h37 => ?_)
    · exact absurd h37 (by rw [Int32.le_iff_toInt_le]; rw [Int32.lt_iff_toInt_lt] at hx; omega) --stop
    · skip
      refine G_iconst (v := 0) F dX8_goesOn_40 rfl ?_
      refine G_iret F Rt dX8_goesOn_41 (rfl) ⟨rfl, rfl, _, rfl, ?_⟩ (Nat.le_refl _) (Nat.le_refl _)
      refine ⟨fr.rfl, Or.inl ⟨rfl, rfl, fun Q hQ hlt => ?_⟩⟩
      subst hHe
      obtain ⟨d, d1, d2, d3⟩ := hlt
      have := no_next (i := 0) hO hQ (desc_le hdes) d1 d2 d3
      have e0 : d = 0 := by omega
      rw [e0, hO.1, hQ.1] at d3
      omega
  have lp1 : ∀ (k : Nat) (i : Nat), k = i → i + 1 < H → (∀ e, i < e → e + 1 < H → P (e + 1) < P e) → GG X ad 7 [some (.ref (ad 37)), some (.int (nI i)), none, none, none] [] 0 0 (c_C sw ++ (m_C ++ tl)) M := by
    intro k
    induction k using Nat.strongRecOn with
    | _ k ih =>
      intro i hk hiH hdes
      refine G_iload_n F dX8_goesOn_7 rfl ?_
      refine G_iconst (v := nI 1) F dX8_goesOn_8 (by decide) ?_
      refine G_icmp_lt (tgt := 35) F dX8_goesOn_9 (by decide) (fun h9 => ?_) (fun h9 => ?_)
      · rw [nI_ltI (by omega) (by omega)] at h9
        have hi0 : i = 0 := by omega
        subst hi0
        exact t35z _ (by decide) hdes
      · rw [nI_ltI (by omega) (by omega)] at h9
        refine G_aload_n F dX8_goesOn_12 rfl ?_
        refine G_getr F fl_X8_87 dX8_goesOn_13 rfl rfl ?_
        refine G_iload_n F dX8_goesOn_16 rfl ?_
        refine G_ialdN F dX8_goesOn_17 rfl (by omega) (by decide) ?_
        rw [(hP i (by omega)).1]
        refine G_aload_n F dX8_goesOn_18 rfl ?_
        refine G_getr F fl_X8_87 dX8_goesOn_19 rfl rfl ?_
        refine G_iload_n F dX8_goesOn_22 rfl ?_
        refine G_iconst (v := nI 1) F dX8_goesOn_23 (by decide) ?_
        refine G_iadd F dX8_goesOn_24 ?_
        rw [nI_add]
        refine G_ialdN F dX8_goesOn_25 rfl (by omega) (by decide) ?_
        rw [(hP (i + 1) (by omega)).1]
        refine G_icmp_le (tgt := 35) F dX8_goesOn_26 (by decide) (fun h26 => ?_) (fun h26 => ?_)
        · rw [nI_leI (by have := (hP i (by omega)).2; omega) (by have := (hP (i + 1) (by omega)).2; omega)] at h26
          have hne : P i ≠ P (i + 1) := fun z => by
            have := hO.2.2 i (i + 1) (by omega) (by omega) z
            omega
          exact t35 i (by omega) hiH (by omega) hdes
        · rw [nI_leI (by have := (hP i (by omega)).2; omega) (by have := (hP (i + 1) (by omega)).2; omega)] at h26
          refine G_iinc F (-1) dX8_goesOn_29 rfl rfl rfl rfl ?_
          simp only [List.set_cons_zero, List.set_cons_succ, nI_1]
          rw [nI_dm (by omega)]
          refine G_goto (tgt := 7) F dX8_goesOn_32 (by decide) ?_
          exact ih (i - 1) (by omega) (i - 1) rfl (by omega) (fun e h1 h2 => by
            by_cases q : e = i
            · rw [q]; omega
            · exact hdes e (by omega) h2)
  refine G_aload_n F dX8_goesOn_0 rfl ?_
  refine G_geti F fl_X8_232 dX8_goesOn_1 rfl rfl ?_
  rw [hh]
  refine G_iconst (v := 2) F dX8_goesOn_4 rfl ?_
  refine G_isub F dX8_goesOn_5 ?_
  refine G_istore_n F 1 dX8_goesOn_6 rfl rfl rfl (Nat.le_of_ble_eq_true rfl) ?_
  simp only [List.set_cons_zero, List.set_cons_succ]
  by_cases h2 : 2 ≤ H
  · rw [show (2 : Int32) = nI 2 from by decide, nI_sub h2]
    exact lp1 _ (H - 2) rfl (by omega) (fun e h1 h2 => absurd h2 (by omega))
  · have e1 : H = 1 := by omega
    refine G_iload_n F dX8_goesOn_7 rfl ?_
    refine G_iconst (v := 1) F dX8_goesOn_8 rfl ?_
    refine G_icmp_lt (tgt := 35) F dX8_goesOn_9 (by decide) (fun h9 => ?_) (fun h9 => ?_)
    · skip
      exact t35z _ (by rw [e1]; decide) (fun e h1 h2 => absurd h2 (by omega))
    · exact absurd (by rw [e1]; decide) h9 --stop
