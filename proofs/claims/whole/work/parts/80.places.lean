/-! THE REFERENCE: chains are placed; rows of all blocks are orders -/
section PchE
variable {N : Nat} {ho : Nat → Bool} {fo rk : Nat → Nat} {bh f s w1 w2 r0 : Nat → Int32}
theorem pch_enm (hN : N ≤ 16) (h0 : 0 < N) (hc : cgd N ho bh fo rk) (ho0 : ho 0 = true) (hf0 : fo 0 = 0) : ∀ k, enm N (hcn (pch N ho fo bh f s w1 w2 r0 k).1 N) (pch N ho fo bh f s w1 w2 r0 k).2 (pch N ho fo bh f s w1 w2 r0 k).1 := by
  intro k
  induction k with
  | zero =>
    have := (plr_enm0 (pl := fun _ => false) (c := 0) (row := r0) hN hc (fun _ _ _ => rfl) h0 hf0 (by rw [hcn_false]; exact enm_0)).1
    rw [hcn_false] at this
    exact this
  | succ k ih =>
    have hok := pch_ok (f := f) (s := s) (w1 := w1) (w2 := w2) (r0 := r0) hN h0 hc ho0 hf0 k
    by_cases h : hcn (pch N ho fo bh f s w1 w2 r0 k).1 N < hcn ho N
    · obtain ⟨c, c1, c2, c3, c4, c5⟩ := psg_spec (f := f) (s := s) (w1 := w1) (w2 := w2) hN hc hok.2 h
      simp only [pch, if_pos h]
      rw [c2, nI_clamp (by omega)]
      exact (plr_enm0 hN hc (fun x hx hf => by rw [← hok.2 x hx, hf]; exact c5) c1 c4 ih).1
    · simp only [pch, if_neg h]
      exact ih
theorem pch_grow (hN : N ≤ 16) (h0 : 0 < N) (hc : cgd N ho bh fo rk) (ho0 : ho 0 = true) (hf0 : fo 0 = 0) : ∀ k, k + 1 ≤ hcn (pch N ho fo bh f s w1 w2 r0 k).1 N ∨ hcn ho N ≤ hcn (pch N ho fo bh f s w1 w2 r0 k).1 N := by
  intro k
  induction k with
  | zero =>
    refine Or.inl ?_
    have := hcn_ssub (p := fun _ => false) (q := (pch N ho fo bh f s w1 w2 r0 0).1) (x := 0) (n := N) (fun _ _ q => Bool.noConfusion q) h0 (by simp [pch, hf0]) rfl
    omega
  | succ k ih =>
    have hok := pch_ok (f := f) (s := s) (w1 := w1) (w2 := w2) (r0 := r0) hN h0 hc ho0 hf0 k
    by_cases h : hcn (pch N ho fo bh f s w1 w2 r0 k).1 N < hcn ho N
    · obtain ⟨c, c1, c2, c3, c4, c5⟩ := psg_spec (f := f) (s := s) (w1 := w1) (w2 := w2) hN hc hok.2 h
      have := hcn_ssub (p := (pch N ho fo bh f s w1 w2 r0 k).1) (q := (pch N ho fo bh f s w1 w2 r0 (k + 1)).1) (x := c) (n := N) (fun b hb q => by simp only [pch, if_pos h, q, Bool.true_or]) c1 (by simp only [pch, if_pos h]; rw [c2, nI_clamp (by omega)]; simp [c4]) c5
      refine Or.inl ?_
      omega
    · refine Or.inr ?_
      simp only [pch, if_neg h]
      omega
theorem pch_full (hN : N ≤ 16) (h0 : 0 < N) (hc : cgd N ho bh fo rk) (ho0 : ho 0 = true) (hf0 : fo 0 = 0) : (∀ x, x < N → (pch N ho fo bh f s w1 w2 r0 16).1 x = ho x) ∧ hcn (pch N ho fo bh f s w1 w2 r0 16).1 N = hcn ho N := by
  have hok := (pch_ok (f := f) (s := s) (w1 := w1) (w2 := w2) (r0 := r0) hN h0 hc ho0 hf0 16).1
  have hg := pch_grow (f := f) (s := s) (w1 := w1) (w2 := w2) (r0 := r0) hN h0 hc ho0 hf0 16
  have hl := hcn_le (ho := ho) N
  have hs := hcn_sub (p := (pch N ho fo bh f s w1 w2 r0 16).1) (q := ho) (n := N) hok
  refine ⟨fun x hx => ?_, by omega⟩
  cases h1 : (pch N ho fo bh f s w1 w2 r0 16).1 x
  · cases h2 : ho x
    · rfl
    · have := hcn_ssub hok hx h2 h1
      omega
  · exact (hok x hx h1).symm
end PchE
/-- cold blocks follow -/
theorem enm_cold {N : Nat} {ho : Nat → Bool} {r : Nat → Int32} (h : enm N (hcn ho N) r ho) : ∀ n, n ≤ N → enm N (hcn ho N + (n - hcn ho n)) (pcd ho (hcn ho N) r n) (fun x => ho x || decide (x < n)) := by
  intro n
  induction n with
  | zero =>
    intro _
    simp only [pcd, hcn, Nat.sub_self, Nat.add_zero]
    exact enm_congr h (fun x _ => by simp)
  | succ n ih =>
    intro hn
    have hl := hcn_le (ho := ho) n
    cases hh : ho n
    · have := enm_add (b := n) (pl' := fun x => ho x || decide (x < n + 1)) (ih (by omega)) (by omega) (by simp [hh]) (by simp) (fun x hx hne => by
        have : decide (x < n + 1) = decide (x < n) := by simp only [decide_eq_decide]; omega
        rw [this])
      simp only [pcd, hcn, hh, Bool.false_eq_true, if_false, Nat.add_zero]
      rw [show hcn ho N + (n + 1 - hcn ho n) = hcn ho N + (n - hcn ho n) + 1 from by omega]
      exact this
    · simp only [pcd, hcn, hh, if_true]
      rw [show n + 1 - (hcn ho n + 1) = n - hcn ho n from by omega]
      refine enm_congr (ih (by omega)) (fun x hx => ?_)
      by_cases e : x = n
      · rw [e, hh]; rfl
      · have : decide (x < n + 1) = decide (x < n) := by simp only [decide_eq_decide]; omega
        rw [this]
theorem enm_pm {N : Nat} {ho : Nat → Bool} {r : Nat → Int32} (h : enm N (hcn ho N) r ho) : ∃ rw pos : Nat → Nat, pm N rw pos ∧ ∀ j, j < N → pcd ho (hcn ho N) r N j = nI (rw j) := by
  have h1 := enm_cold h N (Nat.le_refl N)
  have hl := hcn_le (ho := ho) N
  rw [show hcn ho N + (N - hcn ho N) = N from by omega] at h1
  obtain ⟨rw, ps, g1, g2⟩ := h1
  exact ⟨rw, ps, ⟨fun j hj => ⟨(g1 j hj).2.1, (g1 j hj).2.2.2⟩, fun b hb => g2 b hb (by simp [hb])⟩, fun j hj => (g1 j hj).1⟩
/-- the greatest of what pulls -/
def smx (pu : Nat → Int32) (x : Int32) : Int32 := if x = -1 then -1 else pu x.toNatClampNeg
theorem smx_lt {pu : Nat → Int32} {x : Int32} {v : Int32} (hv : 0 ≤ v) : smx pu x < v ↔ (x = -1 ∨ pu x.toNatClampNeg < v) := by
  unfold smx
  by_cases e : x = -1
  · rw [if_pos e]
    refine ⟨fun _ => Or.inl e, fun _ => ?_⟩
    have e1 : (-1 : Int32).toInt = -1 := by decide
    rw [Int32.le_iff_toInt_le, i0] at hv
    rw [Int32.lt_iff_toInt_lt, e1]
    omega
  · rw [if_neg e]
    exact ⟨Or.inr, fun q => q.resolve_left e⟩
set_option maxRecDepth 20000 in
theorem t_placesChains {l : Launch} {Z : fx_Z} (hl : l.stackTraces = false) (ad : Nat → Nat) (sw : Bool) (tl : List fx_Sh) (M : fx_M) {N : Nat} (hN : M 37 0 = nI N) (hN16 : N ≤ 16) (hN1 : 1 ≤ N) (hv : pv N (M 39) (M 40) (M 41)) {ho : Nat → Bool} (hho : ∀ b, b < N → bt (M 37 34) b = ho b) (hh : M 37 33 = nI (hcn ho N)) (ho0 : ho 0 = true) {bh : Nat → Int32} {fo rk : Nat → Nat} (hc : cgd N ho bh fo rk) (hbh : ∀ b, b < N → M 59 b = bh b) (h60 : ∀ b, b < N → (fo b = b ∧ M 60 b = -1) ∨ (fo b ≠ b ∧ ∃ a, a < N ∧ M 60 b = nI a ∧ bh a = nI b)) (hf0 : fo 0 = 0) (hpos : ∀ (pl : Nat → Bool) (c : Nat), 0 ≤ pul N fo (M 40) (M 41) (M 44) (M 45) pl c) : CV l Z yX8_placesChains (.code yX8_placesChains cX8_placesChains 7 none) 1 [.ref (ad 37)] ad (c_C sw ++ (m_C ++ tl)) M (fun m => fr [46] M m ∧ m 46 = (pch N ho fo bh (M 40) (M 41) (M 44) (M 45) (M 46) 16).2) := by
  refine CT_of (ret := none) (lv0 := [some (.ref (ad 37)), none, none, none, none, none, none]) (by decide +kernel) hl (by simp [Value.category]) (Nat.le_of_ble_eq_true rfl) rfl ?_
  intro X F Rt _
  have h0 : 0 < N := hN1
  have lp : ∀ (k : Nat) (k1 : Nat) (M' : fx_M), k = 17 - k1 → k1 ≤ 16 → fr [46] M M' → M' 46 = (pch N ho fo bh (M 40) (M 41) (M 44) (M 45) (M 46) k1).2 → GG X ad 9 [some (.ref (ad 37)), some (.int (nI (hcn (pch N ho fo bh (M 40) (M 41) (M 44) (M 45) (M 46) k1).1 N))), none, none, none, none, none] [] 0 0 (c_C sw ++ (m_C ++ tl)) M' := by
    intro k
    induction k using Nat.strongRecOn with
    | _ k ih =>
      intro k1 M' hk hk1 g1 g2
      have hok := pch_ok (f := M 40) (s := M 41) (w1 := M 44) (w2 := M 45) (r0 := M 46) hN16 h0 hc ho0 hf0 k1
      have hen := pch_enm (f := M 40) (s := M 41) (w1 := M 44) (w2 := M 45) (r0 := M 46) hN16 h0 hc ho0 hf0 k1
      have hgr := pch_grow (f := M 40) (s := M 41) (w1 := M 44) (w2 := M 45) (r0 := M 46) hN16 h0 hc ho0 hf0 k1
      have hl1 := hcn_le (ho := (pch N ho fo bh (M 40) (M 41) (M 44) (M 45) (M 46) k1).1) N
      have hl2 := hcn_le (ho := ho) N
      obtain ⟨rw, ps, he1, he2⟩ := id hen
      have hN9 : M' 37 0 = nI N := by rw [g1 37 (by decide)]; exact hN
      have h33 : M' 37 33 = nI (hcn ho N) := by rw [g1 37 (by decide)]; exact hh
      refine G_iload_n F dX8_placesChains_9 rfl ?_
      refine G_aload_n F dX8_placesChains_10 rfl ?_
      refine G_geti F fl_X8_232 dX8_placesChains_11 rfl rfl ?_
      rw [h33]
      refine G_icmp_ge (tgt := 131) F dX8_placesChains_14 (by decide) (fun h14 => ?_) (fun h14 => ?_)
      · rw [nI_leI (by omega) (by omega)] at h14
        refine G_vret F Rt dX8_placesChains_131 ⟨rfl, rfl, rfl, ?_⟩ (Nat.le_refl _) (Nat.le_refl _)
        refine ⟨g1, ?_⟩
        have hfx := pch_fix (N := N) (ho := ho) (fo := fo) (bh := bh) (f := M 40) (s := M 41) (w1 := M 44) (w2 := M 45) (r0 := M 46) (k := k1) (by omega) (16 - k1)
        rw [show k1 + (16 - k1) = 16 from by omega] at hfx
        rw [hfx]; exact g2
      · rw [nI_leI (by omega) (by omega)] at h14
        have hlt : hcn (pch N ho fo bh (M 40) (M 41) (M 44) (M 45) (M 46) k1).1 N < hcn ho N := by omega
        have t121 : ∀ S x4 : Int32, GG X ad 121 [some (.ref (ad 37)), some (.int (nI (hcn (pch N ho fo bh (M 40) (M 41) (M 44) (M 45) (M 46) k1).1 N))), some (.int S), some (.int (psg N ho fo (M 40) (M 41) (M 44) (M 45) (pch N ho fo bh (M 40) (M 41) (M 44) (M 45) (M 46) k1).1)), some (.int x4), some (.int (nI N)), none] [] 0 0 (c_C sw ++ (m_C ++ tl)) M' := by
          intro S x4
          obtain ⟨c, c1, c2, c3, c4, c5⟩ := psg_spec (f := M 40) (s := M 41) (w1 := M 44) (w2 := M 45) hN16 hc hok.2 hlt
          rw [c2]
          have hfree : ∀ x, x < N → fo x = c → (pch N ho fo bh (M 40) (M 41) (M 44) (M 45) (M 46) k1).1 x = false := fun x hx hf => by rw [← hok.2 x hx, hf]; exact c5
          have hpe := plr_enm0 hN16 hc hfree c1 c4 hen
          have hnx : (pch N ho fo bh (M 40) (M 41) (M 44) (M 45) (M 46) (k1 + 1)) = (fun x => (pch N ho fo bh (M 40) (M 41) (M 44) (M 45) (M 46) k1).1 x || decide (fo x = c), (plr bh 17 (nI c) ((pch N ho fo bh (M 40) (M 41) (M 44) (M 45) (M 46) k1).2, hcn (pch N ho fo bh (M 40) (M 41) (M 44) (M 45) (M 46) k1).1 N)).1) := by simp only [pch, if_pos hlt]; rw [c2, nI_clamp (by omega)]
          refine G_aload_n F dX8_placesChains_121 rfl ?_
          refine G_iload_n F dX8_placesChains_122 rfl ?_
          refine G_iload_n F dX8_placesChains_123 rfl ?_
          refine G_vI F mv_X8_229 dX8_placesChains_124 (t_append hl ad sw tl M' (N := N) (c := c) (pl := (pch N ho fo bh (M 40) (M 41) (M 44) (M 45) (M 46) k1).1) hN16 hc (by rw [g1 59 (by decide)]; exact hbh) c1 c4 hfree) rfl rfl rfl rfl (Nat.le_of_ble_eq_true rfl) ⟨Nat.le_of_ble_eq_true rfl, Nat.le_of_ble_eq_true rfl, Nat.le_of_ble_eq_true rfl, Nat.le_of_ble_eq_true rfl⟩ (fun r124 M124 h124 => ?_)
          obtain ⟨a1, a2, a3⟩ := h124
          rw [a1, g2, hpe.2]
          refine G_istore_n F 1 dX8_placesChains_127 rfl rfl rfl (Nat.le_of_ble_eq_true rfl) ?_
          simp only [List.set_cons_zero, List.set_cons_succ]
          refine G_goto (tgt := 9) F dX8_placesChains_128 (by decide) ?_
          have hgo := ih (17 - (k1 + 1)) (by omega) (k1 + 1) M124 rfl (by omega) (g1.trans a2) (by rw [a3, g2, hnx])
          rw [hnx] at hgo
          refine G_drop F 2 ?_
          refine G_drop F 3 ?_
          refine G_drop F 4 ?_
          refine G_drop F 5 ?_
          refine G_drop F 6 ?_
          simp only [List.set_cons_zero, List.set_cons_succ]
          exact hgo
        have t43 : ∀ S x3 : Int32, (∀ x, x < N → bt S x = (pch N ho fo bh (M 40) (M 41) (M 44) (M 45) (M 46) k1).1 x) → GG X ad 43 [some (.ref (ad 37)), some (.int (nI (hcn (pch N ho fo bh (M 40) (M 41) (M 44) (M 45) (M 46) k1).1 N))), some (.int S), some (.int x3), none, none, none] [] 0 0 (c_C sw ++ (m_C ++ tl)) M' := by
          intro S x3 hS
          have lpB : ∀ (k : Nat) (b : Nat), k = N - b → b ≤ N → GG X ad 51 [some (.ref (ad 37)), some (.int (nI (hcn (pch N ho fo bh (M 40) (M 41) (M 44) (M 45) (M 46) k1).1 N))), some (.int S), some (.int (sgc (pcc ho fo (pch N ho fo bh (M 40) (M 41) (M 44) (M 45) (M 46) k1).1) (pul N fo (M 40) (M 41) (M 44) (M 45) (pch N ho fo bh (M 40) (M 41) (M 44) (M 45) (M 46) k1).1) b)), some (.int (smx (pul N fo (M 40) (M 41) (M 44) (M 45) (pch N ho fo bh (M 40) (M 41) (M 44) (M 45) (M 46) k1).1) (sgc (pcc ho fo (pch N ho fo bh (M 40) (M 41) (M 44) (M 45) (M 46) k1).1) (pul N fo (M 40) (M 41) (M 44) (M 45) (pch N ho fo bh (M 40) (M 41) (M 44) (M 45) (M 46) k1).1) b))), some (.int (nI b)), none] [] 0 0 (c_C sw ++ (m_C ++ tl)) M' := by
            intro k
            induction k using Nat.strongRecOn with
            | _ k ih3 =>
              intro b hk3 hb
              refine G_iload F dX8_placesChains_51 rfl ?_
              refine G_aload_n F dX8_placesChains_53 rfl ?_
              refine G_geti F fl_X8_106 dX8_placesChains_54 rfl rfl ?_
              rw [hN9]
              refine G_icmp_ge (tgt := 121) F dX8_placesChains_57 (by decide) (fun h57 => ?_) (fun h57 => ?_)
              · rw [nI_leI (by omega) (by omega)] at h57
                have hbN : b = N := by omega
                subst hbN
                exact t121 S _
              · rw [nI_leI (by omega) (by omega)] at h57
                have t115 : ∀ (x3 x4 : Int32), x3 = (sgc (pcc ho fo (pch N ho fo bh (M 40) (M 41) (M 44) (M 45) (M 46) k1).1) (pul N fo (M 40) (M 41) (M 44) (M 45) (pch N ho fo bh (M 40) (M 41) (M 44) (M 45) (M 46) k1).1) (b + 1)) → x4 = smx (pul N fo (M 40) (M 41) (M 44) (M 45) (pch N ho fo bh (M 40) (M 41) (M 44) (M 45) (M 46) k1).1) (sgc (pcc ho fo (pch N ho fo bh (M 40) (M 41) (M 44) (M 45) (M 46) k1).1) (pul N fo (M 40) (M 41) (M 44) (M 45) (pch N ho fo bh (M 40) (M 41) (M 44) (M 45) (M 46) k1).1) (b + 1)) → GG X ad 115 [some (.ref (ad 37)), some (.int (nI (hcn (pch N ho fo bh (M 40) (M 41) (M 44) (M 45) (M 46) k1).1 N))), some (.int S), some (.int x3), some (.int x4), some (.int (nI b)), none] [] 0 0 (c_C sw ++ (m_C ++ tl)) M' := by
                  intro x3 x4 e3 e4
                  refine G_iinc F (1) dX8_placesChains_115 rfl rfl rfl rfl ?_
                  simp only [List.set_cons_zero, List.set_cons_succ, nI_1]
                  refine G_goto (tgt := 51) F dX8_placesChains_118 (by decide) ?_
                  rw [e3, e4]
                  exact ih3 (N - (b + 1)) (by omega) (b + 1) rfl (by omega)
                have hsg : (sgc (pcc ho fo (pch N ho fo bh (M 40) (M 41) (M 44) (M 45) (M 46) k1).1) (pul N fo (M 40) (M 41) (M 44) (M 45) (pch N ho fo bh (M 40) (M 41) (M 44) (M 45) (M 46) k1).1) (b + 1)) = if ((pcc ho fo (pch N ho fo bh (M 40) (M 41) (M 44) (M 45) (M 46) k1).1) b = true ∧ ((sgc (pcc ho fo (pch N ho fo bh (M 40) (M 41) (M 44) (M 45) (M 46) k1).1) (pul N fo (M 40) (M 41) (M 44) (M 45) (pch N ho fo bh (M 40) (M 41) (M 44) (M 45) (M 46) k1).1) b) = -1 ∨ (pul N fo (M 40) (M 41) (M 44) (M 45) (pch N ho fo bh (M 40) (M 41) (M 44) (M 45) (M 46) k1).1) ((sgc (pcc ho fo (pch N ho fo bh (M 40) (M 41) (M 44) (M 45) (M 46) k1).1) (pul N fo (M 40) (M 41) (M 44) (M 45) (pch N ho fo bh (M 40) (M 41) (M 44) (M 45) (M 46) k1).1) b)).toNatClampNeg < (pul N fo (M 40) (M 41) (M 44) (M 45) (pch N ho fo bh (M 40) (M 41) (M 44) (M 45) (M 46) k1).1) b)) then nI b else (sgc (pcc ho fo (pch N ho fo bh (M 40) (M 41) (M 44) (M 45) (M 46) k1).1) (pul N fo (M 40) (M 41) (M 44) (M 45) (pch N ho fo bh (M 40) (M 41) (M 44) (M 45) (M 46) k1).1) b) := rfl
                refine G_aload_n F dX8_placesChains_60 rfl ?_
                refine G_iload F dX8_placesChains_61 rfl ?_
                refine G_vI F mv_X8_207 dX8_placesChains_63 (t_isHot hl ad sw tl M' (b := b) (by omega)) rfl rfl rfl rfl (Nat.le_of_ble_eq_true rfl) ⟨Nat.le_of_ble_eq_true rfl, Nat.le_of_ble_eq_true rfl, Nat.le_of_ble_eq_true rfl, Nat.le_of_ble_eq_true rfl⟩ (fun r63 M63 h63 => ?_)
                rw [h63.1, h63.2, show M' 37 34 = M 37 34 from by rw [g1 37 (by decide)], hho b (by omega)]
                refine G_if_eq (tgt := 115) F dX8_placesChains_66 (by decide) (fun h66 => ?_) (fun h66 => ?_)
                · have q66 : ho b = false := by simpa using h66
                  exact t115 _ _ (by rw [hsg, if_neg (fun z => by have := z.1; simp only [pcc, Bool.and_eq_true, decide_eq_true_eq, Bool.not_eq_true'] at this; rw [q66] at this; exact Bool.noConfusion this.1)]) (by rw [hsg, if_neg (fun z => by have := z.1; simp only [pcc, Bool.and_eq_true, decide_eq_true_eq, Bool.not_eq_true'] at this; rw [q66] at this; exact Bool.noConfusion this.1)])
                · have q66 : ho b = true := by simpa using h66
                  refine G_aload_n F dX8_placesChains_69 rfl ?_
                  refine G_getr F fl_X8_84 dX8_placesChains_70 rfl rfl ?_
                  refine G_iload F dX8_placesChains_73 rfl ?_
                  refine G_ialdN F dX8_placesChains_75 rfl (by omega) (by decide) ?_
                  rw [g1 60 (by decide)]
                  refine G_if_ge (tgt := 115) F dX8_placesChains_76 (by decide) (fun h76 => ?_) (fun h76 => ?_)
                  · have q76 : ¬ fo b = b := fun z => by
                      rcases h60 b (by omega) with ⟨-, w⟩ | ⟨w, -⟩
                      · rw [w] at h76; exact absurd h76 (by decide)
                      · exact w z
                    exact t115 _ _ (by rw [hsg, if_neg (fun z => by have := z.1; simp only [pcc, Bool.and_eq_true, decide_eq_true_eq, Bool.not_eq_true'] at this; exact q76 this.2.1)]) (by rw [hsg, if_neg (fun z => by have := z.1; simp only [pcc, Bool.and_eq_true, decide_eq_true_eq, Bool.not_eq_true'] at this; exact q76 this.2.1)])
                  · have q76 : fo b = b := by
                      rcases h60 b (by omega) with ⟨w, -⟩ | ⟨-, a, a1, a2, -⟩
                      · exact w
                      · rw [a2, ← nI_0, nI_leI (by omega) (by omega)] at h76; omega
                    refine G_iload_n F dX8_placesChains_79 rfl ?_
                    refine G_iload F dX8_placesChains_80 rfl ?_
                    refine G_ishr F dX8_placesChains_82 ?_
                    rw [nI_sh (by omega)]
                    refine G_iconst (v := 1) F dX8_placesChains_83 rfl ?_
                    refine G_iand F dX8_placesChains_84 ?_
                    refine G_iconst (v := 1) F dX8_placesChains_85 rfl ?_
                    refine G_icmp_ne (tgt := 92) F dX8_placesChains_86 (by decide) (fun h86 => ?_) (fun h86 => ?_)
                    · have q86 : (pch N ho fo bh (M 40) (M 41) (M 44) (M 45) (M 46) k1).1 b = false := by
                        rw [← hS b (by omega), bt_false]
                        rcases and1 (S >>> nI b) with z | z
                        · exact z
                        · exact absurd z h86
                      refine G_aload_n F dX8_placesChains_92 rfl ?_
                      refine G_iload F dX8_placesChains_93 rfl ?_
                      refine G_iload_n F dX8_placesChains_95 rfl ?_
                      refine G_vI F mv_X8_235 dX8_placesChains_96 (t_pull hl ad sw tl M' (N := N) (c := b) (p := hcn (pch N ho fo bh (M 40) (M 41) (M 44) (M 45) (M 46) k1).1 N) (pl := (pch N ho fo bh (M 40) (M 41) (M 44) (M 45) (M 46) k1).1) hN16 (by rw [g1 39 (by decide), g1 40 (by decide), g1 41 (by decide)]; exact hv) hc (by rw [g1 59 (by decide)]; exact hbh) (by omega) q76 (Nat.le_trans (hcn_le N) hN16) (by rw [g2]; exact hen)) rfl rfl rfl rfl (Nat.le_of_ble_eq_true rfl) ⟨Nat.le_of_ble_eq_true rfl, Nat.le_of_ble_eq_true rfl, Nat.le_of_ble_eq_true rfl, Nat.le_of_ble_eq_true rfl⟩ (fun r96 M96 h96 => ?_)
                      rw [h96.1, h96.2, g1 40 (by decide), g1 41 (by decide), g1 44 (by decide), g1 45 (by decide)]
                      refine G_istore F dX8_placesChains_99 rfl rfl (Nat.le_of_ble_eq_true rfl) ?_
                      simp only [List.set_cons_zero, List.set_cons_succ]
                      refine G_iload F dX8_placesChains_101 rfl ?_
                      refine G_iload F dX8_placesChains_103 rfl ?_
                      refine G_icmp_le (tgt := 115) F dX8_placesChains_105 (by decide) (fun h105 => ?_) (fun h105 => ?_)
                      · have q105 : ¬ smx (pul N fo (M 40) (M 41) (M 44) (M 45) (pch N ho fo bh (M 40) (M 41) (M 44) (M 45) (M 46) k1).1) (sgc (pcc ho fo (pch N ho fo bh (M 40) (M 41) (M 44) (M 45) (M 46) k1).1) (pul N fo (M 40) (M 41) (M 44) (M 45) (pch N ho fo bh (M 40) (M 41) (M 44) (M 45) (M 46) k1).1) b) < (pul N fo (M 40) (M 41) (M 44) (M 45) (pch N ho fo bh (M 40) (M 41) (M 44) (M 45) (M 46) k1).1) b := by
                          rw [Int32.le_iff_toInt_le] at h105
                          rw [Int32.lt_iff_toInt_lt]
                          omega
                        rw [smx_lt (hpos _ _)] at q105
                        refine G_drop F 6 ?_
                        simp only [List.set_cons_zero, List.set_cons_succ]
                        exact t115 _ _ (by rw [hsg, if_neg (fun z => q105 z.2)]) (by rw [hsg, if_neg (fun z => q105 z.2)])
                      · have q105 : smx (pul N fo (M 40) (M 41) (M 44) (M 45) (pch N ho fo bh (M 40) (M 41) (M 44) (M 45) (M 46) k1).1) (sgc (pcc ho fo (pch N ho fo bh (M 40) (M 41) (M 44) (M 45) (M 46) k1).1) (pul N fo (M 40) (M 41) (M 44) (M 45) (pch N ho fo bh (M 40) (M 41) (M 44) (M 45) (M 46) k1).1) b) < (pul N fo (M 40) (M 41) (M 44) (M 45) (pch N ho fo bh (M 40) (M 41) (M 44) (M 45) (M 46) k1).1) b := by
                          rw [Int32.le_iff_toInt_le] at h105
                          rw [Int32.lt_iff_toInt_lt]
                          omega
                        rw [smx_lt (hpos _ _)] at q105
                        refine G_iload F dX8_placesChains_108 rfl ?_
                        refine G_istore_n F 3 dX8_placesChains_110 rfl rfl rfl (Nat.le_of_ble_eq_true rfl) ?_
                        simp only [List.set_cons_zero, List.set_cons_succ]
                        refine G_iload F dX8_placesChains_111 rfl ?_
                        refine G_istore F dX8_placesChains_113 rfl rfl (Nat.le_of_ble_eq_true rfl) ?_
                        simp only [List.set_cons_zero, List.set_cons_succ]
                        refine G_drop F 6 ?_
                        simp only [List.set_cons_zero, List.set_cons_succ]
                        exact t115 _ _ (by rw [hsg, if_pos ⟨by simp only [pcc, Bool.and_eq_true, decide_eq_true_eq, Bool.not_eq_true']; exact ⟨q66, q76, q86⟩, q105⟩]) (by rw [hsg, if_pos ⟨by simp only [pcc, Bool.and_eq_true, decide_eq_true_eq, Bool.not_eq_true']; exact ⟨q66, q76, q86⟩, q105⟩]; unfold smx; rw [if_neg (nI_m1 (by omega)), nI_clamp (by omega)])
                    · have q86 : (pch N ho fo bh (M 40) (M 41) (M 44) (M 45) (M 46) k1).1 b = true := by rw [← hS b (by omega)]; exact bt_true.mpr h86
                      refine G_goto (tgt := 115) F dX8_placesChains_89 (by decide) ?_
                      exact t115 _ _ (by rw [hsg, if_neg (fun z => by have := z.1; simp only [pcc, Bool.and_eq_true, decide_eq_true_eq, Bool.not_eq_true'] at this; rw [q86] at this; exact Bool.noConfusion this.2.2)]) (by rw [hsg, if_neg (fun z => by have := z.1; simp only [pcc, Bool.and_eq_true, decide_eq_true_eq, Bool.not_eq_true'] at this; rw [q86] at this; exact Bool.noConfusion this.2.2)])
          refine G_iconst (v := -1) F dX8_placesChains_43 rfl ?_
          refine G_istore_n F 3 dX8_placesChains_44 rfl rfl rfl (Nat.le_of_ble_eq_true rfl) ?_
          simp only [List.set_cons_zero, List.set_cons_succ]
          refine G_iconst (v := -1) F dX8_placesChains_45 rfl ?_
          refine G_istore F dX8_placesChains_46 rfl rfl (Nat.le_of_ble_eq_true rfl) ?_
          simp only [List.set_cons_zero, List.set_cons_succ]
          refine G_iconst (v := nI 0) F dX8_placesChains_48 (by decide) ?_
          refine G_istore F dX8_placesChains_49 rfl rfl (Nat.le_of_ble_eq_true rfl) ?_
          simp only [List.set_cons_zero, List.set_cons_succ]
          exact lpB N 0 rfl (by omega)
        have lpS : ∀ (k : Nat) (j : Nat) (S : Int32), k = hcn (pch N ho fo bh (M 40) (M 41) (M 44) (M 45) (M 46) k1).1 N - j → j ≤ hcn (pch N ho fo bh (M 40) (M 41) (M 44) (M 45) (M 46) k1).1 N → (∀ x, x < N → bt S x = ((pch N ho fo bh (M 40) (M 41) (M 44) (M 45) (M 46) k1).1 x && decide (ps x < j))) → GG X ad 21 [some (.ref (ad 37)), some (.int (nI (hcn (pch N ho fo bh (M 40) (M 41) (M 44) (M 45) (M 46) k1).1 N))), some (.int S), some (.int (nI j)), none, none, none] [] 0 0 (c_C sw ++ (m_C ++ tl)) M' := by
          intro k
          induction k using Nat.strongRecOn with
          | _ k ih2 =>
            intro j S hk2 hj hS
            refine G_iload_n F dX8_placesChains_21 rfl ?_
            refine G_iload_n F dX8_placesChains_22 rfl ?_
            refine G_icmp_ge (tgt := 43) F dX8_placesChains_23 (by decide) (fun h23 => ?_) (fun h23 => ?_)
            · rw [nI_leI (by omega) (by omega)] at h23
              have hjp : j = hcn (pch N ho fo bh (M 40) (M 41) (M 44) (M 45) (M 46) k1).1 N := by omega
              exact t43 _ _ (fun x hx => by
                rw [hS x hx]
                cases hp : (pch N ho fo bh (M 40) (M 41) (M 44) (M 45) (M 46) k1).1 x
                · simp
                · have hx2 := he2 x hx hp
                  simp [hjp, hx2.1])
            · rw [nI_leI (by omega) (by omega)] at h23
              refine G_iload_n F dX8_placesChains_26 rfl ?_
              refine G_iconst (v := 1) F dX8_placesChains_27 rfl ?_
              refine G_aload_n F dX8_placesChains_28 rfl ?_
              refine G_getr F fl_X8_41 dX8_placesChains_29 rfl rfl ?_
              refine G_iload_n F dX8_placesChains_32 rfl ?_
              refine G_ialdN F dX8_placesChains_33 rfl (by omega) (by decide) ?_
              rw [g2, (he1 j (by omega)).1]
              refine G_ishl F dX8_placesChains_34 ?_
              refine G_ior F dX8_placesChains_35 ?_
              refine G_istore_n F 2 dX8_placesChains_36 rfl rfl rfl (Nat.le_of_ble_eq_true rfl) ?_
              simp only [List.set_cons_zero, List.set_cons_succ]
              refine G_iinc F (1) dX8_placesChains_37 rfl rfl rfl rfl ?_
              simp only [List.set_cons_zero, List.set_cons_succ, nI_1]
              refine G_goto (tgt := 21) F dX8_placesChains_40 (by decide) ?_
              refine ih2 (hcn (pch N ho fo bh (M 40) (M 41) (M 44) (M 45) (M 46) k1).1 N - (j + 1)) (by omega) (j + 1) _ rfl (by omega) (fun x hx => ?_)
              have hj := he1 j (by omega)
              rw [bt_or (by omega), hS x hx, bt_sh (by omega) (by omega)]
              by_cases e : x = rw j
              · rw [e, hj.2.2.1, hj.2.2.2]; simp
              · cases hp : (pch N ho fo bh (M 40) (M 41) (M 44) (M 45) (M 46) k1).1 x
                · simp [e]
                · have hx2 := he2 x hx hp
                  have : ps x ≠ j := fun z => e (by rw [← z, hx2.2])
                  have e3 : decide (ps x < j + 1) = decide (ps x < j) := by simp only [decide_eq_decide]; omega
                  rw [e3]; simp [e]
        refine G_iconst (v := 0) F dX8_placesChains_17 rfl ?_
        refine G_istore_n F 2 dX8_placesChains_18 rfl rfl rfl (Nat.le_of_ble_eq_true rfl) ?_
        simp only [List.set_cons_zero, List.set_cons_succ]
        refine G_iconst (v := nI 0) F dX8_placesChains_19 (by decide) ?_
        refine G_istore_n F 3 dX8_placesChains_20 rfl rfl rfl (Nat.le_of_ble_eq_true rfl) ?_
        simp only [List.set_cons_zero, List.set_cons_succ]
        exact lpS _ 0 0 rfl (by omega) (fun x hx => by rw [bt_zero]; simp)
  have hA := t_append (Z := Z) hl ad sw tl M (N := N) (c := 0) (pl := fun _ => false) hN16 hc hbh h0 hf0 (fun _ _ _ => rfl)
  rw [hcn_false] at hA
  have hA0 := plr_enm0 (pl := fun _ => false) (c := 0) (row := M 46) hN16 hc (fun _ _ _ => rfl) h0 hf0 (by rw [hcn_false]; exact enm_0)
  rw [hcn_false] at hA0
  refine G_aload_n F dX8_placesChains_0 rfl ?_
  refine G_iconst (v := nI 0) F dX8_placesChains_1 (by decide) ?_
  refine G_iconst (v := nI 0) F dX8_placesChains_2 (by decide) ?_
  refine G_vI F mv_X8_229 dX8_placesChains_3 (hA) rfl rfl rfl rfl (Nat.le_of_ble_eq_true rfl) ⟨Nat.le_of_ble_eq_true rfl, Nat.le_of_ble_eq_true rfl, Nat.le_of_ble_eq_true rfl, Nat.le_of_ble_eq_true rfl⟩ (fun r3 M3 h3 => ?_)
  obtain ⟨a1, a2, a3⟩ := h3
  rw [a1, hA0.2]
  refine G_istore_n F 1 dX8_placesChains_6 rfl rfl rfl (Nat.le_of_ble_eq_true rfl) ?_
  simp only [List.set_cons_zero, List.set_cons_succ]
  refine G_iconst (v := 0) F dX8_placesChains_7 rfl ?_
  refine G_istore_n F 2 dX8_placesChains_8 rfl rfl rfl (Nat.le_of_ble_eq_true rfl) ?_
  simp only [List.set_cons_zero, List.set_cons_succ]
  refine G_drop F 2 ?_
  simp only [List.set_cons_zero, List.set_cons_succ]
  exact lp 17 0 M3 rfl (by omega) a2 a3
