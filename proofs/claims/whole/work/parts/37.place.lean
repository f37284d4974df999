/-! ARRANGER: placing the chains -/
/-- the candidate that is pulled most, the lowest of equals; -1 none -/
def sgc (cd : Nat → Bool) (pu : Nat → Int32) : Nat → Int32
  | 0 => -1
  | n + 1 => if cd n = true ∧ (sgc cd pu n = -1 ∨ pu (sgc cd pu n).toNatClampNeg < pu n) then nI n else sgc cd pu n
theorem sgc_in {cd : Nat → Bool} {pu : Nat → Int32} : ∀ n, sgc cd pu n = -1 ∨ ∃ x, x < n ∧ sgc cd pu n = nI x ∧ cd x = true := by
  intro n
  induction n with
  | zero => exact Or.inl rfl
  | succ n ih =>
    simp only [sgc]
    split
    · rename_i h
      exact Or.inr ⟨n, by omega, rfl, h.1⟩
    · rcases ih with h | ⟨x, h1, h2, h3⟩
      · exact Or.inl h
      · exact Or.inr ⟨x, by omega, h2, h3⟩
theorem sgc_congr {cd cd' : Nat → Bool} {pu pu' : Nat → Int32} : ∀ {n : Nat}, n ≤ 16 → (∀ b, b < n → cd b = cd' b ∧ pu b = pu' b) → sgc cd pu n = sgc cd' pu' n := by
  intro n
  induction n with
  | zero => intro _ _; rfl
  | succ n ih =>
    intro hn h
    have h1 := ih (by omega) (fun b hb => h b (by omega))
    simp only [sgc]
    rw [← h1, (h n (by omega)).1, (h n (by omega)).2]
    rcases sgc_in (cd := cd) (pu := pu) n with e | ⟨x, e1, e2, e3⟩
    · rw [e]; simp
    · rw [e2, nI_clamp (by omega), (h x (by omega)).2]
theorem sgc_some {cd : Nat → Bool} {pu : Nat → Int32} {x : Nat} : ∀ {n : Nat}, n ≤ 16 → x < n → cd x = true → sgc cd pu n ≠ -1 := by
  intro n
  induction n with
  | zero => intro _ h; omega
  | succ n ih =>
    intro hn hx hc
    simp only [sgc]
    split
    · exact nI_m1 (by omega)
    · rename_i h
      by_cases e : x = n
      · subst e
        intro q
        exact h ⟨hc, Or.inl q⟩
      · exact ih (by omega) (by omega) hc
section Pch
variable (N : Nat) (ho : Nat → Bool) (fo : Nat → Nat) (bh f s w1 w2 r0 : Nat → Int32)
/-- whether a block begins an unplaced hot chain -/
def pcc (pl : Nat → Bool) (b : Nat) : Bool := ho b && (decide (fo b = b) && !pl b)
/-- the chain that comes next -/
def psg (pl : Nat → Bool) : Int32 := sgc (pcc ho fo pl) (pul N fo f s w1 w2 pl) N
/-- the placed blocks and the row behind k chains more than the first -/
def pch : Nat → (Nat → Bool) × (Nat → Int32)
  | 0 => (fun x => false || decide (fo x = 0), (plr bh 17 (nI 0) (r0, 0)).1)
  | k + 1 => if hcn (pch k).1 N < hcn ho N then (fun x => (pch k).1 x || decide (fo x = (psg N ho fo f s w1 w2 (pch k).1).toNatClampNeg), (plr bh 17 (psg N ho fo f s w1 w2 (pch k).1) ((pch k).2, hcn (pch k).1 N)).1) else pch k
end Pch
theorem hcn_false : ∀ N, hcn (fun _ => false) N = 0 := by
  intro N
  induction N with
  | zero => rfl
  | succ n ih => simp [hcn, ih]
theorem hcn_lt {p q : Nat → Bool} : ∀ {n : Nat}, hcn p n < hcn q n → ∃ x, x < n ∧ p x = false ∧ q x = true := by
  intro n
  induction n with
  | zero => intro h; exact absurd h (by simp [hcn])
  | succ n ih =>
    intro h
    by_cases e : p n = false ∧ q n = true
    · exact ⟨n, by omega, e.1, e.2⟩
    · have : hcn p n < hcn q n := by
        simp only [hcn] at h
        cases hp : p n <;> cases hq : q n <;> simp_all <;> omega
      obtain ⟨x, h1, h2, h3⟩ := ih this
      exact ⟨x, by omega, h2, h3⟩
section PchOk
variable {N : Nat} {ho : Nat → Bool} {fo rk : Nat → Nat} {bh f s w1 w2 r0 : Nat → Int32}
theorem pch_fix {k : Nat} (h : ¬ hcn (pch N ho fo bh f s w1 w2 r0 k).1 N < hcn ho N) : ∀ j, pch N ho fo bh f s w1 w2 r0 (k + j) = pch N ho fo bh f s w1 w2 r0 k := by
  intro j
  induction j with
  | zero => rfl
  | succ j ih =>
    show (if hcn (pch N ho fo bh f s w1 w2 r0 (k + j)).1 N < hcn ho N then _ else pch N ho fo bh f s w1 w2 r0 (k + j)) = _
    rw [ih, if_neg h]
theorem psg_spec (hN : N ≤ 16) (hc : cgd N ho bh fo rk) {pl : Nat → Bool} (hcl : ∀ x, x < N → pl (fo x) = pl x) (h : hcn pl N < hcn ho N) : ∃ c, c < N ∧ psg N ho fo f s w1 w2 pl = nI c ∧ ho c = true ∧ fo c = c ∧ pl c = false := by
  obtain ⟨x, h1, h2, h3⟩ := hcn_lt h
  have hx := hc.1 x h1
  have hne : psg N ho fo f s w1 w2 pl ≠ -1 := sgc_some hN hx.1 (by simp [pcc, hx.2.2.1, hcl x h1, h2, hx.2.2.2.2, h3])
  rcases sgc_in (cd := pcc ho fo pl) (pu := pul N fo f s w1 w2 pl) N with e | ⟨c, e1, e2, e3⟩
  · exact absurd e hne
  · simp only [pcc, Bool.and_eq_true, decide_eq_true_eq, Bool.not_eq_true'] at e3
    exact ⟨c, e1, e2, e3.1, e3.2.1, e3.2.2⟩
theorem pch_ok (hN : N ≤ 16) (h0 : 0 < N) (hc : cgd N ho bh fo rk) (ho0 : ho 0 = true) (hf0 : fo 0 = 0) : ∀ k, (∀ x, x < N → (pch N ho fo bh f s w1 w2 r0 k).1 x = true → ho x = true) ∧ (∀ x, x < N → (pch N ho fo bh f s w1 w2 r0 k).1 (fo x) = (pch N ho fo bh f s w1 w2 r0 k).1 x) := by
  intro k
  induction k with
  | zero =>
    refine ⟨fun x hx h => ?_, fun x hx => ?_⟩
    · simp only [pch, Bool.false_or, decide_eq_true_eq] at h
      rw [← (hc.1 x hx).2.2.2.2, h]; exact ho0
    · simp only [pch, (hc.1 x hx).2.2.1]
  | succ k ih =>
    by_cases h : hcn (pch N ho fo bh f s w1 w2 r0 k).1 N < hcn ho N
    · obtain ⟨c, c1, c2, c3, c4, c5⟩ := psg_spec (f := f) (s := s) (w1 := w1) (w2 := w2) hN hc ih.2 h
      simp only [pch, if_pos h]
      rw [c2, nI_clamp (by omega)]
      refine ⟨fun x hx q => ?_, fun x hx => ?_⟩
      · simp only [Bool.or_eq_true, decide_eq_true_eq] at q
        rcases q with q | q
        · exact ih.1 x hx q
        · rw [← (hc.1 x hx).2.2.2.2, q]; exact c3
      · simp only [(hc.1 x hx).2.2.1, ih.2 x hx]
    · simp only [pch, if_neg h]
      exact ih
end PchOk
set_option maxRecDepth 20000 in
theorem s_strongestChain {l : Launch} {Z : fx_Z} (hl : l.stackTraces = false) (ad : Nat → Nat) (sw : Bool) (tl : List fx_Sh) (M : fx_M) {N : Nat} (ho pl : Nat → Bool) (fo : Nat → Nat) (hN : M 1 8 = nI N) (hN16 : N ≤ 16) (hch : ∀ b, b < N → M 23 b = nI (fo b) ∧ fo b < N) (e21 : ∀ x, x < N → M 21 x = (if ho x then 1 else 0)) (e25 : ∀ x, x < N → M 25 x = (if pl x then 1 else 0)) : CI l Z yX0_strongestChain (.code yX0_strongestChain cX0_strongestChain 4 (some .int)) 0 [.ref (ad 20)] ad (c_C sw ++ tl) M (fun r m => r = sgc (pcc ho fo pl) (M 24) N ∧ m = M) := by
  refine CT_of (ret := (some .int)) (lv0 := [some (.ref (ad 20)), none, none, none]) (by decide +kernel) hl (by simp [Value.category]) (Nat.le_of_ble_eq_true rfl) rfl ?_
  intro X F Rt _
  have lp : ∀ (k : Nat) (i : Nat), k = N - i → i ≤ N → GG X ad 4 [some (.ref (ad 20)), some (.int (sgc (pcc ho fo pl) (M 24) i)), some (.int (nI i)), none] [] 0 0 (c_C sw ++ tl) M := by
    intro k
    induction k using Nat.strongRecOn with
    | _ k ih =>
      intro i hk hi
      refine G_iload_n F dX0_strongestChain_4 rfl ?_
      refine G_aload_n F dX0_strongestChain_5 rfl ?_
      refine G_getr F fl_X0_31 dX0_strongestChain_6 rfl rfl ?_
      refine G_geti F fl_X0_43 dX0_strongestChain_9 rfl rfl ?_
      rw [hN]
      refine G_icmp_ge (tgt := 81) F dX0_strongestChain_12 (by decide) (fun h12 => ?_) (fun h12 => ?_)
      · rw [nI_leI (by omega) (by omega)] at h12
        have hiN : i = N := by omega
        subst hiN
        refine G_iload_n F dX0_strongestChain_81 rfl ?_
        refine G_iret F Rt dX0_strongestChain_82 (rfl) ⟨rfl, rfl, _, rfl, ?_⟩ (Nat.le_refl _) (Nat.le_refl _)
        exact ⟨rfl, rfl⟩
      · rw [nI_leI (by omega) (by omega)] at h12
        have hnext : ∀ v : Int32, v = sgc (pcc ho fo pl) (M 24) (i + 1) → GG X ad 75 [some (.ref (ad 20)), some (.int v), some (.int (nI i)), none] [] 0 0 (c_C sw ++ tl) M := by
          intro v hv
          refine G_iinc F (1) dX0_strongestChain_75 rfl rfl rfl rfl ?_
          simp only [List.set_cons_zero, List.set_cons_succ, nI_1]
          refine G_goto (tgt := 4) F dX0_strongestChain_78 (by decide) ?_
          rw [hv]
          exact ih (N - (i + 1)) (by omega) (i + 1) rfl (by omega)
        have t48b : (pcc ho fo pl) i = false → GG X ad 48 [some (.ref (ad 20)), some (.int (sgc (pcc ho fo pl) (M 24) i)), some (.int (nI i)), none] [.int 0] 0 0 (c_C sw ++ tl) M := by
          intro hv
          refine G_istore_n F 3 dX0_strongestChain_48 rfl rfl rfl (Nat.le_of_ble_eq_true rfl) ?_
          simp only [List.set_cons_zero, List.set_cons_succ]
          refine G_iload_n F dX0_strongestChain_49 rfl ?_
          refine G_if_eq (tgt := 75) F dX0_strongestChain_50 (by decide) (fun h50 => ?_) (fun h50 => ?_)
          · skip
            refine G_drop F 3 ?_
            simp only [List.set_cons_zero, List.set_cons_succ]
            exact hnext _ (by
              simp only [sgc, hv, Bool.false_eq_true, false_and, if_false, true_and])
          · exact absurd rfl h50 --stop
        have t48a : (pcc ho fo pl) i = true → GG X ad 48 [some (.ref (ad 20)), some (.int (sgc (pcc ho fo pl) (M 24) i)), some (.int (nI i)), none] [.int 1] 0 0 (c_C sw ++ tl) M := by
          intro hv
          refine G_istore_n F 3 dX0_strongestChain_48 rfl rfl rfl (Nat.le_of_ble_eq_true rfl) ?_
          simp only [List.set_cons_zero, List.set_cons_succ]
          refine G_iload_n F dX0_strongestChain_49 rfl ?_
          refine G_if_eq (tgt := 75) F dX0_strongestChain_50 (by decide) (fun h50 => ?_) (fun h50 => ?_)
          · exact absurd h50 (by decide) --stop
          · skip
            refine G_iload_n F dX0_strongestChain_53 rfl ?_
            refine G_iconst (v := -1) F dX0_strongestChain_54 rfl ?_
            refine G_icmp_eq (tgt := 73) F dX0_strongestChain_55 (by decide) (fun h55 => ?_) (fun h55 => ?_)
            · skip
              refine G_iload_n F dX0_strongestChain_73 rfl ?_
              refine G_istore_n F 1 dX0_strongestChain_74 rfl rfl rfl (Nat.le_of_ble_eq_true rfl) ?_
              simp only [List.set_cons_zero, List.set_cons_succ]
              refine G_drop F 3 ?_
              simp only [List.set_cons_zero, List.set_cons_succ]
              exact hnext _ (by
                simp only [sgc, hv, Bool.false_eq_true, false_and, if_false, true_and]
                rw [if_pos (Or.inl h55)])
            · obtain ⟨x, hx1, hx2, hx3⟩ := (sgc_in (cd := (pcc ho fo pl)) (pu := M 24) i).resolve_left h55
              refine G_aload_n F dX0_strongestChain_58 rfl ?_
              refine G_getr F fl_X0_22 dX0_strongestChain_59 rfl rfl ?_
              refine G_iload_n F dX0_strongestChain_62 rfl ?_
              refine G_ialdN F dX0_strongestChain_63 rfl (by omega) (by decide) ?_
              refine G_aload_n F dX0_strongestChain_64 rfl ?_
              refine G_getr F fl_X0_22 dX0_strongestChain_65 rfl rfl ?_
              refine G_iload_n F dX0_strongestChain_68 rfl ?_
              refine G_iald F dX0_strongestChain_69 rfl (by rw [hx2]; exact vp_in_nI (by omega) (by decide)) ?_
              refine G_icmp_le (tgt := 75) F dX0_strongestChain_70 (by decide) (fun h70 => ?_) (fun h70 => ?_)
              · skip
                refine G_drop F 3 ?_
                simp only [List.set_cons_zero, List.set_cons_succ]
                exact hnext _ (by
                  simp only [sgc, hv, Bool.false_eq_true, false_and, if_false, true_and]
                  rw [if_neg (fun q => q.elim h55 (fun q => by simp only [Int32.lt_iff_toInt_lt, Int32.le_iff_toInt_le] at q h70; omega))])
              · skip
                refine G_iload_n F dX0_strongestChain_73 rfl ?_
                refine G_istore_n F 1 dX0_strongestChain_74 rfl rfl rfl (Nat.le_of_ble_eq_true rfl) ?_
                simp only [List.set_cons_zero, List.set_cons_succ]
                refine G_drop F 3 ?_
                simp only [List.set_cons_zero, List.set_cons_succ]
                exact hnext _ (by
                  simp only [sgc, hv, Bool.false_eq_true, false_and, if_false, true_and]
                  rw [if_pos (Or.inr (by simp only [Int32.lt_iff_toInt_lt, Int32.le_iff_toInt_le] at h70 ⊢; omega))])
        refine G_aload_n F dX0_strongestChain_15 rfl ?_
        refine G_getr F fl_X0_9 dX0_strongestChain_16 rfl rfl ?_
        refine G_iload_n F dX0_strongestChain_19 rfl ?_
        refine G_zaldN F dX0_strongestChain_20 rfl (by omega) (by decide) ?_
        refine G_if_eq (tgt := 47) F dX0_strongestChain_21 (by decide) (fun h21 => ?_) (fun h21 => ?_)
        · have b21 : ho i = false := by rw [e21 i (by omega)] at h21; simpa using h21
          refine G_iconst (v := 0) F dX0_strongestChain_47 rfl ?_
          exact t48b (by simp [pcc, b21])
        · have b21 : ho i = true := by rw [e21 i (by omega)] at h21; simpa using h21
          refine G_aload_n F dX0_strongestChain_24 rfl ?_
          refine G_getr F fl_X0_19 dX0_strongestChain_25 rfl rfl ?_
          refine G_iload_n F dX0_strongestChain_28 rfl ?_
          refine G_ialdN F dX0_strongestChain_29 rfl (by omega) (by decide) ?_
          refine G_iload_n F dX0_strongestChain_30 rfl ?_
          refine G_icmp_ne (tgt := 47) F dX0_strongestChain_31 (by decide) (fun h31 => ?_) (fun h31 => ?_)
          · have b31 : ¬ fo i = i := fun q => by rw [(hch i (by omega)).1, q] at h31; exact h31 rfl
            refine G_iconst (v := 0) F dX0_strongestChain_47 rfl ?_
            exact t48b (by simp [pcc, b31])
          · have b31 : fo i = i := by
              have q := h31
              rw [(hch i (by omega)).1] at q
              have q2 := (hch i (by omega)).2
              exact (nI_eq (by omega) (by omega)).mp q
            refine G_aload_n F dX0_strongestChain_34 rfl ?_
            refine G_getr F fl_X0_25 dX0_strongestChain_35 rfl rfl ?_
            refine G_iload_n F dX0_strongestChain_38 rfl ?_
            refine G_zaldN F dX0_strongestChain_39 rfl (by omega) (by decide) ?_
            refine G_if_ne (tgt := 47) F dX0_strongestChain_40 (by decide) (fun h40 => ?_) (fun h40 => ?_)
            · have b40 : pl i = true := by rw [e25 i (by omega)] at h40; simpa using h40
              refine G_iconst (v := 0) F dX0_strongestChain_47 rfl ?_
              exact t48b (by simp [pcc, b40])
            · have b40 : pl i = false := by rw [e25 i (by omega)] at h40; simpa using h40
              refine G_iconst (v := 1) F dX0_strongestChain_43 rfl ?_
              refine G_goto (tgt := 48) F dX0_strongestChain_44 (by decide) ?_
              exact t48a (by simp [pcc, b21, b31, b40])
  refine G_iconst (v := -1) F dX0_strongestChain_0 rfl ?_
  refine G_istore_n F 1 dX0_strongestChain_1 rfl rfl rfl (Nat.le_of_ble_eq_true rfl) ?_
  simp only [List.set_cons_zero, List.set_cons_succ]
  refine G_iconst (v := 0) F dX0_strongestChain_2 rfl ?_
  refine G_istore_n F 2 dX0_strongestChain_3 rfl rfl rfl (Nat.le_of_ble_eq_true rfl) ?_
  simp only [List.set_cons_zero, List.set_cons_succ]
  exact lp N 0 rfl (by omega)
theorem sm_zero : ∀ N, sm (fun _ => 0) N = 0 := by
  intro N
  induction N with
  | zero => rfl
  | succ n ih => simp [sm, ih]
set_option maxRecDepth 20000 in
theorem s_placeChains {l : Launch} {Z : fx_Z} (hl : l.stackTraces = false) (ad : Nat → Nat) (sw : Bool) (tl : List fx_Sh) (M : fx_M) {N : Nat} (ho : Nat → Bool) (fo rk : Nat → Nat) (hN : M 1 8 = nI N) (hN16 : N ≤ 16) (hh : M 20 3 = nI (hcn ho N)) (e21 : ∀ x, x < N → M 21 x = (if ho x then 1 else 0)) (hch : ∀ b, b < N → M 23 b = nI (fo b) ∧ fo b < N) (hc : cgd N ho (M 22) fo rk) (h0 : 0 < N) (ho0 : ho 0 = true) (hf0 : fo 0 = 0) : CV l Z yX0_placeChains (.code yX0_placeChains cX0_placeChains 3 none) 3 [.ref (ad 20)] ad (c_C sw ++ tl) M (fun m => fr [11, 24, 25] M m ∧ m 11 = (pch N ho fo (M 22) (M 4) (M 5) (M 8) (M 9) (M 11) 16).2) := by
  refine CT_of (ret := none) (lv0 := [some (.ref (ad 20)), none, none]) (by decide +kernel) hl (by simp [Value.category]) (Nat.le_of_ble_eq_true rfl) rfl ?_
  intro X F Rt _
  have lp1 : ∀ (k : Nat) (i : Nat) (M' : fx_M), k = N - i → i ≤ N → fr [24, 25] M M' → (∀ b, b < i → M' 24 b = 0 ∧ M' 25 b = 0) → (∀ m : fx_M, fr [24, 25] M m → (∀ b, b < N → m 24 b = 0 ∧ m 25 b = 0) → GG X ad 33 [some (.ref (ad 20)), none, none] [] 0 0 (c_C sw ++ tl) m) → GG X ad 2 [some (.ref (ad 20)), some (.int (nI i)), none] [] 0 0 (c_C sw ++ tl) M' := by
    intro k
    induction k using Nat.strongRecOn with
    | _ k ih =>
      intro i M' hk hi h1 h2 hex
      have hN1 : M' 1 8 = nI N := by rw [h1 1 (by decide)]; exact hN
      refine G_iload_n F dX0_placeChains_2 rfl ?_
      refine G_aload_n F dX0_placeChains_3 rfl ?_
      refine G_getr F fl_X0_31 dX0_placeChains_4 rfl rfl ?_
      refine G_geti F fl_X0_43 dX0_placeChains_7 rfl rfl ?_
      rw [hN1]
      refine G_icmp_ge (tgt := 33) F dX0_placeChains_10 (by decide) (fun h10 => ?_) (fun h10 => ?_)
      · rw [nI_leI (by omega) (by omega)] at h10
        have hiN : i = N := by omega
        subst hiN
        refine G_drop F 1 ?_
        simp only [List.set_cons_zero, List.set_cons_succ]
        exact hex M' h1 h2
      · rw [nI_leI (by omega) (by omega)] at h10
        refine G_aload_n F dX0_placeChains_13 rfl ?_
        refine G_getr F fl_X0_22 dX0_placeChains_14 rfl rfl ?_
        refine G_iload_n F dX0_placeChains_17 rfl ?_
        refine G_iconst (v := 0) F dX0_placeChains_18 rfl ?_
        refine G_iastN F dX0_placeChains_19 rfl (by omega) (by decide) ?_
        refine G_aload_n F dX0_placeChains_20 rfl ?_
        refine G_getr F fl_X0_25 dX0_placeChains_21 rfl rfl ?_
        refine G_iload_n F dX0_placeChains_24 rfl ?_
        refine G_iconst (v := 0) F dX0_placeChains_25 rfl ?_
        refine G_zastN F dX0_placeChains_26 rfl (by omega) (by decide) (by first | exact Or.inl rfl | exact Or.inr rfl) ?_
        refine G_iinc F (1) dX0_placeChains_27 rfl rfl rfl rfl ?_
        simp only [List.set_cons_zero, List.set_cons_succ, nI_1]
        refine G_goto (tgt := 2) F dX0_placeChains_30 (by decide) ?_
        exact ih (N - (i + 1)) (by omega) (i + 1) _ rfl (by omega) ((h1.u (by decide)).u (by decide)) (fun b hb => by
          by_cases e : b = i
          · subst e; simp [fx_u_at]
          · have := h2 b (by omega); simp [fx_u_at, e, this]) hex
  have lp2 : ∀ (k : Nat) (r : Nat) (M' : fx_M), k = 16 - r → r ≤ 16 → fr [11, 24, 25] M M' → M' 11 = (pch N ho fo (M 22) (M 4) (M 5) (M 8) (M 9) (M 11) r).2 → (∀ x, x < N → M' 25 x = (if (pch N ho fo (M 22) (M 4) (M 5) (M 8) (M 9) (M 11) r).1 x then 1 else 0)) → (∀ h, h < N → M' 24 h = (pul N fo (M 4) (M 5) (M 8) (M 9) (pch N ho fo (M 22) (M 4) (M 5) (M 8) (M 9) (M 11) r).1 h)) → GG X ad 42 [some (.ref (ad 20)), some (.int (nI (hcn (pch N ho fo (M 22) (M 4) (M 5) (M 8) (M 9) (M 11) r).1 N))), some (.int (nI r))] [] 0 0 (c_C sw ++ tl) M' := by
    intro k
    induction k using Nat.strongRecOn with
    | _ k ih =>
      intro r M' hk hi g1 g2 g3 g4
      have hN1 : M' 1 8 = nI N := by rw [g1 1 (by decide)]; exact hN
      have hh1 : M' 20 3 = nI (hcn ho N) := by rw [g1 20 (by decide)]; exact hh
      have hle0 := hcn_le (ho := ho) N
      have hle1 := hcn_le (ho := (pch N ho fo (M 22) (M 4) (M 5) (M 8) (M 9) (M 11) r).1) N
      have hok := pch_ok (f := M 4) (s := M 5) (w1 := M 8) (w2 := M 9) (r0 := M 11) hN16 h0 hc ho0 hf0 r
      refine G_iload_n F dX0_placeChains_42 rfl ?_
      refine G_bipush (v := nI 16) F dX0_placeChains_43 (by decide) ?_
      refine G_icmp_ge (tgt := 72) F dX0_placeChains_45 (by decide) (fun h45 => ?_) (fun h45 => ?_)
      · rw [nI_leI (by omega) (by omega)] at h45
        have hr : r = 16 := by omega
        subst hr
        refine G_vret F Rt dX0_placeChains_72 ⟨rfl, rfl, rfl, ?_⟩ (Nat.le_refl _) (Nat.le_refl _)
        exact ⟨g1, g2⟩
      · rw [nI_leI (by omega) (by omega)] at h45
        refine G_iload_n F dX0_placeChains_48 rfl ?_
        refine G_aload_n F dX0_placeChains_49 rfl ?_
        refine G_geti F fl_X0_39 dX0_placeChains_50 rfl rfl ?_
        rw [hh1]
        refine G_icmp_ge (tgt := 72) F dX0_placeChains_53 (by decide) (fun h53 => ?_) (fun h53 => ?_)
        · rw [nI_leI (by omega) (by omega)] at h53
          have hfix := pch_fix (N := N) (ho := ho) (fo := fo) (bh := M 22) (f := M 4) (s := M 5) (w1 := M 8) (w2 := M 9) (r0 := M 11) (k := r) (by omega) (16 - r)
          rw [show r + (16 - r) = 16 from by omega] at hfix
          refine G_vret F Rt dX0_placeChains_72 ⟨rfl, rfl, rfl, ?_⟩ (Nat.le_refl _) (Nat.le_refl _)
          exact ⟨g1, by rw [hfix]; exact g2⟩
        · rw [nI_leI (by omega) (by omega)] at h53
          obtain ⟨c, c1, c2, c3, c4, c5⟩ := psg_spec (f := M 4) (s := M 5) (w1 := M 8) (w2 := M 9) hN16 hc hok.2 (by omega)
          have hnext : pch N ho fo (M 22) (M 4) (M 5) (M 8) (M 9) (M 11) (r + 1) = (fun x => (pch N ho fo (M 22) (M 4) (M 5) (M 8) (M 9) (M 11) r).1 x || decide (fo x = c), (plr (M 22) 17 (nI c) ((pch N ho fo (M 22) (M 4) (M 5) (M 8) (M 9) (M 11) r).2, hcn (pch N ho fo (M 22) (M 4) (M 5) (M 8) (M 9) (M 11) r).1 N)).1) := by
            show (if hcn (pch N ho fo (M 22) (M 4) (M 5) (M 8) (M 9) (M 11) r).1 N < hcn ho N then _ else _) = _
            rw [if_pos (by omega), c2, nI_clamp (by omega)]
          refine G_aload_n F dX0_placeChains_56 rfl ?_
          refine G_aload_n F dX0_placeChains_57 rfl ?_
          refine G_vI F mv_X0_122 dX0_placeChains_58 (s_strongestChain hl ad sw tl M' (N := N) ho (pch N ho fo (M 22) (M 4) (M 5) (M 8) (M 9) (M 11) r).1 fo hN1 hN16 (fun b hb => by rw [g1 23 (by decide)]; exact hch b hb) (fun x hx => by rw [g1 21 (by decide)]; exact e21 x hx) g3) rfl rfl rfl rfl (Nat.le_of_ble_eq_true rfl) ⟨Nat.le_of_ble_eq_true rfl, Nat.le_of_ble_eq_true rfl, Nat.le_of_ble_eq_true rfl, Nat.le_of_ble_eq_true rfl⟩ (fun r58 M58 h58 => ?_)
          have e58 : sgc (pcc ho fo (pch N ho fo (M 22) (M 4) (M 5) (M 8) (M 9) (M 11) r).1) (M' 24) N = psg N ho fo (M 4) (M 5) (M 8) (M 9) (pch N ho fo (M 22) (M 4) (M 5) (M 8) (M 9) (M 11) r).1 := sgc_congr hN16 (fun b hb => ⟨rfl, g4 b hb⟩)
          rw [h58.1, h58.2, e58, c2]
          refine G_iload_n F dX0_placeChains_61 rfl ?_
          refine G_vI F mv_X0_119 dX0_placeChains_62 (s_placeChain hl ad sw tl M' (N := N) (c := c) ho (pch N ho fo (M 22) (M 4) (M 5) (M 8) (M 9) (M 11) r).1 fo rk hN1 hN16 hh1 (fun b hb => by rw [g1 23 (by decide)]; exact hch b hb) (by rw [g1 22 (by decide)]; exact hc) c1 c4 c3 hok.1 (fun x hx hf => by rw [← hok.2 x hx, hf]; exact c5) g3 (fun h hh => by rw [g1 4 (by decide), g1 5 (by decide), g1 8 (by decide), g1 9 (by decide)]; exact g4 h hh)) rfl rfl rfl rfl (Nat.le_of_ble_eq_true rfl) ⟨Nat.le_of_ble_eq_true rfl, Nat.le_of_ble_eq_true rfl, Nat.le_of_ble_eq_true rfl, Nat.le_of_ble_eq_true rfl⟩ (fun r62 M62 h62 => ?_)
          obtain ⟨k1, k2, k3, k4, k5, k6⟩ := h62
          rw [k1]
          rw [g1 4 (by decide), g1 5 (by decide), g1 8 (by decide), g1 9 (by decide)] at k6
          rw [g1 22 (by decide), g2] at k3
          refine G_istore_n F 1 dX0_placeChains_65 rfl rfl rfl (Nat.le_of_ble_eq_true rfl) ?_
          simp only [List.set_cons_zero, List.set_cons_succ]
          refine G_iinc F (1) dX0_placeChains_66 rfl rfl rfl rfl ?_
          simp only [List.set_cons_zero, List.set_cons_succ, nI_1]
          refine G_goto (tgt := 42) F dX0_placeChains_69 (by decide) ?_
          have eh : hcn (fun x => (pch N ho fo (M 22) (M 4) (M 5) (M 8) (M 9) (M 11) r).1 x || decide (fo x = c)) N = hcn (pch N ho fo (M 22) (M 4) (M 5) (M 8) (M 9) (M 11) (r + 1)).1 N := by rw [hnext]
          rw [eh]
          exact ih (16 - (r + 1)) (by omega) (r + 1) _ rfl (by omega) (g1.trans k2) (by rw [hnext]; exact k3) (fun x hx => by rw [hnext]; exact k5 x hx) (fun h hh => by rw [hnext]; exact k6 h hh)
  refine G_iconst (v := 0) F dX0_placeChains_0 rfl ?_
  refine G_istore_n F 1 dX0_placeChains_1 rfl rfl rfl (Nat.le_of_ble_eq_true rfl) ?_
  simp only [List.set_cons_zero, List.set_cons_succ]
  refine lp1 N 0 M rfl (by omega) fr.rfl (fun b hb => absurd hb (by omega)) (fun m hm1 hm2 => ?_)
  refine G_aload_n F dX0_placeChains_33 rfl ?_
  have hC := s_placeChain (Z := Z) hl ad sw tl m (N := N) (c := 0) ho (fun _ => false) fo rk (by rw [hm1 1 (by decide)]; exact hN) hN16 (by rw [hm1 20 (by decide)]; exact hh) (fun b hb => by rw [hm1 23 (by decide)]; exact hch b hb) (by rw [hm1 22 (by decide)]; exact hc) h0 hf0 ho0 (fun x hx h => absurd h (by decide)) (fun x hx _ => rfl) (fun x hx => (hm2 x hx).2) (fun h hh => by
    rw [(hm2 h hh).1]
    unfold pul
    simp only [Bool.false_eq_true, if_false]
    exact (sm_zero N).symm)
  rw [hcn_false] at hC
  refine G_iconst (v := nI 0) F dX0_placeChains_34 (by decide) ?_
  refine G_iconst (v := nI 0) F dX0_placeChains_35 (by decide) ?_
  refine G_vI F mv_X0_119 dX0_placeChains_36 (hC) rfl rfl rfl rfl (Nat.le_of_ble_eq_true rfl) ⟨Nat.le_of_ble_eq_true rfl, Nat.le_of_ble_eq_true rfl, Nat.le_of_ble_eq_true rfl, Nat.le_of_ble_eq_true rfl⟩ (fun r36 M36 h36 => ?_)
  obtain ⟨k1, k2, k3, k4, k5, k6⟩ := h36
  rw [k1]
  rw [hm1 4 (by decide), hm1 5 (by decide), hm1 8 (by decide), hm1 9 (by decide)] at k6
  rw [hm1 22 (by decide), hm1 11 (by decide)] at k3
  refine G_istore_n F 1 dX0_placeChains_39 rfl rfl rfl (Nat.le_of_ble_eq_true rfl) ?_
  simp only [List.set_cons_zero, List.set_cons_succ]
  refine G_iconst (v := 0) F dX0_placeChains_40 rfl ?_
  refine G_istore_n F 2 dX0_placeChains_41 rfl rfl rfl (Nat.le_of_ble_eq_true rfl) ?_
  simp only [List.set_cons_zero, List.set_cons_succ]
  exact lp2 16 0 _ rfl (by omega) (fr.trans (hm1.mono (by decide)) k2) k3 k5 k6
