/-! PROGRAM: loops -/
theorem G_drop {X : fx_C} {l : Launch} {Z : fx_Z} {R : Room} {own : String} {cc : ByteArray} {ad : Nat → Nat} {pc : Nat} {lv : List (Option Value)} {st : List Value} {ce sl : Nat} {S : List fx_Sh} {M : fx_M} (F : fx_F X l Z R own cc) (j : Nat) (k : GG X ad pc (lv.set j none) st ce sl S M) : GG X ad pc lv st ce sl S M := by
  refine G_sub F (fun i v h => ?_) (by simp) k
  by_cases hj : j = i
  · subst hj
    by_cases hl : j < lv.length
    · rw [List.getElem?_set_self hl] at h; cases h
    · rw [List.getElem?_eq_none (by simp; omega)] at h; cases h
  · rw [List.getElem?_set_ne hj] at h; exact h
/-- a sum -/
def sm (f : Nat → Int32) : Nat → Int32
  | 0 => 0
  | n + 1 => sm f n + f n
/-- one pass over the blocks -/
def rp (tg : Nat → Int32) (al : Int32) (s : Int32) : Nat → Int32
  | 0 => s
  | n + 1 => if bt (rp tg al s n) n then rp tg al s n ||| (tg n &&& al) else rp tg al s n
/-- passes until nothing is new, k at most -/
def rc (tg : Nat → Int32) (al : Int32) (N : Nat) : Nat → Int32 → Int32
  | 0, s => s
  | k + 1, s => if rp tg al s N = s then s else rc tg al N k (rp tg al s N)
theorem rc_zero {tg : Nat → Int32} {al : Int32} {N : Nat} : ∀ k, rc tg al N k 0 = 0 := by
  have h0 : ∀ n, rp tg al 0 n = 0 := by
    intro n
    induction n with
    | zero => rfl
    | succ n ih =>
      simp only [rp, ih]
      have : bt 0 n = false := by simp [bt]
      rw [this]; rfl
  intro k
  cases k with
  | zero => rfl
  | succ k => simp only [rc, h0, if_true]
/-- whether one of the blocks ahead of n in a set goes to t -/
def ag (tg : Nat → Int32) (s : Int32) (t : Nat) : Nat → Bool
  | 0 => false
  | n + 1 => ag tg s t n || (bt s n && bt (tg n) t)
set_option maxRecDepth 20000 in
theorem s_sumOfCounts {l : Launch} {Z : fx_Z} (hl : l.stackTraces = false) (ad : Nat → Nat) (sw : Bool) (tl : List fx_Sh) (M : fx_M) {N : Nat} (hN : M 1 8 = nI N) (hN16 : N ≤ 16) : CI l Z yX6_sumOfCounts (.code yX6_sumOfCounts cX6_sumOfCounts 3 (some .int)) 0 [.ref (ad 1)] ad (c_C sw ++ tl) M (fun r m => r = sm (M 7) N ∧ m = M) := by
  refine CT_of (ret := (some .int)) (lv0 := [some (.ref (ad 1)), none, none]) (by decide +kernel) hl (by simp [Value.category]) (Nat.le_of_ble_eq_true rfl) rfl ?_
  intro X F Rt _
  have lp : ∀ (k : Nat) (i : Nat), k = N - i → i ≤ N → GG X ad 4 [some (.ref (ad 1)), some (.int (sm (M 7) i)), some (.int (nI i))] [] 0 0 (c_C sw ++ tl) M := by
    intro k
    induction k using Nat.strongRecOn with
    | _ k ih =>
      intro i hk hi
      refine G_iload_n F dX6_sumOfCounts_4 rfl ?_
      refine G_aload_n F dX6_sumOfCounts_5 rfl ?_
      refine G_geti F fl_X6_36 dX6_sumOfCounts_6 rfl rfl ?_
      rw [hN]
      refine G_icmp_ge (tgt := 27) F dX6_sumOfCounts_9 (by decide) (fun h9 => ?_) (fun h9 => ?_)
      · rw [nI_leI (by omega) (by omega)] at h9
        have hiN : i = N := by omega
        subst hiN
        refine G_iload_n F dX6_sumOfCounts_27 rfl ?_
        refine G_iret F Rt dX6_sumOfCounts_28 (rfl) ⟨rfl, rfl, _, rfl, ?_⟩ (Nat.le_refl _) (Nat.le_refl _)
        exact ⟨rfl, rfl⟩
      · rw [nI_leI (by omega) (by omega)] at h9
        refine G_iload_n F dX6_sumOfCounts_12 rfl ?_
        refine G_aload_n F dX6_sumOfCounts_13 rfl ?_
        refine G_getr F fl_X6_27 dX6_sumOfCounts_14 rfl rfl ?_
        refine G_iload_n F dX6_sumOfCounts_17 rfl ?_
        refine G_ialdN F dX6_sumOfCounts_18 rfl (by omega) (by decide) ?_
        refine G_iadd F dX6_sumOfCounts_19 ?_
        refine G_istore_n F 1 dX6_sumOfCounts_20 rfl rfl rfl (Nat.le_of_ble_eq_true rfl) ?_
        simp only [List.set_cons_zero, List.set_cons_succ]
        refine G_iinc F (1) dX6_sumOfCounts_21 rfl rfl rfl rfl ?_
        simp only [List.set_cons_zero, List.set_cons_succ, nI_1]
        refine G_goto (tgt := 4) F dX6_sumOfCounts_24 (by decide) ?_
        exact ih (N - (i + 1)) (by omega) (i + 1) rfl (by omega)
  refine G_iconst (v := 0) F dX6_sumOfCounts_0 rfl ?_
  refine G_istore_n F 1 dX6_sumOfCounts_1 rfl rfl rfl (Nat.le_of_ble_eq_true rfl) ?_
  simp only [List.set_cons_zero, List.set_cons_succ]
  refine G_iconst (v := 0) F dX6_sumOfCounts_2 rfl ?_
  refine G_istore_n F 2 dX6_sumOfCounts_3 rfl rfl rfl (Nat.le_of_ble_eq_true rfl) ?_
  simp only [List.set_cons_zero, List.set_cons_succ]
  exact lp N 0 (by omega) (by omega)
theorem ag_true {tg : Nat → Int32} {s : Int32} {t i : Nat} : ∀ {n : Nat}, i < n → bt s i = true → bt (tg i) t = true → ag tg s t n = true := by
  intro n
  induction n with
  | zero => intro h; omega
  | succ n ih =>
    intro h h1 h2
    by_cases hi : i = n
    · subst hi; simp [ag, h1, h2]
    · simp [ag, ih (by omega) h1 h2]
set_option maxRecDepth 20000 in
theorem s_anyGoesTo {l : Launch} {Z : fx_Z} (hl : l.stackTraces = false) (ad : Nat → Nat) (sw : Bool) (tl : List fx_Sh) (M : fx_M) {N t : Nat} (s : Int32) (hN : M 1 8 = nI N) (hN16 : N ≤ 16) (ht : t < 16) : CI l Z yX6_anyGoesTo (.code yX6_anyGoesTo cX6_anyGoesTo 4 (some .boolean)) 1 [.ref (ad 1), .int s, .int (nI t)] ad (c_C sw ++ tl) M (fun r m => r = (if ag (pf_tg (M 4) (M 5)) s t N then 1 else 0) ∧ m = M) := by
  refine CT_of (ret := (some .boolean)) (lv0 := [some (.ref (ad 1)), some (.int s), some (.int (nI t)), none]) (by decide +kernel) hl (by simp [Value.category]) (Nat.le_of_ble_eq_true rfl) rfl ?_
  intro X F Rt _
  have lp : ∀ (k : Nat) (i : Nat), k = N - i → i ≤ N → ag (pf_tg (M 4) (M 5)) s t i = false → GG X ad 2 [some (.ref (ad 1)), some (.int s), some (.int (nI t)), some (.int (nI i))] [] 0 0 (c_C sw ++ tl) M := by
    intro k
    induction k using Nat.strongRecOn with
    | _ k ih =>
      intro i hk hi hag
      refine G_iload_n F dX6_anyGoesTo_2 rfl ?_
      refine G_aload_n F dX6_anyGoesTo_3 rfl ?_
      refine G_geti F fl_X6_36 dX6_anyGoesTo_4 rfl rfl ?_
      rw [hN]
      refine G_icmp_ge (tgt := 38) F dX6_anyGoesTo_7 (by decide) (fun h7 => ?_) (fun h7 => ?_)
      · rw [nI_leI (by omega) (by omega)] at h7
        have hiN : i = N := by omega
        subst hiN
        refine G_iconst (v := 0) F dX6_anyGoesTo_38 rfl ?_
        refine G_iret F Rt dX6_anyGoesTo_39 (rfl) ⟨rfl, rfl, _, rfl, ?_⟩ (Nat.le_refl _) (Nat.le_refl _)
        clear ih F Rt
        refine ⟨?_, rfl⟩
        rw [hag]
        rfl
      · rw [nI_leI (by omega) (by omega)] at h7
        refine G_iload_n F dX6_anyGoesTo_10 rfl ?_
        refine G_iload_n F dX6_anyGoesTo_11 rfl ?_
        refine G_sI F ms_X6_53 dX6_anyGoesTo_12 (s_holds hl ad _ M s (b := i) (by omega)) rfl rfl (Nat.le_of_ble_eq_true rfl) ⟨Nat.le_of_ble_eq_true rfl, Nat.le_of_ble_eq_true rfl, Nat.le_of_ble_eq_true rfl, Nat.le_of_ble_eq_true rfl⟩ (fun r12 M12 h12 => ?_)
        rw [h12.1, h12.2]
        refine G_if_eq (tgt := 32) F dX6_anyGoesTo_15 (by decide) (fun h15 => ?_) (fun h15 => ?_)
        · have hb15 : bt s i = false := by simpa using h15
          refine G_iinc F (1) dX6_anyGoesTo_32 rfl rfl rfl rfl ?_
          simp only [List.set_cons_zero, List.set_cons_succ, nI_1]
          refine G_goto (tgt := 2) F dX6_anyGoesTo_35 (by decide) ?_
          exact ih (N - (i + 1)) (by omega) (i + 1) rfl (by omega) (by clear ih F Rt; simp_all [ag])
        · have hb15 : bt s i = true := by simpa using h15
          refine G_aload_n F dX6_anyGoesTo_18 rfl ?_
          refine G_iload_n F dX6_anyGoesTo_19 rfl ?_
          refine G_vI F mv_X6_65 dX6_anyGoesTo_20 (s_targetsOf hl ad sw tl M (b := i) (by omega)) rfl rfl rfl rfl (Nat.le_of_ble_eq_true rfl) ⟨Nat.le_of_ble_eq_true rfl, Nat.le_of_ble_eq_true rfl, Nat.le_of_ble_eq_true rfl, Nat.le_of_ble_eq_true rfl⟩ (fun r20 M20 h20 => ?_)
          rw [h20.1, h20.2]
          refine G_iload_n F dX6_anyGoesTo_23 rfl ?_
          refine G_sI F ms_X6_53 dX6_anyGoesTo_24 (s_holds hl ad _ M _ (b := t) (by omega)) rfl rfl (Nat.le_of_ble_eq_true rfl) ⟨Nat.le_of_ble_eq_true rfl, Nat.le_of_ble_eq_true rfl, Nat.le_of_ble_eq_true rfl, Nat.le_of_ble_eq_true rfl⟩ (fun r24 M24 h24 => ?_)
          rw [h24.1, h24.2]
          refine G_if_eq (tgt := 32) F dX6_anyGoesTo_27 (by decide) (fun h27 => ?_) (fun h27 => ?_)
          · have hb27 : bt (pf_tg (M 4) (M 5) i) t = false := by simpa using h27
            refine G_iinc F (1) dX6_anyGoesTo_32 rfl rfl rfl rfl ?_
            simp only [List.set_cons_zero, List.set_cons_succ, nI_1]
            refine G_goto (tgt := 2) F dX6_anyGoesTo_35 (by decide) ?_
            exact ih (N - (i + 1)) (by omega) (i + 1) rfl (by omega) (by clear ih F Rt; simp_all [ag])
          · have hb27 : bt (pf_tg (M 4) (M 5) i) t = true := by simpa using h27
            refine G_iconst (v := 1) F dX6_anyGoesTo_30 rfl ?_
            refine G_iret F Rt dX6_anyGoesTo_31 (rfl) ⟨rfl, rfl, _, rfl, ?_⟩ (Nat.le_refl _) (Nat.le_refl _)
            clear ih F Rt
            refine ⟨?_, rfl⟩
            rw [ag_true (i := i) (by omega) hb15 hb27]
            rfl
  refine G_iconst (v := 0) F dX6_anyGoesTo_0 rfl ?_
  refine G_istore_n F 3 dX6_anyGoesTo_1 rfl rfl rfl (Nat.le_of_ble_eq_true rfl) ?_
  simp only [List.set_cons_zero, List.set_cons_succ]
  exact lp N 0 (by omega) (by omega) rfl
set_option maxRecDepth 20000 in
theorem s_reachedWithin {l : Launch} {Z : fx_Z} (hl : l.stackTraces = false) (ad : Nat → Nat) (sw : Bool) (tl : List fx_Sh) (M : fx_M) {N : Nat} (al : Int32) (hN : M 1 8 = nI N) (hN16 : N ≤ 16) : CI l Z yX6_reachedWithin (.code yX6_reachedWithin cX6_reachedWithin 7 (some .int)) 1 [.ref (ad 1), .int al] ad (c_C sw ++ tl) M (fun r m => r = rc (pf_tg (M 4) (M 5)) al N N (al &&& 1) ∧ m = M) := by
  refine CT_of (ret := (some .int)) (lv0 := [some (.ref (ad 1)), some (.int al), none, none, none, none, none]) (by decide +kernel) hl (by simp [Value.category]) (Nat.le_of_ble_eq_true rfl) rfl ?_
  intro X F Rt _
  obtain ⟨res, hr0⟩ : ∃ res : Int32, rc (pf_tg (M 4) (M 5)) al N N (al &&& 1) = res := ⟨_, rfl⟩
  have lpi : ∀ (k : Nat) (i : Nat) (s0 g : Int32) (r : Nat), k = N - i → i ≤ N → GG X ad 71 [some (.ref (ad 1)), some (.int al), some (.int (rp (pf_tg (M 4) (M 5)) al s0 N)), some (.int g), some (.int (nI r)), some (.int s0), some (.int (nI N))] [] 0 0 (c_C sw ++ tl) M → GG X ad 36 [some (.ref (ad 1)), some (.int al), some (.int (rp (pf_tg (M 4) (M 5)) al s0 i)), some (.int g), some (.int (nI r)), some (.int s0), some (.int (nI i))] [] 0 0 (c_C sw ++ tl) M := by
    intro k
    induction k using Nat.strongRecOn with
    | _ k ih =>
      intro i s0 g r hk hi hex
      refine G_iload F dX6_reachedWithin_36 rfl ?_
      refine G_aload_n F dX6_reachedWithin_38 rfl ?_
      refine G_geti F fl_X6_36 dX6_reachedWithin_39 rfl rfl ?_
      rw [hN]
      refine G_icmp_ge (tgt := 71) F dX6_reachedWithin_42 (by decide) (fun h42 => ?_) (fun h42 => ?_)
      · rw [nI_leI (by omega) (by omega)] at h42
        have hiN : i = N := by omega
        subst hiN
        exact hex
      · rw [nI_leI (by omega) (by omega)] at h42
        refine G_iload_n F dX6_reachedWithin_45 rfl ?_
        refine G_iload F dX6_reachedWithin_46 rfl ?_
        refine G_sI F ms_X6_53 dX6_reachedWithin_48 (s_holds hl ad _ M _ (b := i) (by omega)) rfl rfl (Nat.le_of_ble_eq_true rfl) ⟨Nat.le_of_ble_eq_true rfl, Nat.le_of_ble_eq_true rfl, Nat.le_of_ble_eq_true rfl, Nat.le_of_ble_eq_true rfl⟩ (fun r48 M48 h48 => ?_)
        rw [h48.1, h48.2]
        refine G_if_eq (tgt := 65) F dX6_reachedWithin_51 (by decide) (fun h51 => ?_) (fun h51 => ?_)
        · have hb51 : bt (rp (pf_tg (M 4) (M 5)) al s0 i) i = false := by simpa using h51
          refine G_iinc F (1) dX6_reachedWithin_65 rfl rfl rfl rfl ?_
          simp only [List.set_cons_zero, List.set_cons_succ, nI_1]
          refine G_goto (tgt := 36) F dX6_reachedWithin_68 (by decide) ?_
          have hgo := ih (N - (i + 1)) (by omega) (i + 1) s0 g r rfl (by omega) hex
          simp only [rp, hb51, Bool.false_eq_true, ↓reduceIte] at hgo
          exact hgo
        · have hb51 : bt (rp (pf_tg (M 4) (M 5)) al s0 i) i = true := by simpa using h51
          refine G_iload_n F dX6_reachedWithin_54 rfl ?_
          refine G_aload_n F dX6_reachedWithin_55 rfl ?_
          refine G_iload F dX6_reachedWithin_56 rfl ?_
          refine G_vI F mv_X6_65 dX6_reachedWithin_58 (s_targetsOf hl ad sw tl M (b := i) (by omega)) rfl rfl rfl rfl (Nat.le_of_ble_eq_true rfl) ⟨Nat.le_of_ble_eq_true rfl, Nat.le_of_ble_eq_true rfl, Nat.le_of_ble_eq_true rfl, Nat.le_of_ble_eq_true rfl⟩ (fun r58 M58 h58 => ?_)
          rw [h58.1, h58.2]
          refine G_iload_n F dX6_reachedWithin_61 rfl ?_
          refine G_iand F dX6_reachedWithin_62 ?_
          refine G_ior F dX6_reachedWithin_63 ?_
          refine G_istore_n F 2 dX6_reachedWithin_64 rfl rfl rfl (Nat.le_of_ble_eq_true rfl) ?_
          simp only [List.set_cons_zero, List.set_cons_succ]
          refine G_iinc F (1) dX6_reachedWithin_65 rfl rfl rfl rfl ?_
          simp only [List.set_cons_zero, List.set_cons_succ, nI_1]
          refine G_goto (tgt := 36) F dX6_reachedWithin_68 (by decide) ?_
          have hgo := ih (N - (i + 1)) (by omega) (i + 1) s0 g r rfl (by omega) hex
          simp only [rp, hb51, Bool.false_eq_true, ↓reduceIte] at hgo
          exact hgo
  have lpo : ∀ (k r : Nat) (s g : Int32), k = N - r → r ≤ N → (if g = 0 then s else rc (pf_tg (M 4) (M 5)) al N (N - r) s) = res → GG X ad 17 [some (.ref (ad 1)), some (.int al), some (.int s), some (.int g), some (.int (nI r)), none, none] [] 0 0 (c_C sw ++ tl) M := by
    intro k
    induction k using Nat.strongRecOn with
    | _ k ih =>
      intro r s g hk hi hres
      refine G_iload F dX6_reachedWithin_17 rfl ?_
      refine G_aload_n F dX6_reachedWithin_19 rfl ?_
      refine G_geti F fl_X6_36 dX6_reachedWithin_20 rfl rfl ?_
      rw [hN]
      refine G_icmp_ge (tgt := 89) F dX6_reachedWithin_23 (by decide) (fun h23 => ?_) (fun h23 => ?_)
      · rw [nI_leI (by omega) (by omega)] at h23
        have hs : s = res := by
          rw [← hres, show N - r = 0 from by omega]
          split <;> rfl
        refine G_iload_n F dX6_reachedWithin_89 rfl ?_
        refine G_iret F Rt dX6_reachedWithin_90 (rfl) ⟨rfl, rfl, _, rfl, ?_⟩ (Nat.le_refl _) (Nat.le_refl _)
        exact ⟨hs.trans hr0.symm, rfl⟩
      · rw [nI_leI (by omega) (by omega)] at h23
        refine G_iload_n F dX6_reachedWithin_26 rfl ?_
        refine G_if_eq (tgt := 89) F dX6_reachedWithin_27 (by decide) (fun h27 => ?_) (fun h27 => ?_)
        · have hs : s = res := by rw [← hres, if_pos h27]
          refine G_iload_n F dX6_reachedWithin_89 rfl ?_
          refine G_iret F Rt dX6_reachedWithin_90 (rfl) ⟨rfl, rfl, _, rfl, ?_⟩ (Nat.le_refl _) (Nat.le_refl _)
          exact ⟨hs.trans hr0.symm, rfl⟩
        · refine G_iload_n F dX6_reachedWithin_30 rfl ?_
          refine G_istore F dX6_reachedWithin_31 rfl rfl (Nat.le_of_ble_eq_true rfl) ?_
          simp only [List.set_cons_zero, List.set_cons_succ]
          refine G_iconst (v := 0) F dX6_reachedWithin_33 rfl ?_
          refine G_istore F dX6_reachedWithin_34 rfl rfl (Nat.le_of_ble_eq_true rfl) ?_
          simp only [List.set_cons_zero, List.set_cons_succ]
          refine lpi N 0 s g r (by omega) (by omega) ?_
          refine G_iload_n F dX6_reachedWithin_71 rfl ?_
          refine G_iload F dX6_reachedWithin_72 rfl ?_
          refine G_icmp_eq (tgt := 81) F dX6_reachedWithin_74 (by decide) (fun h74 => ?_) (fun h74 => ?_)
          · have hq : rp (pf_tg (M 4) (M 5)) al s N = s := h74
            have hres2 : s = res := by
              rw [← hres, if_neg h27, show N - r = (N - (r + 1)) + 1 from by omega]
              simp only [rc, hq, if_true]
            refine G_iconst (v := 0) F dX6_reachedWithin_81 rfl ?_
            refine G_istore_n F 3 dX6_reachedWithin_82 rfl rfl rfl (Nat.le_of_ble_eq_true rfl) ?_
            simp only [List.set_cons_zero, List.set_cons_succ]
            refine G_iinc F (1) dX6_reachedWithin_83 rfl rfl rfl rfl ?_
            simp only [List.set_cons_zero, List.set_cons_succ, nI_1]
            refine G_goto (tgt := 17) F dX6_reachedWithin_86 (by decide) ?_
            refine G_drop F 5 ?_
            refine G_drop F 6 ?_
            simp only [List.set_cons_zero, List.set_cons_succ]
            exact ih (N - (r + 1)) (by omega) (r + 1) _ _ rfl (by omega) (by simpa [hq] using hres2)
          · have hq : ¬ rp (pf_tg (M 4) (M 5)) al s N = s := h74
            have hres2 : rc (pf_tg (M 4) (M 5)) al N (N - (r + 1)) (rp (pf_tg (M 4) (M 5)) al s N) = res := by
              rw [← hres, if_neg h27, show N - r = (N - (r + 1)) + 1 from by omega]
              simp only [rc, hq, if_false]
            refine G_iconst (v := 1) F dX6_reachedWithin_77 rfl ?_
            refine G_goto (tgt := 82) F dX6_reachedWithin_78 (by decide) ?_
            refine G_istore_n F 3 dX6_reachedWithin_82 rfl rfl rfl (Nat.le_of_ble_eq_true rfl) ?_
            simp only [List.set_cons_zero, List.set_cons_succ]
            refine G_iinc F (1) dX6_reachedWithin_83 rfl rfl rfl rfl ?_
            simp only [List.set_cons_zero, List.set_cons_succ, nI_1]
            refine G_goto (tgt := 17) F dX6_reachedWithin_86 (by decide) ?_
            refine G_drop F 5 ?_
            refine G_drop F 6 ?_
            simp only [List.set_cons_zero, List.set_cons_succ]
            exact ih (N - (r + 1)) (by omega) (r + 1) _ _ rfl (by omega) (by simpa [hq] using hres2)
  refine G_iload_n F dX6_reachedWithin_0 rfl ?_
  refine G_iconst (v := 1) F dX6_reachedWithin_1 rfl ?_
  refine G_iand F dX6_reachedWithin_2 ?_
  refine G_istore_n F 2 dX6_reachedWithin_3 rfl rfl rfl (Nat.le_of_ble_eq_true rfl) ?_
  simp only [List.set_cons_zero, List.set_cons_succ]
  refine G_iload_n F dX6_reachedWithin_4 rfl ?_
  refine G_if_eq (tgt := 12) F dX6_reachedWithin_5 (by decide) (fun h5 => ?_) (fun h5 => ?_)
  · have h5a : al &&& 1 = 0 := h5
    refine G_iconst (v := 0) F dX6_reachedWithin_12 rfl ?_
    refine G_istore_n F 3 dX6_reachedWithin_13 rfl rfl rfl (Nat.le_of_ble_eq_true rfl) ?_
    simp only [List.set_cons_zero, List.set_cons_succ]
    refine G_iconst (v := 0) F dX6_reachedWithin_14 rfl ?_
    refine G_istore F dX6_reachedWithin_15 rfl rfl (Nat.le_of_ble_eq_true rfl) ?_
    simp only [List.set_cons_zero, List.set_cons_succ]
    exact lpo N 0 _ _ (by omega) (by omega) (by simp_all [rc_zero])
  · have h5a : ¬ al &&& 1 = 0 := h5
    refine G_iconst (v := 1) F dX6_reachedWithin_8 rfl ?_
    refine G_goto (tgt := 13) F dX6_reachedWithin_9 (by decide) ?_
    refine G_istore_n F 3 dX6_reachedWithin_13 rfl rfl rfl (Nat.le_of_ble_eq_true rfl) ?_
    simp only [List.set_cons_zero, List.set_cons_succ]
    refine G_iconst (v := 0) F dX6_reachedWithin_14 rfl ?_
    refine G_istore F dX6_reachedWithin_15 rfl rfl (Nat.le_of_ble_eq_true rfl) ?_
    simp only [List.set_cons_zero, List.set_cons_succ]
    exact lpo N 0 _ _ (by omega) (by omega) (by simp_all [rc_zero])
