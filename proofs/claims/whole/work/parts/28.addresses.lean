/-! PLACEMENT: the addresses -/
/-- where the block at a place begins, e being the end of what stands before it -/
def l_st (hot al : Nat) (rw : Nat → Nat) (hd : Nat → Bool) (e i : Nat) : Nat := if hd (rw i) then lift (if i = hot then lift e 64 else e) al else (if i = hot then lift e 64 else e)
/-- the end of what stands ahead of a place -/
def l_be (hot al : Nat) (rw : Nat → Nat) (hd : Nat → Bool) (sz bs : Nat → Nat) : Nat → Nat
  | 0 => 0
  | i + 1 => l_st hot al rw hd (l_be hot al rw hd sz bs i) i + sz (rw i) + bs (rw i)
theorem l_st_le {hot al : Nat} {rw : Nat → Nat} {hd : Nat → Bool} {e i : Nat} (ha : isAl al) (ha32 : al ≤ 32) : e ≤ l_st hot al rw hd e i ∧ l_st hot al rw hd e i ≤ e + 94 := by
  have h64 : isAl 64 := by simp [isAl]
  have h1 := lift_le (v := e) h64
  have h2 := lift_le (v := e) ha
  have h3 := lift_le (v := lift e 64) ha
  unfold l_st
  split <;> split <;> omega
theorem l_be_le {N hot al : Nat} {rw pos : Nat → Nat} {hd : Nat → Bool} {sz bs : Nat → Nat} (ha : isAl al) (ha32 : al ≤ 32) (hpm : pm N rw pos) (hs : ∀ b, b < N → sz b ≤ 60 ∧ bs b ≤ 11) : ∀ i, i ≤ N → l_be hot al rw hd sz bs i ≤ 165 * i := by
  intro i
  induction i with
  | zero => intro _; exact Nat.le_refl 0
  | succ i ih =>
    intro hi
    have h1 := ih (by omega)
    have h2 := l_st_le (hot := hot) (rw := rw) (hd := hd) (e := l_be hot al rw hd sz bs i) (i := i) ha ha32
    have h3 := hs (rw i) (hpm.1 i (by omega)).1
    simp only [l_be]
    omega
/-- the address of a block, and its padding -/
def l_ad (hot al : Nat) (rw pos : Nat → Nat) (hd : Nat → Bool) (sz bs : Nat → Nat) (b : Nat) : Nat := l_st hot al rw hd (l_be hot al rw hd sz bs (pos b)) (pos b)
def l_pd (hot al : Nat) (rw pos : Nat → Nat) (hd : Nat → Bool) (sz bs : Nat → Nat) (b : Nat) : Nat := l_ad hot al rw pos hd sz bs b - l_be hot al rw hd sz bs (pos b)
/-- whether a block is aligned -/
def l_hd (hs : Int32) (cn : Nat → Int32) (lim : Int32) (b : Nat) : Bool := bt hs b && decide (lim ≤ cn b)
set_option maxRecDepth 20000 in
theorem s_setAddresses {l : Launch} {Z : fx_Z} (hl : l.stackTraces = false) (ad : Nat → Nat) (sw : Bool) (tl : List fx_Sh) (M : fx_M) {N hot al : Nat} {rw pos : Nat → Nat} {sz bs : Nat → Nat} (lim : Int32) (hN : M 1 8 = nI N) (hN16 : N ≤ 16) (hhot : M 10 1 = nI hot) (hhot1 : 1 ≤ hot) (hhot16 : hot ≤ N) (hpm : pm N rw pos) (hr : ∀ j, j < N → M 11 j = nI (rw j)) (ha : isAl al) (ha32 : al ≤ 32) (hsz : ∀ b, b < N → M 2 b = nI (sz b) ∧ sz b ≤ 60) (hby : ∀ b, b < N → (if M 15 b = 5 then 1 else M 16 b + M 17 b) = nI (bs b) ∧ bs b ≤ 11) : CV l Z yX4_setAddresses (.code yX4_setAddresses cX4_setAddresses 7 none) 2 [.ref (ad 12), .int (nI al), .int lim] ad (c_C sw ++ tl) M (fun m => fr [12, 18, 19] M m ∧ m 12 9 = nI (l_be hot al rw (l_hd (M 1 9) (M 7) lim) sz bs hot) ∧ m 12 10 = nI (l_be hot al rw (l_hd (M 1 9) (M 7) lim) sz bs N) ∧ ∀ b, b < N → m 18 b = nI (l_ad hot al rw pos (l_hd (M 1 9) (M 7) lim) sz bs b) ∧ m 19 b = nI (l_pd hot al rw pos (l_hd (M 1 9) (M 7) lim) sz bs b)) := by
  refine CT_of (ret := none) (lv0 := [some (.ref (ad 12)), some (.int (nI al)), some (.int lim), none, none, none, none]) (by decide +kernel) hl (by simp [Value.category]) (Nat.le_of_ble_eq_true rfl) rfl ?_
  intro X F Rt _
  have lp : ∀ (k : Nat) (i : Nat) (M' : fx_M), k = N - i → i ≤ N → fr [12, 18, 19] M M' → (hot ≤ i → M' 12 9 = nI (l_be hot al rw (l_hd (M 1 9) (M 7) lim) sz bs hot)) → (∀ b, b < N → pos b < i → M' 18 b = nI (l_ad hot al rw pos (l_hd (M 1 9) (M 7) lim) sz bs b) ∧ M' 19 b = nI (l_pd hot al rw pos (l_hd (M 1 9) (M 7) lim) sz bs b)) → GG X ad 5 [some (.ref (ad 12)), some (.int (nI al)), some (.int lim), some (.int (nI (l_be hot al rw (l_hd (M 1 9) (M 7) lim) sz bs i))), some (.int (nI i)), none, none] [] 0 0 (c_C sw ++ tl) M' := by
    intro k
    induction k using Nat.strongRecOn with
    | _ k ih =>
      intro i M' hk hi h1 h2 h3
      have hN1 : M' 1 8 = nI N := by rw [h1 1 (by decide)]; exact hN
      have hh1 : M' 10 1 = nI hot := by rw [h1 10 (by decide)]; exact hhot
      have hrow : ∀ j, j < N → M' 11 j = nI (rw j) := fun j hj => by rw [h1 11 (by decide)]; exact hr j hj
      refine G_iload F dX4_setAddresses_5 rfl ?_
      refine G_aload_n F dX4_setAddresses_7 rfl ?_
      refine G_getr F fl_X4_33 dX4_setAddresses_8 rfl rfl ?_
      refine G_geti F fl_X4_52 dX4_setAddresses_11 rfl rfl ?_
      rw [hN1]
      refine G_icmp_ge (tgt := 153) F dX4_setAddresses_14 (by decide) (fun h14 => ?_) (fun h14 => ?_)
      · rw [nI_leI (by omega) (by omega)] at h14
        have hiN : i = N := by omega
        subst hiN
        refine G_aload_n F dX4_setAddresses_153 rfl ?_
        refine G_iload_n F dX4_setAddresses_154 rfl ?_
        refine G_puti F fl_X4_105 dX4_setAddresses_155 rfl rfl rfl rfl ?_
        refine G_vret F Rt dX4_setAddresses_158 ⟨rfl, rfl, rfl, ?_⟩ (Nat.le_refl _) (Nat.le_refl _)
        refine ⟨h1.u (by decide), ?_, ?_, fun b hb => ?_⟩
        · rw [fx_u_at, if_neg (by decide)]; exact h2 (by omega)
        · rw [fx_u_at, if_pos ⟨rfl, rfl⟩]
        · have := h3 b hb (hpm.2 b hb).1
          constructor <;> simp [fx_u_at, this]
      · rw [nI_leI (by omega) (by omega)] at h14
        have hpi : pos (rw i) = i := (hpm.1 i (by omega)).2
        have hB : rw i < N := (hpm.1 i (by omega)).1
        have hbe := l_be_le (hot := hot) (hd := (l_hd (M 1 9) (M 7) lim)) ha ha32 hpm (fun b hb => ⟨(hsz b hb).2, (hby b hb).2⟩) i hi
        have hse := l_st_le (hot := hot) (rw := rw) (hd := (l_hd (M 1 9) (M 7) lim)) (e := (l_be hot al rw (l_hd (M 1 9) (M 7) lim) sz bs i)) (i := i) ha ha32
        have h64 : isAl 64 := by simp [isAl]
        have hl64 := lift_le (v := (l_be hot al rw (l_hd (M 1 9) (M 7) lim) sz bs i)) h64
        have hs0 : (if i = hot then lift (l_be hot al rw (l_hd (M 1 9) (M 7) lim) sz bs i) 64 else (l_be hot al rw (l_hd (M 1 9) (M 7) lim) sz bs i)) < 4096 := by split <;> omega
        have t147 : ∀ m : fx_M, fr [12, 18, 19] M m → (hot ≤ i + 1 → m 12 9 = nI (l_be hot al rw (l_hd (M 1 9) (M 7) lim) sz bs hot)) → (∀ b, b < N → pos b < i + 1 → m 18 b = nI (l_ad hot al rw pos (l_hd (M 1 9) (M 7) lim) sz bs b) ∧ m 19 b = nI (l_pd hot al rw pos (l_hd (M 1 9) (M 7) lim) sz bs b)) → GG X ad 147 [some (.ref (ad 12)), some (.int (nI al)), some (.int lim), some (.int (nI (l_be hot al rw (l_hd (M 1 9) (M 7) lim) sz bs (i + 1)))), some (.int (nI i)), some (.int (nI (rw i))), some (.int (nI (l_st hot al rw (l_hd (M 1 9) (M 7) lim) (l_be hot al rw (l_hd (M 1 9) (M 7) lim) sz bs i) i)))] [] 0 0 (c_C sw ++ tl) m := by
          intro m g1 g2 g3
          refine G_iinc F (1) dX4_setAddresses_147 rfl rfl rfl rfl ?_
          simp only [List.set_cons_zero, List.set_cons_succ, nI_1]
          refine G_goto (tgt := 5) F dX4_setAddresses_150 (by decide) ?_
          refine G_drop F 5 ?_
          refine G_drop F 6 ?_
          simp only [List.set_cons_zero, List.set_cons_succ]
          exact ih (N - (i + 1)) (by omega) (i + 1) _ rfl (by omega) g1 g2 g3
        have t87 : GG X ad 87 [some (.ref (ad 12)), some (.int (nI al)), some (.int lim), some (.int (nI (l_be hot al rw (l_hd (M 1 9) (M 7) lim) sz bs i))), some (.int (nI i)), some (.int (nI (rw i))), some (.int (nI (l_st hot al rw (l_hd (M 1 9) (M 7) lim) (l_be hot al rw (l_hd (M 1 9) (M 7) lim) sz bs i) i)))] [] 0 0 (c_C sw ++ tl) M' := by
          refine G_aload_n F dX4_setAddresses_87 rfl ?_
          refine G_getr F fl_X4_27 dX4_setAddresses_88 rfl rfl ?_
          refine G_iload F dX4_setAddresses_91 rfl ?_
          refine G_iload F dX4_setAddresses_93 rfl ?_
          refine G_iastN F dX4_setAddresses_95 rfl (by omega) (by decide) ?_
          refine G_aload_n F dX4_setAddresses_96 rfl ?_
          refine G_getr F fl_X4_30 dX4_setAddresses_97 rfl rfl ?_
          refine G_iload F dX4_setAddresses_100 rfl ?_
          refine G_iload F dX4_setAddresses_102 rfl ?_
          refine G_iload_n F dX4_setAddresses_104 rfl ?_
          refine G_isub F dX4_setAddresses_105 ?_
          rw [nI_sub hse.1]
          refine G_iastN F dX4_setAddresses_106 rfl (by omega) (by decide) ?_
          refine G_iload F dX4_setAddresses_107 rfl ?_
          refine G_aload_n F dX4_setAddresses_109 rfl ?_
          refine G_getr F fl_X4_33 dX4_setAddresses_110 rfl rfl ?_
          refine G_getr F fl_X4_95 dX4_setAddresses_113 rfl rfl ?_
          refine G_iload F dX4_setAddresses_116 rfl ?_
          refine G_ialdN F dX4_setAddresses_118 rfl (by omega) (by decide) ?_
          rw [fx_u_ne (by decide), fx_u_ne (by decide), h1 2 (by decide), (hsz (rw i) hB).1]
          refine G_iadd F dX4_setAddresses_119 ?_
          rw [nI_add]
          refine G_aload_n F dX4_setAddresses_120 rfl ?_
          refine G_iload F dX4_setAddresses_121 rfl ?_
          refine G_vI F mv_X4_98 dX4_setAddresses_123 (s_bytesOfEnd hl ad sw tl _ (b := rw i) (by omega)) rfl rfl rfl rfl (Nat.le_of_ble_eq_true rfl) ⟨Nat.le_of_ble_eq_true rfl, Nat.le_of_ble_eq_true rfl, Nat.le_of_ble_eq_true rfl, Nat.le_of_ble_eq_true rfl⟩ (fun r123 M123 h123 => ?_)
          rw [h123.1, h123.2]
          simp only [fx_uN, Nat.reduceEqDiff, ↓reduceIte]
          rw [h1 15 (by decide), h1 16 (by decide), h1 17 (by decide), (hby (rw i) hB).1]
          refine G_iadd F dX4_setAddresses_126 ?_
          rw [nI_add, show (l_st hot al rw (l_hd (M 1 9) (M 7) lim) (l_be hot al rw (l_hd (M 1 9) (M 7) lim) sz bs i) i) + sz (rw i) + bs (rw i) = (l_be hot al rw (l_hd (M 1 9) (M 7) lim) sz bs (i + 1)) from rfl]
          refine G_istore_n F 3 dX4_setAddresses_127 rfl rfl rfl (Nat.le_of_ble_eq_true rfl) ?_
          simp only [List.set_cons_zero, List.set_cons_succ]
          refine G_iload F dX4_setAddresses_128 rfl ?_
          refine G_iconst (v := nI 1) F dX4_setAddresses_130 (by decide) ?_
          refine G_iadd F dX4_setAddresses_131 ?_
          rw [nI_add]
          refine G_aload_n F dX4_setAddresses_132 rfl ?_
          refine G_getr F fl_X4_37 dX4_setAddresses_133 rfl rfl ?_
          refine G_geti F fl_X4_63 dX4_setAddresses_136 rfl rfl ?_
          rw [fx_u_ne (by decide), fx_u_ne (by decide), hh1]
          refine G_icmp_ne (tgt := 147) F dX4_setAddresses_139 (by decide) (fun h139 => ?_) (fun h139 => ?_)
          · rw [nI_eq (by omega) (by omega)] at h139
            exact t147 _ ((h1.u (by decide)).u (by decide)) (fun q => by rw [fx_u_ne (by decide), fx_u_ne (by decide)]; exact h2 (by omega)) (fun b hb hpb => by
              by_cases e : b = rw i
              · subst e
                simp only [l_pd, l_ad, hpi]
                constructor <;> simp [fx_u_at]
              · have hp2 : pos b < i := by
                  have : pos b ≠ i := fun q => e (by rw [← q]; exact ((hpm.2 b hb).2).symm)
                  omega
                have := h3 b hb hp2
                constructor <;> simp [fx_u_at, e, this])
          · rw [nI_eq (by omega) (by omega)] at h139
            refine G_aload_n F dX4_setAddresses_142 rfl ?_
            refine G_iload_n F dX4_setAddresses_143 rfl ?_
            refine G_puti F fl_X4_102 dX4_setAddresses_144 rfl rfl rfl rfl ?_
            exact t147 _ (((h1.u (by decide)).u (by decide)).u (by decide)) (fun q => by rw [fx_u_at, if_pos ⟨rfl, rfl⟩, h139]) (fun b hb hpb => by
              by_cases e : b = rw i
              · subst e
                simp only [l_pd, l_ad, hpi]
                constructor <;> simp [fx_u_at]
              · have hp2 : pos b < i := by
                  have : pos b ≠ i := fun q => e (by rw [← q]; exact ((hpm.2 b hb).2).symm)
                  omega
                have := h3 b hb hp2
                constructor <;> simp [fx_u_at, e, this])
        have t51 : GG X ad 51 [some (.ref (ad 12)), some (.int (nI al)), some (.int lim), some (.int (nI (l_be hot al rw (l_hd (M 1 9) (M 7) lim) sz bs i))), some (.int (nI i)), some (.int (nI (rw i))), none] [.int (nI (if i = hot then lift (l_be hot al rw (l_hd (M 1 9) (M 7) lim) sz bs i) 64 else (l_be hot al rw (l_hd (M 1 9) (M 7) lim) sz bs i)))] 0 0 (c_C sw ++ tl) M' := by
          refine G_istore F dX4_setAddresses_51 rfl rfl (Nat.le_of_ble_eq_true rfl) ?_
          simp only [List.set_cons_zero, List.set_cons_succ]
          refine G_aload_n F dX4_setAddresses_53 rfl ?_
          refine G_getr F fl_X4_33 dX4_setAddresses_54 rfl rfl ?_
          refine G_iload F dX4_setAddresses_57 rfl ?_
          refine G_vI F mv_X4_89 dX4_setAddresses_59 (s_isHead hl ad sw tl M' (b := rw i) (by omega)) rfl rfl rfl rfl (Nat.le_of_ble_eq_true rfl) ⟨Nat.le_of_ble_eq_true rfl, Nat.le_of_ble_eq_true rfl, Nat.le_of_ble_eq_true rfl, Nat.le_of_ble_eq_true rfl⟩ (fun r59 M59 h59 => ?_)
          rw [h59.1, h59.2, h1 1 (by decide)]
          refine G_if_eq (tgt := 87) F dX4_setAddresses_62 (by decide) (fun h62 => ?_) (fun h62 => ?_)
          · have hh : (l_hd (M 1 9) (M 7) lim) (rw i) = false := by
              unfold l_hd
              have : bt (M 1 9) (rw i) = false := by simpa using h62
              simp [this]
            have q := t87
            unfold l_st at q
            simp only [hh, Bool.false_eq_true, ↓reduceIte] at q
            exact q
          · refine G_aload_n F dX4_setAddresses_65 rfl ?_
            refine G_getr F fl_X4_33 dX4_setAddresses_66 rfl rfl ?_
            refine G_getr F fl_X4_92 dX4_setAddresses_69 rfl rfl ?_
            refine G_iload F dX4_setAddresses_72 rfl ?_
            refine G_ialdN F dX4_setAddresses_74 rfl (by omega) (by decide) ?_
            rw [h1 7 (by decide)]
            refine G_iload_n F dX4_setAddresses_75 rfl ?_
            refine G_icmp_lt (tgt := 87) F dX4_setAddresses_76 (by decide) (fun h76 => ?_) (fun h76 => ?_)
            · have hh : (l_hd (M 1 9) (M 7) lim) (rw i) = false := by
                unfold l_hd
                simp only [Bool.and_eq_false_iff, decide_eq_false_iff_not]
                exact Or.inr (by simp only [Int32.lt_iff_toInt_lt, Int32.le_iff_toInt_le] at h76 ⊢; omega)
              have q := t87
              unfold l_st at q
              simp only [hh, Bool.false_eq_true, ↓reduceIte] at q
              exact q
            · have hh : (l_hd (M 1 9) (M 7) lim) (rw i) = true := by
                unfold l_hd
                have h1b : bt (M 1 9) (rw i) = true := by simpa using h62
                simp only [h1b, Bool.true_and, decide_eq_true_eq]
                simp only [Int32.lt_iff_toInt_lt, Int32.le_iff_toInt_le] at h76 ⊢; omega
              refine G_iload F dX4_setAddresses_79 rfl ?_
              refine G_iload_n F dX4_setAddresses_81 rfl ?_
              refine G_sI F ms_X4_86 dX4_setAddresses_82 (s_multipleFrom hl ad _ M' (v := (if i = hot then lift (l_be hot al rw (l_hd (M 1 9) (M 7) lim) sz bs i) 64 else (l_be hot al rw (l_hd (M 1 9) (M 7) lim) sz bs i))) (s := al) (by omega) ha) rfl rfl (Nat.le_of_ble_eq_true rfl) ⟨Nat.le_of_ble_eq_true rfl, Nat.le_of_ble_eq_true rfl, Nat.le_of_ble_eq_true rfl, Nat.le_of_ble_eq_true rfl⟩ (fun r82 M82 h82 => ?_)
              rw [h82.1, h82.2]
              refine G_istore F dX4_setAddresses_85 rfl rfl (Nat.le_of_ble_eq_true rfl) ?_
              simp only [List.set_cons_zero, List.set_cons_succ]
              have q := t87
              unfold l_st at q
              simp only [hh, Bool.false_eq_true, ↓reduceIte] at q
              exact q
        refine G_aload_n F dX4_setAddresses_17 rfl ?_
        refine G_getr F fl_X4_37 dX4_setAddresses_18 rfl rfl ?_
        refine G_getr F fl_X4_58 dX4_setAddresses_21 rfl rfl ?_
        refine G_iload F dX4_setAddresses_24 rfl ?_
        refine G_ialdN F dX4_setAddresses_26 rfl (by omega) (by decide) ?_
        rw [hrow i (by omega)]
        refine G_istore F dX4_setAddresses_27 rfl rfl (Nat.le_of_ble_eq_true rfl) ?_
        simp only [List.set_cons_zero, List.set_cons_succ]
        refine G_iload F dX4_setAddresses_29 rfl ?_
        refine G_aload_n F dX4_setAddresses_31 rfl ?_
        refine G_getr F fl_X4_37 dX4_setAddresses_32 rfl rfl ?_
        refine G_geti F fl_X4_63 dX4_setAddresses_35 rfl rfl ?_
        rw [hh1]
        refine G_icmp_ne (tgt := 50) F dX4_setAddresses_38 (by decide) (fun h38 => ?_) (fun h38 => ?_)
        · rw [nI_eq (by omega) (by omega)] at h38
          refine G_iload_n F dX4_setAddresses_50 rfl ?_
          have q := t51
          rw [if_neg h38] at q
          exact q
        · rw [nI_eq (by omega) (by omega)] at h38
          refine G_iload_n F dX4_setAddresses_41 rfl ?_
          refine G_bipush (v := nI 64) F dX4_setAddresses_42 (by decide) ?_
          refine G_sI F ms_X4_86 dX4_setAddresses_44 (s_multipleFrom hl ad _ M' (v := (l_be hot al rw (l_hd (M 1 9) (M 7) lim) sz bs i)) (s := 64) (by omega) h64) rfl rfl (Nat.le_of_ble_eq_true rfl) ⟨Nat.le_of_ble_eq_true rfl, Nat.le_of_ble_eq_true rfl, Nat.le_of_ble_eq_true rfl, Nat.le_of_ble_eq_true rfl⟩ (fun r44 M44 h44 => ?_)
          rw [h44.1, h44.2]
          refine G_goto (tgt := 51) F dX4_setAddresses_47 (by decide) ?_
          have q := t51
          rw [if_pos h38] at q
          exact q
  refine G_iconst (v := 0) F dX4_setAddresses_0 rfl ?_
  refine G_istore_n F 3 dX4_setAddresses_1 rfl rfl rfl (Nat.le_of_ble_eq_true rfl) ?_
  simp only [List.set_cons_zero, List.set_cons_succ]
  refine G_iconst (v := 0) F dX4_setAddresses_2 rfl ?_
  refine G_istore F dX4_setAddresses_3 rfl rfl (Nat.le_of_ble_eq_true rfl) ?_
  simp only [List.set_cons_zero, List.set_cons_succ]
  exact lp N 0 M rfl (by omega) fr.rfl (fun q => absurd q (by omega)) (fun b hb hp => absurd hp (by omega))
