/-! ARRANGER: the search -/
theorem and1 (x : Int32) : x &&& 1 = 0 ∨ x &&& 1 = 1 := by
  have h : x.toBitVec &&& 1#32 = 0#32 ∨ x.toBitVec &&& 1#32 = 1#32 := by
    rw [BitVec.and_one_eq_setWidth_ofBool_getLsbD]
    cases x.toBitVec.getLsbD 0
    · exact Or.inl (by decide)
    · exact Or.inr (by decide)
  rcases h with h | h
  · exact Or.inl (Int32.toBitVec_inj.mp (by rw [Int32.toBitVec_and]; exact h))
  · exact Or.inr (Int32.toBitVec_inj.mp (by rw [Int32.toBitVec_and]; exact h))
theorem bt_false {s : Int32} {b : Nat} : bt s b = false ↔ (s >>> nI b) &&& 1 = 0 := by
  unfold bt
  rcases and1 (s >>> nI b) with h | h <;> rw [h] <;> decide
theorem bt_true {s : Int32} {b : Nat} : bt s b = true ↔ (s >>> nI b) &&& 1 = 1 := by
  simp [bt]
/-- a fold over the first n -/
def fl {α : Type} (g : Nat → α → α) : Nat → α → α
  | 0, x => x
  | n + 1, x => g n (fl g n x)
/-- an order of t blocks is kept if it costs less -/
def kp (t : Nat) (p : Nat → Nat) (v : Int32) (x : Int32 × (Nat → Int32)) : Int32 × (Nat → Int32) := if v < x.1 then (v, fun j => if j < t then nI (p j) else x.2 j) else x
section Sr
variable (N H : Nat) (ho : Nat → Bool) (cs : Nat → Int32 → Int32)
/-- the search below t blocks p -/
def sr : Nat → Nat → (Nat → Nat) → Int32 → Int32 → Int32 × (Nat → Int32) → Int32 × (Nat → Int32)
  | 0, t, p, _, c, x => if c < x.1 then kp t p (c + cs (p (t - 1)) (-1)) x else x
  | k + 1, t, p, tk, c, x => if c < x.1 then (if H ≤ t then kp t p (c + cs (p (t - 1)) (-1)) x else fl (fun b y => if 1 ≤ b ∧ ho b = true ∧ bt tk b = false then sr k (t + 1) (fun j => if j = t then b else p j) (tk ||| (1 : Int32) <<< (nI b &&& 31)) (c + cs (p (t - 1)) (nI b)) y else y) N x) else x
end Sr
theorem sr_eq {N H : Nat} {ho : Nat → Bool} {cs : Nat → Int32 → Int32} {k t : Nat} {p : Nat → Nat} {tk c : Int32} {x : Int32 × (Nat → Int32)} : sr N H ho cs k t p tk c x = if c < x.1 then (if H ≤ t ∨ k = 0 then kp t p (c + cs (p (t - 1)) (-1)) x else fl (fun b y => if 1 ≤ b ∧ ho b = true ∧ bt tk b = false then sr N H ho cs (k - 1) (t + 1) (fun j => if j = t then b else p j) (tk ||| (1 : Int32) <<< (nI b &&& 31)) (c + cs (p (t - 1)) (nI b)) y else y) N x) else x := by
  cases k with
  | zero => simp [sr]
  | succ k => simp [sr]
set_option maxRecDepth 20000 in
theorem s_keepTrial {l : Launch} {Z : fx_Z} (hl : l.stackTraces = false) (ad : Nat → Nat) (sw : Bool) (tl : List fx_Sh) (M : fx_M) {t : Nat} (v : Int32) (ht : t ≤ 7) : CV l Z yX0_keepTrial (.code yX0_keepTrial cX0_keepTrial 4 none) 0 [.ref (ad 20), .int (nI t), .int v] ad (c_C sw ++ tl) M (fun m => fr [11, 20] M m ∧ m 20 = (if v < M 20 12 then upd (M 20) 12 v else M 20) ∧ m 11 = (if v < M 20 12 then (fun j => if j < t then M 26 j else M 11 j) else M 11)) := by
  refine CT_of (ret := none) (lv0 := [some (.ref (ad 20)), some (.int (nI t)), some (.int v), none]) (by decide +kernel) hl (by simp [Value.category]) (Nat.le_of_ble_eq_true rfl) rfl ?_
  intro X F Rt _
  refine G_iload_n F dX0_keepTrial_0 rfl ?_
  refine G_aload_n F dX0_keepTrial_1 rfl ?_
  refine G_geti F fl_X0_52 dX0_keepTrial_2 rfl rfl ?_
  refine G_icmp_ge (tgt := 41) F dX0_keepTrial_5 (by decide) (fun h5 => ?_) (fun h5 => ?_)
  · have hv : ¬ v < M 20 12 := by simp only [Int32.lt_iff_toInt_lt, Int32.le_iff_toInt_le] at h5 ⊢; omega
    refine G_vret F Rt dX0_keepTrial_41 ⟨rfl, rfl, rfl, ?_⟩ (Nat.le_refl _) (Nat.le_refl _)
    exact ⟨fr.rfl, by rw [if_neg hv], by rw [if_neg hv]⟩
  · have hv : v < M 20 12 := by simp only [Int32.lt_iff_toInt_lt, Int32.le_iff_toInt_le] at h5 ⊢; omega
    have lp : ∀ (k : Nat) (i : Nat) (M' : fx_M), k = t - i → i ≤ t → fr [11] (fx_u M 20 12 v) M' → M' 11 = (fun j => if j < i then M 26 j else M 11 j) → GG X ad 15 [some (.ref (ad 20)), some (.int (nI t)), some (.int v), some (.int (nI i))] [] 0 0 (c_C sw ++ tl) M' := by
      intro k
      induction k using Nat.strongRecOn with
      | _ k ih =>
        intro i M' hk hi h1 h2
        refine G_iload_n F dX0_keepTrial_15 rfl ?_
        refine G_iload_n F dX0_keepTrial_16 rfl ?_
        refine G_icmp_ge (tgt := 41) F dX0_keepTrial_17 (by decide) (fun h17 => ?_) (fun h17 => ?_)
        · rw [nI_leI (by omega) (by omega)] at h17
          have hiN : i = t := by omega
          subst hiN
          refine G_vret F Rt dX0_keepTrial_41 ⟨rfl, rfl, rfl, ?_⟩ (Nat.le_refl _) (Nat.le_refl _)
          refine ⟨?_, ?_, ?_⟩
          · intro k hk
            simp only [List.mem_cons, List.not_mem_nil, or_false, not_or] at hk
            rw [h1 k (by simp [hk.1]), fx_u_ne hk.2]
          · rw [if_pos hv, h1 20 (by decide), fx_u_eq]
          · rw [if_pos hv, h2]
        · rw [nI_leI (by omega) (by omega)] at h17
          refine G_aload_n F dX0_keepTrial_20 rfl ?_
          refine G_getr F fl_X0_35 dX0_keepTrial_21 rfl rfl ?_
          refine G_getr F fl_X0_74 dX0_keepTrial_24 rfl rfl ?_
          refine G_iload_n F dX0_keepTrial_27 rfl ?_
          refine G_aload_n F dX0_keepTrial_28 rfl ?_
          refine G_getr F fl_X0_28 dX0_keepTrial_29 rfl rfl ?_
          refine G_iload_n F dX0_keepTrial_32 rfl ?_
          refine G_ialdN F dX0_keepTrial_33 rfl (by omega) (by decide) ?_
          refine G_iastN F dX0_keepTrial_34 rfl (by omega) (by decide) ?_
          refine G_iinc F (1) dX0_keepTrial_35 rfl rfl rfl rfl ?_
          simp only [List.set_cons_zero, List.set_cons_succ, nI_1]
          refine G_goto (tgt := 15) F dX0_keepTrial_38 (by decide) ?_
          exact ih (t - (i + 1)) (by omega) (i + 1) _ rfl (by omega) (h1.u (by decide)) (by
            rw [fx_u_eq, h2, h1 26 (by decide), fx_u_ne (by decide)]
            funext j
            simp only [upd]
            by_cases e : j = i
            · subst e; simp
            · by_cases e2 : j < i
              · simp only [if_neg e, if_pos e2, if_pos (show j < i + 1 by omega)]
              · simp only [if_neg e, if_neg e2, if_neg (show ¬ j < i + 1 by omega)])
    refine G_aload_n F dX0_keepTrial_8 rfl ?_
    refine G_iload_n F dX0_keepTrial_9 rfl ?_
    refine G_puti F fl_X0_52 dX0_keepTrial_10 rfl rfl rfl rfl ?_
    refine G_iconst (v := nI 0) F dX0_keepTrial_13 (by decide) ?_
    refine G_istore_n F 3 dX0_keepTrial_14 rfl rfl rfl (Nat.le_of_ble_eq_true rfl) ?_
    simp only [List.set_cons_zero, List.set_cons_succ]
    exact lp t 0 _ rfl (by omega) fr.rfl (by rw [fx_u_ne (by decide)]; funext j; simp)
set_option maxRecDepth 20000 in
theorem s_search1 {l : Launch} {Z : fx_Z} (hl : l.stackTraces = false) (ad : Nat → Nat) (sw : Bool) (tl : List fx_Sh) {N k0 : Nat} (ho : Nat → Bool) (IH : ∀ k1, k0 = k1 + 1 → ∀ (t : Nat) (p : Nat → Nat) (tk c : Int32) (M : fx_M), M 1 8 = nI N → M 20 3 = nI (hcn ho N) → (∀ x, x < N → M 21 x = (if ho x then 1 else 0)) → t + k1 = 7 → 1 ≤ t → (∀ j, j < t → M 26 j = nI (p j) ∧ p j < N) → CV l Z yX0_search (.code yX0_search cX0_search 6 none) (2 + k1) [.ref (ad 20), .int (nI t), .int tk, .int c] ad (c_C sw ++ tl) M (fun m => fr [11, 20, 26] M m ∧ (∀ j, j ≠ 12 → m 20 j = M 20 j) ∧ (∀ j, j < t → m 26 j = M 26 j) ∧ (m 20 12, m 11) = sr N (hcn ho N) ho (pf_cc (M 3) (M 4) (M 5) (M 8) (M 9)) k1 t p tk c (M 20 12, M 11))) (t : Nat) (p : Nat → Nat) (tk c : Int32) (M : fx_M) (hN : M 1 8 = nI N) (hN16 : N ≤ 16) (hh : M 20 3 = nI (hcn ho N)) (e21 : ∀ x, x < N → M 21 x = (if ho x then 1 else 0)) (htk : t + k0 = 7) (ht1 : 1 ≤ t) (hp : ∀ j, j < t → M 26 j = nI (p j) ∧ p j < N) :
    CV l Z yX0_search (.code yX0_search cX0_search 6 none) (2 + k0) [.ref (ad 20), .int (nI t), .int tk, .int c] ad (c_C sw ++ tl) M (fun m => fr [11, 20, 26] M m ∧ (∀ j, j ≠ 12 → m 20 j = M 20 j) ∧ (∀ j, j < t → m 26 j = M 26 j) ∧ (m 20 12, m 11) = sr N (hcn ho N) ho (pf_cc (M 3) (M 4) (M 5) (M 8) (M 9)) k0 t p tk c (M 20 12, M 11)) := by
  refine CT_of (ret := none) (lv0 := [some (.ref (ad 20)), some (.int (nI t)), some (.int tk), some (.int c), none, none]) (by decide +kernel) hl (by simp [Value.category]) (Nat.le_of_ble_eq_true rfl) rfl ?_
  intro X F Rt _
  have hle0 := hcn_le (ho := ho) N
  refine G_iload_n F dX0_search_0 rfl ?_
  refine G_iconst (v := nI 1) F dX0_search_1 (by decide) ?_
  refine G_icmp_lt (tgt := 19) F dX0_search_2 (by decide) (fun h2 => ?_) (fun h2 => ?_)
  · rw [nI_ltI (by omega) (by omega)] at h2
    exact absurd h2 (by omega) --stop
  · skip
    refine G_iload_n F dX0_search_5 rfl ?_
    refine G_bipush (v := nI 7) F dX0_search_6 (by decide) ?_
    refine G_icmp_gt (tgt := 19) F dX0_search_8 (by decide) (fun h8 => ?_) (fun h8 => ?_)
    · rw [nI_ltI (by omega) (by omega)] at h8
      exact absurd h8 (by omega) --stop
    · skip
      refine G_iload_n F dX0_search_11 rfl ?_
      refine G_aload_n F dX0_search_12 rfl ?_
      refine G_geti F fl_X0_52 dX0_search_13 rfl rfl ?_
      refine G_icmp_lt (tgt := 20) F dX0_search_16 (by decide) (fun h16 => ?_) (fun h16 => ?_)
      · have hlt : c < M 20 12 := h16
        refine G_aload_n F dX0_search_20 rfl ?_
        refine G_getr F fl_X0_28 dX0_search_21 rfl rfl ?_
        refine G_iload_n F dX0_search_24 rfl ?_
        refine G_iconst (v := nI 1) F dX0_search_25 (by decide) ?_
        refine G_isub F dX0_search_26 ?_
        rw [nI_sub (by omega)]
        refine G_ialdN F dX0_search_27 rfl (by omega) (by decide) ?_
        rw [(hp (t - 1) (by omega)).1]
        refine G_istore F dX0_search_28 rfl rfl (Nat.le_of_ble_eq_true rfl) ?_
        simp only [List.set_cons_zero, List.set_cons_succ]
        refine G_iload_n F dX0_search_30 rfl ?_
        refine G_aload_n F dX0_search_31 rfl ?_
        refine G_geti F fl_X0_39 dX0_search_32 rfl rfl ?_
        rw [hh]
        refine G_icmp_ge (tgt := 44) F dX0_search_35 (by decide) (fun h35 => ?_) (fun h35 => ?_)
        · rw [nI_leI (by omega) (by omega)] at h35
          have hst : hcn ho N ≤ t ∨ k0 = 0 := Or.inl h35
          refine G_aload_n F dX0_search_44 rfl ?_
          refine G_iload_n F dX0_search_45 rfl ?_
          refine G_iload_n F dX0_search_46 rfl ?_
          refine G_aload_n F dX0_search_47 rfl ?_
          refine G_getr F fl_X0_31 dX0_search_48 rfl rfl ?_
          refine G_iload F dX0_search_51 rfl ?_
          refine G_iconst (v := -1) F dX0_search_53 rfl ?_
          refine G_vI F mv_X0_112 dX0_search_54 (s_costOf hl ad sw tl M (b := p (t - 1)) (-1) (by have := (hp (t - 1) (by omega)).2; omega)) rfl rfl rfl rfl (by simp [Value.category]) ⟨by show 1 + 8 + 1 ≤ 2 + k0 + 8; omega, by show 8 + (4 + 11) + (32 * (1) + 160) ≤ 32 * (2 + k0) + 160; omega, Nat.le_refl _, Nat.le_refl _⟩ (fun r54 M54 h54 => ?_)
          rw [h54.1, h54.2]
          refine G_iadd F dX0_search_57 ?_
          refine G_vv F mv_X0_135 dX0_search_58 (s_keepTrial hl ad sw tl M (t := t) (c + (pf_cc (M 3) (M 4) (M 5) (M 8) (M 9)) (p (t - 1)) (-1)) (by omega)) rfl rfl rfl rfl (Nat.le_of_ble_eq_true rfl) ⟨by show 0 + 8 + 1 ≤ 2 + k0 + 8; omega, by show 8 + (4 + 11) + (32 * (0) + 160) ≤ 32 * (2 + k0) + 160; omega, Nat.le_refl _, Nat.le_refl _⟩ (fun M58 h58 => ?_)
          skip
          refine G_vret F Rt dX0_search_61 ⟨rfl, rfl, rfl, ?_⟩ (Nat.le_refl _) (Nat.le_refl _)
          refine ⟨fun k hk => ?_, fun j hj => ?_, fun j hj => ?_, ?_⟩
          · simp only [List.mem_cons, List.not_mem_nil, or_false, not_or] at hk
            exact h58.1 k (by simp [hk.1, hk.2.1])
          · rw [h58.2.1]; split
            · simp [upd, hj]
            · rfl
          · rw [h58.1 26 (by decide)]
          · rw [sr_eq, if_pos hlt, if_pos hst, h58.2.1, h58.2.2]
            unfold kp
            dsimp only
            split
            · rw [upd_self]
              congr 1
              funext j
              split
              · rename_i hj
                exact (hp j hj).1
              · rfl
            · rfl
        · rw [nI_leI (by omega) (by omega)] at h35
          refine G_iload_n F dX0_search_38 rfl ?_
          refine G_bipush (v := nI 7) F dX0_search_39 (by decide) ?_
          refine G_icmp_ne (tgt := 62) F dX0_search_41 (by decide) (fun h41 => ?_) (fun h41 => ?_)
          · have hst : ¬ (hcn ho N ≤ t ∨ k0 = 0) := fun q => q.elim (fun z => h35 z) (fun z => h41 (by rw [show t = 7 from by omega]))
            have hN1 : 1 ≤ N := by have := (hp 0 (by omega)).2; omega
            have lp : ∀ (k : Nat) (i : Nat) (M' : fx_M), k = N - i → 1 ≤ i → i ≤ N → fr [11, 20, 26] M M' → (∀ j, j ≠ 12 → M' 20 j = M 20 j) → (∀ j, j < t → M' 26 j = M 26 j) → (M' 20 12, M' 11) = fl (fun b y => if 1 ≤ b ∧ ho b = true ∧ bt tk b = false then sr N (hcn ho N) ho (pf_cc (M 3) (M 4) (M 5) (M 8) (M 9)) (k0 - 1) (t + 1) (fun j => if j = t then b else p j) (tk ||| (1 : Int32) <<< (nI b &&& 31)) (c + (pf_cc (M 3) (M 4) (M 5) (M 8) (M 9)) (p (t - 1)) (nI b)) y else y) i (M 20 12, M 11) → GG X ad 65 [some (.ref (ad 20)), some (.int (nI t)), some (.int tk), some (.int c), some (.int (nI (p (t - 1)))), some (.int (nI i))] [] 0 0 (c_C sw ++ tl) M' := by
              intro k
              induction k using Nat.strongRecOn with
              | _ k ih =>
                intro i M' hk hi1 hi g1 g2 g3 g4
                have hN1 : M' 1 8 = nI N := by rw [g1 1 (by decide)]; exact hN
                refine G_iload F dX0_search_65 rfl ?_
                refine G_aload_n F dX0_search_67 rfl ?_
                refine G_getr F fl_X0_31 dX0_search_68 rfl rfl ?_
                refine G_geti F fl_X0_43 dX0_search_71 rfl rfl ?_
                rw [hN1]
                refine G_icmp_ge (tgt := 136) F dX0_search_74 (by decide) (fun h74 => ?_) (fun h74 => ?_)
                · rw [nI_leI (by omega) (by omega)] at h74
                  have hiN : i = N := by omega
                  subst hiN
                  refine G_vret F Rt dX0_search_136 ⟨rfl, rfl, rfl, ?_⟩ (Nat.le_refl _) (Nat.le_refl _)
                  refine ⟨g1, g2, g3, ?_⟩
                  rw [g4, sr_eq, if_pos hlt, if_neg hst]
                · rw [nI_leI (by omega) (by omega)] at h74
                  refine G_aload_n F dX0_search_77 rfl ?_
                  refine G_getr F fl_X0_9 dX0_search_78 rfl rfl ?_
                  refine G_iload F dX0_search_81 rfl ?_
                  refine G_zaldN F dX0_search_83 rfl (by omega) (by decide) ?_
                  rw [g1 21 (by decide), e21 i (by omega)]
                  refine G_if_eq (tgt := 130) F dX0_search_84 (by decide) (fun h84 => ?_) (fun h84 => ?_)
                  · have b84 : ho i = false := by simpa using h84
                    refine G_iinc F (1) dX0_search_130 rfl rfl rfl rfl ?_
                    simp only [List.set_cons_zero, List.set_cons_succ, nI_1]
                    refine G_goto (tgt := 65) F dX0_search_133 (by decide) ?_
                    exact ih (N - (i + 1)) (by omega) (i + 1) _ rfl (by omega) (by omega) g1 g2 g3 (by simp only [fl, b84, Bool.false_eq_true, false_and, and_false, if_false]; exact g4)
                  · have b84 : ho i = true := by simpa using h84
                    refine G_iload_n F dX0_search_87 rfl ?_
                    refine G_iload F dX0_search_88 rfl ?_
                    refine G_ishr F dX0_search_90 ?_
                    rw [nI_sh (by omega)]
                    refine G_iconst (v := 1) F dX0_search_91 rfl ?_
                    refine G_iand F dX0_search_92 ?_
                    refine G_if_ne (tgt := 130) F dX0_search_93 (by decide) (fun h93 => ?_) (fun h93 => ?_)
                    · have b93 : bt tk i = true := by
                        rcases and1 (tk >>> nI i) with z | z
                        · exact absurd z h93
                        · exact bt_true.mpr z
                      refine G_iinc F (1) dX0_search_130 rfl rfl rfl rfl ?_
                      simp only [List.set_cons_zero, List.set_cons_succ, nI_1]
                      refine G_goto (tgt := 65) F dX0_search_133 (by decide) ?_
                      exact ih (N - (i + 1)) (by omega) (i + 1) _ rfl (by omega) (by omega) g1 g2 g3 (by simp only [fl, b93, Bool.true_eq_false, and_false, if_false]; exact g4)
                    · have b93 : bt tk i = false := bt_false.mpr h93
                      refine G_aload_n F dX0_search_96 rfl ?_
                      refine G_getr F fl_X0_28 dX0_search_97 rfl rfl ?_
                      refine G_iload_n F dX0_search_100 rfl ?_
                      refine G_iload F dX0_search_101 rfl ?_
                      refine G_iastN F dX0_search_103 rfl (by omega) (by decide) ?_
                      refine G_aload_n F dX0_search_104 rfl ?_
                      refine G_iload_n F dX0_search_105 rfl ?_
                      refine G_iconst (v := 1) F dX0_search_106 rfl ?_
                      refine G_iadd F dX0_search_107 ?_
                      rw [nI_1]
                      refine G_iload_n F dX0_search_108 rfl ?_
                      refine G_iconst (v := 1) F dX0_search_109 rfl ?_
                      refine G_iload F dX0_search_110 rfl ?_
                      refine G_ishl F dX0_search_112 ?_
                      refine G_ior F dX0_search_113 ?_
                      refine G_iload_n F dX0_search_114 rfl ?_
                      refine G_aload_n F dX0_search_115 rfl ?_
                      refine G_getr F fl_X0_31 dX0_search_116 rfl rfl ?_
                      refine G_iload F dX0_search_119 rfl ?_
                      refine G_iload F dX0_search_121 rfl ?_
                      refine G_vI F mv_X0_112 dX0_search_123 (s_costOf hl ad sw tl _ (b := p (t - 1)) (nI i) (by have := (hp (t - 1) (by omega)).2; omega)) rfl rfl rfl rfl (by simp [Value.category]) ⟨by show 1 + 8 + 1 ≤ 2 + k0 + 8; omega, by show 8 + (4 + 11) + (32 * (1) + 160) ≤ 32 * (2 + k0) + 160; omega, Nat.le_refl _, Nat.le_refl _⟩ (fun r123 M123 h123 => ?_)
                      rw [h123.1, h123.2, fx_u_ne (by decide), fx_u_ne (by decide), fx_u_ne (by decide), fx_u_ne (by decide), fx_u_ne (by decide), g1 3 (by decide), g1 4 (by decide), g1 5 (by decide), g1 8 (by decide), g1 9 (by decide)]
                      have hC := IH (k0 - 1) (by omega) (t + 1) (fun j => if j = t then i else p j) (tk ||| (1 : Int32) <<< (nI i &&& 31)) (c + (pf_cc (M 3) (M 4) (M 5) (M 8) (M 9)) (p (t - 1)) (nI i)) (fx_u M' 26 t (nI i)) (by rw [fx_u_ne (by decide)]; exact hN1) (by rw [fx_u_ne (by decide), g2 3 (by decide)]; exact hh) (fun x hx => by rw [fx_u_ne (by decide), g1 21 (by decide)]; exact e21 x hx) (by omega) (by omega) (fun j hj => by
                        rw [fx_u_at]
                        by_cases e : j = t
                        · rw [if_pos ⟨rfl, e⟩, if_pos e]; exact ⟨rfl, by omega⟩
                        · rw [if_neg (fun q => e q.2), if_neg e, g3 j (by omega)]; exact hp j (by omega))
                      rw [show fx_u M' 26 t (nI i) 3 = M 3 from by rw [fx_u_ne (by decide), g1 3 (by decide)], show fx_u M' 26 t (nI i) 4 = M 4 from by rw [fx_u_ne (by decide), g1 4 (by decide)], show fx_u M' 26 t (nI i) 5 = M 5 from by rw [fx_u_ne (by decide), g1 5 (by decide)], show fx_u M' 26 t (nI i) 8 = M 8 from by rw [fx_u_ne (by decide), g1 8 (by decide)], show fx_u M' 26 t (nI i) 9 = M 9 from by rw [fx_u_ne (by decide), g1 9 (by decide)]] at hC
                      refine G_iadd F dX0_search_126 ?_
                      refine G_vv F mv_X0_55 dX0_search_127 (hC) rfl rfl rfl rfl (Nat.le_of_ble_eq_true rfl) ⟨by show 2 + (k0 - 1) + 8 + 1 ≤ 2 + k0 + 8; omega, by show 8 + (6 + 11) + (32 * (2 + (k0 - 1)) + 160) ≤ 32 * (2 + k0) + 160; omega, Nat.le_refl _, Nat.le_refl _⟩ (fun M127 h127 => ?_)
                      obtain ⟨k1, k2, k3, k4⟩ := h127
                      refine G_iinc F (1) dX0_search_130 rfl rfl rfl rfl ?_
                      simp only [List.set_cons_zero, List.set_cons_succ, nI_1]
                      refine G_goto (tgt := 65) F dX0_search_133 (by decide) ?_
                      exact ih (N - (i + 1)) (by omega) (i + 1) _ rfl (by omega) (by omega) (fun k hk => by
                        rw [k1 k hk, fx_u_ne (fun e => hk (by rw [e]; decide))]; exact g1 k hk) (fun j hj => by rw [k2 j hj, fx_u_ne (by decide)]; exact g2 j hj) (fun j hj => by
                        rw [k3 j (by omega), fx_u_at, if_neg (fun q => absurd q.2 (by omega))]; exact g3 j hj) (by
                        rw [k4, fx_u_ne (a := 20) (by decide), fx_u_ne (a := 11) (by decide), g4]
                        simp only [fl, b84, b93, hi1, true_and, and_self, if_true])
            refine G_iconst (v := nI 1) F dX0_search_62 (by decide) ?_
            refine G_istore F dX0_search_63 rfl rfl (Nat.le_of_ble_eq_true rfl) ?_
            simp only [List.set_cons_zero, List.set_cons_succ]
            refine lp (N - 1) 1 M rfl (Nat.le_refl 1) hN1 fr.rfl (fun _ _ => rfl) (fun _ _ => rfl) ?_
            simp [fl]
          · have h41b : nI t = nI 7 := h41
            rw [nI_eq (by omega) (by omega)] at h41b
            have hst : hcn ho N ≤ t ∨ k0 = 0 := Or.inr (by omega)
            refine G_aload_n F dX0_search_44 rfl ?_
            refine G_iload_n F dX0_search_45 rfl ?_
            refine G_iload_n F dX0_search_46 rfl ?_
            refine G_aload_n F dX0_search_47 rfl ?_
            refine G_getr F fl_X0_31 dX0_search_48 rfl rfl ?_
            refine G_iload F dX0_search_51 rfl ?_
            refine G_iconst (v := -1) F dX0_search_53 rfl ?_
            refine G_vI F mv_X0_112 dX0_search_54 (s_costOf hl ad sw tl M (b := p (t - 1)) (-1) (by have := (hp (t - 1) (by omega)).2; omega)) rfl rfl rfl rfl (by simp [Value.category]) ⟨by show 1 + 8 + 1 ≤ 2 + k0 + 8; omega, by show 8 + (4 + 11) + (32 * (1) + 160) ≤ 32 * (2 + k0) + 160; omega, Nat.le_refl _, Nat.le_refl _⟩ (fun r54 M54 h54 => ?_)
            rw [h54.1, h54.2]
            refine G_iadd F dX0_search_57 ?_
            refine G_vv F mv_X0_135 dX0_search_58 (s_keepTrial hl ad sw tl M (t := t) (c + (pf_cc (M 3) (M 4) (M 5) (M 8) (M 9)) (p (t - 1)) (-1)) (by omega)) rfl rfl rfl rfl (Nat.le_of_ble_eq_true rfl) ⟨by show 0 + 8 + 1 ≤ 2 + k0 + 8; omega, by show 8 + (4 + 11) + (32 * (0) + 160) ≤ 32 * (2 + k0) + 160; omega, Nat.le_refl _, Nat.le_refl _⟩ (fun M58 h58 => ?_)
            skip
            refine G_vret F Rt dX0_search_61 ⟨rfl, rfl, rfl, ?_⟩ (Nat.le_refl _) (Nat.le_refl _)
            refine ⟨fun k hk => ?_, fun j hj => ?_, fun j hj => ?_, ?_⟩
            · simp only [List.mem_cons, List.not_mem_nil, or_false, not_or] at hk
              exact h58.1 k (by simp [hk.1, hk.2.1])
            · rw [h58.2.1]; split
              · simp [upd, hj]
              · rfl
            · rw [h58.1 26 (by decide)]
            · rw [sr_eq, if_pos hlt, if_pos hst, h58.2.1, h58.2.2]
              unfold kp
              dsimp only
              split
              · rw [upd_self]
                congr 1
                funext j
                split
                · rename_i hj
                  exact (hp j hj).1
                · rfl
              · rfl
      · have hlt : ¬ c < M 20 12 := h16
        refine G_vret F Rt dX0_search_19 ⟨rfl, rfl, rfl, ?_⟩ (Nat.le_refl _) (Nat.le_refl _)
        exact ⟨fr.rfl, fun _ _ => rfl, fun _ _ => rfl, by rw [sr_eq, if_neg hlt]⟩
theorem s_search {l : Launch} {Z : fx_Z} (hl : l.stackTraces = false) (ad : Nat → Nat) (sw : Bool) (tl : List fx_Sh) {N : Nat} (ho : Nat → Bool) (hN16 : N ≤ 16) : ∀ (k0 : Nat) (t : Nat) (p : Nat → Nat) (tk c : Int32) (M : fx_M), M 1 8 = nI N → M 20 3 = nI (hcn ho N) → (∀ x, x < N → M 21 x = (if ho x then 1 else 0)) → t + k0 = 7 → 1 ≤ t → (∀ j, j < t → M 26 j = nI (p j) ∧ p j < N) →
    CV l Z yX0_search (.code yX0_search cX0_search 6 none) (2 + k0) [.ref (ad 20), .int (nI t), .int tk, .int c] ad (c_C sw ++ tl) M (fun m => fr [11, 20, 26] M m ∧ (∀ j, j ≠ 12 → m 20 j = M 20 j) ∧ (∀ j, j < t → m 26 j = M 26 j) ∧ (m 20 12, m 11) = sr N (hcn ho N) ho (pf_cc (M 3) (M 4) (M 5) (M 8) (M 9)) k0 t p tk c (M 20 12, M 11)) := by
  intro k0
  induction k0 with
  | zero => intro t p tk c M h1 h2 h3 h4 h5 h6; exact s_search1 hl ad sw tl ho (fun k1 h => absurd h (by omega)) t p tk c M h1 hN16 h2 h3 h4 h5 h6
  | succ k0 ih => intro t p tk c M h1 h2 h3 h4 h5 h6; exact s_search1 hl ad sw tl ho (fun k1 h => (show k0 = k1 by omega) ▸ ih) t p tk c M h1 hN16 h2 h3 h4 h5 h6
