/-! BLOCKLAYOUT: bestAlignment, executions, arrange, read -/
/-- the first place from t on, k at most, where W fails -/
def lst (W : Nat → Bool) : Nat → Nat → Nat
  | 0, t => t
  | k + 1, t => if W t = true then lst W k (t + 1) else t
theorem lst_eq {W : Nat → Bool} {T : Nat} (h2 : W T = false) : ∀ (k t : Nat), (∀ i, t ≤ i → i < T → W i = true) → t ≤ T → T < t + k → lst W k t = T := by
  intro k
  induction k with
  | zero => intro t _ h3 h4; omega
  | succ k ih =>
    intro t h1 h3 h4
    simp only [lst]
    by_cases e : t = T
    · subst e; rw [h2]; rfl
    · rw [h1 t (Nat.le_refl t) (by omega)]
      exact ih (t + 1) (fun i a b => h1 i (by omega) b) (by omega) (by omega)
section Zz
variable (kd f s cn w1 w2 : Nat → Int32) (hs : Int32) (N hot al : Nat) (rw pos sz : Nat → Nat) (lim : Int32)
/-- the round in which a layout is settled -/
def z_T : Nat := lst (y_W kd f s N hot al rw pos (l_hd hs cn lim) sz) 33 0
def z_bs : Nat → Nat := y_b (y_fm kd f s N hot rw pos) (y_I kd f s N hot al rw pos (l_hd hs cn lim) sz (z_T kd f s cn hs N hot al rw pos sz lim))
def z_en : Nat := l_be hot al rw (l_hd hs cn lim) sz (z_bs kd f s cn hs N hot al rw pos sz lim) N
def z_he : Nat := l_be hot al rw (l_hd hs cn lim) sz (z_bs kd f s cn hs N hot al rw pos sz lim) hot
def z_ad (b : Nat) : Nat := l_ad hot al rw pos (l_hd hs cn lim) sz (z_bs kd f s cn hs N hot al rw pos sz lim) b
def z_pd (b : Nat) : Nat := l_pd hot al rw pos (l_hd hs cn lim) sz (z_bs kd f s cn hs N hot al rw pos sz lim) b
def z_bb (b : Nat) : Nat := (y_I kd f s N hot al rw pos (l_hd hs cn lim) sz (z_T kd f s cn hs N hot al rw pos sz lim)).1 b
def z_jb (b : Nat) : Nat := (y_I kd f s N hot al rw pos (l_hd hs cn lim) sz (z_T kd f s cn hs N hot al rw pos sz lim)).2 b
/-- the cycles of a profile -/
def z_cy : Int32 := sm (fun b => if nI (pos b) < nI N then pf_cc kd f s w1 w2 b (l_nx N hot rw pos b) else 0) N + sm (fun b => if pf_pn (l_nx N hot rw pos) (fun x => nI (z_pd kd f s cn hs N hot al rw pos sz lim x)) b then pf_wt f s w1 w2 b (l_nx N hot rw pos b) else 0) N
end Zz
theorem y_end2 {kd f s : Nat → Int32} {N hot al : Nat} {rw pos : Nat → Nat} {hd : Nat → Bool} {sz : Nat → Nat} {T : Nat} (h1 : ∀ t, t < T → y_W kd f s N hot al rw pos hd sz t = true) : T ≤ 2 * N := y_end h1
/-- a settled layout, as numbers -/
theorem y_S_z {N hot al : Nat} {rw pos sz : Nat → Nat} {lim : Int32} {M m : fx_M} (hN : N ≤ 16) (hpm : pm N rw pos) (h : y_S N hot al rw pos sz lim M m) :
    (m 12 9 = nI (z_he (M 3) (M 4) (M 5) (M 7) (M 1 9) N hot al rw pos sz lim) ∧ m 12 10 = nI (z_en (M 3) (M 4) (M 5) (M 7) (M 1 9) N hot al rw pos sz lim)) ∧
    (∀ b, b < N → m 13 b = nI (pos b) ∧ m 14 b = l_nx N hot rw pos b ∧ m 15 b = y_fm (M 3) (M 4) (M 5) N hot rw pos b ∧ m 16 b = nI (z_bb (M 3) (M 4) (M 5) (M 7) (M 1 9) N hot al rw pos sz lim b) ∧ m 17 b = nI (z_jb (M 3) (M 4) (M 5) (M 7) (M 1 9) N hot al rw pos sz lim b) ∧ m 18 b = nI (z_ad (M 3) (M 4) (M 5) (M 7) (M 1 9) N hot al rw pos sz lim b) ∧ m 19 b = nI (z_pd (M 3) (M 4) (M 5) (M 7) (M 1 9) N hot al rw pos sz lim b)) := by
  obtain ⟨-, T, h1, h2, hP, hQ⟩ := h
  have hT : z_T (M 3) (M 4) (M 5) (M 7) (M 1 9) N hot al rw pos sz lim = T := lst_eq h2 33 0 (fun i _ b => h1 i b) (by omega) (by have := y_end2 h1; omega)
  unfold z_he z_en z_bb z_jb z_ad z_pd z_bs
  rw [hT]
  refine ⟨⟨hQ.1, hQ.2.1⟩, fun b hb => ?_⟩
  have p := hP b hb
  have q := hQ.2.2 b hb
  exact ⟨p.1, p.2.1, p.2.2.1, p.2.2.2.1, p.2.2.2.2, q.1, q.2⟩
theorem y_S_cy {N hot al : Nat} {rw pos sz : Nat → Nat} {lim : Int32} {M m : fx_M} (hN : N ≤ 16) (hpm : pm N rw pos) (h : y_S N hot al rw pos sz lim M m) :
    sm (fun b => if m 13 b < nI N then pf_cc (M 3) (M 4) (M 5) (M 8) (M 9) b (m 14 b) else 0) N + sm (fun b => if pf_pn (m 14) (m 19) b then pf_wt (M 4) (M 5) (M 8) (M 9) b (m 14 b) else 0) N = z_cy (M 3) (M 4) (M 5) (M 7) (M 8) (M 9) (M 1 9) N hot al rw pos sz lim := by
  have hz := (y_S_z hN hpm h).2
  unfold z_cy
  congr 1
  · exact sm_congr (fun b hb => by rw [(hz b hb).1, (hz b hb).2.1])
  · refine sm_congr (fun b hb => ?_)
    have e : pf_pn (m 14) (m 19) b = pf_pn (l_nx N hot rw pos) (fun x => nI (z_pd (M 3) (M 4) (M 5) (M 7) (M 1 9) N hot al rw pos sz lim x)) b := by
      unfold pf_pn
      rw [(hz b hb).2.1]
      by_cases e1 : l_nx N hot rw pos b = -1
      · simp [e1]
      · obtain ⟨x, x1, x2⟩ := l_nx_in hN hpm hb e1
        rw [x2, nI_clamp (by omega), (hz x x1).2.2.2.2.2.2]
    rw [e, (hz b hb).2.1]
/-- the best of the first k + 1 alignments, its cycles and its end -/
def ba (cy en : Nat → Int32) : Nat → Int32 × Int32 × Int32
  | 0 => (1, cy 1, en 1)
  | k + 1 => if cy (2 ^ (k + 1)) < (ba cy en k).2.1 ∨ (cy (2 ^ (k + 1)) = (ba cy en k).2.1 ∧ en (2 ^ (k + 1)) < (ba cy en k).2.2) then (nI (2 ^ (k + 1)), cy (2 ^ (k + 1)), en (2 ^ (k + 1))) else ba cy en k
theorem y_H_fr {N hot : Nat} {rw pos sz : Nat → Nat} {M m : fx_M} (h : y_H N hot rw pos sz M) (hf : fr [12, 13, 14, 15, 16, 17, 18, 19] M m) : y_H N hot rw pos sz m := by
  unfold y_H at *
  rw [hf 1 (by decide), hf 10 (by decide), hf 11 (by decide), hf 2 (by decide), hf 3 (by decide), hf 4 (by decide), hf 5 (by decide)]
  exact h
set_option maxRecDepth 20000 in
theorem s_bestAlignment {l : Launch} {Z : fx_Z} (hl : l.stackTraces = false) (ad : Nat → Nat) (sw : Bool) (tl : List fx_Sh) (M : fx_M) {N : Nat} (cy en : Nat → Int32) {hot : Nat} {rw pos sz : Nat → Nat} (hH : y_H N hot rw pos sz M) (hcy : ∀ al, cy al = z_cy (M 3) (M 4) (M 5) (M 7) (M 8) (M 9) (M 1 9) N hot al rw pos sz (M 0 7)) (hen : ∀ al, en al = nI (z_en (M 3) (M 4) (M 5) (M 7) (M 1 9) N hot al rw pos sz (M 0 7))) : CA l Z yX7_bestAlignment (.code yX7_bestAlignment cX7_bestAlignment 7 (some .int)) 5 [.ref (ad 0)] ad (c_C sw ++ tl) M (fun r m => fr [12, 13, 14, 15, 16, 17, 18, 19] M m ∧ r = (ba cy en 5).1) (fun E m => False) := by
  refine CT_of (ret := (some .int)) (lv0 := [some (.ref (ad 0)), none, none, none, none, none, none]) (by decide +kernel) hl (by simp [Value.category]) (Nat.le_of_ble_eq_true rfl) rfl ?_
  intro X F Rt _
  have hN := hH.1
  have hN16 := hH.2.1
  have hpm := hH.2.2.2.2.2.1
  have lp : ∀ (k : Nat) (k1 : Nat) (M' : fx_M), k = 6 - k1 → 1 ≤ k1 → k1 ≤ 6 → fr [12, 13, 14, 15, 16, 17, 18, 19] M M' → GG X ad 19 [some (.ref (ad 0)), some (.int (ba cy en (k1 - 1)).1), some (.int (ba cy en (k1 - 1)).2.1), some (.int (ba cy en (k1 - 1)).2.2), some (.int (nI (2 ^ k1))), none, none] [] 0 0 (c_C sw ++ tl) M' := by
    intro k
    induction k using Nat.strongRecOn with
    | _ k ih =>
      intro k1 M' hk hk1 hk6' g1
      have hp31 : 2 ^ k1 < 2 ^ 31 := Nat.pow_lt_pow_right (by omega) (by omega)
      refine G_iload F dX7_bestAlignment_19 rfl ?_
      refine G_bipush (v := nI 32) F dX7_bestAlignment_21 (by decide) ?_
      refine G_icmp_gt (tgt := 92) F dX7_bestAlignment_23 (by decide) (fun h23 => ?_) (fun h23 => ?_)
      · rw [nI_ltI (by omega) hp31] at h23
        have hk6 : k1 = 6 := by
          apply Classical.byContradiction
          intro q
          have h5 : 2 ^ k1 ≤ 2 ^ 5 := Nat.pow_le_pow_right (by omega) (by omega)
          omega
        subst hk6
        refine G_iload_n F dX7_bestAlignment_92 rfl ?_
        refine G_iret F Rt dX7_bestAlignment_93 (rfl) ⟨rfl, rfl, _, rfl, ?_⟩ (Nat.le_of_ble_eq_true rfl) (Nat.le_of_ble_eq_true rfl)
        exact ⟨g1, rfl⟩
      · rw [nI_ltI (by omega) hp31] at h23
        have hk5 : k1 ≤ 5 := by
          apply Classical.byContradiction
          intro q
          have h6 : k1 = 6 := by omega
          subst h6
          omega
        have hal : isAl (2 ^ k1) := by
          have : k1 = 1 ∨ k1 = 2 ∨ k1 = 3 ∨ k1 = 4 ∨ k1 = 5 := by omega
          rcases this with e | e | e | e | e <;> subst e <;> simp [isAl]
        refine G_aload_n F dX7_bestAlignment_26 rfl ?_
        refine G_iload F dX7_bestAlignment_27 rfl ?_
        refine G_vI F mv_X7_248 dX7_bestAlignment_29 (s_cyclesAligned hl ad sw tl M' (al := 2 ^ k1) (y_H_fr hH g1) hal (by have h5 : 2 ^ k1 ≤ 2 ^ 5 := Nat.pow_le_pow_right (by omega) (by omega); omega)) rfl rfl rfl rfl (Nat.le_of_ble_eq_true rfl) ⟨Nat.le_of_ble_eq_true rfl, Nat.le_of_ble_eq_true rfl, Nat.le_of_ble_eq_true rfl, Nat.le_of_ble_eq_true rfl⟩ (fun r29 M29 h29 => ?_)
        obtain ⟨kS, k2⟩ := h29
        have kf := kS.1
        rw [y_S_cy hN16 hpm kS] at k2
        have ke := (y_S_z hN16 hpm kS).1.2
        rw [g1 3 (by decide), g1 4 (by decide), g1 5 (by decide), g1 7 (by decide), g1 8 (by decide), g1 9 (by decide), g1 1 (by decide), g1 0 (by decide)] at k2
        rw [g1 3 (by decide), g1 4 (by decide), g1 5 (by decide), g1 7 (by decide), g1 1 (by decide), g1 0 (by decide)] at ke
        rw [← hcy] at k2
        rw [← hen] at ke
        rw [k2]
        refine G_istore F dX7_bestAlignment_32 rfl rfl (Nat.le_of_ble_eq_true rfl) ?_
        simp only [List.set_cons_zero, List.set_cons_succ]
        refine G_iload F dX7_bestAlignment_34 rfl ?_
        refine G_iload_n F dX7_bestAlignment_36 rfl ?_
        refine G_icmp_ne (tgt := 55) F dX7_bestAlignment_37 (by decide) (fun h37 => ?_) (fun h37 => ?_)
        · have q37 : ¬ cy (2 ^ k1) = (ba cy en (k1 - 1)).2.1 := h37
          refine G_iconst (v := 0) F dX7_bestAlignment_55 rfl ?_
          refine G_istore F dX7_bestAlignment_56 rfl rfl (Nat.le_of_ble_eq_true rfl) ?_
          simp only [List.set_cons_zero, List.set_cons_succ]
          refine G_iload F dX7_bestAlignment_58 rfl ?_
          refine G_iload_n F dX7_bestAlignment_60 rfl ?_
          refine G_icmp_lt (tgt := 69) F dX7_bestAlignment_61 (by decide) (fun h61 => ?_) (fun h61 => ?_)
          · have q61 : cy (2 ^ k1) < (ba cy en (k1 - 1)).2.1 := h61
            refine G_iload F dX7_bestAlignment_69 rfl ?_
            refine G_istore_n F 1 dX7_bestAlignment_71 rfl rfl rfl (Nat.le_of_ble_eq_true rfl) ?_
            simp only [List.set_cons_zero, List.set_cons_succ]
            refine G_iload F dX7_bestAlignment_72 rfl ?_
            refine G_istore_n F 2 dX7_bestAlignment_74 rfl rfl rfl (Nat.le_of_ble_eq_true rfl) ?_
            simp only [List.set_cons_zero, List.set_cons_succ]
            refine G_aload_n F dX7_bestAlignment_75 rfl ?_
            refine G_getr F fl_X7_28 dX7_bestAlignment_76 rfl rfl ?_
            refine G_geti F fl_X7_236 dX7_bestAlignment_79 rfl rfl ?_
            rw [ke]
            refine G_istore_n F 3 dX7_bestAlignment_82 rfl rfl rfl (Nat.le_of_ble_eq_true rfl) ?_
            simp only [List.set_cons_zero, List.set_cons_succ]
            refine G_iload F dX7_bestAlignment_83 rfl ?_
            refine G_iconst (v := nI 2) F dX7_bestAlignment_85 (by decide) ?_
            refine G_imul F dX7_bestAlignment_86 ?_
            refine G_istore F dX7_bestAlignment_87 rfl rfl (Nat.le_of_ble_eq_true rfl) ?_
            simp only [List.set_cons_zero, List.set_cons_succ]
            refine G_goto (tgt := 19) F dX7_bestAlignment_89 (by decide) ?_
            refine G_drop F 5 ?_
            simp only [List.set_cons_zero, List.set_cons_succ]
            refine G_drop F 6 ?_
            simp only [List.set_cons_zero, List.set_cons_succ]
            rw [nI_mul, show 2 ^ k1 * 2 = 2 ^ (k1 + 1) from by rw [Nat.pow_succ]]
            have hgo := ih (6 - (k1 + 1)) (by omega) (k1 + 1) M29 rfl (by omega) (by omega) (g1.trans kf)
            rw [show k1 + 1 - 1 = (k1 - 1) + 1 from by omega] at hgo
            simp only [ba] at hgo
            rw [show k1 - 1 + 1 = k1 from by omega] at hgo
            rw [if_pos (Or.inl q61)] at hgo
            exact hgo
          · have q61 : ¬ cy (2 ^ k1) < (ba cy en (k1 - 1)).2.1 := h61
            refine G_iload F dX7_bestAlignment_64 rfl ?_
            refine G_if_eq (tgt := 83) F dX7_bestAlignment_66 (by decide) (fun h66 => ?_) (fun h66 => ?_)
            · skip
              refine G_iload F dX7_bestAlignment_83 rfl ?_
              refine G_iconst (v := nI 2) F dX7_bestAlignment_85 (by decide) ?_
              refine G_imul F dX7_bestAlignment_86 ?_
              refine G_istore F dX7_bestAlignment_87 rfl rfl (Nat.le_of_ble_eq_true rfl) ?_
              simp only [List.set_cons_zero, List.set_cons_succ]
              refine G_goto (tgt := 19) F dX7_bestAlignment_89 (by decide) ?_
              refine G_drop F 5 ?_
              simp only [List.set_cons_zero, List.set_cons_succ]
              refine G_drop F 6 ?_
              simp only [List.set_cons_zero, List.set_cons_succ]
              rw [nI_mul, show 2 ^ k1 * 2 = 2 ^ (k1 + 1) from by rw [Nat.pow_succ]]
              have hgo := ih (6 - (k1 + 1)) (by omega) (k1 + 1) M29 rfl (by omega) (by omega) (g1.trans kf)
              rw [show k1 + 1 - 1 = (k1 - 1) + 1 from by omega] at hgo
              simp only [ba] at hgo
              rw [show k1 - 1 + 1 = k1 from by omega] at hgo
              rw [if_neg (fun q => q.elim q61 (fun q => q37 q.1))] at hgo
              exact hgo
            · exact absurd rfl h66 --stop
        · have q37 : cy (2 ^ k1) = (ba cy en (k1 - 1)).2.1 := h37
          refine G_aload_n F dX7_bestAlignment_40 rfl ?_
          refine G_getr F fl_X7_28 dX7_bestAlignment_41 rfl rfl ?_
          refine G_geti F fl_X7_236 dX7_bestAlignment_44 rfl rfl ?_
          refine G_iload_n F dX7_bestAlignment_47 rfl ?_
          rw [ke]
          refine G_icmp_ge (tgt := 55) F dX7_bestAlignment_48 (by decide) (fun h48 => ?_) (fun h48 => ?_)
          · have q48 : ¬ en (2 ^ k1) < (ba cy en (k1 - 1)).2.2 := by
              simp only [Int32.lt_iff_toInt_lt, Int32.le_iff_toInt_le] at h48 ⊢
              omega
            refine G_iconst (v := 0) F dX7_bestAlignment_55 rfl ?_
            refine G_istore F dX7_bestAlignment_56 rfl rfl (Nat.le_of_ble_eq_true rfl) ?_
            simp only [List.set_cons_zero, List.set_cons_succ]
            refine G_iload F dX7_bestAlignment_58 rfl ?_
            refine G_iload_n F dX7_bestAlignment_60 rfl ?_
            refine G_icmp_lt (tgt := 69) F dX7_bestAlignment_61 (by decide) (fun h61 => ?_) (fun h61 => ?_)
            · have q61 : cy (2 ^ k1) < (ba cy en (k1 - 1)).2.1 := h61
              refine G_iload F dX7_bestAlignment_69 rfl ?_
              refine G_istore_n F 1 dX7_bestAlignment_71 rfl rfl rfl (Nat.le_of_ble_eq_true rfl) ?_
              simp only [List.set_cons_zero, List.set_cons_succ]
              refine G_iload F dX7_bestAlignment_72 rfl ?_
              refine G_istore_n F 2 dX7_bestAlignment_74 rfl rfl rfl (Nat.le_of_ble_eq_true rfl) ?_
              simp only [List.set_cons_zero, List.set_cons_succ]
              refine G_aload_n F dX7_bestAlignment_75 rfl ?_
              refine G_getr F fl_X7_28 dX7_bestAlignment_76 rfl rfl ?_
              refine G_geti F fl_X7_236 dX7_bestAlignment_79 rfl rfl ?_
              rw [ke]
              refine G_istore_n F 3 dX7_bestAlignment_82 rfl rfl rfl (Nat.le_of_ble_eq_true rfl) ?_
              simp only [List.set_cons_zero, List.set_cons_succ]
              refine G_iload F dX7_bestAlignment_83 rfl ?_
              refine G_iconst (v := nI 2) F dX7_bestAlignment_85 (by decide) ?_
              refine G_imul F dX7_bestAlignment_86 ?_
              refine G_istore F dX7_bestAlignment_87 rfl rfl (Nat.le_of_ble_eq_true rfl) ?_
              simp only [List.set_cons_zero, List.set_cons_succ]
              refine G_goto (tgt := 19) F dX7_bestAlignment_89 (by decide) ?_
              refine G_drop F 5 ?_
              simp only [List.set_cons_zero, List.set_cons_succ]
              refine G_drop F 6 ?_
              simp only [List.set_cons_zero, List.set_cons_succ]
              rw [nI_mul, show 2 ^ k1 * 2 = 2 ^ (k1 + 1) from by rw [Nat.pow_succ]]
              have hgo := ih (6 - (k1 + 1)) (by omega) (k1 + 1) M29 rfl (by omega) (by omega) (g1.trans kf)
              rw [show k1 + 1 - 1 = (k1 - 1) + 1 from by omega] at hgo
              simp only [ba] at hgo
              rw [show k1 - 1 + 1 = k1 from by omega] at hgo
              rw [if_pos (Or.inl q61)] at hgo
              exact hgo
            · have q61 : ¬ cy (2 ^ k1) < (ba cy en (k1 - 1)).2.1 := h61
              refine G_iload F dX7_bestAlignment_64 rfl ?_
              refine G_if_eq (tgt := 83) F dX7_bestAlignment_66 (by decide) (fun h66 => ?_) (fun h66 => ?_)
              · skip
                refine G_iload F dX7_bestAlignment_83 rfl ?_
                refine G_iconst (v := nI 2) F dX7_bestAlignment_85 (by decide) ?_
                refine G_imul F dX7_bestAlignment_86 ?_
                refine G_istore F dX7_bestAlignment_87 rfl rfl (Nat.le_of_ble_eq_true rfl) ?_
                simp only [List.set_cons_zero, List.set_cons_succ]
                refine G_goto (tgt := 19) F dX7_bestAlignment_89 (by decide) ?_
                refine G_drop F 5 ?_
                simp only [List.set_cons_zero, List.set_cons_succ]
                refine G_drop F 6 ?_
                simp only [List.set_cons_zero, List.set_cons_succ]
                rw [nI_mul, show 2 ^ k1 * 2 = 2 ^ (k1 + 1) from by rw [Nat.pow_succ]]
                have hgo := ih (6 - (k1 + 1)) (by omega) (k1 + 1) M29 rfl (by omega) (by omega) (g1.trans kf)
                rw [show k1 + 1 - 1 = (k1 - 1) + 1 from by omega] at hgo
                simp only [ba] at hgo
                rw [show k1 - 1 + 1 = k1 from by omega] at hgo
                rw [if_neg (fun q => q.elim q61 (fun q => q48 q.2))] at hgo
                exact hgo
              · exact absurd rfl h66 --stop
          · have q48 : en (2 ^ k1) < (ba cy en (k1 - 1)).2.2 := by
              simp only [Int32.lt_iff_toInt_lt, Int32.le_iff_toInt_le] at h48 ⊢
              omega
            refine G_iconst (v := 1) F dX7_bestAlignment_51 rfl ?_
            refine G_goto (tgt := 56) F dX7_bestAlignment_52 (by decide) ?_
            refine G_istore F dX7_bestAlignment_56 rfl rfl (Nat.le_of_ble_eq_true rfl) ?_
            simp only [List.set_cons_zero, List.set_cons_succ]
            refine G_iload F dX7_bestAlignment_58 rfl ?_
            refine G_iload_n F dX7_bestAlignment_60 rfl ?_
            refine G_icmp_lt (tgt := 69) F dX7_bestAlignment_61 (by decide) (fun h61 => ?_) (fun h61 => ?_)
            · have q61 : cy (2 ^ k1) < (ba cy en (k1 - 1)).2.1 := h61
              refine G_iload F dX7_bestAlignment_69 rfl ?_
              refine G_istore_n F 1 dX7_bestAlignment_71 rfl rfl rfl (Nat.le_of_ble_eq_true rfl) ?_
              simp only [List.set_cons_zero, List.set_cons_succ]
              refine G_iload F dX7_bestAlignment_72 rfl ?_
              refine G_istore_n F 2 dX7_bestAlignment_74 rfl rfl rfl (Nat.le_of_ble_eq_true rfl) ?_
              simp only [List.set_cons_zero, List.set_cons_succ]
              refine G_aload_n F dX7_bestAlignment_75 rfl ?_
              refine G_getr F fl_X7_28 dX7_bestAlignment_76 rfl rfl ?_
              refine G_geti F fl_X7_236 dX7_bestAlignment_79 rfl rfl ?_
              rw [ke]
              refine G_istore_n F 3 dX7_bestAlignment_82 rfl rfl rfl (Nat.le_of_ble_eq_true rfl) ?_
              simp only [List.set_cons_zero, List.set_cons_succ]
              refine G_iload F dX7_bestAlignment_83 rfl ?_
              refine G_iconst (v := nI 2) F dX7_bestAlignment_85 (by decide) ?_
              refine G_imul F dX7_bestAlignment_86 ?_
              refine G_istore F dX7_bestAlignment_87 rfl rfl (Nat.le_of_ble_eq_true rfl) ?_
              simp only [List.set_cons_zero, List.set_cons_succ]
              refine G_goto (tgt := 19) F dX7_bestAlignment_89 (by decide) ?_
              refine G_drop F 5 ?_
              simp only [List.set_cons_zero, List.set_cons_succ]
              refine G_drop F 6 ?_
              simp only [List.set_cons_zero, List.set_cons_succ]
              rw [nI_mul, show 2 ^ k1 * 2 = 2 ^ (k1 + 1) from by rw [Nat.pow_succ]]
              have hgo := ih (6 - (k1 + 1)) (by omega) (k1 + 1) M29 rfl (by omega) (by omega) (g1.trans kf)
              rw [show k1 + 1 - 1 = (k1 - 1) + 1 from by omega] at hgo
              simp only [ba] at hgo
              rw [show k1 - 1 + 1 = k1 from by omega] at hgo
              rw [if_pos (Or.inl q61)] at hgo
              exact hgo
            · have q61 : ¬ cy (2 ^ k1) < (ba cy en (k1 - 1)).2.1 := h61
              refine G_iload F dX7_bestAlignment_64 rfl ?_
              refine G_if_eq (tgt := 83) F dX7_bestAlignment_66 (by decide) (fun h66 => ?_) (fun h66 => ?_)
              · exact absurd h66 (by decide) --stop
              · skip
                refine G_iload F dX7_bestAlignment_69 rfl ?_
                refine G_istore_n F 1 dX7_bestAlignment_71 rfl rfl rfl (Nat.le_of_ble_eq_true rfl) ?_
                simp only [List.set_cons_zero, List.set_cons_succ]
                refine G_iload F dX7_bestAlignment_72 rfl ?_
                refine G_istore_n F 2 dX7_bestAlignment_74 rfl rfl rfl (Nat.le_of_ble_eq_true rfl) ?_
                simp only [List.set_cons_zero, List.set_cons_succ]
                refine G_aload_n F dX7_bestAlignment_75 rfl ?_
                refine G_getr F fl_X7_28 dX7_bestAlignment_76 rfl rfl ?_
                refine G_geti F fl_X7_236 dX7_bestAlignment_79 rfl rfl ?_
                rw [ke]
                refine G_istore_n F 3 dX7_bestAlignment_82 rfl rfl rfl (Nat.le_of_ble_eq_true rfl) ?_
                simp only [List.set_cons_zero, List.set_cons_succ]
                refine G_iload F dX7_bestAlignment_83 rfl ?_
                refine G_iconst (v := nI 2) F dX7_bestAlignment_85 (by decide) ?_
                refine G_imul F dX7_bestAlignment_86 ?_
                refine G_istore F dX7_bestAlignment_87 rfl rfl (Nat.le_of_ble_eq_true rfl) ?_
                simp only [List.set_cons_zero, List.set_cons_succ]
                refine G_goto (tgt := 19) F dX7_bestAlignment_89 (by decide) ?_
                refine G_drop F 5 ?_
                simp only [List.set_cons_zero, List.set_cons_succ]
                refine G_drop F 6 ?_
                simp only [List.set_cons_zero, List.set_cons_succ]
                rw [nI_mul, show 2 ^ k1 * 2 = 2 ^ (k1 + 1) from by rw [Nat.pow_succ]]
                have hgo := ih (6 - (k1 + 1)) (by omega) (k1 + 1) M29 rfl (by omega) (by omega) (g1.trans kf)
                rw [show k1 + 1 - 1 = (k1 - 1) + 1 from by omega] at hgo
                simp only [ba] at hgo
                rw [show k1 - 1 + 1 = k1 from by omega] at hgo
                rw [if_pos (Or.inr ⟨q37, q48⟩)] at hgo
                exact hgo
  refine G_iconst (v := 1) F dX7_bestAlignment_0 rfl ?_
  refine G_istore_n F 1 dX7_bestAlignment_1 rfl rfl rfl (Nat.le_of_ble_eq_true rfl) ?_
  simp only [List.set_cons_zero, List.set_cons_succ]
  refine G_aload_n F dX7_bestAlignment_2 rfl ?_
  refine G_iconst (v := nI 1) F dX7_bestAlignment_3 (by decide) ?_
  refine G_vI F mv_X7_248 dX7_bestAlignment_4 (s_cyclesAligned hl ad sw tl M (al := 1) hH (by simp [isAl]) (by decide)) rfl rfl rfl rfl (Nat.le_of_ble_eq_true rfl) ⟨Nat.le_of_ble_eq_true rfl, Nat.le_of_ble_eq_true rfl, Nat.le_of_ble_eq_true rfl, Nat.le_of_ble_eq_true rfl⟩ (fun r4 M4 h4 => ?_)
  obtain ⟨kS, k2⟩ := h4
  have kf := kS.1
  rw [y_S_cy hN16 hpm kS] at k2
  have ke := (y_S_z hN16 hpm kS).1.2
  rw [← hcy] at k2
  rw [← hen] at ke
  rw [k2]
  refine G_istore_n F 2 dX7_bestAlignment_7 rfl rfl rfl (Nat.le_of_ble_eq_true rfl) ?_
  simp only [List.set_cons_zero, List.set_cons_succ]
  refine G_aload_n F dX7_bestAlignment_8 rfl ?_
  refine G_getr F fl_X7_28 dX7_bestAlignment_9 rfl rfl ?_
  refine G_geti F fl_X7_236 dX7_bestAlignment_12 rfl rfl ?_
  rw [ke]
  refine G_istore_n F 3 dX7_bestAlignment_15 rfl rfl rfl (Nat.le_of_ble_eq_true rfl) ?_
  simp only [List.set_cons_zero, List.set_cons_succ]
  refine G_iconst (v := nI 2) F dX7_bestAlignment_16 (by decide) ?_
  refine G_istore F dX7_bestAlignment_17 rfl rfl (Nat.le_of_ble_eq_true rfl) ?_
  simp only [List.set_cons_zero, List.set_cons_succ]
  exact lp 5 1 M4 rfl (by omega) (by omega) kf
