/-! THE REFERENCE: loop heads -/
theorem alw_1 (t : Nat) : alw t &&& 1 = if t = 0 then 0 else 1 := by
  apply bt_ext
  intro b hb
  rw [bt_and hb, bt_alw hb, bt_one hb]
  by_cases e : t = 0
  · rw [if_pos e, bt_zero]
    by_cases e2 : b = 0 <;> simp [e, e2]
  · rw [if_neg e, bt_one hb]
    by_cases e2 : b = 0
    · have : 0 ≠ t := fun q => e q.symm
      simp [e2, this]
    · simp [e2]
theorem woI_0 {t : Nat} : woI t = 0 ↔ t = 0 := by
  unfold woI
  by_cases h : t < 16
  · rw [if_pos h, ← nI_0]; exact nI_eq (by omega) (by omega)
  · rw [if_neg h]
    exact ⟨fun q => absurd q (by decide), fun q => by omega⟩
theorem alw_in {t N : Nat} (hN : 1 ≤ N) : ∀ b, N ≤ b → b < 32 → bt (alw t &&& 1) b = false := by
  intro b h1 h2
  rw [bt_and h2, bt_one h2, decide_eq_false (show ¬ b = 0 by omega), Bool.and_false]
set_option maxRecDepth 20000 in
theorem t_reached {l : Launch} {Z : fx_Z} (hl : l.stackTraces = false) (ad : Nat → Nat) (sw : Bool) (tl : List fx_Sh) (M : fx_M) {N t : Nat} (hN : M 37 0 = nI N) (hN16 : N ≤ 16) (hN1 : 1 ≤ N) (hv : pv N (M 39) (M 40) (M 41)) : CI l Z yX8_reached (.code yX8_reached cX8_reached 6 (some .int)) 0 [.ref (ad 37), .int (woI t)] ad (c_C sw ++ (m_C ++ tl)) M (fun r m => r = rc (pf_tg (M 40) (M 41)) (alw t) N N (alw t &&& 1) ∧ m = M) := by
  refine CT_of (ret := (some .int)) (lv0 := [some (.ref (ad 37)), some (.int (woI t)), none, none, none, none]) (by decide +kernel) hl (by simp [Value.category]) (Nat.le_of_ble_eq_true rfl) rfl ?_
  intro X F Rt _
  have lp : ∀ (k : Nat) (j : Nat), k = N + 1 - j → (∀ i, i < j → (rpi (pf_tg (M 40) (M 41)) (alw t) N (alw t &&& 1) (i + 1)) ≠ (rpi (pf_tg (M 40) (M 41)) (alw t) N (alw t &&& 1) i)) → GG X ad 12 [some (.ref (ad 37)), some (.int (woI t)), some (.int (rpi (pf_tg (M 40) (M 41)) (alw t) N (alw t &&& 1) j)), some (.int 1), none, none] [] 0 0 (c_C sw ++ (m_C ++ tl)) M := by
    intro k
    induction k using Nat.strongRecOn with
    | _ k ih =>
      intro j hk hun
      have hjN := rpi_le (al := (alw t)) hN16 (tg_in hN16 hv) (alw_in (t := t) hN1) hun
      have tfin : ∀ v : Int32, v = rc (pf_tg (M 40) (M 41)) (alw t) N N (alw t &&& 1) → GG X ad 12 [some (.ref (ad 37)), some (.int (woI t)), some (.int v), some (.int 0), none, none] [] 0 0 (c_C sw ++ (m_C ++ tl)) M := by
        intro v hv9
        refine G_iload_n F dX8_reached_12 rfl ?_
        refine G_if_eq (tgt := 140) F dX8_reached_13 (by decide) (fun h13 => ?_) (fun h13 => ?_)
        · refine G_iload_n F dX8_reached_140 rfl ?_
          refine G_iret F Rt dX8_reached_141 (rfl) ⟨rfl, rfl, _, rfl, ?_⟩ (Nat.le_refl _) (Nat.le_refl _)
          exact ⟨hv9, rfl⟩
        · exact absurd rfl h13 --stop
      have lp2 : ∀ (k : Nat) (i : Nat), k = N - i → i ≤ N → GG X ad 22 [some (.ref (ad 37)), some (.int (woI t)), some (.int (rp (pf_tg (M 40) (M 41)) (alw t) (rpi (pf_tg (M 40) (M 41)) (alw t) N (alw t &&& 1) j) i)), some (.int 1), some (.int (rpi (pf_tg (M 40) (M 41)) (alw t) N (alw t &&& 1) j)), some (.int (nI i))] [] 0 0 (c_C sw ++ (m_C ++ tl)) M := by
        intro k
        induction k using Nat.strongRecOn with
        | _ k ih2 =>
          intro i hk2 hi
          refine G_iload F dX8_reached_22 rfl ?_
          refine G_aload_n F dX8_reached_24 rfl ?_
          refine G_geti F fl_X8_106 dX8_reached_25 rfl rfl ?_
          rw [hN]
          refine G_icmp_ge (tgt := 125) F dX8_reached_28 (by decide) (fun h28 => ?_) (fun h28 => ?_)
          · rw [nI_leI (by omega) (by omega)] at h28
            have hiN : N = i := by omega
            subst hiN
            refine G_iload_n F dX8_reached_125 rfl ?_
            refine G_iload F dX8_reached_126 rfl ?_
            refine G_icmp_eq (tgt := 135) F dX8_reached_128 (by decide) (fun h128 => ?_) (fun h128 => ?_)
            · have hst : (rpi (pf_tg (M 40) (M 41)) (alw t) N (alw t &&& 1) (j + 1)) = (rpi (pf_tg (M 40) (M 41)) (alw t) N (alw t &&& 1) j) := h128
              refine G_drop F 4 ?_
              simp only [List.set_cons_zero, List.set_cons_succ]
              refine G_drop F 5 ?_
              simp only [List.set_cons_zero, List.set_cons_succ]
              refine G_iconst (v := 0) F dX8_reached_135 rfl ?_
              refine G_istore_n F 3 dX8_reached_136 rfl rfl rfl (Nat.le_of_ble_eq_true rfl) ?_
              simp only [List.set_cons_zero, List.set_cons_succ]
              refine G_goto (tgt := 12) F dX8_reached_137 (by decide) ?_
              exact tfin _ (Eq.trans hst (rc_rest hN16 (tg_in hN16 hv) (alw_in hN1) hun hst).symm)
            · have hst : ¬ (rpi (pf_tg (M 40) (M 41)) (alw t) N (alw t &&& 1) (j + 1)) = (rpi (pf_tg (M 40) (M 41)) (alw t) N (alw t &&& 1) j) := h128
              refine G_drop F 4 ?_
              simp only [List.set_cons_zero, List.set_cons_succ]
              refine G_drop F 5 ?_
              simp only [List.set_cons_zero, List.set_cons_succ]
              refine G_iconst (v := 1) F dX8_reached_131 rfl ?_
              refine G_goto (tgt := 136) F dX8_reached_132 (by decide) ?_
              refine G_istore_n F 3 dX8_reached_136 rfl rfl rfl (Nat.le_of_ble_eq_true rfl) ?_
              simp only [List.set_cons_zero, List.set_cons_succ]
              refine G_goto (tgt := 12) F dX8_reached_137 (by decide) ?_
              exact ih (N + 1 - (j + 1)) (by omega) (j + 1) rfl (fun i hi => by
                by_cases e : i = j
                · rw [e]; exact hst
                · exact hun i (by omega))
          · rw [nI_leI (by omega) (by omega)] at h28
            have t119 : ∀ v : Int32, v = rp (pf_tg (M 40) (M 41)) (alw t) (rpi (pf_tg (M 40) (M 41)) (alw t) N (alw t &&& 1) j) (i + 1) → GG X ad 119 [some (.ref (ad 37)), some (.int (woI t)), some (.int v), some (.int 1), some (.int (rpi (pf_tg (M 40) (M 41)) (alw t) N (alw t &&& 1) j)), some (.int (nI i))] [] 0 0 (c_C sw ++ (m_C ++ tl)) M := by
              intro v hv9
              refine G_iinc F (1) dX8_reached_119 rfl rfl rfl rfl ?_
              simp only [List.set_cons_zero, List.set_cons_succ, nI_1]
              refine G_goto (tgt := 22) F dX8_reached_122 (by decide) ?_
              rw [hv9]
              exact ih2 (N - (i + 1)) (by omega) (i + 1) rfl (by omega)
            refine G_iload_n F dX8_reached_31 rfl ?_
            refine G_iload F dX8_reached_32 rfl ?_
            refine G_ishr F dX8_reached_34 ?_
            rw [nI_sh (by omega)]
            refine G_iconst (v := 1) F dX8_reached_35 rfl ?_
            refine G_iand F dX8_reached_36 ?_
            refine G_if_ne (tgt := 43) F dX8_reached_37 (by decide) (fun h37 => ?_) (fun h37 => ?_)
            · have hbt : bt (rp (pf_tg (M 40) (M 41)) (alw t) (rpi (pf_tg (M 40) (M 41)) (alw t) N (alw t &&& 1) j) i) i = true := by
                rcases and1 ((rp (pf_tg (M 40) (M 41)) (alw t) (rpi (pf_tg (M 40) (M 41)) (alw t) N (alw t &&& 1) j) i) >>> nI i) with q | q
                · exact absurd q h37
                · exact bt_true.mpr q
              have t81 : GG X ad 81 [some (.ref (ad 37)), some (.int (woI t)), some (.int ((rp (pf_tg (M 40) (M 41)) (alw t) (rpi (pf_tg (M 40) (M 41)) (alw t) N (alw t &&& 1) j) i) ||| (if M 39 i ≠ 2 ∧ M 40 i ≠ woI t then (1 : Int32) <<< (M 40 i &&& 31) else 0))), some (.int 1), some (.int (rpi (pf_tg (M 40) (M 41)) (alw t) N (alw t &&& 1) j)), some (.int (nI i))] [] 0 0 (c_C sw ++ (m_C ++ tl)) M := by
                refine G_iload_n F dX8_reached_81 rfl ?_
                refine G_aload_n F dX8_reached_82 rfl ?_
                refine G_getr F fl_X8_20 dX8_reached_83 rfl rfl ?_
                refine G_iload F dX8_reached_86 rfl ?_
                refine G_ialdN F dX8_reached_88 rfl (by omega) (by decide) ?_
                refine G_iconst (v := 1) F dX8_reached_89 rfl ?_
                refine G_icmp_ne (tgt := 116) F dX8_reached_90 (by decide) (fun h90 => ?_) (fun h90 => ?_)
                · refine G_iconst (v := 0) F dX8_reached_116 rfl ?_
                  refine G_ior F dX8_reached_117 ?_
                  refine G_istore_n F 2 dX8_reached_118 rfl rfl rfl (Nat.le_of_ble_eq_true rfl) ?_
                  simp only [List.set_cons_zero, List.set_cons_succ]
                  exact t119 _ (by
                    have eB : (if M 39 i = 1 ∧ M 41 i ≠ woI t then (1 : Int32) <<< (M 41 i &&& 31) else 0) = 0 := if_neg (fun q => h90 q.1)
                    have q := rq_step hN16 hv (show i < N by omega) t (rp (pf_tg (M 40) (M 41)) (alw t) (rpi (pf_tg (M 40) (M 41)) (alw t) N (alw t &&& 1) j) i)
                    rw [eB] at q
                    simp only [rp, hbt, if_true]
                    exact q)
                · refine G_aload_n F dX8_reached_93 rfl ?_
                  refine G_getr F fl_X8_26 dX8_reached_94 rfl rfl ?_
                  refine G_iload F dX8_reached_97 rfl ?_
                  refine G_ialdN F dX8_reached_99 rfl (by omega) (by decide) ?_
                  refine G_iload_n F dX8_reached_100 rfl ?_
                  refine G_icmp_eq (tgt := 116) F dX8_reached_101 (by decide) (fun h101 => ?_) (fun h101 => ?_)
                  · refine G_iconst (v := 0) F dX8_reached_116 rfl ?_
                    refine G_ior F dX8_reached_117 ?_
                    refine G_istore_n F 2 dX8_reached_118 rfl rfl rfl (Nat.le_of_ble_eq_true rfl) ?_
                    simp only [List.set_cons_zero, List.set_cons_succ]
                    exact t119 _ (by
                      have eB : (if M 39 i = 1 ∧ M 41 i ≠ woI t then (1 : Int32) <<< (M 41 i &&& 31) else 0) = 0 := if_neg (fun q => q.2 h101)
                      have q := rq_step hN16 hv (show i < N by omega) t (rp (pf_tg (M 40) (M 41)) (alw t) (rpi (pf_tg (M 40) (M 41)) (alw t) N (alw t &&& 1) j) i)
                      rw [eB] at q
                      simp only [rp, hbt, if_true]
                      exact q)
                  · refine G_iconst (v := 1) F dX8_reached_104 rfl ?_
                    refine G_aload_n F dX8_reached_105 rfl ?_
                    refine G_getr F fl_X8_26 dX8_reached_106 rfl rfl ?_
                    refine G_iload F dX8_reached_109 rfl ?_
                    refine G_ialdN F dX8_reached_111 rfl (by omega) (by decide) ?_
                    refine G_ishl F dX8_reached_112 ?_
                    refine G_goto (tgt := 117) F dX8_reached_113 (by decide) ?_
                    refine G_ior F dX8_reached_117 ?_
                    refine G_istore_n F 2 dX8_reached_118 rfl rfl rfl (Nat.le_of_ble_eq_true rfl) ?_
                    simp only [List.set_cons_zero, List.set_cons_succ]
                    exact t119 _ (by
                      have eB : (if M 39 i = 1 ∧ M 41 i ≠ woI t then (1 : Int32) <<< (M 41 i &&& 31) else 0) = (1 : Int32) <<< (M 41 i &&& 31) := if_pos ⟨h90, h101⟩
                      have q := rq_step hN16 hv (show i < N by omega) t (rp (pf_tg (M 40) (M 41)) (alw t) (rpi (pf_tg (M 40) (M 41)) (alw t) N (alw t &&& 1) j) i)
                      rw [eB] at q
                      simp only [rp, hbt, if_true]
                      exact q)
              have t43 : GG X ad 43 [some (.ref (ad 37)), some (.int (woI t)), some (.int (rp (pf_tg (M 40) (M 41)) (alw t) (rpi (pf_tg (M 40) (M 41)) (alw t) N (alw t &&& 1) j) i)), some (.int 1), some (.int (rpi (pf_tg (M 40) (M 41)) (alw t) N (alw t &&& 1) j)), some (.int (nI i))] [] 0 0 (c_C sw ++ (m_C ++ tl)) M := by
                refine G_iload_n F dX8_reached_43 rfl ?_
                refine G_aload_n F dX8_reached_44 rfl ?_
                refine G_getr F fl_X8_20 dX8_reached_45 rfl rfl ?_
                refine G_iload F dX8_reached_48 rfl ?_
                refine G_ialdN F dX8_reached_50 rfl (by omega) (by decide) ?_
                refine G_iconst (v := 2) F dX8_reached_51 rfl ?_
                refine G_icmp_eq (tgt := 78) F dX8_reached_52 (by decide) (fun h52 => ?_) (fun h52 => ?_)
                · refine G_iconst (v := 0) F dX8_reached_78 rfl ?_
                  refine G_ior F dX8_reached_79 ?_
                  refine G_istore_n F 2 dX8_reached_80 rfl rfl rfl (Nat.le_of_ble_eq_true rfl) ?_
                  simp only [List.set_cons_zero, List.set_cons_succ]
                  have eA : (if M 39 i ≠ 2 ∧ M 40 i ≠ woI t then (1 : Int32) <<< (M 40 i &&& 31) else 0) = 0 := if_neg (fun q => q.1 h52)
                  rw [eA] at t81
                  exact t81
                · refine G_aload_n F dX8_reached_55 rfl ?_
                  refine G_getr F fl_X8_23 dX8_reached_56 rfl rfl ?_
                  refine G_iload F dX8_reached_59 rfl ?_
                  refine G_ialdN F dX8_reached_61 rfl (by omega) (by decide) ?_
                  refine G_iload_n F dX8_reached_62 rfl ?_
                  refine G_icmp_eq (tgt := 78) F dX8_reached_63 (by decide) (fun h63 => ?_) (fun h63 => ?_)
                  · refine G_iconst (v := 0) F dX8_reached_78 rfl ?_
                    refine G_ior F dX8_reached_79 ?_
                    refine G_istore_n F 2 dX8_reached_80 rfl rfl rfl (Nat.le_of_ble_eq_true rfl) ?_
                    simp only [List.set_cons_zero, List.set_cons_succ]
                    have eA : (if M 39 i ≠ 2 ∧ M 40 i ≠ woI t then (1 : Int32) <<< (M 40 i &&& 31) else 0) = 0 := if_neg (fun q => q.2 h63)
                    rw [eA] at t81
                    exact t81
                  · refine G_iconst (v := 1) F dX8_reached_66 rfl ?_
                    refine G_aload_n F dX8_reached_67 rfl ?_
                    refine G_getr F fl_X8_23 dX8_reached_68 rfl rfl ?_
                    refine G_iload F dX8_reached_71 rfl ?_
                    refine G_ialdN F dX8_reached_73 rfl (by omega) (by decide) ?_
                    refine G_ishl F dX8_reached_74 ?_
                    refine G_goto (tgt := 79) F dX8_reached_75 (by decide) ?_
                    refine G_ior F dX8_reached_79 ?_
                    refine G_istore_n F 2 dX8_reached_80 rfl rfl rfl (Nat.le_of_ble_eq_true rfl) ?_
                    simp only [List.set_cons_zero, List.set_cons_succ]
                    have eA : (if M 39 i ≠ 2 ∧ M 40 i ≠ woI t then (1 : Int32) <<< (M 40 i &&& 31) else 0) = (1 : Int32) <<< (M 40 i &&& 31) := if_pos ⟨h52, h63⟩
                    rw [eA] at t81
                    exact t81
              exact t43 --stop
            · have hbt : bt (rp (pf_tg (M 40) (M 41)) (alw t) (rpi (pf_tg (M 40) (M 41)) (alw t) N (alw t &&& 1) j) i) i = false := bt_false.mpr h37
              refine G_goto (tgt := 119) F dX8_reached_40 (by decide) ?_
              exact t119 _ (by simp only [rp, hbt, Bool.false_eq_true, if_false])
      refine G_iload_n F dX8_reached_12 rfl ?_
      refine G_if_eq (tgt := 140) F dX8_reached_13 (by decide) (fun h13 => ?_) (fun h13 => ?_)
      · exact absurd h13 (by decide) --stop
      · refine G_iload_n F dX8_reached_16 rfl ?_
        refine G_istore F dX8_reached_17 rfl rfl (Nat.le_of_ble_eq_true rfl) ?_
        simp only [List.set_cons_zero, List.set_cons_succ]
        refine G_iconst (v := nI 0) F dX8_reached_19 (by decide) ?_
        refine G_istore F dX8_reached_20 rfl rfl (Nat.le_of_ble_eq_true rfl) ?_
        simp only [List.set_cons_zero, List.set_cons_succ]
        exact lp2 N 0 rfl (by omega)
  refine G_iload_n F dX8_reached_0 rfl ?_
  refine G_if_ne (tgt := 8) F dX8_reached_1 (by decide) (fun h1 => ?_) (fun h1 => ?_)
  · have h1t : ¬ t = 0 := fun q => h1 (woI_0.mpr q)
    refine G_iconst (v := 1) F dX8_reached_8 rfl ?_
    refine G_istore_n F 2 dX8_reached_9 rfl rfl rfl (Nat.le_of_ble_eq_true rfl) ?_
    simp only [List.set_cons_zero, List.set_cons_succ]
    refine G_iconst (v := 1) F dX8_reached_10 rfl ?_
    refine G_istore_n F 3 dX8_reached_11 rfl rfl rfl (Nat.le_of_ble_eq_true rfl) ?_
    simp only [List.set_cons_zero, List.set_cons_succ]
    have q := lp (N + 1) 0 rfl (fun i hi => absurd hi (by omega))
    have e : (rpi (pf_tg (M 40) (M 41)) (alw t) N (alw t &&& 1) 0) = 1 := by
      show (alw t &&& 1) = _
      rw [alw_1]
      first | rw [if_pos h1t] | rw [if_neg h1t]
    rw [e] at q
    exact q
  · have h1t : t = 0 := woI_0.mp (by simpa using h1)
    refine G_iconst (v := 0) F dX8_reached_4 rfl ?_
    refine G_goto (tgt := 9) F dX8_reached_5 (by decide) ?_
    refine G_istore_n F 2 dX8_reached_9 rfl rfl rfl (Nat.le_of_ble_eq_true rfl) ?_
    simp only [List.set_cons_zero, List.set_cons_succ]
    refine G_iconst (v := 1) F dX8_reached_10 rfl ?_
    refine G_istore_n F 3 dX8_reached_11 rfl rfl rfl (Nat.le_of_ble_eq_true rfl) ?_
    simp only [List.set_cons_zero, List.set_cons_succ]
    have q := lp (N + 1) 0 rfl (fun i hi => absurd hi (by omega))
    have e : (rpi (pf_tg (M 40) (M 41)) (alw t) N (alw t &&& 1) 0) = 0 := by
      show (alw t &&& 1) = _
      rw [alw_1]
      first | rw [if_pos h1t] | rw [if_neg h1t]
    rw [e] at q
    exact q
theorem dgo {N : Nat} {kd f s : Nat → Int32} (hN : N ≤ 16) (hv : pv N kd f s) {b h : Nat} (hb : b < N) (hh : h < N) : ((kd b ≠ 2 ∧ f b = nI h) ∨ (kd b = 1 ∧ s b = nI h)) ↔ bt (pf_tg f s b) h = true := by
  rw [bt_tg hN hv hb (by omega), Bool.or_eq_true, decide_eq_true_eq, decide_eq_true_eq]
  rcases hv b hb with ⟨p1, p2, p3⟩ | ⟨p1, p2, p3⟩ | ⟨p1, p2, p3, p4⟩
  · rw [p2, p3, p1]
    refine ⟨fun q => q.elim (fun q => absurd rfl q.1) (fun q => absurd q.1 (by decide)), fun q => q.elim (fun q => absurd q.symm (nI_m1 (by omega))) (fun q => absurd q.symm (nI_m1 (by omega)))⟩
  · rw [p3, p1]
    refine ⟨fun q => q.elim (fun q => Or.inl q.2) (fun q => absurd q.1 (by decide)), fun q => q.elim (fun q => Or.inl ⟨by decide, q⟩) (fun q => absurd q.symm (nI_m1 (by omega)))⟩
  · rw [p1]
    refine ⟨fun q => q.elim (fun q => Or.inl q.2) (fun q => Or.inr q.2), fun q => q.elim (fun q => Or.inl ⟨by decide, q⟩) (fun q => Or.inr ⟨rfl, q⟩)⟩
set_option maxRecDepth 20000 in
theorem t_doesGo {l : Launch} {Z : fx_Z} (hl : l.stackTraces = false) (ad : Nat → Nat) (sw : Bool) (tl : List fx_Sh) (M : fx_M) {N b h : Nat} (hN : M 37 0 = nI N) (hN16 : N ≤ 16) (hN1 : 1 ≤ N) (hv : pv N (M 39) (M 40) (M 41)) (hb : b < N) (hh : h < N) : CI l Z yX8_doesGo (.code yX8_doesGo cX8_doesGo 3 (some .boolean)) 0 [.ref (ad 37), .int (nI b), .int (nI h)] ad (c_C sw ++ (m_C ++ tl)) M (fun r m => r = (if bt ((pf_tg (M 40) (M 41)) b) h then 1 else 0) ∧ m = M) := by
  refine CT_of (ret := (some .boolean)) (lv0 := [some (.ref (ad 37)), some (.int (nI b)), some (.int (nI h))]) (by decide +kernel) hl (by simp [Value.category]) (Nat.le_of_ble_eq_true rfl) rfl ?_
  intro X F Rt _
  have e := dgo hN16 hv hb hh
  refine G_aload_n F dX8_doesGo_0 rfl ?_
  refine G_getr F fl_X8_20 dX8_doesGo_1 rfl rfl ?_
  refine G_iload_n F dX8_doesGo_4 rfl ?_
  refine G_ialdN F dX8_doesGo_5 rfl (by omega) (by decide) ?_
  refine G_iconst (v := 2) F dX8_doesGo_6 rfl ?_
  refine G_icmp_eq (tgt := 20) F dX8_doesGo_7 (by decide) (fun h7 => ?_) (fun h7 => ?_)
  · refine G_aload_n F dX8_doesGo_20 rfl ?_
    refine G_getr F fl_X8_20 dX8_doesGo_21 rfl rfl ?_
    refine G_iload_n F dX8_doesGo_24 rfl ?_
    refine G_ialdN F dX8_doesGo_25 rfl (by omega) (by decide) ?_
    refine G_iconst (v := 1) F dX8_doesGo_26 rfl ?_
    refine G_icmp_ne (tgt := 44) F dX8_doesGo_27 (by decide) (fun h27 => ?_) (fun h27 => ?_)
    · refine G_iconst (v := 0) F dX8_doesGo_44 rfl ?_
      refine G_iret F Rt dX8_doesGo_45 (rfl) ⟨rfl, rfl, _, rfl, ?_⟩ (Nat.le_refl _) (Nat.le_refl _)
      refine ⟨?_, rfl⟩
      clear F Rt
      rw [if_neg (fun q => by have := e.mpr q; simp_all)]
    · refine G_aload_n F dX8_doesGo_30 rfl ?_
      refine G_getr F fl_X8_26 dX8_doesGo_31 rfl rfl ?_
      refine G_iload_n F dX8_doesGo_34 rfl ?_
      refine G_ialdN F dX8_doesGo_35 rfl (by omega) (by decide) ?_
      refine G_iload_n F dX8_doesGo_36 rfl ?_
      refine G_icmp_ne (tgt := 44) F dX8_doesGo_37 (by decide) (fun h37 => ?_) (fun h37 => ?_)
      · refine G_iconst (v := 0) F dX8_doesGo_44 rfl ?_
        refine G_iret F Rt dX8_doesGo_45 (rfl) ⟨rfl, rfl, _, rfl, ?_⟩ (Nat.le_refl _) (Nat.le_refl _)
        refine ⟨?_, rfl⟩
        clear F Rt
        rw [if_neg (fun q => by have := e.mpr q; simp_all)]
      · refine G_iconst (v := 1) F dX8_doesGo_40 rfl ?_
        refine G_goto (tgt := 45) F dX8_doesGo_41 (by decide) ?_
        refine G_iret F Rt dX8_doesGo_45 (rfl) ⟨rfl, rfl, _, rfl, ?_⟩ (Nat.le_refl _) (Nat.le_refl _)
        refine ⟨?_, rfl⟩
        clear F Rt
        rw [if_pos (e.mp (by simp_all))]
  · refine G_aload_n F dX8_doesGo_10 rfl ?_
    refine G_getr F fl_X8_23 dX8_doesGo_11 rfl rfl ?_
    refine G_iload_n F dX8_doesGo_14 rfl ?_
    refine G_ialdN F dX8_doesGo_15 rfl (by omega) (by decide) ?_
    refine G_iload_n F dX8_doesGo_16 rfl ?_
    refine G_icmp_eq (tgt := 40) F dX8_doesGo_17 (by decide) (fun h17 => ?_) (fun h17 => ?_)
    · refine G_iconst (v := 1) F dX8_doesGo_40 rfl ?_
      refine G_goto (tgt := 45) F dX8_doesGo_41 (by decide) ?_
      refine G_iret F Rt dX8_doesGo_45 (rfl) ⟨rfl, rfl, _, rfl, ?_⟩ (Nat.le_refl _) (Nat.le_refl _)
      refine ⟨?_, rfl⟩
      clear F Rt
      rw [if_pos (e.mp (by simp_all))]
    · refine G_aload_n F dX8_doesGo_20 rfl ?_
      refine G_getr F fl_X8_20 dX8_doesGo_21 rfl rfl ?_
      refine G_iload_n F dX8_doesGo_24 rfl ?_
      refine G_ialdN F dX8_doesGo_25 rfl (by omega) (by decide) ?_
      refine G_iconst (v := 1) F dX8_doesGo_26 rfl ?_
      refine G_icmp_ne (tgt := 44) F dX8_doesGo_27 (by decide) (fun h27 => ?_) (fun h27 => ?_)
      · refine G_iconst (v := 0) F dX8_doesGo_44 rfl ?_
        refine G_iret F Rt dX8_doesGo_45 (rfl) ⟨rfl, rfl, _, rfl, ?_⟩ (Nat.le_refl _) (Nat.le_refl _)
        refine ⟨?_, rfl⟩
        clear F Rt
        rw [if_neg (fun q => by have := e.mpr q; simp_all)]
      · refine G_aload_n F dX8_doesGo_30 rfl ?_
        refine G_getr F fl_X8_26 dX8_doesGo_31 rfl rfl ?_
        refine G_iload_n F dX8_doesGo_34 rfl ?_
        refine G_ialdN F dX8_doesGo_35 rfl (by omega) (by decide) ?_
        refine G_iload_n F dX8_doesGo_36 rfl ?_
        refine G_icmp_ne (tgt := 44) F dX8_doesGo_37 (by decide) (fun h37 => ?_) (fun h37 => ?_)
        · refine G_iconst (v := 0) F dX8_doesGo_44 rfl ?_
          refine G_iret F Rt dX8_doesGo_45 (rfl) ⟨rfl, rfl, _, rfl, ?_⟩ (Nat.le_refl _) (Nat.le_refl _)
          refine ⟨?_, rfl⟩
          clear F Rt
          rw [if_neg (fun q => by have := e.mpr q; simp_all)]
        · refine G_iconst (v := 1) F dX8_doesGo_40 rfl ?_
          refine G_goto (tgt := 45) F dX8_doesGo_41 (by decide) ?_
          refine G_iret F Rt dX8_doesGo_45 (rfl) ⟨rfl, rfl, _, rfl, ?_⟩ (Nat.le_refl _) (Nat.le_refl _)
          refine ⟨?_, rfl⟩
          clear F Rt
          rw [if_pos (e.mp (by simp_all))]
theorem hds_bt {tg : Nat → Int32} {N : Nat} : ∀ n, n ≤ 16 → ∀ b, b < 32 → bt (hds tg N n) b = (decide (b < n) && ag tg (rc tg (alw 16) N N (alw 16 &&& 1) &&& (rc tg (alw b) N N (alw b &&& 1) ^^^ -1)) b N) := by
  intro n
  induction n with
  | zero => intro _ b hb; simp only [hds, bt_zero]; rfl
  | succ n ih =>
    intro hn b hb
    have e16 : alw 16 = 65535 := by decide
    have en : alw n = 65535 &&& ((1 : Int32) <<< (nI n &&& 31) ^^^ -1) := by unfold alw; rw [if_pos (by omega)]
    simp only [hds]
    rw [← en, ← e16]
    by_cases e : b = n
    · subst e
      split
      · rename_i h
        rw [bt_or hb, bt_sh (by omega) hb, h]; simp
      · rename_i h
        rw [ih (by omega) b hb, decide_eq_false (Nat.lt_irrefl b), Bool.false_and]
        rw [Bool.not_eq_true] at h
        rw [h, Bool.and_false]
    · have e2 : decide (b < n + 1) = decide (b < n) := by simp only [decide_eq_decide]; omega
      rw [e2]
      split
      · rw [bt_or hb, bt_sh (by omega) hb, decide_eq_false e, Bool.or_false]; exact ih (by omega) b hb
      · exact ih (by omega) b hb
set_option maxRecDepth 20000 in
theorem t_isHead {l : Launch} {Z : fx_Z} (hl : l.stackTraces = false) (ad : Nat → Nat) (sw : Bool) (tl : List fx_Sh) (M : fx_M) {N h : Nat} (hN : M 37 0 = nI N) (hN16 : N ≤ 16) (hN1 : 1 ≤ N) (hv : pv N (M 39) (M 40) (M 41)) (hh : h < N) : CI l Z yX8_isHead (.code yX8_isHead cX8_isHead 5 (some .boolean)) 1 [.ref (ad 37), .int (nI h)] ad (c_C sw ++ (m_C ++ tl)) M (fun r m => r = (if ag (pf_tg (M 40) (M 41)) (rc (pf_tg (M 40) (M 41)) (alw 16) N N (alw 16 &&& 1) &&& (rc (pf_tg (M 40) (M 41)) (alw h) N N (alw h &&& 1) ^^^ -1)) h N then 1 else 0) ∧ m = M) := by
  refine CT_of (ret := (some .boolean)) (lv0 := [some (.ref (ad 37)), some (.int (nI h)), none, none, none]) (by decide +kernel) hl (by simp [Value.category]) (Nat.le_of_ble_eq_true rfl) rfl ?_
  intro X F Rt _
  have hfr := t_reached (Z := Z) hl ad sw tl M (N := N) (t := h) hN hN16 hN1 hv
  rw [show woI h = nI h from by unfold woI; rw [if_pos (by omega)]] at hfr
  have lp : ∀ (k : Nat) (i : Nat), k = N - i → i ≤ N → ag (pf_tg (M 40) (M 41)) (rc (pf_tg (M 40) (M 41)) (alw 16) N N (alw 16 &&& 1) &&& (rc (pf_tg (M 40) (M 41)) (alw h) N N (alw h &&& 1) ^^^ -1)) h i = false → GG X ad 15 [some (.ref (ad 37)), some (.int (nI h)), some (.int (rc (pf_tg (M 40) (M 41)) (alw 16) N N (alw 16 &&& 1))), some (.int (rc (pf_tg (M 40) (M 41)) (alw h) N N (alw h &&& 1))), some (.int (nI i))] [] 0 0 (c_C sw ++ (m_C ++ tl)) M := by
    intro k
    induction k using Nat.strongRecOn with
    | _ k ih =>
      intro i hk hi hag
      refine G_iload F dX8_isHead_15 rfl ?_
      refine G_aload_n F dX8_isHead_17 rfl ?_
      refine G_geti F fl_X8_106 dX8_isHead_18 rfl rfl ?_
      rw [hN]
      refine G_icmp_ge (tgt := 61) F dX8_isHead_21 (by decide) (fun h21 => ?_) (fun h21 => ?_)
      · rw [nI_leI (by omega) (by omega)] at h21
        have hiN : i = N := by omega
        subst hiN
        refine G_iconst (v := 0) F dX8_isHead_61 rfl ?_
        refine G_iret F Rt dX8_isHead_62 (rfl) ⟨rfl, rfl, _, rfl, ?_⟩ (Nat.le_refl _) (Nat.le_refl _)
        exact ⟨by rw [hag]; rfl, rfl⟩
      · rw [nI_leI (by omega) (by omega)] at h21
        refine G_iload_n F dX8_isHead_24 rfl ?_
        refine G_iload F dX8_isHead_25 rfl ?_
        refine G_ishr F dX8_isHead_27 ?_
        rw [nI_sh (by omega)]
        refine G_iconst (v := 1) F dX8_isHead_28 rfl ?_
        refine G_iand F dX8_isHead_29 ?_
        refine G_iconst (v := 1) F dX8_isHead_30 rfl ?_
        refine G_icmp_ne (tgt := 55) F dX8_isHead_31 (by decide) (fun h31 => ?_) (fun h31 => ?_)
        · have c1 : bt (rc (pf_tg (M 40) (M 41)) (alw 16) N N (alw 16 &&& 1)) i = false := by
            rcases and1 ((rc (pf_tg (M 40) (M 41)) (alw 16) N N (alw 16 &&& 1)) >>> nI i) with q | q
            · exact bt_false.mpr q
            · exact absurd q h31
          refine G_iinc F (1) dX8_isHead_55 rfl rfl rfl rfl ?_
          simp only [List.set_cons_zero, List.set_cons_succ, nI_1]
          refine G_goto (tgt := 15) F dX8_isHead_58 (by decide) ?_
          exact ih (N - (i + 1)) (by omega) (i + 1) rfl (by omega) (by simp only [ag, hag, Bool.false_or]; rw [bt_and (by omega), bt_not (by omega)]; rw [c1]; rfl)
        · have c1 : bt (rc (pf_tg (M 40) (M 41)) (alw 16) N N (alw 16 &&& 1)) i = true := bt_true.mpr h31
          refine G_iload_n F dX8_isHead_34 rfl ?_
          refine G_iload F dX8_isHead_35 rfl ?_
          refine G_ishr F dX8_isHead_37 ?_
          rw [nI_sh (by omega)]
          refine G_iconst (v := 1) F dX8_isHead_38 rfl ?_
          refine G_iand F dX8_isHead_39 ?_
          refine G_if_ne (tgt := 55) F dX8_isHead_40 (by decide) (fun h40 => ?_) (fun h40 => ?_)
          · have c2 : bt (rc (pf_tg (M 40) (M 41)) (alw h) N N (alw h &&& 1)) i = true := by
              rcases and1 ((rc (pf_tg (M 40) (M 41)) (alw h) N N (alw h &&& 1)) >>> nI i) with q | q
              · exact absurd q h40
              · exact bt_true.mpr q
            refine G_iinc F (1) dX8_isHead_55 rfl rfl rfl rfl ?_
            simp only [List.set_cons_zero, List.set_cons_succ, nI_1]
            refine G_goto (tgt := 15) F dX8_isHead_58 (by decide) ?_
            exact ih (N - (i + 1)) (by omega) (i + 1) rfl (by omega) (by simp only [ag, hag, Bool.false_or]; rw [bt_and (by omega), bt_not (by omega)]; rw [c1, c2]; rfl)
          · have c2 : bt (rc (pf_tg (M 40) (M 41)) (alw h) N N (alw h &&& 1)) i = false := bt_false.mpr h40
            refine G_aload_n F dX8_isHead_43 rfl ?_
            refine G_iload F dX8_isHead_44 rfl ?_
            refine G_iload_n F dX8_isHead_46 rfl ?_
            refine G_vI F mv_X8_134 dX8_isHead_47 (t_doesGo hl ad sw tl M (N := N) (b := i) (h := h) hN hN16 hN1 hv (by omega) hh) rfl rfl rfl rfl (Nat.le_of_ble_eq_true rfl) ⟨Nat.le_of_ble_eq_true rfl, Nat.le_of_ble_eq_true rfl, Nat.le_of_ble_eq_true rfl, Nat.le_of_ble_eq_true rfl⟩ (fun r47 M47 h47 => ?_)
            rw [h47.1, h47.2]
            refine G_if_eq (tgt := 55) F dX8_isHead_50 (by decide) (fun h50 => ?_) (fun h50 => ?_)
            · have c3 : bt ((pf_tg (M 40) (M 41)) i) h = false := by simpa using h50
              refine G_iinc F (1) dX8_isHead_55 rfl rfl rfl rfl ?_
              simp only [List.set_cons_zero, List.set_cons_succ, nI_1]
              refine G_goto (tgt := 15) F dX8_isHead_58 (by decide) ?_
              exact ih (N - (i + 1)) (by omega) (i + 1) rfl (by omega) (by simp only [ag, hag, Bool.false_or]; rw [bt_and (by omega), bt_not (by omega)]; rw [c3, Bool.and_false])
            · have c3 : bt ((pf_tg (M 40) (M 41)) i) h = true := by simpa using h50
              refine G_iconst (v := 1) F dX8_isHead_53 rfl ?_
              refine G_iret F Rt dX8_isHead_54 (rfl) ⟨rfl, rfl, _, rfl, ?_⟩ (Nat.le_refl _) (Nat.le_refl _)
              exact ⟨by rw [if_pos (ag_true (show i < N by omega) (by rw [bt_and (by omega), bt_not (by omega), c1, c2]; rfl) c3)], rfl⟩
  refine G_aload_n F dX8_isHead_0 rfl ?_
  refine G_iconst (v := -1) F dX8_isHead_1 rfl ?_
  refine G_vI F mv_X8_130 dX8_isHead_2 (t_reached hl ad sw tl M (N := N) (t := 16) hN hN16 hN1 hv) rfl rfl rfl rfl (Nat.le_of_ble_eq_true rfl) ⟨Nat.le_of_ble_eq_true rfl, Nat.le_of_ble_eq_true rfl, Nat.le_of_ble_eq_true rfl, Nat.le_of_ble_eq_true rfl⟩ (fun r2 M2 h2 => ?_)
  rw [h2.1, h2.2]
  refine G_istore_n F 2 dX8_isHead_5 rfl rfl rfl (Nat.le_of_ble_eq_true rfl) ?_
  simp only [List.set_cons_zero, List.set_cons_succ]
  refine G_aload_n F dX8_isHead_6 rfl ?_
  refine G_iload_n F dX8_isHead_7 rfl ?_
  refine G_vI F mv_X8_130 dX8_isHead_8 (hfr) rfl rfl rfl rfl (Nat.le_of_ble_eq_true rfl) ⟨Nat.le_of_ble_eq_true rfl, Nat.le_of_ble_eq_true rfl, Nat.le_of_ble_eq_true rfl, Nat.le_of_ble_eq_true rfl⟩ (fun r8 M8 h8 => ?_)
  rw [h8.1, h8.2]
  refine G_istore_n F 3 dX8_isHead_11 rfl rfl rfl (Nat.le_of_ble_eq_true rfl) ?_
  simp only [List.set_cons_zero, List.set_cons_succ]
  refine G_iconst (v := nI 0) F dX8_isHead_12 (by decide) ?_
  refine G_istore F dX8_isHead_13 rfl rfl (Nat.le_of_ble_eq_true rfl) ?_
  simp only [List.set_cons_zero, List.set_cons_succ]
  exact lp N 0 rfl (by omega) rfl
/-- isHead, as the class keeps it -/
theorem t_isHeadB {l : Launch} {Z : fx_Z} (hl : l.stackTraces = false) (ad : Nat → Nat) (sw : Bool) (tl : List fx_Sh) (M : fx_M) {N h : Nat} (hN : M 37 0 = nI N) (hN16 : N ≤ 16) (hN1 : 1 ≤ N) (hv : pv N (M 39) (M 40) (M 41)) (hh : h < N) : CI l Z yX8_isHead (.code yX8_isHead cX8_isHead 5 (some .boolean)) 1 [.ref (ad 37), .int (nI h)] ad (c_C sw ++ (m_C ++ tl)) M (fun r m => r = (if bt (hds (pf_tg (M 40) (M 41)) N N) h then 1 else 0) ∧ m = M) :=
  (t_isHead hl ad sw tl M hN hN16 hN1 hv hh).mono (fun r m q => ⟨by rw [q.1, hds_bt N hN16 h (by omega), decide_eq_true hh, Bool.true_and], q.2⟩)
