/-! PLACEMENT: settle -/
theorem l_bbN (fm : Int32) : l_bb fm = nI (if fm = 2 ∨ fm = 3 ∨ fm = 4 then 2 else 0) := by
  unfold l_bb
  split <;> rfl
theorem l_jbN (fm : Int32) : l_jb fm = nI (if fm = 1 ∨ fm = 4 then 2 else 0) := by
  unfold l_jb
  split <;> rfl
def y_fm (kd f s : Nat → Int32) (N hot : Nat) (rw pos : Nat → Nat) (b : Nat) : Int32 := pf_form kd f s b (l_nx N hot rw pos b)
def y_tb (f s : Nat → Int32) (fm : Nat → Int32) (b : Nat) : Nat := (if fm b = 3 then s b else f b).toNatClampNeg
def y_tj (f s : Nat → Int32) (fm : Nat → Int32) (b : Nat) : Nat := (if fm b = 1 then f b else s b).toNatClampNeg
theorem y_tgt {N : Nat} {kd f s : Nat → Int32} (hN : N ≤ 16) (hv : pv N kd f s) {b : Nat} (hb : b < N) (x : Int32) : ((pf_form kd f s b x = 2 ∨ pf_form kd f s b x = 3 ∨ pf_form kd f s b x = 4) → ∃ t, t < N ∧ (if pf_form kd f s b x = 3 then s b else f b) = nI t) ∧ ((pf_form kd f s b x = 1 ∨ pf_form kd f s b x = 4) → ∃ t, t < N ∧ (if pf_form kd f s b x = 1 then f b else s b) = nI t) := by
  rcases hv b hb with ⟨h1, -, -⟩ | ⟨h1, h2, -⟩ | ⟨h1, h2, h3, -⟩
  · have e : pf_form kd f s b x = 5 := by simp [pf_form, h1]
    rw [e]; exact ⟨fun q => absurd q (by decide), fun q => absurd q (by decide)⟩
  · have e : pf_form kd f s b x = 0 ∨ pf_form kd f s b x = 1 := by by_cases q : f b = x <;> simp [pf_form, h1, q]
    rcases e with e | e <;> rw [e]
    · exact ⟨fun q => absurd q (by decide), fun q => absurd q (by decide)⟩
    · exact ⟨fun q => absurd q (by decide), fun _ => by simpa using h2⟩
  · constructor
    · intro _
      split
      · exact h3
      · exact h2
    · intro _
      split
      · exact h2
      · exact h3
theorem y_tbN {N hot : Nat} {rw pos : Nat → Nat} {kd f s : Nat → Int32} (hN : N ≤ 16) (hv : pv N kd f s) {b : Nat} (hb : b < N) (h : y_fm kd f s N hot rw pos b = 2 ∨ y_fm kd f s N hot rw pos b = 3 ∨ y_fm kd f s N hot rw pos b = 4) : y_tb f s (y_fm kd f s N hot rw pos) b < N ∧ (if y_fm kd f s N hot rw pos b = 3 then s b else f b) = nI (y_tb f s (y_fm kd f s N hot rw pos) b) := by
  obtain ⟨t, h1, h2⟩ := (y_tgt hN hv hb (l_nx N hot rw pos b)).1 h
  have h3 : (if y_fm kd f s N hot rw pos b = 3 then s b else f b) = nI t := h2
  unfold y_tb
  rw [h3, nI_clamp (by omega)]
  exact ⟨h1, rfl⟩
theorem y_tjN {N hot : Nat} {rw pos : Nat → Nat} {kd f s : Nat → Int32} (hN : N ≤ 16) (hv : pv N kd f s) {b : Nat} (hb : b < N) (h : y_fm kd f s N hot rw pos b = 1 ∨ y_fm kd f s N hot rw pos b = 4) : y_tj f s (y_fm kd f s N hot rw pos) b < N ∧ (if y_fm kd f s N hot rw pos b = 1 then f b else s b) = nI (y_tj f s (y_fm kd f s N hot rw pos) b) := by
  obtain ⟨t, h1, h2⟩ := (y_tgt hN hv hb (l_nx N hot rw pos b)).2 h
  have h3 : (if y_fm kd f s N hot rw pos b = 1 then f b else s b) = nI t := h2
  unfold y_tj
  rw [h3, nI_clamp (by omega)]
  exact ⟨h1, rfl⟩
/-- the rounds of a layout, out of the memory's rows -/
def y_I (kd f s : Nat → Int32) (N hot al : Nat) (rw pos : Nat → Nat) (hd : Nat → Bool) (sz : Nat → Nat) (t : Nat) : (Nat → Nat) × (Nat → Nat) := y_it hot al rw pos hd sz (y_fm kd f s N hot rw pos) (y_tb f s (y_fm kd f s N hot rw pos)) (y_tj f s (y_fm kd f s N hot rw pos)) t
def y_W (kd f s : Nat → Int32) (N hot al : Nat) (rw pos : Nat → Nat) (hd : Nat → Bool) (sz : Nat → Nat) (t : Nat) : Bool := y_w N hot al rw pos hd sz (y_fm kd f s N hot rw pos) (y_tb f s (y_fm kd f s N hot rw pos)) (y_tj f s (y_fm kd f s N hot rw pos)) (y_I kd f s N hot al rw pos hd sz t)
/-- places, next blocks and forms are found, and bytes are those of round t -/
def y_P (kd f s : Nat → Int32) (N hot al : Nat) (rw pos : Nat → Nat) (hd : Nat → Bool) (sz : Nat → Nat) (t : Nat) (m : fx_M) : Prop :=
  ∀ b, b < N → m 13 b = nI (pos b) ∧ m 14 b = l_nx N hot rw pos b ∧ m 15 b = y_fm kd f s N hot rw pos b ∧ m 16 b = nI ((y_I kd f s N hot al rw pos hd sz t).1 b) ∧ m 17 b = nI ((y_I kd f s N hot al rw pos hd sz t).2 b)
/-- addresses are those of round t -/
def y_Q (kd f s : Nat → Int32) (N hot al : Nat) (rw pos : Nat → Nat) (hd : Nat → Bool) (sz : Nat → Nat) (t : Nat) (m : fx_M) : Prop :=
  m 12 9 = nI (l_be hot al rw hd sz (y_b (y_fm kd f s N hot rw pos) (y_I kd f s N hot al rw pos hd sz t)) hot) ∧ m 12 10 = nI (l_be hot al rw hd sz (y_b (y_fm kd f s N hot rw pos) (y_I kd f s N hot al rw pos hd sz t)) N) ∧
  ∀ b, b < N → m 18 b = nI (l_ad hot al rw pos hd sz (y_b (y_fm kd f s N hot rw pos) (y_I kd f s N hot al rw pos hd sz t)) b) ∧ m 19 b = nI (l_pd hot al rw pos hd sz (y_b (y_fm kd f s N hot rw pos) (y_I kd f s N hot al rw pos hd sz t)) b)
/-- what holds of the memory where a layout is asked for -/
def y_H (N hot : Nat) (rw pos : Nat → Nat) (sz : Nat → Nat) (M : fx_M) : Prop :=
  M 1 8 = nI N ∧ N ≤ 16 ∧ M 10 1 = nI hot ∧ 1 ≤ hot ∧ hot ≤ N ∧ pm N rw pos ∧ (∀ j, j < N → M 11 j = nI (rw j)) ∧ (∀ b, b < N → M 2 b = nI (sz b) ∧ sz b ≤ 60) ∧ pv N (M 3) (M 4) (M 5)
set_option maxRecDepth 20000 in
theorem s_settle {l : Launch} {Z : fx_Z} (hl : l.stackTraces = false) (ad : Nat → Nat) (sw : Bool) (tl : List fx_Sh) (M : fx_M) {N hot al : Nat} {rw pos : Nat → Nat} {sz : Nat → Nat} (lim : Int32) (hH : y_H N hot rw pos sz M) (ha : isAl al) (ha32 : al ≤ 32) : CV l Z yX4_settle (.code yX4_settle cX4_settle 5 none) 3 [.ref (ad 12), .int (nI al), .int lim] ad (c_C sw ++ tl) M (fun m => fr [12, 13, 14, 15, 16, 17, 18, 19] M m ∧ ∃ T, (∀ t, t < T → y_W (M 3) (M 4) (M 5) N hot al rw pos (l_hd (M 1 9) (M 7) lim) sz t = true) ∧ y_W (M 3) (M 4) (M 5) N hot al rw pos (l_hd (M 1 9) (M 7) lim) sz T = false ∧ y_P (M 3) (M 4) (M 5) N hot al rw pos (l_hd (M 1 9) (M 7) lim) sz T m ∧ y_Q (M 3) (M 4) (M 5) N hot al rw pos (l_hd (M 1 9) (M 7) lim) sz T m) := by
  refine CT_of (ret := none) (lv0 := [some (.ref (ad 12)), some (.int (nI al)), some (.int lim), none, none]) (by decide +kernel) hl (by simp [Value.category]) (Nat.le_of_ble_eq_true rfl) rfl ?_
  intro X F Rt _
  obtain ⟨hN, hN16, hhot, hhot1, hhot16, hpm, hr, hsz, hv⟩ := hH
  have hSA : ∀ (t : Nat) (m : fx_M), fr [12, 13, 14, 15, 16, 17, 18, 19] M m → y_P (M 3) (M 4) (M 5) N hot al rw pos (l_hd (M 1 9) (M 7) lim) sz t m → CV l Z yX4_setAddresses (.code yX4_setAddresses cX4_setAddresses 7 none) 2 [.ref (ad 12), .int (nI al), .int lim] ad (c_C sw ++ tl) m (fun m' => fr [12, 13, 14, 15, 16, 17, 18, 19] M m' ∧ y_P (M 3) (M 4) (M 5) N hot al rw pos (l_hd (M 1 9) (M 7) lim) sz t m' ∧ y_Q (M 3) (M 4) (M 5) N hot al rw pos (l_hd (M 1 9) (M 7) lim) sz t m') := by
    intro t m hf hP
    have r1 := hf 1 (by decide)
    have r7 := hf 7 (by decide)
    have hC := s_setAddresses (Z := Z) hl ad sw tl m (N := N) (hot := hot) (al := al) (rw := rw) (pos := pos) (sz := sz) (bs := y_b (y_fm (M 3) (M 4) (M 5) N hot rw pos) (y_I (M 3) (M 4) (M 5) N hot al rw pos (l_hd (M 1 9) (M 7) lim) sz t)) lim (by rw [r1]; exact hN) hN16 (by rw [hf 10 (by decide)]; exact hhot) hhot1 hhot16 hpm (fun j hj => by rw [hf 11 (by decide)]; exact hr j hj) ha ha32 (fun b hb => by rw [hf 2 (by decide)]; exact hsz b hb) (fun b hb => by
      obtain ⟨-, -, g3, g4, g5⟩ := hP b hb
      refine ⟨?_, y_b_le t b⟩
      rw [g3, g4, g5, nI_add]
      unfold y_b
      split <;> rfl)
    rw [r1, r7] at hC
    refine hC.mono (fun m' h => ?_)
    obtain ⟨k1, k2, k3, k4⟩ := h
    refine ⟨hf.trans (k1.mono (by decide)), fun b hb => ?_, k2, k3, k4⟩
    rw [k1 13 (by decide), k1 14 (by decide), k1 15 (by decide), k1 16 (by decide), k1 17 (by decide)]
    exact hP b hb
  have hWI : ∀ (t : Nat) (m : fx_M), fr [12, 13, 14, 15, 16, 17, 18, 19] M m → y_P (M 3) (M 4) (M 5) N hot al rw pos (l_hd (M 1 9) (M 7) lim) sz t m → y_Q (M 3) (M 4) (M 5) N hot al rw pos (l_hd (M 1 9) (M 7) lim) sz t m → CI l Z yX4_widen (.code yX4_widen cX4_widen 5 (some .boolean)) 2 [.ref (ad 12)] ad (c_C sw ++ tl) m (fun r m' => r = (if y_W (M 3) (M 4) (M 5) N hot al rw pos (l_hd (M 1 9) (M 7) lim) sz t then 1 else 0) ∧ fr [12, 13, 14, 15, 16, 17, 18, 19] M m' ∧ y_P (M 3) (M 4) (M 5) N hot al rw pos (l_hd (M 1 9) (M 7) lim) sz (t + 1) m' ∧ y_Q (M 3) (M 4) (M 5) N hot al rw pos (l_hd (M 1 9) (M 7) lim) sz t m') := by
    intro t m hf hP hQ
    have hC := s_widen (Z := Z) hl ad sw tl m (N := N) (A := y_A hot al rw pos (l_hd (M 1 9) (M 7) lim) sz (y_fm (M 3) (M 4) (M 5) N hot rw pos) (y_I (M 3) (M 4) (M 5) N hot al rw pos (l_hd (M 1 9) (M 7) lim) sz t)) (sz := sz) (tb := y_tb (M 4) (M 5) (y_fm (M 3) (M 4) (M 5) N hot rw pos)) (tj := y_tj (M 4) (M 5) (y_fm (M 3) (M 4) (M 5) N hot rw pos)) (bb := (y_I (M 3) (M 4) (M 5) N hot al rw pos (l_hd (M 1 9) (M 7) lim) sz t).1) (jb := (y_I (M 3) (M 4) (M 5) N hot al rw pos (l_hd (M 1 9) (M 7) lim) sz t).2) (by rw [hf 1 (by decide)]; exact hN) hN16 (fun b hb => ⟨(hQ.2.2 b hb).1, y_A_lt hN16 ha ha32 hpm (fun b hb => (hsz b hb).2) t hb⟩) (fun b hb => by rw [hf 2 (by decide)]; exact hsz b hb) (fun b hb => ⟨(hP b hb).2.2.2.1, (hP b hb).2.2.2.2, (y_it_le t b).1, (y_it_le t b).2.1⟩) (fun b hb hne => by
      rw [(hP b hb).2.2.1, hf 4 (by decide), hf 5 (by decide)]
      exact y_tbN hN16 hv hb ((y_it_le t b).2.2.1 hne)) (fun b hb hne => by
      rw [(hP b hb).2.2.1, hf 4 (by decide), hf 5 (by decide)]
      exact y_tjN hN16 hv hb ((y_it_le t b).2.2.2 hne))
    refine hC.mono (fun r m' h => ?_)
    obtain ⟨k1, k2, k3⟩ := h
    refine ⟨k1, hf.trans (k2.mono (by decide)), fun b hb => ?_, ?_⟩
    · rw [k2 13 (by decide), k2 14 (by decide), k2 15 (by decide)]
      exact ⟨(hP b hb).1, (hP b hb).2.1, (hP b hb).2.2.1, (k3 b hb).1, (k3 b hb).2⟩
    · unfold y_Q
      rw [k2 12 (by decide), k2 18 (by decide), k2 19 (by decide)]
      exact hQ
  have lp : ∀ (k : Nat) (r : Nat) (M' : fx_M), k = 32 - r → r ≤ 32 → fr [12, 13, 14, 15, 16, 17, 18, 19] M M' → y_P (M 3) (M 4) (M 5) N hot al rw pos (l_hd (M 1 9) (M 7) lim) sz (r + 1) M' → y_Q (M 3) (M 4) (M 5) N hot al rw pos (l_hd (M 1 9) (M 7) lim) sz r M' → (∀ t, t < r → y_W (M 3) (M 4) (M 5) N hot al rw pos (l_hd (M 1 9) (M 7) lim) sz t = true) → GG X ad 18 [some (.ref (ad 12)), some (.int (nI al)), some (.int lim), some (.int (if y_W (M 3) (M 4) (M 5) N hot al rw pos (l_hd (M 1 9) (M 7) lim) sz r then 1 else 0)), some (.int (nI r))] [] 0 0 (c_C sw ++ tl) M' := by
    intro k
    induction k using Nat.strongRecOn with
    | _ k ih =>
      intro r M' hk hi g1 g2 g3 hgt
      refine G_iload F dX4_settle_18 rfl ?_
      refine G_bipush (v := nI 32) F dX4_settle_20 (by decide) ?_
      refine G_icmp_ge (tgt := 46) F dX4_settle_22 (by decide) (fun h22 => ?_) (fun h22 => ?_)
      · rw [nI_leI (by omega) (by omega)] at h22
        have hr32 : r = 32 := by omega
        have hWf : y_W (M 3) (M 4) (M 5) N hot al rw pos (l_hd (M 1 9) (M 7) lim) sz r = false := by
          cases hw : y_W (M 3) (M 4) (M 5) N hot al rw pos (l_hd (M 1 9) (M 7) lim) sz r with
          | false => rfl
          | true =>
            have := y_end (N := N) (hot := hot) (al := al) (rw := rw) (pos := pos) (hd := l_hd (M 1 9) (M 7) lim) (sz := sz) (fm := y_fm (M 3) (M 4) (M 5) N hot rw pos) (tb := y_tb (M 4) (M 5) (y_fm (M 3) (M 4) (M 5) N hot rw pos)) (tj := y_tj (M 4) (M 5) (y_fm (M 3) (M 4) (M 5) N hot rw pos)) (r := r + 1) (fun t ht => by
              by_cases e : t = r
              · rw [e]; exact hw
              · exact hgt t (by omega))
            omega
        refine G_vret F Rt dX4_settle_46 ⟨rfl, rfl, rfl, ?_⟩ (Nat.le_refl _) (Nat.le_refl _)
        refine ⟨g1, r, hgt, hWf, fun b hb => ?_, g3⟩
        have hb2 := g2 b hb
        obtain ⟨z1, z2⟩ := l_wa_false hWf b hb
        have e1 : (y_I (M 3) (M 4) (M 5) N hot al rw pos (l_hd (M 1 9) (M 7) lim) sz (r + 1)).1 b = (y_I (M 3) (M 4) (M 5) N hot al rw pos (l_hd (M 1 9) (M 7) lim) sz r).1 b := z1
        have e2 : (y_I (M 3) (M 4) (M 5) N hot al rw pos (l_hd (M 1 9) (M 7) lim) sz (r + 1)).2 b = (y_I (M 3) (M 4) (M 5) N hot al rw pos (l_hd (M 1 9) (M 7) lim) sz r).2 b := z2
        rw [e1, e2] at hb2
        exact hb2
      · rw [nI_leI (by omega) (by omega)] at h22
        refine G_iload_n F dX4_settle_25 rfl ?_
        refine G_if_eq (tgt := 46) F dX4_settle_26 (by decide) (fun h26 => ?_) (fun h26 => ?_)
        · have hWf : y_W (M 3) (M 4) (M 5) N hot al rw pos (l_hd (M 1 9) (M 7) lim) sz r = false := by simpa using h26
          refine G_vret F Rt dX4_settle_46 ⟨rfl, rfl, rfl, ?_⟩ (Nat.le_refl _) (Nat.le_refl _)
          refine ⟨g1, r, hgt, hWf, fun b hb => ?_, g3⟩
          have hb2 := g2 b hb
          obtain ⟨z1, z2⟩ := l_wa_false hWf b hb
          have e1 : (y_I (M 3) (M 4) (M 5) N hot al rw pos (l_hd (M 1 9) (M 7) lim) sz (r + 1)).1 b = (y_I (M 3) (M 4) (M 5) N hot al rw pos (l_hd (M 1 9) (M 7) lim) sz r).1 b := z1
          have e2 : (y_I (M 3) (M 4) (M 5) N hot al rw pos (l_hd (M 1 9) (M 7) lim) sz (r + 1)).2 b = (y_I (M 3) (M 4) (M 5) N hot al rw pos (l_hd (M 1 9) (M 7) lim) sz r).2 b := z2
          rw [e1, e2] at hb2
          exact hb2
        · have hWt : y_W (M 3) (M 4) (M 5) N hot al rw pos (l_hd (M 1 9) (M 7) lim) sz r = true := by simpa using h26
          refine G_aload_n F dX4_settle_29 rfl ?_
          refine G_iload_n F dX4_settle_30 rfl ?_
          refine G_iload_n F dX4_settle_31 rfl ?_
          refine G_vv F mv_X4_44 dX4_settle_32 (hSA (r + 1) M' g1 g2) rfl rfl rfl rfl (Nat.le_of_ble_eq_true rfl) ⟨Nat.le_of_ble_eq_true rfl, Nat.le_of_ble_eq_true rfl, Nat.le_of_ble_eq_true rfl, Nat.le_of_ble_eq_true rfl⟩ (fun M32 h32 => ?_)
          obtain ⟨j1, j2, j3⟩ := h32
          refine G_aload_n F dX4_settle_35 rfl ?_
          refine G_vI F mv_X4_48 dX4_settle_36 (hWI (r + 1) M32 j1 j2 j3) rfl rfl rfl rfl (Nat.le_of_ble_eq_true rfl) ⟨Nat.le_of_ble_eq_true rfl, Nat.le_of_ble_eq_true rfl, Nat.le_of_ble_eq_true rfl, Nat.le_of_ble_eq_true rfl⟩ (fun r36 M36 h36 => ?_)
          obtain ⟨k1, k2, k3, k4⟩ := h36
          rw [k1]
          refine G_istore_n F 3 dX4_settle_39 rfl rfl rfl (Nat.le_of_ble_eq_true rfl) ?_
          simp only [List.set_cons_zero, List.set_cons_succ]
          refine G_iinc F (1) dX4_settle_40 rfl rfl rfl rfl ?_
          simp only [List.set_cons_zero, List.set_cons_succ, nI_1]
          refine G_goto (tgt := 18) F dX4_settle_43 (by decide) ?_
          exact ih (32 - (r + 1)) (by omega) (r + 1) _ rfl (by omega) k2 k3 k4 (fun t ht => by
            by_cases e : t = r
            · rw [e]; exact hWt
            · exact hgt t (by omega))
  refine G_aload_n F dX4_settle_0 rfl ?_
  refine G_vv F mv_X4_41 dX4_settle_1 (s_findForms hl ad sw tl M (N := N) (hot := hot) (rw := rw) (pos := pos) hN hN16 hhot hhot16 hpm hr) rfl rfl rfl rfl (Nat.le_of_ble_eq_true rfl) ⟨Nat.le_of_ble_eq_true rfl, Nat.le_of_ble_eq_true rfl, Nat.le_of_ble_eq_true rfl, Nat.le_of_ble_eq_true rfl⟩ (fun M1 h1 => ?_)
  obtain ⟨f1, f2⟩ := h1
  have f1 := f1.mono (ks' := [12, 13, 14, 15, 16, 17, 18, 19]) (by decide)
  have f3 : y_P (M 3) (M 4) (M 5) N hot al rw pos (l_hd (M 1 9) (M 7) lim) sz 0 M1 := fun b hb => by
    obtain ⟨u1, u2, u3, u4, u5⟩ := f2 b hb
    refine ⟨u1, u2, u3, ?_, ?_⟩
    · rw [u4]; exact l_bbN _
    · rw [u5]; exact l_jbN _
  refine G_aload_n F dX4_settle_4 rfl ?_
  refine G_iload_n F dX4_settle_5 rfl ?_
  refine G_iload_n F dX4_settle_6 rfl ?_
  refine G_vv F mv_X4_44 dX4_settle_7 (hSA 0 M1 f1 f3) rfl rfl rfl rfl (Nat.le_of_ble_eq_true rfl) ⟨Nat.le_of_ble_eq_true rfl, Nat.le_of_ble_eq_true rfl, Nat.le_of_ble_eq_true rfl, Nat.le_of_ble_eq_true rfl⟩ (fun M7 h7 => ?_)
  obtain ⟨j1, j2, j3⟩ := h7
  refine G_aload_n F dX4_settle_10 rfl ?_
  refine G_vI F mv_X4_48 dX4_settle_11 (hWI 0 M7 j1 j2 j3) rfl rfl rfl rfl (Nat.le_of_ble_eq_true rfl) ⟨Nat.le_of_ble_eq_true rfl, Nat.le_of_ble_eq_true rfl, Nat.le_of_ble_eq_true rfl, Nat.le_of_ble_eq_true rfl⟩ (fun r11 M11 h11 => ?_)
  obtain ⟨k1, k2, k3, k4⟩ := h11
  rw [k1]
  refine G_istore_n F 3 dX4_settle_14 rfl rfl rfl (Nat.le_of_ble_eq_true rfl) ?_
  simp only [List.set_cons_zero, List.set_cons_succ]
  refine G_iconst (v := 0) F dX4_settle_15 rfl ?_
  refine G_istore F dX4_settle_16 rfl rfl (Nat.le_of_ble_eq_true rfl) ?_
  simp only [List.set_cons_zero, List.set_cons_succ]
  exact lp 32 0 _ rfl (by omega) k2 k3 k4 (fun t ht => absurd ht (by omega))
