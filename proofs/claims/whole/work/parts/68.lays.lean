/-! THE REFERENCE: a layout -/
theorem hds_step {tg : Nat → Int32} {N : Nat} (hN : N ≤ 16) {i : Nat} (hi : i < N) : hds tg N i ||| (if bt (hds tg N N) i then (1 : Int32) <<< (nI i &&& 31) else 0) = hds tg N (i + 1) := by
  apply bt_ext
  intro b hb
  rw [bt_or hb, hds_bt (i + 1) (by omega) b hb, hds_bt i (by omega) b hb]
  have h1 := hds_bt (tg := tg) (N := N) N hN i (by omega)
  rw [decide_eq_true hi, Bool.true_and] at h1
  by_cases e : b = i
  · subst e
    rw [← h1]
    cases q : bt (hds tg N N) b
    · simp [bt_zero]
    · simp [bt_sh (show b < 16 by omega) hb]
  · have e2 : decide (b < i + 1) = decide (b < i) := by simp only [decide_eq_decide]; omega
    rw [e2]
    cases q : bt (hds tg N N) i
    · simp [bt_zero]
    · simp [bt_sh (show i < 16 by omega) hb, e]
theorem form6 {kd f s : Nat → Int32} (b : Nat) (x : Int32) : pf_form kd f s b x = 0 ∨ pf_form kd f s b x = 1 ∨ pf_form kd f s b x = 2 ∨ pf_form kd f s b x = 3 ∨ pf_form kd f s b x = 4 ∨ pf_form kd f s b x = 5 := by
  unfold pf_form
  split
  · simp
  · split
    · split <;> simp
    · split
      · simp
      · split <;> simp
theorem y_bjv {hot al : Nat} {rw pos : Nat → Nat} {hd : Nat → Bool} {sz : Nat → Nat} {fm : Nat → Int32} {tb tj : Nat → Nat} {b : Nat} (h6 : fm b = 0 ∨ fm b = 1 ∨ fm b = 2 ∨ fm b = 3 ∨ fm b = 4 ∨ fm b = 5) : ∀ t, bjv (fm b) ((y_it hot al rw pos hd sz fm tb tj t).1 b) ((y_it hot al rw pos hd sz fm tb tj t).2 b) := by
  intro t
  induction t with
  | zero =>
    unfold bjv y_it y_0
    rcases h6 with e | e | e | e | e | e <;> simp [e]
  | succ t ih =>
    have e1 : (y_it hot al rw pos hd sz fm tb tj (t + 1)).1 b = l_wb (y_A hot al rw pos hd sz fm (y_it hot al rw pos hd sz fm tb tj t)) sz tb (y_it hot al rw pos hd sz fm tb tj t).1 b := rfl
    have e2 : (y_it hot al rw pos hd sz fm tb tj (t + 1)).2 b = l_wj (y_A hot al rw pos hd sz fm (y_it hot al rw pos hd sz fm tb tj t)) sz tj (y_it hot al rw pos hd sz fm tb tj t).1 (y_it hot al rw pos hd sz fm tb tj t).2 b := rfl
    rw [e1, e2]
    constructor
    · rcases l_wb_lt (A := y_A hot al rw pos hd sz fm (y_it hot al rw pos hd sz fm tb tj t)) (sz := sz) (tb := tb) (bb := (y_it hot al rw pos hd sz fm tb tj t).1) (b := b) with q | ⟨q1, q2⟩
      · rw [q]; exact ih.1
      · rw [q2]
        rcases ih.1 with ⟨z1, -⟩ | ⟨-, z2⟩
        · exact Or.inl ⟨z1, Or.inr rfl⟩
        · omega
    · rcases l_wj_lt (A := y_A hot al rw pos hd sz fm (y_it hot al rw pos hd sz fm tb tj t)) (sz := sz) (tj := tj) (bb := (y_it hot al rw pos hd sz fm tb tj t).1) (jb := (y_it hot al rw pos hd sz fm tb tj t).2) (b := b) with q | ⟨q1, q2⟩
      · rw [q]; exact ih.2
      · rw [q2]
        rcases ih.2 with ⟨z1, -⟩ | ⟨-, z2⟩
        · exact Or.inl ⟨z1, Or.inr rfl⟩
        · omega
/-- what holds of the reference's memory where a layout is asked for -/
def v_H (N hot al : Nat) (rw pos sz : Nat → Nat) (M : fx_M) : Prop :=
  M 37 0 = nI N ∧ N ≤ 16 ∧ M 37 3 = nI hot ∧ 1 ≤ hot ∧ hot ≤ N ∧ pm N rw pos ∧ (∀ j, j < N → M 46 j = nI (rw j)) ∧ (∀ b, b < N → M 38 b = nI (sz b) ∧ sz b ≤ 60) ∧ pv N (M 39) (M 40) (M 41) ∧ M 37 1 = nI al ∧ isAl al ∧ al ≤ 32
/-- forms are found, and long ones are those of round t -/
def v_P (kd f s : Nat → Int32) (N hot al : Nat) (rw pos : Nat → Nat) (hd : Nat → Bool) (sz : Nat → Nat) (t : Nat) (m : fx_M) : Prop :=
  ∀ b, b < N → m 53 b = y_fm kd f s N hot rw pos b ∧ m 54 b = (if (y_I kd f s N hot al rw pos hd sz t).1 b = 6 then 1 else 0) ∧ m 55 b = (if (y_I kd f s N hot al rw pos hd sz t).2 b = 5 then 1 else 0)
def v_Q (kd f s : Nat → Int32) (N hot al : Nat) (rw pos : Nat → Nat) (hd : Nat → Bool) (sz : Nat → Nat) (t : Nat) (m : fx_M) : Prop :=
  m 37 25 = nI (l_be hot al rw hd sz (y_b (y_fm kd f s N hot rw pos) (y_I kd f s N hot al rw pos hd sz t)) hot) ∧ m 37 26 = nI (l_be hot al rw hd sz (y_b (y_fm kd f s N hot rw pos) (y_I kd f s N hot al rw pos hd sz t)) N) ∧
  ∀ b, b < N → m 51 b = nI (l_ad hot al rw pos hd sz (y_b (y_fm kd f s N hot rw pos) (y_I kd f s N hot al rw pos hd sz t)) b) ∧ m 52 b = nI (l_pd hot al rw pos hd sz (y_b (y_fm kd f s N hot rw pos) (y_I kd f s N hot al rw pos hd sz t)) b)
/-- what a layout leaves alone -/
def v_f (M m : fx_M) : Prop := fr [37, 51, 52, 53, 54, 55] M m ∧ ∀ j, j ≠ 25 → j ≠ 26 → m 37 j = M 37 j
/-- behind a layout -/
def v_S (N hot al : Nat) (rw pos sz : Nat → Nat) (M m : fx_M) : Prop := v_f M m ∧ ∃ T, (∀ t, t < T → y_W (M 39) (M 40) (M 41) N hot al rw pos (l_hd (hds (pf_tg (M 40) (M 41)) N N) (M 43) (M 37 2)) sz t = true) ∧ y_W (M 39) (M 40) (M 41) N hot al rw pos (l_hd (hds (pf_tg (M 40) (M 41)) N N) (M 43) (M 37 2)) sz T = false ∧ v_P (M 39) (M 40) (M 41) N hot al rw pos (l_hd (hds (pf_tg (M 40) (M 41)) N N) (M 43) (M 37 2)) sz T m ∧ v_Q (M 39) (M 40) (M 41) N hot al rw pos (l_hd (hds (pf_tg (M 40) (M 41)) N N) (M 43) (M 37 2)) sz T m
theorem y_0_ne {hot al : Nat} {rw pos : Nat → Nat} {hd : Nat → Bool} {sz : Nat → Nat} {fm : Nat → Int32} {tb tj : Nat → Nat} {b : Nat} (h : (y_it hot al rw pos hd sz fm tb tj 0).1 b = 6) : False := by
  have e : (y_it hot al rw pos hd sz fm tb tj 0).1 b = if fm b = 2 ∨ fm b = 3 ∨ fm b = 4 then 2 else 0 := rfl
  rw [e] at h
  split at h <;> omega
theorem y_0_ne2 {hot al : Nat} {rw pos : Nat → Nat} {hd : Nat → Bool} {sz : Nat → Nat} {fm : Nat → Int32} {tb tj : Nat → Nat} {b : Nat} (h : (y_it hot al rw pos hd sz fm tb tj 0).2 b = 5) : False := by
  have e : (y_it hot al rw pos hd sz fm tb tj 0).2 b = if fm b = 1 ∨ fm b = 4 then 2 else 0 := rfl
  rw [e] at h
  split at h <;> omega
set_option maxRecDepth 20000 in
theorem t_laysR {l : Launch} {Z : fx_Z} (hl : l.stackTraces = false) (ad : Nat → Nat) (sw : Bool) (tl : List fx_Sh) (M : fx_M) {N hot al : Nat} {rw pos sz : Nat → Nat} (hH : v_H N hot al rw pos sz M) : CV l Z yX8_lays (.code yX8_lays cX8_lays 3 none) 3 [.ref (ad 37)] ad (c_C sw ++ (m_C ++ tl)) M (fun m => v_S N hot al rw pos sz M m) := by
  refine CT_of (ret := none) (lv0 := [some (.ref (ad 37)), none, none]) (by decide +kernel) hl (by simp [Value.category]) (Nat.le_of_ble_eq_true rfl) rfl ?_
  intro X F Rt _
  obtain ⟨hN, hN16, hhot, hhot1, hhotN, hpm, hr, hsz, hv, hal, ha, ha32⟩ := hH
  have hN1 : 1 ≤ N := by omega
  have hPL : ∀ (t : Nat) (m : fx_M), v_f M m → v_P (M 39) (M 40) (M 41) N hot al rw pos (l_hd (hds (pf_tg (M 40) (M 41)) N N) (M 43) (M 37 2)) sz t m → CV l Z yX8_places (.code yX8_places cX8_places 6 none) 2 [.ref (ad 37), .int (hds (pf_tg (M 40) (M 41)) N N)] ad (c_C sw ++ (m_C ++ tl)) m (fun m' => v_f M m' ∧ v_P (M 39) (M 40) (M 41) N hot al rw pos (l_hd (hds (pf_tg (M 40) (M 41)) N N) (M 43) (M 37 2)) sz t m' ∧ v_Q (M 39) (M 40) (M 41) N hot al rw pos (l_hd (hds (pf_tg (M 40) (M 41)) N N) (M 43) (M 37 2)) sz t m') := by
    intro t m hf hP
    have r43 := hf.1 43 (by decide)
    have r2 := hf.2 2 (by decide) (by decide)
    have hC := t_places (Z := Z) hl ad sw tl m (N := N) (al := al) (hot := hot) (rw := rw) (pos := pos) (sz := sz) (bb := (y_I (M 39) (M 40) (M 41) N hot al rw pos (l_hd (hds (pf_tg (M 40) (M 41)) N N) (M 43) (M 37 2)) sz t).1) (jb := (y_I (M 39) (M 40) (M 41) N hot al rw pos (l_hd (hds (pf_tg (M 40) (M 41)) N N) (M 43) (M 37 2)) sz t).2) (bs := y_b (y_fm (M 39) (M 40) (M 41) N hot rw pos) (y_I (M 39) (M 40) (M 41) N hot al rw pos (l_hd (hds (pf_tg (M 40) (M 41)) N N) (M 43) (M 37 2)) sz t)) (hds (pf_tg (M 40) (M 41)) N N) (by rw [hf.2 0 (by decide) (by decide)]; exact hN) hN16 hN1 (by rw [hf.2 3 (by decide) (by decide)]; exact hhot) hhotN hpm (fun j hj => by rw [hf.1 46 (by decide)]; exact hr j hj) hhot1 (by rw [hf.2 1 (by decide) (by decide)]; exact hal) ha ha32 (fun b hb => by rw [hf.1 38 (by decide)]; exact hsz b hb) (fun b hb => by
      obtain ⟨g1, g2, g3⟩ := hP b hb
      exact ⟨by rw [g1]; exact y_bjv (form6 b _) t, g2, g3⟩) (fun b hb => by
      obtain ⟨g1, g2, g3⟩ := hP b hb
      exact ⟨by rw [g1]; rfl, y_b_le t b⟩)
    rw [r43, r2] at hC
    refine hC.mono (fun m' h => ?_)
    obtain ⟨k1, k2, k3, k4, k5⟩ := h
    refine ⟨⟨hf.1.trans (k1.mono (by decide)), fun j j1 j2 => (k2 j j1 j2).trans (hf.2 j j1 j2)⟩, fun b hb => ?_, k3, k4, k5⟩
    rw [k1 53 (by decide), k1 54 (by decide), k1 55 (by decide)]
    exact hP b hb
  have hWI : ∀ (t : Nat) (m : fx_M), v_f M m → v_P (M 39) (M 40) (M 41) N hot al rw pos (l_hd (hds (pf_tg (M 40) (M 41)) N N) (M 43) (M 37 2)) sz t m → v_Q (M 39) (M 40) (M 41) N hot al rw pos (l_hd (hds (pf_tg (M 40) (M 41)) N N) (M 43) (M 37 2)) sz t m → CI l Z yX8_widens (.code yX8_widens cX8_widens 9 (some .boolean)) 2 [.ref (ad 37)] ad (c_C sw ++ (m_C ++ tl)) m (fun r m' => r = (if y_W (M 39) (M 40) (M 41) N hot al rw pos (l_hd (hds (pf_tg (M 40) (M 41)) N N) (M 43) (M 37 2)) sz t then 1 else 0) ∧ v_f M m' ∧ v_P (M 39) (M 40) (M 41) N hot al rw pos (l_hd (hds (pf_tg (M 40) (M 41)) N N) (M 43) (M 37 2)) sz (t + 1) m' ∧ v_Q (M 39) (M 40) (M 41) N hot al rw pos (l_hd (hds (pf_tg (M 40) (M 41)) N N) (M 43) (M 37 2)) sz t m') := by
    intro t m hf hP hQ
    have hC := t_widens (Z := Z) hl ad sw tl m (N := N) (A := y_A hot al rw pos (l_hd (hds (pf_tg (M 40) (M 41)) N N) (M 43) (M 37 2)) sz (y_fm (M 39) (M 40) (M 41) N hot rw pos) (y_I (M 39) (M 40) (M 41) N hot al rw pos (l_hd (hds (pf_tg (M 40) (M 41)) N N) (M 43) (M 37 2)) sz t)) (sz := sz) (tb := y_tb (M 40) (M 41) (y_fm (M 39) (M 40) (M 41) N hot rw pos)) (tj := y_tj (M 40) (M 41) (y_fm (M 39) (M 40) (M 41) N hot rw pos)) (bb := (y_I (M 39) (M 40) (M 41) N hot al rw pos (l_hd (hds (pf_tg (M 40) (M 41)) N N) (M 43) (M 37 2)) sz t).1) (jb := (y_I (M 39) (M 40) (M 41) N hot al rw pos (l_hd (hds (pf_tg (M 40) (M 41)) N N) (M 43) (M 37 2)) sz t).2) (by rw [hf.2 0 (by decide) (by decide)]; exact hN) hN16 hN1 (fun b hb => ⟨(hQ.2.2 b hb).1, y_A_lt hN16 ha ha32 hpm (fun b hb => (hsz b hb).2) t hb⟩) (fun b hb => by rw [hf.1 38 (by decide)]; exact hsz b hb) (fun b hb => by
      obtain ⟨g1, g2, g3⟩ := hP b hb
      exact ⟨by rw [g1]; exact y_bjv (form6 b _) t, g2, g3⟩) (fun b hb hne => by
      rw [(hP b hb).1, hf.1 40 (by decide), hf.1 41 (by decide)]
      exact y_tbN hN16 hv hb ((y_it_le t b).2.2.1 hne)) (fun b hb hne => by
      rw [(hP b hb).1, hf.1 40 (by decide), hf.1 41 (by decide)]
      exact y_tjN hN16 hv hb ((y_it_le t b).2.2.2 hne))
    refine hC.mono (fun r m' h => ?_)
    obtain ⟨k1, k2, k3⟩ := h
    refine ⟨k1, ⟨hf.1.trans (k2.mono (by decide)), fun j j1 j2 => by rw [k2 37 (by decide)]; exact hf.2 j j1 j2⟩, fun b hb => ?_, ?_⟩
    · rw [k2 53 (by decide)]
      exact ⟨(hP b hb).1, (k3 b hb).1, (k3 b hb).2⟩
    · unfold v_Q
      rw [k2 37 (by decide), k2 51 (by decide), k2 52 (by decide)]
      exact hQ
  have lp2 : ∀ (k : Nat) (t : Nat) (M' : fx_M), k = 2 * N + 1 - t → v_f M M' → v_P (M 39) (M 40) (M 41) N hot al rw pos (l_hd (hds (pf_tg (M 40) (M 41)) N N) (M 43) (M 37 2)) sz t M' → (∀ t', t' < t → y_W (M 39) (M 40) (M 41) N hot al rw pos (l_hd (hds (pf_tg (M 40) (M 41)) N N) (M 43) (M 37 2)) sz t' = true) → GG X ad 66 [some (.ref (ad 37)), some (.int (hds (pf_tg (M 40) (M 41)) N N)), some (.int (nI N))] [] 0 0 (c_C sw ++ (m_C ++ tl)) M' := by
    intro k
    induction k using Nat.strongRecOn with
    | _ k ih =>
      intro t M' hk g1 g2 hgt
      refine G_aload_n F dX8_lays_66 rfl ?_
      refine G_iload_n F dX8_lays_67 rfl ?_
      refine G_vv F mv_X8_188 dX8_lays_68 (hPL t M' g1 g2) rfl rfl rfl rfl (Nat.le_of_ble_eq_true rfl) ⟨Nat.le_of_ble_eq_true rfl, Nat.le_of_ble_eq_true rfl, Nat.le_of_ble_eq_true rfl, Nat.le_of_ble_eq_true rfl⟩ (fun M68 h68 => ?_)
      obtain ⟨j1, j2, j3⟩ := h68
      refine G_aload_n F dX8_lays_71 rfl ?_
      refine G_vI F mv_X8_191 dX8_lays_72 (hWI t M68 j1 j2 j3) rfl rfl rfl rfl (Nat.le_of_ble_eq_true rfl) ⟨Nat.le_of_ble_eq_true rfl, Nat.le_of_ble_eq_true rfl, Nat.le_of_ble_eq_true rfl, Nat.le_of_ble_eq_true rfl⟩ (fun r72 M72 h72 => ?_)
      obtain ⟨k1, k2, k3, k4⟩ := h72
      rw [k1]
      refine G_if_ne (tgt := 66) F dX8_lays_75 (by decide) (fun h75 => ?_) (fun h75 => ?_)
      · have hWt : y_W (M 39) (M 40) (M 41) N hot al rw pos (l_hd (hds (pf_tg (M 40) (M 41)) N N) (M 43) (M 37 2)) sz t = true := by simpa using h75
        have htN := y_end2 hgt
        exact ih (2 * N + 1 - (t + 1)) (by omega) (t + 1) _ rfl k2 k3 (fun t' ht => by
          by_cases e : t' = t
          · rw [e]; exact hWt
          · exact hgt t' (by omega))
      · have hWf : y_W (M 39) (M 40) (M 41) N hot al rw pos (l_hd (hds (pf_tg (M 40) (M 41)) N N) (M 43) (M 37 2)) sz t = false := by simpa using h75
        refine G_vret F Rt dX8_lays_78 ⟨rfl, rfl, rfl, ?_⟩ (Nat.le_refl _) (Nat.le_refl _)
        refine ⟨k2, t, hgt, hWf, fun b hb => ?_, k4⟩
        have hb2 := k3 b hb
        obtain ⟨z1, z2⟩ := l_wa_false hWf b hb
        have e1 : (y_I (M 39) (M 40) (M 41) N hot al rw pos (l_hd (hds (pf_tg (M 40) (M 41)) N N) (M 43) (M 37 2)) sz (t + 1)).1 b = (y_I (M 39) (M 40) (M 41) N hot al rw pos (l_hd (hds (pf_tg (M 40) (M 41)) N N) (M 43) (M 37 2)) sz t).1 b := z1
        have e2 : (y_I (M 39) (M 40) (M 41) N hot al rw pos (l_hd (hds (pf_tg (M 40) (M 41)) N N) (M 43) (M 37 2)) sz (t + 1)).2 b = (y_I (M 39) (M 40) (M 41) N hot al rw pos (l_hd (hds (pf_tg (M 40) (M 41)) N N) (M 43) (M 37 2)) sz t).2 b := z2
        rw [e1, e2] at hb2
        exact hb2
  have lp : ∀ (k : Nat) (i : Nat) (M' : fx_M), k = N - i → i ≤ N → fr [53, 54, 55] M M' → (∀ b, b < i → M' 53 b = (y_fm (M 39) (M 40) (M 41) N hot rw pos) b ∧ M' 54 b = 0 ∧ M' 55 b = 0) → GG X ad 4 [some (.ref (ad 37)), some (.int (hds (pf_tg (M 40) (M 41)) N i)), some (.int (nI i))] [] 0 0 (c_C sw ++ (m_C ++ tl)) M' := by
    intro k
    induction k using Nat.strongRecOn with
    | _ k ih =>
      intro i M' hk hi h1 h2
      have hN9 : M' 37 0 = nI N := by rw [h1 37 (by decide)]; exact hN
      refine G_iload_n F dX8_lays_4 rfl ?_
      refine G_aload_n F dX8_lays_5 rfl ?_
      refine G_geti F fl_X8_106 dX8_lays_6 rfl rfl ?_
      rw [hN9]
      refine G_icmp_ge (tgt := 66) F dX8_lays_9 (by decide) (fun h9 => ?_) (fun h9 => ?_)
      · rw [nI_leI (by omega) (by omega)] at h9
        have hiN : i = N := by omega
        subst hiN
        exact lp2 _ 0 M' rfl ⟨h1.mono (by decide), fun j _ _ => by rw [h1 37 (by decide)]⟩ (fun b hb => ⟨(h2 b hb).1, by rw [(h2 b hb).2.1, if_neg]; exact fun q => y_0_ne (by exact q), by rw [(h2 b hb).2.2, if_neg]; exact fun q => y_0_ne2 (by exact q)⟩) (fun t' ht => absurd ht (by omega))
      · rw [nI_leI (by omega) (by omega)] at h9
        have t58 : ∀ x : Int32, x = (if bt (hds (pf_tg (M 40) (M 41)) N N) i then (1 : Int32) <<< (nI i &&& 31) else 0) → GG X ad 58 [some (.ref (ad 37)), some (.int (hds (pf_tg (M 40) (M 41)) N i)), some (.int (nI i))] [.int x, .int (hds (pf_tg (M 40) (M 41)) N i)] 0 0 (c_C sw ++ (m_C ++ tl)) (fx_u (fx_u (fx_u M' 53 i ((y_fm (M 39) (M 40) (M 41) N hot rw pos) i)) 54 i 0) 55 i 0) := by
          intro x hx
          refine G_ior F dX8_lays_58 ?_
          rw [hx]
          refine G_istore_n F 1 dX8_lays_59 rfl rfl rfl (Nat.le_of_ble_eq_true rfl) ?_
          simp only [List.set_cons_zero, List.set_cons_succ]
          refine G_iinc F (1) dX8_lays_60 rfl rfl rfl rfl ?_
          simp only [List.set_cons_zero, List.set_cons_succ, nI_1]
          refine G_goto (tgt := 4) F dX8_lays_63 (by decide) ?_
          rw [hds_step hN16 (show i < N by omega)]
          refine ih (N - (i + 1)) (by omega) (i + 1) _ rfl (by omega) (((h1.u (by decide)).u (by decide)).u (by decide)) (fun b hb => ?_)
          by_cases e : b = i
          · subst e; simp [fx_u_at]
          · have := h2 b (by omega); simp [fx_u_at, e, this]
        refine G_aload_n F dX8_lays_12 rfl ?_
        refine G_getr F fl_X8_63 dX8_lays_13 rfl rfl ?_
        refine G_iload_n F dX8_lays_16 rfl ?_
        refine G_aload_n F dX8_lays_17 rfl ?_
        refine G_iload_n F dX8_lays_18 rfl ?_
        refine G_aload_n F dX8_lays_19 rfl ?_
        refine G_iload_n F dX8_lays_20 rfl ?_
        refine G_vI F mv_X8_153 dX8_lays_21 (t_next hl ad sw tl M' (N := N) (b := i) (hot := hot) (rw := rw) (pos := pos) hN9 hN16 hN1 (by rw [h1 37 (by decide)]; exact hhot) hhotN hpm (fun j hj => by rw [h1 46 (by decide)]; exact hr j hj) (by omega)) rfl rfl rfl rfl (Nat.le_of_ble_eq_true rfl) ⟨Nat.le_of_ble_eq_true rfl, Nat.le_of_ble_eq_true rfl, Nat.le_of_ble_eq_true rfl, Nat.le_of_ble_eq_true rfl⟩ (fun r21 M21 h21 => ?_)
        rw [h21.1, h21.2]
        refine G_vI F mv_X8_156 dX8_lays_24 (t_form hl ad sw tl M' (b := i) _ (by omega) (by rw [h1 39 (by decide)]; exact pv_k3 hv (show i < N by omega))) rfl rfl rfl rfl (Nat.le_of_ble_eq_true rfl) ⟨Nat.le_of_ble_eq_true rfl, Nat.le_of_ble_eq_true rfl, Nat.le_of_ble_eq_true rfl, Nat.le_of_ble_eq_true rfl⟩ (fun r24 M24 h24 => ?_)
        rw [h24.1, h24.2, h1 39 (by decide), h1 40 (by decide), h1 41 (by decide)]
        refine G_iastN F dX8_lays_27 rfl (by omega) (by decide) ?_
        refine G_aload_n F dX8_lays_28 rfl ?_
        refine G_getr F fl_X8_66 dX8_lays_29 rfl rfl ?_
        refine G_iload_n F dX8_lays_32 rfl ?_
        refine G_iconst (v := 0) F dX8_lays_33 rfl ?_
        refine G_zastN F dX8_lays_34 rfl (by omega) (by decide) (by first | exact Or.inl rfl | exact Or.inr rfl) ?_
        refine G_aload_n F dX8_lays_35 rfl ?_
        refine G_getr F fl_X8_69 dX8_lays_36 rfl rfl ?_
        refine G_iload_n F dX8_lays_39 rfl ?_
        refine G_iconst (v := 0) F dX8_lays_40 rfl ?_
        refine G_zastN F dX8_lays_41 rfl (by omega) (by decide) (by first | exact Or.inl rfl | exact Or.inr rfl) ?_
        refine G_iload_n F dX8_lays_42 rfl ?_
        refine G_aload_n F dX8_lays_43 rfl ?_
        refine G_iload_n F dX8_lays_44 rfl ?_
        refine G_vI F mv_X8_127 dX8_lays_45 (t_isHeadB hl ad sw tl _ (N := N) (h := i) (by rw [fx_u_ne (by decide), fx_u_ne (by decide), fx_u_ne (by decide)]; exact hN9) hN16 hN1 (by simp only [fx_uN, Nat.reduceEqDiff, ↓reduceIte]; rw [h1 39 (by decide), h1 40 (by decide), h1 41 (by decide)]; exact hv) (by omega)) rfl rfl rfl rfl (Nat.le_of_ble_eq_true rfl) ⟨Nat.le_of_ble_eq_true rfl, Nat.le_of_ble_eq_true rfl, Nat.le_of_ble_eq_true rfl, Nat.le_of_ble_eq_true rfl⟩ (fun r45 M45 h45 => ?_)
        rw [h45.1, h45.2]
        simp only [fx_uN, Nat.reduceEqDiff, ↓reduceIte]
        rw [h1 40 (by decide), h1 41 (by decide)]
        refine G_if_eq (tgt := 57) F dX8_lays_48 (by decide) (fun h48 => ?_) (fun h48 => ?_)
        · refine G_iconst (v := 0) F dX8_lays_57 rfl ?_
          exact t58 0 (by
            have q : bt (hds (pf_tg (M 40) (M 41)) N N) i = false := by simpa using h48
            rw [q]; rfl)
        · refine G_iconst (v := 1) F dX8_lays_51 rfl ?_
          refine G_iload_n F dX8_lays_52 rfl ?_
          refine G_ishl F dX8_lays_53 ?_
          refine G_goto (tgt := 58) F dX8_lays_54 (by decide) ?_
          exact t58 _ (by
            have q : bt (hds (pf_tg (M 40) (M 41)) N N) i = true := by simpa using h48
            rw [q]; rfl)
  refine G_iconst (v := 0) F dX8_lays_0 rfl ?_
  refine G_istore_n F 1 dX8_lays_1 rfl rfl rfl (Nat.le_of_ble_eq_true rfl) ?_
  simp only [List.set_cons_zero, List.set_cons_succ]
  refine G_iconst (v := nI 0) F dX8_lays_2 (by decide) ?_
  refine G_istore_n F 2 dX8_lays_3 rfl rfl rfl (Nat.le_of_ble_eq_true rfl) ?_
  simp only [List.set_cons_zero, List.set_cons_succ]
  exact lp N 0 M rfl (by omega) fr.rfl (fun b hb => absurd hb (by omega))
