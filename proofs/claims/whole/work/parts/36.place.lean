/-! ARRANGER: placing a chain -/
theorem hcn_congr {p q : Nat → Bool} : ∀ {n : Nat}, (∀ b, b < n → p b = q b) → hcn p n = hcn q n := by
  intro n
  induction n with
  | zero => intro _; rfl
  | succ n ih => intro h; simp only [hcn]; rw [ih (fun b hb => h b (by omega)), h n (by omega)]
theorem hcn_set {p q : Nat → Bool} {x : Nat} (hp : p x = false) (hq : q x = true) : ∀ {n : Nat}, x < n → (∀ b, b < n → b ≠ x → q b = p b) → hcn q n = hcn p n + 1 := by
  intro n
  induction n with
  | zero => intro h; omega
  | succ n ih =>
    intro hx h
    simp only [hcn]
    by_cases e : x = n
    · subst e
      rw [hp, hq, hcn_congr (fun b hb => h b (by omega) (by omega))]
      simp
    · rw [ih (by omega) (fun b hb => h b (by omega)), h n (by omega) (fun q => e q.symm)]
      omega
theorem hcn_sub {p q : Nat → Bool} : ∀ {n : Nat}, (∀ b, b < n → p b = true → q b = true) → hcn p n ≤ hcn q n := by
  intro n
  induction n with
  | zero => intro _; exact Nat.le_refl 0
  | succ n ih =>
    intro h
    have h1 := ih (fun b hb => h b (by omega))
    have h2 := h n (by omega)
    simp only [hcn]
    cases hp : p n <;> cases hq : q n <;> simp_all <;> omega
theorem sm_congr {f g : Nat → Int32} : ∀ {n : Nat}, (∀ b, b < n → f b = g b) → sm f n = sm g n := by
  intro n
  induction n with
  | zero => intro _; rfl
  | succ n ih => intro h; simp only [sm]; rw [ih (fun b hb => h b (by omega)), h n (by omega)]
theorem sm_set {f g : Nat → Int32} {x : Nat} (hf : f x = 0) : ∀ {n : Nat}, x < n → (∀ b, b < n → b ≠ x → g b = f b) → sm g n = sm f n + g x := by
  intro n
  induction n with
  | zero => intro h; omega
  | succ n ih =>
    intro hx h
    simp only [sm]
    by_cases e : x = n
    · subst e
      rw [hf, Int32.add_zero, sm_congr (fun b hb => h b (by omega) (by omega))]
    · rw [ih (by omega) (fun b hb => h b (by omega)), h n (by omega) (fun q => e q.symm), Int32.add_assoc, Int32.add_comm (g x), ← Int32.add_assoc]
/-- whether there is such a block -/
def pin (N : Nat) (t : Int32) : Bool := decide (0 ≤ t ∧ t < nI N)
theorem pin_spec {N : Nat} {t : Int32} (hN : N ≤ 16) (h : pin N t = true) : ∃ x, x < N ∧ t = nI x := by
  simp only [pin, decide_eq_true_eq] at h
  obtain ⟨j, hj1, hj2⟩ := nI_of (x := t) (by have := h.1; simp only [Int32.lt_iff_toInt_lt, Int32.le_iff_toInt_le] at *; omega)
  have h2 := h.2
  rw [hj2, nI_ltI hj1 (by omega)] at h2
  exact ⟨j, h2, hj2⟩
/-- what goes from a block to a chain -/
def put1 (N : Nat) (fo : Nat → Nat) (h : Nat) (t w : Int32) : Int32 := if pin N t && decide (fo t.toNatClampNeg = h) then w else 0
/-- what goes from the placed blocks to a chain -/
def pul (N : Nat) (fo : Nat → Nat) (f s w1 w2 : Nat → Int32) (pl : Nat → Bool) (h : Nat) : Int32 := sm (fun a => if pl a then put1 N fo h (f a) (w1 a) + put1 N fo h (s a) (w2 a) else 0) N
/-- chains, by their first blocks and by the places in them -/
def cgd (N : Nat) (ho : Nat → Bool) (bh : Nat → Int32) (fo rk : Nat → Nat) : Prop :=
  (∀ b, b < N → fo b < N ∧ rk b < N ∧ fo (fo b) = fo b ∧ (rk b = 0 ↔ fo b = b) ∧ ho (fo b) = ho b) ∧
  (∀ b, b < N → bh b = -1 ∨ ∃ x, x < N ∧ bh b = nI x ∧ fo x = fo b ∧ rk x = rk b + 1) ∧
  (∀ b c, b < N → c < N → fo b = fo c → rk b = rk c → b = c) ∧
  (∀ b, b < N → 0 < rk b → ∃ a, a < N ∧ bh a = nI b)
/-- the placed blocks behind k steps along the chain of c -/
def plc (pl : Nat → Bool) (fo rk : Nat → Nat) (c k : Nat) (x : Nat) : Bool := pl x || (decide (fo x = c) && decide (rk x < k))
/-- the row behind a chain -/
def plr (bh : Nat → Int32) : Nat → Int32 → (Nat → Int32) × Nat → (Nat → Int32) × Nat
  | 0, _, q => q
  | k + 1, b, q => if b = -1 then q else plr bh k (bh b.toNatClampNeg) (upd q.1 q.2 b, q.2 + 1)
theorem cgd_end {N : Nat} {ho : Nat → Bool} {bh : Nat → Int32} {fo rk : Nat → Nat} (hN : N ≤ 16) (h : cgd N ho bh fo rk) {b : Nat} (hb : b < N) (he : bh b = -1) {x : Nat} (hx : x < N) (hf : fo x = fo b) : rk x ≤ rk b := by
  obtain ⟨h1, h2, h3, h4⟩ := h
  have key : ∀ d x, x < N → fo x = fo b → rk x = rk b + 1 + d → False := by
    intro d
    induction d with
    | zero =>
      intro x hx hf hr
      obtain ⟨a, ha, hba⟩ := h4 x hx (by omega)
      rcases h2 a ha with q | ⟨y, hy, e1, e2, e3⟩
      · rw [q] at hba; exact nI_m1 (by omega) hba.symm
      · rw [hba] at e1
        have exy : x = y := (nI_eq (by omega) (by omega)).mp e1
        subst exy
        have eab : a = b := h3 a b ha hb (by rw [← e2]; exact hf) (by omega)
        subst eab
        rw [he] at hba
        exact nI_m1 (by omega) hba.symm
    | succ d ih =>
      intro x hx hf hr
      obtain ⟨a, ha, hba⟩ := h4 x hx (by omega)
      rcases h2 a ha with q | ⟨y, hy, e1, e2, e3⟩
      · rw [q] at hba; exact nI_m1 (by omega) hba.symm
      · rw [hba] at e1
        have exy : x = y := (nI_eq (by omega) (by omega)).mp e1
        subst exy
        exact ih a ha (by rw [← e2]; exact hf) (by omega)
  apply Classical.byContradiction
  intro hn
  exact key (rk x - rk b - 1) x hx hf (by omega)
set_option maxRecDepth 20000 in
theorem s_pullFor {l : Launch} {Z : fx_Z} (hl : l.stackTraces = false) (ad : Nat → Nat) (sw : Bool) (tl : List fx_Sh) (M : fx_M) {N : Nat} (fo : Nat → Nat) (t w : Int32) (hN : M 1 8 = nI N) (hN16 : N ≤ 16) (hch : ∀ b, b < N → M 23 b = nI (fo b) ∧ fo b < N) : CV l Z yX0_pullFor (.code yX0_pullFor cX0_pullFor 3 none) 1 [.ref (ad 20), .int t, .int w] ad (c_C sw ++ tl) M (fun m => fr [24] M m ∧ ∀ h, m 24 h = M 24 h + put1 N fo h t w) := by
  refine CT_of (ret := none) (lv0 := [some (.ref (ad 20)), some (.int t), some (.int w)]) (by decide +kernel) hl (by simp [Value.category]) (Nat.le_of_ble_eq_true rfl) rfl ?_
  intro X F Rt _
  refine G_aload_n F dX0_pullFor_0 rfl ?_
  refine G_getr F fl_X0_31 dX0_pullFor_1 rfl rfl ?_
  refine G_iload_n F dX0_pullFor_4 rfl ?_
  refine G_vI F mv_X0_115 dX0_pullFor_5 (s_has hl ad sw tl M t) rfl rfl rfl rfl (Nat.le_of_ble_eq_true rfl) ⟨Nat.le_of_ble_eq_true rfl, Nat.le_of_ble_eq_true rfl, Nat.le_of_ble_eq_true rfl, Nat.le_of_ble_eq_true rfl⟩ (fun r5 M5 h5 => ?_)
  rw [h5.1, h5.2]
  refine G_if_eq (tgt := 26) F dX0_pullFor_8 (by decide) (fun h8 => ?_) (fun h8 => ?_)
  · have hp : pin N t = false := by
      rw [hN] at h8
      simp only [pin, decide_eq_false_iff_not]
      intro q
      rw [if_pos q] at h8
      exact absurd h8 (by decide)
    refine G_vret F Rt dX0_pullFor_26 ⟨rfl, rfl, rfl, ?_⟩ (Nat.le_refl _) (Nat.le_refl _)
    exact ⟨fr.rfl, fun h => by simp [put1, hp]⟩
  · have hp : pin N t = true := by
      rw [hN] at h8
      simp only [pin, decide_eq_true_eq]
      exact Classical.byContradiction fun q => h8 (if_neg q)
    obtain ⟨x, hx1, hx2⟩ := pin_spec hN16 hp
    subst hx2
    have hfx := (hch x hx1)
    refine G_aload_n F dX0_pullFor_11 rfl ?_
    refine G_getr F fl_X0_22 dX0_pullFor_12 rfl rfl ?_
    refine G_aload_n F dX0_pullFor_15 rfl ?_
    refine G_getr F fl_X0_19 dX0_pullFor_16 rfl rfl ?_
    refine G_iload_n F dX0_pullFor_19 rfl ?_
    refine G_ialdN F dX0_pullFor_20 rfl (by omega) (by decide) ?_
    rw [hfx.1]
    refine G_dup2 F dX0_pullFor_21 rfl rfl ?_
    refine G_ialdN F dX0_pullFor_22 rfl (by omega) (by decide) ?_
    refine G_iload_n F dX0_pullFor_23 rfl ?_
    refine G_iadd F dX0_pullFor_24 ?_
    refine G_iastN F dX0_pullFor_25 rfl (by omega) (by decide) ?_
    refine G_vret F Rt dX0_pullFor_26 ⟨rfl, rfl, rfl, ?_⟩ (Nat.le_refl _) (Nat.le_refl _)
    refine ⟨fr.rfl.u (by decide), fun h => ?_⟩
    simp only [put1, hp, Bool.true_and, decide_eq_true_eq]
    rw [nI_clamp (by omega), fx_u_at]
    by_cases e : h = fo x
    · rw [if_pos ⟨rfl, e⟩, if_pos e.symm, e]
    · rw [if_neg (fun q => e q.2), if_neg (fun q => e q.symm), Int32.add_zero]
set_option maxRecDepth 20000 in
theorem s_placeChain {l : Launch} {Z : fx_Z} (hl : l.stackTraces = false) (ad : Nat → Nat) (sw : Bool) (tl : List fx_Sh) (M : fx_M) {N c : Nat} (ho pl : Nat → Bool) (fo rk : Nat → Nat) (hN : M 1 8 = nI N) (hN16 : N ≤ 16) (hh : M 20 3 = nI (hcn ho N)) (hch : ∀ b, b < N → M 23 b = nI (fo b) ∧ fo b < N) (hc : cgd N ho (M 22) fo rk) (hcN : c < N) (hcf : fo c = c) (hoc : ho c = true) (hplh : ∀ x, x < N → pl x = true → ho x = true) (hfree : ∀ x, x < N → fo x = c → pl x = false) (h25 : ∀ x, x < N → M 25 x = (if pl x then 1 else 0)) (h24 : ∀ h, h < N → M 24 h = (pul N fo (M 4) (M 5) (M 8) (M 9) pl h)) : CI l Z yX0_placeChain (.code yX0_placeChain cX0_placeChain 5 (some .int)) 2 [.ref (ad 20), .int (nI c), .int (nI (hcn pl N))] ad (c_C sw ++ tl) M (fun r m => r = nI (hcn (fun x => pl x || decide (fo x = c)) N) ∧ fr [11, 24, 25] M m ∧ m 11 = (plr (M 22) 17 (nI c) (M 11, hcn pl N)).1 ∧ hcn (fun x => pl x || decide (fo x = c)) N = (plr (M 22) 17 (nI c) (M 11, hcn pl N)).2 ∧ (∀ x, x < N → m 25 x = (if pl x || decide (fo x = c) then 1 else 0)) ∧ ∀ h, h < N → m 24 h = (pul N fo (M 4) (M 5) (M 8) (M 9) (fun x => pl x || decide (fo x = c)) h)) := by
  refine CT_of (ret := (some .int)) (lv0 := [some (.ref (ad 20)), some (.int (nI c)), some (.int (nI (hcn pl N))), none, none]) (by decide +kernel) hl (by simp [Value.category]) (Nat.le_of_ble_eq_true rfl) rfl ?_
  intro X F Rt _
  have lp : ∀ (k : Nat) (k1 : Nat) (M' : fx_M) (cur : Int32), k = 17 - k1 → k1 ≤ N → (cur = -1 ∨ ∃ b, b < N ∧ cur = nI b ∧ fo b = c ∧ rk b = k1) → (cur = -1 → ∀ x, x < N → fo x = c → rk x < k1) → fr [11, 24, 25] M M' → plr (M 22) (17 - k1) cur (M' 11, hcn (plc pl fo rk c k1) N) = (plr (M 22) 17 (nI c) (M 11, hcn pl N)) → (∀ x, x < N → M' 25 x = (if plc pl fo rk c k1 x then 1 else 0)) → (∀ h, h < N → M' 24 h = (pul N fo (M 4) (M 5) (M 8) (M 9) (plc pl fo rk c k1) h)) → GG X ad 5 [some (.ref (ad 20)), some (.int (nI c)), some (.int (nI (hcn pl N))), some (.int (nI (hcn (plc pl fo rk c k1) N))), some (.int cur)] [] 0 0 (c_C sw ++ tl) M' := by
    intro k
    induction k using Nat.strongRecOn with
    | _ k ih =>
      intro k1 M' cur hk g1 g2 g3 g4 g5 g6 g7
      have hN1 : M' 1 8 = nI N := by rw [g4 1 (by decide)]; exact hN
      have hho20 : M' 20 3 = nI (hcn ho N) := by rw [g4 20 (by decide)]; exact hh
      have hle0 := hcn_le (ho := ho) N
      have hle1 := hcn_le (ho := plc pl fo rk c k1) N
      refine G_aload_n F dX0_placeChain_5 rfl ?_
      refine G_getr F fl_X0_31 dX0_placeChain_6 rfl rfl ?_
      refine G_iload F dX0_placeChain_9 rfl ?_
      refine G_vI F mv_X0_115 dX0_placeChain_11 (s_has hl ad sw tl M' cur) rfl rfl rfl rfl (Nat.le_of_ble_eq_true rfl) ⟨Nat.le_of_ble_eq_true rfl, Nat.le_of_ble_eq_true rfl, Nat.le_of_ble_eq_true rfl, Nat.le_of_ble_eq_true rfl⟩ (fun r11 M11 h11 => ?_)
      rw [h11.1, h11.2]
      skip
      refine G_if_eq (tgt := 107) F dX0_placeChain_14 (by decide) (fun h14 => ?_) (fun h14 => ?_)
      · have hcur : cur = -1 := by
          rcases g2 with z | ⟨b, z1, z2, -, -⟩
          · exact z
          · exfalso
            rw [z2, hN1] at h14
            rw [if_pos ⟨nI_pos' (by omega), (nI_ltI (by omega) (by omega)).mpr z1⟩] at h14
            exact absurd h14 (by decide)
        refine G_iload_n F dX0_placeChain_107 rfl ?_
        refine G_iret F Rt dX0_placeChain_108 (rfl) ⟨rfl, rfl, _, rfl, ?_⟩ (Nat.le_refl _) (Nat.le_refl _)
        have hall : ∀ x, x < N → plc pl fo rk c k1 x = (pl x || decide (fo x = c)) := fun x hx => by
          unfold plc
          by_cases e : fo x = c
          · simp [e, g3 hcur x hx e]
          · simp [e]
        have hc1 : hcn (plc pl fo rk c k1) N = hcn (fun x => pl x || decide (fo x = c)) N := hcn_congr hall
        have hfin : (M' 11, hcn (plc pl fo rk c k1) N) = (plr (M 22) 17 (nI c) (M 11, hcn pl N)) := by
          rw [← g5, hcur]
          cases hk9 : 17 - k1 with
          | zero => rfl
          | succ n => simp [plr]
        refine ⟨?_, g4, ?_, ?_, fun x hx => ?_, fun h hh => ?_⟩
        · rw [← hc1]
        · rw [← hfin]
        · rw [← hfin, hc1]
        · rw [g6 x hx, hall x hx]
        · rw [g7 h hh]
          unfold pul
          exact sm_congr (fun a ha => by rw [hall a ha])
      · have hcur : ¬ cur = -1 := by
          intro z
          rw [z] at h14
          exact h14 (if_neg (fun q => absurd q.1 (by decide)))
        obtain ⟨b, hb1, hb2, hb3, hb4⟩ := g2.resolve_left hcur
        subst hb2
        have hplb : plc pl fo rk c k1 b = false := by
          unfold plc
          rw [hfree b hb1 hb3]
          simp [hb4]
        have hset : hcn (plc pl fo rk c (k1 + 1)) N = hcn (plc pl fo rk c k1) N + 1 := hcn_set hplb (by unfold plc; simp [hb3, hb4]) hb1 (fun x hx hne => by
          unfold plc
          by_cases e : fo x = c
          · have : rk x ≠ k1 := fun q => hne (hc.2.2.1 x b hx hb1 (by rw [e, hb3]) (by rw [q, hb4]))
            have e2 : decide (rk x < k1 + 1) = decide (rk x < k1) := by simp only [decide_eq_decide]; omega
            rw [e2]
          · simp [e])
        have hlt : hcn (plc pl fo rk c (k1 + 1)) N ≤ hcn ho N := hcn_sub (fun x hx q => by
          unfold plc at q
          simp only [Bool.or_eq_true, Bool.and_eq_true, decide_eq_true_eq] at q
          rcases q with q | q
          · exact hplh x hx q
          · rw [← (hc.1 x hx).2.2.2.2, q.1]; exact hoc)
        have hle := hcn_le (ho := ho) N
        refine G_iload_n F dX0_placeChain_17 rfl ?_
        refine G_aload_n F dX0_placeChain_18 rfl ?_
        refine G_geti F fl_X0_39 dX0_placeChain_19 rfl rfl ?_
        rw [hho20]
        refine G_icmp_ge (tgt := 107) F dX0_placeChain_22 (by decide) (fun h22 => ?_) (fun h22 => ?_)
        · rw [nI_leI (by omega) (by omega)] at h22
          exact absurd h22 (by omega) --stop
        · rw [nI_leI (by omega) (by omega)] at h22
          refine G_aload_n F dX0_placeChain_25 rfl ?_
          refine G_getr F fl_X0_35 dX0_placeChain_26 rfl rfl ?_
          refine G_getr F fl_X0_74 dX0_placeChain_29 rfl rfl ?_
          refine G_iload_n F dX0_placeChain_32 rfl ?_
          refine G_iload F dX0_placeChain_33 rfl ?_
          refine G_iastN F dX0_placeChain_35 rfl (by omega) (by decide) ?_
          refine G_aload_n F dX0_placeChain_36 rfl ?_
          refine G_getr F fl_X0_25 dX0_placeChain_37 rfl rfl ?_
          refine G_iload F dX0_placeChain_40 rfl ?_
          refine G_iconst (v := 1) F dX0_placeChain_42 rfl ?_
          refine G_zastN F dX0_placeChain_43 rfl (by omega) (by decide) (by first | exact Or.inl rfl | exact Or.inr rfl) ?_
          refine G_aload_n F dX0_placeChain_44 rfl ?_
          refine G_aload_n F dX0_placeChain_45 rfl ?_
          refine G_getr F fl_X0_31 dX0_placeChain_46 rfl rfl ?_
          refine G_getr F fl_X0_84 dX0_placeChain_49 rfl rfl ?_
          refine G_iload F dX0_placeChain_52 rfl ?_
          refine G_ialdN F dX0_placeChain_54 rfl (by omega) (by decide) ?_
          rw [fx_u_ne (by decide), fx_u_ne (by decide), g4 4 (by decide)]
          refine G_aload_n F dX0_placeChain_55 rfl ?_
          refine G_getr F fl_X0_31 dX0_placeChain_56 rfl rfl ?_
          refine G_getr F fl_X0_126 dX0_placeChain_59 rfl rfl ?_
          refine G_iload F dX0_placeChain_62 rfl ?_
          refine G_ialdN F dX0_placeChain_64 rfl (by omega) (by decide) ?_
          rw [fx_u_ne (by decide), fx_u_ne (by decide), g4 8 (by decide)]
          refine G_vv F mv_X0_129 dX0_placeChain_65 (s_pullFor hl ad sw tl _ (N := N) fo _ _ (by rw [fx_u_ne (by decide), fx_u_ne (by decide)]; exact hN1) hN16 (fun b hb => by rw [fx_u_ne (by decide), fx_u_ne (by decide), g4 23 (by decide)]; exact hch b hb)) rfl rfl rfl rfl (Nat.le_of_ble_eq_true rfl) ⟨Nat.le_of_ble_eq_true rfl, Nat.le_of_ble_eq_true rfl, Nat.le_of_ble_eq_true rfl, Nat.le_of_ble_eq_true rfl⟩ (fun M65 h65 => ?_)
          have q1 := h65
          refine G_aload_n F dX0_placeChain_68 rfl ?_
          refine G_aload_n F dX0_placeChain_69 rfl ?_
          refine G_getr F fl_X0_31 dX0_placeChain_70 rfl rfl ?_
          refine G_getr F fl_X0_87 dX0_placeChain_73 rfl rfl ?_
          refine G_iload F dX0_placeChain_76 rfl ?_
          refine G_ialdN F dX0_placeChain_78 rfl (by omega) (by decide) ?_
          rw [q1.1 5 (by decide)]
          rw [fx_u_ne (by decide), fx_u_ne (by decide), g4 5 (by decide)]
          refine G_aload_n F dX0_placeChain_79 rfl ?_
          refine G_getr F fl_X0_31 dX0_placeChain_80 rfl rfl ?_
          refine G_getr F fl_X0_132 dX0_placeChain_83 rfl rfl ?_
          refine G_iload F dX0_placeChain_86 rfl ?_
          refine G_ialdN F dX0_placeChain_88 rfl (by omega) (by decide) ?_
          rw [q1.1 9 (by decide)]
          rw [fx_u_ne (by decide), fx_u_ne (by decide), g4 9 (by decide)]
          refine G_vv F mv_X0_129 dX0_placeChain_89 (s_pullFor hl ad sw tl _ (N := N) fo _ _ (by rw [q1.1 1 (by decide), fx_u_ne (by decide), fx_u_ne (by decide)]; exact hN1) hN16 (fun b hb => by rw [q1.1 23 (by decide), fx_u_ne (by decide), fx_u_ne (by decide), g4 23 (by decide)]; exact hch b hb)) rfl rfl rfl rfl (Nat.le_of_ble_eq_true rfl) ⟨Nat.le_of_ble_eq_true rfl, Nat.le_of_ble_eq_true rfl, Nat.le_of_ble_eq_true rfl, Nat.le_of_ble_eq_true rfl⟩ (fun M89 h89 => ?_)
          have q2 := h89
          refine G_aload_n F dX0_placeChain_92 rfl ?_
          refine G_getr F fl_X0_15 dX0_placeChain_93 rfl rfl ?_
          refine G_iload F dX0_placeChain_96 rfl ?_
          refine G_ialdN F dX0_placeChain_98 rfl (by omega) (by decide) ?_
          refine G_istore F dX0_placeChain_99 rfl rfl (Nat.le_of_ble_eq_true rfl) ?_
          simp only [List.set_cons_zero, List.set_cons_succ]
          refine G_iinc F (1) dX0_placeChain_101 rfl rfl rfl rfl ?_
          simp only [List.set_cons_zero, List.set_cons_succ, nI_1]
          refine G_goto (tgt := 5) F dX0_placeChain_104 (by decide) ?_
          have hk1N : k1 + 1 ≤ N := by have := (hc.1 b hb1).2.1; omega
          have eb : M' 22 b = M 22 b := by rw [g4 22 (by decide)]
          have hrow : ∀ k, k ∉ [11, 24, 25] → M89 k = M k := fun k hk => by
            simp only [List.mem_cons, List.not_mem_nil, or_false, not_or] at hk
            rw [q2.1 k (by simp [hk.2.1]), q1.1 k (by simp [hk.2.1]), fx_u_ne hk.2.2, fx_u_ne hk.1, g4 k (by simp [hk])]
          rw [hrow 22 (by decide), show nI (hcn (plc pl fo rk c k1) N + 1) = nI (hcn (plc pl fo rk c (k1 + 1)) N) from by rw [hset]]
          refine ih (17 - (k1 + 1)) (by omega) (k1 + 1) _ _ rfl hk1N ?_ ?_ hrow ?_ ?_ ?_
          · rcases hc.2.1 b hb1 with z | ⟨x, z1, z2, z3, z4⟩
            · exact Or.inl z
            · exact Or.inr ⟨x, z1, z2, by rw [z3, hb3], by rw [z4, hb4]⟩
          · intro z x hx hf
            have := cgd_end hN16 hc hb1 z hx (by rw [hf, hb3])
            omega
          · rw [← g5, show 17 - k1 = (17 - (k1 + 1)) + 1 from by omega]
            simp only [plr]
            rw [if_neg (nI_m1 (by omega)), nI_clamp (by omega), hset, q2.1 11 (by decide), q1.1 11 (by decide), fx_u_ne (by decide), fx_u_eq]
          · intro x hx
            rw [q2.1 25 (by decide), q1.1 25 (by decide), fx_u_at]
            by_cases e : x = b
            · subst e
              rw [if_pos ⟨rfl, rfl⟩]
              unfold plc
              simp [hb3, hb4]
            · rw [if_neg (fun z => e z.2), fx_u_ne (by decide), g6 x hx]
              unfold plc
              by_cases e2 : fo x = c
              · have : rk x ≠ k1 := fun q => e (hc.2.2.1 x b hx hb1 (by rw [e2, hb3]) (by rw [q, hb4]))
                have e3 : decide (rk x < k1 + 1) = decide (rk x < k1) := by simp only [decide_eq_decide]; omega
                rw [e3]
              · simp [e2]
          · intro h hh
            rw [q2.2 h, q1.2 h, fx_u_ne (by decide), fx_u_ne (by decide), g7 h hh, Int32.add_assoc]
            have hs := sm_set (f := fun a => if plc pl fo rk c k1 a then put1 N fo h (M 4 a) (M 8 a) + put1 N fo h (M 5 a) (M 9 a) else 0) (g := fun a => if plc pl fo rk c (k1 + 1) a then put1 N fo h (M 4 a) (M 8 a) + put1 N fo h (M 5 a) (M 9 a) else 0) (x := b) (by simp [hplb]) hb1 (fun x hx hne => by
              have : plc pl fo rk c (k1 + 1) x = plc pl fo rk c k1 x := by
                unfold plc
                by_cases e2 : fo x = c
                · have : rk x ≠ k1 := fun q => hne (hc.2.2.1 x b hx hb1 (by rw [e2, hb3]) (by rw [q, hb4]))
                  have e3 : decide (rk x < k1 + 1) = decide (rk x < k1) := by simp only [decide_eq_decide]; omega
                  rw [e3]
                · simp [e2]
              simp only [this])
            have hpb : plc pl fo rk c (k1 + 1) b = true := by unfold plc; simp [hb3, hb4]
            simp only [hpb, if_true] at hs
            exact hs.symm
  refine G_iload_n F dX0_placeChain_0 rfl ?_
  refine G_istore_n F 3 dX0_placeChain_1 rfl rfl rfl (Nat.le_of_ble_eq_true rfl) ?_
  simp only [List.set_cons_zero, List.set_cons_succ]
  refine G_iload_n F dX0_placeChain_2 rfl ?_
  refine G_istore F dX0_placeChain_3 rfl rfl (Nat.le_of_ble_eq_true rfl) ?_
  simp only [List.set_cons_zero, List.set_cons_succ]
  have e0 : ∀ x, plc pl fo rk c 0 x = pl x := fun x => by unfold plc; simp
  have e1 : plc pl fo rk c 0 = pl := funext e0
  have q := lp 17 0 M (nI c) rfl (by omega) (Or.inr ⟨c, hcN, rfl, hcf, ((hc.1 c hcN).2.2.2.1).mpr hcf⟩) (fun z => absurd z (nI_m1 (by omega))) fr.rfl (by rw [e1]) (by rw [e1]; exact h25) (by rw [e1]; exact h24)
  rw [e1] at q
  exact q
