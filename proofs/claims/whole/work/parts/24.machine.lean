/-! MACHINE -/
theorem nI_and31 {t : Nat} (h : t < 512) : nI t &&& 31 = nI (t % 32) := by
  have : ∀ t, t < 512 → nI t &&& 31 = nI (t % 32) := by decide +kernel
  exact this t h
/-- the condition of a block that is executed for the t-th time -/
def pb (p : Int32) (t : Nat) : Bool := decide ((p >>> nI (t % 32)) &&& 1 = 1)
/-- from a block and how often each has been executed to the next -/
def tq (kd f s p : Nat → Int32) (x : Nat × (Nat → Nat)) : Nat × (Nat → Nat) := ((if kd x.1 = 1 ∧ pb (p x.1) (x.2 x.1) = false then s x.1 else f x.1).toNatClampNeg, fun y => if y = x.1 then x.2 y + 1 else x.2 y)
/-- the run of an execution -/
def tr (kd f s p : Nat → Int32) : Nat → Nat × (Nat → Nat)
  | 0 => (0, fun _ => 0)
  | i + 1 => tq kd f s p (tr kd f s p i)
/-- a program that is whole -/
def pv (N : Nat) (kd f s : Nat → Int32) : Prop := ∀ b, b < N → (kd b = 2 ∧ f b = -1 ∧ s b = -1) ∨ (kd b = 0 ∧ (∃ x, x < N ∧ f b = nI x) ∧ s b = -1) ∨ (kd b = 1 ∧ (∃ x, x < N ∧ f b = nI x) ∧ (∃ z, z < N ∧ s b = nI z) ∧ f b ≠ s b)
theorem tq_in {N : Nat} {kd f s p : Nat → Int32} (hN : N ≤ 16) (hv : pv N kd f s) {x : Nat × (Nat → Nat)} (hx : x.1 < N) (hk : kd x.1 ≠ 2) : (tq kd f s p x).1 < N ∧ (if kd x.1 = 1 ∧ pb (p x.1) (x.2 x.1) = false then s x.1 else f x.1) = nI (tq kd f s p x).1 := by
  have h : ∃ y, y < N ∧ (if kd x.1 = 1 ∧ pb (p x.1) (x.2 x.1) = false then s x.1 else f x.1) = nI y := by
    rcases hv x.1 hx with h | ⟨h1, h2, h3⟩ | ⟨h1, h2, h3, h4⟩
    · exact absurd h.1 hk
    · rw [if_neg (fun q => by rw [h1] at q; exact absurd q.1 (by decide))]; exact h2
    · split
      · exact h3
      · exact h2
  obtain ⟨y, h1, h2⟩ := h
  simp only [tq, h2]
  rw [nI_clamp (by omega)]
  exact ⟨h1, rfl⟩
theorem tr_in {N : Nat} {kd f s p : Nat → Int32} (hN : N ≤ 16) (h0 : 0 < N) (hv : pv N kd f s) : ∀ i, (∀ j, j < i → kd (tr kd f s p j).1 ≠ 2) → (tr kd f s p i).1 < N := by
  intro i
  induction i with
  | zero => intro _; exact h0
  | succ i ih => intro h; exact (tq_in hN hv (ih (fun j hj => h j (by omega))) (h i (by omega))).1
theorem tr_le {kd f s p : Nat → Int32} : ∀ i y, (tr kd f s p i).2 y ≤ i := by
  intro i
  induction i with
  | zero => intro y; exact Nat.le_refl 0
  | succ i ih =>
    intro y
    simp only [tr, tq]
    split
    · exact Nat.succ_le_succ (ih y)
    · exact Nat.le_succ_of_le (ih y)
set_option maxRecDepth 20000 in
theorem s_follow {l : Launch} {Z : fx_Z} (hl : l.stackTraces = false) (ad : Nat → Nat) (sw : Bool) (tl : List fx_Sh) (M : fx_M) {b t : Nat} (hb : b < 16) (ht : M 30 b = nI t) (ht5 : t < 512) : CI l Z yX3_follow (.code yX3_follow cX3_follow 4 (some .int)) 0 [.ref (ad 27), .int (nI b)] ad (c_C sw ++ tl) M (fun r m => r = (if M 3 b = 1 ∧ pb (M 6 b) t = false then M 5 b else M 4 b) ∧ m = fx_u M 30 b (nI (t + 1))) := by
  refine CT_of (ret := (some .int)) (lv0 := [some (.ref (ad 27)), some (.int (nI b)), none, none]) (by decide +kernel) hl (by simp [Value.category]) (Nat.le_of_ble_eq_true rfl) rfl ?_
  intro X F Rt _
  refine G_aload_n F dX3_follow_0 rfl ?_
  refine G_getr F fl_X3_18 dX3_follow_1 rfl rfl ?_
  refine G_iload_n F dX3_follow_4 rfl ?_
  refine G_ialdN F dX3_follow_5 rfl (by omega) (by decide) ?_
  try simp only [fx_u_at, Nat.reduceEqDiff, false_and, and_false, true_and, and_true, ↓reduceIte, ht]
  refine G_istore_n F 2 dX3_follow_6 rfl rfl rfl (Nat.le_of_ble_eq_true rfl) ?_
  simp only [List.set_cons_zero, List.set_cons_succ]
  refine G_aload_n F dX3_follow_7 rfl ?_
  refine G_getr F fl_X3_18 dX3_follow_8 rfl rfl ?_
  refine G_iload_n F dX3_follow_11 rfl ?_
  refine G_iload_n F dX3_follow_12 rfl ?_
  refine G_iconst (v := nI 1) F dX3_follow_13 (by decide) ?_
  refine G_iadd F dX3_follow_14 ?_
  rw [nI_add]
  refine G_iastN F dX3_follow_15 rfl (by omega) (by decide) ?_
  refine G_aload_n F dX3_follow_16 rfl ?_
  refine G_getr F fl_X3_21 dX3_follow_17 rfl rfl ?_
  refine G_getr F fl_X3_42 dX3_follow_20 rfl rfl ?_
  refine G_iload_n F dX3_follow_23 rfl ?_
  refine G_ialdN F dX3_follow_24 rfl (by omega) (by decide) ?_
  try simp only [fx_u_at, Nat.reduceEqDiff, false_and, and_false, true_and, and_true, ↓reduceIte, ht]
  refine G_iload_n F dX3_follow_25 rfl ?_
  refine G_bipush (v := 31) F dX3_follow_26 rfl ?_
  refine G_iand F dX3_follow_28 ?_
  rw [nI_and31 ht5]
  refine G_ishr F dX3_follow_29 ?_
  rw [nI_sh (by omega)]
  refine G_iconst (v := 1) F dX3_follow_30 rfl ?_
  refine G_iand F dX3_follow_31 ?_
  refine G_iconst (v := 1) F dX3_follow_32 rfl ?_
  refine G_icmp_ne (tgt := 40) F dX3_follow_33 (by decide) (fun h33 => ?_) (fun h33 => ?_)
  · have hp : pb (M 6 b) t = false := by simpa [pb] using h33
    refine G_iconst (v := 0) F dX3_follow_40 rfl ?_
    refine G_istore_n F 3 dX3_follow_41 rfl rfl rfl (Nat.le_of_ble_eq_true rfl) ?_
    simp only [List.set_cons_zero, List.set_cons_succ]
    refine G_aload_n F dX3_follow_42 rfl ?_
    refine G_getr F fl_X3_21 dX3_follow_43 rfl rfl ?_
    refine G_getr F fl_X3_31 dX3_follow_46 rfl rfl ?_
    refine G_iload_n F dX3_follow_49 rfl ?_
    refine G_ialdN F dX3_follow_50 rfl (by omega) (by decide) ?_
    try simp only [fx_u_at, Nat.reduceEqDiff, false_and, and_false, true_and, and_true, ↓reduceIte, ht]
    refine G_iconst (v := 1) F dX3_follow_51 rfl ?_
    refine G_icmp_ne (tgt := 69) F dX3_follow_52 (by decide) (fun h52 => ?_) (fun h52 => ?_)
    · have hk : ¬ M 3 b = 1 := h52
      refine G_aload_n F dX3_follow_69 rfl ?_
      refine G_getr F fl_X3_21 dX3_follow_70 rfl rfl ?_
      refine G_getr F fl_X3_48 dX3_follow_73 rfl rfl ?_
      refine G_iload_n F dX3_follow_76 rfl ?_
      refine G_ialdN F dX3_follow_77 rfl (by omega) (by decide) ?_
      try simp only [fx_u_at, Nat.reduceEqDiff, false_and, and_false, true_and, and_true, ↓reduceIte, ht]
      refine G_iret F Rt dX3_follow_78 (rfl) ⟨rfl, rfl, _, rfl, ?_⟩ (Nat.le_refl _) (Nat.le_refl _)
      clear F Rt
      refine ⟨?_, rfl⟩
      simp_all
    · have hk : M 3 b = 1 := h52
      refine G_iload_n F dX3_follow_55 rfl ?_
      refine G_if_ne (tgt := 69) F dX3_follow_56 (by decide) (fun h56 => ?_) (fun h56 => ?_)
      · refine G_aload_n F dX3_follow_69 rfl ?_
        refine G_getr F fl_X3_21 dX3_follow_70 rfl rfl ?_
        refine G_getr F fl_X3_48 dX3_follow_73 rfl rfl ?_
        refine G_iload_n F dX3_follow_76 rfl ?_
        refine G_ialdN F dX3_follow_77 rfl (by omega) (by decide) ?_
        try simp only [fx_u_at, Nat.reduceEqDiff, false_and, and_false, true_and, and_true, ↓reduceIte, ht]
        refine G_iret F Rt dX3_follow_78 (rfl) ⟨rfl, rfl, _, rfl, ?_⟩ (Nat.le_refl _) (Nat.le_refl _)
        clear F Rt
        refine ⟨?_, rfl⟩
        simp_all
      · refine G_aload_n F dX3_follow_59 rfl ?_
        refine G_getr F fl_X3_21 dX3_follow_60 rfl rfl ?_
        refine G_getr F fl_X3_45 dX3_follow_63 rfl rfl ?_
        refine G_iload_n F dX3_follow_66 rfl ?_
        refine G_ialdN F dX3_follow_67 rfl (by omega) (by decide) ?_
        try simp only [fx_u_at, Nat.reduceEqDiff, false_and, and_false, true_and, and_true, ↓reduceIte, ht]
        refine G_iret F Rt dX3_follow_68 (rfl) ⟨rfl, rfl, _, rfl, ?_⟩ (Nat.le_refl _) (Nat.le_refl _)
        clear F Rt
        refine ⟨?_, rfl⟩
        simp_all
  · have hp : pb (M 6 b) t = true := by simpa [pb] using h33
    refine G_iconst (v := 1) F dX3_follow_36 rfl ?_
    refine G_goto (tgt := 41) F dX3_follow_37 (by decide) ?_
    refine G_istore_n F 3 dX3_follow_41 rfl rfl rfl (Nat.le_of_ble_eq_true rfl) ?_
    simp only [List.set_cons_zero, List.set_cons_succ]
    refine G_aload_n F dX3_follow_42 rfl ?_
    refine G_getr F fl_X3_21 dX3_follow_43 rfl rfl ?_
    refine G_getr F fl_X3_31 dX3_follow_46 rfl rfl ?_
    refine G_iload_n F dX3_follow_49 rfl ?_
    refine G_ialdN F dX3_follow_50 rfl (by omega) (by decide) ?_
    try simp only [fx_u_at, Nat.reduceEqDiff, false_and, and_false, true_and, and_true, ↓reduceIte, ht]
    refine G_iconst (v := 1) F dX3_follow_51 rfl ?_
    refine G_icmp_ne (tgt := 69) F dX3_follow_52 (by decide) (fun h52 => ?_) (fun h52 => ?_)
    · have hk : ¬ M 3 b = 1 := h52
      refine G_aload_n F dX3_follow_69 rfl ?_
      refine G_getr F fl_X3_21 dX3_follow_70 rfl rfl ?_
      refine G_getr F fl_X3_48 dX3_follow_73 rfl rfl ?_
      refine G_iload_n F dX3_follow_76 rfl ?_
      refine G_ialdN F dX3_follow_77 rfl (by omega) (by decide) ?_
      try simp only [fx_u_at, Nat.reduceEqDiff, false_and, and_false, true_and, and_true, ↓reduceIte, ht]
      refine G_iret F Rt dX3_follow_78 (rfl) ⟨rfl, rfl, _, rfl, ?_⟩ (Nat.le_refl _) (Nat.le_refl _)
      clear F Rt
      refine ⟨?_, rfl⟩
      simp_all
    · have hk : M 3 b = 1 := h52
      refine G_iload_n F dX3_follow_55 rfl ?_
      refine G_if_ne (tgt := 69) F dX3_follow_56 (by decide) (fun h56 => ?_) (fun h56 => ?_)
      · refine G_aload_n F dX3_follow_69 rfl ?_
        refine G_getr F fl_X3_21 dX3_follow_70 rfl rfl ?_
        refine G_getr F fl_X3_48 dX3_follow_73 rfl rfl ?_
        refine G_iload_n F dX3_follow_76 rfl ?_
        refine G_ialdN F dX3_follow_77 rfl (by omega) (by decide) ?_
        try simp only [fx_u_at, Nat.reduceEqDiff, false_and, and_false, true_and, and_true, ↓reduceIte, ht]
        refine G_iret F Rt dX3_follow_78 (rfl) ⟨rfl, rfl, _, rfl, ?_⟩ (Nat.le_refl _) (Nat.le_refl _)
        clear F Rt
        refine ⟨?_, rfl⟩
        simp_all
      · refine G_aload_n F dX3_follow_59 rfl ?_
        refine G_getr F fl_X3_21 dX3_follow_60 rfl rfl ?_
        refine G_getr F fl_X3_45 dX3_follow_63 rfl rfl ?_
        refine G_iload_n F dX3_follow_66 rfl ?_
        refine G_ialdN F dX3_follow_67 rfl (by omega) (by decide) ?_
        try simp only [fx_u_at, Nat.reduceEqDiff, false_and, and_false, true_and, and_true, ↓reduceIte, ht]
        refine G_iret F Rt dX3_follow_68 (rfl) ⟨rfl, rfl, _, rfl, ?_⟩ (Nat.le_refl _) (Nat.le_refl _)
        clear F Rt
        refine ⟨?_, rfl⟩
        simp_all
set_option maxRecDepth 20000 in
theorem s_keepPath {l : Launch} {Z : fx_Z} (hl : l.stackTraces = false) (ad : Nat → Nat) (sw : Bool) (tl : List fx_Sh) (M : fx_M) (n : Int32)  : CT l Z yX3_keepPath (.code yX3_keepPath cX3_keepPath 3 none) 0 0 0 [.ref (ad 27), .int n] ad (c_C sw ++ tl) M (fun v a s m => v = none ∧ a = ad ∧ s = c_C (!sw) ++ tl ∧ m = fx_u M 27 4 n) (fun _ _ => False) := by
  refine CT_of (ret := none) (lv0 := [some (.ref (ad 27)), some (.int n), none]) (by decide +kernel) hl (by simp [Value.category]) (Nat.le_of_ble_eq_true rfl) rfl ?_
  intro X F Rt _
  refine G_aload_n F dX3_keepPath_0 rfl ?_
  refine G_getr F fl_X3_9 dX3_keepPath_1 rfl rfl ?_
  refine G_astore_n F 2 dX3_keepPath_4 rfl rfl rfl (Nat.le_of_ble_eq_true rfl) ?_
  simp only [List.set_cons_zero, List.set_cons_succ]
  refine G_aload_n F dX3_keepPath_5 rfl ?_
  refine G_aload_n F dX3_keepPath_6 rfl ?_
  refine G_getr F fl_X3_15 dX3_keepPath_7 rfl rfl ?_
  refine G_putr F fl_X3_9 dX3_keepPath_10 rfl (fun _ => rfl) (fun _ => rfl) rfl rfl ?_
  refine G_aload_n F dX3_keepPath_13 rfl ?_
  refine G_aload_n F dX3_keepPath_14 rfl ?_
  refine G_putr F fl_X3_15 dX3_keepPath_15 rfl (fun _ => rfl) (fun _ => rfl) rfl rfl ?_
  refine G_aload_n F dX3_keepPath_18 rfl ?_
  refine G_iload_n F dX3_keepPath_19 rfl ?_
  refine G_puti F fl_X3_51 dX3_keepPath_20 rfl rfl rfl rfl ?_
  refine G_vret F Rt dX3_keepPath_23 ⟨rfl, rfl, by cases sw <;> rfl, rfl⟩ (Nat.le_refl _) (Nat.le_refl _)
set_option maxRecDepth 20000 in
theorem s_addToEdge {l : Launch} {Z : fx_Z} (hl : l.stackTraces = false) (ad : Nat → Nat) (sw : Bool) (tl : List fx_Sh) (M : fx_M) {b : Nat} (t : Int32) (hb : b < 16) : CV l Z yX3_addToEdge (.code yX3_addToEdge cX3_addToEdge 3 none) 0 [.ref (ad 27), .int (nI b), .int t] ad (c_C sw ++ tl) M (fun m => m = if M 4 b = t then fx_u M 8 b (M 8 b + 1) else fx_u M 9 b (M 9 b + 1)) := by
  refine CT_of (ret := none) (lv0 := [some (.ref (ad 27)), some (.int (nI b)), some (.int t)]) (by decide +kernel) hl (by simp [Value.category]) (Nat.le_of_ble_eq_true rfl) rfl ?_
  intro X F Rt _
  refine G_aload_n F dX3_addToEdge_0 rfl ?_
  refine G_getr F fl_X3_21 dX3_addToEdge_1 rfl rfl ?_
  refine G_getr F fl_X3_48 dX3_addToEdge_4 rfl rfl ?_
  refine G_iload_n F dX3_addToEdge_7 rfl ?_
  refine G_ialdN F dX3_addToEdge_8 rfl (by omega) (by decide) ?_
  refine G_iload_n F dX3_addToEdge_9 rfl ?_
  refine G_icmp_ne (tgt := 29) F dX3_addToEdge_10 (by decide) (fun h10 => ?_) (fun h10 => ?_)
  · refine G_aload_n F dX3_addToEdge_29 rfl ?_
    refine G_getr F fl_X3_21 dX3_addToEdge_30 rfl rfl ?_
    refine G_getr F fl_X3_65 dX3_addToEdge_33 rfl rfl ?_
    refine G_iload_n F dX3_addToEdge_36 rfl ?_
    refine G_dup2 F dX3_addToEdge_37 rfl rfl ?_
    refine G_ialdN F dX3_addToEdge_38 rfl (by omega) (by decide) ?_
    refine G_iconst (v := 1) F dX3_addToEdge_39 rfl ?_
    refine G_iadd F dX3_addToEdge_40 ?_
    refine G_iastN F dX3_addToEdge_41 rfl (by omega) (by decide) ?_
    refine G_vret F Rt dX3_addToEdge_42 ⟨rfl, rfl, rfl, ?_⟩ (Nat.le_refl _) (Nat.le_refl _)
    clear F Rt
    first | rw [if_pos (by assumption)] | rw [if_neg (by assumption)]
  · refine G_aload_n F dX3_addToEdge_13 rfl ?_
    refine G_getr F fl_X3_21 dX3_addToEdge_14 rfl rfl ?_
    refine G_getr F fl_X3_62 dX3_addToEdge_17 rfl rfl ?_
    refine G_iload_n F dX3_addToEdge_20 rfl ?_
    refine G_dup2 F dX3_addToEdge_21 rfl rfl ?_
    refine G_ialdN F dX3_addToEdge_22 rfl (by omega) (by decide) ?_
    refine G_iconst (v := 1) F dX3_addToEdge_23 rfl ?_
    refine G_iadd F dX3_addToEdge_24 ?_
    refine G_iastN F dX3_addToEdge_25 rfl (by omega) (by decide) ?_
    refine G_goto (tgt := 42) F dX3_addToEdge_26 (by decide) ?_
    refine G_vret F Rt dX3_addToEdge_42 ⟨rfl, rfl, rfl, ?_⟩ (Nat.le_refl _) (Nat.le_refl _)
    clear F Rt
    first | rw [if_pos (by assumption)] | rw [if_neg (by assumption)]
set_option maxRecDepth 20000 in
theorem s_execute {l : Launch} {Z : fx_Z} (hl : l.stackTraces = false) (ad : Nat → Nat) (sw : Bool) (tl : List fx_Sh) (M : fx_M) {N lim : Nat} (hN : M 1 8 = nI N) (hN16 : N ≤ 16) (h0 : 0 < N) (hv : pv N (M 3) (M 4) (M 5)) (hlim : lim ≤ 500) : CT l Z yX3_execute (.code yX3_execute cX3_execute 4 (some .boolean)) 1 0 0 [.ref (ad 27), .int (nI lim)] ad (c_C sw ++ tl) M (fun v a s m => a = ad ∧ ((∃ L, 0 < L ∧ L ≤ lim ∧ v = some (.int 1) ∧ s = c_C (!sw) ++ tl ∧ M 3 (tr (M 3) (M 4) (M 5) (M 6) (L - 1)).1 = 2 ∧ (∀ i, i + 1 < L → M 3 (tr (M 3) (M 4) (M 5) (M 6) i).1 ≠ 2) ∧ fr [27, 30, (cond sw 28 29)] M m ∧ m 27 4 = nI L ∧ ∀ j, j < L → m (cond sw 28 29) j = nI (tr (M 3) (M 4) (M 5) (M 6) j).1) ∨ ((∀ i, i < lim → M 3 (tr (M 3) (M 4) (M 5) (M 6) i).1 ≠ 2) ∧ v = some (.int 0) ∧ s = c_C sw ++ tl ∧ fr [30, (cond sw 28 29)] M m))) (fun _ _ => False) := by
  refine CT_of (ret := (some .boolean)) (lv0 := [some (.ref (ad 27)), some (.int (nI lim)), none, none]) (by decide +kernel) hl (by simp [Value.category]) (Nat.le_of_ble_eq_true rfl) rfl ?_
  intro X F Rt _
  have lp1 : ∀ (k : Nat) (i : Nat) (M' : fx_M), k = 16 - i → i ≤ 16 → fr [30] M M' → (∀ b, b < i → M' 30 b = 0) → (∀ m : fx_M, fr [30] M m → (∀ b, b < 16 → m 30 b = 0) → GG X ad 21 [some (.ref (ad 27)), some (.int (nI lim)), some (.int (nI 16)), none] [] 0 0 (c_C sw ++ tl) m) → GG X ad 2 [some (.ref (ad 27)), some (.int (nI lim)), some (.int (nI i)), none] [] 0 0 (c_C sw ++ tl) M' := by
    intro k
    induction k using Nat.strongRecOn with
    | _ k ih =>
      intro i M' hk hi h1 h2 hex
      refine G_iload_n F dX3_execute_2 rfl ?_
      refine G_bipush (v := nI 16) F dX3_execute_3 (by decide) ?_
      refine G_icmp_ge (tgt := 21) F dX3_execute_5 (by decide) (fun h5 => ?_) (fun h5 => ?_)
      · rw [nI_leI (by omega) (by omega)] at h5
        have hi16 : i = 16 := by omega
        subst hi16
        exact hex M' h1 h2
      · rw [nI_leI (by omega) (by omega)] at h5
        refine G_aload_n F dX3_execute_8 rfl ?_
        refine G_getr F fl_X3_18 dX3_execute_9 rfl rfl ?_
        refine G_iload_n F dX3_execute_12 rfl ?_
        refine G_iconst (v := 0) F dX3_execute_13 rfl ?_
        refine G_iastN F dX3_execute_14 rfl (by omega) (by decide) ?_
        refine G_iinc F (1) dX3_execute_15 rfl rfl rfl rfl ?_
        simp only [List.set_cons_zero, List.set_cons_succ, nI_1]
        refine G_goto (tgt := 2) F dX3_execute_18 (by decide) ?_
        exact ih (16 - (i + 1)) (by omega) (i + 1) _ rfl (by omega) (h1.u (by decide)) (fun b hb => by
          by_cases e : b = i
          · subst e; simp [fx_u_at]
          · have := h2 b (by omega); simp [fx_u_at, e, this]) hex
  have lp2 : ∀ (k : Nat) (i : Nat) (M' : fx_M), k = lim - i → i ≤ lim → fr [30, (cond sw 28 29)] M M' → (∀ y, y < 16 → M' 30 y = nI ((tr (M 3) (M 4) (M 5) (M 6) i).2 y)) → (∀ j, j < i → M' (cond sw 28 29) j = nI ((tr (M 3) (M 4) (M 5) (M 6) j).1)) → (∀ j, j < i → M 3 (tr (M 3) (M 4) (M 5) (M 6) j).1 ≠ 2) → GG X ad 25 [some (.ref (ad 27)), some (.int (nI lim)), some (.int (nI (tr (M 3) (M 4) (M 5) (M 6) i).1)), some (.int (nI i))] [] 0 0 (c_C sw ++ tl) M' := by
    intro k
    induction k using Nat.strongRecOn with
    | _ k ih =>
      intro i M' hk hi h1 h2 h3 h4
      have hbN : (tr (M 3) (M 4) (M 5) (M 6) i).1 < N := tr_in hN16 h0 hv i h4
      have hrow3 : M' 3 = M 3 := h1 3 (by cases sw <;> decide)
      have hrow4 : M' 4 = M 4 := h1 4 (by cases sw <;> decide)
      have hrow5 : M' 5 = M 5 := h1 5 (by cases sw <;> decide)
      have hrow6 : M' 6 = M 6 := h1 6 (by cases sw <;> decide)
      have hne : ∀ (k : Nat) (x : Int32), k < 28 → fx_u M' (cond sw 28 29) i x k = M' k := fun k x hk => fx_u_ne (by cases sw <;> simp <;> omega)
      refine G_iload_n F dX3_execute_25 rfl ?_
      refine G_iload_n F dX3_execute_26 rfl ?_
      refine G_icmp_ge (tgt := 89) F dX3_execute_27 (by decide) (fun h27 => ?_) (fun h27 => ?_)
      · rw [nI_leI (by omega) (by omega)] at h27
        have hil : i = lim := by omega
        refine G_iconst (v := 0) F dX3_execute_89 rfl ?_
        refine G_iret F Rt dX3_execute_90 (rfl) ?_ (Nat.le_refl _) (Nat.le_refl _)
        exact ⟨rfl, Or.inr ⟨fun j hj => h4 j (by omega), rfl, rfl, h1⟩⟩
      · rw [nI_leI (by omega) (by omega)] at h27
        refine G_iload_n F dX3_execute_30 rfl ?_
        refine G_sipush (v := nI 500) F dX3_execute_31 (by decide) ?_
        refine G_icmp_ge (tgt := 89) F dX3_execute_34 (by decide) (fun h34 => ?_) (fun h34 => ?_)
        · rw [nI_leI (by omega) (by omega)] at h34
          exact absurd h34 (by omega) --stop
        · rw [nI_leI (by omega) (by omega)] at h34
          refine G_aload_n F dX3_execute_37 rfl ?_
          refine G_getr F fl_X3_21 dX3_execute_38 rfl rfl ?_
          refine G_iload_n F dX3_execute_41 rfl ?_
          refine G_vI F mv_X3_25 dX3_execute_42 (s_hasN hl ad sw tl M' (N := N) (b := (tr (M 3) (M 4) (M 5) (M 6) i).1) (by rw [h1 1 (by cases sw <;> decide)]; exact hN) hN16 (by omega)) rfl rfl rfl rfl (Nat.le_of_ble_eq_true rfl) ⟨Nat.le_of_ble_eq_true rfl, Nat.le_of_ble_eq_true rfl, Nat.le_of_ble_eq_true rfl, Nat.le_of_ble_eq_true rfl⟩ (fun r42 M42 h42 => ?_)
          rw [h42.1, h42.2]
          refine G_if_eq (tgt := 89) F dX3_execute_45 (by decide) (fun h45 => ?_) (fun h45 => ?_)
          · exact absurd h45 (by rw [if_pos hbN]; decide) --stop
          · refine G_aload_n F dX3_execute_48 rfl ?_
            refine G_getr F fl_X3_15 dX3_execute_49 rfl rfl ?_
            refine G_iload_n F dX3_execute_52 rfl ?_
            refine G_iload_n F dX3_execute_53 rfl ?_
            refine G_iastN F dX3_execute_54 (by cases sw <;> rfl) (by omega) (by decide) ?_
            refine G_aload_n F dX3_execute_55 rfl ?_
            refine G_getr F fl_X3_21 dX3_execute_56 rfl rfl ?_
            refine G_getr F fl_X3_31 dX3_execute_59 rfl rfl ?_
            refine G_iload_n F dX3_execute_62 rfl ?_
            refine G_ialdN F dX3_execute_63 rfl (by omega) (by decide) ?_
            rw [hne 3 _ (by omega), hrow3]
            refine G_iconst (v := 2) F dX3_execute_64 rfl ?_
            refine G_icmp_ne (tgt := 77) F dX3_execute_65 (by decide) (fun h65 => ?_) (fun h65 => ?_)
            · have hk65 : M 3 (tr (M 3) (M 4) (M 5) (M 6) i).1 ≠ 2 := h65
              refine G_aload_n F dX3_execute_77 rfl ?_
              refine G_iload_n F dX3_execute_78 rfl ?_
              refine G_vI F mv_X3_38 dX3_execute_79 (s_follow hl ad sw tl _ (b := (tr (M 3) (M 4) (M 5) (M 6) i).1) (t := (tr (M 3) (M 4) (M 5) (M 6) i).2 (tr (M 3) (M 4) (M 5) (M 6) i).1) (by omega) (by rw [fx_u_ne (by cases sw <;> decide)]; exact h2 _ (by omega)) (by have := tr_le (kd := M 3) (f := M 4) (s := M 5) (p := M 6) i (tr (M 3) (M 4) (M 5) (M 6) i).1; omega)) rfl rfl rfl rfl (Nat.le_of_ble_eq_true rfl) ⟨Nat.le_of_ble_eq_true rfl, Nat.le_of_ble_eq_true rfl, Nat.le_of_ble_eq_true rfl, Nat.le_of_ble_eq_true rfl⟩ (fun r79 M79 h79 => ?_)
              rw [h79.1, h79.2, hne 3 _ (by omega), hne 4 _ (by omega), hne 5 _ (by omega), hne 6 _ (by omega), hrow3, hrow4, hrow5, hrow6]
              obtain ⟨hb1, hb2⟩ := tq_in (p := M 6) hN16 hv hbN hk65
              rw [hb2]
              have g1 : fr [30, cond sw 28 29] M (fx_u M' (cond sw 28 29) i (nI (tr (M 3) (M 4) (M 5) (M 6) i).1)) := h1.u (by simp)
              refine G_istore_n F 2 dX3_execute_82 rfl rfl rfl (Nat.le_of_ble_eq_true rfl) ?_
              simp only [List.set_cons_zero, List.set_cons_succ]
              refine G_iinc F (1) dX3_execute_83 rfl rfl rfl rfl ?_
              simp only [List.set_cons_zero, List.set_cons_succ, nI_1]
              refine G_goto (tgt := 25) F dX3_execute_86 (by decide) ?_
              refine ih (lim - (i + 1)) (by omega) (i + 1) _ rfl (by omega) (g1.trans (fr.rfl.u (by simp))) (fun y hy => ?_) (fun j hj => ?_) (fun j hj => ?_)
              · have hq : (tr (M 3) (M 4) (M 5) (M 6) (i + 1)).2 y = if y = (tr (M 3) (M 4) (M 5) (M 6) i).1 then (tr (M 3) (M 4) (M 5) (M 6) i).2 y + 1 else (tr (M 3) (M 4) (M 5) (M 6) i).2 y := rfl
                rw [hq, fx_u_at]
                by_cases e : y = (tr (M 3) (M 4) (M 5) (M 6) i).1
                · rw [if_pos ⟨rfl, e⟩, if_pos e, e]
                · rw [if_neg (fun q => e q.2), if_neg e, fx_u_ne (by cases sw <;> decide)]
                  exact h2 y hy
              · rw [fx_u_ne (by cases sw <;> decide), fx_u_at]
                by_cases e : j = i
                · rw [if_pos ⟨rfl, e⟩, e]
                · rw [if_neg (fun q => e q.2)]; exact h3 j (by omega)
              · by_cases e : j = i
                · rw [e]; exact hk65
                · exact h4 j (by omega)
            · have hk65 : M 3 (tr (M 3) (M 4) (M 5) (M 6) i).1 = 2 := h65
              refine G_aload_n F dX3_execute_68 rfl ?_
              refine G_iload_n F dX3_execute_69 rfl ?_
              refine G_iconst (v := nI 1) F dX3_execute_70 (by decide) ?_
              refine G_iadd F dX3_execute_71 ?_
              rw [nI_add]
              refine G_callV F mv_X3_34 dX3_execute_72 (s_keepPath hl ad sw tl _ _) rfl rfl rfl rfl (Nat.le_of_ble_eq_true rfl) ⟨Nat.le_of_ble_eq_true rfl, Nat.le_of_ble_eq_true rfl, Nat.le_of_ble_eq_true rfl, Nat.le_of_ble_eq_true rfl⟩ (fun E m h => h.elim) (fun v a s m h => ?_)
              obtain ⟨e1, e2, e3, e4⟩ := h
              subst e1
              rw [e2, e3, e4]
              refine G_iconst (v := 1) F dX3_execute_75 rfl ?_
              refine G_iret F Rt dX3_execute_76 (rfl) ?_ (Nat.le_refl _) (Nat.le_refl _)
              refine ⟨rfl, Or.inl ⟨i + 1, by omega, by omega, rfl, rfl, hk65, fun j hj => h4 j (by omega), fun k hk => ?_, ?_, fun j hj => ?_⟩⟩
              · simp only [List.mem_cons, List.not_mem_nil, or_false, not_or] at hk
                rw [fx_u_ne hk.1, fx_u_ne hk.2.2, h1 k (by simp [hk.2.1, hk.2.2])]
              · simp [fx_u_at]
              · rw [fx_u_ne (by cases sw <;> decide), fx_u_at]
                by_cases e : j = i
                · rw [if_pos ⟨rfl, e⟩, e]
                · rw [if_neg (fun q => e q.2)]; exact h3 j (by omega)
  refine G_iconst (v := 0) F dX3_execute_0 rfl ?_
  refine G_istore_n F 2 dX3_execute_1 rfl rfl rfl (Nat.le_of_ble_eq_true rfl) ?_
  simp only [List.set_cons_zero, List.set_cons_succ]
  refine lp1 16 0 M rfl (by omega) fr.rfl (fun b hb => absurd hb (by omega)) (fun m hm1 hm2 => ?_)
  refine G_iconst (v := 0) F dX3_execute_21 rfl ?_
  refine G_istore_n F 2 dX3_execute_22 rfl rfl rfl (Nat.le_of_ble_eq_true rfl) ?_
  simp only [List.set_cons_zero, List.set_cons_succ]
  refine G_iconst (v := 0) F dX3_execute_23 rfl ?_
  refine G_istore_n F 3 dX3_execute_24 rfl rfl rfl (Nat.le_of_ble_eq_true rfl) ?_
  simp only [List.set_cons_zero, List.set_cons_succ]
  exact lp2 lim 0 m rfl (by omega) (hm1.mono (by simp)) (fun y hy => hm2 y hy) (fun j hj => absurd hj (by omega)) (fun j hj => absurd hj (by omega))
