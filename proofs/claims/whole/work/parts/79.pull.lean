/-! THE REFERENCE: chains are appended; what pulls them -/
/-- the first p places of a row hold the blocks of a set, each once -/
def enm (N p : Nat) (row : Nat → Int32) (pl : Nat → Bool) : Prop := ∃ rw ps : Nat → Nat, (∀ k, k < p → row k = nI (rw k) ∧ rw k < N ∧ pl (rw k) = true ∧ ps (rw k) = k) ∧ ∀ x, x < N → pl x = true → ps x < p ∧ rw (ps x) = x
theorem enm_0 {N : Nat} {row : Nat → Int32} : enm N 0 row (fun _ => false) := ⟨fun _ => 0, fun _ => 0, fun k h => absurd h (by omega), fun x _ h => Bool.noConfusion h⟩
theorem enm_congr {N p : Nat} {row : Nat → Int32} {pl pl' : Nat → Bool} (h : enm N p row pl) (e : ∀ x, x < N → pl x = pl' x) : enm N p row pl' := by
  obtain ⟨rw, ps, h1, h2⟩ := h
  exact ⟨rw, ps, fun k hk => ⟨(h1 k hk).1, (h1 k hk).2.1, by rw [← e _ (h1 k hk).2.1]; exact (h1 k hk).2.2.1, (h1 k hk).2.2.2⟩, fun x hx hp => h2 x hx (by rw [e x hx]; exact hp)⟩
theorem enm_add {N p : Nat} {row : Nat → Int32} {pl pl' : Nat → Bool} {b : Nat} (h : enm N p row pl) (hb : b < N) (hp : pl b = false) (hb' : pl' b = true) (e : ∀ x, x < N → x ≠ b → pl' x = pl x) : enm N (p + 1) (upd row p (nI b)) pl' := by
  obtain ⟨rw, ps, h1, h2⟩ := h
  refine ⟨fun k => if k = p then b else rw k, fun x => if x = b then p else ps x, fun k hk => ?_, fun x hx hx' => ?_⟩
  · by_cases q : k = p
    · subst q
      simp only [if_true]
      exact ⟨upd_self, hb, hb', trivial⟩
    · have g := h1 k (by omega)
      have hne : rw k ≠ b := fun z => by rw [z, hp] at g; exact Bool.noConfusion g.2.2.1
      simp only [if_neg q, if_neg hne, upd]
      exact ⟨g.1, g.2.1, by rw [e _ g.2.1 hne]; exact g.2.2.1, g.2.2.2⟩
  · by_cases q : x = b
    · subst q
      simp only [if_true]
      exact ⟨by omega, trivial⟩
    · have g := h2 x hx (by rw [← e x hx q]; exact hx')
      simp only [if_neg q]
      rw [if_neg (by omega)]
      exact ⟨by omega, g.2⟩
/-- a sum over such places is one over the set -/
theorem enm_sm {N p : Nat} {row : Nat → Int32} {pl : Nat → Bool} (h : enm N p row pl) (g : Nat → Int32) : sm (fun k => g (row k).toNatClampNeg) p = sm (fun a => if pl a then g a else 0) N ∨ 2 ^ 31 ≤ N := by
  by_cases hN : 2 ^ 31 ≤ N
  · exact Or.inr hN
  refine Or.inl ?_
  obtain ⟨rw, ps, h1, h2⟩ := h
  have key : ∀ n, n ≤ p → sm (fun k => g (row k).toNatClampNeg) n = sm (fun a => if pl a && decide (ps a < n) then g a else 0) N := by
    intro n
    induction n with
    | zero =>
      intro _
      simp only [Nat.not_lt_zero, decide_false, Bool.and_false, Bool.false_eq_true, if_false]
      rw [sm_zero]; rfl
    | succ n ih =>
      intro hn
      have g1 := h1 n (by omega)
      simp only [sm]
      rw [ih (by omega)]
      have hs := sm_set (f := fun b => if pl b && decide (ps b < n) then g b else 0) (g := fun b => if pl b && decide (ps b < n + 1) then g b else 0) (x := rw n) (by simp [g1.2.2.2]) (n := N) g1.2.1 (fun b hb hne => by
        cases hp : pl b
        · simp
        · have : ps b ≠ n := fun z => hne (by rw [← z, (h2 b hb hp).2])
          by_cases e : ps b < n
          · simp [e, show ps b < n + 1 by omega]
          · simp [e, show ¬ ps b < n + 1 by omega])
      rw [hs]
      simp only [g1.2.2.1, g1.2.2.2, Bool.true_and, Nat.lt_succ_self, decide_true, if_true]
      rw [g1.1, nI_clamp (by omega)]
  rw [key p (Nat.le_refl p)]
  refine sm_congr (fun b hb => ?_)
  cases hp : pl b
  · simp
  · simp [(h2 b hb hp).1]
theorem plc_step {N : Nat} {ho pl : Nat → Bool} {bh : Nat → Int32} {fo rk : Nat → Nat} {c k1 b : Nat} (hc : cgd N ho bh fo rk) (hfree : ∀ x, x < N → fo x = c → pl x = false) (hb1 : b < N) (hb3 : fo b = c) (hb4 : rk b = k1) : plc pl fo rk c k1 b = false ∧ plc pl fo rk c (k1 + 1) b = true ∧ (∀ x, x < N → x ≠ b → plc pl fo rk c (k1 + 1) x = plc pl fo rk c k1 x) ∧ hcn (plc pl fo rk c (k1 + 1)) N = hcn (plc pl fo rk c k1) N + 1 := by
  have h1 : plc pl fo rk c k1 b = false := by
    unfold plc
    rw [hfree b hb1 hb3]
    simp [hb4]
  have h2 : plc pl fo rk c (k1 + 1) b = true := by unfold plc; simp [hb3, hb4]
  have h3 : ∀ x, x < N → x ≠ b → plc pl fo rk c (k1 + 1) x = plc pl fo rk c k1 x := fun x hx hne => by
    unfold plc
    by_cases e : fo x = c
    · have : rk x ≠ k1 := fun q => hne (hc.2.2.1 x b hx hb1 (by rw [e, hb3]) (by rw [q, hb4]))
      have e2 : decide (rk x < k1 + 1) = decide (rk x < k1) := by simp only [decide_eq_decide]; omega
      rw [e2]
    · simp [e]
  exact ⟨h1, h2, h3, hcn_set h1 h2 hb1 h3⟩
theorem plc_lt {N : Nat} {p : Nat → Bool} {b : Nat} (hb : b < N) (hp : p b = false) : hcn p N < N := by
  have h := hcn_ssub (p := p) (q := fun _ => true) (x := b) (n := N) (fun _ _ _ => rfl) hb rfl hp
  have h2 := hcn_le (ho := fun _ => true) N
  omega
theorem plc_end {N : Nat} {pl : Nat → Bool} {fo rk : Nat → Nat} {c k1 : Nat} (g3 : ∀ x, x < N → fo x = c → rk x < k1) : ∀ x, x < N → plc pl fo rk c k1 x = (pl x || decide (fo x = c)) := fun x hx => by
  unfold plc
  by_cases e : fo x = c
  · simp [e, g3 x hx e]
  · simp [e]
/-- a chain put behind a row -/
theorem plr_enm {N : Nat} {ho pl : Nat → Bool} {bh : Nat → Int32} {fo rk : Nat → Nat} {c : Nat} (hN : N ≤ 16) (hc : cgd N ho bh fo rk) (hfree : ∀ x, x < N → fo x = c → pl x = false) : ∀ (fuel k1 : Nat) (cur : Int32) (row : Nat → Int32), fuel + k1 = 17 → k1 ≤ N → (cur = -1 ∨ ∃ b, b < N ∧ cur = nI b ∧ fo b = c ∧ rk b = k1) → (cur = -1 → ∀ x, x < N → fo x = c → rk x < k1) → enm N (hcn (plc pl fo rk c k1) N) row (plc pl fo rk c k1) →
    enm N (hcn (fun x => pl x || decide (fo x = c)) N) (plr bh fuel cur (row, hcn (plc pl fo rk c k1) N)).1 (fun x => pl x || decide (fo x = c)) ∧ (plr bh fuel cur (row, hcn (plc pl fo rk c k1) N)).2 = hcn (fun x => pl x || decide (fo x = c)) N := by
  intro fuel
  induction fuel with
  | zero => intro k1 cur row h1 h2; omega
  | succ fuel ih =>
    intro k1 cur row h1 h2 g2 g3 g4
    simp only [plr]
    by_cases hcur : cur = -1
    · rw [if_pos hcur]
      have hall := plc_end (pl := pl) (g3 hcur)
      rw [hcn_congr hall]
      rw [hcn_congr hall] at g4
      exact ⟨enm_congr g4 hall, rfl⟩
    · rw [if_neg hcur]
      obtain ⟨b, b1, b2, b3, b4⟩ := g2.resolve_left hcur
      subst b2
      obtain ⟨s1, s2, s3, s4⟩ := plc_step hc hfree b1 b3 b4
      rw [nI_clamp (by omega)]
      try dsimp only
      rw [← s4]
      refine ih (k1 + 1) (bh b) _ (by omega) (by have := (hc.1 b b1).2.1; omega) ?_ ?_ ?_
      · rcases hc.2.1 b b1 with z | ⟨x, z1, z2, z3, z4⟩
        · exact Or.inl z
        · exact Or.inr ⟨x, z1, z2, by rw [z3, b3], by rw [z4, b4]⟩
      · intro z x hx hf
        have := cgd_end hN hc b1 z hx (by rw [hf, b3])
        omega
      · have := enm_add g4 b1 s1 s2 s3
        rw [s4]; exact this
theorem plc_0 {N : Nat} {pl : Nat → Bool} {fo rk : Nat → Nat} {c : Nat} : ∀ x, x < N → plc pl fo rk c 0 x = pl x := fun x _ => by unfold plc; simp
theorem plr_enm0 {N : Nat} {ho pl : Nat → Bool} {bh : Nat → Int32} {fo rk : Nat → Nat} {c : Nat} {row : Nat → Int32} (hN : N ≤ 16) (hc : cgd N ho bh fo rk) (hfree : ∀ x, x < N → fo x = c → pl x = false) (hcN : c < N) (hcf : fo c = c) (h : enm N (hcn pl N) row pl) : enm N (hcn (fun x => pl x || decide (fo x = c)) N) (plr bh 17 (nI c) (row, hcn pl N)).1 (fun x => pl x || decide (fo x = c)) ∧ (plr bh 17 (nI c) (row, hcn pl N)).2 = hcn (fun x => pl x || decide (fo x = c)) N := by
  have e := hcn_congr (plc_0 (N := N) (pl := pl) (fo := fo) (rk := rk) (c := c))
  have := plr_enm hN hc hfree 17 0 (nI c) row rfl (by omega) (Or.inr ⟨c, hcN, rfl, hcf, ((hc.1 c hcN).2.2.2.1).mpr hcf⟩) (fun z => absurd z (nI_m1 (by omega))) (by rw [e]; exact enm_congr h (fun x hx => (plc_0 x hx).symm))
  rw [e] at this
  exact this
set_option maxRecDepth 20000 in
theorem t_append {l : Launch} {Z : fx_Z} (hl : l.stackTraces = false) (ad : Nat → Nat) (sw : Bool) (tl : List fx_Sh) (M : fx_M) {N c : Nat} (hN16 : N ≤ 16) {ho pl : Nat → Bool} {bh : Nat → Int32} {fo rk : Nat → Nat} (hc : cgd N ho bh fo rk) (hbh : ∀ b, b < N → M 59 b = bh b) (hcN : c < N) (hcf : fo c = c) (hfree : ∀ x, x < N → fo x = c → pl x = false) : CI l Z yX8_append (.code yX8_append cX8_append 5 (some .int)) 0 [.ref (ad 37), .int (nI c), .int (nI (hcn pl N))] ad (c_C sw ++ (m_C ++ tl)) M (fun r m => r = nI (plr bh 17 (nI c) (M 46, hcn pl N)).2 ∧ fr [46] M m ∧ m 46 = (plr bh 17 (nI c) (M 46, hcn pl N)).1) := by
  refine CT_of (ret := (some .int)) (lv0 := [some (.ref (ad 37)), some (.int (nI c)), some (.int (nI (hcn pl N))), none, none]) (by decide +kernel) hl (by simp [Value.category]) (Nat.le_of_ble_eq_true rfl) rfl ?_
  intro X F Rt _
  have lp : ∀ (k : Nat) (k1 : Nat) (M' : fx_M) (cur : Int32), k = 17 - k1 → k1 ≤ N → (cur = -1 ∨ ∃ b, b < N ∧ cur = nI b ∧ fo b = c ∧ rk b = k1) → (cur = -1 → ∀ x, x < N → fo x = c → rk x < k1) → fr [46] M M' → plr bh (17 - k1) cur (M' 46, hcn (plc pl fo rk c k1) N) = (plr bh 17 (nI c) (M 46, hcn pl N)) → GG X ad 5 [some (.ref (ad 37)), some (.int (nI c)), some (.int (nI (hcn pl N))), some (.int (nI (hcn (plc pl fo rk c k1) N))), some (.int cur)] [] 0 0 (c_C sw ++ (m_C ++ tl)) M' := by
    intro k
    induction k using Nat.strongRecOn with
    | _ k ih =>
      intro k1 M' cur hk hk1 g2 g3 g4 g5
      by_cases hcur : cur = -1
      · refine G_iload F dX8_append_5 rfl ?_
        refine G_if_lt (tgt := 33) F dX8_append_7 (by decide) (fun h7 => ?_) (fun h7 => ?_)
        · skip
          refine G_iload_n F dX8_append_33 rfl ?_
          refine G_iret F Rt dX8_append_34 (rfl) ⟨rfl, rfl, _, rfl, ?_⟩ (Nat.le_refl _) (Nat.le_refl _)
          have hfin : (M' 46, hcn (plc pl fo rk c k1) N) = (plr bh 17 (nI c) (M 46, hcn pl N)) := by
            rw [← g5, hcur, show 17 - k1 = (16 - k1) + 1 from by omega]
            simp only [plr, if_true]
          exact ⟨by rw [← hfin], g4, by rw [← hfin]⟩
        · exact absurd (by rw [hcur]; decide) h7 --stop
      · obtain ⟨b, b1, b2, b3, b4⟩ := g2.resolve_left hcur
        subst b2
        obtain ⟨s1, s2, s3, s4⟩ := plc_step (pl := pl) hc hfree b1 b3 b4
        have hlt := plc_lt b1 s1
        refine G_iload F dX8_append_5 rfl ?_
        refine G_if_lt (tgt := 33) F dX8_append_7 (by decide) (fun h7 => ?_) (fun h7 => ?_)
        · exact absurd h7 (by rw [← nI_0, nI_ltI (by omega) (by omega)]; omega) --stop
        · skip
          refine G_aload_n F dX8_append_10 rfl ?_
          refine G_getr F fl_X8_41 dX8_append_11 rfl rfl ?_
          refine G_iload_n F dX8_append_14 rfl ?_
          refine G_iload F dX8_append_15 rfl ?_
          refine G_iastN F dX8_append_17 rfl (by omega) (by decide) ?_
          refine G_iinc F (1) dX8_append_18 rfl rfl rfl rfl ?_
          simp only [List.set_cons_zero, List.set_cons_succ, nI_1]
          refine G_aload_n F dX8_append_21 rfl ?_
          refine G_getr F fl_X8_81 dX8_append_22 rfl rfl ?_
          refine G_iload F dX8_append_25 rfl ?_
          refine G_ialdN F dX8_append_27 rfl (by omega) (by decide) ?_
          rw [fx_u_ne (by decide), g4 59 (by decide), hbh b b1]
          refine G_istore F dX8_append_28 rfl rfl (Nat.le_of_ble_eq_true rfl) ?_
          simp only [List.set_cons_zero, List.set_cons_succ]
          refine G_goto (tgt := 5) F dX8_append_30 (by decide) ?_
          rw [← s4]
          refine ih (17 - (k1 + 1)) (by omega) (k1 + 1) _ (bh b) rfl (by have := (hc.1 b b1).2.1; omega) ?_ ?_ (g4.u (by decide)) ?_
          · rcases hc.2.1 b b1 with z | ⟨x, z1, z2, z3, z4⟩
            · exact Or.inl z
            · exact Or.inr ⟨x, z1, z2, by rw [z3, b3], by rw [z4, b4]⟩
          · intro z x hx hf
            have := cgd_end hN16 hc b1 z hx (by rw [hf, b3])
            omega
          · rw [← g5, show 17 - k1 = (17 - (k1 + 1)) + 1 from by omega]
            simp only [plr]
            rw [if_neg (nI_m1 (by omega)), nI_clamp (by omega), s4, fx_u_eq]
  refine G_iload_n F dX8_append_0 rfl ?_
  refine G_istore_n F 3 dX8_append_1 rfl rfl rfl (Nat.le_of_ble_eq_true rfl) ?_
  simp only [List.set_cons_zero, List.set_cons_succ]
  refine G_iload_n F dX8_append_2 rfl ?_
  refine G_istore F dX8_append_3 rfl rfl (Nat.le_of_ble_eq_true rfl) ?_
  simp only [List.set_cons_zero, List.set_cons_succ]
  have e := hcn_congr (plc_0 (N := N) (pl := pl) (fo := fo) (rk := rk) (c := c))
  have q := lp 17 0 M (nI c) rfl (by omega) (Or.inr ⟨c, hcN, rfl, hcf, ((hc.1 c hcN).2.2.2.1).mpr hcf⟩) (fun z => absurd z (nI_m1 (by omega))) fr.rfl (by rw [e])
  rw [e] at q
  exact q
theorem sm_add {f g : Nat → Int32} : ∀ n, sm (fun x => f x + g x) n = sm f n + sm g n := by
  intro n
  induction n with
  | zero => simp [sm]
  | succ n ih =>
    simp only [sm]
    rw [ih, Int32.add_assoc, Int32.add_assoc, ← Int32.add_assoc (sm g n), Int32.add_comm (sm g n) (f n), Int32.add_assoc]
theorem sm_swap {g : Nat → Nat → Int32} (m : Nat) : ∀ n, sm (fun x => sm (fun a => g x a) m) n = sm (fun a => sm (fun x => g x a) n) m := by
  intro n
  induction n with
  | zero => simp only [sm]; rw [sm_zero]
  | succ n ih =>
    simp only [sm]
    rw [ih, ← sm_add]
theorem sm_one {v : Int32} {p n : Nat} (hp : p < n) : sm (fun x => if x = p then v else 0) n = v := by
  have h := sm_set (f := fun _ => 0) (g := fun x => if x = p then v else 0) (x := p) rfl hp (fun b _ hne => if_neg hne)
  rw [h, sm_zero]
  simp
/-- what goes from a block to another -/
def g1t (f s w1 w2 : Nat → Int32) (b a : Nat) : Int32 := (if f a = nI b then w1 a else 0) + (if s a = nI b then w2 a else 0)
theorem g1t_ch {N : Nat} {fo : Nat → Nat} {c : Nat} (hN : N ≤ 16) {t w : Int32} (ht : t = -1 ∨ ∃ x, x < N ∧ t = nI x) : sm (fun x => if fo x = c then (if t = nI x then w else 0) else 0) N = put1 N fo c t w := by
  rcases ht with e | ⟨p, p1, p2⟩
  · have : ∀ x, x < N → (if fo x = c then (if t = nI x then w else 0) else 0) = (fun _ => (0 : Int32)) x := fun x hx => by
      rw [if_neg (show ¬ t = nI x by rw [e]; exact fun z => nI_m1 (by omega) z.symm), ite_self]
    rw [sm_congr this, sm_zero]
    unfold put1
    have : pin N t = false := by
      rw [e]
      unfold pin
      rw [decide_eq_false_iff_not]
      intro z
      exact absurd z.1 (by decide)
    rw [this]; rfl
  · have : ∀ x, x < N → (if fo x = c then (if t = nI x then w else 0) else 0) = (fun x => if x = p then (if fo p = c then w else 0) else 0) x := fun x hx => by
      dsimp only
      by_cases e : x = p
      · rw [if_pos e, e, p2, if_pos rfl]
      · rw [if_neg e, if_neg (show ¬ t = nI x by rw [p2]; exact fun z => e ((nI_eq (by omega) (by omega)).mp z).symm), ite_self]
    rw [sm_congr this, sm_one p1]
    unfold put1
    have hp : pin N t = true := by
      unfold pin
      rw [decide_eq_true_eq, p2]
      exact ⟨by rw [← nI_0, nI_leI (by omega) (by omega)]; omega, (nI_ltI (by omega) (by omega)).mpr p1⟩
    rw [hp, p2, nI_clamp (by omega)]
    simp
/-- what goes to a chain's blocks, block by block -/
theorem pul_eq {N : Nat} {kd f s w1 w2 : Nat → Int32} {fo : Nat → Nat} {pl : Nat → Bool} {c : Nat} (hN : N ≤ 16) (hv : pv N kd f s) : sm (fun x => if fo x = c then sm (fun a => if pl a then g1t f s w1 w2 x a else 0) N else 0) N = pul N fo f s w1 w2 pl c := by
  have e1 : ∀ x, x < N → (if fo x = c then sm (fun a => if pl a then g1t f s w1 w2 x a else 0) N else 0) = (fun x => sm (fun a => if pl a then (if fo x = c then g1t f s w1 w2 x a else 0) else 0) N) x := fun x hx => by
    dsimp only
    by_cases e : fo x = c
    · rw [if_pos e]; exact sm_congr (fun a ha => by rw [if_pos e])
    · rw [if_neg e]
      have : ∀ a, a < N → (if pl a then (if fo x = c then g1t f s w1 w2 x a else 0) else 0) = (fun _ => (0 : Int32)) a := fun a ha => by rw [if_neg e, ite_self]
      rw [sm_congr this, sm_zero]
  rw [sm_congr e1, sm_swap]
  unfold pul
  refine sm_congr (fun a ha => ?_)
  cases hp : pl a
  · simp only [Bool.false_eq_true, if_false]; exact sm_zero N
  · simp only [if_true]
    have e2 : ∀ x, x < N → (if fo x = c then g1t f s w1 w2 x a else 0) = (fun x => (if fo x = c then (if f a = nI x then w1 a else 0) else 0) + (if fo x = c then (if s a = nI x then w2 a else 0) else 0)) x := fun x hx => by
      dsimp only
      unfold g1t
      by_cases e : fo x = c
      · rw [if_pos e, if_pos e, if_pos e]
      · rw [if_neg e, if_neg e, if_neg e]; rfl
    rw [sm_congr e2, sm_add]
    have ht : (f a = -1 ∨ ∃ x, x < N ∧ f a = nI x) ∧ (s a = -1 ∨ ∃ x, x < N ∧ s a = nI x) := by
      rcases hv a ha with ⟨-, p2, p3⟩ | ⟨-, p2, p3⟩ | ⟨-, p2, p3, -⟩
      · exact ⟨Or.inl p2, Or.inl p3⟩
      · exact ⟨Or.inr p2, Or.inl p3⟩
      · exact ⟨Or.inr p2, Or.inr p3⟩
    rw [g1t_ch hN ht.1, g1t_ch hN ht.2]
set_option maxRecDepth 20000 in
theorem t_pull {l : Launch} {Z : fx_Z} (hl : l.stackTraces = false) (ad : Nat → Nat) (sw : Bool) (tl : List fx_Sh) (M : fx_M) {N c p : Nat} (hN16 : N ≤ 16) (hv : pv N (M 39) (M 40) (M 41)) {ho pl : Nat → Bool} {bh : Nat → Int32} {fo rk : Nat → Nat} (hc : cgd N ho bh fo rk) (hbh : ∀ b, b < N → M 59 b = bh b) (hcN : c < N) (hcf : fo c = c) (hp16 : p ≤ 16) (hen : enm N p (M 46) pl) : CI l Z yX8_pull (.code yX8_pull cX8_pull 7 (some .int)) 0 [.ref (ad 37), .int (nI c), .int (nI p)] ad (c_C sw ++ (m_C ++ tl)) M (fun r m => r = pul N fo (M 40) (M 41) (M 44) (M 45) pl c ∧ m = M) := by
  refine CT_of (ret := (some .int)) (lv0 := [some (.ref (ad 37)), some (.int (nI c)), some (.int (nI p)), none, none, none, none]) (by decide +kernel) hl (by simp [Value.category]) (Nat.le_of_ble_eq_true rfl) rfl ?_
  intro X F Rt _
  obtain ⟨rw, ps, he1, he2⟩ := id hen
  have lp : ∀ (k : Nat) (k1 : Nat) (cur : Int32), k = 17 - k1 → k1 ≤ N → (cur = -1 ∨ ∃ b, b < N ∧ cur = nI b ∧ fo b = c ∧ rk b = k1) → (cur = -1 → ∀ x, x < N → fo x = c → rk x < k1) → GG X ad 5 [some (.ref (ad 37)), some (.int (nI c)), some (.int (nI p)), some (.int (sm (fun x => if decide (fo x = c) && decide (rk x < k1) then (sm (fun a => if pl a then g1t (M 40) (M 41) (M 44) (M 45) x a else 0) N) else 0) N)), some (.int cur), none, none] [] 0 0 (c_C sw ++ (m_C ++ tl)) M := by
    intro k
    induction k using Nat.strongRecOn with
    | _ k ih =>
      intro k1 cur hk hk1 g2 g3
      by_cases hcur : cur = -1
      · refine G_iload F dX8_pull_5 rfl ?_
        refine G_if_lt (tgt := 120) F dX8_pull_7 (by decide) (fun h7 => ?_) (fun h7 => ?_)
        · skip
          refine G_iload_n F dX8_pull_120 rfl ?_
          refine G_iret F Rt dX8_pull_121 (rfl) ⟨rfl, rfl, _, rfl, ?_⟩ (Nat.le_refl _) (Nat.le_refl _)
          refine ⟨?_, rfl⟩
          rw [← pul_eq hN16 hv]
          exact sm_congr (fun x hx => by
            by_cases e : fo x = c
            · simp [e, g3 hcur x hx e]
            · simp [e])
        · exact absurd (by rw [hcur]; decide) h7 --stop
      · obtain ⟨b, b1, b2, b3, b4⟩ := g2.resolve_left hcur
        subst b2
        have hsum : (sm (fun x => if decide (fo x = c) && decide (rk x < k1) then (sm (fun a => if pl a then g1t (M 40) (M 41) (M 44) (M 45) x a else 0) N) else 0) N) + sm (fun k => g1t (M 40) (M 41) (M 44) (M 45) b (M 46 k).toNatClampNeg) p = (sm (fun x => if decide (fo x = c) && decide (rk x < (k1 + 1)) then (sm (fun a => if pl a then g1t (M 40) (M 41) (M 44) (M 45) x a else 0) N) else 0) N) := by
          have e1 := (enm_sm hen (g1t (M 40) (M 41) (M 44) (M 45) b)).resolve_right (by omega)
          rw [e1]
          have hs := sm_set (f := fun x => if decide (fo x = c) && decide (rk x < k1) then (sm (fun a => if pl a then g1t (M 40) (M 41) (M 44) (M 45) x a else 0) N) else 0) (g := fun x => if decide (fo x = c) && decide (rk x < k1 + 1) then (sm (fun a => if pl a then g1t (M 40) (M 41) (M 44) (M 45) x a else 0) N) else 0) (x := b) (by simp [b4]) b1 (fun x hx hne => by
            by_cases e : fo x = c
            · have : rk x ≠ k1 := fun q => hne (hc.2.2.1 x b hx b1 (by rw [e, b3]) (by rw [q, b4]))
              have e2 : decide (rk x < k1 + 1) = decide (rk x < k1) := by simp only [decide_eq_decide]; omega
              rw [e2]
            · simp [e])
          rw [hs]
          simp [b3, b4]
        have t108 : GG X ad 108 [some (.ref (ad 37)), some (.int (nI c)), some (.int (nI p)), some (.int ((sm (fun x => if decide (fo x = c) && decide (rk x < k1) then (sm (fun a => if pl a then g1t (M 40) (M 41) (M 44) (M 45) x a else 0) N) else 0) N) + sm (fun k => g1t (M 40) (M 41) (M 44) (M 45) b (M 46 k).toNatClampNeg) p)), some (.int (nI b)), some (.int (nI p)), none] [] 0 0 (c_C sw ++ (m_C ++ tl)) M := by
          refine G_aload_n F dX8_pull_108 rfl ?_
          refine G_getr F fl_X8_81 dX8_pull_109 rfl rfl ?_
          refine G_iload F dX8_pull_112 rfl ?_
          refine G_ialdN F dX8_pull_114 rfl (by omega) (by decide) ?_
          rw [hbh b b1, hsum]
          refine G_istore F dX8_pull_115 rfl rfl (Nat.le_of_ble_eq_true rfl) ?_
          simp only [List.set_cons_zero, List.set_cons_succ]
          refine G_goto (tgt := 5) F dX8_pull_117 (by decide) ?_
          refine G_drop F 5 ?_
          simp only [List.set_cons_zero, List.set_cons_succ]
          refine ih (17 - (k1 + 1)) (by omega) (k1 + 1) (bh b) rfl (by have := (hc.1 b b1).2.1; omega) ?_ ?_
          · rcases hc.2.1 b b1 with z | ⟨x, z1, z2, z3, z4⟩
            · exact Or.inl z
            · exact Or.inr ⟨x, z1, z2, by rw [z3, b3], by rw [z4, b4]⟩
          · intro z x hx hf
            have := cgd_end hN16 hc b1 z hx (by rw [hf, b3])
            omega
        have lp2 : ∀ (k : Nat) (k2 : Nat), k = p - k2 → k2 ≤ p → GG X ad 13 [some (.ref (ad 37)), some (.int (nI c)), some (.int (nI p)), some (.int ((sm (fun x => if decide (fo x = c) && decide (rk x < k1) then (sm (fun a => if pl a then g1t (M 40) (M 41) (M 44) (M 45) x a else 0) N) else 0) N) + sm (fun k => g1t (M 40) (M 41) (M 44) (M 45) b (M 46 k).toNatClampNeg) k2)), some (.int (nI b)), some (.int (nI k2)), none] [] 0 0 (c_C sw ++ (m_C ++ tl)) M := by
          intro k
          induction k using Nat.strongRecOn with
          | _ k ih2 =>
            intro k2 hk2 hk2p
            refine G_iload F dX8_pull_13 rfl ?_
            refine G_iload_n F dX8_pull_15 rfl ?_
            refine G_icmp_ge (tgt := 108) F dX8_pull_16 (by decide) (fun h16 => ?_) (fun h16 => ?_)
            · rw [nI_leI (by omega) (by omega)] at h16
              have hkp : k2 = p := by omega
              subst hkp
              exact t108
            · rw [nI_leI (by omega) (by omega)] at h16
              have hrk2 := he1 k2 (by omega)
              have t100 : ∀ y : Int32, y = (if M 41 (rw k2) = nI b then M 45 (rw k2) else 0) → GG X ad 100 [some (.ref (ad 37)), some (.int (nI c)), some (.int (nI p)), some (.int (((sm (fun x => if decide (fo x = c) && decide (rk x < k1) then (sm (fun a => if pl a then g1t (M 40) (M 41) (M 44) (M 45) x a else 0) N) else 0) N) + sm (fun k => g1t (M 40) (M 41) (M 44) (M 45) b (M 46 k).toNatClampNeg) k2) + (if M 40 (rw k2) = nI b then M 44 (rw k2) else 0))), some (.int (nI b)), some (.int (nI k2)), some (.int (nI (rw k2)))] [.int y, .int (((sm (fun x => if decide (fo x = c) && decide (rk x < k1) then (sm (fun a => if pl a then g1t (M 40) (M 41) (M 44) (M 45) x a else 0) N) else 0) N) + sm (fun k => g1t (M 40) (M 41) (M 44) (M 45) b (M 46 k).toNatClampNeg) k2) + (if M 40 (rw k2) = nI b then M 44 (rw k2) else 0))] 0 0 (c_C sw ++ (m_C ++ tl)) M := by
                intro y hy9
                refine G_iadd F dX8_pull_100 ?_
                have hstp : ((sm (fun x => if decide (fo x = c) && decide (rk x < k1) then (sm (fun a => if pl a then g1t (M 40) (M 41) (M 44) (M 45) x a else 0) N) else 0) N) + sm (fun k => g1t (M 40) (M 41) (M 44) (M 45) b (M 46 k).toNatClampNeg) k2) + (if M 40 (rw k2) = nI b then M 44 (rw k2) else 0) + (if M 41 (rw k2) = nI b then M 45 (rw k2) else 0) = (sm (fun x => if decide (fo x = c) && decide (rk x < k1) then (sm (fun a => if pl a then g1t (M 40) (M 41) (M 44) (M 45) x a else 0) N) else 0) N) + sm (fun k => g1t (M 40) (M 41) (M 44) (M 45) b (M 46 k).toNatClampNeg) (k2 + 1) := by
                  have e : sm (fun k => g1t (M 40) (M 41) (M 44) (M 45) b (M 46 k).toNatClampNeg) (k2 + 1) = sm (fun k => g1t (M 40) (M 41) (M 44) (M 45) b (M 46 k).toNatClampNeg) k2 + ((if M 40 (rw k2) = nI b then M 44 (rw k2) else 0) + (if M 41 (rw k2) = nI b then M 45 (rw k2) else 0)) := by
                    show sm (fun k => g1t (M 40) (M 41) (M 44) (M 45) b (M 46 k).toNatClampNeg) k2 + g1t (M 40) (M 41) (M 44) (M 45) b (M 46 k2).toNatClampNeg = _
                    rw [hrk2.1, nI_clamp (by omega)]
                    rfl
                  rw [e, Int32.add_assoc, Int32.add_assoc]
                rw [hy9, hstp]
                refine G_istore_n F 3 dX8_pull_101 rfl rfl rfl (Nat.le_of_ble_eq_true rfl) ?_
                simp only [List.set_cons_zero, List.set_cons_succ]
                refine G_iinc F (1) dX8_pull_102 rfl rfl rfl rfl ?_
                simp only [List.set_cons_zero, List.set_cons_succ, nI_1]
                refine G_goto (tgt := 13) F dX8_pull_105 (by decide) ?_
                refine G_drop F 6 ?_
                simp only [List.set_cons_zero, List.set_cons_succ]
                exact ih2 (p - (k2 + 1)) (by omega) (k2 + 1) rfl (by omega)
              have t65 : GG X ad 65 [some (.ref (ad 37)), some (.int (nI c)), some (.int (nI p)), some (.int (((sm (fun x => if decide (fo x = c) && decide (rk x < k1) then (sm (fun a => if pl a then g1t (M 40) (M 41) (M 44) (M 45) x a else 0) N) else 0) N) + sm (fun k => g1t (M 40) (M 41) (M 44) (M 45) b (M 46 k).toNatClampNeg) k2) + (if M 40 (rw k2) = nI b then M 44 (rw k2) else 0))), some (.int (nI b)), some (.int (nI k2)), some (.int (nI (rw k2)))] [] 0 0 (c_C sw ++ (m_C ++ tl)) M := by
                refine G_iload_n F dX8_pull_65 rfl ?_
                refine G_aload_n F dX8_pull_66 rfl ?_
                refine G_getr F fl_X8_20 dX8_pull_67 rfl rfl ?_
                refine G_iload F dX8_pull_70 rfl ?_
                refine G_ialdN F dX8_pull_72 rfl (by omega) (by decide) ?_
                refine G_iconst (v := 1) F dX8_pull_73 rfl ?_
                refine G_icmp_ne (tgt := 99) F dX8_pull_74 (by decide) (fun h74 => ?_) (fun h74 => ?_)
                · have f : (if M 41 (rw k2) = nI b then M 45 (rw k2) else 0) = 0 := if_neg (fun z => by
                    rcases hv (rw k2) hrk2.2.1 with ⟨-, -, p3⟩ | ⟨-, -, p3⟩ | ⟨p1, -, -, -⟩
                    · rw [p3] at z; exact nI_m1 (by omega) z.symm
                    · rw [p3] at z; exact nI_m1 (by omega) z.symm
                    · exact h74 p1)
                  refine G_iconst (v := 0) F dX8_pull_99 rfl ?_
                  exact t100 _ f.symm
                · refine G_aload_n F dX8_pull_77 rfl ?_
                  refine G_getr F fl_X8_26 dX8_pull_78 rfl rfl ?_
                  refine G_iload F dX8_pull_81 rfl ?_
                  refine G_ialdN F dX8_pull_83 rfl (by omega) (by decide) ?_
                  refine G_iload F dX8_pull_84 rfl ?_
                  refine G_icmp_ne (tgt := 99) F dX8_pull_86 (by decide) (fun h86 => ?_) (fun h86 => ?_)
                  · have f : (if M 41 (rw k2) = nI b then M 45 (rw k2) else 0) = 0 := if_neg h86
                    refine G_iconst (v := 0) F dX8_pull_99 rfl ?_
                    exact t100 _ f.symm
                  · have f : (if M 41 (rw k2) = nI b then M 45 (rw k2) else 0) = M 45 (rw k2) := if_pos h86
                    refine G_aload_n F dX8_pull_89 rfl ?_
                    refine G_getr F fl_X8_38 dX8_pull_90 rfl rfl ?_
                    refine G_iload F dX8_pull_93 rfl ?_
                    refine G_ialdN F dX8_pull_95 rfl (by omega) (by decide) ?_
                    refine G_goto (tgt := 100) F dX8_pull_96 (by decide) ?_
                    exact t100 _ f.symm
              have t63 : ∀ y : Int32, y = (if M 40 (rw k2) = nI b then M 44 (rw k2) else 0) → GG X ad 63 [some (.ref (ad 37)), some (.int (nI c)), some (.int (nI p)), some (.int ((sm (fun x => if decide (fo x = c) && decide (rk x < k1) then (sm (fun a => if pl a then g1t (M 40) (M 41) (M 44) (M 45) x a else 0) N) else 0) N) + sm (fun k => g1t (M 40) (M 41) (M 44) (M 45) b (M 46 k).toNatClampNeg) k2)), some (.int (nI b)), some (.int (nI k2)), some (.int (nI (rw k2)))] [.int y, .int ((sm (fun x => if decide (fo x = c) && decide (rk x < k1) then (sm (fun a => if pl a then g1t (M 40) (M 41) (M 44) (M 45) x a else 0) N) else 0) N) + sm (fun k => g1t (M 40) (M 41) (M 44) (M 45) b (M 46 k).toNatClampNeg) k2)] 0 0 (c_C sw ++ (m_C ++ tl)) M := by
                intro y hy9
                refine G_iadd F dX8_pull_63 ?_
                rw [hy9]
                refine G_istore_n F 3 dX8_pull_64 rfl rfl rfl (Nat.le_of_ble_eq_true rfl) ?_
                simp only [List.set_cons_zero, List.set_cons_succ]
                exact t65
              refine G_aload_n F dX8_pull_19 rfl ?_
              refine G_getr F fl_X8_41 dX8_pull_20 rfl rfl ?_
              refine G_iload F dX8_pull_23 rfl ?_
              refine G_ialdN F dX8_pull_25 rfl (by omega) (by decide) ?_
              rw [hrk2.1]
              refine G_istore F dX8_pull_26 rfl rfl (Nat.le_of_ble_eq_true rfl) ?_
              simp only [List.set_cons_zero, List.set_cons_succ]
              refine G_iload_n F dX8_pull_28 rfl ?_
              refine G_aload_n F dX8_pull_29 rfl ?_
              refine G_getr F fl_X8_20 dX8_pull_30 rfl rfl ?_
              refine G_iload F dX8_pull_33 rfl ?_
              refine G_ialdN F dX8_pull_35 rfl (by omega) (by decide) ?_
              refine G_iconst (v := 2) F dX8_pull_36 rfl ?_
              refine G_icmp_eq (tgt := 62) F dX8_pull_37 (by decide) (fun h37 => ?_) (fun h37 => ?_)
              · have f : (if M 40 (rw k2) = nI b then M 44 (rw k2) else 0) = 0 := if_neg (fun z => by
                  rcases hv (rw k2) hrk2.2.1 with ⟨-, p3, -⟩ | ⟨p1, -, -⟩ | ⟨p1, -, -, -⟩
                  · rw [p3] at z; exact nI_m1 (by omega) z.symm
                  · rw [p1] at h37; exact absurd h37 (by decide)
                  · rw [p1] at h37; exact absurd h37 (by decide))
                refine G_iconst (v := 0) F dX8_pull_62 rfl ?_
                exact t63 _ f.symm
              · refine G_aload_n F dX8_pull_40 rfl ?_
                refine G_getr F fl_X8_23 dX8_pull_41 rfl rfl ?_
                refine G_iload F dX8_pull_44 rfl ?_
                refine G_ialdN F dX8_pull_46 rfl (by omega) (by decide) ?_
                refine G_iload F dX8_pull_47 rfl ?_
                refine G_icmp_ne (tgt := 62) F dX8_pull_49 (by decide) (fun h49 => ?_) (fun h49 => ?_)
                · have f : (if M 40 (rw k2) = nI b then M 44 (rw k2) else 0) = 0 := if_neg h49
                  refine G_iconst (v := 0) F dX8_pull_62 rfl ?_
                  exact t63 _ f.symm
                · have f : (if M 40 (rw k2) = nI b then M 44 (rw k2) else 0) = M 44 (rw k2) := if_pos h49
                  refine G_aload_n F dX8_pull_52 rfl ?_
                  refine G_getr F fl_X8_35 dX8_pull_53 rfl rfl ?_
                  refine G_iload F dX8_pull_56 rfl ?_
                  refine G_ialdN F dX8_pull_58 rfl (by omega) (by decide) ?_
                  refine G_goto (tgt := 63) F dX8_pull_59 (by decide) ?_
                  exact t63 _ f.symm
        refine G_iload F dX8_pull_5 rfl ?_
        refine G_if_lt (tgt := 120) F dX8_pull_7 (by decide) (fun h7 => ?_) (fun h7 => ?_)
        · exact absurd h7 (by rw [← nI_0, nI_ltI (by omega) (by omega)]; omega) --stop
        · skip
          refine G_iconst (v := nI 0) F dX8_pull_10 (by decide) ?_
          refine G_istore F dX8_pull_11 rfl rfl (Nat.le_of_ble_eq_true rfl) ?_
          simp only [List.set_cons_zero, List.set_cons_succ]
          have q := lp2 p 0 rfl (by omega)
          simp only [sm, Int32.add_zero] at q
          exact q
  refine G_iconst (v := 0) F dX8_pull_0 rfl ?_
  refine G_istore_n F 3 dX8_pull_1 rfl rfl rfl (Nat.le_of_ble_eq_true rfl) ?_
  simp only [List.set_cons_zero, List.set_cons_succ]
  refine G_iload_n F dX8_pull_2 rfl ?_
  refine G_istore F dX8_pull_3 rfl rfl (Nat.le_of_ble_eq_true rfl) ?_
  simp only [List.set_cons_zero, List.set_cons_succ]
  have q := lp 17 0 (nI c) rfl (by omega) (Or.inr ⟨c, hcN, rfl, hcf, ((hc.1 c hcN).2.2.2.1).mpr hcf⟩) (fun z => absurd z (nI_m1 (by omega)))
  have e0 : (sm (fun x => if decide (fo x = c) && decide (rk x < 0) then (sm (fun a => if pl a then g1t (M 40) (M 41) (M 44) (M 45) x a else 0) N) else 0) N) = 0 := by
    have : ∀ x, x < N → (if decide (fo x = c) && decide (rk x < 0) then (sm (fun a => if pl a then g1t (M 40) (M 41) (M 44) (M 45) x a else 0) N) else 0) = (fun _ => (0 : Int32)) x := fun x hx => by simp
    rw [sm_congr this, sm_zero]
  rw [e0] at q
  exact q
