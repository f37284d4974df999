/-! THE REFERENCE: joins by weights -/
theorem hq_join {N : Nat} {q : (Nat → Int32) × (Nat → Int32)} {fo : Nat → Nat} (hN : N ≤ 16) (h2 : ∀ b, b < N → q.2 b = nI (fo b) ∧ fo b < N) {a y : Nat} (ha : a < N) (hy : y < N) : ∀ b, b < N → (fun b => if q.2 b = nI y then q.2 a else q.2 b) b = nI ((fun b => if fo b = y then fo a else fo b) b) ∧ (fun b => if fo b = y then fo a else fo b) b < N := by
  intro b hb
  dsimp only
  rw [(h2 b hb).1, (h2 a ha).1]
  by_cases e : fo b = y
  · rw [if_pos (by rw [e]), if_pos e]; exact ⟨rfl, (h2 a ha).2⟩
  · rw [if_neg (fun z => e ((nI_eq (by have := (h2 b hb).2; omega) (by omega)).mp z)), if_neg e]; exact ⟨rfl, (h2 b hb).2⟩
/-- an edge that may join later may join now, and leaves another block -/
theorem eJ_mono {N : Nat} {ho : Nat → Bool} {f s : Nat → Int32} {q : (Nat → Int32) × (Nat → Int32)} {fo rk : Nat → Nat} (hN : N ≤ 16) (hc : cgd N ho q.1 fo rk) (h2 : ∀ b, b < N → q.2 b = nI (fo b) ∧ fo b < N) {a y : Nat} (ha : a < N) (hy : y < N) (hfa : fo a ≠ y) {e : Nat} (he : e < 2 * N) (h : eJ N ho f s (upd q.1 a (nI y), fun b => if q.2 b = nI y then q.2 a else q.2 b) e = true) : eJ N ho f s q e = true ∧ e / 2 ≠ a := by
  unfold eJ at h ⊢
  obtain ⟨z, -, z1, z2, -⟩ := pf_cj_spec hN h
  rw [z2] at h ⊢
  have hc2 : e / 2 < N := by omega
  rw [cj_jnb hN (q := (upd q.1 a (nI y), fun b => if q.2 b = nI y then q.2 a else q.2 b)) (hq_join hN h2 ha hy) hc2 z1] at h
  rw [cj_jnb hN h2 hc2 z1]
  exact jnb_mono hN hc ha hy hfa hc2 z1 h
theorem hcn_ssub {p q : Nat → Bool} {x : Nat} : ∀ {n : Nat}, (∀ b, b < n → p b = true → q b = true) → x < n → q x = true → p x = false → hcn p n < hcn q n := by
  intro n
  induction n with
  | zero => intro _ h; omega
  | succ n ih =>
    intro h hx hq hp
    have hle := hcn_sub (p := p) (q := q) (n := n) (fun b hb => h b (by omega))
    simp only [hcn]
    by_cases e : x = n
    · subst e
      rw [hq, hp]
      simp only [if_true, Bool.false_eq_true, if_false]
      omega
    · have := ih (fun b hb => h b (by omega)) (by omega) hq hp
      cases hpn : p n
      · simp only [Bool.false_eq_true, if_false]; split <;> omega
      · rw [h n (by omega) hpn]; simp only [if_true]; omega
theorem eB_false {w1 w2 : Nat → Int32} {y e : Nat} (hy : y < 32) : eB w1 w2 (nI y) e = false ↔ (eW w1 w2 y < eW w1 w2 e ∨ (eW w1 w2 e = eW w1 w2 y ∧ e ≤ y)) := by
  have hm := nI_m1 (show y < 2 ^ 31 by omega)
  unfold eB
  rw [nI_clamp (by omega), decide_eq_false hm, Bool.false_or, Bool.or_eq_false_iff, Bool.and_eq_false_iff, decide_eq_false_iff_not, decide_eq_false_iff_not, decide_eq_false_iff_not]
  constructor
  · intro h
    by_cases z : eW w1 w2 e = eW w1 w2 y
    · exact Or.inr ⟨z, by rcases h.2 with q | q; exact absurd z q; omega⟩
    · refine Or.inl ?_
      have z2 : (eW w1 w2 e).toInt ≠ (eW w1 w2 y).toInt := fun q => z (Int32.toInt_inj.mp q)
      have h1 := h.1
      rw [Int32.lt_iff_toInt_lt] at h1 ⊢
      omega
  · intro h
    rcases h with h | ⟨h, h'⟩
    · refine ⟨fun q => ?_, Or.inl (fun q => ?_)⟩
      · rw [Int32.lt_iff_toInt_lt] at h q; omega
      · rw [q] at h; exact absurd h (by rw [Int32.lt_iff_toInt_lt]; omega)
    · exact ⟨by rw [h, Int32.lt_iff_toInt_lt]; omega, Or.inr (by omega)⟩
/-- no edge ahead of the next one may join -/
theorem w_next {N : Nat} {ho : Nat → Bool} {f s w1 w2 : Nat → Int32} {q : (Nat → Int32) × (Nat → Int32)} {ed : Int32} (hN : N ≤ 16) (h : ∀ e, e < 2 * N → 0 < eW w1 w2 e → eB w1 w2 ed e = false → eJ N ho f s q e = false) :
    (sgc (eN w1 w2 ed) (eW w1 w2) (2 * N) = -1 ∧ ∀ e, e < 2 * N → 0 < eW w1 w2 e → eJ N ho f s q e = false) ∨ (∃ y, y < 2 * N ∧ sgc (eN w1 w2 ed) (eW w1 w2) (2 * N) = nI y ∧ 0 < eW w1 w2 y ∧ eN w1 w2 ed y = true ∧ ∀ e, e < 2 * N → 0 < eW w1 w2 e → (eW w1 w2 y < eW w1 w2 e ∨ (eW w1 w2 e = eW w1 w2 y ∧ e < y)) → eJ N ho f s q e = false) := by
  rcases sgc_spec (cd := eN w1 w2 ed) (pu := eW w1 w2) (2 * N) (by omega) with ⟨h1, h2⟩ | ⟨y, h1, h2, h3, h4⟩
  · refine Or.inl ⟨h1, fun e he hw => h e he hw ?_⟩
    have := h2 e he
    unfold eN at this
    rw [decide_eq_true hw, Bool.true_and] at this
    exact this
  · have h3' := h3
    simp only [eN, Bool.and_eq_true, decide_eq_true_eq] at h3'
    refine Or.inr ⟨y, h1, h2, h3'.1, h3, fun e he hw hb => h e he hw ?_⟩
    cases hz : eB w1 w2 ed e
    · rfl
    · exfalso
      have := h4 e he (by unfold eN; rw [decide_eq_true hw, hz]; rfl)
      rcases this with z | ⟨z, z'⟩ <;> rcases hb with w | ⟨w, w'⟩
      · rw [Int32.lt_iff_toInt_lt] at z w; omega
      · rw [w, Int32.lt_iff_toInt_lt] at z; omega
      · rw [z, Int32.lt_iff_toInt_lt] at w; omega
      · omega
/-- the first edge that may join is the one that the class takes -/
theorem w_best {N : Nat} {ho : Nat → Bool} {f s w1 w2 : Nat → Int32} {q : (Nat → Int32) × (Nat → Int32)} {y : Nat} (hN : N ≤ 16) (hy : y < 2 * N) (hw : 0 < eW w1 w2 y) (hj : eJ N ho f s q y = true) (h : ∀ e, e < 2 * N → 0 < eW w1 w2 e → (eW w1 w2 y < eW w1 w2 e ∨ (eW w1 w2 e = eW w1 w2 y ∧ e < y)) → eJ N ho f s q e = false) : sgc (eC N ho f s w1 w2 q) (eW w1 w2) (2 * N) = nI y := by
  have hcy : eC N ho f s w1 w2 q y = true := by unfold eC; rw [hj, decide_eq_true hw]; rfl
  rcases sgc_spec (cd := eC N ho f s w1 w2 q) (pu := eW w1 w2) (2 * N) (by omega) with ⟨h1, h2⟩ | ⟨z, h1, h2, h3, h4⟩
  · rw [h2 y hy] at hcy; exact Bool.noConfusion hcy
  · simp only [eC, Bool.and_eq_true, decide_eq_true_eq] at h3
    have e1 := h4 y hy hcy
    have e2 : ¬ (eW w1 w2 y < eW w1 w2 z ∨ (eW w1 w2 z = eW w1 w2 y ∧ z < y)) := fun w => by
      have := h z h1 h3.2 w
      rw [h3.1] at this; exact Bool.noConfusion this
    have : z = y := by
      rcases e1 with w | ⟨w, w'⟩
      · exact absurd (Or.inl w) e2
      · apply Classical.byContradiction
        intro n
        exact e2 (Or.inr ⟨w.symm, by omega⟩)
    rw [h2, this]
section Wk
variable (N : Nat) (ho : Nat → Bool) (kd f s w1 w2 : Nat → Int32)
/-- the chains behind r joins by weights -/
def pkw (r : Nat) : (Nat → Int32) × (Nat → Int32) := pk N (hrw ho) (gnp kd f s w1 w2 1) (ldp f s 1) f s r
end Wk
theorem pkw_end {N : Nat} {ho : Nat → Bool} {kd f s w1 w2 : Nat → Int32} {r : Nat} (hN : N ≤ 16) (hv : pv N kd f s) (h : ∀ e, e < 2 * N → 0 < eW w1 w2 e → eJ N ho f s (pkw N ho kd f s w1 w2 r) e = false) (hr : r ≤ 16) : pkw N ho kd f s w1 w2 16 = pkw N ho kd f s w1 w2 r := by
  have e1 : pj N (hrw ho) (gnp kd f s w1 w2 1) (ldp f s 1) f s (pkw N ho kd f s w1 w2 r) = enc f s w1 w2 (sgc (eC N ho f s w1 w2 (pkw N ho kd f s w1 w2 r)) (eW w1 w2) (2 * N)) := jfE hN hv N (Nat.le_refl N)
  have e2 : sgc (eC N ho f s w1 w2 (pkw N ho kd f s w1 w2 r)) (eW w1 w2) (2 * N) = -1 := by
    rcases sgc_spec (cd := eC N ho f s w1 w2 (pkw N ho kd f s w1 w2 r)) (pu := eW w1 w2) (2 * N) (by omega) with ⟨h1, -⟩ | ⟨z, h1, h2, h3, h4⟩
    · exact h1
    · simp only [eC, Bool.and_eq_true, decide_eq_true_eq] at h3
      rw [h z h1 h3.2] at h3; exact Bool.noConfusion h3.1
  have := pk_fix (N := N) (ho := hrw ho) (gn := gnp kd f s w1 w2 1) (ld := ldp f s 1) (f := f) (s := s) (r := r) (by
    have e3 : (pj N (hrw ho) (gnp kd f s w1 w2 1) (ldp f s 1) f s (pk N (hrw ho) (gnp kd f s w1 w2 1) (ldp f s 1) f s r)).1 = 0 := by
      have := congrArg (fun z => z.1) e1
      rw [e2] at this
      exact this
    rw [e3]; decide) (16 - r)
  rw [show r + (16 - r) = 16 from by omega] at this
  exact this
theorem pkw_step {N : Nat} {ho : Nat → Bool} {kd f s w1 w2 : Nat → Int32} {r y z : Nat} (hN : N ≤ 16) (hv : pv N kd f s) (hy : y < 2 * N) (hw : 0 < eW w1 w2 y) (hz : eT f s y = nI z) (h : sgc (eC N ho f s w1 w2 (pkw N ho kd f s w1 w2 r)) (eW w1 w2) (2 * N) = nI y) : pkw N ho kd f s w1 w2 (r + 1) = (upd (pkw N ho kd f s w1 w2 r).1 (y / 2) (nI z), fun b => if (pkw N ho kd f s w1 w2 r).2 b = nI z then (pkw N ho kd f s w1 w2 r).2 (y / 2) else (pkw N ho kd f s w1 w2 r).2 b) := by
  have e1 : pj N (hrw ho) (gnp kd f s w1 w2 1) (ldp f s 1) f s (pkw N ho kd f s w1 w2 r) = enc f s w1 w2 (sgc (eC N ho f s w1 w2 (pkw N ho kd f s w1 w2 r)) (eW w1 w2) (2 * N)) := jfE hN hv N (Nat.le_refl N)
  have e2 : enc f s w1 w2 (nI y) = (eW w1 w2 y, nI (y / 2), nI z) := by
    unfold enc
    rw [if_neg (nI_m1 (by omega)), nI_clamp (by omega), hz]
  rw [h, e2] at e1
  show pn N (hrw ho) (gnp kd f s w1 w2 1) (ldp f s 1) f s (pkw N ho kd f s w1 w2 r) = _
  unfold pn
  rw [e1, if_pos hw]
  dsimp only
  rw [nI_clamp (by omega)]
set_option maxRecDepth 20000 in
theorem t_joinsByWeights {l : Launch} {Z : fx_Z} (hl : l.stackTraces = false) (ad : Nat → Nat) (sw : Bool) (tl : List fx_Sh) (M : fx_M) {N : Nat} (hN : M 37 0 = nI N) (hN16 : N ≤ 16) (hN1 : 1 ≤ N) (hv : pv N (M 39) (M 40) (M 41)) (hz : zw N (M 39) (M 44) (M 45)) {ho : Nat → Bool} (hho : ∀ b, b < N → bt (M 37 34) b = ho b) (h59 : ∀ b, b < N → M 59 b = -1 ∧ M 60 b = -1) : CV l Z yX8_joinsByWeights (.code yX8_joinsByWeights cX8_joinsByWeights 2 none) 2 [.ref (ad 37)] ad (c_C sw ++ (m_C ++ tl)) M (fun m => fr [59, 60] M m ∧ v_C N ho m (pkw N ho (M 39) (M 40) (M 41) (M 44) (M 45) 16)) := by
  refine CT_of (ret := none) (lv0 := [some (.ref (ad 37)), none]) (by decide +kernel) hl (by simp [Value.category]) (Nat.le_of_ble_eq_true rfl) rfl ?_
  intro X F Rt _
  have hC0 : v_C N ho M (pkw N ho (M 39) (M 40) (M 41) (M 44) (M 45) 0) := ⟨fun b => b, fun _ => 0, cgd_0 hN16, fun b hb => ⟨rfl, hb⟩, rfl, fun b hb => (h59 b hb).1, fun b hb => Or.inl ⟨rfl, (h59 b hb).2⟩⟩
  have hcn0 : hcn (fun b => !decide ((pkw N ho (M 39) (M 40) (M 41) (M 44) (M 45) 0).1 b = -1)) N = 0 := by
    have e : (fun b : Nat => !decide ((pkw N ho (M 39) (M 40) (M 41) (M 44) (M 45) 0).1 b = -1)) = fun _ => false := by
      funext b
      show (!decide ((-1 : Int32) = -1)) = false
      decide
    rw [e]; exact hcn_false N
  have ihend : ∀ (M' : fx_M) (ed : Int32), ed = -1 → fr [59, 60] M M' → (∃ r, v_C N ho M' (pkw N ho (M 39) (M 40) (M 41) (M 44) (M 45) r) ∧ hcn (fun b => !decide ((pkw N ho (M 39) (M 40) (M 41) (M 44) (M 45) r).1 b = -1)) N = r ∧ ∀ e, e < 2 * N → 0 < (eW (M 44) (M 45) e) → eJ N ho (M 40) (M 41) (pkw N ho (M 39) (M 40) (M 41) (M 44) (M 45) r) e = false) → GG X ad 6 [some (.ref (ad 37)), some (.int ed)] [] 0 0 (c_C sw ++ (m_C ++ tl)) M' := by
    intro M' ed hed g1 hI
    subst hed
    obtain ⟨r, i1, i2, i4⟩ := hI
    refine G_iload_n F dX8_joinsByWeights_6 rfl ?_
    refine G_if_lt (tgt := 46) F dX8_joinsByWeights_7 (by decide) (fun h7 => ?_) (fun h7 => ?_)
    · skip
      refine G_vret F Rt dX8_joinsByWeights_46 ⟨rfl, rfl, rfl, ?_⟩ (Nat.le_refl _) (Nat.le_refl _)
      refine ⟨g1, ?_⟩
      have hr16 : r ≤ 16 := by rw [← i2]; exact Nat.le_trans (hcn_le N) hN16
      rw [pkw_end hN16 hv i4 hr16]; exact i1
    · exact absurd (by decide) h7 --stop
  have lp : ∀ (k : Nat) (M' : fx_M) (ed : Int32), k = hcn (eN (M 44) (M 45) ed) (2 * N) → fr [59, 60] M M' → (∃ r, v_C N ho M' (pkw N ho (M 39) (M 40) (M 41) (M 44) (M 45) r) ∧ hcn (fun b => !decide ((pkw N ho (M 39) (M 40) (M 41) (M 44) (M 45) r).1 b = -1)) N = r ∧ ((ed = -1 ∧ ∀ e, e < 2 * N → 0 < (eW (M 44) (M 45) e) → eJ N ho (M 40) (M 41) (pkw N ho (M 39) (M 40) (M 41) (M 44) (M 45) r) e = false) ∨ ∃ y, y < 2 * N ∧ ed = nI y ∧ 0 < (eW (M 44) (M 45) y) ∧ ∀ e, e < 2 * N → 0 < (eW (M 44) (M 45) e) → ((eW (M 44) (M 45) y) < (eW (M 44) (M 45) e) ∨ ((eW (M 44) (M 45) e) = (eW (M 44) (M 45) y) ∧ e < y)) → eJ N ho (M 40) (M 41) (pkw N ho (M 39) (M 40) (M 41) (M 44) (M 45) r) e = false)) → GG X ad 6 [some (.ref (ad 37)), some (.int ed)] [] 0 0 (c_C sw ++ (m_C ++ tl)) M' := by
    intro k
    induction k using Nat.strongRecOn with
    | _ k ih =>
      intro M' ed hk g1 hI
      obtain ⟨r, i1, i2, i3⟩ := hI
      rcases i3 with ⟨i3, i4⟩ | ⟨y, hy, i3, i4, i5⟩
      · subst i3
        exact ihend M' (-1) rfl g1 ⟨r, i1, i2, i4⟩
      · subst i3
        refine G_iload_n F dX8_joinsByWeights_6 rfl ?_
        refine G_if_lt (tgt := 46) F dX8_joinsByWeights_7 (by decide) (fun h7 => ?_) (fun h7 => ?_)
        · exact absurd h7 (by rw [← nI_0, nI_ltI (by omega) (by omega)]; omega) --stop
        · skip
          obtain ⟨z, hz1, hz2⟩ : ∃ z, z < N ∧ eT (M 40) (M 41) y = nI z := by
            unfold eT eW at *
            have w := hz (y / 2) (by omega)
            by_cases e2 : y % 2 = 0
            · rw [if_pos e2] at i4 ⊢
              rcases hv (y / 2) (by omega) with ⟨p1, -, -⟩ | ⟨-, p2, -⟩ | ⟨-, p2, -, -⟩
              · rw [w.1 p1] at i4; exact absurd i4 (by decide)
              · exact p2
              · exact p2
            · rw [if_neg e2] at i4 ⊢
              rcases hv (y / 2) (by omega) with ⟨p1, -, -⟩ | ⟨p1, -, -⟩ | ⟨-, -, p3, -⟩
              · rw [w.2 (by rw [p1]; decide)] at i4; exact absurd i4 (by decide)
              · rw [w.2 (by rw [p1]; decide)] at i4; exact absurd i4 (by decide)
              · exact p3
          have hh := half32 (show y < 32 by omega)
          obtain ⟨fo, rk, c1, c2, c3, c4, c5⟩ := i1
          have iC : v_C N ho M' (pkw N ho (M 39) (M 40) (M 41) (M 44) (M 45) r) := ⟨fo, rk, c1, c2, c3, c4, c5⟩
          have hcj : eJ N ho (M 40) (M 41) (pkw N ho (M 39) (M 40) (M 41) (M 44) (M 45) r) y = jnb ho (pkw N ho (M 39) (M 40) (M 41) (M 44) (M 45) r).1 fo (y / 2) z := by unfold eJ; rw [hz2]; exact cj_jnb hN16 c2 (by omega) hz1
          have t37 : ∀ (m : fx_M) (r : Nat), fr [59, 60] M m → v_C N ho m (pkw N ho (M 39) (M 40) (M 41) (M 44) (M 45) r) → hcn (fun b => !decide ((pkw N ho (M 39) (M 40) (M 41) (M 44) (M 45) r).1 b = -1)) N = r → (∀ e, e < 2 * N → 0 < (eW (M 44) (M 45) e) → eB (M 44) (M 45) (nI y) e = false → eJ N ho (M 40) (M 41) (pkw N ho (M 39) (M 40) (M 41) (M 44) (M 45) r) e = false) → GG X ad 37 [some (.ref (ad 37)), some (.int (nI y))] [] 0 0 (c_C sw ++ (m_C ++ tl)) m := by
            intro m r g1 g2 g3 g4
            refine G_aload_n F dX8_joinsByWeights_37 rfl ?_
            refine G_iload_n F dX8_joinsByWeights_38 rfl ?_
            refine G_vI F mv_X8_216 dX8_joinsByWeights_39 (t_nextEdge hl ad sw tl m (N := N) (nI y) (by rw [g1 37 (by decide)]; exact hN) hN16 hN1 (by rw [g1 39 (by decide), g1 44 (by decide), g1 45 (by decide)]; exact hz) (Or.inr ⟨y, hy, rfl⟩)) rfl rfl rfl rfl (Nat.le_of_ble_eq_true rfl) ⟨Nat.le_of_ble_eq_true rfl, Nat.le_of_ble_eq_true rfl, Nat.le_of_ble_eq_true rfl, Nat.le_of_ble_eq_true rfl⟩ (fun r39 M39 h39 => ?_)
            rw [h39.1, h39.2, g1 44 (by decide), g1 45 (by decide)]
            refine G_istore_n F 1 dX8_joinsByWeights_42 rfl rfl rfl (Nat.le_of_ble_eq_true rfl) ?_
            simp only [List.set_cons_zero, List.set_cons_succ]
            refine G_goto (tgt := 6) F dX8_joinsByWeights_43 (by decide) ?_
            rcases w_next hN16 g4 with ⟨n1, n2⟩ | ⟨y2, n1, n2, n3, n4, n5⟩
            · rw [n1]
              exact ihend m (-1) rfl g1 ⟨r, g2, g3, n2⟩
            · rw [n2]
              have hms : hcn (eN (M 44) (M 45) (nI y2)) (2 * N) < hcn (eN (M 44) (M 45) (nI y)) (2 * N) := by
                refine hcn_ssub (x := y2) (fun e he hp => ?_) n1 n4 ?_
                · have n4' := n4
                  simp only [eN, Bool.and_eq_true, decide_eq_true_eq] at hp n4' ⊢
                  refine ⟨hp.1, ?_⟩
                  cases hq : eB (M 44) (M 45) (nI y) e
                  · exfalso
                    have a1 := (eB_false (by omega)).mp hq
                    have a2 : ¬ eB (M 44) (M 45) (nI y2) e = false := fun w => by rw [hp.2] at w; exact Bool.noConfusion w
                    rw [eB_false (by omega)] at a2
                    have a3 : ¬ eB (M 44) (M 45) (nI y) y2 = false := fun w => by rw [n4'.2] at w; exact Bool.noConfusion w
                    rw [eB_false (by omega)] at a3
                    simp only [not_or, not_and, Int32.lt_iff_toInt_lt, ← Int32.toInt_inj] at a1 a2 a3
                    omega
                  · rfl
                · unfold eN
                  rw [(eB_false (show y2 < 32 by omega)).mpr (Or.inr ⟨rfl, Nat.le_refl _⟩), Bool.and_false]
              exact ih _ (by rw [hk]; exact hms) m (nI y2) rfl g1 ⟨r, g2, g3, Or.inr ⟨y2, n1, rfl, n3, n5⟩⟩
          refine G_aload_n F dX8_joinsByWeights_10 rfl ?_
          refine G_iload_n F dX8_joinsByWeights_11 rfl ?_
          refine G_iconst (v := 2) F dX8_joinsByWeights_12 rfl ?_
          refine G_idiv F dX8_joinsByWeights_13 (by decide) ?_
          rw [hh.1]
          refine G_aload_n F dX8_joinsByWeights_14 rfl ?_
          refine G_iload_n F dX8_joinsByWeights_15 rfl ?_
          refine G_vI F mv_X8_219 dX8_joinsByWeights_16 (t_targetOf hl ad sw tl M' (N := N) (e := y) hN16 hy) rfl rfl rfl rfl (Nat.le_of_ble_eq_true rfl) ⟨Nat.le_of_ble_eq_true rfl, Nat.le_of_ble_eq_true rfl, Nat.le_of_ble_eq_true rfl, Nat.le_of_ble_eq_true rfl⟩ (fun r16 M16 h16 => ?_)
          rw [h16.1, h16.2, g1 40 (by decide), g1 41 (by decide), hz2]
          refine G_vI F mv_X8_222 dX8_joinsByWeights_19 (t_canJoin hl ad sw tl M' (N := N) (a := y / 2) (y := z) hN16 c1 (by rw [g1 37 (by decide)]; exact hho) c4 c5 (by omega) hz1) rfl rfl rfl rfl (Nat.le_of_ble_eq_true rfl) ⟨Nat.le_of_ble_eq_true rfl, Nat.le_of_ble_eq_true rfl, Nat.le_of_ble_eq_true rfl, Nat.le_of_ble_eq_true rfl⟩ (fun r19 M19 h19 => ?_)
          rw [h19.1, h19.2]
          refine G_if_eq (tgt := 37) F dX8_joinsByWeights_22 (by decide) (fun h22 => ?_) (fun h22 => ?_)
          · have f22 : eJ N ho (M 40) (M 41) (pkw N ho (M 39) (M 40) (M 41) (M 44) (M 45) r) y = false := by rw [hcj]; simpa using h22
            refine t37 _ r g1 iC i2 (fun e he hw hb => ?_)
            rw [eB_false (by omega)] at hb
            by_cases q : e = y
            · rw [q]; exact f22
            · exact i5 e he hw (hb.elim Or.inl (fun w => Or.inr ⟨w.1, by omega⟩))
          · have f22 : eJ N ho (M 40) (M 41) (pkw N ho (M 39) (M 40) (M 41) (M 44) (M 45) r) y = true := by rw [hcj]; simpa using h22
            refine G_aload_n F dX8_joinsByWeights_25 rfl ?_
            refine G_iload_n F dX8_joinsByWeights_26 rfl ?_
            refine G_iconst (v := 2) F dX8_joinsByWeights_27 rfl ?_
            refine G_idiv F dX8_joinsByWeights_28 (by decide) ?_
            rw [hh.1]
            refine G_aload_n F dX8_joinsByWeights_29 rfl ?_
            refine G_iload_n F dX8_joinsByWeights_30 rfl ?_
            refine G_vI F mv_X8_219 dX8_joinsByWeights_31 (t_targetOf hl ad sw tl M' (N := N) (e := y) hN16 hy) rfl rfl rfl rfl (Nat.le_of_ble_eq_true rfl) ⟨Nat.le_of_ble_eq_true rfl, Nat.le_of_ble_eq_true rfl, Nat.le_of_ble_eq_true rfl, Nat.le_of_ble_eq_true rfl⟩ (fun r31 M31 h31 => ?_)
            rw [h31.1, h31.2, g1 40 (by decide), g1 41 (by decide), hz2]
            refine G_vv F mv_X8_225 dX8_joinsByWeights_34 (t_joins hl ad sw tl M' (a := y / 2) (y := z) (by omega) (by omega)) rfl rfl rfl rfl (Nat.le_of_ble_eq_true rfl) ⟨Nat.le_of_ble_eq_true rfl, Nat.le_of_ble_eq_true rfl, Nat.le_of_ble_eq_true rfl, Nat.le_of_ble_eq_true rfl⟩ (fun M34 h34 => ?_)
            rw [h34]
            have hbest := w_best hN16 hy i4 f22 i5
            have hst := pkw_step (r := r) hN16 hv hy i4 hz2 hbest
            have hjn := f22
            unfold eJ at hjn
            rw [hz2] at hjn
            have hjb := f22
            rw [hcj, jnb_iff] at hjb
            refine t37 _ (r + 1) ((g1.u (by decide)).u (by decide)) (by rw [hst]; exact v_C_join hN16 iC (by omega) hz1 hjn) (by rw [hst]; rw [hcn_join hN16 (by omega) hz1 hjb.2.2.2.1, i2]) (fun e he hw hb => ?_)
            rw [eB_false (by omega)] at hb
            cases hq : eJ N ho (M 40) (M 41) (pkw N ho (M 39) (M 40) (M 41) (M 44) (M 45) (r + 1)) e
            · rfl
            · exfalso
              rw [hst] at hq
              have w := eJ_mono hN16 c1 c2 (by omega) hz1 hjb.2.2.2.2.2 he hq
              by_cases q : e = y
              · exact w.2 (by rw [q])
              · have := i5 e he hw (hb.elim Or.inl (fun w => Or.inr ⟨w.1, by omega⟩))
                rw [w.1] at this; exact Bool.noConfusion this
  refine G_aload_n F dX8_joinsByWeights_0 rfl ?_
  refine G_iconst (v := -1) F dX8_joinsByWeights_1 rfl ?_
  refine G_vI F mv_X8_216 dX8_joinsByWeights_2 (t_nextEdge hl ad sw tl M (N := N) (-1) hN hN16 hN1 hz (Or.inl rfl)) rfl rfl rfl rfl (Nat.le_of_ble_eq_true rfl) ⟨Nat.le_of_ble_eq_true rfl, Nat.le_of_ble_eq_true rfl, Nat.le_of_ble_eq_true rfl, Nat.le_of_ble_eq_true rfl⟩ (fun r2 M2 h2 => ?_)
  rw [h2.1, h2.2]
  refine G_istore_n F 1 dX8_joinsByWeights_5 rfl rfl rfl (Nat.le_of_ble_eq_true rfl) ?_
  simp only [List.set_cons_zero, List.set_cons_succ]
  rcases w_next (q := (pkw N ho (M 39) (M 40) (M 41) (M 44) (M 45) 0)) (ho := ho) (f := M 40) (s := M 41) (w1 := M 44) (w2 := M 45) (ed := -1) hN16 (fun e he hw hb => by simp [eB] at hb) with ⟨n1, n2⟩ | ⟨y2, n1, n2, n3, n4, n5⟩
  · rw [n1]
    exact ihend M (-1) rfl fr.rfl ⟨0, hC0, hcn0, n2⟩
  · rw [n2]
    exact lp _ M (nI y2) rfl fr.rfl ⟨0, hC0, hcn0, Or.inr ⟨y2, n1, rfl, n3, n5⟩⟩
