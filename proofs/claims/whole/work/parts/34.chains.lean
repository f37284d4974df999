/-! ARRANGER: the best join, chains -/
theorem m_b3_ne {M : fx_M} {x : Int32 × Int32 × Int32} {k : Nat} (h : k ≠ 20) : m_b3 M x k = M k := by
  unfold m_b3
  rw [fx_u_ne h, fx_u_ne h, fx_u_ne h]
theorem m_b3_8 {M : fx_M} {x : Int32 × Int32 × Int32} : m_b3 M x 20 8 = x.1 := by simp [m_b3, fx_u_at]
theorem m_b3_9 {M : fx_M} {x : Int32 × Int32 × Int32} : m_b3 M x 20 9 = x.2.1 := by simp [m_b3, fx_u_at]
theorem m_b3_10 {M : fx_M} {x : Int32 × Int32 × Int32} : m_b3 M x 20 10 = x.2.2 := by simp [m_b3, fx_u_at]
theorem m_b3_b3 {M : fx_M} {x y : Int32 × Int32 × Int32} : m_b3 (m_b3 M x) y = m_b3 M y := by
  funext a b
  simp only [m_b3, fx_u_at]
  by_cases h : a = 20
  · by_cases h8 : b = 8
    · simp [h, h8]
    · by_cases h9 : b = 9
      · simp [h, h9]
      · by_cases h10 : b = 10
        · simp [h, h10]
        · simp [h8, h9, h10]
  · simp [h]
/-- one candidate is weighed -/
def jw (cj : Nat → Int32 → Bool) (gn : Nat → Int32 → Int32) (x : Int32 × Int32 × Int32) (a : Nat) (t : Int32) : Int32 × Int32 × Int32 := if cj a t = true ∧ x.1 < gn a t then (gn a t, nI a, t) else x
/-- the best of the first n blocks' -/
def jf (cj : Nat → Int32 → Bool) (gn : Nat → Int32 → Int32) (ld : Nat → Bool) (f s : Nat → Int32) (x0 : Int32 × Int32 × Int32) : Nat → Int32 × Int32 × Int32
  | 0 => x0
  | n + 1 => jw cj gn (jw cj gn (jf cj gn ld f s x0 n) n (if ld n then f n else s n)) n (if ld n then s n else f n)
theorem jf_ok {cj : Nat → Int32 → Bool} {gn : Nat → Int32 → Int32} {ld : Nat → Bool} {f s : Nat → Int32} {x0 : Int32 × Int32 × Int32} (h0 : x0.1 = 0) : ∀ n, (0 ≤ (jf cj gn ld f s x0 n).1) ∧ (0 < (jf cj gn ld f s x0 n).1 → ∃ a t, a < n ∧ (t = f a ∨ t = s a) ∧ jf cj gn ld f s x0 n = (gn a t, nI a, t) ∧ cj a t = true) := by
  have key : ∀ (x : Int32 × Int32 × Int32) (n a : Nat) (t : Int32), a < n → (t = f a ∨ t = s a) → ((0 ≤ x.1) ∧ (0 < x.1 → ∃ a t, a < n ∧ (t = f a ∨ t = s a) ∧ x = (gn a t, nI a, t) ∧ cj a t = true)) → ((0 ≤ (jw cj gn x a t).1) ∧ (0 < (jw cj gn x a t).1 → ∃ b u, b < n ∧ (u = f b ∨ u = s b) ∧ jw cj gn x a t = (gn b u, nI b, u) ∧ cj b u = true)) := by
    intro x n a t ha ht hx
    unfold jw
    split
    · rename_i h
      refine ⟨?_, fun _ => ⟨a, t, ha, ht, rfl, h.1⟩⟩
      have := h.2
      have := hx.1
      simp only [Int32.lt_iff_toInt_lt, Int32.le_iff_toInt_le] at *
      omega
    · exact hx
  intro n
  induction n with
  | zero =>
    simp only [jf, h0]
    exact ⟨by decide, fun q => absurd q (by decide)⟩
  | succ n ih =>
    simp only [jf]
    refine key _ (n + 1) n _ (by omega) (by split <;> simp) (key _ (n + 1) n _ (by omega) (by split <;> simp) ⟨ih.1, fun q => ?_⟩)
    obtain ⟨a, t, h1, h2⟩ := ih.2 q
    exact ⟨a, t, by omega, h2⟩
/-- what comes second and third at the start doesn't matter -/
theorem jf_tail {cj : Nat → Int32 → Bool} {gn : Nat → Int32 → Int32} {ld : Nat → Bool} {f s : Nat → Int32} {x0 y0 : Int32 × Int32 × Int32} (h0 : x0.1 = y0.1) : ∀ n, (jf cj gn ld f s x0 n).1 = (jf cj gn ld f s y0 n).1 ∧ (jf cj gn ld f s x0 n = jf cj gn ld f s y0 n ∨ (jf cj gn ld f s x0 n = x0 ∧ jf cj gn ld f s y0 n = y0)) := by
  have key : ∀ (x y : Int32 × Int32 × Int32) (a : Nat) (t : Int32), x.1 = y.1 ∧ (x = y ∨ (x = x0 ∧ y = y0)) → (jw cj gn x a t).1 = (jw cj gn y a t).1 ∧ (jw cj gn x a t = jw cj gn y a t ∨ (jw cj gn x a t = x0 ∧ jw cj gn y a t = y0)) := by
    intro x y a t h
    unfold jw
    rw [h.1]
    split
    · exact ⟨rfl, Or.inl rfl⟩
    · exact h
  intro n
  induction n with
  | zero => exact ⟨h0, Or.inr ⟨rfl, rfl⟩⟩
  | succ n ih =>
    simp only [jf]
    exact key _ _ _ _ (key _ _ _ _ ih)
set_option maxRecDepth 20000 in
theorem s_joinBest {l : Launch} {Z : fx_Z} (hl : l.stackTraces = false) (ad : Nat → Nat) (sw : Bool) (tl : List fx_Sh) (M : fx_M) {N : Nat} (bw : Int32) (hN : M 1 8 = nI N) (hN16 : N ≤ 16) : CI l Z yX0_joinBest (.code yX0_joinBest cX0_joinBest 6 (some .boolean)) 3 [.ref (ad 20), .int bw] ad (c_C sw ++ tl) M (fun r m => (¬ 0 < (jf (pf_cj (nI N) (M 21) (M 22) (M 23)) (fun a t => if bw = 0 then pf_cc (M 3) (M 4) (M 5) (M 8) (M 9) a (-1) - pf_cc (M 3) (M 4) (M 5) (M 8) (M 9) a t else pf_wt (M 4) (M 5) (M 8) (M 9) a t) (fun n => !decide (bw = 0) || decide (M 4 n < M 5 n)) (M 4) (M 5) (0, M 20 9, M 20 10) N).1 ∧ r = 0 ∧ m = m_b3 M (jf (pf_cj (nI N) (M 21) (M 22) (M 23)) (fun a t => if bw = 0 then pf_cc (M 3) (M 4) (M 5) (M 8) (M 9) a (-1) - pf_cc (M 3) (M 4) (M 5) (M 8) (M 9) a t else pf_wt (M 4) (M 5) (M 8) (M 9) a t) (fun n => !decide (bw = 0) || decide (M 4 n < M 5 n)) (M 4) (M 5) (0, M 20 9, M 20 10) N)) ∨ (0 < (jf (pf_cj (nI N) (M 21) (M 22) (M 23)) (fun a t => if bw = 0 then pf_cc (M 3) (M 4) (M 5) (M 8) (M 9) a (-1) - pf_cc (M 3) (M 4) (M 5) (M 8) (M 9) a t else pf_wt (M 4) (M 5) (M 8) (M 9) a t) (fun n => !decide (bw = 0) || decide (M 4 n < M 5 n)) (M 4) (M 5) (0, M 20 9, M 20 10) N).1 ∧ r = 1 ∧ ∃ a t, a < N ∧ t < N ∧ (jf (pf_cj (nI N) (M 21) (M 22) (M 23)) (fun a t => if bw = 0 then pf_cc (M 3) (M 4) (M 5) (M 8) (M 9) a (-1) - pf_cc (M 3) (M 4) (M 5) (M 8) (M 9) a t else pf_wt (M 4) (M 5) (M 8) (M 9) a t) (fun n => !decide (bw = 0) || decide (M 4 n < M 5 n)) (M 4) (M 5) (0, M 20 9, M 20 10) N) = ((fun a t => if bw = 0 then pf_cc (M 3) (M 4) (M 5) (M 8) (M 9) a (-1) - pf_cc (M 3) (M 4) (M 5) (M 8) (M 9) a t else pf_wt (M 4) (M 5) (M 8) (M 9) a t) a (nI t), nI a, nI t) ∧ (pf_cj (nI N) (M 21) (M 22) (M 23)) a (nI t) = true ∧ fr [20, 22, 23] M m ∧ m 20 = m_b3 M (jf (pf_cj (nI N) (M 21) (M 22) (M 23)) (fun a t => if bw = 0 then pf_cc (M 3) (M 4) (M 5) (M 8) (M 9) a (-1) - pf_cc (M 3) (M 4) (M 5) (M 8) (M 9) a t else pf_wt (M 4) (M 5) (M 8) (M 9) a t) (fun n => !decide (bw = 0) || decide (M 4 n < M 5 n)) (M 4) (M 5) (0, M 20 9, M 20 10) N) 20 ∧ m 22 = upd (M 22) a (nI t) ∧ ∀ b, b < N → m 23 b = if M 23 b = nI t then M 23 a else M 23 b)) := by
  refine CT_of (ret := (some .boolean)) (lv0 := [some (.ref (ad 20)), some (.int bw), none, none, none, none]) (by decide +kernel) hl (by simp [Value.category]) (Nat.le_of_ble_eq_true rfl) rfl ?_
  intro X F Rt _
  have hW : ∀ (x : Int32 × Int32 × Int32) (a : Nat) (t : Int32), a < 16 → CV l Z yX0_weigh (.code yX0_weigh cX0_weigh 5 none) 2 [.ref (ad 20), .int (nI a), .int t, .int bw] ad (c_C sw ++ tl) (m_b3 M x) (fun m => m = m_b3 M (jw (pf_cj (nI N) (M 21) (M 22) (M 23)) (fun a t => if bw = 0 then pf_cc (M 3) (M 4) (M 5) (M 8) (M 9) a (-1) - pf_cc (M 3) (M 4) (M 5) (M 8) (M 9) a t else pf_wt (M 4) (M 5) (M 8) (M 9) a t) x a t)) := by
    intro x a t ha
    refine (s_weigh (Z := Z) hl ad sw tl (m_b3 M x) t bw ha (by rw [m_b3_ne (by decide), hN]; have h16 := nI_le hN16 (by decide); rw [nI_16] at h16; exact h16)).mono (fun m h => ?_)
    rw [h]
    simp only [m_b3_ne (show 1 ≠ 20 by decide), m_b3_ne (show 21 ≠ 20 by decide), m_b3_ne (show 22 ≠ 20 by decide), m_b3_ne (show 23 ≠ 20 by decide), m_b3_ne (show 3 ≠ 20 by decide), m_b3_ne (show 4 ≠ 20 by decide), m_b3_ne (show 5 ≠ 20 by decide), m_b3_ne (show 8 ≠ 20 by decide), m_b3_ne (show 9 ≠ 20 by decide), m_b3_8, m_b3_b3, jw, hN]
    exact (apply_ite (m_b3 M) _ _ _).symm
  have hex : GG X ad 96 [some (.ref (ad 20)), some (.int bw), some (.int (nI N)), none, none, none] [] 0 0 (c_C sw ++ tl) (m_b3 M (jf (pf_cj (nI N) (M 21) (M 22) (M 23)) (fun a t => if bw = 0 then pf_cc (M 3) (M 4) (M 5) (M 8) (M 9) a (-1) - pf_cc (M 3) (M 4) (M 5) (M 8) (M 9) a t else pf_wt (M 4) (M 5) (M 8) (M 9) a t) (fun n => !decide (bw = 0) || decide (M 4 n < M 5 n)) (M 4) (M 5) (0, M 20 9, M 20 10) N)) := by
    obtain ⟨y, hy⟩ : ∃ y, y = (jf (pf_cj (nI N) (M 21) (M 22) (M 23)) (fun a t => if bw = 0 then pf_cc (M 3) (M 4) (M 5) (M 8) (M 9) a (-1) - pf_cc (M 3) (M 4) (M 5) (M 8) (M 9) a t else pf_wt (M 4) (M 5) (M 8) (M 9) a t) (fun n => !decide (bw = 0) || decide (M 4 n < M 5 n)) (M 4) (M 5) (0, M 20 9, M 20 10) N) := ⟨_, rfl⟩
    have hok := (jf_ok (cj := (pf_cj (nI N) (M 21) (M 22) (M 23))) (gn := (fun a t => if bw = 0 then pf_cc (M 3) (M 4) (M 5) (M 8) (M 9) a (-1) - pf_cc (M 3) (M 4) (M 5) (M 8) (M 9) a t else pf_wt (M 4) (M 5) (M 8) (M 9) a t)) (ld := (fun n => !decide (bw = 0) || decide (M 4 n < M 5 n))) (f := M 4) (s := M 5) (x0 := (0, M 20 9, M 20 10)) rfl N).2
    rw [← hy] at hok ⊢
    refine G_aload_n F dX0_joinBest_96 rfl ?_
    refine G_geti F fl_X0_81 dX0_joinBest_97 rfl rfl ?_
    rw [m_b3_8]
    refine G_if_le (tgt := 115) F dX0_joinBest_100 (by decide) (fun h100 => ?_) (fun h100 => ?_)
    · have hneg : ¬ 0 < y.1 := by simp only [Int32.lt_iff_toInt_lt, Int32.le_iff_toInt_le] at h100 ⊢; omega
      refine G_aload_n F dX0_joinBest_115 rfl ?_
      refine G_geti F fl_X0_81 dX0_joinBest_116 rfl rfl ?_
      rw [m_b3_8]
      refine G_if_le (tgt := 126) F dX0_joinBest_119 (by decide) (fun h119 => ?_) (fun h119 => ?_)
      · refine G_iconst (v := 0) F dX0_joinBest_126 rfl ?_
        refine G_iret F Rt dX0_joinBest_127 (rfl) ⟨rfl, rfl, _, rfl, ?_⟩ (Nat.le_refl _) (Nat.le_refl _)
        exact Or.inl ⟨by rw [← hy]; exact hneg, rfl, by rw [hy]⟩
      · refine G_iconst (v := 1) F dX0_joinBest_122 rfl ?_
        refine G_goto (tgt := 127) F dX0_joinBest_123 (by decide) ?_
        refine G_iret F Rt dX0_joinBest_127 (rfl) ⟨rfl, rfl, _, rfl, ?_⟩ (Nat.le_refl _) (Nat.le_refl _)
        exact absurd (by simp only [Int32.lt_iff_toInt_lt, Int32.le_iff_toInt_le] at h119 ⊢; omega) hneg
    · have hpos : 0 < y.1 := by simp only [Int32.lt_iff_toInt_lt, Int32.le_iff_toInt_le] at h100 ⊢; omega
      refine G_aload_n F dX0_joinBest_103 rfl ?_
      refine G_aload_n F dX0_joinBest_104 rfl ?_
      skip
      refine G_geti F fl_X0_94 dX0_joinBest_105 rfl rfl ?_
      rw [m_b3_9]
      refine G_aload_n F dX0_joinBest_108 rfl ?_
      refine G_geti F fl_X0_97 dX0_joinBest_109 rfl rfl ?_
      rw [m_b3_10]
      obtain ⟨a, t, q1, q2, q3, q4⟩ := hok hpos
      have q5 := q4
      simp only [pf_cj, Bool.and_eq_true, decide_eq_true_eq] at q5
      obtain ⟨r1, r2, r3, r4, r5, r6, r7⟩ := q5
      obtain ⟨u, hu1, hu2⟩ : ∃ u, u < N ∧ t = nI u := by
        have e := nI_toInt (n := N) (by omega)
        simp only [Int32.lt_iff_toInt_lt, i0, e] at r1 r2
        obtain ⟨j, hj1, hj2⟩ := nI_of (x := t) (by simp only [Int32.lt_iff_toInt_lt, i0]; omega)
        rw [hj2, nI_toInt hj1] at r2
        exact ⟨j, by omega, hj2⟩
      rw [q3, hu2]
      refine G_vv F mv_X0_100 dX0_joinBest_112 (s_append hl ad sw tl _ (N := N) (a := a) (t := u) (by rw [m_b3_ne (by decide)]; exact hN) hN16 q1 (by rw [m_b3_ne (by decide), ← hu2]; exact r7)) rfl rfl rfl rfl (Nat.le_of_ble_eq_true rfl) ⟨Nat.le_of_ble_eq_true rfl, Nat.le_of_ble_eq_true rfl, Nat.le_of_ble_eq_true rfl, Nat.le_of_ble_eq_true rfl⟩ (fun M112 h112 => ?_)
      obtain ⟨w1, w2, w3⟩ := h112
      refine G_aload_n F dX0_joinBest_115 rfl ?_
      refine G_geti F fl_X0_81 dX0_joinBest_116 rfl rfl ?_
      rw [w1 20 (by decide), m_b3_8]
      refine G_if_le (tgt := 126) F dX0_joinBest_119 (by decide) (fun h119 => ?_) (fun h119 => ?_)
      · refine G_iconst (v := 0) F dX0_joinBest_126 rfl ?_
        refine G_iret F Rt dX0_joinBest_127 (rfl) ⟨rfl, rfl, _, rfl, ?_⟩ (Nat.le_refl _) (Nat.le_refl _)
        exfalso
        rw [← hu2, ← q3] at h119
        simp only [Int32.lt_iff_toInt_lt, Int32.le_iff_toInt_le] at h119 hpos
        omega
      · refine G_iconst (v := 1) F dX0_joinBest_122 rfl ?_
        refine G_goto (tgt := 127) F dX0_joinBest_123 (by decide) ?_
        refine G_iret F Rt dX0_joinBest_127 (rfl) ⟨rfl, rfl, _, rfl, ?_⟩ (Nat.le_refl _) (Nat.le_refl _)
        rw [← hy]
        refine Or.inr ⟨hpos, rfl, a, u, q1, hu1, by rw [q3, hu2], by rw [← hu2]; exact q4, fun k hk => ?_, ?_, ?_, fun b hb => ?_⟩
        · simp only [List.mem_cons, List.not_mem_nil, or_false, not_or] at hk
          rw [w1 k (by simp [hk.2]), m_b3_ne hk.1]
        · rw [w1 20 (by decide), q3, hu2]
        · rw [w2, m_b3_ne (by decide)]
        · rw [w3 b hb, m_b3_ne (by decide)]
  have lp : ∀ (k : Nat) (i : Nat), k = N - i → i ≤ N → GG X ad 7 [some (.ref (ad 20)), some (.int bw), some (.int (nI i)), none, none, none] [] 0 0 (c_C sw ++ tl) (m_b3 M (jf (pf_cj (nI N) (M 21) (M 22) (M 23)) (fun a t => if bw = 0 then pf_cc (M 3) (M 4) (M 5) (M 8) (M 9) a (-1) - pf_cc (M 3) (M 4) (M 5) (M 8) (M 9) a t else pf_wt (M 4) (M 5) (M 8) (M 9) a t) (fun n => !decide (bw = 0) || decide (M 4 n < M 5 n)) (M 4) (M 5) (0, M 20 9, M 20 10) i)) := by
    intro k
    induction k using Nat.strongRecOn with
    | _ k ih =>
      intro i hk hi
      refine G_iload_n F dX0_joinBest_7 rfl ?_
      refine G_aload_n F dX0_joinBest_8 rfl ?_
      refine G_getr F fl_X0_31 dX0_joinBest_9 rfl rfl ?_
      refine G_geti F fl_X0_43 dX0_joinBest_12 rfl rfl ?_
      rw [m_b3_ne (by decide), hN]
      refine G_icmp_ge (tgt := 96) F dX0_joinBest_15 (by decide) (fun h15 => ?_) (fun h15 => ?_)
      · rw [nI_leI (by omega) (by omega)] at h15
        have hiN : i = N := by omega
        subst hiN
        exact hex
      · rw [nI_leI (by omega) (by omega)] at h15
        have t73a : (fun n => !decide (bw = 0) || decide (M 4 n < M 5 n)) i = true → GG X ad 73 [some (.ref (ad 20)), some (.int bw), some (.int (nI i)), some (.int (M 4 i)), some (.int (M 5 i)), some (.int 1)] [] 0 0 (c_C sw ++ tl) (m_b3 M (jw (pf_cj (nI N) (M 21) (M 22) (M 23)) (fun a t => if bw = 0 then pf_cc (M 3) (M 4) (M 5) (M 8) (M 9) a (-1) - pf_cc (M 3) (M 4) (M 5) (M 8) (M 9) a t else pf_wt (M 4) (M 5) (M 8) (M 9) a t) (jf (pf_cj (nI N) (M 21) (M 22) (M 23)) (fun a t => if bw = 0 then pf_cc (M 3) (M 4) (M 5) (M 8) (M 9) a (-1) - pf_cc (M 3) (M 4) (M 5) (M 8) (M 9) a t else pf_wt (M 4) (M 5) (M 8) (M 9) a t) (fun n => !decide (bw = 0) || decide (M 4 n < M 5 n)) (M 4) (M 5) (0, M 20 9, M 20 10) i) i (M 4 i))) := by
          intro hld
          refine G_aload_n F dX0_joinBest_73 rfl ?_
          refine G_iload_n F dX0_joinBest_74 rfl ?_
          refine G_iload F dX0_joinBest_75 rfl ?_
          refine G_if_eq (tgt := 85) F dX0_joinBest_77 (by decide) (fun h77 => ?_) (fun h77 => ?_)
          · exact absurd h77 (by decide) --stop
          · skip
            refine G_iload F dX0_joinBest_80 rfl ?_
            refine G_goto (tgt := 86) F dX0_joinBest_82 (by decide) ?_
            refine G_iload_n F dX0_joinBest_86 rfl ?_
            refine G_vv F mv_X0_90 dX0_joinBest_87 (hW _ i _ (by omega)) rfl rfl rfl rfl (Nat.le_of_ble_eq_true rfl) ⟨Nat.le_of_ble_eq_true rfl, Nat.le_of_ble_eq_true rfl, Nat.le_of_ble_eq_true rfl, Nat.le_of_ble_eq_true rfl⟩ (fun M87 h87 => ?_)
            rw [h87]
            refine G_iinc F (1) dX0_joinBest_90 rfl rfl rfl rfl ?_
            simp only [List.set_cons_zero, List.set_cons_succ, nI_1]
            refine G_goto (tgt := 7) F dX0_joinBest_93 (by decide) ?_
            refine G_drop F 3 ?_
            refine G_drop F 4 ?_
            refine G_drop F 5 ?_
            simp only [List.set_cons_zero, List.set_cons_succ]
            have hgo := ih (N - (i + 1)) (by omega) (i + 1) rfl (by omega)
            simp only [jf, hld, Bool.false_eq_true, ↓reduceIte] at hgo
            exact hgo
        have t73b : (fun n => !decide (bw = 0) || decide (M 4 n < M 5 n)) i = false → GG X ad 73 [some (.ref (ad 20)), some (.int bw), some (.int (nI i)), some (.int (M 4 i)), some (.int (M 5 i)), some (.int 0)] [] 0 0 (c_C sw ++ tl) (m_b3 M (jw (pf_cj (nI N) (M 21) (M 22) (M 23)) (fun a t => if bw = 0 then pf_cc (M 3) (M 4) (M 5) (M 8) (M 9) a (-1) - pf_cc (M 3) (M 4) (M 5) (M 8) (M 9) a t else pf_wt (M 4) (M 5) (M 8) (M 9) a t) (jf (pf_cj (nI N) (M 21) (M 22) (M 23)) (fun a t => if bw = 0 then pf_cc (M 3) (M 4) (M 5) (M 8) (M 9) a (-1) - pf_cc (M 3) (M 4) (M 5) (M 8) (M 9) a t else pf_wt (M 4) (M 5) (M 8) (M 9) a t) (fun n => !decide (bw = 0) || decide (M 4 n < M 5 n)) (M 4) (M 5) (0, M 20 9, M 20 10) i) i (M 5 i))) := by
          intro hld
          refine G_aload_n F dX0_joinBest_73 rfl ?_
          refine G_iload_n F dX0_joinBest_74 rfl ?_
          refine G_iload F dX0_joinBest_75 rfl ?_
          refine G_if_eq (tgt := 85) F dX0_joinBest_77 (by decide) (fun h77 => ?_) (fun h77 => ?_)
          · skip
            refine G_iload_n F dX0_joinBest_85 rfl ?_
            refine G_iload_n F dX0_joinBest_86 rfl ?_
            refine G_vv F mv_X0_90 dX0_joinBest_87 (hW _ i _ (by omega)) rfl rfl rfl rfl (Nat.le_of_ble_eq_true rfl) ⟨Nat.le_of_ble_eq_true rfl, Nat.le_of_ble_eq_true rfl, Nat.le_of_ble_eq_true rfl, Nat.le_of_ble_eq_true rfl⟩ (fun M87 h87 => ?_)
            rw [h87]
            refine G_iinc F (1) dX0_joinBest_90 rfl rfl rfl rfl ?_
            simp only [List.set_cons_zero, List.set_cons_succ, nI_1]
            refine G_goto (tgt := 7) F dX0_joinBest_93 (by decide) ?_
            refine G_drop F 3 ?_
            refine G_drop F 4 ?_
            refine G_drop F 5 ?_
            simp only [List.set_cons_zero, List.set_cons_succ]
            have hgo := ih (N - (i + 1)) (by omega) (i + 1) rfl (by omega)
            simp only [jf, hld, Bool.false_eq_true, ↓reduceIte] at hgo
            exact hgo
          · exact absurd rfl h77 --stop
        have t54a : (fun n => !decide (bw = 0) || decide (M 4 n < M 5 n)) i = true → GG X ad 54 [some (.ref (ad 20)), some (.int bw), some (.int (nI i)), some (.int (M 4 i)), some (.int (M 5 i)), none] [.int 1] 0 0 (c_C sw ++ tl) (m_b3 M (jf (pf_cj (nI N) (M 21) (M 22) (M 23)) (fun a t => if bw = 0 then pf_cc (M 3) (M 4) (M 5) (M 8) (M 9) a (-1) - pf_cc (M 3) (M 4) (M 5) (M 8) (M 9) a t else pf_wt (M 4) (M 5) (M 8) (M 9) a t) (fun n => !decide (bw = 0) || decide (M 4 n < M 5 n)) (M 4) (M 5) (0, M 20 9, M 20 10) i)) := by
          intro hld
          refine G_istore F dX0_joinBest_54 rfl rfl (Nat.le_of_ble_eq_true rfl) ?_
          simp only [List.set_cons_zero, List.set_cons_succ]
          refine G_aload_n F dX0_joinBest_56 rfl ?_
          refine G_iload_n F dX0_joinBest_57 rfl ?_
          refine G_iload F dX0_joinBest_58 rfl ?_
          refine G_if_eq (tgt := 67) F dX0_joinBest_60 (by decide) (fun h60 => ?_) (fun h60 => ?_)
          · exact absurd h60 (by decide) --stop
          · skip
            refine G_iload_n F dX0_joinBest_63 rfl ?_
            refine G_goto (tgt := 69) F dX0_joinBest_64 (by decide) ?_
            refine G_iload_n F dX0_joinBest_69 rfl ?_
            refine G_vv F mv_X0_90 dX0_joinBest_70 (hW _ i _ (by omega)) rfl rfl rfl rfl (Nat.le_of_ble_eq_true rfl) ⟨Nat.le_of_ble_eq_true rfl, Nat.le_of_ble_eq_true rfl, Nat.le_of_ble_eq_true rfl, Nat.le_of_ble_eq_true rfl⟩ (fun M70 h70 => ?_)
            rw [h70]
            exact t73a hld
        have t54b : (fun n => !decide (bw = 0) || decide (M 4 n < M 5 n)) i = false → GG X ad 54 [some (.ref (ad 20)), some (.int bw), some (.int (nI i)), some (.int (M 4 i)), some (.int (M 5 i)), none] [.int 0] 0 0 (c_C sw ++ tl) (m_b3 M (jf (pf_cj (nI N) (M 21) (M 22) (M 23)) (fun a t => if bw = 0 then pf_cc (M 3) (M 4) (M 5) (M 8) (M 9) a (-1) - pf_cc (M 3) (M 4) (M 5) (M 8) (M 9) a t else pf_wt (M 4) (M 5) (M 8) (M 9) a t) (fun n => !decide (bw = 0) || decide (M 4 n < M 5 n)) (M 4) (M 5) (0, M 20 9, M 20 10) i)) := by
          intro hld
          refine G_istore F dX0_joinBest_54 rfl rfl (Nat.le_of_ble_eq_true rfl) ?_
          simp only [List.set_cons_zero, List.set_cons_succ]
          refine G_aload_n F dX0_joinBest_56 rfl ?_
          refine G_iload_n F dX0_joinBest_57 rfl ?_
          refine G_iload F dX0_joinBest_58 rfl ?_
          refine G_if_eq (tgt := 67) F dX0_joinBest_60 (by decide) (fun h60 => ?_) (fun h60 => ?_)
          · skip
            refine G_iload F dX0_joinBest_67 rfl ?_
            refine G_iload_n F dX0_joinBest_69 rfl ?_
            refine G_vv F mv_X0_90 dX0_joinBest_70 (hW _ i _ (by omega)) rfl rfl rfl rfl (Nat.le_of_ble_eq_true rfl) ⟨Nat.le_of_ble_eq_true rfl, Nat.le_of_ble_eq_true rfl, Nat.le_of_ble_eq_true rfl, Nat.le_of_ble_eq_true rfl⟩ (fun M70 h70 => ?_)
            rw [h70]
            exact t73b hld
          · exact absurd rfl h60 --stop
        refine G_aload_n F dX0_joinBest_18 rfl ?_
        refine G_getr F fl_X0_31 dX0_joinBest_19 rfl rfl ?_
        refine G_getr F fl_X0_84 dX0_joinBest_22 rfl rfl ?_
        refine G_iload_n F dX0_joinBest_25 rfl ?_
        refine G_ialdN F dX0_joinBest_26 rfl (by omega) (by decide) ?_
        rw [m_b3_ne (by decide)]
        refine G_istore_n F 3 dX0_joinBest_27 rfl rfl rfl (Nat.le_of_ble_eq_true rfl) ?_
        simp only [List.set_cons_zero, List.set_cons_succ]
        refine G_aload_n F dX0_joinBest_28 rfl ?_
        refine G_getr F fl_X0_31 dX0_joinBest_29 rfl rfl ?_
        refine G_getr F fl_X0_87 dX0_joinBest_32 rfl rfl ?_
        refine G_iload_n F dX0_joinBest_35 rfl ?_
        refine G_ialdN F dX0_joinBest_36 rfl (by omega) (by decide) ?_
        rw [m_b3_ne (by decide)]
        refine G_istore F dX0_joinBest_37 rfl rfl (Nat.le_of_ble_eq_true rfl) ?_
        simp only [List.set_cons_zero, List.set_cons_succ]
        refine G_iload_n F dX0_joinBest_39 rfl ?_
        refine G_if_ne (tgt := 49) F dX0_joinBest_40 (by decide) (fun h40 => ?_) (fun h40 => ?_)
        · skip
          refine G_iconst (v := 1) F dX0_joinBest_49 rfl ?_
          refine G_goto (tgt := 54) F dX0_joinBest_50 (by decide) ?_
          exact t54a (by simp [h40])
        · have hbw : bw = 0 := h40
          refine G_iload_n F dX0_joinBest_43 rfl ?_
          refine G_iload F dX0_joinBest_44 rfl ?_
          refine G_icmp_ge (tgt := 53) F dX0_joinBest_46 (by decide) (fun h46 => ?_) (fun h46 => ?_)
          · refine G_iconst (v := 0) F dX0_joinBest_53 rfl ?_
            exact t54b (by simp only [hbw, decide_true, Bool.not_true, Bool.false_or, decide_eq_false_iff_not]; simp only [Int32.lt_iff_toInt_lt, Int32.le_iff_toInt_le] at h46 ⊢; omega)
          · refine G_iconst (v := 1) F dX0_joinBest_49 rfl ?_
            refine G_goto (tgt := 54) F dX0_joinBest_50 (by decide) ?_
            exact t54a (by simp only [hbw, decide_true, Bool.not_true, Bool.false_or, decide_eq_true_eq]; simp only [Int32.lt_iff_toInt_lt, Int32.le_iff_toInt_le] at h46 ⊢; omega)
  refine G_aload_n F dX0_joinBest_0 rfl ?_
  refine G_iconst (v := 0) F dX0_joinBest_1 rfl ?_
  refine G_puti F fl_X0_81 dX0_joinBest_2 rfl rfl rfl rfl ?_
  refine G_iconst (v := 0) F dX0_joinBest_5 rfl ?_
  refine G_istore_n F 2 dX0_joinBest_6 rfl rfl rfl (Nat.le_of_ble_eq_true rfl) ?_
  simp only [List.set_cons_zero, List.set_cons_succ]
  have q := lp N 0 (by omega) (by omega)
  simp only [jf] at q
  have e0 : m_b3 M (0, M 20 9, M 20 10) = fx_u M 20 8 0 := by
    funext a b
    simp only [m_b3, fx_u_at]
    by_cases h : a = 20
    · by_cases h8 : b = 8
      · simp [h, h8]
      · by_cases h9 : b = 9
        · simp [h, h9]
        · by_cases h10 : b = 10
          · simp [h, h10]
          · simp [h8, h9, h10]
    · simp [h]
  rw [e0] at q
  exact q
