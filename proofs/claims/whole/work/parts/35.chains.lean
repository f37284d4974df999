/-! ARRANGER: chains, cold blocks -/
theorem jf_congr {cj cj' : Nat → Int32 → Bool} {gn : Nat → Int32 → Int32} {ld : Nat → Bool} {f s : Nat → Int32} {x0 : Int32 × Int32 × Int32} : ∀ n, (∀ a, a < n → ∀ t, cj a t = cj' a t) → jf cj gn ld f s x0 n = jf cj' gn ld f s x0 n := by
  intro n
  induction n with
  | zero => intro _; rfl
  | succ n ih =>
    intro h
    have key : ∀ (x : Int32 × Int32 × Int32) (t : Int32), jw cj gn x n t = jw cj' gn x n t := fun x t => by
      unfold jw
      rw [h n (by omega) t]
    simp only [jf]
    rw [ih (fun a ha => h a (by omega)), key, key]
theorem pf_cj_congr {N : Nat} (hN : N ≤ 16) {ho bh ch bh' ch' : Nat → Int32} (h : ∀ b, b < N → bh b = bh' b ∧ ch b = ch' b) {a : Nat} (ha : a < N) (t : Int32) : pf_cj (nI N) ho bh ch a t = pf_cj (nI N) ho bh' ch' a t := by
  unfold pf_cj
  by_cases h1 : 0 < t
  · by_cases h2 : t < nI N
    · have ht : t.toNatClampNeg < N := by
        obtain ⟨j, hj1, hj2⟩ := nI_of (x := t) (by simp only [Int32.lt_iff_toInt_lt, i0] at *; omega)
        rw [hj2, nI_ltI hj1 (by omega)] at h2
        rw [hj2, nI_clamp hj1]; exact h2
      rw [(h a ha).1, (h a ha).2, (h _ ht).2]
    · simp [h2]
  · simp [h1]
section ChP
variable (N : Nat) (ho : Nat → Int32) (gn : Nat → Int32 → Int32) (ld : Nat → Bool) (f s : Nat → Int32)
/-- the best join of chains -/
def pj (q : (Nat → Int32) × (Nat → Int32)) : Int32 × Int32 × Int32 := jf (pf_cj (nI N) ho q.1 q.2) gn ld f s (0, 0, 0) N
/-- the chains behind it -/
def pn (q : (Nat → Int32) × (Nat → Int32)) : (Nat → Int32) × (Nat → Int32) := if 0 < (pj N ho gn ld f s q).1 then (upd q.1 (pj N ho gn ld f s q).2.1.toNatClampNeg (pj N ho gn ld f s q).2.2, fun b => if q.2 b = (pj N ho gn ld f s q).2.2 then q.2 (pj N ho gn ld f s q).2.1.toNatClampNeg else q.2 b) else q
def pk : Nat → (Nat → Int32) × (Nat → Int32)
  | 0 => (fun _ => -1, nI)
  | k + 1 => pn N ho gn ld f s (pk k)
end ChP
theorem pk_fix {N : Nat} {ho : Nat → Int32} {gn : Nat → Int32 → Int32} {ld : Nat → Bool} {f s : Nat → Int32} {r : Nat} (h : ¬ 0 < (pj N ho gn ld f s (pk N ho gn ld f s r)).1) : ∀ k, pk N ho gn ld f s (r + k) = pk N ho gn ld f s r := by
  intro k
  induction k with
  | zero => rfl
  | succ k ih =>
    show pn N ho gn ld f s (pk N ho gn ld f s (r + k)) = _
    rw [ih]
    unfold pn
    rw [if_neg h]
/-- joinBest, said of chains -/
theorem s_joinBestP {l : Launch} {Z : fx_Z} (hl : l.stackTraces = false) (ad : Nat → Nat) (sw : Bool) (tl : List fx_Sh) (M m : fx_M) {N : Nat} (bw : Int32) (q : (Nat → Int32) × (Nat → Int32)) (hN : M 1 8 = nI N) (hN16 : N ≤ 16) (hf : fr [20, 22, 23] M m) (h20 : ∀ j, j ≠ 8 → j ≠ 9 → j ≠ 10 → m 20 j = M 20 j) (hq : ∀ b, b < N → m 22 b = q.1 b ∧ m 23 b = q.2 b) :
    CI l Z yX0_joinBest (.code yX0_joinBest cX0_joinBest 6 (some .boolean)) 3 [.ref (ad 20), .int bw] ad (c_C sw ++ tl) m (fun r m' => r = (if 0 < (pj N (M 21) (fun a t => if bw = 0 then pf_cc (M 3) (M 4) (M 5) (M 8) (M 9) a (-1) - pf_cc (M 3) (M 4) (M 5) (M 8) (M 9) a t else pf_wt (M 4) (M 5) (M 8) (M 9) a t) (fun n => !decide (bw = 0) || decide (M 4 n < M 5 n)) (M 4) (M 5) q).1 then 1 else 0) ∧ fr [20, 22, 23] M m' ∧ (∀ j, j ≠ 8 → j ≠ 9 → j ≠ 10 → m' 20 j = M 20 j) ∧ ∀ b, b < N → m' 22 b = (pn N (M 21) (fun a t => if bw = 0 then pf_cc (M 3) (M 4) (M 5) (M 8) (M 9) a (-1) - pf_cc (M 3) (M 4) (M 5) (M 8) (M 9) a t else pf_wt (M 4) (M 5) (M 8) (M 9) a t) (fun n => !decide (bw = 0) || decide (M 4 n < M 5 n)) (M 4) (M 5) q).1 b ∧ m' 23 b = (pn N (M 21) (fun a t => if bw = 0 then pf_cc (M 3) (M 4) (M 5) (M 8) (M 9) a (-1) - pf_cc (M 3) (M 4) (M 5) (M 8) (M 9) a t else pf_wt (M 4) (M 5) (M 8) (M 9) a t) (fun n => !decide (bw = 0) || decide (M 4 n < M 5 n)) (M 4) (M 5) q).2 b) := by
  have hC := s_joinBest (Z := Z) hl ad sw tl m bw (by rw [hf 1 (by decide)]; exact hN) hN16
  rw [hf 3 (by decide), hf 4 (by decide), hf 5 (by decide), hf 8 (by decide), hf 9 (by decide), hf 21 (by decide)] at hC
  have e1 : jf (pf_cj (nI N) (M 21) (m 22) (m 23)) (fun a t => if bw = 0 then pf_cc (M 3) (M 4) (M 5) (M 8) (M 9) a (-1) - pf_cc (M 3) (M 4) (M 5) (M 8) (M 9) a t else pf_wt (M 4) (M 5) (M 8) (M 9) a t) (fun n => !decide (bw = 0) || decide (M 4 n < M 5 n)) (M 4) (M 5) (0, m 20 9, m 20 10) N = jf (pf_cj (nI N) (M 21) q.1 q.2) (fun a t => if bw = 0 then pf_cc (M 3) (M 4) (M 5) (M 8) (M 9) a (-1) - pf_cc (M 3) (M 4) (M 5) (M 8) (M 9) a t else pf_wt (M 4) (M 5) (M 8) (M 9) a t) (fun n => !decide (bw = 0) || decide (M 4 n < M 5 n)) (M 4) (M 5) (0, m 20 9, m 20 10) N := jf_congr N (fun a ha t => pf_cj_congr hN16 hq ha t)
  rw [e1] at hC
  have e2 := jf_tail (cj := pf_cj (nI N) (M 21) q.1 q.2) (gn := (fun a t => if bw = 0 then pf_cc (M 3) (M 4) (M 5) (M 8) (M 9) a (-1) - pf_cc (M 3) (M 4) (M 5) (M 8) (M 9) a t else pf_wt (M 4) (M 5) (M 8) (M 9) a t)) (ld := (fun n => !decide (bw = 0) || decide (M 4 n < M 5 n))) (f := M 4) (s := M 5) (x0 := (0, m 20 9, m 20 10)) (y0 := (0, 0, 0)) rfl N
  refine hC.mono (fun r m' h => ?_)
  rcases h with ⟨g1, g2, g3⟩ | ⟨g1, g2, a, t, g3, g4, g5, g6, g7, g8, g9, g10⟩
  · rw [e2.1] at g1
    have g1' : ¬ 0 < (pj N (M 21) (fun a t => if bw = 0 then pf_cc (M 3) (M 4) (M 5) (M 8) (M 9) a (-1) - pf_cc (M 3) (M 4) (M 5) (M 8) (M 9) a t else pf_wt (M 4) (M 5) (M 8) (M 9) a t) (fun n => !decide (bw = 0) || decide (M 4 n < M 5 n)) (M 4) (M 5) q).1 := g1
    refine ⟨by rw [if_neg g1']; exact g2, ?_, ?_, ?_⟩
    · rw [g3]; exact fun k hk => by rw [m_b3_ne (fun e => hk (by rw [e]; decide))]; exact hf k hk
    · intro j j1 j2 j3
      rw [g3]
      simp only [m_b3, fx_u_at, j1, j2, j3, and_false, if_false]
      exact h20 j j1 j2 j3
    · intro b hb
      unfold pn
      rw [if_neg g1', g3, m_b3_ne (by decide), m_b3_ne (by decide)]
      exact hq b hb
  · have e3 : jf (pf_cj (nI N) (M 21) q.1 q.2) (fun a t => if bw = 0 then pf_cc (M 3) (M 4) (M 5) (M 8) (M 9) a (-1) - pf_cc (M 3) (M 4) (M 5) (M 8) (M 9) a t else pf_wt (M 4) (M 5) (M 8) (M 9) a t) (fun n => !decide (bw = 0) || decide (M 4 n < M 5 n)) (M 4) (M 5) (0, m 20 9, m 20 10) N = pj N (M 21) (fun a t => if bw = 0 then pf_cc (M 3) (M 4) (M 5) (M 8) (M 9) a (-1) - pf_cc (M 3) (M 4) (M 5) (M 8) (M 9) a t else pf_wt (M 4) (M 5) (M 8) (M 9) a t) (fun n => !decide (bw = 0) || decide (M 4 n < M 5 n)) (M 4) (M 5) q := by
      rcases e2.2 with e | ⟨e, -⟩
      · exact e
      · rw [e] at g1; exact absurd g1 (show ¬ (0 : Int32) < 0 by decide)
    rw [e3] at g1 g5 g8
    refine ⟨by rw [if_pos g1]; exact g2, ?_, ?_, ?_⟩
    · exact hf.trans g7
    · intro j j1 j2 j3
      rw [g8]
      simp only [m_b3, fx_u_at, j1, j2, j3, and_false, if_false]
      exact h20 j j1 j2 j3
    · intro b hb
      have ea : (pj N (M 21) (fun a t => if bw = 0 then pf_cc (M 3) (M 4) (M 5) (M 8) (M 9) a (-1) - pf_cc (M 3) (M 4) (M 5) (M 8) (M 9) a t else pf_wt (M 4) (M 5) (M 8) (M 9) a t) (fun n => !decide (bw = 0) || decide (M 4 n < M 5 n)) (M 4) (M 5) q).2.1.toNatClampNeg = a := by rw [g5]; exact nI_clamp (by omega)
      have et : (pj N (M 21) (fun a t => if bw = 0 then pf_cc (M 3) (M 4) (M 5) (M 8) (M 9) a (-1) - pf_cc (M 3) (M 4) (M 5) (M 8) (M 9) a t else pf_wt (M 4) (M 5) (M 8) (M 9) a t) (fun n => !decide (bw = 0) || decide (M 4 n < M 5 n)) (M 4) (M 5) q).2.2 = nI t := by rw [g5]
      unfold pn
      rw [if_pos g1, ea, et, g9, g10 b hb, (hq b hb).2, (hq a g3).2]
      refine ⟨?_, rfl⟩
      simp only [upd]
      split
      · rfl
      · exact (hq b hb).1
set_option maxRecDepth 20000 in
theorem s_joinChains {l : Launch} {Z : fx_Z} (hl : l.stackTraces = false) (ad : Nat → Nat) (sw : Bool) (tl : List fx_Sh) (M : fx_M) {N : Nat} (bw : Int32) (hN : M 1 8 = nI N) (hN16 : N ≤ 16) : CV l Z yX0_joinChains (.code yX0_joinChains cX0_joinChains 4 none) 4 [.ref (ad 20), .int bw] ad (c_C sw ++ tl) M (fun m => fr [20, 22, 23] M m ∧ (∀ j, j ≠ 8 → j ≠ 9 → j ≠ 10 → m 20 j = M 20 j) ∧ ∀ b, b < N → m 22 b = (pk N (M 21) (fun a t => if bw = 0 then pf_cc (M 3) (M 4) (M 5) (M 8) (M 9) a (-1) - pf_cc (M 3) (M 4) (M 5) (M 8) (M 9) a t else pf_wt (M 4) (M 5) (M 8) (M 9) a t) (fun n => !decide (bw = 0) || decide (M 4 n < M 5 n)) (M 4) (M 5) 16).1 b ∧ m 23 b = (pk N (M 21) (fun a t => if bw = 0 then pf_cc (M 3) (M 4) (M 5) (M 8) (M 9) a (-1) - pf_cc (M 3) (M 4) (M 5) (M 8) (M 9) a t else pf_wt (M 4) (M 5) (M 8) (M 9) a t) (fun n => !decide (bw = 0) || decide (M 4 n < M 5 n)) (M 4) (M 5) 16).2 b) := by
  refine CT_of (ret := none) (lv0 := [some (.ref (ad 20)), some (.int bw), none, none]) (by decide +kernel) hl (by simp [Value.category]) (Nat.le_of_ble_eq_true rfl) rfl ?_
  intro X F Rt _
  have lp1 : ∀ (k : Nat) (i : Nat) (M' : fx_M), k = N - i → i ≤ N → fr [22, 23] M M' → (∀ b, b < i → M' 22 b = -1 ∧ M' 23 b = nI b) → (∀ m : fx_M, fr [22, 23] M m → (∀ b, b < N → m 22 b = -1 ∧ m 23 b = nI b) → GG X ad 33 [some (.ref (ad 20)), some (.int bw), some (.int (nI N)), none] [] 0 0 (c_C sw ++ tl) m) → GG X ad 2 [some (.ref (ad 20)), some (.int bw), some (.int (nI i)), none] [] 0 0 (c_C sw ++ tl) M' := by
    intro k
    induction k using Nat.strongRecOn with
    | _ k ih =>
      intro i M' hk hi h1 h2 hex
      have hN1 : M' 1 8 = nI N := by rw [h1 1 (by decide)]; exact hN
      refine G_iload_n F dX0_joinChains_2 rfl ?_
      refine G_aload_n F dX0_joinChains_3 rfl ?_
      refine G_getr F fl_X0_31 dX0_joinChains_4 rfl rfl ?_
      refine G_geti F fl_X0_43 dX0_joinChains_7 rfl rfl ?_
      rw [hN1]
      refine G_icmp_ge (tgt := 33) F dX0_joinChains_10 (by decide) (fun h10 => ?_) (fun h10 => ?_)
      · rw [nI_leI (by omega) (by omega)] at h10
        have hiN : i = N := by omega
        subst hiN
        exact hex M' h1 h2
      · rw [nI_leI (by omega) (by omega)] at h10
        refine G_aload_n F dX0_joinChains_13 rfl ?_
        refine G_getr F fl_X0_15 dX0_joinChains_14 rfl rfl ?_
        refine G_iload_n F dX0_joinChains_17 rfl ?_
        refine G_iconst (v := -1) F dX0_joinChains_18 rfl ?_
        refine G_iastN F dX0_joinChains_19 rfl (by omega) (by decide) ?_
        refine G_aload_n F dX0_joinChains_20 rfl ?_
        refine G_getr F fl_X0_19 dX0_joinChains_21 rfl rfl ?_
        refine G_iload_n F dX0_joinChains_24 rfl ?_
        refine G_iload_n F dX0_joinChains_25 rfl ?_
        refine G_iastN F dX0_joinChains_26 rfl (by omega) (by decide) ?_
        refine G_iinc F (1) dX0_joinChains_27 rfl rfl rfl rfl ?_
        simp only [List.set_cons_zero, List.set_cons_succ, nI_1]
        refine G_goto (tgt := 2) F dX0_joinChains_30 (by decide) ?_
        exact ih (N - (i + 1)) (by omega) (i + 1) _ rfl (by omega) ((h1.u (by decide)).u (by decide)) (fun b hb => by
          by_cases e : b = i
          · subst e; simp [fx_u_at]
          · have := h2 b (by omega); simp [fx_u_at, e, this]) hex
  have lp2 : ∀ (k : Nat) (r : Nat) (M' : fx_M) (z : Int32), k = 16 - r → r ≤ 16 → fr [20, 22, 23] M M' → (∀ j, j ≠ 8 → j ≠ 9 → j ≠ 10 → M' 20 j = M 20 j) → (∀ b, b < N → M' 22 b = (pk N (M 21) (fun a t => if bw = 0 then pf_cc (M 3) (M 4) (M 5) (M 8) (M 9) a (-1) - pf_cc (M 3) (M 4) (M 5) (M 8) (M 9) a t else pf_wt (M 4) (M 5) (M 8) (M 9) a t) (fun n => !decide (bw = 0) || decide (M 4 n < M 5 n)) (M 4) (M 5) r).1 b ∧ M' 23 b = (pk N (M 21) (fun a t => if bw = 0 then pf_cc (M 3) (M 4) (M 5) (M 8) (M 9) a (-1) - pf_cc (M 3) (M 4) (M 5) (M 8) (M 9) a t else pf_wt (M 4) (M 5) (M 8) (M 9) a t) (fun n => !decide (bw = 0) || decide (M 4 n < M 5 n)) (M 4) (M 5) r).2 b) → (z = 0 → ∀ j, r ≤ j → pk N (M 21) (fun a t => if bw = 0 then pf_cc (M 3) (M 4) (M 5) (M 8) (M 9) a (-1) - pf_cc (M 3) (M 4) (M 5) (M 8) (M 9) a t else pf_wt (M 4) (M 5) (M 8) (M 9) a t) (fun n => !decide (bw = 0) || decide (M 4 n < M 5 n)) (M 4) (M 5) j = pk N (M 21) (fun a t => if bw = 0 then pf_cc (M 3) (M 4) (M 5) (M 8) (M 9) a (-1) - pf_cc (M 3) (M 4) (M 5) (M 8) (M 9) a t else pf_wt (M 4) (M 5) (M 8) (M 9) a t) (fun n => !decide (bw = 0) || decide (M 4 n < M 5 n)) (M 4) (M 5) r) → GG X ad 37 [some (.ref (ad 20)), some (.int bw), some (.int z), some (.int (nI r))] [] 0 0 (c_C sw ++ tl) M' := by
    intro k
    induction k using Nat.strongRecOn with
    | _ k ih =>
      intro r M' z hk hi g1 g2 g3 g4
      refine G_iload_n F dX0_joinChains_37 rfl ?_
      refine G_bipush (v := nI 16) F dX0_joinChains_38 (by decide) ?_
      refine G_icmp_ge (tgt := 59) F dX0_joinChains_40 (by decide) (fun h40 => ?_) (fun h40 => ?_)
      · rw [nI_leI (by omega) (by omega)] at h40
        have hr : r = 16 := by omega
        subst hr
        refine G_vret F Rt dX0_joinChains_59 ⟨rfl, rfl, rfl, ?_⟩ (Nat.le_refl _) (Nat.le_refl _)
        exact ⟨g1, g2, g3⟩
      · rw [nI_leI (by omega) (by omega)] at h40
        refine G_iload_n F dX0_joinChains_43 rfl ?_
        refine G_if_eq (tgt := 59) F dX0_joinChains_44 (by decide) (fun h44 => ?_) (fun h44 => ?_)
        · have e16 := g4 h44 16 (by omega)
          refine G_vret F Rt dX0_joinChains_59 ⟨rfl, rfl, rfl, ?_⟩ (Nat.le_refl _) (Nat.le_refl _)
          exact ⟨g1, g2, by rw [e16]; exact g3⟩
        · refine G_aload_n F dX0_joinChains_47 rfl ?_
          refine G_iload_n F dX0_joinChains_48 rfl ?_
          refine G_vI F mv_X0_77 dX0_joinChains_49 (s_joinBestP hl ad sw tl M M' bw (pk N (M 21) (fun a t => if bw = 0 then pf_cc (M 3) (M 4) (M 5) (M 8) (M 9) a (-1) - pf_cc (M 3) (M 4) (M 5) (M 8) (M 9) a t else pf_wt (M 4) (M 5) (M 8) (M 9) a t) (fun n => !decide (bw = 0) || decide (M 4 n < M 5 n)) (M 4) (M 5) r) hN hN16 g1 g2 g3) rfl rfl rfl rfl (Nat.le_of_ble_eq_true rfl) ⟨Nat.le_of_ble_eq_true rfl, Nat.le_of_ble_eq_true rfl, Nat.le_of_ble_eq_true rfl, Nat.le_of_ble_eq_true rfl⟩ (fun r49 M49 h49 => ?_)
          obtain ⟨k1, k2, k3, k4⟩ := h49
          rw [k1]
          refine G_istore_n F 2 dX0_joinChains_52 rfl rfl rfl (Nat.le_of_ble_eq_true rfl) ?_
          simp only [List.set_cons_zero, List.set_cons_succ]
          refine G_iinc F (1) dX0_joinChains_53 rfl rfl rfl rfl ?_
          simp only [List.set_cons_zero, List.set_cons_succ, nI_1]
          refine G_goto (tgt := 37) F dX0_joinChains_56 (by decide) ?_
          exact ih (16 - (r + 1)) (by omega) (r + 1) _ _ rfl (by omega) k2 k3 k4 (fun hz => by
            by_cases hp : 0 < (pj N (M 21) (fun a t => if bw = 0 then pf_cc (M 3) (M 4) (M 5) (M 8) (M 9) a (-1) - pf_cc (M 3) (M 4) (M 5) (M 8) (M 9) a t else pf_wt (M 4) (M 5) (M 8) (M 9) a t) (fun n => !decide (bw = 0) || decide (M 4 n < M 5 n)) (M 4) (M 5) (pk N (M 21) (fun a t => if bw = 0 then pf_cc (M 3) (M 4) (M 5) (M 8) (M 9) a (-1) - pf_cc (M 3) (M 4) (M 5) (M 8) (M 9) a t else pf_wt (M 4) (M 5) (M 8) (M 9) a t) (fun n => !decide (bw = 0) || decide (M 4 n < M 5 n)) (M 4) (M 5) r)).1
            · rw [if_pos hp] at hz; exact absurd hz (by decide)
            · intro j hj
              have e1 := pk_fix hp (j - r)
              have e2 := pk_fix hp 1
              rw [show r + (j - r) = j from by omega] at e1
              rw [e1, e2])
  refine G_iconst (v := 0) F dX0_joinChains_0 rfl ?_
  refine G_istore_n F 2 dX0_joinChains_1 rfl rfl rfl (Nat.le_of_ble_eq_true rfl) ?_
  simp only [List.set_cons_zero, List.set_cons_succ]
  refine lp1 N 0 M rfl (by omega) fr.rfl (fun b hb => absurd hb (by omega)) (fun m hm1 hm2 => ?_)
  refine G_iconst (v := 1) F dX0_joinChains_33 rfl ?_
  refine G_istore_n F 2 dX0_joinChains_34 rfl rfl rfl (Nat.le_of_ble_eq_true rfl) ?_
  simp only [List.set_cons_zero, List.set_cons_succ]
  refine G_iconst (v := 0) F dX0_joinChains_35 rfl ?_
  refine G_istore_n F 3 dX0_joinChains_36 rfl rfl rfl (Nat.le_of_ble_eq_true rfl) ?_
  simp only [List.set_cons_zero, List.set_cons_succ]
  exact lp2 16 0 m 1 rfl (by omega) (hm1.mono (by decide)) (fun j _ _ _ => by rw [hm1 20 (by decide)]) hm2 (fun q => absurd q (by decide))
/-- the k-th cold block and so on: the row of cold blocks behind the hot ones -/
def pcd (ho : Nat → Bool) (h : Nat) (r : Nat → Int32) : Nat → Nat → Int32
  | 0 => r
  | n + 1 => if ho n then pcd ho h r n else upd (pcd ho h r n) (h + (n - hcn ho n)) (nI n)
theorem hcn_mono {ho : Nat → Bool} {a b : Nat} (h : a ≤ b) : hcn ho a ≤ hcn ho b := by
  induction h with
  | refl => exact Nat.le_refl _
  | step _ ih => simp only [hcn]; omega
theorem hcn_gap {ho : Nat → Bool} {a b : Nat} (h : a ≤ b) : hcn ho b - hcn ho a ≤ b - a := by
  induction h with
  | refl => omega
  | step h ih =>
    have h1 := hcn_mono (ho := ho) h
    have h2 : a ≤ _ := h
    simp only [hcn]
    split <;> omega
set_option maxRecDepth 20000 in
theorem s_placeCold {l : Launch} {Z : fx_Z} (hl : l.stackTraces = false) (ad : Nat → Nat) (sw : Bool) (tl : List fx_Sh) (M : fx_M) {N : Nat} (ho : Nat → Bool) (hN : M 1 8 = nI N) (hN16 : N ≤ 16) (hh : M 20 3 = nI (hcn ho N)) (hho : ∀ b, b < N → M 21 b = (if ho b then 1 else 0)) : CV l Z yX0_placeCold (.code yX0_placeCold cX0_placeCold 3 none) 0 [.ref (ad 20)] ad (c_C sw ++ tl) M (fun m => fr [11] M m ∧ m 11 = pcd ho (hcn ho N) (M 11) N) := by
  refine CT_of (ret := none) (lv0 := [some (.ref (ad 20)), none, none]) (by decide +kernel) hl (by simp [Value.category]) (Nat.le_of_ble_eq_true rfl) rfl ?_
  intro X F Rt _
  have hle0 := hcn_le (ho := ho) N
  have lp : ∀ (k : Nat) (i : Nat) (M' : fx_M), k = N - i → i ≤ N → fr [11] M M' → M' 11 = pcd ho (hcn ho N) (M 11) i → GG X ad 7 [some (.ref (ad 20)), some (.int (nI (hcn ho N + (i - hcn ho i)))), some (.int (nI i))] [] 0 0 (c_C sw ++ tl) M' := by
    intro k
    induction k using Nat.strongRecOn with
    | _ k ih =>
      intro i M' hk hi h1 h2
      have hN1 : M' 1 8 = nI N := by rw [h1 1 (by decide)]; exact hN
      refine G_iload_n F dX0_placeCold_7 rfl ?_
      refine G_aload_n F dX0_placeCold_8 rfl ?_
      refine G_getr F fl_X0_31 dX0_placeCold_9 rfl rfl ?_
      refine G_geti F fl_X0_43 dX0_placeCold_12 rfl rfl ?_
      rw [hN1]
      refine G_icmp_ge (tgt := 52) F dX0_placeCold_15 (by decide) (fun h15 => ?_) (fun h15 => ?_)
      · rw [nI_leI (by omega) (by omega)] at h15
        have hiN : i = N := by omega
        subst hiN
        refine G_vret F Rt dX0_placeCold_52 ⟨rfl, rfl, rfl, ?_⟩ (Nat.le_refl _) (Nat.le_refl _)
        exact ⟨h1, h2⟩
      · rw [nI_leI (by omega) (by omega)] at h15
        have hle := hcn_le (ho := ho) i
        refine G_aload_n F dX0_placeCold_18 rfl ?_
        refine G_getr F fl_X0_9 dX0_placeCold_19 rfl rfl ?_
        refine G_iload_n F dX0_placeCold_22 rfl ?_
        refine G_zaldN F dX0_placeCold_23 rfl (by omega) (by decide) ?_
        rw [h1 21 (by decide), hho i (by omega)]
        refine G_if_ne (tgt := 46) F dX0_placeCold_24 (by decide) (fun h24 => ?_) (fun h24 => ?_)
        · have hb24 : ho i = true := by simpa using h24
          refine G_iinc F (1) dX0_placeCold_46 rfl rfl rfl rfl ?_
          simp only [List.set_cons_zero, List.set_cons_succ, nI_1]
          refine G_goto (tgt := 7) F dX0_placeCold_49 (by decide) ?_
          have hgo := ih (N - (i + 1)) (by omega) (i + 1) M' rfl (by omega) h1 (by simp only [pcd, hb24, if_true]; exact h2)
          have e : hcn ho (i + 1) = hcn ho i + 1 := by simp [hcn, hb24]
          rw [e, show i + 1 - (hcn ho i + 1) = i - hcn ho i from by omega] at hgo
          exact hgo
        · have hb24 : ho i = false := by simpa using h24
          have hcn1 : hcn ho N ≥ hcn ho (i + 1) := hcn_mono (by omega)
          have hcn2 : hcn ho N - hcn ho (i + 1) ≤ N - (i + 1) := hcn_gap (by omega)
          have hcn3 : hcn ho (i + 1) = hcn ho i := by simp [hcn, hb24]
          refine G_iload_n F dX0_placeCold_27 rfl ?_
          refine G_bipush (v := nI 16) F dX0_placeCold_28 (by decide) ?_
          refine G_icmp_ge (tgt := 46) F dX0_placeCold_30 (by decide) (fun h30 => ?_) (fun h30 => ?_)
          · rw [nI_leI (by omega) (by omega)] at h30
            exact absurd h30 (by omega) --stop
          · rw [nI_leI (by omega) (by omega)] at h30
            refine G_aload_n F dX0_placeCold_33 rfl ?_
            refine G_getr F fl_X0_35 dX0_placeCold_34 rfl rfl ?_
            refine G_getr F fl_X0_74 dX0_placeCold_37 rfl rfl ?_
            refine G_iload_n F dX0_placeCold_40 rfl ?_
            refine G_iload_n F dX0_placeCold_41 rfl ?_
            refine G_iastN F dX0_placeCold_42 rfl (by omega) (by decide) ?_
            refine G_iinc F (1) dX0_placeCold_43 rfl rfl rfl rfl ?_
            simp only [List.set_cons_zero, List.set_cons_succ, nI_1]
            refine G_iinc F (1) dX0_placeCold_46 rfl rfl rfl rfl ?_
            simp only [List.set_cons_zero, List.set_cons_succ, nI_1]
            refine G_goto (tgt := 7) F dX0_placeCold_49 (by decide) ?_
            have hgo := ih (N - (i + 1)) (by omega) (i + 1) (fx_u M' 11 (hcn ho N + (i - hcn ho i)) (nI i)) rfl (by omega) (h1.u (by decide)) (by rw [fx_u_eq, h2]; simp only [pcd, hb24, Bool.false_eq_true, if_false])
            rw [hcn3, show hcn ho N + (i + 1 - hcn ho i) = hcn ho N + (i - hcn ho i) + 1 from by omega] at hgo
            exact hgo
  refine G_aload_n F dX0_placeCold_0 rfl ?_
  refine G_geti F fl_X0_39 dX0_placeCold_1 rfl rfl ?_
  rw [hh]
  refine G_istore_n F 1 dX0_placeCold_4 rfl rfl rfl (Nat.le_of_ble_eq_true rfl) ?_
  simp only [List.set_cons_zero, List.set_cons_succ]
  refine G_iconst (v := 0) F dX0_placeCold_5 rfl ?_
  refine G_istore_n F 2 dX0_placeCold_6 rfl rfl rfl (Nat.le_of_ble_eq_true rfl) ?_
  simp only [List.set_cons_zero, List.set_cons_succ]
  exact lp N 0 M rfl (by omega) fr.rfl rfl
