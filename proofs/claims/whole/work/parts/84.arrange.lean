/-! ARRANGE: what both sides have in common; of the reference -/
theorem plr_congr {N : Nat} {bh bh' : Nat → Int32} (hN : N ≤ 16) (hb : ∀ b, b < N → bh b = bh' b ∧ (bh b = -1 ∨ ∃ x, x < N ∧ bh b = nI x)) : ∀ (k : Nat) (c : Int32) (q : (Nat → Int32) × Nat), (c = -1 ∨ ∃ x, x < N ∧ c = nI x) → plr bh k c q = plr bh' k c q := by
  intro k
  induction k with
  | zero => intro c q _; rfl
  | succ k ih =>
    intro c q hc
    simp only [plr]
    by_cases e : c = -1
    · rw [if_pos e, if_pos e]
    · rw [if_neg e, if_neg e]
      obtain ⟨x, x1, x2⟩ := hc.resolve_left e
      rw [x2, nI_clamp (by omega), ← (hb x x1).1]
      exact ih _ _ (hb x x1).2
theorem put1_congr {N : Nat} {fo fo' : Nat → Nat} (hN : N ≤ 16) (h : ∀ b, b < N → fo b = fo' b) {c : Nat} {t w : Int32} : put1 N fo c t w = put1 N fo' c t w := by
  unfold put1
  cases e : pin N t
  · simp
  · obtain ⟨x, x1, x2⟩ := pin_spec hN e
    rw [x2, nI_clamp (by omega), h x x1]
theorem pul_congr {N : Nat} {fo fo' : Nat → Nat} {f s w1 w2 : Nat → Int32} {pl pl' : Nat → Bool} (hN : N ≤ 16) (h : ∀ b, b < N → fo b = fo' b) (hp : ∀ x, x < N → pl x = pl' x) {c : Nat} : pul N fo f s w1 w2 pl c = pul N fo' f s w1 w2 pl' c := by
  unfold pul
  refine sm_congr (fun a ha => ?_)
  rw [hp a ha, put1_congr hN h, put1_congr (t := s a) hN h]
theorem pch_congr {N : Nat} {ho : Nat → Bool} {fo fo' : Nat → Nat} {bh bh' f s w1 w2 r0 : Nat → Int32} (hN : N ≤ 16) (h0 : 0 < N) (hfo : ∀ b, b < N → fo b = fo' b) (hbh : ∀ b, b < N → bh b = bh' b ∧ (bh b = -1 ∨ ∃ x, x < N ∧ bh b = nI x)) : ∀ k, (∀ x, x < N → (pch N ho fo bh f s w1 w2 r0 k).1 x = (pch N ho fo' bh' f s w1 w2 r0 k).1 x) ∧ (pch N ho fo bh f s w1 w2 r0 k).2 = (pch N ho fo' bh' f s w1 w2 r0 k).2 := by
  intro k
  induction k with
  | zero =>
    refine ⟨fun x hx => ?_, ?_⟩
    · simp only [pch]; rw [hfo x hx]
    · simp only [pch]; rw [plr_congr hN hbh 17 _ _ (Or.inr ⟨0, h0, rfl⟩)]
  | succ k ih =>
    obtain ⟨ih1, ih2⟩ := ih
    have e1 : hcn (pch N ho fo bh f s w1 w2 r0 k).1 N = hcn (pch N ho fo' bh' f s w1 w2 r0 k).1 N := hcn_congr ih1
    have e2 : psg N ho fo f s w1 w2 (pch N ho fo bh f s w1 w2 r0 k).1 = psg N ho fo' f s w1 w2 (pch N ho fo' bh' f s w1 w2 r0 k).1 := by
      unfold psg
      refine sgc_congr hN (fun b hb => ⟨?_, pul_congr hN hfo ih1⟩)
      unfold pcc
      rw [hfo b hb, ih1 b hb]
    have e3 : psg N ho fo' f s w1 w2 (pch N ho fo' bh' f s w1 w2 r0 k).1 = -1 ∨ ∃ x, x < N ∧ psg N ho fo' f s w1 w2 (pch N ho fo' bh' f s w1 w2 r0 k).1 = nI x := by
      rcases sgc_in (cd := pcc ho fo' (pch N ho fo' bh' f s w1 w2 r0 k).1) (pu := pul N fo' f s w1 w2 (pch N ho fo' bh' f s w1 w2 r0 k).1) N with z | ⟨x, x1, x2, -⟩
      · exact Or.inl z
      · exact Or.inr ⟨x, x1, x2⟩
    by_cases h : hcn (pch N ho fo' bh' f s w1 w2 r0 k).1 N < hcn ho N
    · have h' : hcn (pch N ho fo bh f s w1 w2 r0 k).1 N < hcn ho N := by rw [e1]; exact h
      simp only [pch, if_pos h, if_pos h']
      rw [e1, e2]
      refine ⟨fun x hx => ?_, ?_⟩
      · rw [ih1 x hx, hfo x hx]
      · rw [ih2, plr_congr hN hbh 17 _ _ e3]
    · have h' : ¬ hcn (pch N ho fo bh f s w1 w2 r0 k).1 N < hcn ho N := by rw [e1]; exact h
      simp only [pch, if_neg h, if_neg h']
      exact ⟨ih1, ih2⟩
theorem mkp_one {N : Nat} {ho : Nat → Bool} {kd f s w1 w2 r0 : Nat → Int32} {mt : Int32} {r r' : Nat → Int32} (hN : N ≤ 16) (h0 : 0 < N) (h : mkp N ho kd f s w1 w2 r0 mt r) (h' : mkp N ho kd f s w1 w2 r0 mt r') : r = r' := by
  unfold mkp at h h'
  by_cases e : mt = 2
  · rw [if_pos e] at h h'; rw [h, h']
  · rw [if_neg e] at h h'
    obtain ⟨bh, fo, rk, a1, a2, a3, a4, a5⟩ := h
    obtain ⟨bh', fo', rk', b1, b2, b3, b4, b5⟩ := h'
    rw [a5, b5]
    refine (pch_congr hN h0 (fun b hb => ?_) (fun b hb => ⟨by rw [a1 b hb, b1 b hb], ?_⟩) 16).2
    · exact (nI_eq (by have := (a2 b hb).2; omega) (by have := (b2 b hb).2; omega)).mp ((a2 b hb).1.symm.trans (b2 b hb).1)
    · rcases a3.2.1 b hb with z | ⟨x, x1, x2, -⟩
      · exact Or.inl z
      · exact Or.inr ⟨x, x1, x2⟩
/-- weights are small -/
def wbd (w1 w2 : Nat → Int32) : Prop := ∀ b, b < 16 → (∃ n, n ≤ 300000 ∧ w1 b = nI n) ∧ ∃ n, n ≤ 300000 ∧ w2 b = nI n
theorem pf_ed_nat (kd : Nat → Int32) (b : Nat) (t x : Int32) : ∃ n, n ≤ 3 ∧ pf_ed kd b t x = nI n := by
  unfold pf_ed
  by_cases h1 : kd b = 0
  · rw [if_pos h1]
    by_cases h2 : t = x
    · exact ⟨0, by omega, by rw [if_pos h2]; rfl⟩
    · exact ⟨2, by omega, by rw [if_neg h2]; rfl⟩
  · rw [if_neg h1]
    by_cases h2 : t = x
    · exact ⟨1, by omega, by rw [if_pos h2]; rfl⟩
    · exact ⟨3, by omega, by rw [if_neg h2]; rfl⟩
theorem cc_nat {kd f s w1 w2 : Nat → Int32} (hw : wbd w1 w2) {N : Nat} (hN : N ≤ 16) : ∀ (a : Nat) (x : Int32), a < N → pf_cc kd f s w1 w2 a x = nI (pf_cc kd f s w1 w2 a x).toNatClampNeg ∧ (pf_cc kd f s w1 w2 a x).toNatClampNeg ≤ 67108864 := by
  intro a x ha
  obtain ⟨⟨n1, m1, e1⟩, n2, m2, e2⟩ := hw a (by omega)
  obtain ⟨c1, d1, g1⟩ := pf_ed_nat kd a (f a) x
  obtain ⟨c2, d2, g2⟩ := pf_ed_nat kd a (s a) x
  have h1 : n1 * c1 ≤ 300000 * 3 := Nat.mul_le_mul m1 d1
  have h2 : n2 * c2 ≤ 300000 * 3 := Nat.mul_le_mul m2 d2
  have e : pf_cc kd f s w1 w2 a x = nI (n1 * c1 + n2 * c2) := by
    unfold pf_cc
    rw [e1, e2, g1, g2, nI_mul, nI_mul, nI_add]
  rw [e, nI_clamp (by omega)]
  exact ⟨rfl, by omega⟩
theorem put1_nat {N : Nat} {fo : Nat → Nat} {c : Nat} {t w : Int32} (hw : ∃ n, n ≤ 300000 ∧ w = nI n) : ∃ n, n ≤ 300000 ∧ put1 N fo c t w = nI n := by
  unfold put1
  by_cases h : (pin N t && decide (fo t.toNatClampNeg = c)) = true
  · rw [if_pos h]; exact hw
  · rw [if_neg h]; exact ⟨0, by omega, rfl⟩
theorem pul_nn {N : Nat} {fo : Nat → Nat} {f s w1 w2 : Nat → Int32} (hw : wbd w1 w2) (hN : N ≤ 16) (pl : Nat → Bool) (c : Nat) : 0 ≤ pul N fo f s w1 w2 pl c := by
  have h : ∀ a, a < N → ∃ n, n ≤ 600000 ∧ (if pl a then put1 N fo c (f a) (w1 a) + put1 N fo c (s a) (w2 a) else 0) = nI n := fun a ha => by
    obtain ⟨n1, m1, e1⟩ := put1_nat (N := N) (fo := fo) (c := c) (t := f a) (hw a (by omega)).1
    obtain ⟨n2, m2, e2⟩ := put1_nat (N := N) (fo := fo) (c := c) (t := s a) (hw a (by omega)).2
    by_cases e : pl a = true
    · exact ⟨n1 + n2, by omega, by rw [if_pos e, e1, e2, nI_add]⟩
    · exact ⟨0, by omega, by rw [if_neg e]; rfl⟩
  have h2 : pul N fo f s w1 w2 pl c = nI (nsm (fun a => (if pl a then put1 N fo c (f a) (w1 a) + put1 N fo c (s a) (w2 a) else 0).toNatClampNeg) N) := by
    rw [← sm_nsm]
    unfold pul
    refine sm_congr (fun a ha => ?_)
    obtain ⟨n, n1, n2⟩ := h a ha
    rw [n2, nI_clamp (by omega)]
  have h3 := nsm_le (g := fun a => (if pl a then put1 N fo c (f a) (w1 a) + put1 N fo c (s a) (w2 a) else 0).toNatClampNeg) (B := 600000) N (fun a ha => by
    obtain ⟨n, n1, n2⟩ := h a ha
    show (if pl a then put1 N fo c (f a) (w1 a) + put1 N fo c (s a) (w2 a) else 0).toNatClampNeg ≤ 600000
    rw [n2, nI_clamp (by omega)]; exact n1)
  have h4 : 600000 * N ≤ 600000 * 16 := Nat.mul_le_mul_left _ hN
  rw [h2]
  exact nI_pos' (by omega)
theorem asc_ex {N : Nat} {ho : Nat → Bool} (h0 : 0 < N) (ho0 : ho 0 = true) : ∃ P, isO N (hcn ho N) ho P := by
  refine ⟨fun j => if h : ∃ x, x < N ∧ ho x = true ∧ hcn ho x = j then Classical.choose h else 0, (asc_isO h0 ho0 (fun x hx hq => ?_)).1⟩
  have hex : ∃ y, y < N ∧ ho y = true ∧ hcn ho y = hcn ho x := ⟨x, hx, hq, rfl⟩
  show (if h : ∃ y, y < N ∧ ho y = true ∧ hcn ho y = hcn ho x then Classical.choose h else 0) = x
  rw [dif_pos hex]
  obtain ⟨c1, c2, c3⟩ := Classical.choose_spec hex
  rcases Nat.lt_trichotomy (Classical.choose hex) x with z | z | z
  · have := hcn_slt (ho := ho) z c2; omega
  · exact z
  · have := hcn_slt (ho := ho) z hq; omega
/-- what the search finds is the best order -/
theorem sr_opt {N : Nat} {ho : Nat → Bool} {cs : Nat → Int32 → Int32} {cn : Nat → Int32 → Nat} {r0 : Nat → Int32} (hN : N ≤ 16) (h0 : 0 < N) (ho0 : ho 0 = true) (hH : hcn ho N ≤ 7) (hcs : ∀ a x, a < N → cs a x = nI (cn a x) ∧ cn a x ≤ 67108864) : ∃ Q, opt N ho cn Q ∧ (sr N (hcn ho N) ho cs 6 1 (fun _ => 0) 1 0 (2147483647, r0)).2 = fun j => if j < hcn ho N then nI (Q j) else r0 j := by
  have hH1 : 1 ≤ hcn ho N := by have := hcn_slt (ho := ho) h0 ho0; omega
  have hb := sr_bst hN hH hcs 6 1 (fun _ => 0) 1 0 (2147483647, r0) 2147483647 rfl (Nat.le_refl 1) hH1 rfl (fun j _ => ⟨h0, ho0⟩) (fun i j hi hj _ => by omega) (fun b hb => by
    rw [bt_one (by omega), decide_eq_true_eq]
    exact ⟨fun z => ⟨0, by omega, z.symm⟩, fun ⟨_, _, z⟩ => z.symm⟩) rfl (by omega) rfl
  have hS : ∀ Q, cmp N ho 1 (fun _ => 0) Q ↔ isO N (hcn ho N) ho Q := fun Q => ⟨fun z => z.1, fun z => ⟨z, fun j hj => by rw [show j = 0 from by omega]; exact z.1⟩⟩
  obtain ⟨v, v1, v2, hb⟩ := hb
  have hv : v = 2147483647 := (nI_eq v1 (by omega)).mp (v2.symm.trans rfl)
  rcases hb with ⟨e, a⟩ | ⟨Q, q1, q2, q3, q4, q5⟩
  · obtain ⟨P, hP⟩ := asc_ex h0 ho0
    have h1 := a P ((hS P).mpr hP)
    have h2 := tN_bd hcs hH1 hH (fun j hj => (hP.2.1 j hj).1)
    omega
  · exact ⟨Q, ⟨(hS Q).mp q1, fun Q' z => q4 Q' ((hS Q').mpr z), fun Q' z => q5 Q' ((hS Q').mpr z)⟩, by rw [q3]⟩
theorem opt_enm {N : Nat} {ho : Nat → Bool} {Q : Nat → Nat} {r0 : Nat → Int32} (h : isO N (hcn ho N) ho Q) : enm N (hcn ho N) (fun j => if j < hcn ho N then nI (Q j) else r0 j) ho := by
  refine ⟨Q, fun x => if h : ∃ j, j < hcn ho N ∧ Q j = x then Classical.choose h else 0, fun k hk => ⟨if_pos hk, (h.2.1 k hk).1, (h.2.1 k hk).2, ?_⟩, fun x hx hq => ?_⟩
  · have hex : ∃ j, j < hcn ho N ∧ Q j = Q k := ⟨k, hk, rfl⟩
    show (if h : ∃ j, j < hcn ho N ∧ Q j = Q k then Classical.choose h else 0) = k
    rw [dif_pos hex]
    exact h.2.2 _ _ (Classical.choose_spec hex).1 hk (Classical.choose_spec hex).2
  · have hex := isO_sur h hx hq
    show (if h : ∃ j, j < hcn ho N ∧ Q j = x then Classical.choose h else 0) < hcn ho N ∧ Q (if h : ∃ j, j < hcn ho N ∧ Q j = x then Classical.choose h else 0) = x
    rw [dif_pos hex]
    exact Classical.choose_spec hex
/-- rows of all blocks are orders -/
theorem mkp_pm {N : Nat} {ho : Nat → Bool} {kd f s w1 w2 r0 : Nat → Int32} {mt : Int32} {r : Nat → Int32} (hN : N ≤ 16) (h0 : 0 < N) (ho0 : ho 0 = true) (hw : wbd w1 w2) (hno : ¬ (mt = 2 ∧ 7 < hcn ho N)) (h : mkp N ho kd f s w1 w2 r0 mt r) : ∃ rw pos : Nat → Nat, pm N rw pos ∧ ∀ j, j < N → pcd ho (hcn ho N) r N j = nI (rw j) := by
  refine enm_pm ?_
  unfold mkp at h
  by_cases e : mt = 2
  · rw [if_pos e] at h
    obtain ⟨Q, q1, q2⟩ := sr_opt (r0 := r0) hN h0 ho0 (by apply Classical.byContradiction; intro z; exact hno ⟨e, by omega⟩) (cc_nat (kd := kd) (f := f) (s := s) hw hN)
    rw [h, q2]
    exact opt_enm q1.1
  · rw [if_neg e] at h
    obtain ⟨bh, fo, rk, a1, a2, a3, a4, a5⟩ := h
    have h1 := pch_enm (f := f) (s := s) (w1 := w1) (w2 := w2) (r0 := r0) hN h0 a3 ho0 a4 16
    have h2 := pch_full (f := f) (s := s) (w1 := w1) (w2 := w2) (r0 := r0) hN h0 a3 ho0 a4
    rw [h2.2] at h1
    rw [a5]
    exact enm_congr h1 h2.1
/-- what the reference keeps of a layout -/
def v_kr (u : Nat) (M m : fx_M) : Prop := m 37 27 = nI (min (u + 1) 10) ∧
  (∀ p, m 56 p = if 16 * (u - (if u = 10 then 1 else 0)) ≤ p ∧ p < 16 * (u - (if u = 10 then 1 else 0)) + 16 then M 46 (p - 16 * (u - (if u = 10 then 1 else 0))) else if u = 10 ∧ p < 144 then M 56 (p + 16) else M 56 p) ∧
  (∀ v, m 57 v = if v = u - (if u = 10 then 1 else 0) then M 37 3 else if u = 10 ∧ v < 9 then M 57 (v + 1) else M 57 v) ∧
  (∀ v, m 58 v = if v = u - (if u = 10 then 1 else 0) then M 37 1 else if u = 10 ∧ v < 9 then M 58 (v + 1) else M 58 v)
theorem v_kr_of {u : Nat} {M M2 m m' : fx_M} (h : v_kr u M2 m) (e46 : M2 46 = M 46) (e56 : M2 56 = M 56) (e57 : M2 57 = M 57) (e58 : M2 58 = M 58) (e3 : M2 37 3 = M 37 3) (e1 : M2 37 1 = M 37 1) (f27 : m' 37 27 = m 37 27) (f56 : m' 56 = m 56) (f57 : m' 57 = m 57) (f58 : m' 58 = m 58) : v_kr u M m' := by
  unfold v_kr at h ⊢
  rw [f27, f56, f57, f58, ← e46, ← e56, ← e57, ← e58, ← e3, ← e1]
  exact h
set_option maxRecDepth 20000 in
theorem s_arrange2 {l : Launch} {Z : fx_Z} (hl : l.stackTraces = false) (ad : Nat → Nat) (sw : Bool) (tl : List fx_Sh) (M : fx_M) {N : Nat} (mt cold : Int32) (hN : M 1 8 = nI N) (hN16 : N ≤ 16) {sl kp : Nat} (hsl : M 31 3 = nI sl) (hsl10 : sl < 10) (hkp0 : M 31 4 = nI kp) (hkp10 : kp ≤ 10) (h0 : 0 < N) (hperm : ¬ (mt = 2 ∧ 7 < hcn (hob (M 7) cold) N) → ∀ r, mkp N (hob (M 7) cold) (M 3) (M 4) (M 5) (M 8) (M 9) (M 11) mt r → ∃ rw pos : Nat → Nat, pm N rw pos ∧ ∀ j, j < N → pcd (hob (M 7) cold) (hcn (hob (M 7) cold) N) r N j = nI (rw j)) : CA l Z yX7_arrange (.code yX7_arrange cX7_arrange 3 (some .int)) 10 [.ref (ad 0), .int mt, .int cold] ad (c_C sw ++ tl) M (fun r m => (0 ≤ mt ∧ mt ≤ 2 ∧ -1 ≤ cold ∧ cold ≤ 9999) ∧ ¬ (mt = 2 ∧ 7 < hcn (hob (M 7) cold) N) ∧ fr [10, 11, 13, 14, 15, 16, 17, 20, 21, 22, 23, 24, 25, 26, 31, 32, 33, 34] M m ∧ rmh sl kp M m ∧ m 10 = upd (M 10) 1 (nI (hcn (hob (M 7) cold) N)) ∧ (∃ r0, mkp N (hob (M 7) cold) (M 3) (M 4) (M 5) (M 8) (M 9) (M 11) mt r0 ∧ m 11 = pcd (hob (M 7) cold) (hcn (hob (M 7) cold) N) r0 N) ∧ ∃ rw pos, pm N rw pos ∧ (∀ j, j < N → m 11 j = nI (rw j)) ∧ r = sm (fun b => if nI (pos b) < nI (hcn (hob (M 7) cold) N) then pf_cc (M 3) (M 4) (M 5) (M 8) (M 9) b (l_nx N (hcn (hob (M 7) cold) N) rw pos b) else 0) N) (fun E m => (E = xIA ∧ m = M ∧ ¬ (0 ≤ mt ∧ mt ≤ 2 ∧ -1 ≤ cold ∧ cold ≤ 9999)) ∨ (E = xUO ∧ (0 ≤ mt ∧ mt ≤ 2 ∧ -1 ≤ cold ∧ cold ≤ 9999) ∧ mt = 2 ∧ 7 < hcn (hob (M 7) cold) N ∧ fr [20, 21] M m)) := by
  refine CT_of (ret := (some .int)) (lv0 := [some (.ref (ad 0)), some (.int mt), some (.int cold)]) (by decide +kernel) hl (by simp [Value.category]) (Nat.le_of_ble_eq_true rfl) rfl ?_
  intro X F Rt _
  refine G_iload_n F dX7_arrange_0 rfl ?_
  refine G_if_lt (tgt := 9) F dX7_arrange_1 (by decide) (fun h1 => ?_) (fun h1 => ?_)
  · refine G_throwS F Rt (cls := "java/lang/IllegalArgumentException") (text := "there is no such method") nmsR dX7_arrange_9 dX7_arrange_12 dX7_arrange_13 dX7_arrange_15 dX7_arrange_18 fit_IAE nmsR_fit (fx_in 585 (by decide +kernel) rfl) (fx_in 137 (by decide +kernel) rfl) (List.mem_of_getElem? (i := 11) rfl) at_IAE ⟨Nat.le_of_ble_eq_true rfl, Nat.le_of_ble_eq_true rfl, Nat.le_of_ble_eq_true rfl, Nat.le_of_ble_eq_true rfl⟩ ?_ (Nat.le_of_ble_eq_true rfl) (Nat.le_of_ble_eq_true rfl)
    refine Or.inl ⟨rfl, rfl, ?_⟩
    simp only [Int32.lt_iff_toInt_lt, Int32.le_iff_toInt_le] at *
    omega
  · refine G_iload_n F dX7_arrange_4 rfl ?_
    refine G_iconst (v := 2) F dX7_arrange_5 rfl ?_
    refine G_icmp_le (tgt := 19) F dX7_arrange_6 (by decide) (fun h6 => ?_) (fun h6 => ?_)
    · refine G_iload_n F dX7_arrange_19 rfl ?_
      refine G_iconst (v := -1) F dX7_arrange_20 rfl ?_
      refine G_icmp_lt (tgt := 31) F dX7_arrange_21 (by decide) (fun h21 => ?_) (fun h21 => ?_)
      · refine G_throwS F Rt (cls := "java/lang/IllegalArgumentException") (text := "the cold limit is not from -1 to 9999") nmsR dX7_arrange_31 dX7_arrange_34 dX7_arrange_35 dX7_arrange_37 dX7_arrange_40 fit_IAE nmsR_fit (fx_in 585 (by decide +kernel) rfl) (fx_in 137 (by decide +kernel) rfl) (List.mem_of_getElem? (i := 12) rfl) at_IAE ⟨Nat.le_of_ble_eq_true rfl, Nat.le_of_ble_eq_true rfl, Nat.le_of_ble_eq_true rfl, Nat.le_of_ble_eq_true rfl⟩ ?_ (Nat.le_of_ble_eq_true rfl) (Nat.le_of_ble_eq_true rfl)
        refine Or.inl ⟨rfl, rfl, ?_⟩
        simp only [Int32.lt_iff_toInt_lt, Int32.le_iff_toInt_le] at *
        omega
      · refine G_iload_n F dX7_arrange_24 rfl ?_
        refine G_sipush (v := 9999) F dX7_arrange_25 rfl ?_
        refine G_icmp_le (tgt := 41) F dX7_arrange_28 (by decide) (fun h28 => ?_) (fun h28 => ?_)
        · refine G_aload_n F dX7_arrange_41 rfl ?_
          refine G_getr F fl_X7_35 dX7_arrange_42 rfl rfl ?_
          refine G_iload_n F dX7_arrange_45 rfl ?_
          refine G_vv F mv_X7_178 dX7_arrange_46 (s_divide hl ad sw tl M (N := N) cold hN hN16) rfl rfl rfl rfl (Nat.le_of_ble_eq_true rfl) ⟨Nat.le_of_ble_eq_true rfl, Nat.le_of_ble_eq_true rfl, Nat.le_of_ble_eq_true rfl, Nat.le_of_ble_eq_true rfl⟩ (fun M46 h46 => ?_)
          have hrng : (0 ≤ mt ∧ mt ≤ 2 ∧ -1 ≤ cold ∧ cold ≤ 9999) := by
            simp only [Int32.lt_iff_toInt_lt, Int32.le_iff_toInt_le] at *
            omega
          refine G_iload_n F dX7_arrange_49 rfl ?_
          refine G_iconst (v := 2) F dX7_arrange_50 rfl ?_
          refine G_icmp_ne (tgt := 76) F dX7_arrange_51 (by decide) (fun h51 => ?_) (fun h51 => ?_)
          · have hno : ¬ (mt = 2 ∧ 7 < hcn (hob (M 7) cold) N) := fun q => h51 q.1
            refine G_aload_n F dX7_arrange_76 rfl ?_
            refine G_getr F fl_X7_51 dX7_arrange_77 rfl rfl ?_
            refine G_aload_n F dX7_arrange_80 rfl ?_
            refine G_getr F fl_X7_19 dX7_arrange_81 rfl rfl ?_
            refine G_vv F mv_X7_168 dX7_arrange_84 (s_remember hl ad sw tl M46 (sl := sl) (kp := kp) (by rw [h46.1 31 (by decide)]; exact hsl) hsl10 (by rw [h46.1 31 (by decide)]; exact hkp0) hkp10) rfl rfl rfl rfl (Nat.le_of_ble_eq_true rfl) ⟨Nat.le_of_ble_eq_true rfl, Nat.le_of_ble_eq_true rfl, Nat.le_of_ble_eq_true rfl, Nat.le_of_ble_eq_true rfl⟩ (fun M84 h84 => ?_)
            have f84 : ∀ k, k ∉ [20, 21, 31, 32, 33, 34] → M84 k = M k := fun k hk => by
              simp only [List.mem_cons, List.not_mem_nil, or_false, not_or] at hk
              rw [h84.1 k (by simp [hk]), h46.1 k (by simp [hk])]
            have d21 : ∀ x, x < N → M84 21 x = (if (hob (M 7) cold) x then 1 else 0) := fun x hx => by rw [h84.1 21 (by decide)]; exact h46.2.2 x hx
            have d20 : M84 20 3 = nI (hcn (hob (M 7) cold) N) := by rw [h84.1 20 (by decide), h46.2.1, upd_self]
            refine G_aload_n F dX7_arrange_87 rfl ?_
            refine G_getr F fl_X7_35 dX7_arrange_88 rfl rfl ?_
            refine G_iload_n F dX7_arrange_91 rfl ?_
            refine G_vv F mv_X7_186 dX7_arrange_92 (s_makePlan hl ad sw tl M84 (N := N) (hob (M 7) cold) mt (by rw [f84 1 (by decide)]; exact hN) hN16 d20 d21 h0 rfl) rfl rfl rfl rfl (Nat.le_of_ble_eq_true rfl) ⟨Nat.le_of_ble_eq_true rfl, Nat.le_of_ble_eq_true rfl, Nat.le_of_ble_eq_true rfl, Nat.le_of_ble_eq_true rfl⟩ (fun M92 h92 => ?_)
            obtain ⟨k1, k2, r0, k3, k4⟩ := h92
            have k5 := mkr_mkp hN16 d21 k3
            rw [f84 3 (by decide), f84 4 (by decide), f84 5 (by decide), f84 8 (by decide), f84 9 (by decide), f84 11 (by decide)] at k5
            obtain ⟨rw, pos, hpm, hrw⟩ := hperm hno r0 k5
            have hle := hcn_le (ho := (hob (M 7) cold)) N
            have hrow : ∀ j, j < N → M92 11 j = nI (rw j) := fun j hj => by rw [k4]; exact hrw j hj
            have h1N : M92 1 8 = nI N := by rw [k1 1 (by decide), f84 1 (by decide)]; exact hN
            have hhot : M92 10 1 = nI (hcn (hob (M 7) cold) N) := by rw [k2, upd_self]
            refine G_aload_n F dX7_arrange_95 rfl ?_
            refine G_getr F fl_X7_28 dX7_arrange_96 rfl rfl ?_
            refine G_vv F mv_X7_189 dX7_arrange_99 (s_findForms hl ad sw tl M92 (N := N) (hot := hcn (hob (M 7) cold) N) (rw := rw) (pos := pos) h1N hN16 hhot hle hpm hrow) rfl rfl rfl rfl (Nat.le_of_ble_eq_true rfl) ⟨Nat.le_of_ble_eq_true rfl, Nat.le_of_ble_eq_true rfl, Nat.le_of_ble_eq_true rfl, Nat.le_of_ble_eq_true rfl⟩ (fun M99 h99 => ?_)
            skip
            refine G_aload_n F dX7_arrange_102 rfl ?_
            refine G_getr F fl_X7_28 dX7_arrange_103 rfl rfl ?_
            refine G_aload_n F dX7_arrange_106 rfl ?_
            refine G_getr F fl_X7_19 dX7_arrange_107 rfl rfl ?_
            refine G_geti F fl_X7_192 dX7_arrange_110 rfl rfl ?_
            rw [h99.1 10 (by decide), hhot]
            refine G_vI F mv_X7_195 dX7_arrange_113 (s_sumOfCosts hl ad sw tl M99 (N := N) (nI (hcn (hob (M 7) cold) N)) (by rw [h99.1 1 (by decide)]; exact h1N) hN16) rfl rfl rfl rfl (Nat.le_of_ble_eq_true rfl) ⟨Nat.le_of_ble_eq_true rfl, Nat.le_of_ble_eq_true rfl, Nat.le_of_ble_eq_true rfl, Nat.le_of_ble_eq_true rfl⟩ (fun r113 M113 h113 => ?_)
            rw [h113.1, h113.2, h99.1 3 (by decide), k1 3 (by decide), f84 3 (by decide), h99.1 4 (by decide), k1 4 (by decide), f84 4 (by decide), h99.1 5 (by decide), k1 5 (by decide), f84 5 (by decide), h99.1 8 (by decide), k1 8 (by decide), f84 8 (by decide), h99.1 9 (by decide), k1 9 (by decide), f84 9 (by decide)]
            refine G_iret F Rt dX7_arrange_116 (rfl) ⟨rfl, rfl, _, rfl, ?_⟩ (Nat.le_of_ble_eq_true rfl) (Nat.le_of_ble_eq_true rfl)
            refine ⟨hrng, hno, fun k hk => ?_, ⟨?_, ?_, ?_, ?_, ?_⟩, ?_, ⟨r0, k5, ?_⟩, rw, pos, hpm, fun j hj => ?_, ?_⟩
            · simp only [List.mem_cons, List.not_mem_nil, or_false, not_or] at hk
              rw [h99.1 k (by simp [hk]), k1 k (by simp [hk]), f84 k (by simp [hk])]
            · rw [h99.1 31 (by decide), k1 31 (by decide)]; exact h84.2.1
            · rw [h99.1 31 (by decide), k1 31 (by decide)]; exact h84.2.2.1
            · intro j
              rw [h99.1 32 (by decide), k1 32 (by decide), h84.2.2.2.1 j, h46.1 11 (by decide), h46.1 32 (by decide)]
            · rw [h99.1 33 (by decide), k1 33 (by decide), h84.2.2.2.2.1, h46.1 33 (by decide), h46.1 10 (by decide)]
            · rw [h99.1 34 (by decide), k1 34 (by decide), h84.2.2.2.2.2, h46.1 34 (by decide), h46.1 10 (by decide)]
            · rw [h99.1 10 (by decide), k2, f84 10 (by decide)]
            · rw [h99.1 11 (by decide), k4]
            · rw [h99.1 11 (by decide)]; exact hrow j hj
            · exact sm_congr (fun b hb => by rw [(h99.2 b hb).1, (h99.2 b hb).2.1])
          · refine G_aload_n F dX7_arrange_54 rfl ?_
            refine G_getr F fl_X7_35 dX7_arrange_55 rfl rfl ?_
            refine G_geti F fl_X7_181 dX7_arrange_58 rfl rfl ?_
            refine G_bipush (v := nI 7) F dX7_arrange_61 (by decide) ?_
            rw [show M46 20 3 = nI (hcn (hob (M 7) cold) N) from by rw [h46.2.1, upd_self]]
            refine G_icmp_le (tgt := 76) F dX7_arrange_63 (by decide) (fun h63 => ?_) (fun h63 => ?_)
            · have hle0 := hcn_le (ho := (hob (M 7) cold)) N
              rw [nI_leI (by omega) (by omega)] at h63
              have hno : ¬ (mt = 2 ∧ 7 < hcn (hob (M 7) cold) N) := fun q => by omega
              refine G_aload_n F dX7_arrange_76 rfl ?_
              refine G_getr F fl_X7_51 dX7_arrange_77 rfl rfl ?_
              refine G_aload_n F dX7_arrange_80 rfl ?_
              refine G_getr F fl_X7_19 dX7_arrange_81 rfl rfl ?_
              refine G_vv F mv_X7_168 dX7_arrange_84 (s_remember hl ad sw tl M46 (sl := sl) (kp := kp) (by rw [h46.1 31 (by decide)]; exact hsl) hsl10 (by rw [h46.1 31 (by decide)]; exact hkp0) hkp10) rfl rfl rfl rfl (Nat.le_of_ble_eq_true rfl) ⟨Nat.le_of_ble_eq_true rfl, Nat.le_of_ble_eq_true rfl, Nat.le_of_ble_eq_true rfl, Nat.le_of_ble_eq_true rfl⟩ (fun M84 h84 => ?_)
              have f84 : ∀ k, k ∉ [20, 21, 31, 32, 33, 34] → M84 k = M k := fun k hk => by
                simp only [List.mem_cons, List.not_mem_nil, or_false, not_or] at hk
                rw [h84.1 k (by simp [hk]), h46.1 k (by simp [hk])]
              have d21 : ∀ x, x < N → M84 21 x = (if (hob (M 7) cold) x then 1 else 0) := fun x hx => by rw [h84.1 21 (by decide)]; exact h46.2.2 x hx
              have d20 : M84 20 3 = nI (hcn (hob (M 7) cold) N) := by rw [h84.1 20 (by decide), h46.2.1, upd_self]
              refine G_aload_n F dX7_arrange_87 rfl ?_
              refine G_getr F fl_X7_35 dX7_arrange_88 rfl rfl ?_
              refine G_iload_n F dX7_arrange_91 rfl ?_
              refine G_vv F mv_X7_186 dX7_arrange_92 (s_makePlan hl ad sw tl M84 (N := N) (hob (M 7) cold) mt (by rw [f84 1 (by decide)]; exact hN) hN16 d20 d21 h0 rfl) rfl rfl rfl rfl (Nat.le_of_ble_eq_true rfl) ⟨Nat.le_of_ble_eq_true rfl, Nat.le_of_ble_eq_true rfl, Nat.le_of_ble_eq_true rfl, Nat.le_of_ble_eq_true rfl⟩ (fun M92 h92 => ?_)
              obtain ⟨k1, k2, r0, k3, k4⟩ := h92
              have k5 := mkr_mkp hN16 d21 k3
              rw [f84 3 (by decide), f84 4 (by decide), f84 5 (by decide), f84 8 (by decide), f84 9 (by decide), f84 11 (by decide)] at k5
              obtain ⟨rw, pos, hpm, hrw⟩ := hperm hno r0 k5
              have hle := hcn_le (ho := (hob (M 7) cold)) N
              have hrow : ∀ j, j < N → M92 11 j = nI (rw j) := fun j hj => by rw [k4]; exact hrw j hj
              have h1N : M92 1 8 = nI N := by rw [k1 1 (by decide), f84 1 (by decide)]; exact hN
              have hhot : M92 10 1 = nI (hcn (hob (M 7) cold) N) := by rw [k2, upd_self]
              refine G_aload_n F dX7_arrange_95 rfl ?_
              refine G_getr F fl_X7_28 dX7_arrange_96 rfl rfl ?_
              refine G_vv F mv_X7_189 dX7_arrange_99 (s_findForms hl ad sw tl M92 (N := N) (hot := hcn (hob (M 7) cold) N) (rw := rw) (pos := pos) h1N hN16 hhot hle hpm hrow) rfl rfl rfl rfl (Nat.le_of_ble_eq_true rfl) ⟨Nat.le_of_ble_eq_true rfl, Nat.le_of_ble_eq_true rfl, Nat.le_of_ble_eq_true rfl, Nat.le_of_ble_eq_true rfl⟩ (fun M99 h99 => ?_)
              skip
              refine G_aload_n F dX7_arrange_102 rfl ?_
              refine G_getr F fl_X7_28 dX7_arrange_103 rfl rfl ?_
              refine G_aload_n F dX7_arrange_106 rfl ?_
              refine G_getr F fl_X7_19 dX7_arrange_107 rfl rfl ?_
              refine G_geti F fl_X7_192 dX7_arrange_110 rfl rfl ?_
              rw [h99.1 10 (by decide), hhot]
              refine G_vI F mv_X7_195 dX7_arrange_113 (s_sumOfCosts hl ad sw tl M99 (N := N) (nI (hcn (hob (M 7) cold) N)) (by rw [h99.1 1 (by decide)]; exact h1N) hN16) rfl rfl rfl rfl (Nat.le_of_ble_eq_true rfl) ⟨Nat.le_of_ble_eq_true rfl, Nat.le_of_ble_eq_true rfl, Nat.le_of_ble_eq_true rfl, Nat.le_of_ble_eq_true rfl⟩ (fun r113 M113 h113 => ?_)
              rw [h113.1, h113.2, h99.1 3 (by decide), k1 3 (by decide), f84 3 (by decide), h99.1 4 (by decide), k1 4 (by decide), f84 4 (by decide), h99.1 5 (by decide), k1 5 (by decide), f84 5 (by decide), h99.1 8 (by decide), k1 8 (by decide), f84 8 (by decide), h99.1 9 (by decide), k1 9 (by decide), f84 9 (by decide)]
              refine G_iret F Rt dX7_arrange_116 (rfl) ⟨rfl, rfl, _, rfl, ?_⟩ (Nat.le_of_ble_eq_true rfl) (Nat.le_of_ble_eq_true rfl)
              refine ⟨hrng, hno, fun k hk => ?_, ⟨?_, ?_, ?_, ?_, ?_⟩, ?_, ⟨r0, k5, ?_⟩, rw, pos, hpm, fun j hj => ?_, ?_⟩
              · simp only [List.mem_cons, List.not_mem_nil, or_false, not_or] at hk
                rw [h99.1 k (by simp [hk]), k1 k (by simp [hk]), f84 k (by simp [hk])]
              · rw [h99.1 31 (by decide), k1 31 (by decide)]; exact h84.2.1
              · rw [h99.1 31 (by decide), k1 31 (by decide)]; exact h84.2.2.1
              · intro j
                rw [h99.1 32 (by decide), k1 32 (by decide), h84.2.2.2.1 j, h46.1 11 (by decide), h46.1 32 (by decide)]
              · rw [h99.1 33 (by decide), k1 33 (by decide), h84.2.2.2.2.1, h46.1 33 (by decide), h46.1 10 (by decide)]
              · rw [h99.1 34 (by decide), k1 34 (by decide), h84.2.2.2.2.2, h46.1 34 (by decide), h46.1 10 (by decide)]
              · rw [h99.1 10 (by decide), k2, f84 10 (by decide)]
              · rw [h99.1 11 (by decide), k4]
              · rw [h99.1 11 (by decide)]; exact hrow j hj
              · exact sm_congr (fun b hb => by rw [(h99.2 b hb).1, (h99.2 b hb).2.1])
            · have hle0 := hcn_le (ho := (hob (M 7) cold)) N
              rw [nI_leI (by omega) (by omega)] at h63
              refine G_throwS F Rt (cls := "java/lang/UnsupportedOperationException") (text := "there are more than 7 hot blocks") nmsR dX7_arrange_66 dX7_arrange_69 dX7_arrange_70 dX7_arrange_72 dX7_arrange_75 fit_UOE nmsR_fit (fx_in 762 (by decide +kernel) rfl) (fx_in 141 (by decide +kernel) rfl) (List.mem_of_getElem? (i := 13) rfl) at_UOE ⟨Nat.le_of_ble_eq_true rfl, Nat.le_of_ble_eq_true rfl, Nat.le_of_ble_eq_true rfl, Nat.le_of_ble_eq_true rfl⟩ ?_ (Nat.le_of_ble_eq_true rfl) (Nat.le_of_ble_eq_true rfl)
              exact Or.inr ⟨rfl, hrng, h51, by omega, h46.1⟩
        · refine G_throwS F Rt (cls := "java/lang/IllegalArgumentException") (text := "the cold limit is not from -1 to 9999") nmsR dX7_arrange_31 dX7_arrange_34 dX7_arrange_35 dX7_arrange_37 dX7_arrange_40 fit_IAE nmsR_fit (fx_in 585 (by decide +kernel) rfl) (fx_in 137 (by decide +kernel) rfl) (List.mem_of_getElem? (i := 12) rfl) at_IAE ⟨Nat.le_of_ble_eq_true rfl, Nat.le_of_ble_eq_true rfl, Nat.le_of_ble_eq_true rfl, Nat.le_of_ble_eq_true rfl⟩ ?_ (Nat.le_of_ble_eq_true rfl) (Nat.le_of_ble_eq_true rfl)
          refine Or.inl ⟨rfl, rfl, ?_⟩
          simp only [Int32.lt_iff_toInt_lt, Int32.le_iff_toInt_le] at *
          omega
    · refine G_throwS F Rt (cls := "java/lang/IllegalArgumentException") (text := "there is no such method") nmsR dX7_arrange_9 dX7_arrange_12 dX7_arrange_13 dX7_arrange_15 dX7_arrange_18 fit_IAE nmsR_fit (fx_in 585 (by decide +kernel) rfl) (fx_in 137 (by decide +kernel) rfl) (List.mem_of_getElem? (i := 11) rfl) at_IAE ⟨Nat.le_of_ble_eq_true rfl, Nat.le_of_ble_eq_true rfl, Nat.le_of_ble_eq_true rfl, Nat.le_of_ble_eq_true rfl⟩ ?_ (Nat.le_of_ble_eq_true rfl) (Nat.le_of_ble_eq_true rfl)
      refine Or.inl ⟨rfl, rfl, ?_⟩
      simp only [Int32.lt_iff_toInt_lt, Int32.le_iff_toInt_le] at *
      omega
set_option maxRecDepth 20000 in
theorem t_arrange {l : Launch} {Z : fx_Z} (hl : l.stackTraces = false) (ad : Nat → Nat) (sw : Bool) (tl : List fx_Sh) (M : fx_M) {N u : Nat} (mt cold : Int32) (hN : M 37 0 = nI N) (hN16 : N ≤ 16) (hN1 : 1 ≤ N) (hv : pv N (M 39) (M 40) (M 41)) (hz : zw N (M 39) (M 44) (M 45)) (hw : wbd (M 44) (M 45)) (hu : M 37 27 = nI u) (hu9 : u ≤ 10) : CI l Z yX8_arrange (.code yX8_arrange cX8_arrange 5 (some .int)) 5 [.ref (ad 37), .int mt, .int cold] ad (c_C sw ++ (m_C ++ tl)) M (fun r m => (¬ (0 ≤ mt ∧ mt ≤ 2 ∧ -1 ≤ cold ∧ cold ≤ 9999) ∧ m = fx_u M 37 13 1) ∨ ((0 ≤ mt ∧ mt ≤ 2 ∧ -1 ≤ cold ∧ cold ≤ 9999) ∧ mt = 2 ∧ 7 < (hcn (hob (M 43) cold) N) ∧ fr [37] M m ∧ (∀ j, j ≠ 13 → j ≠ 33 → j ≠ 34 → m 37 j = M 37 j) ∧ m 37 13 = 2) ∨ ((0 ≤ mt ∧ mt ≤ 2 ∧ -1 ≤ cold ∧ cold ≤ 9999) ∧ ¬ (mt = 2 ∧ 7 < (hcn (hob (M 43) cold) N)) ∧ fr [37, 46, 56, 57, 58, 59, 60, 61, 62] M m ∧ (∀ j, j ≠ 3 → j ≠ 13 → j ≠ 27 → j ≠ 33 → j ≠ 34 → j ≠ 37 → m 37 j = M 37 j) ∧ m 37 13 = 0 ∧ m 37 3 = nI (hcn (hob (M 43) cold) N) ∧ v_kr u M m ∧ (∃ r0, mkp N (hob (M 43) cold) (M 39) (M 40) (M 41) (M 44) (M 45) (M 46) mt r0 ∧ m 46 = pcd (hob (M 43) cold) (hcn (hob (M 43) cold) N) r0 N) ∧ ∃ rw pos, pm N rw pos ∧ (∀ j, j < N → m 46 j = nI (rw j)) ∧ r = sm (fun b => if nI (pos b) < nI (hcn (hob (M 43) cold) N) then pf_cc (M 39) (M 40) (M 41) (M 44) (M 45) b (l_nx N (hcn (hob (M 43) cold) N) rw pos b) else 0) N)) := by
  refine CT_of (ret := (some .int)) (lv0 := [some (.ref (ad 37)), some (.int mt), some (.int cold), none, none]) (by decide +kernel) hl (by simp [Value.category]) (Nat.le_of_ble_eq_true rfl) rfl ?_
  intro X F Rt _
  have t0 : (0 ≤ mt ∧ mt ≤ 2 ∧ -1 ≤ cold ∧ cold ≤ 9999) → GG X ad 26 [some (.ref (ad 37)), some (.int mt), some (.int cold), none, none] [.int 0, .ref (ad 37)] 0 0 (c_C sw ++ (m_C ++ tl)) M := by
    intro hrng
    have hmt : mt = 0 ∨ mt = 1 ∨ mt = 2 := by
      obtain ⟨z1, z2, -, -⟩ := hrng
      obtain ⟨j, j1, j2⟩ := nI_of2 (x := mt) (M := 2) (n := 2) rfl (by simp only [Int32.lt_iff_toInt_lt, Int32.le_iff_toInt_le] at *; omega) z2
      rw [j2]
      rcases (show j = 0 ∨ j = 1 ∨ j = 2 by omega) with rfl | rfl | rfl
      · exact Or.inl rfl
      · exact Or.inr (Or.inl rfl)
      · exact Or.inr (Or.inr rfl)
    refine G_puti F fl_X8_103 dX8_arrange_26 rfl rfl rfl rfl ?_
    refine G_aload_n F dX8_arrange_29 rfl ?_
    refine G_geti F fl_X8_103 dX8_arrange_30 rfl rfl ?_
    try simp only [fx_u_at, Nat.reduceEqDiff, false_and, and_false, true_and, and_true, ↓reduceIte]
    refine G_if_eq (tgt := 38) F dX8_arrange_33 (by decide) (fun h33 => ?_) (fun h33 => ?_)
    · skip
      refine G_aload_n F dX8_arrange_38 rfl ?_
      refine G_iload_n F dX8_arrange_39 rfl ?_
      refine G_vv F mv_X8_250 dX8_arrange_40 (t_findsHot hl ad sw tl _ (N := N) cold (by rw [fx_u_at, if_neg (fun z => absurd z.2 (by decide))]; exact hN) hN16 hN1) rfl rfl rfl rfl (Nat.le_of_ble_eq_true rfl) ⟨Nat.le_of_ble_eq_true rfl, Nat.le_of_ble_eq_true rfl, Nat.le_of_ble_eq_true rfl, Nat.le_of_ble_eq_true rfl⟩ (fun M40 h40 => ?_)
      obtain ⟨a1', a2', a3', a4'⟩ := h40
      simp only [fx_u_ne (show (43 : Nat) ≠ 37 by decide)] at a3' a4'
      have hcl := hcn_le (ho := (hob (M 43) cold)) N
      have t63a : ¬ (mt = 2 ∧ 7 < (hcn (hob (M 43) cold) N)) → GG X ad 63 [some (.ref (ad 37)), some (.int mt), some (.int cold), none, none] [.int 0, .ref (ad 37)] 0 0 (c_C sw ++ (m_C ++ tl)) M40 := by
        intro hno
        have t143 : ∀ (M5 : fx_M) (r0 : Nat → Int32), fr [37, 46, 56, 57, 58, 59, 60, 61, 62] M M5 → (∀ j, j ≠ 13 → j ≠ 27 → j ≠ 33 → j ≠ 34 → j ≠ 37 → M5 37 j = M 37 j) → M5 37 13 = 0 → M5 37 33 = nI (hcn (hob (M 43) cold) N) → (∀ b, b < N → bt (M5 37 34) b = (hob (M 43) cold) b) → v_kr u M M5 → mkp N (hob (M 43) cold) (M 39) (M 40) (M 41) (M 44) (M 45) (M 46) mt r0 → M5 46 = r0 → GG X ad 143 [some (.ref (ad 37)), some (.int mt), some (.int cold), none, none] [] 0 0 (c_C sw ++ (m_C ++ tl)) M5 := by
          intro M5 r0 p1 p2 p3 p4 p5 p6 p7 p8
          have lpC : ∀ (k : Nat) (n : Nat) (M6 : fx_M), k = N - n → n ≤ N → fr [46] M5 M6 → M6 46 = pcd (hob (M 43) cold) (hcn (hob (M 43) cold) N) r0 n → GG X ad 151 [some (.ref (ad 37)), some (.int mt), some (.int cold), some (.int (nI ((hcn (hob (M 43) cold) N) + (n - hcn (hob (M 43) cold) n)))), some (.int (nI n))] [] 0 0 (c_C sw ++ (m_C ++ tl)) M6 := by
            intro k
            induction k using Nat.strongRecOn with
            | _ k ih =>
              intro n M6 hk hn c1 c2
              refine G_iload F dX8_arrange_151 rfl ?_
              refine G_aload_n F dX8_arrange_153 rfl ?_
              refine G_geti F fl_X8_106 dX8_arrange_154 rfl rfl ?_
              rw [show M6 37 0 = nI N from by rw [c1 37 (by decide), p2 0 (by decide) (by decide) (by decide) (by decide) (by decide)]; exact hN]
              refine G_icmp_ge (tgt := 186) F dX8_arrange_157 (by decide) (fun h157 => ?_) (fun h157 => ?_)
              · rw [nI_leI (by omega) (by omega)] at h157
                have hnN : n = N := by omega
                have f6 : ∀ k, k ∉ [37, 46, 56, 57, 58, 59, 60, 61, 62] → M6 k = M k := fun k hk => by
                  simp only [List.mem_cons, List.not_mem_nil, or_false, not_or] at hk
                  rw [c1 k (by simp [hk]), p1 k (by simp [hk])]
                have h33 : M6 37 33 = nI (hcn (hob (M 43) cold) N) := by rw [c1 37 (by decide)]; exact p4
                have h0n : M6 37 0 = nI N := by rw [c1 37 (by decide), p2 0 (by decide) (by decide) (by decide) (by decide) (by decide)]; exact hN
                obtain ⟨rw, pos, hpm, hrw⟩ := mkp_pm hN16 hN1 rfl hw hno p7
                refine G_aload_n F dX8_arrange_186 rfl ?_
                refine G_aload_n F dX8_arrange_187 rfl ?_
                refine G_geti F fl_X8_232 dX8_arrange_188 rfl rfl ?_
                rw [h33]
                refine G_puti F fl_X8_113 dX8_arrange_191 rfl rfl rfl rfl ?_
                refine G_aload_n F dX8_arrange_194 rfl ?_
                refine G_aload_n F dX8_arrange_195 rfl ?_
                refine G_geti F fl_X8_232 dX8_arrange_196 rfl rfl ?_
                rw [fx_u_at, if_neg (fun z => absurd z.2 (by decide)), h33]
                refine G_vI F mv_X8_265 dX8_arrange_199 (t_costs hl ad sw tl _ (N := N) (n := (hcn (hob (M 43) cold) N)) (by rw [fx_u_at, if_neg (fun z => absurd z.2 (by decide))]; exact h0n) hN16 hN1 (by rw [fx_u_ne (by decide), fx_u_ne (by decide), fx_u_ne (by decide), f6 39 (by decide), f6 40 (by decide), f6 41 (by decide)]; exact hv) (by rw [fx_u_ne (by decide), fx_u_ne (by decide), fx_u_ne (by decide), f6 39 (by decide), f6 44 (by decide), f6 45 (by decide)]; exact hz) (hot := (hcn (hob (M 43) cold) N)) (rw := rw) (pos := pos) (by rw [fx_u_at, if_pos ⟨rfl, rfl⟩]) (hcn_le N) hpm (fun j hj => by rw [fx_u_ne (by decide), c2, hnN]; exact hrw j hj) (hcn_le N)) rfl rfl rfl rfl (Nat.le_of_ble_eq_true rfl) ⟨Nat.le_of_ble_eq_true rfl, Nat.le_of_ble_eq_true rfl, Nat.le_of_ble_eq_true rfl, Nat.le_of_ble_eq_true rfl⟩ (fun r199 M199 h199 => ?_)
                rw [h199.1, h199.2, fx_u_ne (by decide), fx_u_ne (by decide), fx_u_ne (by decide), fx_u_ne (by decide), fx_u_ne (by decide), f6 39 (by decide), f6 40 (by decide), f6 41 (by decide), f6 44 (by decide), f6 45 (by decide)]
                refine G_iret F Rt dX8_arrange_202 (rfl) ⟨rfl, rfl, _, rfl, ?_⟩ (Nat.le_refl _) (Nat.le_refl _)
                refine Or.inr (Or.inr ⟨hrng, hno, fun k hk => ?_, fun j a1 a2 a3 a4 a5 a6 => ?_, ?_, ?_, ?_, ⟨r0, p7, ?_⟩, rw, pos, hpm, fun j hj => ?_, rfl⟩)
                · have hk' := hk
                  simp only [List.mem_cons, List.not_mem_nil, or_false, not_or] at hk'
                  rw [fx_u_ne hk'.1]; exact f6 k hk
                · rw [fx_u_at, if_neg (fun z => a1 z.2), c1 37 (by decide)]; exact p2 j a2 a3 a4 a5 a6
                · rw [fx_u_at, if_neg (fun z => absurd z.2 (by decide)), c1 37 (by decide)]; exact p3
                · rw [fx_u_at, if_pos ⟨rfl, rfl⟩]
                · exact v_kr_of p6 rfl rfl rfl rfl rfl rfl (by rw [fx_u_at, if_neg (fun z => absurd z.2 (by decide)), c1 37 (by decide)]) (by rw [fx_u_ne (by decide), c1 56 (by decide)]) (by rw [fx_u_ne (by decide), c1 57 (by decide)]) (by rw [fx_u_ne (by decide), c1 58 (by decide)])
                · rw [fx_u_ne (by decide), c2, hnN]
                · rw [fx_u_ne (by decide), c2, hnN]; exact hrw j hj
              · rw [nI_leI (by omega) (by omega)] at h157
                refine G_aload_n F dX8_arrange_160 rfl ?_
                refine G_iload F dX8_arrange_161 rfl ?_
                refine G_vI F mv_X8_207 dX8_arrange_163 (t_isHot hl ad sw tl M6 (b := n) (by omega)) rfl rfl rfl rfl (Nat.le_of_ble_eq_true rfl) ⟨Nat.le_of_ble_eq_true rfl, Nat.le_of_ble_eq_true rfl, Nat.le_of_ble_eq_true rfl, Nat.le_of_ble_eq_true rfl⟩ (fun r163 M163 h163 => ?_)
                rw [h163.1, h163.2, show M6 37 34 = M5 37 34 from by rw [c1 37 (by decide)], p5 n (by omega)]
                refine G_if_ne (tgt := 180) F dX8_arrange_166 (by decide) (fun h166 => ?_) (fun h166 => ?_)
                · have q166 : (hob (M 43) cold) n = true := by simpa using h166
                  refine G_iinc F (1) dX8_arrange_180 rfl rfl rfl rfl ?_
                  simp only [List.set_cons_zero, List.set_cons_succ, nI_1]
                  refine G_goto (tgt := 151) F dX8_arrange_183 (by decide) ?_
                  have e : hcn (hob (M 43) cold) (n + 1) = hcn (hob (M 43) cold) n + 1 := by simp [hcn, q166]
                  rw [show (hcn (hob (M 43) cold) N) + (n - hcn (hob (M 43) cold) n) = (hcn (hob (M 43) cold) N) + (n + 1 - hcn (hob (M 43) cold) (n + 1)) from by rw [e]; omega]
                  exact ih (N - (n + 1)) (by omega) (n + 1) _ rfl (by omega) c1 (by simp only [pcd, q166, if_true]; exact c2)
                · have q166 : (hob (M 43) cold) n = false := by simpa using h166
                  have hgap := hcn_gap (ho := (hob (M 43) cold)) (show n + 1 ≤ N from by omega)
                  have hst : hcn (hob (M 43) cold) (n + 1) = hcn (hob (M 43) cold) n := by simp [hcn, q166]
                  have hln := hcn_le (ho := (hob (M 43) cold)) n
                  refine G_aload_n F dX8_arrange_169 rfl ?_
                  refine G_getr F fl_X8_41 dX8_arrange_170 rfl rfl ?_
                  refine G_iload_n F dX8_arrange_173 rfl ?_
                  refine G_iload F dX8_arrange_174 rfl ?_
                  refine G_iastN F dX8_arrange_176 rfl (by omega) (by decide) ?_
                  refine G_iinc F (1) dX8_arrange_177 rfl rfl rfl rfl ?_
                  simp only [List.set_cons_zero, List.set_cons_succ, nI_1]
                  refine G_iinc F (1) dX8_arrange_180 rfl rfl rfl rfl ?_
                  simp only [List.set_cons_zero, List.set_cons_succ, nI_1]
                  refine G_goto (tgt := 151) F dX8_arrange_183 (by decide) ?_
                  rw [show (hcn (hob (M 43) cold) N) + (n - hcn (hob (M 43) cold) n) + 1 = (hcn (hob (M 43) cold) N) + (n + 1 - hcn (hob (M 43) cold) (n + 1)) from by rw [hst]; omega]
                  exact ih (N - (n + 1)) (by omega) (n + 1) _ rfl (by omega) (c1.u (by decide)) (by rw [fx_u_eq, c2]; simp only [pcd, q166, Bool.false_eq_true, if_false])
          refine G_aload_n F dX8_arrange_143 rfl ?_
          refine G_geti F fl_X8_232 dX8_arrange_144 rfl rfl ?_
          rw [p4, show (hcn (hob (M 43) cold) N) = (hcn (hob (M 43) cold) N) + (0 - hcn (hob (M 43) cold) 0) from rfl]
          refine G_istore_n F 3 dX8_arrange_147 rfl rfl rfl (Nat.le_of_ble_eq_true rfl) ?_
          simp only [List.set_cons_zero, List.set_cons_succ]
          refine G_iconst (v := nI 0) F dX8_arrange_148 (by decide) ?_
          refine G_istore F dX8_arrange_149 rfl rfl (Nat.le_of_ble_eq_true rfl) ?_
          simp only [List.set_cons_zero, List.set_cons_succ]
          exact lpC N 0 M5 rfl (by omega) fr.rfl p8
        have t107 : ∀ M3 : fx_M, fr [37, 46, 56, 57, 58, 59, 60, 61, 62] M M3 → (∀ j, j ≠ 13 → j ≠ 27 → j ≠ 33 → j ≠ 34 → j ≠ 37 → M3 37 j = M 37 j) → M3 37 13 = 0 → M3 37 33 = nI (hcn (hob (M 43) cold) N) → (∀ b, b < N → bt (M3 37 34) b = (hob (M 43) cold) b) → v_kr u M M3 → M3 46 = M 46 → (∀ b, b < 16 → M3 59 b = -1 ∧ M3 60 b = -1) → GG X ad 107 [some (.ref (ad 37)), some (.int mt), some (.int cold), none, none] [] 0 0 (c_C sw ++ (m_C ++ tl)) M3 := by
          intro M3 g1 g2 g3 g4 g5 g6 g46 g7
          have h0n : M3 37 0 = nI N := by rw [g2 0 (by decide) (by decide) (by decide) (by decide) (by decide)]; exact hN
          have t127 : ∀ (M4 : fx_M) (q : (Nat → Int32) × (Nat → Int32)), ¬ mt = 2 → fr [59, 60] M3 M4 → v_C N (hob (M 43) cold) M4 q → q = pk N (hrw (hob (M 43) cold)) (gnp (M 39) (M 40) (M 41) (M 44) (M 45) (bwm mt)) (ldp (M 40) (M 41) (bwm mt)) (M 40) (M 41) 16 → GG X ad 127 [some (.ref (ad 37)), some (.int mt), some (.int cold), none, none] [] 0 0 (c_C sw ++ (m_C ++ tl)) M4 := by
            intro M4 q hm2 j1 j2 j3
            have f4 : ∀ k, k ∉ [37, 46, 56, 57, 58, 59, 60, 61, 62] → M4 k = M k := fun k hk => by
              simp only [List.mem_cons, List.not_mem_nil, or_false, not_or] at hk
              rw [j1 k (by simp [hk]), g1 k (by simp [hk])]
            have h37 : M4 37 = M3 37 := j1 37 (by decide)
            have h46 : M4 46 = M 46 := by rw [j1 46 (by decide)]; exact g46
            obtain ⟨fo, rk, v1, v2, v3, v4, v5⟩ := j2
            refine G_iload_n F dX8_arrange_127 rfl ?_
            refine G_iconst (v := 2) F dX8_arrange_128 rfl ?_
            refine G_icmp_ne (tgt := 139) F dX8_arrange_129 (by decide) (fun h129 => ?_) (fun h129 => ?_)
            · skip
              refine G_aload_n F dX8_arrange_139 rfl ?_
              refine G_vv F mv_X8_262 dX8_arrange_140 (t_placesChains hl ad sw tl M4 (N := N) (by rw [h37]; exact h0n) hN16 hN1 (by rw [f4 39 (by decide), f4 40 (by decide), f4 41 (by decide)]; exact hv) (ho := (hob (M 43) cold)) (by rw [h37]; exact g5) (by rw [h37]; exact g4) rfl v1 v4 v5 v3 (by rw [f4 40 (by decide), f4 41 (by decide), f4 44 (by decide), f4 45 (by decide)]; exact pul_nn hw hN16)) rfl rfl rfl rfl (Nat.le_of_ble_eq_true rfl) ⟨Nat.le_of_ble_eq_true rfl, Nat.le_of_ble_eq_true rfl, Nat.le_of_ble_eq_true rfl, Nat.le_of_ble_eq_true rfl⟩ (fun M140 h140 => ?_)
              skip
              have f5 : ∀ k, k ∉ [37, 46, 56, 57, 58, 59, 60, 61, 62] → M140 k = M k := fun k hk => by
                have hk' := hk
                simp only [List.mem_cons, List.not_mem_nil, or_false, not_or] at hk'
                rw [h140.1 k (by simp [hk'])]; exact f4 k hk
              have q37 : M140 37 = M3 37 := by rw [h140.1 37 (by decide)]; exact h37
              refine t143 M140 _ f5 (fun j a1 a2 a3 a4 a5 => by rw [q37]; exact g2 j a1 a2 a3 a4 a5) (by rw [q37]; exact g3) (by rw [q37]; exact g4) (by rw [q37]; exact g5) (v_kr_of g6 rfl rfl rfl rfl rfl rfl (by rw [q37]) (by rw [h140.1 56 (by decide), j1 56 (by decide)]) (by rw [h140.1 57 (by decide), j1 57 (by decide)]) (by rw [h140.1 58 (by decide), j1 58 (by decide)])) ?_ rfl
              rw [h140.2, f4 40 (by decide), f4 41 (by decide), f4 44 (by decide), f4 45 (by decide), h46]
              unfold mkp
              rw [if_neg hm2]
              rw [j3] at v1 v2
              exact ⟨_, fo, rk, fun b _ => rfl, v2, v1, v3, by rw [j3]⟩
            · exact absurd h129 hm2 --stop
          refine G_iload_n F dX8_arrange_107 rfl ?_
          refine G_if_ne (tgt := 118) F dX8_arrange_108 (by decide) (fun h108 => ?_) (fun h108 => ?_)
          · skip
            refine G_iload_n F dX8_arrange_118 rfl ?_
            refine G_iconst (v := 1) F dX8_arrange_119 rfl ?_
            refine G_icmp_ne (tgt := 127) F dX8_arrange_120 (by decide) (fun h120 => ?_) (fun h120 => ?_)
            · skip
              have em : mt = 2 := by
                rcases hmt with z | z | z
                · exact absurd z h108
                · exact absurd z h120
                · exact z
              have hH7 : (hcn (hob (M 43) cold) N) ≤ 7 := by
                apply Classical.byContradiction
                intro z
                exact hno ⟨em, by omega⟩
              refine G_iload_n F dX8_arrange_127 rfl ?_
              refine G_iconst (v := 2) F dX8_arrange_128 rfl ?_
              refine G_icmp_ne (tgt := 139) F dX8_arrange_129 (by decide) (fun h129 => ?_) (fun h129 => ?_)
              · exact absurd em h129 --stop
              · skip
                refine G_aload_n F dX8_arrange_132 rfl ?_
                refine G_vv F mv_X8_259 dX8_arrange_133 (t_triesAll hl ad sw tl M3 (N := N) h0n hN16 hN1 (by rw [g1 39 (by decide), g1 40 (by decide), g1 41 (by decide)]; exact hv) (by rw [g1 39 (by decide), g1 44 (by decide), g1 45 (by decide)]; exact hz) (ho := (hob (M 43) cold)) g5 g4 hH7 rfl (cn := fun a x => (pf_cc (M 39) (M 40) (M 41) (M 44) (M 45) a x).toNatClampNeg) (by rw [g1 39 (by decide), g1 40 (by decide), g1 41 (by decide), g1 44 (by decide), g1 45 (by decide)]; exact cc_nat hw hN16)) rfl rfl rfl rfl (Nat.le_of_ble_eq_true rfl) ⟨Nat.le_of_ble_eq_true rfl, Nat.le_of_ble_eq_true rfl, Nat.le_of_ble_eq_true rfl, Nat.le_of_ble_eq_true rfl⟩ (fun M133 h133 => ?_)
                skip
                refine G_goto (tgt := 143) F dX8_arrange_136 (by decide) ?_
                have f5 : ∀ k, k ∉ [37, 46, 56, 57, 58, 59, 60, 61, 62] → M133 k = M k := fun k hk => by
                  have hk' := hk
                  simp only [List.mem_cons, List.not_mem_nil, or_false, not_or] at hk'
                  rw [h133.1 k (by simp [hk'])]; exact g1 k hk
                obtain ⟨s1, s2, Q, s3, s4⟩ := h133
                obtain ⟨Q', o1, o2⟩ := sr_opt (r0 := M 46) hN16 hN1 (ho := (hob (M 43) cold)) rfl hH7 (cc_nat (kd := M 39) (f := M 40) (s := M 41) hw hN16)
                have hrow : M133 46 = (sr N (hcn (hob (M 43) cold) N) (hob (M 43) cold) (pf_cc (M 39) (M 40) (M 41) (M 44) (M 45)) 6 1 (fun _ => 0) 1 0 (2147483647, M 46)).2 := by
                  rw [s4, o2, g46]
                  funext j
                  by_cases e : j < (hcn (hob (M 43) cold) N)
                  · rw [if_pos e, if_pos e, opt_one s3 o1 j e]
                  · rw [if_neg e, if_neg e]
                refine t143 M133 _ f5 (fun j a1 a2 a3 a4 a5 => by rw [s2 j a5]; exact g2 j a1 a2 a3 a4 a5) (by rw [s2 13 (by decide)]; exact g3) (by rw [s2 33 (by decide)]; exact g4) (by rw [s2 34 (by decide)]; exact g5) (v_kr_of g6 rfl rfl rfl rfl rfl rfl (by rw [s2 27 (by decide)]) (by rw [s1 56 (by decide)]) (by rw [s1 57 (by decide)]) (by rw [s1 58 (by decide)])) ?_ rfl
                unfold mkp
                rw [if_pos em]
                exact hrow
            · skip
              refine G_aload_n F dX8_arrange_123 rfl ?_
              refine G_vv F mv_X8_256 dX8_arrange_124 (t_joinsByGains hl ad sw tl M3 (N := N) h0n hN16 hN1 (by rw [g1 39 (by decide), g1 40 (by decide), g1 41 (by decide)]; exact hv) (by rw [g1 39 (by decide), g1 44 (by decide), g1 45 (by decide)]; exact hz) (ho := (hob (M 43) cold)) g5 (fun b hb => g7 b (by omega))) rfl rfl rfl rfl (Nat.le_of_ble_eq_true rfl) ⟨Nat.le_of_ble_eq_true rfl, Nat.le_of_ble_eq_true rfl, Nat.le_of_ble_eq_true rfl, Nat.le_of_ble_eq_true rfl⟩ (fun M124 h124 => ?_)
              skip
              refine t127 M124 _ (fun z => by rw [z] at h120; exact absurd h120 (by decide)) h124.1 h124.2 ?_
              rw [g1 39 (by decide), g1 40 (by decide), g1 41 (by decide), g1 44 (by decide), g1 45 (by decide)]
              rw [h120]; rfl
          · skip
            refine G_aload_n F dX8_arrange_111 rfl ?_
            refine G_vv F mv_X8_253 dX8_arrange_112 (t_joinsByWeights hl ad sw tl M3 (N := N) h0n hN16 hN1 (by rw [g1 39 (by decide), g1 40 (by decide), g1 41 (by decide)]; exact hv) (by rw [g1 39 (by decide), g1 44 (by decide), g1 45 (by decide)]; exact hz) (ho := (hob (M 43) cold)) g5 (fun b hb => g7 b (by omega))) rfl rfl rfl rfl (Nat.le_of_ble_eq_true rfl) ⟨Nat.le_of_ble_eq_true rfl, Nat.le_of_ble_eq_true rfl, Nat.le_of_ble_eq_true rfl, Nat.le_of_ble_eq_true rfl⟩ (fun M112 h112 => ?_)
            skip
            refine G_goto (tgt := 127) F dX8_arrange_115 (by decide) ?_
            refine t127 M112 _ (fun z => by rw [z] at h108; exact absurd h108 (by decide)) h112.1 h112.2 ?_
            rw [g1 39 (by decide), g1 40 (by decide), g1 41 (by decide), g1 44 (by decide), g1 45 (by decide)]
            rw [h108]; rfl
        refine G_puti F fl_X8_103 dX8_arrange_63 rfl rfl rfl rfl ?_
        refine G_aload_n F dX8_arrange_66 rfl ?_
        refine G_geti F fl_X8_103 dX8_arrange_67 rfl rfl ?_
        try simp only [fx_u_at, Nat.reduceEqDiff, false_and, and_false, true_and, and_true, ↓reduceIte]
        refine G_if_eq (tgt := 75) F dX8_arrange_70 (by decide) (fun h70 => ?_) (fun h70 => ?_)
        · skip
          refine G_aload_n F dX8_arrange_75 rfl ?_
          refine G_vv F mv_X8_201 dX8_arrange_76 (t_keeps hl ad sw tl _ (u := u) (by rw [fx_u_at, if_neg (fun z => absurd z.2 (by decide)), a2' 27 (by decide) (by decide), fx_u_at, if_neg (fun z => absurd z.2 (by decide))]; exact hu) hu9) rfl rfl rfl rfl (Nat.le_of_ble_eq_true rfl) ⟨Nat.le_of_ble_eq_true rfl, Nat.le_of_ble_eq_true rfl, Nat.le_of_ble_eq_true rfl, Nat.le_of_ble_eq_true rfl⟩ (fun M76 h76 => ?_)
          obtain ⟨k1, k2, k3⟩ := h76
          have lpA : ∀ (k : Nat) (i : Nat) (M3 : fx_M), k = 16 - i → i ≤ 16 → fr [59, 60] M76 M3 → (∀ b, b < i → M3 59 b = -1 ∧ M3 60 b = -1) → GG X ad 81 [some (.ref (ad 37)), some (.int mt), some (.int cold), some (.int (nI i)), none] [] 0 0 (c_C sw ++ (m_C ++ tl)) M3 := by
            intro k
            induction k using Nat.strongRecOn with
            | _ k ih =>
              intro i M3 hk hi c1 c2
              refine G_iload_n F dX8_arrange_81 rfl ?_
              refine G_bipush (v := nI 16) F dX8_arrange_82 (by decide) ?_
              refine G_icmp_ge (tgt := 107) F dX8_arrange_84 (by decide) (fun h84 => ?_) (fun h84 => ?_)
              · rw [nI_leI (by omega) (by omega)] at h84
                have hi16 : i = 16 := by omega
                refine G_drop F 3 ?_
                simp only [List.set_cons_zero, List.set_cons_succ]
                refine t107 M3 (fun k hk => ?_) (fun j a1 a2 a3 a4 a5 => ?_) ?_ ?_ (fun b hb => ?_) (v_kr_of k3 ?_ ?_ ?_ ?_ ?_ ?_ (by rw [c1 37 (by decide)]) (by rw [c1 56 (by decide)]) (by rw [c1 57 (by decide)]) (by rw [c1 58 (by decide)])) ?_ (fun b hb => c2 b (by omega))
                · simp only [List.mem_cons, List.not_mem_nil, or_false, not_or] at hk
                  rw [c1 k (by simp [hk]), k1 k (by simp [hk]), fx_u_ne hk.1, a1' k (by simp [hk]), fx_u_ne hk.1]
                · rw [c1 37 (by decide), k2 j a2, fx_u_at, if_neg (fun z => a1 z.2), a2' j a3 a4, fx_u_at, if_neg (fun z => a1 z.2)]
                · rw [c1 37 (by decide), k2 13 (by decide), fx_u_at, if_pos ⟨rfl, rfl⟩]
                · rw [c1 37 (by decide), k2 33 (by decide), fx_u_at, if_neg (fun z => absurd z.2 (by decide))]; exact a3'
                · rw [c1 37 (by decide), k2 34 (by decide), fx_u_at, if_neg (fun z => absurd z.2 (by decide))]; exact a4' b hb
                · rw [fx_u_ne (by decide), a1' 46 (by decide), fx_u_ne (by decide)]
                · rw [fx_u_ne (by decide), a1' 56 (by decide), fx_u_ne (by decide)]
                · rw [fx_u_ne (by decide), a1' 57 (by decide), fx_u_ne (by decide)]
                · rw [fx_u_ne (by decide), a1' 58 (by decide), fx_u_ne (by decide)]
                · rw [fx_u_at, if_neg (fun z => absurd z.2 (by decide)), a2' 3 (by decide) (by decide), fx_u_at, if_neg (fun z => absurd z.2 (by decide))]
                · rw [fx_u_at, if_neg (fun z => absurd z.2 (by decide)), a2' 1 (by decide) (by decide), fx_u_at, if_neg (fun z => absurd z.2 (by decide))]
                · rw [c1 46 (by decide), k1 46 (by decide), fx_u_ne (by decide), a1' 46 (by decide), fx_u_ne (by decide)]
              · rw [nI_leI (by omega) (by omega)] at h84
                refine G_aload_n F dX8_arrange_87 rfl ?_
                refine G_getr F fl_X8_81 dX8_arrange_88 rfl rfl ?_
                refine G_iload_n F dX8_arrange_91 rfl ?_
                refine G_iconst (v := -1) F dX8_arrange_92 rfl ?_
                refine G_iastN F dX8_arrange_93 rfl (by omega) (by decide) ?_
                refine G_aload_n F dX8_arrange_94 rfl ?_
                refine G_getr F fl_X8_84 dX8_arrange_95 rfl rfl ?_
                refine G_iload_n F dX8_arrange_98 rfl ?_
                refine G_iconst (v := -1) F dX8_arrange_99 rfl ?_
                refine G_iastN F dX8_arrange_100 rfl (by omega) (by decide) ?_
                refine G_iinc F (1) dX8_arrange_101 rfl rfl rfl rfl ?_
                simp only [List.set_cons_zero, List.set_cons_succ, nI_1]
                refine G_goto (tgt := 81) F dX8_arrange_104 (by decide) ?_
                refine ih (16 - (i + 1)) (by omega) (i + 1) _ rfl (by omega) ((c1.u (by decide)).u (by decide)) (fun b hb => ?_)
                by_cases e : b = i
                · subst e; simp [fx_u_at]
                · have := c2 b (by omega); simp [fx_u_at, e, this]
          refine G_iconst (v := nI 0) F dX8_arrange_79 (by decide) ?_
          refine G_istore_n F 3 dX8_arrange_80 rfl rfl rfl (Nat.le_of_ble_eq_true rfl) ?_
          simp only [List.set_cons_zero, List.set_cons_succ]
          exact lpA 16 0 M76 rfl (by omega) fr.rfl (fun b hb => absurd hb (by omega))
        · exact absurd rfl h70 --stop
      have t63b : mt = 2 → 7 < (hcn (hob (M 43) cold) N) → GG X ad 63 [some (.ref (ad 37)), some (.int mt), some (.int cold), none, none] [.int 2, .ref (ad 37)] 0 0 (c_C sw ++ (m_C ++ tl)) M40 := by
        intro e1 e2
        refine G_puti F fl_X8_103 dX8_arrange_63 rfl rfl rfl rfl ?_
        refine G_aload_n F dX8_arrange_66 rfl ?_
        refine G_geti F fl_X8_103 dX8_arrange_67 rfl rfl ?_
        try simp only [fx_u_at, Nat.reduceEqDiff, false_and, and_false, true_and, and_true, ↓reduceIte]
        refine G_if_eq (tgt := 75) F dX8_arrange_70 (by decide) (fun h70 => ?_) (fun h70 => ?_)
        · exact absurd h70 (by decide) --stop
        · skip
          refine G_iconst (v := 0) F dX8_arrange_73 rfl ?_
          refine G_iret F Rt dX8_arrange_74 (rfl) ⟨rfl, rfl, _, rfl, ?_⟩ (Nat.le_refl _) (Nat.le_refl _)
          exact Or.inr (Or.inl ⟨hrng, e1, e2, fun k hk => by have hk' := hk; simp only [List.mem_cons, List.not_mem_nil, or_false] at hk'; rw [fx_u_ne hk', a1' k hk, fx_u_ne hk'], fun j b1 b2 b3 => by rw [fx_u_at, if_neg (fun z => b1 z.2), a2' j b2 b3, fx_u_at, if_neg (fun z => b1 z.2)], by rw [fx_u_at, if_pos ⟨rfl, rfl⟩]⟩)
      refine G_aload_n F dX8_arrange_43 rfl ?_
      refine G_iload_n F dX8_arrange_44 rfl ?_
      refine G_iconst (v := 2) F dX8_arrange_45 rfl ?_
      refine G_icmp_ne (tgt := 62) F dX8_arrange_46 (by decide) (fun h46 => ?_) (fun h46 => ?_)
      · skip
        refine G_iconst (v := 0) F dX8_arrange_62 rfl ?_
        exact t63a (fun z => h46 z.1)
      · skip
        refine G_aload_n F dX8_arrange_49 rfl ?_
        refine G_geti F fl_X8_232 dX8_arrange_50 rfl rfl ?_
        refine G_bipush (v := nI 7) F dX8_arrange_53 (by decide) ?_
        refine G_icmp_le (tgt := 62) F dX8_arrange_55 (by decide) (fun h55 => ?_) (fun h55 => ?_)
        · rw [a3', nI_leI (by omega) (by omega)] at h55
          refine G_iconst (v := 0) F dX8_arrange_62 rfl ?_
          exact t63a (fun z => by omega)
        · rw [a3', nI_leI (by omega) (by omega)] at h55
          refine G_iconst (v := 2) F dX8_arrange_58 rfl ?_
          refine G_goto (tgt := 63) F dX8_arrange_59 (by decide) ?_
          exact t63b h46 (by omega)
    · exact absurd rfl h33 --stop
  have t1 : ¬ (0 ≤ mt ∧ mt ≤ 2 ∧ -1 ≤ cold ∧ cold ≤ 9999) → GG X ad 26 [some (.ref (ad 37)), some (.int mt), some (.int cold), none, none] [.int 1, .ref (ad 37)] 0 0 (c_C sw ++ (m_C ++ tl)) M := by
    intro hn
    refine G_puti F fl_X8_103 dX8_arrange_26 rfl rfl rfl rfl ?_
    refine G_aload_n F dX8_arrange_29 rfl ?_
    refine G_geti F fl_X8_103 dX8_arrange_30 rfl rfl ?_
    try simp only [fx_u_at, Nat.reduceEqDiff, false_and, and_false, true_and, and_true, ↓reduceIte]
    refine G_if_eq (tgt := 38) F dX8_arrange_33 (by decide) (fun h33 => ?_) (fun h33 => ?_)
    · exact absurd h33 (by decide) --stop
    · skip
      refine G_iconst (v := 0) F dX8_arrange_36 rfl ?_
      refine G_iret F Rt dX8_arrange_37 (rfl) ⟨rfl, rfl, _, rfl, ?_⟩ (Nat.le_refl _) (Nat.le_refl _)
      exact Or.inl ⟨hn, rfl⟩
  refine G_aload_n F dX8_arrange_0 rfl ?_
  refine G_iload_n F dX8_arrange_1 rfl ?_
  refine G_iconst (v := 0) F dX8_arrange_2 rfl ?_
  refine G_iconst (v := 2) F dX8_arrange_3 rfl ?_
  refine G_sI F ms_X8_109 dX8_arrange_4 (t_isIn hl ad _ M mt 0 2) rfl rfl (Nat.le_of_ble_eq_true rfl) ⟨Nat.le_of_ble_eq_true rfl, Nat.le_of_ble_eq_true rfl, Nat.le_of_ble_eq_true rfl, Nat.le_of_ble_eq_true rfl⟩ (fun r4 M4 h4 => ?_)
  rw [h4.1, h4.2]
  refine G_if_eq (tgt := 25) F dX8_arrange_7 (by decide) (fun h7 => ?_) (fun h7 => ?_)
  · have q7 : ¬ (0 ≤ mt ∧ mt ≤ 2) := by simpa using h7
    refine G_iconst (v := 1) F dX8_arrange_25 rfl ?_
    first | exact t0 ⟨q7.1, q7.2, q18.1, q18.2⟩ | exact t1 (fun z => q7 ⟨z.1, z.2.1⟩) | exact t1 (fun z => q18 ⟨z.2.2.1, z.2.2.2⟩)
  · have q7 : 0 ≤ mt ∧ mt ≤ 2 := by simpa using h7
    refine G_iload_n F dX8_arrange_10 rfl ?_
    refine G_iconst (v := -1) F dX8_arrange_11 rfl ?_
    refine G_sipush (v := 9999) F dX8_arrange_12 rfl ?_
    refine G_sI F ms_X8_109 dX8_arrange_15 (t_isIn hl ad _ M cold (-1) 9999) rfl rfl (Nat.le_of_ble_eq_true rfl) ⟨Nat.le_of_ble_eq_true rfl, Nat.le_of_ble_eq_true rfl, Nat.le_of_ble_eq_true rfl, Nat.le_of_ble_eq_true rfl⟩ (fun r15 M15 h15 => ?_)
    rw [h15.1, h15.2]
    refine G_if_eq (tgt := 25) F dX8_arrange_18 (by decide) (fun h18 => ?_) (fun h18 => ?_)
    · have q18 : ¬ (-1 ≤ cold ∧ cold ≤ 9999) := by simpa using h18
      refine G_iconst (v := 1) F dX8_arrange_25 rfl ?_
      first | exact t0 ⟨q7.1, q7.2, q18.1, q18.2⟩ | exact t1 (fun z => q7 ⟨z.1, z.2.1⟩) | exact t1 (fun z => q18 ⟨z.2.2.1, z.2.2.2⟩)
    · have q18 : -1 ≤ cold ∧ cold ≤ 9999 := by simpa using h18
      refine G_iconst (v := 0) F dX8_arrange_21 rfl ?_
      refine G_goto (tgt := 26) F dX8_arrange_22 (by decide) ?_
      first | exact t0 ⟨q7.1, q7.2, q18.1, q18.2⟩ | exact t1 (fun z => q7 ⟨z.1, z.2.1⟩) | exact t1 (fun z => q18 ⟨z.2.2.1, z.2.2.2⟩)
