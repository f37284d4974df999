/-! THE REFERENCE: joins by gains -/
section Rg
variable (N : Nat) (ho : Nat → Bool) (kd f s w1 w2 : Nat → Int32) (q : (Nat → Int32) × (Nat → Int32))
/-- what a pair gains, 0 if it may not be joined -/
def rgv (a b : Nat) : Int32 := if pf_cj (nI N) (hrw ho) q.1 q.2 a (nI b) = true then gnp kd f s w1 w2 0 a (nI b) else 0
def rgs (a b : Nat) (y : Int32 × Int32 × Int32) : Int32 × Int32 × Int32 := if y.1 < rgv N ho kd f s w1 w2 q a b then (rgv N ho kd f s w1 w2 q a b, nI a, nI b) else y
end Rg
theorem gnp_0 {N : Nat} {kd f s w1 w2 : Nat → Int32} (hN : N ≤ 16) (hv : pv N kd f s) (hz : zw N kd w1 w2) {a b : Nat} (ha : a < N) (hb : b < N) (h1 : f a ≠ nI b) (h2 : s a ≠ nI b) : gnp kd f s w1 w2 0 a (nI b) = 0 := by
  have z := hz a ha
  have hm : ∀ x, x < N → ¬ nI x = -1 := fun x hx => nI_m1 (by omega)
  have hs : pf_cc kd f s w1 w2 a (-1) = pf_cc kd f s w1 w2 a (nI b) := by
    unfold pf_cc
    rcases hv a ha with ⟨p1, p2, p3⟩ | ⟨p1, ⟨x, x1, x2⟩, p3⟩ | ⟨p1, ⟨x, x1, x2⟩, ⟨y, y1, y2⟩, p4⟩
    · rw [z.1 p1, z.2 (by rw [p1]; decide)]; simp
    · rw [z.2 (by rw [p1]; decide)]
      have e1 : pf_ed kd a (f a) (-1) = pf_ed kd a (f a) (nI b) := by
        unfold pf_ed
        rw [if_pos p1, if_pos p1, if_neg (show ¬ f a = -1 by rw [x2]; exact hm x x1), if_neg (show ¬ f a = nI b from h1)]
      rw [e1]; simp
    · have e1 : pf_ed kd a (f a) (-1) = pf_ed kd a (f a) (nI b) := by
        unfold pf_ed
        rw [if_neg (show ¬ f a = -1 by rw [x2]; exact hm x x1), if_neg (show ¬ f a = nI b from h1), if_neg (show ¬ f a = -1 by rw [x2]; exact hm x x1), if_neg (show ¬ f a = nI b from h1)]
      have e2 : pf_ed kd a (s a) (-1) = pf_ed kd a (s a) (nI b) := by
        unfold pf_ed
        rw [if_neg (show ¬ s a = -1 by rw [y2]; exact hm y y1), if_neg (show ¬ s a = nI b from h2), if_neg (show ¬ s a = -1 by rw [y2]; exact hm y y1), if_neg (show ¬ s a = nI b from h2)]
      rw [e1, e2]
  unfold gnp
  rw [if_pos rfl, hs, Int32.sub_self]
theorem rgs_ne {N : Nat} {ho : Nat → Bool} {kd f s w1 w2 : Nat → Int32} {q : (Nat → Int32) × (Nat → Int32)} (hN : N ≤ 16) (hv : pv N kd f s) (hz : zw N kd w1 w2) {a b : Nat} (ha : a < N) (hb : b < N) (h1 : f a ≠ nI b) (h2 : s a ≠ nI b) {y : Int32 × Int32 × Int32} (hy : 0 ≤ y.1) : rgs N ho kd f s w1 w2 q a b y = y := by
  have e : rgv N ho kd f s w1 w2 q a b = 0 := by
    unfold rgv
    rw [gnp_0 hN hv hz ha hb h1 h2, ite_self]
  unfold rgs
  rw [e, if_neg]
  intro w
  rw [Int32.lt_iff_toInt_lt] at w
  rw [Int32.le_iff_toInt_le] at hy
  omega
theorem rgs_jw {N : Nat} {ho : Nat → Bool} {kd f s w1 w2 : Nat → Int32} {q : (Nat → Int32) × (Nat → Int32)} {a b : Nat} {y : Int32 × Int32 × Int32} (hy : 0 ≤ y.1) : rgs N ho kd f s w1 w2 q a b y = jw (pf_cj (nI N) (hrw ho) q.1 q.2) (gnp kd f s w1 w2 0) y a (nI b) := by
  unfold rgs jw rgv
  by_cases c : pf_cj (nI N) (hrw ho) q.1 q.2 a (nI b) = true
  · rw [if_pos c]
    by_cases d : y.1 < gnp kd f s w1 w2 0 a (nI b)
    · rw [if_pos d, if_pos ⟨c, d⟩]
    · rw [if_neg d, if_neg (fun z => d z.2)]
  · have hny : ¬ y.1 < 0 := by
      intro w
      rw [Int32.lt_iff_toInt_lt] at w
      rw [Int32.le_iff_toInt_le] at hy
      omega
    rw [if_neg c, if_neg hny, if_neg (fun z => c z.1)]
theorem rgs_pos {N : Nat} {ho : Nat → Bool} {kd f s w1 w2 : Nat → Int32} {q : (Nat → Int32) × (Nat → Int32)} {a b : Nat} {y : Int32 × Int32 × Int32} (h : y.1 < rgv N ho kd f s w1 w2 q a b) : rgs N ho kd f s w1 w2 q a b y = (rgv N ho kd f s w1 w2 q a b, nI a, nI b) := if_pos h
theorem rgs_neg {N : Nat} {ho : Nat → Bool} {kd f s w1 w2 : Nat → Int32} {q : (Nat → Int32) × (Nat → Int32)} {a b : Nat} {y : Int32 × Int32 × Int32} (h : ¬ y.1 < rgv N ho kd f s w1 w2 q a b) : rgs N ho kd f s w1 w2 q a b y = y := if_neg h
theorem jw_nn {cj : Nat → Int32 → Bool} {gn : Nat → Int32 → Int32} {y : Int32 × Int32 × Int32} {a : Nat} {t : Int32} (hy : 0 ≤ y.1) : 0 ≤ (jw cj gn y a t).1 := by
  unfold jw
  split
  · rename_i h
    have := h.2
    show 0 ≤ gn a t
    rw [Int32.lt_iff_toInt_lt] at this
    rw [Int32.le_iff_toInt_le] at hy ⊢
    omega
  · exact hy
theorem jw_m1 {N : Nat} {hr bh ch : Nat → Int32} {gn : Nat → Int32 → Int32} {y : Int32 × Int32 × Int32} {a : Nat} : jw (pf_cj (nI N) hr bh ch) gn y a (-1) = y := by
  unfold jw
  rw [cj_m1, if_neg (fun z => Bool.noConfusion z.1)]
/-- all blocks tried are the two targets tried, the lower one first -/
theorem rgs_all {N : Nat} {ho : Nat → Bool} {kd f s w1 w2 : Nat → Int32} {q : (Nat → Int32) × (Nat → Int32)} (hN : N ≤ 16) (hv : pv N kd f s) (hz : zw N kd w1 w2) {a : Nat} (ha : a < N) {x : Int32 × Int32 × Int32} (hx : 0 ≤ x.1) : fl (rgs N ho kd f s w1 w2 q a) N x = jw (pf_cj (nI N) (hrw ho) q.1 q.2) (gnp kd f s w1 w2 0) (jw (pf_cj (nI N) (hrw ho) q.1 q.2) (gnp kd f s w1 w2 0) x a (if ldp f s 0 a then f a else s a)) a (if ldp f s 0 a then s a else f a) := by
  have hm : ∀ x, x < N → ¬ nI x = -1 := fun x hx => nI_m1 (by omega)
  have heq : ∀ x y, x < N → y < N → nI x = nI y → x = y := fun x y hx hy h => (nI_eq (by omega) (by omega)).mp h
  have hld : ldp f s 0 a = decide (f a < s a) := by simp [ldp]
  have none_ : ∀ n, n ≤ N → (∀ b, b < n → f a ≠ nI b ∧ s a ≠ nI b) → fl (rgs N ho kd f s w1 w2 q a) n x = x := by
    intro n
    induction n with
    | zero => intro _ _; rfl
    | succ n ih =>
      intro hn h
      show rgs N ho kd f s w1 w2 q a n (fl (rgs N ho kd f s w1 w2 q a) n x) = x
      rw [ih (by omega) (fun b hb => h b (by omega))]
      exact rgs_ne hN hv hz ha (by omega) (h n (by omega)).1 (h n (by omega)).2 hx
  have one_ : ∀ p, p < N → ∀ n, p < n → n ≤ N → (∀ b, b < n → b ≠ p → f a ≠ nI b ∧ s a ≠ nI b) → fl (rgs N ho kd f s w1 w2 q a) n x = jw (pf_cj (nI N) (hrw ho) q.1 q.2) (gnp kd f s w1 w2 0) x a (nI p) := by
    intro p hp n
    induction n with
    | zero => intro h; omega
    | succ n ih =>
      intro h1 h2 h3
      show rgs N ho kd f s w1 w2 q a n (fl (rgs N ho kd f s w1 w2 q a) n x) = _
      by_cases e : p = n
      · subst e
        rw [none_ p (by omega) (fun b hb => h3 b (by omega) (by omega))]
        exact rgs_jw hx
      · rw [ih (by omega) (by omega) (fun b hb => h3 b (by omega))]
        exact rgs_ne hN hv hz ha (by omega) (h3 n (by omega) (fun z => e z.symm)).1 (h3 n (by omega) (fun z => e z.symm)).2 (jw_nn hx)
  have two_ : ∀ p r, p < r → r < N → ∀ n, r < n → n ≤ N → (∀ b, b < n → b ≠ p → b ≠ r → f a ≠ nI b ∧ s a ≠ nI b) → fl (rgs N ho kd f s w1 w2 q a) n x = jw (pf_cj (nI N) (hrw ho) q.1 q.2) (gnp kd f s w1 w2 0) (jw (pf_cj (nI N) (hrw ho) q.1 q.2) (gnp kd f s w1 w2 0) x a (nI p)) a (nI r) := by
    intro p r hpr hr n
    induction n with
    | zero => intro h; omega
    | succ n ih =>
      intro h1 h2 h3
      show rgs N ho kd f s w1 w2 q a n (fl (rgs N ho kd f s w1 w2 q a) n x) = _
      by_cases e : r = n
      · subst e
        rw [one_ p (by omega) r (by omega) (by omega) (fun b hb hne => h3 b (by omega) hne (by omega))]
        exact rgs_jw (jw_nn hx)
      · rw [ih (by omega) (by omega) (fun b hb => h3 b (by omega))]
        exact rgs_ne hN hv hz ha (by omega) (h3 n (by omega) (by omega) (fun z => e z.symm)).1 (h3 n (by omega) (by omega) (fun z => e z.symm)).2 (jw_nn (jw_nn hx))
  rcases hv a ha with ⟨p1, p2, p3⟩ | ⟨p1, ⟨x1, x2, x3⟩, p3⟩ | ⟨p1, ⟨x1, x2, x3⟩, ⟨y1, y2, y3⟩, p4⟩
  · rw [none_ N (Nat.le_refl N) (fun b hb => ⟨by rw [p2]; exact fun z => hm b hb z.symm, by rw [p3]; exact fun z => hm b hb z.symm⟩), p2, p3, ite_self, jw_m1, jw_m1]
  · have hl : ldp f s 0 a = false := by
      rw [hld, decide_eq_false_iff_not, p3, x3]
      intro w
      rw [Int32.lt_iff_toInt_lt, nI_toInt (by omega)] at w
      have : (-1 : Int32).toInt = -1 := by decide
      omega
    rw [one_ x1 x2 N x2 (Nat.le_refl N) (fun b hb hne => ⟨by rw [x3]; exact fun z => hne (heq _ _ x2 hb z).symm, by rw [p3]; exact fun z => hm b hb z.symm⟩), hl]
    simp only [Bool.false_eq_true, if_false]
    rw [p3, jw_m1, x3]
  · have hne : x1 ≠ y1 := fun z => p4 (by rw [x3, y3, z])
    by_cases hlt : x1 < y1
    · have hl : ldp f s 0 a = true := by rw [hld, decide_eq_true_eq, x3, y3, nI_ltI (by omega) (by omega)]; exact hlt
      rw [two_ x1 y1 hlt y2 N y2 (Nat.le_refl N) (fun b hb e1 e2 => ⟨by rw [x3]; exact fun z => e1 (heq _ _ x2 hb z).symm, by rw [y3]; exact fun z => e2 (heq _ _ y2 hb z).symm⟩), hl]
      simp only [if_true]
      rw [x3, y3]
    · have hl : ldp f s 0 a = false := by rw [hld, decide_eq_false_iff_not, x3, y3, nI_ltI (by omega) (by omega)]; exact hlt
      rw [two_ y1 x1 (by omega) x2 N x2 (Nat.le_refl N) (fun b hb e1 e2 => ⟨by rw [x3]; exact fun z => e2 (heq _ _ x2 hb z).symm, by rw [y3]; exact fun z => e1 (heq _ _ y2 hb z).symm⟩), hl]
      simp only [Bool.false_eq_true, if_false]
      rw [x3, y3]
section Gk
variable (N : Nat) (ho : Nat → Bool) (kd f s w1 w2 : Nat → Int32)
/-- the chains behind r joins by gains -/
def pkg (r : Nat) : (Nat → Int32) × (Nat → Int32) := pk N (hrw ho) (gnp kd f s w1 w2 0) (ldp f s 0) f s r
/-- the best pair of the first n blocks -/
def rgj (q : (Nat → Int32) × (Nat → Int32)) (n : Nat) : Int32 × Int32 × Int32 := jf (pf_cj (nI N) (hrw ho) q.1 q.2) (gnp kd f s w1 w2 0) (ldp f s 0) f s (0, -1, -1) n
end Gk
theorem rgj_nn {N : Nat} {ho : Nat → Bool} {kd f s w1 w2 : Nat → Int32} {q : (Nat → Int32) × (Nat → Int32)} (n : Nat) : 0 ≤ (rgj N ho kd f s w1 w2 q n).1 := (jf_ok rfl n).1
theorem rgj_succ {N : Nat} {ho : Nat → Bool} {kd f s w1 w2 : Nat → Int32} {q : (Nat → Int32) × (Nat → Int32)} (hN : N ≤ 16) (hv : pv N kd f s) (hz : zw N kd w1 w2) {n : Nat} (hn : n < N) : fl (rgs N ho kd f s w1 w2 q n) N (rgj N ho kd f s w1 w2 q n) = rgj N ho kd f s w1 w2 q (n + 1) := rgs_all hN hv hz hn (rgj_nn n)
theorem rgj_best {N : Nat} {ho : Nat → Bool} {kd f s w1 w2 : Nat → Int32} {r : Nat} (hN : N ≤ 16) (h : 0 < (rgj N ho kd f s w1 w2 (pkg N ho kd f s w1 w2 r) N).1) : ∃ a y, a < N ∧ y < N ∧ pf_cj (nI N) (hrw ho) (pkg N ho kd f s w1 w2 r).1 (pkg N ho kd f s w1 w2 r).2 a (nI y) = true ∧ (rgj N ho kd f s w1 w2 (pkg N ho kd f s w1 w2 r) N).2 = (nI a, nI y) ∧ pkg N ho kd f s w1 w2 (r + 1) = (upd (pkg N ho kd f s w1 w2 r).1 a (nI y), fun b => if (pkg N ho kd f s w1 w2 r).2 b = nI y then (pkg N ho kd f s w1 w2 r).2 a else (pkg N ho kd f s w1 w2 r).2 b) := by
  obtain ⟨a, t, a1, -, a3, a4⟩ := (jf_ok (cj := pf_cj (nI N) (hrw ho) (pkg N ho kd f s w1 w2 r).1 (pkg N ho kd f s w1 w2 r).2) (gn := gnp kd f s w1 w2 0) (ld := ldp f s 0) (f := f) (s := s) (x0 := (0, -1, -1)) rfl N).2 h
  obtain ⟨y, y0, y1, y2, -⟩ := pf_cj_spec hN a4
  subst y2
  have hX : rgj N ho kd f s w1 w2 (pkg N ho kd f s w1 w2 r) N = (gnp kd f s w1 w2 0 a (nI y), nI a, nI y) := a3
  refine ⟨a, y, a1, y1, a4, by rw [hX], ?_⟩
  have ht := jf_tail (cj := pf_cj (nI N) (hrw ho) (pkg N ho kd f s w1 w2 r).1 (pkg N ho kd f s w1 w2 r).2) (gn := gnp kd f s w1 w2 0) (ld := ldp f s 0) (f := f) (s := s) (x0 := (0, -1, -1)) (y0 := (0, 0, 0)) rfl N
  have hpj : pj N (hrw ho) (gnp kd f s w1 w2 0) (ldp f s 0) f s (pkg N ho kd f s w1 w2 r) = (gnp kd f s w1 w2 0 a (nI y), nI a, nI y) := by
    rcases ht.2 with z | z
    · exact z.symm.trans a3
    · exfalso
      have := z.1
      unfold rgj at h
      rw [this] at h
      exact absurd h (by decide)
  show pn N (hrw ho) (gnp kd f s w1 w2 0) (ldp f s 0) f s (pkg N ho kd f s w1 w2 r) = _
  unfold pn
  rw [hX] at h
  rw [hpj, if_pos h]
  dsimp only
  rw [nI_clamp (by omega)]
theorem pkg_end {N : Nat} {ho : Nat → Bool} {kd f s w1 w2 : Nat → Int32} {r : Nat} (h : ¬ 0 < (rgj N ho kd f s w1 w2 (pkg N ho kd f s w1 w2 r) N).1) (hr : r ≤ 16) : pkg N ho kd f s w1 w2 16 = pkg N ho kd f s w1 w2 r := by
  have ht := (jf_tail (cj := pf_cj (nI N) (hrw ho) (pkg N ho kd f s w1 w2 r).1 (pkg N ho kd f s w1 w2 r).2) (gn := gnp kd f s w1 w2 0) (ld := ldp f s 0) (f := f) (s := s) (x0 := (0, -1, -1)) (y0 := (0, 0, 0)) rfl N).1
  have := pk_fix (N := N) (ho := hrw ho) (gn := gnp kd f s w1 w2 0) (ld := ldp f s 0) (f := f) (s := s) (r := r) (by
    intro w
    apply h
    have w2 : 0 < (jf (pf_cj (nI N) (hrw ho) (pkg N ho kd f s w1 w2 r).1 (pkg N ho kd f s w1 w2 r).2) (gnp kd f s w1 w2 0) (ldp f s 0) f s (0, 0, 0) N).1 := w
    rw [← ht] at w2
    exact w2) (16 - r)
  rw [show r + (16 - r) = 16 from by omega] at this
  exact this
set_option maxRecDepth 20000 in
theorem t_joinsByGains {l : Launch} {Z : fx_Z} (hl : l.stackTraces = false) (ad : Nat → Nat) (sw : Bool) (tl : List fx_Sh) (M : fx_M) {N : Nat} (hN : M 37 0 = nI N) (hN16 : N ≤ 16) (hN1 : 1 ≤ N) (hv : pv N (M 39) (M 40) (M 41)) (hz : zw N (M 39) (M 44) (M 45)) {ho : Nat → Bool} (hho : ∀ b, b < N → bt (M 37 34) b = ho b) (h59 : ∀ b, b < N → M 59 b = -1 ∧ M 60 b = -1) : CV l Z yX8_joinsByGains (.code yX8_joinsByGains cX8_joinsByGains 7 none) 2 [.ref (ad 37)] ad (c_C sw ++ (m_C ++ tl)) M (fun m => fr [59, 60] M m ∧ v_C N ho m (pkg N ho (M 39) (M 40) (M 41) (M 44) (M 45) 16)) := by
  refine CT_of (ret := none) (lv0 := [some (.ref (ad 37)), none, none, none, none, none, none]) (by decide +kernel) hl (by simp [Value.category]) (Nat.le_of_ble_eq_true rfl) rfl ?_
  intro X F Rt _
  have hC0 : v_C N ho M (pkg N ho (M 39) (M 40) (M 41) (M 44) (M 45) 0) := ⟨fun b => b, fun _ => 0, cgd_0 hN16, fun b hb => ⟨rfl, hb⟩, rfl, fun b hb => (h59 b hb).1, fun b hb => Or.inl ⟨rfl, (h59 b hb).2⟩⟩
  have hcn0 : hcn (fun b => !decide ((pkg N ho (M 39) (M 40) (M 41) (M 44) (M 45) 0).1 b = -1)) N = 0 := by
    have e : (fun b : Nat => !decide ((pkg N ho (M 39) (M 40) (M 41) (M 44) (M 45) 0).1 b = -1)) = fun _ => false := by
      funext b
      show (!decide ((-1 : Int32) = -1)) = false
      decide
    rw [e]; exact hcn_false N
  have tend : ∀ (M' : fx_M) (g : Int32), ¬ 0 < g → fr [59, 60] M M' → ∀ r, r ≤ 16 → v_C N ho M' (pkg N ho (M 39) (M 40) (M 41) (M 44) (M 45) r) → ¬ 0 < (rgj N ho (M 39) (M 40) (M 41) (M 44) (M 45) (pkg N ho (M 39) (M 40) (M 41) (M 44) (M 45) r) N).1 → GG X ad 2 [some (.ref (ad 37)), some (.int g), none, none, none, none, none] [] 0 0 (c_C sw ++ (m_C ++ tl)) M' := by
    intro M' g hg g1 r hr iC hf
    refine G_iload_n F dX8_joinsByGains_2 rfl ?_
    refine G_if_le (tgt := 116) F dX8_joinsByGains_3 (by decide) (fun h3 => ?_) (fun h3 => ?_)
    · skip
      refine G_vret F Rt dX8_joinsByGains_116 ⟨rfl, rfl, rfl, ?_⟩ (Nat.le_refl _) (Nat.le_refl _)
      exact ⟨g1, by rw [pkg_end hf hr]; exact iC⟩
    · exact absurd (by rw [Int32.lt_iff_toInt_lt] at hg; rw [Int32.le_iff_toInt_le]; omega) h3 --stop
  have lp : ∀ (k : Nat) (M' : fx_M) (g : Int32) (r : Nat), k = 17 - r → 0 < g → fr [59, 60] M M' → v_C N ho M' (pkg N ho (M 39) (M 40) (M 41) (M 44) (M 45) r) → hcn (fun b => !decide ((pkg N ho (M 39) (M 40) (M 41) (M 44) (M 45) r).1 b = -1)) N = r → GG X ad 2 [some (.ref (ad 37)), some (.int g), none, none, none, none, none] [] 0 0 (c_C sw ++ (m_C ++ tl)) M' := by
    intro k
    induction k using Nat.strongRecOn with
    | _ k ih =>
      intro M' g r hk hg g1 iC i2
      obtain ⟨fo, rk, c1, c2, c3, c4, c5⟩ := id iC
      have hN9 : M' 37 0 = nI N := by rw [g1 37 (by decide)]; exact hN
      have hrl : r ≤ 16 := by rw [← i2]; exact Nat.le_trans (hcn_le N) hN16
      have t103 : GG X ad 103 [some (.ref (ad 37)), some (.int (rgj N ho (M 39) (M 40) (M 41) (M 44) (M 45) (pkg N ho (M 39) (M 40) (M 41) (M 44) (M 45) r) N).1), some (.int (rgj N ho (M 39) (M 40) (M 41) (M 44) (M 45) (pkg N ho (M 39) (M 40) (M 41) (M 44) (M 45) r) N).2.1), some (.int (rgj N ho (M 39) (M 40) (M 41) (M 44) (M 45) (pkg N ho (M 39) (M 40) (M 41) (M 44) (M 45) r) N).2.2), some (.int (nI N)), none, none] [] 0 0 (c_C sw ++ (m_C ++ tl)) M' := by
        refine G_iload_n F dX8_joinsByGains_103 rfl ?_
        refine G_if_le (tgt := 113) F dX8_joinsByGains_104 (by decide) (fun h104 => ?_) (fun h104 => ?_)
        · have f : ¬ 0 < (rgj N ho (M 39) (M 40) (M 41) (M 44) (M 45) (pkg N ho (M 39) (M 40) (M 41) (M 44) (M 45) r) N).1 := by
            rw [Int32.le_iff_toInt_le] at h104
            rw [Int32.lt_iff_toInt_lt]
            omega
          refine G_goto (tgt := 2) F dX8_joinsByGains_113 (by decide) ?_
          refine G_drop F 2 ?_
          refine G_drop F 3 ?_
          refine G_drop F 4 ?_
          refine G_drop F 5 ?_
          refine G_drop F 6 ?_
          simp only [List.set_cons_zero, List.set_cons_succ]
          refine tend M' _ f g1 r (by rw [← i2]; exact Nat.le_trans (hcn_le N) hN16) iC f
        · have f : 0 < (rgj N ho (M 39) (M 40) (M 41) (M 44) (M 45) (pkg N ho (M 39) (M 40) (M 41) (M 44) (M 45) r) N).1 := by
            rw [Int32.le_iff_toInt_le] at h104
            rw [Int32.lt_iff_toInt_lt]
            omega
          obtain ⟨a2, y2, d1, d2, d3, d4, d5⟩ := rgj_best hN16 f
          rw [d4]
          refine G_aload_n F dX8_joinsByGains_107 rfl ?_
          refine G_iload_n F dX8_joinsByGains_108 rfl ?_
          refine G_iload_n F dX8_joinsByGains_109 rfl ?_
          refine G_vv F mv_X8_225 dX8_joinsByGains_110 (t_joins hl ad sw tl M' (a := a2) (y := y2) (by omega) (by omega)) rfl rfl rfl rfl (Nat.le_of_ble_eq_true rfl) ⟨Nat.le_of_ble_eq_true rfl, Nat.le_of_ble_eq_true rfl, Nat.le_of_ble_eq_true rfl, Nat.le_of_ble_eq_true rfl⟩ (fun M110 h110 => ?_)
          rw [h110]
          refine G_goto (tgt := 2) F dX8_joinsByGains_113 (by decide) ?_
          refine G_drop F 2 ?_
          refine G_drop F 3 ?_
          refine G_drop F 4 ?_
          refine G_drop F 5 ?_
          refine G_drop F 6 ?_
          simp only [List.set_cons_zero, List.set_cons_succ]
          have hj := d3
          rw [cj_jnb hN16 c2 d1 d2, jnb_iff] at hj
          have hc9 : hcn (fun b => !decide ((pkg N ho (M 39) (M 40) (M 41) (M 44) (M 45) (r + 1)).1 b = -1)) N = r + 1 := by rw [d5]; rw [hcn_join hN16 d1 d2 hj.2.2.2.1, i2]
          have hr9 : r + 1 ≤ 16 := by rw [← hc9]; exact Nat.le_trans (hcn_le N) hN16
          exact ih (17 - (r + 1)) (by omega) _ _ (r + 1) rfl f ((g1.u (by decide)).u (by decide)) (by rw [d5]; exact v_C_join hN16 iC d1 d2 d3) hc9
      have lp2 : ∀ (k : Nat) (a : Nat), k = N - a → a ≤ N → GG X ad 15 [some (.ref (ad 37)), some (.int (rgj N ho (M 39) (M 40) (M 41) (M 44) (M 45) (pkg N ho (M 39) (M 40) (M 41) (M 44) (M 45) r) a).1), some (.int (rgj N ho (M 39) (M 40) (M 41) (M 44) (M 45) (pkg N ho (M 39) (M 40) (M 41) (M 44) (M 45) r) a).2.1), some (.int (rgj N ho (M 39) (M 40) (M 41) (M 44) (M 45) (pkg N ho (M 39) (M 40) (M 41) (M 44) (M 45) r) a).2.2), some (.int (nI a)), none, none] [] 0 0 (c_C sw ++ (m_C ++ tl)) M' := by
        intro k
        induction k using Nat.strongRecOn with
        | _ k ih2 =>
          intro a hk2 ha
          refine G_iload F dX8_joinsByGains_15 rfl ?_
          refine G_aload_n F dX8_joinsByGains_17 rfl ?_
          refine G_geti F fl_X8_106 dX8_joinsByGains_18 rfl rfl ?_
          rw [hN9]
          refine G_icmp_ge (tgt := 103) F dX8_joinsByGains_21 (by decide) (fun h21 => ?_) (fun h21 => ?_)
          · rw [nI_leI (by omega) (by omega)] at h21
            have haN : a = N := by omega
            subst haN
            exact t103
          · rw [nI_leI (by omega) (by omega)] at h21
            have t97 : GG X ad 97 [some (.ref (ad 37)), some (.int (fl (rgs N ho (M 39) (M 40) (M 41) (M 44) (M 45) (pkg N ho (M 39) (M 40) (M 41) (M 44) (M 45) r) a) N (rgj N ho (M 39) (M 40) (M 41) (M 44) (M 45) (pkg N ho (M 39) (M 40) (M 41) (M 44) (M 45) r) a)).1), some (.int (fl (rgs N ho (M 39) (M 40) (M 41) (M 44) (M 45) (pkg N ho (M 39) (M 40) (M 41) (M 44) (M 45) r) a) N (rgj N ho (M 39) (M 40) (M 41) (M 44) (M 45) (pkg N ho (M 39) (M 40) (M 41) (M 44) (M 45) r) a)).2.1), some (.int (fl (rgs N ho (M 39) (M 40) (M 41) (M 44) (M 45) (pkg N ho (M 39) (M 40) (M 41) (M 44) (M 45) r) a) N (rgj N ho (M 39) (M 40) (M 41) (M 44) (M 45) (pkg N ho (M 39) (M 40) (M 41) (M 44) (M 45) r) a)).2.2), some (.int (nI a)), some (.int (nI N)), none] [] 0 0 (c_C sw ++ (m_C ++ tl)) M' := by
              refine G_iinc F (1) dX8_joinsByGains_97 rfl rfl rfl rfl ?_
              simp only [List.set_cons_zero, List.set_cons_succ, nI_1]
              refine G_goto (tgt := 15) F dX8_joinsByGains_100 (by decide) ?_
              rw [rgj_succ hN16 hv hz (show a < N by omega)]
              refine G_drop F 5 ?_
              simp only [List.set_cons_zero, List.set_cons_succ]
              exact ih2 (N - (a + 1)) (by omega) (a + 1) rfl (by omega)
            have lp3 : ∀ (k : Nat) (b : Nat), k = N - b → b ≤ N → GG X ad 27 [some (.ref (ad 37)), some (.int (fl (rgs N ho (M 39) (M 40) (M 41) (M 44) (M 45) (pkg N ho (M 39) (M 40) (M 41) (M 44) (M 45) r) a) b (rgj N ho (M 39) (M 40) (M 41) (M 44) (M 45) (pkg N ho (M 39) (M 40) (M 41) (M 44) (M 45) r) a)).1), some (.int (fl (rgs N ho (M 39) (M 40) (M 41) (M 44) (M 45) (pkg N ho (M 39) (M 40) (M 41) (M 44) (M 45) r) a) b (rgj N ho (M 39) (M 40) (M 41) (M 44) (M 45) (pkg N ho (M 39) (M 40) (M 41) (M 44) (M 45) r) a)).2.1), some (.int (fl (rgs N ho (M 39) (M 40) (M 41) (M 44) (M 45) (pkg N ho (M 39) (M 40) (M 41) (M 44) (M 45) r) a) b (rgj N ho (M 39) (M 40) (M 41) (M 44) (M 45) (pkg N ho (M 39) (M 40) (M 41) (M 44) (M 45) r) a)).2.2), some (.int (nI a)), some (.int (nI b)), none] [] 0 0 (c_C sw ++ (m_C ++ tl)) M' := by
              intro k
              induction k using Nat.strongRecOn with
              | _ k ih3 =>
                intro b hk3 hb
                refine G_iload F dX8_joinsByGains_27 rfl ?_
                refine G_aload_n F dX8_joinsByGains_29 rfl ?_
                refine G_geti F fl_X8_106 dX8_joinsByGains_30 rfl rfl ?_
                rw [hN9]
                refine G_icmp_ge (tgt := 97) F dX8_joinsByGains_33 (by decide) (fun h33 => ?_) (fun h33 => ?_)
                · rw [nI_leI (by omega) (by omega)] at h33
                  have hbN : b = N := by omega
                  subst hbN
                  exact t97
                · rw [nI_leI (by omega) (by omega)] at h33
                  have t91 : ∀ (x v : Int32 × Int32 × Int32) (z : Int32), x = (fl (rgs N ho (M 39) (M 40) (M 41) (M 44) (M 45) (pkg N ho (M 39) (M 40) (M 41) (M 44) (M 45) r) a) (b + 1) (rgj N ho (M 39) (M 40) (M 41) (M 44) (M 45) (pkg N ho (M 39) (M 40) (M 41) (M 44) (M 45) r) a)) → GG X ad 91 [some (.ref (ad 37)), some (.int x.1), some (.int x.2.1), some (.int x.2.2), some (.int (nI a)), some (.int (nI b)), some (.int z)] [] 0 0 (c_C sw ++ (m_C ++ tl)) M' := by
                    intro x v z hx
                    refine G_iinc F (1) dX8_joinsByGains_91 rfl rfl rfl rfl ?_
                    simp only [List.set_cons_zero, List.set_cons_succ, nI_1]
                    refine G_goto (tgt := 27) F dX8_joinsByGains_94 (by decide) ?_
                    rw [hx]
                    refine G_drop F 6 ?_
                    simp only [List.set_cons_zero, List.set_cons_succ]
                    exact ih3 (N - (b + 1)) (by omega) (b + 1) rfl (by omega)
                  have t74 : ∀ v : Int32, v = (rgv N ho (M 39) (M 40) (M 41) (M 44) (M 45) (pkg N ho (M 39) (M 40) (M 41) (M 44) (M 45) r) a b) → GG X ad 74 [some (.ref (ad 37)), some (.int (fl (rgs N ho (M 39) (M 40) (M 41) (M 44) (M 45) (pkg N ho (M 39) (M 40) (M 41) (M 44) (M 45) r) a) b (rgj N ho (M 39) (M 40) (M 41) (M 44) (M 45) (pkg N ho (M 39) (M 40) (M 41) (M 44) (M 45) r) a)).1), some (.int (fl (rgs N ho (M 39) (M 40) (M 41) (M 44) (M 45) (pkg N ho (M 39) (M 40) (M 41) (M 44) (M 45) r) a) b (rgj N ho (M 39) (M 40) (M 41) (M 44) (M 45) (pkg N ho (M 39) (M 40) (M 41) (M 44) (M 45) r) a)).2.1), some (.int (fl (rgs N ho (M 39) (M 40) (M 41) (M 44) (M 45) (pkg N ho (M 39) (M 40) (M 41) (M 44) (M 45) r) a) b (rgj N ho (M 39) (M 40) (M 41) (M 44) (M 45) (pkg N ho (M 39) (M 40) (M 41) (M 44) (M 45) r) a)).2.2), some (.int (nI a)), some (.int (nI b)), none] [.int v] 0 0 (c_C sw ++ (m_C ++ tl)) M' := by
                    intro v hv9
                    refine G_istore F dX8_joinsByGains_74 rfl rfl (Nat.le_of_ble_eq_true rfl) ?_
                    simp only [List.set_cons_zero, List.set_cons_succ]
                    refine G_iload F dX8_joinsByGains_76 rfl ?_
                    refine G_iload_n F dX8_joinsByGains_78 rfl ?_
                    refine G_icmp_le (tgt := 91) F dX8_joinsByGains_79 (by decide) (fun h79 => ?_) (fun h79 => ?_)
                    · have f : ¬ (fl (rgs N ho (M 39) (M 40) (M 41) (M 44) (M 45) (pkg N ho (M 39) (M 40) (M 41) (M 44) (M 45) r) a) b (rgj N ho (M 39) (M 40) (M 41) (M 44) (M 45) (pkg N ho (M 39) (M 40) (M 41) (M 44) (M 45) r) a)).1 < (rgv N ho (M 39) (M 40) (M 41) (M 44) (M 45) (pkg N ho (M 39) (M 40) (M 41) (M 44) (M 45) r) a b) := fun q => by
                        rw [hv9] at h79
                        rw [Int32.lt_iff_toInt_lt] at q
                        rw [Int32.le_iff_toInt_le] at h79
                        omega
                      exact t91 _ (0, 0, 0) _ (by rw [(show (fl (rgs N ho (M 39) (M 40) (M 41) (M 44) (M 45) (pkg N ho (M 39) (M 40) (M 41) (M 44) (M 45) r) a) (b + 1) (rgj N ho (M 39) (M 40) (M 41) (M 44) (M 45) (pkg N ho (M 39) (M 40) (M 41) (M 44) (M 45) r) a)) = rgs N ho (M 39) (M 40) (M 41) (M 44) (M 45) (pkg N ho (M 39) (M 40) (M 41) (M 44) (M 45) r) a b (fl (rgs N ho (M 39) (M 40) (M 41) (M 44) (M 45) (pkg N ho (M 39) (M 40) (M 41) (M 44) (M 45) r) a) b (rgj N ho (M 39) (M 40) (M 41) (M 44) (M 45) (pkg N ho (M 39) (M 40) (M 41) (M 44) (M 45) r) a)) from rfl), rgs_neg f])
                    · have f : (fl (rgs N ho (M 39) (M 40) (M 41) (M 44) (M 45) (pkg N ho (M 39) (M 40) (M 41) (M 44) (M 45) r) a) b (rgj N ho (M 39) (M 40) (M 41) (M 44) (M 45) (pkg N ho (M 39) (M 40) (M 41) (M 44) (M 45) r) a)).1 < (rgv N ho (M 39) (M 40) (M 41) (M 44) (M 45) (pkg N ho (M 39) (M 40) (M 41) (M 44) (M 45) r) a b) := by
                        rw [hv9] at h79
                        rw [Int32.lt_iff_toInt_lt]
                        rw [Int32.le_iff_toInt_le] at h79
                        omega
                      refine G_iload F dX8_joinsByGains_82 rfl ?_
                      refine G_istore_n F 1 dX8_joinsByGains_84 rfl rfl rfl (Nat.le_of_ble_eq_true rfl) ?_
                      simp only [List.set_cons_zero, List.set_cons_succ]
                      refine G_iload F dX8_joinsByGains_85 rfl ?_
                      refine G_istore_n F 2 dX8_joinsByGains_87 rfl rfl rfl (Nat.le_of_ble_eq_true rfl) ?_
                      simp only [List.set_cons_zero, List.set_cons_succ]
                      refine G_iload F dX8_joinsByGains_88 rfl ?_
                      refine G_istore_n F 3 dX8_joinsByGains_90 rfl rfl rfl (Nat.le_of_ble_eq_true rfl) ?_
                      simp only [List.set_cons_zero, List.set_cons_succ]
                      exact t91 (v, nI a, nI b) (0, 0, 0) _ (by rw [(show (fl (rgs N ho (M 39) (M 40) (M 41) (M 44) (M 45) (pkg N ho (M 39) (M 40) (M 41) (M 44) (M 45) r) a) (b + 1) (rgj N ho (M 39) (M 40) (M 41) (M 44) (M 45) (pkg N ho (M 39) (M 40) (M 41) (M 44) (M 45) r) a)) = rgs N ho (M 39) (M 40) (M 41) (M 44) (M 45) (pkg N ho (M 39) (M 40) (M 41) (M 44) (M 45) r) a b (fl (rgs N ho (M 39) (M 40) (M 41) (M 44) (M 45) (pkg N ho (M 39) (M 40) (M 41) (M 44) (M 45) r) a) b (rgj N ho (M 39) (M 40) (M 41) (M 44) (M 45) (pkg N ho (M 39) (M 40) (M 41) (M 44) (M 45) r) a)) from rfl), rgs_pos f, hv9])
                  refine G_iload F dX8_joinsByGains_36 rfl ?_
                  refine G_iload F dX8_joinsByGains_38 rfl ?_
                  refine G_icmp_eq (tgt := 73) F dX8_joinsByGains_40 (by decide) (fun h40 => ?_) (fun h40 => ?_)
                  · have hab : a = b := (nI_eq (by omega) (by omega)).mp h40
                    refine G_iconst (v := 0) F dX8_joinsByGains_73 rfl ?_
                    exact t74 0 (by unfold rgv; rw [if_neg (fun q => by rw [(cj_jnb hN16 c2 (show a < N by omega) (show b < N by omega)), jnb_iff, hab] at q; exact q.2.2.2.2.2 q.2.2.2.2.1)])
                  · refine G_aload_n F dX8_joinsByGains_43 rfl ?_
                    refine G_iload F dX8_joinsByGains_44 rfl ?_
                    refine G_iload F dX8_joinsByGains_46 rfl ?_
                    refine G_vI F mv_X8_222 dX8_joinsByGains_48 (t_canJoin hl ad sw tl M' (N := N) (a := a) (y := b) hN16 c1 (by rw [g1 37 (by decide)]; exact hho) c4 c5 (by omega) (by omega)) rfl rfl rfl rfl (Nat.le_of_ble_eq_true rfl) ⟨Nat.le_of_ble_eq_true rfl, Nat.le_of_ble_eq_true rfl, Nat.le_of_ble_eq_true rfl, Nat.le_of_ble_eq_true rfl⟩ (fun r48 M48 h48 => ?_)
                    rw [h48.1, h48.2, ← (cj_jnb hN16 c2 (show a < N by omega) (show b < N by omega))]
                    refine G_if_eq (tgt := 73) F dX8_joinsByGains_51 (by decide) (fun h51 => ?_) (fun h51 => ?_)
                    · refine G_iconst (v := 0) F dX8_joinsByGains_73 rfl ?_
                      exact t74 0 (by unfold rgv; rw [if_neg (fun q => by rw [if_pos q] at h51; exact absurd h51 (by decide))])
                    · refine G_aload_n F dX8_joinsByGains_54 rfl ?_
                      refine G_iload F dX8_joinsByGains_55 rfl ?_
                      refine G_iconst (v := -1) F dX8_joinsByGains_57 rfl ?_
                      refine G_vI F mv_X8_195 dX8_joinsByGains_58 (t_cost hl ad sw tl M' (N := N) (b := a) (-1) hN9 hN16 hN1 (by rw [g1 39 (by decide), g1 40 (by decide), g1 41 (by decide)]; exact hv) (by rw [g1 39 (by decide), g1 44 (by decide), g1 45 (by decide)]; exact hz) (by omega)) rfl rfl rfl rfl (Nat.le_of_ble_eq_true rfl) ⟨Nat.le_of_ble_eq_true rfl, Nat.le_of_ble_eq_true rfl, Nat.le_of_ble_eq_true rfl, Nat.le_of_ble_eq_true rfl⟩ (fun r58 M58 h58 => ?_)
                      rw [h58.1, h58.2, g1 39 (by decide), g1 40 (by decide), g1 41 (by decide), g1 44 (by decide), g1 45 (by decide)]
                      refine G_aload_n F dX8_joinsByGains_61 rfl ?_
                      refine G_iload F dX8_joinsByGains_62 rfl ?_
                      refine G_iload F dX8_joinsByGains_64 rfl ?_
                      refine G_vI F mv_X8_195 dX8_joinsByGains_66 (t_cost hl ad sw tl M' (N := N) (b := a) (nI b) hN9 hN16 hN1 (by rw [g1 39 (by decide), g1 40 (by decide), g1 41 (by decide)]; exact hv) (by rw [g1 39 (by decide), g1 44 (by decide), g1 45 (by decide)]; exact hz) (by omega)) rfl rfl rfl rfl (Nat.le_of_ble_eq_true rfl) ⟨Nat.le_of_ble_eq_true rfl, Nat.le_of_ble_eq_true rfl, Nat.le_of_ble_eq_true rfl, Nat.le_of_ble_eq_true rfl⟩ (fun r66 M66 h66 => ?_)
                      rw [h66.1, h66.2, g1 39 (by decide), g1 40 (by decide), g1 41 (by decide), g1 44 (by decide), g1 45 (by decide)]
                      refine G_isub F dX8_joinsByGains_69 ?_
                      refine G_goto (tgt := 74) F dX8_joinsByGains_70 (by decide) ?_
                      exact t74 _ (by
                        unfold rgv
                        rw [if_pos (Classical.byContradiction fun q => h51 (if_neg q))]
                        rfl)
            refine G_iconst (v := nI 0) F dX8_joinsByGains_24 (by decide) ?_
            refine G_istore F dX8_joinsByGains_25 rfl rfl (Nat.le_of_ble_eq_true rfl) ?_
            simp only [List.set_cons_zero, List.set_cons_succ]
            exact lp3 N 0 rfl (by omega)
      refine G_iload_n F dX8_joinsByGains_2 rfl ?_
      refine G_if_le (tgt := 116) F dX8_joinsByGains_3 (by decide) (fun h3 => ?_) (fun h3 => ?_)
      · exact absurd h3 (by rw [Int32.le_iff_toInt_le]; rw [Int32.lt_iff_toInt_lt] at hg; omega) --stop
      · skip
        refine G_iconst (v := 0) F dX8_joinsByGains_6 rfl ?_
        refine G_istore_n F 1 dX8_joinsByGains_7 rfl rfl rfl (Nat.le_of_ble_eq_true rfl) ?_
        simp only [List.set_cons_zero, List.set_cons_succ]
        refine G_iconst (v := -1) F dX8_joinsByGains_8 rfl ?_
        refine G_istore_n F 2 dX8_joinsByGains_9 rfl rfl rfl (Nat.le_of_ble_eq_true rfl) ?_
        simp only [List.set_cons_zero, List.set_cons_succ]
        refine G_iconst (v := -1) F dX8_joinsByGains_10 rfl ?_
        refine G_istore_n F 3 dX8_joinsByGains_11 rfl rfl rfl (Nat.le_of_ble_eq_true rfl) ?_
        simp only [List.set_cons_zero, List.set_cons_succ]
        refine G_iconst (v := nI 0) F dX8_joinsByGains_12 (by decide) ?_
        refine G_istore F dX8_joinsByGains_13 rfl rfl (Nat.le_of_ble_eq_true rfl) ?_
        simp only [List.set_cons_zero, List.set_cons_succ]
        exact lp2 N 0 rfl (by omega)
  refine G_iconst (v := 1) F dX8_joinsByGains_0 rfl ?_
  refine G_istore_n F 1 dX8_joinsByGains_1 rfl rfl rfl (Nat.le_of_ble_eq_true rfl) ?_
  simp only [List.set_cons_zero, List.set_cons_succ]
  exact lp _ M 1 0 rfl (by decide) fr.rfl hC0 hcn0
