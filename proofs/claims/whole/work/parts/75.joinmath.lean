/-! JOINING: what the reference does by weights and by gains is what the class does -/
theorem sgc_spec {cd : Nat → Bool} {pu : Nat → Int32} : ∀ n, n < 2 ^ 31 → (sgc cd pu n = -1 ∧ ∀ e, e < n → cd e = false) ∨ ∃ x, x < n ∧ sgc cd pu n = nI x ∧ cd x = true ∧ ∀ e, e < n → cd e = true → pu e < pu x ∨ (pu e = pu x ∧ x ≤ e) := by
  intro n
  induction n with
  | zero => intro _; exact Or.inl ⟨rfl, fun e h => absurd h (by omega)⟩
  | succ n ih =>
    intro hn
    simp only [sgc]
    rcases ih (by omega) with ⟨h1, h2⟩ | ⟨x, h1, h2, h3, h4⟩
    · rw [h1]
      by_cases c : cd n = true
      · rw [if_pos ⟨c, Or.inl rfl⟩]
        refine Or.inr ⟨n, by omega, rfl, c, fun e he hc => ?_⟩
        by_cases q : e = n
        · exact Or.inr ⟨by rw [q], by omega⟩
        · rw [h2 e (by omega)] at hc; exact Bool.noConfusion hc
      · rw [if_neg (fun q => c q.1)]
        refine Or.inl ⟨rfl, fun e he => ?_⟩
        by_cases q : e = n
        · rw [q]; simpa using c
        · exact h2 e (by omega)
    · rw [h2, nI_clamp (by omega)]
      have hm1 := nI_m1 (show x < 2 ^ 31 by omega)
      by_cases c : cd n = true ∧ (nI x = -1 ∨ pu x < pu n)
      · rw [if_pos c]
        have c2 : pu x < pu n := c.2.elim (fun q => absurd q hm1) id
        refine Or.inr ⟨n, by omega, rfl, c.1, fun e he hc => ?_⟩
        by_cases q : e = n
        · exact Or.inr ⟨by rw [q], by omega⟩
        · refine Or.inl ?_
          rcases h4 e (by omega) hc with z | ⟨z, -⟩
          · rw [Int32.lt_iff_toInt_lt] at z c2 ⊢; omega
          · rw [z]; exact c2
      · rw [if_neg c]
        refine Or.inr ⟨x, by omega, rfl, h3, fun e he hc => ?_⟩
        by_cases q : e = n
        · subst q
          have c3 : ¬ pu x < pu e := fun z => c ⟨hc, Or.inr z⟩
          by_cases z : pu e = pu x
          · exact Or.inr ⟨z, by omega⟩
          · refine Or.inl ?_
            have z2 : (pu e).toInt ≠ (pu x).toInt := fun y => z (Int32.toInt_inj.mp y)
            rw [Int32.lt_iff_toInt_lt] at c3 ⊢; omega
        · exact h4 e (by omega) hc
/-- whether a block's chain can be followed by another one's -/
def jnb (ho : Nat → Bool) (bh : Nat → Int32) (fo : Nat → Nat) (a y : Nat) : Bool := decide (y ≠ 0) && (ho a && (ho y && (decide (bh a = -1) && (decide (fo y = y) && decide (fo a ≠ y)))))
theorem jnb_iff {ho : Nat → Bool} {bh : Nat → Int32} {fo : Nat → Nat} {a y : Nat} : jnb ho bh fo a y = true ↔ (y ≠ 0 ∧ ho a = true ∧ ho y = true ∧ bh a = -1 ∧ fo y = y ∧ fo a ≠ y) := by
  simp only [jnb, Bool.and_eq_true, decide_eq_true_eq]
theorem cj_jnb {N : Nat} (hN : N ≤ 16) {ho : Nat → Bool} {q : (Nat → Int32) × (Nat → Int32)} {fo : Nat → Nat} (hq : ∀ b, b < N → q.2 b = nI (fo b) ∧ fo b < N) {a y : Nat} (ha : a < N) (hy : y < N) : pf_cj (nI N) (hrw ho) q.1 q.2 a (nI y) = jnb ho q.1 fo a y := by
  have fa := (hq a ha).2
  have fy := (hq y hy).2
  have p1 : (0 : Int32) < nI y ↔ y ≠ 0 := by
    rw [← nI_0, nI_ltI (by omega) (by omega)]; omega
  have p2 : nI y < nI N := (nI_ltI (by omega) (by omega)).mpr hy
  have p3 : ∀ x, hrw ho x ≠ 0 ↔ ho x = true := by
    intro x
    unfold hrw
    cases ho x <;> simp
  have p6 : nI (fo y) = nI y ↔ fo y = y := nI_eq (by omega) (by omega)
  have p7 : nI (fo a) ≠ nI y ↔ fo a ≠ y := not_congr (nI_eq (by omega) (by omega))
  rw [Bool.eq_iff_iff, jnb_iff]
  simp only [pf_cj, Bool.and_eq_true, decide_eq_true_eq]
  rw [nI_clamp (by omega), (hq a ha).1, (hq y hy).1, p1, p3, p3, p6, p7]
  exact ⟨fun z => ⟨z.1, z.2.2.1, z.2.2.2.1, z.2.2.2.2.1, z.2.2.2.2.2.1, z.2.2.2.2.2.2⟩, fun z => ⟨z.1, p2, z.2.1, z.2.2.1, z.2.2.2.1, z.2.2.2.2.1, z.2.2.2.2.2⟩⟩
theorem cj_m1 {n : Int32} {hr bh ch : Nat → Int32} {a : Nat} : pf_cj n hr bh ch a (-1) = false := by
  have : ¬ (0 : Int32) < -1 := by decide
  simp [pf_cj, this]
/-- what could not be joined can't be later -/
theorem jnb_mono {N : Nat} {ho : Nat → Bool} {bh : Nat → Int32} {fo rk : Nat → Nat} (hN : N ≤ 16) (hc : cgd N ho bh fo rk) {a y : Nat} (ha : a < N) (hy : y < N) (hfa : fo a ≠ y) {c z : Nat} (hcN : c < N) (hz : z < N) (h : jnb ho (upd bh a (nI y)) (fun b => if fo b = y then fo a else fo b) c z = true) : jnb ho bh fo c z = true ∧ c ≠ a := by
  rw [jnb_iff] at h
  obtain ⟨h1, h2, h3, h4, h5, h6⟩ := h
  have e1 : c ≠ a := by
    intro q
    subst q
    rw [upd_self] at h4
    exact nI_m1 (by omega) h4
  have e2 : fo z ≠ y := by
    intro q
    rw [if_pos q] at h5
    have := (hc.1 a ha).2.2.1
    rw [h5] at this
    rw [q] at this
    exact hfa (by rw [h5]; exact this.symm)
  rw [if_neg e2] at h5
  refine ⟨jnb_iff.mpr ⟨h1, h2, h3, ?_, h5, ?_⟩, e1⟩
  · simp only [upd, if_neg e1] at h4; exact h4
  · intro q
    by_cases e3 : fo c = y
    · rw [e3] at q
      exact e2 (by rw [← q]; exact (by rw [q]; exact h5 : fo y = y))
    · rw [if_neg e3] at h6; exact h6 q
/-- the reference's rows hold the chains q -/
def v_C (N : Nat) (ho : Nat → Bool) (M : fx_M) (q : (Nat → Int32) × (Nat → Int32)) : Prop := ∃ fo rk : Nat → Nat, cgd N ho q.1 fo rk ∧ (∀ b, b < N → q.2 b = nI (fo b) ∧ fo b < N) ∧ fo 0 = 0 ∧ (∀ b, b < N → M 59 b = q.1 b) ∧ ∀ b, b < N → (fo b = b ∧ M 60 b = -1) ∨ (fo b ≠ b ∧ ∃ a, a < N ∧ M 60 b = nI a ∧ q.1 a = nI b)
theorem v_C_join {N : Nat} {ho : Nat → Bool} {M : fx_M} {q : (Nat → Int32) × (Nat → Int32)} (hN : N ≤ 16) (h : v_C N ho M q) {a y : Nat} (ha : a < N) (hy : y < N) (hj : pf_cj (nI N) (hrw ho) q.1 q.2 a (nI y) = true) : v_C N ho (fx_u (fx_u M 59 a (nI y)) 60 y (nI a)) (upd q.1 a (nI y), fun b => if q.2 b = nI y then q.2 a else q.2 b) := by
  obtain ⟨fo, rk, h1, h2, h3, h4, h5⟩ := h
  rw [cj_jnb hN h2 ha hy, jnb_iff] at hj
  obtain ⟨j1, j2, j3, j4, j5, j6⟩ := hj
  refine ⟨_, _, cgd_join hN h1 ha hy j2 j3 j4 j5 j6, fun b hb => ?_, ?_, fun b hb => ?_, fun b hb => ?_⟩
  · dsimp only
    rw [(h2 b hb).1, (h2 a ha).1]
    by_cases e : fo b = y
    · rw [if_pos (by rw [e]), if_pos e]; exact ⟨rfl, (h2 a ha).2⟩
    · rw [if_neg (fun z => e ((nI_eq (by have := (h2 b hb).2; omega) (by omega)).mp z)), if_neg e]; exact ⟨rfl, (h2 b hb).2⟩
  · show (if fo 0 = y then fo a else fo 0) = 0
    rw [h3, if_neg (fun z => j1 z.symm)]
  · show fx_u (fx_u M 59 a (nI y)) 60 y (nI a) 59 b = upd q.1 a (nI y) b
    rw [fx_u_ne (by decide), fx_u_at]
    by_cases e : b = a
    · rw [if_pos ⟨rfl, e⟩, e, upd_self]
    · rw [if_neg (fun z => e z.2)]
      simp only [upd, if_neg e]; exact h4 b hb
  · show ((if fo b = y then fo a else fo b) = b ∧ fx_u (fx_u M 59 a (nI y)) 60 y (nI a) 60 b = -1) ∨ ((if fo b = y then fo a else fo b) ≠ b ∧ ∃ c, c < N ∧ fx_u (fx_u M 59 a (nI y)) 60 y (nI a) 60 b = nI c ∧ upd q.1 a (nI y) c = nI b)
    by_cases e : b = y
    · subst e
      refine Or.inr ⟨by rw [if_pos j5]; exact j6, a, ha, by rw [fx_u_at, if_pos ⟨rfl, rfl⟩], upd_self⟩
    · have em : fx_u (fx_u M 59 a (nI y)) 60 y (nI a) 60 b = M 60 b := by
        rw [fx_u_at, if_neg (fun z => e z.2), fx_u_ne (by decide)]
      rw [em]
      rcases h5 b hb with ⟨q1, q2⟩ | ⟨q1, c, q2, q3, q4⟩
      · refine Or.inl ⟨?_, q2⟩
        rw [if_neg (fun z => e (by rw [← q1]; exact z))]; exact q1
      · refine Or.inr ⟨?_, c, q2, q3, ?_⟩
        · by_cases z : fo b = y
          · rw [if_pos z]
            intro w
            exact q1 (by rw [← w]; exact (h1.1 a ha).2.2.1)
          · rw [if_neg z]; exact q1
        · have : c ≠ a := fun z => by rw [z, j4] at q4; exact nI_m1 (by omega) q4.symm
          simp only [upd, if_neg this]; exact q4
theorem hcn_join {N : Nat} {bh : Nat → Int32} {a y : Nat} (hN : N ≤ 16) (ha : a < N) (hy : y < N) (hb : bh a = -1) : hcn (fun b => !decide (upd bh a (nI y) b = -1)) N = hcn (fun b => !decide (bh b = -1)) N + 1 := by
  refine hcn_set (x := a) (by simp [hb]) ?_ ha (fun b hb hne => by simp only [upd, if_neg hne])
  have := nI_m1 (show y < 2 ^ 31 by omega)
  simp [upd, this]
section Edg
variable (N : Nat) (ho : Nat → Bool) (kd f s w1 w2 : Nat → Int32)
/-- an edge's weight and target; edges 2 b and 2 b + 1 are those of block b -/
def eW (e : Nat) : Int32 := if e % 2 = 0 then w1 (e / 2) else w2 (e / 2)
def eT (e : Nat) : Int32 := if e % 2 = 0 then f (e / 2) else s (e / 2)
/-- whether an edge may join two chains now -/
def eJ (q : (Nat → Int32) × (Nat → Int32)) (e : Nat) : Bool := pf_cj (nI N) (hrw ho) q.1 q.2 (e / 2) (eT f s e)
def eC (q : (Nat → Int32) × (Nat → Int32)) (e : Nat) : Bool := eJ N ho f s q e && decide (0 < eW w1 w2 e)
def enc (x : Int32) : Int32 × Int32 × Int32 := if x = -1 then (0, 0, 0) else (eW w1 w2 x.toNatClampNeg, nI (x.toNatClampNeg / 2), eT f s x.toNatClampNeg)
end Edg
theorem enc_step {N : Nat} {ho : Nat → Bool} {f s w1 w2 : Nat → Int32} {q : (Nat → Int32) × (Nat → Int32)} {gn : Nat → Int32 → Int32} {e : Nat} (he : e < 32) (hg : eJ N ho f s q e = true → gn (e / 2) (eT f s e) = eW w1 w2 e) :
    jw (pf_cj (nI N) (hrw ho) q.1 q.2) gn (enc f s w1 w2 (sgc (eC N ho f s w1 w2 q) (eW w1 w2) e)) (e / 2) (eT f s e) = enc f s w1 w2 (sgc (eC N ho f s w1 w2 q) (eW w1 w2) (e + 1)) := by
  have hcd : pf_cj (nI N) (hrw ho) q.1 q.2 (e / 2) (eT f s e) = eJ N ho f s q e := rfl
  simp only [sgc]
  unfold jw
  rw [hcd]
  have hne : ¬ nI e = -1 := nI_m1 (by omega)
  have hen : enc f s w1 w2 (nI e) = (eW w1 w2 e, nI (e / 2), eT f s e) := by
    unfold enc
    rw [if_neg hne, nI_clamp (by omega)]
  rcases sgc_spec (cd := eC N ho f s w1 w2 q) (pu := eW w1 w2) e (by omega) with ⟨h1, h2⟩ | ⟨x, h1, h2, h3, h4⟩
  · rw [h1]
    have e0 : enc f s w1 w2 (-1) = (0, 0, 0) := by unfold enc; rw [if_pos rfl]
    rw [e0]
    by_cases c : eC N ho f s w1 w2 q e = true
    · have c' := c
      simp only [eC, Bool.and_eq_true, decide_eq_true_eq] at c'
      rw [if_pos ⟨c'.1, by rw [hg c'.1]; exact c'.2⟩, if_pos ⟨c, Or.inl rfl⟩, hen, hg c'.1]
    · rw [if_neg (fun z => c (by simp only [eC, Bool.and_eq_true, decide_eq_true_eq]; exact ⟨z.1, by rw [← hg z.1]; exact z.2⟩)), if_neg (fun z => c z.1), e0]
  · rw [h2]
    have hxe : enc f s w1 w2 (nI x) = (eW w1 w2 x, nI (x / 2), eT f s x) := by
      unfold enc
      rw [if_neg (nI_m1 (by omega)), nI_clamp (by omega)]
    have h3' := h3
    simp only [eC, Bool.and_eq_true, decide_eq_true_eq] at h3'
    rw [hxe, nI_clamp (by omega)]
    by_cases c : eC N ho f s w1 w2 q e = true ∧ (nI x = -1 ∨ eW w1 w2 x < eW w1 w2 e)
    · have c' := c.1
      simp only [eC, Bool.and_eq_true, decide_eq_true_eq] at c'
      have c2 : eW w1 w2 x < eW w1 w2 e := c.2.elim (fun z => absurd z (nI_m1 (by omega))) id
      rw [if_pos ⟨c'.1, by rw [hg c'.1]; exact c2⟩, if_pos c, hen, hg c'.1]
    · rw [if_neg (fun z => c ⟨?_, ?_⟩), if_neg c, hxe]
      · have z2 := z.2
        rw [hg z.1] at z2
        simp only [eC, Bool.and_eq_true, decide_eq_true_eq]
        refine ⟨z.1, ?_⟩
        have w := h3'.2
        dsimp only at z2
        rw [Int32.lt_iff_toInt_lt] at *
        omega
      · have z2 := z.2
        rw [hg z.1] at z2
        exact Or.inr z2
theorem jfE {N : Nat} {ho : Nat → Bool} {kd f s w1 w2 : Nat → Int32} (hN : N ≤ 16) (hv : pv N kd f s) {q : (Nat → Int32) × (Nat → Int32)} : ∀ n, n ≤ N → jf (pf_cj (nI N) (hrw ho) q.1 q.2) (gnp kd f s w1 w2 1) (ldp f s 1) f s (0, 0, 0) n = enc f s w1 w2 (sgc (eC N ho f s w1 w2 q) (eW w1 w2) (2 * n)) := by
  intro n
  induction n with
  | zero => intro _; simp only [jf, Nat.mul_zero, sgc]; unfold enc; rw [if_pos rfl]
  | succ n ih =>
    intro hn
    have hld : ldp f s 1 n = true := by simp [ldp]
    simp only [jf, hld, if_true]
    rw [ih (by omega)]
    have a1 : (2 * n) / 2 = n := by omega
    have a2 : (2 * n + 1) / 2 = n := by omega
    have t1 : eT f s (2 * n) = f n := by unfold eT; rw [if_pos (by omega), a1]
    have t2 : eT f s (2 * n + 1) = s n := by unfold eT; rw [if_neg (by omega), a2]
    have w1e : eW w1 w2 (2 * n) = w1 n := by unfold eW; rw [if_pos (by omega), a1]
    have w2e : eW w1 w2 (2 * n + 1) = w2 n := by unfold eW; rw [if_neg (by omega), a2]
    have s1 := enc_step (N := N) (ho := ho) (f := f) (s := s) (w1 := w1) (w2 := w2) (q := q) (gn := gnp kd f s w1 w2 1) (e := 2 * n) (by omega) (fun hj => by
      rw [a1, t1, w1e]
      have hm : f n ≠ -1 := fun z => by
        unfold eJ at hj
        rw [t1, z, cj_m1] at hj
        exact Bool.noConfusion hj
      have h10 : ¬ (1 : Int32) = 0 := by decide
      simp [gnp, pf_wt, hm])
    rw [a1, t1] at s1
    rw [s1]
    have s2 := enc_step (N := N) (ho := ho) (f := f) (s := s) (w1 := w1) (w2 := w2) (q := q) (gn := gnp kd f s w1 w2 1) (e := 2 * n + 1) (by omega) (fun hj => by
      rw [a2, t2, w2e]
      have hm : s n ≠ -1 := fun z => by
        unfold eJ at hj
        rw [t2, z, cj_m1] at hj
        exact Bool.noConfusion hj
      have hfs : f n ≠ s n := by
        rcases hv n (by omega) with ⟨-, -, p3⟩ | ⟨-, -, p3⟩ | ⟨-, -, -, p4⟩
        · exact absurd p3 hm
        · exact absurd p3 hm
        · exact p4
      simp [gnp, pf_wt, hm, hfs])
    rw [a2, t2] at s2
    rw [s2]
    rfl
