/-! THE LAW: what calls make of what holds between them -/
theorem int_rng {x : Int32} {a b : Nat} (hb : b < 2 ^ 31) (hab : a ≤ b) (h1 : nI a ≤ x) (h2 : x ≤ nI b) : ∃ n, a ≤ n ∧ n ≤ b ∧ x = nI n := by
  have e1 := nI_toInt (n := a) (by omega)
  obtain ⟨j, j1, rfl⟩ := nI_of (x := x) (by simp only [Int32.lt_iff_toInt_lt, Int32.le_iff_toInt_le, i0] at *; omega)
  rw [nI_leI (by omega) j1] at h1
  rw [nI_leI j1 hb] at h2
  exact ⟨j, h1, h2, rfl⟩
theorem pin_t {N x : Nat} (hN : N ≤ 16) (hx : x < N) : pin N (nI x) = true := by
  unfold pin
  rw [decide_eq_true_eq]
  exact ⟨nI_pos' (by omega), (nI_ltI (by omega) (by omega)).mpr hx⟩
theorem nI_i {N x y : Nat} (hN : N ≤ 16) (hx : x < N) (hy : y < N) (h : nI x = nI y) : x = y := (nI_eq (by omega) (by omega)).mp h
theorem hds_0 {tg : Nat → Int32} {N : Nat} (h : ∀ b, b < N → tg b = 0) : ∀ n, hds tg N n = 0 := by
  have hag : ∀ (s : Int32) (t n : Nat), n ≤ N → ag tg s t n = false := by
    intro s t n
    induction n with
    | zero => intro _; rfl
    | succ n ih =>
      intro hn
      simp only [ag]
      rw [ih (by omega), h n (by omega), bt_zero]
      simp
  intro n
  induction n with
  | zero => rfl
  | succ n ih =>
    simp only [hds]
    rw [hag _ _ N (Nat.le_refl N), ih]
    rfl
theorem tg_0 {f s : Nat → Int32} {b : Nat} (hf : f b = -1) (hs : s b = -1) : pf_tg f s b = 0 := by
  unfold pf_tg
  rw [hf, hs]
  rfl
/-- the words of an end that is whole -/
def vld (N : Nat) (k f s : Int32) : Prop := (k = 2 ∧ f = -1 ∧ s = -1) ∨ (k = 0 ∧ (∃ x, x < N ∧ f = nI x) ∧ s = -1) ∨ (k = 1 ∧ (∃ x, x < N ∧ f = nI x) ∧ (∃ z, z < N ∧ s = nI z) ∧ f ≠ s)
theorem upd_eq {f : Nat → Int32} {k : Nat} {x : Int32} : upd f k x k = x := by simp [upd]
theorem upd_ne {f : Nat → Int32} {k j : Nat} {x : Int32} (h : j ≠ k) : upd f k x j = f j := by simp [upd, h]
theorem upd_eqs {f g : Nat → Int32} {k j : Nat} {x : Int32} (h : f j = g j) : upd f k x j = upd g k x j := by
  by_cases e : j = k
  · rw [e, upd_eq, upd_eq]
  · rw [upd_ne e, upd_ne e]; exact h
/-- an end is changed on both sides -/
theorem Prg_end {c N x : Nat} {sz sz' : Nat → Nat} {M m : fx_M} {k f s p : Int32} (hP : Prg c N sz M) (hx : x < N) (hv : vld N k f s) (h1 : m 1 8 = M 1 8) (h19 : m 1 9 = hds (pf_tg (upd (M 4) x f) (upd (M 5) x s)) N N) (h2 : ∀ b, b < N → m 2 b = nI (sz' b) ∧ sz' b ≤ 60) (h3 : m 3 = upd (M 3) x k) (h4 : m 4 = upd (M 4) x f) (h5 : m 5 = upd (M 5) x s) (h6 : m 6 = upd (M 6) x p) (h7 : m 7 = M 7) (h8 : m 8 = upd (M 8) x 0) (h9 : m 9 = upd (M 9) x 0)
    (g0 : m 37 0 = M 37 0) (g38 : ∀ j, j < 16 → m 38 j = m 2 j) (g39 : m 39 = upd (M 39) x k) (g40 : m 40 = upd (M 40) x f) (g41 : m 41 = upd (M 41) x s) (g42 : m 42 = upd (M 42) x p) (g43 : m 43 = M 43) (g44 : m 44 = upd (M 44) x 0) (g45 : m 45 = upd (M 45) x 0) : Prg (c + 1) N sz' m := by
  obtain ⟨a1, a2, a3, a4, a5, a6, a7, a8, a9, a10⟩ := hP
  refine ⟨by rw [h1]; exact a1, a2, a3, h2, fun b hb => ?_, fun b hb => ?_, by rw [h19, h4, h5], fun b hb => ?_, by rw [g0, h1]; exact a9, fun j hj => ?_⟩
  · rw [h3, h4, h5]
    by_cases e : b = x
    · subst e; rw [upd_eq, upd_eq, upd_eq]; exact hv
    · rw [upd_ne e, upd_ne e, upd_ne e]; exact a5 b hb
  · rw [h3, h8, h9]
    by_cases e : b = x
    · subst e; rw [upd_eq, upd_eq, upd_eq]; exact ⟨fun _ => rfl, fun _ => rfl⟩
    · rw [upd_ne e, upd_ne e, upd_ne e]; exact a6 b hb
  · rw [h8, h9]
    by_cases e : b = x
    · subst e; rw [upd_eq, upd_eq]; exact ⟨⟨0, by omega, rfl⟩, 0, by omega, rfl⟩
    · rw [upd_ne e, upd_ne e]
      obtain ⟨⟨n, n1, n2⟩, n', n3, n4⟩ := a8 b hb
      exact ⟨⟨n, by omega, n2⟩, n', by omega, n4⟩
  · obtain ⟨b1, b2, b3, b4, b5, b6, b7, b8⟩ := a10 j hj
    rw [h3, h4, h5, h6, h7, h8, h9, g39, g40, g41, g42, g43, g44, g45]
    exact ⟨g38 j hj, upd_eqs b2, upd_eqs b3, upd_eqs b4, upd_eqs b5, b6, upd_eqs b7, upd_eqs b8⟩
theorem tg_inv {f s : Nat → Int32} {x : Nat} : pf_tg (upd f x (s x)) (upd s x (f x)) = pf_tg f s := by
  funext b
  unfold pf_tg
  by_cases e : b = x
  · subst e
    rw [upd_eq, upd_eq, Int32.or_comm]
  · rw [upd_ne e, upd_ne e]
/-- a branch is inverted on both sides -/
theorem Prg_inv {c N x : Nat} {sz : Nat → Nat} {M m : fx_M} (hP : Prg c N sz M) (hx : x < N) (hk : M 3 x = 1) (h1 : m 1 = M 1) (h2 : m 2 = M 2) (h3 : m 3 = M 3) (h4 : m 4 = upd (M 4) x (M 5 x)) (h5 : m 5 = upd (M 5) x (M 4 x)) (h6 : m 6 = upd (M 6) x (M 6 x ^^^ -1)) (h7 : m 7 = M 7) (h8 : m 8 = upd (M 8) x (M 9 x)) (h9 : m 9 = upd (M 9) x (M 8 x))
    (g0 : m 37 0 = M 37 0) (g38 : m 38 = M 38) (g39 : m 39 = M 39) (g40 : m 40 = upd (M 40) x (M 41 x)) (g41 : m 41 = upd (M 41) x (M 40 x)) (g42 : m 42 = upd (M 42) x (M 42 x ^^^ -1)) (g43 : m 43 = M 43) (g44 : m 44 = upd (M 44) x (M 45 x)) (g45 : m 45 = upd (M 45) x (M 44 x)) : Prg (c + 1) N sz m := by
  obtain ⟨a1, a2, a3, a4, a5, a6, a7, a8, a9, a10⟩ := hP
  refine ⟨by rw [h1]; exact a1, a2, a3, by rw [h2]; exact a4, fun b hb => ?_, fun b hb => ?_, by rw [h1, h4, h5, tg_inv]; exact a7, fun b hb => ?_, by rw [g0, h1]; exact a9, fun j hj => ?_⟩
  · rw [h3, h4, h5]
    by_cases e : b = x
    · subst e; rw [upd_eq, upd_eq]
      rcases a5 b hb with z | z | z
      · rw [hk] at z; exact absurd z.1 (by decide)
      · rw [hk] at z; exact absurd z.1 (by decide)
      · exact Or.inr (Or.inr ⟨z.1, z.2.2.1, z.2.1, Ne.symm z.2.2.2⟩)
    · rw [upd_ne e, upd_ne e]; exact a5 b hb
  · rw [h3, h8, h9]
    by_cases e : b = x
    · subst e; rw [hk]; exact ⟨fun z => absurd z (by decide), fun z => absurd rfl z⟩
    · rw [upd_ne e, upd_ne e]; exact a6 b hb
  · rw [h8, h9]
    by_cases e : b = x
    · subst e; rw [upd_eq, upd_eq]
      obtain ⟨⟨n, n1, n2⟩, n', n3, n4⟩ := a8 b hb
      exact ⟨⟨n', by omega, n4⟩, n, by omega, n2⟩
    · rw [upd_ne e, upd_ne e]
      obtain ⟨⟨n, n1, n2⟩, n', n3, n4⟩ := a8 b hb
      exact ⟨⟨n, by omega, n2⟩, n', by omega, n4⟩
  · obtain ⟨b1, b2, b3, b4, b5, b6, b7, b8⟩ := a10 j hj
    obtain ⟨c1, c2, c3, c4, c5, c6, c7, c8⟩ := a10 x (by omega)
    rw [h2, h3, h4, h5, h6, h7, h8, h9, g38, g39, g40, g41, g42, g43, g44, g45, c3, c4, c5, c7, c8]
    exact ⟨b1, b2, upd_eqs b3, upd_eqs b4, upd_eqs b5, b6, upd_eqs b7, upd_eqs b8⟩
/-- the plan is remembered on both sides -/
theorem Hsy_rem {N sl kp hot al : Nat} {rw pos : Nat → Nat} {M m : fx_M} (hH : Hsy N sl kp M) (hL : Pln N hot al rw pos M) (hN : N ≤ 16) (h : m 31 3 = nI (if sl + 1 = 10 then 0 else sl + 1) ∧ m 31 4 = nI (min (kp + 1) 10) ∧ (∀ j, m 32 j = if sl * 16 ≤ j ∧ j < sl * 16 + 16 then M 11 (j - sl * 16) else M 32 j) ∧ m 33 = upd (M 33) sl (M 10 1) ∧ m 34 = upd (M 34) sl (M 10 2)) (hr : v_kr kp M m) : Hsy N (if sl + 1 = 10 then 0 else sl + 1) (min (kp + 1) 10) m := by
  obtain ⟨a1, a2, a3, a4, a5, a6⟩ := hH
  obtain ⟨b1, b2, b3, b4, b5⟩ := h
  obtain ⟨r1, r2, r3, r4⟩ := hr
  obtain ⟨g1, g2, g3, g4, g5, g6, g7, g8, g9, g10, g11⟩ := hL
  refine ⟨b1, by split <;> omega, b2, by omega, by rw [r1, b2], fun t ht => ?_⟩
  have hq1 : hq (if sl + 1 = 10 then 0 else sl + 1) (min (kp + 1) 10) t = if t + 1 = min (kp + 1) 10 then sl else hq sl kp (if kp = 10 then t + 1 else t) := by
    unfold hq
    (repeat' split) <;> omega
  rw [hq1]
  by_cases e3 : t + 1 = min (kp + 1) 10
  · rw [if_pos e3]
    have et : t = kp - (if kp = 10 then 1 else 0) := by split <;> omega
    have q57 : m 57 t = M 37 3 := by rw [r3, if_pos et]
    have q58 : m 58 t = M 37 1 := by rw [r4, if_pos et]
    have q56 : ∀ j, j < 16 → m 56 (16 * t + j) = M 46 j := fun j hj => by
      rw [r2, ← et, if_pos (by omega), show 16 * t + j - 16 * t = j from by omega]
    refine ⟨by rw [q57, b4, upd_eq]; exact g9, by rw [q58, b5, upd_eq]; exact g10, fun j hj => ?_, hot, al, rw, pos, g2, g3, by rw [q57, g9]; exact g1, g5, g6, by rw [q58, g10]; exact g4, g7, fun j hj => ?_⟩
    · rw [q56 j hj, b3, if_pos (by omega), show sl * 16 + j - sl * 16 = j from by omega]; exact g11 j hj
    · rw [q56 j (by omega), g11 j (by omega)]; exact g8 j hj
  · rw [if_neg e3]
    obtain ⟨u, hu, hu2⟩ : ∃ u, (if kp = 10 then t + 1 else t) = u ∧ ((kp = 10 ∧ u = t + 1) ∨ (kp ≠ 10 ∧ u = t)) := by
      by_cases e : kp = 10
      · exact ⟨t + 1, if_pos e, Or.inl ⟨e, rfl⟩⟩
      · exact ⟨t, if_neg e, Or.inr ⟨e, rfl⟩⟩
    rw [hu]
    clear hq1
    have et : t ≠ kp - (if kp = 10 then 1 else 0) := by split <;> omega
    have eu : u < kp := by omega
    obtain ⟨c1, c2, c3, c4⟩ := a6 u eu
    have hne : hq sl kp u ≠ sl := by unfold hq; omega
    have hlt : hq sl kp u < 10 := by unfold hq; omega
    have q57 : m 57 t = M 57 u := by
      rw [r3, if_neg et]
      rcases hu2 with ⟨e, e'⟩ | ⟨e, e'⟩
      · rw [if_pos ⟨e, by omega⟩, e']
      · rw [if_neg (fun z => e z.1), e']
    have q58 : m 58 t = M 58 u := by
      rw [r4, if_neg et]
      rcases hu2 with ⟨e, e'⟩ | ⟨e, e'⟩
      · rw [if_pos ⟨e, by omega⟩, e']
      · rw [if_neg (fun z => e z.1), e']
    have q56 : ∀ j, j < 16 → m 56 (16 * t + j) = M 56 (16 * u + j) := fun j hj => by
      rw [r2, if_neg (by split at et <;> split <;> omega)]
      rcases hu2 with ⟨e, e'⟩ | ⟨e, e'⟩
      · rw [if_pos ⟨e, by omega⟩, e', show 16 * t + j + 16 = 16 * (t + 1) + j from by omega]
      · rw [if_neg (fun z => e z.1), e']
    obtain ⟨h0, a0, rw0, pos0, d1, d2, d3, d4, d5, d6, d7, d8⟩ := c4
    refine ⟨by rw [q57, b4, upd_ne hne]; exact c1, by rw [q58, b5, upd_ne hne]; exact c2, fun j hj => ?_, h0, a0, rw0, pos0, d1, d2, by rw [q57]; exact d3, d4, d5, by rw [q58]; exact d6, d7, fun j hj => ?_⟩
    · rw [q56 j hj, b3, if_neg (by omega)]; exact c3 j hj
    · rw [q56 j (by omega)]; exact d8 j hj
/-- the latest plan is brought back on both sides -/
theorem Hsy_undo {N sl kp : Nat} {M m : fx_M} (hH : Hsy N sl kp M) (h0 : 0 < kp) (hN : N ≤ 16) (h31 : m 31 3 = nI (if sl = 0 then 9 else sl - 1)) (h4 : m 31 4 = nI (kp - 1)) (h11 : ∀ j, m 11 j = if j < 16 then M 32 ((if sl = 0 then 9 else sl - 1) * 16 + j) else M 11 j) (h101 : m 10 1 = M 33 (if sl = 0 then 9 else sl - 1)) (h102 : m 10 2 = M 34 (if sl = 0 then 9 else sl - 1)) (e32 : m 32 = M 32) (e33 : m 33 = M 33) (e34 : m 34 = M 34) (e56 : m 56 = M 56) (e57 : m 57 = M 57) (e58 : m 58 = M 58)
    (g27 : m 37 27 = nI (kp - 1)) (g3 : m 37 3 = M 57 (kp - 1)) (g1 : m 37 1 = M 58 (kp - 1)) (g46 : ∀ j, m 46 j = if j < 16 then M 56 (16 * (kp - 1) + j) else M 46 j) : Hsy N (if sl = 0 then 9 else sl - 1) (kp - 1) m ∧ ∃ (hot al : Nat) (rw pos : Nat → Nat), Pln N hot al rw pos m := by
  obtain ⟨a1, a2, a3, a4, a5, a6⟩ := hH
  have hlast : hq sl kp (kp - 1) = if sl = 0 then 9 else sl - 1 := by unfold hq; split <;> omega
  refine ⟨⟨h31, by split <;> omega, h4, by omega, by rw [g27, h4], fun t ht => ?_⟩, ?_⟩
  · have hq1 : hq (if sl = 0 then 9 else sl - 1) (kp - 1) t = hq sl kp t := by unfold hq; split <;> omega
    rw [hq1, e32, e33, e34, e56, e57, e58]
    exact a6 t (by omega)
  · obtain ⟨c1, c2, c3, h, a, rw, pos, d1, d2, d3, d4, d5, d6, d7, d8⟩ := a6 (kp - 1) (by omega)
    rw [hlast] at c1 c2 c3
    refine ⟨h, a, rw, pos, by rw [h101, ← c1]; exact d3, d1, d2, by rw [h102, ← c2]; exact d6, d4, d5, d7, fun j hj => ?_, by rw [g3, h101]; exact c1, by rw [g1, h102]; exact c2, fun j hj => ?_⟩
    · rw [h11, if_pos (by omega), ← c3 j (by omega)]; exact d8 j hj
    · rw [h11, g46, if_pos hj, if_pos hj]; exact c3 j hj
theorem wbd_of {c N : Nat} {sz : Nat → Nat} {M : fx_M} (hc : c ≤ 600) (hP : Prg c N sz M) : wbd (M 8) (M 9) := fun b hb => by
  obtain ⟨⟨n, n1, n2⟩, n', n3, n4⟩ := hP.2.2.2.2.2.2.2.1 b hb
  exact ⟨⟨n, by omega, n2⟩, n', by omega, n4⟩
/-- weights behind a run -/
theorem ap1_bd {q : Nat → Nat} {f w : Nat → Int32} {b B : Nat} : ∀ n, (∃ k, k ≤ B ∧ w b = nI k) → ∃ k, k ≤ B + n ∧ ap1 q f w n b = nI k := by
  intro n
  induction n with
  | zero => exact id
  | succ n ih =>
    intro h
    obtain ⟨k, k1, k2⟩ := ih h
    simp only [ap1]
    by_cases e : f (q n) = nI (q (n + 1))
    · rw [if_pos e]
      by_cases e2 : b = q n
      · rw [← e2, upd_eq, k2]; exact ⟨k + 1, by omega, nI_1 k⟩
      · rw [upd_ne e2]; exact ⟨k, by omega, k2⟩
    · rw [if_neg e]; exact ⟨k, by omega, k2⟩
theorem ap2_bd {q : Nat → Nat} {f w : Nat → Int32} {b B : Nat} : ∀ n, (∃ k, k ≤ B ∧ w b = nI k) → ∃ k, k ≤ B + n ∧ ap2 q f w n b = nI k := by
  intro n
  induction n with
  | zero => exact id
  | succ n ih =>
    intro h
    obtain ⟨k, k1, k2⟩ := ih h
    simp only [ap2]
    by_cases e : f (q n) = nI (q (n + 1))
    · rw [if_pos e]; exact ⟨k, by omega, k2⟩
    · rw [if_neg e]
      by_cases e2 : b = q n
      · rw [← e2, upd_eq, k2]; exact ⟨k + 1, by omega, nI_1 k⟩
      · rw [upd_ne e2]; exact ⟨k, by omega, k2⟩
theorem ap1_z {q : Nat → Nat} {f w : Nat → Int32} {b : Nat} : ∀ n, (∀ i, i < n → q i ≠ b) → ap1 q f w n b = w b := by
  intro n
  induction n with
  | zero => intro _; rfl
  | succ n ih =>
    intro h
    simp only [ap1]
    by_cases e : f (q n) = nI (q (n + 1))
    · rw [if_pos e, upd_ne (Ne.symm (h n (by omega)))]; exact ih (fun i hi => h i (by omega))
    · rw [if_neg e]; exact ih (fun i hi => h i (by omega))
theorem ap2_z {q : Nat → Nat} {f w : Nat → Int32} {b : Nat} : ∀ n, (∀ i, i < n → q i = b → f (q i) = nI (q (i + 1))) → ap2 q f w n b = w b := by
  intro n
  induction n with
  | zero => intro _; rfl
  | succ n ih =>
    intro h
    simp only [ap2]
    by_cases e : f (q n) = nI (q (n + 1))
    · rw [if_pos e]; exact ih (fun i hi => h i (by omega))
    · rw [if_neg e]
      by_cases e2 : b = q n
      · exact absurd (h n (by omega) e2.symm) e
      · rw [upd_ne e2]; exact ih (fun i hi => h i (by omega))
theorem ap_eqs {q : Nat → Nat} {f w w' : Nat → Int32} {j : Nat} (h : w = w') (n : Nat) : apc q w n j = apc q w' n j ∧ ap1 q f w n j = ap1 q f w' n j ∧ ap2 q f w n j = ap2 q f w' n j := by rw [h]; exact ⟨rfl, rfl, rfl⟩
/-- an execution has one length -/
theorem xok_one {kd f s p : Nat → Int32} {lim n n' : Nat} (h : xok kd f s p lim n) (h' : xok kd f s p lim n') : n = n' := by
  obtain ⟨a1, a2, a3, a4⟩ := h
  obtain ⟨b1, b2, b3, b4⟩ := h'
  rcases Nat.lt_trichotomy n n' with z | z | z
  · exact absurd a3 (b4 (n - 1) (by omega))
  · exact z
  · exact absurd b3 (a4 (n' - 1) (by omega))
theorem xok_no {kd f s p : Nat → Int32} {lim n : Nat} (h : xok kd f s p lim n) (h' : xno kd f s p lim) : False := h' (n - 1) (by have := h.1; have := h.2.1; omega) h.2.2.1
/-- rows that are orders of the same blocks are one order -/
theorem pm_one {N hot : Nat} {rw pos rw' pos' : Nat → Nat} (hN : N ≤ 16) (h : pm N rw pos) (h' : pm N rw' pos') (e : ∀ j, j < N → nI (rw j) = nI (rw' j)) : ∀ b, b < N → pos b = pos' b ∧ l_nx N hot rw pos b = l_nx N hot rw' pos' b := by
  have er : ∀ j, j < N → rw j = rw' j := fun j hj => nI_i hN (h.1 j hj).1 (h'.1 j hj).1 (e j hj)
  intro b hb
  have h1 := h.2 b hb
  have h2 := h'.1 (pos b) h1.1
  have ep : pos b = pos' b := by rw [← h2.2, ← er (pos b) h1.1, h1.2]
  refine ⟨ep, ?_⟩
  unfold l_nx
  rw [← ep]
  by_cases c1 : pos b + 1 = N ∨ pos b + 1 = hot
  · rw [if_pos c1, if_pos c1]
  · rw [if_neg c1, if_neg c1, er (pos b + 1) (by have := h1.1; omega)]
theorem x1 : xIO ≠ xIA := by decide +kernel
theorem x2 : xUO ≠ xIO := by decide +kernel
theorem x3 : xIA ≠ xAE := by decide +kernel
theorem x4 : xIA ≠ xUO := by decide +kernel
