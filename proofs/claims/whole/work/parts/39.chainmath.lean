/-! ARRANGER: joined chains are chains; makePlan -/
theorem pgn : ∀ (N R : Nat) (g : Nat → Nat), (∀ i, i < R → g i < N) → (∀ i j, i < R → j < R → g i = g j → i = j) → R ≤ N := by
  intro N
  induction N with
  | zero => intro R g h1 _; cases R with
    | zero => exact Nat.le_refl 0
    | succ R => exact absurd (h1 0 (by omega)) (by omega)
  | succ N ih =>
    intro R g h1 h2
    cases R with
    | zero => omega
    | succ R =>
      have h := ih R (fun i => if g i = N then g R else g i) (fun i hi => by
        by_cases e : g i = N
        · simp only [if_pos e]
          have q1 := h1 R (by omega)
          have q2 : g R ≠ N := fun q => absurd (h2 i R (by omega) (by omega) (by rw [e, q])) (by omega)
          omega
        · simp only [if_neg e]
          have q1 := h1 i (by omega)
          omega) (fun i j hi hj q => by
        by_cases e : g i = N
        · by_cases e2 : g j = N
          · exact h2 i j (by omega) (by omega) (by rw [e, e2])
          · simp only [if_pos e, if_neg e2] at q
            have := h2 R j (by omega) (by omega) q
            omega
        · by_cases e2 : g j = N
          · simp only [if_neg e, if_pos e2] at q
            have := h2 i R (by omega) (by omega) q
            omega
          · simp only [if_neg e, if_neg e2] at q
            exact h2 i j (by omega) (by omega) q)
      omega
theorem pgn_sur {N : Nat} {g : Nat → Nat} (h1 : ∀ i, i < N → g i < N) (h2 : ∀ i j, i < N → j < N → g i = g j → i = j) {y : Nat} (hy : y < N) : ∃ i, i < N ∧ g i = y := by
  apply Classical.byContradiction
  intro hn
  have h := pgn N (N + 1) (fun i => if i = N then y else g i) (fun i hi => by
    by_cases e : i = N
    · simp only [if_pos e]; exact hy
    · simp only [if_neg e]; exact h1 i (by omega)) (fun i j hi hj q => by
    by_cases e : i = N
    · by_cases e2 : j = N
      · omega
      · simp only [if_pos e, if_neg e2] at q
        exact absurd ⟨j, by omega, q.symm⟩ hn
    · by_cases e2 : j = N
      · simp only [if_neg e, if_pos e2] at q
        exact absurd ⟨i, by omega, q⟩ hn
      · simp only [if_neg e, if_neg e2] at q
        exact h2 i j (by omega) (by omega) q)
  omega
theorem rk_lt {N : Nat} {bh : Nat → Int32} {fo rk : Nat → Nat} (hN : N ≤ 16) (h2 : ∀ b, b < N → bh b = -1 ∨ ∃ x, x < N ∧ bh b = nI x ∧ fo x = fo b ∧ rk x = rk b + 1) (h4 : ∀ b, b < N → 0 < rk b → ∃ a, a < N ∧ bh a = nI b) {b : Nat} (hb : b < N) : rk b < N := by
  have down : ∀ d, d ≤ rk b → ∃ x, x < N ∧ fo x = fo b ∧ rk x = rk b - d := by
    intro d
    induction d with
    | zero => intro _; exact ⟨b, hb, rfl, rfl⟩
    | succ d ih =>
      intro hd
      obtain ⟨x, x1, x2, x3⟩ := ih (by omega)
      obtain ⟨a, a1, a2⟩ := h4 x x1 (by omega)
      rcases h2 a a1 with q | ⟨y, y1, y2, y3, y4⟩
      · rw [q] at a2; exact absurd a2.symm (nI_m1 (by omega))
      · rw [a2, nI_eq (by omega) (by omega)] at y2
        subst y2
        exact ⟨a, a1, by rw [← y3]; exact x2, by omega⟩
  obtain ⟨g, hg⟩ := Classical.axiomOfChoice (r := fun (r : Nat) (x : Nat) => r ≤ rk b → x < N ∧ rk x = r) (fun r => by
    by_cases h : r ≤ rk b
    · obtain ⟨x, x1, x2, x3⟩ := down (rk b - r) (by omega)
      exact ⟨x, fun _ => ⟨x1, by omega⟩⟩
    · exact ⟨0, fun q => absurd q h⟩)
  have := pgn N (rk b + 1) g (fun i hi => (hg i (by omega)).1) (fun i j hi hj q => by
    have e1 := (hg i (by omega)).2
    have e2 := (hg j (by omega)).2
    rw [q] at e1
    omega)
  omega
theorem cgd_0 {N : Nat} {ho : Nat → Bool} (hN : N ≤ 16) : cgd N ho (fun _ => -1) (fun b => b) (fun _ => 0) := by
  refine ⟨fun b hb => ⟨hb, (by omega : 0 < N), rfl, by simp, rfl⟩, fun b hb => Or.inl rfl, fun b c hb hc h _ => h, fun b hb h => absurd h (Nat.lt_irrefl 0)⟩
/-- two chains joined are a chain -/
theorem cgd_join {N : Nat} {ho : Nat → Bool} {bh : Nat → Int32} {fo rk : Nat → Nat} (hN : N ≤ 16) (h : cgd N ho bh fo rk) {a y : Nat} (ha : a < N) (hy : y < N) (hoa : ho a = true) (hoy : ho y = true) (hba : bh a = -1) (hfy : fo y = y) (hfa : fo a ≠ y) :
    cgd N ho (upd bh a (nI y)) (fun b => if fo b = y then fo a else fo b) (fun b => if fo b = y then rk a + 1 + rk b else rk b) := by
  have hend := fun x (hx : x < N) (hf : fo x = fo a) => cgd_end hN h ha hba hx hf
  obtain ⟨h1, h2, h3, h4⟩ := h
  have h2' : ∀ b, b < N → upd bh a (nI y) b = -1 ∨ ∃ x, x < N ∧ upd bh a (nI y) b = nI x ∧ (if fo x = y then fo a else fo x) = (if fo b = y then fo a else fo b) ∧ (if fo x = y then rk a + 1 + rk x else rk x) = (if fo b = y then rk a + 1 + rk b else rk b) + 1 := by
    intro b hb
    by_cases e : b = a
    · subst e
      refine Or.inr ⟨y, hy, by simp [upd], ?_, ?_⟩
      · rw [if_pos hfy, if_neg hfa]
      · rw [if_pos hfy, if_neg hfa, ((h1 y hy).2.2.2.1).mpr hfy]
    · have eu : upd bh a (nI y) b = bh b := by simp [upd, e]
      rw [eu]
      rcases h2 b hb with q | ⟨x, x1, x2, x3, x4⟩
      · exact Or.inl q
      · refine Or.inr ⟨x, x1, x2, by rw [x3], ?_⟩
        rw [x3, x4]
        split <;> omega
  have h4' : ∀ b, b < N → 0 < (if fo b = y then rk a + 1 + rk b else rk b) → ∃ p, p < N ∧ upd bh a (nI y) p = nI b := by
    intro b hb hr
    by_cases e : fo b = y ∧ rk b = 0
    · have eb : b = y := by have := ((h1 b hb).2.2.2.1).mp e.2; omega
      subst eb
      exact ⟨a, ha, by simp [upd]⟩
    · have hr0 : 0 < rk b := by
        by_cases e2 : fo b = y
        · have : ¬ rk b = 0 := fun q => e ⟨e2, q⟩
          omega
        · rw [if_neg e2] at hr; exact hr
      obtain ⟨p, p1, p2⟩ := h4 b hb hr0
      have hpa : p ≠ a := fun q => by rw [q, hba] at p2; exact nI_m1 (by omega) p2.symm
      exact ⟨p, p1, by simp [upd, hpa, p2]⟩
  refine ⟨fun b hb => ⟨?_, ?_, ?_, ?_, ?_⟩, h2', ?_, h4'⟩
  · dsimp only
    split
    · exact (h1 a ha).1
    · exact (h1 b hb).1
  · exact rk_lt hN h2' h4' hb
  · dsimp only
    by_cases e : fo b = y
    · rw [if_pos e, (h1 a ha).2.2.1, if_neg hfa]
    · rw [if_neg e, (h1 b hb).2.2.1, if_neg e]
  · dsimp only
    by_cases e : fo b = y
    · rw [if_pos e, if_pos e]
      refine ⟨fun q => by omega, fun q => ?_⟩
      rw [← q, (h1 a ha).2.2.1] at e
      exact absurd e hfa
    · rw [if_neg e, if_neg e]; exact (h1 b hb).2.2.2.1
  · dsimp only
    by_cases e : fo b = y
    · rw [if_pos e, (h1 a ha).2.2.2.2, hoa, ← (h1 b hb).2.2.2.2, e, hoy]
    · rw [if_neg e]; exact (h1 b hb).2.2.2.2
  · intro b c hb hc q1 q2
    dsimp only at q1 q2
    by_cases e : fo b = y
    · by_cases e2 : fo c = y
      · rw [if_pos e, if_pos e2] at q2
        exact h3 b c hb hc (by rw [e, e2]) (by omega)
      · rw [if_pos e, if_neg e2] at q1 q2
        have := hend c hc q1.symm
        omega
    · by_cases e2 : fo c = y
      · rw [if_neg e, if_pos e2] at q1 q2
        have := hend b hb q1
        omega
      · rw [if_neg e, if_neg e2] at q1 q2
        exact h3 b c hb hc q1 q2
theorem pf_cj_spec {N : Nat} (hN : N ≤ 16) {ho bh ch : Nat → Int32} {a : Nat} {t : Int32} (h : pf_cj (nI N) ho bh ch a t = true) : ∃ y, 0 < y ∧ y < N ∧ t = nI y ∧ ho a ≠ 0 ∧ ho y ≠ 0 ∧ bh a = -1 ∧ ch y = nI y ∧ ch a ≠ nI y := by
  simp only [pf_cj, Bool.and_eq_true, decide_eq_true_eq] at h
  obtain ⟨h1, h2, h3, h4, h5, h6, h7⟩ := h
  obtain ⟨j, hj1, hj2⟩ := nI_of (x := t) (by simp only [Int32.lt_iff_toInt_lt, i0] at *; omega)
  subst hj2
  rw [nI_ltI hj1 (by omega)] at h2
  rw [nI_clamp hj1] at h4 h6
  have h0 : 0 < j := by
    apply Classical.byContradiction
    intro q
    have : j = 0 := by omega
    subst this
    exact absurd h1 (by decide)
  exact ⟨j, h0, h2, rfl, h3, h4, h5, h6, h7⟩
/-- the chains of every round -/
theorem pk_ok {N : Nat} {ho : Nat → Bool} {hr : Nat → Int32} {gn : Nat → Int32 → Int32} {ld : Nat → Bool} {f s : Nat → Int32} (hN : N ≤ 16) (h0 : 0 < N) (e21 : ∀ x, x < N → hr x = (if ho x then 1 else 0)) : ∀ k, ∃ fo rk : Nat → Nat, cgd N ho (pk N hr gn ld f s k).1 fo rk ∧ (∀ b, b < N → (pk N hr gn ld f s k).2 b = nI (fo b) ∧ fo b < N) ∧ fo 0 = 0 := by
  intro k
  induction k with
  | zero => exact ⟨fun b => b, fun _ => 0, cgd_0 hN, fun b hb => ⟨rfl, hb⟩, rfl⟩
  | succ k ih =>
    obtain ⟨fo, rk, g1, g2, g3⟩ := ih
    show ∃ fo rk : Nat → Nat, cgd N ho (pn N hr gn ld f s (pk N hr gn ld f s k)).1 fo rk ∧ (∀ b, b < N → (pn N hr gn ld f s (pk N hr gn ld f s k)).2 b = nI (fo b) ∧ fo b < N) ∧ fo 0 = 0
    have hok := jf_ok (cj := pf_cj (nI N) hr (pk N hr gn ld f s k).1 (pk N hr gn ld f s k).2) (gn := gn) (ld := ld) (f := f) (s := s) (x0 := (0, 0, 0)) rfl N
    generalize hq : pk N hr gn ld f s k = q at *
    by_cases hp : 0 < (pj N hr gn ld f s q).1
    · obtain ⟨a, t, a1, a2, a3, a4⟩ := hok.2 hp
      obtain ⟨y, y0, y1, y2, y3, y4, y5, y6, y7⟩ := pf_cj_spec hN a4
      have a3' : pj N hr gn ld f s q = (gn a t, nI a, t) := a3
      have fa := g2 a a1
      have fy := g2 y y1
      have hfy : fo y = y := by rw [fy.1, nI_eq (by omega) (by omega)] at y6; exact y6
      have hfa : fo a ≠ y := fun z => y7 (by rw [fa.1, z])
      have eho : ∀ x, x < N → hr x ≠ 0 → ho x = true := fun x hx z => by
        rw [e21 x hx] at z
        cases hz : ho x
        · rw [hz] at z; exact absurd rfl z
        · rfl
      refine ⟨fun b => if fo b = y then fo a else fo b, fun b => if fo b = y then rk a + 1 + rk b else rk b, ?_, ?_, ?_⟩
      · unfold pn
        rw [if_pos hp, a3']
        dsimp only
        rw [nI_clamp (by omega), y2]
        exact cgd_join hN g1 a1 y1 (eho a a1 y3) (eho y y1 y4) y5 hfy hfa
      · intro b hb
        unfold pn
        rw [if_pos hp, a3']
        dsimp only
        rw [nI_clamp (by omega), y2, (g2 b hb).1, fa.1]
        by_cases e : fo b = y
        · rw [if_pos (by rw [e]), if_pos e]; exact ⟨rfl, fa.2⟩
        · rw [if_neg (fun z => e ((nI_eq (by have := (g2 b hb).2; omega) (by omega)).mp z)), if_neg e]; exact ⟨rfl, (g2 b hb).2⟩
      · dsimp only
        rw [g3, if_neg (by omega)]
    · refine ⟨fo, rk, ?_, ?_, g3⟩
      · unfold pn; rw [if_neg hp]; exact g1
      · unfold pn; rw [if_neg hp]; exact g2
