/-! PLACEMENT: settling -/
section LayP
variable (N hot al : Nat) (rw pos : Nat → Nat) (hd : Nat → Bool) (sz : Nat → Nat) (fm : Nat → Int32) (tb tj : Nat → Nat)
/-- bytes of an end -/
def y_b (x : (Nat → Nat) × (Nat → Nat)) (b : Nat) : Nat := if fm b = 5 then 1 else x.1 b + x.2 b
/-- addresses -/
def y_A (x : (Nat → Nat) × (Nat → Nat)) (b : Nat) : Nat := l_ad hot al rw pos hd sz (y_b fm x) b
/-- a round -/
def y_s (x : (Nat → Nat) × (Nat → Nat)) : (Nat → Nat) × (Nat → Nat) := (fun b => l_wb (y_A hot al rw pos hd sz fm x) sz tb x.1 b, fun b => l_wj (y_A hot al rw pos hd sz fm x) sz tj x.1 x.2 b)
/-- whether it changes anything -/
def y_w (x : (Nat → Nat) × (Nat → Nat)) : Bool := l_wa (y_A hot al rw pos hd sz fm x) sz tb tj x.1 x.2 N
/-- all short -/
def y_0 : (Nat → Nat) × (Nat → Nat) := (fun b => if fm b = 2 ∨ fm b = 3 ∨ fm b = 4 then 2 else 0, fun b => if fm b = 1 ∨ fm b = 4 then 2 else 0)
def y_it : Nat → (Nat → Nat) × (Nat → Nat)
  | 0 => y_0 fm
  | t + 1 => y_s hot al rw pos hd sz fm tb tj (y_it t)
end LayP
/-- how many are short among the first n -/
def y_n (x : (Nat → Nat) × (Nat → Nat)) : Nat → Nat
  | 0 => 0
  | n + 1 => y_n x n + (if x.1 n = 2 then 1 else 0) + (if x.2 n = 2 then 1 else 0)
theorem y_n_le (x : (Nat → Nat) × (Nat → Nat)) : ∀ n, y_n x n ≤ 2 * n := by
  intro n
  induction n with
  | zero => exact Nat.le_refl 0
  | succ n ih =>
    simp only [y_n]
    split <;> split <;> omega
theorem l_wb_lt {A sz tb bb : Nat → Nat} {b : Nat} : l_wb A sz tb bb b = bb b ∨ (bb b = 2 ∧ l_wb A sz tb bb b = 6) := by
  unfold l_wb
  split
  · rename_i h; exact Or.inr ⟨h.1, rfl⟩
  · exact Or.inl rfl
theorem l_wj_lt {A sz tj bb jb : Nat → Nat} {b : Nat} : l_wj A sz tj bb jb b = jb b ∨ (jb b = 2 ∧ l_wj A sz tj bb jb b = 5) := by
  unfold l_wj
  split
  · rename_i h; exact Or.inr ⟨h.1, rfl⟩
  · exact Or.inl rfl
theorem y_dec {hot al : Nat} {rw pos : Nat → Nat} {hd : Nat → Bool} {sz : Nat → Nat} {fm : Nat → Int32} {tb tj : Nat → Nat} {x : (Nat → Nat) × (Nat → Nat)} : ∀ n, y_n (y_s hot al rw pos hd sz fm tb tj x) n + (if l_wa (y_A hot al rw pos hd sz fm x) sz tb tj x.1 x.2 n = true then 1 else 0) ≤ y_n x n := by
  intro n
  induction n with
  | zero => simp [y_n, l_wa]
  | succ n ih =>
    have h1 := l_wb_lt (A := y_A hot al rw pos hd sz fm x) (sz := sz) (tb := tb) (bb := x.1) (b := n)
    have h2 := l_wj_lt (A := y_A hot al rw pos hd sz fm x) (sz := sz) (tj := tj) (bb := x.1) (jb := x.2) (b := n)
    have e1 : (y_s hot al rw pos hd sz fm tb tj x).1 n = l_wb (y_A hot al rw pos hd sz fm x) sz tb x.1 n := rfl
    have e2 : (y_s hot al rw pos hd sz fm tb tj x).2 n = l_wj (y_A hot al rw pos hd sz fm x) sz tj x.1 x.2 n := rfl
    simp only [y_n, l_wa, e1, e2]
    have hle : ∀ c : Bool, (if c = true then 1 else 0) ≤ 1 := by intro c; cases c <;> simp
    rcases h1 with h1 | ⟨h1, h1b⟩ <;> rcases h2 with h2 | ⟨h2, h2b⟩
    · simp only [h1, h2, ne_eq, not_true_eq_false, decide_false, Bool.or_false]
      omega
    · refine Nat.le_trans (Nat.add_le_add_left (hle _) _) ?_
      rw [h1, h2b, h2]
      simp only [Nat.reduceEqDiff, ↓reduceIte]
      omega
    · refine Nat.le_trans (Nat.add_le_add_left (hle _) _) ?_
      rw [h1b, h2, h1]
      simp only [Nat.reduceEqDiff, ↓reduceIte]
      omega
    · refine Nat.le_trans (Nat.add_le_add_left (hle _) _) ?_
      rw [h1b, h2b, h1, h2]
      simp only [Nat.reduceEqDiff, ↓reduceIte]
      omega
/-- the rounds come to an end -/
theorem y_end {N hot al : Nat} {rw pos : Nat → Nat} {hd : Nat → Bool} {sz : Nat → Nat} {fm : Nat → Int32} {tb tj : Nat → Nat} {r : Nat} (h : ∀ t, t < r → y_w N hot al rw pos hd sz fm tb tj (y_it hot al rw pos hd sz fm tb tj t) = true) : r ≤ 2 * N := by
  have h1 : ∀ t, t ≤ r → y_n (y_it hot al rw pos hd sz fm tb tj t) N + t ≤ 2 * N := by
    intro t
    induction t with
    | zero => intro _; exact y_n_le _ N
    | succ t ih =>
      intro ht
      have h2 := y_dec (hot := hot) (al := al) (rw := rw) (pos := pos) (hd := hd) (sz := sz) (fm := fm) (tb := tb) (tj := tj) (x := y_it hot al rw pos hd sz fm tb tj t) N
      have h3 := h t (by omega)
      unfold y_w at h3
      rw [h3] at h2
      have h4 := ih (by omega)
      simp only [y_it]
      simp only [↓reduceIte] at h2
      omega
  have := h1 r (Nat.le_refl r)
  omega
theorem l_wa_false {A sz tb tj bb jb : Nat → Nat} : ∀ {n : Nat}, l_wa A sz tb tj bb jb n = false → ∀ b, b < n → l_wb A sz tb bb b = bb b ∧ l_wj A sz tj bb jb b = jb b := by
  intro n
  induction n with
  | zero => intro _ b hb; omega
  | succ n ih =>
    intro h b hb
    simp only [l_wa, Bool.or_eq_false_iff, decide_eq_false_iff_not, ne_eq, Decidable.not_not] at h
    by_cases e : b = n
    · subst e; exact ⟨h.1.2, h.2⟩
    · exact ih h.1.1 b (by omega)
theorem y_it_le {hot al : Nat} {rw pos : Nat → Nat} {hd : Nat → Bool} {sz : Nat → Nat} {fm : Nat → Int32} {tb tj : Nat → Nat} : ∀ t b, (y_it hot al rw pos hd sz fm tb tj t).1 b ≤ 6 ∧ (y_it hot al rw pos hd sz fm tb tj t).2 b ≤ 5 ∧ ((y_it hot al rw pos hd sz fm tb tj t).1 b ≠ 0 → fm b = 2 ∨ fm b = 3 ∨ fm b = 4) ∧ ((y_it hot al rw pos hd sz fm tb tj t).2 b ≠ 0 → fm b = 1 ∨ fm b = 4) := by
  intro t
  induction t with
  | zero =>
    intro b
    simp only [y_it, y_0]
    refine ⟨by split <;> omega, by split <;> omega, fun h => ?_, fun h => ?_⟩
    · exact Classical.byContradiction fun q => h (if_neg q)
    · exact Classical.byContradiction fun q => h (if_neg q)
  | succ t ih =>
    intro b
    obtain ⟨g1, g2, g3, g4⟩ := ih b
    have h1 := l_wb_lt (A := y_A hot al rw pos hd sz fm (y_it hot al rw pos hd sz fm tb tj t)) (sz := sz) (tb := tb) (bb := (y_it hot al rw pos hd sz fm tb tj t).1) (b := b)
    have h2 := l_wj_lt (A := y_A hot al rw pos hd sz fm (y_it hot al rw pos hd sz fm tb tj t)) (sz := sz) (tj := tj) (bb := (y_it hot al rw pos hd sz fm tb tj t).1) (jb := (y_it hot al rw pos hd sz fm tb tj t).2) (b := b)
    simp only [y_it, y_s]
    refine ⟨?_, ?_, fun h => ?_, fun h => ?_⟩
    · rcases h1 with h1 | ⟨h1, h1b⟩ <;> omega
    · rcases h2 with h2 | ⟨h2, h2b⟩ <;> omega
    · rcases h1 with h1 | ⟨h1, h1b⟩ <;> exact g3 (by omega)
    · rcases h2 with h2 | ⟨h2, h2b⟩ <;> exact g4 (by omega)
theorem y_b_le {hot al : Nat} {rw pos : Nat → Nat} {hd : Nat → Bool} {sz : Nat → Nat} {fm : Nat → Int32} {tb tj : Nat → Nat} (t b : Nat) : y_b fm (y_it hot al rw pos hd sz fm tb tj t) b ≤ 11 := by
  have h := y_it_le (hot := hot) (al := al) (rw := rw) (pos := pos) (hd := hd) (sz := sz) (fm := fm) (tb := tb) (tj := tj) t b
  unfold y_b
  split <;> omega
theorem y_A_lt {N hot al : Nat} {rw pos : Nat → Nat} {hd : Nat → Bool} {sz : Nat → Nat} {fm : Nat → Int32} {tb tj : Nat → Nat} (hN : N ≤ 16) (ha : isAl al) (ha32 : al ≤ 32) (hpm : pm N rw pos) (hs : ∀ b, b < N → sz b ≤ 60) (t : Nat) {b : Nat} (hb : b < N) : y_A hot al rw pos hd sz fm (y_it hot al rw pos hd sz fm tb tj t) b < 8192 := by
  have h1 := l_be_le (hot := hot) (hd := hd) (bs := y_b fm (y_it hot al rw pos hd sz fm tb tj t)) ha ha32 hpm (fun b hb => ⟨hs b hb, y_b_le t b⟩) (pos b) (Nat.le_of_lt (hpm.2 b hb).1)
  have h2 := l_st_le (hot := hot) (rw := rw) (hd := hd) (e := l_be hot al rw hd sz (y_b fm (y_it hot al rw pos hd sz fm tb tj t)) (pos b)) (i := pos b) ha ha32
  have h3 := (hpm.2 b hb).1
  unfold y_A l_ad
  omega
