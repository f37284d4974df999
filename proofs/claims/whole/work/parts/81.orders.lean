/-! ORDERS: the search finds the first of the cheapest orders -/
/-- an order of the hot blocks, block 0 first -/
def isO (N H : Nat) (ho : Nat → Bool) (P : Nat → Nat) : Prop := P 0 = 0 ∧ (∀ j, j < H → P j < N ∧ ho (P j) = true) ∧ ∀ i j, i < H → j < H → P i = P j → i = j
/-- an order is ahead of another one -/
def ltx (H : Nat) (P Q : Nat → Nat) : Prop := ∃ d, d < H ∧ (∀ i, i < d → P i = Q i) ∧ P d < Q d
theorem ltx_tot {H : Nat} {P Q : Nat → Nat} : ltx H P Q ∨ ltx H Q P ∨ ∀ i, i < H → P i = Q i := by
  have key : ∀ n, n ≤ H → (∀ i, i < n → P i = Q i) ∨ ltx H P Q ∨ ltx H Q P := by
    intro n
    induction n with
    | zero => intro _; exact Or.inl (fun i h => absurd h (by omega))
    | succ n ih =>
      intro hn
      rcases ih (by omega) with h | h
      · by_cases e : P n = Q n
        · refine Or.inl (fun i hi => ?_)
          by_cases q : i = n
          · rw [q]; exact e
          · exact h i (by omega)
        · by_cases l : P n < Q n
          · exact Or.inr (Or.inl ⟨n, by omega, h, l⟩)
          · exact Or.inr (Or.inr ⟨n, by omega, fun i hi => (h i hi).symm, by omega⟩)
      · exact Or.inr h
  rcases key H (Nat.le_refl H) with h | h | h
  · exact Or.inr (Or.inr h)
  · exact Or.inl h
  · exact Or.inr (Or.inl h)
theorem ltx_asym {H : Nat} {P Q : Nat → Nat} (h : ltx H P Q) : ¬ ltx H Q P := by
  obtain ⟨d, d1, d2, d3⟩ := h
  rintro ⟨e, e1, e2, e3⟩
  by_cases h1 : d < e
  · have := e2 d h1; omega
  · by_cases h2 : e < d
    · have := d2 e h2; omega
    · have : d = e := by omega
      subst this; omega
/-- the blocks at the first n places -/
def img (P : Nat → Nat) : Nat → Nat → Bool
  | 0, _ => false
  | n + 1, b => img P n b || decide (b = P n)
theorem img_iff {P : Nat → Nat} : ∀ n b, img P n b = true ↔ ∃ j, j < n ∧ P j = b := by
  intro n
  induction n with
  | zero => intro b; simp [img]
  | succ n ih =>
    intro b
    simp only [img, Bool.or_eq_true, decide_eq_true_eq, ih b]
    constructor
    · rintro (⟨j, j1, j2⟩ | h)
      · exact ⟨j, by omega, j2⟩
      · exact ⟨n, by omega, h.symm⟩
    · rintro ⟨j, j1, j2⟩
      by_cases e : j = n
      · exact Or.inr (by rw [← j2, e])
      · exact Or.inl ⟨j, by omega, j2⟩
theorem isO_sur {N : Nat} {ho : Nat → Bool} {P : Nat → Nat} (h : isO N (hcn ho N) ho P) {x : Nat} (hx : x < N) (hh : ho x = true) : ∃ j, j < hcn ho N ∧ P j = x := by
  have hc : ∀ n, n ≤ hcn ho N → hcn (img P n) N = n := by
    intro n
    induction n with
    | zero => intro _; exact hcn_false N
    | succ n ih =>
      intro hn
      have hf : img P n (P n) = false := by
        cases q : img P n (P n)
        · rfl
        · obtain ⟨j, j1, j2⟩ := (img_iff n _).mp q
          have := h.2.2 j n (by omega) (by omega) j2
          omega
      have hs := hcn_set (p := img P n) (q := img P (n + 1)) hf (by simp [img]) (h.2.1 n (by omega)).1 (fun b hb hne => by simp [img, hne])
      rw [hs, ih (by omega)]
  cases q : img P (hcn ho N) x
  · exfalso
    have := hcn_ssub (p := img P (hcn ho N)) (q := ho) (x := x) (n := N) (fun b hb hp => by
      obtain ⟨j, j1, j2⟩ := (img_iff _ _).mp hp
      rw [← j2]; exact (h.2.1 j j1).2) hx hh q
    rw [hc _ (Nat.le_refl _)] at this
    omega
  · exact (img_iff _ _).mp q
/-- where two orders agree ahead of a place, what stands there in one stands there or behind in the other -/
theorem isO_rem {N : Nat} {ho : Nat → Bool} {P Q : Nat → Nat} (hP : isO N (hcn ho N) ho P) (hQ : isO N (hcn ho N) ho Q) {d : Nat} (hd : d < hcn ho N) (h : ∀ i, i < d → P i = Q i) : ∃ e, d ≤ e ∧ e < hcn ho N ∧ Q d = P e := by
  obtain ⟨e, e1, e2⟩ := isO_sur hP (hQ.2.1 d hd).1 (hQ.2.1 d hd).2
  refine ⟨e, ?_, e1, e2.symm⟩
  apply Classical.byContradiction
  intro q
  have := hQ.2.2 e d (by omega) hd (by rw [← h e (by omega), e2])
  omega
/-- sums of naturals -/
def nsm (g : Nat → Nat) : Nat → Nat
  | 0 => 0
  | n + 1 => nsm g n + g n
theorem sm_nsm {g : Nat → Nat} : ∀ n, sm (fun j => nI (g j)) n = nI (nsm g n) := by
  intro n
  induction n with
  | zero => rfl
  | succ n ih => simp only [sm, nsm]; rw [ih, nI_add]
theorem nsm_le {g : Nat → Nat} {B : Nat} : ∀ n, (∀ j, j < n → g j ≤ B) → nsm g n ≤ B * n := by
  intro n
  induction n with
  | zero => intro _; exact Nat.le_refl 0
  | succ n ih =>
    intro h
    have h1 := ih (fun j hj => h j (by omega))
    have h2 := h n (by omega)
    simp only [nsm, Nat.mul_succ]
    omega
theorem nsm_congr {g g' : Nat → Nat} : ∀ n, (∀ j, j < n → g j = g' j) → nsm g n = nsm g' n := by
  intro n
  induction n with
  | zero => intro _; rfl
  | succ n ih => intro h; simp only [nsm]; rw [ih (fun j hj => h j (by omega)), h n (by omega)]
theorem nsm_mono {g : Nat → Nat} {a b : Nat} (h : a ≤ b) : nsm g a ≤ nsm g b := by
  induction h with
  | refl => exact Nat.le_refl _
  | step _ ih => simp only [nsm]; omega
section Tot
variable (H : Nat) (cn : Nat → Int32 → Nat)
/-- the cost of the first t blocks of an order but the last, and of all -/
def pN (P : Nat → Nat) (t : Nat) : Nat := nsm (fun j => cn (P j) (nI (P (j + 1)))) t
def tN (P : Nat → Nat) : Nat := pN cn P (H - 1) + cn (P (H - 1)) (-1)
/-- y is what trying the orders of S in their order makes of x -/
def bst (S : (Nat → Nat) → Prop) (x y : Int32 × (Nat → Int32)) : Prop := ∃ v, v < 2 ^ 31 ∧ x.1 = nI v ∧ ((y = x ∧ ∀ Q, S Q → v ≤ tN H cn Q) ∨ (∃ Q, S Q ∧ tN H cn Q < v ∧ y = (nI (tN H cn Q), fun j => if j < H then nI (Q j) else x.2 j) ∧ (∀ Q', S Q' → tN H cn Q ≤ tN H cn Q') ∧ ∀ Q', S Q' → ltx H Q' Q → tN H cn Q < tN H cn Q'))
end Tot
theorem bst_comp {H : Nat} {cn : Nat → Int32 → Nat} {S S1 S2 : (Nat → Nat) → Prop} {x y z : Int32 × (Nat → Int32)} (h1 : bst H cn S1 x y) (h2 : bst H cn S2 y z) (hS : ∀ Q, S Q ↔ (S1 Q ∨ S2 Q)) (hl : ∀ Q Q', S1 Q → S2 Q' → ¬ ltx H Q' Q) : bst H cn S x z := by
  obtain ⟨v, v1, v2, h1⟩ := h1
  obtain ⟨w, w1, w2, h2⟩ := h2
  refine ⟨v, v1, v2, ?_⟩
  rcases h1 with ⟨e, a⟩ | ⟨Q, q1, q2, q3, q4, q5⟩
  · subst e
    have hvw : v = w := (nI_eq v1 w1).mp (v2.symm.trans w2)
    subst hvw
    rcases h2 with ⟨e, b⟩ | ⟨R, r1, r2, r3, r4, r5⟩
    · exact Or.inl ⟨e, fun Q hQ => ((hS Q).mp hQ).elim (a Q) (b Q)⟩
    · refine Or.inr ⟨R, (hS R).mpr (Or.inr r1), r2, r3, fun Q hQ => ?_, fun Q hQ hlt => ?_⟩
      · rcases (hS Q).mp hQ with q | q
        · have := a Q q; omega
        · exact r4 Q q
      · rcases (hS Q).mp hQ with q | q
        · have := a Q q; omega
        · exact r5 Q q hlt
  · have hvw : tN H cn Q = w := (nI_eq (by omega) w1).mp (by rw [← w2, q3])
    rcases h2 with ⟨e, b⟩ | ⟨R, r1, r2, r3, r4, r5⟩
    · refine Or.inr ⟨Q, (hS Q).mpr (Or.inl q1), q2, by rw [e, q3], fun Q' hQ' => ?_, fun Q' hQ' hlt => ?_⟩
      · rcases (hS Q').mp hQ' with q | q
        · exact q4 Q' q
        · have := b Q' q; omega
      · rcases (hS Q').mp hQ' with q | q
        · exact q5 Q' q hlt
        · exact absurd hlt (hl Q Q' q1 q)
    · refine Or.inr ⟨R, (hS R).mpr (Or.inr r1), by omega, ?_, fun Q' hQ' => ?_, fun Q' hQ' hlt => ?_⟩
      · rw [r3, q3]
        congr 1
        funext j
        by_cases e : j < H
        · rw [if_pos e, if_pos e]
        · rw [if_neg e, if_neg e]; (try dsimp only); rw [if_neg e]
      · rcases (hS Q').mp hQ' with q | q
        · have := q4 Q' q; omega
        · exact r4 Q' q
      · rcases (hS Q').mp hQ' with q | q
        · have := q4 Q' q; omega
        · exact r5 Q' q hlt
/-- the orders that begin with t blocks p -/
def cmp (N : Nat) (ho : Nat → Bool) (t : Nat) (p Q : Nat → Nat) : Prop := isO N (hcn ho N) ho Q ∧ ∀ j, j < t → Q j = p j
theorem fl_bst {N : Nat} {ho : Nat → Bool} {cn : Nat → Int32 → Nat} {t : Nat} {p : Nat → Nat} {g : Nat → Int32 × (Nat → Int32) → Int32 × (Nat → Int32)} (ht : t < hcn ho N) (hg : ∀ b, b < N → ∀ y v, v < 2 ^ 31 → y.1 = nI v → bst (hcn ho N) cn (fun Q => cmp N ho t p Q ∧ Q t = b) y (g b y)) : ∀ n, n ≤ N → ∀ x v, v < 2 ^ 31 → x.1 = nI v → bst (hcn ho N) cn (fun Q => cmp N ho t p Q ∧ Q t < n) x (fl g n x) := by
  intro n
  induction n with
  | zero => intro _ x v v1 v2; exact ⟨v, v1, v2, Or.inl ⟨rfl, fun Q hQ => absurd hQ.2 (by omega)⟩⟩
  | succ n ih =>
    intro hn x v v1 v2
    have h1 := ih (by omega) x v v1 v2
    have hy : ∃ w, w < 2 ^ 31 ∧ (fl g n x).1 = nI w := by
      obtain ⟨v, w1, w2, h⟩ := id h1
      rcases h with ⟨e, -⟩ | ⟨Q, q1, q2, q3, -⟩
      · exact ⟨v, w1, by rw [e]; exact w2⟩
      · exact ⟨tN (hcn ho N) cn Q, by omega, by rw [q3]⟩
    obtain ⟨w, w1, w2⟩ := hy
    refine bst_comp h1 (hg n (by omega) (fl g n x) w w1 w2) (fun Q => ?_) (fun Q Q' hQ hQ' => ?_)
    · constructor
      · intro q
        by_cases e : Q t = n
        · exact Or.inr ⟨q.1, e⟩
        · exact Or.inl ⟨q.1, by have := q.2; omega⟩
      · rintro (q | q)
        · exact ⟨q.1, by have := q.2; omega⟩
        · exact ⟨q.1, by have := q.2; omega⟩
    · rintro ⟨d, d1, d2, d3⟩
      by_cases e : d < t
      · rw [hQ.1.2 d e, hQ'.1.2 d e] at d3; omega
      · by_cases e2 : d = t
        · subst e2; have := hQ.2; have := hQ'.2; omega
        · have := d2 t (by omega); have := hQ.2; have := hQ'.2; omega
theorem pN_congr {cn : Nat → Int32 → Nat} {P Q : Nat → Nat} {t : Nat} (h : ∀ j, j < t + 1 → P j = Q j) : pN cn P t = pN cn Q t := nsm_congr t (fun j hj => by rw [h j (by omega), h (j + 1) (by omega)])
theorem bst_congr {H : Nat} {cn : Nat → Int32 → Nat} {S S' : (Nat → Nat) → Prop} {x y : Int32 × (Nat → Int32)} (h : bst H cn S x y) (hS : ∀ Q, S Q ↔ S' Q) : bst H cn S' x y := by
  obtain ⟨v, v1, v2, h⟩ := h
  refine ⟨v, v1, v2, ?_⟩
  rcases h with ⟨e, a⟩ | ⟨Q, q1, q2, q3, q4, q5⟩
  · exact Or.inl ⟨e, fun Q hQ => a Q ((hS Q).mpr hQ)⟩
  · exact Or.inr ⟨Q, (hS Q).mp q1, q2, q3, fun Q' hQ' => q4 Q' ((hS Q').mpr hQ'), fun Q' hQ' => q5 Q' ((hS Q').mpr hQ')⟩
/-- the search at a whole order -/
theorem sr_leaf {N : Nat} {ho : Nat → Bool} {cs : Nat → Int32 → Int32} {cn : Nat → Int32 → Nat} (hN : N ≤ 16) (hH : hcn ho N ≤ 7) (hcs : ∀ a x, a < N → cs a x = nI (cn a x) ∧ cn a x ≤ 67108864) {k t : Nat} {p : Nat → Nat} {tk c : Int32} {x : Int32 × (Nat → Int32)} {v : Nat} (h2 : 1 ≤ t) (h3 : t = hcn ho N) (h4 : p 0 = 0) (h5 : ∀ j, j < t → p j < N ∧ ho (p j) = true) (h6 : ∀ i j, i < t → j < t → p i = p j → i = j) (h8 : c = nI (pN cn p (t - 1))) (h9 : v < 2 ^ 31) (h10 : x.1 = nI v) (hk : hcn ho N ≤ t ∨ k = 0) : bst (hcn ho N) cn (cmp N ho t p) x (sr N (hcn ho N) ho cs k t p tk c x) := by
  have hpb : pN cn p (t - 1) ≤ 67108864 * 7 := Nat.le_trans (nsm_le (t - 1) (fun j hj => (hcs (p j) (nI (p (j + 1))) (h5 j (by omega)).1).2)) (Nat.mul_le_mul_left _ (by omega))
  have hlast := hcs (p (t - 1)) (-1) (h5 (t - 1) (by omega)).1
  have htot : ∀ Q, cmp N ho t p Q → tN (hcn ho N) cn Q = pN cn p (t - 1) + cn (p (t - 1)) (-1) := fun Q hQ => by
    unfold tN
    rw [← h3, hQ.2 (t - 1) (by omega), pN_congr (P := Q) (Q := p) (fun j hj => hQ.2 j (by omega))]
  have hp : cmp N ho t p p := ⟨⟨h4, fun j hj => h5 j (by omega), fun i j hi hj => h6 i j (by omega) (by omega)⟩, fun _ _ => rfl⟩
  rw [sr_eq]
  refine ⟨v, h9, h10, ?_⟩
  by_cases hc : c < x.1
  · rw [if_pos hc, if_pos hk, h8, hlast.1, nI_add]
    unfold kp
    by_cases hv : nI (pN cn p (t - 1) + cn (p (t - 1)) (-1)) < x.1
    · rw [if_pos hv]
      rw [h10, nI_ltI (by omega) h9] at hv
      refine Or.inr ⟨p, hp, by rw [htot p hp]; exact hv, ?_, fun Q hQ => by rw [htot p hp, htot Q hQ]; exact Nat.le_refl _, fun Q hQ hlt => ?_⟩
      · rw [htot p hp, ← h3]
      · exfalso
        obtain ⟨d, d1, d2, d3⟩ := hlt
        rw [hQ.2 d (by omega)] at d3
        omega
    · rw [if_neg hv]
      rw [h10, nI_ltI (by omega) h9] at hv
      exact Or.inl ⟨rfl, fun Q hQ => by rw [htot Q hQ]; omega⟩
  · rw [if_neg hc]
    rw [h8, h10, nI_ltI (by omega) h9] at hc
    exact Or.inl ⟨rfl, fun Q hQ => by rw [htot Q hQ]; omega⟩
theorem sr_bst {N : Nat} {ho : Nat → Bool} {cs : Nat → Int32 → Int32} {cn : Nat → Int32 → Nat} (hN : N ≤ 16) (hH : hcn ho N ≤ 7) (hcs : ∀ a x, a < N → cs a x = nI (cn a x) ∧ cn a x ≤ 67108864) : ∀ (k t : Nat) (p : Nat → Nat) (tk c : Int32) (x : Int32 × (Nat → Int32)) (v : Nat), k + t = 7 → 1 ≤ t → t ≤ hcn ho N → p 0 = 0 → (∀ j, j < t → p j < N ∧ ho (p j) = true) → (∀ i j, i < t → j < t → p i = p j → i = j) → (∀ b, b < N → (bt tk b = true ↔ ∃ j, j < t ∧ p j = b)) → c = nI (pN cn p (t - 1)) → v < 2 ^ 31 → x.1 = nI v →
    bst (hcn ho N) cn (cmp N ho t p) x (sr N (hcn ho N) ho cs k t p tk c x) := by
  intro k
  induction k with
  | zero =>
    intro t p tk c x v h1 h2 h3 h4 h5 h6 h7 h8 h9 h10
    exact sr_leaf hN hH hcs h2 (by omega) h4 h5 h6 h8 h9 h10 (by omega)
  | succ k ih =>
    intro t p tk c x v h1 h2 h3 h4 h5 h6 h7 h8 h9 h10
    by_cases ht : hcn ho N ≤ t
    · exact sr_leaf hN hH hcs h2 (by omega) h4 h5 h6 h8 h9 h10 (Or.inl ht)
    have hpb : pN cn p (t - 1) ≤ 67108864 * 7 := Nat.le_trans (nsm_le (t - 1) (fun j hj => (hcs (p j) (nI (p (j + 1))) (h5 j (by omega)).1).2)) (Nat.mul_le_mul_left _ (by omega))
    rw [sr_eq]
    by_cases hc : c < x.1
    · rw [if_pos hc, if_neg (fun z => z.elim ht (by omega))]
      have hfl := fl_bst (N := N) (ho := ho) (cn := cn) (t := t) (p := p) (g := fun b y => if 1 ≤ b ∧ ho b = true ∧ bt tk b = false then sr N (hcn ho N) ho cs (k + 1 - 1) (t + 1) (fun j => if j = t then b else p j) (tk ||| (1 : Int32) <<< (nI b &&& 31)) (c + cs (p (t - 1)) (nI b)) y else y) (by omega) (fun b hb y w w1 w2 => by
        try (try dsimp only)
        by_cases q : 1 ≤ b ∧ ho b = true ∧ bt tk b = false
        · rw [if_pos q]
          have hnb : ∀ j, j < t → p j ≠ b := fun j hj z => by
            have := (h7 b hb).mpr ⟨j, hj, z⟩
            rw [q.2.2] at this; exact Bool.noConfusion this
          refine bst_congr (ih (t + 1) (fun j => if j = t then b else p j) _ _ y w (by omega) (by omega) (by omega) ?_ ?_ ?_ ?_ ?_ w1 w2) (fun Q => ?_)
          · (try dsimp only); rw [if_neg (by omega)]; exact h4
          · intro j hj
            (try dsimp only)
            by_cases e : j = t
            · rw [if_pos e]; exact ⟨hb, q.2.1⟩
            · rw [if_neg e]; exact h5 j (by omega)
          · intro i j hi hj he
            (try dsimp only at he)
            by_cases e : i = t <;> by_cases e' : j = t
            · omega
            · rw [if_pos e, if_neg e'] at he; exact absurd he.symm (hnb j (by omega))
            · rw [if_neg e, if_pos e'] at he; exact absurd he (hnb i (by omega))
            · rw [if_neg e, if_neg e'] at he; exact h6 i j (by omega) (by omega) he
          · intro b' hb'
            rw [bt_or (by omega), bt_sh (by omega) (by omega), Bool.or_eq_true, decide_eq_true_eq, h7 b' hb']
            constructor
            · rintro (⟨j, j1, j2⟩ | z)
              · exact ⟨j, by omega, by (try dsimp only); rw [if_neg (by omega)]; exact j2⟩
              · exact ⟨t, by omega, by (try dsimp only); rw [if_pos rfl, z]⟩
            · rintro ⟨j, j1, j2⟩
              (try dsimp only at j2)
              by_cases e : j = t
              · rw [if_pos e] at j2; exact Or.inr j2.symm
              · rw [if_neg e] at j2; exact Or.inl ⟨j, by omega, j2⟩
          · rw [h8, (hcs (p (t - 1)) (nI b) (h5 (t - 1) (by omega)).1).1, nI_add]
            congr 1
            rw [show t + 1 - 1 = (t - 1) + 1 from by omega]
            show _ = pN cn (fun j => if j = t then b else p j) (t - 1) + cn (if t - 1 = t then b else p (t - 1)) (nI (if t - 1 + 1 = t then b else p (t - 1 + 1)))
            rw [if_neg (by omega), if_pos (by omega)]
            congr 1
            exact pN_congr (fun j hj => by rw [if_neg (by omega)])
          · unfold cmp
            constructor
            · intro z
              refine ⟨⟨z.1, fun j hj => ?_⟩, ?_⟩
              · have := z.2 j (by omega)
                (try dsimp only at this); rw [if_neg (by omega)] at this; exact this
              · have := z.2 t (by omega)
                (try dsimp only at this); rw [if_pos rfl] at this; exact this
            · intro z
              refine ⟨z.1.1, fun j hj => ?_⟩
              by_cases e : j = t
              · (try dsimp only); rw [if_pos e, e]; exact z.2
              · (try dsimp only); rw [if_neg e]; exact z.1.2 j (by omega)
        · rw [if_neg q]
          refine ⟨w, w1, w2, Or.inl ⟨rfl, fun Q hQ => ?_⟩⟩
          exfalso
          apply q
          have hQt := hQ.1.1.2.1 t (by omega)
          rw [hQ.2] at hQt
          refine ⟨?_, hQt.2, ?_⟩
          · apply Classical.byContradiction
            intro z
            have := hQ.1.1.2.2 t 0 (by omega) (by omega) (by rw [hQ.2, hQ.1.1.1]; omega)
            omega
          · cases hz : bt tk b
            · rfl
            · obtain ⟨j, j1, j2⟩ := (h7 b hb).mp hz
              have := hQ.1.1.2.2 t j (by omega) (by omega) (by rw [hQ.2, hQ.1.2 j j1, j2])
              omega) N (Nat.le_refl N) x v h9 h10
      exact bst_congr hfl (fun Q => ⟨fun z => z.1, fun z => ⟨z, (z.1.2.1 t (by omega)).1⟩⟩)
    · rw [if_neg hc]
      refine ⟨v, h9, h10, Or.inl ⟨rfl, fun Q hQ => ?_⟩⟩
      rw [h8, h10, nI_ltI (by omega) h9] at hc
      have e1 : pN cn Q (t - 1) = pN cn p (t - 1) := pN_congr (fun j hj => hQ.2 j (by omega))
      have e2 : pN cn Q (t - 1) ≤ pN cn Q (hcn ho N - 1) := nsm_mono (by omega)
      unfold tN
      omega
