/-! BITS; the reference: loop heads -/
theorem nI_sm {b : Nat} (hb : b < 32) : ((nI b).toBitVec.smod 32).toNat = b := by
  have h : ∀ b, b < 32 → ((nI b).toBitVec.smod 32).toNat = b := by decide +kernel
  exact h b hb
theorem bt_bit {s : Int32} {b : Nat} (hb : b < 32) : bt s b = s.toBitVec.getLsbD b := by
  have h1 : ((s >>> nI b) &&& 1).toBitVec = BitVec.setWidth 32 (BitVec.ofBool (s.toBitVec.getLsbD b)) := by
    rw [Int32.toBitVec_and, Int32.toBitVec_shiftRight]
    show _ &&& 1#32 = _
    rw [BitVec.and_one_eq_setWidth_ofBool_getLsbD]
    congr 2
    unfold BitVec.sshiftRight'
    rw [BitVec.getLsbD_sshiftRight, nI_sm hb]
    simp [hb]
  unfold bt
  cases hc : s.toBitVec.getLsbD b
  · rw [hc] at h1
    rw [decide_eq_false]
    intro q
    rw [q] at h1
    exact absurd h1 (by decide)
  · rw [hc] at h1
    rw [decide_eq_true]
    exact Int32.toBitVec_inj.mp h1
theorem bt_ext {s t : Int32} (h : ∀ b, b < 32 → bt s b = bt t b) : s = t := by
  apply Int32.toBitVec_inj.mp
  apply BitVec.eq_of_getLsbD_eq
  intro i hi
  have := h i hi
  rw [bt_bit hi, bt_bit hi] at this
  exact this
theorem bt_or {s t : Int32} {b : Nat} (hb : b < 32) : bt (s ||| t) b = (bt s b || bt t b) := by
  rw [bt_bit hb, bt_bit hb, bt_bit hb, Int32.toBitVec_or, BitVec.getLsbD_or]
theorem bt_and {s t : Int32} {b : Nat} (hb : b < 32) : bt (s &&& t) b = (bt s b && bt t b) := by
  rw [bt_bit hb, bt_bit hb, bt_bit hb, Int32.toBitVec_and, BitVec.getLsbD_and]
theorem bt_not {s : Int32} {b : Nat} (hb : b < 32) : bt (s ^^^ -1) b = !bt s b := by
  rw [bt_bit hb, bt_bit hb, Int32.toBitVec_xor, BitVec.getLsbD_xor]
  have : ∀ b, b < 32 → (-1 : Int32).toBitVec.getLsbD b = true := by decide +kernel
  rw [this b hb, Bool.xor_true]
theorem bt_zero {b : Nat} : bt 0 b = false := by
  unfold bt
  rw [Int32.zero_shiftRight]
  decide
theorem bt_sh {t b : Nat} (ht : t < 16) (hb : b < 32) : bt ((1 : Int32) <<< (nI t &&& 31)) b = decide (b = t) := by
  have h : ∀ t, t < 16 → ∀ b, b < 32 → bt ((1 : Int32) <<< (nI t &&& 31)) b = decide (b = t) := by decide +kernel
  exact h t ht b hb
theorem bt_all {b : Nat} (hb : b < 32) : bt 65535 b = decide (b < 16) := by
  have h : ∀ b, b < 32 → bt 65535 b = decide (b < 16) := by decide +kernel
  exact h b hb
theorem bt_one {b : Nat} (hb : b < 32) : bt 1 b = decide (b = 0) := by
  have h : ∀ b, b < 32 → bt 1 b = decide (b = 0) := by decide +kernel
  exact h b hb
/-- the blocks that are allowed: all but one, or all (16: none is left out) -/
def alw (t : Nat) : Int32 := if t < 16 then 65535 &&& ((1 : Int32) <<< (nI t &&& 31) ^^^ -1) else 65535
theorem bt_alw {t b : Nat} (hb : b < 32) : bt (alw t) b = (decide (b < 16) && decide (b ≠ t)) := by
  unfold alw
  by_cases h : t < 16
  · rw [if_pos h, bt_and hb, bt_all hb, bt_not hb, bt_sh h hb]
    by_cases e : b = t <;> simp [e]
  · rw [if_neg h, bt_all hb]
    by_cases e : b < 16
    · have : b ≠ t := by omega
      simp [e, this]
    · simp [e]
theorem bt_tg {N : Nat} {kd f s : Nat → Int32} (hN : N ≤ 16) (hv : pv N kd f s) {a : Nat} (ha : a < N) {b : Nat} (hb : b < 32) : bt (pf_tg f s a) b = (decide (f a = nI b) || decide (s a = nI b)) := by
  unfold pf_tg
  rw [bt_or hb]
  have key : ∀ y : Int32, (y = -1 ∨ ∃ x, x < N ∧ y = nI x) → bt (if y = -1 then (0 : Int32) else (1 : Int32) <<< (y &&& 31)) b = decide (y = nI b) := by
    intro y hy
    rcases hy with rfl | ⟨x, x1, rfl⟩
    · rw [if_pos rfl, bt_zero, decide_eq_false (fun q => nI_m1 (by omega) q.symm)]
    · rw [if_neg (nI_m1 (by omega)), bt_sh (by omega) hb]
      by_cases e : b = x
      · rw [e]; simp
      · rw [decide_eq_false e, decide_eq_false]
        intro q
        exact e ((nI_eq (by omega) (by omega)).mp q).symm
  rcases hv a ha with ⟨-, h2, h3⟩ | ⟨-, h2, h3⟩ | ⟨-, h2, h3, -⟩
  · rw [key _ (Or.inl h2), key _ (Or.inl h3)]
  · rw [key _ (Or.inr h2), key _ (Or.inl h3)]
  · rw [key _ (Or.inr h2), key _ (Or.inr h3)]
/-- passes, counted -/
def rpi (tg : Nat → Int32) (al : Int32) (N : Nat) (s : Int32) : Nat → Int32
  | 0 => s
  | j + 1 => rp tg al (rpi tg al N s j) N
theorem rp_sub {tg : Nat → Int32} {al s : Int32} {b : Nat} (hb : b < 32) : ∀ n, bt s b = true → bt (rp tg al s n) b = true := by
  intro n h
  induction n with
  | zero => exact h
  | succ n ih =>
    simp only [rp]
    split
    · rw [bt_or hb, ih]; rfl
    · exact ih
theorem rp_in {N : Nat} {tg : Nat → Int32} {al s : Int32} (htg : ∀ a, a < N → ∀ b, N ≤ b → b < 32 → bt (tg a) b = false) (hs : ∀ b, N ≤ b → b < 32 → bt s b = false) : ∀ n, n ≤ N → ∀ b, N ≤ b → b < 32 → bt (rp tg al s n) b = false := by
  intro n
  induction n with
  | zero => intro _; exact hs
  | succ n ih =>
    intro hn b h1 h2
    simp only [rp]
    split
    · rw [bt_or h2, ih (by omega) b h1 h2, bt_and h2, htg n (by omega) b h1 h2]; rfl
    · exact ih (by omega) b h1 h2
theorem rc_add {tg : Nat → Int32} {al : Int32} {N : Nat} : ∀ (j k : Nat) (s : Int32), (∀ i, i < j → rpi tg al N s (i + 1) ≠ rpi tg al N s i) → rc tg al N (j + k) s = rc tg al N k (rpi tg al N s j) := by
  intro j
  induction j with
  | zero => intro k s _; rw [Nat.zero_add]; rfl
  | succ j ih =>
    intro k s h
    rw [show j + 1 + k = j + (k + 1) from by omega, ih (k + 1) s (fun i hi => h i (by omega))]
    simp only [rc]
    rw [if_neg (show ¬ rp tg al (rpi tg al N s j) N = rpi tg al N s j from h j (by omega))]
    rfl
/-- where the passes come to rest, so many at most -/
theorem rpi_end {tg : Nat → Int32} {al s : Int32} {N : Nat} (hN : N ≤ 16) (htg : ∀ a, a < N → ∀ b, N ≤ b → b < 32 → bt (tg a) b = false) (hs : ∀ b, N ≤ b → b < 32 → bt s b = false) : ∀ j, (∀ i, i < j → rpi tg al N s (i + 1) ≠ rpi tg al N s i) → (∀ b, N ≤ b → b < 32 → bt (rpi tg al N s j) b = false) ∧ hcn (bt s) N + j ≤ hcn (bt (rpi tg al N s j)) N := by
  intro j
  induction j with
  | zero => intro _; exact ⟨hs, Nat.le_refl _⟩
  | succ j ih =>
    intro h
    obtain ⟨h1, h2⟩ := ih (fun i hi => h i (by omega))
    have h3 : ∀ b, N ≤ b → b < 32 → bt (rpi tg al N s (j + 1)) b = false := rp_in htg h1 N (Nat.le_refl N)
    refine ⟨h3, ?_⟩
    have hne := h j (by omega)
    obtain ⟨x, x1, x2, x3⟩ : ∃ x, x < N ∧ bt (rpi tg al N s j) x = false ∧ bt (rpi tg al N s (j + 1)) x = true := by
      apply Classical.byContradiction
      intro hn
      apply hne
      apply bt_ext
      intro b hb
      by_cases hbN : b < N
      · cases hc : bt (rpi tg al N s j) b
        · cases hd : bt (rpi tg al N s (j + 1)) b
          · rfl
          · exact absurd ⟨b, hbN, hc, hd⟩ hn
        · exact rp_sub hb N hc
      · rw [h1 b (by omega) hb, h3 b (by omega) hb]
    have h5 : hcn (fun y => bt (rpi tg al N s j) y || decide (y = x)) N = hcn (bt (rpi tg al N s j)) N + 1 := hcn_set x2 (by simp) x1 (fun y _ hy => by simp [hy])
    have h4 : hcn (fun y => bt (rpi tg al N s j) y || decide (y = x)) N ≤ hcn (bt (rpi tg al N s (j + 1))) N := hcn_sub (fun y hy q => by
      simp only [Bool.or_eq_true, decide_eq_true_eq] at q
      rcases q with q | q
      · exact rp_sub (by omega) N q
      · rw [q]; exact x3)
    omega
theorem rpi_le {tg : Nat → Int32} {al s : Int32} {N : Nat} (hN : N ≤ 16) (htg : ∀ a, a < N → ∀ b, N ≤ b → b < 32 → bt (tg a) b = false) (hs : ∀ b, N ≤ b → b < 32 → bt s b = false) {j : Nat} (h : ∀ i, i < j → rpi tg al N s (i + 1) ≠ rpi tg al N s i) : j ≤ N := by
  have h1 := (rpi_end (al := al) hN htg hs j h).2
  have h2 := hcn_le (ho := bt (rpi tg al N s j)) N
  omega
/-- at rest: what the class finds with N passes at most -/
theorem rc_rest {tg : Nat → Int32} {al s : Int32} {N : Nat} (hN : N ≤ 16) (htg : ∀ a, a < N → ∀ b, N ≤ b → b < 32 → bt (tg a) b = false) (hs : ∀ b, N ≤ b → b < 32 → bt s b = false) {j : Nat} (h : ∀ i, i < j → rpi tg al N s (i + 1) ≠ rpi tg al N s i) (h0 : rpi tg al N s (j + 1) = rpi tg al N s j) : rc tg al N N s = rpi tg al N s j := by
  have hj := rpi_le (al := al) hN htg hs h
  have e := rc_add (tg := tg) (al := al) (N := N) j (N - j) s h
  rw [show j + (N - j) = N from by omega] at e
  rw [e]
  cases hk : N - j with
  | zero => rfl
  | succ k =>
    simp only [rc]
    rw [if_pos (show rp tg al (rpi tg al N s j) N = rpi tg al N s j from h0)]
theorem tg_in {N : Nat} {kd f s : Nat → Int32} (hN : N ≤ 16) (hv : pv N kd f s) : ∀ a, a < N → ∀ b, N ≤ b → b < 32 → bt (pf_tg f s a) b = false := by
  intro a ha b h1 h2
  rw [bt_tg hN hv ha h2]
  have key : ∀ y : Int32, (y = -1 ∨ ∃ x, x < N ∧ y = nI x) → decide (y = nI b) = false := by
    intro y hy
    rcases hy with rfl | ⟨x, x1, rfl⟩
    · exact decide_eq_false (fun q => nI_m1 (by omega) q.symm)
    · exact decide_eq_false (fun q => by have := (nI_eq (by omega) (by omega)).mp q; omega)
  rcases hv a ha with ⟨-, h3, h4⟩ | ⟨-, h3, h4⟩ | ⟨-, h3, h4, -⟩
  · rw [key _ (Or.inl h3), key _ (Or.inl h4)]; rfl
  · rw [key _ (Or.inr h3), key _ (Or.inl h4)]; rfl
  · rw [key _ (Or.inr h3), key _ (Or.inr h4)]; rfl
/-- the block that is left out, as the reference has it -/
def woI (t : Nat) : Int32 := if t < 16 then nI t else -1
/-- one block's targets, as the reference adds them -/
theorem rq_step {N : Nat} {kd f s : Nat → Int32} (hN : N ≤ 16) (hv : pv N kd f s) {a : Nat} (ha : a < N) (t : Nat) (z : Int32) :
    (z ||| (if kd a ≠ 2 ∧ f a ≠ woI t then (1 : Int32) <<< (f a &&& 31) else 0)) ||| (if kd a = 1 ∧ s a ≠ woI t then (1 : Int32) <<< (s a &&& 31) else 0) = z ||| (pf_tg f s a &&& alw t) := by
  apply bt_ext
  intro b hb
  rw [bt_or hb, bt_or hb, bt_or hb, bt_and hb, bt_alw hb, bt_tg hN hv ha hb, Bool.or_assoc]
  congr 1
  have hw : ∀ x, x < N → (nI x = woI t ↔ x = t) := by
    intro x hx
    unfold woI
    by_cases h : t < 16
    · rw [if_pos h]; exact nI_eq (by omega) (by omega)
    · rw [if_neg h]
      exact ⟨fun q => absurd q (nI_m1 (by omega)), fun q => by omega⟩
  have key : ∀ (c : Prop) [Decidable c] (y : Int32), (¬ c ∧ y = -1) ∨ (c ∧ ∃ x, x < N ∧ y = nI x) → bt (if c ∧ y ≠ woI t then (1 : Int32) <<< (y &&& 31) else 0) b = (decide (y = nI b) && (decide (b < 16) && decide (b ≠ t))) := by
    intro c _ y hy
    rcases hy with ⟨h1, h2⟩ | ⟨h1, x, h2, h3⟩
    · rw [if_neg (fun q => h1 q.1), bt_zero, h2, decide_eq_false (fun q => nI_m1 (by omega) q.symm)]; rfl
    · rw [h3]
      by_cases e : b = x
      · subst e
        by_cases e2 : b = t
        · rw [if_neg (fun q => q.2 ((hw b h2).mpr e2)), bt_zero]; simp [e2]
        · rw [if_pos ⟨h1, fun q => e2 ((hw b h2).mp q)⟩, bt_sh (by omega) hb]
          have : b < 16 := by omega
          simp [e2, this]
      · have e3 : decide (nI x = nI b) = false := decide_eq_false (fun q => e ((nI_eq (by omega) (by omega)).mp q).symm)
        rw [e3]
        split
        · rw [bt_sh (by omega) hb]; simp [e]
        · rw [bt_zero]; rfl
  rw [Bool.and_or_distrib_right]
  rcases hv a ha with ⟨k, h3, h4⟩ | ⟨k, h3, h4⟩ | ⟨k, h3, h4, -⟩
  · rw [key (kd a ≠ 2) (f a) (Or.inl ⟨fun q => q k, h3⟩), key (kd a = 1) (s a) (Or.inl ⟨by rw [k]; decide, h4⟩)]
  · rw [key (kd a ≠ 2) (f a) (Or.inr ⟨by rw [k]; decide, h3⟩), key (kd a = 1) (s a) (Or.inl ⟨by rw [k]; decide, h4⟩)]
  · rw [key (kd a ≠ 2) (f a) (Or.inr ⟨by rw [k]; decide, h3⟩), key (kd a = 1) (s a) (Or.inr ⟨k, h4⟩)]
