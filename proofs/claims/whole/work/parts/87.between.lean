/-! THE LAW: rows of its own, and what holds between its calls -/
section LawRows
variable {X : fx_C} {l : Launch} {Z : fx_Z} {R : Room} {own : String} {cc : ByteArray} {ad : Nat → Nat} {pc : Nat} {lv : List (Option Value)} {rest st : List Value} {ce sl : Nat} {S : List fx_Sh} {M : fx_M}
/-- the script of n ints at the cell b -/
def fx_Scr (X : fx_C) (b n : Nat) (xs : Nat → Int32) : Prop :=
  match X with
  | (_, _, _, _, s, _, _, _, _, _, _, A, _, _) => va_X b n xs s s.heap ∧ b < s.heap.size ∧ ¬ A b
theorem G_sld (F : fx_F X l Z R own cc) {b n i : Nat} {xs : Nat → Int32} (hs : fx_Scr X b n xs) (d : decode cc pc = .ok (.iaload, 1)) (hi : i < n) (hn : n < 2 ^ 31) (k : GG X ad (pc + 1) lv (.int (xs i) :: rest) ce sl S M) : GG X ad pc lv (.int (nI i) :: .ref b :: rest) ce sl S M := by
  obtain ⟨p, l', e, R', s, m, args, below, meth, c, Z', A, Q, nL⟩ := X
  obtain ⟨rfl, rfl, rfl, ⟨hx, hb, hml, hown, hts⟩, hA, hE, hlk, htr⟩ := F
  intro H locs ls hL hP hD hS
  have k1 := k H locs ls hL hP hD hS
  have e1 : xs (nI i).toNatClampNeg = xs i := by rw [nI_clamp (by omega)]
  rw [← e1] at k1
  exact va_sld hx hb hs.1 hs.2.1 hs.2.2 hS (vp_in_nI hi hn) d k1
theorem G_slen (F : fx_F X l Z R own cc) {b n : Nat} {xs : Nat → Int32} (hs : fx_Scr X b n xs) (d : decode cc pc = .ok (.arraylength, 1)) (k : GG X ad (pc + 1) lv (.int (nI n) :: rest) ce sl S M) : GG X ad pc lv (.ref b :: rest) ce sl S M := by
  obtain ⟨p, l', e, R', s, m, args, below, meth, c, Z', A, Q, nL⟩ := X
  obtain ⟨rfl, rfl, rfl, ⟨hx, hb, hml, hown, hts⟩, hA, hE, hlk, htr⟩ := F
  intro H locs ls hL hP hD hS
  exact va_slen hx hb hs.1 hs.2.1 hs.2.2 hS d (k H locs ls hL hP hD hS)
theorem va_P_congr {D : va_G} {cl : List vw_C} {dA : FieldType → ClassId} {M' : fx_M} {H : Heap} (h : ∀ (k : Nat) (sh : fx_Sh), S[k]? = some sh → M' k = M k ∨ ∃ n : Nat, sh = .inr (.int, n) ∧ ∀ j : Nat, j < n → M' k j = M k j) (hp : va_P D cl (fx_w dA ad M 0 S) H) : va_P D cl (fx_w dA ad M' 0 S) H := by
  intro k q hk
  rw [fx_w_get] at hk
  cases hs : S[k]? with
  | none => rw [hs] at hk; cases hk
  | some sh =>
    rw [hs] at hk
    have e := Option.some.inj hk
    have h0 := hp k (ad k, fx_e dA ad sh (M k)) (fx_w_at hs)
    have e2 : q = (ad k, fx_e dA ad sh (M' k)) := by rw [← e]; simp
    rw [e2]
    rcases h k sh hs with z | ⟨n, rfl, z⟩
    · rw [z]; exact h0
    · have h1 : H[ad k]? = some (vp_cell (dA .int) (n, .inl (M k))) := h0
      show H[ad k]? = some (vp_cell (dA .int) (n, .inl (M' k)))
      rw [h1]
      have e3 : (fun j : Fin n => Value.int (M k j.val)) = fun j : Fin n => Value.int (M' k j.val) := funext fun j => by rw [z j.val j.isLt]
      simp only [vp_cell, arrV, e3]
theorem va_D_congr {dA : FieldType → ClassId} {A : Nat → Prop} {M' : fx_M} (hd : va_D A (fx_w dA ad M 0 S)) : va_D A (fx_w dA ad M' 0 S) := by
  have hg : ∀ (k : Nat) (q : Nat × va_E), (fx_w dA ad M' 0 S)[k]? = some q → ∃ q' : Nat × va_E, (fx_w dA ad M 0 S)[k]? = some q' ∧ q.1 = q'.1 := by
    intro k q hk
    rw [fx_w_get] at hk
    cases hs : S[k]? with
    | none => rw [hs] at hk; cases hk
    | some sh =>
      rw [hs] at hk
      have e := Option.some.inj hk
      exact ⟨_, fx_w_at hs, by rw [← e]; simp⟩
  refine ⟨fun i j p q h1 h2 e => ?_, fun k q h => ?_⟩
  · obtain ⟨p', a1, a2⟩ := hg i p h1
    obtain ⟨q', b1, b2⟩ := hg j q h2
    exact hd.1 i j p' q' a1 b1 (by rw [← a2, ← b2]; exact e)
  · obtain ⟨q', b1, b2⟩ := hg k q h
    rw [b2]; exact hd.2 k q' b1
/-- what no cell holds may be changed -/
theorem G_cong (F : fx_F X l Z R own cc) {M' : fx_M} (h : ∀ (k : Nat) (sh : fx_Sh), S[k]? = some sh → M' k = M k ∨ ∃ n : Nat, sh = .inr (.int, n) ∧ ∀ j : Nat, j < n → M' k j = M k j) (k : GG X ad pc lv st ce sl S M') : GG X ad pc lv st ce sl S M := by
  obtain ⟨p, l', e, R', s, m, args, below, meth, c, Z', A, Q, nL⟩ := X
  intro H locs ls hL hP hD hS
  exact k H locs ls hL (va_P_congr h hP) (va_D_congr hD) hS
end LawRows
theorem lg_cmp_rfl (x : Int64) : lg_cmp x x = 0 := by
  unfold lg_cmp
  rw [if_neg (fun h => by rw [gt_iff_lt, Int64.lt_iff_toInt_lt] at h; omega), if_pos rfl]
/-! what holds between the law's calls -/
def hq (sl kp t : Nat) : Nat := (sl + 10 - (kp - t)) % 10
/-- the program and its profile, c calls on -/
def Prg (c N : Nat) (sz : Nat → Nat) (M : fx_M) : Prop := M 1 8 = nI N ∧ 1 ≤ N ∧ N ≤ 16 ∧ (∀ b, b < N → M 2 b = nI (sz b) ∧ sz b ≤ 60) ∧ pv N (M 3) (M 4) (M 5) ∧ zw N (M 3) (M 8) (M 9) ∧ M 1 9 = hds (pf_tg (M 4) (M 5)) N N ∧
  (∀ b, b < 16 → (∃ n, n ≤ 500 * c ∧ M 8 b = nI n) ∧ ∃ n, n ≤ 500 * c ∧ M 9 b = nI n) ∧ M 37 0 = M 1 8 ∧
  ∀ j, j < 16 → M 38 j = M 2 j ∧ M 39 j = M 3 j ∧ M 40 j = M 4 j ∧ M 41 j = M 5 j ∧ M 42 j = M 6 j ∧ M 43 j = M 7 j ∧ M 44 j = M 8 j ∧ M 45 j = M 9 j
/-- the plan -/
def Pln (N hot al : Nat) (rw pos : Nat → Nat) (M : fx_M) : Prop := M 10 1 = nI hot ∧ 1 ≤ hot ∧ hot ≤ N ∧ M 10 2 = nI al ∧ isAl al ∧ al ≤ 32 ∧ pm N rw pos ∧ (∀ j, j < N → M 11 j = nI (rw j)) ∧ M 37 3 = M 10 1 ∧ M 37 1 = M 10 2 ∧ ∀ j, j < 16 → M 46 j = M 11 j
/-- the plans that can be brought back -/
def Hsy (N sl kp : Nat) (M : fx_M) : Prop := M 31 3 = nI sl ∧ sl < 10 ∧ M 31 4 = nI kp ∧ kp ≤ 10 ∧ M 37 27 = M 31 4 ∧
  ∀ t, t < kp → M 57 t = M 33 (hq sl kp t) ∧ M 58 t = M 34 (hq sl kp t) ∧ (∀ j, j < 16 → M 56 (16 * t + j) = M 32 (hq sl kp t * 16 + j)) ∧ ∃ (h a : Nat) (rw pos : Nat → Nat), 1 ≤ h ∧ h ≤ N ∧ M 57 t = nI h ∧ isAl a ∧ a ≤ 32 ∧ M 58 t = nI a ∧ pm N rw pos ∧ ∀ j, j < N → M 56 (16 * t + j) = nI (rw j)
/-- the input -/
def Inp (len : Nat) (M : fx_M) : Prop := M 35 1 = nI len ∧ len ≤ 60 ∧ M 37 39 = M 35 1 ∧ ∀ j, j < 60 → M 63 j = M 36 j
/-- the latest path -/
def Pth (n : Nat) (sw : Bool) (M : fx_M) : Prop := M 27 4 = nI n ∧ n ≤ 500 ∧ M 37 17 = M 27 4 ∧ ∀ j, j < n → M 47 j = M (cond sw 29 28) j
def Iv (c : Nat) (sw : Bool) (M : fx_M) : Prop := ∃ (N : Nat) (sz : Nat → Nat), Prg c N sz M ∧ (∃ (hot al : Nat) (rw pos : Nat → Nat), Pln N hot al rw pos M) ∧ (∃ sl kp : Nat, Hsy N sl kp M) ∧ (∃ len : Nat, Inp len M) ∧ (∃ n : Nat, Pth n sw M) ∧ M 37 2 = M 0 7
theorem Prg.keep {c c' N : Nat} {sz : Nat → Nat} {M m : fx_M} (h : Prg c N sz M) (hc : c ≤ c') (e : ∀ a, 1 ≤ a → a < 10 → m a = M a) (e' : ∀ a, 38 ≤ a → a < 46 → m a = M a) (f : m 37 0 = M 37 0) : Prg c' N sz m := by
  obtain ⟨h1, h2, h3, h4, h5, h6, h7, h8, h9, h10⟩ := h
  refine ⟨?_, h2, h3, ?_, ?_, ?_, ?_, ?_, ?_, ?_⟩
  · rw [e 1 (by decide) (by decide)]; exact h1
  · rw [e 2 (by decide) (by decide)]; exact h4
  · rw [e 3 (by decide) (by decide), e 4 (by decide) (by decide), e 5 (by decide) (by decide)]; exact h5
  · rw [e 3 (by decide) (by decide), e 8 (by decide) (by decide), e 9 (by decide) (by decide)]; exact h6
  · rw [e 1 (by decide) (by decide), e 4 (by decide) (by decide), e 5 (by decide) (by decide)]; exact h7
  · intro b hb
    rw [e 8 (by decide) (by decide), e 9 (by decide) (by decide)]
    obtain ⟨⟨n, n1, n2⟩, n', n3, n4⟩ := h8 b hb
    exact ⟨⟨n, by omega, n2⟩, n', by omega, n4⟩
  · rw [f, e 1 (by decide) (by decide)]; exact h9
  · intro j hj
    rw [e' 38 (by decide) (by decide), e' 39 (by decide) (by decide), e' 40 (by decide) (by decide), e' 41 (by decide) (by decide), e' 42 (by decide) (by decide), e' 43 (by decide) (by decide), e' 44 (by decide) (by decide), e' 45 (by decide) (by decide), e 2 (by decide) (by decide), e 3 (by decide) (by decide), e 4 (by decide) (by decide), e 5 (by decide) (by decide), e 6 (by decide) (by decide), e 7 (by decide) (by decide), e 8 (by decide) (by decide), e 9 (by decide) (by decide)]
    exact h10 j hj
theorem Pln.keep {N hot al : Nat} {rw pos : Nat → Nat} {M m : fx_M} (h : Pln N hot al rw pos M) (e10 : m 10 = M 10) (e11 : m 11 = M 11) (e46 : m 46 = M 46) (f3 : m 37 3 = M 37 3) (f1 : m 37 1 = M 37 1) : Pln N hot al rw pos m := by
  unfold Pln at h ⊢
  rw [e10, e11, e46, f3, f1]; exact h
theorem Hsy.keep {N sl kp : Nat} {M m : fx_M} (h : Hsy N sl kp M) (e31 : m 31 = M 31) (e32 : m 32 = M 32) (e33 : m 33 = M 33) (e34 : m 34 = M 34) (e56 : m 56 = M 56) (e57 : m 57 = M 57) (e58 : m 58 = M 58) (f : m 37 27 = M 37 27) : Hsy N sl kp m := by
  unfold Hsy at h ⊢
  rw [e31, e32, e33, e34, e56, e57, e58, f]; exact h
theorem Inp.keep {len : Nat} {M m : fx_M} (h : Inp len M) (e35 : m 35 = M 35) (e36 : m 36 = M 36) (e63 : m 63 = M 63) (f : m 37 39 = M 37 39) : Inp len m := by
  unfold Inp at h ⊢
  rw [e35, e36, e63, f]; exact h
theorem Pth.keep {n : Nat} {sw : Bool} {M m : fx_M} (h : Pth n sw M) (e27 : m 27 = M 27) (e28 : m 28 = M 28) (e29 : m 29 = M 29) (e47 : m 47 = M 47) (f : m 37 17 = M 37 17) : Pth n sw m := by
  have e : m (cond sw 29 28) = M (cond sw 29 28) := by cases sw <;> assumption
  unfold Pth at h ⊢
  rw [e27, e, e47, f]; exact h
/-- nothing that lasts has changed -/
theorem Iv.keep {c c' : Nat} {sw : Bool} {M m : fx_M} (h : Iv c sw M) (hc : c ≤ c') (e : ∀ a, (a < 12 ∨ (27 ≤ a ∧ a < 30) ∨ (31 ≤ a ∧ a < 37) ∨ (38 ≤ a ∧ a < 48) ∨ (56 ≤ a ∧ a < 59) ∨ a = 63) → m a = M a) (f : ∀ j, (j < 4 ∨ j = 17 ∨ j = 27 ∨ j = 39) → m 37 j = M 37 j) : Iv c' sw m := by
  obtain ⟨N, sz, hP, ⟨hot, al, rw, pos, hL⟩, ⟨sl, kp, hH⟩, ⟨len, hT⟩, ⟨n, hQ⟩, hlim⟩ := h
  refine ⟨N, sz, hP.keep hc (fun a h1 h2 => e a (by omega)) (fun a h1 h2 => e a (by omega)) (f 0 (by omega)), ⟨hot, al, rw, pos, hL.keep (e 10 (by omega)) (e 11 (by omega)) (e 46 (by omega)) (f 3 (by omega)) (f 1 (by omega))⟩, ⟨sl, kp, hH.keep (e 31 (by omega)) (e 32 (by omega)) (e 33 (by omega)) (e 34 (by omega)) (e 56 (by omega)) (e 57 (by omega)) (e 58 (by omega)) (f 27 (by omega))⟩, ⟨len, hT.keep (e 35 (by omega)) (e 36 (by omega)) (e 63 (by omega)) (f 39 (by omega))⟩, ⟨n, hQ.keep (e 27 (by omega)) (e 28 (by omega)) (e 29 (by omega)) (e 47 (by omega)) (f 17 (by omega))⟩, ?_⟩
  rw [f 2 (by omega), e 0 (by omega)]; exact hlim
/-- the reference's rows are the class's, beyond their ends too -/
def Eqs (M : fx_M) : Prop := M 38 = M 2 ∧ M 39 = M 3 ∧ M 40 = M 4 ∧ M 41 = M 5 ∧ M 42 = M 6 ∧ M 43 = M 7 ∧ M 44 = M 8 ∧ M 45 = M 9 ∧ M 46 = M 11
def nrm (M : fx_M) : fx_M := fun k => if k = 38 then M 2 else if k = 39 then M 3 else if k = 40 then M 4 else if k = 41 then M 5 else if k = 42 then M 6 else if k = 43 then M 7 else if k = 44 then M 8 else if k = 45 then M 9 else if k = 46 then M 11 else M k
theorem nrm_ne {M : fx_M} {k : Nat} (h : k < 38 ∨ 47 ≤ k) : nrm M k = M k := by
  unfold nrm
  rw [if_neg (by omega), if_neg (by omega), if_neg (by omega), if_neg (by omega), if_neg (by omega), if_neg (by omega), if_neg (by omega), if_neg (by omega), if_neg (by omega)]
theorem nrm_Eqs (M : fx_M) : Eqs (nrm M) := ⟨rfl, rfl, rfl, rfl, rfl, rfl, rfl, rfl, rfl⟩
theorem Iv_nrm {c : Nat} {sw : Bool} {M : fx_M} (h : Iv c sw M) : Iv c sw (nrm M) := by
  obtain ⟨N, sz, hP, ⟨hot, al, rw, pos, hL⟩, ⟨sl, kp, hH⟩, ⟨len, hT⟩, ⟨n, hQ⟩, hlim⟩ := h
  obtain ⟨h1, h2, h3, h4, h5, h6, h7, h8, h9, h10⟩ := hP
  refine ⟨N, sz, ⟨h1, h2, h3, h4, h5, h6, h7, h8, h9, fun j hj => ⟨rfl, rfl, rfl, rfl, rfl, rfl, rfl, rfl⟩⟩, ⟨hot, al, rw, pos, ?_⟩, ⟨sl, kp, hH.keep rfl rfl rfl rfl rfl rfl rfl rfl⟩, ⟨len, hT.keep rfl rfl rfl rfl⟩, ⟨n, hQ.keep rfl rfl rfl rfl rfl⟩, hlim⟩
  obtain ⟨g1, g2, g3, g4, g5, g6, g7, g8, g9, g10, g11⟩ := hL
  exact ⟨g1, g2, g3, g4, g5, g6, g7, g8, g9, g10, fun j hj => rfl⟩
theorem nrm_G {c : Nat} {sw : Bool} {M : fx_M} (h : Iv c sw M) : ∀ (k : Nat) (sh : fx_Sh), (w_S sw)[k]? = some sh → nrm M k = M k ∨ ∃ n : Nat, sh = .inr (.int, n) ∧ ∀ j : Nat, j < n → nrm M k j = M k j := by
  intro k sh hk
  obtain ⟨N, sz, hP, ⟨hot, al, rw, pos, hL⟩, -⟩ := h
  have e := hP.2.2.2.2.2.2.2.2.2
  have e46 := hL.2.2.2.2.2.2.2.2.2.2
  by_cases h1 : k < 38 ∨ 47 ≤ k
  · exact Or.inl (nrm_ne h1)
  · refine Or.inr ⟨16, ?_, fun j hj => ?_⟩
    · rcases (show k = 38 ∨ k = 39 ∨ k = 40 ∨ k = 41 ∨ k = 42 ∨ k = 43 ∨ k = 44 ∨ k = 45 ∨ k = 46 by omega) with rfl | rfl | rfl | rfl | rfl | rfl | rfl | rfl | rfl <;> exact (Option.some.inj hk).symm
    · obtain ⟨a1, a2, a3, a4, a5, a6, a7, a8⟩ := e j hj
      have a9 := e46 j hj
      rcases (show k = 38 ∨ k = 39 ∨ k = 40 ∨ k = 41 ∨ k = 42 ∨ k = 43 ∨ k = 44 ∨ k = 45 ∨ k = 46 by omega) with rfl | rfl | rfl | rfl | rfl | rfl | rfl | rfl | rfl
      · exact a1.symm
      · exact a2.symm
      · exact a3.symm
      · exact a4.symm
      · exact a5.symm
      · exact a6.symm
      · exact a7.symm
      · exact a8.symm
      · exact a9.symm
section IvU
variable {c N hot al : Nat} {sz rw pos : Nat → Nat} {M m : fx_M}
theorem vH_of (hP : Prg c N sz M) (hL : Pln N hot al rw pos M) (hE : Eqs M) (hq : ∀ a, 37 ≤ a → a < 64 → m a = M a) : v_H N hot al rw pos sz m := by
  obtain ⟨h1, h2, h3, h4, h5, h6, h7, h8, h9, h10⟩ := hP
  obtain ⟨g1, g2, g3, g4, g5, g6, g7, g8, g9, g10, g11⟩ := hL
  obtain ⟨e38, e39, e40, e41, e42, e43, e44, e45, e46⟩ := hE
  unfold v_H
  rw [hq 37 (by decide) (by decide), hq 38 (by decide) (by decide), hq 39 (by decide) (by decide), hq 40 (by decide) (by decide), hq 41 (by decide) (by decide), hq 46 (by decide) (by decide), e38, e39, e40, e41, e46, h9, g9, g10]
  exact ⟨h1, h3, g1, g2, g3, g7, g8, h4, h5, g4, g5, g6⟩
theorem yH_of (hP : Prg c N sz M) (hL : Pln N hot al rw pos M) : y_H N hot rw pos sz M := ⟨hP.1, hP.2.2.1, hL.1, hL.2.1, hL.2.2.1, hL.2.2.2.2.2.2.1, hL.2.2.2.2.2.2.2.1, hP.2.2.2.1, hP.2.2.2.2.1⟩
theorem zw_of (hP : Prg c N sz M) (hE : Eqs M) (hq : ∀ a, 37 ≤ a → a < 64 → m a = M a) : zw N (m 39) (m 44) (m 45) := by
  rw [hq 39 (by decide) (by decide), hq 44 (by decide) (by decide), hq 45 (by decide) (by decide), hE.2.1, hE.2.2.2.2.2.2.1, hE.2.2.2.2.2.2.2.1]
  exact hP.2.2.2.2.2.1
theorem pv_of (hP : Prg c N sz M) (hE : Eqs M) (hq : ∀ a, 37 ≤ a → a < 64 → m a = M a) : pv N (m 39) (m 40) (m 41) := by
  rw [hq 39 (by decide) (by decide), hq 40 (by decide) (by decide), hq 41 (by decide) (by decide), hE.2.1, hE.2.2.1, hE.2.2.2.1]
  exact hP.2.2.2.2.1
theorem n0_of (hP : Prg c N sz M) (hq : ∀ a, 37 ≤ a → a < 64 → m a = M a) : m 37 0 = nI N := by
  rw [hq 37 (by decide) (by decide), hP.2.2.2.2.2.2.2.2.1]; exact hP.1
end IvU
theorem rz_cy {c N hot al : Nat} {sz rw pos : Nat → Nat} {M m : fx_M} (hP : Prg c N sz M) (hE : Eqs M) (hlim : M 37 2 = M 0 7) (hq : ∀ a, 37 ≤ a → a < 64 → m a = M a) : r_cy N hot al rw pos sz m = z_cy (M 3) (M 4) (M 5) (M 7) (M 8) (M 9) (M 1 9) N hot al rw pos sz (M 0 7) := by
  unfold r_cy
  rw [hq 39 (by decide) (by decide), hq 40 (by decide) (by decide), hq 41 (by decide) (by decide), hq 43 (by decide) (by decide), hq 44 (by decide) (by decide), hq 45 (by decide) (by decide), hq 37 (by decide) (by decide), hE.2.1, hE.2.2.1, hE.2.2.2.1, hE.2.2.2.2.2.1, hE.2.2.2.2.2.2.1, hE.2.2.2.2.2.2.2.1, hlim, ← hP.2.2.2.2.2.2.1]
theorem rz_en {c N hot al : Nat} {sz rw pos : Nat → Nat} {M m : fx_M} (hP : Prg c N sz M) (hE : Eqs M) (hlim : M 37 2 = M 0 7) (hq : ∀ a, 37 ≤ a → a < 64 → m a = M a) : r_en N hot al rw pos sz m = z_en (M 3) (M 4) (M 5) (M 7) (M 1 9) N hot al rw pos sz (M 0 7) := by
  unfold r_en
  rw [hq 39 (by decide) (by decide), hq 40 (by decide) (by decide), hq 41 (by decide) (by decide), hq 43 (by decide) (by decide), hq 37 (by decide) (by decide), hE.2.1, hE.2.2.1, hE.2.2.2.1, hE.2.2.2.2.2.1, hlim, ← hP.2.2.2.2.2.2.1]
theorem rz_he {c N hot al : Nat} {sz rw pos : Nat → Nat} {M m : fx_M} (hP : Prg c N sz M) (hE : Eqs M) (hlim : M 37 2 = M 0 7) (hq : ∀ a, 37 ≤ a → a < 64 → m a = M a) : r_he N hot al rw pos sz m = z_he (M 3) (M 4) (M 5) (M 7) (M 1 9) N hot al rw pos sz (M 0 7) := by
  unfold r_he
  rw [hq 39 (by decide) (by decide), hq 40 (by decide) (by decide), hq 41 (by decide) (by decide), hq 43 (by decide) (by decide), hq 37 (by decide) (by decide), hE.2.1, hE.2.2.1, hE.2.2.2.1, hE.2.2.2.2.2.1, hlim, ← hP.2.2.2.2.2.2.1]
theorem rz_ad {c N hot al : Nat} {sz rw pos : Nat → Nat} {M m : fx_M} (hP : Prg c N sz M) (hE : Eqs M) (hlim : M 37 2 = M 0 7) (hq : ∀ a, 37 ≤ a → a < 64 → m a = M a) (b : Nat) : r_ad N hot al rw pos sz m b = z_ad (M 3) (M 4) (M 5) (M 7) (M 1 9) N hot al rw pos sz (M 0 7) b := by
  unfold r_ad
  rw [hq 39 (by decide) (by decide), hq 40 (by decide) (by decide), hq 41 (by decide) (by decide), hq 43 (by decide) (by decide), hq 37 (by decide) (by decide), hE.2.1, hE.2.2.1, hE.2.2.2.1, hE.2.2.2.2.2.1, hlim, ← hP.2.2.2.2.2.2.1]
theorem rz_pd {c N hot al : Nat} {sz rw pos : Nat → Nat} {M m : fx_M} (hP : Prg c N sz M) (hE : Eqs M) (hlim : M 37 2 = M 0 7) (hq : ∀ a, 37 ≤ a → a < 64 → m a = M a) (b : Nat) : r_pd N hot al rw pos sz m b = z_pd (M 3) (M 4) (M 5) (M 7) (M 1 9) N hot al rw pos sz (M 0 7) b := by
  unfold r_pd
  rw [hq 39 (by decide) (by decide), hq 40 (by decide) (by decide), hq 41 (by decide) (by decide), hq 43 (by decide) (by decide), hq 37 (by decide) (by decide), hE.2.1, hE.2.2.1, hE.2.2.2.1, hE.2.2.2.2.2.1, hlim, ← hP.2.2.2.2.2.2.1]
theorem rz_bb {c N hot al : Nat} {sz rw pos : Nat → Nat} {M m : fx_M} (hP : Prg c N sz M) (hE : Eqs M) (hlim : M 37 2 = M 0 7) (hq : ∀ a, 37 ≤ a → a < 64 → m a = M a) (b : Nat) : r_bb N hot al rw pos sz m b = z_bb (M 3) (M 4) (M 5) (M 7) (M 1 9) N hot al rw pos sz (M 0 7) b := by
  unfold r_bb
  rw [hq 39 (by decide) (by decide), hq 40 (by decide) (by decide), hq 41 (by decide) (by decide), hq 43 (by decide) (by decide), hq 37 (by decide) (by decide), hE.2.1, hE.2.2.1, hE.2.2.2.1, hE.2.2.2.2.2.1, hlim, ← hP.2.2.2.2.2.2.1]
theorem rz_jb {c N hot al : Nat} {sz rw pos : Nat → Nat} {M m : fx_M} (hP : Prg c N sz M) (hE : Eqs M) (hlim : M 37 2 = M 0 7) (hq : ∀ a, 37 ≤ a → a < 64 → m a = M a) (b : Nat) : r_jb N hot al rw pos sz m b = z_jb (M 3) (M 4) (M 5) (M 7) (M 1 9) N hot al rw pos sz (M 0 7) b := by
  unfold r_jb
  rw [hq 39 (by decide) (by decide), hq 40 (by decide) (by decide), hq 41 (by decide) (by decide), hq 43 (by decide) (by decide), hq 37 (by decide) (by decide), hE.2.1, hE.2.2.1, hE.2.2.2.1, hE.2.2.2.2.2.1, hlim, ← hP.2.2.2.2.2.2.1]
theorem rz_fm {N hot : Nat} {rw pos : Nat → Nat} {M m : fx_M} (hE : Eqs M) (hq : ∀ a, 37 ≤ a → a < 64 → m a = M a) (b : Nat) : r_fm N hot rw pos m b = y_fm (M 3) (M 4) (M 5) N hot rw pos b := by
  unfold r_fm
  rw [hq 39 (by decide) (by decide), hq 40 (by decide) (by decide), hq 41 (by decide) (by decide), hE.2.1, hE.2.2.1, hE.2.2.2.1]
