/-! ROWS OF FIELDS AND ARRAYS OVER THE FLAT WORLD -/
/-- a class by its number: its words, the types of its fields, their names apart -/
def fx_CK (ci : Nat) (C : String) (T : u_T) (N : Nat) (ty0 : Nat → FieldType) : Prop := fx_cl[ci]? = some (C, T, N) ∧ (∀ w ∈ u_ws C T N, w ∈ fx_ww) ∧ (∀ k, k < N → parseFieldDescriptor (T k).2.2.1 = some (ty0 k)) ∧ ∀ a, a < N → ∀ b, b < N → a ≠ b → (T a).2.1 ≠ (T b).2.1
/-- field j of class ci, as the entry idx of own's pool names it -/
def fx_FL (own : String) (idx ci j : Nat) (C : String) (T : u_T) (N : Nat) (ty0 : Nat → FieldType) : Prop := fx_CK ci C T N ty0 ∧ j < N ∧ (T j).1 = C ∧ (Cond.fieldLink own idx C (T j).2.1 (T j).2.2.1 ∈ fx_ww ∨ ∃ host : String, Cond.fieldLinkNest own idx C (T j).2.1 (T j).2.2.1 host ∈ fx_nw)
/-- this is a constructor -/
def fx_I (X : fx_C) : Prop := X.2.2.2.2.2.2.2.2.1.name = "<init>"
section FxH
variable {X : fx_C} {l : Launch} {Z : fx_Z} {R : Room} {own : String} {cc : ByteArray} {ad : Nat → Nat} {pc : Nat} {lv : List (Option Value)} {rest : List Value} {ce sl : Nat} {S : List fx_Sh} {M : fx_M}
theorem G_get (F : fx_F X l Z R own cc) {idx ci j k : Nat} {C : String} {T : u_T} {N : Nat} {ty0 : Nat → FieldType} {fs : List (Option (Option Nat))} {o : Option (Option Nat)} (f : fx_FL own idx ci j C T N ty0) (d : decode cc pc = .ok (.getfield idx, 3)) (hk : S[k]? = some (.inl (ci, fs))) (hj : fs[j]? = some o)
    (kk : GG X ad (pc + 3) lv (fx_fv ad (M k) j o :: rest) ce sl S M) : GG X ad pc lv (.ref (ad k) :: rest) ce sl S M := by
  obtain ⟨p, l', e, R', s, m, args, below, meth, c, Z', A, Q, nL⟩ := X
  obtain ⟨rfl, rfl, rfl, ⟨hx, hb, hml, hown, hts⟩, hA, hE, hlk, htr⟩ := F
  intro H locs ls hL hP hD hS
  obtain ⟨⟨hc, hin, -, -⟩, hjN, hT, hlink⟩ := f
  have he : (fx_w Z'.2.1 ad M 0 S)[k]? = some (ad k, .inr (ci, fx_fs ad (M k) 0 fs)) := fx_w_at hk
  have hv : (fx_fs ad (M k) 0 fs)[j]? = some (fx_fv ad (M k) j o) := by rw [fx_fs_get, hj]; simp
  rcases hlink with h | ⟨host, h⟩
  · exact va_get hx hb hts hin hown hE.1 hP k he hc j hjN (hts _ h) (by rw [hT]; exact fun _ h => h) hv d (kk H locs ls hL hP hD hS)
  · exact va_getN hx hb hts hin hown hE.1 hP k he hc j hjN (va_Nw.use rfl (hE.2.1 _ h)) (by rw [hT]; exact fun _ h => h) hv d (kk H locs ls hL hP hD hS)
theorem G_geti (F : fx_F X l Z R own cc) {idx ci j k : Nat} {C : String} {T : u_T} {N : Nat} {ty0 : Nat → FieldType} {fs : List (Option (Option Nat))} (f : fx_FL own idx ci j C T N ty0) (d : decode cc pc = .ok (.getfield idx, 3)) (hk : S[k]? = some (.inl (ci, fs))) (hj : fs[j]? = some none)
    (kk : GG X ad (pc + 3) lv (.int (M k j) :: rest) ce sl S M) : GG X ad pc lv (.ref (ad k) :: rest) ce sl S M := G_get F f d hk hj kk
theorem G_getr (F : fx_F X l Z R own cc) {idx ci j k q : Nat} {C : String} {T : u_T} {N : Nat} {ty0 : Nat → FieldType} {fs : List (Option (Option Nat))} (f : fx_FL own idx ci j C T N ty0) (d : decode cc pc = .ok (.getfield idx, 3)) (hk : S[k]? = some (.inl (ci, fs))) (hj : fs[j]? = some (some (some q)))
    (kk : GG X ad (pc + 3) lv (.ref (ad q) :: rest) ce sl S M) : GG X ad pc lv (.ref (ad k) :: rest) ce sl S M := G_get F f d hk hj kk
theorem fx_put_set {dA : FieldType → ClassId} {k ci j : Nat} {fs : List (Option (Option Nat))} {x : Int32} (hk : S[k]? = some (.inl (ci, fs))) (hj : fs[j]? = some none) : (fx_w dA ad M 0 S).set k (ad k, .inr (ci, (fx_fs ad (M k) 0 fs).set j (.int x))) = fx_w dA ad (fx_u M k j x) 0 S := by
  rw [← fx_set_row hk, fx_fs_set hj, Nat.zero_add]
  rfl
theorem fx_put_setr {dA : FieldType → ClassId} {k ci j q : Nat} {fs : List (Option (Option Nat))} : (fx_w dA ad M 0 S).set k (ad k, .inr (ci, (fx_fs ad (M k) 0 fs).set j (.ref (ad q)))) = fx_w dA ad M 0 (S.set k (.inl (ci, fs.set j (some (some q))))) := by
  rw [← fx_set_sh]
  show _ = (fx_w dA ad M 0 S).set k (ad k, .inr (ci, fx_fs ad (M k) 0 (fs.set j (some (some q)))))
  rw [← fx_fs_setr]
  rfl
theorem G_puti (F : fx_F X l Z R own cc) {idx ci j k : Nat} {x : Int32} {C : String} {T : u_T} {N : Nat} {ty0 : Nat → FieldType} {fs : List (Option (Option Nat))} (f : fx_FL own idx ci j C T N ty0) (d : decode cc pc = .ok (.putfield idx, 3)) (hfin : (T j).2.2.2 = false) (hty : ty0 j = .int) (hk : S[k]? = some (.inl (ci, fs))) (hj : fs[j]? = some none)
    (kk : GG X ad (pc + 3) lv rest ce sl S (fx_u M k j x)) : GG X ad pc lv (.int x :: .ref (ad k) :: rest) ce sl S M := by
  obtain ⟨p, l', e, R', s, m, args, below, meth, c, Z', A, Q, nL⟩ := X
  obtain ⟨rfl, rfl, rfl, ⟨hx, hb, hml, hown, hts⟩, hA, hE, hlk, htr⟩ := F
  intro H locs ls hL hP hD hS
  obtain ⟨⟨hc, hin, hpf, hnm⟩, hjN, hT, hlink⟩ := f
  have he : (fx_w Z'.2.1 ad M 0 S)[k]? = some (ad k, .inr (ci, fx_fs ad (M k) 0 fs)) := fx_w_at hk
  have hl : j < (fx_fs ad (M k) 0 fs).length := by rw [fx_fs_len]; exact (List.getElem?_eq_some_iff.mp hj).1
  have hd : parseFieldDescriptor (T j).2.2.1 = some .int := by rw [hpf j hjN, hty]
  rcases hlink with h | ⟨host, h⟩
  · refine va_put hx hb hts hin ty0 hpf hnm hown hE.1 hP hD hS k he hc j hjN (hts _ h) (by rw [hT]; exact fun _ h => h) hfin hd rfl rfl hl d (fun H1 locs1 hP1 hD1 hS1 => ?_)
    rw [fx_put_set hk hj] at hP1 hD1
    exact kk H1 locs1 ls hL hP1 hD1 hS1
  · refine va_putN hx hb hts hin ty0 hpf hnm hown hE.1 hP hD hS k he hc j hjN (va_Nw.use rfl (hE.2.1 _ h)) (by rw [hT]; exact fun _ h => h) hfin hd rfl rfl hl d (fun H1 locs1 hP1 hD1 hS1 => ?_)
    rw [fx_put_set hk hj] at hP1 hD1
    exact kk H1 locs1 ls hL hP1 hD1 hS1
theorem G_putr (F : fx_F X l Z R own cc) {idx ci j k q : Nat} {C : String} {T : u_T} {N : Nat} {ty0 : Nat → FieldType} {fs : List (Option (Option Nat))} {o : Option (Option Nat)} (f : fx_FL own idx ci j C T N ty0) (d : decode cc pc = .ok (.putfield idx, 3)) (hfin : (T j).2.2.2 = false) (hn : ∀ a : Nat, narrow (ty0 j) (.ref a) = .ref a) (hfit : ∀ a : Nat, fits (ty0 j) (.ref a) = true) (hk : S[k]? = some (.inl (ci, fs))) (hj : fs[j]? = some o)
    (kk : GG X ad (pc + 3) lv rest ce sl (S.set k (.inl (ci, fs.set j (some (some q))))) M) : GG X ad pc lv (.ref (ad q) :: .ref (ad k) :: rest) ce sl S M := by
  obtain ⟨p, l', e, R', s, m, args, below, meth, c, Z', A, Q, nL⟩ := X
  obtain ⟨rfl, rfl, rfl, ⟨hx, hb, hml, hown, hts⟩, hA, hE, hlk, htr⟩ := F
  intro H locs ls hL hP hD hS
  obtain ⟨⟨hc, hin, hpf, hnm⟩, hjN, hT, hlink⟩ := f
  have he : (fx_w Z'.2.1 ad M 0 S)[k]? = some (ad k, .inr (ci, fx_fs ad (M k) 0 fs)) := fx_w_at hk
  have hl : j < (fx_fs ad (M k) 0 fs).length := by rw [fx_fs_len]; exact (List.getElem?_eq_some_iff.mp hj).1
  rcases hlink with h | ⟨host, h⟩
  · refine va_put hx hb hts hin ty0 hpf hnm hown hE.1 hP hD hS k he hc j hjN (hts _ h) (by rw [hT]; exact fun _ h => h) hfin (hpf j hjN) (hn _) (hfit _) hl d (fun H1 locs1 hP1 hD1 hS1 => ?_)
    rw [fx_put_setr] at hP1 hD1
    exact kk H1 locs1 ls hL hP1 hD1 hS1
  · refine va_putN hx hb hts hin ty0 hpf hnm hown hE.1 hP hD hS k he hc j hjN (va_Nw.use rfl (hE.2.1 _ h)) (by rw [hT]; exact fun _ h => h) hfin (hpf j hjN) (hn _) (hfit _) hl d (fun H1 locs1 hP1 hD1 hS1 => ?_)
    rw [fx_put_setr] at hP1 hD1
    exact kk H1 locs1 ls hL hP1 hD1 hS1
theorem G_putF (F : fx_F X l Z R own cc) (hI : fx_I X) {idx ci j k q : Nat} {C : String} {T : u_T} {N : Nat} {ty0 : Nat → FieldType} {fs : List (Option (Option Nat))} {o : Option (Option Nat)} (f : fx_FL own idx ci j C T N ty0) (hC : C = own) (hlink : Cond.fieldLink own idx C (T j).2.1 (T j).2.2.1 ∈ fx_ww) (d : decode cc pc = .ok (.putfield idx, 3)) (hfin : (T j).2.2.2 = true) (hn : ∀ a : Nat, narrow (ty0 j) (.ref a) = .ref a) (hfit : ∀ a : Nat, fits (ty0 j) (.ref a) = true) (hk : S[k]? = some (.inl (ci, fs))) (hj : fs[j]? = some o)
    (kk : GG X ad (pc + 3) lv rest ce sl (S.set k (.inl (ci, fs.set j (some (some q))))) M) : GG X ad pc lv (.ref (ad q) :: .ref (ad k) :: rest) ce sl S M := by
  obtain ⟨p, l', e, R', s, m, args, below, meth, c, Z', A, Q, nL⟩ := X
  obtain ⟨rfl, rfl, rfl, ⟨hx, hb, hml, hown, hts⟩, hA, hE, hlk, htr⟩ := F
  intro H locs ls hL hP hD hS
  obtain ⟨⟨hc, hin, hpf, hnm⟩, hjN, hT, -⟩ := f
  have he : (fx_w Z'.2.1 ad M 0 S)[k]? = some (ad k, .inr (ci, fx_fs ad (M k) 0 fs)) := fx_w_at hk
  have hl : j < (fx_fs ad (M k) 0 fs).length := by rw [fx_fs_len]; exact (List.getElem?_eq_some_iff.mp hj).1
  refine va_putF hx hb hts hin ty0 hpf hnm hown hE.1 hP hD hS k he hc j hjN (hts _ hlink) (by rw [hT]; exact fun _ h => h) hfin hI (hT.trans hC) (hpf j hjN) (hn _) (hfit _) hl d (fun H1 locs1 hP1 hD1 hS1 => ?_)
  rw [fx_put_setr] at hP1 hD1
  exact kk H1 locs1 ls hL hP1 hD1 hS1
theorem G_iald (F : fx_F X l Z R own cc) {k n : Nat} {i : Int32} (d : decode cc pc = .ok (.iaload, 1)) (hk : S[k]? = some (.inr (.int, n))) (hi : vp_in i n) (kk : GG X ad (pc + 1) lv (.int (M k i.toNatClampNeg) :: rest) ce sl S M) : GG X ad pc lv (.int i :: .ref (ad k) :: rest) ce sl S M := by
  obtain ⟨p, l', e, R', s, m, args, below, meth, c, Z', A, Q, nL⟩ := X
  obtain ⟨rfl, rfl, rfl, ⟨hx, hb, hml, hown, hts⟩, hA, hE, hlk, htr⟩ := F
  intro H locs ls hL hP hD hS
  have he : (fx_w Z'.2.1 ad M 0 S)[k]? = some (ad k, .inl (Z'.2.1 .int, n, .inl (M k))) := fx_w_at hk
  exact va_iald hx hb hE.1 hP k 0 he rfl hi d (kk H locs ls hL hP hD hS)
theorem G_iast (F : fx_F X l Z R own cc) {k n : Nat} {i x : Int32} (d : decode cc pc = .ok (.iastore, 1)) (hk : S[k]? = some (.inr (.int, n))) (hi : vp_in i n) (kk : GG X ad (pc + 1) lv rest ce sl S (fx_u M k i.toNatClampNeg x)) : GG X ad pc lv (.int x :: .int i :: .ref (ad k) :: rest) ce sl S M := by
  obtain ⟨p, l', e, R', s, m, args, below, meth, c, Z', A, Q, nL⟩ := X
  obtain ⟨rfl, rfl, rfl, ⟨hx, hb, hml, hown, hts⟩, hA, hE, hlk, htr⟩ := F
  intro H locs ls hL hP hD hS
  have he : (fx_w Z'.2.1 ad M 0 S)[k]? = some (ad k, .inl (Z'.2.1 .int, n, .inl (M k))) := fx_w_at hk
  have hset : (fx_w Z'.2.1 ad M 0 S).set k (ad k, .inl (Z'.2.1 .int, n, .inl (upd (M k) i.toNatClampNeg x))) = fx_w Z'.2.1 ad (fx_u M k i.toNatClampNeg x) 0 S := fx_set_row hk
  refine va_iast hx hb hE.1 hP hD hS k 0 he rfl hi d (fun H1 locs1 hP1 hD1 hS1 => ?_)
  rw [hset] at hP1 hD1
  exact kk H1 locs1 ls hL hP1 hD1 hS1
theorem G_zald (F : fx_F X l Z R own cc) {k n : Nat} {i : Int32} (d : decode cc pc = .ok (.baload, 1)) (hk : S[k]? = some (.inr (.boolean, n))) (hi : vp_in i n) (kk : GG X ad (pc + 1) lv (.int (M k i.toNatClampNeg) :: rest) ce sl S M) : GG X ad pc lv (.int i :: .ref (ad k) :: rest) ce sl S M := by
  obtain ⟨p, l', e, R', s, m, args, below, meth, c, Z', A, Q, nL⟩ := X
  obtain ⟨rfl, rfl, rfl, ⟨hx, hb, hml, hown, hts⟩, hA, hE, hlk, htr⟩ := F
  intro H locs ls hL hP hD hS
  have he : (fx_w Z'.2.1 ad M 0 S)[k]? = some (ad k, .inl (Z'.2.1 .boolean, n, .inl (M k))) := fx_w_at hk
  exact va_zald hx hb hE.1 hP k 1 he rfl hi d (kk H locs ls hL hP hD hS)
theorem G_zast (F : fx_F X l Z R own cc) {k n : Nat} {i x : Int32} (d : decode cc pc = .ok (.bastore, 1)) (hk : S[k]? = some (.inr (.boolean, n))) (hi : vp_in i n) (kk : GG X ad (pc + 1) lv rest ce sl S (fx_u M k i.toNatClampNeg (vp_nar .boolean x))) : GG X ad pc lv (.int x :: .int i :: .ref (ad k) :: rest) ce sl S M := by
  obtain ⟨p, l', e, R', s, m, args, below, meth, c, Z', A, Q, nL⟩ := X
  obtain ⟨rfl, rfl, rfl, ⟨hx, hb, hml, hown, hts⟩, hA, hE, hlk, htr⟩ := F
  intro H locs ls hL hP hD hS
  have he : (fx_w Z'.2.1 ad M 0 S)[k]? = some (ad k, .inl (Z'.2.1 .boolean, n, .inl (M k))) := fx_w_at hk
  have hset : (fx_w Z'.2.1 ad M 0 S).set k (ad k, .inl (Z'.2.1 .boolean, n, .inl (upd (M k) i.toNatClampNeg (vp_nar .boolean x)))) = fx_w Z'.2.1 ad (fx_u M k i.toNatClampNeg (vp_nar .boolean x)) 0 S := fx_set_row hk
  refine va_zast hx hb hE.1 hP hD hS k 1 he rfl hi d (fun H1 locs1 hP1 hD1 hS1 => ?_)
  rw [hset] at hP1 hD1
  exact kk H1 locs1 ls hL hP1 hD1 hS1
theorem G_cald (F : fx_F X l Z R own cc) {k n : Nat} {i : Int32} (d : decode cc pc = .ok (.caload, 1)) (hk : S[k]? = some (.inr (.char, n))) (hi : vp_in i n) (kk : GG X ad (pc + 1) lv (.int (M k i.toNatClampNeg) :: rest) ce sl S M) : GG X ad pc lv (.int i :: .ref (ad k) :: rest) ce sl S M := by
  obtain ⟨p, l', e, R', s, m, args, below, meth, c, Z', A, Q, nL⟩ := X
  obtain ⟨rfl, rfl, rfl, ⟨hx, hb, hml, hown, hts⟩, hA, hE, hlk, htr⟩ := F
  intro H locs ls hL hP hD hS
  have he : (fx_w Z'.2.1 ad M 0 S)[k]? = some (ad k, .inl (Z'.2.1 .char, n, .inl (M k))) := fx_w_at hk
  exact va_cald hx hb hE.1 hP k 2 he rfl hi d (kk H locs ls hL hP hD hS)
theorem G_cast (F : fx_F X l Z R own cc) {k n : Nat} {i x : Int32} (d : decode cc pc = .ok (.castore, 1)) (hk : S[k]? = some (.inr (.char, n))) (hi : vp_in i n) (kk : GG X ad (pc + 1) lv rest ce sl S (fx_u M k i.toNatClampNeg (vp_nar .char x))) : GG X ad pc lv (.int x :: .int i :: .ref (ad k) :: rest) ce sl S M := by
  obtain ⟨p, l', e, R', s, m, args, below, meth, c, Z', A, Q, nL⟩ := X
  obtain ⟨rfl, rfl, rfl, ⟨hx, hb, hml, hown, hts⟩, hA, hE, hlk, htr⟩ := F
  intro H locs ls hL hP hD hS
  have he : (fx_w Z'.2.1 ad M 0 S)[k]? = some (ad k, .inl (Z'.2.1 .char, n, .inl (M k))) := fx_w_at hk
  have hset : (fx_w Z'.2.1 ad M 0 S).set k (ad k, .inl (Z'.2.1 .char, n, .inl (upd (M k) i.toNatClampNeg (vp_nar .char x)))) = fx_w Z'.2.1 ad (fx_u M k i.toNatClampNeg (vp_nar .char x)) 0 S := fx_set_row hk
  refine va_cast hx hb hE.1 hP hD hS k 2 he rfl hi d (fun H1 locs1 hP1 hD1 hS1 => ?_)
  rw [hset] at hP1 hD1
  exact kk H1 locs1 ls hL hP1 hD1 hS1
theorem G_lald (F : fx_F X l Z R own cc) {k n : Nat} {i : Int32} (d : decode cc pc = .ok (.laload, 1)) (hk : S[k]? = some (.inr (.long, n))) (hi : vp_in i n) (kk : GG X ad (pc + 1) lv (.long (M k i.toNatClampNeg).toInt64 :: rest) ce sl S M) : GG X ad pc lv (.int i :: .ref (ad k) :: rest) ce sl S M := by
  obtain ⟨p, l', e, R', s, m, args, below, meth, c, Z', A, Q, nL⟩ := X
  obtain ⟨rfl, rfl, rfl, ⟨hx, hb, hml, hown, hts⟩, hA, hE, hlk, htr⟩ := F
  intro H locs ls hL hP hD hS
  have he : (fx_w Z'.2.1 ad M 0 S)[k]? = some (ad k, .inl (Z'.2.1 .long, n, .inr (.inl (fun j => (M k j).toInt64)))) := fx_w_at hk
  exact va_lald hx hb hE.1 hP k 3 he rfl hi d (kk H locs ls hL hP hD hS)
theorem G_last (F : fx_F X l Z R own cc) {k n : Nat} {i x : Int32} (d : decode cc pc = .ok (.lastore, 1)) (hk : S[k]? = some (.inr (.long, n))) (hi : vp_in i n) (kk : GG X ad (pc + 1) lv rest ce sl S (fx_u M k i.toNatClampNeg x)) : GG X ad pc lv (.long x.toInt64 :: .int i :: .ref (ad k) :: rest) ce sl S M := by
  obtain ⟨p, l', e, R', s, m, args, below, meth, c, Z', A, Q, nL⟩ := X
  obtain ⟨rfl, rfl, rfl, ⟨hx, hb, hml, hown, hts⟩, hA, hE, hlk, htr⟩ := F
  intro H locs ls hL hP hD hS
  have he : (fx_w Z'.2.1 ad M 0 S)[k]? = some (ad k, .inl (Z'.2.1 .long, n, .inr (.inl (fun j => (M k j).toInt64)))) := fx_w_at hk
  have hfun : vp_updL (fun j => (M k j).toInt64) i.toNatClampNeg x.toInt64 = fun j => (upd (M k) i.toNatClampNeg x j).toInt64 := by
    funext j
    simp only [vp_updL, upd]
    split <;> rfl
  have hset : (fx_w Z'.2.1 ad M 0 S).set k (ad k, .inl (Z'.2.1 .long, n, .inr (.inl (fun j => (upd (M k) i.toNatClampNeg x j).toInt64)))) = fx_w Z'.2.1 ad (fx_u M k i.toNatClampNeg x) 0 S := fx_set_row hk
  refine va_last hx hb hE.1 hP hD hS k 3 he rfl hi d (fun H1 locs1 hP1 hD1 hS1 => ?_)
  rw [hfun, hset] at hP1 hD1
  exact kk H1 locs1 ls hL hP1 hD1 hS1
theorem G_dald (F : fx_F X l Z R own cc) {k n : Nat} (d : decode cc pc = .ok (.daload, 1)) (hk : S[k]? = some (.inr (.double, n))) (hi : vp_in 0 n) (kk : GG X ad (pc + 1) lv (.double (fx_dd (M k 0) (M k 1)) :: rest) ce sl S M) : GG X ad pc lv (.int 0 :: .ref (ad k) :: rest) ce sl S M := by
  obtain ⟨p, l', e, R', s, m, args, below, meth, c, Z', A, Q, nL⟩ := X
  obtain ⟨rfl, rfl, rfl, ⟨hx, hb, hml, hown, hts⟩, hA, hE, hlk, htr⟩ := F
  intro H locs ls hL hP hD hS
  have he : (fx_w Z'.2.1 ad M 0 S)[k]? = some (ad k, .inl (Z'.2.1 .double, n, .inr (.inr (.inr (.inl (fun j => if j = 0 then fx_dd (M k 0) (M k 1) else 0)))))) := fx_w_at hk
  exact va_dald hx hb hE.1 hP k 4 he rfl hi d (kk H locs ls hL hP hD hS)
theorem G_dast (F : fx_F X l Z R own cc) {k n : Nat} {a b : Int32} (d : decode cc pc = .ok (.dastore, 1)) (hk : S[k]? = some (.inr (.double, n))) (hi : vp_in 0 n) (kk : GG X ad (pc + 1) lv rest ce sl S (fx_u (fx_u M k 0 a) k 1 b)) : GG X ad pc lv (.double (fx_dd a b) :: .int 0 :: .ref (ad k) :: rest) ce sl S M := by
  obtain ⟨p, l', e, R', s, m, args, below, meth, c, Z', A, Q, nL⟩ := X
  obtain ⟨rfl, rfl, rfl, ⟨hx, hb, hml, hown, hts⟩, hA, hE, hlk, htr⟩ := F
  intro H locs ls hL hP hD hS
  have he : (fx_w Z'.2.1 ad M 0 S)[k]? = some (ad k, .inl (Z'.2.1 .double, n, .inr (.inr (.inr (.inl (fun j => if j = 0 then fx_dd (M k 0) (M k 1) else 0)))))) := fx_w_at hk
  have hfun : vf_upd (fun j => if j = 0 then fx_dd (M k 0) (M k 1) else 0) (0 : Int32).toNatClampNeg (fx_dd a b) = fun j => if j = 0 then fx_dd (upd (upd (M k) 0 a) 1 b 0) (upd (upd (M k) 0 a) 1 b 1) else 0 := by
    funext j
    show (if j = 0 then fx_dd a b else if j = 0 then fx_dd (M k 0) (M k 1) else 0) = if j = 0 then fx_dd a b else 0
    split <;> rfl
  have hset : (fx_w Z'.2.1 ad M 0 S).set k (ad k, .inl (Z'.2.1 .double, n, .inr (.inr (.inr (.inl (fun j => if j = 0 then fx_dd (upd (upd (M k) 0 a) 1 b 0) (upd (upd (M k) 0 a) 1 b 1) else 0)))))) = fx_w Z'.2.1 ad (fx_u (fx_u M k 0 a) k 1 b) 0 S := by
    have h1 := fx_set_row (dA := Z'.2.1) (ad := ad) (M := fx_u M k 0 a) (S := S) (j := 1) (x := b) hk
    rw [fx_u_eq, ← fx_set_row (dA := Z'.2.1) (ad := ad) (M := M) (S := S) (j := 0) (x := a) hk, List.set_set] at h1
    exact h1
  refine va_dast hx hb hE.1 hP hD hS k 4 he rfl hi d (fun H1 locs1 hP1 hD1 hS1 => ?_)
  rw [hfun, hset] at hP1 hD1
  exact kk H1 locs1 ls hL hP1 hD1 hS1
end FxH
