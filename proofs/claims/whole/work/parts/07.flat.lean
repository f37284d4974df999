/-! THE FLAT WORLD: every cell has a number; the ints of all cells stand in one memory M (cell, place); references are numbers of cells -/
abbrev fx_Sh : Type := (Nat × List (Option (Option Nat))) ⊕ (FieldType × Nat)
abbrev fx_M : Type := Nat → Nat → Int32
/-- a quotient of two ints, as the bits of a double; 0.0 without a divisor -/
def fx_dd (a b : Int32) : UInt64 := if b = 0 then 0 else FP.ddiv (FP.i2d a) (FP.i2d b)
/-- a field: an int out of the row, null, or the cell k -/
def fx_fv (ad : Nat → Nat) (row : Nat → Int32) (j : Nat) (o : Option (Option Nat)) : Value := match o with
  | none => .int (row j)
  | some none => .null
  | some (some k) => .ref (ad k)
def fx_fs (ad : Nat → Nat) (row : Nat → Int32) : Nat → List (Option (Option Nat)) → List Value
  | _, [] => []
  | j, o :: t => fx_fv ad row j o :: fx_fs ad row (j + 1) t
def fx_ar (dA : FieldType → ClassId) (ty : FieldType) (n : Nat) (row : Nat → Int32) : ClassId × vp_A := (dA ty, n, match ty with
  | .long => .inr (.inl (fun j => (row j).toInt64))
  | .double => .inr (.inr (.inr (.inl (fun j => if j = 0 then fx_dd (row 0) (row 1) else 0))))
  | _ => .inl row)
def fx_e (dA : FieldType → ClassId) (ad : Nat → Nat) (sh : fx_Sh) (row : Nat → Int32) : va_E := match sh with
  | .inl (ci, fs) => .inr (ci, fx_fs ad row 0 fs)
  | .inr (ty, n) => .inl (fx_ar dA ty n row)
def fx_w (dA : FieldType → ClassId) (ad : Nat → Nat) (M : fx_M) : Nat → List fx_Sh → va_W
  | _, [] => []
  | k, sh :: t => (ad k, fx_e dA ad sh (M k)) :: fx_w dA ad M (k + 1) t
/-- one place of the memory gets a new int -/
def fx_u (M : fx_M) (k j : Nat) (x : Int32) : fx_M := fun a => if a = k then upd (M a) j x else M a
theorem fx_u_eq {M : fx_M} {k j : Nat} {x : Int32} : fx_u M k j x k = upd (M k) j x := by simp [fx_u]
theorem fx_u_ne {M : fx_M} {k j a : Nat} {x : Int32} (h : a ≠ k) : fx_u M k j x a = M a := by simp [fx_u, h]
theorem fx_fs_get {ad : Nat → Nat} {row : Nat → Int32} {fs : List (Option (Option Nat))} : ∀ {b j : Nat}, (fx_fs ad row b fs)[j]? = (fs[j]?).map (fx_fv ad row (b + j)) := by
  induction fs with
  | nil => intro b j; simp [fx_fs]
  | cons o t ih =>
    intro b j
    cases j with
    | zero => simp [fx_fs]
    | succ j => simp only [fx_fs, List.getElem?_cons_succ]; rw [ih, show b + 1 + j = b + (j + 1) by omega]
theorem fx_fs_len {ad : Nat → Nat} {row : Nat → Int32} {fs : List (Option (Option Nat))} : ∀ {b : Nat}, (fx_fs ad row b fs).length = fs.length := by
  induction fs with
  | nil => intro b; rfl
  | cons o t ih => intro b; simp [fx_fs, ih]
theorem fx_fs_congr {ad ad' : Nat → Nat} {row row' : Nat → Int32} {fs : List (Option (Option Nat))} : ∀ {b : Nat}, (∀ j, b ≤ j → row j = row' j) → (∀ k, some (some k) ∈ fs → ad k = ad' k) → fx_fs ad row b fs = fx_fs ad' row' b fs := by
  induction fs with
  | nil => intro b _ _; rfl
  | cons o t ih =>
    intro b h1 h2
    simp only [fx_fs]
    rw [ih (fun j hj => h1 j (by omega)) (fun k hk => h2 k (List.mem_cons_of_mem _ hk))]
    congr 1
    match o with
    | none => simp [fx_fv, h1 b (Nat.le_refl b)]
    | some none => rfl
    | some (some k) => simp [fx_fv, h2 k List.mem_cons_self]
theorem fx_fs_set {ad : Nat → Nat} {row : Nat → Int32} {x : Int32} {fs : List (Option (Option Nat))} : ∀ {b j : Nat}, fs[j]? = some none → (fx_fs ad row b fs).set j (.int x) = fx_fs ad (upd row (b + j) x) b fs := by
  induction fs with
  | nil => intro b j h; simp at h
  | cons o t ih =>
    intro b j h
    cases j with
    | zero =>
      simp at h
      subst h
      simp only [fx_fs, List.set_cons_zero, fx_fv, Nat.add_zero]
      rw [fx_fs_congr (row' := upd row b x) (fun j hj => by simp [upd]; omega) (fun _ _ => rfl)]
      simp [upd]
    | succ j =>
      simp only [List.getElem?_cons_succ] at h
      simp only [fx_fs, List.set_cons_succ]
      rw [ih h, show b + 1 + j = b + (j + 1) by omega]
      congr 1
      match o with
      | none => simp [fx_fv, upd]
      | some none => rfl
      | some (some k) => rfl
theorem fx_fs_setr {ad : Nat → Nat} {row : Nat → Int32} {q : Option Nat} {fs : List (Option (Option Nat))} : ∀ {b j : Nat}, (fx_fs ad row b fs).set j (fx_fv ad row j (some q)) = fx_fs ad row b (fs.set j (some q)) := by
  induction fs with
  | nil => intro b j; rfl
  | cons o t ih =>
    intro b j
    cases j with
    | zero =>
      simp only [fx_fs, List.set_cons_zero]
      cases q <;> rfl
    | succ j =>
      simp only [fx_fs, List.set_cons_succ]
      congr 1
      rw [← ih]
      cases q <;> rfl
theorem fx_w_get {dA : FieldType → ClassId} {ad : Nat → Nat} {M : fx_M} {S : List fx_Sh} : ∀ {b k : Nat}, (fx_w dA ad M b S)[k]? = (S[k]?).map (fun sh => (ad (b + k), fx_e dA ad sh (M (b + k)))) := by
  induction S with
  | nil => intro b k; simp [fx_w]
  | cons sh t ih =>
    intro b k
    cases k with
    | zero => simp [fx_w]
    | succ k => simp only [fx_w, List.getElem?_cons_succ]; rw [ih, show b + 1 + k = b + (k + 1) by omega]
theorem fx_w_at {dA : FieldType → ClassId} {ad : Nat → Nat} {M : fx_M} {S : List fx_Sh} {k : Nat} {sh : fx_Sh} (h : S[k]? = some sh) : (fx_w dA ad M 0 S)[k]? = some (ad k, fx_e dA ad sh (M k)) := by
  rw [fx_w_get, h]
  simp
theorem fx_w_len {dA : FieldType → ClassId} {ad : Nat → Nat} {M : fx_M} {S : List fx_Sh} : ∀ {b : Nat}, (fx_w dA ad M b S).length = S.length := by
  induction S with
  | nil => intro b; rfl
  | cons o t ih => intro b; simp [fx_w, ih]
/-- which cells a shape names -/
def fx_nm (sh : fx_Sh) (k : Nat) : Prop := match sh with
  | .inl (_, fs) => some (some k) ∈ fs
  | .inr _ => False
theorem fx_e_congr {dA : FieldType → ClassId} {ad ad' : Nat → Nat} {sh : fx_Sh} {row : Nat → Int32} (h : ∀ k, fx_nm sh k → ad k = ad' k) : fx_e dA ad sh row = fx_e dA ad' sh row := by
  match sh, h with
  | .inl (ci, fs), h => simp only [fx_e]; rw [fx_fs_congr (fun _ _ => rfl) h]
  | .inr (ty, n), _ => rfl
theorem fx_w_congr {dA : FieldType → ClassId} {ad ad' : Nat → Nat} {M M' : fx_M} {S : List fx_Sh} : ∀ {b : Nat}, (∀ a, b ≤ a → a < b + S.length → M a = M' a ∧ ad a = ad' a) → (∀ sh ∈ S, ∀ k, fx_nm sh k → ad k = ad' k) → fx_w dA ad M b S = fx_w dA ad' M' b S := by
  induction S with
  | nil => intro b _ _; rfl
  | cons sh t ih =>
    intro b h1 h2
    simp only [fx_w]
    rw [ih (fun a ha hb => h1 a (by omega) (by simp only [List.length_cons]; omega)) (fun sh hs => h2 sh (List.mem_cons_of_mem _ hs))]
    obtain ⟨e1, e2⟩ := h1 b (Nat.le_refl b) (by simp only [List.length_cons]; omega)
    rw [e1, e2, fx_e_congr (h2 sh List.mem_cons_self)]
theorem fx_w_set {dA : FieldType → ClassId} {ad : Nat → Nat} {M : fx_M} {S : List fx_Sh} {sh : fx_Sh} {row : Nat → Int32} : ∀ {b i : Nat}, (fx_w dA ad M b S).set i (ad (b + i), fx_e dA ad sh row) = fx_w dA ad (fun a => if a = b + i then row else M a) b (S.set i sh) := by
  induction S with
  | nil => intro b i; rfl
  | cons o t ih =>
    intro b i
    cases i with
    | zero =>
      simp only [fx_w, List.set_cons_zero, Nat.add_zero, if_true]
      rw [fx_w_congr (M' := fun a => if a = b then row else M a) (fun a h1 h2 => ⟨by rw [if_neg (by omega)], rfl⟩) (fun _ _ _ _ => rfl)]
    | succ i =>
      simp only [fx_w, List.set_cons_succ]
      rw [show b + (i + 1) = b + 1 + i by omega, ih]
      congr 1
      rw [if_neg (by omega)]
theorem fx_self {α : Type} {S : List α} {x : α} {k : Nat} (h : S[k]? = some x) : S.set k x = S := by
  apply List.ext_getElem?
  intro j
  by_cases hj : k = j
  · subst hj
    have := (List.getElem?_eq_some_iff.mp h).1
    rw [h]; simp [this]
  · simp [List.getElem?_set_ne hj]
theorem fx_u_fun {M : fx_M} {k j : Nat} {x : Int32} : (fun a => if a = k then upd (M k) j x else M a) = fx_u M k j x := by
  funext a
  by_cases h : a = k
  · subst h; simp [fx_u]
  · simp [fx_u, h]
theorem fx_set_row {dA : FieldType → ClassId} {ad : Nat → Nat} {M : fx_M} {S : List fx_Sh} {sh : fx_Sh} {k j : Nat} {x : Int32} (h : S[k]? = some sh) : (fx_w dA ad M 0 S).set k (ad k, fx_e dA ad sh (upd (M k) j x)) = fx_w dA ad (fx_u M k j x) 0 S := by
  have h1 := fx_w_set (dA := dA) (ad := ad) (M := M) (S := S) (sh := sh) (row := upd (M k) j x) (b := 0) (i := k)
  rw [Nat.zero_add, fx_self h, fx_u_fun] at h1
  exact h1
theorem fx_set_sh {dA : FieldType → ClassId} {ad : Nat → Nat} {M : fx_M} {S : List fx_Sh} {sh : fx_Sh} {k : Nat} : (fx_w dA ad M 0 S).set k (ad k, fx_e dA ad sh (M k)) = fx_w dA ad M 0 (S.set k sh) := by
  have h1 := fx_w_set (dA := dA) (ad := ad) (M := M) (S := S) (sh := sh) (row := M k) (b := 0) (i := k)
  rw [Nat.zero_add] at h1
  rw [h1]
  congr 1
  funext a
  by_cases h : a = k
  · subst h; simp
  · simp [h]
theorem fx_w_app {dA : FieldType → ClassId} {ad : Nat → Nat} {M : fx_M} {sh : fx_Sh} {S : List fx_Sh} : ∀ {b : Nat}, fx_w dA ad M b (S ++ [sh]) = fx_w dA ad M b S ++ [(ad (b + S.length), fx_e dA ad sh (M (b + S.length)))] := by
  induction S with
  | nil => intro b; rfl
  | cons o t ih =>
    intro b
    simp only [List.cons_append, fx_w, List.length_cons]
    rw [ih, show b + 1 + t.length = b + (t.length + 1) by omega]
/-- all cells that the shapes name are there -/
def fx_wf (S : List fx_Sh) : Prop := ∀ sh ∈ S, ∀ k, fx_nm sh k → k < S.length
/-- a new cell -/
def fx_ad (ad : Nat → Nat) (n q : Nat) : Nat → Nat := fun k => if k = n then q else ad k
def fx_z (M : fx_M) (n : Nat) : fx_M := fun a => if a = n then fun _ => 0 else M a
theorem fx_push {dA : FieldType → ClassId} {ad : Nat → Nat} {M : fx_M} {S : List fx_Sh} {sh : fx_Sh} {q : Nat} (hw : fx_wf S) (hn : ∀ k, ¬ fx_nm sh k) : fx_w dA ad M 0 S ++ [(q, fx_e dA ad sh (fun _ => 0))] = fx_w dA (fx_ad ad S.length q) (fx_z M S.length) 0 (S ++ [sh]) := by
  rw [fx_w_app]
  rw [fx_w_congr (ad' := fx_ad ad S.length q) (M' := fx_z M S.length)
    (fun a h1 h2 => ⟨by simp only [fx_z]; rw [if_neg (by omega)], by simp only [fx_ad]; rw [if_neg (by omega)]⟩)
    (fun sh hs k hk => by simp only [fx_ad]; rw [if_neg (Nat.ne_of_lt (hw sh hs k hk))])]
  simp only [Nat.zero_add, fx_ad, fx_z, if_true]
  rw [fx_e_congr (ad' := fx_ad ad S.length q) (fun k hk => absurd hk (hn k))]
/-! locals, by their places -/
def fx_prs : Nat → List (Option Value) → List (Nat × Value)
  | _, [] => []
  | i, none :: t => fx_prs (i + 1) t
  | i, some v :: t => (i, v) :: fx_prs (i + 1) t
theorem fx_prs_mem {lv : List (Option Value)} {q : Nat × Value} : ∀ {b : Nat}, q ∈ fx_prs b lv ↔ ∃ i, lv[i]? = some (some q.2) ∧ q.1 = b + i := by
  induction lv with
  | nil => intro b; simp [fx_prs]
  | cons o t ih =>
    intro b
    constructor
    · intro h
      match o, h with
      | none, h =>
        obtain ⟨i, h1, h2⟩ := ih.mp h
        exact ⟨i + 1, by simpa using h1, by omega⟩
      | some v, h =>
        rcases List.mem_cons.mp h with h | h
        · subst h; exact ⟨0, rfl, rfl⟩
        · obtain ⟨i, h1, h2⟩ := ih.mp h
          exact ⟨i + 1, by simpa using h1, by omega⟩
    · rintro ⟨i, h1, h2⟩
      cases i with
      | zero =>
        simp at h1
        subst h1
        exact List.mem_cons.mpr (Or.inl (Prod.ext h2 rfl))
      | succ i =>
        have h3 : q ∈ fx_prs (b + 1) t := ih.mpr ⟨i, by simpa using h1, by omega⟩
        match o with
        | none => exact h3
        | some v => exact List.mem_cons_of_mem _ h3
def fx_L (ls : Array Slot) (nL : Nat) (lv : List (Option Value)) : Prop := lv_has ls nL (fx_prs 0 lv) ∧ lv.length ≤ nL
theorem fx_L.at {ls : Array Slot} {nL i : Nat} {lv : List (Option Value)} {v : Value} (h : fx_L ls nL lv) (hi : lv[i]? = some (some v)) : ls[i]? = some (.val v) := h.1.2.2 (i, v) (fx_prs_mem.mpr ⟨i, hi, by simp⟩)
theorem fx_L.sub {ls : Array Slot} {nL : Nat} {lv lv' : List (Option Value)} (h : fx_L ls nL lv) (hs : ∀ (i : Nat) (v : Value), lv'[i]? = some (some v) → lv[i]? = some (some v)) (hlen : lv'.length = lv.length) : fx_L ls nL lv' := ⟨⟨h.1.1, h.1.2.1, fun q hq => by
  obtain ⟨i, h1, h2⟩ := fx_prs_mem.mp hq
  rw [Nat.zero_add] at h2
  rw [h2]
  exact h.at (hs i q.2 h1)⟩, by rw [hlen]; exact h.2⟩
/-- what stands ahead of place i takes one place alone -/
def fx_c1 (lv : List (Option Value)) (i : Nat) : Bool := match i with
  | 0 => true
  | i + 1 => match lv[i]? with
    | some (some v) => v.category != 2
    | _ => true
theorem fx_c1_spec {lv : List (Option Value)} {i : Nat} {v : Value} (h : fx_c1 lv (i + 1) = true) (hi : lv[i]? = some (some v)) : ¬ v.category = 2 := by
  simp only [fx_c1, hi] at h
  simpa using h
theorem fx_L.set1 {ls : Array Slot} {nL i : Nat} {lv : List (Option Value)} {v : Value} (hc : fx_c1 lv i = true) (hl : i < lv.length) (hn : lv.length ≤ nL)
    (h : lv_has ls nL ((i, v) :: (fx_prs 0 lv).filter (fun q => !(q.1 == i) && !(q.1 + 1 == i && q.2.category == 2)))) : fx_L ls nL (lv.set i (some v)) := by
  refine ⟨⟨h.1, h.2.1, fun q hq => h.2.2 q ?_⟩, by simpa using hn⟩
  obtain ⟨j, h1, h2⟩ := fx_prs_mem.mp hq
  rw [Nat.zero_add] at h2
  by_cases hj : j = i
  · subst hj
    rw [List.getElem?_set_self hl] at h1
    have h3 : v = q.2 := Option.some.inj (Option.some.inj h1)
    exact List.mem_cons.mpr (Or.inl (Prod.ext h2 h3.symm))
  · rw [List.getElem?_set_ne (Ne.symm hj)] at h1
    refine List.mem_cons_of_mem _ (List.mem_filter.mpr ⟨fx_prs_mem.mpr ⟨j, h1, by omega⟩, ?_⟩)
    have h4 : (q.1 == i) = false := by rw [h2]; simpa using hj
    rw [h4]
    simp only [Bool.not_false, Bool.true_and, Bool.not_eq_true', Bool.and_eq_false_iff, beq_eq_false_iff_ne, ne_eq]
    by_cases h5 : q.1 + 1 = i
    · right
      subst h5
      rw [h2] at hc
      exact fx_c1_spec hc h1
    · exact Or.inl h5
theorem fx_L.set2 {ls : Array Slot} {nL i : Nat} {lv : List (Option Value)} {v : Value} (hc : fx_c1 lv i = true) (hl : i + 1 < lv.length) (hn : lv.length ≤ nL)
    (h : lv_has ls nL ((i, v) :: (fx_prs 0 lv).filter (fun q => !(q.1 == i) && (!(q.1 == i + 1) && !(q.1 + 1 == i && q.2.category == 2))))) : fx_L ls nL ((lv.set i (some v)).set (i + 1) none) := by
  refine ⟨⟨h.1, h.2.1, fun q hq => h.2.2 q ?_⟩, by simpa using hn⟩
  obtain ⟨j, h1, h2⟩ := fx_prs_mem.mp hq
  rw [Nat.zero_add] at h2
  by_cases hj1 : j = i + 1
  · subst hj1
    rw [List.getElem?_set_self (by simpa using hl)] at h1
    cases h1
  · rw [List.getElem?_set_ne (Ne.symm hj1)] at h1
    by_cases hj : j = i
    · subst hj
      rw [List.getElem?_set_self (by omega)] at h1
      have h3 : v = q.2 := Option.some.inj (Option.some.inj h1)
      exact List.mem_cons.mpr (Or.inl (Prod.ext h2 h3.symm))
    · rw [List.getElem?_set_ne (Ne.symm hj)] at h1
      refine List.mem_cons_of_mem _ (List.mem_filter.mpr ⟨fx_prs_mem.mpr ⟨j, h1, by omega⟩, ?_⟩)
      have h4 : (q.1 == i) = false := by rw [h2]; simpa using hj
      have h6 : (q.1 == i + 1) = false := by rw [h2]; simpa using hj1
      rw [h4, h6]
      simp only [Bool.not_false, Bool.true_and, Bool.not_eq_true', Bool.and_eq_false_iff, beq_eq_false_iff_ne, ne_eq]
      by_cases h5 : q.1 + 1 = i
      · right
        subst h5
        rw [h2] at hc
        exact fx_c1_spec hc h1
      · exact Or.inl h5
