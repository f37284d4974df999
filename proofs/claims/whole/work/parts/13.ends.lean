/-! ENDS, THROWS, NEW CELLS, AND A CONTRACT OUT OF A WALK -/
section FxE
variable {X : fx_C} {l : Launch} {Z : fx_Z} {R : Room} {own : String} {cc : ByteArray} {ad : Nat → Nat} {pc : Nat} {lv : List (Option Value)} {rest st : List Value} {ce sl : Nat} {S : List fx_Sh} {M : fx_M} {P : Option Value → (Nat → Nat) → List fx_Sh → fx_M → Prop} {PX : String → fx_M → Prop} {mc ms : Nat}
variable {ad0 : Nat → Nat} {S0 : List fx_Sh} {hh : List (Nat × Nat × Nat × Nat)} {ret : Option FieldType}
theorem G_iret (F : fx_F X l Z R own cc) {ty : FieldType} (Rt : fx_R X Z (some ty) hh ad0 S0 P PX mc ms) {v : Int32} (d : decode cc pc = .ok (.ireturn, 1)) (hn : narrow ty (.int v) = .int v) (hp : P (some (.int v)) ad S M) (hce : ce ≤ mc) (hsl : sl ≤ ms) : GG X ad pc lv [.int v] ce sl S M := by
  obtain ⟨p, l', e, R', s, m, args, below, meth, c, Z', A, Q, nL⟩ := X
  obtain ⟨rfl, rfl, rfl, ⟨hx, hb, hml, hown, hts⟩, hA, hE, hlk, htr⟩ := F
  obtain ⟨hAe, rfl, hr, ht⟩ := Rt
  intro H locs ls hL hP hD hS
  refine W.widen hce hsl ?_
  exact vx_ret (W.zret hx hb hr hn (fun t ht hW => ⟨_, ad, S, M, rfl, hp, by rw [ht]; exact hP, hD, hS.F ht⟩) hS.2.2 d hlk)
theorem G_vret (F : fx_F X l Z R own cc) (Rt : fx_R X Z none hh ad0 S0 P PX mc ms) (d : decode cc pc = .ok (.return_, 1)) (hp : P none ad S M) (hce : ce ≤ mc) (hsl : sl ≤ ms) : GG X ad pc lv [] ce sl S M := by
  obtain ⟨p, l', e, R', s, m, args, below, meth, c, Z', A, Q, nL⟩ := X
  obtain ⟨rfl, rfl, rfl, ⟨hx, hb, hml, hown, hts⟩, hA, hE, hlk, htr⟩ := F
  obtain ⟨hAe, rfl, hr, ht⟩ := Rt
  intro H locs ls hL hP hD hS
  refine W.widen hce hsl ?_
  exact vx_ret (W.vret hx hb hr (fun t ht hW => ⟨_, ad, S, M, rfl, hp, by rw [ht]; exact hP, hD, hS.F ht⟩) hS.2.2 d hlk)
theorem G_dret (F : fx_F X l Z R own cc) (Rt : fx_R X Z (some .double) hh ad0 S0 P PX mc ms) {v : UInt64} (d : decode cc pc = .ok (.dreturn, 1)) (hp : P (some (.double v)) ad S M) (hce : ce ≤ mc) (hsl : sl ≤ ms) : GG X ad pc lv [.double v] ce sl S M := by
  obtain ⟨p, l', e, R', s, m, args, below, meth, c, Z', A, Q, nL⟩ := X
  obtain ⟨rfl, rfl, rfl, ⟨hx, hb, hml, hown, hts⟩, hA, hE, hlk, htr⟩ := F
  obtain ⟨hAe, rfl, hr, ht⟩ := Rt
  intro H locs ls hL hP hD hS
  refine W.widen hce hsl ?_
  exact vx_ret (W.dret hx hb hr (fun t ht hW => ⟨_, ad, S, M, rfl, hp, by rw [ht]; exact hP, hD, hS.F ht⟩) hS.2.2 d hlk)
/-- an exception goes on to the caller -/
theorem GX_out (F : fx_F X l Z R own cc) (Rt : fx_R X Z ret [] ad S P PX mc ms) {E : String} (hp : PX E M) (hce : ce ≤ mc) (hsl : sl ≤ ms) : GX X E ad pc lv st ce sl S M := by
  obtain ⟨p, l', e, R', s, m, args, below, meth, c, Z', A, Q, nL⟩ := X
  obtain ⟨rfl, rfl, rfl, ⟨hx, hb, hml, hown, hts⟩, hA, hE, hlk, htr⟩ := F
  obtain ⟨hAe, rfl, hr, ht⟩ := Rt
  intro H locs ls cell q hL hP hD hS hcell hv hcl
  refine vx_widen hce hsl ?_
  exact vx_out (fun x hx => by rw [ht] at hx; cases hx) hlk hcell hv hcl (fun t ht hW => ⟨M, hp, by rw [ht]; exact hP, hD, hS.F ht⟩) hS.2.2 (Nat.le_refl _) (Nat.le_refl _)
/-- an exception is caught here -/
theorem GX_catch (F : fx_F X l Z R own cc) (Rt : fx_R X Z ret hh ad0 S0 P PX mc ms) {E name : String} (pre : List ExceptionTableEntry) (x : ExceptionTableEntry) (suf : List ExceptionTableEntry) (hsp : tableOf hh = pre ++ x :: suf)
    (hpass : ∀ z ∈ pre, covers z pc = false ∨ (z.catchType ≠ 0 ∧ ∃ nm : String, Cond.classLink own z.catchType nm ∈ fx_ww ∧ (E, nm) ∈ fx_nc)) (hxc : covers x pc = true) (h0 : x.catchType ≠ 0) (hlink : Cond.classLink own x.catchType name ∈ fx_ww) (hcast : Cond.castable E name ∈ fx_nw)
    (kk : ∀ q : Nat, GG X ad x.handlerPc lv [.ref q] ce sl S M) : GX X E ad pc lv st ce sl S M := by
  obtain ⟨p, l', e, R', s, m, args, below, meth, c, Z', A, Q, nL⟩ := X
  obtain ⟨rfl, rfl, rfl, ⟨hx, hb, hml, hown, hts⟩, hA, hE, hlk, htr⟩ := F
  obtain ⟨hAe, hQ, hr, ht⟩ := Rt
  intro H locs ls cell q hL hP hD hS hcell hv hcl
  refine vx_catch hown pre x suf (ht.trans hsp) (fun z hz => ?_) hxc h0 (hts _ hlink) (va_Nw.use rfl (hE.2.1 _ hcast)) hcell hv hcl (kk q H locs ls hL hP hD hS)
  rcases hpass z hz with h | ⟨h1, nm, h2, h3⟩
  · exact Or.inl h
  · exact Or.inr ⟨h1, nm, hts _ h2, hE.2.2.2.2.2.2.2 _ h3⟩
theorem G_throwS (F : fx_F X l Z R own cc) (Rt : fx_R X Z ret [] ad S P PX mc ms) {ik is ic : Nat} {cls text : String} (names : List String) (d0 : decode cc pc = .ok (.new ik, 3)) (d3 : decode cc (pc + 3) = .ok (.dup, 1)) (d4 : decode cc (pc + 4) = .ok (.ldc is, 2)) (d6 : decode cc (pc + 6) = .ok (.invokespecial ic, 3)) (d9 : decode cc (pc + 9) = .ok (.athrow, 1))
    (hcls : Bundle.fit cls = true) (hnames : ∀ n ∈ names, Bundle.fit n = true) (hk : Cond.classLink own ik cls ∈ fx_ww) (hini : Cond.initialized cls ∈ fx_ww) (hmsg : (own, is, text) ∈ fx_msg) (hat : ∀ w ∈ vx_atS own ic cls names, w ∈ fx_ww ∨ w ∈ fx_nw)
    (hR : names.length + 3 < R.frames ∧ 13 * (names.length + 1) + 43 ≤ R.locals ∧ ce + 1 ≤ R.cells ∧ sl + 6 ≤ R.slots) (hp : PX cls M) (hce : ce + 1 ≤ mc) (hsl : sl + 6 ≤ ms) : GG X ad pc lv [] ce sl S M := by
  obtain ⟨p, l', e, R', s, m, args, below, meth, c, Z', A, Q, nL⟩ := X
  obtain ⟨rfl, rfl, rfl, ⟨hx, hb, hml, hown, hts⟩, hA, hE, hlk, htr⟩ := F
  obtain ⟨hAe, rfl, hr, ht⟩ := Rt
  intro H locs ls hL hP hD hS
  obtain ⟨sa, hsa⟩ := hE.2.2.1 _ hmsg
  refine vx_throwS hx hb htr hown hcls hnames (hts _ hk) (hts _ hini) hsa (fun w hw => ?_) (fun w hw => ?_) hE.2.2.2.2.1 hE.2.2.2.2.2.1 hS (hL.1.1.trans hml.symm) d0 d3 d4 d6 d9 (fun x hx => by rw [ht] at hx; cases hx) hR.1 (by simpa using hR.2.1) hR.2.2.1 hR.2.2.2 hlk (fun t hvm hz hq => ?_) hS.2.2 hce hsl
  · rcases hat w hw with h | h
    · exact hts _ h
    · exact va_Nw.use (fx_onT (List.mem_filter.mp h).2) (hE.2.1 _ h)
  · simp only [vx_ot, Bool.or_eq_true]
    rcases List.mem_cons.mp hw with rfl | hw
    · exact Or.inr (List.mem_filter.mp hk).2
    · rcases List.mem_cons.mp hw with rfl | hw
      · exact Or.inr (List.mem_filter.mp hini).2
      · rcases hat w hw with h | h
        · exact Or.inr (List.mem_filter.mp h).2
        · exact Or.inl (fx_onT (List.mem_filter.mp h).2)
  · exact ⟨M, hp, hP.kept (fun k x hx => hq x.1 (hP k x hx).lt), hD, Nat.le_trans hS.1 hz, fun q h1 h2 => (hq q (Nat.lt_of_lt_of_le h1 hS.1)).trans (hS.2.1 q h1 h2)⟩
theorem G_throwSW (F : fx_F X l Z R own cc) (Rt : fx_R X Z ret [] ad S P PX mc ms) {ik is ic : Nat} {cls text : String} (names : List String) (d0 : decode cc pc = .ok (.new ik, 3)) (d3 : decode cc (pc + 3) = .ok (.dup, 1)) (d4 : decode cc (pc + 4) = .ok (.ldc_w is, 3)) (d7 : decode cc (pc + 7) = .ok (.invokespecial ic, 3)) (d10 : decode cc (pc + 10) = .ok (.athrow, 1))
    (hcls : Bundle.fit cls = true) (hnames : ∀ n ∈ names, Bundle.fit n = true) (hk : Cond.classLink own ik cls ∈ fx_ww) (hini : Cond.initialized cls ∈ fx_ww) (hmsg : (own, is, text) ∈ fx_msg) (hat : ∀ w ∈ vx_atS own ic cls names, w ∈ fx_ww ∨ w ∈ fx_nw)
    (hR : names.length + 3 < R.frames ∧ 13 * (names.length + 1) + 43 ≤ R.locals ∧ ce + 1 ≤ R.cells ∧ sl + 6 ≤ R.slots) (hp : PX cls M) (hce : ce + 1 ≤ mc) (hsl : sl + 6 ≤ ms) : GG X ad pc lv [] ce sl S M := by
  obtain ⟨p, l', e, R', s, m, args, below, meth, c, Z', A, Q, nL⟩ := X
  obtain ⟨rfl, rfl, rfl, ⟨hx, hb, hml, hown, hts⟩, hA, hE, hlk, htr⟩ := F
  obtain ⟨hAe, rfl, hr, ht⟩ := Rt
  intro H locs ls hL hP hD hS
  obtain ⟨sa, hsa⟩ := hE.2.2.1 _ hmsg
  refine vx_throwSW hx hb htr hown hcls hnames (hts _ hk) (hts _ hini) hsa (fun w hw => ?_) (fun w hw => ?_) hE.2.2.2.2.1 hE.2.2.2.2.2.1 hS (hL.1.1.trans hml.symm) d0 d3 d4 d7 d10 (fun x hx => by rw [ht] at hx; cases hx) hR.1 (by simpa using hR.2.1) hR.2.2.1 hR.2.2.2 hlk (fun t hvm hz hq => ?_) hS.2.2 hce hsl
  · rcases hat w hw with h | h
    · exact hts _ h
    · exact va_Nw.use (fx_onT (List.mem_filter.mp h).2) (hE.2.1 _ h)
  · simp only [vx_ot, Bool.or_eq_true]
    rcases List.mem_cons.mp hw with rfl | hw
    · exact Or.inr (List.mem_filter.mp hk).2
    · rcases List.mem_cons.mp hw with rfl | hw
      · exact Or.inr (List.mem_filter.mp hini).2
      · rcases hat w hw with h | h
        · exact Or.inr (List.mem_filter.mp h).2
        · exact Or.inl (fx_onT (List.mem_filter.mp h).2)
  · exact ⟨M, hp, hP.kept (fun k x hx => hq x.1 (hP k x hx).lt), hD, Nat.le_trans hS.1 hz, fun q h1 h2 => (hq q (Nat.lt_of_lt_of_le h1 hS.1)).trans (hS.2.1 q h1 h2)⟩
theorem G_objInit (F : fx_F X l Z R own cc) {idx a : Nat} (d : decode cc pc = .ok (.invokespecial idx, 3)) (h1 : Cond.methodLink own idx Lib.objectInit ∈ fx_ww) (h2 : Cond.instanceMethod Lib.objectInit ∈ fx_ww) (h3 : Cond.code Lib.objectInit ⟨#[0xb1]⟩ 1 none ∈ fx_ww) (hR : 1 ≤ R.frames ∧ (rest.map fun v => v.category).sum + 12 ≤ R.locals)
    (k : GG X ad (pc + 3) lv rest ce sl S M) : GG X ad pc lv (.ref a :: rest) ce sl S M := by
  obtain ⟨p, l', e, R', s, m, args, below, meth, c, Z', A, Q, nL⟩ := X
  obtain ⟨rfl, rfl, rfl, ⟨hx, hb, hml, hown, hts⟩, hA, hE, hlk, htr⟩ := F
  intro H locs ls hL hP hD hS
  exact W.objInit hx hb hown (hts _ h1) (hts _ h2) (hts _ h3) rfl (hL.1.1.trans hml.symm) rfl d hR.1 (by show 2 * 0 + _ + 12 ≤ _; omega) (k H locs ls hL hP hD hS)
theorem G_min (F : fx_F X l Z R own cc) {idx : Nat} {x y : Int32} (d : decode cc pc = .ok (.invokestatic idx, 3)) (h1 : Cond.methodLink own idx Lib.Math.min.name ∈ fx_ww) (h2 : Cond.static Lib.Math.min.name ∈ fx_ww) (h3 : Cond.initialized "java/lang/Math" ∈ fx_ww) (h4 : Cond.code Lib.Math.min.name Lib.Math.min.code 2 (some .int) ∈ fx_ww) (hR : 1 ≤ R.frames ∧ (rest.map fun v => v.category).sum + 13 ≤ R.locals ∧ ce ≤ R.cells ∧ sl ≤ R.slots)
    (k : GG X ad (pc + 3) lv (.int (if y < x then y else x) :: rest) ce sl S M) : GG X ad pc lv (.int y :: .int x :: rest) ce sl S M := by
  obtain ⟨p, l', e, R', s, m, args, below, meth, c, Z', A, Q, nL⟩ := X
  obtain ⟨rfl, rfl, rfl, ⟨hx, hb, hml, hown, hts⟩, hA, hE, hlk, htr⟩ := F
  intro H locs ls hL hP hD hS
  exact va_mmin hx hb (hml.trans hL.1.1.symm) hown (hts _ h1) (hts _ h2) (hts _ h3) (hts _ h4) hR.1 hR.2.1 hR.2.2.1 hR.2.2.2 d (k H locs ls hL hP hD hS)
theorem G_widen (F : fx_F X l Z R own cc) {ce' sl' : Nat} (h1 : ce ≤ ce') (h2 : sl ≤ sl') (k : GG X ad pc lv st ce' sl' S M) : GG X ad pc lv st ce sl S M := by
  obtain ⟨p, l', e, R', s, m, args, below, meth, c, Z', A, Q, nL⟩ := X
  intro H locs ls hL hP hD hS
  exact W.widen h1 h2 (k H locs ls hL hP hD hS)
/-- fewer locals are known -/
theorem G_sub (F : fx_F X l Z R own cc) {lv' : List (Option Value)} (hs : ∀ (i : Nat) (v : Value), lv'[i]? = some (some v) → lv[i]? = some (some v)) (hlen : lv'.length = lv.length) (k : GG X ad pc lv' st ce sl S M) : GG X ad pc lv st ce sl S M := by
  obtain ⟨p, l', e, R', s, m, args, below, meth, c, Z', A, Q, nL⟩ := X
  intro H locs ls hL hP hD hS
  exact k H locs ls (hL.sub hs hlen) hP hD hS
/-- a new object -/
theorem G_new (F : fx_F X l Z R own cc) {idx ci N : Nat} {C : String} {T : u_T} {ty0 : Nat → FieldType} (f : fx_CK ci C T N ty0) (sh : List (Option (Option Nat))) (d : decode cc pc = .ok (.new idx, 3)) (h1 : Cond.classLink own idx C ∈ fx_ww) (h2 : Cond.instantiable C N ∈ fx_ww) (h3 : Cond.initialized C ∈ fx_ww)
    (hsh : ∀ j, j < N → defaultValue (ty0 j) = vp_V (fx_fs ad (fun _ => 0) 0 sh) j) (hnm : ∀ k, ¬ some (some k) ∈ sh) (hwf : fx_wf S) (hR : ce + 1 ≤ R.cells ∧ sl + N ≤ R.slots)
    (k : ∀ ad' : Nat → Nat, (∀ k, k < S.length → ad' k = ad k) → GG X ad' (pc + 3) lv (.ref (ad' S.length) :: rest) (ce + 1) (sl + N) (S ++ [.inl (ci, sh)]) (fx_z M S.length)) : GG X ad pc lv rest ce sl S M := by
  obtain ⟨p, l', e, R', s, m, args, below, meth, c, Z', A, Q, nL⟩ := X
  obtain ⟨rfl, rfl, rfl, ⟨hx, hb, hml, hown, hts⟩, hA, hE, hlk, htr⟩ := F
  intro H locs ls hL hP hD hS
  obtain ⟨hc, hin, hpf, hnm2⟩ := f
  refine va_new (ci := ci) (fs := fx_fs ad (fun _ => 0) 0 sh) hx hb hts hin ty0 hpf hown (hts _ h1) (hts _ h2) (hts _ h3) hE.1 hP hD hS hA hc hsh hR.1 hR.2 d (fun q H1 hP1 hD1 hS1 => ?_)
  have hpu : fx_w Z'.2.1 ad M 0 S ++ [(q, .inr (ci, fx_fs ad (fun _ => 0) 0 sh))] = fx_w Z'.2.1 (fx_ad ad S.length q) (fx_z M S.length) 0 (S ++ [.inl (ci, sh)]) := fx_push (sh := .inl (ci, sh)) hwf hnm
  rw [hpu] at hP1 hD1
  have h9 := k (fx_ad ad S.length q) (fun k hk => by simp only [fx_ad]; rw [if_neg (Nat.ne_of_lt hk)]) H1 locs ls hL hP1 hD1 hS1
  have hq : fx_ad ad S.length q S.length = q := by simp [fx_ad]
  rw [hq] at h9
  exact h9
theorem G_newa_int (F : fx_F X l Z R own cc) {n : Int32} {N : Nat} (d : decode cc pc = .ok (.newarray .int, 2)) (h1 : Cond.arrayClass .int ∈ fx_ww) (hn : ¬ n < 0) (hN : n.toNatClampNeg = N) (hby : N * componentBytes .int ≤ 536870912) (hwf : fx_wf S) (hR : ce + 1 ≤ R.cells ∧ sl + N ≤ R.slots)
    (k : ∀ ad' : Nat → Nat, (∀ k, k < S.length → ad' k = ad k) → GG X ad' (pc + 2) lv (.ref (ad' S.length) :: rest) (ce + 1) (sl + N) (S ++ [.inr (.int, N)]) (fx_z M S.length)) : GG X ad pc lv (.int n :: rest) ce sl S M := by
  obtain ⟨p, l', e, R', s, m, args, below, meth, c, Z', A, Q, nL⟩ := X
  obtain ⟨rfl, rfl, rfl, ⟨hx, hb, hml, hown, hts⟩, hA, hE, hlk, htr⟩ := F
  intro H locs ls hL hP hD hS
  refine va_newa (atype := .int) (ty := .int) (N' := N) (a0 := (N, .inl (fun _ => 0))) hx hb (hts _ h1) rfl hE.1 hP hD hS hA (fun cA => rfl) hn hN hby hR.1 hR.2 d (fun q cA H1 hK1 hP1 hD1 hS1 => ?_)
  have g1 : s.vm.findClass ("[" ++ (FieldType.int).toString) = some cA := (hK1.2 5 (cA, .int) rfl).2
  have g2 : s.vm.findClass ("[" ++ (FieldType.int).toString) = some (Z'.2.1 .int) := (hE.1.2 0 (Z'.2.1 .int, .int) rfl).2
  have hcA : cA = Z'.2.1 .int := Option.some.inj (g1.symm.trans g2)
  subst hcA
  have he : fx_e Z'.2.1 ad (.inr (.int, N)) (fun _ => 0) = .inl (Z'.2.1 .int, N, .inl (fun _ => 0)) := by
    show Sum.inl (Z'.2.1 .int, N, _) = Sum.inl (Z'.2.1 .int, N, _)
    first | rfl | (congr 5; funext j; simp [fx_dd])
  have hpu : fx_w Z'.2.1 ad M 0 S ++ [(q, .inl (Z'.2.1 .int, N, .inl (fun _ => 0)))] = fx_w Z'.2.1 (fx_ad ad S.length q) (fx_z M S.length) 0 (S ++ [.inr (.int, N)]) := by
    rw [← he]
    exact fx_push hwf (fun _ h => h)
  rw [hpu] at hP1 hD1
  have h9 := k (fx_ad ad S.length q) (fun k hk => by simp only [fx_ad]; rw [if_neg (Nat.ne_of_lt hk)]) H1 locs ls hL hP1 hD1 hS1
  have hq : fx_ad ad S.length q S.length = q := by simp [fx_ad]
  rw [hq] at h9
  exact h9
theorem G_newa_boolean (F : fx_F X l Z R own cc) {n : Int32} {N : Nat} (d : decode cc pc = .ok (.newarray .boolean, 2)) (h1 : Cond.arrayClass .boolean ∈ fx_ww) (hn : ¬ n < 0) (hN : n.toNatClampNeg = N) (hby : N * componentBytes .boolean ≤ 536870912) (hwf : fx_wf S) (hR : ce + 1 ≤ R.cells ∧ sl + N ≤ R.slots)
    (k : ∀ ad' : Nat → Nat, (∀ k, k < S.length → ad' k = ad k) → GG X ad' (pc + 2) lv (.ref (ad' S.length) :: rest) (ce + 1) (sl + N) (S ++ [.inr (.boolean, N)]) (fx_z M S.length)) : GG X ad pc lv (.int n :: rest) ce sl S M := by
  obtain ⟨p, l', e, R', s, m, args, below, meth, c, Z', A, Q, nL⟩ := X
  obtain ⟨rfl, rfl, rfl, ⟨hx, hb, hml, hown, hts⟩, hA, hE, hlk, htr⟩ := F
  intro H locs ls hL hP hD hS
  refine va_newa (atype := .boolean) (ty := .boolean) (N' := N) (a0 := (N, .inl (fun _ => 0))) hx hb (hts _ h1) rfl hE.1 hP hD hS hA (fun cA => rfl) hn hN hby hR.1 hR.2 d (fun q cA H1 hK1 hP1 hD1 hS1 => ?_)
  have g1 : s.vm.findClass ("[" ++ (FieldType.boolean).toString) = some cA := (hK1.2 5 (cA, .boolean) rfl).2
  have g2 : s.vm.findClass ("[" ++ (FieldType.boolean).toString) = some (Z'.2.1 .boolean) := (hE.1.2 1 (Z'.2.1 .boolean, .boolean) rfl).2
  have hcA : cA = Z'.2.1 .boolean := Option.some.inj (g1.symm.trans g2)
  subst hcA
  have he : fx_e Z'.2.1 ad (.inr (.boolean, N)) (fun _ => 0) = .inl (Z'.2.1 .boolean, N, .inl (fun _ => 0)) := by
    show Sum.inl (Z'.2.1 .boolean, N, _) = Sum.inl (Z'.2.1 .boolean, N, _)
    first | rfl | (congr 5; funext j; simp [fx_dd])
  have hpu : fx_w Z'.2.1 ad M 0 S ++ [(q, .inl (Z'.2.1 .boolean, N, .inl (fun _ => 0)))] = fx_w Z'.2.1 (fx_ad ad S.length q) (fx_z M S.length) 0 (S ++ [.inr (.boolean, N)]) := by
    rw [← he]
    exact fx_push hwf (fun _ h => h)
  rw [hpu] at hP1 hD1
  have h9 := k (fx_ad ad S.length q) (fun k hk => by simp only [fx_ad]; rw [if_neg (Nat.ne_of_lt hk)]) H1 locs ls hL hP1 hD1 hS1
  have hq : fx_ad ad S.length q S.length = q := by simp [fx_ad]
  rw [hq] at h9
  exact h9
theorem G_newa_char (F : fx_F X l Z R own cc) {n : Int32} {N : Nat} (d : decode cc pc = .ok (.newarray .char, 2)) (h1 : Cond.arrayClass .char ∈ fx_ww) (hn : ¬ n < 0) (hN : n.toNatClampNeg = N) (hby : N * componentBytes .char ≤ 536870912) (hwf : fx_wf S) (hR : ce + 1 ≤ R.cells ∧ sl + N ≤ R.slots)
    (k : ∀ ad' : Nat → Nat, (∀ k, k < S.length → ad' k = ad k) → GG X ad' (pc + 2) lv (.ref (ad' S.length) :: rest) (ce + 1) (sl + N) (S ++ [.inr (.char, N)]) (fx_z M S.length)) : GG X ad pc lv (.int n :: rest) ce sl S M := by
  obtain ⟨p, l', e, R', s, m, args, below, meth, c, Z', A, Q, nL⟩ := X
  obtain ⟨rfl, rfl, rfl, ⟨hx, hb, hml, hown, hts⟩, hA, hE, hlk, htr⟩ := F
  intro H locs ls hL hP hD hS
  refine va_newa (atype := .char) (ty := .char) (N' := N) (a0 := (N, .inl (fun _ => 0))) hx hb (hts _ h1) rfl hE.1 hP hD hS hA (fun cA => rfl) hn hN hby hR.1 hR.2 d (fun q cA H1 hK1 hP1 hD1 hS1 => ?_)
  have g1 : s.vm.findClass ("[" ++ (FieldType.char).toString) = some cA := (hK1.2 5 (cA, .char) rfl).2
  have g2 : s.vm.findClass ("[" ++ (FieldType.char).toString) = some (Z'.2.1 .char) := (hE.1.2 2 (Z'.2.1 .char, .char) rfl).2
  have hcA : cA = Z'.2.1 .char := Option.some.inj (g1.symm.trans g2)
  subst hcA
  have he : fx_e Z'.2.1 ad (.inr (.char, N)) (fun _ => 0) = .inl (Z'.2.1 .char, N, .inl (fun _ => 0)) := by
    show Sum.inl (Z'.2.1 .char, N, _) = Sum.inl (Z'.2.1 .char, N, _)
    first | rfl | (congr 5; funext j; simp [fx_dd])
  have hpu : fx_w Z'.2.1 ad M 0 S ++ [(q, .inl (Z'.2.1 .char, N, .inl (fun _ => 0)))] = fx_w Z'.2.1 (fx_ad ad S.length q) (fx_z M S.length) 0 (S ++ [.inr (.char, N)]) := by
    rw [← he]
    exact fx_push hwf (fun _ h => h)
  rw [hpu] at hP1 hD1
  have h9 := k (fx_ad ad S.length q) (fun k hk => by simp only [fx_ad]; rw [if_neg (Nat.ne_of_lt hk)]) H1 locs ls hL hP1 hD1 hS1
  have hq : fx_ad ad S.length q S.length = q := by simp [fx_ad]
  rw [hq] at h9
  exact h9
theorem G_newa_long (F : fx_F X l Z R own cc) {n : Int32} {N : Nat} (d : decode cc pc = .ok (.newarray .long, 2)) (h1 : Cond.arrayClass .long ∈ fx_ww) (hn : ¬ n < 0) (hN : n.toNatClampNeg = N) (hby : N * componentBytes .long ≤ 536870912) (hwf : fx_wf S) (hR : ce + 1 ≤ R.cells ∧ sl + N ≤ R.slots)
    (k : ∀ ad' : Nat → Nat, (∀ k, k < S.length → ad' k = ad k) → GG X ad' (pc + 2) lv (.ref (ad' S.length) :: rest) (ce + 1) (sl + N) (S ++ [.inr (.long, N)]) (fx_z M S.length)) : GG X ad pc lv (.int n :: rest) ce sl S M := by
  obtain ⟨p, l', e, R', s, m, args, below, meth, c, Z', A, Q, nL⟩ := X
  obtain ⟨rfl, rfl, rfl, ⟨hx, hb, hml, hown, hts⟩, hA, hE, hlk, htr⟩ := F
  intro H locs ls hL hP hD hS
  refine va_newa (atype := .long) (ty := .long) (N' := N) (a0 := (N, .inr (.inl (fun _ => 0)))) hx hb (hts _ h1) rfl hE.1 hP hD hS hA (fun cA => rfl) hn hN hby hR.1 hR.2 d (fun q cA H1 hK1 hP1 hD1 hS1 => ?_)
  have g1 : s.vm.findClass ("[" ++ (FieldType.long).toString) = some cA := (hK1.2 5 (cA, .long) rfl).2
  have g2 : s.vm.findClass ("[" ++ (FieldType.long).toString) = some (Z'.2.1 .long) := (hE.1.2 3 (Z'.2.1 .long, .long) rfl).2
  have hcA : cA = Z'.2.1 .long := Option.some.inj (g1.symm.trans g2)
  subst hcA
  have he : fx_e Z'.2.1 ad (.inr (.long, N)) (fun _ => 0) = .inl (Z'.2.1 .long, N, .inr (.inl (fun _ => 0))) := by
    show Sum.inl (Z'.2.1 .long, N, _) = Sum.inl (Z'.2.1 .long, N, _)
    first | rfl | (congr 5; funext j; simp [fx_dd])
  have hpu : fx_w Z'.2.1 ad M 0 S ++ [(q, .inl (Z'.2.1 .long, N, .inr (.inl (fun _ => 0))))] = fx_w Z'.2.1 (fx_ad ad S.length q) (fx_z M S.length) 0 (S ++ [.inr (.long, N)]) := by
    rw [← he]
    exact fx_push hwf (fun _ h => h)
  rw [hpu] at hP1 hD1
  have h9 := k (fx_ad ad S.length q) (fun k hk => by simp only [fx_ad]; rw [if_neg (Nat.ne_of_lt hk)]) H1 locs ls hL hP1 hD1 hS1
  have hq : fx_ad ad S.length q S.length = q := by simp [fx_ad]
  rw [hq] at h9
  exact h9
theorem G_newa_double (F : fx_F X l Z R own cc) {n : Int32} {N : Nat} (d : decode cc pc = .ok (.newarray .double, 2)) (h1 : Cond.arrayClass .double ∈ fx_ww) (hn : ¬ n < 0) (hN : n.toNatClampNeg = N) (hby : N * componentBytes .double ≤ 536870912) (hwf : fx_wf S) (hR : ce + 1 ≤ R.cells ∧ sl + N ≤ R.slots)
    (k : ∀ ad' : Nat → Nat, (∀ k, k < S.length → ad' k = ad k) → GG X ad' (pc + 2) lv (.ref (ad' S.length) :: rest) (ce + 1) (sl + N) (S ++ [.inr (.double, N)]) (fx_z M S.length)) : GG X ad pc lv (.int n :: rest) ce sl S M := by
  obtain ⟨p, l', e, R', s, m, args, below, meth, c, Z', A, Q, nL⟩ := X
  obtain ⟨rfl, rfl, rfl, ⟨hx, hb, hml, hown, hts⟩, hA, hE, hlk, htr⟩ := F
  intro H locs ls hL hP hD hS
  refine va_newa (atype := .double) (ty := .double) (N' := N) (a0 := (N, .inr (.inr (.inr (.inl (fun _ => 0)))))) hx hb (hts _ h1) rfl hE.1 hP hD hS hA (fun cA => rfl) hn hN hby hR.1 hR.2 d (fun q cA H1 hK1 hP1 hD1 hS1 => ?_)
  have g1 : s.vm.findClass ("[" ++ (FieldType.double).toString) = some cA := (hK1.2 5 (cA, .double) rfl).2
  have g2 : s.vm.findClass ("[" ++ (FieldType.double).toString) = some (Z'.2.1 .double) := (hE.1.2 4 (Z'.2.1 .double, .double) rfl).2
  have hcA : cA = Z'.2.1 .double := Option.some.inj (g1.symm.trans g2)
  subst hcA
  have he : fx_e Z'.2.1 ad (.inr (.double, N)) (fun _ => 0) = .inl (Z'.2.1 .double, N, .inr (.inr (.inr (.inl (fun _ => 0))))) := by
    have hz : (fun j : Nat => if j = 0 then fx_dd 0 0 else 0) = fun _ : Nat => (0 : UInt64) := by funext j; simp [fx_dd]
    show Sum.inl (Z'.2.1 .double, N, Sum.inr (Sum.inr (Sum.inr (Sum.inl (fun j : Nat => if j = 0 then fx_dd 0 0 else 0))))) = _
    rw [hz]
  have hpu : fx_w Z'.2.1 ad M 0 S ++ [(q, .inl (Z'.2.1 .double, N, .inr (.inr (.inr (.inl (fun _ => 0))))))] = fx_w Z'.2.1 (fx_ad ad S.length q) (fx_z M S.length) 0 (S ++ [.inr (.double, N)]) := by
    rw [← he]
    exact fx_push hwf (fun _ h => h)
  rw [hpu] at hP1 hD1
  have h9 := k (fx_ad ad S.length q) (fun k hk => by simp only [fx_ad]; rw [if_neg (Nat.ne_of_lt hk)]) H1 locs ls hL hP1 hD1 hS1
  have hq : fx_ad ad S.length q S.length = q := by simp [fx_ad]
  rw [hq] at h9
  exact h9
end FxE
/-- the locals at the entry -/
def fx_lv (av : List Value) (n : Nat) : List (Option Value) := av.map some ++ List.replicate (n - av.length) none
theorem fx_prs_none : ∀ (r b : Nat), fx_prs b (List.replicate r none) = [] := by
  intro r
  induction r with
  | zero => intro b; rfl
  | succ r ih => intro b; simp only [List.replicate_succ, fx_prs]; exact ih (b + 1)
theorem fx_prs_args {r : Nat} : ∀ {av : List Value} {b : Nat}, (∀ v ∈ av, v.category = 1) → fx_prs b (av.map some ++ List.replicate r none) = lv_args b av := by
  intro av
  induction av with
  | nil => intro b _; exact fx_prs_none r b
  | cons v t ih =>
    intro b h
    have h1 : v.category = 1 := h v List.mem_cons_self
    simp only [List.map_cons, List.cons_append, fx_prs, lv_args, h1]
    rw [if_neg (by omega), ih (fun w hw => h w (List.mem_cons_of_mem _ hw))]
theorem fx_sl_len {av : List Value} (h : ∀ v ∈ av, v.category = 1) : (lg_sl av).length = av.length := by
  induction av with
  | nil => rfl
  | cons v t ih =>
    have h1 : v.category = 1 := h v List.mem_cons_self
    have h2 := ih (fun w hw => h w (List.mem_cons_of_mem _ hw))
    simp only [lg_sl, List.flatMap_cons, h1, List.length_append, List.length_cons] at h2 ⊢
    rw [if_neg (by omega), h2]
    simp
    omega
theorem fx_L_entry {av : List Value} {n : Nat} (h : ∀ v ∈ av, v.category = 1) (hn : av.length ≤ n) : fx_L ((lg_sl av ++ List.replicate (n - (lg_sl av).length) Slot.unset).toArray) n (fx_lv av n) := by
  refine ⟨?_, by simp [fx_lv]; omega⟩
  have h1 := lv_entry av (n := n) (by rw [fx_sl_len h]; exact hn)
  rw [← fx_prs_args (r := n - av.length) h] at h1
  exact h1
theorem fx_D_A {Z : fx_Z} {ad : Nat → Nat} {S : List fx_Sh} {M : fx_M} {sz : Nat} (h : va_D (fun _ => True) (fx_w Z.2.1 ad M 0 S)) : va_D (fx_A ad S.length sz) (fx_w Z.2.1 ad M 0 S) := by
  refine ⟨h.1, fun k q hk => ?_⟩
  rw [fx_w_get] at hk
  cases hs : S[k]? with
  | none => rw [hs] at hk; cases hk
  | some sh =>
    rw [hs] at hk
    have h2 := Option.some.inj hk
    subst h2
    exact Or.inl ⟨k, (List.getElem?_eq_some_iff.mp hs).1, by simp⟩
/-- A CONTRACT OUT OF A WALK -/
theorem CT_of {l : Launch} {Z : fx_Z} {y : MethodName} {cc : ByteArray} {maxL d mc ms : Nat} {ret : Option FieldType} {av : List Value} {ad : Nat → Nat} {S : List fx_Sh} {M : fx_M} {P : Option Value → (Nat → Nat) → List fx_Sh → fx_M → Prop} {PX : String → fx_M → Prop} {lv0 : List (Option Value)}
    (hy : plainName y.cls = true) (hl : l.stackTraces = false) (hav : ∀ v ∈ av, v.category = 1) (hn : av.length ≤ maxL) (hlv : fx_lv av maxL = lv0)
    (body : ∀ X : fx_C, fx_F X l Z (fx_rm d mc ms) y.cls cc → fx_R X Z ret [] ad S P PX mc ms → (y.name = "<init>" → fx_I X) → GG X ad 0 lv0 [] 0 0 S M) : CT l Z y (.code y cc maxL ret) d mc ms av ad S M P PX := by
  subst hlv
  intro sz
  refine vx_ofW hy rfl ?_
  intro p e s m args below meth c s₁ B hml ht hv
  obtain ⟨rfl, rfl, hE, hP, hD⟩ := hv
  have hts := atoms_spec (ws := Cond.code y cc maxL ret :: fx_ww) B.pre
  have htab : c.exceptionTable.toList = tableOf [] := by
    cases hc : c.exceptionTable.toList with
    | nil => rfl
    | cons x t => exact absurd (ht x (by rw [hc]; exact List.mem_cons_self)) id
  have G := body (p, l, e, fx_rm d mc ms, s, m, av.toArray, below, meth, c, Z, fx_A ad S.length s.heap.size, vx_MQ below (fx_Qc Z (fx_A ad S.length s.heap.size) P) (fx_XC Z (fx_A ad S.length s.heap.size) ad S PX) av.toArray s mc ms (fx_A ad S.length s.heap.size), maxL)
    ⟨rfl, rfl, rfl, ⟨B.exec, B.bytes, hml, findClass_of_methodNamed B.named, fun w hw => hts w (List.mem_cons_of_mem _ hw)⟩, fun q h => Or.inr h, hE, B.notSynchronized, hl⟩ ⟨rfl, rfl, B.returns, htab⟩ (fun h => ((name_of_methodNamed B.named B.method).1.trans h))
  rw [lg_entry_eq]
  exact G s.heap [] _ (fx_L_entry hav hn) hP (fx_D_A hD) va_S.rf
/-- .. of a method with handlers -/
theorem CT_ofH {l : Launch} {Z : fx_Z} {y : MethodName} {cc : ByteArray} {maxL d mc ms : Nat} {ret : Option FieldType} {hh : List (Nat × Nat × Nat × Nat)} {av : List Value} {ad : Nat → Nat} {S : List fx_Sh} {M : fx_M} {P : Option Value → (Nat → Nat) → List fx_Sh → fx_M → Prop} {PX : String → fx_M → Prop} {lv0 : List (Option Value)}
    (hy : plainName y.cls = true) (hl : l.stackTraces = false) (hav : ∀ v ∈ av, v.category = 1) (hn : av.length ≤ maxL) (hlv : fx_lv av maxL = lv0)
    (body : ∀ X : fx_C, fx_F X l Z (fx_rm d mc ms) y.cls cc → fx_R X Z ret hh ad S P PX mc ms → GG X ad 0 lv0 [] 0 0 S M) : CT l Z y (.codeWith y cc maxL ret hh) d mc ms av ad S M P PX := by
  subst hlv
  intro sz
  refine vx_ofWH hy rfl ?_
  intro p e s m args below meth c s₁ B hml hv
  obtain ⟨rfl, rfl, hE, hP, hD⟩ := hv
  have hts := atoms_spec (ws := Cond.codeWith y cc maxL ret hh :: fx_ww) B.pre
  have htab : c.exceptionTable.toList = tableOf hh := vx_table (x := y) B (hts _ List.mem_cons_self)
  have G := body (p, l, e, fx_rm d mc ms, s, m, av.toArray, below, meth, c, Z, fx_A ad S.length s.heap.size, vx_MQ below (fx_Qc Z (fx_A ad S.length s.heap.size) P) (fx_XC Z (fx_A ad S.length s.heap.size) ad S PX) av.toArray s mc ms (fx_A ad S.length s.heap.size), maxL)
    ⟨rfl, rfl, rfl, ⟨B.exec, B.bytes, hml, findClass_of_methodNamed B.named, fun w hw => hts w (List.mem_cons_of_mem _ hw)⟩, fun q h => Or.inr h, hE, B.notSynchronized, hl⟩ ⟨rfl, rfl, B.returns, htab⟩
  rw [lg_entry_eq]
  exact G s.heap [] _ (fx_L_entry hav hn) hP (fx_D_A hD) va_S.rf
