/-! CALLS, RETURNS, THROWS OVER THE FLAT WORLD -/
/-- a method y as the entry i of own's pool names it: of own's or a public one, instance -/
def fx_MV (own : String) (i : Nat) (y : MethodName) (bytes : ByteArray) (maxL : Nat) (ret : Option FieldType) (n : Nat) : Prop :=
  ((Cond.methodLink own i y ∈ fx_ww) ∨ ∃ host : String, Cond.methodLinkNest own i y host ∈ fx_nw) ∧ Cond.instanceMethod y ∈ fx_ww ∧ Cond.selects y.cls y y ∈ fx_ww ∧ Cond.initialized y.cls ∈ fx_ww ∧ Cond.code y bytes maxL ret ∈ fx_ww ∧
  (y.cls ≠ "java/lang/invoke/MethodHandle" ∧ y.cls ≠ "java/lang/invoke/VarHandle" ∧ (parseMethodDescriptor y.desc).map (fun d => d.parameters.length) = some n)
/-- static -/
def fx_MS (own : String) (i : Nat) (y : MethodName) (bytes : ByteArray) (maxL : Nat) (ret : Option FieldType) (n : Nat) : Prop :=
  ((Cond.methodLink own i y ∈ fx_ww) ∨ ∃ host : String, Cond.methodLinkNest own i y host ∈ fx_nw) ∧ Cond.static y ∈ fx_ww ∧ Cond.initialized y.cls ∈ fx_ww ∧ Cond.code y bytes maxL ret ∈ fx_ww ∧
  (y.cls ≠ "java/lang/invoke/MethodHandle" ∧ y.cls ≠ "java/lang/invoke/VarHandle" ∧ (parseMethodDescriptor y.desc).map (fun d => d.parameters.length) = some n)
/-- static, with a table of handlers -/
def fx_MX (own : String) (i : Nat) (y : MethodName) (bytes : ByteArray) (maxL : Nat) (ret : Option FieldType) (hh : List (Nat × Nat × Nat × Nat)) (n : Nat) : Prop :=
  Cond.methodLink own i y ∈ fx_ww ∧ Cond.static y ∈ fx_ww ∧ Cond.initialized y.cls ∈ fx_ww ∧ Cond.codeWith y bytes maxL ret hh ∈ fx_ww ∧
  (y.cls ≠ "java/lang/invoke/MethodHandle" ∧ y.cls ≠ "java/lang/invoke/VarHandle" ∧ (parseMethodDescriptor y.desc).map (fun d => d.parameters.length) = some n)
/-- a constructor -/
def fx_MI (own : String) (i : Nat) (y : MethodName) (bytes : ByteArray) (maxL : Nat) (n : Nat) : Prop :=
  ((Cond.methodLink own i y ∈ fx_ww) ∨ ∃ host : String, Cond.methodLinkNest own i y host ∈ fx_nw) ∧ y.name = "<init>" ∧ Cond.instanceMethod y ∈ fx_ww ∧ Cond.initialized y.cls ∈ fx_ww ∧ Cond.code y bytes maxL none ∈ fx_ww ∧
  (y.cls ≠ "java/lang/invoke/MethodHandle" ∧ y.cls ≠ "java/lang/invoke/VarHandle" ∧ (parseMethodDescriptor y.desc).map (fun d => d.parameters.length) = some n)
theorem fx_GI {w0 : Cond} (h : w0 ∈ fx_ww) : GoodIn fx_ww (w0 :: fx_ww) := fx_good (fun w hw => (List.mem_cons.mp hw).elim (fun e => e ▸ h) id)
theorem fx_blind {av : List Value} {Z : fx_Z} {ad : Nat → Nat} {S : List fx_Sh} {M : fx_M} {sz : Nat} : FrameBlind (va_Pc av (fx_pre Z ad S M sz)) := fun a U g mk q => ⟨q.1, q.2.1, fx_E.same (s := U) (U := U.calling g mk a) rfl rfl q.2.2.1, q.2.2.2.1, q.2.2.2.2⟩
section FxC
variable {p : Program} {l : Launch} {e : Env} {R : Room} {s : State} {m : MethodId} {args : Array Value} {below : List Frame} {meth : Method} {c : Code} {Z : fx_Z} {A : Nat → Prop} {Q : State → Prop} {nL : Nat} {H : Heap} {locs : List Loc} {ls : Array Slot}
variable {ad : Nat → Nat} {pc : Nat} {lv : List (Option Value)} {rest st0 : List Value} {ce sl mc ms : Nat} {S : List fx_Sh} {M : fx_M} {P : Option Value → (Nat → Nat) → List fx_Sh → fx_M → Prop} {PX : String → fx_M → Prop} {a : Array Value} {A1 : Nat → Prop}
theorem fx_AA (hA : ∀ q : Nat, s.heap.size ≤ q → A q) (hD : va_D A (fx_w Z.2.1 ad M 0 S)) (hS : va_S A s.heap H locs) : ∀ q, fx_A ad S.length H.size q → A q := by
  intro q h
  rcases h with ⟨k, hk, rfl⟩ | h
  · obtain ⟨sh, hsh⟩ : ∃ sh, S[k]? = some sh := ⟨_, List.getElem?_eq_getElem hk⟩
    exact hD.2 k _ (fx_w_at hsh)
  · exact hA q (Nat.le_trans hS.1 h)
theorem fx_prU (hA : ∀ q : Nat, s.heap.size ≤ q → A q) (hE : fx_E Z A s) (hP : va_P Z.1 fx_cl (fx_w Z.2.1 ad M 0 S) H) (hD : va_D A (fx_w Z.2.1 ad M 0 S)) (hS : va_S A s.heap H locs) (U : State) (hU : U.heap = H) (hW : s.WarmedH U.vm) : fx_pre Z ad S M H.size U :=
  ⟨by rw [hU], fx_E.moved hW (fun q h1 h2 => by rw [hU]; exact hS.2.1 q h1 h2) (fx_AA hA hD hS) hE, by rw [hU]; exact hP, hD.weaken (fun _ _ _ _ => trivial)⟩
theorem fx_after (hr : vx_Run p l e R s m args below meth c H locs ce sl mc ms (F0 m pc ls st0) rest (fx_Qc Z A1 P a) (fx_XC Z A1 ad S PX) A1) (hL : fx_L ls nL lv) (hS : va_S A s.heap H locs) (hA1 : ∀ q, A1 q → A q)
    (kx : ∀ (E : String) (M' : fx_M), PX E M' → GX (p, l, e, R, s, m, args, below, meth, c, Z, A, Q, nL) E ad pc lv rest (ce + mc) (sl + ms) S M')
    (kk : ∀ (v : Option Value) (ad' : Nat → Nat) (S' : List fx_Sh) (M' : fx_M), P v ad' S' M' → GG (p, l, e, R, s, m, args, below, meth, c, Z, A, Q, nL) ad' (pc + 3) lv (v.toList ++ rest) (ce + mc) (sl + ms) S' M') :
    W p l e R s m args below meth c H locs ce sl Q (F0 m pc ls st0) := by
  intro T hT X
  rcases hr T hT X with ⟨v, st₀, t, T', L, h0, X', hLf, e1, e2, ⟨v', ad', S', M', hv, hp, hP, hD, hF⟩, st⟩ | ⟨q, st₀, t, T', L, E, cell, h0, X', hLf, e1, e2, ⟨M', hp, hP, hD, hF⟩, hce, hcv, hcl, st⟩
  · cases hv
    obtain ⟨k1, k2, k3⟩ := vx_keep h0 e1 hS (fun q _ h => hA1 q h) hA1 hLf hF
    obtain ⟨t2, a1, b1⟩ := kk v ad' S' M' hp T'.heap (locs ++ L) ls hL (by rw [e1]; exact hP) (hD.weaken (fun _ q _ h => hA1 q.1 h)) k3 T' rfl X'
    exact ⟨t2, st t2 a1, b1⟩
  · obtain ⟨k1, k2, k3⟩ := vx_keep h0 e1 hS (fun q _ h => hA1 q h) hA1 hLf hF
    obtain ⟨t2, a1, b1⟩ := kx E M' hp T'.heap (locs ++ L) ls cell q hL (by rw [e1]; exact hP) (hD.weaken (fun _ q _ h => hA1 q.1 h)) k3 (by rw [e1]; exact hce) hcv hcl T' rfl X'
    exact ⟨t2, st.trans a1, b1⟩
end FxC
section FxD
variable {X : fx_C} {l : Launch} {Z : fx_Z} {R : Room} {own : String} {cc : ByteArray} {ad : Nat → Nat} {pc : Nat} {lv : List (Option Value)} {rest st : List Value} {ce sl : Nat} {S : List fx_Sh} {M : fx_M} {P : Option Value → (Nat → Nat) → List fx_Sh → fx_M → Prop} {PX : String → fx_M → Prop} {mc ms : Nat}
/-- a call of an instance method -/
theorem G_callV (F : fx_F X l Z R own cc) {i d' maxL n k ci N : Nat} {y : MethodName} {bytes : ByteArray} {ret : Option FieldType} {As : List Value} {T : u_T} {fs : List (Option (Option Nat))} (f : fx_MV own i y bytes maxL ret n) (d : decode cc pc = .ok (.invokevirtual i, 3)) (hM : CT l Z y (.code y bytes maxL ret) d' mc ms (.ref (ad k) :: As) ad S M P PX)
    (hst : st = As.reverse ++ .ref (ad k) :: rest) (hn : As.length = n) (hk : S[k]? = some (.inl (ci, fs))) (hc : fx_cl[ci]? = some (y.cls, T, N)) (hW : (rest.map fun v => v.category).sum ≤ 8) (hR : d' + 8 + 1 ≤ R.frames ∧ 8 + (maxL + 11) + (32 * d' + 160) ≤ R.locals ∧ ce + mc ≤ R.cells ∧ sl + ms ≤ R.slots)
    (kx : ∀ (E : String) (M' : fx_M), PX E M' → GX X E ad pc lv rest (ce + mc) (sl + ms) S M') (kk : ∀ (v : Option Value) (ad' : Nat → Nat) (S' : List fx_Sh) (M' : fx_M), P v ad' S' M' → GG X ad' (pc + 3) lv (v.toList ++ rest) (ce + mc) (sl + ms) S' M') : GG X ad pc lv st ce sl S M := by
  obtain ⟨p, l', e, R', s, m, args, below, meth, c, Z', A, Q, nL⟩ := X
  obtain ⟨rfl, rfl, rfl, ⟨hx, hb, hml, hown, hts⟩, hA, hE, hlk, htr⟩ := F
  intro H locs ls hL hP hD hS
  obtain ⟨hl, hin, hse, hini, hco, hd⟩ := f
  obtain ⟨hR1, hR2, hR3, hR4⟩ := hR
  have he : (fx_w Z'.2.1 ad M 0 S)[k]? = some (ad k, .inr (ci, fx_fs ad (M k) 0 fs)) := fx_w_at hk
  have hrecv := va_recv hE.1 hP hc he
  have hpv : PreV s H y.cls (ad k) (va_Pc (.ref (ad k) :: As) (fx_pre Z' ad S M H.size)) As := ⟨fx_blind, hrecv, fun U hU hW => ⟨rfl, fx_prU hA hE hP hD hS U hU hW⟩⟩
  have hstk : (F0 m pc ls st).stack = As.reverse ++ .ref (ad k) :: rest := hst
  rcases hl with hl | ⟨host, hl⟩
  · have cb : CallB R' s args own i y bytes maxL ret (.code y bytes maxL ret :: fx_ww) (fx_rm d' mc ms) mc ms n := callB_of n hts (fx_GI hco) rfl rfl rfl (hts _ hini) (hts _ hl) hd ⟨hR1, hR2⟩
    exact fx_after (vx_runV ⟨hx, hb, hml, hown, hts⟩ (hM H.size) ⟨cb, hts _ hin, hts _ hse⟩ hpv rfl hn hL.1.1 hstk (lv_room hW) d ⟨hR3, hR4⟩) hL hS (fx_AA hA hD hS) kx kk
  · have cb : va_CN R' s args own i y host bytes maxL ret (.code y bytes maxL ret :: fx_ww) (fx_rm d' mc ms) mc ms n := va_cnB n hts (fx_GI hco) rfl rfl rfl (hE.2.1 _ hl) (hts _ hini) hd ⟨hR1, hR2⟩
    exact fx_after (vx_runVN ⟨hx, hb, hml, hown, hts⟩ (hM H.size) ⟨cb, hts _ hin, hts _ hse⟩ hpv rfl hn hL.1.1 hstk (lv_room hW) d ⟨hR3, hR4⟩) hL hS (fx_AA hA hD hS) kx kk
/-- a call of a static method -/
theorem G_callS (F : fx_F X l Z R own cc) {i d' maxL n : Nat} {y : MethodName} {bytes : ByteArray} {ret : Option FieldType} {As : List Value} (f : fx_MS own i y bytes maxL ret n) (d : decode cc pc = .ok (.invokestatic i, 3)) (hM : CT l Z y (.code y bytes maxL ret) d' mc ms As ad S M P PX)
    (hst : st = As.reverse ++ rest) (hn : As.length = n) (hW : (rest.map fun v => v.category).sum ≤ 8) (hR : d' + 8 + 1 ≤ R.frames ∧ 8 + (maxL + 11) + (32 * d' + 160) ≤ R.locals ∧ ce + mc ≤ R.cells ∧ sl + ms ≤ R.slots)
    (kx : ∀ (E : String) (M' : fx_M), PX E M' → GX X E ad pc lv rest (ce + mc) (sl + ms) S M') (kk : ∀ (v : Option Value) (ad' : Nat → Nat) (S' : List fx_Sh) (M' : fx_M), P v ad' S' M' → GG X ad' (pc + 3) lv (v.toList ++ rest) (ce + mc) (sl + ms) S' M') : GG X ad pc lv st ce sl S M := by
  obtain ⟨p, l', e, R', s, m, args, below, meth, c, Z', A, Q, nL⟩ := X
  obtain ⟨rfl, rfl, rfl, ⟨hx, hb, hml, hown, hts⟩, hA, hE, hlk, htr⟩ := F
  intro H locs ls hL hP hD hS
  obtain ⟨hl, hin, hini, hco, hd⟩ := f
  obtain ⟨hR1, hR2, hR3, hR4⟩ := hR
  have hpv : PreS s H (va_Pc As (fx_pre Z' ad S M H.size)) As := ⟨fx_blind, fun U hU hW => ⟨rfl, fx_prU hA hE hP hD hS U hU hW⟩⟩
  have hstk : (F0 m pc ls st).stack = As.reverse ++ rest := hst
  rcases hl with hl | ⟨host, hl⟩
  · have cb : CallB R' s args own i y bytes maxL ret (.code y bytes maxL ret :: fx_ww) (fx_rm d' mc ms) mc ms n := callB_of n hts (fx_GI hco) rfl rfl rfl (hts _ hini) (hts _ hl) hd ⟨hR1, hR2⟩
    exact fx_after (vx_runS ⟨hx, hb, hml, hown, hts⟩ (hM H.size) ⟨cb, hts _ hin⟩ hpv rfl hn hL.1.1 hstk (lv_room hW) d ⟨hR3, hR4⟩) hL hS (fx_AA hA hD hS) kx kk
  · have cb : va_CN R' s args own i y host bytes maxL ret (.code y bytes maxL ret :: fx_ww) (fx_rm d' mc ms) mc ms n := va_cnB n hts (fx_GI hco) rfl rfl rfl (hE.2.1 _ hl) (hts _ hini) hd ⟨hR1, hR2⟩
    exact fx_after (vx_runSN ⟨hx, hb, hml, hown, hts⟩ (hM H.size) ⟨cb, hts _ hin, trivial⟩ hpv rfl hn hL.1.1 hstk (lv_room hW) d ⟨hR3, hR4⟩) hL hS (fx_AA hA hD hS) kx kk
/-- a call of a static method with handlers -/
theorem G_callX (F : fx_F X l Z R own cc) {i d' maxL n : Nat} {y : MethodName} {bytes : ByteArray} {ret : Option FieldType} {hh : List (Nat × Nat × Nat × Nat)} {As : List Value} (f : fx_MX own i y bytes maxL ret hh n) (d : decode cc pc = .ok (.invokestatic i, 3)) (hM : CT l Z y (.codeWith y bytes maxL ret hh) d' mc ms As ad S M P PX)
    (hst : st = As.reverse ++ rest) (hn : As.length = n) (hW : (rest.map fun v => v.category).sum ≤ 8) (hR : d' + 8 + 1 ≤ R.frames ∧ 8 + (maxL + 11) + (32 * d' + 160) ≤ R.locals ∧ ce + mc ≤ R.cells ∧ sl + ms ≤ R.slots)
    (kx : ∀ (E : String) (M' : fx_M), PX E M' → GX X E ad pc lv rest (ce + mc) (sl + ms) S M') (kk : ∀ (v : Option Value) (ad' : Nat → Nat) (S' : List fx_Sh) (M' : fx_M), P v ad' S' M' → GG X ad' (pc + 3) lv (v.toList ++ rest) (ce + mc) (sl + ms) S' M') : GG X ad pc lv st ce sl S M := by
  obtain ⟨p, l', e, R', s, m, args, below, meth, c, Z', A, Q, nL⟩ := X
  obtain ⟨rfl, rfl, rfl, ⟨hx, hb, hml, hown, hts⟩, hA, hE, hlk, htr⟩ := F
  intro H locs ls hL hP hD hS
  obtain ⟨hl, hin, hini, hco, hd⟩ := f
  obtain ⟨hR1, hR2, hR3, hR4⟩ := hR
  have hpv : PreS s H (va_Pc As (fx_pre Z' ad S M H.size)) As := ⟨fx_blind, fun U hU hW => ⟨rfl, fx_prU hA hE hP hD hS U hU hW⟩⟩
  have hstk : (F0 m pc ls st).stack = As.reverse ++ rest := hst
  have cb : vx_CSW R' s args own i y bytes maxL ret hh (.codeWith y bytes maxL ret hh :: fx_ww) (fx_rm d' mc ms) mc ms n :=
    ⟨⟨rfl, rfl, hR1, hR2, pay_in hts (fx_GI hco), List.mem_cons_self⟩, hts _ hco, hts _ hini, ⟨hd.1, hd.2.1⟩, fun sig h => by have h2 := hd.2.2; rw [h] at h2; exact (Option.some.inj h2).symm, hts _ hl, hts _ hin⟩
  exact fx_after (vx_runSX ⟨hx, hb, hml, hown, hts⟩ (hM H.size) cb hpv rfl hn hL.1.1 hstk (lv_room hW) d ⟨hR3, hR4⟩) hL hS (fx_AA hA hD hS) kx kk
/-- a call of a constructor -/
theorem G_callI (F : fx_F X l Z R own cc) {i d' maxL n k : Nat} {y : MethodName} {bytes : ByteArray} {As : List Value} (f : fx_MI own i y bytes maxL n) (d : decode cc pc = .ok (.invokespecial i, 3)) (hM : CT l Z y (.code y bytes maxL none) d' mc ms (.ref (ad k) :: As) ad S M P PX)
    (hst : st = As.reverse ++ .ref (ad k) :: rest) (hn : As.length = n) (hW : (rest.map fun v => v.category).sum ≤ 8) (hR : d' + 8 + 1 ≤ R.frames ∧ 8 + (maxL + 11) + (32 * d' + 160) ≤ R.locals ∧ ce + mc ≤ R.cells ∧ sl + ms ≤ R.slots)
    (kx : ∀ (E : String) (M' : fx_M), PX E M' → GX X E ad pc lv rest (ce + mc) (sl + ms) S M') (kk : ∀ (v : Option Value) (ad' : Nat → Nat) (S' : List fx_Sh) (M' : fx_M), P v ad' S' M' → GG X ad' (pc + 3) lv (v.toList ++ rest) (ce + mc) (sl + ms) S' M') : GG X ad pc lv st ce sl S M := by
  obtain ⟨p, l', e, R', s, m, args, below, meth, c, Z', A, Q, nL⟩ := X
  obtain ⟨rfl, rfl, rfl, ⟨hx, hb, hml, hown, hts⟩, hA, hE, hlk, htr⟩ := F
  intro H locs ls hL hP hD hS
  obtain ⟨hl, hnm, hin, hini, hco, hd⟩ := f
  obtain ⟨hR1, hR2, hR3, hR4⟩ := hR
  have hpv : PreS s H (va_Pc (.ref (ad k) :: As) (fx_pre Z' ad S M H.size)) (.ref (ad k) :: As) := ⟨fx_blind, fun U hU hW => ⟨rfl, fx_prU hA hE hP hD hS U hU hW⟩⟩
  have hstk : (F0 m pc ls st).stack = As.reverse ++ .ref (ad k) :: rest := hst
  rcases hl with hl | ⟨host, hl⟩
  · have cb : CallB R' s args own i y bytes maxL none (.code y bytes maxL none :: fx_ww) (fx_rm d' mc ms) mc ms n := callB_of n hts (fx_GI hco) rfl rfl rfl (hts _ hini) (hts _ hl) hd ⟨hR1, hR2⟩
    exact fx_after (vx_runI ⟨hx, hb, hml, hown, hts⟩ (hM H.size) ⟨cb, hnm, hts _ hin⟩ hpv rfl hn hL.1.1 hstk (lv_room hW) d ⟨hR3, hR4⟩) hL hS (fx_AA hA hD hS) kx kk
  · have cb : va_CN R' s args own i y host bytes maxL none (.code y bytes maxL none :: fx_ww) (fx_rm d' mc ms) mc ms n := va_cnB n hts (fx_GI hco) rfl rfl rfl (hE.2.1 _ hl) (hts _ hini) hd ⟨hR1, hR2⟩
    exact fx_after (vx_runIN ⟨hx, hb, hml, hown, hts⟩ (hM H.size) ⟨cb, hnm, hts _ hin⟩ hpv rfl hn hL.1.1 hstk (lv_room hW) d ⟨hR3, hR4⟩) hL hS (fx_AA hA hD hS) kx kk
end FxD
