/-! ROWS WITH INDICES THAT ARE NATURAL NUMBERS; frames; a contract with a weaker end -/
theorem CT.mono {l : Launch} {Z : fx_Z} {y : MethodName} {w0 : Cond} {d mc ms : Nat} {av : List Value} {ad : Nat → Nat} {S : List fx_Sh} {M : fx_M} {P P' : Option Value → (Nat → Nat) → List fx_Sh → fx_M → Prop} {PX PX' : String → fx_M → Prop} (h : CT l Z y w0 d mc ms av ad S M P PX) (h1 : ∀ v a s m, P v a s m → P' v a s m) (h2 : ∀ E m, PX E m → PX' E m) : CT l Z y w0 d mc ms av ad S M P' PX' := by
  intro sz p e a1 a2 a3 s m args below a4 a5 a6 a7
  obtain ⟨n, o, b1, b2, b3, b4⟩ := h sz p e a1 a2 a3 s m args below a4 a5 a6 a7
  refine ⟨n, o, b1, b2, b3, ?_⟩
  rcases b4 with ⟨⟨v, ad', S', M', c1, c2, c3⟩, c4⟩ | ⟨q, c1, E, cell, L, ⟨M', c2, c3⟩, c4⟩
  · exact Or.inl ⟨⟨v, ad', S', M', c1, h1 _ _ _ _ c2, c3⟩, c4⟩
  · exact Or.inr ⟨q, c1, E, cell, L, ⟨M', h2 _ _ c2, c3⟩, c4⟩
theorem CI.mono {l : Launch} {Z : fx_Z} {y : MethodName} {w0 : Cond} {d : Nat} {av : List Value} {ad : Nat → Nat} {S : List fx_Sh} {M : fx_M} {P P' : Int32 → fx_M → Prop} (h : CI l Z y w0 d av ad S M P) (h1 : ∀ r m, P r m → P' r m) : CI l Z y w0 d av ad S M P' :=
  CT.mono h (fun v a s m q => ⟨q.1, q.2.1, by obtain ⟨-, -, r, e, z⟩ := q; exact ⟨r, e, h1 r m z⟩⟩) (fun _ _ q => q)
theorem CV.mono {l : Launch} {Z : fx_Z} {y : MethodName} {w0 : Cond} {d : Nat} {av : List Value} {ad : Nat → Nat} {S : List fx_Sh} {M : fx_M} {P P' : fx_M → Prop} (h : CV l Z y w0 d av ad S M P) (h1 : ∀ m, P m → P' m) : CV l Z y w0 d av ad S M P' :=
  CT.mono h (fun v a s m q => ⟨q.1, q.2.1, q.2.2.1, h1 m q.2.2.2⟩) (fun _ _ q => q)
/-- the rows of M that are not named stay -/
def fr (ks : List Nat) (M m : fx_M) : Prop := ∀ k, k ∉ ks → m k = M k
theorem fr.rfl {ks : List Nat} {M : fx_M} : fr ks M M := fun _ _ => Eq.refl _
theorem fr.trans {ks : List Nat} {M1 M2 M3 : fx_M} (h1 : fr ks M1 M2) (h2 : fr ks M2 M3) : fr ks M1 M3 := fun k hk => (h2 k hk).trans (h1 k hk)
theorem fr.mono {ks ks' : List Nat} {M1 M2 : fx_M} (h : fr ks M1 M2) (hs : ∀ k ∈ ks, k ∈ ks') : fr ks' M1 M2 := fun k hk => h k (fun q => hk (hs k q))
theorem fr.u {ks : List Nat} {M1 M2 : fx_M} {k j : Nat} {x : Int32} (h : fr ks M1 M2) (hk : k ∈ ks) : fr ks M1 (fx_u M2 k j x) := fun a ha => by
  have hne : a ≠ k := fun e => ha (by rw [e]; exact hk)
  rw [fx_u_ne hne]
  exact h a ha
theorem fx_u_at {M : fx_M} {k j a b : Nat} {x : Int32} : fx_u M k j x a b = if a = k ∧ b = j then x else M a b := by
  by_cases h : a = k
  · subst h; simp [fx_u, upd]
  · simp [fx_u, h]
section FxN
variable {X : fx_C} {l : Launch} {Z : fx_Z} {R : Room} {own : String} {cc : ByteArray} {ad : Nat → Nat} {pc : Nat} {lv : List (Option Value)} {rest : List Value} {ce sl : Nat} {S : List fx_Sh} {M : fx_M}
theorem G_ialdN (F : fx_F X l Z R own cc) {k n j : Nat} (d : decode cc pc = .ok (.iaload, 1)) (hk : S[k]? = some (.inr (.int, n))) (hj : j < n) (hn : n < 2 ^ 31) (kk : GG X ad (pc + 1) lv (.int (M k j) :: rest) ce sl S M) : GG X ad pc lv (.int (nI j) :: .ref (ad k) :: rest) ce sl S M :=
  G_iald F d hk (vp_in_nI hj hn) (by rw [nI_clamp (by omega)]; exact kk)
theorem G_iastN (F : fx_F X l Z R own cc) {k n j : Nat} {x : Int32} (d : decode cc pc = .ok (.iastore, 1)) (hk : S[k]? = some (.inr (.int, n))) (hj : j < n) (hn : n < 2 ^ 31) (kk : GG X ad (pc + 1) lv rest ce sl S (fx_u M k j x)) : GG X ad pc lv (.int x :: .int (nI j) :: .ref (ad k) :: rest) ce sl S M :=
  G_iast F d hk (vp_in_nI hj hn) (by rw [nI_clamp (by omega)]; exact kk)
theorem G_zaldN (F : fx_F X l Z R own cc) {k n j : Nat} (d : decode cc pc = .ok (.baload, 1)) (hk : S[k]? = some (.inr (.boolean, n))) (hj : j < n) (hn : n < 2 ^ 31) (kk : GG X ad (pc + 1) lv (.int (M k j) :: rest) ce sl S M) : GG X ad pc lv (.int (nI j) :: .ref (ad k) :: rest) ce sl S M :=
  G_zald F d hk (vp_in_nI hj hn) (by rw [nI_clamp (by omega)]; exact kk)
/-- a truth value is stored -/
theorem G_zastN (F : fx_F X l Z R own cc) {k n j : Nat} {x : Int32} (d : decode cc pc = .ok (.bastore, 1)) (hk : S[k]? = some (.inr (.boolean, n))) (hj : j < n) (hn : n < 2 ^ 31) (hx : x = 0 ∨ x = 1) (kk : GG X ad (pc + 1) lv rest ce sl S (fx_u M k j x)) : GG X ad pc lv (.int x :: .int (nI j) :: .ref (ad k) :: rest) ce sl S M :=
  G_zast F d hk (vp_in_nI hj hn) (by
    have hv : vp_nar .boolean x = x := by rcases hx with rfl | rfl <;> rfl
    rw [nI_clamp (by omega), hv]; exact kk)
theorem G_caldN (F : fx_F X l Z R own cc) {k n j : Nat} (d : decode cc pc = .ok (.caload, 1)) (hk : S[k]? = some (.inr (.char, n))) (hj : j < n) (hn : n < 2 ^ 31) (kk : GG X ad (pc + 1) lv (.int (M k j) :: rest) ce sl S M) : GG X ad pc lv (.int (nI j) :: .ref (ad k) :: rest) ce sl S M :=
  G_cald F d hk (vp_in_nI hj hn) (by rw [nI_clamp (by omega)]; exact kk)
end FxN
/-! ints as naturals -/
theorem nI_m1 {x : Nat} (h : x < 2 ^ 31) : ¬ nI x = -1 := by
  intro e
  have h1 : (nI x).toInt = (-1 : Int32).toInt := by rw [e]
  rw [nI_toInt h] at h1
  have : (-1 : Int32).toInt = -1 := by decide
  omega
theorem nI_16 : nI 16 = 16 := by decide
theorem nI_sh {b : Nat} (h : b < 32) : nI b &&& 31 = nI b := by
  have : ∀ b, b < 32 → nI b &&& 31 = nI b := by decide +kernel
  exact this b h
/-- whether a set of bits holds a place -/
def bt (s : Int32) (b : Nat) : Bool := decide ((s >>> nI b) &&& 1 = 1)
theorem i0 : (0 : Int32).toInt = 0 := by decide
