/-! THE CONTEXT: words, classes, the start's facts that stay, contracts over the flat world -/
abbrev fx_cl : List vw_C := [(RX0, TX0, 13), (RX1, TX1, 5), (RX2, TX2, 9), (RX3, TX3, 5), (RX4, TX4, 11), (RX5, TX5, 3), (RX6, TX6, 10), (RX7, TX7, 8), (RX8, TX8, 47)]
def fx_ww : List Cond := lw_tbl.filter goodWord
def fx_isN : Cond → Bool
  | .fieldLinkNest _ _ _ _ _ _ => true
  | .methodLinkNest _ _ _ _ => true
  | _ => false
def fx_nw : List Cond := lw_tbl.filter fx_isN
theorem fx_in {w : Cond} (i : Nat) (h : lw_tbl[i]? = some w) (g : goodWord w = true) : w ∈ fx_ww := List.mem_filter.mpr ⟨List.mem_of_getElem? h, g⟩
theorem fx_inN {w : Cond} (i : Nat) (h : lw_tbl[i]? = some w) (g : fx_isN w = true) : w ∈ fx_nw := List.mem_filter.mpr ⟨List.mem_of_getElem? h, g⟩
theorem fx_inAll {ws : List Cond} (ps : List Nat) (hp : ws = ps.filterMap (fun i => lw_tbl[i]?)) (h : ws.all goodWord = true) : ∀ w ∈ ws, w ∈ fx_ww := by
  intro w hw
  have h1 := List.all_eq_true.mp h w hw
  rw [hp] at hw
  obtain ⟨i, -, hi⟩ := List.mem_filterMap.mp hw
  exact fx_in i hi h1
theorem fx_good {ws : List Cond} (h : ∀ w ∈ ws, w ∈ fx_ww) : GoodIn fx_ww ws := fun w hw => ⟨h w hw, good_of_word (List.mem_filter.mp (h w hw)).2⟩
def fx_tys (dA : FieldType → ClassId) : List (ClassId × FieldType) := [(dA .int, .int), (dA .boolean, .boolean), (dA .char, .char), (dA .long, .long), (dA .double, .double)]
/-- names that a start fixes for all that follows: classes, their slots, the arrays' classes, the texts' cells and their rows -/
abbrev fx_Z : Type := va_G × (FieldType → ClassId) × (Nat → Nat) × (Nat → Nat)
/-- the messages of exceptions, and the texts of the parsers -/
def fx_msg : List (String × Nat × String) := [("BlockLayout", 73, "the number of blocks is not from 1 to 16")]
def fx_txt : List (String × Nat × String × List Int32) := []
/-- what of the start's texts and statics stays -/
def fx_SE (sK sV : Nat → Nat) (A : Nat → Prop) (s : State) : Prop :=
  (∀ q ∈ fx_msg, ∃ a : Nat, vk_R q.1 q.2.1 q.2.2 a s) ∧
  (∀ (i : Nat) (q : String × Nat × String × List Int32), fx_txt[i]? = some q → vk_R q.1 q.2.1 q.2.2.1 (sK i) s ∧ vk_S 1 [q.2.2.2.length] [q.2.2.2] (fun _ => sK i) (fun _ => sV i) A s s.heap) ∧
  vx_Zq Bundle.tN "UNASSIGNED_STACK" Bundle.steD A s s.heap ∧ vx_Zq Bundle.tN "SUPPRESSED_SENTINEL" Bundle.listD A s s.heap ∧ va_Z "java/lang/String" "COMPACT_STRINGS" "Z" (.int 1) A s s.heap
def fx_E (Z : fx_Z) (A : Nat → Prop) (s : State) : Prop := va_K Z.1 fx_cl (fx_tys Z.2.1) s ∧ (∀ w ∈ fx_nw, va_Nw w s) ∧ fx_SE Z.2.2.1 Z.2.2.2 A s
theorem fx_Nw_warm {s U : State} (hW : s.WarmedH U.vm) {w : Cond} (hw : fx_isN w = true) (h : va_Nw w s) : va_Nw w U := by
  cases w <;> first | exact va_Nw.warmF hW h | exact va_Nw.warmM hW h | exact absurd hw (by simp [fx_isN])
theorem fx_Nw_same {s U : State} (hv : s.vm = U.vm) {w : Cond} (hw : fx_isN w = true) (h : va_Nw w s) : va_Nw w U := by
  cases w <;> first | exact va_Nw.same rfl hv h | exact absurd hw (by simp [fx_isN])
theorem fx_SE.moved {sK sV : Nat → Nat} {A B : Nat → Prop} {s U : State} (hR : ∀ (own : String) (k : Nat) (tx : String) (a : Nat), vk_R own k tx a s → vk_R own k tx a U) (hvm : s.vm.Alike U.vm) (hk : ∀ a : Nat, a < s.heap.size → ¬ A a → U.heap[a]? = s.heap[a]?) (hAB : ∀ q, B q → A q) (h : fx_SE sK sV A s) : fx_SE sK sV B U := by
  obtain ⟨h1, h2, h3, h4, h5⟩ := h
  refine ⟨fun q hq => ?_, fun i q hq => ⟨hR _ _ _ _ (h2 i q hq).1, ((vk_S.moved hvm (h2 i q hq).2).kept hk).narrow hAB⟩, ((vx_Zq.moved hvm h3).kept hk).narrow hAB, ((vx_Zq.moved hvm h4).kept hk).narrow hAB, ((va_Z.moved hvm h5).kept hk).narrow hAB⟩
  obtain ⟨a, ha⟩ := h1 q hq
  exact ⟨a, hR _ _ _ _ ha⟩
theorem fx_E.moved {Z : fx_Z} {A B : Nat → Prop} {s U : State} (hW : s.WarmedH U.vm) (hk : ∀ a : Nat, a < s.heap.size → ¬ A a → U.heap[a]? = s.heap[a]?) (hAB : ∀ q, B q → A q) (h : fx_E Z A s) : fx_E Z B U :=
  ⟨va_K.moved hW.alike h.1, fun w hw => fx_Nw_warm hW (List.mem_filter.mp hw).2 (h.2.1 w hw), h.2.2.moved (fun _ _ _ _ h => vk_R.warm hW h) hW.alike hk hAB⟩
theorem fx_E.same {Z : fx_Z} {A : Nat → Prop} {s U : State} (hv : U.vm = s.vm) (hh : U.heap = s.heap) (h : fx_E Z A s) : fx_E Z A U :=
  ⟨va_K.moved (by rw [hv]; exact Vm.Alike.refl _) h.1, fun w hw => fx_Nw_same hv.symm (List.mem_filter.mp hw).2 (h.2.1 w hw), h.2.2.moved (fun _ _ _ _ h => vk_R.same hv h) (by rw [hv]; exact Vm.Alike.refl _) (fun a _ _ => by rw [hh]) (fun _ h => h)⟩
/-- which cells a method may change -/
def fx_A (ad : Nat → Nat) (n sz : Nat) : Nat → Prop := fun q => (∃ k : Nat, k < n ∧ ad k = q) ∨ sz ≤ q
def fx_rm (d mc ms : Nat) : Room := { frames := d + 8, cells := mc, slots := ms, locals := 32 * d + 160 }
def fx_pre (Z : fx_Z) (ad : Nat → Nat) (S : List fx_Sh) (M : fx_M) (sz : Nat) (U : State) : Prop :=
  U.heap.size = sz ∧ fx_E Z (fx_A ad S.length sz) U ∧ va_P Z.1 fx_cl (fx_w Z.2.1 ad M 0 S) U.heap ∧ va_D (fun _ => True) (fx_w Z.2.1 ad M 0 S)
/-- behind a method: the world, and what it leaves alone -/
def fx_at (Z : fx_Z) (A : Nat → Prop) (ad : Nat → Nat) (S : List fx_Sh) (M : fx_M) (st t : State) : Prop :=
  va_P Z.1 fx_cl (fx_w Z.2.1 ad M 0 S) t.heap ∧ va_D A (fx_w Z.2.1 ad M 0 S) ∧ va_F A st t
def fx_Qc (Z : fx_Z) (A : Nat → Prop) (P : Option Value → (Nat → Nat) → List fx_Sh → fx_M → Prop) : Array Value → State → Outcome → State → Prop := fun _ st oc t =>
  ∃ (v : Option Value) (ad : Nat → Nat) (S : List fx_Sh) (M : fx_M), oc = .returned v ∧ P v ad S M ∧ fx_at Z A ad S M st t
def fx_XC (Z : fx_Z) (A : Nat → Prop) (ad : Nat → Nat) (S : List fx_Sh) (PX : String → fx_M → Prop) : String → State → State → Prop := fun E st t =>
  ∃ M : fx_M, PX E M ∧ fx_at Z A ad S M st t
/-- THE CONTRACT of a method y, whose code word is w0: from the world (ad, S, M), with the arguments av, it returns v and leaves the world (ad', S', M') with P, or throws E and leaves M' with PX -/
def CT (l : Launch) (Z : fx_Z) (y : MethodName) (w0 : Cond) (d mc ms : Nat) (av : List Value) (ad : Nat → Nat) (S : List fx_Sh) (M : fx_M) (P : Option Value → (Nat → Nat) → List fx_Sh → fx_M → Prop) (PX : String → fx_M → Prop) : Prop :=
  ∀ sz : Nat, vx_Met l y (w0 :: fx_ww) (fx_rm d mc ms) (va_Pc av (fx_pre Z ad S M sz)) (fx_Qc Z (fx_A ad S.length sz) P) (fx_XC Z (fx_A ad S.length sz) ad S PX) mc ms (fx_A ad S.length sz)
/-- a walk's context -/
abbrev fx_C : Type := Program × Launch × Env × Room × State × MethodId × Array Value × List Frame × Method × Code × fx_Z × (Nat → Prop) × (State → Prop) × Nat
def GG (X : fx_C) (ad : Nat → Nat) (pc : Nat) (lv : List (Option Value)) (st : List Value) (ce sl : Nat) (S : List fx_Sh) (M : fx_M) : Prop :=
  match X with
  | (p, l, e, R, s, m, args, below, meth, c, Z, A, Q, nL) => ∀ (H : Heap) (locs : List Loc) (ls : Array Slot), fx_L ls nL lv → va_P Z.1 fx_cl (fx_w Z.2.1 ad M 0 S) H → va_D A (fx_w Z.2.1 ad M 0 S) → va_S A s.heap H locs →
      W p l e R s m args below meth c H locs ce sl Q (F0 m pc ls st)
/-- with an exception of class E thrown here -/
def GX (X : fx_C) (E : String) (ad : Nat → Nat) (pc : Nat) (lv : List (Option Value)) (st : List Value) (ce sl : Nat) (S : List fx_Sh) (M : fx_M) : Prop :=
  match X with
  | (p, l, e, R, s, m, args, below, meth, c, Z, A, Q, nL) => ∀ (H : Heap) (locs : List Loc) (ls : Array Slot) (cell : Cell) (q : Nat), fx_L ls nL lv → va_P Z.1 fx_cl (fx_w Z.2.1 ad M 0 S) H → va_D A (fx_w Z.2.1 ad M 0 S) → va_S A s.heap H locs →
      H[q]? = some cell → cell.vm = .none → s.vm.findClass E = some cell.cls → vx_W p l e R s m args below meth c H locs ce sl Q (F0 m pc ls st) q
/-- what holds all along a walk -/
def fx_F (X : fx_C) (l0 : Launch) (Z0 : fx_Z) (R0 : Room) (own : String) (cc : ByteArray) : Prop :=
  match X with
  | (p, l, _, R, s, m, args, _, meth, c, Z, A, _, nL) => l = l0 ∧ Z = Z0 ∧ R = R0 ∧ CallFix p m c cc nL s args fx_ww own ∧ (∀ q : Nat, s.heap.size ≤ q → A q) ∧ fx_E Z A s ∧ meth.locks = false ∧ l.stackTraces = false
/-- what a method owes at its end -/
def fx_R (X : fx_C) (Z0 : fx_Z) (ret : Option FieldType) (hh : List (Nat × Nat × Nat × Nat)) (ad0 : Nat → Nat) (S0 : List fx_Sh) (P : Option Value → (Nat → Nat) → List fx_Sh → fx_M → Prop) (PX : String → fx_M → Prop) (mc ms : Nat) : Prop :=
  match X with
  | (_, _, _, _, s, _, args, below, meth, c, _, A, Q, _) => A = fx_A ad0 S0.length s.heap.size ∧ Q = vx_MQ below (fx_Qc Z0 A P) (fx_XC Z0 A ad0 S0 PX) args s mc ms A ∧ meth.sig.returnType = ret ∧ c.exceptionTable.toList = tableOf hh
