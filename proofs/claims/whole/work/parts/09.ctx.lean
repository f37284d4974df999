/-! THE CONTEXT: words, classes, the start's facts that stay, contracts over the flat world -/
abbrev fx_cl : List vw_C := [(RX0, TX0, 13), (RX1, TX1, 5), (RX2, TX2, 9), (RX3, TX3, 5), (RX4, TX4, 11), (RX5, TX5, 3), (RX6, TX6, 10), (RX7, TX7, 8), (RX8, TX8, 47)]
def fx_ww : List Cond := lw_tbl.filter goodWord
def fx_isN : Cond → Bool
  | .fieldLinkNest _ _ _ _ _ _ => true
  | .methodLinkNest _ _ _ _ => true
  | .castable _ _ => true
  | .declares _ => true
  | _ => false
def fx_nw : List Cond := lw_tbl.filter fx_isN
theorem fx_in {w : Cond} (i : Nat) (h : lw_tbl[i]? = some w) (g : goodWord w = true) : w ∈ fx_ww := List.mem_filter.mpr ⟨List.mem_of_getElem? h, g⟩
theorem fx_inN {w : Cond} (i : Nat) (h : lw_tbl[i]? = some w) (g : fx_isN w = true) : w ∈ fx_nw := List.mem_filter.mpr ⟨List.mem_of_getElem? h, g⟩
theorem fx_inAll {ws : List Cond} (ps : List Nat) (hp : ws = ps.filterMap (fun i => lw_tbl[i]?)) (h : ws.all goodWord = true) : ∀ w ∈ ws, w ∈ fx_ww := by
  intro w hw
  have h1 := List.all_eq_true.mp h w hw
  rw [hp] at hw
  obtain ⟨i, -, hi⟩ := List.mem_filterMap.mp hw
  exact fx_in i hi h1
theorem fx_onT {w : Cond} (h : fx_isN w = true) : w.onTables = true := by
  cases w <;> first | rfl | exact absurd h (by simp [fx_isN])
/-- words of either kind, by their places -/
theorem fx_inBoth {ws : List Cond} (ps : List Nat) (hp : ws = ps.filterMap (fun i => lw_tbl[i]?)) (h : ws.all (fun w => goodWord w || fx_isN w) = true) : ∀ w ∈ ws, w ∈ fx_ww ∨ w ∈ fx_nw := by
  intro w hw
  have h1 := List.all_eq_true.mp h w hw
  rw [hp] at hw
  obtain ⟨i, -, hi⟩ := List.mem_filterMap.mp hw
  rcases (Bool.or_eq_true _ _).mp h1 with h2 | h2
  · exact Or.inl (fx_in i hi h2)
  · exact Or.inr (fx_inN i hi h2)
theorem fx_good {ws : List Cond} (h : ∀ w ∈ ws, w ∈ fx_ww) : GoodIn fx_ww ws := fun w hw => ⟨h w hw, good_of_word (List.mem_filter.mp (h w hw)).2⟩
def fx_tys (dA : FieldType → ClassId) : List (ClassId × FieldType) := [(dA .int, .int), (dA .boolean, .boolean), (dA .char, .char), (dA .long, .long), (dA .double, .double)]
/-- names that a start fixes for all that follows: classes, their slots, the arrays' classes, the texts' cells and their rows -/
abbrev fx_Z : Type := va_G × (FieldType → ClassId) × (Nat → Nat) × (Nat → Nat)
/-- the messages of exceptions, and the texts of the parsers -/
def fx_msg : List (String × Nat × String) := [("BlockLayout", 73, "the number of blocks is not from 1 to 16"), ("BlockLayout", 304, "there is no such block"), ("BlockLayout", 87, "the size is not from 0 to 60"), ("BlockLayout", 97, "the first and the second block are the same"), ("BlockLayout", 104, "the end has no condition"), ("BlockLayout", 129, "a block has no such property"), ("BlockLayout", 310, "the limit is not from 1 to 500"), ("BlockLayout", 315, "the limit is not enough"), ("BlockLayout", 153, "so many blocks were not executed"), ("BlockLayout", 166, "the alignment is not 1, 2, 4, 8, 16 or 32"), ("BlockLayout", 172, "the loop limit is not from 0 to 9999"), ("BlockLayout", 174, "there is no such method"), ("BlockLayout", 176, "the cold limit is not from -1 to 9999"), ("BlockLayout", 184, "there are more than 7 hot blocks"), ("BlockLayout", 306, "there is no such position"), ("BlockLayout", 202, "block 0 stands first"), ("BlockLayout", 207, "the number of hot blocks is not from 1 to that of all"), ("BlockLayout", 308, "there is no such number"), ("BlockLayout", 253, "no block was executed"), ("BlockLayout", 262, "the input has 60 characters"), ("BlockLayout", 278, "the text does not fit the program"), ("BlockLayout", 295, "there is no call to undo")]
def fx_txt : List (String × Nat × String × List Int32) := [("BlockLayout$Input", 41, " ", [32]), ("BlockLayout$Input", 58, "stop", [115, 116, 111, 112]), ("BlockLayout$Input", 60, "go ", [103, 111, 32]), ("BlockLayout$Input", 65, "if ", [105, 102, 32]), ("BlockLayoutModel", 318, " ", [32]), ("BlockLayoutModel", 328, "stop", [115, 116, 111, 112]), ("BlockLayoutModel", 306, "if ", [105, 102, 32]), ("BlockLayoutModel", 323, "-", [45]), ("BlockLayoutModel", 333, "go ", [103, 111, 32])]
/-- a thrown class that a handler of the other passes by -/
def fx_nc : List (String × String) := [("java/lang/IllegalArgumentException", "java/lang/IndexOutOfBoundsException"), ("java/lang/UnsupportedOperationException", "java/lang/IndexOutOfBoundsException"), ("java/lang/UnsupportedOperationException", "java/lang/IllegalArgumentException"), ("java/lang/ArithmeticException", "java/lang/IllegalArgumentException")]
/-- what of the start's texts and statics stays -/
def fx_SE (sK sV : Nat → Nat) (A : Nat → Prop) (s : State) : Prop :=
  (∀ q ∈ fx_msg, ∃ a : Nat, vk_R q.1 q.2.1 q.2.2 a s) ∧
  (∀ (i : Nat) (q : String × Nat × String × List Int32), fx_txt[i]? = some q → vk_R q.1 q.2.1 q.2.2.1 (sK i) s ∧ vk_S 1 [q.2.2.2.length] [q.2.2.2] (fun _ => sK i) (fun _ => sV i) A s s.heap) ∧
  vx_Zq Bundle.tN "UNASSIGNED_STACK" Bundle.steD A s s.heap ∧ vx_Zq Bundle.tN "SUPPRESSED_SENTINEL" Bundle.listD A s s.heap ∧ (va_Z "java/lang/String" "COMPACT_STRINGS" "Z" (.int 1) A s s.heap ∧ va_Zq "jdk/internal/util/Preconditions" "SIOOBE_FORMATTER" "Ljava/util/function/BiFunction;" A s s.heap) ∧ ∀ q ∈ fx_nc, va_Nc q.1 q.2 s
def fx_E (Z : fx_Z) (A : Nat → Prop) (s : State) : Prop := va_K Z.1 fx_cl (fx_tys Z.2.1) s ∧ (∀ w ∈ fx_nw, va_Nw w s) ∧ fx_SE Z.2.2.1 Z.2.2.2 A s
theorem fx_Nw_warm {s U : State} (hW : s.WarmedH U.vm) {w : Cond} (hw : fx_isN w = true) (h : va_Nw w s) : va_Nw w U := by
  cases w <;> first | exact va_Nw.warmF hW h | exact va_Nw.warmM hW h | exact va_Nw.warmC hW h | exact va_tabs rfl (rfl : (s.setVm U.vm).vm = U.vm) (by rw [Cond.declares_setVm hW.alike]; exact h) | exact absurd hw (by simp [fx_isN])
theorem fx_Nw_same {s U : State} (hv : s.vm = U.vm) {w : Cond} (hw : fx_isN w = true) (h : va_Nw w s) : va_Nw w U := by
  cases w <;> first | exact va_Nw.same rfl hv h | exact absurd hw (by simp [fx_isN])
theorem fx_SE.moved {sK sV : Nat → Nat} {A B : Nat → Prop} {s U : State} (hR : ∀ (own : String) (k : Nat) (tx : String) (a : Nat), vk_R own k tx a s → vk_R own k tx a U) (hvm : s.vm.Alike U.vm) (hk : ∀ a : Nat, a < s.heap.size → ¬ A a → U.heap[a]? = s.heap[a]?) (hAB : ∀ q, B q → A q) (h : fx_SE sK sV A s) : fx_SE sK sV B U := by
  obtain ⟨h1, h2, h3, h4, h5, h6⟩ := h
  refine ⟨fun q hq => ?_, fun i q hq => ⟨hR _ _ _ _ (h2 i q hq).1, ((vk_S.moved hvm (h2 i q hq).2).kept hk).narrow hAB⟩, ((vx_Zq.moved hvm h3).kept hk).narrow hAB, ((vx_Zq.moved hvm h4).kept hk).narrow hAB, ⟨((va_Z.moved hvm h5.1).kept hk).narrow hAB, ((va_Zq.moved hvm h5.2).kept hk).narrow hAB⟩, fun q hq => va_Nc.moved hvm (h6 q hq)⟩
  obtain ⟨a, ha⟩ := h1 q hq
  exact ⟨a, hR _ _ _ _ ha⟩
theorem fx_E.moved {Z : fx_Z} {A B : Nat → Prop} {s U : State} (hW : s.WarmedH U.vm) (hk : ∀ a : Nat, a < s.heap.size → ¬ A a → U.heap[a]? = s.heap[a]?) (hAB : ∀ q, B q → A q) (h : fx_E Z A s) : fx_E Z B U :=
  ⟨va_K.moved hW.alike h.1, fun w hw => fx_Nw_warm hW (List.mem_filter.mp hw).2 (h.2.1 w hw), h.2.2.moved (fun _ _ _ _ h => vk_R.warm hW h) hW.alike hk hAB⟩
theorem fx_E.same {Z : fx_Z} {A : Nat → Prop} {s U : State} (hv : U.vm = s.vm) (hh : U.heap = s.heap) (h : fx_E Z A s) : fx_E Z A U :=
  ⟨va_K.moved (by rw [hv]; exact Vm.Alike.refl _) h.1, fun w hw => fx_Nw_same hv.symm (List.mem_filter.mp hw).2 (h.2.1 w hw), h.2.2.moved (fun _ _ _ _ h => vk_R.same hv h) (by rw [hv]; exact Vm.Alike.refl _) (fun a _ _ => by rw [hh]) (fun _ h => h)⟩
/-- which cells a method may change -/
def fx_A (ad : Nat → Nat) (n sz : Nat) : Nat → Prop := fun q => (∃ k : Nat, k < n ∧ ad k = q) ∨ sz ≤ q
def fx_rm (d mc ms : Nat) : Room := { frames := d + 8, cells := mc, slots := ms, locals := 32 * d + 160 }
def fx_pre (Z : fx_Z) (ad : Nat → Nat) (S : List fx_Sh) (M : fx_M) (sz : Nat) (U : State) : Prop :=
  U.heap.size = sz ∧ fx_E Z (fx_A ad S.length sz) U ∧ va_P Z.1 fx_cl (fx_w Z.2.1 ad M 0 S) U.heap ∧ va_D (fun _ => True) (fx_w Z.2.1 ad M 0 S)
/-- behind a method: the world, and what it leaves alone -/
def fx_at (Z : fx_Z) (A : Nat → Prop) (ad : Nat → Nat) (S : List fx_Sh) (M : fx_M) (st t : State) : Prop :=
  va_P Z.1 fx_cl (fx_w Z.2.1 ad M 0 S) t.heap ∧ va_D A (fx_w Z.2.1 ad M 0 S) ∧ va_F A st t
def fx_Qc (Z : fx_Z) (A : Nat → Prop) (P : Option Value → (Nat → Nat) → List fx_Sh → fx_M → Prop) : Array Value → State → Outcome → State → Prop := fun _ st oc t =>
  ∃ (v : Option Value) (ad : Nat → Nat) (S : List fx_Sh) (M : fx_M), oc = .returned v ∧ P v ad S M ∧ fx_at Z A ad S M st t
def fx_XC (Z : fx_Z) (A : Nat → Prop) (ad : Nat → Nat) (S : List fx_Sh) (PX : String → fx_M → Prop) : String → State → State → Prop := fun E st t =>
  ∃ M : fx_M, PX E M ∧ fx_at Z A ad S M st t
/-- THE CONTRACT of a method y, whose code word is w0: from the world (ad, S, M), with the arguments av, it returns v and leaves the world (ad', S', M') with P, or throws E and leaves M' with PX -/
def CT (l : Launch) (Z : fx_Z) (y : MethodName) (w0 : Cond) (d mc ms : Nat) (av : List Value) (ad : Nat → Nat) (S : List fx_Sh) (M : fx_M) (P : Option Value → (Nat → Nat) → List fx_Sh → fx_M → Prop) (PX : String → fx_M → Prop) : Prop :=
  ∀ sz : Nat, vx_Met l y (w0 :: fx_ww) (fx_rm d mc ms) (va_Pc av (fx_pre Z ad S M sz)) (fx_Qc Z (fx_A ad S.length sz) P) (fx_XC Z (fx_A ad S.length sz) ad S PX) mc ms (fx_A ad S.length sz)
/-- a walk's context -/
abbrev fx_C : Type := Program × Launch × Env × Room × State × MethodId × Array Value × List Frame × Method × Code × fx_Z × (Nat → Prop) × (State → Prop) × Nat
def GG (X : fx_C) (ad : Nat → Nat) (pc : Nat) (lv : List (Option Value)) (st : List Value) (ce sl : Nat) (S : List fx_Sh) (M : fx_M) : Prop :=
  match X with
  | (p, l, e, R, s, m, args, below, meth, c, Z, A, Q, nL) => ∀ (H : Heap) (locs : List Loc) (ls : Array Slot), fx_L ls nL lv → va_P Z.1 fx_cl (fx_w Z.2.1 ad M 0 S) H → va_D A (fx_w Z.2.1 ad M 0 S) → va_S A s.heap H locs →
      W p l e R s m args below meth c H locs ce sl Q (F0 m pc ls st)
/-- with an exception of class E thrown here -/
def GX (X : fx_C) (E : String) (ad : Nat → Nat) (pc : Nat) (lv : List (Option Value)) (st : List Value) (ce sl : Nat) (S : List fx_Sh) (M : fx_M) : Prop :=
  match X with
  | (p, l, e, R, s, m, args, below, meth, c, Z, A, Q, nL) => ∀ (H : Heap) (locs : List Loc) (ls : Array Slot) (cell : Cell) (q : Nat), fx_L ls nL lv → va_P Z.1 fx_cl (fx_w Z.2.1 ad M 0 S) H → va_D A (fx_w Z.2.1 ad M 0 S) → va_S A s.heap H locs →
      H[q]? = some cell → cell.vm = .none → s.vm.findClass E = some cell.cls → vx_W p l e R s m args below meth c H locs ce sl Q (F0 m pc ls st) q
/-- what holds all along a walk -/
def fx_F (X : fx_C) (l0 : Launch) (Z0 : fx_Z) (R0 : Room) (own : String) (cc : ByteArray) : Prop :=
  match X with
  | (p, l, _, R, s, m, args, _, meth, c, Z, A, _, nL) => l = l0 ∧ Z = Z0 ∧ R = R0 ∧ CallFix p m c cc nL s args fx_ww own ∧ (∀ q : Nat, s.heap.size ≤ q → A q) ∧ fx_E Z A s ∧ meth.locks = false ∧ l.stackTraces = false
/-- what a method owes at its end -/
def fx_R (X : fx_C) (Z0 : fx_Z) (ret : Option FieldType) (hh : List (Nat × Nat × Nat × Nat)) (ad0 : Nat → Nat) (S0 : List fx_Sh) (P : Option Value → (Nat → Nat) → List fx_Sh → fx_M → Prop) (PX : String → fx_M → Prop) (mc ms : Nat) : Prop :=
  match X with
  | (_, _, _, _, s, _, args, below, meth, c, _, A, Q, _) => A = fx_A ad0 S0.length s.heap.size ∧ Q = vx_MQ below (fx_Qc Z0 A P) (fx_XC Z0 A ad0 S0 PX) args s mc ms A ∧ meth.sig.returnType = ret ∧ c.exceptionTable.toList = tableOf hh
