/-! THE START: what the Statement gives, as the walk wants it -/
abbrev st_f : List Cond := flatC (Jvm.Cond.and given_1 narrow_1)
theorem st_msg : ∀ q ∈ fx_msg, Cond.exactly (.string q.1 q.2.1) "java/lang/String" ∈ st_f ∧ Cond.stringRef q.1 q.2.1 q.2.2 ∈ tables_1 := by decide +kernel
theorem st_nc : ∀ q ∈ fx_nc, Cond.not (.castable q.1 q.2) ∈ st_f := by decide +kernel
theorem st_t1 : ∀ q ∈ fx_txt, Cond.exactly (.string q.1 q.2.1) "java/lang/String" ∈ st_f ∧ Cond.stringRef q.1 q.2.1 q.2.2.1 ∈ tables_1 ∧ q.2.2.2.length < 10 := by decide +kernel
theorem st_t2 : ∀ q ∈ fx_txt, Cond.eq (.field (.string q.1 q.2.1) "java/lang/String" "coder" "B") (.int 0) ∈ st_f ∧ Cond.arrayOf (.field (.string q.1 q.2.1) "java/lang/String" "value" "[B") .byte ∈ st_f := by decide +kernel
theorem st_t3 : ∀ q ∈ fx_txt, Cond.eq (.length (.field (.string q.1 q.2.1) "java/lang/String" "value" "[B")) (.int (Int32.ofNat q.2.2.2.length)) ∈ st_f := by decide +kernel
theorem st_e0 : (fun q : String × Nat × String × List Int32 => ∀ j, j < q.2.2.2.length → Cond.eq (.elem (.field (.string q.1 q.2.1) "java/lang/String" "value" "[B") (.int (Int32.ofNat j))) (.int (q.2.2.2.getD j 0)) ∈ st_f) ("BlockLayout$Input", 41, " ", [32]) := by
  intro j hj
  match j, hj with
  | 0, _ => exact List.mem_of_getElem? (i := 792) (by decide +kernel)
  | n + 1, h => exact absurd h (by simp)
theorem st_e1 : (fun q : String × Nat × String × List Int32 => ∀ j, j < q.2.2.2.length → Cond.eq (.elem (.field (.string q.1 q.2.1) "java/lang/String" "value" "[B") (.int (Int32.ofNat j))) (.int (q.2.2.2.getD j 0)) ∈ st_f) ("BlockLayout$Input", 58, "stop", [115, 116, 111, 112]) := by
  intro j hj
  match j, hj with
  | 0, _ => exact List.mem_of_getElem? (i := 797) (by decide +kernel)
  | 1, _ => exact List.mem_of_getElem? (i := 798) (by decide +kernel)
  | 2, _ => exact List.mem_of_getElem? (i := 799) (by decide +kernel)
  | 3, _ => exact List.mem_of_getElem? (i := 800) (by decide +kernel)
  | n + 4, h => exact absurd h (by simp)
theorem st_e2 : (fun q : String × Nat × String × List Int32 => ∀ j, j < q.2.2.2.length → Cond.eq (.elem (.field (.string q.1 q.2.1) "java/lang/String" "value" "[B") (.int (Int32.ofNat j))) (.int (q.2.2.2.getD j 0)) ∈ st_f) ("BlockLayout$Input", 60, "go ", [103, 111, 32]) := by
  intro j hj
  match j, hj with
  | 0, _ => exact List.mem_of_getElem? (i := 805) (by decide +kernel)
  | 1, _ => exact List.mem_of_getElem? (i := 806) (by decide +kernel)
  | 2, _ => exact List.mem_of_getElem? (i := 807) (by decide +kernel)
  | n + 3, h => exact absurd h (by simp)
theorem st_e3 : (fun q : String × Nat × String × List Int32 => ∀ j, j < q.2.2.2.length → Cond.eq (.elem (.field (.string q.1 q.2.1) "java/lang/String" "value" "[B") (.int (Int32.ofNat j))) (.int (q.2.2.2.getD j 0)) ∈ st_f) ("BlockLayout$Input", 65, "if ", [105, 102, 32]) := by
  intro j hj
  match j, hj with
  | 0, _ => exact List.mem_of_getElem? (i := 812) (by decide +kernel)
  | 1, _ => exact List.mem_of_getElem? (i := 813) (by decide +kernel)
  | 2, _ => exact List.mem_of_getElem? (i := 814) (by decide +kernel)
  | n + 3, h => exact absurd h (by simp)
theorem st_e4 : (fun q : String × Nat × String × List Int32 => ∀ j, j < q.2.2.2.length → Cond.eq (.elem (.field (.string q.1 q.2.1) "java/lang/String" "value" "[B") (.int (Int32.ofNat j))) (.int (q.2.2.2.getD j 0)) ∈ st_f) ("BlockLayoutModel", 318, " ", [32]) := by
  intro j hj
  match j, hj with
  | 0, _ => exact List.mem_of_getElem? (i := 884) (by decide +kernel)
  | n + 1, h => exact absurd h (by simp)
theorem st_e5 : (fun q : String × Nat × String × List Int32 => ∀ j, j < q.2.2.2.length → Cond.eq (.elem (.field (.string q.1 q.2.1) "java/lang/String" "value" "[B") (.int (Int32.ofNat j))) (.int (q.2.2.2.getD j 0)) ∈ st_f) ("BlockLayoutModel", 328, "stop", [115, 116, 111, 112]) := by
  intro j hj
  match j, hj with
  | 0, _ => exact List.mem_of_getElem? (i := 890) (by decide +kernel)
  | 1, _ => exact List.mem_of_getElem? (i := 891) (by decide +kernel)
  | 2, _ => exact List.mem_of_getElem? (i := 892) (by decide +kernel)
  | 3, _ => exact List.mem_of_getElem? (i := 893) (by decide +kernel)
  | n + 4, h => exact absurd h (by simp)
theorem st_e6 : (fun q : String × Nat × String × List Int32 => ∀ j, j < q.2.2.2.length → Cond.eq (.elem (.field (.string q.1 q.2.1) "java/lang/String" "value" "[B") (.int (Int32.ofNat j))) (.int (q.2.2.2.getD j 0)) ∈ st_f) ("BlockLayoutModel", 306, "if ", [105, 102, 32]) := by
  intro j hj
  match j, hj with
  | 0, _ => exact List.mem_of_getElem? (i := 899) (by decide +kernel)
  | 1, _ => exact List.mem_of_getElem? (i := 900) (by decide +kernel)
  | 2, _ => exact List.mem_of_getElem? (i := 901) (by decide +kernel)
  | n + 3, h => exact absurd h (by simp)
theorem st_e7 : (fun q : String × Nat × String × List Int32 => ∀ j, j < q.2.2.2.length → Cond.eq (.elem (.field (.string q.1 q.2.1) "java/lang/String" "value" "[B") (.int (Int32.ofNat j))) (.int (q.2.2.2.getD j 0)) ∈ st_f) ("BlockLayoutModel", 323, "-", [45]) := by
  intro j hj
  match j, hj with
  | 0, _ => exact List.mem_of_getElem? (i := 907) (by decide +kernel)
  | n + 1, h => exact absurd h (by simp)
theorem st_e8 : (fun q : String × Nat × String × List Int32 => ∀ j, j < q.2.2.2.length → Cond.eq (.elem (.field (.string q.1 q.2.1) "java/lang/String" "value" "[B") (.int (Int32.ofNat j))) (.int (q.2.2.2.getD j 0)) ∈ st_f) ("BlockLayoutModel", 333, "go ", [103, 111, 32]) := by
  intro j hj
  match j, hj with
  | 0, _ => exact List.mem_of_getElem? (i := 912) (by decide +kernel)
  | 1, _ => exact List.mem_of_getElem? (i := 913) (by decide +kernel)
  | 2, _ => exact List.mem_of_getElem? (i := 914) (by decide +kernel)
  | n + 3, h => exact absurd h (by simp)
theorem st_t4 : ∀ q ∈ fx_txt, ∀ j, j < q.2.2.2.length → Cond.eq (.elem (.field (.string q.1 q.2.1) "java/lang/String" "value" "[B") (.int (Int32.ofNat j))) (.int (q.2.2.2.getD j 0)) ∈ st_f := List.forall_mem_cons.mpr ⟨st_e0, List.forall_mem_cons.mpr ⟨st_e1, List.forall_mem_cons.mpr ⟨st_e2, List.forall_mem_cons.mpr ⟨st_e3, List.forall_mem_cons.mpr ⟨st_e4, List.forall_mem_cons.mpr ⟨st_e5, List.forall_mem_cons.mpr ⟨st_e6, List.forall_mem_cons.mpr ⟨st_e7, List.forall_mem_cons.mpr ⟨st_e8, fun _ h => absurd h List.not_mem_nil⟩⟩⟩⟩⟩⟩⟩⟩⟩
theorem st_s1 : Cond.isRef (.static Bundle.tN "UNASSIGNED_STACK" Bundle.steD) ∈ st_f ∧ Cond.isRef (.static Bundle.tN "SUPPRESSED_SENTINEL" Bundle.listD) ∈ st_f ∧ Cond.eq (.static "java/lang/String" "COMPACT_STRINGS" "Z") (.int 1) ∈ st_f ∧ Cond.isRef (.static "jdk/internal/util/Preconditions" "SIOOBE_FORMATTER" "Ljava/util/function/BiFunction;") ∈ st_f := by decide +kernel
theorem st_s2 : Cond.laysStatic Bundle.tN "UNASSIGNED_STACK" Bundle.steD ∈ tables_1 ∧ Cond.laysStatic Bundle.tN "SUPPRESSED_SENTINEL" Bundle.listD ∈ tables_1 ∧ Cond.laysStatic "java/lang/String" "COMPACT_STRINGS" "Z" ∈ tables_1 ∧ Cond.laysStatic "jdk/internal/util/Preconditions" "SIOOBE_FORMATTER" "Ljava/util/function/BiFunction;" ∈ tables_1 ∧ Cond.initialized Bundle.tN ∈ tables_1 ∧ Cond.initialized "java/lang/String" ∈ tables_1 ∧ Cond.initialized "jdk/internal/util/Preconditions" ∈ tables_1 := by decide +kernel
section StE
variable {s : State} {args : Array Value}
theorem st_arr {ty : FieldType} (h : (Cond.arrayClass ty).before args s = true) : ∃ cA : ClassId, ArrOfT s cA ty ∧ s.vm.findClass ("[" ++ ty.toString) = some cA := by
  obtain ⟨c, k, comp, h1, h2, h3⟩ := Cond.arrayClass_spec (args := args) (first := s) (o := none) (s := s) (idx := []) h
  exact ⟨c, fun n z => ⟨fun k h => (by cases h), k, h2, comp, h3⟩, h1⟩
theorem st_txt (hf : ∀ w ∈ st_f, w.before args s = true) (ht : ∀ w ∈ tables_1, w.before args s = true) {A : Nat → Prop} (hA : ∀ a : Nat, a < s.heap.size → ¬ A a) {q : String × Nat × String × List Int32} (hq : q ∈ fx_txt) : ∃ k : Nat × Nat, vk_R q.1 q.2.1 q.2.2.1 k.1 s ∧ vk_S 1 [q.2.2.2.length] [q.2.2.2] (fun _ => k.1) (fun _ => k.2) A s s.heap := by
  have h1 := st_t1 q hq
  have h2 := st_t2 q hq
  have hz : ∀ i : Nat, i < 1 → i = 0 := fun i h => by omega
  obtain ⟨aK, aV, g1, g2⟩ := vk_Sof (args := args) (s := s) (N := 1) (tm := fun _ => .string q.1 q.2.1) (len := [q.2.2.2.length]) (byt := [q.2.2.2]) (A := A)
    (fun i hi => by rw [hz i hi]; show q.2.2.2.length < 2 ^ 31; have := h1.2.2; omega) (fun i hi => hf _ h1.1) (fun i hi => hf _ h2.1) (fun i hi => hf _ h2.2)
    (fun i hi => by rw [hz i hi]; exact hf _ (st_t3 q hq)) (fun i hi j hj => by rw [hz i hi] at hj ⊢; exact hf _ (st_t4 q hq j hj)) (fun i j hi hj hne => absurd ((hz i hi).trans (hz j hj).symm) hne) hA
  refine ⟨(aK 0, aV 0), vk_R.of (A := args) (ht _ h1.2.1) (g2 0 (by omega)), fun i hi => ?_, fun i j hi hj _ => (hz i hi).trans (hz j hj).symm⟩
  have := g1.1 0 (by omega)
  rw [hz i hi]
  exact this
theorem st_SE (hf : ∀ w ∈ st_f, w.before args s = true) (ht : ∀ w ∈ tables_1, w.before args s = true) {A : Nat → Prop} (hA : ∀ a : Nat, a < s.heap.size → ¬ A a) : ∃ sK sV : Nat → Nat, fx_SE sK sV A s := by
  have h0 : ∀ i : Nat, ∃ k : Nat × Nat, ∀ q, fx_txt[i]? = some q → vk_R q.1 q.2.1 q.2.2.1 k.1 s ∧ vk_S 1 [q.2.2.2.length] [q.2.2.2] (fun _ => k.1) (fun _ => k.2) A s s.heap := by
    intro i
    cases hi : fx_txt[i]? with
    | none => exact ⟨(0, 0), fun q h => by cases h⟩
    | some q =>
      obtain ⟨k, hk⟩ := st_txt hf ht hA (List.mem_of_getElem? hi)
      exact ⟨k, fun q' h => by cases h; exact hk⟩
  obtain ⟨ad, had⟩ := Classical.axiomOfChoice h0
  obtain ⟨s1, s2, s3, s4⟩ := st_s1
  obtain ⟨t1, t2, t3, t4, t5, t6, t7⟩ := st_s2
  refine ⟨fun i => (ad i).1, fun i => (ad i).2, fun q hq => ?_, fun i q hq => had i q hq, vx_Zqof (ht _ t1) (ht _ t5) (hf _ s1) hA, vx_Zqof (ht _ t2) (ht _ t5) (hf _ s2) hA, ⟨va_Zof (ht _ t3) (ht _ t6) (va_eqt (hf _ s3)) hA, va_Zqof (ht _ t4) (ht _ t7) (hf _ s4) hA⟩, fun q hq => va_Nc.of (hf _ (st_nc q hq))⟩
  obtain ⟨a, c, cA, kA, q1, -⟩ := Cond.exactly_spec (args := args) (first := s) (o := none) (s := s) (idx := []) (t := .string q.1 q.2.1) (cls := "java/lang/String") (hf _ (st_msg q hq).1)
  exact ⟨a, vk_R.of (A := args) (ht _ (st_msg q hq).2) q1⟩
theorem st_K (hw : ∀ w ∈ fx_ww, w.before args s = true) : ∃ (G : va_G) (dA : FieldType → ClassId), va_K G fx_cl (fx_tys dA) s := by
  have h0 : ∀ k : Nat, ∃ z : ClassId × (Nat → Nat), ∀ q, fx_cl[k]? = some q → u_Kn s q.1 q.2.1 q.2.2 z.1 z.2 := by
    intro k
    match k with
    | 0 =>
      obtain ⟨c, f, h⟩ := u_known (C := RX0) (T := TX0) (N := 13) (n := 13) hw ck_0.2.1 (hw _ (fx_in 295 (by decide +kernel) rfl))
      exact ⟨(c, f), fun q hq => by cases hq; exact h⟩
    | 1 =>
      obtain ⟨c, f, h⟩ := u_known (C := RX1) (T := TX1) (N := 5) (n := 5) hw ck_1.2.1 (hw _ (fx_in 369 (by decide +kernel) rfl))
      exact ⟨(c, f), fun q hq => by cases hq; exact h⟩
    | 2 =>
      obtain ⟨c, f, h⟩ := u_known (C := RX2) (T := TX2) (N := 9) (n := 9) hw ck_2.2.1 (hw _ (fx_in 392 (by decide +kernel) rfl))
      exact ⟨(c, f), fun q hq => by cases hq; exact h⟩
    | 3 =>
      obtain ⟨c, f, h⟩ := u_known (C := RX3) (T := TX3) (N := 5) (n := 5) hw ck_3.2.1 (hw _ (fx_in 343 (by decide +kernel) rfl))
      exact ⟨(c, f), fun q hq => by cases hq; exact h⟩
    | 4 =>
      obtain ⟨c, f, h⟩ := u_known (C := RX4) (T := TX4) (N := 11) (n := 11) hw ck_4.2.1 (hw _ (fx_in 249 (by decide +kernel) rfl))
      exact ⟨(c, f), fun q hq => by cases hq; exact h⟩
    | 5 =>
      obtain ⟨c, f, h⟩ := u_known (C := RX5) (T := TX5) (N := 3) (n := 3) hw ck_5.2.1 (hw _ (fx_in 223 (by decide +kernel) rfl))
      exact ⟨(c, f), fun q hq => by cases hq; exact h⟩
    | 6 =>
      obtain ⟨c, f, h⟩ := u_known (C := RX6) (T := TX6) (N := 10) (n := 10) hw ck_6.2.1 (hw _ (fx_in 158 (by decide +kernel) rfl))
      exact ⟨(c, f), fun q hq => by cases hq; exact h⟩
    | 7 =>
      obtain ⟨c, f, h⟩ := u_known (C := RX7) (T := TX7) (N := 8) (n := 8) hw ck_7.2.1 (hw _ (fx_in 150 (by decide +kernel) rfl))
      exact ⟨(c, f), fun q hq => by cases hq; exact h⟩
    | 8 =>
      obtain ⟨c, f, h⟩ := u_known (C := RX8) (T := TX8) (N := 47) (n := 47) hw ck_8.2.1 (hw _ (fx_in 1197 (by decide +kernel) rfl))
      exact ⟨(c, f), fun q hq => by cases hq; exact h⟩
    | k + 9 =>
      obtain ⟨c, f, h⟩ := u_known (C := RX0) (T := TX0) (N := 13) (n := 13) hw ck_0.2.1 (hw _ (fx_in 295 (by decide +kernel) rfl))
      exact ⟨(c, f), fun q hq => by simp [fx_cl] at hq⟩
  obtain ⟨z, hz⟩ := Classical.axiomOfChoice h0
  have h1 : ∀ ty : FieldType, ∃ cA : ClassId, (ty = .int ∨ ty = .boolean ∨ ty = .char ∨ ty = .long ∨ ty = .double) → ArrOfT s cA ty ∧ s.vm.findClass ("[" ++ ty.toString) = some cA := by
    intro ty
    by_cases h : ty = .int ∨ ty = .boolean ∨ ty = .char ∨ ty = .long ∨ ty = .double
    · have hb : (Cond.arrayClass ty).before args s = true := by
        rcases h with rfl | rfl | rfl | rfl | rfl
        · exact hw _ (fx_in 221 (by decide +kernel) rfl)
        · exact hw _ (fx_in 341 (by decide +kernel) rfl)
        · exact hw _ (fx_in 432 (by decide +kernel) rfl)
        · exact hw _ (fx_in 1679 (by decide +kernel) rfl)
        · exact hw _ (fx_in 1680 (by decide +kernel) rfl)
      obtain ⟨cA, g⟩ := st_arr hb
      exact ⟨cA, fun _ => g⟩
    · obtain ⟨cA, -⟩ := st_arr (ty := .int) (hw _ (fx_in 221 (by decide +kernel) rfl))
      exact ⟨cA, fun g => absurd g h⟩
  obtain ⟨dA, hdA⟩ := Classical.axiomOfChoice h1
  refine ⟨(fun k => (z k).1, fun k => (z k).2), dA, fun k q hq => hz k q hq, fun k q hq => ?_⟩
  match k, hq with
  | 0, hq => cases hq; exact hdA .int (Or.inl rfl)
  | 1, hq => cases hq; exact hdA .boolean (Or.inr (Or.inl rfl))
  | 2, hq => cases hq; exact hdA .char (Or.inr (Or.inr (Or.inl rfl)))
  | 3, hq => cases hq; exact hdA .long (Or.inr (Or.inr (Or.inr (Or.inl rfl))))
  | 4, hq => cases hq; exact hdA .double (Or.inr (Or.inr (Or.inr (Or.inr rfl))))
  | k + 5, hq => simp [fx_tys] at hq
theorem st_E (hts : ∀ w ∈ lw_tbl, w.before args s = true) (hgv : (Jvm.Cond.and given_1 narrow_1).before args s = true) : ∃ Z : fx_Z, fx_E Z (fun q => s.heap.size ≤ q) s := by
  obtain ⟨G, dA, hK⟩ := st_K (args := args) (s := s) (fun w h => hts w (List.mem_filter.mp h).1)
  obtain ⟨sK, sV, hS⟩ := st_SE (args := args) (s := s) (A := fun q => s.heap.size ≤ q) (flat_of_before _ hgv) (fun w h => hts w (List.mem_append_right _ h)) (fun a h => Nat.not_le.mpr h)
  exact ⟨(G, dA, sK, sV), hK, fun w h => va_Nw.of (fx_onT (List.mem_filter.mp h).2) (hts w (List.mem_filter.mp h).1), hS⟩
end StE
theorem i_C.keep {m M : fx_M} (h : i_C M) (e : ∀ a, a < 37 → m a = M a) : i_C m := by
  unfold i_C at h ⊢
  rw [e 0 (by omega), e 1 (by omega), e 2 (by omega), e 3 (by omega), e 4 (by omega), e 5 (by omega), e 6 (by omega), e 7 (by omega), e 8 (by omega), e 9 (by omega), e 10 (by omega), e 11 (by omega), e 27 (by omega), e 31 (by omega), e 35 (by omega), e 36 (by omega)]
  exact h
theorem i_M.keep {m M : fx_M} (h : i_M M) (e : ∀ a, 37 ≤ a → a < 64 → m a = M a) : i_M m := by
  unfold i_M at h ⊢
  rw [e 37 (by omega) (by omega), e 38 (by omega) (by omega), e 39 (by omega) (by omega), e 40 (by omega) (by omega), e 41 (by omega) (by omega), e 42 (by omega) (by omega), e 43 (by omega) (by omega), e 44 (by omega) (by omega), e 45 (by omega) (by omega), e 46 (by omega) (by omega), e 63 (by omega) (by omega)]
  exact h
/-- what holds at the beginning -/
theorem Iv_0 {m : fx_M} (hc : i_C m) (hm : i_M m) : Iv 0 false m := by
  obtain ⟨c1, c2, c3, c4, c5, c6, c7, c8, c9, c10, c11, c12⟩ := hc
  obtain ⟨m1, m2, m3, m4, m5, m6, m7, m8, m9, m10⟩ := hm
  refine ⟨1, fun _ => 0, ⟨c2, Nat.le_refl 1, by omega, fun b hb => ⟨(c4 b (by omega)).1, Nat.zero_le _⟩, fun b hb => Or.inl ⟨(c4 b (by omega)).2.1, (c4 b (by omega)).2.2.1, (c4 b (by omega)).2.2.2.1⟩, fun b hb => ⟨fun _ => (c4 b (by omega)).2.2.2.2.2.2.1, fun _ => (c4 b (by omega)).2.2.2.2.2.2.2⟩, ?_, fun b hb => ⟨⟨0, by omega, (c4 b hb).2.2.2.2.2.2.1⟩, 0, by omega, (c4 b hb).2.2.2.2.2.2.2⟩, m1.trans c2.symm, fun j hj => ?_⟩, ⟨1, 1, fun j => j, fun j => j, c5, Nat.le_refl 1, Nat.le_refl 1, c6, Or.inl rfl, by omega, ⟨fun j hj => ⟨hj, rfl⟩, fun j hj => ⟨hj, rfl⟩⟩, fun j hj => c7 j (by omega), m4.trans c5.symm, m2.trans c6.symm, fun j hj => (m9 j hj).trans (c7 j hj).symm⟩, ⟨0, 0, c9, by omega, c10, by omega, m6.trans c10.symm, fun t ht => absurd ht (by omega)⟩, ⟨0, c11, by omega, m7.trans c11.symm, fun j hj => (m10 j).trans (c12 j).symm⟩, ⟨0, c8, by omega, m5.trans c8.symm, fun j hj => absurd hj (by omega)⟩, m3.trans c1.symm⟩
  · rw [c3, hds_0 (fun b hb => tg_0 (c4 b (by omega)).2.2.1 (c4 b (by omega)).2.2.2.1)]
  · have a := c4 j hj
    have a' := m8 j hj
    exact ⟨a'.1.trans a.1.symm, a'.2.1.trans a.2.1.symm, a'.2.2.1.trans a.2.2.1.symm, a'.2.2.2.1.trans a.2.2.2.1.symm, a'.2.2.2.2.1.trans a.2.2.2.2.1.symm, a'.2.2.2.2.2.1.trans a.2.2.2.2.2.1.symm, a'.2.2.2.2.2.2.1.trans a.2.2.2.2.2.2.1.symm, a'.2.2.2.2.2.2.2.trans a.2.2.2.2.2.2.2.symm⟩
