/-! THE REFERENCE: executions -/
theorem rem32 {t : Nat} (h : t < 512) : nI t - nI t / 32 * 32 = nI (t % 32) := by
  have : ∀ t, t < 512 → nI t - nI t / 32 * 32 = nI (t % 32) := by decide +kernel
  exact this t h
/-- whether a step goes by the first target, as the reference notes it -/
def isF (kd p : Nat → Int32) (x : Nat × (Nat → Nat)) : Bool := decide (kd x.1 = 0) || (decide (kd x.1 = 1) && pb (p x.1) (x.2 x.1))
theorem isF_next {N : Nat} {kd f s p : Nat → Int32} (hN : N ≤ 16) (hv : pv N kd f s) {x : Nat × (Nat → Nat)} (hx : x.1 < N) (hk : kd x.1 ≠ 2) : (if isF kd p x then f x.1 else s x.1) = nI (tq kd f s p x).1 ∧ (tq kd f s p x).1 < N := by
  have h := tq_in (p := p) hN hv hx hk
  refine ⟨?_, h.1⟩
  rw [← h.2]
  unfold isF
  rcases hv x.1 hx with ⟨p1, -, -⟩ | ⟨p1, -, -⟩ | ⟨p1, -, -, -⟩
  · exact absurd p1 hk
  · rw [p1]; simp
  · rw [p1]
    cases pb (p x.1) (x.2 x.1) <;> simp
set_option maxRecDepth 20000 in
theorem t_executes {l : Launch} {Z : fx_Z} (hl : l.stackTraces = false) (ad : Nat → Nat) (sw : Bool) (tl : List fx_Sh) (M : fx_M) {N lim : Nat} (hN : M 37 0 = nI N) (hN16 : N ≤ 16) (hN1 : 1 ≤ N) (hv : pv N (M 39) (M 40) (M 41)) (hl1 : 1 ≤ lim) (hl5 : lim ≤ 500) : CI l Z yX8_executes (.code yX8_executes cX8_executes 4 (some .boolean)) 0 [.ref (ad 37), .int (nI lim)] ad (c_C sw ++ (m_C ++ tl)) M (fun r m => (r = 1 ∧ ∃ L, xok (M 39) (M 40) (M 41) (M 42) lim L ∧ fr [37, 47, 48, 49, 50] M m ∧ m 37 = upd (upd (M 37) 18 (nI L)) 17 (nI L) ∧ ∀ j, j < L → m 47 j = nI (tr (M 39) (M 40) (M 41) (M 42) j).1 ∧ m 48 j = nI (tr (M 39) (M 40) (M 41) (M 42) j).1 ∧ m 50 j = (if isF (M 39) (M 42) (tr (M 39) (M 40) (M 41) (M 42) j) then 1 else 0)) ∨ (r = 0 ∧ xno (M 39) (M 40) (M 41) (M 42) lim ∧ fr [37, 48, 49, 50] M m ∧ ∀ j, j ≠ 18 → m 37 j = M 37 j)) := by
  refine CT_of (ret := (some .boolean)) (lv0 := [some (.ref (ad 37)), some (.int (nI lim)), none, none]) (by decide +kernel) hl (by simp [Value.category]) (Nat.le_of_ble_eq_true rfl) rfl ?_
  intro X F Rt _
  have t166 : ∀ (L : Nat) (M' : fx_M), xok (M 39) (M 40) (M 41) (M 42) lim L → fr [37, 48, 49, 50] M M' → (∀ j, j ≠ 18 → M' 37 j = M 37 j) → M' 37 18 = nI L → (∀ j, j < L → M' 48 j = nI (tr (M 39) (M 40) (M 41) (M 42) j).1 ∧ M' 50 j = (if isF (M 39) (M 42) (tr (M 39) (M 40) (M 41) (M 42) j) then 1 else 0)) → GG X ad 166 [some (.ref (ad 37)), some (.int (nI lim)), some (.int (-1)), none] [] 0 0 (c_C sw ++ (m_C ++ tl)) M' := by
    intro L M' hx g1 g3 g4 g5
    have h500 : L ≤ 500 := by have := hx.2.1; omega
    have lpc : ∀ (k : Nat) (i : Nat) (M2 : fx_M), k = L - i → i ≤ L → fr [47] (fx_u M' 37 17 (nI L)) M2 → M2 37 18 = nI L → M2 37 = upd (upd (M 37) 18 (nI L)) 17 (nI L) → (∀ j, j < i → M2 47 j = nI (tr (M 39) (M 40) (M 41) (M 42) j).1) → GG X ad 176 [some (.ref (ad 37)), some (.int (nI lim)), some (.int (-1)), some (.int (nI i))] [] 0 0 (c_C sw ++ (m_C ++ tl)) M2 := by
      intro k
      induction k using Nat.strongRecOn with
      | _ k ih =>
        intro i M2 hk hi e1 c18 e2 e3
        refine G_iload_n F dX8_executes_176 rfl ?_
        refine G_aload_n F dX8_executes_177 rfl ?_
        refine G_geti F fl_X8_138 dX8_executes_178 rfl rfl ?_
        try simp only [fx_u_at, Nat.reduceEqDiff, false_and, and_false, true_and, and_true, ↓reduceIte, c18]
        refine G_icmp_ge (tgt := 202) F dX8_executes_181 (by decide) (fun h181 => ?_) (fun h181 => ?_)
        · rw [nI_leI (by omega) (by omega)] at h181
          have hiL : L = i := by omega
          subst hiL
          refine G_iconst (v := 1) F dX8_executes_202 rfl ?_
          refine G_iret F Rt dX8_executes_203 (rfl) ⟨rfl, rfl, _, rfl, ?_⟩ (Nat.le_refl _) (Nat.le_refl _)
          refine Or.inl ⟨rfl, L, hx, fun k hk => ?_, ?_, fun j hj => ⟨e3 j hj, ?_, ?_⟩⟩
          · simp only [List.mem_cons, List.not_mem_nil, or_false, not_or] at hk
            rw [e1 k (by simp [hk]), fx_u_ne hk.1, g1 k (by simp [hk])]
          · rw [e2]
          · rw [e1 48 (by decide), fx_u_ne (by decide)]; exact (g5 j hj).1
          · rw [e1 50 (by decide), fx_u_ne (by decide)]; exact (g5 j hj).2
        · rw [nI_leI (by omega) (by omega)] at h181
          refine G_aload_n F dX8_executes_184 rfl ?_
          refine G_getr F fl_X8_44 dX8_executes_185 rfl rfl ?_
          refine G_iload_n F dX8_executes_188 rfl ?_
          refine G_aload_n F dX8_executes_189 rfl ?_
          refine G_getr F fl_X8_47 dX8_executes_190 rfl rfl ?_
          refine G_iload_n F dX8_executes_193 rfl ?_
          refine G_ialdN F dX8_executes_194 rfl (by omega) (by decide) ?_
          try simp only [fx_u_at, Nat.reduceEqDiff, false_and, and_false, true_and, and_true, ↓reduceIte, c18]
          refine G_iastN F dX8_executes_195 rfl (by omega) (by decide) ?_
          refine G_iinc F (1) dX8_executes_196 rfl rfl rfl rfl ?_
          simp only [List.set_cons_zero, List.set_cons_succ, nI_1]
          refine G_goto (tgt := 176) F dX8_executes_199 (by decide) ?_
          exact ih (L - (i + 1)) (by omega) (i + 1) _ rfl (by omega) (e1.u (by decide)) (by rw [fx_u_ne (by decide)]; exact c18) (by rw [fx_u_ne (by decide)]; exact e2) (fun j hj => by
            rw [fx_u_at]
            have q := e3 j
            by_cases e : j = i
            · rw [if_pos ⟨rfl, e⟩, e]
              have q2 := g5 i (by omega)
              rw [show M2 48 i = nI (tr (M 39) (M 40) (M 41) (M 42) i).1 from by rw [e1 48 (by decide), fx_u_ne (by decide)]; exact q2.1]
            · rw [if_neg (fun z => e z.2)]
              exact q (by omega))
    refine G_aload_n F dX8_executes_166 rfl ?_
    refine G_aload_n F dX8_executes_167 rfl ?_
    refine G_geti F fl_X8_138 dX8_executes_168 rfl rfl ?_
    try simp only [fx_u_at, Nat.reduceEqDiff, false_and, and_false, true_and, and_true, ↓reduceIte, g4]
    refine G_puti F fl_X8_141 dX8_executes_171 rfl rfl rfl rfl ?_
    refine G_iconst (v := nI 0) F dX8_executes_174 (by decide) ?_
    refine G_istore_n F 3 dX8_executes_175 rfl rfl rfl (Nat.le_of_ble_eq_true rfl) ?_
    simp only [List.set_cons_zero, List.set_cons_succ]
    exact lpc L 0 _ rfl (by omega) fr.rfl (by simp [fx_u_at]; exact g4) (by
      rw [fx_u_eq]
      congr 1
      funext j
      simp only [upd]
      by_cases e : j = 18
      · rw [if_pos e, e, g4]
      · rw [if_neg e, g3 j e]) (fun j hj => absurd hj (by omega))
  have t28 : ∀ (L : Nat) (M' : fx_M), xok (M 39) (M 40) (M 41) (M 42) lim L → fr [37, 48, 49, 50] M M' → (∀ j, j ≠ 18 → M' 37 j = M 37 j) → M' 37 18 = nI L → (∀ j, j < L → M' 48 j = nI (tr (M 39) (M 40) (M 41) (M 42) j).1 ∧ M' 50 j = (if isF (M 39) (M 42) (tr (M 39) (M 40) (M 41) (M 42) j) then 1 else 0)) → GG X ad 28 [some (.ref (ad 37)), some (.int (nI lim)), some (.int (-1)), none] [] 0 0 (c_C sw ++ (m_C ++ tl)) M' := by
    intro L M' hx g1 g3 g4 g5
    refine G_iload_n F dX8_executes_28 rfl ?_
    refine G_if_lt (tgt := 166) F dX8_executes_29 (by decide) (fun h29 => ?_) (fun h29 => ?_)
    · skip
      exact t166 L M' hx g1 g3 g4 g5
    · exact absurd (by decide) h29 --stop
  have lp : ∀ (k : Nat) (i : Nat) (M' : fx_M), k = lim - i → i ≤ lim → (∀ j, j < i → M 39 (tr (M 39) (M 40) (M 41) (M 42) j).1 ≠ 2) → fr [37, 48, 49, 50] M M' → (∀ j, j ≠ 18 → M' 37 j = M 37 j) → M' 37 18 = nI i → (∀ b, b < N → M' 49 b = nI ((tr (M 39) (M 40) (M 41) (M 42) i).2 b)) → (∀ j, j < i → M' 48 j = nI (tr (M 39) (M 40) (M 41) (M 42) j).1 ∧ M' 50 j = (if isF (M 39) (M 42) (tr (M 39) (M 40) (M 41) (M 42) j) then 1 else 0)) → GG X ad 28 [some (.ref (ad 37)), some (.int (nI lim)), some (.int (nI (tr (M 39) (M 40) (M 41) (M 42) i).1)), none] [] 0 0 (c_C sw ++ (m_C ++ tl)) M' := by
    intro k
    induction k using Nat.strongRecOn with
    | _ k ih =>
      intro i M' hk hi g0 g1 g3 g4 g6 g5
      have hbN : (tr (M 39) (M 40) (M 41) (M 42) i).1 < N := tr_in hN16 hN1 hv i g0
      have hk49 : M' 49 (tr (M 39) (M 40) (M 41) (M 42) i).1 = nI ((tr (M 39) (M 40) (M 41) (M 42) i).2 (tr (M 39) (M 40) (M 41) (M 42) i).1) := g6 _ hbN
      have htl := tr_le (kd := M 39) (f := M 40) (s := M 41) (p := M 42) i (tr (M 39) (M 40) (M 41) (M 42) i).1
      refine G_iload_n F dX8_executes_28 rfl ?_
      skip
      refine G_if_lt (tgt := 166) F dX8_executes_29 (by decide) (fun h29 => ?_) (fun h29 => ?_)
      · exact absurd h29 (nI_pos (by omega)) --stop
      · skip
        refine G_aload_n F dX8_executes_32 rfl ?_
        refine G_geti F fl_X8_138 dX8_executes_33 rfl rfl ?_
        try simp only [fx_u_at, Nat.reduceEqDiff, false_and, and_false, true_and, and_true, ↓reduceIte, g4, hk49]
        refine G_iload_n F dX8_executes_36 rfl ?_
        refine G_icmp_ne (tgt := 42) F dX8_executes_37 (by decide) (fun h37 => ?_) (fun h37 => ?_)
        · rw [nI_eq (by omega) (by omega)] at h37
          have t98 : GG X ad 98 [some (.ref (ad 37)), some (.int (nI lim)), some (.int (nI (tr (M 39) (M 40) (M 41) (M 42) i).1)), none] [.int (if isF (M 39) (M 42) (tr (M 39) (M 40) (M 41) (M 42) i) then (1 : Int32) else 0)] 0 0 (c_C sw ++ (m_C ++ tl)) (fx_u M' 48 i (nI (tr (M 39) (M 40) (M 41) (M 42) i).1)) := by
            refine G_istore_n F 3 dX8_executes_98 rfl rfl rfl (Nat.le_of_ble_eq_true rfl) ?_
            simp only [List.set_cons_zero, List.set_cons_succ]
            refine G_aload_n F dX8_executes_99 rfl ?_
            refine G_getr F fl_X8_53 dX8_executes_100 rfl rfl ?_
            refine G_aload_n F dX8_executes_103 rfl ?_
            refine G_geti F fl_X8_138 dX8_executes_104 rfl rfl ?_
            try simp only [fx_u_at, Nat.reduceEqDiff, false_and, and_false, true_and, and_true, ↓reduceIte, g4, hk49]
            refine G_iload_n F dX8_executes_107 rfl ?_
            refine G_zastN F dX8_executes_108 rfl (by omega) (by decide) (by split <;> simp) ?_
            refine G_aload_n F dX8_executes_109 rfl ?_
            refine G_dup F dX8_executes_110 rfl ?_
            refine G_geti F fl_X8_138 dX8_executes_111 rfl rfl ?_
            try simp only [fx_u_at, Nat.reduceEqDiff, false_and, and_false, true_and, and_true, ↓reduceIte, g4, hk49]
            refine G_iconst (v := 1) F dX8_executes_114 rfl ?_
            refine G_iadd F dX8_executes_115 ?_
            refine G_puti F fl_X8_138 dX8_executes_116 rfl rfl rfl rfl ?_
            refine G_aload_n F dX8_executes_119 rfl ?_
            refine G_getr F fl_X8_50 dX8_executes_120 rfl rfl ?_
            refine G_iload_n F dX8_executes_123 rfl ?_
            refine G_dup2 F dX8_executes_124 rfl rfl ?_
            refine G_ialdN F dX8_executes_125 rfl (by omega) (by decide) ?_
            try simp only [fx_u_at, Nat.reduceEqDiff, false_and, and_false, true_and, and_true, ↓reduceIte, g4, hk49]
            refine G_iconst (v := 1) F dX8_executes_126 rfl ?_
            refine G_iadd F dX8_executes_127 ?_
            refine G_iastN F dX8_executes_128 rfl (by omega) (by decide) ?_
            refine G_aload_n F dX8_executes_129 rfl ?_
            refine G_getr F fl_X8_20 dX8_executes_130 rfl rfl ?_
            refine G_iload_n F dX8_executes_133 rfl ?_
            refine G_ialdN F dX8_executes_134 rfl (by omega) (by decide) ?_
            try simp only [fx_u_at, Nat.reduceEqDiff, false_and, and_false, true_and, and_true, ↓reduceIte, g4, hk49]
            refine G_iconst (v := 2) F dX8_executes_135 rfl ?_
            rw [g1 39 (by decide)]
            refine G_icmp_ne (tgt := 143) F dX8_executes_136 (by decide) (fun h136 => ?_) (fun h136 => ?_)
            · refine G_iload_n F dX8_executes_143 rfl ?_
              refine G_if_eq (tgt := 156) F dX8_executes_144 (by decide) (fun h144 => ?_) (fun h144 => ?_)
              · have hF : isF (M 39) (M 42) (tr (M 39) (M 40) (M 41) (M 42) i) = false := by simpa using h144
                refine G_aload_n F dX8_executes_156 rfl ?_
                refine G_getr F fl_X8_26 dX8_executes_157 rfl rfl ?_
                refine G_iload_n F dX8_executes_160 rfl ?_
                refine G_ialdN F dX8_executes_161 rfl (by omega) (by decide) ?_
                try simp only [fx_u_at, Nat.reduceEqDiff, false_and, and_false, true_and, and_true, ↓reduceIte, g4, hk49]
                refine G_istore_n F 2 dX8_executes_162 rfl rfl rfl (Nat.le_of_ble_eq_true rfl) ?_
                simp only [List.set_cons_zero, List.set_cons_succ]
                refine G_goto (tgt := 28) F dX8_executes_163 (by decide) ?_
                have hnx := isF_next (p := M 42) hN16 hv hbN h136
                rw [hF] at hnx
                rw [g1 41 (by decide), show M 41 (tr (M 39) (M 40) (M 41) (M 42) i).1 = nI (tq (M 39) (M 40) (M 41) (M 42) (tr (M 39) (M 40) (M 41) (M 42) i)).1 from hnx.1]
                refine G_drop F 3 ?_
                simp only [List.set_cons_zero, List.set_cons_succ]
                refine ih (lim - (i + 1)) (by omega) (i + 1) _ rfl (by omega) (fun j hj => ?_) ?_ ?_ ?_ ?_ ?_
                · by_cases e : j = i
                  · rw [e]; exact h136
                  · exact g0 j (by omega)
                · exact (((g1.u (by decide)).u (by decide)).u (by decide)).u (by decide)
                · intro j hj
                  simp only [fx_u_at, hj, Nat.reduceEqDiff, false_and, and_false, if_false]
                  exact g3 j hj
                · simp [fx_u_at, nI_1]
                · intro b hb
                  show _ = nI ((tq (M 39) (M 40) (M 41) (M 42) (tr (M 39) (M 40) (M 41) (M 42) i)).2 b)
                  simp only [tq, fx_u_at, Nat.reduceEqDiff, false_and, true_and, if_false]
                  by_cases e : b = (tr (M 39) (M 40) (M 41) (M 42) i).1
                  · rw [if_pos e, if_pos e, e, nI_1]
                  · rw [if_neg e, if_neg e]; exact g6 b hb
                · intro j hj
                  simp only [fx_u_at, Nat.reduceEqDiff, false_and, true_and, if_false]
                  by_cases e : j = i
                  · subst e; simp
                  · rw [if_neg e, if_neg e]; exact g5 j (by omega)
              · have hF : isF (M 39) (M 42) (tr (M 39) (M 40) (M 41) (M 42) i) = true := by simpa using h144
                refine G_aload_n F dX8_executes_147 rfl ?_
                refine G_getr F fl_X8_23 dX8_executes_148 rfl rfl ?_
                refine G_iload_n F dX8_executes_151 rfl ?_
                refine G_ialdN F dX8_executes_152 rfl (by omega) (by decide) ?_
                try simp only [fx_u_at, Nat.reduceEqDiff, false_and, and_false, true_and, and_true, ↓reduceIte, g4, hk49]
                refine G_goto (tgt := 162) F dX8_executes_153 (by decide) ?_
                refine G_istore_n F 2 dX8_executes_162 rfl rfl rfl (Nat.le_of_ble_eq_true rfl) ?_
                simp only [List.set_cons_zero, List.set_cons_succ]
                refine G_goto (tgt := 28) F dX8_executes_163 (by decide) ?_
                have hnx := isF_next (p := M 42) hN16 hv hbN h136
                rw [hF] at hnx
                rw [g1 40 (by decide), show M 40 (tr (M 39) (M 40) (M 41) (M 42) i).1 = nI (tq (M 39) (M 40) (M 41) (M 42) (tr (M 39) (M 40) (M 41) (M 42) i)).1 from hnx.1]
                refine G_drop F 3 ?_
                simp only [List.set_cons_zero, List.set_cons_succ]
                refine ih (lim - (i + 1)) (by omega) (i + 1) _ rfl (by omega) (fun j hj => ?_) ?_ ?_ ?_ ?_ ?_
                · by_cases e : j = i
                  · rw [e]; exact h136
                  · exact g0 j (by omega)
                · exact (((g1.u (by decide)).u (by decide)).u (by decide)).u (by decide)
                · intro j hj
                  simp only [fx_u_at, hj, Nat.reduceEqDiff, false_and, and_false, if_false]
                  exact g3 j hj
                · simp [fx_u_at, nI_1]
                · intro b hb
                  show _ = nI ((tq (M 39) (M 40) (M 41) (M 42) (tr (M 39) (M 40) (M 41) (M 42) i)).2 b)
                  simp only [tq, fx_u_at, Nat.reduceEqDiff, false_and, true_and, if_false]
                  by_cases e : b = (tr (M 39) (M 40) (M 41) (M 42) i).1
                  · rw [if_pos e, if_pos e, e, nI_1]
                  · rw [if_neg e, if_neg e]; exact g6 b hb
                · intro j hj
                  simp only [fx_u_at, Nat.reduceEqDiff, false_and, true_and, if_false]
                  by_cases e : j = i
                  · subst e; simp
                  · rw [if_neg e, if_neg e]; exact g5 j (by omega)
            · refine G_iconst (v := -1) F dX8_executes_139 rfl ?_
              refine G_goto (tgt := 162) F dX8_executes_140 (by decide) ?_
              refine G_istore_n F 2 dX8_executes_162 rfl rfl rfl (Nat.le_of_ble_eq_true rfl) ?_
              simp only [List.set_cons_zero, List.set_cons_succ]
              refine G_goto (tgt := 28) F dX8_executes_163 (by decide) ?_
              refine G_drop F 3 ?_
              simp only [List.set_cons_zero, List.set_cons_succ]
              refine t28 (i + 1) _ ⟨by omega, by omega, by rw [Nat.add_sub_cancel]; exact h136, fun j hj => g0 j (by omega)⟩ ?_ ?_ ?_ ?_
              · exact (((g1.u (by decide)).u (by decide)).u (by decide)).u (by decide)
              · intro j hj
                simp only [fx_u_at, hj, Nat.reduceEqDiff, false_and, and_false, if_false]
                exact g3 j hj
              · simp [fx_u_at, nI_1]
              · intro j hj
                simp only [fx_u_at, Nat.reduceEqDiff, false_and, true_and, if_false]
                by_cases e : j = i
                · subst e; simp
                · rw [if_neg e, if_neg e]; exact g5 j (by omega)
          refine G_aload_n F dX8_executes_42 rfl ?_
          refine G_getr F fl_X8_47 dX8_executes_43 rfl rfl ?_
          refine G_aload_n F dX8_executes_46 rfl ?_
          refine G_geti F fl_X8_138 dX8_executes_47 rfl rfl ?_
          try simp only [fx_u_at, Nat.reduceEqDiff, false_and, and_false, true_and, and_true, ↓reduceIte, g4, hk49]
          refine G_iload_n F dX8_executes_50 rfl ?_
          refine G_iastN F dX8_executes_51 rfl (by omega) (by decide) ?_
          refine G_aload_n F dX8_executes_52 rfl ?_
          refine G_getr F fl_X8_20 dX8_executes_53 rfl rfl ?_
          refine G_iload_n F dX8_executes_56 rfl ?_
          refine G_ialdN F dX8_executes_57 rfl (by omega) (by decide) ?_
          try simp only [fx_u_at, Nat.reduceEqDiff, false_and, and_false, true_and, and_true, ↓reduceIte, g4, hk49]
          rw [g1 39 (by decide)]
          refine G_if_eq (tgt := 93) F dX8_executes_58 (by decide) (fun h58 => ?_) (fun h58 => ?_)
          · refine G_iconst (v := 1) F dX8_executes_93 rfl ?_
            refine G_goto (tgt := 98) F dX8_executes_94 (by decide) ?_
            have eX : (if isF (M 39) (M 42) (tr (M 39) (M 40) (M 41) (M 42) i) then (1 : Int32) else 0) = 1 := by
              simp only [isF, h58]
              simp
            rw [eX] at t98
            exact t98
          · refine G_aload_n F dX8_executes_61 rfl ?_
            refine G_getr F fl_X8_20 dX8_executes_62 rfl rfl ?_
            refine G_iload_n F dX8_executes_65 rfl ?_
            refine G_ialdN F dX8_executes_66 rfl (by omega) (by decide) ?_
            try simp only [fx_u_at, Nat.reduceEqDiff, false_and, and_false, true_and, and_true, ↓reduceIte, g4, hk49]
            refine G_iconst (v := 1) F dX8_executes_67 rfl ?_
            rw [g1 39 (by decide)]
            refine G_icmp_ne (tgt := 97) F dX8_executes_68 (by decide) (fun h68 => ?_) (fun h68 => ?_)
            · refine G_iconst (v := 0) F dX8_executes_97 rfl ?_
              have eX : (if isF (M 39) (M 42) (tr (M 39) (M 40) (M 41) (M 42) i) then (1 : Int32) else 0) = 0 := by
                simp only [isF, h58, h68]
                simp
              rw [eX] at t98
              exact t98
            · refine G_aload_n F dX8_executes_71 rfl ?_
              refine G_getr F fl_X8_29 dX8_executes_72 rfl rfl ?_
              refine G_iload_n F dX8_executes_75 rfl ?_
              skip
              refine G_ialdN F dX8_executes_76 rfl (by omega) (by decide) ?_
              try simp only [fx_u_at, Nat.reduceEqDiff, false_and, and_false, true_and, and_true, ↓reduceIte, g4, hk49]
              refine G_aload_n F dX8_executes_77 rfl ?_
              refine G_getr F fl_X8_50 dX8_executes_78 rfl rfl ?_
              refine G_iload_n F dX8_executes_81 rfl ?_
              refine G_ialdN F dX8_executes_82 rfl (by omega) (by decide) ?_
              try simp only [fx_u_at, Nat.reduceEqDiff, false_and, and_false, true_and, and_true, ↓reduceIte, g4, hk49]
              refine G_bipush (v := 32) F dX8_executes_83 rfl ?_
              refine G_irem F dX8_executes_85 (by decide) ?_
              rw [g1 42 (by decide), rem32 (by omega)]
              refine G_ishr F dX8_executes_86 ?_
              rw [nI_sh (by omega)]
              refine G_iconst (v := 1) F dX8_executes_87 rfl ?_
              refine G_iand F dX8_executes_88 ?_
              refine G_iconst (v := 1) F dX8_executes_89 rfl ?_
              refine G_icmp_ne (tgt := 97) F dX8_executes_90 (by decide) (fun h90 => ?_) (fun h90 => ?_)
              · refine G_iconst (v := 0) F dX8_executes_97 rfl ?_
                have hpb : pb (M 42 (tr (M 39) (M 40) (M 41) (M 42) i).1) ((tr (M 39) (M 40) (M 41) (M 42) i).2 (tr (M 39) (M 40) (M 41) (M 42) i).1) = false := by
                  unfold pb
                  rw [decide_eq_false h90]
                have eX : (if isF (M 39) (M 42) (tr (M 39) (M 40) (M 41) (M 42) i) then (1 : Int32) else 0) = 0 := by
                  simp only [isF, h58, h68, hpb]
                  simp
                rw [eX] at t98
                exact t98
              · refine G_iconst (v := 1) F dX8_executes_93 rfl ?_
                refine G_goto (tgt := 98) F dX8_executes_94 (by decide) ?_
                have hpb : pb (M 42 (tr (M 39) (M 40) (M 41) (M 42) i).1) ((tr (M 39) (M 40) (M 41) (M 42) i).2 (tr (M 39) (M 40) (M 41) (M 42) i).1) = true := by
                  unfold pb
                  rw [decide_eq_true h90]
                have eX : (if isF (M 39) (M 42) (tr (M 39) (M 40) (M 41) (M 42) i) then (1 : Int32) else 0) = 1 := by
                  simp only [isF, h58, h68, hpb]
                  simp
                rw [eX] at t98
                exact t98
        · rw [nI_eq (by omega) (by omega)] at h37
          refine G_iconst (v := 0) F dX8_executes_40 rfl ?_
          refine G_iret F Rt dX8_executes_41 (rfl) ⟨rfl, rfl, _, rfl, ?_⟩ (Nat.le_refl _) (Nat.le_refl _)
          exact Or.inr ⟨rfl, by rw [← h37]; exact g0, g1, g3⟩
  have lpz : ∀ (k : Nat) (i : Nat) (M' : fx_M), k = 16 - i → i ≤ 16 → fr [49] M M' → (∀ b, b < i → M' 49 b = 0) → GG X ad 2 [some (.ref (ad 37)), some (.int (nI lim)), some (.int (nI i)), none] [] 0 0 (c_C sw ++ (m_C ++ tl)) M' := by
    intro k
    induction k using Nat.strongRecOn with
    | _ k ih =>
      intro i M' hk hi z1 z2
      refine G_iload_n F dX8_executes_2 rfl ?_
      refine G_bipush (v := nI 16) F dX8_executes_3 (by decide) ?_
      refine G_icmp_ge (tgt := 21) F dX8_executes_5 (by decide) (fun h5 => ?_) (fun h5 => ?_)
      · rw [nI_leI (by omega) (by omega)] at h5
        have hi16 : i = 16 := by omega
        subst hi16
        refine G_aload_n F dX8_executes_21 rfl ?_
        refine G_iconst (v := 0) F dX8_executes_22 rfl ?_
        refine G_puti F fl_X8_138 dX8_executes_23 rfl rfl rfl rfl ?_
        refine G_iconst (v := nI 0) F dX8_executes_26 (by decide) ?_
        refine G_istore_n F 2 dX8_executes_27 rfl rfl rfl (Nat.le_of_ble_eq_true rfl) ?_
        simp only [List.set_cons_zero, List.set_cons_succ]
        refine lp lim 0 _ rfl (by omega) (fun j hj => absurd hj (by omega)) ((z1.mono (by decide)).u (by decide)) (fun j hj => by simp only [fx_u_at, hj, and_false, if_false]; rw [z1 37 (by decide)]) (by simp [fx_u_at]; rfl) (fun b hb => ?_) (fun j hj => absurd hj (by omega))
        rw [fx_u_ne (by decide), z2 b (by omega)]
        rfl
      · rw [nI_leI (by omega) (by omega)] at h5
        refine G_aload_n F dX8_executes_8 rfl ?_
        refine G_getr F fl_X8_50 dX8_executes_9 rfl rfl ?_
        refine G_iload_n F dX8_executes_12 rfl ?_
        refine G_iconst (v := 0) F dX8_executes_13 rfl ?_
        refine G_iastN F dX8_executes_14 rfl (by omega) (by decide) ?_
        refine G_iinc F (1) dX8_executes_15 rfl rfl rfl rfl ?_
        simp only [List.set_cons_zero, List.set_cons_succ, nI_1]
        refine G_goto (tgt := 2) F dX8_executes_18 (by decide) ?_
        exact ih (16 - (i + 1)) (by omega) (i + 1) _ rfl (by omega) (z1.u (by decide)) (fun b hb => by
          rw [fx_u_at]
          by_cases e : b = i
          · rw [if_pos ⟨rfl, e⟩]
          · rw [if_neg (fun q => e q.2)]; exact z2 b (by omega))
  refine G_iconst (v := nI 0) F dX8_executes_0 (by decide) ?_
  refine G_istore_n F 2 dX8_executes_1 rfl rfl rfl (Nat.le_of_ble_eq_true rfl) ?_
  simp only [List.set_cons_zero, List.set_cons_succ]
  exact lpz 16 0 M rfl (by omega) fr.rfl (fun b hb => absurd hb (by omega))
