/-! PROGRAM: loops -/
/-- a sum -/
def sm (f : Nat → Int32) : Nat → Int32
  | 0 => 0
  | n + 1 => sm f n + f n
/-- one pass over the blocks -/
def rp (tg : Nat → Int32) (al : Int32) (s : Int32) : Nat → Int32
  | 0 => s
  | n + 1 => if bt (rp tg al s n) n then rp tg al s n ||| (tg n &&& al) else rp tg al s n
/-- passes until nothing is new, k at most -/
def rc (tg : Nat → Int32) (al : Int32) (N : Nat) : Nat → Int32 → Int32
  | 0, s => s
  | k + 1, s => if rp tg al s N = s then s else rc tg al N k (rp tg al s N)
set_option maxRecDepth 20000 in
theorem s_sumOfCounts {l : Launch} {Z : fx_Z} (hl : l.stackTraces = false) (ad : Nat → Nat) (sw : Bool) (tl : List fx_Sh) (M : fx_M) {N : Nat} (hN : M 1 8 = nI N) (hN16 : N ≤ 16) : CI l Z yX6_sumOfCounts (.code yX6_sumOfCounts cX6_sumOfCounts 3 (some .int)) 0 [.ref (ad 1)] ad (c_C sw ++ tl) M (fun r m => r = sm (M 7) N ∧ m = M) := by
  refine CT_of (ret := (some .int)) (lv0 := [some (.ref (ad 1)), none, none]) (by decide +kernel) hl (by simp [Value.category]) (Nat.le_of_ble_eq_true rfl) rfl ?_
  intro X F Rt _
  have lp : ∀ (k : Nat) (i : Nat), k = N - i → i ≤ N → GG X ad 4 [some (.ref (ad 1)), some (.int (sm (M 7) i)), some (.int (nI i))] [] 0 0 (c_C sw ++ tl) M := by
    intro k
    induction k using Nat.strongRecOn with
    | _ k ih =>
      intro i hk hi
        refine G_iload_n F dX6_sumOfCounts_4 rfl ?_
        refine G_aload_n F dX6_sumOfCounts_5 rfl ?_
        refine G_geti F fl_X6_36 dX6_sumOfCounts_6 rfl rfl ?_
        rw [hN]
        refine G_icmp_ge (tgt := 27) F dX6_sumOfCounts_9 (by decide) (fun h9 => ?_) (fun h9 => ?_)
        · rw [nI_leI (by omega) (by omega)] at h9
          have hiN : i = N := by omega
          subst hiN
          refine G_iload_n F dX6_sumOfCounts_27 rfl ?_
          refine G_iret F Rt dX6_sumOfCounts_28 (rfl) ⟨rfl, rfl, _, rfl, ?_⟩ (Nat.le_refl _) (Nat.le_refl _)
          exact ⟨rfl, rfl⟩
        · rw [nI_leI (by omega) (by omega)] at h9
          refine G_iload_n F dX6_sumOfCounts_12 rfl ?_
          refine G_aload_n F dX6_sumOfCounts_13 rfl ?_
          refine G_getr F fl_X6_27 dX6_sumOfCounts_14 rfl rfl ?_
          refine G_iload_n F dX6_sumOfCounts_17 rfl ?_
          refine G_ialdN F dX6_sumOfCounts_18 rfl (by omega) (by decide) ?_
          refine G_iadd F dX6_sumOfCounts_19 ?_
          refine G_istore_n F 1 dX6_sumOfCounts_20 rfl rfl rfl (Nat.le_of_ble_eq_true rfl) ?_
          simp only [List.set_cons_zero, List.set_cons_succ]
          refine G_iinc F (1) dX6_sumOfCounts_21 rfl rfl rfl rfl ?_
          simp only [List.set_cons_zero, List.set_cons_succ, nI_1]
          refine G_goto (tgt := 4) F dX6_sumOfCounts_24 (by decide) ?_
          exact ih (N - (i + 1)) (by omega) (i + 1) rfl (by omega)
  refine G_iconst (v := 0) F dX6_sumOfCounts_0 rfl ?_
  refine G_istore_n F 1 dX6_sumOfCounts_1 rfl rfl rfl (Nat.le_of_ble_eq_true rfl) ?_
  simp only [List.set_cons_zero, List.set_cons_succ]
  refine G_iconst (v := 0) F dX6_sumOfCounts_2 rfl ?_
  refine G_istore_n F 2 dX6_sumOfCounts_3 rfl rfl rfl (Nat.le_of_ble_eq_true rfl) ?_
  simp only [List.set_cons_zero, List.set_cons_succ]
  exact lp N 0 (by omega) (by omega)
