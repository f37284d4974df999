/-! THE ROWS OVER THE FLAT WORLD: one an instruction -/
section FxR
variable {X : fx_C} {l : Launch} {Z : fx_Z} {R : Room} {own : String} {cc : ByteArray} {ad : Nat → Nat} {pc : Nat} {lv : List (Option Value)} {rest : List Value} {ce sl : Nat} {S : List fx_Sh} {M : fx_M}
theorem G_iadd (F : fx_F X l Z R own cc) {x y : Int32} (d : decode cc pc = .ok (.iadd, 1)) (k : GG X ad (pc + 1) lv (.int (x + y) :: rest) ce sl S M) : GG X ad pc lv (.int y :: .int x :: rest) ce sl S M := by
  obtain ⟨p, l', e, R', s, m, args, below, meth, c, Z', A, Q, nL⟩ := X
  obtain ⟨rfl, rfl, rfl, ⟨hx, hb, hml, hown, hts⟩, hA, hE, hlk, htr⟩ := F
  intro H locs ls hL hP hD hS
  exact lv_iadd hx hb d (k H locs ls hL hP hD hS)
theorem G_isub (F : fx_F X l Z R own cc) {x y : Int32} (d : decode cc pc = .ok (.isub, 1)) (k : GG X ad (pc + 1) lv (.int (x - y) :: rest) ce sl S M) : GG X ad pc lv (.int y :: .int x :: rest) ce sl S M := by
  obtain ⟨p, l', e, R', s, m, args, below, meth, c, Z', A, Q, nL⟩ := X
  obtain ⟨rfl, rfl, rfl, ⟨hx, hb, hml, hown, hts⟩, hA, hE, hlk, htr⟩ := F
  intro H locs ls hL hP hD hS
  exact lv_isub hx hb d (k H locs ls hL hP hD hS)
theorem G_imul (F : fx_F X l Z R own cc) {x y : Int32} (d : decode cc pc = .ok (.imul, 1)) (k : GG X ad (pc + 1) lv (.int (x * y) :: rest) ce sl S M) : GG X ad pc lv (.int y :: .int x :: rest) ce sl S M := by
  obtain ⟨p, l', e, R', s, m, args, below, meth, c, Z', A, Q, nL⟩ := X
  obtain ⟨rfl, rfl, rfl, ⟨hx, hb, hml, hown, hts⟩, hA, hE, hlk, htr⟩ := F
  intro H locs ls hL hP hD hS
  exact lv_imul hx hb d (k H locs ls hL hP hD hS)
theorem G_iand (F : fx_F X l Z R own cc) {x y : Int32} (d : decode cc pc = .ok (.iand, 1)) (k : GG X ad (pc + 1) lv (.int (x &&& y) :: rest) ce sl S M) : GG X ad pc lv (.int y :: .int x :: rest) ce sl S M := by
  obtain ⟨p, l', e, R', s, m, args, below, meth, c, Z', A, Q, nL⟩ := X
  obtain ⟨rfl, rfl, rfl, ⟨hx, hb, hml, hown, hts⟩, hA, hE, hlk, htr⟩ := F
  intro H locs ls hL hP hD hS
  exact lv_iand hx hb d (k H locs ls hL hP hD hS)
theorem G_ior (F : fx_F X l Z R own cc) {x y : Int32} (d : decode cc pc = .ok (.ior, 1)) (k : GG X ad (pc + 1) lv (.int (x ||| y) :: rest) ce sl S M) : GG X ad pc lv (.int y :: .int x :: rest) ce sl S M := by
  obtain ⟨p, l', e, R', s, m, args, below, meth, c, Z', A, Q, nL⟩ := X
  obtain ⟨rfl, rfl, rfl, ⟨hx, hb, hml, hown, hts⟩, hA, hE, hlk, htr⟩ := F
  intro H locs ls hL hP hD hS
  exact lv_ior hx hb d (k H locs ls hL hP hD hS)
theorem G_ixor (F : fx_F X l Z R own cc) {x y : Int32} (d : decode cc pc = .ok (.ixor, 1)) (k : GG X ad (pc + 1) lv (.int (x ^^^ y) :: rest) ce sl S M) : GG X ad pc lv (.int y :: .int x :: rest) ce sl S M := by
  obtain ⟨p, l', e, R', s, m, args, below, meth, c, Z', A, Q, nL⟩ := X
  obtain ⟨rfl, rfl, rfl, ⟨hx, hb, hml, hown, hts⟩, hA, hE, hlk, htr⟩ := F
  intro H locs ls hL hP hD hS
  exact lv_ixor hx hb d (k H locs ls hL hP hD hS)
theorem G_ishl (F : fx_F X l Z R own cc) {x y : Int32} (d : decode cc pc = .ok (.ishl, 1)) (k : GG X ad (pc + 1) lv (.int (x <<< (y &&& 31)) :: rest) ce sl S M) : GG X ad pc lv (.int y :: .int x :: rest) ce sl S M := by
  obtain ⟨p, l', e, R', s, m, args, below, meth, c, Z', A, Q, nL⟩ := X
  obtain ⟨rfl, rfl, rfl, ⟨hx, hb, hml, hown, hts⟩, hA, hE, hlk, htr⟩ := F
  intro H locs ls hL hP hD hS
  exact lv_ishl hx hb d (k H locs ls hL hP hD hS)
theorem G_ishr (F : fx_F X l Z R own cc) {x y : Int32} (d : decode cc pc = .ok (.ishr, 1)) (k : GG X ad (pc + 1) lv (.int (x >>> (y &&& 31)) :: rest) ce sl S M) : GG X ad pc lv (.int y :: .int x :: rest) ce sl S M := by
  obtain ⟨p, l', e, R', s, m, args, below, meth, c, Z', A, Q, nL⟩ := X
  obtain ⟨rfl, rfl, rfl, ⟨hx, hb, hml, hown, hts⟩, hA, hE, hlk, htr⟩ := F
  intro H locs ls hL hP hD hS
  exact lv_ishr hx hb d (k H locs ls hL hP hD hS)
theorem G_idiv (F : fx_F X l Z R own cc) {x y : Int32} (d : decode cc pc = .ok (.idiv, 1)) (h0 : ¬ y = 0) (k : GG X ad (pc + 1) lv (.int (x / y) :: rest) ce sl S M) : GG X ad pc lv (.int y :: .int x :: rest) ce sl S M := by
  obtain ⟨p, l', e, R', s, m, args, below, meth, c, Z', A, Q, nL⟩ := X
  obtain ⟨rfl, rfl, rfl, ⟨hx, hb, hml, hown, hts⟩, hA, hE, hlk, htr⟩ := F
  intro H locs ls hL hP hD hS
  exact lv_idiv hx hb d h0 (k H locs ls hL hP hD hS)
theorem G_irem (F : fx_F X l Z R own cc) {x y : Int32} (d : decode cc pc = .ok (.irem, 1)) (h0 : ¬ y = 0) (k : GG X ad (pc + 1) lv (.int (x - x / y * y) :: rest) ce sl S M) : GG X ad pc lv (.int y :: .int x :: rest) ce sl S M := by
  obtain ⟨p, l', e, R', s, m, args, below, meth, c, Z', A, Q, nL⟩ := X
  obtain ⟨rfl, rfl, rfl, ⟨hx, hb, hml, hown, hts⟩, hA, hE, hlk, htr⟩ := F
  intro H locs ls hL hP hD hS
  exact lv_irem hx hb d h0 (k H locs ls hL hP hD hS)
theorem G_ineg (F : fx_F X l Z R own cc) {x : Int32} (d : decode cc pc = .ok (.ineg, 1)) (k : GG X ad (pc + 1) lv (.int (-x) :: rest) ce sl S M) : GG X ad pc lv (.int x :: rest) ce sl S M := by
  obtain ⟨p, l', e, R', s, m, args, below, meth, c, Z', A, Q, nL⟩ := X
  obtain ⟨rfl, rfl, rfl, ⟨hx, hb, hml, hown, hts⟩, hA, hE, hlk, htr⟩ := F
  intro H locs ls hL hP hD hS
  exact lv_ineg hx hb d (k H locs ls hL hP hD hS)
theorem G_i2l (F : fx_F X l Z R own cc) {x : Int32} (d : decode cc pc = .ok (.i2l, 1)) (k : GG X ad (pc + 1) lv (.long x.toInt64 :: rest) ce sl S M) : GG X ad pc lv (.int x :: rest) ce sl S M := by
  obtain ⟨p, l', e, R', s, m, args, below, meth, c, Z', A, Q, nL⟩ := X
  obtain ⟨rfl, rfl, rfl, ⟨hx, hb, hml, hown, hts⟩, hA, hE, hlk, htr⟩ := F
  intro H locs ls hL hP hD hS
  exact lv_i2l hx hb d rfl (k H locs ls hL hP hD hS)
theorem G_i2c (F : fx_F X l Z R own cc) {x : Int32} (d : decode cc pc = .ok (.i2c, 1)) (k : GG X ad (pc + 1) lv (.int (x.toUInt32 % 65536).toInt32 :: rest) ce sl S M) : GG X ad pc lv (.int x :: rest) ce sl S M := by
  obtain ⟨p, l', e, R', s, m, args, below, meth, c, Z', A, Q, nL⟩ := X
  obtain ⟨rfl, rfl, rfl, ⟨hx, hb, hml, hown, hts⟩, hA, hE, hlk, htr⟩ := F
  intro H locs ls hL hP hD hS
  exact lv_i2c hx hb d rfl (k H locs ls hL hP hD hS)
theorem G_i2d (F : fx_F X l Z R own cc) {x : Int32} (d : decode cc pc = .ok (.i2d, 1)) (k : GG X ad (pc + 1) lv (.double (FP.i2d x) :: rest) ce sl S M) : GG X ad pc lv (.int x :: rest) ce sl S M := by
  obtain ⟨p, l', e, R', s, m, args, below, meth, c, Z', A, Q, nL⟩ := X
  obtain ⟨rfl, rfl, rfl, ⟨hx, hb, hml, hown, hts⟩, hA, hE, hlk, htr⟩ := F
  intro H locs ls hL hP hD hS
  exact lv_i2d hx hb d (k H locs ls hL hP hD hS)
theorem G_ddiv (F : fx_F X l Z R own cc) {x y : UInt64} (d : decode cc pc = .ok (.ddiv, 1)) (hn : vf_n64 (FP.ddiv x y)) (k : GG X ad (pc + 1) lv (.double (FP.ddiv x y) :: rest) ce sl S M) : GG X ad pc lv (.double y :: .double x :: rest) ce sl S M := by
  obtain ⟨p, l', e, R', s, m, args, below, meth, c, Z', A, Q, nL⟩ := X
  obtain ⟨rfl, rfl, rfl, ⟨hx, hb, hml, hown, hts⟩, hA, hE, hlk, htr⟩ := F
  intro H locs ls hL hP hD hS
  exact lv_ddiv hx hb d hn (k H locs ls hL hP hD hS)
theorem G_dcmp (F : fx_F X l Z R own cc) {x y : UInt64} {op : CmpOp} (d : decode cc pc = .ok (.dcmp op, 1)) (k : GG X ad (pc + 1) lv (.int (Op.cmpValue (FP.dcmp x y) op) :: rest) ce sl S M) : GG X ad pc lv (.double y :: .double x :: rest) ce sl S M := by
  obtain ⟨p, l', e, R', s, m, args, below, meth, c, Z', A, Q, nL⟩ := X
  obtain ⟨rfl, rfl, rfl, ⟨hx, hb, hml, hown, hts⟩, hA, hE, hlk, htr⟩ := F
  intro H locs ls hL hP hD hS
  exact lv_dcmp hx hb d (k H locs ls hL hP hD hS)
theorem G_lcmp (F : fx_F X l Z R own cc) {x y : Int64} (d : decode cc pc = .ok (.lcmp, 1)) (k : GG X ad (pc + 1) lv (.int (lg_cmp x y) :: rest) ce sl S M) : GG X ad pc lv (.long y :: .long x :: rest) ce sl S M := by
  obtain ⟨p, l', e, R', s, m, args, below, meth, c, Z', A, Q, nL⟩ := X
  obtain ⟨rfl, rfl, rfl, ⟨hx, hb, hml, hown, hts⟩, hA, hE, hlk, htr⟩ := F
  intro H locs ls hL hP hD hS
  exact W.lcmp hx hb d (k H locs ls hL hP hD hS)
theorem G_dup (F : fx_F X l Z R own cc) {v : Value} (d : decode cc pc = .ok (.dup, 1)) (h1 : v.category = 1) (k : GG X ad (pc + 1) lv (v :: v :: rest) ce sl S M) : GG X ad pc lv (v :: rest) ce sl S M := by
  obtain ⟨p, l', e, R', s, m, args, below, meth, c, Z', A, Q, nL⟩ := X
  obtain ⟨rfl, rfl, rfl, ⟨hx, hb, hml, hown, hts⟩, hA, hE, hlk, htr⟩ := F
  intro H locs ls hL hP hD hS
  exact lv_dup hx hb d h1 (k H locs ls hL hP hD hS)
theorem G_pop (F : fx_F X l Z R own cc) {v : Value} (d : decode cc pc = .ok (.pop, 1)) (h1 : v.category = 1) (k : GG X ad (pc + 1) lv rest ce sl S M) : GG X ad pc lv (v :: rest) ce sl S M := by
  obtain ⟨p, l', e, R', s, m, args, below, meth, c, Z', A, Q, nL⟩ := X
  obtain ⟨rfl, rfl, rfl, ⟨hx, hb, hml, hown, hts⟩, hA, hE, hlk, htr⟩ := F
  intro H locs ls hL hP hD hS
  exact lv_pop hx hb d h1 (k H locs ls hL hP hD hS)
theorem G_dup2 (F : fx_F X l Z R own cc) {v w : Value} (d : decode cc pc = .ok (.dup2, 1)) (h1 : v.category = 1) (h2 : w.category = 1) (k : GG X ad (pc + 1) lv (v :: w :: v :: w :: rest) ce sl S M) : GG X ad pc lv (v :: w :: rest) ce sl S M := by
  obtain ⟨p, l', e, R', s, m, args, below, meth, c, Z', A, Q, nL⟩ := X
  obtain ⟨rfl, rfl, rfl, ⟨hx, hb, hml, hown, hts⟩, hA, hE, hlk, htr⟩ := F
  intro H locs ls hL hP hD hS
  exact lv_dup2_11 hx hb d h1 h2 (k H locs ls hL hP hD hS)
theorem G_iconst (F : fx_F X l Z R own cc) {n : Int} {v : Int32} (d : decode cc pc = .ok (.iconst n, 1)) (hv : Int32.ofInt n = v) (k : GG X ad (pc + 1) lv (.int v :: rest) ce sl S M) : GG X ad pc lv rest ce sl S M := by
  obtain ⟨p, l', e, R', s, m, args, below, meth, c, Z', A, Q, nL⟩ := X
  obtain ⟨rfl, rfl, rfl, ⟨hx, hb, hml, hown, hts⟩, hA, hE, hlk, htr⟩ := F
  intro H locs ls hL hP hD hS
  exact lv_iconst hx hb d hv (k H locs ls hL hP hD hS)
theorem G_bipush (F : fx_F X l Z R own cc) {n : Int} {v : Int32} (d : decode cc pc = .ok (.bipush n, 2)) (hv : (Int8.ofInt n).toInt32 = v) (k : GG X ad (pc + 2) lv (.int v :: rest) ce sl S M) : GG X ad pc lv rest ce sl S M := by
  obtain ⟨p, l', e, R', s, m, args, below, meth, c, Z', A, Q, nL⟩ := X
  obtain ⟨rfl, rfl, rfl, ⟨hx, hb, hml, hown, hts⟩, hA, hE, hlk, htr⟩ := F
  intro H locs ls hL hP hD hS
  exact lv_bipush hx hb d hv (k H locs ls hL hP hD hS)
theorem G_sipush (F : fx_F X l Z R own cc) {n : Int} {v : Int32} (d : decode cc pc = .ok (.sipush n, 3)) (hv : (Int16.ofInt n).toInt32 = v) (k : GG X ad (pc + 3) lv (.int v :: rest) ce sl S M) : GG X ad pc lv rest ce sl S M := by
  obtain ⟨p, l', e, R', s, m, args, below, meth, c, Z', A, Q, nL⟩ := X
  obtain ⟨rfl, rfl, rfl, ⟨hx, hb, hml, hown, hts⟩, hA, hE, hlk, htr⟩ := F
  intro H locs ls hL hP hD hS
  exact lv_sipush hx hb d hv (k H locs ls hL hP hD hS)
theorem G_dconst0 (F : fx_F X l Z R own cc) (d : decode cc pc = .ok (.dconst 0, 1)) (k : GG X ad (pc + 1) lv (.double FP.dconst0 :: rest) ce sl S M) : GG X ad pc lv rest ce sl S M := by
  obtain ⟨p, l', e, R', s, m, args, below, meth, c, Z', A, Q, nL⟩ := X
  obtain ⟨rfl, rfl, rfl, ⟨hx, hb, hml, hown, hts⟩, hA, hE, hlk, htr⟩ := F
  intro H locs ls hL hP hD hS
  exact lv_dconst0 hx hb d (k H locs ls hL hP hD hS)
theorem G_ldc (F : fx_F X l Z R own cc) {i : Nat} {v : Int32} (d : decode cc pc = .ok (.ldc i, 2)) (hw : Cond.constant own i v ∈ fx_ww) (k : GG X ad (pc + 2) lv (.int v :: rest) ce sl S M) : GG X ad pc lv rest ce sl S M := by
  obtain ⟨p, l', e, R', s, m, args, below, meth, c, Z', A, Q, nL⟩ := X
  obtain ⟨rfl, rfl, rfl, ⟨hx, hb, hml, hown, hts⟩, hA, hE, hlk, htr⟩ := F
  intro H locs ls hL hP hD hS
  exact lv_ldc hx hb hown (hts _ hw) d (k H locs ls hL hP hD hS)
theorem G_iload_n (F : fx_F X l Z R own cc) {n : Fin 4} {x : Int32} (d : decode cc pc = .ok (.iload_n n, 1)) (hl : lv[(n : Nat)]? = some (some (.int x))) (k : GG X ad (pc + 1) lv (.int x :: rest) ce sl S M) : GG X ad pc lv rest ce sl S M := by
  obtain ⟨p, l', e, R', s, m, args, below, meth, c, Z', A, Q, nL⟩ := X
  obtain ⟨rfl, rfl, rfl, ⟨hx, hb, hml, hown, hts⟩, hA, hE, hlk, htr⟩ := F
  intro H locs ls hL hP hD hS
  exact lv_iload_n hx hb d rfl (hL.at hl) (k H locs ls hL hP hD hS)
theorem G_iload (F : fx_F X l Z R own cc) {i : Nat} {x : Int32} (d : decode cc pc = .ok (.iload i, 2)) (hl : lv[i]? = some (some (.int x))) (k : GG X ad (pc + 2) lv (.int x :: rest) ce sl S M) : GG X ad pc lv rest ce sl S M := by
  obtain ⟨p, l', e, R', s, m, args, below, meth, c, Z', A, Q, nL⟩ := X
  obtain ⟨rfl, rfl, rfl, ⟨hx, hb, hml, hown, hts⟩, hA, hE, hlk, htr⟩ := F
  intro H locs ls hL hP hD hS
  exact lv_iload hx hb d (hL.at hl) (k H locs ls hL hP hD hS)
theorem G_aload_n (F : fx_F X l Z R own cc) {n : Fin 4} {x : Nat} (d : decode cc pc = .ok (.aload_n n, 1)) (hl : lv[(n : Nat)]? = some (some (.ref x))) (k : GG X ad (pc + 1) lv (.ref x :: rest) ce sl S M) : GG X ad pc lv rest ce sl S M := by
  obtain ⟨p, l', e, R', s, m, args, below, meth, c, Z', A, Q, nL⟩ := X
  obtain ⟨rfl, rfl, rfl, ⟨hx, hb, hml, hown, hts⟩, hA, hE, hlk, htr⟩ := F
  intro H locs ls hL hP hD hS
  exact lv_aload_n hx hb d rfl (hL.at hl) (k H locs ls hL hP hD hS)
theorem G_aload (F : fx_F X l Z R own cc) {i : Nat} {x : Nat} (d : decode cc pc = .ok (.aload i, 2)) (hl : lv[i]? = some (some (.ref x))) (k : GG X ad (pc + 2) lv (.ref x :: rest) ce sl S M) : GG X ad pc lv rest ce sl S M := by
  obtain ⟨p, l', e, R', s, m, args, below, meth, c, Z', A, Q, nL⟩ := X
  obtain ⟨rfl, rfl, rfl, ⟨hx, hb, hml, hown, hts⟩, hA, hE, hlk, htr⟩ := F
  intro H locs ls hL hP hD hS
  exact lv_aload hx hb d (hL.at hl) (k H locs ls hL hP hD hS)
theorem G_dload (F : fx_F X l Z R own cc) {i : Nat} {x : UInt64} (d : decode cc pc = .ok (.dload i, 2)) (hl : lv[i]? = some (some (.double x))) (k : GG X ad (pc + 2) lv (.double x :: rest) ce sl S M) : GG X ad pc lv rest ce sl S M := by
  obtain ⟨p, l', e, R', s, m, args, below, meth, c, Z', A, Q, nL⟩ := X
  obtain ⟨rfl, rfl, rfl, ⟨hx, hb, hml, hown, hts⟩, hA, hE, hlk, htr⟩ := F
  intro H locs ls hL hP hD hS
  exact lv_dload hx hb d (hL.at hl) (k H locs ls hL hP hD hS)
theorem G_istore_n (F : fx_F X l Z R own cc) {n : Fin 4} {x : Int32} (i : Nat) {lv' : List (Option Value)} (d : decode cc pc = .ok (.istore_n n, 1)) (hi : (n : Nat) = i) (hl : lv.set i (some (.int x)) = lv') (hc : fx_c1 lv i = true) (hn : i < lv.length) (k : GG X ad (pc + 1) lv' rest ce sl S M) : GG X ad pc lv (.int x :: rest) ce sl S M := by
  obtain ⟨p, l', e, R', s, m, args, below, meth, c, Z', A, Q, nL⟩ := X
  obtain ⟨rfl, rfl, rfl, ⟨hx, hb, hml, hown, hts⟩, hA, hE, hlk, htr⟩ := F
  intro H locs ls hL hP hD hS
  subst hl
  exact lv_istore_n hx hb d hi hL.1 (Nat.lt_of_lt_of_le hn hL.2) rfl (fun ls' h => k H locs ls' (fx_L.set1 hc hn hL.2 h) hP hD hS)
theorem G_istore (F : fx_F X l Z R own cc) {i : Nat} {x : Int32} {lv' : List (Option Value)} (d : decode cc pc = .ok (.istore i, 2)) (hl : lv.set i (some (.int x)) = lv') (hc : fx_c1 lv i = true) (hn : i < lv.length) (k : GG X ad (pc + 2) lv' rest ce sl S M) : GG X ad pc lv (.int x :: rest) ce sl S M := by
  obtain ⟨p, l', e, R', s, m, args, below, meth, c, Z', A, Q, nL⟩ := X
  obtain ⟨rfl, rfl, rfl, ⟨hx, hb, hml, hown, hts⟩, hA, hE, hlk, htr⟩ := F
  intro H locs ls hL hP hD hS
  subst hl
  exact lv_istore hx hb d hL.1 (Nat.lt_of_lt_of_le hn hL.2) rfl (fun ls' h => k H locs ls' (fx_L.set1 hc hn hL.2 h) hP hD hS)
theorem G_astore_n (F : fx_F X l Z R own cc) {n : Fin 4} {x : Nat} (i : Nat) {lv' : List (Option Value)} (d : decode cc pc = .ok (.astore_n n, 1)) (hi : (n : Nat) = i) (hl : lv.set i (some (.ref x)) = lv') (hc : fx_c1 lv i = true) (hn : i < lv.length) (k : GG X ad (pc + 1) lv' rest ce sl S M) : GG X ad pc lv (.ref x :: rest) ce sl S M := by
  obtain ⟨p, l', e, R', s, m, args, below, meth, c, Z', A, Q, nL⟩ := X
  obtain ⟨rfl, rfl, rfl, ⟨hx, hb, hml, hown, hts⟩, hA, hE, hlk, htr⟩ := F
  intro H locs ls hL hP hD hS
  subst hl
  exact lv_astore_n hx hb d hi hL.1 (Nat.lt_of_lt_of_le hn hL.2) rfl (fun ls' h => k H locs ls' (fx_L.set1 hc hn hL.2 h) hP hD hS)
theorem G_astore (F : fx_F X l Z R own cc) {i : Nat} {x : Nat} {lv' : List (Option Value)} (d : decode cc pc = .ok (.astore i, 2)) (hl : lv.set i (some (.ref x)) = lv') (hc : fx_c1 lv i = true) (hn : i < lv.length) (k : GG X ad (pc + 2) lv' rest ce sl S M) : GG X ad pc lv (.ref x :: rest) ce sl S M := by
  obtain ⟨p, l', e, R', s, m, args, below, meth, c, Z', A, Q, nL⟩ := X
  obtain ⟨rfl, rfl, rfl, ⟨hx, hb, hml, hown, hts⟩, hA, hE, hlk, htr⟩ := F
  intro H locs ls hL hP hD hS
  subst hl
  exact lv_astore hx hb d hL.1 (Nat.lt_of_lt_of_le hn hL.2) rfl (fun ls' h => k H locs ls' (fx_L.set1 hc hn hL.2 h) hP hD hS)
theorem G_dstore (F : fx_F X l Z R own cc) {i : Nat} {x : UInt64} {lv' : List (Option Value)} (d : decode cc pc = .ok (.dstore i, 2)) (hl : (lv.set i (some (.double x))).set (i + 1) none = lv') (hc : fx_c1 lv i = true) (hn : i + 1 < lv.length) (k : GG X ad (pc + 2) lv' rest ce sl S M) : GG X ad pc lv (.double x :: rest) ce sl S M := by
  obtain ⟨p, l', e, R', s, m, args, below, meth, c, Z', A, Q, nL⟩ := X
  obtain ⟨rfl, rfl, rfl, ⟨hx, hb, hml, hown, hts⟩, hA, hE, hlk, htr⟩ := F
  intro H locs ls hL hP hD hS
  subst hl
  exact lv_dstore hx hb d hL.1 (Nat.lt_of_lt_of_le hn hL.2) rfl (fun ls' h => k H locs ls' (fx_L.set2 hc hn hL.2 h) hP hD hS)
theorem G_iinc (F : fx_F X l Z R own cc) {i : Nat} {n : Int} {x : Int32} (y : Int32) {lv' : List (Option Value)} (d : decode cc pc = .ok (.iinc i n, 3)) (hy : Int32.ofInt n = y) (hk : lv[i]? = some (some (.int x))) (hl : lv.set i (some (.int (x + y))) = lv') (hc : fx_c1 lv i = true) (k : GG X ad (pc + 3) lv' rest ce sl S M) : GG X ad pc lv rest ce sl S M := by
  obtain ⟨p, l', e, R', s, m, args, below, meth, c, Z', A, Q, nL⟩ := X
  obtain ⟨rfl, rfl, rfl, ⟨hx, hb, hml, hown, hts⟩, hA, hE, hlk, htr⟩ := F
  intro H locs ls hL hP hD hS
  subst hl
  have hn : i < lv.length := (List.getElem?_eq_some_iff.mp hk).1
  obtain ⟨j, hj⟩ := List.getElem?_of_mem (fx_prs_mem (b := 0) (q := (i, Value.int x)).mpr ⟨i, hk, by simp⟩)
  exact lv_iinc hx hb d hL.1 hj (by rw [hy]) (Nat.lt_of_lt_of_le hn hL.2) rfl (fun ls' h => k H locs ls' (fx_L.set1 hc hn hL.2 h) hP hD hS)
theorem G_if_eq (F : fx_F X l Z R own cc) {x : Int32} {off : Int} {tgt : Nat} (d : decode cc pc = .ok (.ifCond .eq off, 3)) (ht : (pc : Int) + off = (tgt : Int)) (kt : x = 0 → GG X ad tgt lv rest ce sl S M) (kf : ¬ x = 0 → GG X ad (pc + 3) lv rest ce sl S M)  : GG X ad pc lv (.int x :: rest) ce sl S M := by
  obtain ⟨p, l', e, R', s, m, args, below, meth, c, Z', A, Q, nL⟩ := X
  obtain ⟨rfl, rfl, rfl, ⟨hx, hb, hml, hown, hts⟩, hA, hE, hlk, htr⟩ := F
  intro H locs ls hL hP hD hS
  exact lv_if_eq hx hb d ht (fun h => kt h H locs ls hL hP hD hS) (fun h => kf h H locs ls hL hP hD hS)
theorem G_if_ne (F : fx_F X l Z R own cc) {x : Int32} {off : Int} {tgt : Nat} (d : decode cc pc = .ok (.ifCond .ne off, 3)) (ht : (pc : Int) + off = (tgt : Int)) (kt : ¬ x = 0 → GG X ad tgt lv rest ce sl S M) (kf : x = 0 → GG X ad (pc + 3) lv rest ce sl S M)  : GG X ad pc lv (.int x :: rest) ce sl S M := by
  obtain ⟨p, l', e, R', s, m, args, below, meth, c, Z', A, Q, nL⟩ := X
  obtain ⟨rfl, rfl, rfl, ⟨hx, hb, hml, hown, hts⟩, hA, hE, hlk, htr⟩ := F
  intro H locs ls hL hP hD hS
  exact lv_if_ne hx hb d ht (fun h => kt h H locs ls hL hP hD hS) (fun h => kf h H locs ls hL hP hD hS)
theorem G_if_lt (F : fx_F X l Z R own cc) {x : Int32} {off : Int} {tgt : Nat} (d : decode cc pc = .ok (.ifCond .lt off, 3)) (ht : (pc : Int) + off = (tgt : Int)) (kt : x < 0 → GG X ad tgt lv rest ce sl S M) (kf : ¬ x < 0 → GG X ad (pc + 3) lv rest ce sl S M)  : GG X ad pc lv (.int x :: rest) ce sl S M := by
  obtain ⟨p, l', e, R', s, m, args, below, meth, c, Z', A, Q, nL⟩ := X
  obtain ⟨rfl, rfl, rfl, ⟨hx, hb, hml, hown, hts⟩, hA, hE, hlk, htr⟩ := F
  intro H locs ls hL hP hD hS
  exact lv_if_lt hx hb d ht (fun h => kt h H locs ls hL hP hD hS) (fun h => kf h H locs ls hL hP hD hS)
theorem G_if_ge (F : fx_F X l Z R own cc) {x : Int32} {off : Int} {tgt : Nat} (d : decode cc pc = .ok (.ifCond .ge off, 3)) (ht : (pc : Int) + off = (tgt : Int)) (kt : 0 ≤ x → GG X ad tgt lv rest ce sl S M) (kf : ¬ 0 ≤ x → GG X ad (pc + 3) lv rest ce sl S M)  : GG X ad pc lv (.int x :: rest) ce sl S M := by
  obtain ⟨p, l', e, R', s, m, args, below, meth, c, Z', A, Q, nL⟩ := X
  obtain ⟨rfl, rfl, rfl, ⟨hx, hb, hml, hown, hts⟩, hA, hE, hlk, htr⟩ := F
  intro H locs ls hL hP hD hS
  exact lv_if_ge hx hb d ht (fun h => kt h H locs ls hL hP hD hS) (fun h => kf h H locs ls hL hP hD hS)
theorem G_if_gt (F : fx_F X l Z R own cc) {x : Int32} {off : Int} {tgt : Nat} (d : decode cc pc = .ok (.ifCond .gt off, 3)) (ht : (pc : Int) + off = (tgt : Int)) (kt : 0 < x → GG X ad tgt lv rest ce sl S M) (kf : ¬ 0 < x → GG X ad (pc + 3) lv rest ce sl S M)  : GG X ad pc lv (.int x :: rest) ce sl S M := by
  obtain ⟨p, l', e, R', s, m, args, below, meth, c, Z', A, Q, nL⟩ := X
  obtain ⟨rfl, rfl, rfl, ⟨hx, hb, hml, hown, hts⟩, hA, hE, hlk, htr⟩ := F
  intro H locs ls hL hP hD hS
  exact lv_if_gt hx hb d ht (fun h => kt h H locs ls hL hP hD hS) (fun h => kf h H locs ls hL hP hD hS)
theorem G_if_le (F : fx_F X l Z R own cc) {x : Int32} {off : Int} {tgt : Nat} (d : decode cc pc = .ok (.ifCond .le off, 3)) (ht : (pc : Int) + off = (tgt : Int)) (kt : x ≤ 0 → GG X ad tgt lv rest ce sl S M) (kf : ¬ x ≤ 0 → GG X ad (pc + 3) lv rest ce sl S M)  : GG X ad pc lv (.int x :: rest) ce sl S M := by
  obtain ⟨p, l', e, R', s, m, args, below, meth, c, Z', A, Q, nL⟩ := X
  obtain ⟨rfl, rfl, rfl, ⟨hx, hb, hml, hown, hts⟩, hA, hE, hlk, htr⟩ := F
  intro H locs ls hL hP hD hS
  exact lv_if_le hx hb d ht (fun h => kt h H locs ls hL hP hD hS) (fun h => kf h H locs ls hL hP hD hS)
theorem G_icmp_eq (F : fx_F X l Z R own cc) {x y : Int32} {off : Int} {tgt : Nat} (d : decode cc pc = .ok (.if_icmp .eq off, 3)) (ht : (pc : Int) + off = (tgt : Int)) (kt : x = y → GG X ad tgt lv rest ce sl S M) (kf : ¬ x = y → GG X ad (pc + 3) lv rest ce sl S M)  : GG X ad pc lv (.int y :: .int x :: rest) ce sl S M := by
  obtain ⟨p, l', e, R', s, m, args, below, meth, c, Z', A, Q, nL⟩ := X
  obtain ⟨rfl, rfl, rfl, ⟨hx, hb, hml, hown, hts⟩, hA, hE, hlk, htr⟩ := F
  intro H locs ls hL hP hD hS
  exact lv_icmp_eq hx hb d ht (fun h => kt h H locs ls hL hP hD hS) (fun h => kf h H locs ls hL hP hD hS)
theorem G_icmp_ne (F : fx_F X l Z R own cc) {x y : Int32} {off : Int} {tgt : Nat} (d : decode cc pc = .ok (.if_icmp .ne off, 3)) (ht : (pc : Int) + off = (tgt : Int)) (kt : ¬ x = y → GG X ad tgt lv rest ce sl S M) (kf : x = y → GG X ad (pc + 3) lv rest ce sl S M)  : GG X ad pc lv (.int y :: .int x :: rest) ce sl S M := by
  obtain ⟨p, l', e, R', s, m, args, below, meth, c, Z', A, Q, nL⟩ := X
  obtain ⟨rfl, rfl, rfl, ⟨hx, hb, hml, hown, hts⟩, hA, hE, hlk, htr⟩ := F
  intro H locs ls hL hP hD hS
  exact lv_icmp_ne hx hb d ht (fun h => kt h H locs ls hL hP hD hS) (fun h => kf h H locs ls hL hP hD hS)
theorem G_icmp_lt (F : fx_F X l Z R own cc) {x y : Int32} {off : Int} {tgt : Nat} (d : decode cc pc = .ok (.if_icmp .lt off, 3)) (ht : (pc : Int) + off = (tgt : Int)) (kt : x < y → GG X ad tgt lv rest ce sl S M) (kf : ¬ x < y → GG X ad (pc + 3) lv rest ce sl S M)  : GG X ad pc lv (.int y :: .int x :: rest) ce sl S M := by
  obtain ⟨p, l', e, R', s, m, args, below, meth, c, Z', A, Q, nL⟩ := X
  obtain ⟨rfl, rfl, rfl, ⟨hx, hb, hml, hown, hts⟩, hA, hE, hlk, htr⟩ := F
  intro H locs ls hL hP hD hS
  exact lv_icmp_lt hx hb d ht (fun h => kt h H locs ls hL hP hD hS) (fun h => kf h H locs ls hL hP hD hS)
theorem G_icmp_ge (F : fx_F X l Z R own cc) {x y : Int32} {off : Int} {tgt : Nat} (d : decode cc pc = .ok (.if_icmp .ge off, 3)) (ht : (pc : Int) + off = (tgt : Int)) (kt : y ≤ x → GG X ad tgt lv rest ce sl S M) (kf : ¬ y ≤ x → GG X ad (pc + 3) lv rest ce sl S M)  : GG X ad pc lv (.int y :: .int x :: rest) ce sl S M := by
  obtain ⟨p, l', e, R', s, m, args, below, meth, c, Z', A, Q, nL⟩ := X
  obtain ⟨rfl, rfl, rfl, ⟨hx, hb, hml, hown, hts⟩, hA, hE, hlk, htr⟩ := F
  intro H locs ls hL hP hD hS
  exact lv_icmp_ge hx hb d ht (fun h => kt h H locs ls hL hP hD hS) (fun h => kf h H locs ls hL hP hD hS)
theorem G_icmp_gt (F : fx_F X l Z R own cc) {x y : Int32} {off : Int} {tgt : Nat} (d : decode cc pc = .ok (.if_icmp .gt off, 3)) (ht : (pc : Int) + off = (tgt : Int)) (kt : y < x → GG X ad tgt lv rest ce sl S M) (kf : ¬ y < x → GG X ad (pc + 3) lv rest ce sl S M)  : GG X ad pc lv (.int y :: .int x :: rest) ce sl S M := by
  obtain ⟨p, l', e, R', s, m, args, below, meth, c, Z', A, Q, nL⟩ := X
  obtain ⟨rfl, rfl, rfl, ⟨hx, hb, hml, hown, hts⟩, hA, hE, hlk, htr⟩ := F
  intro H locs ls hL hP hD hS
  exact lv_icmp_gt hx hb d ht (fun h => kt h H locs ls hL hP hD hS) (fun h => kf h H locs ls hL hP hD hS)
theorem G_icmp_le (F : fx_F X l Z R own cc) {x y : Int32} {off : Int} {tgt : Nat} (d : decode cc pc = .ok (.if_icmp .le off, 3)) (ht : (pc : Int) + off = (tgt : Int)) (kt : x ≤ y → GG X ad tgt lv rest ce sl S M) (kf : ¬ x ≤ y → GG X ad (pc + 3) lv rest ce sl S M)  : GG X ad pc lv (.int y :: .int x :: rest) ce sl S M := by
  obtain ⟨p, l', e, R', s, m, args, below, meth, c, Z', A, Q, nL⟩ := X
  obtain ⟨rfl, rfl, rfl, ⟨hx, hb, hml, hown, hts⟩, hA, hE, hlk, htr⟩ := F
  intro H locs ls hL hP hD hS
  exact lv_icmp_le hx hb d ht (fun h => kt h H locs ls hL hP hD hS) (fun h => kf h H locs ls hL hP hD hS)
theorem G_goto (F : fx_F X l Z R own cc) {off : Int} {tgt : Nat} (d : decode cc pc = .ok (.goto off, 3)) (ht : (pc : Int) + off = (tgt : Int)) (k : GG X ad tgt lv rest ce sl S M) : GG X ad pc lv rest ce sl S M := by
  obtain ⟨p, l', e, R', s, m, args, below, meth, c, Z', A, Q, nL⟩ := X
  obtain ⟨rfl, rfl, rfl, ⟨hx, hb, hml, hown, hts⟩, hA, hE, hlk, htr⟩ := F
  intro H locs ls hL hP hD hS
  exact lv_goto hx hb d ht (k H locs ls hL hP hD hS)
theorem G_tableOut (F : fx_F X l Z R own cc) {dflt lo hi : Int} {offs : Array Int} {len : Nat} {x : Int32} {tgt : Nat} (d : decode cc pc = .ok (.tableswitch dflt lo hi offs, len)) (h : x.toInt < lo ∨ hi < x.toInt) (ht : (pc : Int) + dflt = (tgt : Int)) (k : GG X ad tgt lv rest ce sl S M) : GG X ad pc lv (.int x :: rest) ce sl S M := by
  obtain ⟨p, l', e, R', s, m, args, below, meth, c, Z', A, Q, nL⟩ := X
  obtain ⟨rfl, rfl, rfl, ⟨hx, hb, hml, hown, hts⟩, hA, hE, hlk, htr⟩ := F
  intro H locs ls hL hP hD hS
  exact lv_tableOut hx hb d h ht (k H locs ls hL hP hD hS)
theorem G_tableIn (F : fx_F X l Z R own cc) {dflt lo hi : Int} {offs : Array Int} {len : Nat} {x : Int32} {off : Int} {tgt : Nat} (d : decode cc pc = .ok (.tableswitch dflt lo hi offs, len)) (h1 : ¬ x.toInt < lo) (h2 : ¬ hi < x.toInt) (ho : offs[(x.toInt - lo).toNat]? = some off) (ht : (pc : Int) + off = (tgt : Int)) (k : GG X ad tgt lv rest ce sl S M) : GG X ad pc lv (.int x :: rest) ce sl S M := by
  obtain ⟨p, l', e, R', s, m, args, below, meth, c, Z', A, Q, nL⟩ := X
  obtain ⟨rfl, rfl, rfl, ⟨hx, hb, hml, hown, hts⟩, hA, hE, hlk, htr⟩ := F
  intro H locs ls hL hP hD hS
  exact lv_tableIn hx hb d h1 h2 ho ht (k H locs ls hL hP hD hS)
theorem G_lookup (F : fx_F X l Z R own cc) {dflt : Int} {ps : Array (Int × Int)} {len : Nat} {x : Int32} {off : Int} {tgt : Nat} (d : decode cc pc = .ok (.lookupswitch dflt ps, len)) (hp : (ps.toList.zip (ps.toList.drop 1)).all (fun (a, next) => a.1 < next.1) = true) (ho : Op.lookupswitch.offset ps.toList dflt x.toInt = off) (ht : (pc : Int) + off = (tgt : Int)) (k : GG X ad tgt lv rest ce sl S M) : GG X ad pc lv (.int x :: rest) ce sl S M := by
  obtain ⟨p, l', e, R', s, m, args, below, meth, c, Z', A, Q, nL⟩ := X
  obtain ⟨rfl, rfl, rfl, ⟨hx, hb, hml, hown, hts⟩, hA, hE, hlk, htr⟩ := F
  intro H locs ls hL hP hD hS
  exact lv_lookup hx hb d hp ho ht (k H locs ls hL hP hD hS)
end FxR
