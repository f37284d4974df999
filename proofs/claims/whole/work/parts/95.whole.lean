/-! THE CLAIM OUT OF ONE WALK OF THE LAW'S BODY. Your part is whole_start (and what it stands on); all else here is the same for every law, but numbers. -/
def R_law : String := "BlockLayoutLaw"
def lw_P (b : Addr) (xs : List Int32) (args : Array Value) (s : State) : Prop := args = #[.ref b] ∧ s.IntsAt b xs ∧ xs.length ≤ 2560 ∧ (Jvm.Cond.and given_1 narrow_1).before args s = true
/-- what a walk over the start with the record d0 says of its end, said of the start itself -/
theorem lw_closed {s t : State} {o : Outcome} {d0 : Drawn} {L : List Loc} {k n : Nat} (hd0 : s.drawn.sameBut d0 lw_cs) (hv : ∃ v, o = .returned v) (hW : (s.setDrawn d0).WarmedH t.vm) (hs : (s.setDrawn d0).sameButNew ({ t with vm := s.vm } : State) L k n) : State.butDraws s t lw_cs (fun t1 => Framed s o t1 L k n) := by
  have h2 : t.drawn = d0 := congrArg State.drawn hs.1
  refine ⟨⟨hv, hW, State.sameButNew.setDrawn hs s.drawn⟩, ?_, by decide⟩
  rw [h2]
  exact hd0
def lw_Q (_ : Array Value) (s : State) (o : Outcome) (t : State) : Prop := o = .returned (some (.int 1)) ∧ State.butDraws s t lw_cs (fun t1 => Framed s o t1 [] 603072 7202922)
def lw_Z (below : List Frame) (a : Array Value) (s : State) : State → Prop := fun t => ∃ o, t.status = .running ∧ Ended t below o ∧ lw_Q a s o t
/-- the law's own end, with 1 on the stack, nothing written that was there before, its room as the claim has it; d0: the record of draws at this point (at the entry s.drawn: begin with 'refine W.base ?_' and 'have hd0 := Drawn.sameBut.refl s.drawn lw_cs') -/
theorem lw_ret {p : Program} {l : Launch} {e : Env} {s : State} {m : MethodId} {below : List Frame} {meth : Method} {c : Code} {b : Nat} {d0 : Drawn} (hd0 : s.drawn.sameBut d0 lw_cs) (hx : p.tables.exec = Jvm.exec) (hb : c.code = code) (hr : meth.sig.returnType = ret) (hlocks : meth.locks = false) {pc : Nat} {H : Heap} {ls : Array Slot} (hdg : decode code pc = .ok (.ireturn, 1)) : W p l e room_1 (s.setDrawn d0) m #[Value.ref b] below meth c H [] 603072 7202922 (lw_Z below #[Value.ref b] s) (F0 m pc ls [.int 1]) := by
  intro T hT X
  obtain ⟨fs, hret, hrun, hended, hW, hframe⟩ := X.leave (v := some (.int 1)) (hlocks := hlocks) (fun h => by rw [hr] at h; cases h)
  have hmeth' : T.vm.method? m = some meth := X.method'
  refine ⟨T.setFrames fs, ?_, .returned (some (.int 1)), hrun, hended, rfl, lw_closed hd0 ⟨_, rfl⟩ hW hframe⟩
  jvm_step X.here [X.here.top, hx, hb, hdg, hmeth', hr, ret, narrow_b1]
  (try refine ⟨rfl, ?_⟩); (try refine ⟨rfl, ?_⟩)
  first | (intro acts; rw [hret _ acts rfl rfl rfl]) | rw [hret _ _ rfl rfl rfl]
  exact Steps.refl _
/-- what holds at the law's entry: the machine, the code, the tables' words (any of lw_tbl by 'hts w (by decide +kernel)'), the script of L ints xs at the cell b, what the Statement gives of the start (any of its parts by flat_of_before) -/
def lw_At (p : Program) (s : State) (m : MethodId) (meth : Method) (c : Code) (b L : Nat) (xs : Nat → Int32) : Prop :=
  p.tables.exec = Jvm.exec ∧ c.code = code ∧ meth.sig.returnType = ret ∧ c.maxLocals = 9 ∧ s.vm.findClass R_law = some m.cls ∧ (∀ w ∈ lw_tbl, w.before #[Value.ref b] s = true) ∧ va_X b L xs s s.heap ∧ b < s.heap.size ∧ meth.locks = false ∧ (Jvm.Cond.and given_1 narrow_1).before #[Value.ref b] s = true
theorem st_tr {l : Launch} (h : l.flags = flags0) : l.stackTraces = false := by
  unfold Launch.stackTraces
  rw [h]
  decide +kernel
set_option maxRecDepth 20000 in
theorem law_start {X : fx_C} {l : Launch} {Z : fx_Z} {b n : Nat} {xs : Nat → Int32} (F : fx_F X l Z room_1 RL cL_law) (hl : l.stackTraces = false) (hs : fx_Scr X b n xs) (hn : n ≤ 2560) (ad : Nat → Nat) (M : fx_M) (fin : ∀ (ad : Nat → Nat) (sw : Bool) (M : fx_M) (cx sx : Nat) (lv : List (Option Value)), cx ≤ 603072 → sx ≤ 7202922 → GG X ad 1634 lv [.int 1] cx sx (w_S sw) M) : GG X ad 0 [some (.ref b), none, none, none, none, none, none, none, none] [] 0 0 [] M := by
  refine G_new F ck_7 [some none, some none, some none, some none, some none, some none, some none, none] dL_law_0 (fx_in 149 (by decide +kernel) rfl) (fx_in 150 (by decide +kernel) rfl) (fx_in 125 (by decide +kernel) rfl) (sh_X7 _) (by intro k h; simp at h) (fx_wf_of rfl) ⟨Nat.le_of_ble_eq_true rfl, Nat.le_of_ble_eq_true rfl⟩ (fun a1 h1 => ?_)
  show GG X a1 3 [some (.ref b), none, none, none, none, none, none, none, none] [.ref (a1 0)] 1 8 [.inl (7, [some none, some none, some none, some none, some none, some none, some none, none])] (fx_z M 0)
  refine G_dup F dL_law_3 rfl ?_
  refine G_callI F (k := 0) mi_L_96 dL_law_4 (i_X7 hl a1 (fx_z M 0)) (As := []) rfl rfl (Nat.le_of_ble_eq_true rfl) ⟨Nat.le_of_ble_eq_true rfl, Nat.le_of_ble_eq_true rfl, Nat.le_of_ble_eq_true rfl, Nat.le_of_ble_eq_true rfl⟩ (fun _ _ q => q.elim) (fun v2 a2 S2 M2 q => ?_)
  obtain ⟨rfl, h2, rfl, hC⟩ := q
  rw [← h2]
  show GG X a2 7 [some (.ref b), none, none, none, none, none, none, none, none] [.ref (a2 0)] 37 1663 (c_C false) M2
  refine G_astore_n F 1 dL_law_7 rfl rfl rfl (Nat.le_of_ble_eq_true rfl) ?_
  simp only [List.set_cons_zero, List.set_cons_succ]
  refine G_new F ck_8 [none, none, none, none, some none, some none, some none, some none, some none, some none, some none, some none, some none, none, some none, some none, some none, none, none, some none, some none, some none, some none, some none, some none, none, none, none, some none, some none, some none, some none, some none, none, none, some none, some none, none, some none, none, none, none, none, none, none, none, none] dL_law_8 (fx_in 1196 (by decide +kernel) rfl) (fx_in 1197 (by decide +kernel) rfl) (fx_in 133 (by decide +kernel) rfl) (sh_X8 _) (by intro k h; simp at h) (fx_wf_of rfl) ⟨Nat.le_of_ble_eq_true rfl, Nat.le_of_ble_eq_true rfl⟩ (fun a3 h3 => ?_)
  rw [← h3 0 (by decide)]
  show GG X a3 11 [some (.ref b), some (.ref (a3 0)), none, none, none, none, none, none, none] [.ref (a3 37)] 38 1710 [.inl (7, [some (some 1), some (some 10), some (some 12), some (some 20), some (some 27), some (some 31), some (some 35), none]), .inl (6, [some (some 2), some (some 3), some (some 4), some (some 5), some (some 6), some (some 7), some (some 8), some (some 9), none, none]), .inr (.int, 16), .inr (.int, 16), .inr (.int, 16), .inr (.int, 16), .inr (.int, 16), .inr (.int, 16), .inr (.int, 16), .inr (.int, 16), .inl (5, [some (some 11), none, none]), .inr (.int, 16), .inl (4, [some (some 1), some (some 10), some (some 13), some (some 14), some (some 15), some (some 16), some (some 17), some (some 18), some (some 19), none, none]), .inr (.int, 16), .inr (.int, 16), .inr (.int, 16), .inr (.int, 16), .inr (.int, 16), .inr (.int, 16), .inr (.int, 16), .inl (0, [some (some 1), some (some 10), some (some 21), none, some (some 22), some (some 23), some (some 24), some (some 25), none, none, none, some (some 26), none]), .inr (.boolean, 16), .inr (.int, 16), .inr (.int, 16), .inr (.int, 16), .inr (.boolean, 16), .inr (.int, 7), .inl (3, [some (some 1), some (some 28), some (some 29), some (some 30), none]), .inr (.int, 500), .inr (.int, 500), .inr (.int, 16), .inl (1, [some (some 32), some (some 33), some (some 34), none, none]), .inr (.int, 160), .inr (.int, 10), .inr (.int, 10), .inl (2, [some (some 36), none, none, none, none, none, none, none, none]), .inr (.char, 60), .inl (8, [none, none, none, none, some none, some none, some none, some none, some none, some none, some none, some none, some none, none, some none, some none, some none, none, none, some none, some none, some none, some none, some none, some none, none, none, none, some none, some none, some none, some none, some none, none, none, some none, some none, none, some none, none, none, none, none, none, none, none, none])] (fx_z M2 37)
  refine G_dup F dL_law_11 rfl ?_
  refine G_callI F (k := 37) mi_L_99 dL_law_12 (i_X8 hl a3 (fx_z M2 37) (if_pos rfl)) (As := []) rfl rfl (Nat.le_of_ble_eq_true rfl) ⟨Nat.le_of_ble_eq_true rfl, Nat.le_of_ble_eq_true rfl, Nat.le_of_ble_eq_true rfl, Nat.le_of_ble_eq_true rfl⟩ (fun _ _ q => q.elim) (fun v4 a4 S4 M4 q => ?_)
  obtain ⟨rfl, h4, rfl, hk, hM⟩ := q
  rw [← h4 0 (by decide), ← h4 37 (by decide)]
  show GG X a4 15 [some (.ref b), some (.ref (a4 0)), none, none, none, none, none, none, none] [.ref (a4 37)] 64 3738 (c_C false ++ (m_C ++ [])) M4
  refine G_astore_n F 2 dL_law_15 rfl rfl rfl (Nat.le_of_ble_eq_true rfl) ?_
  simp only [List.set_cons_zero, List.set_cons_succ]
  refine G_iconst (v := 1) F dL_law_16 rfl ?_
  refine G_newa_long F dL_law_17 (fx_in 1679 (by decide +kernel) rfl) (by decide) (N := 1) (by decide) (Nat.le_of_ble_eq_true rfl) (fx_wf_of rfl) ⟨Nat.le_of_ble_eq_true rfl, Nat.le_of_ble_eq_true rfl⟩ (fun a5 h5 => ?_)
  rw [← h5 0 (by decide), ← h5 37 (by decide)]
  show GG X a5 19 [some (.ref b), some (.ref (a5 0)), some (.ref (a5 37)), none, none, none, none, none, none] [.ref (a5 64)] 65 3739 (c_C false ++ (m_C ++ [.inr (.long, 1)])) (fx_z M4 64)
  refine G_astore_n F 3 dL_law_19 rfl rfl rfl (Nat.le_of_ble_eq_true rfl) ?_
  simp only [List.set_cons_zero, List.set_cons_succ]
  refine G_iconst (v := 1) F dL_law_20 rfl ?_
  refine G_newa_double F dL_law_21 (fx_in 1680 (by decide +kernel) rfl) (by decide) (N := 1) (by decide) (Nat.le_of_ble_eq_true rfl) (fx_wf_of rfl) ⟨Nat.le_of_ble_eq_true rfl, Nat.le_of_ble_eq_true rfl⟩ (fun a6 h6 => ?_)
  rw [← h6 0 (by decide), ← h6 37 (by decide), ← h6 64 (by decide)]
  show GG X a6 23 [some (.ref b), some (.ref (a6 0)), some (.ref (a6 37)), some (.ref (a6 64)), none, none, none, none, none] [.ref (a6 65)] 66 3740 (w_S false) (fx_z (fx_z M4 64) 65)
  refine G_astore F dL_law_23 rfl rfl (Nat.le_of_ble_eq_true rfl) ?_
  simp only [List.set_cons_zero, List.set_cons_succ]
  refine G_iconst (v := nI 0) F dL_law_25 (by decide) ?_
  refine G_istore F dL_law_26 rfl rfl (Nat.le_of_ble_eq_true rfl) ?_
  simp only [List.set_cons_zero, List.set_cons_succ]
  refine law_loop F hl hs hn (fin a6) n 0 0 false _ rfl rfl (by omega) (Iv_0 (hC.keep (fun a h => ?_)) (hM.keep (fun a g1 g2 => ?_)))
  · unfold fx_z
    rw [if_neg (by omega), if_neg (by omega), hk a (Or.inl h)]
    unfold fx_z
    rw [if_neg (by omega)]
  · unfold fx_z
    rw [if_neg (by omega), if_neg (by omega)]
/-- from the entry, for every script of at most 2560 ints, the law comes to its end with true -/
theorem whole_start {p : Program} {e : Env} {s : State} {m : MethodId} {below : List Frame} {meth : Method} {c : Code} (l : Launch) (hflags : l.flags = flags0) {b L : Nat} {xs : Nat → Int32} (hL : L ≤ 2560) (C0 : lw_At p s m meth c b L xs) : W p l e room_1 s m #[Value.ref b] below meth c s.heap [] 0 0 (lw_Z below #[Value.ref b] s) (entryFrame m ([Value.ref b] : List Value).toArray 9) := by
  obtain ⟨hx, hb, hr, hml, hown, hts, hX, hbl, hlocks, hgv⟩ := id C0
  obtain ⟨Z, hE⟩ := st_E hts hgv
  have hl := st_tr hflags
  have F : fx_F (p, l, e, room_1, s, m, #[Value.ref b], below, meth, c, Z, (fun q => s.heap.size ≤ q), lw_Z below #[Value.ref b] s, 9) l Z room_1 RL cL_law := ⟨rfl, rfl, rfl, ⟨hx, hb, hml, hown, fun w h => hts w (List.mem_filter.mp h).1⟩, fun _ h => h, hE, hlocks, hl⟩
  have hs : fx_Scr (p, l, e, room_1, s, m, #[Value.ref b], below, meth, c, Z, (fun q => s.heap.size ≤ q), lw_Z below #[Value.ref b] s, 9) b L xs := ⟨hX, hbl, Nat.not_le.mpr hbl⟩
  have K := law_start F hl hs hL (fun _ => 0) (fun _ _ => 0) (fun ad sw M cx sx lv h1 h2 H locs ls hL hP hD hS => by
    refine W.widen h1 h2 ?_
    refine va_forget hS.2.2 ?_
    exact W.base (lw_ret (Drawn.sameBut.refl s.drawn lw_cs) hx hb hr hlocks dL_law_1634))
  rw [lg_entry_eq]
  exact K s.heap [] _ (fx_L_entry (av := [.ref b]) (n := 9) (by simp [Value.category]) (Nat.le_of_ble_eq_true rfl)) (fun k q h => by simp [fx_w] at h) ⟨fun i j p q h => by simp [fx_w] at h, fun k q h => by simp [fx_w] at h⟩ va_S.rf
set_option maxHeartbeats 4000000 in
theorem lw_walk (l : Launch) (hflags : l.flags = flags0) (b : Addr) (xs : List Int32) : MetFree l x (headSpec (Jvm.Cond.code x code maxLocals ret :: tables_1) room_1) (lw_P b xs) (fun _ _ _ _ _ => True) lw_Q := by
  refine MetFree.of_bodyS (code := code) (maxLocals := maxLocals) (ret := ret) (by decide) ?_ ?_
  · intro args s m h hn
    obtain ⟨meth, c, h1, h2, h3, h4, h5, h6, -, -⟩ := Cond.code_spec hn (atoms_spec (ws := Jvm.Cond.code x code maxLocals ret :: tables_1) h _ List.mem_cons_self)
    exact ⟨meth, c, h1, h2, h3, h4, h5, h6⟩
  · intro p e s m args below meth c s₁ B hml0 hP _
    obtain ⟨rfl, hx, hbd, hgv⟩ := hP
    obtain ⟨scr, harrAt, hlist, hof, hsmall⟩ := hx
    obtain ⟨hcb, hkn, -, -⟩ := State.arrayAt?_spec harrAt
    have hown : s.vm.findClass R_law = some m.cls := findClass_of_methodNamed B.named
    have hts0 : ∀ c ∈ (Jvm.Cond.code x code maxLocals ret :: tables_1), c.before #[Value.ref b] s = true := atoms_spec (ws := Jvm.Cond.code x code maxLocals ret :: tables_1) B.pre
    have hts : ∀ w ∈ lw_tbl, w.before #[Value.ref b] s = true := k2_hts_sels lw_privs (fun w hw => hts0 w (List.mem_cons_of_mem _ hw)) lw_privs_ok
    have hml : c.maxLocals = 9 := B.maxLocals_eq (hts0 _ List.mem_cons_self)
    have X₀ : Stand p l e room_1 s m #[Value.ref b] below meth c s₁ [] 0 0 := Stand.of_body B
    have hh0 : s₁.heap = s.heap := by rw [B.state]; rfl
    have hsz : scr.slots.size = xs.length := by rw [← Array.length_toList, hlist, List.length_map]
    have hval : ∀ j : Nat, j < xs.length → scr.slots[j]? = some (.int (xs.getD j 0)) := fun j hj => by
      rw [← Array.getElem?_toList, hlist]
      simp [hj]
    have hbl : b < s.heap.size := (Array.getElem?_eq_some_iff.mp hcb).1
    have hX : va_X b xs.length (fun j => xs.getD j 0) s s.heap := ⟨scr, hcb, hof, hkn, hsz, hval⟩
    have K : W p l e room_1 s m #[Value.ref b] below meth c s₁.heap [] 0 0 (lw_Z below #[Value.ref b] s) (entryFrame m ([Value.ref b] : List Value).toArray 9) := by
      rw [hh0]
      exact whole_start l hflags hbd ⟨B.exec, B.bytes, B.returns, hml, hown, hts, hX, hbl, B.notSynchronized, hgv⟩
    obtain ⟨t, a1, o, b1, b2, b3⟩ := K s₁ rfl X₀
    exact ⟨t, o, a1, b1, b2, b3⟩
theorem lw_pre_spec {args : Array Value} {s : State} (h : (Jvm.Cond.and given_1 narrow_1).before args s = true) (hr : rest_1_c.before args s = true) : ∃ (b : Addr) (xs : List Int32), lw_P b xs args s := by
  have hs := flat_of_before _ h
  have hq := flat_of_before _ hr
  have hc : (Cond.count 1).before args s = true := hs _ (by decide +kernel)
  have harr : (Cond.arrayOf (.arg 0) .int).before args s = true := hs _ (by decide +kernel)
  have hle : (Cond.le (.length (.arg 0)) (.int 2560)).before args s = true := hs _ (by decide +kernel)
  have hlen : (Cond.isInt (.length (.arg 0))).before args s = true := hq _ (by decide +kernel)
  have hall : (Cond.all (.arg 0) (.isInt (.elem (.arg 0) (.index 0)))).before args s = true := hq _ (by decide +kernel)
  obtain ⟨b, xs, hb, hx⟩ := State.ints_of_pre rfl harr hlen hall
  have hsm : xs.length < 2 ^ 31 := hx.choose_spec.2.2.2
  have hev : (Term.length (.arg 0)).eval args s none [] s = some (.int xs.length.toInt32) := hx.length_eval hb
  have hv := Cond.le_ints hev (show (Term.int 2560).eval args s none [] s = some (.int 2560) from rfl)
  have hd : xs.length.toInt32 ≤ 2560 := by
    simpa [Cond.before, Cond.holds, hv] using hle
  have hN : xs.length ≤ 2560 := (Int32.ofNat_le_ofNat hsm (by decide)).mp (show Int32.ofNat xs.length ≤ Int32.ofNat 2560 from hd)
  exact ⟨b, xs, Cond.one_arg hc (show args[0]? = some (.ref b) from hb), hx, hN, h⟩
theorem lw_comes (l : Launch) (hflags : l.flags = flags0) : Comes l x (Jvm.Cond.code x code maxLocals ret :: tables_1) room_1 (fun tb e args s => Calls_1 tb e args s ∧ rest_1 tb e args s ∧ Pre_1 tb e args s)
    (fun _ _ args s o t => lw_Q args s o t) := by
  intro p e ha hc hk s m args below hf hfit hheap happ hpre
  obtain ⟨b, xs, hP⟩ := lw_pre_spec hpre.2.2 hpre.2.1
  obtain ⟨k, o, h1, h2, h3, hQ⟩ := lw_walk l hflags b xs p e ha hc hk s m args below hf ((Spec.applies_iff_loose hf).mp happ).1 hP trivial
  exact ⟨k, o, h1, h2, h3, hQ⟩
theorem lw_frame {s t : State} {o : Outcome} {args : Array Value} (h : State.butDraws s t lw_cs (fun t1 => Framed s o t1 [] 603072 7202922)) :
    State.butDraws s t [Jvm.Choice.named "NaN.bits"] (fun t1 => Framed s o t1 (fieldLocs frame_1_writes args s ++ arrayLocs frame_1_arrays args s ++ staticLocs frame_1_statics s) 603072 7202922) := h
theorem lw_limb (L : Cond) (hL : ∀ (args : Array Value) (s t : State), L.after args s (.returned (some (.int 1))) t = true) :
    ArmFor flags0 classFile x code maxLocals ret World_1 tables_1 room_1 Calls_1 rest_1 Pre_1
      (fun tb e a s o t => postC L tb e a s o t ∧ State.butDraws s t [Jvm.Choice.named "NaN.bits"] (fun t1 => Framed s o t1 (fieldLocs frame_1_writes a s ++ arrayLocs frame_1_arrays a s ++ staticLocs frame_1_statics s) 603072 7202922)) := by
  intro l hflags _ _ p e ha hc hk s m args below hf hfit hheap happ hpre
  obtain ⟨k, o, h1, h2, h3, rfl, hF⟩ := lw_comes l hflags p e ha hc hk s m args below hf hfit hheap happ hpre
  exact ⟨k, _, h1, h2, h3, hL args s _, lw_frame hF⟩
theorem i_vc : Claimed_1_1 ∧ Claimed_1_2 := ⟨lw_limb limb_1_1 (fun args s t => by simp [limb_1_1, Cond.after, Cond.holds, Cond.value]), lw_limb limb_1_2 (fun args s t => Cond.after_iff.mpr (by
  first | (rw [show limb_1_2 = Cond.eq .result (.int 1) from rfl, Cond.eq_ints (x := 1) (y := 1) rfl rfl]; simp; done) | (simp [limb_1_2, Cond.value, Term.eval]; done)))⟩
