/-! THE CLAIM OUT OF ONE WALK OF THE LAW'S BODY. Your part is whole_start (and what it stands on); all else here is the same for every law, but numbers. -/
def R_law : String := "SharedMemoryLaw"
def lw_P (b : Addr) (xs : List Int32) (args : Array Value) (s : State) : Prop := args = #[.ref b] ∧ s.IntsAt b xs ∧ xs.length ≤ 4097 ∧ (Jvm.Cond.and given_1 narrow_1).before args s = true
def lw_Q (_ : Array Value) (s : State) (o : Outcome) (t : State) : Prop := o = .returned (some (.int 1)) ∧ Framed s o t [] 601024 7293000
def lw_Z (below : List Frame) (a : Array Value) (s : State) : State → Prop := fun t => ∃ o, t.status = .running ∧ Ended t below o ∧ lw_Q a s o t
/-- the law's own end, with 1 on the stack, nothing written that was there before, its room as the claim has it -/
theorem lw_ret {p : Program} {l : Launch} {e : Env} {s : State} {m : MethodId} {below : List Frame} {meth : Method} {c : Code} {b : Nat} (hx : p.tables.exec = Jvm.exec) (hb : c.code = code) (hr : meth.sig.returnType = ret) (hlocks : meth.locks = false) {pc : Nat} {H : Heap} {ls : Array Slot} (hdg : decode code pc = .ok (.ireturn, 1)) : W p l e room_1 s m #[Value.ref b] below meth c H [] 601024 7293000 (lw_Z below #[Value.ref b] s) (F0 m pc ls [.int 1]) := by
  intro T hT X
  obtain ⟨fs, hret, hrun, hended, hW, hframe⟩ := X.leave (v := some (.int 1)) (hlocks := hlocks) (fun h => by rw [hr] at h; cases h)
  have hmeth' : T.vm.method? m = some meth := X.method'
  refine ⟨T.setFrames fs, ?_, .returned (some (.int 1)), hrun, hended, rfl, ⟨_, rfl⟩, hW, hframe⟩
  jvm_step X.here [X.here.top, hx, hb, hdg, hmeth', hr, ret, narrow_b1]
  (try refine ⟨rfl, ?_⟩); (try refine ⟨rfl, ?_⟩)
  first | (intro acts; rw [hret _ acts rfl rfl rfl]) | rw [hret _ _ rfl rfl rfl]
  exact Steps.refl _
/-- what holds at the law's entry: the machine, the code, the tables' words (any of lw_tbl by 'hts w (by decide +kernel)'), the script of L ints xs at the cell b, what the Statement gives of the start (any of its parts by flat_of_before) -/
def lw_At (p : Program) (s : State) (m : MethodId) (meth : Method) (c : Code) (b L : Nat) (xs : Nat → Int32) : Prop :=
  p.tables.exec = Jvm.exec ∧ c.code = code ∧ meth.sig.returnType = ret ∧ c.maxLocals = 8 ∧ s.vm.findClass R_law = some m.cls ∧ (∀ w ∈ lw_tbl, w.before #[Value.ref b] s = true) ∧ va_X b L xs s s.heap ∧ b < s.heap.size ∧ meth.locks = false ∧ (Jvm.Cond.and given_1 narrow_1).before #[Value.ref b] s = true
theorem lim8 {L i : Nat} (hL : L ≤ 4097) (hi : i ≤ 5000) (h : ¬ nI L - 8 < nI i) : i + 8 ≤ L := by
  rcases Nat.lt_or_ge L 8 with z | z
  · exact absurd (Int32.lt_of_lt_of_le (show nI L - nI 8 < 0 from pk_sneg (by omega) z) (Int32.not_lt.mp (nI_pos (by omega)))) h
  · have e : nI L - 8 = nI (L - 8) := show nI L - nI 8 = _ from pk_sub z
    rw [e] at h
    rcases Nat.lt_or_ge (L - 8) i with q | q
    · exact absurd (nI_lt q (by omega)) h
    · omega
set_option maxHeartbeats 4000000 in
set_option maxRecDepth 100000 in
/-- the law's loop -/
theorem lw_loop {p : Program} {l : Launch} {e : Env} {s : State} {m : MethodId} {below : List Frame} {meth : Method} {c : Code} {b L : Nat} {xs : Nat → Int32} {D : va_G} {cJ cI cP : ClassId} (hl0 : l.stackTraces = false) (hx : p.tables.exec = Jvm.exec) (hb : c.code = c_L_law) (hml : c.maxLocals = 8) (hown : s.vm.findClass R_L = some m.cls) (htg : ∀ w ∈ gt, w.before #[Value.ref b] s = true) (hX : va_X b L xs s s.heap) (hbl : b < s.heap.size) (hbA : ¬ mA s.heap.size b) (hK : va_K D vwCl (mT cJ cI cP) s) (hE : evX s.heap.size s) (hr : meth.sig.returnType = ret) (hlocks : meth.locks = false) (h hm ao : Nat) (hL : L ≤ 4097) :
    ∀ (k t : Nat) (w : Nat → Option va_E) (ls : Array Slot) (H : Heap) (locs : List Loc), 513 - t < k → t ≤ 512 → LI cJ cI cP h hm ao w → mw D vwCl s.heap.size w H → va_S (mA s.heap.size) s.heap H locs → lv_has ls 8 [(4, .int (nI (1 + 8 * t))), (0, .ref b), (1, .ref h), (2, .ref hm), (3, .ref ao)] → W p l e room_1 s m #[Value.ref b] below meth c H locs (10 + 1026 * t) (526363 + 6144 * t) (lw_Z below #[Value.ref b] s) (F0 m 33 ls []) := by
  have hbs : s.heap.size ≤ s.heap.size := Nat.le_refl _
  intro k
  induction k with
  | zero => intro t w ls H locs hk0; exact absurd hk0 (by omega)
  | succ k ih =>
    intro t w ls H locs hk ht hI hP hS hl
    refine lv_iload hx hb d_L_law_33 (lv_at hl 0 rfl) ?_
    refine lv_aload_n hx hb d_L_law_35 rfl (lv_at hl 1 rfl) ?_
    refine va_slen hx hb hX hbl hbA hS d_L_law_36 ?_
    change W _ _ _ _ _ _ _ _ _ _ _ _ _ _ _ (F0 m 37 ls [.int (nI L), .int (nI (1 + 8 * t))])
    refine lv_bipush (v := 8) hx hb d_L_law_37 (by decide) ?_
    refine lv_isub hx hb d_L_law_39 ?_
    refine lv_icmp_gt (tgt := 882) hx hb d_L_law_40 (by decide) (fun c40 => ?_) (fun c40 => ?_)
    · refine lv_iconst (v := 1) hx hb d_L_law_882 (by decide) ?_
      refine va_forget (fun q hq => hS.2.2 q hq) ?_
      refine W.widen (k := 601024) (n := 7293000) (by omega) (by omega) ?_
      exact lw_ret hx hb hr hlocks d_L_law_883
    · have hi8 := lim8 hL (by omega) c40
      have kx : ∀ (w : Nat → Option va_E) (ls : Array Slot) (H : Heap) (locs : List Loc), LI cJ cI cP h hm ao w → mw D vwCl s.heap.size w H → va_S (mA s.heap.size) s.heap H locs → lv_has ls 8 [(4, .int (nI (1 + 8 * t))), (0, .ref b), (1, .ref h), (2, .ref hm), (3, .ref ao)] → W p l e room_1 s m #[Value.ref b] below meth c H locs (10 + 1026 * t + 1026) (526363 + 6144 * t + 6144) (lw_Z below #[Value.ref b] s) (F0 m 876 ls []) := by
        intro w ls H locs hI hP hS hl
        obtain ⟨i_1, ei_1⟩ : ∃ y : Int32, y = (nI (1 + 8 * t)) + 8 := ⟨_, rfl⟩
        refine lv_iinc (v := i_1) (lv' := [(4, .int i_1), (0, .ref b), (1, .ref h), (2, .ref hm), (3, .ref ao)]) hx hb d_L_law_876 hl (k := 0) rfl (by rw [ei_1]; rfl) (by decide) rfl (fun ls hl => ?_)
        refine lv_goto (tgt := 33) hx hb d_L_law_879 (by decide) ?_
        have ey : i_1 = nI (1 + 8 * (t + 1)) := by
          rw [ei_1]
          show nI _ + nI 8 = _
          rw [nI_add]
          congr 1
        refine W.widen (k := 10 + 1026 * (t + 1)) (n := 526363 + 6144 * (t + 1)) (by omega) (by omega) ?_
        exact ih (t + 1) w ls H locs (by omega) (by omega) hI hP hS (by rw [← ey]; exact lv_sub hl [0, 1, 2, 3, 4] rfl)
      refine lv_aload_n hx hb d_L_law_43 rfl (lv_at hl 1 rfl) ?_
      refine lv_iload hx hb d_L_law_44 (lv_at hl 0 rfl) ?_
      refine va_sld hx hb hX hbl hbA hS (vp_in_nI (show 1 + 8 * t < L by omega) (by omega)) d_L_law_46 ?_
      refine lv_bipush (v := 15) hx hb d_L_law_47 (by decide) ?_
      refine lv_iand hx hb d_L_law_49 ?_
      refine lv_topi (fun x_2 ex_2 => ?_)
      rcases pk_ix x_2 (n := 10) (by decide) with csw | csw | ⟨jsw, csw, esw⟩
      · refine lv_tableOut (tgt := 876) hx hb d_L_law_50 (Or.inl (by have h := (Int32.lt_iff_toInt_lt).mp csw; exact h)) (by decide) ?_
        refine W.widen (k := 10 + 1026 * t + 1026) (n := 526363 + 6144 * t + 6144) (by omega) (by omega) ?_
        exact kx w ls H locs hI hP hS (lv_sub hl [0, 1, 2, 3, 4] rfl)
      · refine lv_tableOut (tgt := 876) hx hb d_L_law_50 (Or.inr (by have h := (Int32.le_iff_toInt_le).mp csw; rw [nI_toInt (by decide)] at h; omega)) (by decide) ?_
        refine W.widen (k := 10 + 1026 * t + 1026) (n := 526363 + 6144 * t + 6144) (by omega) (by omega) ?_
        exact kx w ls H locs hI hP hS (lv_sub hl [0, 1, 2, 3, 4] rfl)
      · rcases (show jsw = 0 ∨ jsw = 1 ∨ jsw = 2 ∨ jsw = 3 ∨ jsw = 4 ∨ jsw = 5 ∨ jsw = 6 ∨ jsw = 7 ∨ jsw = 8 ∨ jsw = 9 by omega) with rfl | rfl | rfl | rfl | rfl | rfl | rfl | rfl | rfl | rfl
        · subst esw
          have hl : lv_has ls 8 [(4, .int (nI (1 + 8 * t))), (0, .ref b), (1, .ref h), (2, .ref hm), (3, .ref ao)] := hl
          refine lv_tableIn (off := 54) (tgt := 104) hx hb d_L_law_50 (by decide) (by decide) (by decide) (by decide) ?_
          exact lw_0 hl0 hx hb hml hown htg hX hbl hbA hK hbs hE h hm ao (1 + 8 * t) (10 + 1026 * t) (526363 + 6144 * t) hi8 hL (by omega) (by omega) w hI kx ls H locs hP hS (lv_sub hl [0, 1, 2, 3, 4] rfl)
        · subst esw
          have hl : lv_has ls 8 [(4, .int (nI (1 + 8 * t))), (0, .ref b), (1, .ref h), (2, .ref hm), (3, .ref ao)] := hl
          refine lv_tableIn (off := 67) (tgt := 117) hx hb d_L_law_50 (by decide) (by decide) (by decide) (by decide) ?_
          exact lw_1 hl0 hx hb hml hown htg hX hbl hbA hK hbs hE h hm ao (1 + 8 * t) (10 + 1026 * t) (526363 + 6144 * t) hi8 hL (by omega) (by omega) w hI kx ls H locs hP hS (lv_sub hl [0, 1, 2, 3, 4] rfl)
        · subst esw
          have hl : lv_has ls 8 [(4, .int (nI (1 + 8 * t))), (0, .ref b), (1, .ref h), (2, .ref hm), (3, .ref ao)] := hl
          refine lv_tableIn (off := 166) (tgt := 216) hx hb d_L_law_50 (by decide) (by decide) (by decide) (by decide) ?_
          exact lw_2 hl0 hx hb hml hown htg hX hbl hbA hK hbs hE h hm ao (1 + 8 * t) (10 + 1026 * t) (526363 + 6144 * t) hi8 hL (by omega) (by omega) w hI kx ls H locs hP hS (lv_sub hl [0, 1, 2, 3, 4] rfl)
        · subst esw
          have hl : lv_has ls 8 [(4, .int (nI (1 + 8 * t))), (0, .ref b), (1, .ref h), (2, .ref hm), (3, .ref ao)] := hl
          refine lv_tableIn (off := 290) (tgt := 340) hx hb d_L_law_50 (by decide) (by decide) (by decide) (by decide) ?_
          exact lw_3 hl0 hx hb hml hown htg hX hbl hbA hK hbs hE h hm ao (1 + 8 * t) (10 + 1026 * t) (526363 + 6144 * t) hi8 hL (by omega) (by omega) w hI kx ls H locs hP hS (lv_sub hl [0, 1, 2, 3, 4] rfl)
        · subst esw
          have hl : lv_has ls 8 [(4, .int (nI (1 + 8 * t))), (0, .ref b), (1, .ref h), (2, .ref hm), (3, .ref ao)] := hl
          refine lv_tableIn (off := 414) (tgt := 464) hx hb d_L_law_50 (by decide) (by decide) (by decide) (by decide) ?_
          exact lw_4 hl0 hx hb hml hown htg hX hbl hbA hK hbs hE h hm ao (1 + 8 * t) (10 + 1026 * t) (526363 + 6144 * t) hi8 hL (by omega) (by omega) w hI kx ls H locs hP hS (lv_sub hl [0, 1, 2, 3, 4] rfl)
        · subst esw
          have hl : lv_has ls 8 [(4, .int (nI (1 + 8 * t))), (0, .ref b), (1, .ref h), (2, .ref hm), (3, .ref ao)] := hl
          refine lv_tableIn (off := 585) (tgt := 635) hx hb d_L_law_50 (by decide) (by decide) (by decide) (by decide) ?_
          exact lw_5 hl0 hx hb hml hown htg hX hbl hbA hK hbs hE h hm ao (1 + 8 * t) (10 + 1026 * t) (526363 + 6144 * t) hi8 hL (by omega) (by omega) w hI kx ls H locs hP hS (lv_sub hl [0, 1, 2, 3, 4] rfl)
        · subst esw
          have hl : lv_has ls 8 [(4, .int (nI (1 + 8 * t))), (0, .ref b), (1, .ref h), (2, .ref hm), (3, .ref ao)] := hl
          refine lv_tableIn (off := 648) (tgt := 698) hx hb d_L_law_50 (by decide) (by decide) (by decide) (by decide) ?_
          exact lw_6 hl0 hx hb hml hown htg hX hbl hbA hK hbs hE h hm ao (1 + 8 * t) (10 + 1026 * t) (526363 + 6144 * t) hi8 hL (by omega) (by omega) w hI kx ls H locs hP hS (lv_sub hl [0, 1, 2, 3, 4] rfl)
        · subst esw
          have hl : lv_has ls 8 [(4, .int (nI (1 + 8 * t))), (0, .ref b), (1, .ref h), (2, .ref hm), (3, .ref ao)] := hl
          refine lv_tableIn (off := 703) (tgt := 753) hx hb d_L_law_50 (by decide) (by decide) (by decide) (by decide) ?_
          exact lw_7 hl0 hx hb hml hown htg hX hbl hbA hK hbs hE h hm ao (1 + 8 * t) (10 + 1026 * t) (526363 + 6144 * t) hi8 hL (by omega) (by omega) w hI kx ls H locs hP hS (lv_sub hl [0, 1, 2, 3, 4] rfl)
        · subst esw
          have hl : lv_has ls 8 [(4, .int (nI (1 + 8 * t))), (0, .ref b), (1, .ref h), (2, .ref hm), (3, .ref ao)] := hl
          refine lv_tableIn (off := 758) (tgt := 808) hx hb d_L_law_50 (by decide) (by decide) (by decide) (by decide) ?_
          exact lw_8 hl0 hx hb hml hown htg hX hbl hbA hK hbs hE h hm ao (1 + 8 * t) (10 + 1026 * t) (526363 + 6144 * t) hi8 hL (by omega) (by omega) w hI kx ls H locs hP hS (lv_sub hl [0, 1, 2, 3, 4] rfl)
        · subst esw
          have hl : lv_has ls 8 [(4, .int (nI (1 + 8 * t))), (0, .ref b), (1, .ref h), (2, .ref hm), (3, .ref ao)] := hl
          refine lv_tableIn (off := 813) (tgt := 863) hx hb d_L_law_50 (by decide) (by decide) (by decide) (by decide) ?_
          exact lw_9 hl0 hx hb hml hown htg hX hbl hbA hK hbs hE h hm ao (1 + 8 * t) (10 + 1026 * t) (526363 + 6144 * t) hi8 hL (by omega) (by omega) w hI kx ls H locs hP hS (lv_sub hl [0, 1, 2, 3, 4] rfl)
theorem start_K {s : State} {args : Array Value} (htg : ∀ w ∈ gt, w.before args s = true) (hts : ∀ w ∈ lw_tbl, w.before args s = true) : ∃ (D : va_G) (cJ cI cP : ClassId), va_K D vwCl (mT cJ cI cP) s := by
  obtain ⟨c0, i0, k0⟩ := u_known (C := R_P) (T := T_P) (N := 5) (n := 5) htg i_P (htg _ k_223)
  obtain ⟨c1, i1, k1⟩ := u_known (C := R_S) (T := T_S) (N := 4) (n := 4) htg i_S (htg _ k_37)
  obtain ⟨c2, i2, k2⟩ := u_known (C := R_M) (T := T_M) (N := 6) (n := 6) htg i_M (htg _ k_405)
  obtain ⟨cJ, kJ, pJ, j1, j2, j3⟩ := Cond.arrayClass_spec (htg _ k_59)
  obtain ⟨cI, kI, pI, l1, l2, l3⟩ := Cond.arrayClass_spec (htg _ k_60)
  obtain ⟨pP, cP, kP, q1, -, q2, q3, q4⟩ := Cond.arrayOver_spec (hts (.arrayOver (.object R_P)) (by decide +kernel))
  refine ⟨(fun k => if k = 0 then c0 else if k = 1 then c1 else c2, fun k => if k = 0 then i0 else if k = 1 then i1 else i2), cJ, cI, cP, ?_, ?_⟩
  · intro k q hq
    match k, hq with
    | 0, hq => cases hq; exact k0
    | 1, hq => cases hq; exact k1
    | 2, hq => cases hq; exact k2
    | k + 3, hq => simp [vwCl] at hq
  · intro k q hq
    match k, hq with
    | 0, hq => cases hq; exact ⟨fun N z => ⟨(fun k h => by cases h), kJ, j2, pJ, j3⟩, j1⟩
    | 1, hq => cases hq; exact ⟨fun N z => ⟨(fun k h => by cases h), kI, l2, pI, l3⟩, l1⟩
    | 2, hq => cases hq; exact ⟨fun N z => ⟨(fun k h => by cases h), kP, q2, pP, q3⟩, kP, pP, q2, q3, q1, q4⟩
    | k + 3, hq => simp [mT] at hq
set_option maxRecDepth 100000 in
theorem start_E {s : State} {args : Array Value} (hts : ∀ w ∈ lw_tbl, w.before args s = true) (hgv : (Jvm.Cond.and given_1 narrow_1).before args s = true) : evX s.heap.size s := by
  have hf := flat_of_before _ hgv
  have hA : ∀ a : Nat, a < s.heap.size → ¬ mA s.heap.size a := fun a h => Nat.not_le.mpr h
  have hstr : ∀ (k : Nat) (tx : String), Cond.stringRef R_S k tx ∈ lw_tbl → Cond.exactly (.string R_S k) "java/lang/String" ∈ flatC (Jvm.Cond.and given_1 narrow_1) → ∃ q, vk_R R_S k tx q s := fun k tx h1 h2 => by
    obtain ⟨a, -, -, -, q1, -⟩ := Cond.exactly_spec (hf _ h2)
    exact ⟨a, vk_R.of (hts _ h1) q1⟩
  refine ⟨⟨va_Nw.of rfl (hts nwS (by decide +kernel)), va_AO.of (hts (.arrayOver (.object R_P)) (by decide +kernel))⟩, ⟨vx_Zqof (hts (.laysStatic Bundle.tN "UNASSIGNED_STACK" Bundle.steD) (by decide +kernel)) (hts (.initialized Bundle.tN) (by decide +kernel)) (hf (.isRef (.static Bundle.tN "UNASSIGNED_STACK" Bundle.steD)) (by decide +kernel)) hA, vx_Zqof (hts (.laysStatic Bundle.tN "SUPPRESSED_SENTINEL" Bundle.listD) (by decide +kernel)) (hts (.initialized Bundle.tN) (by decide +kernel)) (hf (.isRef (.static Bundle.tN "SUPPRESSED_SENTINEL" Bundle.listD)) (by decide +kernel)) hA⟩,
    ⟨va_Nw.of rfl (hts (.castable eIA eIA) (by decide +kernel)), va_Nw.of rfl (hts (.castable eIO eIO) (by decide +kernel)), va_Nw.of rfl (hts (.castable eIS eIS) (by decide +kernel))⟩, ⟨va_Nw.of rfl (hts (dcl "java/lang/RuntimeException") (by decide +kernel)), va_Nw.of rfl (hts (dcl "java/lang/Exception") (by decide +kernel)), va_Nw.of rfl (hts (dcl "java/lang/Throwable") (by decide +kernel))⟩,
    ⟨va_Nc.of (hf (.not (.castable eIO eIA)) (by decide +kernel)), va_Nc.of (hf (.not (.castable eIS eIA)) (by decide +kernel)), va_Nc.of (hf (.not (.castable eIS eIO)) (by decide +kernel))⟩, hstr 33 "no such size" (by decide +kernel) (by decide +kernel), hstr 44 "a byte is not in memory" (by decide +kernel) (by decide +kernel), hstr 59 "the end is before the start" (by decide +kernel) (by decide +kernel), hstr 78 "no such size or kind" (by decide +kernel) (by decide +kernel), hstr 83 "no such processor, or a byte is not in memory" (by decide +kernel) (by decide +kernel), hstr 87 "the size does not divide the address" (by decide +kernel) (by decide +kernel), hstr 102 "no such processor" (by decide +kernel) (by decide +kernel), hstr 107 "no such page" (by decide +kernel) (by decide +kernel)⟩
theorem sfp_0 {cJ cI cP : ClassId} {w : Nat → Option va_E} {h n : Nat} {M T ra : Nat → Int64} {rs : Nat → Int32} {aT aA aS : Nat} (hs : sm cJ cI cP w h n M T ra rs aT aA aS (fun _ => none)) {q : Nat} (hq : sfp w h q) : ¬ w q = none := by
  obtain ⟨-, h1, h2, h3, h4, -⟩ := hs
  rcases (sfp_iff h1 h2 q).mp hq with rfl | rfl | rfl | rfl | ⟨i, p, -, z, -⟩
  · rw [h1]; simp
  · rw [h2]; simp
  · rw [h3]; simp
  · rw [h4]; simp
  · cases z
theorem start_LI {cJ cI cP : ClassId} {u1 w2 u2 w3 : Nat → Option va_E} {h hm ao n : Nat} {cd : Int32} {eM : va_E} {aT aA aS aW aU aP aZ : Nat} (hs : sm cJ cI cP u1 h n (fun _ => 0) (fun _ => 0) (fun _ => 0) (fun _ => 0) aT aA aS (fun _ => none)) (e2 : w2 = va_up u1 hm (some eM)) (n2 : u1 hm = none) (hmo : mo cJ cI u2 hm n cd (fun _ => 0) (fun _ => 0) (fun _ => 0) (fun _ => 0) aW aU aP aZ) (oth : ∀ q, ¬ w2 q = none → ¬ q = hm → u2 q = w2 q) (f : w2 aW = none ∧ w2 aU = none ∧ w2 aP = none ∧ w2 aZ = none) (e3 : w3 = va_up u2 ao (some (oE cJ (fun _ => 0)))) (n3 : u2 ao = none) : LI cJ cI cP h hm ao w3 := by
  have d1 : ∀ q, sfp u1 h q → ¬ q = hm := fun q hq z => sfp_0 hs hq (by rw [z]; exact n2)
  obtain ⟨s2, t2⟩ := sm_off (w' := w2) hs (fun q hq => by rw [e2]; exact va_up_ne _ _ (d1 q hq))
  have d2 : ∀ q, sfp w2 h q → ¬ q = hm := fun q hq => d1 q ((t2 q).mp hq)
  obtain ⟨s3, t3⟩ := sm_off (w' := u2) s2 (fun q hq => oth q (sfp_0 s2 hq) (d2 q hq))
  have d3 : ∀ q, sfp u2 h q → ¬ q = ao := fun q hq z => sfp_0 s3 hq (by rw [z]; exact n3)
  obtain ⟨s4, t4⟩ := sm_off (w' := w3) s3 (fun q hq => by rw [e3]; exact va_up_ne _ _ (d3 q hq))
  obtain ⟨hn, g1, g2, g3, g4, g5⟩ := hmo
  refine LI.of (n := n) (cd := cd) (M := fun _ => 0) (T := fun _ => 0) (ra := fun _ => 0) (rs := fun _ => 0) (aT := aT) (aA := aA) (aS := aS) (pt := fun _ => none) (aW := aW) (aU := aU) (aP := aP) (aZ := aZ) (O := fun _ => 0) ⟨s4, ⟨hn, ?_, ?_, ?_, ?_, ?_⟩, by rw [e3]; exact va_up_self _ _ _, fun q hq => ?_⟩ (fun j _ => Or.inl rfl)
  · rw [e3, va_up_ne _ _ (fun z => by rw [z, n3] at g1; cases g1)]; exact g1
  · rw [e3, va_up_ne _ _ (fun z => by rw [z, n3] at g2; cases g2)]; exact g2
  · rw [e3, va_up_ne _ _ (fun z => by rw [z, n3] at g3; cases g3)]; exact g3
  · rw [e3, va_up_ne _ _ (fun z => by rw [z, n3] at g4; cases g4)]; exact g4
  · rw [e3, va_up_ne _ _ (fun z => by rw [z, n3] at g5; cases g5)]; exact g5
  · have q2 : sfp u2 h q := (t4 q).mp hq
    have q1 : sfp w2 h q := (t3 q).mp q2
    exact ⟨d2 q q1, fun z => sfp_0 s2 q1 (by rw [z]; exact f.1), fun z => sfp_0 s2 q1 (by rw [z]; exact f.2.1), fun z => sfp_0 s2 q1 (by rw [z]; exact f.2.2.1), fun z => sfp_0 s2 q1 (by rw [z]; exact f.2.2.2), d3 q q2⟩
set_option maxHeartbeats 4000000 in
set_option maxRecDepth 100000 in
/-- the law, from its entry -/
theorem whole_start {p : Program} {e : Env} {s : State} {m : MethodId} {below : List Frame} {meth : Method} {c : Code} (l : Launch) (hl0 : l.stackTraces = false) {b L : Nat} {xs : Nat → Int32} (hL : L ≤ 4097) (C0 : lw_At p s m meth c b L xs) : W p l e room_1 s m #[Value.ref b] below meth c s.heap [] 0 0 (lw_Z below #[Value.ref b] s) (entryFrame m ([Value.ref b] : List Value).toArray 8) := by
  obtain ⟨hx, hb, hr, hml, hown, hts, hX, hbl, hlocks, hgv⟩ := C0
  have htg : ∀ w ∈ gt, w.before #[Value.ref b] s = true := fun w h => hts w (List.mem_filter.mp h).1
  obtain ⟨D, cJ, cI, cP, hK⟩ := start_K htg hts
  have hE : evX s.heap.size s := start_E hts hgv
  have hb : c.code = c_L_law := hb
  have hown : s.vm.findClass R_L = some m.cls := hown
  have hbs : s.heap.size ≤ s.heap.size := Nat.le_refl _
  have hbA : ¬ mA s.heap.size b := Nat.not_le.mpr hbl
  have hS : va_S (mA s.heap.size) s.heap s.heap [] := va_S.rf
  have hP : mw D vwCl s.heap.size (fun _ => none) s.heap := mw.none
  have hl := lv_entry ([.ref b]) (n := 8) (Nat.le_of_ble_eq_true rfl)
  rw [lg_entry_eq]
  generalize (lg_sl ([.ref b]) ++ List.replicate (8 - (lg_sl ([.ref b])).length) Slot.unset).toArray = ls at hl ⊢
  have hl : lv_has ls 8 [(0, .ref b)] := hl
  refine mw_new (C := R_S) (T := T_S) (N := 4) (ci := ciS) (fs := [.int 0, .null, .null, .null]) hx hb htg i_S ty_S tk_S hown (htg _ k_36) (htg _ k_37) (htg _ k_25) hK hP hS (hbs) rfl (fun j hj => by rcases (show j = 0 ∨ j = 1 ∨ j = 2 ∨ j = 3 by omega) with rfl | rfl | rfl | rfl <;> rfl) (Nat.le_of_ble_eq_true rfl) (Nat.le_of_ble_eq_true rfl) d_L_law_0 (fun q_1 H nq_1 eq_1 hP hS hz0 => ?_)
  obtain ⟨w_2, ew_2⟩ : ∃ z9, z9 = va_up (fun _ => none) q_1 (some (.inr (ciS, [.int 0, .null, .null, .null])) : Option va_E) := ⟨_, rfl⟩
  rw [← ew_2] at hP
  have h_3 : w_2 q_1 = some (.inr (ciS, [.int 0, .null, .null, .null])) := by rw [ew_2, va_up_self]
  refine lv_dup hx hb d_L_law_3 rfl ?_
  refine lv_aload_n hx hb d_L_law_4 rfl (lv_at hl 0 rfl) ?_
  refine lv_iconst (v := 0) hx hb d_L_law_5 (by decide) ?_
  refine mc_i (va_runS (As := [.ref b, .int 0]) (rest := [.ref q_1, .ref q_1]) ⟨hx, hb, hml, hown, htg⟩ (t_L_cell l D s.heap.size w_2 b L xs hL hbl) (cwS (own := R_L) 2 htg (ginS k_73 k_74 k_24 k_75) rfl rfl rfl (by decide +kernel) ⟨Nat.le_of_ble_eq_true rfl, Nat.le_of_ble_eq_true rfl⟩) (cPc.preS hbs hS hP hbl hbA hX) rfl rfl hl.1 rfl (lv_room (Nat.le_of_ble_eq_true rfl)) d_L_law_6 ⟨Nat.le_of_ble_eq_true rfl, Nat.le_of_ble_eq_true rfl⟩) hS (fun r6 u6 H locs hw hP hz6 hS => ?_)
  subst hw
  refine mc_v (va_runI (As := [.int (if 0 < L then xs 0 else 0)]) (rest := [.ref q_1]) ⟨hx, hb, hml, hown, htg⟩ (t_S_init l D cJ cI cP s.heap.size w_2 q_1 h_3 (if 0 < L then xs 0 else 0)) (cwI 1 htg (gin0 k_40) rfl rfl rfl (htg _ k_25) (htg _ k_38) (htg _ k_39) rfl (by decide +kernel) ⟨Nat.le_of_ble_eq_true rfl, Nat.le_of_ble_eq_true rfl⟩) (mPx.preS hbs hS hP hK hE) rfl rfl hl.1 rfl (lv_room (Nat.le_of_ble_eq_true rfl)) d_L_law_9 ⟨Nat.le_of_ble_eq_true rfl, Nat.le_of_ble_eq_true rfl⟩) hS (fun u1 H locs hw hP hz9 hS => ?_)
  obtain ⟨aT, aA, aS, hs1, oth1, hfp1⟩ := hw
  have hP : mw D vwCl s.heap.size u1 H := hP
  refine lv_astore_n (lv' := [(1, .ref q_1), (0, .ref b)]) hx hb d_L_law_12 rfl hl (by decide) rfl (fun ls hl => ?_)
  refine mw_new (C := R_M) (T := T_M) (N := 6) (ci := ciM) (fs := [.int 0, .int 0, .null, .null, .null, .null]) hx hb htg i_M ty_M tk_M hown (htg _ k_404) (htg _ k_405) (htg _ k_26) hK hP hS (hbs) rfl (fun j hj => by rcases (show j = 0 ∨ j = 1 ∨ j = 2 ∨ j = 3 ∨ j = 4 ∨ j = 5 by omega) with rfl | rfl | rfl | rfl | rfl | rfl <;> rfl) (Nat.le_of_ble_eq_true rfl) (Nat.le_of_ble_eq_true rfl) d_L_law_13 (fun q_4 H nq_4 eq_4 hP hS hz13 => ?_)
  obtain ⟨w_5, ew_5⟩ : ∃ z9, z9 = va_up u1 q_4 (some (.inr (ciM, [.int 0, .int 0, .null, .null, .null, .null])) : Option va_E) := ⟨_, rfl⟩
  rw [← ew_5] at hP
  have h_6 : w_5 q_4 = some (.inr (ciM, [.int 0, .int 0, .null, .null, .null, .null])) := by rw [ew_5, va_up_self]
  refine lv_dup hx hb d_L_law_16 rfl ?_
  refine lv_aload_n hx hb d_L_law_17 rfl (lv_at hl 1 rfl) ?_
  refine lv_iconst (v := 0) hx hb d_L_law_18 (by decide) ?_
  refine mc_i (va_runS (As := [.ref b, .int 0]) (rest := [.ref q_4, .ref q_4]) ⟨hx, hb, hml, hown, htg⟩ (t_L_cell l D s.heap.size w_5 b L xs hL hbl) (cwS (own := R_L) 2 htg (ginS k_73 k_74 k_24 k_75) rfl rfl rfl (by decide +kernel) ⟨Nat.le_of_ble_eq_true rfl, Nat.le_of_ble_eq_true rfl⟩) (cPc.preS hbs hS hP hbl hbA hX) rfl rfl hl.1 rfl (lv_room (Nat.le_of_ble_eq_true rfl)) d_L_law_19 ⟨Nat.le_of_ble_eq_true rfl, Nat.le_of_ble_eq_true rfl⟩) hS (fun r19 u19 H locs hw hP hz19 hS => ?_)
  subst hw
  refine mc_v (va_runI (As := [.int (if 0 < L then xs 0 else 0)]) (rest := [.ref q_4]) ⟨hx, hb, hml, hown, htg⟩ (t_M_init l D cJ cI cP s.heap.size w_5 q_4 h_6 (if 0 < L then xs 0 else 0)) (cwI 1 htg (gin0 k_408) rfl rfl rfl (htg _ k_26) (htg _ k_406) (htg _ k_407) rfl (by decide +kernel) ⟨Nat.le_of_ble_eq_true rfl, Nat.le_of_ble_eq_true rfl⟩) (mPc.preS hbs hS hP hK) rfl rfl hl.1 rfl (lv_room (Nat.le_of_ble_eq_true rfl)) d_L_law_22 ⟨Nat.le_of_ble_eq_true rfl, Nat.le_of_ble_eq_true rfl⟩) hS (fun u2 H locs hw hP hz22 hS => ?_)
  obtain ⟨aW, aU, aP, aZ, hmo2, oth2, hf2⟩ := hw
  have hP : mw D vwCl s.heap.size u2 H := hP
  refine lv_astore_n (lv' := [(2, .ref q_4), (1, .ref q_1), (0, .ref b)]) hx hb d_L_law_25 rfl hl (by decide) rfl (fun ls hl => ?_)
  refine lv_iconst (v := 1) hx hb d_L_law_26 (by decide) ?_
  refine mw_newa (atype := .long) (ty := .long) (N' := 1) (a0 := (1, .inr (.inl (fun _ => 0)))) hx hb (htg _ k_59) rfl hK hP hS (hbs) 0 (cA := cJ) rfl rfl rfl (by decide) rfl (by decide) (Nat.le_of_ble_eq_true rfl) (Nat.le_of_ble_eq_true rfl) d_L_law_27 (fun q_7 H nq_7 eq_7 hP hS hz27 => ?_)
  obtain ⟨w_8, ew_8⟩ : ∃ z9, z9 = va_up u2 q_7 (some (.inl (cJ, 1, .inr (.inl (fun _ => 0)))) : Option va_E) := ⟨_, rfl⟩
  rw [← ew_8] at hP
  have h_9 : w_8 q_7 = some (.inl (cJ, 1, .inr (.inl (fun _ => 0)))) := by rw [ew_8, va_up_self]
  refine lv_astore_n (lv' := [(3, .ref q_7), (2, .ref q_4), (1, .ref q_1), (0, .ref b)]) hx hb d_L_law_29 rfl hl (by decide) rfl (fun ls hl => ?_)
  refine lv_iconst (v := 1) hx hb d_L_law_30 (by decide) ?_
  refine lv_istore (lv' := [(4, .int 1), (3, .ref q_7), (2, .ref q_4), (1, .ref q_1), (0, .ref b)]) hx hb d_L_law_31 hl (by decide) rfl (fun ls hl => ?_)
  have hI := start_LI hs1 ew_5 nq_4 hmo2 oth2 hf2 ew_8 nq_7
  refine W.widen (k := 10 + 1026 * 0) (n := 526363 + 6144 * 0) (Nat.le_of_ble_eq_true rfl) (Nat.le_of_ble_eq_true rfl) ?_
  exact lw_loop hl0 hx hb hml hown htg hX hbl hbA hK hE hr hlocks q_1 q_4 q_7 hL 514 0 w_8 ls _ _ (by omega) (by omega) hI hP hS (lv_sub hl [0, 4, 3, 2, 1] rfl)
