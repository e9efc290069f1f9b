theorem mul256 (v y : Int64) (hy : ∀ i, 8 ≤ i → bi y i = false) {b : Nat} (hb : b < 64) : bi (256 * v + y) b = if b < 8 then bi y b else bi v (b - 8) := by
  have e : (256 * v + y).toBitVec = (v.toBitVec <<< 8) ||| y.toBitVec := by
    rw [Int64.toBitVec_add, Int64.toBitVec_mul, show (256 : Int64).toBitVec = BitVec.twoPow 64 8 from by decide, BitVec.mul_comm, ← BitVec.shiftLeft_eq_mul_twoPow]
    apply BitVec.add_eq_or_of_and_eq_zero
    apply BitVec.eq_of_getLsbD_eq
    intro i hi
    rw [BitVec.getLsbD_and, BitVec.getLsbD_shiftLeft]
    by_cases h : i < 8
    · simp [h]
    · have := hy i (by omega)
      unfold bi at this
      simp [this]
  unfold bi
  rw [e, BitVec.getLsbD_or, BitVec.getLsbD_shiftLeft]
  by_cases h : b < 8
  · rw [if_pos h]; simp [h]
  · rw [if_neg h]
    have := hy b (by omega)
    unfold bi at this
    rw [this]
    simp [h, hb]
theorem bi_l2i (x : Int64) {q : Nat} (h : q < 32) : bi x.toInt32.toInt64 q = bi x q := by
  rw [bi_i _ h]
  show (x.toBitVec.signExtend 32).getLsbD q = _
  rw [BitVec.signExtend_eq_setWidth_of_le _ (by decide), BitVec.getLsbD_setWidth]
  simp [h, bi]
def tK (T : Nat → Int64) (a i : Nat) : Nat → Int64 := if i = 0 then T else tinc T (a / 4096) ((a + i - 1) / 4096 + 1)
def pK (pl : Nat → Int64) (a i : Nat) : Nat → Int64 := if i = 0 then pl else lost pl (a / 8) ((a + i - 1) / 8)
theorem rok_pK {pl : Nat → Int64} {n : Nat} (h : rok pl n) (a i : Nat) : rok (pK pl a i) n := by
  unfold pK
  split
  · exact h
  · exact rok_lost h _ _
theorem lostB_iff (x : Int64) (a b : Nat) : lostB x a b = true ↔ ¬ x = 0 ∧ a ≤ (x.toBitVec.toNat - 2147483648) / 8 ∧ (x.toBitVec.toNat - 2147483648) / 8 ≤ b := by
  unfold lostB
  simp only [Bool.and_eq_true, decide_eq_true_iff]
theorem pK_s (pl : Nat → Int64) (a i : Nat) : lost (pK pl a i) ((a + i) / 8) ((a + i) / 8) = pK pl a (i + 1) := by
  funext j
  by_cases hi : i = 0
  · subst hi
    unfold pK
    rw [if_pos rfl, if_neg (by omega)]
    rfl
  · unfold pK
    rw [if_neg hi, if_neg (by omega)]
    have e : (a + (i + 1) - 1) / 8 = (a + i) / 8 := by rw [show a + (i + 1) - 1 = a + i by omega]
    rw [e]
    by_cases h1 : j < 4 ∧ lostB (pl j) (a / 8) ((a + i - 1) / 8) = true
    · have e1 : lost pl (a / 8) ((a + i - 1) / 8) j = 0 := by unfold lost; rw [if_pos h1]
      have e2 : lost pl (a / 8) ((a + i) / 8) j = 0 := by
        unfold lost
        rw [if_pos ⟨h1.1, (lostB_iff _ _ _).mpr (by have := (lostB_iff _ _ _).mp h1.2; exact ⟨this.1, this.2.1, by have := this.2.2; omega⟩)⟩]
      rw [e2]
      unfold lost
      rw [if_neg (fun z => by rw [show (if j < 4 ∧ lostB (pl j) (a / 8) ((a + i - 1) / 8) = true then 0 else pl j) = 0 from if_pos h1] at z; rw [lostB_0] at z; cases z.2), if_pos h1]
    · have e1 : lost pl (a / 8) ((a + i - 1) / 8) j = pl j := by unfold lost; rw [if_neg h1]
      unfold lost at e1 ⊢
      rw [e1]
      by_cases h2 : j < 4 ∧ lostB (pl j) ((a + i) / 8) ((a + i) / 8) = true
      · rw [if_pos h2, if_pos ⟨h2.1, (lostB_iff _ _ _).mpr (by have := (lostB_iff _ _ _).mp h2.2; exact ⟨this.1, by have := this.2.1; omega, this.2.2⟩)⟩]
      · rw [if_neg h2, if_neg (fun z => ?_)]
        have y := (lostB_iff _ _ _).mp z.2
        by_cases h3 : (BitVec.toNat (pl j).toBitVec - 2147483648) / 8 ≤ (a + i - 1) / 8
        · exact h1 ⟨z.1, (lostB_iff _ _ _).mpr ⟨y.1, y.2.1, h3⟩⟩
        · exact h2 ⟨z.1, (lostB_iff _ _ _).mpr ⟨y.1, by have := y.2.2; omega, y.2.2⟩⟩
theorem tK_inc (T : Nat → Int64) (a i : Nat) (h : i = 0 ∨ (a + i) % 4096 = 0) : vp_updL (tK T a i) ((a + i) / 4096) (tK T a i ((a + i) / 4096) + 1) = tK T a (i + 1) := by
  have e9 : vp_updL (tK T a i) ((a + i) / 4096) (tK T a i ((a + i) / 4096) + 1) = va_up (tK T a i) ((a + i) / 4096) (tK T a i ((a + i) / 4096) + 1) := rfl
  rw [e9]
  unfold tK
  rw [if_neg (show ¬ i + 1 = 0 by omega), show a + (i + 1) - 1 = a + i by omega]
  by_cases hi : i = 0
  · subst hi
    rw [if_pos rfl, Nat.add_zero]
    have := tinc_s T (a := a / 4096) (i := a / 4096) (Nat.le_refl _)
    rw [tinc_0] at this
    exact this
  · rw [if_neg hi]
    have e : (a + i) / 4096 = (a + i - 1) / 4096 + 1 := by omega
    rw [e]
    exact tinc_s T (by omega)
theorem tK_same (T : Nat → Int64) (a i : Nat) (h : ¬ i = 0) (h2 : ¬ (a + i) % 4096 = 0) : tK T a i = tK T a (i + 1) := by
  unfold tK
  rw [if_neg h, if_neg (show ¬ i + 1 = 0 by omega), show (a + (i + 1) - 1) / 4096 = (a + i - 1) / 4096 by omega]
theorem wrN_s (B : Nat → Bool) (a i : Nat) (v y : Int64) (hy : ∀ q, q < 8 → bi y q = bi v (8 * i + q)) : wrN (wrN B a i v) (a + i) 1 y = wrN B a (i + 1) v := by
  funext b
  unfold wrN
  by_cases h : 8 * (a + i) ≤ b ∧ b < 8 * (a + i + 1)
  · rw [if_pos h, if_pos (by omega), hy _ (by omega)]
    congr 1
    omega
  · rw [if_neg h]
    by_cases h2 : 8 * a ≤ b ∧ b < 8 * (a + i)
    · rw [if_pos h2, if_pos (by omega)]
    · rw [if_neg h2, if_neg (by omega)]
theorem wrN_0 (B : Nat → Bool) (a : Nat) (v : Int64) : wrN B a 0 v = B := by
  funext b
  unfold wrN
  rw [if_neg (by omega)]
theorem lN_m (m : Nat) (h : m < 2 ^ 62) (d : Nat) (hd : 0 < d) (hd2 : d < 2 ^ 62) : lN m / lN d = lN (m / d) := pk_lDiv (by omega) hd (by omega)
set_option maxHeartbeats 4000000 in
set_option maxRecDepth 100000 in
/-- number: its loop -/
theorem lp_M_number {p : Program} {l : Launch} {e : Env} {s : State} {m : MethodId} {args : Array Value} {below : List Frame} {meth : Method} {c : Code} {Q : State → Prop} {D : va_G} {cJ cI cP : ClassId} {bs : Nat} (hx : p.tables.exec = Jvm.exec) (hb : c.code = c_M_number) (hml : c.maxLocals = 7) (hown : s.vm.findClass R_M = some m.cls) (htg : ∀ w ∈ gt, w.before args s = true) (hK : va_K D vwCl (mT cJ cI cP) s) (hbs : bs ≤ s.heap.size) (w : Nat → Option va_E) (hm n : Nat) (cd : Int32) (M T pl : Nat → Int64) (sz : Nat → Int32) (aW aU aP aZ : Nat) (hs : mo cJ cI w hm n cd M T pl sz aW aU aP aZ) (a k9 : Nat) (h8 : k9 ≤ 8) (hak : a + k9 ≤ 4096 * n) (kx : ∀ (v : Int64) (ls : Array Slot) (H : Heap) (locs : List Loc), (∀ b, b < 64 → bi v b = rdN (mb M) a k9 b) → mw D vwCl bs w H → va_S (mA bs) s.heap H locs → lv_has ls 7 [(4, .long v)] → W p l e ({ frames := 1, cells := 0, slots := 0, locals := 23 } : Room) s m args below meth c H locs 0 0 Q (F0 m 38 ls [])) :
    ∀ (k : Nat) (j : Nat) (v : Int64) (ls : Array Slot) (H : Heap) (locs : List Loc), j < k → j ≤ k9 → (∀ b, b < 64 → bi v b = (decide (b < 8 * (k9 - j)) && mb M (8 * (a + j) + b))) → mw D vwCl bs w H → va_S (mA bs) s.heap H locs → lv_has ls 7 [(6, .int (nI j - 1)), (4, .long v), (0, .ref hm), (1, .long (lN (2147483648 + a)))] → W p l e ({ frames := 1, cells := 0, slots := 0, locals := 23 } : Room) s m args below meth c H locs 0 0 Q (F0 m 8 ls []) := by
  intro k
  induction k with
  | zero => intro j v ls H locs hk0; exact absurd hk0 (by omega)
  | succ k ih =>
    intro j v ls H locs hk hj hv hP hS hl
    obtain ⟨hn, s1, s2, s3, s4, s5⟩ := id hs
    refine lv_iload hx hb d_M_number_8 (lv_at hl 0 rfl) ?_
    refine lv_if_lt (tgt := 38) hx hb d_M_number_10 (by decide) (fun c10 => ?_) (fun c10 => ?_)
    · have e0 : j = 0 := by
        rcases Nat.eq_zero_or_pos j with z | z
        · exact z
        · exfalso
          have e1 : nI j - 1 = nI (j - 1) := by show nI j - nI 1 = _; exact pk_sub z
          rw [e1] at c10
          exact nI_pos (by omega) c10
      subst e0
      exact kx v ls H locs (fun b hb => by rw [hv b hb]; rfl) hP hS (lv_sub hl [1] rfl)
    · have hj0 : 0 < j := by
        rcases Nat.eq_zero_or_pos j with z | z
        · exfalso; rw [z] at c10; exact c10 (by decide)
        · exact z
      have ej : nI j - 1 = nI (j - 1) := by show nI j - nI 1 = _; exact pk_sub hj0
      rw [ej] at hl
      refine lv_ldc2 (own := R_M) (v := 256) hx hb hown (htg _ k_459) d_M_number_13 ?_
      refine lv_lload hx hb d_M_number_16 (lv_at hl 1 rfl) ?_
      refine lv_lmul hx hb d_M_number_18 ?_
      refine lv_aload_n hx hb d_M_number_19 rfl (lv_at hl 2 rfl) ?_
      refine lv_lload_n hx hb d_M_number_20 rfl (lv_at hl 3 rfl) ?_
      refine lv_iload hx hb d_M_number_21 (lv_at hl 0 rfl) ?_
      refine lv_i2l hx hb d_M_number_23 rfl ?_
      refine lv_ladd hx hb d_M_number_24 ?_
      rw [show (lN (2147483648 + a)) + ((nI (j - 1)).toInt64) = lN (2147483648 + (a + (j - 1))) from (by rw [nI_l (by omega), lN_add]; congr 1; omega)]
      refine mc_i (va_runV (As := [.long (lN (2147483648 + (a + (j - 1))))]) (rest := [.long (256 * v)]) ⟨hx, hb, hml, hown, htg⟩ (t_M_get l D cJ cI cP bs w hm n cd M T pl sz aW aU aP aZ hs (a + (j - 1)) (by omega)) (cwV (own := R_M) (C := R_M) 1 htg (ginV k_460 k_462 k_20 k_26 k_463) rfl rfl rfl (by decide +kernel) ⟨Nat.le_of_ble_eq_true rfl, Nat.le_of_ble_eq_true rfl⟩) (mPc.preV (ci := ciM) (q := (R_M, T_M, 6)) hbs hS hP hK rfl s1) rfl rfl hl.1 rfl (lv_room (Nat.le_of_ble_eq_true rfl)) d_M_number_25 ⟨Nat.le_of_ble_eq_true rfl, Nat.le_of_ble_eq_true rfl⟩) hS (fun r25 u25 H locs hw25 hP hz25 hS => ?_)
      refine lv_i2l hx hb d_M_number_28 rfl ?_
      refine lv_ladd hx hb d_M_number_29 ?_
      refine lv_topl (fun x_1 ex_1 => ?_)
      refine lv_lstore (lv' := [(4, .long x_1), (6, .int (nI (j - 1))), (0, .ref hm), (1, .long (lN (2147483648 + a)))]) hx hb d_M_number_30 hl (by decide) rfl (fun ls hl => ?_)
      obtain ⟨i_2, ei_2⟩ : ∃ y : Int32, y = (nI (j - 1)) + (-1) := ⟨_, rfl⟩
      refine lv_iinc (v := i_2) (lv' := [(6, .int i_2), (4, .long x_1), (0, .ref hm), (1, .long (lN (2147483648 + a)))]) hx hb d_M_number_32 hl (k := 1) rfl (by rw [ei_2]; rfl) (by decide) rfl (fun ls hl => ?_)
      refine lv_goto (tgt := 8) hx hb d_M_number_35 (by decide) ?_
      refine ih (j - 1) x_1 ls H locs (by omega) (by omega) (fun b hb => ?_) hP hS (by rw [show nI (j - 1) - 1 = i_2 from by rw [ei_2]; exact Int32.sub_eq_add_neg _ _]; exact lv_sub hl [0, 1, 2, 3] rfl)
      rw [ex_1, hw25, mul256 _ _ (fun i hi => by rw [byt_b]; simp [Nat.not_lt.mpr hi]) hb]
      by_cases h9 : b < 8
      · rw [if_pos h9, byt_b, decide_eq_true h9, decide_eq_true (show b < 8 * (k9 - (j - 1)) by omega)]
      · rw [if_neg h9, hv (b - 8) (by omega), show 8 * (a + j) + (b - 8) = 8 * (a + (j - 1)) + b by omega]
        congr 1
        exact decide_eq_decide.mpr (by omega)
set_option maxHeartbeats 4000000 in
set_option maxRecDepth 100000 in
/-- number -/
theorem t_M_number (l : Launch) (D : va_G) (cJ cI cP : ClassId) (bs : Nat) (w : Nat → Option va_E) (hm n : Nat) (cd : Int32) (M T pl : Nat → Int64) (sz : Nat → Int32) (aW aU aP aZ : Nat) (hs : mo cJ cI w hm n cd M T pl sz aW aU aP aZ) (a k : Nat) (h8 : k ≤ 8) (hak : a + k ≤ 4096 * n) : Met l y_M_number ws_M_number ({ frames := 1, cells := 0, slots := 0, locals := 23 }) (mPc D vwCl (mT cJ cI cP) bs w [.ref hm, .long (lN (2147483648 + a)), .int (nI k)]) (va_Ql (S := Unit) (fun r _ => ∀ b, b < 64 → bi r b = rdN (mb M) a k b) (mB D vwCl bs (fun _ => w)) (mA bs)) 0 0 (mA bs) := by
  refine Met.ofW (cc := c_M_number) (maxL := 7) (ret := (some .long)) (by decide) rfl ?_
  intro p e s m args below meth c s₁ B hml hv
  obtain ⟨rfl, hbs, hP, hK⟩ := hv
  have hx := B.exec
  have hb := B.bytes
  have hr := B.returns
  have htg : ∀ w ∈ gt, w.before _ s = true := fun w h => atoms_spec (ws := ws_M_number) B.pre w (List.mem_cons_of_mem _ h)
  have hown : s.vm.findClass R_M = some m.cls := findClass_of_methodNamed B.named
  have hlocks := B.notSynchronized
  have hS : va_S (mA bs) s.heap s.heap [] := va_S.rf
  have hl := lv_entry ([.ref hm, .long (lN (2147483648 + a)), .int (nI k)]) (n := 7) (Nat.le_of_ble_eq_true rfl)
  rw [lg_entry_eq]
  generalize (lg_sl ([.ref hm, .long (lN (2147483648 + a)), .int (nI k)]) ++ List.replicate (7 - (lg_sl ([.ref hm, .long (lN (2147483648 + a)), .int (nI k)])).length) Slot.unset).toArray = ls at hl ⊢
  have hl : lv_has ls 7 [(0, .ref hm), (1, .long (lN (2147483648 + a))), (3, .int (nI k))] := hl
  obtain ⟨hn, s1, s2, s3, s4, s5⟩ := id hs
  refine lv_lconst (v := 0) hx hb d_M_number_0 rfl ?_
  refine lv_lstore (lv' := [(4, .long 0), (0, .ref hm), (1, .long (lN (2147483648 + a))), (3, .int (nI k))]) hx hb d_M_number_1 hl (by decide) rfl (fun ls hl => ?_)
  refine lv_iload_n hx hb d_M_number_3 rfl (lv_at hl 3 rfl) ?_
  refine lv_iconst (v := 1) hx hb d_M_number_4 (by decide) ?_
  refine lv_isub hx hb d_M_number_5 ?_
  refine lv_topi (fun x_1 ex_1 => ?_)
  refine lv_istore (lv' := [(6, .int x_1), (4, .long 0), (0, .ref hm), (1, .long (lN (2147483648 + a))), (3, .int (nI k))]) hx hb d_M_number_6 hl (by decide) rfl (fun ls hl => ?_)
  rw [ex_1] at hl
  refine lp_M_number (D := D) (cJ := cJ) (cI := cI) (cP := cP) (bs := bs) hx hb hml hown htg hK hbs w hm n cd M T pl sz aW aU aP aZ hs a k h8 hak (fun v ls H locs hv hP hS hl => ?_) (k + 1) k 0 ls _ _ (by omega) (Nat.le_refl _) (fun b hb => by rw [bi_0, Nat.sub_self, decide_eq_false (by omega)]; rfl) hP hS (lv_sub hl [0, 1, 2, 3] rfl)
  refine lv_lload hx hb d_M_number_38 (lv_at hl 0 rfl) ?_
  exact W.lret (v := v) hx hb hr (fun t ht hW => ⟨⟨_, (), rfl, hv, hP.at ht⟩, hS.F ht⟩) hS.2.2 d_M_number_40
