/-! THE REFERENCE -/
def mo (cJ cI : ClassId) (w : Nat → Option va_E) (hm n : Nat) (cd : Int32) (M T pl : Nat → Int64) (sz : Nat → Int32) (aW aU aP aZ : Nat) : Prop :=
  (1 ≤ n ∧ n ≤ 1024) ∧ w hm = some (.inr (ciM, [.int cd, .int (nI n), .ref aW, .ref aU, .ref aP, .ref aZ])) ∧ w aW = some (.inl (cJ, 524288, .inr (.inl M))) ∧ w aU = some (.inl (cJ, 1024, .inr (.inl T))) ∧ w aP = some (.inl (cJ, 4, .inr (.inl pl))) ∧ w aZ = some (.inl (cI, 4, .inl sz))
/-- nothing but the reference's cells has changed -/
def kM (w u : Nat → Option va_E) (hm aW aU aP aZ : Nat) : Prop := ∀ q, ¬ q = hm → ¬ q = aW → ¬ q = aU → ¬ q = aP → ¬ q = aZ → u q = w q
theorem kM.trans {w u v : Nat → Option va_E} {hm aW aU aP aZ : Nat} (h1 : kM w u hm aW aU aP aZ) (h2 : kM u v hm aW aU aP aZ) : kM w v hm aW aU aP aZ := fun q a b c d e => (h2 q a b c d e).trans (h1 q a b c d e)
theorem kM.rf {w : Nat → Option va_E} {hm aW aU aP aZ : Nat} : kM w w hm aW aU aP aZ := fun _ _ _ _ _ _ => rfl
theorem bi_255 (i : Nat) : bi 255 i = decide (i < 8) := by
  rcases Nat.lt_or_ge i 64 with h | h
  · exact (by decide +kernel : ∀ i, i < 64 → bi 255 i = decide (i < 8)) i h
  · rw [bi_big h, decide_eq_false (by omega)]
theorem swd_s (x : Int64) {q : Nat} (h : q < 8) : (x.toUInt64 >>> ((nI (8 * q)).toInt64.toUInt64 &&& Int64.toUInt64 63)).toInt64 = swd x q := by
  apply bi_ext
  intro i hi
  rw [bi_ushr _ (by omega), swd_b]
/-- a byte of memory -/
def byt (M : Nat → Int64) (a : Nat) : Int64 := swd (M (a / 8)) (a % 8) &&& 255
theorem byt_b (M : Nat → Int64) (a i : Nat) : bi (byt M a) i = (decide (i < 8) && mb M (8 * a + i)) := by
  unfold byt
  rw [bi_and, swd_b, bi_255]
  by_cases h : i < 8
  · rw [mb_lo M a (show 8 * (a % 8) + i < 64 by omega)]; simp [h]
  · simp [h]
theorem i255 (y : Int64) : (y.toInt32 &&& 255).toInt64 = y &&& 255 := by
  have e1 : y.toInt32 &&& 255 = nI (y.toBitVec.toNat % 256) := by
    rw [pk_and _ 8 (by decide)]
    congr 1
    have h : y.toInt32.toBitVec.toNat = y.toBitVec.toNat % 2 ^ 32 := by
      show (y.toBitVec.signExtend 32).toNat = _
      rw [BitVec.signExtend_eq_setWidth_of_le _ (by decide), BitVec.toNat_setWidth]
    rw [h]
    omega
  rw [e1, nI_l (by omega)]
  apply Int64.toBitVec_inj.mp
  apply BitVec.eq_of_toNat_eq
  rw [lN_nat (by omega), Int64.toBitVec_and, BitVec.toNat_and]
  exact (Nat.and_two_pow_sub_one_eq_mod _ 8).symm
theorem bi_i (v : Int32) {i : Nat} (h : i < 32) : bi v.toInt64 i = v.toBitVec.getLsbD i := by
  show (v.toBitVec.signExtend 64).getLsbD i = _
  rw [BitVec.getLsbD_signExtend]
  simp [h]
  omega
theorem nIdiv {a : Nat} (h : a < 2 ^ 31) : nI a / 8 = nI (a / 8) := show nI a / nI 8 = _ from pk_div h (by omega) (by omega)
theorem nIrem {a : Nat} (h : a < 2 ^ 31) : nI a - nI a / 8 * 8 = nI (a % 8) := show nI a - nI a / nI 8 * nI 8 = _ from pk_rem h (by omega) (by omega)
set_option maxHeartbeats 4000000 in
set_option maxRecDepth 100000 in
theorem t_M_thrown (l : Launch) (D : va_G) (cJ cI cP : ClassId) (bs : Nat) (w : Nat → Option va_E) (hm n : Nat) (cd : Int32) (M T pl : Nat → Int64) (sz : Nat → Int32) (aW aU aP aZ : Nat) (hs : mo cJ cI w hm n cd M T pl sz aW aU aP aZ) : Met l y_M_thrown ws_M_thrown ({ frames := 0, cells := 0, slots := 0, locals := 0 }) (mPc D vwCl (mT cJ cI cP) bs w [.ref hm]) (va_Qi (S := Unit) (fun r _ => r = cd) (mB D vwCl bs (fun _ => w)) (mA bs)) 0 0 (mA bs) := by
  refine Met.ofW (cc := c_M_thrown) (maxL := 1) (ret := (some .int)) (by decide) rfl ?_
  intro p e s m args below meth c s₁ B hml hv
  obtain ⟨rfl, hbs, hP, hK⟩ := hv
  have hx := B.exec
  have hb := B.bytes
  have hr := B.returns
  have htg : ∀ w ∈ gt, w.before _ s = true := fun w h => atoms_spec (ws := ws_M_thrown) B.pre w (List.mem_cons_of_mem _ h)
  have hown : s.vm.findClass R_M = some m.cls := findClass_of_methodNamed B.named
  have hlocks := B.notSynchronized
  have hS : va_S (mA bs) s.heap s.heap [] := va_S.rf
  have hl := lv_entry ([.ref hm]) (n := 1) (Nat.le_of_ble_eq_true rfl)
  rw [lg_entry_eq]
  generalize (lg_sl ([.ref hm]) ++ List.replicate (1 - (lg_sl ([.ref hm])).length) Slot.unset).toArray = ls at hl ⊢
  have hl : lv_has ls 1 [(0, .ref hm)] := hl
  obtain ⟨hn, s1, s2, s3, s4, s5⟩ := id hs
  refine lv_aload_n hx hb d_M_thrown_0 rfl (lv_at hl 0 rfl) ?_
  refine mw_get (C := R_M) (T := T_M) (N := 6) (ci := ciM) (v := .int cd) hx hb htg i_M hown hK hP s1 rfl 0 (by decide) (htg _ k_411) (fun _ h9 => h9) rfl d_M_thrown_1 ?_
  exact W.iret (v := cd) hx hb hr (fun t ht hW => ⟨⟨_, (), rfl, rfl, hP.at ht⟩, hS.F ht⟩) hS.2.2 d_M_thrown_4
set_option maxHeartbeats 4000000 in
set_option maxRecDepth 100000 in
theorem t_M_pages (l : Launch) (D : va_G) (cJ cI cP : ClassId) (bs : Nat) (w : Nat → Option va_E) (hm n : Nat) (cd : Int32) (M T pl : Nat → Int64) (sz : Nat → Int32) (aW aU aP aZ : Nat) (hs : mo cJ cI w hm n cd M T pl sz aW aU aP aZ) : Met l y_M_pages ws_M_pages ({ frames := 0, cells := 0, slots := 0, locals := 0 }) (mPc D vwCl (mT cJ cI cP) bs w [.ref hm]) (va_Qi (S := (Nat → Option va_E)) (fun r u => r = nI n ∧ mo cJ cI u hm n 0 M T pl sz aW aU aP aZ ∧ kM w u hm aW aU aP aZ) (mB D vwCl bs (fun u => u)) (mA bs)) 0 0 (mA bs) := by
  refine Met.ofW (cc := c_M_pages) (maxL := 1) (ret := (some .int)) (by decide) rfl ?_
  intro p e s m args below meth c s₁ B hml hv
  obtain ⟨rfl, hbs, hP, hK⟩ := hv
  have hx := B.exec
  have hb := B.bytes
  have hr := B.returns
  have htg : ∀ w ∈ gt, w.before _ s = true := fun w h => atoms_spec (ws := ws_M_pages) B.pre w (List.mem_cons_of_mem _ h)
  have hown : s.vm.findClass R_M = some m.cls := findClass_of_methodNamed B.named
  have hlocks := B.notSynchronized
  have hS : va_S (mA bs) s.heap s.heap [] := va_S.rf
  have hl := lv_entry ([.ref hm]) (n := 1) (Nat.le_of_ble_eq_true rfl)
  rw [lg_entry_eq]
  generalize (lg_sl ([.ref hm]) ++ List.replicate (1 - (lg_sl ([.ref hm])).length) Slot.unset).toArray = ls at hl ⊢
  have hl : lv_has ls 1 [(0, .ref hm)] := hl
  obtain ⟨hn, s1, s2, s3, s4, s5⟩ := id hs
  refine lv_aload_n hx hb d_M_pages_0 rfl (lv_at hl 0 rfl) ?_
  refine lv_iconst (v := 0) hx hb d_M_pages_1 (by decide) ?_
  refine mw_put (C := R_M) (T := T_M) (N := 6) (ci := ciM) (v := .int 0) (ty := .int) (fs' := [.int 0, .int (nI n), .ref aW, .ref aU, .ref aP, .ref aZ]) hx hb htg i_M ty_M tk_M nm_M hown hK hP hS s1 rfl 0 (by decide) (htg _ k_411) (fun _ h9 => h9) rfl (by decide +kernel) rfl rfl (Nat.le_of_ble_eq_true rfl) rfl d_M_pages_2 (fun H locs hP hS hz2 => ?_)
  obtain ⟨w_1, ew_1⟩ : ∃ z9, z9 = va_up w hm (some (.inr (ciM, [.int 0, .int (nI n), .ref aW, .ref aU, .ref aP, .ref aZ])) : Option va_E) := ⟨_, rfl⟩
  rw [← ew_1] at hP
  have h_2 : w_1 hm = some (.inr (ciM, [.int 0, .int (nI n), .ref aW, .ref aU, .ref aP, .ref aZ])) := by rw [ew_1, va_up_self]
  have h_3 : w_1 aW = some (.inl (cJ, 524288, .inr (.inl M))) := by rw [ew_1, va_up_ne _ _ (fun z => by rw [z, s1] at s2; cases s2)]; exact s2
  have h_4 : w_1 aU = some (.inl (cJ, 1024, .inr (.inl T))) := by rw [ew_1, va_up_ne _ _ (fun z => by rw [z, s1] at s3; cases s3)]; exact s3
  have h_5 : w_1 aP = some (.inl (cJ, 4, .inr (.inl pl))) := by rw [ew_1, va_up_ne _ _ (fun z => by rw [z, s1] at s4; cases s4)]; exact s4
  have h_6 : w_1 aZ = some (.inl (cI, 4, .inl sz)) := by rw [ew_1, va_up_ne _ _ (fun z => by rw [z, s1] at s5; cases s5)]; exact s5
  refine lv_aload_n hx hb d_M_pages_5 rfl (lv_at hl 0 rfl) ?_
  refine mw_get (C := R_M) (T := T_M) (N := 6) (ci := ciM) (v := .int (nI n)) hx hb htg i_M hown hK hP h_2 rfl 1 (by decide) (htg _ k_412) (fun _ h9 => h9) rfl d_M_pages_6 ?_
  have hmo : mo cJ cI w_1 hm n 0 M T pl sz aW aU aP aZ := ⟨hn, h_2, h_3, h_4, h_5, h_6⟩
  have hkm : kM w w_1 hm aW aU aP aZ := fun q z1 z2 z3 z4 z5 => by rw [ew_1, va_up_ne _ _ z1]
  exact W.iret (v := nI n) hx hb hr (fun t ht hW => ⟨⟨_, w_1, rfl, ⟨rfl, hmo, hkm⟩, hP.at ht⟩, hS.F ht⟩) hS.2.2 d_M_pages_9
set_option maxHeartbeats 4000000 in
set_option maxRecDepth 100000 in
theorem t_M_isSize (l : Launch) (D : va_G) (cJ cI cP : ClassId) (bs : Nat) (w : Nat → Option va_E) (x : Int32) : Met l y_M_isSize ws_M_isSize ({ frames := 0, cells := 0, slots := 0, locals := 0 }) (mPc D vwCl (mT cJ cI cP) bs w [.int x]) (va_Qi (S := Unit) (fun r _ => r = if szK x then 1 else 0) (mB D vwCl bs (fun _ => w)) (mA bs)) 0 0 (mA bs) := by
  refine Met.ofW (cc := c_M_isSize) (maxL := 1) (ret := (some .boolean)) (by decide) rfl ?_
  intro p e s m args below meth c s₁ B hml hv
  obtain ⟨rfl, hbs, hP, hK⟩ := hv
  have hx := B.exec
  have hb := B.bytes
  have hr := B.returns
  have htg : ∀ w ∈ gt, w.before _ s = true := fun w h => atoms_spec (ws := ws_M_isSize) B.pre w (List.mem_cons_of_mem _ h)
  have hown : s.vm.findClass R_M = some m.cls := findClass_of_methodNamed B.named
  have hlocks := B.notSynchronized
  have hS : va_S (mA bs) s.heap s.heap [] := va_S.rf
  have hl := lv_entry ([.int x]) (n := 1) (Nat.le_of_ble_eq_true rfl)
  rw [lg_entry_eq]
  generalize (lg_sl ([.int x]) ++ List.replicate (1 - (lg_sl ([.int x])).length) Slot.unset).toArray = ls at hl ⊢
  have hl : lv_has ls 1 [(0, .int x)] := hl
  refine lv_iload_n hx hb d_M_isSize_0 rfl (lv_at hl 0 rfl) ?_
  refine lv_iconst (v := 1) hx hb d_M_isSize_1 (by decide) ?_
  refine lv_icmp_eq (tgt := 21) hx hb d_M_isSize_2 (by decide) (fun c2 => ?_) (fun c2 => ?_)
  · refine lv_iconst (v := 1) hx hb d_M_isSize_21 (by decide) ?_
    refine lv_goto (tgt := 26) hx hb d_M_isSize_22 (by decide) ?_
    exact W.zret (v := 1) hx hb hr rfl (fun t ht hW => ⟨⟨_, (), rfl, by simp [szK, *], hP.at ht⟩, hS.F ht⟩) hS.2.2 d_M_isSize_26
  · refine lv_iload_n hx hb d_M_isSize_5 rfl (lv_at hl 0 rfl) ?_
    refine lv_iconst (v := 2) hx hb d_M_isSize_6 (by decide) ?_
    refine lv_icmp_eq (tgt := 21) hx hb d_M_isSize_7 (by decide) (fun c7 => ?_) (fun c7 => ?_)
    · refine lv_iconst (v := 1) hx hb d_M_isSize_21 (by decide) ?_
      refine lv_goto (tgt := 26) hx hb d_M_isSize_22 (by decide) ?_
      exact W.zret (v := 1) hx hb hr rfl (fun t ht hW => ⟨⟨_, (), rfl, by simp [szK, *], hP.at ht⟩, hS.F ht⟩) hS.2.2 d_M_isSize_26
    · refine lv_iload_n hx hb d_M_isSize_10 rfl (lv_at hl 0 rfl) ?_
      refine lv_iconst (v := 4) hx hb d_M_isSize_11 (by decide) ?_
      refine lv_icmp_eq (tgt := 21) hx hb d_M_isSize_12 (by decide) (fun c12 => ?_) (fun c12 => ?_)
      · refine lv_iconst (v := 1) hx hb d_M_isSize_21 (by decide) ?_
        refine lv_goto (tgt := 26) hx hb d_M_isSize_22 (by decide) ?_
        exact W.zret (v := 1) hx hb hr rfl (fun t ht hW => ⟨⟨_, (), rfl, by simp [szK, *], hP.at ht⟩, hS.F ht⟩) hS.2.2 d_M_isSize_26
      · refine lv_iload_n hx hb d_M_isSize_15 rfl (lv_at hl 0 rfl) ?_
        refine lv_bipush (v := 8) hx hb d_M_isSize_16 (by decide) ?_
        refine lv_icmp_ne (tgt := 25) hx hb d_M_isSize_18 (by decide) (fun c18 => ?_) (fun c18 => ?_)
        · refine lv_iconst (v := 0) hx hb d_M_isSize_25 (by decide) ?_
          exact W.zret (v := 0) hx hb hr rfl (fun t ht hW => ⟨⟨_, (), rfl, by simp [szK, *], hP.at ht⟩, hS.F ht⟩) hS.2.2 d_M_isSize_26
        · refine lv_iconst (v := 1) hx hb d_M_isSize_21 (by decide) ?_
          refine lv_goto (tgt := 26) hx hb d_M_isSize_22 (by decide) ?_
          exact W.zret (v := 1) hx hb hr rfl (fun t ht hW => ⟨⟨_, (), rfl, by simp [szK, *], hP.at ht⟩, hS.F ht⟩) hS.2.2 d_M_isSize_26
set_option maxHeartbeats 4000000 in
set_option maxRecDepth 100000 in
theorem t_M_signed (l : Launch) (D : va_G) (cJ cI cP : ClassId) (bs : Nat) (w : Nat → Option va_E) (v : Int64) (k : Nat) : Met l y_M_signed ws_M_signed ({ frames := 0, cells := 0, slots := 0, locals := 0 }) (mPc D vwCl (mT cJ cI cP) bs w [.long v, .int (nI k)]) (va_Ql (S := Unit) (fun r _ => r = wsg v k) (mB D vwCl bs (fun _ => w)) (mA bs)) 0 0 (mA bs) := by
  refine Met.ofW (cc := c_M_signed) (maxL := 3) (ret := (some .long)) (by decide) rfl ?_
  intro p e s m args below meth c s₁ B hml hv
  obtain ⟨rfl, hbs, hP, hK⟩ := hv
  have hx := B.exec
  have hb := B.bytes
  have hr := B.returns
  have htg : ∀ w ∈ gt, w.before _ s = true := fun w h => atoms_spec (ws := ws_M_signed) B.pre w (List.mem_cons_of_mem _ h)
  have hown : s.vm.findClass R_M = some m.cls := findClass_of_methodNamed B.named
  have hlocks := B.notSynchronized
  have hS : va_S (mA bs) s.heap s.heap [] := va_S.rf
  have hl := lv_entry ([.long v, .int (nI k)]) (n := 3) (Nat.le_of_ble_eq_true rfl)
  rw [lg_entry_eq]
  generalize (lg_sl ([.long v, .int (nI k)]) ++ List.replicate (3 - (lg_sl ([.long v, .int (nI k)])).length) Slot.unset).toArray = ls at hl ⊢
  have hl : lv_has ls 3 [(0, .long v), (2, .int (nI k))] := hl
  refine lv_iload_n hx hb d_M_signed_0 rfl (lv_at hl 1 rfl) ?_
  refine lv_iconst (v := 4) hx hb d_M_signed_1 (by decide) ?_
  refine lv_icmp_ne (tgt := 11) hx hb d_M_signed_2 (by decide) (fun c2 => ?_) (fun c2 => ?_)
  · refine lv_lload_n hx hb d_M_signed_11 rfl (lv_at hl 0 rfl) ?_
    exact W.lret (v := v) hx hb hr (fun t ht hW => ⟨⟨_, (), rfl, by unfold wsg; first | rw [if_pos c2] | rw [if_neg c2], hP.at ht⟩, hS.F ht⟩) hS.2.2 d_M_signed_12
  · refine lv_lload_n hx hb d_M_signed_5 rfl (lv_at hl 0 rfl) ?_
    refine lv_l2i hx hb d_M_signed_6 rfl ?_
    refine lv_i2l hx hb d_M_signed_7 rfl ?_
    refine lv_goto (tgt := 12) hx hb d_M_signed_8 (by decide) ?_
    exact W.lret (v := v.toInt32.toInt64) hx hb hr (fun t ht hW => ⟨⟨_, (), rfl, by unfold wsg; first | rw [if_pos c2] | rw [if_neg c2], hP.at ht⟩, hS.F ht⟩) hS.2.2 d_M_signed_12
theorem eb_w {n : Nat} (h : n ≤ 1024) : (2147483648 : Int64) + 4096 * (nI n).toInt64 = lN (2147483648 + 4096 * n) := by
  rw [nI_l (by omega)]
  show lN 2147483648 + lN 4096 * lN n = _
  rw [lN_mul, lN_add]
theorem isB_of {x : Int64} {n : Nat} (hn : n ≤ 1024) (h1 : ¬ x < 2147483648) (h2 : ¬ lN (2147483648 + 4096 * n) ≤ x) : ∃ a, inM x n 1 a := by
  obtain ⟨m, hm, rfl⟩ := pk_lOf (fun z => h1 (Int64.lt_of_lt_of_le z (by decide)))
  have e1 : ¬ m < 2147483648 := fun z => h1 ((pk_lLT (b := 2147483648) hm (by omega)).mpr z)
  have e2 : ¬ 2147483648 + 4096 * n ≤ m := fun z => h2 ((pk_lLE (by omega) hm).mpr z)
  exact ⟨m - 2147483648, by rw [show 2147483648 + (m - 2147483648) = m by omega], by omega⟩
theorem isB_hi {x : Int64} {n a : Nat} (hn : n ≤ 1024) (h : inM x n 1 a) : ¬ lN (2147483648 + 4096 * n) ≤ x := by
  obtain ⟨rfl, h⟩ := h
  exact fun z => by
    have := (pk_lLE (by omega) (by omega)).mp z
    omega
set_option maxHeartbeats 4000000 in
set_option maxRecDepth 100000 in
theorem t_M_isByte (l : Launch) (D : va_G) (cJ cI cP : ClassId) (bs : Nat) (w : Nat → Option va_E) (hm n : Nat) (cd : Int32) (M T pl : Nat → Int64) (sz : Nat → Int32) (aW aU aP aZ : Nat) (hs : mo cJ cI w hm n cd M T pl sz aW aU aP aZ) (x : Int64) : Met l y_M_isByte ws_M_isByte ({ frames := 0, cells := 0, slots := 0, locals := 0 }) (mPc D vwCl (mT cJ cI cP) bs w [.ref hm, .long x]) (va_Qi (S := Unit) (fun r _ => (r = 1 ∧ ∃ a, inM x n 1 a) ∨ (r = 0 ∧ ¬ ∃ a, inM x n 1 a)) (mB D vwCl bs (fun _ => w)) (mA bs)) 0 0 (mA bs) := by
  refine Met.ofW (cc := c_M_isByte) (maxL := 3) (ret := (some .boolean)) (by decide) rfl ?_
  intro p e s m args below meth c s₁ B hml hv
  obtain ⟨rfl, hbs, hP, hK⟩ := hv
  have hx := B.exec
  have hb := B.bytes
  have hr := B.returns
  have htg : ∀ w ∈ gt, w.before _ s = true := fun w h => atoms_spec (ws := ws_M_isByte) B.pre w (List.mem_cons_of_mem _ h)
  have hown : s.vm.findClass R_M = some m.cls := findClass_of_methodNamed B.named
  have hlocks := B.notSynchronized
  have hS : va_S (mA bs) s.heap s.heap [] := va_S.rf
  have hl := lv_entry ([.ref hm, .long x]) (n := 3) (Nat.le_of_ble_eq_true rfl)
  rw [lg_entry_eq]
  generalize (lg_sl ([.ref hm, .long x]) ++ List.replicate (3 - (lg_sl ([.ref hm, .long x])).length) Slot.unset).toArray = ls at hl ⊢
  have hl : lv_has ls 3 [(0, .ref hm), (1, .long x)] := hl
  obtain ⟨hn, s1, s2, s3, s4, s5⟩ := id hs
  refine lv_lload_n hx hb d_M_isByte_0 rfl (lv_at hl 1 rfl) ?_
  refine lv_ldc2 (own := R_M) (v := 2147483648) hx hb hown (htg _ k_453) d_M_isByte_1 ?_
  refine lc_lt (tgt := 30) hx hb d_M_isByte_4 d_M_isByte_5 (by decide) (fun c4 => ?_) (fun c4 => ?_)
  · refine lv_iconst (v := 0) hx hb d_M_isByte_30 (by decide) ?_
    exact W.zret (v := 0) hx hb hr rfl (fun t ht hW => ⟨⟨_, (), rfl, Or.inr ⟨rfl, fun ⟨a, ha⟩ => by first | exact isB_hi hn.2 ha c22 | exact inM_lo hn.2 ha c4⟩, hP.at ht⟩, hS.F ht⟩) hS.2.2 d_M_isByte_31
  · refine lv_lload_n hx hb d_M_isByte_8 rfl (lv_at hl 1 rfl) ?_
    refine lv_ldc2 (own := R_M) (v := 2147483648) hx hb hown (htg _ k_453) d_M_isByte_9 ?_
    refine lv_ldc2 (own := R_M) (v := 4096) hx hb hown (htg _ k_454) d_M_isByte_12 ?_
    refine lv_aload_n hx hb d_M_isByte_15 rfl (lv_at hl 0 rfl) ?_
    refine mw_get (C := R_M) (T := T_M) (N := 6) (ci := ciM) (v := .int (nI n)) hx hb htg i_M hown hK hP s1 rfl 1 (by decide) (htg _ k_412) (fun _ h9 => h9) rfl d_M_isByte_16 ?_
    refine lv_i2l hx hb d_M_isByte_19 rfl ?_
    refine lv_lmul hx hb d_M_isByte_20 ?_
    refine lv_ladd hx hb d_M_isByte_21 ?_
    rw [show 2147483648 + (4096 * ((nI n).toInt64)) = lN (2147483648 + 4096 * n) from eb_w hn.2]
    refine lc_ge (tgt := 30) hx hb d_M_isByte_22 d_M_isByte_23 (by decide) (fun c22 => ?_) (fun c22 => ?_)
    · refine lv_iconst (v := 0) hx hb d_M_isByte_30 (by decide) ?_
      exact W.zret (v := 0) hx hb hr rfl (fun t ht hW => ⟨⟨_, (), rfl, Or.inr ⟨rfl, fun ⟨a, ha⟩ => by first | exact isB_hi hn.2 ha c22 | exact inM_lo hn.2 ha c4⟩, hP.at ht⟩, hS.F ht⟩) hS.2.2 d_M_isByte_31
    · refine lv_iconst (v := 1) hx hb d_M_isByte_26 (by decide) ?_
      refine lv_goto (tgt := 31) hx hb d_M_isByte_27 (by decide) ?_
      exact W.zret (v := 1) hx hb hr rfl (fun t ht hW => ⟨⟨_, (), rfl, Or.inl ⟨rfl, isB_of hn.2 c4 c22⟩, hP.at ht⟩, hS.F ht⟩) hS.2.2 d_M_isByte_31
set_option maxHeartbeats 4000000 in
set_option maxRecDepth 100000 in
theorem t_M_areBytes (l : Launch) (D : va_G) (cJ cI cP : ClassId) (bs : Nat) (w : Nat → Option va_E) (hm n : Nat) (cd : Int32) (M T pl : Nat → Int64) (sz : Nat → Int32) (aW aU aP aZ : Nat) (hs : mo cJ cI w hm n cd M T pl sz aW aU aP aZ) (x : Int64) (k : Nat) (h1 : 1 ≤ k) (h8 : k ≤ 8) : Met l y_M_areBytes ws_M_areBytes ({ frames := 1, cells := 0, slots := 0, locals := 22 }) (mPc D vwCl (mT cJ cI cP) bs w [.ref hm, .long x, .int (nI k)]) (va_Qi (S := Unit) (fun r _ => (r = 1 ∧ ∃ a, inM x n k a) ∨ (r = 0 ∧ ¬ ∃ a, inM x n k a)) (mB D vwCl bs (fun _ => w)) (mA bs)) 0 0 (mA bs) := by
  refine Met.ofW (cc := c_M_areBytes) (maxL := 4) (ret := (some .boolean)) (by decide) rfl ?_
  intro p e s m args below meth c s₁ B hml hv
  obtain ⟨rfl, hbs, hP, hK⟩ := hv
  have hx := B.exec
  have hb := B.bytes
  have hr := B.returns
  have htg : ∀ w ∈ gt, w.before _ s = true := fun w h => atoms_spec (ws := ws_M_areBytes) B.pre w (List.mem_cons_of_mem _ h)
  have hown : s.vm.findClass R_M = some m.cls := findClass_of_methodNamed B.named
  have hlocks := B.notSynchronized
  have hS : va_S (mA bs) s.heap s.heap [] := va_S.rf
  have hl := lv_entry ([.ref hm, .long x, .int (nI k)]) (n := 4) (Nat.le_of_ble_eq_true rfl)
  rw [lg_entry_eq]
  generalize (lg_sl ([.ref hm, .long x, .int (nI k)]) ++ List.replicate (4 - (lg_sl ([.ref hm, .long x, .int (nI k)])).length) Slot.unset).toArray = ls at hl ⊢
  have hl : lv_has ls 4 [(0, .ref hm), (1, .long x), (3, .int (nI k))] := hl
  obtain ⟨hn, s1, s2, s3, s4, s5⟩ := id hs
  refine lv_aload_n hx hb d_M_areBytes_0 rfl (lv_at hl 0 rfl) ?_
  refine lv_lload_n hx hb d_M_areBytes_1 rfl (lv_at hl 1 rfl) ?_
  refine mc_i (va_runV (As := [.long x]) (rest := []) ⟨hx, hb, hml, hown, htg⟩ (t_M_isByte l D cJ cI cP bs w hm n cd M T pl sz aW aU aP aZ hs x) (cwV (own := R_M) (C := R_M) 1 htg (ginV k_449 k_451 k_18 k_26 k_452) rfl rfl rfl (by decide +kernel) ⟨Nat.le_of_ble_eq_true rfl, Nat.le_of_ble_eq_true rfl⟩) (mPc.preV (ci := ciM) (q := (R_M, T_M, 6)) hbs hS hP hK rfl s1) rfl rfl hl.1 rfl (lv_room (Nat.le_of_ble_eq_true rfl)) d_M_areBytes_2 ⟨Nat.le_of_ble_eq_true rfl, Nat.le_of_ble_eq_true rfl⟩) hS (fun r2 u2 H locs hb2 hP hz2 hS => ?_)
  refine lv_if_eq (tgt := 25) hx hb d_M_areBytes_5 (by decide) (fun c5 => ?_) (fun c5 => ?_)
  · refine lv_iconst (v := 0) hx hb d_M_areBytes_25 (by decide) ?_
    have hres : ¬ ∃ a, inM x n k a := by
      rintro ⟨a, rfl, ha⟩
      rcases hb2 with z | z
      · first
          | (rw [z.1] at c5; exact absurd c5 (by decide))
          | (rcases hb15 with y | y
             · rw [y.1] at c18; exact absurd c18 (by decide)
             · refine y.2 ⟨a + k - 1, ?_, by omega⟩
               rw [nI_l (by omega), lN_add]
               show lN _ - lN 1 = _
               rw [lN_sub (by omega)]
               congr 1
               omega)
      · exact z.2 ⟨a, rfl, by omega⟩
    exact W.zret (v := 0) hx hb hr rfl (fun t ht hW => ⟨⟨_, (), rfl, Or.inr ⟨rfl, hres⟩, hP.at ht⟩, hS.F ht⟩) hS.2.2 d_M_areBytes_26
  · refine lv_aload_n hx hb d_M_areBytes_8 rfl (lv_at hl 0 rfl) ?_
    refine lv_lload_n hx hb d_M_areBytes_9 rfl (lv_at hl 1 rfl) ?_
    refine lv_iload_n hx hb d_M_areBytes_10 rfl (lv_at hl 2 rfl) ?_
    refine lv_i2l hx hb d_M_areBytes_11 rfl ?_
    refine lv_ladd hx hb d_M_areBytes_12 ?_
    refine lv_lconst (v := 1) hx hb d_M_areBytes_13 rfl ?_
    refine lv_lsub hx hb d_M_areBytes_14 ?_
    refine mc_i (va_runV (As := [.long ((x + ((nI k).toInt64)) - 1)]) (rest := []) ⟨hx, hb, hml, hown, htg⟩ (t_M_isByte l D cJ cI cP bs w hm n cd M T pl sz aW aU aP aZ hs ((x + ((nI k).toInt64)) - 1)) (cwV (own := R_M) (C := R_M) 1 htg (ginV k_449 k_451 k_18 k_26 k_452) rfl rfl rfl (by decide +kernel) ⟨Nat.le_of_ble_eq_true rfl, Nat.le_of_ble_eq_true rfl⟩) (mPc.preV (ci := ciM) (q := (R_M, T_M, 6)) hbs hS hP hK rfl s1) rfl rfl hl.1 rfl (lv_room (Nat.le_of_ble_eq_true rfl)) d_M_areBytes_15 ⟨Nat.le_of_ble_eq_true rfl, Nat.le_of_ble_eq_true rfl⟩) hS (fun r15 u15 H locs hb15 hP hz15 hS => ?_)
    refine lv_if_eq (tgt := 25) hx hb d_M_areBytes_18 (by decide) (fun c18 => ?_) (fun c18 => ?_)
    · refine lv_iconst (v := 0) hx hb d_M_areBytes_25 (by decide) ?_
      have hres : ¬ ∃ a, inM x n k a := by
        rintro ⟨a, rfl, ha⟩
        rcases hb2 with z | z
        · first
            | (rw [z.1] at c5; exact absurd c5 (by decide))
            | (rcases hb15 with y | y
               · rw [y.1] at c18; exact absurd c18 (by decide)
               · refine y.2 ⟨a + k - 1, ?_, by omega⟩
                 rw [nI_l (by omega), lN_add]
                 show lN _ - lN 1 = _
                 rw [lN_sub (by omega)]
                 congr 1
                 omega)
        · exact z.2 ⟨a, rfl, by omega⟩
      exact W.zret (v := 0) hx hb hr rfl (fun t ht hW => ⟨⟨_, (), rfl, Or.inr ⟨rfl, hres⟩, hP.at ht⟩, hS.F ht⟩) hS.2.2 d_M_areBytes_26
    · refine lv_iconst (v := 1) hx hb d_M_areBytes_21 (by decide) ?_
      refine lv_goto (tgt := 26) hx hb d_M_areBytes_22 (by decide) ?_
      have hres : ∃ a, inM x n k a := by
        rcases hb2 with z | z
        · obtain ⟨a, ha⟩ := z.2
          rcases hb15 with y | y
          · obtain ⟨b, hb9⟩ := y.2
            obtain ⟨rfl, ha2⟩ := ha
            refine ⟨a, rfl, ?_⟩
            have e := hb9.1
            rw [nI_l (by omega), lN_add] at e
            have e2 : lN (2147483648 + a + k) - lN 1 = lN (2147483648 + b) := e
            rw [lN_sub (by omega)] at e2
            have e3 := (pk_lEQ (by omega) (by have := hb9.2; omega)).mp e2
            have := hb9.2
            omega
          · exact absurd y.1 c18
        · exact absurd z.1 c5
      exact W.zret (v := 1) hx hb hr rfl (fun t ht hW => ⟨⟨_, (), rfl, Or.inl ⟨rfl, hres⟩, hP.at ht⟩, hS.F ht⟩) hS.2.2 d_M_areBytes_26
set_option maxHeartbeats 4000000 in
set_option maxRecDepth 100000 in
theorem t_M_get (l : Launch) (D : va_G) (cJ cI cP : ClassId) (bs : Nat) (w : Nat → Option va_E) (hm n : Nat) (cd : Int32) (M T pl : Nat → Int64) (sz : Nat → Int32) (aW aU aP aZ : Nat) (hs : mo cJ cI w hm n cd M T pl sz aW aU aP aZ) (a : Nat) (ha : a < 4096 * n) : Met l y_M_get ws_M_get ({ frames := 0, cells := 0, slots := 0, locals := 0 }) (mPc D vwCl (mT cJ cI cP) bs w [.ref hm, .long (lN (2147483648 + a))]) (va_Qi (S := Unit) (fun r _ => r.toInt64 = byt M a) (mB D vwCl bs (fun _ => w)) (mA bs)) 0 0 (mA bs) := by
  refine Met.ofW (cc := c_M_get) (maxL := 4) (ret := (some .int)) (by decide) rfl ?_
  intro p e s m args below meth c s₁ B hml hv
  obtain ⟨rfl, hbs, hP, hK⟩ := hv
  have hx := B.exec
  have hb := B.bytes
  have hr := B.returns
  have htg : ∀ w ∈ gt, w.before _ s = true := fun w h => atoms_spec (ws := ws_M_get) B.pre w (List.mem_cons_of_mem _ h)
  have hown : s.vm.findClass R_M = some m.cls := findClass_of_methodNamed B.named
  have hlocks := B.notSynchronized
  have hS : va_S (mA bs) s.heap s.heap [] := va_S.rf
  have hl := lv_entry ([.ref hm, .long (lN (2147483648 + a))]) (n := 4) (Nat.le_of_ble_eq_true rfl)
  rw [lg_entry_eq]
  generalize (lg_sl ([.ref hm, .long (lN (2147483648 + a))]) ++ List.replicate (4 - (lg_sl ([.ref hm, .long (lN (2147483648 + a))])).length) Slot.unset).toArray = ls at hl ⊢
  have hl : lv_has ls 4 [(0, .ref hm), (1, .long (lN (2147483648 + a)))] := hl
  obtain ⟨hn, s1, s2, s3, s4, s5⟩ := id hs
  refine lv_lload_n hx hb d_M_get_0 rfl (lv_at hl 1 rfl) ?_
  refine lv_ldc2 (own := R_M) (v := 2147483648) hx hb hown (htg _ k_453) d_M_get_1 ?_
  refine lv_lsub hx hb d_M_get_4 ?_
  refine lv_l2i hx hb d_M_get_5 rfl ?_
  rw [show ((lN (2147483648 + a)) - 2147483648).toInt32 = nI a from pl_w a]
  refine lv_istore_n (lv' := [(3, .int (nI a)), (0, .ref hm), (1, .long (lN (2147483648 + a)))]) hx hb d_M_get_6 rfl hl (by decide) rfl (fun ls hl => ?_)
  refine lv_aload_n hx hb d_M_get_7 rfl (lv_at hl 1 rfl) ?_
  refine mw_get (C := R_M) (T := T_M) (N := 6) (ci := ciM) (v := .ref aW) hx hb htg i_M hown hK hP s1 rfl 2 (by decide) (htg _ k_413) (fun _ h9 => h9) rfl d_M_get_8 ?_
  refine lv_iload_n hx hb d_M_get_11 rfl (lv_at hl 0 rfl) ?_
  refine lv_bipush (v := 8) hx hb d_M_get_12 (by decide) ?_
  refine lv_idiv hx hb d_M_get_14 (by decide) ?_
  rw [show (nI a) / 8 = nI (a / 8) from nIdiv (by omega)]
  refine mw_lald hx hb hK hP 0 s2 rfl (vp_in_nI (show a / 8 < 524288 by omega) (by omega)) d_M_get_15 ?_
  rw [show (nI (a / 8)).toNatClampNeg = a / 8 from nI_clamp (by omega)]
  refine lv_bipush (v := 8) hx hb d_M_get_16 (by decide) ?_
  refine lv_iload_n hx hb d_M_get_18 rfl (lv_at hl 0 rfl) ?_
  refine lv_bipush (v := 8) hx hb d_M_get_19 (by decide) ?_
  refine lv_irem hx hb d_M_get_21 (by decide) ?_
  rw [show (nI a) - (nI a) / 8 * 8 = nI (a % 8) from nIrem (by omega)]
  refine lv_imul hx hb d_M_get_22 ?_
  rw [show 8 * (nI (a % 8)) = nI (8 * (a % 8)) from (by show nI 8 * nI _ = _; exact pk_mul _ _)]
  refine lv_lushr hx hb d_M_get_23 rfl ?_
  refine lv_l2i hx hb d_M_get_24 rfl ?_
  refine lv_sipush (v := 255) hx hb d_M_get_25 (by decide) ?_
  refine lv_iand hx hb d_M_get_28 ?_
  exact W.iret (v := ((((M (a / 8)).toUInt64 >>> ((nI (8 * (a % 8))).toInt64.toUInt64 &&& Int64.toUInt64 63)).toInt64).toInt32) &&& 255) hx hb hr (fun t ht hW => ⟨⟨_, (), rfl, by show Int32.toInt64 _ = _; rw [i255, swd_s _ (Nat.mod_lt _ (by decide))]; rfl, hP.at ht⟩, hS.F ht⟩) hS.2.2 d_M_get_29
theorem set_b (M : Nat → Int64) (a : Nat) (v : Int32) : mb (vp_updL M (a / 8) ((M (a / 8) &&& ((255 <<< ((nI (8 * (a % 8))).toInt64 &&& 63)) ^^^ (-1))) ||| ((v.toInt64 &&& 255) <<< ((nI (8 * (a % 8))).toInt64 &&& 63)))) = wrN (mb M) a 1 v.toInt64 := by
  funext b
  unfold wrN mb
  by_cases hb : b / 64 = a / 8
  · rw [hb, pk_uLs, bi_or, bi_and, bi_not _ (by omega), bi_shl _ (by omega) (by omega), bi_shl _ (by omega) (by omega), bi_and, bi_255]
    by_cases g : 8 * (a % 8) ≤ b % 64
    · by_cases g2 : b % 64 - 8 * (a % 8) < 8
      · rw [if_pos (by omega), show b - 8 * a = b % 64 - 8 * (a % 8) by omega]; simp [g, g2]
      · rw [if_neg (by omega)]; simp [g2]
    · rw [if_neg (by omega)]; simp [g]
  · rw [pk_uLn hb, if_neg (by omega)]
set_option maxHeartbeats 4000000 in
set_option maxRecDepth 100000 in
theorem t_M_set (l : Launch) (D : va_G) (cJ cI cP : ClassId) (bs : Nat) (w : Nat → Option va_E) (hm n : Nat) (cd : Int32) (M T pl : Nat → Int64) (sz : Nat → Int32) (aW aU aP aZ : Nat) (hs : mo cJ cI w hm n cd M T pl sz aW aU aP aZ) (a : Nat) (ha : a < 4096 * n) (v : Int32) : Met l y_M_set ws_M_set ({ frames := 0, cells := 0, slots := 0, locals := 0 }) (mPc D vwCl (mT cJ cI cP) bs w [.ref hm, .long (lN (2147483648 + a)), .int v]) (va_Qv (S := ((Nat → Option va_E) × (Nat → Int64))) (fun u => mo cJ cI u.1 hm n cd u.2 T pl sz aW aU aP aZ ∧ mb u.2 = wrN (mb M) a 1 v.toInt64 ∧ kM w u.1 hm aW aU aP aZ) (mB D vwCl bs (fun u => u.1)) (mA bs)) 0 0 (mA bs) := by
  refine Met.ofW (cc := c_M_set) (maxL := 6) (ret := none) (by decide) rfl ?_
  intro p e s m args below meth c s₁ B hml hv
  obtain ⟨rfl, hbs, hP, hK⟩ := hv
  have hx := B.exec
  have hb := B.bytes
  have hr := B.returns
  have htg : ∀ w ∈ gt, w.before _ s = true := fun w h => atoms_spec (ws := ws_M_set) B.pre w (List.mem_cons_of_mem _ h)
  have hown : s.vm.findClass R_M = some m.cls := findClass_of_methodNamed B.named
  have hlocks := B.notSynchronized
  have hS : va_S (mA bs) s.heap s.heap [] := va_S.rf
  have hl := lv_entry ([.ref hm, .long (lN (2147483648 + a)), .int v]) (n := 6) (Nat.le_of_ble_eq_true rfl)
  rw [lg_entry_eq]
  generalize (lg_sl ([.ref hm, .long (lN (2147483648 + a)), .int v]) ++ List.replicate (6 - (lg_sl ([.ref hm, .long (lN (2147483648 + a)), .int v])).length) Slot.unset).toArray = ls at hl ⊢
  have hl : lv_has ls 6 [(0, .ref hm), (1, .long (lN (2147483648 + a))), (3, .int v)] := hl
  obtain ⟨hn, s1, s2, s3, s4, s5⟩ := id hs
  refine lv_lload_n hx hb d_M_set_0 rfl (lv_at hl 1 rfl) ?_
  refine lv_ldc2 (own := R_M) (v := 2147483648) hx hb hown (htg _ k_453) d_M_set_1 ?_
  refine lv_lsub hx hb d_M_set_4 ?_
  refine lv_l2i hx hb d_M_set_5 rfl ?_
  rw [show ((lN (2147483648 + a)) - 2147483648).toInt32 = nI a from pl_w a]
  refine lv_istore (lv' := [(4, .int (nI a)), (0, .ref hm), (1, .long (lN (2147483648 + a))), (3, .int v)]) hx hb d_M_set_6 hl (by decide) rfl (fun ls hl => ?_)
  refine lv_bipush (v := 8) hx hb d_M_set_8 (by decide) ?_
  refine lv_iload hx hb d_M_set_10 (lv_at hl 0 rfl) ?_
  refine lv_bipush (v := 8) hx hb d_M_set_12 (by decide) ?_
  refine lv_irem hx hb d_M_set_14 (by decide) ?_
  rw [show (nI a) - (nI a) / 8 * 8 = nI (a % 8) from nIrem (by omega)]
  refine lv_imul hx hb d_M_set_15 ?_
  rw [show 8 * (nI (a % 8)) = nI (8 * (a % 8)) from (by show nI 8 * nI _ = _; exact pk_mul _ _)]
  refine lv_istore (lv' := [(5, .int (nI (8 * (a % 8)))), (4, .int (nI a)), (0, .ref hm), (1, .long (lN (2147483648 + a))), (3, .int v)]) hx hb d_M_set_16 hl (by decide) rfl (fun ls hl => ?_)
  refine lv_aload_n hx hb d_M_set_18 rfl (lv_at hl 2 rfl) ?_
  refine mw_get (C := R_M) (T := T_M) (N := 6) (ci := ciM) (v := .ref aW) hx hb htg i_M hown hK hP s1 rfl 2 (by decide) (htg _ k_413) (fun _ h9 => h9) rfl d_M_set_19 ?_
  refine lv_iload hx hb d_M_set_22 (lv_at hl 1 rfl) ?_
  refine lv_bipush (v := 8) hx hb d_M_set_24 (by decide) ?_
  refine lv_idiv hx hb d_M_set_26 (by decide) ?_
  rw [show (nI a) / 8 = nI (a / 8) from nIdiv (by omega)]
  refine lv_aload_n hx hb d_M_set_27 rfl (lv_at hl 2 rfl) ?_
  refine mw_get (C := R_M) (T := T_M) (N := 6) (ci := ciM) (v := .ref aW) hx hb htg i_M hown hK hP s1 rfl 2 (by decide) (htg _ k_413) (fun _ h9 => h9) rfl d_M_set_28 ?_
  refine lv_iload hx hb d_M_set_31 (lv_at hl 1 rfl) ?_
  refine lv_bipush (v := 8) hx hb d_M_set_33 (by decide) ?_
  refine lv_idiv hx hb d_M_set_35 (by decide) ?_
  rw [show (nI a) / 8 = nI (a / 8) from nIdiv (by omega)]
  refine mw_lald hx hb hK hP 0 s2 rfl (vp_in_nI (show a / 8 < 524288 by omega) (by omega)) d_M_set_36 ?_
  rw [show (nI (a / 8)).toNatClampNeg = a / 8 from nI_clamp (by omega)]
  refine lv_ldc2 (own := R_M) (v := 255) hx hb hown (htg _ k_476) d_M_set_37 ?_
  refine lv_iload hx hb d_M_set_40 (lv_at hl 0 rfl) ?_
  refine lv_lshl hx hb d_M_set_42 rfl ?_
  refine lv_ldc2 (own := R_M) (v := (-1)) hx hb hown (htg _ k_477) d_M_set_43 ?_
  refine lv_lxor hx hb d_M_set_46 ?_
  refine lv_land hx hb d_M_set_47 ?_
  refine lv_iload_n hx hb d_M_set_48 rfl (lv_at hl 4 rfl) ?_
  refine lv_i2l hx hb d_M_set_49 rfl ?_
  refine lv_ldc2 (own := R_M) (v := 255) hx hb hown (htg _ k_476) d_M_set_50 ?_
  refine lv_land hx hb d_M_set_53 ?_
  refine lv_iload hx hb d_M_set_54 (lv_at hl 0 rfl) ?_
  refine lv_lshl hx hb d_M_set_56 rfl ?_
  refine lv_lor hx hb d_M_set_57 ?_
  refine lv_topl (fun x_1 ex_1 => ?_)
  refine mw_last hx hb hK hP hS 0 s2 rfl (vp_in_nI (show a / 8 < 524288 by omega) (by omega)) d_M_set_58 (fun H locs hP hS hz58 => ?_)
  rw [show (nI (a / 8)).toNatClampNeg = a / 8 from nI_clamp (by omega)] at hP
  obtain ⟨w_2, ew_2⟩ : ∃ z9, z9 = va_up w aW (some (.inl (cJ, 524288, .inr (.inl (vp_updL M (a / 8) x_1)))) : Option va_E) := ⟨_, rfl⟩
  rw [← ew_2] at hP
  have h_3 : w_2 aW = some (.inl (cJ, 524288, .inr (.inl (vp_updL M (a / 8) x_1)))) := by rw [ew_2, va_up_self]
  have h_4 : w_2 hm = some (.inr (ciM, [.int cd, .int (nI n), .ref aW, .ref aU, .ref aP, .ref aZ])) := by rw [ew_2, va_up_ne _ _ (fun z => by rw [z, s2] at s1; cases s1)]; exact s1
  have h_5 : w_2 aU = some (.inl (cJ, 1024, .inr (.inl T))) := by rw [ew_2, va_up_ne _ _ (fun z => by rw [z, s2] at s3; simp at s3)]; exact s3
  have h_6 : w_2 aP = some (.inl (cJ, 4, .inr (.inl pl))) := by rw [ew_2, va_up_ne _ _ (fun z => by rw [z, s2] at s4; simp at s4)]; exact s4
  have h_7 : w_2 aZ = some (.inl (cI, 4, .inl sz)) := by rw [ew_2, va_up_ne _ _ (fun z => by rw [z, s2] at s5; simp at s5)]; exact s5
  have hmo : mo cJ cI w_2 hm n cd (vp_updL M (a / 8) x_1) T pl sz aW aU aP aZ := ⟨hn, h_4, h_3, h_5, h_6, h_7⟩
  have hkm : kM w w_2 hm aW aU aP aZ := fun q z1 z2 z3 z4 z5 => by rw [ew_2, va_up_ne _ _ z2]
  exact W.vret hx hb hr (fun t ht hW => ⟨⟨(w_2, (vp_updL M (a / 8) x_1)), rfl, ⟨hmo, by show mb (vp_updL M (a / 8) x_1) = _; rw [ex_1]; exact set_b M a v, hkm⟩, hP.at ht⟩, hS.F ht⟩) hS.2.2 d_M_set_59
