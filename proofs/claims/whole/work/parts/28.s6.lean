set_option maxHeartbeats 4000000 in
set_option maxRecDepth 100000 in
/-- putNumber -/
theorem t_S_putNumber (l : Launch) (D : va_G) (cJ cI cP : ClassId) (bs : Nat) (w : Nat → Option va_E) (h n : Nat) (M T : Nat → Int64) (ra : Nat → Int64) (rs : Nat → Int32) (aT aA aS : Nat) (pt : Nat → Option Nat) (hs : sm cJ cI cP w h n M T ra rs aT aA aS pt) (a k : Nat) (h1 : 1 ≤ k) (h8 : k ≤ 8) (hak : a + k ≤ 4096 * n) (hro : rok ra n) (v : Int64) : Met l y_S_putNumber ws_S_putNumber ({ frames := 4, cells := 4, slots := 1034, locals := 98 }) (mPc D vwCl (mT cJ cI cP) bs w [.ref h, .int (nI a), .int (nI k), .long v]) (va_Qv (S := ((Nat → Option va_E) × (Nat → Int64) × (Nat → Option Nat))) (fun u => sm cJ cI cP u.1 h n u.2.1 (tinc T (a / 4096) ((a + k - 1) / 4096 + 1)) (lost ra (a / 8) ((a + k - 1) / 8)) rs aT aA aS u.2.2 ∧ mb u.2.1 = wrN (mb M) a k v ∧ kp w u.1 (sfp w h) (sfp u.1 h)) (mB D vwCl bs (fun u => u.1)) (mA bs)) 4 1034 (mA bs) := by
  refine Met.ofW (cc := c_S_putNumber) (maxL := 9) (ret := none) (by decide) rfl ?_
  intro p e s m args below meth c s₁ B hml hv
  obtain ⟨rfl, hbs, hP, hK⟩ := hv
  have hx := B.exec
  have hb := B.bytes
  have hr := B.returns
  have htg : ∀ w ∈ gt, w.before _ s = true := fun w h => atoms_spec (ws := ws_S_putNumber) B.pre w (List.mem_cons_of_mem _ h)
  have hown : s.vm.findClass R_S = some m.cls := findClass_of_methodNamed B.named
  have hlocks := B.notSynchronized
  have hS : va_S (mA bs) s.heap s.heap [] := va_S.rf
  have hl := lv_entry ([.ref h, .int (nI a), .int (nI k), .long v]) (n := 9) (Nat.le_of_ble_eq_true rfl)
  rw [lg_entry_eq]
  generalize (lg_sl ([.ref h, .int (nI a), .int (nI k), .long v]) ++ List.replicate (9 - (lg_sl ([.ref h, .int (nI a), .int (nI k), .long v])).length) Slot.unset).toArray = ls at hl ⊢
  have hl : lv_has ls 9 [(0, .ref h), (1, .int (nI a)), (2, .int (nI k)), (3, .long v)] := hl
  obtain ⟨hn, s1, s2, s3, s4, s5, s6, s7⟩ := id hs
  have f1 : w h = some (.inr (ciS, [.int (nI n), .ref aT, .ref aA, .ref aS])) := s1
  refine lv_iload_n hx hb d_S_putNumber_0 rfl (lv_at hl 1 rfl) ?_
  refine lv_iconst (v := 3) hx hb d_S_putNumber_1 (by decide) ?_
  refine lv_ishr hx hb d_S_putNumber_2 ?_
  rw [show (nI a) >>> (3 &&& 31) = nI (a / 8) from ish a 3 (by omega) (by omega)]
  refine lv_istore (lv' := [(5, .int (nI (a / 8))), (0, .ref h), (1, .int (nI a)), (2, .int (nI k)), (3, .long v)]) hx hb d_S_putNumber_3 hl (by decide) rfl (fun ls hl => ?_)
  refine lv_iload_n hx hb d_S_putNumber_5 rfl (lv_at hl 2 rfl) ?_
  refine mc_i (va_runS (As := [.int (nI a)]) (rest := []) ⟨hx, hb, hml, hown, htg⟩ (t_S_shiftInWord l D cJ cI cP bs w a (by omega)) (cwS (own := R_S) 1 htg (ginS k_189 k_190 k_25 k_191) rfl rfl rfl (by decide +kernel) ⟨Nat.le_of_ble_eq_true rfl, Nat.le_of_ble_eq_true rfl⟩) (mPc.preS hbs hS hP hK) rfl rfl hl.1 rfl (lv_room (Nat.le_of_ble_eq_true rfl)) d_S_putNumber_6 ⟨Nat.le_of_ble_eq_true rfl, Nat.le_of_ble_eq_true rfl⟩) hS (fun r6 u6 H locs hw hP hz6 hS => ?_)
  subst hw
  refine lv_istore (lv' := [(6, .int (nI (8 * (a % 8)))), (5, .int (nI (a / 8))), (0, .ref h), (1, .int (nI a)), (2, .int (nI k)), (3, .long v)]) hx hb d_S_putNumber_9 hl (by decide) rfl (fun ls hl => ?_)
  refine lv_iload_n hx hb d_S_putNumber_11 rfl (lv_at hl 4 rfl) ?_
  refine mc_l (va_runS (As := [.int (nI k)]) (rest := []) ⟨hx, hb, hml, hown, htg⟩ (t_S_lowestBytes l D cJ cI cP bs w k h8) (cwS (own := R_S) 1 htg (ginS k_200 k_201 k_25 k_202) rfl rfl rfl (by decide +kernel) ⟨Nat.le_of_ble_eq_true rfl, Nat.le_of_ble_eq_true rfl⟩) (mPc.preS hbs hS hP hK) rfl rfl hl.1 rfl (lv_room (Nat.le_of_ble_eq_true rfl)) d_S_putNumber_12 ⟨Nat.le_of_ble_eq_true rfl, Nat.le_of_ble_eq_true rfl⟩) hS (fun r12 u12 H locs hw hP hz12 hS => ?_)
  subst hw
  refine lv_lstore (lv' := [(7, .long (lowB k)), (6, .int (nI (8 * (a % 8)))), (5, .int (nI (a / 8))), (0, .ref h), (1, .int (nI a)), (2, .int (nI k)), (3, .long v)]) hx hb d_S_putNumber_15 hl (by decide) rfl (fun ls hl => ?_)
  refine lv_aload_n hx hb d_S_putNumber_17 rfl (lv_at hl 3 rfl) ?_
  refine lv_iload hx hb d_S_putNumber_18 (lv_at hl 2 rfl) ?_
  refine lv_lload hx hb d_S_putNumber_20 (lv_at hl 0 rfl) ?_
  refine lv_iload hx hb d_S_putNumber_22 (lv_at hl 1 rfl) ?_
  refine lv_lshl hx hb d_S_putNumber_24 rfl ?_
  refine lv_lload_n hx hb d_S_putNumber_25 rfl (lv_at hl 6 rfl) ?_
  refine lv_iload hx hb d_S_putNumber_26 (lv_at hl 1 rfl) ?_
  refine lv_lshl hx hb d_S_putNumber_28 rfl ?_
  refine mc_v (va_runV (As := [.int (nI (a / 8)), .long ((lowB k) <<< ((nI (8 * (a % 8))).toInt64 &&& 63)), .long (v <<< ((nI (8 * (a % 8))).toInt64 &&& 63))]) (rest := []) ⟨hx, hb, hml, hown, htg⟩ (t_S_mergeWord l D cJ cI cP bs w h n M T ra rs aT aA aS pt hs (a / 8) (by omega) ((lowB k) <<< ((nI (8 * (a % 8))).toInt64 &&& 63)) (v <<< ((nI (8 * (a % 8))).toInt64 &&& 63))) (cwV (own := R_S) (C := R_S) 3 htg (ginV k_215 k_217 k_6 k_25 k_218) rfl rfl rfl (by decide +kernel) ⟨Nat.le_of_ble_eq_true rfl, Nat.le_of_ble_eq_true rfl⟩) (mPc.preV (ci := ciS) (q := (R_S, T_S, 4)) hbs hS hP hK rfl f1) rfl rfl hl.1 rfl (lv_room (Nat.le_of_ble_eq_true rfl)) d_S_putNumber_29 ⟨Nat.le_of_ble_eq_true rfl, Nat.le_of_ble_eq_true rfl⟩) hS (fun u29 H locs hw hP hz29 hS => ?_)
  obtain ⟨w1, pt1⟩ := u29
  obtain ⟨a1, b1, c1, d1⟩ := hw
  have a1 : sm cJ cI cP w1 h n (va_up M (a / 8) (mrg (M (a / 8)) ((lowB k) <<< ((nI (8 * (a % 8))).toInt64 &&& 63)) (v <<< ((nI (8 * (a % 8))).toInt64 &&& 63)))) T ra rs aT aA aS pt1 := a1
  have b1 : kp w w1 (sfp w h) (sfp w1 h) := b1
  have c1 : ∀ j, ¬ pt j = none → ¬ pt1 j = none := c1
  have d1 : ¬ pt1 ((a / 8) / 512) = none := d1
  have hP : mw D vwCl bs w1 H := hP
  have f1 : w1 h = some (.inr (ciS, [.int (nI n), .ref aT, .ref aA, .ref aS])) := a1.2.1
  refine lv_iload hx hb d_S_putNumber_32 (lv_at hl 1 rfl) ?_
  refine lv_bipush (v := 8) hx hb d_S_putNumber_34 (by decide) ?_
  refine lv_iload_n hx hb d_S_putNumber_36 rfl (lv_at hl 5 rfl) ?_
  refine lv_imul hx hb d_S_putNumber_37 ?_
  refine lv_iadd hx hb d_S_putNumber_38 ?_
  rw [show (nI (8 * (a % 8))) + (8 * (nI k)) = nI (8 * (a % 8) + 8 * k) from (by show nI _ + nI 8 * nI k = _; rw [pk_mul, nI_add])]
  refine lv_bipush (v := 64) hx hb d_S_putNumber_39 (by decide) ?_
  refine lv_icmp_le (tgt := 67) hx hb d_S_putNumber_41 (by decide) (fun c41 => ?_) (fun c41 => ?_)
  · refine lv_aload_n hx hb d_S_putNumber_67 rfl (lv_at hl 3 rfl) ?_
    refine lv_iload_n hx hb d_S_putNumber_68 rfl (lv_at hl 4 rfl) ?_
    refine lv_iload_n hx hb d_S_putNumber_69 rfl (lv_at hl 4 rfl) ?_
    refine lv_iload_n hx hb d_S_putNumber_70 rfl (lv_at hl 5 rfl) ?_
    refine lv_iadd hx hb d_S_putNumber_71 ?_
    refine lv_iconst (v := 1) hx hb d_S_putNumber_72 (by decide) ?_
    refine lv_isub hx hb d_S_putNumber_73 ?_
    rw [show ((nI a) + (nI k)) - 1 = nI (a + k - 1) from (by rw [nI_add]; show nI _ - nI 1 = _; exact pk_sub (by omega))]
    have hle : 8 * (a % 8) + 8 * k ≤ 64 := (nI_leI (by omega) (by omega)).mp (show nI _ ≤ nI 64 from c41)
    have hall : ∀ i, a / 4096 ≤ i → i ≤ (a + k - 1) / 4096 → ¬ pt1 i = none := by
      intro i g1 g2
      rw [show i = a / 8 / 512 by omega]; exact d1
    obtain ⟨M2, eM2⟩ : ∃ z9, z9 = va_up M (a / 8) (mrg (M (a / 8)) ((lowB k) <<< ((nI (8 * (a % 8))).toInt64 &&& 63)) (v <<< ((nI (8 * (a % 8))).toInt64 &&& 63))) := ⟨_, rfl⟩
    rw [← eM2] at a1
    refine mc_v (va_runV (As := [.int (nI a), .int (nI (a + k - 1))]) (rest := []) ⟨hx, hb, hml, hown, htg⟩ (t_S_note l D cJ cI cP bs w1 h n M2 T ra rs aT aA aS pt1 a1 a (a + k - 1) (by omega) (by omega) hro hall) (cwV (own := R_S) (C := R_S) 2 htg (ginV k_257 k_259 k_9 k_25 k_260) rfl rfl rfl (by decide +kernel) ⟨Nat.le_of_ble_eq_true rfl, Nat.le_of_ble_eq_true rfl⟩) (mPc.preV (ci := ciS) (q := (R_S, T_S, 4)) hbs hS hP hK rfl f1) rfl rfl hl.1 rfl (lv_room (Nat.le_of_ble_eq_true rfl)) d_S_putNumber_74 ⟨Nat.le_of_ble_eq_true rfl, Nat.le_of_ble_eq_true rfl⟩) hS (fun w9 H locs hw hP hz74 hS => ?_)
    have hmb : mb M2 = wrN (mb M) a k v := by
      rw [eM2]
      exact st_one M v h1 h8 hle
    refine W.widen (k := 4) (n := 1034) (Nat.le_of_ble_eq_true rfl) (Nat.le_of_ble_eq_true rfl) ?_
    exact W.vret hx hb hr (fun t ht hW => ⟨⟨(w9, M2, pt1), rfl, ⟨hw.1, hmb, b1.trans hw.2⟩, hP.at ht⟩, hS.F ht⟩) hS.2.2 d_S_putNumber_77
  · have hgt : 64 < 8 * (a % 8) + 8 * k := Nat.lt_of_not_le (fun z => c41 (show nI _ ≤ nI 64 from nI_le z (by omega)))
    refine lv_aload_n hx hb d_S_putNumber_44 rfl (lv_at hl 3 rfl) ?_
    refine lv_iload hx hb d_S_putNumber_45 (lv_at hl 2 rfl) ?_
    refine lv_iconst (v := 1) hx hb d_S_putNumber_47 (by decide) ?_
    refine lv_iadd hx hb d_S_putNumber_48 ?_
    rw [show (nI (a / 8)) + 1 = nI (a / 8 + 1) from nI_1 _]
    refine lv_lload hx hb d_S_putNumber_49 (lv_at hl 0 rfl) ?_
    refine lv_bipush (v := 64) hx hb d_S_putNumber_51 (by decide) ?_
    refine lv_iload hx hb d_S_putNumber_53 (lv_at hl 1 rfl) ?_
    refine lv_isub hx hb d_S_putNumber_55 ?_
    rw [show 64 - (nI (8 * (a % 8))) = nI (64 - 8 * (a % 8)) from (by show nI 64 - nI _ = _; exact pk_sub (by omega))]
    refine lv_lushr hx hb d_S_putNumber_56 rfl ?_
    refine lv_lload_n hx hb d_S_putNumber_57 rfl (lv_at hl 6 rfl) ?_
    refine lv_bipush (v := 64) hx hb d_S_putNumber_58 (by decide) ?_
    refine lv_iload hx hb d_S_putNumber_60 (lv_at hl 1 rfl) ?_
    refine lv_isub hx hb d_S_putNumber_62 ?_
    rw [show 64 - (nI (8 * (a % 8))) = nI (64 - 8 * (a % 8)) from (by show nI 64 - nI _ = _; exact pk_sub (by omega))]
    refine lv_lushr hx hb d_S_putNumber_63 rfl ?_
    refine mc_v (va_runV (As := [.int (nI (a / 8 + 1)), .long (((lowB k).toUInt64 >>> ((nI (64 - 8 * (a % 8))).toInt64.toUInt64 &&& Int64.toUInt64 63)).toInt64), .long ((v.toUInt64 >>> ((nI (64 - 8 * (a % 8))).toInt64.toUInt64 &&& Int64.toUInt64 63)).toInt64)]) (rest := []) ⟨hx, hb, hml, hown, htg⟩ (t_S_mergeWord l D cJ cI cP bs w1 h n (va_up M (a / 8) (mrg (M (a / 8)) ((lowB k) <<< ((nI (8 * (a % 8))).toInt64 &&& 63)) (v <<< ((nI (8 * (a % 8))).toInt64 &&& 63)))) T ra rs aT aA aS pt1 a1 (a / 8 + 1) (by omega) (((lowB k).toUInt64 >>> ((nI (64 - 8 * (a % 8))).toInt64.toUInt64 &&& Int64.toUInt64 63)).toInt64) ((v.toUInt64 >>> ((nI (64 - 8 * (a % 8))).toInt64.toUInt64 &&& Int64.toUInt64 63)).toInt64)) (cwV (own := R_S) (C := R_S) 3 htg (ginV k_215 k_217 k_6 k_25 k_218) rfl rfl rfl (by decide +kernel) ⟨Nat.le_of_ble_eq_true rfl, Nat.le_of_ble_eq_true rfl⟩) (mPc.preV (ci := ciS) (q := (R_S, T_S, 4)) hbs hS hP hK rfl f1) rfl rfl hl.1 rfl (lv_room (Nat.le_of_ble_eq_true rfl)) d_S_putNumber_64 ⟨Nat.le_of_ble_eq_true rfl, Nat.le_of_ble_eq_true rfl⟩) hS (fun u64 H locs hw hP hz64 hS => ?_)
    obtain ⟨w2, pt2⟩ := u64
    obtain ⟨a2, b2, c2, d2⟩ := hw
    have a2 : sm cJ cI cP w2 h n (va_up (va_up M (a / 8) (mrg (M (a / 8)) ((lowB k) <<< ((nI (8 * (a % 8))).toInt64 &&& 63)) (v <<< ((nI (8 * (a % 8))).toInt64 &&& 63)))) (a / 8 + 1) (mrg ((va_up M (a / 8) (mrg (M (a / 8)) ((lowB k) <<< ((nI (8 * (a % 8))).toInt64 &&& 63)) (v <<< ((nI (8 * (a % 8))).toInt64 &&& 63)))) (a / 8 + 1)) (((lowB k).toUInt64 >>> ((nI (64 - 8 * (a % 8))).toInt64.toUInt64 &&& Int64.toUInt64 63)).toInt64) ((v.toUInt64 >>> ((nI (64 - 8 * (a % 8))).toInt64.toUInt64 &&& Int64.toUInt64 63)).toInt64))) T ra rs aT aA aS pt2 := a2
    have b2 : kp w1 w2 (sfp w1 h) (sfp w2 h) := b2
    have c2 : ∀ j, ¬ pt1 j = none → ¬ pt2 j = none := c2
    have d2 : ¬ pt2 ((a / 8 + 1) / 512) = none := d2
    have hP : mw D vwCl bs w2 H := hP
    have f1 : w2 h = some (.inr (ciS, [.int (nI n), .ref aT, .ref aA, .ref aS])) := a2.2.1
    refine lv_aload_n hx hb d_S_putNumber_67 rfl (lv_at hl 3 rfl) ?_
    refine lv_iload_n hx hb d_S_putNumber_68 rfl (lv_at hl 4 rfl) ?_
    refine lv_iload_n hx hb d_S_putNumber_69 rfl (lv_at hl 4 rfl) ?_
    refine lv_iload_n hx hb d_S_putNumber_70 rfl (lv_at hl 5 rfl) ?_
    refine lv_iadd hx hb d_S_putNumber_71 ?_
    refine lv_iconst (v := 1) hx hb d_S_putNumber_72 (by decide) ?_
    refine lv_isub hx hb d_S_putNumber_73 ?_
    rw [show ((nI a) + (nI k)) - 1 = nI (a + k - 1) from (by rw [nI_add]; show nI _ - nI 1 = _; exact pk_sub (by omega))]
    have hall : ∀ i, a / 4096 ≤ i → i ≤ (a + k - 1) / 4096 → ¬ pt2 i = none := by
      intro i g1 g2
      rcases (show i = a / 8 / 512 ∨ i = (a / 8 + 1) / 512 by omega) with e | e
      · rw [e]; exact c2 _ d1
      · rw [e]; exact d2
    obtain ⟨M2, eM2⟩ : ∃ z9, z9 = va_up (va_up M (a / 8) (mrg (M (a / 8)) ((lowB k) <<< ((nI (8 * (a % 8))).toInt64 &&& 63)) (v <<< ((nI (8 * (a % 8))).toInt64 &&& 63)))) (a / 8 + 1) (mrg ((va_up M (a / 8) (mrg (M (a / 8)) ((lowB k) <<< ((nI (8 * (a % 8))).toInt64 &&& 63)) (v <<< ((nI (8 * (a % 8))).toInt64 &&& 63)))) (a / 8 + 1)) (((lowB k).toUInt64 >>> ((nI (64 - 8 * (a % 8))).toInt64.toUInt64 &&& Int64.toUInt64 63)).toInt64) ((v.toUInt64 >>> ((nI (64 - 8 * (a % 8))).toInt64.toUInt64 &&& Int64.toUInt64 63)).toInt64)) := ⟨_, rfl⟩
    rw [← eM2] at a2
    refine mc_v (va_runV (As := [.int (nI a), .int (nI (a + k - 1))]) (rest := []) ⟨hx, hb, hml, hown, htg⟩ (t_S_note l D cJ cI cP bs w2 h n M2 T ra rs aT aA aS pt2 a2 a (a + k - 1) (by omega) (by omega) hro hall) (cwV (own := R_S) (C := R_S) 2 htg (ginV k_257 k_259 k_9 k_25 k_260) rfl rfl rfl (by decide +kernel) ⟨Nat.le_of_ble_eq_true rfl, Nat.le_of_ble_eq_true rfl⟩) (mPc.preV (ci := ciS) (q := (R_S, T_S, 4)) hbs hS hP hK rfl f1) rfl rfl hl.1 rfl (lv_room (Nat.le_of_ble_eq_true rfl)) d_S_putNumber_74 ⟨Nat.le_of_ble_eq_true rfl, Nat.le_of_ble_eq_true rfl⟩) hS (fun w9 H locs hw hP hz74 hS => ?_)
    have hmb : mb M2 = wrN (mb M) a k v := by
      rw [eM2, va_up_ne _ _ (show ¬ a / 8 + 1 = a / 8 by omega)]
      exact st_two M v h1 h8 hgt
    exact W.vret hx hb hr (fun t ht hW => ⟨⟨(w9, M2, pt2), rfl, ⟨hw.1, hmb, (b1.trans b2).trans hw.2⟩, hP.at ht⟩, hS.F ht⟩) hS.2.2 d_S_putNumber_77
def wsg (v : Int64) (k : Nat) : Int64 := if nI k = 4 then v.toInt32.toInt64 else v
set_option maxHeartbeats 4000000 in
set_option maxRecDepth 100000 in
/-- reserve -/
theorem t_S_reserve (l : Launch) (D : va_G) (cJ cI cP : ClassId) (bs : Nat) (w : Nat → Option va_E) (h n : Nat) (M T : Nat → Int64) (ra : Nat → Int64) (rs : Nat → Int32) (aT aA aS : Nat) (pt : Nat → Option Nat) (hs : sm cJ cI cP w h n M T ra rs aT aA aS pt) (pr : Nat) (hpr : pr < 4) (a k : Nat) (h1 : 1 ≤ k) (h8 : k ≤ 8) (hak : a + k ≤ 4096 * n) : Met l y_S_reserve ws_S_reserve ({ frames := 3, cells := 0, slots := 0, locals := 69 }) (mPc D vwCl (mT cJ cI cP) bs w [.ref h, .int (nI pr), .long (lN (2147483648 + a)), .int (nI k)]) (va_Ql (S := (Nat → Option va_E)) (fun r u => sm cJ cI cP u h n M T (vp_updL ra pr (lN (2147483648 + a))) (upd rs pr (nI k)) aT aA aS pt ∧ kp w u (sfp w h) (sfp u h) ∧ ∃ num, r = wsg num k ∧ ∀ i, i < 64 → bi num i = rdN (mb M) a k i) (mB D vwCl bs (fun u => u)) (mA bs)) 0 0 (mA bs) := by
  refine Met.ofW (cc := c_S_reserve) (maxL := 5) (ret := (some .long)) (by decide) rfl ?_
  intro p e s m args below meth c s₁ B hml hv
  obtain ⟨rfl, hbs, hP, hK⟩ := hv
  have hx := B.exec
  have hb := B.bytes
  have hr := B.returns
  have htg : ∀ w ∈ gt, w.before _ s = true := fun w h => atoms_spec (ws := ws_S_reserve) B.pre w (List.mem_cons_of_mem _ h)
  have hown : s.vm.findClass R_S = some m.cls := findClass_of_methodNamed B.named
  have hlocks := B.notSynchronized
  have hS : va_S (mA bs) s.heap s.heap [] := va_S.rf
  have hl := lv_entry ([.ref h, .int (nI pr), .long (lN (2147483648 + a)), .int (nI k)]) (n := 5) (Nat.le_of_ble_eq_true rfl)
  rw [lg_entry_eq]
  generalize (lg_sl ([.ref h, .int (nI pr), .long (lN (2147483648 + a)), .int (nI k)]) ++ List.replicate (5 - (lg_sl ([.ref h, .int (nI pr), .long (lN (2147483648 + a)), .int (nI k)])).length) Slot.unset).toArray = ls at hl ⊢
  have hl : lv_has ls 5 [(0, .ref h), (1, .int (nI pr)), (2, .long (lN (2147483648 + a))), (4, .int (nI k))] := hl
  obtain ⟨hn, s1, s2, s3, s4, s5, s6, s7⟩ := id hs
  have f1 : w h = some (.inr (ciS, [.int (nI n), .ref aT, .ref aA, .ref aS])) := s1
  refine lv_aload_n hx hb d_S_reserve_0 rfl (lv_at hl 0 rfl) ?_
  refine mw_get (C := R_S) (T := T_S) (N := 4) (ci := ciS) (v := .ref aA) hx hb htg i_S hown hK hP f1 rfl 2 (by decide) (htg _ k_48) (fun _ h9 => h9) rfl d_S_reserve_1 ?_
  refine lv_iload_n hx hb d_S_reserve_4 rfl (lv_at hl 1 rfl) ?_
  refine lv_lload_n hx hb d_S_reserve_5 rfl (lv_at hl 2 rfl) ?_
  refine mw_last hx hb hK hP hS 0 s3 rfl (vp_in_nI hpr (by omega)) d_S_reserve_6 (fun H locs hP hS hz6 => ?_)
  rw [show (nI pr).toNatClampNeg = pr from nI_clamp (by omega)] at hP
  obtain ⟨w_1, ew_1⟩ : ∃ z9, z9 = va_up w aA (some (.inl (cJ, 4, .inr (.inl (vp_updL ra pr (lN (2147483648 + a)))))) : Option va_E) := ⟨_, rfl⟩
  rw [← ew_1] at hP
  have h_2 : w_1 aA = some (.inl (cJ, 4, .inr (.inl (vp_updL ra pr (lN (2147483648 + a)))))) := by rw [ew_1, va_up_self]
  have h_3 : w_1 h = some (.inr (ciS, [.int (nI n), .ref aT, .ref aA, .ref aS])) := by rw [ew_1, va_up_ne _ _ (fun z => by rw [z, s3] at f1; cases f1)]; exact f1
  have h_4 : w_1 aT = some (.inl (cP, n, .inr (.inr (.inr (.inr pt))))) := by rw [ew_1, va_up_ne _ _ (fun z => by rw [z, s3] at s2; simp at s2)]; exact s2
  have h_5 : w_1 aS = some (.inl (cI, 4, .inl rs)) := by rw [ew_1, va_up_ne _ _ (fun z => by rw [z, s3] at s4; simp at s4)]; exact s4
  have q1 := sm_ra hs (vp_updL ra pr (lN (2147483648 + a)))
  rw [← ew_1] at q1
  refine lv_aload_n hx hb d_S_reserve_7 rfl (lv_at hl 0 rfl) ?_
  refine mw_get (C := R_S) (T := T_S) (N := 4) (ci := ciS) (v := .ref aS) hx hb htg i_S hown hK hP h_3 rfl 3 (by decide) (htg _ k_49) (fun _ h9 => h9) rfl d_S_reserve_8 ?_
  refine lv_iload_n hx hb d_S_reserve_11 rfl (lv_at hl 1 rfl) ?_
  refine lv_iload hx hb d_S_reserve_12 (lv_at hl 3 rfl) ?_
  refine mw_iast hx hb hK hP hS 1 h_5 rfl (vp_in_nI hpr (by omega)) d_S_reserve_14 (fun H locs hP hS hz14 => ?_)
  rw [show (nI pr).toNatClampNeg = pr from nI_clamp (by omega)] at hP
  obtain ⟨w_6, ew_6⟩ : ∃ z9, z9 = va_up w_1 aS (some (.inl (cI, 4, .inl (upd rs pr (nI k)))) : Option va_E) := ⟨_, rfl⟩
  rw [← ew_6] at hP
  have h_7 : w_6 aS = some (.inl (cI, 4, .inl (upd rs pr (nI k)))) := by rw [ew_6, va_up_self]
  have h_8 : w_6 aA = some (.inl (cJ, 4, .inr (.inl (vp_updL ra pr (lN (2147483648 + a)))))) := by rw [ew_6, va_up_ne _ _ (fun z => by rw [z, h_5] at h_2; simp at h_2)]; exact h_2
  have h_9 : w_6 h = some (.inr (ciS, [.int (nI n), .ref aT, .ref aA, .ref aS])) := by rw [ew_6, va_up_ne _ _ (fun z => by rw [z, h_5] at h_3; cases h_3)]; exact h_3
  have h_10 : w_6 aT = some (.inl (cP, n, .inr (.inr (.inr (.inr pt))))) := by rw [ew_6, va_up_ne _ _ (fun z => by rw [z, h_5] at h_4; simp at h_4)]; exact h_4
  have q2 := sm_rs q1.1 (upd rs pr (nI k))
  rw [← ew_6] at q2
  refine lv_aload_n hx hb d_S_reserve_15 rfl (lv_at hl 0 rfl) ?_
  refine lv_lload_n hx hb d_S_reserve_16 rfl (lv_at hl 2 rfl) ?_
  refine mc_i (va_runS (As := [.long (lN (2147483648 + a))]) (rest := [.ref h]) ⟨hx, hb, hml, hown, htg⟩ (t_S_placeOf l D cJ cI cP bs w_6 a) (cwS (own := R_S) 1 htg (ginS k_182 k_183 k_25 k_184) rfl rfl rfl (by decide +kernel) ⟨Nat.le_of_ble_eq_true rfl, Nat.le_of_ble_eq_true rfl⟩) (mPc.preS hbs hS hP hK) rfl rfl hl.1 rfl (lv_room (Nat.le_of_ble_eq_true rfl)) d_S_reserve_17 ⟨Nat.le_of_ble_eq_true rfl, Nat.le_of_ble_eq_true rfl⟩) hS (fun r17 u17 H locs hw hP hz17 hS => ?_)
  subst hw
  refine lv_iload hx hb d_S_reserve_20 (lv_at hl 3 rfl) ?_
  refine mc_l (va_runV (As := [.int (nI a), .int (nI k)]) (rest := []) ⟨hx, hb, hml, hown, htg⟩ (t_S_numberAt l D cJ cI cP bs w_6 h n M T (vp_updL ra pr (lN (2147483648 + a))) (upd rs pr (nI k)) aT aA aS pt q2.1 a k h1 h8 hak) (cwV (own := R_S) (C := R_S) 2 htg (ginV k_185 k_187 k_3 k_25 k_188) rfl rfl rfl (by decide +kernel) ⟨Nat.le_of_ble_eq_true rfl, Nat.le_of_ble_eq_true rfl⟩) (mPc.preV (ci := ciS) (q := (R_S, T_S, 4)) hbs hS hP hK rfl h_9) rfl rfl hl.1 rfl (lv_room (Nat.le_of_ble_eq_true rfl)) d_S_reserve_22 ⟨Nat.le_of_ble_eq_true rfl, Nat.le_of_ble_eq_true rfl⟩) hS (fun num u22 H locs hnum hP hz22 hS => ?_)
  refine lv_iload hx hb d_S_reserve_25 (lv_at hl 3 rfl) ?_
  refine mc_l (va_runS (As := [.long num, .int (nI k)]) (rest := []) ⟨hx, hb, hml, hown, htg⟩ (t_S_withSign l D cJ cI cP bs w_6 num (nI k)) (cwS (own := R_S) 2 htg (ginS k_337 k_338 k_25 k_339) rfl rfl rfl (by decide +kernel) ⟨Nat.le_of_ble_eq_true rfl, Nat.le_of_ble_eq_true rfl⟩) (mPc.preS hbs hS hP hK) rfl rfl hl.1 rfl (lv_room (Nat.le_of_ble_eq_true rfl)) d_S_reserve_27 ⟨Nat.le_of_ble_eq_true rfl, Nat.le_of_ble_eq_true rfl⟩) hS (fun r27 u27 H locs hw hP hz27 hS => ?_)
  subst hw
  change W _ _ _ _ _ _ _ _ _ _ _ _ _ _ _ (F0 m 30 ls [.long (wsg num k)])
  exact W.lret (v := wsg num k) hx hb hr (fun t ht hW => ⟨⟨_, w_6, rfl, ⟨q2.1, q1.2.trans q2.2, num, rfl, hnum⟩, hP.at ht⟩, hS.F ht⟩) hS.2.2 d_S_reserve_30
