set_option maxHeartbeats 4000000 in
set_option maxRecDepth 100000 in
/-- load -/
theorem t_M_load (l : Launch) (D : va_G) (cJ cI cP : ClassId) (bs : Nat) (w : Nat → Option va_E) (hm n : Nat) (cd : Int32) (M T pl : Nat → Int64) (sz : Nat → Int32) (aW aU aP aZ : Nat) (hs : mo cJ cI w hm n cd M T pl sz aW aU aP aZ) (x : Int64) (y : Int32) : Met l y_M_load ws_M_load ({ frames := 2, cells := 0, slots := 0, locals := 49 }) (mPc D vwCl (mT cJ cI cP) bs w [.ref hm, .long x, .int y]) (va_Ql (S := (Nat → Option va_E)) (fun r u => kM w u hm aW aU aP aZ ∧ ((¬ szK y ∧ mo cJ cI u hm n 1 M T pl sz aW aU aP aZ) ∨ (szK y ∧ (∃ k, y = nI k ∧ k ≤ 8 ∧ ¬ ∃ a, inM x n k a) ∧ mo cJ cI u hm n 2 M T pl sz aW aU aP aZ) ∨ (∃ a k, y = nI k ∧ szK y ∧ 1 ≤ k ∧ k ≤ 8 ∧ inM x n k a ∧ (∀ i, i < 64 → bi r i = rdN (mb M) a k i) ∧ mo cJ cI u hm n 0 M T pl sz aW aU aP aZ))) (mB D vwCl bs (fun u => u)) (mA bs)) 0 0 (mA bs) := by
  refine Met.ofW (cc := c_M_load) (maxL := 4) (ret := (some .long)) (by decide) rfl ?_
  intro p e s m args below meth c s₁ B hml hv
  obtain ⟨rfl, hbs, hP, hK⟩ := hv
  have hx := B.exec
  have hb := B.bytes
  have hr := B.returns
  have htg : ∀ w ∈ gt, w.before _ s = true := fun w h => atoms_spec (ws := ws_M_load) B.pre w (List.mem_cons_of_mem _ h)
  have hown : s.vm.findClass R_M = some m.cls := findClass_of_methodNamed B.named
  have hlocks := B.notSynchronized
  have hS : va_S (mA bs) s.heap s.heap [] := va_S.rf
  have hl := lv_entry ([.ref hm, .long x, .int y]) (n := 4) (Nat.le_of_ble_eq_true rfl)
  rw [lg_entry_eq]
  generalize (lg_sl ([.ref hm, .long x, .int y]) ++ List.replicate (4 - (lg_sl ([.ref hm, .long x, .int y])).length) Slot.unset).toArray = ls at hl ⊢
  have hl : lv_has ls 4 [(0, .ref hm), (1, .long x), (3, .int y)] := hl
  obtain ⟨hn, s1, s2, s3, s4, s5⟩ := id hs
  refine lv_aload_n hx hb d_M_load_0 rfl (lv_at hl 0 rfl) ?_
  refine lv_iload_n hx hb d_M_load_1 rfl (lv_at hl 2 rfl) ?_
  refine mc_i (va_runS (As := [.int y]) (rest := [.ref hm]) ⟨hx, hb, hml, hown, htg⟩ (t_M_isSize l D cJ cI cP bs w y) (cwS (own := R_M) 1 htg (ginS k_442 k_443 k_26 k_444) rfl rfl rfl (by decide +kernel) ⟨Nat.le_of_ble_eq_true rfl, Nat.le_of_ble_eq_true rfl⟩) (mPc.preS hbs hS hP hK) rfl rfl hl.1 rfl (lv_room (Nat.le_of_ble_eq_true rfl)) d_M_load_2 ⟨Nat.le_of_ble_eq_true rfl, Nat.le_of_ble_eq_true rfl⟩) hS (fun r2 u2 H locs hw hP hz2 hS => ?_)
  have hsz := hw
  refine lv_if_ne (tgt := 12) hx hb d_M_load_5 (by decide) (fun c5 => ?_) (fun c5 => ?_)
  · have hok : szK y := Classical.byContradiction (fun z => by rw [if_neg z] at hsz; exact c5 hsz)
    obtain ⟨k, rfl, h1, h8⟩ := szK_of hok
    have hl : lv_has ls 4 [(0, .ref hm), (1, .long x), (3, .int (nI k))] := hl
    refine lv_aload_n hx hb d_M_load_12 rfl (lv_at hl 0 rfl) ?_
    refine lv_lload_n hx hb d_M_load_13 rfl (lv_at hl 1 rfl) ?_
    refine lv_iload_n hx hb d_M_load_14 rfl (lv_at hl 2 rfl) ?_
    refine mc_i (va_runV (As := [.long x, .int (nI k)]) (rest := [.ref hm]) ⟨hx, hb, hml, hown, htg⟩ (t_M_areBytes l D cJ cI cP bs w hm n cd M T pl sz aW aU aP aZ hs x k h1 h8) (cwV (own := R_M) (C := R_M) 2 htg (ginV k_445 k_447 k_17 k_26 k_448) rfl rfl rfl (by decide +kernel) ⟨Nat.le_of_ble_eq_true rfl, Nat.le_of_ble_eq_true rfl⟩) (mPc.preV (ci := ciM) (q := (R_M, T_M, 6)) hbs hS hP hK rfl s1) rfl rfl hl.1 rfl (lv_room (Nat.le_of_ble_eq_true rfl)) d_M_load_15 ⟨Nat.le_of_ble_eq_true rfl, Nat.le_of_ble_eq_true rfl⟩) hS (fun r15 u15 H locs hw hP hz15 hS => ?_)
    have hin := hw
    refine lv_if_ne (tgt := 25) hx hb d_M_load_18 (by decide) (fun c18 => ?_) (fun c18 => ?_)
    · obtain ⟨a, ha⟩ : ∃ a, inM x n k a := by
        rcases hin with z | z
        · exact z.2
        · exact absurd z.1 c18
      obtain ⟨rfl, hak⟩ := id ha
      have hl : lv_has ls 4 [(0, .ref hm), (1, .long (lN (2147483648 + a))), (3, .int (nI k))] := hl
      refine lv_iconst (v := 0) hx hb d_M_load_25 (by decide) ?_
      refine mw_put (C := R_M) (T := T_M) (N := 6) (ci := ciM) (v := .int 0) (ty := .int) (fs' := [.int 0, .int (nI n), .ref aW, .ref aU, .ref aP, .ref aZ]) hx hb htg i_M ty_M tk_M nm_M hown hK hP hS s1 rfl 0 (by decide) (htg _ k_411) (fun _ h9 => h9) rfl (by decide +kernel) rfl rfl (Nat.le_of_ble_eq_true rfl) rfl d_M_load_26 (fun H locs hP hS hz26 => ?_)
      obtain ⟨w_1, ew_1⟩ : ∃ z9, z9 = va_up w hm (some (.inr (ciM, [.int 0, .int (nI n), .ref aW, .ref aU, .ref aP, .ref aZ])) : Option va_E) := ⟨_, rfl⟩
      rw [← ew_1] at hP
      have h_2 : w_1 hm = some (.inr (ciM, [.int 0, .int (nI n), .ref aW, .ref aU, .ref aP, .ref aZ])) := by rw [ew_1, va_up_self]
      have h_3 : w_1 aW = some (.inl (cJ, 524288, .inr (.inl M))) := by rw [ew_1, va_up_ne _ _ (fun z => by rw [z, s1] at s2; cases s2)]; exact s2
      have h_4 : w_1 aU = some (.inl (cJ, 1024, .inr (.inl T))) := by rw [ew_1, va_up_ne _ _ (fun z => by rw [z, s1] at s3; cases s3)]; exact s3
      have h_5 : w_1 aP = some (.inl (cJ, 4, .inr (.inl pl))) := by rw [ew_1, va_up_ne _ _ (fun z => by rw [z, s1] at s4; cases s4)]; exact s4
      have h_6 : w_1 aZ = some (.inl (cI, 4, .inl sz)) := by rw [ew_1, va_up_ne _ _ (fun z => by rw [z, s1] at s5; cases s5)]; exact s5
      refine lv_aload_n hx hb d_M_load_29 rfl (lv_at hl 0 rfl) ?_
      refine mw_get (C := R_M) (T := T_M) (N := 6) (ci := ciM) (v := .int 0) hx hb htg i_M hown hK hP h_2 rfl 0 (by decide) (htg _ k_411) (fun _ h9 => h9) rfl d_M_load_30 ?_
      refine lv_if_le (tgt := 40) hx hb d_M_load_33 (by decide) (fun _ => ?_) (fun z => absurd z (by decide))
      refine lv_aload_n hx hb d_M_load_40 rfl (lv_at hl 0 rfl) ?_
      refine lv_lload_n hx hb d_M_load_41 rfl (lv_at hl 1 rfl) ?_
      refine lv_iload_n hx hb d_M_load_42 rfl (lv_at hl 2 rfl) ?_
      have hmo : mo cJ cI w_1 hm n 0 M T pl sz aW aU aP aZ := ⟨hn, h_2, h_3, h_4, h_5, h_6⟩
      have hkm : kM w w_1 hm aW aU aP aZ := fun q z1 z2 z3 z4 z5 => by rw [ew_1, va_up_ne _ _ z1]
      refine mc_l (va_runV (As := [.long (lN (2147483648 + a)), .int (nI k)]) (rest := []) ⟨hx, hb, hml, hown, htg⟩ (t_M_number l D cJ cI cP bs w_1 hm n 0 M T pl sz aW aU aP aZ hmo a k h8 ha.2) (cwV (own := R_M) (C := R_M) 2 htg (ginV k_455 k_457 k_19 k_26 k_458) rfl rfl rfl (by decide +kernel) ⟨Nat.le_of_ble_eq_true rfl, Nat.le_of_ble_eq_true rfl⟩) (mPc.preV (ci := ciM) (q := (R_M, T_M, 6)) hbs hS hP hK rfl h_2) rfl rfl hl.1 rfl (lv_room (Nat.le_of_ble_eq_true rfl)) d_M_load_43 ⟨Nat.le_of_ble_eq_true rfl, Nat.le_of_ble_eq_true rfl⟩) hS (fun num u43 H locs hnum hP hz43 hS => ?_)
      exact W.lret (v := num) hx hb hr (fun t ht hW => ⟨⟨_, w_1, rfl, ⟨hkm, Or.inr (Or.inr ⟨a, k, rfl, hok, h1, h8, ha, hnum, hmo⟩)⟩, hP.at ht⟩, hS.F ht⟩) hS.2.2 d_M_load_46
    · have hno : ¬ ∃ a, inM x n k a := by
        rcases hin with z | z
        · rw [z.1] at c18; exact absurd c18 (by decide)
        · exact z.2
      refine lv_iconst (v := 2) hx hb d_M_load_21 (by decide) ?_
      refine lv_goto (tgt := 26) hx hb d_M_load_22 (by decide) ?_
      refine mw_put (C := R_M) (T := T_M) (N := 6) (ci := ciM) (v := .int 2) (ty := .int) (fs' := [.int 2, .int (nI n), .ref aW, .ref aU, .ref aP, .ref aZ]) hx hb htg i_M ty_M tk_M nm_M hown hK hP hS s1 rfl 0 (by decide) (htg _ k_411) (fun _ h9 => h9) rfl (by decide +kernel) rfl rfl (Nat.le_of_ble_eq_true rfl) rfl d_M_load_26 (fun H locs hP hS hz26 => ?_)
      obtain ⟨w_7, ew_7⟩ : ∃ z9, z9 = va_up w hm (some (.inr (ciM, [.int 2, .int (nI n), .ref aW, .ref aU, .ref aP, .ref aZ])) : Option va_E) := ⟨_, rfl⟩
      rw [← ew_7] at hP
      have h_8 : w_7 hm = some (.inr (ciM, [.int 2, .int (nI n), .ref aW, .ref aU, .ref aP, .ref aZ])) := by rw [ew_7, va_up_self]
      have h_9 : w_7 aW = some (.inl (cJ, 524288, .inr (.inl M))) := by rw [ew_7, va_up_ne _ _ (fun z => by rw [z, s1] at s2; cases s2)]; exact s2
      have h_10 : w_7 aU = some (.inl (cJ, 1024, .inr (.inl T))) := by rw [ew_7, va_up_ne _ _ (fun z => by rw [z, s1] at s3; cases s3)]; exact s3
      have h_11 : w_7 aP = some (.inl (cJ, 4, .inr (.inl pl))) := by rw [ew_7, va_up_ne _ _ (fun z => by rw [z, s1] at s4; cases s4)]; exact s4
      have h_12 : w_7 aZ = some (.inl (cI, 4, .inl sz)) := by rw [ew_7, va_up_ne _ _ (fun z => by rw [z, s1] at s5; cases s5)]; exact s5
      refine lv_aload_n hx hb d_M_load_29 rfl (lv_at hl 0 rfl) ?_
      refine mw_get (C := R_M) (T := T_M) (N := 6) (ci := ciM) (v := .int 2) hx hb htg i_M hown hK hP h_8 rfl 0 (by decide) (htg _ k_411) (fun _ h9 => h9) rfl d_M_load_30 ?_
      refine lv_if_le (tgt := 40) hx hb d_M_load_33 (by decide) (fun z => absurd z (by decide)) (fun _ => ?_)
      refine lv_lconst (v := 0) hx hb d_M_load_36 rfl ?_
      refine lv_goto (tgt := 46) hx hb d_M_load_37 (by decide) ?_
      have hmo : mo cJ cI w_7 hm n 2 M T pl sz aW aU aP aZ := ⟨hn, h_8, h_9, h_10, h_11, h_12⟩
      have hkm : kM w w_7 hm aW aU aP aZ := fun q z1 z2 z3 z4 z5 => by rw [ew_7, va_up_ne _ _ z1]
      exact W.lret (v := 0) hx hb hr (fun t ht hW => ⟨⟨_, w_7, rfl, ⟨hkm, Or.inr (Or.inl ⟨hok, ⟨k, rfl, h8, hno⟩, hmo⟩)⟩, hP.at ht⟩, hS.F ht⟩) hS.2.2 d_M_load_46
  · refine lv_iconst (v := 1) hx hb d_M_load_8 (by decide) ?_
    refine lv_goto (tgt := 26) hx hb d_M_load_9 (by decide) ?_
    refine mw_put (C := R_M) (T := T_M) (N := 6) (ci := ciM) (v := .int 1) (ty := .int) (fs' := [.int 1, .int (nI n), .ref aW, .ref aU, .ref aP, .ref aZ]) hx hb htg i_M ty_M tk_M nm_M hown hK hP hS s1 rfl 0 (by decide) (htg _ k_411) (fun _ h9 => h9) rfl (by decide +kernel) rfl rfl (Nat.le_of_ble_eq_true rfl) rfl d_M_load_26 (fun H locs hP hS hz26 => ?_)
    obtain ⟨w_13, ew_13⟩ : ∃ z9, z9 = va_up w hm (some (.inr (ciM, [.int 1, .int (nI n), .ref aW, .ref aU, .ref aP, .ref aZ])) : Option va_E) := ⟨_, rfl⟩
    rw [← ew_13] at hP
    have h_14 : w_13 hm = some (.inr (ciM, [.int 1, .int (nI n), .ref aW, .ref aU, .ref aP, .ref aZ])) := by rw [ew_13, va_up_self]
    have h_15 : w_13 aW = some (.inl (cJ, 524288, .inr (.inl M))) := by rw [ew_13, va_up_ne _ _ (fun z => by rw [z, s1] at s2; cases s2)]; exact s2
    have h_16 : w_13 aU = some (.inl (cJ, 1024, .inr (.inl T))) := by rw [ew_13, va_up_ne _ _ (fun z => by rw [z, s1] at s3; cases s3)]; exact s3
    have h_17 : w_13 aP = some (.inl (cJ, 4, .inr (.inl pl))) := by rw [ew_13, va_up_ne _ _ (fun z => by rw [z, s1] at s4; cases s4)]; exact s4
    have h_18 : w_13 aZ = some (.inl (cI, 4, .inl sz)) := by rw [ew_13, va_up_ne _ _ (fun z => by rw [z, s1] at s5; cases s5)]; exact s5
    refine lv_aload_n hx hb d_M_load_29 rfl (lv_at hl 0 rfl) ?_
    refine mw_get (C := R_M) (T := T_M) (N := 6) (ci := ciM) (v := .int 1) hx hb htg i_M hown hK hP h_14 rfl 0 (by decide) (htg _ k_411) (fun _ h9 => h9) rfl d_M_load_30 ?_
    refine lv_if_le (tgt := 40) hx hb d_M_load_33 (by decide) (fun z => absurd z (by decide)) (fun _ => ?_)
    refine lv_lconst (v := 0) hx hb d_M_load_36 rfl ?_
    refine lv_goto (tgt := 46) hx hb d_M_load_37 (by decide) ?_
    have hmo : mo cJ cI w_13 hm n 1 M T pl sz aW aU aP aZ := ⟨hn, h_14, h_15, h_16, h_17, h_18⟩
    have hkm : kM w w_13 hm aW aU aP aZ := fun q z1 z2 z3 z4 z5 => by rw [ew_13, va_up_ne _ _ z1]
    exact W.lret (v := 0) hx hb hr (fun t ht hW => ⟨⟨_, w_13, rfl, ⟨hkm, Or.inl ⟨fun z => by rw [if_pos z] at hsz; rw [hsz] at c5; exact absurd c5 (by decide), hmo⟩⟩, hP.at ht⟩, hS.F ht⟩) hS.2.2 d_M_load_46
theorem tK_k (T : Nat → Int64) {a k : Nat} (h : 1 ≤ k) : tK T a k = tinc T (a / 4096) ((a + k - 1) / 4096 + 1) := by unfold tK; rw [if_neg (by omega)]
theorem pK_k (pl : Nat → Int64) {a k : Nat} (h : 1 ≤ k) : pK pl a k = lost pl (a / 8) ((a + k - 1) / 8) := by unfold pK; rw [if_neg (by omega)]
set_option maxHeartbeats 4000000 in
set_option maxRecDepth 100000 in
/-- store -/
theorem t_M_store (l : Launch) (D : va_G) (cJ cI cP : ClassId) (bs : Nat) (w : Nat → Option va_E) (hm n : Nat) (cd : Int32) (M T pl : Nat → Int64) (sz : Nat → Int32) (aW aU aP aZ : Nat) (hs : mo cJ cI w hm n cd M T pl sz aW aU aP aZ) (hro : rok pl n) (x : Int64) (y : Int32) (v : Int64) : Met l y_M_store ws_M_store ({ frames := 2, cells := 0, slots := 0, locals := 54 }) (mPc D vwCl (mT cJ cI cP) bs w [.ref hm, .long x, .int y, .long v]) (va_Qv (S := ((Nat → Option va_E) × (Nat → Int64))) (fun u => kM w u.1 hm aW aU aP aZ ∧ ((¬ szK y ∧ mo cJ cI u.1 hm n 1 M T pl sz aW aU aP aZ) ∨ (szK y ∧ (∃ k, y = nI k ∧ k ≤ 8 ∧ ¬ ∃ a, inM x n k a) ∧ mo cJ cI u.1 hm n 2 M T pl sz aW aU aP aZ) ∨ (∃ a k, y = nI k ∧ szK y ∧ 1 ≤ k ∧ k ≤ 8 ∧ inM x n k a ∧ mb u.2 = wrN (mb M) a k v ∧ mo cJ cI u.1 hm n 0 u.2 (tinc T (a / 4096) ((a + k - 1) / 4096 + 1)) (lost pl (a / 8) ((a + k - 1) / 8)) sz aW aU aP aZ))) (mB D vwCl bs (fun u => u.1)) (mA bs)) 0 0 (mA bs) := by
  refine Met.ofW (cc := c_M_store) (maxL := 6) (ret := none) (by decide) rfl ?_
  intro p e s m args below meth c s₁ B hml hv
  obtain ⟨rfl, hbs, hP, hK⟩ := hv
  have hx := B.exec
  have hb := B.bytes
  have hr := B.returns
  have htg : ∀ w ∈ gt, w.before _ s = true := fun w h => atoms_spec (ws := ws_M_store) B.pre w (List.mem_cons_of_mem _ h)
  have hown : s.vm.findClass R_M = some m.cls := findClass_of_methodNamed B.named
  have hlocks := B.notSynchronized
  have hS : va_S (mA bs) s.heap s.heap [] := va_S.rf
  have hl := lv_entry ([.ref hm, .long x, .int y, .long v]) (n := 6) (Nat.le_of_ble_eq_true rfl)
  rw [lg_entry_eq]
  generalize (lg_sl ([.ref hm, .long x, .int y, .long v]) ++ List.replicate (6 - (lg_sl ([.ref hm, .long x, .int y, .long v])).length) Slot.unset).toArray = ls at hl ⊢
  have hl : lv_has ls 6 [(0, .ref hm), (1, .long x), (3, .int y), (4, .long v)] := hl
  obtain ⟨hn, s1, s2, s3, s4, s5⟩ := id hs
  refine lv_aload_n hx hb d_M_store_0 rfl (lv_at hl 0 rfl) ?_
  refine lv_iload_n hx hb d_M_store_1 rfl (lv_at hl 2 rfl) ?_
  refine mc_i (va_runS (As := [.int y]) (rest := [.ref hm]) ⟨hx, hb, hml, hown, htg⟩ (t_M_isSize l D cJ cI cP bs w y) (cwS (own := R_M) 1 htg (ginS k_442 k_443 k_26 k_444) rfl rfl rfl (by decide +kernel) ⟨Nat.le_of_ble_eq_true rfl, Nat.le_of_ble_eq_true rfl⟩) (mPc.preS hbs hS hP hK) rfl rfl hl.1 rfl (lv_room (Nat.le_of_ble_eq_true rfl)) d_M_store_2 ⟨Nat.le_of_ble_eq_true rfl, Nat.le_of_ble_eq_true rfl⟩) hS (fun r2 u2 H locs hw hP hz2 hS => ?_)
  have hsz := hw
  refine lv_if_ne (tgt := 12) hx hb d_M_store_5 (by decide) (fun c5 => ?_) (fun c5 => ?_)
  · have hok : szK y := Classical.byContradiction (fun z => by rw [if_neg z] at hsz; exact c5 hsz)
    obtain ⟨k, rfl, h1, h8⟩ := szK_of hok
    have hl : lv_has ls 6 [(0, .ref hm), (1, .long x), (3, .int (nI k)), (4, .long v)] := hl
    refine lv_aload_n hx hb d_M_store_12 rfl (lv_at hl 0 rfl) ?_
    refine lv_lload_n hx hb d_M_store_13 rfl (lv_at hl 1 rfl) ?_
    refine lv_iload_n hx hb d_M_store_14 rfl (lv_at hl 2 rfl) ?_
    refine mc_i (va_runV (As := [.long x, .int (nI k)]) (rest := [.ref hm]) ⟨hx, hb, hml, hown, htg⟩ (t_M_areBytes l D cJ cI cP bs w hm n cd M T pl sz aW aU aP aZ hs x k h1 h8) (cwV (own := R_M) (C := R_M) 2 htg (ginV k_445 k_447 k_17 k_26 k_448) rfl rfl rfl (by decide +kernel) ⟨Nat.le_of_ble_eq_true rfl, Nat.le_of_ble_eq_true rfl⟩) (mPc.preV (ci := ciM) (q := (R_M, T_M, 6)) hbs hS hP hK rfl s1) rfl rfl hl.1 rfl (lv_room (Nat.le_of_ble_eq_true rfl)) d_M_store_15 ⟨Nat.le_of_ble_eq_true rfl, Nat.le_of_ble_eq_true rfl⟩) hS (fun r15 u15 H locs hw hP hz15 hS => ?_)
    have hin := hw
    refine lv_if_ne (tgt := 25) hx hb d_M_store_18 (by decide) (fun c18 => ?_) (fun c18 => ?_)
    · obtain ⟨a, ha⟩ : ∃ a, inM x n k a := by
        rcases hin with z | z
        · exact z.2
        · exact absurd z.1 c18
      obtain ⟨rfl, hak⟩ := id ha
      have hl : lv_has ls 6 [(0, .ref hm), (1, .long (lN (2147483648 + a))), (3, .int (nI k)), (4, .long v)] := hl
      refine lv_iconst (v := 0) hx hb d_M_store_25 (by decide) ?_
      refine mw_put (C := R_M) (T := T_M) (N := 6) (ci := ciM) (v := .int 0) (ty := .int) (fs' := [.int 0, .int (nI n), .ref aW, .ref aU, .ref aP, .ref aZ]) hx hb htg i_M ty_M tk_M nm_M hown hK hP hS s1 rfl 0 (by decide) (htg _ k_411) (fun _ h9 => h9) rfl (by decide +kernel) rfl rfl (Nat.le_of_ble_eq_true rfl) rfl d_M_store_26 (fun H locs hP hS hz26 => ?_)
      obtain ⟨w_1, ew_1⟩ : ∃ z9, z9 = va_up w hm (some (.inr (ciM, [.int 0, .int (nI n), .ref aW, .ref aU, .ref aP, .ref aZ])) : Option va_E) := ⟨_, rfl⟩
      rw [← ew_1] at hP
      have h_2 : w_1 hm = some (.inr (ciM, [.int 0, .int (nI n), .ref aW, .ref aU, .ref aP, .ref aZ])) := by rw [ew_1, va_up_self]
      have h_3 : w_1 aW = some (.inl (cJ, 524288, .inr (.inl M))) := by rw [ew_1, va_up_ne _ _ (fun z => by rw [z, s1] at s2; cases s2)]; exact s2
      have h_4 : w_1 aU = some (.inl (cJ, 1024, .inr (.inl T))) := by rw [ew_1, va_up_ne _ _ (fun z => by rw [z, s1] at s3; cases s3)]; exact s3
      have h_5 : w_1 aP = some (.inl (cJ, 4, .inr (.inl pl))) := by rw [ew_1, va_up_ne _ _ (fun z => by rw [z, s1] at s4; cases s4)]; exact s4
      have h_6 : w_1 aZ = some (.inl (cI, 4, .inl sz)) := by rw [ew_1, va_up_ne _ _ (fun z => by rw [z, s1] at s5; cases s5)]; exact s5
      refine lv_aload_n hx hb d_M_store_29 rfl (lv_at hl 0 rfl) ?_
      refine mw_get (C := R_M) (T := T_M) (N := 6) (ci := ciM) (v := .int 0) hx hb htg i_M hown hK hP h_2 rfl 0 (by decide) (htg _ k_411) (fun _ h9 => h9) rfl d_M_store_30 ?_
      refine lv_if_ne (tgt := 44) hx hb d_M_store_33 (by decide) (fun z => absurd z (by decide)) (fun _ => ?_)
      refine lv_aload_n hx hb d_M_store_36 rfl (lv_at hl 0 rfl) ?_
      refine lv_lload_n hx hb d_M_store_37 rfl (lv_at hl 1 rfl) ?_
      refine lv_iload_n hx hb d_M_store_38 rfl (lv_at hl 2 rfl) ?_
      refine lv_lload hx hb d_M_store_39 (lv_at hl 3 rfl) ?_
      have hmo : mo cJ cI w_1 hm n 0 M T pl sz aW aU aP aZ := ⟨hn, h_2, h_3, h_4, h_5, h_6⟩
      have hkm : kM w w_1 hm aW aU aP aZ := fun q z1 z2 z3 z4 z5 => by rw [ew_1, va_up_ne _ _ z1]
      refine mc_v (va_runV (As := [.long (lN (2147483648 + a)), .int (nI k), .long v]) (rest := []) ⟨hx, hb, hml, hown, htg⟩ (t_M_keep l D cJ cI cP bs w_1 hm n 0 M T pl sz aW aU aP aZ hmo hro a k h8 ha.2 v) (cwV (own := R_M) (C := R_M) 3 htg (ginV k_468 k_470 k_21 k_26 k_471) rfl rfl rfl (by decide +kernel) ⟨Nat.le_of_ble_eq_true rfl, Nat.le_of_ble_eq_true rfl⟩) (mPc.preV (ci := ciM) (q := (R_M, T_M, 6)) hbs hS hP hK rfl h_2) rfl rfl hl.1 rfl (lv_room (Nat.le_of_ble_eq_true rfl)) d_M_store_41 ⟨Nat.le_of_ble_eq_true rfl, Nat.le_of_ble_eq_true rfl⟩) hS (fun uu H locs hw hP hz41 hS => ?_)
      obtain ⟨w9, M9⟩ := uu
      obtain ⟨y1, y2, y3⟩ := hw
      have hP : mw D vwCl bs w9 H := hP
      rw [tK_k T h1, pK_k pl h1] at y1
      exact W.vret hx hb hr (fun t ht hW => ⟨⟨(w9, M9), rfl, ⟨hkm.trans y3, Or.inr (Or.inr ⟨a, k, rfl, hok, h1, h8, ha, y2, y1⟩)⟩, hP.at ht⟩, hS.F ht⟩) hS.2.2 d_M_store_44
    · have hno : ¬ ∃ a, inM x n k a := by
        rcases hin with z | z
        · rw [z.1] at c18; exact absurd c18 (by decide)
        · exact z.2
      refine lv_iconst (v := 2) hx hb d_M_store_21 (by decide) ?_
      refine lv_goto (tgt := 26) hx hb d_M_store_22 (by decide) ?_
      refine mw_put (C := R_M) (T := T_M) (N := 6) (ci := ciM) (v := .int 2) (ty := .int) (fs' := [.int 2, .int (nI n), .ref aW, .ref aU, .ref aP, .ref aZ]) hx hb htg i_M ty_M tk_M nm_M hown hK hP hS s1 rfl 0 (by decide) (htg _ k_411) (fun _ h9 => h9) rfl (by decide +kernel) rfl rfl (Nat.le_of_ble_eq_true rfl) rfl d_M_store_26 (fun H locs hP hS hz26 => ?_)
      obtain ⟨w_7, ew_7⟩ : ∃ z9, z9 = va_up w hm (some (.inr (ciM, [.int 2, .int (nI n), .ref aW, .ref aU, .ref aP, .ref aZ])) : Option va_E) := ⟨_, rfl⟩
      rw [← ew_7] at hP
      have h_8 : w_7 hm = some (.inr (ciM, [.int 2, .int (nI n), .ref aW, .ref aU, .ref aP, .ref aZ])) := by rw [ew_7, va_up_self]
      have h_9 : w_7 aW = some (.inl (cJ, 524288, .inr (.inl M))) := by rw [ew_7, va_up_ne _ _ (fun z => by rw [z, s1] at s2; cases s2)]; exact s2
      have h_10 : w_7 aU = some (.inl (cJ, 1024, .inr (.inl T))) := by rw [ew_7, va_up_ne _ _ (fun z => by rw [z, s1] at s3; cases s3)]; exact s3
      have h_11 : w_7 aP = some (.inl (cJ, 4, .inr (.inl pl))) := by rw [ew_7, va_up_ne _ _ (fun z => by rw [z, s1] at s4; cases s4)]; exact s4
      have h_12 : w_7 aZ = some (.inl (cI, 4, .inl sz)) := by rw [ew_7, va_up_ne _ _ (fun z => by rw [z, s1] at s5; cases s5)]; exact s5
      refine lv_aload_n hx hb d_M_store_29 rfl (lv_at hl 0 rfl) ?_
      refine mw_get (C := R_M) (T := T_M) (N := 6) (ci := ciM) (v := .int 2) hx hb htg i_M hown hK hP h_8 rfl 0 (by decide) (htg _ k_411) (fun _ h9 => h9) rfl d_M_store_30 ?_
      refine lv_if_ne (tgt := 44) hx hb d_M_store_33 (by decide) (fun _ => ?_) (fun z => absurd z (by decide))
      have hmo : mo cJ cI w_7 hm n 2 M T pl sz aW aU aP aZ := ⟨hn, h_8, h_9, h_10, h_11, h_12⟩
      have hkm : kM w w_7 hm aW aU aP aZ := fun q z1 z2 z3 z4 z5 => by rw [ew_7, va_up_ne _ _ z1]
      exact W.vret hx hb hr (fun t ht hW => ⟨⟨(w_7, M), rfl, ⟨hkm, Or.inr (Or.inl ⟨hok, ⟨k, rfl, h8, hno⟩, hmo⟩)⟩, hP.at ht⟩, hS.F ht⟩) hS.2.2 d_M_store_44
  · refine lv_iconst (v := 1) hx hb d_M_store_8 (by decide) ?_
    refine lv_goto (tgt := 26) hx hb d_M_store_9 (by decide) ?_
    refine mw_put (C := R_M) (T := T_M) (N := 6) (ci := ciM) (v := .int 1) (ty := .int) (fs' := [.int 1, .int (nI n), .ref aW, .ref aU, .ref aP, .ref aZ]) hx hb htg i_M ty_M tk_M nm_M hown hK hP hS s1 rfl 0 (by decide) (htg _ k_411) (fun _ h9 => h9) rfl (by decide +kernel) rfl rfl (Nat.le_of_ble_eq_true rfl) rfl d_M_store_26 (fun H locs hP hS hz26 => ?_)
    obtain ⟨w_13, ew_13⟩ : ∃ z9, z9 = va_up w hm (some (.inr (ciM, [.int 1, .int (nI n), .ref aW, .ref aU, .ref aP, .ref aZ])) : Option va_E) := ⟨_, rfl⟩
    rw [← ew_13] at hP
    have h_14 : w_13 hm = some (.inr (ciM, [.int 1, .int (nI n), .ref aW, .ref aU, .ref aP, .ref aZ])) := by rw [ew_13, va_up_self]
    have h_15 : w_13 aW = some (.inl (cJ, 524288, .inr (.inl M))) := by rw [ew_13, va_up_ne _ _ (fun z => by rw [z, s1] at s2; cases s2)]; exact s2
    have h_16 : w_13 aU = some (.inl (cJ, 1024, .inr (.inl T))) := by rw [ew_13, va_up_ne _ _ (fun z => by rw [z, s1] at s3; cases s3)]; exact s3
    have h_17 : w_13 aP = some (.inl (cJ, 4, .inr (.inl pl))) := by rw [ew_13, va_up_ne _ _ (fun z => by rw [z, s1] at s4; cases s4)]; exact s4
    have h_18 : w_13 aZ = some (.inl (cI, 4, .inl sz)) := by rw [ew_13, va_up_ne _ _ (fun z => by rw [z, s1] at s5; cases s5)]; exact s5
    refine lv_aload_n hx hb d_M_store_29 rfl (lv_at hl 0 rfl) ?_
    refine mw_get (C := R_M) (T := T_M) (N := 6) (ci := ciM) (v := .int 1) hx hb htg i_M hown hK hP h_14 rfl 0 (by decide) (htg _ k_411) (fun _ h9 => h9) rfl d_M_store_30 ?_
    refine lv_if_ne (tgt := 44) hx hb d_M_store_33 (by decide) (fun _ => ?_) (fun z => absurd z (by decide))
    have hmo : mo cJ cI w_13 hm n 1 M T pl sz aW aU aP aZ := ⟨hn, h_14, h_15, h_16, h_17, h_18⟩
    have hkm : kM w w_13 hm aW aU aP aZ := fun q z1 z2 z3 z4 z5 => by rw [ew_13, va_up_ne _ _ z1]
    exact W.vret hx hb hr (fun t ht hW => ⟨⟨(w_13, M), rfl, ⟨hkm, Or.inl ⟨fun z => by rw [if_pos z] at hsz; rw [hsz] at c5; exact absurd c5 (by decide), hmo⟩⟩, hP.at ht⟩, hS.F ht⟩) hS.2.2 d_M_store_44
theorem isKd_j : ∀ j, j < 29 → (isKd (nI j) ↔ (0 ≤ nI j ∧ nI j < 4) ∨ (0 < nI j ∧ nI j ≤ 28 ∧ nI j - nI j / 4 * 4 = 0)) := by decide +kernel
theorem isKd_iff (x : Int32) : isKd x ↔ (0 ≤ x ∧ x < 4) ∨ (0 < x ∧ x ≤ 28 ∧ x - x / 4 * 4 = 0) := by
  rcases pk_ix x (n := 29) (by decide) with z | z | ⟨j, hj, rfl⟩
  · constructor
    · intro h
      exfalso
      rcases h with rfl | rfl | rfl | rfl | rfl | rfl | rfl | rfl | rfl | rfl | rfl <;> exact absurd z (by decide)
    · rintro (h | h)
      · exact absurd z (Int32.not_lt.mpr h.1)
      · exact absurd z (Int32.not_lt.mpr (Int32.le_of_lt h.1))
  · constructor
    · intro h
      exfalso
      rcases h with rfl | rfl | rfl | rfl | rfl | rfl | rfl | rfl | rfl | rfl | rfl <;> exact absurd z (by decide)
    · rintro (h | h)
      · exact absurd (Int32.lt_of_le_of_lt z h.2) (by decide)
      · exact absurd (Int32.le_trans z h.2.1) (by decide)
  · exact isKd_j j hj
set_option maxHeartbeats 4000000 in
set_option maxRecDepth 100000 in
theorem t_M_isKind (l : Launch) (D : va_G) (cJ cI cP : ClassId) (bs : Nat) (w : Nat → Option va_E) (x : Int32) : Met l y_M_isKind ws_M_isKind ({ frames := 0, cells := 0, slots := 0, locals := 0 }) (mPc D vwCl (mT cJ cI cP) bs w [.int x]) (va_Qi (S := Unit) (fun r _ => r = if isKd x then 1 else 0) (mB D vwCl bs (fun _ => w)) (mA bs)) 0 0 (mA bs) := by
  refine Met.ofW (cc := c_M_isKind) (maxL := 1) (ret := (some .boolean)) (by decide) rfl ?_
  intro p e s m args below meth c s₁ B hml hv
  obtain ⟨rfl, hbs, hP, hK⟩ := hv
  have hx := B.exec
  have hb := B.bytes
  have hr := B.returns
  have htg : ∀ w ∈ gt, w.before _ s = true := fun w h => atoms_spec (ws := ws_M_isKind) B.pre w (List.mem_cons_of_mem _ h)
  have hown : s.vm.findClass R_M = some m.cls := findClass_of_methodNamed B.named
  have hlocks := B.notSynchronized
  have hS : va_S (mA bs) s.heap s.heap [] := va_S.rf
  have hl := lv_entry ([.int x]) (n := 1) (Nat.le_of_ble_eq_true rfl)
  rw [lg_entry_eq]
  generalize (lg_sl ([.int x]) ++ List.replicate (1 - (lg_sl ([.int x])).length) Slot.unset).toArray = ls at hl ⊢
  have hl : lv_has ls 1 [(0, .int x)] := hl
  refine lv_iload_n hx hb d_M_isKind_0 rfl (lv_at hl 0 rfl) ?_
  refine lv_if_lt (tgt := 9) hx hb d_M_isKind_1 (by decide) (fun c1 => ?_) (fun c1 => ?_)
  · refine lv_iload_n hx hb d_M_isKind_9 rfl (lv_at hl 0 rfl) ?_
    refine lv_if_le (tgt := 29) hx hb d_M_isKind_10 (by decide) (fun c10 => ?_) (fun c10 => ?_)
    · refine lv_iconst (v := 0) hx hb d_M_isKind_29 (by decide) ?_
      have hres : (0 : Int32) = if isKd x then 1 else 0 := by
        rw [if_neg]
        intro z
        rcases (isKd_iff x).mp z with q | q <;> first | exact absurd q.1 (Int32.not_le.mpr c1) | exact absurd q.2 c6 | exact absurd q.1 (Int32.not_lt.mpr c10) | exact absurd q.2.1 (Int32.not_le.mpr c16) | exact absurd q.2.2 c22 | exact absurd (Int32.le_of_lt q.1) (Int32.not_le.mpr c1)
      exact W.zret (v := 0) hx hb hr rfl (fun t ht hW => ⟨⟨_, (), rfl, hres, hP.at ht⟩, hS.F ht⟩) hS.2.2 d_M_isKind_30
    · refine lv_iload_n hx hb d_M_isKind_13 rfl (lv_at hl 0 rfl) ?_
      refine lv_bipush (v := 28) hx hb d_M_isKind_14 (by decide) ?_
      refine lv_icmp_gt (tgt := 29) hx hb d_M_isKind_16 (by decide) (fun c16 => ?_) (fun c16 => ?_)
      · refine lv_iconst (v := 0) hx hb d_M_isKind_29 (by decide) ?_
        have hres : (0 : Int32) = if isKd x then 1 else 0 := by
          rw [if_neg]
          intro z
          rcases (isKd_iff x).mp z with q | q <;> first | exact absurd q.1 (Int32.not_le.mpr c1) | exact absurd q.2 c6 | exact absurd q.1 (Int32.not_lt.mpr c10) | exact absurd q.2.1 (Int32.not_le.mpr c16) | exact absurd q.2.2 c22 | exact absurd (Int32.le_of_lt q.1) (Int32.not_le.mpr c1)
        exact W.zret (v := 0) hx hb hr rfl (fun t ht hW => ⟨⟨_, (), rfl, hres, hP.at ht⟩, hS.F ht⟩) hS.2.2 d_M_isKind_30
      · refine lv_iload_n hx hb d_M_isKind_19 rfl (lv_at hl 0 rfl) ?_
        refine lv_iconst (v := 4) hx hb d_M_isKind_20 (by decide) ?_
        refine lv_irem hx hb d_M_isKind_21 (by decide) ?_
        refine lv_if_ne (tgt := 29) hx hb d_M_isKind_22 (by decide) (fun c22 => ?_) (fun c22 => ?_)
        · refine lv_iconst (v := 0) hx hb d_M_isKind_29 (by decide) ?_
          have hres : (0 : Int32) = if isKd x then 1 else 0 := by
            rw [if_neg]
            intro z
            rcases (isKd_iff x).mp z with q | q <;> first | exact absurd q.1 (Int32.not_le.mpr c1) | exact absurd q.2 c6 | exact absurd q.1 (Int32.not_lt.mpr c10) | exact absurd q.2.1 (Int32.not_le.mpr c16) | exact absurd q.2.2 c22 | exact absurd (Int32.le_of_lt q.1) (Int32.not_le.mpr c1)
          exact W.zret (v := 0) hx hb hr rfl (fun t ht hW => ⟨⟨_, (), rfl, hres, hP.at ht⟩, hS.F ht⟩) hS.2.2 d_M_isKind_30
        · refine lv_iconst (v := 1) hx hb d_M_isKind_25 (by decide) ?_
          refine lv_goto (tgt := 30) hx hb d_M_isKind_26 (by decide) ?_
          exact W.zret (v := 1) hx hb hr rfl (fun t ht hW => ⟨⟨_, (), rfl, by rw [if_pos ((isKd_iff x).mpr (by first | exact Or.inl ⟨Int32.not_lt.mp c1, c6⟩ | exact Or.inr ⟨Int32.not_le.mp c10, Int32.not_lt.mp c16, c22⟩))], hP.at ht⟩, hS.F ht⟩) hS.2.2 d_M_isKind_30
  · refine lv_iload_n hx hb d_M_isKind_4 rfl (lv_at hl 0 rfl) ?_
    refine lv_iconst (v := 4) hx hb d_M_isKind_5 (by decide) ?_
    refine lv_icmp_lt (tgt := 25) hx hb d_M_isKind_6 (by decide) (fun c6 => ?_) (fun c6 => ?_)
    · refine lv_iconst (v := 1) hx hb d_M_isKind_25 (by decide) ?_
      refine lv_goto (tgt := 30) hx hb d_M_isKind_26 (by decide) ?_
      exact W.zret (v := 1) hx hb hr rfl (fun t ht hW => ⟨⟨_, (), rfl, by rw [if_pos ((isKd_iff x).mpr (by first | exact Or.inl ⟨Int32.not_lt.mp c1, c6⟩ | exact Or.inr ⟨Int32.not_le.mp c10, Int32.not_lt.mp c16, c22⟩))], hP.at ht⟩, hS.F ht⟩) hS.2.2 d_M_isKind_30
    · refine lv_iload_n hx hb d_M_isKind_9 rfl (lv_at hl 0 rfl) ?_
      refine lv_if_le (tgt := 29) hx hb d_M_isKind_10 (by decide) (fun c10 => ?_) (fun c10 => ?_)
      · refine lv_iconst (v := 0) hx hb d_M_isKind_29 (by decide) ?_
        have hres : (0 : Int32) = if isKd x then 1 else 0 := by
          rw [if_neg]
          intro z
          rcases (isKd_iff x).mp z with q | q <;> first | exact absurd q.1 (Int32.not_le.mpr c1) | exact absurd q.2 c6 | exact absurd q.1 (Int32.not_lt.mpr c10) | exact absurd q.2.1 (Int32.not_le.mpr c16) | exact absurd q.2.2 c22 | exact absurd (Int32.le_of_lt q.1) (Int32.not_le.mpr c1)
        exact W.zret (v := 0) hx hb hr rfl (fun t ht hW => ⟨⟨_, (), rfl, hres, hP.at ht⟩, hS.F ht⟩) hS.2.2 d_M_isKind_30
      · refine lv_iload_n hx hb d_M_isKind_13 rfl (lv_at hl 0 rfl) ?_
        refine lv_bipush (v := 28) hx hb d_M_isKind_14 (by decide) ?_
        refine lv_icmp_gt (tgt := 29) hx hb d_M_isKind_16 (by decide) (fun c16 => ?_) (fun c16 => ?_)
        · refine lv_iconst (v := 0) hx hb d_M_isKind_29 (by decide) ?_
          have hres : (0 : Int32) = if isKd x then 1 else 0 := by
            rw [if_neg]
            intro z
            rcases (isKd_iff x).mp z with q | q <;> first | exact absurd q.1 (Int32.not_le.mpr c1) | exact absurd q.2 c6 | exact absurd q.1 (Int32.not_lt.mpr c10) | exact absurd q.2.1 (Int32.not_le.mpr c16) | exact absurd q.2.2 c22 | exact absurd (Int32.le_of_lt q.1) (Int32.not_le.mpr c1)
          exact W.zret (v := 0) hx hb hr rfl (fun t ht hW => ⟨⟨_, (), rfl, hres, hP.at ht⟩, hS.F ht⟩) hS.2.2 d_M_isKind_30
        · refine lv_iload_n hx hb d_M_isKind_19 rfl (lv_at hl 0 rfl) ?_
          refine lv_iconst (v := 4) hx hb d_M_isKind_20 (by decide) ?_
          refine lv_irem hx hb d_M_isKind_21 (by decide) ?_
          refine lv_if_ne (tgt := 29) hx hb d_M_isKind_22 (by decide) (fun c22 => ?_) (fun c22 => ?_)
          · refine lv_iconst (v := 0) hx hb d_M_isKind_29 (by decide) ?_
            have hres : (0 : Int32) = if isKd x then 1 else 0 := by
              rw [if_neg]
              intro z
              rcases (isKd_iff x).mp z with q | q <;> first | exact absurd q.1 (Int32.not_le.mpr c1) | exact absurd q.2 c6 | exact absurd q.1 (Int32.not_lt.mpr c10) | exact absurd q.2.1 (Int32.not_le.mpr c16) | exact absurd q.2.2 c22 | exact absurd (Int32.le_of_lt q.1) (Int32.not_le.mpr c1)
            exact W.zret (v := 0) hx hb hr rfl (fun t ht hW => ⟨⟨_, (), rfl, hres, hP.at ht⟩, hS.F ht⟩) hS.2.2 d_M_isKind_30
          · refine lv_iconst (v := 1) hx hb d_M_isKind_25 (by decide) ?_
            refine lv_goto (tgt := 30) hx hb d_M_isKind_26 (by decide) ?_
            exact W.zret (v := 1) hx hb hr rfl (fun t ht hW => ⟨⟨_, (), rfl, by rw [if_pos ((isKd_iff x).mpr (by first | exact Or.inl ⟨Int32.not_lt.mp c1, c6⟩ | exact Or.inr ⟨Int32.not_le.mp c10, Int32.not_lt.mp c16, c22⟩))], hP.at ht⟩, hS.F ht⟩) hS.2.2 d_M_isKind_30
theorem mn_t (a : Int64) : (a + (-9223372036854775808)).toInt = if 0 ≤ a.toInt then a.toInt - 9223372036854775808 else a.toInt + 9223372036854775808 := by
  have h1 := Int64.le_toInt a
  have h2 := Int64.toInt_lt a
  rw [Int64.toInt_add, show (-9223372036854775808 : Int64).toInt = -9223372036854775808 from by decide]
  by_cases h : 0 ≤ a.toInt
  · rw [if_pos h, Int.bmod_eq_of_le (by omega) (by omega)]
    omega
  · rw [if_neg h]
    rw [show a.toInt + -9223372036854775808 = (a.toInt + 9223372036854775808) - ((2 ^ 64 : Nat) : Int) by omega, Int.sub_bmod_right, Int.bmod_eq_of_le (by omega) (by omega)]
theorem isl (a b : Int64) : ((0 ≤ a ↔ 0 ≤ b) → ((a + (-9223372036854775808) < b + (-9223372036854775808)) ↔ a < b)) ∧ (¬ (0 ≤ a ↔ 0 ≤ b) → ((a + (-9223372036854775808) < b + (-9223372036854775808)) ↔ 0 ≤ a)) := by
  have h1 := Int64.le_toInt a
  have h2 := Int64.toInt_lt a
  have h3 := Int64.le_toInt b
  have h4 := Int64.toInt_lt b
  simp only [Int64.lt_iff_toInt_lt, Int64.le_iff_toInt_le, mn_t, show (0 : Int64).toInt = 0 from by decide]
  by_cases ha : 0 ≤ a.toInt <;> by_cases hb : 0 ≤ b.toInt <;> simp only [ha, hb, if_true, if_false, iff_self, iff_true, true_iff, iff_false, false_iff, not_true, not_false_iff] <;> constructor <;> intro h <;> first | (constructor <;> intro _ <;> omega) | omega | exact absurd h (by simp)
