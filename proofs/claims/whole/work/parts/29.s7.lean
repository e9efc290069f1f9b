theorem rok_0 {ra : Nat → Int64} {n : Nat} (h : rok ra n) (pr : Nat) : rok (vp_updL ra pr 0) n := fun j hj => by
  by_cases c : j = pr
  · subst c; exact Or.inl pk_uLs
  · rw [pk_uLn c]; exact h j hj
theorem rok_s {ra : Nat → Int64} {n : Nat} (h : rok ra n) (pr : Nat) {a : Nat} (ha : a < 4096 * n) : rok (vp_updL ra pr (lN (2147483648 + a))) n := fun j hj => by
  by_cases c : j = pr
  · subst c; exact Or.inr ⟨a, pk_uLs, ha⟩
  · rw [pk_uLn c]; exact h j hj
set_option maxHeartbeats 4000000 in
set_option maxRecDepth 100000 in
/-- storeIfReserved -/
theorem t_S_sir (l : Launch) (D : va_G) (cJ cI cP : ClassId) (bs : Nat) (w : Nat → Option va_E) (h n : Nat) (M T : Nat → Int64) (ra : Nat → Int64) (rs : Nat → Int32) (aT aA aS : Nat) (pt : Nat → Option Nat) (hs : sm cJ cI cP w h n M T ra rs aT aA aS pt) (pr : Nat) (hpr : pr < 4) (a k : Nat) (h1 : 1 ≤ k) (h8 : k ≤ 8) (hak : a + k ≤ 4096 * n) (hro : rok ra n) (v : Int64) : Met l y_S_storeIfReserved ws_S_storeIfReserved ({ frames := 5, cells := 4, slots := 1034, locals := 126 }) (mPc D vwCl (mT cJ cI cP) bs w [.ref h, .int (nI pr), .long (lN (2147483648 + a)), .int (nI k), .long v]) (va_Ql (S := ((Nat → Option va_E) × (Nat → Int64) × (Nat → Option Nat))) (fun r u => (ra pr = lN (2147483648 + a) ∧ rs pr = nI k ∧ r = 0 ∧ sm cJ cI cP u.1 h n u.2.1 (tinc T (a / 4096) ((a + k - 1) / 4096 + 1)) (lost (vp_updL ra pr 0) (a / 8) ((a + k - 1) / 8)) rs aT aA aS u.2.2 ∧ mb u.2.1 = wrN (mb M) a k v ∧ kp w u.1 (sfp w h) (sfp u.1 h)) ∨ (¬ (ra pr = lN (2147483648 + a) ∧ rs pr = nI k) ∧ r = 1 ∧ sm cJ cI cP u.1 h n M T (vp_updL ra pr 0) rs aT aA aS pt ∧ kp w u.1 (sfp w h) (sfp u.1 h))) (mB D vwCl bs (fun u => u.1)) (mA bs)) 4 1034 (mA bs) := by
  refine Met.ofW (cc := c_S_storeIfReserved) (maxL := 8) (ret := (some .long)) (by decide) rfl ?_
  intro p e s m args below meth c s₁ B hml hv
  obtain ⟨rfl, hbs, hP, hK⟩ := hv
  have hx := B.exec
  have hb := B.bytes
  have hr := B.returns
  have htg : ∀ w ∈ gt, w.before _ s = true := fun w h => atoms_spec (ws := ws_S_storeIfReserved) B.pre w (List.mem_cons_of_mem _ h)
  have hown : s.vm.findClass R_S = some m.cls := findClass_of_methodNamed B.named
  have hlocks := B.notSynchronized
  have hS : va_S (mA bs) s.heap s.heap [] := va_S.rf
  have hl := lv_entry ([.ref h, .int (nI pr), .long (lN (2147483648 + a)), .int (nI k), .long v]) (n := 8) (Nat.le_of_ble_eq_true rfl)
  rw [lg_entry_eq]
  generalize (lg_sl ([.ref h, .int (nI pr), .long (lN (2147483648 + a)), .int (nI k), .long v]) ++ List.replicate (8 - (lg_sl ([.ref h, .int (nI pr), .long (lN (2147483648 + a)), .int (nI k), .long v])).length) Slot.unset).toArray = ls at hl ⊢
  have hl : lv_has ls 8 [(0, .ref h), (1, .int (nI pr)), (2, .long (lN (2147483648 + a))), (4, .int (nI k)), (5, .long v)] := hl
  obtain ⟨hn, s1, s2, s3, s4, s5, s6, s7⟩ := id hs
  have f1 : w h = some (.inr (ciS, [.int (nI n), .ref aT, .ref aA, .ref aS])) := s1
  refine lv_aload_n hx hb d_S_storeIfReserved_0 rfl (lv_at hl 0 rfl) ?_
  refine mw_get (C := R_S) (T := T_S) (N := 4) (ci := ciS) (v := .ref aA) hx hb htg i_S hown hK hP f1 rfl 2 (by decide) (htg _ k_48) (fun _ h9 => h9) rfl d_S_storeIfReserved_1 ?_
  refine lv_iload_n hx hb d_S_storeIfReserved_4 rfl (lv_at hl 1 rfl) ?_
  refine mw_lald hx hb hK hP 0 s3 rfl (vp_in_nI hpr (by omega)) d_S_storeIfReserved_5 ?_
  rw [show (nI pr).toNatClampNeg = pr from nI_clamp (by omega)]
  refine lv_lload_n hx hb d_S_storeIfReserved_6 rfl (lv_at hl 2 rfl) ?_
  refine lc_ne (tgt := 26) hx hb d_S_storeIfReserved_7 d_S_storeIfReserved_8 (by decide) (fun c7 => ?_) (fun c7 => ?_)
  · refine lv_iconst (v := 0) hx hb d_S_storeIfReserved_26 (by decide) ?_
    refine lv_istore (lv' := [(7, .int 0), (0, .ref h), (1, .int (nI pr)), (2, .long (lN (2147483648 + a))), (4, .int (nI k)), (5, .long v)]) hx hb d_S_storeIfReserved_27 hl (by decide) rfl (fun ls hl => ?_)
    refine lv_aload_n hx hb d_S_storeIfReserved_29 rfl (lv_at hl 1 rfl) ?_
    refine mw_get (C := R_S) (T := T_S) (N := 4) (ci := ciS) (v := .ref aA) hx hb htg i_S hown hK hP f1 rfl 2 (by decide) (htg _ k_48) (fun _ h9 => h9) rfl d_S_storeIfReserved_30 ?_
    refine lv_iload_n hx hb d_S_storeIfReserved_33 rfl (lv_at hl 2 rfl) ?_
    refine lv_lconst (v := 0) hx hb d_S_storeIfReserved_34 rfl ?_
    refine mw_last hx hb hK hP hS 0 s3 rfl (vp_in_nI hpr (by omega)) d_S_storeIfReserved_35 (fun H locs hP hS hz35 => ?_)
    rw [show (nI pr).toNatClampNeg = pr from nI_clamp (by omega)] at hP
    obtain ⟨w_1, ew_1⟩ : ∃ z9, z9 = va_up w aA (some (.inl (cJ, 4, .inr (.inl (vp_updL ra pr 0)))) : Option va_E) := ⟨_, rfl⟩
    rw [← ew_1] at hP
    have h_2 : w_1 aA = some (.inl (cJ, 4, .inr (.inl (vp_updL ra pr 0)))) := by rw [ew_1, va_up_self]
    have h_3 : w_1 h = some (.inr (ciS, [.int (nI n), .ref aT, .ref aA, .ref aS])) := by rw [ew_1, va_up_ne _ _ (fun z => by rw [z, s3] at f1; cases f1)]; exact f1
    have h_4 : w_1 aT = some (.inl (cP, n, .inr (.inr (.inr (.inr pt))))) := by rw [ew_1, va_up_ne _ _ (fun z => by rw [z, s3] at s2; simp at s2)]; exact s2
    have h_5 : w_1 aS = some (.inl (cI, 4, .inl rs)) := by rw [ew_1, va_up_ne _ _ (fun z => by rw [z, s3] at s4; simp at s4)]; exact s4
    have q1 := sm_ra hs (vp_updL ra pr 0)
    rw [← ew_1] at q1
    refine lv_iload hx hb d_S_storeIfReserved_36 (lv_at hl 0 rfl) ?_
    refine lv_if_ne (tgt := 43) hx hb d_S_storeIfReserved_38 (by decide) (fun z => absurd rfl z) (fun _ => ?_)
    refine lv_lconst (v := 1) hx hb d_S_storeIfReserved_41 rfl ?_
    refine W.widen (k := 4) (n := 1034) (Nat.le_of_ble_eq_true rfl) (Nat.le_of_ble_eq_true rfl) ?_
    exact W.lret (v := 1) hx hb hr (fun t ht hW => ⟨⟨_, (w_1, M, pt), rfl, Or.inr ⟨fun z => by first | exact c19 z.2 | exact c7 z.1, rfl, q1.1, q1.2⟩, hP.at ht⟩, hS.F ht⟩) hS.2.2 d_S_storeIfReserved_42
  · refine lv_aload_n hx hb d_S_storeIfReserved_11 rfl (lv_at hl 0 rfl) ?_
    refine mw_get (C := R_S) (T := T_S) (N := 4) (ci := ciS) (v := .ref aS) hx hb htg i_S hown hK hP f1 rfl 3 (by decide) (htg _ k_49) (fun _ h9 => h9) rfl d_S_storeIfReserved_12 ?_
    refine lv_iload_n hx hb d_S_storeIfReserved_15 rfl (lv_at hl 1 rfl) ?_
    refine mw_iald hx hb hK hP 1 s4 rfl (vp_in_nI hpr (by omega)) d_S_storeIfReserved_16 ?_
    rw [show (nI pr).toNatClampNeg = pr from nI_clamp (by omega)]
    refine lv_iload hx hb d_S_storeIfReserved_17 (lv_at hl 3 rfl) ?_
    refine lv_icmp_ne (tgt := 26) hx hb d_S_storeIfReserved_19 (by decide) (fun c19 => ?_) (fun c19 => ?_)
    · refine lv_iconst (v := 0) hx hb d_S_storeIfReserved_26 (by decide) ?_
      refine lv_istore (lv' := [(7, .int 0), (0, .ref h), (1, .int (nI pr)), (2, .long (lN (2147483648 + a))), (4, .int (nI k)), (5, .long v)]) hx hb d_S_storeIfReserved_27 hl (by decide) rfl (fun ls hl => ?_)
      refine lv_aload_n hx hb d_S_storeIfReserved_29 rfl (lv_at hl 1 rfl) ?_
      refine mw_get (C := R_S) (T := T_S) (N := 4) (ci := ciS) (v := .ref aA) hx hb htg i_S hown hK hP f1 rfl 2 (by decide) (htg _ k_48) (fun _ h9 => h9) rfl d_S_storeIfReserved_30 ?_
      refine lv_iload_n hx hb d_S_storeIfReserved_33 rfl (lv_at hl 2 rfl) ?_
      refine lv_lconst (v := 0) hx hb d_S_storeIfReserved_34 rfl ?_
      refine mw_last hx hb hK hP hS 0 s3 rfl (vp_in_nI hpr (by omega)) d_S_storeIfReserved_35 (fun H locs hP hS hz35 => ?_)
      rw [show (nI pr).toNatClampNeg = pr from nI_clamp (by omega)] at hP
      obtain ⟨w_6, ew_6⟩ : ∃ z9, z9 = va_up w aA (some (.inl (cJ, 4, .inr (.inl (vp_updL ra pr 0)))) : Option va_E) := ⟨_, rfl⟩
      rw [← ew_6] at hP
      have h_7 : w_6 aA = some (.inl (cJ, 4, .inr (.inl (vp_updL ra pr 0)))) := by rw [ew_6, va_up_self]
      have h_8 : w_6 h = some (.inr (ciS, [.int (nI n), .ref aT, .ref aA, .ref aS])) := by rw [ew_6, va_up_ne _ _ (fun z => by rw [z, s3] at f1; cases f1)]; exact f1
      have h_9 : w_6 aT = some (.inl (cP, n, .inr (.inr (.inr (.inr pt))))) := by rw [ew_6, va_up_ne _ _ (fun z => by rw [z, s3] at s2; simp at s2)]; exact s2
      have h_10 : w_6 aS = some (.inl (cI, 4, .inl rs)) := by rw [ew_6, va_up_ne _ _ (fun z => by rw [z, s3] at s4; simp at s4)]; exact s4
      have q1 := sm_ra hs (vp_updL ra pr 0)
      rw [← ew_6] at q1
      refine lv_iload hx hb d_S_storeIfReserved_36 (lv_at hl 0 rfl) ?_
      refine lv_if_ne (tgt := 43) hx hb d_S_storeIfReserved_38 (by decide) (fun z => absurd rfl z) (fun _ => ?_)
      refine lv_lconst (v := 1) hx hb d_S_storeIfReserved_41 rfl ?_
      refine W.widen (k := 4) (n := 1034) (Nat.le_of_ble_eq_true rfl) (Nat.le_of_ble_eq_true rfl) ?_
      exact W.lret (v := 1) hx hb hr (fun t ht hW => ⟨⟨_, (w_6, M, pt), rfl, Or.inr ⟨fun z => by first | exact c19 z.2 | exact c7 z.1, rfl, q1.1, q1.2⟩, hP.at ht⟩, hS.F ht⟩) hS.2.2 d_S_storeIfReserved_42
    · refine lv_iconst (v := 1) hx hb d_S_storeIfReserved_22 (by decide) ?_
      refine lv_goto (tgt := 27) hx hb d_S_storeIfReserved_23 (by decide) ?_
      refine lv_istore (lv' := [(7, .int 1), (0, .ref h), (1, .int (nI pr)), (2, .long (lN (2147483648 + a))), (4, .int (nI k)), (5, .long v)]) hx hb d_S_storeIfReserved_27 hl (by decide) rfl (fun ls hl => ?_)
      refine lv_aload_n hx hb d_S_storeIfReserved_29 rfl (lv_at hl 1 rfl) ?_
      refine mw_get (C := R_S) (T := T_S) (N := 4) (ci := ciS) (v := .ref aA) hx hb htg i_S hown hK hP f1 rfl 2 (by decide) (htg _ k_48) (fun _ h9 => h9) rfl d_S_storeIfReserved_30 ?_
      refine lv_iload_n hx hb d_S_storeIfReserved_33 rfl (lv_at hl 2 rfl) ?_
      refine lv_lconst (v := 0) hx hb d_S_storeIfReserved_34 rfl ?_
      refine mw_last hx hb hK hP hS 0 s3 rfl (vp_in_nI hpr (by omega)) d_S_storeIfReserved_35 (fun H locs hP hS hz35 => ?_)
      rw [show (nI pr).toNatClampNeg = pr from nI_clamp (by omega)] at hP
      obtain ⟨w_11, ew_11⟩ : ∃ z9, z9 = va_up w aA (some (.inl (cJ, 4, .inr (.inl (vp_updL ra pr 0)))) : Option va_E) := ⟨_, rfl⟩
      rw [← ew_11] at hP
      have h_12 : w_11 aA = some (.inl (cJ, 4, .inr (.inl (vp_updL ra pr 0)))) := by rw [ew_11, va_up_self]
      have h_13 : w_11 h = some (.inr (ciS, [.int (nI n), .ref aT, .ref aA, .ref aS])) := by rw [ew_11, va_up_ne _ _ (fun z => by rw [z, s3] at f1; cases f1)]; exact f1
      have h_14 : w_11 aT = some (.inl (cP, n, .inr (.inr (.inr (.inr pt))))) := by rw [ew_11, va_up_ne _ _ (fun z => by rw [z, s3] at s2; simp at s2)]; exact s2
      have h_15 : w_11 aS = some (.inl (cI, 4, .inl rs)) := by rw [ew_11, va_up_ne _ _ (fun z => by rw [z, s3] at s4; simp at s4)]; exact s4
      have q1 := sm_ra hs (vp_updL ra pr 0)
      rw [← ew_11] at q1
      refine lv_iload hx hb d_S_storeIfReserved_36 (lv_at hl 0 rfl) ?_
      refine lv_if_ne (tgt := 43) hx hb d_S_storeIfReserved_38 (by decide) (fun _ => ?_) (fun z => absurd z (by decide))
      refine lv_aload_n hx hb d_S_storeIfReserved_43 rfl (lv_at hl 1 rfl) ?_
      refine lv_lload_n hx hb d_S_storeIfReserved_44 rfl (lv_at hl 3 rfl) ?_
      refine mc_i (va_runS (As := [.long (lN (2147483648 + a))]) (rest := [.ref h]) ⟨hx, hb, hml, hown, htg⟩ (t_S_placeOf l D cJ cI cP bs w_11 a) (cwS (own := R_S) 1 htg (ginS k_182 k_183 k_25 k_184) rfl rfl rfl (by decide +kernel) ⟨Nat.le_of_ble_eq_true rfl, Nat.le_of_ble_eq_true rfl⟩) (mPc.preS hbs hS hP hK) rfl rfl hl.1 rfl (lv_room (Nat.le_of_ble_eq_true rfl)) d_S_storeIfReserved_45 ⟨Nat.le_of_ble_eq_true rfl, Nat.le_of_ble_eq_true rfl⟩) hS (fun r45 u45 H locs hw hP hz45 hS => ?_)
      subst hw
      refine lv_iload hx hb d_S_storeIfReserved_48 (lv_at hl 4 rfl) ?_
      refine lv_lload hx hb d_S_storeIfReserved_50 (lv_at hl 5 rfl) ?_
      refine mc_v (va_runV (As := [.int (nI a), .int (nI k), .long v]) (rest := []) ⟨hx, hb, hml, hown, htg⟩ (t_S_putNumber l D cJ cI cP bs w_11 h n M T (vp_updL ra pr 0) rs aT aA aS pt q1.1 a k h1 h8 hak (rok_0 hro pr) v) (cwV (own := R_S) (C := R_S) 3 htg (ginV k_211 k_213 k_5 k_25 k_214) rfl rfl rfl (by decide +kernel) ⟨Nat.le_of_ble_eq_true rfl, Nat.le_of_ble_eq_true rfl⟩) (mPc.preV (ci := ciS) (q := (R_S, T_S, 4)) hbs hS hP hK rfl h_13) rfl rfl hl.1 rfl (lv_room (Nat.le_of_ble_eq_true rfl)) d_S_storeIfReserved_52 ⟨Nat.le_of_ble_eq_true rfl, Nat.le_of_ble_eq_true rfl⟩) hS (fun u9 H locs hw hP hz52 hS => ?_)
      obtain ⟨w9, M9, pt9⟩ := u9
      obtain ⟨z1, z2, z3⟩ := hw
      refine lv_lconst (v := 0) hx hb d_S_storeIfReserved_55 rfl ?_
      exact W.lret (v := 0) hx hb hr (fun t ht hW => ⟨⟨_, (w9, M9, pt9), rfl, Or.inl ⟨c7, c19, rfl, z1, z2, q1.2.trans z3⟩, hP.at ht⟩, hS.F ht⟩) hS.2.2 d_S_storeIfReserved_56
set_option maxHeartbeats 4000000 in
set_option maxRecDepth 100000 in
/-- change -/
theorem t_S_change (l : Launch) (D : va_G) (cJ cI cP : ClassId) (bs : Nat) (w : Nat → Option va_E) (h n : Nat) (M T : Nat → Int64) (ra : Nat → Int64) (rs : Nat → Int32) (aT aA aS : Nat) (pt : Nat → Option Nat) (hs : sm cJ cI cP w h n M T ra rs aT aA aS pt) (x : Int32) (a k : Nat) (h1 : 1 ≤ k) (h8 : k ≤ 8) (hak : a + k ≤ 4096 * n) (hro : rok ra n) (v : Int64) : Met l y_S_change ws_S_change ({ frames := 5, cells := 4, slots := 1034, locals := 126 }) (mPc D vwCl (mT cJ cI cP) bs w [.ref h, .int x, .int (nI a), .int (nI k), .long v]) (va_Ql (S := ((Nat → Option va_E) × (Nat → Int64) × (Nat → Option Nat))) (fun r u => sm cJ cI cP u.1 h n u.2.1 (tinc T (a / 4096) ((a + k - 1) / 4096 + 1)) (lost ra (a / 8) ((a + k - 1) / 8)) rs aT aA aS u.2.2 ∧ mb u.2.1 = wrN (mb M) a k (chg x r (wsg v k)) ∧ kp w u.1 (sfp w h) (sfp u.1 h) ∧ ∃ num, r = wsg num k ∧ ∀ i, i < 64 → bi num i = rdN (mb M) a k i) (mB D vwCl bs (fun u => u.1)) (mA bs)) 4 1034 (mA bs) := by
  refine Met.ofW (cc := c_S_change) (maxL := 8) (ret := (some .long)) (by decide) rfl ?_
  intro p e s m args below meth c s₁ B hml hv
  obtain ⟨rfl, hbs, hP, hK⟩ := hv
  have hx := B.exec
  have hb := B.bytes
  have hr := B.returns
  have htg : ∀ w ∈ gt, w.before _ s = true := fun w h => atoms_spec (ws := ws_S_change) B.pre w (List.mem_cons_of_mem _ h)
  have hown : s.vm.findClass R_S = some m.cls := findClass_of_methodNamed B.named
  have hlocks := B.notSynchronized
  have hS : va_S (mA bs) s.heap s.heap [] := va_S.rf
  have hl := lv_entry ([.ref h, .int x, .int (nI a), .int (nI k), .long v]) (n := 8) (Nat.le_of_ble_eq_true rfl)
  rw [lg_entry_eq]
  generalize (lg_sl ([.ref h, .int x, .int (nI a), .int (nI k), .long v]) ++ List.replicate (8 - (lg_sl ([.ref h, .int x, .int (nI a), .int (nI k), .long v])).length) Slot.unset).toArray = ls at hl ⊢
  have hl : lv_has ls 8 [(0, .ref h), (1, .int x), (2, .int (nI a)), (3, .int (nI k)), (4, .long v)] := hl
  obtain ⟨hn, s1, s2, s3, s4, s5, s6, s7⟩ := id hs
  have f1 : w h = some (.inr (ciS, [.int (nI n), .ref aT, .ref aA, .ref aS])) := s1
  refine lv_aload_n hx hb d_S_change_0 rfl (lv_at hl 0 rfl) ?_
  refine lv_iload_n hx hb d_S_change_1 rfl (lv_at hl 2 rfl) ?_
  refine lv_iload_n hx hb d_S_change_2 rfl (lv_at hl 3 rfl) ?_
  refine mc_l (va_runV (As := [.int (nI a), .int (nI k)]) (rest := []) ⟨hx, hb, hml, hown, htg⟩ (t_S_numberAt l D cJ cI cP bs w h n M T ra rs aT aA aS pt hs a k h1 h8 hak) (cwV (own := R_S) (C := R_S) 2 htg (ginV k_185 k_187 k_3 k_25 k_188) rfl rfl rfl (by decide +kernel) ⟨Nat.le_of_ble_eq_true rfl, Nat.le_of_ble_eq_true rfl⟩) (mPc.preV (ci := ciS) (q := (R_S, T_S, 4)) hbs hS hP hK rfl f1) rfl rfl hl.1 rfl (lv_room (Nat.le_of_ble_eq_true rfl)) d_S_change_3 ⟨Nat.le_of_ble_eq_true rfl, Nat.le_of_ble_eq_true rfl⟩) hS (fun num u3 H locs hnum hP hz3 hS => ?_)
  refine lv_iload_n hx hb d_S_change_6 rfl (lv_at hl 3 rfl) ?_
  refine mc_l (va_runS (As := [.long num, .int (nI k)]) (rest := []) ⟨hx, hb, hml, hown, htg⟩ (t_S_withSign l D cJ cI cP bs w num (nI k)) (cwS (own := R_S) 2 htg (ginS k_337 k_338 k_25 k_339) rfl rfl rfl (by decide +kernel) ⟨Nat.le_of_ble_eq_true rfl, Nat.le_of_ble_eq_true rfl⟩) (mPc.preS hbs hS hP hK) rfl rfl hl.1 rfl (lv_room (Nat.le_of_ble_eq_true rfl)) d_S_change_7 ⟨Nat.le_of_ble_eq_true rfl, Nat.le_of_ble_eq_true rfl⟩) hS (fun r7 u7 H locs hw hP hz7 hS => ?_)
  subst hw
  change W _ _ _ _ _ _ _ _ _ _ _ _ _ _ _ (F0 m 10 ls [.long (wsg num k)])
  refine lv_topl (fun x_1 ex_1 => ?_)
  refine lv_lstore (lv' := [(6, .long x_1), (0, .ref h), (1, .int x), (2, .int (nI a)), (3, .int (nI k)), (4, .long v)]) hx hb d_S_change_10 hl (by decide) rfl (fun ls hl => ?_)
  refine lv_aload_n hx hb d_S_change_12 rfl (lv_at hl 1 rfl) ?_
  refine lv_iload_n hx hb d_S_change_13 rfl (lv_at hl 3 rfl) ?_
  refine lv_iload_n hx hb d_S_change_14 rfl (lv_at hl 4 rfl) ?_
  refine lv_iload_n hx hb d_S_change_15 rfl (lv_at hl 2 rfl) ?_
  refine lv_lload hx hb d_S_change_16 (lv_at hl 0 rfl) ?_
  refine lv_lload hx hb d_S_change_18 (lv_at hl 5 rfl) ?_
  refine lv_iload_n hx hb d_S_change_20 rfl (lv_at hl 4 rfl) ?_
  refine mc_l (va_runS (As := [.long v, .int (nI k)]) (rest := [.long x_1, .int x, .int (nI k), .int (nI a), .ref h]) ⟨hx, hb, hml, hown, htg⟩ (t_S_withSign l D cJ cI cP bs w v (nI k)) (cwS (own := R_S) 2 htg (ginS k_337 k_338 k_25 k_339) rfl rfl rfl (by decide +kernel) ⟨Nat.le_of_ble_eq_true rfl, Nat.le_of_ble_eq_true rfl⟩) (mPc.preS hbs hS hP hK) rfl rfl hl.1 rfl (lv_room (Nat.le_of_ble_eq_true rfl)) d_S_change_21 ⟨Nat.le_of_ble_eq_true rfl, Nat.le_of_ble_eq_true rfl⟩) hS (fun r21 u21 H locs hw hP hz21 hS => ?_)
  subst hw
  change W _ _ _ _ _ _ _ _ _ _ _ _ _ _ _ (F0 m 24 ls [.long (wsg v k), .long x_1, .int x, .int (nI k), .int (nI a), .ref h])
  refine mc_l (va_runS (As := [.int x, .long x_1, .long (wsg v k)]) (rest := [.int (nI k), .int (nI a), .ref h]) ⟨hx, hb, hml, hown, htg⟩ (t_S_changed l D cJ cI cP bs w x x_1 (wsg v k)) (cwS (own := R_S) 3 htg (ginS k_348 k_349 k_25 k_350) rfl rfl rfl (by decide +kernel) ⟨Nat.le_of_ble_eq_true rfl, Nat.le_of_ble_eq_true rfl⟩) (mPc.preS hbs hS hP hK) rfl rfl hl.1 rfl (lv_room (Nat.le_of_ble_eq_true rfl)) d_S_change_24 ⟨Nat.le_of_ble_eq_true rfl, Nat.le_of_ble_eq_true rfl⟩) hS (fun r24 u24 H locs hw hP hz24 hS => ?_)
  have hchg := hw
  refine mc_v (va_runV (As := [.int (nI a), .int (nI k), .long r24]) (rest := []) ⟨hx, hb, hml, hown, htg⟩ (t_S_putNumber l D cJ cI cP bs w h n M T ra rs aT aA aS pt hs a k h1 h8 hak hro r24) (cwV (own := R_S) (C := R_S) 3 htg (ginV k_211 k_213 k_5 k_25 k_214) rfl rfl rfl (by decide +kernel) ⟨Nat.le_of_ble_eq_true rfl, Nat.le_of_ble_eq_true rfl⟩) (mPc.preV (ci := ciS) (q := (R_S, T_S, 4)) hbs hS hP hK rfl f1) rfl rfl hl.1 rfl (lv_room (Nat.le_of_ble_eq_true rfl)) d_S_change_27 ⟨Nat.le_of_ble_eq_true rfl, Nat.le_of_ble_eq_true rfl⟩) hS (fun u9 H locs hw hP hz27 hS => ?_)
  obtain ⟨w9, M9, pt9⟩ := u9
  obtain ⟨z1, z2, z3⟩ := hw
  refine lv_lload hx hb d_S_change_30 (lv_at hl 0 rfl) ?_
  exact W.lret (v := x_1) hx hb hr (fun t ht hW => ⟨⟨_, (w9, M9, pt9), rfl, ⟨z1, by rw [← hchg]; exact z2, z3, num, ex_1, hnum⟩, hP.at ht⟩, hS.F ht⟩) hS.2.2 d_S_change_32
