set_option maxHeartbeats 4000000 in
set_option maxRecDepth 100000 in
/-- the number of k bytes at a place -/
theorem t_S_numberAt (l : Launch) (D : va_G) (cJ cI cP : ClassId) (bs : Nat) (w : Nat → Option va_E) (h n : Nat) (M T : Nat → Int64) (ra : Nat → Int64) (rs : Nat → Int32) (aT aA aS : Nat) (pt : Nat → Option Nat) (hs : sm cJ cI cP w h n M T ra rs aT aA aS pt) (a k : Nat) (h1 : 1 ≤ k) (h8 : k ≤ 8) (hak : a + k ≤ 4096 * n) : Met l y_S_numberAt ws_S_numberAt ({ frames := 2, cells := 0, slots := 0, locals := 43 }) (mPc D vwCl (mT cJ cI cP) bs w [.ref h, .int (nI a), .int (nI k)]) (va_Ql (S := Unit) (fun r _ => ∀ i, i < 64 → bi r i = rdN (mb M) a k i) (mB D vwCl bs (fun _ => w)) (mA bs)) 0 0 (mA bs) := by
  refine Met.ofW (cc := c_S_numberAt) (maxL := 7) (ret := (some .long)) (by decide) rfl ?_
  intro p e s m args below meth c s₁ B hml hv
  obtain ⟨rfl, hbs, hP, hK⟩ := hv
  have hx := B.exec
  have hb := B.bytes
  have hr := B.returns
  have htg : ∀ w ∈ gt, w.before _ s = true := fun w h => atoms_spec (ws := ws_S_numberAt) B.pre w (List.mem_cons_of_mem _ h)
  have hown : s.vm.findClass R_S = some m.cls := findClass_of_methodNamed B.named
  have hlocks := B.notSynchronized
  have hS : va_S (mA bs) s.heap s.heap [] := va_S.rf
  have hl := lv_entry ([.ref h, .int (nI a), .int (nI k)]) (n := 7) (Nat.le_of_ble_eq_true rfl)
  rw [lg_entry_eq]
  generalize (lg_sl ([.ref h, .int (nI a), .int (nI k)]) ++ List.replicate (7 - (lg_sl ([.ref h, .int (nI a), .int (nI k)])).length) Slot.unset).toArray = ls at hl ⊢
  have hl : lv_has ls 7 [(0, .ref h), (1, .int (nI a)), (2, .int (nI k))] := hl
  obtain ⟨hn, s1, s2, s3, s4, s5, s6, s7⟩ := id hs
  have f1 : w h = some (.inr (ciS, [.int (nI n), .ref aT, .ref aA, .ref aS])) := s1
  refine lv_iload_n hx hb d_S_numberAt_0 rfl (lv_at hl 1 rfl) ?_
  refine lv_iconst (v := 3) hx hb d_S_numberAt_1 (by decide) ?_
  refine lv_ishr hx hb d_S_numberAt_2 ?_
  rw [show (nI a) >>> (3 &&& 31) = nI (a / 8) from ish a 3 (by omega) (by omega)]
  refine lv_istore_n (lv' := [(3, .int (nI (a / 8))), (0, .ref h), (1, .int (nI a)), (2, .int (nI k))]) hx hb d_S_numberAt_3 rfl hl (by decide) rfl (fun ls hl => ?_)
  refine lv_iload_n hx hb d_S_numberAt_4 rfl (lv_at hl 2 rfl) ?_
  refine mc_i (va_runS (As := [.int (nI a)]) (rest := []) ⟨hx, hb, hml, hown, htg⟩ (t_S_shiftInWord l D cJ cI cP bs w a (by omega)) (cwS (own := R_S) 1 htg (ginS k_189 k_190 k_25 k_191) rfl rfl rfl (by decide +kernel) ⟨Nat.le_of_ble_eq_true rfl, Nat.le_of_ble_eq_true rfl⟩) (mPc.preS hbs hS hP hK) rfl rfl hl.1 rfl (lv_room (Nat.le_of_ble_eq_true rfl)) d_S_numberAt_5 ⟨Nat.le_of_ble_eq_true rfl, Nat.le_of_ble_eq_true rfl⟩) hS (fun r5 u5 H locs hw hP hz5 hS => ?_)
  subst hw
  refine lv_istore (lv' := [(4, .int (nI (8 * (a % 8)))), (3, .int (nI (a / 8))), (0, .ref h), (1, .int (nI a)), (2, .int (nI k))]) hx hb d_S_numberAt_8 hl (by decide) rfl (fun ls hl => ?_)
  refine lv_aload_n hx hb d_S_numberAt_10 rfl (lv_at hl 2 rfl) ?_
  refine lv_iload_n hx hb d_S_numberAt_11 rfl (lv_at hl 1 rfl) ?_
  refine mc_l (va_runV (As := [.int (nI (a / 8))]) (rest := []) ⟨hx, hb, hml, hown, htg⟩ (t_S_wordAt l D cJ cI cP bs w h n M T ra rs aT aA aS pt hs (a / 8) (by omega)) (cwV (own := R_S) (C := R_S) 1 htg (ginV k_192 k_194 k_4 k_25 k_195) rfl rfl rfl (by decide +kernel) ⟨Nat.le_of_ble_eq_true rfl, Nat.le_of_ble_eq_true rfl⟩) (mPc.preV (ci := ciS) (q := (R_S, T_S, 4)) hbs hS hP hK rfl f1) rfl rfl hl.1 rfl (lv_room (Nat.le_of_ble_eq_true rfl)) d_S_numberAt_12 ⟨Nat.le_of_ble_eq_true rfl, Nat.le_of_ble_eq_true rfl⟩) hS (fun r12 u12 H locs hw hP hz12 hS => ?_)
  subst hw
  refine lv_iload hx hb d_S_numberAt_15 (lv_at hl 0 rfl) ?_
  refine lv_lushr hx hb d_S_numberAt_17 rfl ?_
  refine lv_topl (fun x_1 ex_1 => ?_)
  refine lv_lstore (lv' := [(5, .long x_1), (4, .int (nI (8 * (a % 8)))), (3, .int (nI (a / 8))), (0, .ref h), (1, .int (nI a)), (2, .int (nI k))]) hx hb d_S_numberAt_18 hl (by decide) rfl (fun ls hl => ?_)
  refine lv_iload hx hb d_S_numberAt_20 (lv_at hl 1 rfl) ?_
  refine lv_bipush (v := 8) hx hb d_S_numberAt_22 (by decide) ?_
  refine lv_iload_n hx hb d_S_numberAt_24 rfl (lv_at hl 5 rfl) ?_
  refine lv_imul hx hb d_S_numberAt_25 ?_
  refine lv_iadd hx hb d_S_numberAt_26 ?_
  rw [show (nI (8 * (a % 8))) + (8 * (nI k)) = nI (8 * (a % 8) + 8 * k) from (by show nI _ + nI 8 * nI k = _; rw [pk_mul, nI_add])]
  refine lv_bipush (v := 64) hx hb d_S_numberAt_27 (by decide) ?_
  refine lv_icmp_le (tgt := 50) hx hb d_S_numberAt_29 (by decide) (fun c29 => ?_) (fun c29 => ?_)
  · refine lv_lload hx hb d_S_numberAt_50 (lv_at hl 0 rfl) ?_
    refine lv_iload_n hx hb d_S_numberAt_52 rfl (lv_at hl 5 rfl) ?_
    refine mc_l (va_runS (As := [.int (nI k)]) (rest := [.long x_1]) ⟨hx, hb, hml, hown, htg⟩ (t_S_lowestBytes l D cJ cI cP bs w k h8) (cwS (own := R_S) 1 htg (ginS k_200 k_201 k_25 k_202) rfl rfl rfl (by decide +kernel) ⟨Nat.le_of_ble_eq_true rfl, Nat.le_of_ble_eq_true rfl⟩) (mPc.preS hbs hS hP hK) rfl rfl hl.1 rfl (lv_room (Nat.le_of_ble_eq_true rfl)) d_S_numberAt_53 ⟨Nat.le_of_ble_eq_true rfl, Nat.le_of_ble_eq_true rfl⟩) hS (fun r53 u53 H locs hw hP hz53 hS => ?_)
    subst hw
    refine lv_land hx hb d_S_numberAt_56 ?_
    exact W.lret (v := x_1 &&& (lowB k)) hx hb hr (fun t ht hW => ⟨⟨_, (), rfl, fun i hi => by rw [ex_1]; exact ld_one M h1 h8 ((nI_leI (by omega) (by omega)).mp (show nI _ ≤ nI 64 from c29)) i hi, hP.at ht⟩, hS.F ht⟩) hS.2.2 d_S_numberAt_57
  · have hgt : 64 < 8 * (a % 8) + 8 * k := Nat.lt_of_not_le (fun z => c29 (show nI _ ≤ nI 64 from nI_le z (by omega)))
    refine lv_lload hx hb d_S_numberAt_32 (lv_at hl 0 rfl) ?_
    refine lv_aload_n hx hb d_S_numberAt_34 rfl (lv_at hl 3 rfl) ?_
    refine lv_iload_n hx hb d_S_numberAt_35 rfl (lv_at hl 2 rfl) ?_
    refine lv_iconst (v := 1) hx hb d_S_numberAt_36 (by decide) ?_
    refine lv_iadd hx hb d_S_numberAt_37 ?_
    rw [show (nI (a / 8)) + 1 = nI (a / 8 + 1) from nI_1 _]
    refine mc_l (va_runV (As := [.int (nI (a / 8 + 1))]) (rest := [.long x_1]) ⟨hx, hb, hml, hown, htg⟩ (t_S_wordAt l D cJ cI cP bs w h n M T ra rs aT aA aS pt hs (a / 8 + 1) (by omega)) (cwV (own := R_S) (C := R_S) 1 htg (ginV k_192 k_194 k_4 k_25 k_195) rfl rfl rfl (by decide +kernel) ⟨Nat.le_of_ble_eq_true rfl, Nat.le_of_ble_eq_true rfl⟩) (mPc.preV (ci := ciS) (q := (R_S, T_S, 4)) hbs hS hP hK rfl f1) rfl rfl hl.1 rfl (lv_room (Nat.le_of_ble_eq_true rfl)) d_S_numberAt_38 ⟨Nat.le_of_ble_eq_true rfl, Nat.le_of_ble_eq_true rfl⟩) hS (fun r38 u38 H locs hw hP hz38 hS => ?_)
    subst hw
    refine lv_bipush (v := 64) hx hb d_S_numberAt_41 (by decide) ?_
    refine lv_iload hx hb d_S_numberAt_43 (lv_at hl 1 rfl) ?_
    refine lv_isub hx hb d_S_numberAt_45 ?_
    rw [show 64 - (nI (8 * (a % 8))) = nI (64 - 8 * (a % 8)) from (by show nI 64 - nI _ = _; exact pk_sub (by omega))]
    refine lv_lshl hx hb d_S_numberAt_46 rfl ?_
    refine lv_lor hx hb d_S_numberAt_47 ?_
    refine lv_topl (fun x_2 ex_2 => ?_)
    refine lv_lstore (lv' := [(5, .long x_2), (4, .int (nI (8 * (a % 8)))), (3, .int (nI (a / 8))), (0, .ref h), (1, .int (nI a)), (2, .int (nI k))]) hx hb d_S_numberAt_48 hl (by decide) rfl (fun ls hl => ?_)
    refine lv_lload hx hb d_S_numberAt_50 (lv_at hl 0 rfl) ?_
    refine lv_iload_n hx hb d_S_numberAt_52 rfl (lv_at hl 5 rfl) ?_
    refine mc_l (va_runS (As := [.int (nI k)]) (rest := [.long x_2]) ⟨hx, hb, hml, hown, htg⟩ (t_S_lowestBytes l D cJ cI cP bs w k h8) (cwS (own := R_S) 1 htg (ginS k_200 k_201 k_25 k_202) rfl rfl rfl (by decide +kernel) ⟨Nat.le_of_ble_eq_true rfl, Nat.le_of_ble_eq_true rfl⟩) (mPc.preS hbs hS hP hK) rfl rfl hl.1 rfl (lv_room (Nat.le_of_ble_eq_true rfl)) d_S_numberAt_53 ⟨Nat.le_of_ble_eq_true rfl, Nat.le_of_ble_eq_true rfl⟩) hS (fun r53 u53 H locs hw hP hz53 hS => ?_)
    subst hw
    refine lv_land hx hb d_S_numberAt_56 ?_
    exact W.lret (v := x_2 &&& (lowB k)) hx hb hr (fun t ht hW => ⟨⟨_, (), rfl, fun i hi => by rw [ex_2, ex_1]; exact ld_two M h1 h8 hgt i hi, hP.at ht⟩, hS.F ht⟩) hS.2.2 d_S_numberAt_57
set_option maxHeartbeats 4000000 in
set_option maxRecDepth 100000 in
/-- pageToWrite: the page at i, made if there was none -/
theorem t_S_ptw (l : Launch) (D : va_G) (cJ cI cP : ClassId) (bs : Nat) (w : Nat → Option va_E) (h n : Nat) (M T : Nat → Int64) (ra : Nat → Int64) (rs : Nat → Int32) (aT aA aS : Nat) (pt : Nat → Option Nat) (hs : sm cJ cI cP w h n M T ra rs aT aA aS pt) (i : Nat) (hi : i < n) (mc ms : Nat) (hm : pt i = none → 1 ≤ mc ∧ 5 ≤ ms) : Met l y_S_pageToWrite ws_S_pageToWrite ({ frames := 2, cells := mc, slots := ms, locals := 40 }) (mPc D vwCl (mT cJ cI cP) bs w [.ref h, .int (nI i)]) (va_Qr (S := ((Nat → Option va_E) × Nat × (Nat → Option Nat))) (fun u => sm cJ cI cP u.1 h n M T ra rs aT aA aS u.2.2 ∧ u.2.2 i = some u.2.1 ∧ kp w u.1 (sfp w h) (sfp u.1 h) ∧ (∀ j, ¬ j = i → u.2.2 j = pt j) ∧ (¬ pt i = none → u.2.2 i = pt i)) (fun u ra t => ra = (fun u => u.2.1) u ∧ mw D vwCl bs ((fun u => u.1) u) t.heap) (mA bs)) mc ms (mA bs) := by
  refine Met.ofW (cc := c_S_pageToWrite) (maxL := 3) (ret := (some (.object "SharedMemory$Page"))) (by decide) rfl ?_
  intro p e s m args below meth c s₁ B hml hv
  obtain ⟨rfl, hbs, hP, hK⟩ := hv
  have hx := B.exec
  have hb := B.bytes
  have hr := B.returns
  have htg : ∀ w ∈ gt, w.before _ s = true := fun w h => atoms_spec (ws := ws_S_pageToWrite) B.pre w (List.mem_cons_of_mem _ h)
  have hown : s.vm.findClass R_S = some m.cls := findClass_of_methodNamed B.named
  have hlocks := B.notSynchronized
  have hS : va_S (mA bs) s.heap s.heap [] := va_S.rf
  have hl := lv_entry ([.ref h, .int (nI i)]) (n := 3) (Nat.le_of_ble_eq_true rfl)
  rw [lg_entry_eq]
  generalize (lg_sl ([.ref h, .int (nI i)]) ++ List.replicate (3 - (lg_sl ([.ref h, .int (nI i)])).length) Slot.unset).toArray = ls at hl ⊢
  have hl : lv_has ls 3 [(0, .ref h), (1, .int (nI i))] := hl
  obtain ⟨hn, s1, s2, s3, s4, s5, s6, s7⟩ := id hs
  have f1 : w h = some (.inr (ciS, [.int (nI n), .ref aT, .ref aA, .ref aS])) := s1
  refine lv_aload_n hx hb d_S_pageToWrite_0 rfl (lv_at hl 0 rfl) ?_
  refine mw_get (C := R_S) (T := T_S) (N := 4) (ci := ciS) (v := .ref aT) hx hb htg i_S hown hK hP f1 rfl 1 (by decide) (htg _ k_47) (fun _ h9 => h9) rfl d_S_pageToWrite_1 ?_
  refine lv_iload_n hx hb d_S_pageToWrite_4 rfl (lv_at hl 1 rfl) ?_
  refine mw_aldq hx hb hK hP 2 s2 rfl (vp_in_nI hi (by omega)) d_S_pageToWrite_5 ?_
  rw [show (nI i).toNatClampNeg = i from nI_clamp (by omega)]
  rcases hpt : pt i with _ | pz
  · refine lv_astore_nN (lv' := [(2, .null), (0, .ref h), (1, .int (nI i))]) hx hb d_S_pageToWrite_6 rfl hl (by decide) rfl (fun ls hl => ?_)
    refine lv_aload_nN hx hb d_S_pageToWrite_7 rfl (lv_at hl 0 rfl) ?_
    refine lv_ifnonnullN hx hb d_S_pageToWrite_8 ?_
    refine mw_new (C := R_P) (T := T_P) (N := 5) (ci := ciP) (fs := [.null, .int 0, .long 0, .int 0, .long 0]) hx hb htg i_P ty_P tk_P hown (htg _ k_44) (htg _ k_223) (htg _ k_32) hK hP hS (hbs) rfl (fun j hj => by rcases (show j = 0 ∨ j = 1 ∨ j = 2 ∨ j = 3 ∨ j = 4 by omega) with rfl | rfl | rfl | rfl | rfl <;> rfl) (hm hpt).1 (hm hpt).2 d_S_pageToWrite_11 (fun q_1 H nq_1 eq_1 hP hS hz11 => ?_)
    obtain ⟨w_2, ew_2⟩ : ∃ z9, z9 = va_up w q_1 (some (.inr (ciP, [.null, .int 0, .long 0, .int 0, .long 0])) : Option va_E) := ⟨_, rfl⟩
    rw [← ew_2] at hP
    have h_3 : w_2 q_1 = some (.inr (ciP, [.null, .int 0, .long 0, .int 0, .long 0])) := by rw [ew_2, va_up_self]
    have h_4 : w_2 h = some (.inr (ciS, [.int (nI n), .ref aT, .ref aA, .ref aS])) := by rw [ew_2, va_up_ne _ _ (fun z => by rw [z, nq_1] at f1; cases f1)]; exact f1
    have h_5 : w_2 aT = some (.inl (cP, n, .inr (.inr (.inr (.inr pt))))) := by rw [ew_2, va_up_ne _ _ (fun z => by rw [z, nq_1] at s2; cases s2)]; exact s2
    have h_6 : w_2 aA = some (.inl (cJ, 4, .inr (.inl ra))) := by rw [ew_2, va_up_ne _ _ (fun z => by rw [z, nq_1] at s3; cases s3)]; exact s3
    have h_7 : w_2 aS = some (.inl (cI, 4, .inl rs)) := by rw [ew_2, va_up_ne _ _ (fun z => by rw [z, nq_1] at s4; cases s4)]; exact s4
    refine lv_dup hx hb d_S_pageToWrite_14 rfl ?_
    refine mc_v (va_runI (As := []) (rest := [.ref q_1]) ⟨hx, hb, hml, hown, htg⟩ (t_P_init l D cJ cI cP bs w_2 q_1 h_3) (cwI 0 htg (gin0 k_226) rfl rfl rfl (htg _ k_32) (htg _ k_224) (htg _ k_225) rfl (by decide +kernel) ⟨Nat.le_of_ble_eq_true rfl, Nat.le_of_ble_eq_true rfl⟩) (mPc.preS hbs hS hP hK) rfl rfl hl.1 rfl (lv_room (Nat.le_of_ble_eq_true rfl)) d_S_pageToWrite_15 ⟨(hm hpt).1, (hm hpt).2⟩) hS (fun u15 H locs hw hP hz15 hS => ?_)
    have hP : mw D vwCl bs (va_up w_2 q_1 (some (pgE none 1 0 0 0))) H := hP
    rw [ew_2, bx_uu] at hP
    obtain ⟨w2, ew2⟩ : ∃ z9, z9 = va_up w q_1 (some (pgE none 1 0 0 0) : Option va_E) := ⟨_, rfl⟩
    rw [← ew2] at hP
    have y1 : w2 q_1 = some (.inr (ciP, [.null, .int 1, .long 0, .int 0, .long 0])) := by rw [ew2, va_up_self]; rfl
    have f12 : w2 h = some (.inr (ciS, [.int (nI n), .ref aT, .ref aA, .ref aS])) := by rw [ew2, va_up_ne _ _ (fun z => by rw [z, nq_1] at f1; cases f1)]; exact f1
    have s22 : w2 aT = some (.inl (cP, n, .inr (.inr (.inr (.inr pt))))) := by rw [ew2, va_up_ne _ _ (fun z => by rw [z, nq_1] at s2; cases s2)]; exact s2
    refine lv_astore_n (lv' := [(2, .ref q_1), (0, .ref h), (1, .int (nI i))]) hx hb d_S_pageToWrite_18 rfl hl (by decide) rfl (fun ls hl => ?_)
    refine lv_aload_n hx hb d_S_pageToWrite_19 rfl (lv_at hl 1 rfl) ?_
    refine mw_get (C := R_S) (T := T_S) (N := 4) (ci := ciS) (v := .ref aT) hx hb htg i_S hown hK hP f12 rfl 1 (by decide) (htg _ k_47) (fun _ h9 => h9) rfl d_S_pageToWrite_20 ?_
    refine lv_iload_n hx hb d_S_pageToWrite_23 rfl (lv_at hl 2 rfl) ?_
    refine lv_aload_n hx hb d_S_pageToWrite_24 rfl (lv_at hl 0 rfl) ?_
    refine mw_astq (r := (R_P, T_P, 5)) hx hb hK hP hS 2 ciP s22 rfl y1 rfl (vp_in_nI hi (by omega)) d_S_pageToWrite_25 (fun H locs hP hS hz25 => ?_)
    rw [show (nI i).toNatClampNeg = i from nI_clamp (by omega), ew2] at hP
    have hgrow := sm_grow hs hi hpt nq_1
    refine lv_aload_n hx hb d_S_pageToWrite_26 rfl (lv_at hl 0 rfl) ?_
    refine W.widen (k := mc) (n := ms) (hm hpt).1 (hm hpt).2 ?_
    exact W.aret (v := .ref q_1) hx hb hr (Or.inl ⟨_, rfl⟩) (Or.inr ⟨_, rfl⟩) (fun t ht hW => ⟨⟨(_, q_1, va_up pt i (some q_1)), q_1, rfl, ⟨hgrow.1, va_up_self _ _ _, hgrow.2, fun j hj => va_up_ne _ _ hj, fun z => absurd (by first | rfl | exact hpt) z⟩, rfl, hP.at ht⟩, hS.F ht⟩) hS.2.2 d_S_pageToWrite_27
  · refine lv_astore_n (lv' := [(2, .ref pz), (0, .ref h), (1, .int (nI i))]) hx hb d_S_pageToWrite_6 rfl hl (by decide) rfl (fun ls hl => ?_)
    refine lv_aload_n hx hb d_S_pageToWrite_7 rfl (lv_at hl 0 rfl) ?_
    refine lv_ifnonnull (tgt := 26) hx hb d_S_pageToWrite_8 (by decide) ?_
    refine lv_aload_n hx hb d_S_pageToWrite_26 rfl (lv_at hl 0 rfl) ?_
    refine W.widen (k := mc) (n := ms) (Nat.zero_le _) (Nat.zero_le _) ?_
    exact W.aret (v := .ref pz) hx hb hr (Or.inl ⟨_, rfl⟩) (Or.inr ⟨_, rfl⟩) (fun t ht hW => ⟨⟨(w, pz, pt), pz, rfl, ⟨hs, hpt, kp.rf, fun _ _ => rfl, fun _ => by first | rfl | exact hpt⟩, rfl, hP.at ht⟩, hS.F ht⟩) hS.2.2 d_S_pageToWrite_27
set_option maxHeartbeats 4000000 in
set_option maxRecDepth 100000 in
/-- mergeWord -/
theorem t_S_mergeWord (l : Launch) (D : va_G) (cJ cI cP : ClassId) (bs : Nat) (w : Nat → Option va_E) (h n : Nat) (M T : Nat → Int64) (ra : Nat → Int64) (rs : Nat → Int32) (aT aA aS : Nat) (pt : Nat → Option Nat) (hs : sm cJ cI cP w h n M T ra rs aT aA aS pt) (k : Nat) (hk : k < 512 * n) (mask bits : Int64) : Met l y_S_mergeWord ws_S_mergeWord ({ frames := 3, cells := 2, slots := 517, locals := 73 }) (mPc D vwCl (mT cJ cI cP) bs w [.ref h, .int (nI k), .long mask, .long bits]) (va_Qv (S := ((Nat → Option va_E) × (Nat → Option Nat))) (fun u => sm cJ cI cP u.1 h n (va_up M k (mrg (M k) mask bits)) T ra rs aT aA aS u.2 ∧ kp w u.1 (sfp w h) (sfp u.1 h) ∧ (∀ j, ¬ pt j = none → ¬ u.2 j = none) ∧ ¬ u.2 (k / 512) = none) (mB D vwCl bs (fun u => u.1)) (mA bs)) 2 517 (mA bs) := by
  refine Met.ofW (cc := c_S_mergeWord) (maxL := 6) (ret := none) (by decide) rfl ?_
  intro p e s m args below meth c s₁ B hml hv
  obtain ⟨rfl, hbs, hP, hK⟩ := hv
  have hx := B.exec
  have hb := B.bytes
  have hr := B.returns
  have htg : ∀ w ∈ gt, w.before _ s = true := fun w h => atoms_spec (ws := ws_S_mergeWord) B.pre w (List.mem_cons_of_mem _ h)
  have hown : s.vm.findClass R_S = some m.cls := findClass_of_methodNamed B.named
  have hlocks := B.notSynchronized
  have hS : va_S (mA bs) s.heap s.heap [] := va_S.rf
  have hl := lv_entry ([.ref h, .int (nI k), .long mask, .long bits]) (n := 6) (Nat.le_of_ble_eq_true rfl)
  rw [lg_entry_eq]
  generalize (lg_sl ([.ref h, .int (nI k), .long mask, .long bits]) ++ List.replicate (6 - (lg_sl ([.ref h, .int (nI k), .long mask, .long bits])).length) Slot.unset).toArray = ls at hl ⊢
  have hl : lv_has ls 6 [(0, .ref h), (1, .int (nI k)), (2, .long mask), (4, .long bits)] := hl
  obtain ⟨hn, s1, s2, s3, s4, s5, s6, s7⟩ := id hs
  have f1 : w h = some (.inr (ciS, [.int (nI n), .ref aT, .ref aA, .ref aS])) := s1
  have hi : k / 512 < n := by omega
  refine lv_aload_n hx hb d_S_mergeWord_0 rfl (lv_at hl 0 rfl) ?_
  refine lv_iload_n hx hb d_S_mergeWord_1 rfl (lv_at hl 1 rfl) ?_
  refine lv_bipush (v := 9) hx hb d_S_mergeWord_2 (by decide) ?_
  refine lv_ishr hx hb d_S_mergeWord_4 ?_
  rw [show (nI k) >>> (9 &&& 31) = nI (k / 512) from ish k 9 (by omega) (by omega)]
  refine mc_r (va_runV (As := [.int (nI (k / 512))]) (rest := []) ⟨hx, hb, hml, hown, htg⟩ (t_S_ptw l D cJ cI cP bs w h n M T ra rs aT aA aS pt hs (k / 512) hi 1 5 (fun _ => ⟨Nat.le_refl _, Nat.le_refl _⟩)) (cwV (own := R_S) (C := R_S) 1 htg (ginV k_219 k_221 k_7 k_25 k_222) rfl rfl rfl (by decide +kernel) ⟨Nat.le_of_ble_eq_true rfl, Nat.le_of_ble_eq_true rfl⟩) (mPc.preV (ci := ciS) (q := (R_S, T_S, 4)) hbs hS hP hK rfl f1) rfl rfl hl.1 rfl (lv_room (Nat.le_of_ble_eq_true rfl)) d_S_mergeWord_5 ⟨Nat.le_of_ble_eq_true rfl, Nat.le_of_ble_eq_true rfl⟩) hS (fun u5 H locs hw hP hz5 hS => ?_)
  obtain ⟨w2, pz, pt2⟩ := u5
  obtain ⟨m1, m2, m3, m4, m5⟩ := hw
  have m1 : sm cJ cI cP w2 h n M T ra rs aT aA aS pt2 := m1
  have m2 : pt2 (k / 512) = some pz := m2
  have m3 : kp w w2 (sfp w h) (sfp w2 h) := m3
  have m4 : ∀ j, ¬ j = (k / 512) → pt2 j = pt j := m4
  have hP : mw D vwCl bs w2 H := hP
  have m6 := m1.2.2.2.2.2.2.1 (k / 512) pz hi m2
  obtain ⟨wr, ev, ew, y1, y2⟩ := id m6
  refine lv_iload_n hx hb d_S_mergeWord_8 rfl (lv_at hl 1 rfl) ?_
  refine lv_sipush (v := 511) hx hb d_S_mergeWord_9 (by decide) ?_
  refine lv_iand hx hb d_S_mergeWord_12 ?_
  rw [show (nI k) &&& 511 = nI (k % 512) from pk_andN (show k < 2 ^ 32 by omega) 9 (by decide)]
  refine lv_lload_n hx hb d_S_mergeWord_13 rfl (lv_at hl 2 rfl) ?_
  refine lv_lload hx hb d_S_mergeWord_14 (lv_at hl 3 rfl) ?_
  refine mc_v (va_runV (As := [.int (nI (k % 512)), .long mask, .long bits]) (rest := []) ⟨hx, hb, hml, hown, htg⟩ (t_P_merge l D cJ cI cP bs w2 pz (fun j => M (512 * (k / 512) + j)) (T (k / 512)) m6 (k % 512) (Nat.mod_lt _ (by decide)) mask bits 1 512 (fun _ _ => ⟨Nat.le_refl _, Nat.le_refl _⟩)) (cwV (own := R_S) (C := R_P) 3 htg (ginV k_244 k_245 k_246 k_32 k_247) rfl rfl rfl (by decide +kernel) ⟨Nat.le_of_ble_eq_true rfl, Nat.le_of_ble_eq_true rfl⟩) (mPc.preV (ci := ciP) (q := (R_P, T_P, 5)) hbs hS hP hK rfl y1) rfl rfl hl.1 rfl (lv_room (Nat.le_of_ble_eq_true rfl)) d_S_mergeWord_16 ⟨Nat.le_of_ble_eq_true rfl, Nat.le_of_ble_eq_true rfl⟩) hS (fun w3 H locs hw hP hz16 hS => ?_)
  obtain ⟨v1, v2, -, -⟩ := hw
  have hpg := sm_page m1 hi m2 v2 v1
  rw [va_up_id, show M (512 * (k / 512) + k % 512) = M k by rw [show 512 * (k / 512) + k % 512 = k by omega], pup_merge] at hpg
  have hold : ∀ j, ¬ pt j = none → ¬ pt2 j = none := fun j hj => by
    by_cases hji : j = k / 512
    · rw [hji, m2]; simp
    · rw [m4 j hji]; exact hj
  exact W.vret hx hb hr (fun t ht hW => ⟨⟨(w3, pt2), rfl, ⟨hpg.1, m3.trans hpg.2, hold, by show ¬ pt2 (k / 512) = none; rw [m2]; simp⟩, hP.at ht⟩, hS.F ht⟩) hS.2.2 d_S_mergeWord_19
