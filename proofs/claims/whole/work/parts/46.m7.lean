set_option maxHeartbeats 4000000 in
set_option maxRecDepth 100000 in
theorem t_M_noPage (l : Launch) (D : va_G) (cJ cI cP : ClassId) (bs : Nat) (w : Nat → Option va_E) (hm n : Nat) (cd : Int32) (M T pl : Nat → Int64) (sz : Nat → Int32) (aW aU aP aZ : Nat) (hs : mo cJ cI w hm n cd M T pl sz aW aU aP aZ) (x : Int32) : Met l y_M_noPage ws_M_noPage ({ frames := 0, cells := 0, slots := 0, locals := 0 }) (mPc D vwCl (mT cJ cI cP) bs w [.ref hm, .int x]) (va_Qi (S := (Nat → Option va_E)) (fun r u => kM w u hm aW aU aP aZ ∧ ((r = 1 ∧ (¬ ∃ i, i < n ∧ x = nI i) ∧ mo cJ cI u hm n 1 M T pl sz aW aU aP aZ) ∨ (r = 0 ∧ (∃ i, i < n ∧ x = nI i) ∧ mo cJ cI u hm n 0 M T pl sz aW aU aP aZ))) (mB D vwCl bs (fun u => u)) (mA bs)) 0 0 (mA bs) := by
  refine Met.ofW (cc := c_M_noPage) (maxL := 2) (ret := (some .boolean)) (by decide) rfl ?_
  intro p e s m args below meth c s₁ B hml hv
  obtain ⟨rfl, hbs, hP, hK⟩ := hv
  have hx := B.exec
  have hb := B.bytes
  have hr := B.returns
  have htg : ∀ w ∈ gt, w.before _ s = true := fun w h => atoms_spec (ws := ws_M_noPage) B.pre w (List.mem_cons_of_mem _ h)
  have hown : s.vm.findClass R_M = some m.cls := findClass_of_methodNamed B.named
  have hlocks := B.notSynchronized
  have hS : va_S (mA bs) s.heap s.heap [] := va_S.rf
  have hl := lv_entry ([.ref hm, .int x]) (n := 2) (Nat.le_of_ble_eq_true rfl)
  rw [lg_entry_eq]
  generalize (lg_sl ([.ref hm, .int x]) ++ List.replicate (2 - (lg_sl ([.ref hm, .int x])).length) Slot.unset).toArray = ls at hl ⊢
  have hl : lv_has ls 2 [(0, .ref hm), (1, .int x)] := hl
  obtain ⟨hn, s1, s2, s3, s4, s5⟩ := id hs
  refine lv_aload_n hx hb d_M_noPage_0 rfl (lv_at hl 0 rfl) ?_
  refine lv_iload_n hx hb d_M_noPage_1 rfl (lv_at hl 1 rfl) ?_
  refine lv_if_lt (tgt := 13) hx hb d_M_noPage_2 (by decide) (fun c2 => ?_) (fun c2 => ?_)
  · have hno : ¬ ∃ i, i < n ∧ x = nI i := fun ⟨i, hi, e⟩ => by
      first
        | exact nI_pos (show i < 2 ^ 31 by omega) (by rw [← e]; exact c2)
        | exact c10 (by rw [e]; exact nI_lt hi (by omega))
    refine lv_iconst (v := 1) hx hb d_M_noPage_13 (by decide) ?_
    refine lv_goto (tgt := 18) hx hb d_M_noPage_14 (by decide) ?_
    refine mw_put (C := R_M) (T := T_M) (N := 6) (ci := ciM) (v := .int 1) (ty := .int) (fs' := [.int 1, .int (nI n), .ref aW, .ref aU, .ref aP, .ref aZ]) hx hb htg i_M ty_M tk_M nm_M hown hK hP hS s1 rfl 0 (by decide) (htg _ k_411) (fun _ h9 => h9) rfl (by decide +kernel) rfl rfl (Nat.le_of_ble_eq_true rfl) rfl d_M_noPage_18 (fun H locs hP hS hz18 => ?_)
    obtain ⟨w_1, ew_1⟩ : ∃ z9, z9 = va_up w hm (some (.inr (ciM, [.int 1, .int (nI n), .ref aW, .ref aU, .ref aP, .ref aZ])) : Option va_E) := ⟨_, rfl⟩
    rw [← ew_1] at hP
    have h_2 : w_1 hm = some (.inr (ciM, [.int 1, .int (nI n), .ref aW, .ref aU, .ref aP, .ref aZ])) := by rw [ew_1, va_up_self]
    have h_3 : w_1 aW = some (.inl (cJ, 524288, .inr (.inl M))) := by rw [ew_1, va_up_ne _ _ (fun z => by rw [z, s1] at s2; cases s2)]; exact s2
    have h_4 : w_1 aU = some (.inl (cJ, 1024, .inr (.inl T))) := by rw [ew_1, va_up_ne _ _ (fun z => by rw [z, s1] at s3; cases s3)]; exact s3
    have h_5 : w_1 aP = some (.inl (cJ, 4, .inr (.inl pl))) := by rw [ew_1, va_up_ne _ _ (fun z => by rw [z, s1] at s4; cases s4)]; exact s4
    have h_6 : w_1 aZ = some (.inl (cI, 4, .inl sz)) := by rw [ew_1, va_up_ne _ _ (fun z => by rw [z, s1] at s5; cases s5)]; exact s5
    refine lv_aload_n hx hb d_M_noPage_21 rfl (lv_at hl 0 rfl) ?_
    refine mw_get (C := R_M) (T := T_M) (N := 6) (ci := ciM) (v := .int 1) hx hb htg i_M hown hK hP h_2 rfl 0 (by decide) (htg _ k_411) (fun _ h9 => h9) rfl d_M_noPage_22 ?_
    refine lv_if_le (tgt := 32) hx hb d_M_noPage_25 (by decide) (fun z => absurd z (by decide)) (fun _ => ?_)
    refine lv_iconst (v := 1) hx hb d_M_noPage_28 (by decide) ?_
    refine lv_goto (tgt := 33) hx hb d_M_noPage_29 (by decide) ?_
    have hmo : mo cJ cI w_1 hm n 1 M T pl sz aW aU aP aZ := ⟨hn, h_2, h_3, h_4, h_5, h_6⟩
    have hkm : kM w w_1 hm aW aU aP aZ := fun q z1 z2 z3 z4 z5 => by rw [ew_1, va_up_ne _ _ z1]
    exact W.zret (v := 1) hx hb hr rfl (fun t ht hW => ⟨⟨_, w_1, rfl, ⟨hkm, Or.inl ⟨rfl, hno, hmo⟩⟩, hP.at ht⟩, hS.F ht⟩) hS.2.2 d_M_noPage_33
  · refine lv_iload_n hx hb d_M_noPage_5 rfl (lv_at hl 1 rfl) ?_
    refine lv_aload_n hx hb d_M_noPage_6 rfl (lv_at hl 0 rfl) ?_
    refine mw_get (C := R_M) (T := T_M) (N := 6) (ci := ciM) (v := .int (nI n)) hx hb htg i_M hown hK hP s1 rfl 1 (by decide) (htg _ k_412) (fun _ h9 => h9) rfl d_M_noPage_7 ?_
    refine lv_icmp_lt (tgt := 17) hx hb d_M_noPage_10 (by decide) (fun c10 => ?_) (fun c10 => ?_)
    · have hyes : ∃ i, i < n ∧ x = nI i := by
        obtain ⟨i, hi, e⟩ := nI_of c2
        subst e
        exact ⟨i, (nI_ltI hi (by omega)).mp c10, rfl⟩
      refine lv_iconst (v := 0) hx hb d_M_noPage_17 (by decide) ?_
      refine mw_put (C := R_M) (T := T_M) (N := 6) (ci := ciM) (v := .int 0) (ty := .int) (fs' := [.int 0, .int (nI n), .ref aW, .ref aU, .ref aP, .ref aZ]) hx hb htg i_M ty_M tk_M nm_M hown hK hP hS s1 rfl 0 (by decide) (htg _ k_411) (fun _ h9 => h9) rfl (by decide +kernel) rfl rfl (Nat.le_of_ble_eq_true rfl) rfl d_M_noPage_18 (fun H locs hP hS hz18 => ?_)
      obtain ⟨w_7, ew_7⟩ : ∃ z9, z9 = va_up w hm (some (.inr (ciM, [.int 0, .int (nI n), .ref aW, .ref aU, .ref aP, .ref aZ])) : Option va_E) := ⟨_, rfl⟩
      rw [← ew_7] at hP
      have h_8 : w_7 hm = some (.inr (ciM, [.int 0, .int (nI n), .ref aW, .ref aU, .ref aP, .ref aZ])) := by rw [ew_7, va_up_self]
      have h_9 : w_7 aW = some (.inl (cJ, 524288, .inr (.inl M))) := by rw [ew_7, va_up_ne _ _ (fun z => by rw [z, s1] at s2; cases s2)]; exact s2
      have h_10 : w_7 aU = some (.inl (cJ, 1024, .inr (.inl T))) := by rw [ew_7, va_up_ne _ _ (fun z => by rw [z, s1] at s3; cases s3)]; exact s3
      have h_11 : w_7 aP = some (.inl (cJ, 4, .inr (.inl pl))) := by rw [ew_7, va_up_ne _ _ (fun z => by rw [z, s1] at s4; cases s4)]; exact s4
      have h_12 : w_7 aZ = some (.inl (cI, 4, .inl sz)) := by rw [ew_7, va_up_ne _ _ (fun z => by rw [z, s1] at s5; cases s5)]; exact s5
      refine lv_aload_n hx hb d_M_noPage_21 rfl (lv_at hl 0 rfl) ?_
      refine mw_get (C := R_M) (T := T_M) (N := 6) (ci := ciM) (v := .int 0) hx hb htg i_M hown hK hP h_8 rfl 0 (by decide) (htg _ k_411) (fun _ h9 => h9) rfl d_M_noPage_22 ?_
      refine lv_if_le (tgt := 32) hx hb d_M_noPage_25 (by decide) (fun _ => ?_) (fun z => absurd z (by decide))
      refine lv_iconst (v := 0) hx hb d_M_noPage_32 (by decide) ?_
      have hmo : mo cJ cI w_7 hm n 0 M T pl sz aW aU aP aZ := ⟨hn, h_8, h_9, h_10, h_11, h_12⟩
      have hkm : kM w w_7 hm aW aU aP aZ := fun q z1 z2 z3 z4 z5 => by rw [ew_7, va_up_ne _ _ z1]
      exact W.zret (v := 0) hx hb hr rfl (fun t ht hW => ⟨⟨_, w_7, rfl, ⟨hkm, Or.inr ⟨rfl, hyes, hmo⟩⟩, hP.at ht⟩, hS.F ht⟩) hS.2.2 d_M_noPage_33
    · have hno : ¬ ∃ i, i < n ∧ x = nI i := fun ⟨i, hi, e⟩ => by
        first
          | exact nI_pos (show i < 2 ^ 31 by omega) (by rw [← e]; exact c2)
          | exact c10 (by rw [e]; exact nI_lt hi (by omega))
      refine lv_iconst (v := 1) hx hb d_M_noPage_13 (by decide) ?_
      refine lv_goto (tgt := 18) hx hb d_M_noPage_14 (by decide) ?_
      refine mw_put (C := R_M) (T := T_M) (N := 6) (ci := ciM) (v := .int 1) (ty := .int) (fs' := [.int 1, .int (nI n), .ref aW, .ref aU, .ref aP, .ref aZ]) hx hb htg i_M ty_M tk_M nm_M hown hK hP hS s1 rfl 0 (by decide) (htg _ k_411) (fun _ h9 => h9) rfl (by decide +kernel) rfl rfl (Nat.le_of_ble_eq_true rfl) rfl d_M_noPage_18 (fun H locs hP hS hz18 => ?_)
      obtain ⟨w_13, ew_13⟩ : ∃ z9, z9 = va_up w hm (some (.inr (ciM, [.int 1, .int (nI n), .ref aW, .ref aU, .ref aP, .ref aZ])) : Option va_E) := ⟨_, rfl⟩
      rw [← ew_13] at hP
      have h_14 : w_13 hm = some (.inr (ciM, [.int 1, .int (nI n), .ref aW, .ref aU, .ref aP, .ref aZ])) := by rw [ew_13, va_up_self]
      have h_15 : w_13 aW = some (.inl (cJ, 524288, .inr (.inl M))) := by rw [ew_13, va_up_ne _ _ (fun z => by rw [z, s1] at s2; cases s2)]; exact s2
      have h_16 : w_13 aU = some (.inl (cJ, 1024, .inr (.inl T))) := by rw [ew_13, va_up_ne _ _ (fun z => by rw [z, s1] at s3; cases s3)]; exact s3
      have h_17 : w_13 aP = some (.inl (cJ, 4, .inr (.inl pl))) := by rw [ew_13, va_up_ne _ _ (fun z => by rw [z, s1] at s4; cases s4)]; exact s4
      have h_18 : w_13 aZ = some (.inl (cI, 4, .inl sz)) := by rw [ew_13, va_up_ne _ _ (fun z => by rw [z, s1] at s5; cases s5)]; exact s5
      refine lv_aload_n hx hb d_M_noPage_21 rfl (lv_at hl 0 rfl) ?_
      refine mw_get (C := R_M) (T := T_M) (N := 6) (ci := ciM) (v := .int 1) hx hb htg i_M hown hK hP h_14 rfl 0 (by decide) (htg _ k_411) (fun _ h9 => h9) rfl d_M_noPage_22 ?_
      refine lv_if_le (tgt := 32) hx hb d_M_noPage_25 (by decide) (fun z => absurd z (by decide)) (fun _ => ?_)
      refine lv_iconst (v := 1) hx hb d_M_noPage_28 (by decide) ?_
      refine lv_goto (tgt := 33) hx hb d_M_noPage_29 (by decide) ?_
      have hmo : mo cJ cI w_13 hm n 1 M T pl sz aW aU aP aZ := ⟨hn, h_14, h_15, h_16, h_17, h_18⟩
      have hkm : kM w w_13 hm aW aU aP aZ := fun q z1 z2 z3 z4 z5 => by rw [ew_13, va_up_ne _ _ z1]
      exact W.zret (v := 1) hx hb hr rfl (fun t ht hW => ⟨⟨_, w_13, rfl, ⟨hkm, Or.inl ⟨rfl, hno, hmo⟩⟩, hP.at ht⟩, hS.F ht⟩) hS.2.2 d_M_noPage_33
set_option maxHeartbeats 4000000 in
set_option maxRecDepth 100000 in
theorem t_M_drop (l : Launch) (D : va_G) (cJ cI cP : ClassId) (bs : Nat) (w : Nat → Option va_E) (hm n : Nat) (cd : Int32) (M T pl : Nat → Int64) (sz : Nat → Int32) (aW aU aP aZ : Nat) (hs : mo cJ cI w hm n cd M T pl sz aW aU aP aZ) (hro : rok pl n) (x : Int32) : Met l y_M_drop ws_M_drop ({ frames := 0, cells := 0, slots := 0, locals := 0 }) (mPc D vwCl (mT cJ cI cP) bs w [.ref hm, .int x]) (va_Qi (S := (Nat → Option va_E)) (fun r u => kM w u hm aW aU aP aZ ∧ ((¬ (0 ≤ x ∧ x < 4) ∧ mo cJ cI u hm n 1 M T pl sz aW aU aP aZ) ∨ (∃ j, j < 4 ∧ x = nI j ∧ r = (if pl j = 0 then 0 else 1) ∧ mo cJ cI u hm n 0 M T (vp_updL pl j 0) sz aW aU aP aZ))) (mB D vwCl bs (fun u => u)) (mA bs)) 0 0 (mA bs) := by
  refine Met.ofW (cc := c_M_drop) (maxL := 3) (ret := (some .boolean)) (by decide) rfl ?_
  intro p e s m args below meth c s₁ B hml hv
  obtain ⟨rfl, hbs, hP, hK⟩ := hv
  have hx := B.exec
  have hb := B.bytes
  have hr := B.returns
  have htg : ∀ w ∈ gt, w.before _ s = true := fun w h => atoms_spec (ws := ws_M_drop) B.pre w (List.mem_cons_of_mem _ h)
  have hown : s.vm.findClass R_M = some m.cls := findClass_of_methodNamed B.named
  have hlocks := B.notSynchronized
  have hS : va_S (mA bs) s.heap s.heap [] := va_S.rf
  have hl := lv_entry ([.ref hm, .int x]) (n := 3) (Nat.le_of_ble_eq_true rfl)
  rw [lg_entry_eq]
  generalize (lg_sl ([.ref hm, .int x]) ++ List.replicate (3 - (lg_sl ([.ref hm, .int x])).length) Slot.unset).toArray = ls at hl ⊢
  have hl : lv_has ls 3 [(0, .ref hm), (1, .int x)] := hl
  obtain ⟨hn, s1, s2, s3, s4, s5⟩ := id hs
  refine lv_aload_n hx hb d_M_drop_0 rfl (lv_at hl 0 rfl) ?_
  refine lv_iload_n hx hb d_M_drop_1 rfl (lv_at hl 1 rfl) ?_
  refine lv_if_lt (tgt := 10) hx hb d_M_drop_2 (by decide) (fun c2 => ?_) (fun c2 => ?_)
  · have hno : ¬ (0 ≤ x ∧ x < 4) := fun q => by
      first
        | exact absurd q.1 (Int32.not_le.mpr c2)
        | exact le3' (Int32.not_le.mp c7) q.2
    refine lv_iconst (v := 1) hx hb d_M_drop_10 (by decide) ?_
    refine lv_goto (tgt := 15) hx hb d_M_drop_11 (by decide) ?_
    refine mw_put (C := R_M) (T := T_M) (N := 6) (ci := ciM) (v := .int 1) (ty := .int) (fs' := [.int 1, .int (nI n), .ref aW, .ref aU, .ref aP, .ref aZ]) hx hb htg i_M ty_M tk_M nm_M hown hK hP hS s1 rfl 0 (by decide) (htg _ k_411) (fun _ h9 => h9) rfl (by decide +kernel) rfl rfl (Nat.le_of_ble_eq_true rfl) rfl d_M_drop_15 (fun H locs hP hS hz15 => ?_)
    obtain ⟨w_1, ew_1⟩ : ∃ z9, z9 = va_up w hm (some (.inr (ciM, [.int 1, .int (nI n), .ref aW, .ref aU, .ref aP, .ref aZ])) : Option va_E) := ⟨_, rfl⟩
    rw [← ew_1] at hP
    have h_2 : w_1 hm = some (.inr (ciM, [.int 1, .int (nI n), .ref aW, .ref aU, .ref aP, .ref aZ])) := by rw [ew_1, va_up_self]
    have h_3 : w_1 aW = some (.inl (cJ, 524288, .inr (.inl M))) := by rw [ew_1, va_up_ne _ _ (fun z => by rw [z, s1] at s2; cases s2)]; exact s2
    have h_4 : w_1 aU = some (.inl (cJ, 1024, .inr (.inl T))) := by rw [ew_1, va_up_ne _ _ (fun z => by rw [z, s1] at s3; cases s3)]; exact s3
    have h_5 : w_1 aP = some (.inl (cJ, 4, .inr (.inl pl))) := by rw [ew_1, va_up_ne _ _ (fun z => by rw [z, s1] at s4; cases s4)]; exact s4
    have h_6 : w_1 aZ = some (.inl (cI, 4, .inl sz)) := by rw [ew_1, va_up_ne _ _ (fun z => by rw [z, s1] at s5; cases s5)]; exact s5
    refine lv_aload_n hx hb d_M_drop_18 rfl (lv_at hl 0 rfl) ?_
    refine mw_get (C := R_M) (T := T_M) (N := 6) (ci := ciM) (v := .int 1) hx hb htg i_M hown hK hP h_2 rfl 0 (by decide) (htg _ k_411) (fun _ h9 => h9) rfl d_M_drop_19 ?_
    refine lv_if_ne (tgt := 40) hx hb d_M_drop_22 (by decide) (fun _ => ?_) (fun z => absurd z (by decide))
    refine lv_iconst (v := 0) hx hb d_M_drop_40 (by decide) ?_
    refine lv_istore_n (lv' := [(2, .int 0), (0, .ref hm), (1, .int x)]) hx hb d_M_drop_41 rfl hl (by decide) rfl (fun ls hl => ?_)
    refine lv_iload_n hx hb d_M_drop_42 rfl (lv_at hl 0 rfl) ?_
    refine lv_if_eq (tgt := 53) hx hb d_M_drop_43 (by decide) (fun _ => ?_) (fun z => absurd z (by decide))
    refine lv_iload_n hx hb d_M_drop_53 rfl (lv_at hl 0 rfl) ?_
    have hmo : mo cJ cI w_1 hm n 1 M T pl sz aW aU aP aZ := ⟨hn, h_2, h_3, h_4, h_5, h_6⟩
    have hkm : kM w w_1 hm aW aU aP aZ := fun q z1 z2 z3 z4 z5 => by rw [ew_1, va_up_ne _ _ z1]
    exact W.zret (v := 0) hx hb hr rfl (fun t ht hW => ⟨⟨_, w_1, rfl, ⟨hkm, Or.inl ⟨hno, hmo⟩⟩, hP.at ht⟩, hS.F ht⟩) hS.2.2 d_M_drop_54
  · refine lv_iload_n hx hb d_M_drop_5 rfl (lv_at hl 1 rfl) ?_
    refine lv_iconst (v := 3) hx hb d_M_drop_6 (by decide) ?_
    refine lv_icmp_le (tgt := 14) hx hb d_M_drop_7 (by decide) (fun c7 => ?_) (fun c7 => ?_)
    · obtain ⟨j, hj, ej⟩ := prc_of (le3 c2 (Int32.not_lt.mpr c7))
      subst ej
      have hl : lv_has ls 3 [(0, .ref hm), (1, .int (nI j))] := hl
      refine lv_iconst (v := 0) hx hb d_M_drop_14 (by decide) ?_
      refine mw_put (C := R_M) (T := T_M) (N := 6) (ci := ciM) (v := .int 0) (ty := .int) (fs' := [.int 0, .int (nI n), .ref aW, .ref aU, .ref aP, .ref aZ]) hx hb htg i_M ty_M tk_M nm_M hown hK hP hS s1 rfl 0 (by decide) (htg _ k_411) (fun _ h9 => h9) rfl (by decide +kernel) rfl rfl (Nat.le_of_ble_eq_true rfl) rfl d_M_drop_15 (fun H locs hP hS hz15 => ?_)
      obtain ⟨w_7, ew_7⟩ : ∃ z9, z9 = va_up w hm (some (.inr (ciM, [.int 0, .int (nI n), .ref aW, .ref aU, .ref aP, .ref aZ])) : Option va_E) := ⟨_, rfl⟩
      rw [← ew_7] at hP
      have h_8 : w_7 hm = some (.inr (ciM, [.int 0, .int (nI n), .ref aW, .ref aU, .ref aP, .ref aZ])) := by rw [ew_7, va_up_self]
      have h_9 : w_7 aW = some (.inl (cJ, 524288, .inr (.inl M))) := by rw [ew_7, va_up_ne _ _ (fun z => by rw [z, s1] at s2; cases s2)]; exact s2
      have h_10 : w_7 aU = some (.inl (cJ, 1024, .inr (.inl T))) := by rw [ew_7, va_up_ne _ _ (fun z => by rw [z, s1] at s3; cases s3)]; exact s3
      have h_11 : w_7 aP = some (.inl (cJ, 4, .inr (.inl pl))) := by rw [ew_7, va_up_ne _ _ (fun z => by rw [z, s1] at s4; cases s4)]; exact s4
      have h_12 : w_7 aZ = some (.inl (cI, 4, .inl sz)) := by rw [ew_7, va_up_ne _ _ (fun z => by rw [z, s1] at s5; cases s5)]; exact s5
      refine lv_aload_n hx hb d_M_drop_18 rfl (lv_at hl 0 rfl) ?_
      refine mw_get (C := R_M) (T := T_M) (N := 6) (ci := ciM) (v := .int 0) hx hb htg i_M hown hK hP h_8 rfl 0 (by decide) (htg _ k_411) (fun _ h9 => h9) rfl d_M_drop_19 ?_
      refine lv_if_ne (tgt := 40) hx hb d_M_drop_22 (by decide) (fun z => absurd z (by decide)) (fun _ => ?_)
      refine lv_aload_n hx hb d_M_drop_25 rfl (lv_at hl 0 rfl) ?_
      refine mw_get (C := R_M) (T := T_M) (N := 6) (ci := ciM) (v := .ref aP) hx hb htg i_M hown hK hP h_8 rfl 4 (by decide) (htg _ k_415) (fun _ h9 => h9) rfl d_M_drop_26 ?_
      refine lv_iload_n hx hb d_M_drop_29 rfl (lv_at hl 1 rfl) ?_
      refine mw_lald hx hb hK hP 0 h_11 rfl (vp_in_nI hj (by omega)) d_M_drop_30 ?_
      rw [show (nI j).toNatClampNeg = j from nI_clamp (by omega)]
      refine lv_lconst (v := 0) hx hb d_M_drop_31 rfl ?_
      refine lc_le (tgt := 40) hx hb d_M_drop_32 d_M_drop_33 (by decide) (fun c32 => ?_) (fun c32 => ?_)
      · refine lv_iconst (v := 0) hx hb d_M_drop_40 (by decide) ?_
        refine lv_istore_n (lv' := [(2, .int 0), (0, .ref hm), (1, .int (nI j))]) hx hb d_M_drop_41 rfl hl (by decide) rfl (fun ls hl => ?_)
        refine lv_iload_n hx hb d_M_drop_42 rfl (lv_at hl 0 rfl) ?_
        refine lv_if_eq (tgt := 53) hx hb d_M_drop_43 (by decide) (fun _ => ?_) (fun z => absurd z (by decide))
        refine lv_iload_n hx hb d_M_drop_53 rfl (lv_at hl 0 rfl) ?_
        have hmo : mo cJ cI w_7 hm n 0 M T pl sz aW aU aP aZ := ⟨hn, h_8, h_9, h_10, h_11, h_12⟩
        have hkm : kM w w_7 hm aW aU aP aZ := fun q z1 z2 z3 z4 z5 => by rw [ew_7, va_up_ne _ _ z1]
        have e0 := rok_pos hn.2 hro hj c32
        have eu : vp_updL pl j 0 = pl := by rw [← e0]; exact upd_self pl j
        rw [← eu] at hmo
        exact W.zret (v := 0) hx hb hr rfl (fun t ht hW => ⟨⟨_, w_7, rfl, ⟨hkm, Or.inr ⟨j, hj, rfl, by rw [if_pos e0], hmo⟩⟩, hP.at ht⟩, hS.F ht⟩) hS.2.2 d_M_drop_54
      · refine lv_iconst (v := 1) hx hb d_M_drop_36 (by decide) ?_
        refine lv_goto (tgt := 41) hx hb d_M_drop_37 (by decide) ?_
        refine lv_istore_n (lv' := [(2, .int 1), (0, .ref hm), (1, .int (nI j))]) hx hb d_M_drop_41 rfl hl (by decide) rfl (fun ls hl => ?_)
        refine lv_iload_n hx hb d_M_drop_42 rfl (lv_at hl 0 rfl) ?_
        refine lv_if_eq (tgt := 53) hx hb d_M_drop_43 (by decide) (fun z => absurd z (by decide)) (fun _ => ?_)
        refine lv_aload_n hx hb d_M_drop_46 rfl (lv_at hl 1 rfl) ?_
        refine mw_get (C := R_M) (T := T_M) (N := 6) (ci := ciM) (v := .ref aP) hx hb htg i_M hown hK hP h_8 rfl 4 (by decide) (htg _ k_415) (fun _ h9 => h9) rfl d_M_drop_47 ?_
        refine lv_iload_n hx hb d_M_drop_50 rfl (lv_at hl 2 rfl) ?_
        refine lv_lconst (v := 0) hx hb d_M_drop_51 rfl ?_
        refine mw_last hx hb hK hP hS 0 h_11 rfl (vp_in_nI hj (by omega)) d_M_drop_52 (fun H locs hP hS hz52 => ?_)
        rw [show (nI j).toNatClampNeg = j from nI_clamp (by omega)] at hP
        obtain ⟨w_13, ew_13⟩ : ∃ z9, z9 = va_up w_7 aP (some (.inl (cJ, 4, .inr (.inl (vp_updL pl j 0)))) : Option va_E) := ⟨_, rfl⟩
        rw [← ew_13] at hP
        have h_14 : w_13 aP = some (.inl (cJ, 4, .inr (.inl (vp_updL pl j 0)))) := by rw [ew_13, va_up_self]
        have h_15 : w_13 hm = some (.inr (ciM, [.int 0, .int (nI n), .ref aW, .ref aU, .ref aP, .ref aZ])) := by rw [ew_13, va_up_ne _ _ (fun z => by rw [z, h_11] at h_8; cases h_8)]; exact h_8
        have h_16 : w_13 aW = some (.inl (cJ, 524288, .inr (.inl M))) := by rw [ew_13, va_up_ne _ _ (fun z => by rw [z, h_11] at h_9; simp at h_9)]; exact h_9
        have h_17 : w_13 aU = some (.inl (cJ, 1024, .inr (.inl T))) := by rw [ew_13, va_up_ne _ _ (fun z => by rw [z, h_11] at h_10; simp at h_10)]; exact h_10
        have h_18 : w_13 aZ = some (.inl (cI, 4, .inl sz)) := by rw [ew_13, va_up_ne _ _ (fun z => by rw [z, h_11] at h_12; simp at h_12)]; exact h_12
        refine lv_iload_n hx hb d_M_drop_53 rfl (lv_at hl 0 rfl) ?_
        have hmo : mo cJ cI w_13 hm n 0 M T (vp_updL pl j 0) sz aW aU aP aZ := ⟨hn, h_15, h_16, h_17, h_14, h_18⟩
        have hkm : kM w w_13 hm aW aU aP aZ := fun q z1 z2 z3 z4 z5 => by rw [ew_13, va_up_ne _ _ z4]; rw [ew_7, va_up_ne _ _ z1]
        exact W.zret (v := 1) hx hb hr rfl (fun t ht hW => ⟨⟨_, w_13, rfl, ⟨hkm, Or.inr ⟨j, hj, rfl, by rw [if_neg (fun q => c32 (by rw [q]; exact Int64.le_refl 0))], hmo⟩⟩, hP.at ht⟩, hS.F ht⟩) hS.2.2 d_M_drop_54
    · have hno : ¬ (0 ≤ x ∧ x < 4) := fun q => by
        first
          | exact absurd q.1 (Int32.not_le.mpr c2)
          | exact le3' (Int32.not_le.mp c7) q.2
      refine lv_iconst (v := 1) hx hb d_M_drop_10 (by decide) ?_
      refine lv_goto (tgt := 15) hx hb d_M_drop_11 (by decide) ?_
      refine mw_put (C := R_M) (T := T_M) (N := 6) (ci := ciM) (v := .int 1) (ty := .int) (fs' := [.int 1, .int (nI n), .ref aW, .ref aU, .ref aP, .ref aZ]) hx hb htg i_M ty_M tk_M nm_M hown hK hP hS s1 rfl 0 (by decide) (htg _ k_411) (fun _ h9 => h9) rfl (by decide +kernel) rfl rfl (Nat.le_of_ble_eq_true rfl) rfl d_M_drop_15 (fun H locs hP hS hz15 => ?_)
      obtain ⟨w_19, ew_19⟩ : ∃ z9, z9 = va_up w hm (some (.inr (ciM, [.int 1, .int (nI n), .ref aW, .ref aU, .ref aP, .ref aZ])) : Option va_E) := ⟨_, rfl⟩
      rw [← ew_19] at hP
      have h_20 : w_19 hm = some (.inr (ciM, [.int 1, .int (nI n), .ref aW, .ref aU, .ref aP, .ref aZ])) := by rw [ew_19, va_up_self]
      have h_21 : w_19 aW = some (.inl (cJ, 524288, .inr (.inl M))) := by rw [ew_19, va_up_ne _ _ (fun z => by rw [z, s1] at s2; cases s2)]; exact s2
      have h_22 : w_19 aU = some (.inl (cJ, 1024, .inr (.inl T))) := by rw [ew_19, va_up_ne _ _ (fun z => by rw [z, s1] at s3; cases s3)]; exact s3
      have h_23 : w_19 aP = some (.inl (cJ, 4, .inr (.inl pl))) := by rw [ew_19, va_up_ne _ _ (fun z => by rw [z, s1] at s4; cases s4)]; exact s4
      have h_24 : w_19 aZ = some (.inl (cI, 4, .inl sz)) := by rw [ew_19, va_up_ne _ _ (fun z => by rw [z, s1] at s5; cases s5)]; exact s5
      refine lv_aload_n hx hb d_M_drop_18 rfl (lv_at hl 0 rfl) ?_
      refine mw_get (C := R_M) (T := T_M) (N := 6) (ci := ciM) (v := .int 1) hx hb htg i_M hown hK hP h_20 rfl 0 (by decide) (htg _ k_411) (fun _ h9 => h9) rfl d_M_drop_19 ?_
      refine lv_if_ne (tgt := 40) hx hb d_M_drop_22 (by decide) (fun _ => ?_) (fun z => absurd z (by decide))
      refine lv_iconst (v := 0) hx hb d_M_drop_40 (by decide) ?_
      refine lv_istore_n (lv' := [(2, .int 0), (0, .ref hm), (1, .int x)]) hx hb d_M_drop_41 rfl hl (by decide) rfl (fun ls hl => ?_)
      refine lv_iload_n hx hb d_M_drop_42 rfl (lv_at hl 0 rfl) ?_
      refine lv_if_eq (tgt := 53) hx hb d_M_drop_43 (by decide) (fun _ => ?_) (fun z => absurd z (by decide))
      refine lv_iload_n hx hb d_M_drop_53 rfl (lv_at hl 0 rfl) ?_
      have hmo : mo cJ cI w_19 hm n 1 M T pl sz aW aU aP aZ := ⟨hn, h_20, h_21, h_22, h_23, h_24⟩
      have hkm : kM w w_19 hm aW aU aP aZ := fun q z1 z2 z3 z4 z5 => by rw [ew_19, va_up_ne _ _ z1]
      exact W.zret (v := 0) hx hb hr rfl (fun t ht hW => ⟨⟨_, w_19, rfl, ⟨hkm, Or.inl ⟨hno, hmo⟩⟩, hP.at ht⟩, hS.F ht⟩) hS.2.2 d_M_drop_54
set_option maxHeartbeats 4000000 in
set_option maxRecDepth 100000 in
theorem t_M_reserved (l : Launch) (D : va_G) (cJ cI cP : ClassId) (bs : Nat) (w : Nat → Option va_E) (hm n : Nat) (cd : Int32) (M T pl : Nat → Int64) (sz : Nat → Int32) (aW aU aP aZ : Nat) (hs : mo cJ cI w hm n cd M T pl sz aW aU aP aZ) (x : Int32) : Met l y_M_reserved ws_M_reserved ({ frames := 0, cells := 0, slots := 0, locals := 0 }) (mPc D vwCl (mT cJ cI cP) bs w [.ref hm, .int x]) (va_Ql (S := (Nat → Option va_E)) (fun r u => kM w u hm aW aU aP aZ ∧ ((¬ (0 ≤ x ∧ x < 4) ∧ mo cJ cI u hm n 1 M T pl sz aW aU aP aZ) ∨ (∃ j, j < 4 ∧ x = nI j ∧ r = pl j ∧ mo cJ cI u hm n 0 M T pl sz aW aU aP aZ))) (mB D vwCl bs (fun u => u)) (mA bs)) 0 0 (mA bs) := by
  refine Met.ofW (cc := c_M_reserved) (maxL := 2) (ret := (some .long)) (by decide) rfl ?_
  intro p e s m args below meth c s₁ B hml hv
  obtain ⟨rfl, hbs, hP, hK⟩ := hv
  have hx := B.exec
  have hb := B.bytes
  have hr := B.returns
  have htg : ∀ w ∈ gt, w.before _ s = true := fun w h => atoms_spec (ws := ws_M_reserved) B.pre w (List.mem_cons_of_mem _ h)
  have hown : s.vm.findClass R_M = some m.cls := findClass_of_methodNamed B.named
  have hlocks := B.notSynchronized
  have hS : va_S (mA bs) s.heap s.heap [] := va_S.rf
  have hl := lv_entry ([.ref hm, .int x]) (n := 2) (Nat.le_of_ble_eq_true rfl)
  rw [lg_entry_eq]
  generalize (lg_sl ([.ref hm, .int x]) ++ List.replicate (2 - (lg_sl ([.ref hm, .int x])).length) Slot.unset).toArray = ls at hl ⊢
  have hl : lv_has ls 2 [(0, .ref hm), (1, .int x)] := hl
  obtain ⟨hn, s1, s2, s3, s4, s5⟩ := id hs
  refine lv_aload_n hx hb d_M_reserved_0 rfl (lv_at hl 0 rfl) ?_
  refine lv_iload_n hx hb d_M_reserved_1 rfl (lv_at hl 1 rfl) ?_
  refine lv_if_lt (tgt := 10) hx hb d_M_reserved_2 (by decide) (fun c2 => ?_) (fun c2 => ?_)
  · have hno : ¬ (0 ≤ x ∧ x < 4) := fun q => by
      first
        | exact absurd q.1 (Int32.not_le.mpr c2)
        | exact le3' (Int32.not_le.mp c7) q.2
    refine lv_iconst (v := 1) hx hb d_M_reserved_10 (by decide) ?_
    refine lv_goto (tgt := 15) hx hb d_M_reserved_11 (by decide) ?_
    refine mw_put (C := R_M) (T := T_M) (N := 6) (ci := ciM) (v := .int 1) (ty := .int) (fs' := [.int 1, .int (nI n), .ref aW, .ref aU, .ref aP, .ref aZ]) hx hb htg i_M ty_M tk_M nm_M hown hK hP hS s1 rfl 0 (by decide) (htg _ k_411) (fun _ h9 => h9) rfl (by decide +kernel) rfl rfl (Nat.le_of_ble_eq_true rfl) rfl d_M_reserved_15 (fun H locs hP hS hz15 => ?_)
    obtain ⟨w_1, ew_1⟩ : ∃ z9, z9 = va_up w hm (some (.inr (ciM, [.int 1, .int (nI n), .ref aW, .ref aU, .ref aP, .ref aZ])) : Option va_E) := ⟨_, rfl⟩
    rw [← ew_1] at hP
    have h_2 : w_1 hm = some (.inr (ciM, [.int 1, .int (nI n), .ref aW, .ref aU, .ref aP, .ref aZ])) := by rw [ew_1, va_up_self]
    have h_3 : w_1 aW = some (.inl (cJ, 524288, .inr (.inl M))) := by rw [ew_1, va_up_ne _ _ (fun z => by rw [z, s1] at s2; cases s2)]; exact s2
    have h_4 : w_1 aU = some (.inl (cJ, 1024, .inr (.inl T))) := by rw [ew_1, va_up_ne _ _ (fun z => by rw [z, s1] at s3; cases s3)]; exact s3
    have h_5 : w_1 aP = some (.inl (cJ, 4, .inr (.inl pl))) := by rw [ew_1, va_up_ne _ _ (fun z => by rw [z, s1] at s4; cases s4)]; exact s4
    have h_6 : w_1 aZ = some (.inl (cI, 4, .inl sz)) := by rw [ew_1, va_up_ne _ _ (fun z => by rw [z, s1] at s5; cases s5)]; exact s5
    refine lv_aload_n hx hb d_M_reserved_18 rfl (lv_at hl 0 rfl) ?_
    refine mw_get (C := R_M) (T := T_M) (N := 6) (ci := ciM) (v := .int 1) hx hb htg i_M hown hK hP h_2 rfl 0 (by decide) (htg _ k_411) (fun _ h9 => h9) rfl d_M_reserved_19 ?_
    refine lv_if_le (tgt := 29) hx hb d_M_reserved_22 (by decide) (fun z => absurd z (by decide)) (fun _ => ?_)
    refine lv_lconst (v := 0) hx hb d_M_reserved_25 rfl ?_
    refine lv_goto (tgt := 35) hx hb d_M_reserved_26 (by decide) ?_
    have hmo : mo cJ cI w_1 hm n 1 M T pl sz aW aU aP aZ := ⟨hn, h_2, h_3, h_4, h_5, h_6⟩
    have hkm : kM w w_1 hm aW aU aP aZ := fun q z1 z2 z3 z4 z5 => by rw [ew_1, va_up_ne _ _ z1]
    exact W.lret (v := 0) hx hb hr (fun t ht hW => ⟨⟨_, w_1, rfl, ⟨hkm, Or.inl ⟨hno, hmo⟩⟩, hP.at ht⟩, hS.F ht⟩) hS.2.2 d_M_reserved_35
  · refine lv_iload_n hx hb d_M_reserved_5 rfl (lv_at hl 1 rfl) ?_
    refine lv_iconst (v := 3) hx hb d_M_reserved_6 (by decide) ?_
    refine lv_icmp_le (tgt := 14) hx hb d_M_reserved_7 (by decide) (fun c7 => ?_) (fun c7 => ?_)
    · obtain ⟨j, hj, ej⟩ := prc_of (le3 c2 (Int32.not_lt.mpr c7))
      subst ej
      have hl : lv_has ls 2 [(0, .ref hm), (1, .int (nI j))] := hl
      refine lv_iconst (v := 0) hx hb d_M_reserved_14 (by decide) ?_
      refine mw_put (C := R_M) (T := T_M) (N := 6) (ci := ciM) (v := .int 0) (ty := .int) (fs' := [.int 0, .int (nI n), .ref aW, .ref aU, .ref aP, .ref aZ]) hx hb htg i_M ty_M tk_M nm_M hown hK hP hS s1 rfl 0 (by decide) (htg _ k_411) (fun _ h9 => h9) rfl (by decide +kernel) rfl rfl (Nat.le_of_ble_eq_true rfl) rfl d_M_reserved_15 (fun H locs hP hS hz15 => ?_)
      obtain ⟨w_7, ew_7⟩ : ∃ z9, z9 = va_up w hm (some (.inr (ciM, [.int 0, .int (nI n), .ref aW, .ref aU, .ref aP, .ref aZ])) : Option va_E) := ⟨_, rfl⟩
      rw [← ew_7] at hP
      have h_8 : w_7 hm = some (.inr (ciM, [.int 0, .int (nI n), .ref aW, .ref aU, .ref aP, .ref aZ])) := by rw [ew_7, va_up_self]
      have h_9 : w_7 aW = some (.inl (cJ, 524288, .inr (.inl M))) := by rw [ew_7, va_up_ne _ _ (fun z => by rw [z, s1] at s2; cases s2)]; exact s2
      have h_10 : w_7 aU = some (.inl (cJ, 1024, .inr (.inl T))) := by rw [ew_7, va_up_ne _ _ (fun z => by rw [z, s1] at s3; cases s3)]; exact s3
      have h_11 : w_7 aP = some (.inl (cJ, 4, .inr (.inl pl))) := by rw [ew_7, va_up_ne _ _ (fun z => by rw [z, s1] at s4; cases s4)]; exact s4
      have h_12 : w_7 aZ = some (.inl (cI, 4, .inl sz)) := by rw [ew_7, va_up_ne _ _ (fun z => by rw [z, s1] at s5; cases s5)]; exact s5
      refine lv_aload_n hx hb d_M_reserved_18 rfl (lv_at hl 0 rfl) ?_
      refine mw_get (C := R_M) (T := T_M) (N := 6) (ci := ciM) (v := .int 0) hx hb htg i_M hown hK hP h_8 rfl 0 (by decide) (htg _ k_411) (fun _ h9 => h9) rfl d_M_reserved_19 ?_
      refine lv_if_le (tgt := 29) hx hb d_M_reserved_22 (by decide) (fun _ => ?_) (fun z => absurd z (by decide))
      refine lv_aload_n hx hb d_M_reserved_29 rfl (lv_at hl 0 rfl) ?_
      refine mw_get (C := R_M) (T := T_M) (N := 6) (ci := ciM) (v := .ref aP) hx hb htg i_M hown hK hP h_8 rfl 4 (by decide) (htg _ k_415) (fun _ h9 => h9) rfl d_M_reserved_30 ?_
      refine lv_iload_n hx hb d_M_reserved_33 rfl (lv_at hl 1 rfl) ?_
      refine mw_lald hx hb hK hP 0 h_11 rfl (vp_in_nI hj (by omega)) d_M_reserved_34 ?_
      rw [show (nI j).toNatClampNeg = j from nI_clamp (by omega)]
      have hmo : mo cJ cI w_7 hm n 0 M T pl sz aW aU aP aZ := ⟨hn, h_8, h_9, h_10, h_11, h_12⟩
      have hkm : kM w w_7 hm aW aU aP aZ := fun q z1 z2 z3 z4 z5 => by rw [ew_7, va_up_ne _ _ z1]
      exact W.lret (v := pl j) hx hb hr (fun t ht hW => ⟨⟨_, w_7, rfl, ⟨hkm, Or.inr ⟨j, hj, rfl, rfl, hmo⟩⟩, hP.at ht⟩, hS.F ht⟩) hS.2.2 d_M_reserved_35
    · have hno : ¬ (0 ≤ x ∧ x < 4) := fun q => by
        first
          | exact absurd q.1 (Int32.not_le.mpr c2)
          | exact le3' (Int32.not_le.mp c7) q.2
      refine lv_iconst (v := 1) hx hb d_M_reserved_10 (by decide) ?_
      refine lv_goto (tgt := 15) hx hb d_M_reserved_11 (by decide) ?_
      refine mw_put (C := R_M) (T := T_M) (N := 6) (ci := ciM) (v := .int 1) (ty := .int) (fs' := [.int 1, .int (nI n), .ref aW, .ref aU, .ref aP, .ref aZ]) hx hb htg i_M ty_M tk_M nm_M hown hK hP hS s1 rfl 0 (by decide) (htg _ k_411) (fun _ h9 => h9) rfl (by decide +kernel) rfl rfl (Nat.le_of_ble_eq_true rfl) rfl d_M_reserved_15 (fun H locs hP hS hz15 => ?_)
      obtain ⟨w_13, ew_13⟩ : ∃ z9, z9 = va_up w hm (some (.inr (ciM, [.int 1, .int (nI n), .ref aW, .ref aU, .ref aP, .ref aZ])) : Option va_E) := ⟨_, rfl⟩
      rw [← ew_13] at hP
      have h_14 : w_13 hm = some (.inr (ciM, [.int 1, .int (nI n), .ref aW, .ref aU, .ref aP, .ref aZ])) := by rw [ew_13, va_up_self]
      have h_15 : w_13 aW = some (.inl (cJ, 524288, .inr (.inl M))) := by rw [ew_13, va_up_ne _ _ (fun z => by rw [z, s1] at s2; cases s2)]; exact s2
      have h_16 : w_13 aU = some (.inl (cJ, 1024, .inr (.inl T))) := by rw [ew_13, va_up_ne _ _ (fun z => by rw [z, s1] at s3; cases s3)]; exact s3
      have h_17 : w_13 aP = some (.inl (cJ, 4, .inr (.inl pl))) := by rw [ew_13, va_up_ne _ _ (fun z => by rw [z, s1] at s4; cases s4)]; exact s4
      have h_18 : w_13 aZ = some (.inl (cI, 4, .inl sz)) := by rw [ew_13, va_up_ne _ _ (fun z => by rw [z, s1] at s5; cases s5)]; exact s5
      refine lv_aload_n hx hb d_M_reserved_18 rfl (lv_at hl 0 rfl) ?_
      refine mw_get (C := R_M) (T := T_M) (N := 6) (ci := ciM) (v := .int 1) hx hb htg i_M hown hK hP h_14 rfl 0 (by decide) (htg _ k_411) (fun _ h9 => h9) rfl d_M_reserved_19 ?_
      refine lv_if_le (tgt := 29) hx hb d_M_reserved_22 (by decide) (fun z => absurd z (by decide)) (fun _ => ?_)
      refine lv_lconst (v := 0) hx hb d_M_reserved_25 rfl ?_
      refine lv_goto (tgt := 35) hx hb d_M_reserved_26 (by decide) ?_
      have hmo : mo cJ cI w_13 hm n 1 M T pl sz aW aU aP aZ := ⟨hn, h_14, h_15, h_16, h_17, h_18⟩
      have hkm : kM w w_13 hm aW aU aP aZ := fun q z1 z2 z3 z4 z5 => by rw [ew_13, va_up_ne _ _ z1]
      exact W.lret (v := 0) hx hb hr (fun t ht hW => ⟨⟨_, w_13, rfl, ⟨hkm, Or.inl ⟨hno, hmo⟩⟩, hP.at ht⟩, hS.F ht⟩) hS.2.2 d_M_reserved_35
set_option maxHeartbeats 4000000 in
set_option maxRecDepth 100000 in
theorem t_M_writes (l : Launch) (D : va_G) (cJ cI cP : ClassId) (bs : Nat) (w : Nat → Option va_E) (hm n : Nat) (cd : Int32) (M T pl : Nat → Int64) (sz : Nat → Int32) (aW aU aP aZ : Nat) (hs : mo cJ cI w hm n cd M T pl sz aW aU aP aZ) (x : Int32) : Met l y_M_writes ws_M_writes ({ frames := 1, cells := 0, slots := 0, locals := 21 }) (mPc D vwCl (mT cJ cI cP) bs w [.ref hm, .int x]) (va_Ql (S := (Nat → Option va_E)) (fun r u => kM w u hm aW aU aP aZ ∧ (((¬ ∃ i, i < n ∧ x = nI i) ∧ mo cJ cI u hm n 1 M T pl sz aW aU aP aZ) ∨ (∃ i, i < n ∧ x = nI i ∧ r = T i ∧ mo cJ cI u hm n 0 M T pl sz aW aU aP aZ))) (mB D vwCl bs (fun u => u)) (mA bs)) 0 0 (mA bs) := by
  refine Met.ofW (cc := c_M_writes) (maxL := 2) (ret := (some .long)) (by decide) rfl ?_
  intro p e s m args below meth c s₁ B hml hv
  obtain ⟨rfl, hbs, hP, hK⟩ := hv
  have hx := B.exec
  have hb := B.bytes
  have hr := B.returns
  have htg : ∀ w ∈ gt, w.before _ s = true := fun w h => atoms_spec (ws := ws_M_writes) B.pre w (List.mem_cons_of_mem _ h)
  have hown : s.vm.findClass R_M = some m.cls := findClass_of_methodNamed B.named
  have hlocks := B.notSynchronized
  have hS : va_S (mA bs) s.heap s.heap [] := va_S.rf
  have hl := lv_entry ([.ref hm, .int x]) (n := 2) (Nat.le_of_ble_eq_true rfl)
  rw [lg_entry_eq]
  generalize (lg_sl ([.ref hm, .int x]) ++ List.replicate (2 - (lg_sl ([.ref hm, .int x])).length) Slot.unset).toArray = ls at hl ⊢
  have hl : lv_has ls 2 [(0, .ref hm), (1, .int x)] := hl
  obtain ⟨hn, s1, s2, s3, s4, s5⟩ := id hs
  refine lv_aload_n hx hb d_M_writes_0 rfl (lv_at hl 0 rfl) ?_
  refine lv_iload_n hx hb d_M_writes_1 rfl (lv_at hl 1 rfl) ?_
  refine mc_i (va_runV (As := [.int x]) (rest := []) ⟨hx, hb, hml, hown, htg⟩ (t_M_noPage l D cJ cI cP bs w hm n cd M T pl sz aW aU aP aZ hs x) (cwV (own := R_M) (C := R_M) 1 htg (ginV k_511 k_513 k_23 k_26 k_514) rfl rfl rfl (by decide +kernel) ⟨Nat.le_of_ble_eq_true rfl, Nat.le_of_ble_eq_true rfl⟩) (mPc.preV (ci := ciM) (q := (R_M, T_M, 6)) hbs hS hP hK rfl s1) rfl rfl hl.1 rfl (lv_room (Nat.le_of_ble_eq_true rfl)) d_M_writes_2 ⟨Nat.le_of_ble_eq_true rfl, Nat.le_of_ble_eq_true rfl⟩) hS (fun r2 w8 H locs hw hP hz2 hS => ?_)
  obtain ⟨hkm, hpg⟩ := hw
  have hP : mw D vwCl bs w8 H := hP
  refine lv_if_eq (tgt := 12) hx hb d_M_writes_5 (by decide) (fun c5 => ?_) (fun c5 => ?_)
  · obtain ⟨⟨i, hi, ei⟩, hmo⟩ : (∃ i, i < n ∧ x = nI i) ∧ mo cJ cI w8 hm n 0 M T pl sz aW aU aP aZ := by
      rcases hpg with q | q
      · exact absurd (q.1.symm.trans c5) (by decide)
      · exact q.2
    subst ei
    have hl : lv_has ls 2 [(0, .ref hm), (1, .int (nI i))] := hl
    obtain ⟨hn', s1', s2', s3', s4', s5'⟩ := id hmo
    refine lv_aload_n hx hb d_M_writes_12 rfl (lv_at hl 0 rfl) ?_
    refine mw_get (C := R_M) (T := T_M) (N := 6) (ci := ciM) (v := .ref aU) hx hb htg i_M hown hK hP s1' rfl 3 (by decide) (htg _ k_414) (fun _ h9 => h9) rfl d_M_writes_13 ?_
    refine lv_iload_n hx hb d_M_writes_16 rfl (lv_at hl 1 rfl) ?_
    refine mw_lald hx hb hK hP 0 s3' rfl (vp_in_nI (show i < 1024 by omega) (by omega)) d_M_writes_17 ?_
    rw [show (nI i).toNatClampNeg = i from nI_clamp (by omega)]
    exact W.lret (v := T i) hx hb hr (fun t ht hW => ⟨⟨_, w8, rfl, ⟨hkm, Or.inr ⟨i, hi, rfl, rfl, hmo⟩⟩, hP.at ht⟩, hS.F ht⟩) hS.2.2 d_M_writes_18
  · obtain ⟨hno, hmo⟩ : (¬ ∃ i, i < n ∧ x = nI i) ∧ mo cJ cI w8 hm n 1 M T pl sz aW aU aP aZ := by
      rcases hpg with q | q
      · exact q.2
      · exact absurd q.1 c5
    refine lv_lconst (v := 0) hx hb d_M_writes_8 rfl ?_
    refine lv_goto (tgt := 18) hx hb d_M_writes_9 (by decide) ?_
    exact W.lret (v := 0) hx hb hr (fun t ht hW => ⟨⟨_, w8, rfl, ⟨hkm, Or.inl ⟨hno, hmo⟩⟩, hP.at ht⟩, hS.F ht⟩) hS.2.2 d_M_writes_18
theorem byt_wtk (M : Nat → Int64) (i q : Nat) : lN (q + 1) * byt M (4096 * i + q) = wtk (fun j => M (512 * i + j)) q := by
  unfold byt wtk
  rw [Int64.mul_comm, show (4096 * i + q) / 8 = 512 * i + q / 8 by omega, show (4096 * i + q) % 8 = q % 8 by omega]
theorem sum_a {i q : Nat} (hi : i < 1024) (hq : q < 4096) : (2147483648 : Int64) + 4096 * (nI i).toInt64 + (nI q).toInt64 = lN (2147483648 + (4096 * i + q)) := by
  rw [nI_l (by omega), nI_l (by omega)]
  show lN 2147483648 + lN 4096 * lN i + lN q = _
  rw [lN_mul, lN_add, lN_add, Nat.add_assoc]
set_option maxHeartbeats 4000000 in
set_option maxRecDepth 100000 in
/-- sum: its loop -/
theorem lp_M_sum {p : Program} {l : Launch} {e : Env} {s : State} {m : MethodId} {args : Array Value} {below : List Frame} {meth : Method} {c : Code} {Q : State → Prop} {D : va_G} {cJ cI cP : ClassId} {bs : Nat} (hx : p.tables.exec = Jvm.exec) (hb : c.code = c_M_sum) (hml : c.maxLocals = 5) (hown : s.vm.findClass R_M = some m.cls) (htg : ∀ w ∈ gt, w.before args s = true) (hK : va_K D vwCl (mT cJ cI cP) s) (hbs : bs ≤ s.heap.size) (w : Nat → Option va_E) (hm n : Nat) (cd : Int32) (M T pl : Nat → Int64) (sz : Nat → Int32) (aW aU aP aZ : Nat) (hs : mo cJ cI w hm n cd M T pl sz aW aU aP aZ) (i : Nat) (hi : i < n) (kx : ∀ (ls : Array Slot) (H : Heap) (locs : List Loc), mw D vwCl bs w H → va_S (mA bs) s.heap H locs → lv_has ls 5 [(2, .long (tot (fun j => M (512 * i + j)) 4096))] → W p l e ({ frames := 1, cells := 0, slots := 0, locals := 23 } : Room) s m args below meth c H locs 0 0 Q (F0 m 57 ls [])) :
    ∀ (k : Nat) (q : Nat) (ls : Array Slot) (H : Heap) (locs : List Loc), 4096 - q < k → q ≤ 4096 → mw D vwCl bs w H → va_S (mA bs) s.heap H locs → lv_has ls 5 [(2, .long (tot (fun j => M (512 * i + j)) q)), (4, .int (nI q)), (0, .ref hm), (1, .int (nI i))] → W p l e ({ frames := 1, cells := 0, slots := 0, locals := 23 } : Room) s m args below meth c H locs 0 0 Q (F0 m 15 ls []) := by
  intro k
  induction k with
  | zero => intro q ls H locs hk0; exact absurd hk0 (by omega)
  | succ k ih =>
    intro q ls H locs hk hq hP hS hl
    obtain ⟨hn, s1, s2, s3, s4, s5⟩ := id hs
    refine lv_iload hx hb d_M_sum_15 (lv_at hl 1 rfl) ?_
    refine lv_sipush (v := 4096) hx hb d_M_sum_17 (by decide) ?_
    refine lv_icmp_ge (tgt := 57) hx hb d_M_sum_20 (by decide) (fun c20 => ?_) (fun c20 => ?_)
    · have e5 : q = 4096 := Nat.le_antisymm hq (Nat.le_of_not_lt (fun z => nI_ge z (by omega) (show nI 4096 ≤ nI q from c20)))
      subst e5
      exact kx ls H locs hP hS (lv_sub hl [0] rfl)
    · have hlt : q < 4096 := Nat.lt_of_not_le (fun z => c20 (show nI 4096 ≤ nI q from nI_le z (by omega)))
      refine lv_lload_n hx hb d_M_sum_23 rfl (lv_at hl 0 rfl) ?_
      refine lv_iload hx hb d_M_sum_24 (lv_at hl 1 rfl) ?_
      refine lv_i2l hx hb d_M_sum_26 rfl ?_
      refine lv_lconst (v := 1) hx hb d_M_sum_27 rfl ?_
      refine lv_ladd hx hb d_M_sum_28 ?_
      rw [show ((nI q).toInt64) + 1 = lN (q + 1) from (by rw [nI_l (by omega)]; exact lN_1 q)]
      refine lv_aload_n hx hb d_M_sum_29 rfl (lv_at hl 2 rfl) ?_
      refine lv_ldc2 (own := R_M) (v := 2147483648) hx hb hown (htg _ k_453) d_M_sum_30 ?_
      refine lv_ldc2 (own := R_M) (v := 4096) hx hb hown (htg _ k_454) d_M_sum_33 ?_
      refine lv_iload_n hx hb d_M_sum_36 rfl (lv_at hl 3 rfl) ?_
      refine lv_i2l hx hb d_M_sum_37 rfl ?_
      refine lv_lmul hx hb d_M_sum_38 ?_
      refine lv_ladd hx hb d_M_sum_39 ?_
      refine lv_iload hx hb d_M_sum_40 (lv_at hl 1 rfl) ?_
      refine lv_i2l hx hb d_M_sum_42 rfl ?_
      refine lv_ladd hx hb d_M_sum_43 ?_
      rw [show (2147483648 + (4096 * ((nI i).toInt64))) + ((nI q).toInt64) = lN (2147483648 + (4096 * i + q)) from sum_a (by omega) hlt]
      refine mc_i (va_runV (As := [.long (lN (2147483648 + (4096 * i + q)))]) (rest := [.long (lN (q + 1)), .long (tot (fun j => M (512 * i + j)) q)]) ⟨hx, hb, hml, hown, htg⟩ (t_M_get l D cJ cI cP bs w hm n cd M T pl sz aW aU aP aZ hs (4096 * i + q) (by omega)) (cwV (own := R_M) (C := R_M) 1 htg (ginV k_460 k_462 k_20 k_26 k_463) rfl rfl rfl (by decide +kernel) ⟨Nat.le_of_ble_eq_true rfl, Nat.le_of_ble_eq_true rfl⟩) (mPc.preV (ci := ciM) (q := (R_M, T_M, 6)) hbs hS hP hK rfl s1) rfl rfl hl.1 rfl (lv_room (Nat.le_of_ble_eq_true rfl)) d_M_sum_44 ⟨Nat.le_of_ble_eq_true rfl, Nat.le_of_ble_eq_true rfl⟩) hS (fun r44 u44 H locs hw hP hz44 hS => ?_)
      refine lv_i2l hx hb d_M_sum_47 rfl ?_
      refine lv_lmul hx hb d_M_sum_48 ?_
      refine lv_ladd hx hb d_M_sum_49 ?_
      rw [show (tot (fun j => M (512 * i + j)) q) + ((lN (q + 1)) * r44.toInt64) = tot (fun j => M (512 * i + j)) (q + 1) from (by rw [show Int32.toInt64 _ = _ from hw, byt_wtk]; rfl)]
      refine lv_topl (fun x_1 ex_1 => ?_)
      refine lv_lstore_n (lv' := [(2, .long x_1), (4, .int (nI q)), (0, .ref hm), (1, .int (nI i))]) hx hb d_M_sum_50 rfl hl (by decide) rfl (fun ls hl => ?_)
      obtain ⟨i_2, ei_2⟩ : ∃ y : Int32, y = (nI q) + 1 := ⟨_, rfl⟩
      refine lv_iinc (v := i_2) (lv' := [(4, .int i_2), (2, .long x_1), (0, .ref hm), (1, .int (nI i))]) hx hb d_M_sum_51 hl (k := 1) rfl (by rw [ei_2]; rfl) (by decide) rfl (fun ls hl => ?_)
      refine lv_goto (tgt := 15) hx hb d_M_sum_54 (by decide) ?_
      exact ih (q + 1) ls H locs (by omega) (by omega) hP hS (by rw [← nI_1 q, ← ei_2, ← ex_1]; exact lv_sub hl [1, 0, 2, 3] rfl)
set_option maxHeartbeats 4000000 in
set_option maxRecDepth 100000 in
theorem t_M_sum (l : Launch) (D : va_G) (cJ cI cP : ClassId) (bs : Nat) (w : Nat → Option va_E) (hm n : Nat) (cd : Int32) (M T pl : Nat → Int64) (sz : Nat → Int32) (aW aU aP aZ : Nat) (hs : mo cJ cI w hm n cd M T pl sz aW aU aP aZ) (x : Int32) : Met l y_M_sum ws_M_sum ({ frames := 1, cells := 0, slots := 0, locals := 23 }) (mPc D vwCl (mT cJ cI cP) bs w [.ref hm, .int x]) (va_Ql (S := (Nat → Option va_E)) (fun r u => kM w u hm aW aU aP aZ ∧ (((¬ ∃ i, i < n ∧ x = nI i) ∧ mo cJ cI u hm n 1 M T pl sz aW aU aP aZ) ∨ (∃ i, i < n ∧ x = nI i ∧ r = tot (fun j => M (512 * i + j)) 4096 ∧ mo cJ cI u hm n 0 M T pl sz aW aU aP aZ))) (mB D vwCl bs (fun u => u)) (mA bs)) 0 0 (mA bs) := by
  refine Met.ofW (cc := c_M_sum) (maxL := 5) (ret := (some .long)) (by decide) rfl ?_
  intro p e s m args below meth c s₁ B hml hv
  obtain ⟨rfl, hbs, hP, hK⟩ := hv
  have hx := B.exec
  have hb := B.bytes
  have hr := B.returns
  have htg : ∀ w ∈ gt, w.before _ s = true := fun w h => atoms_spec (ws := ws_M_sum) B.pre w (List.mem_cons_of_mem _ h)
  have hown : s.vm.findClass R_M = some m.cls := findClass_of_methodNamed B.named
  have hlocks := B.notSynchronized
  have hS : va_S (mA bs) s.heap s.heap [] := va_S.rf
  have hl := lv_entry ([.ref hm, .int x]) (n := 5) (Nat.le_of_ble_eq_true rfl)
  rw [lg_entry_eq]
  generalize (lg_sl ([.ref hm, .int x]) ++ List.replicate (5 - (lg_sl ([.ref hm, .int x])).length) Slot.unset).toArray = ls at hl ⊢
  have hl : lv_has ls 5 [(0, .ref hm), (1, .int x)] := hl
  obtain ⟨hn, s1, s2, s3, s4, s5⟩ := id hs
  refine lv_aload_n hx hb d_M_sum_0 rfl (lv_at hl 0 rfl) ?_
  refine lv_iload_n hx hb d_M_sum_1 rfl (lv_at hl 1 rfl) ?_
  refine mc_i (va_runV (As := [.int x]) (rest := []) ⟨hx, hb, hml, hown, htg⟩ (t_M_noPage l D cJ cI cP bs w hm n cd M T pl sz aW aU aP aZ hs x) (cwV (own := R_M) (C := R_M) 1 htg (ginV k_511 k_513 k_23 k_26 k_514) rfl rfl rfl (by decide +kernel) ⟨Nat.le_of_ble_eq_true rfl, Nat.le_of_ble_eq_true rfl⟩) (mPc.preV (ci := ciM) (q := (R_M, T_M, 6)) hbs hS hP hK rfl s1) rfl rfl hl.1 rfl (lv_room (Nat.le_of_ble_eq_true rfl)) d_M_sum_2 ⟨Nat.le_of_ble_eq_true rfl, Nat.le_of_ble_eq_true rfl⟩) hS (fun r2 w8 H locs hw hP hz2 hS => ?_)
  obtain ⟨hkm, hpg⟩ := hw
  have hP : mw D vwCl bs w8 H := hP
  refine lv_if_eq (tgt := 10) hx hb d_M_sum_5 (by decide) (fun c5 => ?_) (fun c5 => ?_)
  · obtain ⟨⟨i, hi, ei⟩, hmo⟩ : (∃ i, i < n ∧ x = nI i) ∧ mo cJ cI w8 hm n 0 M T pl sz aW aU aP aZ := by
      rcases hpg with q | q
      · exact absurd (q.1.symm.trans c5) (by decide)
      · exact q.2
    subst ei
    have hl : lv_has ls 5 [(0, .ref hm), (1, .int (nI i))] := hl
    obtain ⟨hn', s1', s2', s3', s4', s5'⟩ := id hmo
    refine lv_lconst (v := 0) hx hb d_M_sum_10 rfl ?_
    refine lv_lstore_n (lv' := [(2, .long 0), (0, .ref hm), (1, .int (nI i))]) hx hb d_M_sum_11 rfl hl (by decide) rfl (fun ls hl => ?_)
    refine lv_iconst (v := 0) hx hb d_M_sum_12 (by decide) ?_
    refine lv_istore (lv' := [(4, .int 0), (2, .long 0), (0, .ref hm), (1, .int (nI i))]) hx hb d_M_sum_13 hl (by decide) rfl (fun ls hl => ?_)
    refine lp_M_sum (D := D) (cJ := cJ) (cI := cI) (cP := cP) (bs := bs) hx hb hml hown htg hK hbs w8 hm n 0 M T pl sz aW aU aP aZ hmo i hi (fun ls H locs hP hS hl => ?_) 4097 0 ls _ _ (by omega) (by omega) hP hS (lv_sub hl [1, 0, 2, 3] rfl)
    refine lv_lload_n hx hb d_M_sum_57 rfl (lv_at hl 0 rfl) ?_
    exact W.lret (v := tot (fun j => M (512 * i + j)) 4096) hx hb hr (fun t ht hW => ⟨⟨_, w8, rfl, ⟨hkm, Or.inr ⟨i, hi, rfl, rfl, hmo⟩⟩, hP.at ht⟩, hS.F ht⟩) hS.2.2 d_M_sum_58
  · obtain ⟨hno, hmo⟩ : (¬ ∃ i, i < n ∧ x = nI i) ∧ mo cJ cI w8 hm n 1 M T pl sz aW aU aP aZ := by
      rcases hpg with q | q
      · exact q.2
      · exact absurd q.1 c5
    refine lv_lconst (v := 0) hx hb d_M_sum_8 rfl ?_
    exact W.lret (v := 0) hx hb hr (fun t ht hW => ⟨⟨_, w8, rfl, ⟨hkm, Or.inl ⟨hno, hmo⟩⟩, hP.at ht⟩, hS.F ht⟩) hS.2.2 d_M_sum_9
set_option maxHeartbeats 4000000 in
set_option maxRecDepth 100000 in
/-- used: the words of a page -/
theorem lp_M_used1 {p : Program} {l : Launch} {e : Env} {s : State} {m : MethodId} {args : Array Value} {below : List Frame} {meth : Method} {c : Code} {Q : State → Prop} {D : va_G} {cJ cI cP : ClassId} {bs : Nat} (hx : p.tables.exec = Jvm.exec) (hb : c.code = c_M_used) (hml : c.maxLocals = 5) (hown : s.vm.findClass R_M = some m.cls) (htg : ∀ w ∈ gt, w.before args s = true) (hK : va_K D vwCl (mT cJ cI cP) s) (hbs : bs ≤ s.heap.size) (w : Nat → Option va_E) (hm n : Nat) (cd : Int32) (M T pl : Nat → Int64) (sz : Nat → Int32) (aW aU aP aZ : Nat) (hs : mo cJ cI w hm n cd M T pl sz aW aU aP aZ) (i : Nat) (hi : i < n) (kx : ∀ (b : Int32) (ls : Array Slot) (H : Heap) (locs : List Loc), b = (if nzc (fun j => M (512 * i + j)) 512 = 0 then 0 else 1) → mw D vwCl bs w H → va_S (mA bs) s.heap H locs → lv_has ls 5 [(3, .int b), (0, .ref hm), (2, .int (nI i)), (1, .int (nI (usd M i)))] → W p l e ({ frames := 0, cells := 0, slots := 0, locals := 0 } : Room) s m args below meth c H locs 0 0 Q (F0 m 64 ls [])) :
    ∀ (k : Nat) (q : Nat) (b : Int32) (ls : Array Slot) (H : Heap) (locs : List Loc), 512 - q < k → q ≤ 512 → b = (if nzc (fun j => M (512 * i + j)) q = 0 then 0 else 1) → mw D vwCl bs w H → va_S (mA bs) s.heap H locs → lv_has ls 5 [(3, .int b), (4, .int (nI q)), (0, .ref hm), (2, .int (nI i)), (1, .int (nI (usd M i)))] → W p l e ({ frames := 0, cells := 0, slots := 0, locals := 0 } : Room) s m args below meth c H locs 0 0 Q (F0 m 22 ls []) := by
  intro k
  induction k with
  | zero => intro q b ls H locs hk0; exact absurd hk0 (by omega)
  | succ k ih =>
    intro q b ls H locs hk hq hbz hP hS hl
    obtain ⟨hn, s1, s2, s3, s4, s5⟩ := id hs
    refine lv_iload hx hb d_M_used_22 (lv_at hl 1 rfl) ?_
    refine lv_sipush (v := 512) hx hb d_M_used_24 (by decide) ?_
    refine lv_icmp_ge (tgt := 64) hx hb d_M_used_27 (by decide) (fun c27 => ?_) (fun c27 => ?_)
    · have e5 : q = 512 := Nat.le_antisymm hq (Nat.le_of_not_lt (fun z => nI_ge z (by omega) (show nI 512 ≤ nI q from c27)))
      subst e5
      exact kx b ls H locs hbz hP hS (lv_sub hl [0, 2, 3, 4] rfl)
    · have hlt : q < 512 := Nat.lt_of_not_le (fun z => c27 (show nI 512 ≤ nI q from nI_le z (by omega)))
      refine lv_iload_n hx hb d_M_used_30 rfl (lv_at hl 0 rfl) ?_
      refine lv_if_ne (tgt := 52) hx hb d_M_used_31 (by decide) (fun c31 => ?_) (fun c31 => ?_)
      · refine lv_iconst (v := 1) hx hb d_M_used_52 (by decide) ?_
        refine lv_goto (tgt := 57) hx hb d_M_used_53 (by decide) ?_
        refine lv_istore_n (lv' := [(3, .int 1), (4, .int (nI q)), (0, .ref hm), (2, .int (nI i)), (1, .int (nI (usd M i)))]) hx hb d_M_used_57 rfl hl (by decide) rfl (fun ls hl => ?_)
        obtain ⟨i_1, ei_1⟩ : ∃ y : Int32, y = (nI q) + 1 := ⟨_, rfl⟩
        refine lv_iinc (v := i_1) (lv' := [(4, .int i_1), (3, .int 1), (0, .ref hm), (2, .int (nI i)), (1, .int (nI (usd M i)))]) hx hb d_M_used_58 hl (k := 1) rfl (by rw [ei_1]; rfl) (by decide) rfl (fun ls hl => ?_)
        refine lv_goto (tgt := 22) hx hb d_M_used_61 (by decide) ?_
        have hv : (1 : Int32) = (if nzc (fun j => M (512 * i + j)) (q + 1) = 0 then 0 else 1) := by
          rw [show nzc (fun j => M (512 * i + j)) (q + 1) = nzc (fun j => M (512 * i + j)) q + nz1 (M (512 * i + q)) from rfl]
          rw [if_neg (fun z => ?_)]
          first
            | exact c31 (by rw [hbz, if_pos (by omega)])
            | (have z2 : nz1 (M (512 * i + q)) = 0 := by omega
               unfold nz1 at z2
               rw [if_neg c48] at z2
               exact absurd z2 (by decide))
        exact ih (q + 1) 1 ls H locs (by omega) (by omega) hv hP hS (by rw [← nI_1 q, ← ei_1]; exact lv_sub hl [1, 0, 2, 3, 4] rfl)
      · refine lv_aload_n hx hb d_M_used_34 rfl (lv_at hl 2 rfl) ?_
        refine mw_get (C := R_M) (T := T_M) (N := 6) (ci := ciM) (v := .ref aW) hx hb htg i_M hown hK hP s1 rfl 2 (by decide) (htg _ k_413) (fun _ h9 => h9) rfl d_M_used_35 ?_
        refine lv_sipush (v := 512) hx hb d_M_used_38 (by decide) ?_
        refine lv_iload_n hx hb d_M_used_41 rfl (lv_at hl 3 rfl) ?_
        refine lv_imul hx hb d_M_used_42 ?_
        refine lv_iload hx hb d_M_used_43 (lv_at hl 1 rfl) ?_
        refine lv_iadd hx hb d_M_used_45 ?_
        rw [show (512 * (nI i)) + (nI q) = nI (512 * i + q) from (by show nI 512 * nI i + nI q = _; rw [pk_mul, nI_add])]
        refine mw_lald hx hb hK hP 0 s2 rfl (vp_in_nI (show 512 * i + q < 524288 by omega) (by omega)) d_M_used_46 ?_
        rw [show (nI (512 * i + q)).toNatClampNeg = 512 * i + q from nI_clamp (by omega)]
        refine lv_lconst (v := 0) hx hb d_M_used_47 rfl ?_
        refine lc_eq (tgt := 56) hx hb d_M_used_48 d_M_used_49 (by decide) (fun c48 => ?_) (fun c48 => ?_)
        · refine lv_iconst (v := 0) hx hb d_M_used_56 (by decide) ?_
          refine lv_istore_n (lv' := [(3, .int 0), (4, .int (nI q)), (0, .ref hm), (2, .int (nI i)), (1, .int (nI (usd M i)))]) hx hb d_M_used_57 rfl hl (by decide) rfl (fun ls hl => ?_)
          obtain ⟨i_2, ei_2⟩ : ∃ y : Int32, y = (nI q) + 1 := ⟨_, rfl⟩
          refine lv_iinc (v := i_2) (lv' := [(4, .int i_2), (3, .int 0), (0, .ref hm), (2, .int (nI i)), (1, .int (nI (usd M i)))]) hx hb d_M_used_58 hl (k := 1) rfl (by rw [ei_2]; rfl) (by decide) rfl (fun ls hl => ?_)
          refine lv_goto (tgt := 22) hx hb d_M_used_61 (by decide) ?_
          have hv : (0 : Int32) = (if nzc (fun j => M (512 * i + j)) (q + 1) = 0 then 0 else 1) := by
            rw [show nzc (fun j => M (512 * i + j)) (q + 1) = nzc (fun j => M (512 * i + j)) q + nz1 (M (512 * i + q)) from rfl]
            rw [if_pos]
            have z1 : nzc (fun j => M (512 * i + j)) q = 0 := Classical.byContradiction (fun z => by rw [if_neg z] at hbz; rw [hbz] at c31; exact absurd c31 (by decide))
            rw [z1, c48, nz1_0]
          exact ih (q + 1) 0 ls H locs (by omega) (by omega) hv hP hS (by rw [← nI_1 q, ← ei_2]; exact lv_sub hl [1, 0, 2, 3, 4] rfl)
        · refine lv_iconst (v := 1) hx hb d_M_used_52 (by decide) ?_
          refine lv_goto (tgt := 57) hx hb d_M_used_53 (by decide) ?_
          refine lv_istore_n (lv' := [(3, .int 1), (4, .int (nI q)), (0, .ref hm), (2, .int (nI i)), (1, .int (nI (usd M i)))]) hx hb d_M_used_57 rfl hl (by decide) rfl (fun ls hl => ?_)
          obtain ⟨i_3, ei_3⟩ : ∃ y : Int32, y = (nI q) + 1 := ⟨_, rfl⟩
          refine lv_iinc (v := i_3) (lv' := [(4, .int i_3), (3, .int 1), (0, .ref hm), (2, .int (nI i)), (1, .int (nI (usd M i)))]) hx hb d_M_used_58 hl (k := 1) rfl (by rw [ei_3]; rfl) (by decide) rfl (fun ls hl => ?_)
          refine lv_goto (tgt := 22) hx hb d_M_used_61 (by decide) ?_
          have hv : (1 : Int32) = (if nzc (fun j => M (512 * i + j)) (q + 1) = 0 then 0 else 1) := by
            rw [show nzc (fun j => M (512 * i + j)) (q + 1) = nzc (fun j => M (512 * i + j)) q + nz1 (M (512 * i + q)) from rfl]
            rw [if_neg (fun z => ?_)]
            first
              | exact c31 (by rw [hbz, if_pos (by omega)])
              | (have z2 : nz1 (M (512 * i + q)) = 0 := by omega
                 unfold nz1 at z2
                 rw [if_neg c48] at z2
                 exact absurd z2 (by decide))
          exact ih (q + 1) 1 ls H locs (by omega) (by omega) hv hP hS (by rw [← nI_1 q, ← ei_3]; exact lv_sub hl [1, 0, 2, 3, 4] rfl)
set_option maxHeartbeats 4000000 in
set_option maxRecDepth 100000 in
/-- used: the pages -/
theorem lp_M_used2 {p : Program} {l : Launch} {e : Env} {s : State} {m : MethodId} {args : Array Value} {below : List Frame} {meth : Method} {c : Code} {Q : State → Prop} {D : va_G} {cJ cI cP : ClassId} {bs : Nat} (hx : p.tables.exec = Jvm.exec) (hb : c.code = c_M_used) (hml : c.maxLocals = 5) (hown : s.vm.findClass R_M = some m.cls) (htg : ∀ w ∈ gt, w.before args s = true) (hK : va_K D vwCl (mT cJ cI cP) s) (hbs : bs ≤ s.heap.size) (w : Nat → Option va_E) (hm n : Nat) (cd : Int32) (M T pl : Nat → Int64) (sz : Nat → Int32) (aW aU aP aZ : Nat) (hs : mo cJ cI w hm n cd M T pl sz aW aU aP aZ) (kx : ∀ (ls : Array Slot) (H : Heap) (locs : List Loc), mw D vwCl bs w H → va_S (mA bs) s.heap H locs → lv_has ls 5 [(1, .int (nI (usd M n)))] → W p l e ({ frames := 0, cells := 0, slots := 0, locals := 0 } : Room) s m args below meth c H locs 0 0 Q (F0 m 82 ls [])) :
    ∀ (k : Nat) (i : Nat) (ls : Array Slot) (H : Heap) (locs : List Loc), n - i < k → i ≤ n → mw D vwCl bs w H → va_S (mA bs) s.heap H locs → lv_has ls 5 [(1, .int (nI (usd M i))), (2, .int (nI i)), (0, .ref hm)] → W p l e ({ frames := 0, cells := 0, slots := 0, locals := 0 } : Room) s m args below meth c H locs 0 0 Q (F0 m 9 ls []) := by
  intro k
  induction k with
  | zero => intro i ls H locs hk0; exact absurd hk0 (by omega)
  | succ k ih =>
    intro i ls H locs hk hin hP hS hl
    obtain ⟨hn, s1, s2, s3, s4, s5⟩ := id hs
    refine lv_iload_n hx hb d_M_used_9 rfl (lv_at hl 1 rfl) ?_
    refine lv_aload_n hx hb d_M_used_10 rfl (lv_at hl 2 rfl) ?_
    refine mw_get (C := R_M) (T := T_M) (N := 6) (ci := ciM) (v := .int (nI n)) hx hb htg i_M hown hK hP s1 rfl 1 (by decide) (htg _ k_412) (fun _ h9 => h9) rfl d_M_used_11 ?_
    refine lv_icmp_ge (tgt := 82) hx hb d_M_used_14 (by decide) (fun c14 => ?_) (fun c14 => ?_)
    · have e5 : i = n := Nat.le_antisymm hin (Nat.le_of_not_lt (fun z => nI_ge z (by omega) c14))
      subst e5
      exact kx ls H locs hP hS (lv_sub hl [0] rfl)
    · have hi : i < n := Nat.lt_of_not_le (fun z => c14 (nI_le z (by omega)))
      refine lv_iconst (v := 0) hx hb d_M_used_17 (by decide) ?_
      refine lv_istore_n (lv' := [(3, .int 0), (1, .int (nI (usd M i))), (2, .int (nI i)), (0, .ref hm)]) hx hb d_M_used_18 rfl hl (by decide) rfl (fun ls hl => ?_)
      refine lv_iconst (v := 0) hx hb d_M_used_19 (by decide) ?_
      refine lv_istore (lv' := [(4, .int 0), (3, .int 0), (1, .int (nI (usd M i))), (2, .int (nI i)), (0, .ref hm)]) hx hb d_M_used_20 hl (by decide) rfl (fun ls hl => ?_)
      refine lp_M_used1 (D := D) (cJ := cJ) (cI := cI) (cP := cP) (bs := bs) hx hb hml hown htg hK hbs w hm n cd M T pl sz aW aU aP aZ hs i hi (fun b ls H locs hbz hP hS hl => ?_) 513 0 0 ls H locs (by omega) (by omega) rfl hP hS (lv_sub hl [1, 0, 4, 3, 2] rfl)
      refine lv_iload_n hx hb d_M_used_64 rfl (lv_at hl 0 rfl) ?_
      refine lv_if_eq (tgt := 74) hx hb d_M_used_65 (by decide) (fun c65 => ?_) (fun c65 => ?_)
      · refine lv_iload_n hx hb d_M_used_74 rfl (lv_at hl 3 rfl) ?_
        refine lv_istore_n (lv' := [(1, .int (nI (usd M i))), (3, .int b), (0, .ref hm), (2, .int (nI i))]) hx hb d_M_used_75 rfl hl (by decide) rfl (fun ls hl => ?_)
        obtain ⟨i_1, ei_1⟩ : ∃ y : Int32, y = (nI i) + 1 := ⟨_, rfl⟩
        refine lv_iinc (v := i_1) (lv' := [(2, .int i_1), (1, .int (nI (usd M i))), (3, .int b), (0, .ref hm)]) hx hb d_M_used_76 hl (k := 3) rfl (by rw [ei_1]; rfl) (by decide) rfl (fun ls hl => ?_)
        refine lv_goto (tgt := 9) hx hb d_M_used_79 (by decide) ?_
        have hu : nI (usd M i) = nI (usd M (i + 1)) := by
          show nI (usd M i) = nI (usd M i + (if nzc (fun j => M (512 * i + j)) 512 = 0 then 0 else 1))
          rw [if_pos (Classical.byContradiction (fun z => by rw [if_neg z] at hbz; rw [hbz] at c65; exact absurd c65 (by decide)))]
          rfl
        exact ih (i + 1) ls H locs (by omega) (by omega) hP hS (by rw [← nI_1 i, ← ei_1, ← hu]; exact lv_sub hl [1, 0, 3] rfl)
      · refine lv_iload_n hx hb d_M_used_68 rfl (lv_at hl 3 rfl) ?_
        refine lv_iconst (v := 1) hx hb d_M_used_69 (by decide) ?_
        refine lv_iadd hx hb d_M_used_70 ?_
        refine lv_goto (tgt := 75) hx hb d_M_used_71 (by decide) ?_
        refine lv_topi (fun x_2 ex_2 => ?_)
        refine lv_istore_n (lv' := [(1, .int x_2), (3, .int b), (0, .ref hm), (2, .int (nI i))]) hx hb d_M_used_75 rfl hl (by decide) rfl (fun ls hl => ?_)
        obtain ⟨i_3, ei_3⟩ : ∃ y : Int32, y = (nI i) + 1 := ⟨_, rfl⟩
        refine lv_iinc (v := i_3) (lv' := [(2, .int i_3), (1, .int x_2), (3, .int b), (0, .ref hm)]) hx hb d_M_used_76 hl (k := 3) rfl (by rw [ei_3]; rfl) (by decide) rfl (fun ls hl => ?_)
        refine lv_goto (tgt := 9) hx hb d_M_used_79 (by decide) ?_
        have hu : x_2 = nI (usd M (i + 1)) := by
          rw [ex_2, nI_1]
          show nI (usd M i + 1) = nI (usd M i + (if nzc (fun j => M (512 * i + j)) 512 = 0 then 0 else 1))
          rw [if_neg (fun z => c65 (by rw [hbz, if_pos z]))]
        exact ih (i + 1) ls H locs (by omega) (by omega) hP hS (by rw [← nI_1 i, ← ei_3, ← hu]; exact lv_sub hl [1, 0, 3] rfl)
set_option maxHeartbeats 4000000 in
set_option maxRecDepth 100000 in
/-- used -/
theorem t_M_used (l : Launch) (D : va_G) (cJ cI cP : ClassId) (bs : Nat) (w : Nat → Option va_E) (hm n : Nat) (cd : Int32) (M T pl : Nat → Int64) (sz : Nat → Int32) (aW aU aP aZ : Nat) (hs : mo cJ cI w hm n cd M T pl sz aW aU aP aZ) : Met l y_M_used ws_M_used ({ frames := 0, cells := 0, slots := 0, locals := 0 }) (mPc D vwCl (mT cJ cI cP) bs w [.ref hm]) (va_Qi (S := (Nat → Option va_E)) (fun r u => r = nI (usd M n) ∧ kM w u hm aW aU aP aZ ∧ mo cJ cI u hm n 0 M T pl sz aW aU aP aZ) (mB D vwCl bs (fun u => u)) (mA bs)) 0 0 (mA bs) := by
  refine Met.ofW (cc := c_M_used) (maxL := 5) (ret := (some .int)) (by decide) rfl ?_
  intro p e s m args below meth c s₁ B hml hv
  obtain ⟨rfl, hbs, hP, hK⟩ := hv
  have hx := B.exec
  have hb := B.bytes
  have hr := B.returns
  have htg : ∀ w ∈ gt, w.before _ s = true := fun w h => atoms_spec (ws := ws_M_used) B.pre w (List.mem_cons_of_mem _ h)
  have hown : s.vm.findClass R_M = some m.cls := findClass_of_methodNamed B.named
  have hlocks := B.notSynchronized
  have hS : va_S (mA bs) s.heap s.heap [] := va_S.rf
  have hl := lv_entry ([.ref hm]) (n := 5) (Nat.le_of_ble_eq_true rfl)
  rw [lg_entry_eq]
  generalize (lg_sl ([.ref hm]) ++ List.replicate (5 - (lg_sl ([.ref hm])).length) Slot.unset).toArray = ls at hl ⊢
  have hl : lv_has ls 5 [(0, .ref hm)] := hl
  obtain ⟨hn, s1, s2, s3, s4, s5⟩ := id hs
  refine lv_aload_n hx hb d_M_used_0 rfl (lv_at hl 0 rfl) ?_
  refine lv_iconst (v := 0) hx hb d_M_used_1 (by decide) ?_
  refine mw_put (C := R_M) (T := T_M) (N := 6) (ci := ciM) (v := .int 0) (ty := .int) (fs' := [.int 0, .int (nI n), .ref aW, .ref aU, .ref aP, .ref aZ]) hx hb htg i_M ty_M tk_M nm_M hown hK hP hS s1 rfl 0 (by decide) (htg _ k_411) (fun _ h9 => h9) rfl (by decide +kernel) rfl rfl (Nat.le_of_ble_eq_true rfl) rfl d_M_used_2 (fun H locs hP hS hz2 => ?_)
  obtain ⟨w_1, ew_1⟩ : ∃ z9, z9 = va_up w hm (some (.inr (ciM, [.int 0, .int (nI n), .ref aW, .ref aU, .ref aP, .ref aZ])) : Option va_E) := ⟨_, rfl⟩
  rw [← ew_1] at hP
  have h_2 : w_1 hm = some (.inr (ciM, [.int 0, .int (nI n), .ref aW, .ref aU, .ref aP, .ref aZ])) := by rw [ew_1, va_up_self]
  have h_3 : w_1 aW = some (.inl (cJ, 524288, .inr (.inl M))) := by rw [ew_1, va_up_ne _ _ (fun z => by rw [z, s1] at s2; cases s2)]; exact s2
  have h_4 : w_1 aU = some (.inl (cJ, 1024, .inr (.inl T))) := by rw [ew_1, va_up_ne _ _ (fun z => by rw [z, s1] at s3; cases s3)]; exact s3
  have h_5 : w_1 aP = some (.inl (cJ, 4, .inr (.inl pl))) := by rw [ew_1, va_up_ne _ _ (fun z => by rw [z, s1] at s4; cases s4)]; exact s4
  have h_6 : w_1 aZ = some (.inl (cI, 4, .inl sz)) := by rw [ew_1, va_up_ne _ _ (fun z => by rw [z, s1] at s5; cases s5)]; exact s5
  refine lv_iconst (v := 0) hx hb d_M_used_5 (by decide) ?_
  refine lv_istore_n (lv' := [(1, .int 0), (0, .ref hm)]) hx hb d_M_used_6 rfl hl (by decide) rfl (fun ls hl => ?_)
  refine lv_iconst (v := 0) hx hb d_M_used_7 (by decide) ?_
  refine lv_istore_n (lv' := [(2, .int 0), (1, .int 0), (0, .ref hm)]) hx hb d_M_used_8 rfl hl (by decide) rfl (fun ls hl => ?_)
  have hmo : mo cJ cI w_1 hm n 0 M T pl sz aW aU aP aZ := ⟨hn, h_2, h_3, h_4, h_5, h_6⟩
  have hkm : kM w w_1 hm aW aU aP aZ := fun q z1 z2 z3 z4 z5 => by rw [ew_1, va_up_ne _ _ z1]
  refine lp_M_used2 (D := D) (cJ := cJ) (cI := cI) (cP := cP) (bs := bs) hx hb hml hown htg hK hbs w_1 hm n 0 M T pl sz aW aU aP aZ hmo (fun ls H locs hP hS hl => ?_) (n + 1) 0 ls _ _ (by omega) (by omega) hP hS (lv_sub hl [1, 0, 2] rfl)
  refine lv_iload_n hx hb d_M_used_82 rfl (lv_at hl 0 rfl) ?_
  exact W.iret (v := nI (usd M n)) hx hb hr (fun t ht hW => ⟨⟨_, w_1, rfl, ⟨rfl, hkm, hmo⟩, hP.at ht⟩, hS.F ht⟩) hS.2.2 d_M_used_83
set_option maxHeartbeats 4000000 in
set_option maxRecDepth 100000 in
/-- the constructor -/
theorem t_M_init (l : Launch) (D : va_G) (cJ cI cP : ClassId) (bs : Nat) (w : Nat → Option va_E) (hm : Nat) (hh : w hm = some (.inr (ciM, [.int 0, .int 0, .null, .null, .null, .null]))) (x : Int32) : Met l y_M_init ws_M_init ({ frames := 1, cells := 4, slots := 525320, locals := 20 }) (mPc D vwCl (mT cJ cI cP) bs w [.ref hm, .int x]) (va_Qv (S := (Nat → Option va_E)) (fun u => ∃ aW aU aP aZ, mo cJ cI u hm (pgs x) 0 (fun _ => 0) (fun _ => 0) (fun _ => 0) (fun _ => 0) aW aU aP aZ ∧ (∀ q, ¬ w q = none → ¬ q = hm → u q = w q) ∧ (w aW = none ∧ w aU = none ∧ w aP = none ∧ w aZ = none)) (mB D vwCl bs (fun u => u)) (mA bs)) 4 525320 (mA bs) := by
  refine Met.ofW (cc := c_M_init) (maxL := 2) (ret := none) (by decide) rfl ?_
  intro p e s m args below meth c s₁ B hml hv
  obtain ⟨rfl, hbs, hP, hK⟩ := hv
  have hx := B.exec
  have hb := B.bytes
  have hr := B.returns
  have htg : ∀ w ∈ gt, w.before _ s = true := fun w h => atoms_spec (ws := ws_M_init) B.pre w (List.mem_cons_of_mem _ h)
  have hown : s.vm.findClass R_M = some m.cls := findClass_of_methodNamed B.named
  have hlocks := B.notSynchronized
  have hS : va_S (mA bs) s.heap s.heap [] := va_S.rf
  have hin : meth.name = "<init>" := (name_of_methodNamed B.named B.method).1
  have hl := lv_entry ([.ref hm, .int x]) (n := 2) (Nat.le_of_ble_eq_true rfl)
  rw [lg_entry_eq]
  generalize (lg_sl ([.ref hm, .int x]) ++ List.replicate (2 - (lg_sl ([.ref hm, .int x])).length) Slot.unset).toArray = ls at hl ⊢
  have hl : lv_has ls 2 [(0, .ref hm), (1, .int x)] := hl
  have hP0 := hP
  have hpi := pgs_in x
  obtain ⟨n, en⟩ : ∃ z9, z9 = pgs x := ⟨_, rfl⟩
  rw [← en] at hpi
  refine lv_aload_n hx hb d_M_init_0 rfl (lv_at hl 0 rfl) ?_
  refine W.objInit hx hb hown (htg _ k_409) (htg _ k_42) (htg _ k_43) rfl (by rw [hml]; exact hl.1) rfl d_M_init_1 (Nat.le_of_ble_eq_true rfl) (Nat.le_of_ble_eq_true rfl) ?_
  refine W.eq (g2 := F0 m 4 ls []) rfl ?_
  refine lv_aload_n hx hb d_M_init_4 rfl (lv_at hl 0 rfl) ?_
  refine lv_ldc (own := R_M) (v := 524288) hx hb hown (htg _ k_410) d_M_init_5 ?_
  have hSq := hS
  refine mw_newa (atype := .long) (ty := .long) (N' := 524288) (a0 := (524288, .inr (.inl (fun _ => 0)))) hx hb (htg _ k_59) rfl hK hP hS (hbs) 0 (cA := cJ) rfl rfl rfl (by decide) rfl (by decide) (Nat.le_of_ble_eq_true rfl) (Nat.le_of_ble_eq_true rfl) d_M_init_7 (fun q_1 H nq_1 eq_1 hP hS hz7 => ?_)
  obtain ⟨w_2, ew_2⟩ : ∃ z9, z9 = va_up w q_1 (some (.inl (cJ, 524288, .inr (.inl (fun _ => 0)))) : Option va_E) := ⟨_, rfl⟩
  rw [← ew_2] at hP
  have h_3 : w_2 q_1 = some (.inl (cJ, 524288, .inr (.inl (fun _ => 0)))) := by rw [ew_2, va_up_self]
  have h_4 : w_2 hm = some (.inr (ciM, [.int 0, .int 0, .null, .null, .null, .null])) := by rw [ew_2, va_up_ne _ _ (fun z => by rw [z, nq_1] at hh; cases hh)]; exact hh
  have mq_1 : w q_1 = none := hP0.fresh (by rw [eq_1]; exact hSq.1)
  refine mw_putF (C := R_M) (T := T_M) (N := 6) (ci := ciM) (v := .ref q_1) (ty := .array .long) (fs' := [.int 0, .int 0, .ref q_1, .null, .null, .null]) hx hb htg i_M ty_M tk_M nm_M hown hK hP hS h_4 rfl 2 (by decide) (htg _ k_413) (fun _ h9 => h9) rfl hin rfl (by decide +kernel) rfl rfl (Nat.le_of_ble_eq_true rfl) rfl d_M_init_9 (fun H locs hP hS hz9 => ?_)
  obtain ⟨w_5, ew_5⟩ : ∃ z9, z9 = va_up w_2 hm (some (.inr (ciM, [.int 0, .int 0, .ref q_1, .null, .null, .null])) : Option va_E) := ⟨_, rfl⟩
  rw [← ew_5] at hP
  have h_6 : w_5 hm = some (.inr (ciM, [.int 0, .int 0, .ref q_1, .null, .null, .null])) := by rw [ew_5, va_up_self]
  have h_7 : w_5 q_1 = some (.inl (cJ, 524288, .inr (.inl (fun _ => 0)))) := by rw [ew_5, va_up_ne _ _ (fun z => by rw [z, h_4] at h_3; cases h_3)]; exact h_3
  refine lv_aload_n hx hb d_M_init_12 rfl (lv_at hl 0 rfl) ?_
  refine lv_sipush (v := 1024) hx hb d_M_init_13 (by decide) ?_
  have hSq := hS
  refine mw_newa (atype := .long) (ty := .long) (N' := 1024) (a0 := (1024, .inr (.inl (fun _ => 0)))) hx hb (htg _ k_59) rfl hK hP hS (hbs) 0 (cA := cJ) rfl rfl rfl (by decide) rfl (by decide) (Nat.le_of_ble_eq_true rfl) (Nat.le_of_ble_eq_true rfl) d_M_init_16 (fun q_8 H nq_8 eq_8 hP hS hz16 => ?_)
  obtain ⟨w_9, ew_9⟩ : ∃ z9, z9 = va_up w_5 q_8 (some (.inl (cJ, 1024, .inr (.inl (fun _ => 0)))) : Option va_E) := ⟨_, rfl⟩
  rw [← ew_9] at hP
  have h_10 : w_9 q_8 = some (.inl (cJ, 1024, .inr (.inl (fun _ => 0)))) := by rw [ew_9, va_up_self]
  have h_11 : w_9 hm = some (.inr (ciM, [.int 0, .int 0, .ref q_1, .null, .null, .null])) := by rw [ew_9, va_up_ne _ _ (fun z => by rw [z, nq_8] at h_6; cases h_6)]; exact h_6
  have h_12 : w_9 q_1 = some (.inl (cJ, 524288, .inr (.inl (fun _ => 0)))) := by rw [ew_9, va_up_ne _ _ (fun z => by rw [z, nq_8] at h_7; cases h_7)]; exact h_7
  have mq_8 : w q_8 = none := hP0.fresh (by rw [eq_8]; exact hSq.1)
  refine mw_putF (C := R_M) (T := T_M) (N := 6) (ci := ciM) (v := .ref q_8) (ty := .array .long) (fs' := [.int 0, .int 0, .ref q_1, .ref q_8, .null, .null]) hx hb htg i_M ty_M tk_M nm_M hown hK hP hS h_11 rfl 3 (by decide) (htg _ k_414) (fun _ h9 => h9) rfl hin rfl (by decide +kernel) rfl rfl (Nat.le_of_ble_eq_true rfl) rfl d_M_init_18 (fun H locs hP hS hz18 => ?_)
  obtain ⟨w_13, ew_13⟩ : ∃ z9, z9 = va_up w_9 hm (some (.inr (ciM, [.int 0, .int 0, .ref q_1, .ref q_8, .null, .null])) : Option va_E) := ⟨_, rfl⟩
  rw [← ew_13] at hP
  have h_14 : w_13 hm = some (.inr (ciM, [.int 0, .int 0, .ref q_1, .ref q_8, .null, .null])) := by rw [ew_13, va_up_self]
  have h_15 : w_13 q_8 = some (.inl (cJ, 1024, .inr (.inl (fun _ => 0)))) := by rw [ew_13, va_up_ne _ _ (fun z => by rw [z, h_11] at h_10; cases h_10)]; exact h_10
  have h_16 : w_13 q_1 = some (.inl (cJ, 524288, .inr (.inl (fun _ => 0)))) := by rw [ew_13, va_up_ne _ _ (fun z => by rw [z, h_11] at h_12; cases h_12)]; exact h_12
  refine lv_aload_n hx hb d_M_init_21 rfl (lv_at hl 0 rfl) ?_
  refine lv_iconst (v := 4) hx hb d_M_init_22 (by decide) ?_
  have hSq := hS
  refine mw_newa (atype := .long) (ty := .long) (N' := 4) (a0 := (4, .inr (.inl (fun _ => 0)))) hx hb (htg _ k_59) rfl hK hP hS (hbs) 0 (cA := cJ) rfl rfl rfl (by decide) rfl (by decide) (Nat.le_of_ble_eq_true rfl) (Nat.le_of_ble_eq_true rfl) d_M_init_23 (fun q_17 H nq_17 eq_17 hP hS hz23 => ?_)
  obtain ⟨w_18, ew_18⟩ : ∃ z9, z9 = va_up w_13 q_17 (some (.inl (cJ, 4, .inr (.inl (fun _ => 0)))) : Option va_E) := ⟨_, rfl⟩
  rw [← ew_18] at hP
  have h_19 : w_18 q_17 = some (.inl (cJ, 4, .inr (.inl (fun _ => 0)))) := by rw [ew_18, va_up_self]
  have h_20 : w_18 hm = some (.inr (ciM, [.int 0, .int 0, .ref q_1, .ref q_8, .null, .null])) := by rw [ew_18, va_up_ne _ _ (fun z => by rw [z, nq_17] at h_14; cases h_14)]; exact h_14
  have h_21 : w_18 q_8 = some (.inl (cJ, 1024, .inr (.inl (fun _ => 0)))) := by rw [ew_18, va_up_ne _ _ (fun z => by rw [z, nq_17] at h_15; cases h_15)]; exact h_15
  have h_22 : w_18 q_1 = some (.inl (cJ, 524288, .inr (.inl (fun _ => 0)))) := by rw [ew_18, va_up_ne _ _ (fun z => by rw [z, nq_17] at h_16; cases h_16)]; exact h_16
  have mq_17 : w q_17 = none := hP0.fresh (by rw [eq_17]; exact hSq.1)
  refine mw_putF (C := R_M) (T := T_M) (N := 6) (ci := ciM) (v := .ref q_17) (ty := .array .long) (fs' := [.int 0, .int 0, .ref q_1, .ref q_8, .ref q_17, .null]) hx hb htg i_M ty_M tk_M nm_M hown hK hP hS h_20 rfl 4 (by decide) (htg _ k_415) (fun _ h9 => h9) rfl hin rfl (by decide +kernel) rfl rfl (Nat.le_of_ble_eq_true rfl) rfl d_M_init_25 (fun H locs hP hS hz25 => ?_)
  obtain ⟨w_23, ew_23⟩ : ∃ z9, z9 = va_up w_18 hm (some (.inr (ciM, [.int 0, .int 0, .ref q_1, .ref q_8, .ref q_17, .null])) : Option va_E) := ⟨_, rfl⟩
  rw [← ew_23] at hP
  have h_24 : w_23 hm = some (.inr (ciM, [.int 0, .int 0, .ref q_1, .ref q_8, .ref q_17, .null])) := by rw [ew_23, va_up_self]
  have h_25 : w_23 q_17 = some (.inl (cJ, 4, .inr (.inl (fun _ => 0)))) := by rw [ew_23, va_up_ne _ _ (fun z => by rw [z, h_20] at h_19; cases h_19)]; exact h_19
  have h_26 : w_23 q_8 = some (.inl (cJ, 1024, .inr (.inl (fun _ => 0)))) := by rw [ew_23, va_up_ne _ _ (fun z => by rw [z, h_20] at h_21; cases h_21)]; exact h_21
  have h_27 : w_23 q_1 = some (.inl (cJ, 524288, .inr (.inl (fun _ => 0)))) := by rw [ew_23, va_up_ne _ _ (fun z => by rw [z, h_20] at h_22; cases h_22)]; exact h_22
  refine lv_aload_n hx hb d_M_init_28 rfl (lv_at hl 0 rfl) ?_
  refine lv_iconst (v := 4) hx hb d_M_init_29 (by decide) ?_
  have hSq := hS
  refine mw_newa (atype := .int) (ty := .int) (N' := 4) (a0 := (4, .inl (fun _ => 0))) hx hb (htg _ k_60) rfl hK hP hS (hbs) 1 (cA := cI) rfl rfl rfl (by decide) rfl (by decide) (Nat.le_of_ble_eq_true rfl) (Nat.le_of_ble_eq_true rfl) d_M_init_30 (fun q_28 H nq_28 eq_28 hP hS hz30 => ?_)
  obtain ⟨w_29, ew_29⟩ : ∃ z9, z9 = va_up w_23 q_28 (some (.inl (cI, 4, .inl (fun _ => 0))) : Option va_E) := ⟨_, rfl⟩
  rw [← ew_29] at hP
  have h_30 : w_29 q_28 = some (.inl (cI, 4, .inl (fun _ => 0))) := by rw [ew_29, va_up_self]
  have h_31 : w_29 hm = some (.inr (ciM, [.int 0, .int 0, .ref q_1, .ref q_8, .ref q_17, .null])) := by rw [ew_29, va_up_ne _ _ (fun z => by rw [z, nq_28] at h_24; cases h_24)]; exact h_24
  have h_32 : w_29 q_17 = some (.inl (cJ, 4, .inr (.inl (fun _ => 0)))) := by rw [ew_29, va_up_ne _ _ (fun z => by rw [z, nq_28] at h_25; cases h_25)]; exact h_25
  have h_33 : w_29 q_8 = some (.inl (cJ, 1024, .inr (.inl (fun _ => 0)))) := by rw [ew_29, va_up_ne _ _ (fun z => by rw [z, nq_28] at h_26; cases h_26)]; exact h_26
  have h_34 : w_29 q_1 = some (.inl (cJ, 524288, .inr (.inl (fun _ => 0)))) := by rw [ew_29, va_up_ne _ _ (fun z => by rw [z, nq_28] at h_27; cases h_27)]; exact h_27
  have mq_28 : w q_28 = none := hP0.fresh (by rw [eq_28]; exact hSq.1)
  refine mw_putF (C := R_M) (T := T_M) (N := 6) (ci := ciM) (v := .ref q_28) (ty := .array .int) (fs' := [.int 0, .int 0, .ref q_1, .ref q_8, .ref q_17, .ref q_28]) hx hb htg i_M ty_M tk_M nm_M hown hK hP hS h_31 rfl 5 (by decide) (htg _ k_416) (fun _ h9 => h9) rfl hin rfl (by decide +kernel) rfl rfl (Nat.le_of_ble_eq_true rfl) rfl d_M_init_32 (fun H locs hP hS hz32 => ?_)
  obtain ⟨w_35, ew_35⟩ : ∃ z9, z9 = va_up w_29 hm (some (.inr (ciM, [.int 0, .int 0, .ref q_1, .ref q_8, .ref q_17, .ref q_28])) : Option va_E) := ⟨_, rfl⟩
  rw [← ew_35] at hP
  have h_36 : w_35 hm = some (.inr (ciM, [.int 0, .int 0, .ref q_1, .ref q_8, .ref q_17, .ref q_28])) := by rw [ew_35, va_up_self]
  have h_37 : w_35 q_28 = some (.inl (cI, 4, .inl (fun _ => 0))) := by rw [ew_35, va_up_ne _ _ (fun z => by rw [z, h_31] at h_30; cases h_30)]; exact h_30
  have h_38 : w_35 q_17 = some (.inl (cJ, 4, .inr (.inl (fun _ => 0)))) := by rw [ew_35, va_up_ne _ _ (fun z => by rw [z, h_31] at h_32; cases h_32)]; exact h_32
  have h_39 : w_35 q_8 = some (.inl (cJ, 1024, .inr (.inl (fun _ => 0)))) := by rw [ew_35, va_up_ne _ _ (fun z => by rw [z, h_31] at h_33; cases h_33)]; exact h_33
  have h_40 : w_35 q_1 = some (.inl (cJ, 524288, .inr (.inl (fun _ => 0)))) := by rw [ew_35, va_up_ne _ _ (fun z => by rw [z, h_31] at h_34; cases h_34)]; exact h_34
  refine lv_aload_n hx hb d_M_init_35 rfl (lv_at hl 0 rfl) ?_
  refine lv_iload_n hx hb d_M_init_36 rfl (lv_at hl 1 rfl) ?_
  refine lv_iconst (v := 1) hx hb d_M_init_37 (by decide) ?_
  refine lv_icmp_lt (tgt := 48) hx hb d_M_init_38 (by decide) (fun c38 => ?_) (fun c38 => ?_)
  · refine lv_sipush (v := 1024) hx hb d_M_init_48 (by decide) ?_
    refine lv_goto (tgt := 55) hx hb d_M_init_51 (by decide) ?_
    rw [show 1024 = nI n from (by rw [en]; exact pgs_no (by first | exact Or.inr (Int32.not_le.mp c45) | exact Or.inl c38))]
    refine mw_putF (C := R_M) (T := T_M) (N := 6) (ci := ciM) (v := .int (nI n)) (ty := .int) (fs' := [.int 0, .int (nI n), .ref q_1, .ref q_8, .ref q_17, .ref q_28]) hx hb htg i_M ty_M tk_M nm_M hown hK hP hS h_36 rfl 1 (by decide) (htg _ k_412) (fun _ h9 => h9) rfl hin rfl (by decide +kernel) rfl rfl (Nat.le_of_ble_eq_true rfl) rfl d_M_init_55 (fun H locs hP hS hz55 => ?_)
    obtain ⟨w_41, ew_41⟩ : ∃ z9, z9 = va_up w_35 hm (some (.inr (ciM, [.int 0, .int (nI n), .ref q_1, .ref q_8, .ref q_17, .ref q_28])) : Option va_E) := ⟨_, rfl⟩
    rw [← ew_41] at hP
    have h_42 : w_41 hm = some (.inr (ciM, [.int 0, .int (nI n), .ref q_1, .ref q_8, .ref q_17, .ref q_28])) := by rw [ew_41, va_up_self]
    have h_43 : w_41 q_28 = some (.inl (cI, 4, .inl (fun _ => 0))) := by rw [ew_41, va_up_ne _ _ (fun z => by rw [z, h_36] at h_37; cases h_37)]; exact h_37
    have h_44 : w_41 q_17 = some (.inl (cJ, 4, .inr (.inl (fun _ => 0)))) := by rw [ew_41, va_up_ne _ _ (fun z => by rw [z, h_36] at h_38; cases h_38)]; exact h_38
    have h_45 : w_41 q_8 = some (.inl (cJ, 1024, .inr (.inl (fun _ => 0)))) := by rw [ew_41, va_up_ne _ _ (fun z => by rw [z, h_36] at h_39; cases h_39)]; exact h_39
    have h_46 : w_41 q_1 = some (.inl (cJ, 524288, .inr (.inl (fun _ => 0)))) := by rw [ew_41, va_up_ne _ _ (fun z => by rw [z, h_36] at h_40; cases h_40)]; exact h_40
    have oth : ∀ q, ¬ w q = none → ¬ q = hm → w_41 q = w q := fun q z1 z2 => by rw [ew_41, va_up_ne _ _ z2]; rw [ew_35, va_up_ne _ _ z2]; rw [ew_29, va_up_ne _ _ (fun z => z1 (by rw [z]; exact mq_28))]; rw [ew_23, va_up_ne _ _ z2]; rw [ew_18, va_up_ne _ _ (fun z => z1 (by rw [z]; exact mq_17))]; rw [ew_13, va_up_ne _ _ z2]; rw [ew_9, va_up_ne _ _ (fun z => z1 (by rw [z]; exact mq_8))]; rw [ew_5, va_up_ne _ _ z2]; rw [ew_2, va_up_ne _ _ (fun z => z1 (by rw [z]; exact mq_1))]
    have hmo : mo cJ cI w_41 hm n 0 (fun _ => 0) (fun _ => 0) (fun _ => 0) (fun _ => 0) q_1 q_8 q_17 q_28 := ⟨hpi, h_42, h_46, h_45, h_44, h_43⟩
    exact W.vret hx hb hr (fun t ht hW => ⟨⟨w_41, rfl, ⟨q_1, q_8, q_17, q_28, by rw [← en]; exact hmo, oth, mq_1, mq_8, mq_17, mq_28⟩, hP.at ht⟩, hS.F ht⟩) hS.2.2 d_M_init_58
  · refine lv_iload_n hx hb d_M_init_41 rfl (lv_at hl 1 rfl) ?_
    refine lv_sipush (v := 1024) hx hb d_M_init_42 (by decide) ?_
    refine lv_icmp_le (tgt := 54) hx hb d_M_init_45 (by decide) (fun c45 => ?_) (fun c45 => ?_)
    · refine lv_iload_n hx hb d_M_init_54 rfl (lv_at hl 1 rfl) ?_
      refine lv_topi (fun y9 ey9 => ?_)
      have ey8 : y9 = nI n := by rw [ey9, en]; exact pgs_ok c38 (Int32.not_lt.mpr c45)
      clear ey9
      subst ey8
      refine mw_putF (C := R_M) (T := T_M) (N := 6) (ci := ciM) (v := .int (nI n)) (ty := .int) (fs' := [.int 0, .int (nI n), .ref q_1, .ref q_8, .ref q_17, .ref q_28]) hx hb htg i_M ty_M tk_M nm_M hown hK hP hS h_36 rfl 1 (by decide) (htg _ k_412) (fun _ h9 => h9) rfl hin rfl (by decide +kernel) rfl rfl (Nat.le_of_ble_eq_true rfl) rfl d_M_init_55 (fun H locs hP hS hz55 => ?_)
      obtain ⟨w_47, ew_47⟩ : ∃ z9, z9 = va_up w_35 hm (some (.inr (ciM, [.int 0, .int (nI n), .ref q_1, .ref q_8, .ref q_17, .ref q_28])) : Option va_E) := ⟨_, rfl⟩
      rw [← ew_47] at hP
      have h_48 : w_47 hm = some (.inr (ciM, [.int 0, .int (nI n), .ref q_1, .ref q_8, .ref q_17, .ref q_28])) := by rw [ew_47, va_up_self]
      have h_49 : w_47 q_28 = some (.inl (cI, 4, .inl (fun _ => 0))) := by rw [ew_47, va_up_ne _ _ (fun z => by rw [z, h_36] at h_37; cases h_37)]; exact h_37
      have h_50 : w_47 q_17 = some (.inl (cJ, 4, .inr (.inl (fun _ => 0)))) := by rw [ew_47, va_up_ne _ _ (fun z => by rw [z, h_36] at h_38; cases h_38)]; exact h_38
      have h_51 : w_47 q_8 = some (.inl (cJ, 1024, .inr (.inl (fun _ => 0)))) := by rw [ew_47, va_up_ne _ _ (fun z => by rw [z, h_36] at h_39; cases h_39)]; exact h_39
      have h_52 : w_47 q_1 = some (.inl (cJ, 524288, .inr (.inl (fun _ => 0)))) := by rw [ew_47, va_up_ne _ _ (fun z => by rw [z, h_36] at h_40; cases h_40)]; exact h_40
      have oth : ∀ q, ¬ w q = none → ¬ q = hm → w_47 q = w q := fun q z1 z2 => by rw [ew_47, va_up_ne _ _ z2]; rw [ew_35, va_up_ne _ _ z2]; rw [ew_29, va_up_ne _ _ (fun z => z1 (by rw [z]; exact mq_28))]; rw [ew_23, va_up_ne _ _ z2]; rw [ew_18, va_up_ne _ _ (fun z => z1 (by rw [z]; exact mq_17))]; rw [ew_13, va_up_ne _ _ z2]; rw [ew_9, va_up_ne _ _ (fun z => z1 (by rw [z]; exact mq_8))]; rw [ew_5, va_up_ne _ _ z2]; rw [ew_2, va_up_ne _ _ (fun z => z1 (by rw [z]; exact mq_1))]
      have hmo : mo cJ cI w_47 hm n 0 (fun _ => 0) (fun _ => 0) (fun _ => 0) (fun _ => 0) q_1 q_8 q_17 q_28 := ⟨hpi, h_48, h_52, h_51, h_50, h_49⟩
      exact W.vret hx hb hr (fun t ht hW => ⟨⟨w_47, rfl, ⟨q_1, q_8, q_17, q_28, by rw [← en]; exact hmo, oth, mq_1, mq_8, mq_17, mq_28⟩, hP.at ht⟩, hS.F ht⟩) hS.2.2 d_M_init_58
    · refine lv_sipush (v := 1024) hx hb d_M_init_48 (by decide) ?_
      refine lv_goto (tgt := 55) hx hb d_M_init_51 (by decide) ?_
      rw [show 1024 = nI n from (by rw [en]; exact pgs_no (by first | exact Or.inr (Int32.not_le.mp c45) | exact Or.inl c38))]
      refine mw_putF (C := R_M) (T := T_M) (N := 6) (ci := ciM) (v := .int (nI n)) (ty := .int) (fs' := [.int 0, .int (nI n), .ref q_1, .ref q_8, .ref q_17, .ref q_28]) hx hb htg i_M ty_M tk_M nm_M hown hK hP hS h_36 rfl 1 (by decide) (htg _ k_412) (fun _ h9 => h9) rfl hin rfl (by decide +kernel) rfl rfl (Nat.le_of_ble_eq_true rfl) rfl d_M_init_55 (fun H locs hP hS hz55 => ?_)
      obtain ⟨w_53, ew_53⟩ : ∃ z9, z9 = va_up w_35 hm (some (.inr (ciM, [.int 0, .int (nI n), .ref q_1, .ref q_8, .ref q_17, .ref q_28])) : Option va_E) := ⟨_, rfl⟩
      rw [← ew_53] at hP
      have h_54 : w_53 hm = some (.inr (ciM, [.int 0, .int (nI n), .ref q_1, .ref q_8, .ref q_17, .ref q_28])) := by rw [ew_53, va_up_self]
      have h_55 : w_53 q_28 = some (.inl (cI, 4, .inl (fun _ => 0))) := by rw [ew_53, va_up_ne _ _ (fun z => by rw [z, h_36] at h_37; cases h_37)]; exact h_37
      have h_56 : w_53 q_17 = some (.inl (cJ, 4, .inr (.inl (fun _ => 0)))) := by rw [ew_53, va_up_ne _ _ (fun z => by rw [z, h_36] at h_38; cases h_38)]; exact h_38
      have h_57 : w_53 q_8 = some (.inl (cJ, 1024, .inr (.inl (fun _ => 0)))) := by rw [ew_53, va_up_ne _ _ (fun z => by rw [z, h_36] at h_39; cases h_39)]; exact h_39
      have h_58 : w_53 q_1 = some (.inl (cJ, 524288, .inr (.inl (fun _ => 0)))) := by rw [ew_53, va_up_ne _ _ (fun z => by rw [z, h_36] at h_40; cases h_40)]; exact h_40
      have oth : ∀ q, ¬ w q = none → ¬ q = hm → w_53 q = w q := fun q z1 z2 => by rw [ew_53, va_up_ne _ _ z2]; rw [ew_35, va_up_ne _ _ z2]; rw [ew_29, va_up_ne _ _ (fun z => z1 (by rw [z]; exact mq_28))]; rw [ew_23, va_up_ne _ _ z2]; rw [ew_18, va_up_ne _ _ (fun z => z1 (by rw [z]; exact mq_17))]; rw [ew_13, va_up_ne _ _ z2]; rw [ew_9, va_up_ne _ _ (fun z => z1 (by rw [z]; exact mq_8))]; rw [ew_5, va_up_ne _ _ z2]; rw [ew_2, va_up_ne _ _ (fun z => z1 (by rw [z]; exact mq_1))]
      have hmo : mo cJ cI w_53 hm n 0 (fun _ => 0) (fun _ => 0) (fun _ => 0) (fun _ => 0) q_1 q_8 q_17 q_28 := ⟨hpi, h_54, h_58, h_57, h_56, h_55⟩
      exact W.vret hx hb hr (fun t ht hW => ⟨⟨w_53, rfl, ⟨q_1, q_8, q_17, q_28, by rw [← en]; exact hmo, oth, mq_1, mq_8, mq_17, mq_28⟩, hP.at ht⟩, hS.F ht⟩) hS.2.2 d_M_init_58
