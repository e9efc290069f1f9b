set_option maxHeartbeats 4000000 in
set_option maxRecDepth 100000 in
/-- Page(): even -/
theorem t_P_init (l : Launch) (D : va_G) (cJ cI cP : ClassId) (bs : Nat) (w : Nat → Option va_E) (h : Nat) (hh : w h = some (.inr (ciP, [.null, .int 0, .long 0, .int 0, .long 0]))) : Met l y_P_init ws_P_init ({ frames := 1, cells := 0, slots := 0, locals := 20 }) (mPc D vwCl (mT cJ cI cP) bs w [.ref h]) (va_Qv (S := Unit) (fun _ => True) (mB D vwCl bs (fun _ => va_up w h (some (pgE none 1 0 0 0)))) (mA bs)) 0 0 (mA bs) := by
  refine Met.ofW (cc := c_P_init) (maxL := 1) (ret := none) (by decide) rfl ?_
  intro p e s m args below meth c s₁ B hml hv
  obtain ⟨rfl, hbs, hP, hK⟩ := hv
  have hx := B.exec
  have hb := B.bytes
  have hr := B.returns
  have htg : ∀ w ∈ gt, w.before _ s = true := fun w h => atoms_spec (ws := ws_P_init) B.pre w (List.mem_cons_of_mem _ h)
  have hown : s.vm.findClass R_P = some m.cls := findClass_of_methodNamed B.named
  have hlocks := B.notSynchronized
  have hS : va_S (mA bs) s.heap s.heap [] := va_S.rf
  have hin : meth.name = "<init>" := (name_of_methodNamed B.named B.method).1
  have hl := lv_entry ([.ref h]) (n := 1) (Nat.le_of_ble_eq_true rfl)
  rw [lg_entry_eq]
  generalize (lg_sl ([.ref h]) ++ List.replicate (1 - (lg_sl ([.ref h])).length) Slot.unset).toArray = ls at hl ⊢
  have hl : lv_has ls 1 [(0, .ref h)] := hl
  refine lv_aload_n hx hb d_P_init_0 rfl (lv_at hl 0 rfl) ?_
  refine W.objInit hx hb hown (htg _ k_227) (htg _ k_42) (htg _ k_43) rfl (by rw [hml]; exact hl.1) rfl d_P_init_1 (Nat.le_of_ble_eq_true rfl) (Nat.le_of_ble_eq_true rfl) ?_
  refine W.eq (g2 := F0 m 4 ls []) rfl ?_
  refine lv_aload_n hx hb d_P_init_4 rfl (lv_at hl 0 rfl) ?_
  refine lv_iconst (v := 1) hx hb d_P_init_5 (by decide) ?_
  refine mw_put (C := R_P) (T := T_P) (N := 5) (ci := ciP) (v := .int 1) (ty := .boolean) (fs' := [.null, .int 1, .long 0, .int 0, .long 0]) hx hb htg i_P ty_P tk_P nm_P hown hK hP hS hh rfl 1 (by decide) (htg _ k_229) (fun _ h9 => h9) rfl (by decide +kernel) (by decide) (by decide) (Nat.le_of_ble_eq_true rfl) rfl d_P_init_6 (fun H locs hP hS hz6 => ?_)
  obtain ⟨w_1, ew_1⟩ : ∃ x, x = va_up w h (some (.inr (ciP, [.null, .int 1, .long 0, .int 0, .long 0])) : Option va_E) := ⟨_, rfl⟩
  rw [← ew_1] at hP
  have h_2 : w_1 h = some (.inr (ciP, [.null, .int 1, .long 0, .int 0, .long 0])) := by rw [ew_1, va_up_self]
  exact W.vret hx hb hr (fun t ht hW => ⟨⟨(), rfl, trivial, (hP.eq ew_1).at ht⟩, hS.F ht⟩) hS.2.2 d_P_init_9
set_option maxHeartbeats 4000000 in
set_option maxRecDepth 100000 in
/-- one write more -/
theorem t_P_countWrite (l : Launch) (D : va_G) (cJ cI cP : ClassId) (bs : Nat) (w : Nat → Option va_E) (pa : Nat) (Wd : Nat → Int64) (tw : Int64) (hp : pg cJ w pa Wd tw) : Met l y_P_countWrite ws_P_countWrite ({ frames := 0, cells := 0, slots := 0, locals := 0 }) (mPc D vwCl (mT cJ cI cP) bs w [.ref pa]) (va_Qv (S := (Nat → Option va_E)) (fun u => pg cJ u pa Wd (tw + 1) ∧ kp w u (pfp w pa) (pfp u pa)) (mB D vwCl bs (fun u => u)) (mA bs)) 0 0 (mA bs) := by
  refine Met.ofW (cc := c_P_countWrite) (maxL := 1) (ret := none) (by decide) rfl ?_
  intro p e s m args below meth c s₁ B hml hv
  obtain ⟨rfl, hbs, hP, hK⟩ := hv
  have hx := B.exec
  have hb := B.bytes
  have hr := B.returns
  have htg : ∀ w ∈ gt, w.before _ s = true := fun w h => atoms_spec (ws := ws_P_countWrite) B.pre w (List.mem_cons_of_mem _ h)
  have hown : s.vm.findClass R_P = some m.cls := findClass_of_methodNamed B.named
  have hlocks := B.notSynchronized
  have hS : va_S (mA bs) s.heap s.heap [] := va_S.rf
  have hl := lv_entry ([.ref pa]) (n := 1) (Nat.le_of_ble_eq_true rfl)
  rw [lg_entry_eq]
  generalize (lg_sl ([.ref pa]) ++ List.replicate (1 - (lg_sl ([.ref pa])).length) Slot.unset).toArray = ls at hl ⊢
  have hl : lv_has ls 1 [(0, .ref pa)] := hl
  obtain ⟨wr, ev, ew, g1, g2, g3, g4, g5⟩ := id hp
  obtain ⟨nz, enz⟩ : ∃ x, x = nI (nzc Wd 512) := ⟨_, rfl⟩
  rw [← enz] at g1
  have f1 : w pa = some (.inr (ciP, [va_rf wr, .int ev, .long ew, .int nz, .long tw])) := g1
  refine lv_aload_n hx hb d_P_countWrite_0 rfl (lv_at hl 0 rfl) ?_
  refine lv_dup hx hb d_P_countWrite_1 rfl ?_
  refine mw_get (C := R_P) (T := T_P) (N := 5) (ci := ciP) (v := .long tw) hx hb htg i_P hown hK hP f1 rfl 4 (by decide) (htg _ k_232) (fun _ h9 => h9) rfl d_P_countWrite_2 ?_
  refine lv_lconst (v := 1) hx hb d_P_countWrite_5 rfl ?_
  refine lv_ladd hx hb d_P_countWrite_6 ?_
  refine lv_topl (fun x_1 ex_1 => ?_)
  refine mw_put (C := R_P) (T := T_P) (N := 5) (ci := ciP) (v := .long x_1) (ty := .long) (fs' := [va_rf (wr), .int ev, .long ew, .int nz, .long x_1]) hx hb htg i_P ty_P tk_P nm_P hown hK hP hS f1 rfl 4 (by decide) (htg _ k_232) (fun _ h9 => h9) rfl (by decide +kernel) rfl rfl (Nat.le_of_ble_eq_true rfl) rfl d_P_countWrite_7 (fun H locs hP hS hz7 => ?_)
  obtain ⟨w_2, ew_2⟩ : ∃ x, x = va_up w pa (some (.inr (ciP, [va_rf (wr), .int ev, .long ew, .int nz, .long x_1])) : Option va_E) := ⟨_, rfl⟩
  rw [← ew_2] at hP
  have h_3 : w_2 pa = some (.inr (ciP, [va_rf (wr), .int ev, .long ew, .int nz, .long x_1])) := by rw [ew_2, va_up_self]
  have g5' : ∀ a, wr = some a → ∃ f : Nat → Int64, w_2 a = some (.inl (cJ, 512, .inr (.inl f))) ∧ (ev = 0 → ∀ i, i < 512 → f i = Wd i) := fun a ha => by
    obtain ⟨f, q1, q2⟩ := g5 a ha
    exact ⟨f, by rw [ew_2, va_up_ne _ _ (fun z => by rw [z, g1] at q1; simp [pgE] at q1)]; exact q1, q2⟩
  have fin := pg_fin (cJ := cJ) (wr := wr) (ev := ev) (ew := ew) (nz := nz) (tw := tw + 1) (W := Wd) g1 (w3 := w_2) (by rw [h_3, ex_1]; rfl) (fun a ha => Or.inl ha) (fun q hq _ => by rw [ew_2, va_up_ne _ _ hq]) enz g2 g3 g4 g5'
  exact W.vret hx hb hr (fun t ht hW => ⟨⟨w_2, rfl, fin, hP.at ht⟩, hS.F ht⟩) hS.2.2 d_P_countWrite_10
set_option maxHeartbeats 4000000 in
set_option maxRecDepth 100000 in
/-- how many writes -/
theorem t_P_writeCount (l : Launch) (D : va_G) (cJ cI cP : ClassId) (bs : Nat) (w : Nat → Option va_E) (pa : Nat) (Wd : Nat → Int64) (tw : Int64) (hp : pg cJ w pa Wd tw) : Met l y_P_writeCount ws_P_writeCount ({ frames := 0, cells := 0, slots := 0, locals := 0 }) (mPc D vwCl (mT cJ cI cP) bs w [.ref pa]) (va_Ql (S := Unit) (fun r _ => r = tw) (mB D vwCl bs (fun _ => w)) (mA bs)) 0 0 (mA bs) := by
  refine Met.ofW (cc := c_P_writeCount) (maxL := 1) (ret := (some .long)) (by decide) rfl ?_
  intro p e s m args below meth c s₁ B hml hv
  obtain ⟨rfl, hbs, hP, hK⟩ := hv
  have hx := B.exec
  have hb := B.bytes
  have hr := B.returns
  have htg : ∀ w ∈ gt, w.before _ s = true := fun w h => atoms_spec (ws := ws_P_writeCount) B.pre w (List.mem_cons_of_mem _ h)
  have hown : s.vm.findClass R_P = some m.cls := findClass_of_methodNamed B.named
  have hlocks := B.notSynchronized
  have hS : va_S (mA bs) s.heap s.heap [] := va_S.rf
  have hl := lv_entry ([.ref pa]) (n := 1) (Nat.le_of_ble_eq_true rfl)
  rw [lg_entry_eq]
  generalize (lg_sl ([.ref pa]) ++ List.replicate (1 - (lg_sl ([.ref pa])).length) Slot.unset).toArray = ls at hl ⊢
  have hl : lv_has ls 1 [(0, .ref pa)] := hl
  obtain ⟨wr, ev, ew, g1, g2, g3, g4, g5⟩ := id hp
  obtain ⟨nz, enz⟩ : ∃ x, x = nI (nzc Wd 512) := ⟨_, rfl⟩
  rw [← enz] at g1
  have f1 : w pa = some (.inr (ciP, [va_rf wr, .int ev, .long ew, .int nz, .long tw])) := g1
  refine lv_aload_n hx hb d_P_writeCount_0 rfl (lv_at hl 0 rfl) ?_
  refine mw_get (C := R_P) (T := T_P) (N := 5) (ci := ciP) (v := .long tw) hx hb htg i_P hown hK hP f1 rfl 4 (by decide) (htg _ k_232) (fun _ h9 => h9) rfl d_P_writeCount_1 ?_
  exact W.lret (v := tw) hx hb hr (fun t ht hW => ⟨⟨_, (), rfl, rfl, hP.at ht⟩, hS.F ht⟩) hS.2.2 d_P_writeCount_4
set_option maxHeartbeats 4000000 in
set_option maxRecDepth 100000 in
/-- whether all words are 0 -/
theorem t_P_isBlank (l : Launch) (D : va_G) (cJ cI cP : ClassId) (bs : Nat) (w : Nat → Option va_E) (pa : Nat) (Wd : Nat → Int64) (tw : Int64) (hp : pg cJ w pa Wd tw) : Met l y_P_isBlank ws_P_isBlank ({ frames := 0, cells := 0, slots := 0, locals := 0 }) (mPc D vwCl (mT cJ cI cP) bs w [.ref pa]) (va_Qi (S := Unit) (fun r _ => r = if nzc Wd 512 = 0 then 1 else 0) (mB D vwCl bs (fun _ => w)) (mA bs)) 0 0 (mA bs) := by
  refine Met.ofW (cc := c_P_isBlank) (maxL := 1) (ret := (some .boolean)) (by decide) rfl ?_
  intro p e s m args below meth c s₁ B hml hv
  obtain ⟨rfl, hbs, hP, hK⟩ := hv
  have hx := B.exec
  have hb := B.bytes
  have hr := B.returns
  have htg : ∀ w ∈ gt, w.before _ s = true := fun w h => atoms_spec (ws := ws_P_isBlank) B.pre w (List.mem_cons_of_mem _ h)
  have hown : s.vm.findClass R_P = some m.cls := findClass_of_methodNamed B.named
  have hlocks := B.notSynchronized
  have hS : va_S (mA bs) s.heap s.heap [] := va_S.rf
  have hl := lv_entry ([.ref pa]) (n := 1) (Nat.le_of_ble_eq_true rfl)
  rw [lg_entry_eq]
  generalize (lg_sl ([.ref pa]) ++ List.replicate (1 - (lg_sl ([.ref pa])).length) Slot.unset).toArray = ls at hl ⊢
  have hl : lv_has ls 1 [(0, .ref pa)] := hl
  obtain ⟨wr, ev, ew, g1, g2, g3, g4, g5⟩ := id hp
  obtain ⟨nz, enz⟩ : ∃ x, x = nI (nzc Wd 512) := ⟨_, rfl⟩
  rw [← enz] at g1
  have f1 : w pa = some (.inr (ciP, [va_rf wr, .int ev, .long ew, .int nz, .long tw])) := g1
  have hle := nzc_le Wd 512
  refine lv_aload_n hx hb d_P_isBlank_0 rfl (lv_at hl 0 rfl) ?_
  refine mw_get (C := R_P) (T := T_P) (N := 5) (ci := ciP) (v := .int nz) hx hb htg i_P hown hK hP f1 rfl 3 (by decide) (htg _ k_231) (fun _ h9 => h9) rfl d_P_isBlank_1 ?_
  refine lv_if_ne (tgt := 11) hx hb d_P_isBlank_4 (by decide) (fun c4 => ?_) (fun c4 => ?_)
  · refine lv_iconst (v := 0) hx hb d_P_isBlank_11 (by decide) ?_
    exact W.zret (v := 0) hx hb hr rfl (fun t ht hW => ⟨⟨_, (), rfl, by rw [if_neg]; exact fun z => c4 (by rw [enz, z, nI_0]), hP.at ht⟩, hS.F ht⟩) hS.2.2 d_P_isBlank_12
  · refine lv_iconst (v := 1) hx hb d_P_isBlank_7 (by decide) ?_
    refine lv_goto (tgt := 12) hx hb d_P_isBlank_8 (by decide) ?_
    exact W.zret (v := 1) hx hb hr rfl (fun t ht hW => ⟨⟨_, (), rfl, by rw [if_pos]; exact (nI_eq (by omega) (by omega)).mp (by rw [← enz, nI_0]; exact c4), hP.at ht⟩, hS.F ht⟩) hS.2.2 d_P_isBlank_12
set_option maxHeartbeats 4000000 in
set_option maxRecDepth 100000 in
/-- a word of the page -/
theorem t_P_wordAt (l : Launch) (D : va_G) (cJ cI cP : ClassId) (bs : Nat) (w : Nat → Option va_E) (pa : Nat) (Wd : Nat → Int64) (tw : Int64) (hp : pg cJ w pa Wd tw) (k : Nat) (hk : k < 512) : Met l y_P_wordAt ws_P_wordAt ({ frames := 0, cells := 0, slots := 0, locals := 0 }) (mPc D vwCl (mT cJ cI cP) bs w [.ref pa, .int (nI k)]) (va_Ql (S := Unit) (fun r _ => r = Wd k) (mB D vwCl bs (fun _ => w)) (mA bs)) 0 0 (mA bs) := by
  refine Met.ofW (cc := c_P_wordAt) (maxL := 2) (ret := (some .long)) (by decide) rfl ?_
  intro p e s m args below meth c s₁ B hml hv
  obtain ⟨rfl, hbs, hP, hK⟩ := hv
  have hx := B.exec
  have hb := B.bytes
  have hr := B.returns
  have htg : ∀ w ∈ gt, w.before _ s = true := fun w h => atoms_spec (ws := ws_P_wordAt) B.pre w (List.mem_cons_of_mem _ h)
  have hown : s.vm.findClass R_P = some m.cls := findClass_of_methodNamed B.named
  have hlocks := B.notSynchronized
  have hS : va_S (mA bs) s.heap s.heap [] := va_S.rf
  have hl := lv_entry ([.ref pa, .int (nI k)]) (n := 2) (Nat.le_of_ble_eq_true rfl)
  rw [lg_entry_eq]
  generalize (lg_sl ([.ref pa, .int (nI k)]) ++ List.replicate (2 - (lg_sl ([.ref pa, .int (nI k)])).length) Slot.unset).toArray = ls at hl ⊢
  have hl : lv_has ls 2 [(0, .ref pa), (1, .int (nI k))] := hl
  obtain ⟨wr, ev, ew, g1, g2, g3, g4, g5⟩ := id hp
  obtain ⟨nz, enz⟩ : ∃ x, x = nI (nzc Wd 512) := ⟨_, rfl⟩
  rw [← enz] at g1
  rcases wr with _ | wa
  · have f1 : w pa = some (.inr (ciP, [.null, .int ev, .long ew, .int nz, .long tw])) := g1
    refine lv_aload_n hx hb d_P_wordAt_0 rfl (lv_at hl 0 rfl) ?_
    refine mw_get (C := R_P) (T := T_P) (N := 5) (ci := ciP) (v := .int ev) hx hb htg i_P hown hK hP f1 rfl 1 (by decide) (htg _ k_229) (fun _ h9 => h9) rfl d_P_wordAt_1 ?_
    refine lv_if_ne (tgt := 14) hx hb d_P_wordAt_4 (by decide) (fun c4 => ?_) (fun c4 => ?_)
    · refine lv_aload_n hx hb d_P_wordAt_14 rfl (lv_at hl 0 rfl) ?_
      refine mw_get (C := R_P) (T := T_P) (N := 5) (ci := ciP) (v := .long ew) hx hb htg i_P hown hK hP f1 rfl 2 (by decide) (htg _ k_230) (fun _ h9 => h9) rfl d_P_wordAt_15 ?_
      refine lv_goto (tgt := 27) hx hb d_P_wordAt_18 (by decide) ?_
      have hpost : ew = Wd k := by
        rcases g2 with z | z
        · first | exact absurd z c4 | exact absurd rfl (g4 z)
        · exact (g3 z k hk).symm
      exact W.lret (v := ew) hx hb hr (fun t ht hW => ⟨⟨_, (), rfl, hpost, hP.at ht⟩, hS.F ht⟩) hS.2.2 d_P_wordAt_27
    · refine lv_aload_n hx hb d_P_wordAt_7 rfl (lv_at hl 0 rfl) ?_
      refine mw_get (C := R_P) (T := T_P) (N := 5) (ci := ciP) (v := .null) hx hb htg i_P hown hK hP f1 rfl 0 (by decide) (htg _ k_228) (fun _ h9 => h9) rfl d_P_wordAt_8 ?_
      refine lv_ifnonnullN hx hb d_P_wordAt_11 ?_
      refine lv_aload_n hx hb d_P_wordAt_14 rfl (lv_at hl 0 rfl) ?_
      refine mw_get (C := R_P) (T := T_P) (N := 5) (ci := ciP) (v := .long ew) hx hb htg i_P hown hK hP f1 rfl 2 (by decide) (htg _ k_230) (fun _ h9 => h9) rfl d_P_wordAt_15 ?_
      refine lv_goto (tgt := 27) hx hb d_P_wordAt_18 (by decide) ?_
      have hpost : ew = Wd k := by
        rcases g2 with z | z
        · first | exact absurd z c4 | exact absurd rfl (g4 z)
        · exact (g3 z k hk).symm
      exact W.lret (v := ew) hx hb hr (fun t ht hW => ⟨⟨_, (), rfl, hpost, hP.at ht⟩, hS.F ht⟩) hS.2.2 d_P_wordAt_27
  · have f1 : w pa = some (.inr (ciP, [.ref wa, .int ev, .long ew, .int nz, .long tw])) := g1
    obtain ⟨f, q1, q2⟩ := g5 wa rfl
    refine lv_aload_n hx hb d_P_wordAt_0 rfl (lv_at hl 0 rfl) ?_
    refine mw_get (C := R_P) (T := T_P) (N := 5) (ci := ciP) (v := .int ev) hx hb htg i_P hown hK hP f1 rfl 1 (by decide) (htg _ k_229) (fun _ h9 => h9) rfl d_P_wordAt_1 ?_
    refine lv_if_ne (tgt := 14) hx hb d_P_wordAt_4 (by decide) (fun c4 => ?_) (fun c4 => ?_)
    · refine lv_aload_n hx hb d_P_wordAt_14 rfl (lv_at hl 0 rfl) ?_
      refine mw_get (C := R_P) (T := T_P) (N := 5) (ci := ciP) (v := .long ew) hx hb htg i_P hown hK hP f1 rfl 2 (by decide) (htg _ k_230) (fun _ h9 => h9) rfl d_P_wordAt_15 ?_
      refine lv_goto (tgt := 27) hx hb d_P_wordAt_18 (by decide) ?_
      have hpost : ew = Wd k := by
        rcases g2 with z | z
        · first | exact absurd z c4 | exact absurd rfl (g4 z)
        · exact (g3 z k hk).symm
      exact W.lret (v := ew) hx hb hr (fun t ht hW => ⟨⟨_, (), rfl, hpost, hP.at ht⟩, hS.F ht⟩) hS.2.2 d_P_wordAt_27
    · refine lv_aload_n hx hb d_P_wordAt_7 rfl (lv_at hl 0 rfl) ?_
      refine mw_get (C := R_P) (T := T_P) (N := 5) (ci := ciP) (v := .ref wa) hx hb htg i_P hown hK hP f1 rfl 0 (by decide) (htg _ k_228) (fun _ h9 => h9) rfl d_P_wordAt_8 ?_
      refine lv_ifnonnull (tgt := 21) hx hb d_P_wordAt_11 (by decide) ?_
      refine lv_aload_n hx hb d_P_wordAt_21 rfl (lv_at hl 0 rfl) ?_
      refine mw_get (C := R_P) (T := T_P) (N := 5) (ci := ciP) (v := .ref wa) hx hb htg i_P hown hK hP f1 rfl 0 (by decide) (htg _ k_228) (fun _ h9 => h9) rfl d_P_wordAt_22 ?_
      refine lv_iload_n hx hb d_P_wordAt_25 rfl (lv_at hl 1 rfl) ?_
      refine mw_lald hx hb hK hP 0 q1 rfl (vp_in_nI hk (by omega)) d_P_wordAt_26 ?_
      rw [show (nI k).toNatClampNeg = k from nI_clamp (by omega)]
      have hpost : f k = Wd k := q2 c4 k hk
      exact W.lret (v := f k) hx hb hr (fun t ht hW => ⟨⟨_, (), rfl, hpost, hP.at ht⟩, hS.F ht⟩) hS.2.2 d_P_wordAt_27
