theorem sh_w {a : Nat} (h : a < 2 ^ 31) : (nI a &&& 7) * 8 = nI (8 * (a % 8)) := by
  rw [pk_andN (show a < 2 ^ 32 by omega) 3 (by decide)]
  show nI (a % 2 ^ 3) * nI 8 = _
  rw [pk_mul, Nat.mul_comm]
theorem lw_w {n : Nat} (h8 : n ≤ 8) : (64 : Int32) - 8 * nI n = nI (64 - 8 * n) := by
  show nI 64 - nI 8 * nI n = _
  rw [pk_mul, pk_sub (by omega)]
theorem pl_w (a : Nat) : (lN (2147483648 + a) - 2147483648).toInt32 = nI a := by
  show (lN (2147483648 + a) - lN 2147483648).toInt32 = _
  rw [lN_sub (by omega), lN_i, Nat.add_sub_cancel_left]
set_option maxHeartbeats 4000000 in
set_option maxRecDepth 100000 in
theorem t_S_shiftInWord (l : Launch) (D : va_G) (cJ cI cP : ClassId) (bs : Nat) (w : Nat → Option va_E) (a : Nat) (ha : a < 2 ^ 31) : Met l y_S_shiftInWord ws_S_shiftInWord ({ frames := 0, cells := 0, slots := 0, locals := 0 }) (mPc D vwCl (mT cJ cI cP) bs w [.int (nI a)]) (va_Qi (S := Unit) (fun r _ => r = nI (8 * (a % 8))) (mB D vwCl bs (fun _ => w)) (mA bs)) 0 0 (mA bs) := by
  refine Met.ofW (cc := c_S_shiftInWord) (maxL := 1) (ret := (some .int)) (by decide) rfl ?_
  intro p e s m args below meth c s₁ B hml hv
  obtain ⟨rfl, hbs, hP, hK⟩ := hv
  have hx := B.exec
  have hb := B.bytes
  have hr := B.returns
  have htg : ∀ w ∈ gt, w.before _ s = true := fun w h => atoms_spec (ws := ws_S_shiftInWord) B.pre w (List.mem_cons_of_mem _ h)
  have hown : s.vm.findClass R_S = some m.cls := findClass_of_methodNamed B.named
  have hlocks := B.notSynchronized
  have hS : va_S (mA bs) s.heap s.heap [] := va_S.rf
  have hl := lv_entry ([.int (nI a)]) (n := 1) (Nat.le_of_ble_eq_true rfl)
  rw [lg_entry_eq]
  generalize (lg_sl ([.int (nI a)]) ++ List.replicate (1 - (lg_sl ([.int (nI a)])).length) Slot.unset).toArray = ls at hl ⊢
  have hl : lv_has ls 1 [(0, .int (nI a))] := hl
  refine lv_iload_n hx hb d_S_shiftInWord_0 rfl (lv_at hl 0 rfl) ?_
  refine lv_bipush (v := 7) hx hb d_S_shiftInWord_1 (by decide) ?_
  refine lv_iand hx hb d_S_shiftInWord_3 ?_
  refine lv_bipush (v := 8) hx hb d_S_shiftInWord_4 (by decide) ?_
  refine lv_imul hx hb d_S_shiftInWord_6 ?_
  exact W.iret (v := ((nI a) &&& 7) * 8) hx hb hr (fun t ht hW => ⟨⟨_, (), rfl, sh_w ha, hP.at ht⟩, hS.F ht⟩) hS.2.2 d_S_shiftInWord_7
set_option maxHeartbeats 4000000 in
set_option maxRecDepth 100000 in
theorem t_S_lowestBytes (l : Launch) (D : va_G) (cJ cI cP : ClassId) (bs : Nat) (w : Nat → Option va_E) (n : Nat) (h8 : n ≤ 8) : Met l y_S_lowestBytes ws_S_lowestBytes ({ frames := 0, cells := 0, slots := 0, locals := 0 }) (mPc D vwCl (mT cJ cI cP) bs w [.int (nI n)]) (va_Ql (S := Unit) (fun r _ => r = lowB n) (mB D vwCl bs (fun _ => w)) (mA bs)) 0 0 (mA bs) := by
  refine Met.ofW (cc := c_S_lowestBytes) (maxL := 1) (ret := (some .long)) (by decide) rfl ?_
  intro p e s m args below meth c s₁ B hml hv
  obtain ⟨rfl, hbs, hP, hK⟩ := hv
  have hx := B.exec
  have hb := B.bytes
  have hr := B.returns
  have htg : ∀ w ∈ gt, w.before _ s = true := fun w h => atoms_spec (ws := ws_S_lowestBytes) B.pre w (List.mem_cons_of_mem _ h)
  have hown : s.vm.findClass R_S = some m.cls := findClass_of_methodNamed B.named
  have hlocks := B.notSynchronized
  have hS : va_S (mA bs) s.heap s.heap [] := va_S.rf
  have hl := lv_entry ([.int (nI n)]) (n := 1) (Nat.le_of_ble_eq_true rfl)
  rw [lg_entry_eq]
  generalize (lg_sl ([.int (nI n)]) ++ List.replicate (1 - (lg_sl ([.int (nI n)])).length) Slot.unset).toArray = ls at hl ⊢
  have hl : lv_has ls 1 [(0, .int (nI n))] := hl
  refine lv_ldc2 (own := R_S) (v := (-1)) hx hb hown (htg _ k_203) d_S_lowestBytes_0 ?_
  refine lv_bipush (v := 64) hx hb d_S_lowestBytes_3 (by decide) ?_
  refine lv_bipush (v := 8) hx hb d_S_lowestBytes_5 (by decide) ?_
  refine lv_iload_n hx hb d_S_lowestBytes_7 rfl (lv_at hl 0 rfl) ?_
  refine lv_imul hx hb d_S_lowestBytes_8 ?_
  refine lv_isub hx hb d_S_lowestBytes_9 ?_
  refine lv_lushr hx hb d_S_lowestBytes_10 rfl ?_
  refine lv_topl (fun x_1 ex_1 => ?_)
  exact W.lret (v := x_1) hx hb hr (fun t ht hW => ⟨⟨_, (), rfl, by rw [ex_1, lw_w h8]; rfl, hP.at ht⟩, hS.F ht⟩) hS.2.2 d_S_lowestBytes_11
set_option maxHeartbeats 4000000 in
set_option maxRecDepth 100000 in
theorem t_S_placeOf (l : Launch) (D : va_G) (cJ cI cP : ClassId) (bs : Nat) (w : Nat → Option va_E) (a : Nat) : Met l y_S_placeOf ws_S_placeOf ({ frames := 0, cells := 0, slots := 0, locals := 0 }) (mPc D vwCl (mT cJ cI cP) bs w [.long (lN (2147483648 + a))]) (va_Qi (S := Unit) (fun r _ => r = nI a) (mB D vwCl bs (fun _ => w)) (mA bs)) 0 0 (mA bs) := by
  refine Met.ofW (cc := c_S_placeOf) (maxL := 2) (ret := (some .int)) (by decide) rfl ?_
  intro p e s m args below meth c s₁ B hml hv
  obtain ⟨rfl, hbs, hP, hK⟩ := hv
  have hx := B.exec
  have hb := B.bytes
  have hr := B.returns
  have htg : ∀ w ∈ gt, w.before _ s = true := fun w h => atoms_spec (ws := ws_S_placeOf) B.pre w (List.mem_cons_of_mem _ h)
  have hown : s.vm.findClass R_S = some m.cls := findClass_of_methodNamed B.named
  have hlocks := B.notSynchronized
  have hS : va_S (mA bs) s.heap s.heap [] := va_S.rf
  have hl := lv_entry ([.long (lN (2147483648 + a))]) (n := 2) (Nat.le_of_ble_eq_true rfl)
  rw [lg_entry_eq]
  generalize (lg_sl ([.long (lN (2147483648 + a))]) ++ List.replicate (2 - (lg_sl ([.long (lN (2147483648 + a))])).length) Slot.unset).toArray = ls at hl ⊢
  have hl : lv_has ls 2 [(0, .long (lN (2147483648 + a)))] := hl
  refine lv_lload_n hx hb d_S_placeOf_0 rfl (lv_at hl 0 rfl) ?_
  refine lv_ldc2 (own := R_S) (v := 2147483648) hx hb hown (htg _ k_160) d_S_placeOf_1 ?_
  refine lv_lsub hx hb d_S_placeOf_4 ?_
  refine lv_l2i hx hb d_S_placeOf_5 rfl ?_
  exact W.iret (v := ((lN (2147483648 + a)) - 2147483648).toInt32) hx hb hr (fun t ht hW => ⟨⟨_, (), rfl, pl_w a, hP.at ht⟩, hS.F ht⟩) hS.2.2 d_S_placeOf_6
set_option maxHeartbeats 4000000 in
set_option maxRecDepth 100000 in
theorem t_S_isSize (l : Launch) (D : va_G) (cJ cI cP : ClassId) (bs : Nat) (w : Nat → Option va_E) (x : Int32) : Met l y_S_isSize ws_S_isSize ({ frames := 0, cells := 0, slots := 0, locals := 0 }) (mPc D vwCl (mT cJ cI cP) bs w [.int x]) (va_Qi (S := Unit) (fun r _ => r = if x = 1 ∨ x = 2 ∨ x = 4 ∨ x = 8 then 1 else 0) (mB D vwCl bs (fun _ => w)) (mA bs)) 0 0 (mA bs) := by
  refine Met.ofW (cc := c_S_isSize) (maxL := 1) (ret := (some .boolean)) (by decide) rfl ?_
  intro p e s m args below meth c s₁ B hml hv
  obtain ⟨rfl, hbs, hP, hK⟩ := hv
  have hx := B.exec
  have hb := B.bytes
  have hr := B.returns
  have htg : ∀ w ∈ gt, w.before _ s = true := fun w h => atoms_spec (ws := ws_S_isSize) B.pre w (List.mem_cons_of_mem _ h)
  have hown : s.vm.findClass R_S = some m.cls := findClass_of_methodNamed B.named
  have hlocks := B.notSynchronized
  have hS : va_S (mA bs) s.heap s.heap [] := va_S.rf
  have hl := lv_entry ([.int x]) (n := 1) (Nat.le_of_ble_eq_true rfl)
  rw [lg_entry_eq]
  generalize (lg_sl ([.int x]) ++ List.replicate (1 - (lg_sl ([.int x])).length) Slot.unset).toArray = ls at hl ⊢
  have hl : lv_has ls 1 [(0, .int x)] := hl
  refine lv_iload_n hx hb d_S_isSize_0 rfl (lv_at hl 0 rfl) ?_
  refine lv_iconst (v := 1) hx hb d_S_isSize_1 (by decide) ?_
  refine lv_icmp_eq (tgt := 21) hx hb d_S_isSize_2 (by decide) (fun c2 => ?_) (fun c2 => ?_)
  · refine lv_iconst (v := 1) hx hb d_S_isSize_21 (by decide) ?_
    refine lv_goto (tgt := 26) hx hb d_S_isSize_22 (by decide) ?_
    exact W.zret (v := 1) hx hb hr rfl (fun t ht hW => ⟨⟨_, (), rfl, by simp [*], hP.at ht⟩, hS.F ht⟩) hS.2.2 d_S_isSize_26
  · refine lv_iload_n hx hb d_S_isSize_5 rfl (lv_at hl 0 rfl) ?_
    refine lv_iconst (v := 2) hx hb d_S_isSize_6 (by decide) ?_
    refine lv_icmp_eq (tgt := 21) hx hb d_S_isSize_7 (by decide) (fun c7 => ?_) (fun c7 => ?_)
    · refine lv_iconst (v := 1) hx hb d_S_isSize_21 (by decide) ?_
      refine lv_goto (tgt := 26) hx hb d_S_isSize_22 (by decide) ?_
      exact W.zret (v := 1) hx hb hr rfl (fun t ht hW => ⟨⟨_, (), rfl, by simp [*], hP.at ht⟩, hS.F ht⟩) hS.2.2 d_S_isSize_26
    · refine lv_iload_n hx hb d_S_isSize_10 rfl (lv_at hl 0 rfl) ?_
      refine lv_iconst (v := 4) hx hb d_S_isSize_11 (by decide) ?_
      refine lv_icmp_eq (tgt := 21) hx hb d_S_isSize_12 (by decide) (fun c12 => ?_) (fun c12 => ?_)
      · refine lv_iconst (v := 1) hx hb d_S_isSize_21 (by decide) ?_
        refine lv_goto (tgt := 26) hx hb d_S_isSize_22 (by decide) ?_
        exact W.zret (v := 1) hx hb hr rfl (fun t ht hW => ⟨⟨_, (), rfl, by simp [*], hP.at ht⟩, hS.F ht⟩) hS.2.2 d_S_isSize_26
      · refine lv_iload_n hx hb d_S_isSize_15 rfl (lv_at hl 0 rfl) ?_
        refine lv_bipush (v := 8) hx hb d_S_isSize_16 (by decide) ?_
        refine lv_icmp_ne (tgt := 25) hx hb d_S_isSize_18 (by decide) (fun c18 => ?_) (fun c18 => ?_)
        · refine lv_iconst (v := 0) hx hb d_S_isSize_25 (by decide) ?_
          exact W.zret (v := 0) hx hb hr rfl (fun t ht hW => ⟨⟨_, (), rfl, by simp [*], hP.at ht⟩, hS.F ht⟩) hS.2.2 d_S_isSize_26
        · refine lv_iconst (v := 1) hx hb d_S_isSize_21 (by decide) ?_
          refine lv_goto (tgt := 26) hx hb d_S_isSize_22 (by decide) ?_
          exact W.zret (v := 1) hx hb hr rfl (fun t ht hW => ⟨⟨_, (), rfl, by simp [*], hP.at ht⟩, hS.F ht⟩) hS.2.2 d_S_isSize_26
set_option maxHeartbeats 4000000 in
set_option maxRecDepth 100000 in
theorem t_S_isAtomicSize (l : Launch) (D : va_G) (cJ cI cP : ClassId) (bs : Nat) (w : Nat → Option va_E) (x : Int32) : Met l y_S_isAtomicSize ws_S_isAtomicSize ({ frames := 0, cells := 0, slots := 0, locals := 0 }) (mPc D vwCl (mT cJ cI cP) bs w [.int x]) (va_Qi (S := Unit) (fun r _ => r = if x = 4 ∨ x = 8 then 1 else 0) (mB D vwCl bs (fun _ => w)) (mA bs)) 0 0 (mA bs) := by
  refine Met.ofW (cc := c_S_isAtomicSize) (maxL := 1) (ret := (some .boolean)) (by decide) rfl ?_
  intro p e s m args below meth c s₁ B hml hv
  obtain ⟨rfl, hbs, hP, hK⟩ := hv
  have hx := B.exec
  have hb := B.bytes
  have hr := B.returns
  have htg : ∀ w ∈ gt, w.before _ s = true := fun w h => atoms_spec (ws := ws_S_isAtomicSize) B.pre w (List.mem_cons_of_mem _ h)
  have hown : s.vm.findClass R_S = some m.cls := findClass_of_methodNamed B.named
  have hlocks := B.notSynchronized
  have hS : va_S (mA bs) s.heap s.heap [] := va_S.rf
  have hl := lv_entry ([.int x]) (n := 1) (Nat.le_of_ble_eq_true rfl)
  rw [lg_entry_eq]
  generalize (lg_sl ([.int x]) ++ List.replicate (1 - (lg_sl ([.int x])).length) Slot.unset).toArray = ls at hl ⊢
  have hl : lv_has ls 1 [(0, .int x)] := hl
  refine lv_iload_n hx hb d_S_isAtomicSize_0 rfl (lv_at hl 0 rfl) ?_
  refine lv_iconst (v := 4) hx hb d_S_isAtomicSize_1 (by decide) ?_
  refine lv_icmp_eq (tgt := 11) hx hb d_S_isAtomicSize_2 (by decide) (fun c2 => ?_) (fun c2 => ?_)
  · refine lv_iconst (v := 1) hx hb d_S_isAtomicSize_11 (by decide) ?_
    refine lv_goto (tgt := 16) hx hb d_S_isAtomicSize_12 (by decide) ?_
    exact W.zret (v := 1) hx hb hr rfl (fun t ht hW => ⟨⟨_, (), rfl, by simp [*], hP.at ht⟩, hS.F ht⟩) hS.2.2 d_S_isAtomicSize_16
  · refine lv_iload_n hx hb d_S_isAtomicSize_5 rfl (lv_at hl 0 rfl) ?_
    refine lv_bipush (v := 8) hx hb d_S_isAtomicSize_6 (by decide) ?_
    refine lv_icmp_ne (tgt := 15) hx hb d_S_isAtomicSize_8 (by decide) (fun c8 => ?_) (fun c8 => ?_)
    · refine lv_iconst (v := 0) hx hb d_S_isAtomicSize_15 (by decide) ?_
      exact W.zret (v := 0) hx hb hr rfl (fun t ht hW => ⟨⟨_, (), rfl, by simp [*], hP.at ht⟩, hS.F ht⟩) hS.2.2 d_S_isAtomicSize_16
    · refine lv_iconst (v := 1) hx hb d_S_isAtomicSize_11 (by decide) ?_
      refine lv_goto (tgt := 16) hx hb d_S_isAtomicSize_12 (by decide) ?_
      exact W.zret (v := 1) hx hb hr rfl (fun t ht hW => ⟨⟨_, (), rfl, by simp [*], hP.at ht⟩, hS.F ht⟩) hS.2.2 d_S_isAtomicSize_16
set_option maxHeartbeats 4000000 in
set_option maxRecDepth 100000 in
theorem t_S_isProcessor (l : Launch) (D : va_G) (cJ cI cP : ClassId) (bs : Nat) (w : Nat → Option va_E) (x : Int32) : Met l y_S_isProcessor ws_S_isProcessor ({ frames := 0, cells := 0, slots := 0, locals := 0 }) (mPc D vwCl (mT cJ cI cP) bs w [.int x]) (va_Qi (S := Unit) (fun r _ => r = if 0 ≤ x ∧ x < 4 then 1 else 0) (mB D vwCl bs (fun _ => w)) (mA bs)) 0 0 (mA bs) := by
  refine Met.ofW (cc := c_S_isProcessor) (maxL := 1) (ret := (some .boolean)) (by decide) rfl ?_
  intro p e s m args below meth c s₁ B hml hv
  obtain ⟨rfl, hbs, hP, hK⟩ := hv
  have hx := B.exec
  have hb := B.bytes
  have hr := B.returns
  have htg : ∀ w ∈ gt, w.before _ s = true := fun w h => atoms_spec (ws := ws_S_isProcessor) B.pre w (List.mem_cons_of_mem _ h)
  have hown : s.vm.findClass R_S = some m.cls := findClass_of_methodNamed B.named
  have hlocks := B.notSynchronized
  have hS : va_S (mA bs) s.heap s.heap [] := va_S.rf
  have hl := lv_entry ([.int x]) (n := 1) (Nat.le_of_ble_eq_true rfl)
  rw [lg_entry_eq]
  generalize (lg_sl ([.int x]) ++ List.replicate (1 - (lg_sl ([.int x])).length) Slot.unset).toArray = ls at hl ⊢
  have hl : lv_has ls 1 [(0, .int x)] := hl
  refine lv_iload_n hx hb d_S_isProcessor_0 rfl (lv_at hl 0 rfl) ?_
  refine lv_if_lt (tgt := 13) hx hb d_S_isProcessor_1 (by decide) (fun c1 => ?_) (fun c1 => ?_)
  · refine lv_iconst (v := 0) hx hb d_S_isProcessor_13 (by decide) ?_
    exact W.zret (v := 0) hx hb hr rfl (fun t ht hW => ⟨⟨_, (), rfl, by rw [if_neg (fun z => by first | exact absurd z.1 (Int32.not_le.mpr (by assumption)) | exact absurd z.2 (Int32.not_lt.mpr (by assumption)) | exact absurd z.1 (by assumption) | exact absurd z.2 (by assumption))], hP.at ht⟩, hS.F ht⟩) hS.2.2 d_S_isProcessor_14
  · refine lv_iload_n hx hb d_S_isProcessor_4 rfl (lv_at hl 0 rfl) ?_
    refine lv_iconst (v := 4) hx hb d_S_isProcessor_5 (by decide) ?_
    refine lv_icmp_ge (tgt := 13) hx hb d_S_isProcessor_6 (by decide) (fun c6 => ?_) (fun c6 => ?_)
    · refine lv_iconst (v := 0) hx hb d_S_isProcessor_13 (by decide) ?_
      exact W.zret (v := 0) hx hb hr rfl (fun t ht hW => ⟨⟨_, (), rfl, by rw [if_neg (fun z => by first | exact absurd z.1 (Int32.not_le.mpr (by assumption)) | exact absurd z.2 (Int32.not_lt.mpr (by assumption)) | exact absurd z.1 (by assumption) | exact absurd z.2 (by assumption))], hP.at ht⟩, hS.F ht⟩) hS.2.2 d_S_isProcessor_14
    · refine lv_iconst (v := 1) hx hb d_S_isProcessor_9 (by decide) ?_
      refine lv_goto (tgt := 14) hx hb d_S_isProcessor_10 (by decide) ?_
      exact W.zret (v := 1) hx hb hr rfl (fun t ht hW => ⟨⟨_, (), rfl, by rw [if_pos (by first | exact ⟨by assumption, by assumption⟩ | exact ⟨Int32.not_lt.mp (by assumption), Int32.not_le.mp (by assumption)⟩)], hP.at ht⟩, hS.F ht⟩) hS.2.2 d_S_isProcessor_14
set_option maxHeartbeats 4000000 in
set_option maxRecDepth 100000 in
theorem t_S_withSign (l : Launch) (D : va_G) (cJ cI cP : ClassId) (bs : Nat) (w : Nat → Option va_E) (v : Int64) (x : Int32) : Met l y_S_withSign ws_S_withSign ({ frames := 0, cells := 0, slots := 0, locals := 0 }) (mPc D vwCl (mT cJ cI cP) bs w [.long v, .int x]) (va_Ql (S := Unit) (fun r _ => r = if x = 4 then v.toInt32.toInt64 else v) (mB D vwCl bs (fun _ => w)) (mA bs)) 0 0 (mA bs) := by
  refine Met.ofW (cc := c_S_withSign) (maxL := 3) (ret := (some .long)) (by decide) rfl ?_
  intro p e s m args below meth c s₁ B hml hv
  obtain ⟨rfl, hbs, hP, hK⟩ := hv
  have hx := B.exec
  have hb := B.bytes
  have hr := B.returns
  have htg : ∀ w ∈ gt, w.before _ s = true := fun w h => atoms_spec (ws := ws_S_withSign) B.pre w (List.mem_cons_of_mem _ h)
  have hown : s.vm.findClass R_S = some m.cls := findClass_of_methodNamed B.named
  have hlocks := B.notSynchronized
  have hS : va_S (mA bs) s.heap s.heap [] := va_S.rf
  have hl := lv_entry ([.long v, .int x]) (n := 3) (Nat.le_of_ble_eq_true rfl)
  rw [lg_entry_eq]
  generalize (lg_sl ([.long v, .int x]) ++ List.replicate (3 - (lg_sl ([.long v, .int x])).length) Slot.unset).toArray = ls at hl ⊢
  have hl : lv_has ls 3 [(0, .long v), (2, .int x)] := hl
  refine lv_iload_n hx hb d_S_withSign_0 rfl (lv_at hl 1 rfl) ?_
  refine lv_iconst (v := 4) hx hb d_S_withSign_1 (by decide) ?_
  refine lv_icmp_ne (tgt := 11) hx hb d_S_withSign_2 (by decide) (fun c2 => ?_) (fun c2 => ?_)
  · refine lv_lload_n hx hb d_S_withSign_11 rfl (lv_at hl 0 rfl) ?_
    exact W.lret (v := v) hx hb hr (fun t ht hW => ⟨⟨_, (), rfl, by first | rw [if_pos c2] | rw [if_neg c2], hP.at ht⟩, hS.F ht⟩) hS.2.2 d_S_withSign_12
  · refine lv_lload_n hx hb d_S_withSign_5 rfl (lv_at hl 0 rfl) ?_
    refine lv_l2i hx hb d_S_withSign_6 rfl ?_
    refine lv_i2l hx hb d_S_withSign_7 rfl ?_
    refine lv_goto (tgt := 12) hx hb d_S_withSign_8 (by decide) ?_
    exact W.lret (v := v.toInt32.toInt64) hx hb hr (fun t ht hW => ⟨⟨_, (), rfl, by first | rw [if_pos c2] | rw [if_neg c2], hP.at ht⟩, hS.F ht⟩) hS.2.2 d_S_withSign_12
set_option maxHeartbeats 4000000 in
set_option maxRecDepth 100000 in
theorem t_S_isLessUnsigned (l : Launch) (D : va_G) (cJ cI cP : ClassId) (bs : Nat) (w : Nat → Option va_E) (a b : Int64) : Met l y_S_isLessUnsigned ws_S_isLessUnsigned ({ frames := 0, cells := 0, slots := 0, locals := 0 }) (mPc D vwCl (mT cJ cI cP) bs w [.long a, .long b]) (va_Qi (S := Unit) (fun r _ => r = if a + (-9223372036854775808) < b + (-9223372036854775808) then 1 else 0) (mB D vwCl bs (fun _ => w)) (mA bs)) 0 0 (mA bs) := by
  refine Met.ofW (cc := c_S_isLessUnsigned) (maxL := 4) (ret := (some .boolean)) (by decide) rfl ?_
  intro p e s m args below meth c s₁ B hml hv
  obtain ⟨rfl, hbs, hP, hK⟩ := hv
  have hx := B.exec
  have hb := B.bytes
  have hr := B.returns
  have htg : ∀ w ∈ gt, w.before _ s = true := fun w h => atoms_spec (ws := ws_S_isLessUnsigned) B.pre w (List.mem_cons_of_mem _ h)
  have hown : s.vm.findClass R_S = some m.cls := findClass_of_methodNamed B.named
  have hlocks := B.notSynchronized
  have hS : va_S (mA bs) s.heap s.heap [] := va_S.rf
  have hl := lv_entry ([.long a, .long b]) (n := 4) (Nat.le_of_ble_eq_true rfl)
  rw [lg_entry_eq]
  generalize (lg_sl ([.long a, .long b]) ++ List.replicate (4 - (lg_sl ([.long a, .long b])).length) Slot.unset).toArray = ls at hl ⊢
  have hl : lv_has ls 4 [(0, .long a), (2, .long b)] := hl
  refine lv_lload_n hx hb d_S_isLessUnsigned_0 rfl (lv_at hl 0 rfl) ?_
  refine lv_ldc2 (own := R_S) (v := (-9223372036854775808)) hx hb hown (htg _ k_360) d_S_isLessUnsigned_1 ?_
  refine lv_ladd hx hb d_S_isLessUnsigned_4 ?_
  refine lv_lload_n hx hb d_S_isLessUnsigned_5 rfl (lv_at hl 1 rfl) ?_
  refine lv_ldc2 (own := R_S) (v := (-9223372036854775808)) hx hb hown (htg _ k_360) d_S_isLessUnsigned_6 ?_
  refine lv_ladd hx hb d_S_isLessUnsigned_9 ?_
  refine lc_ge (tgt := 18) hx hb d_S_isLessUnsigned_10 d_S_isLessUnsigned_11 (by decide) (fun c10 => ?_) (fun c10 => ?_)
  · refine lv_iconst (v := 0) hx hb d_S_isLessUnsigned_18 (by decide) ?_
    exact W.zret (v := 0) hx hb hr rfl (fun t ht hW => ⟨⟨_, (), rfl, by first | rw [if_pos (Int64.not_le.mp c10)] | rw [if_neg (Int64.not_lt.mpr c10)], hP.at ht⟩, hS.F ht⟩) hS.2.2 d_S_isLessUnsigned_19
  · refine lv_iconst (v := 1) hx hb d_S_isLessUnsigned_14 (by decide) ?_
    refine lv_goto (tgt := 19) hx hb d_S_isLessUnsigned_15 (by decide) ?_
    exact W.zret (v := 1) hx hb hr rfl (fun t ht hW => ⟨⟨_, (), rfl, by first | rw [if_pos (Int64.not_le.mp c10)] | rw [if_neg (Int64.not_lt.mpr c10)], hP.at ht⟩, hS.F ht⟩) hS.2.2 d_S_isLessUnsigned_19
