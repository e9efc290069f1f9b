theorem en_w {n : Nat} (h : n ≤ 1024) : (2147483648 : Int64) + (nI n).toInt64 * 4096 = lN (2147483648 + 4096 * n) := by
  rw [nI_l (by omega)]
  show lN 2147483648 + lN n * lN 4096 = _
  rw [lN_mul, lN_add, Nat.mul_comm]
/-- where size bytes at an address lie in a memory of n pages: the first one's place -/
abbrev inM (x : Int64) (n k a : Nat) : Prop := x = lN (2147483648 + a) ∧ a + k ≤ 4096 * n
theorem inM_of {x : Int64} {n k : Nat} (hn : n ≤ 1024) (hn1 : 1 ≤ n) (hk : k ≤ 8) (h1 : ¬ x < 2147483648) (h2 : ¬ lN (2147483648 + 4096 * n) - (nI k).toInt64 < x) : ∃ a, inM x n k a := by
  obtain ⟨m, hm, rfl⟩ := pk_lOf (fun z => h1 (Int64.lt_of_lt_of_le z (by decide)))
  rw [nI_l (by omega), lN_sub (by omega)] at h2
  have e1 : ¬ m < 2147483648 := fun z => h1 ((pk_lLT (b := 2147483648) hm (by omega)).mpr z)
  have e2 : ¬ 2147483648 + 4096 * n - k < m := fun z => h2 ((pk_lLT (by omega) hm).mpr z)
  exact ⟨m - 2147483648, by rw [show 2147483648 + (m - 2147483648) = m by omega], by omega⟩
theorem inM_lo {x : Int64} {n k a : Nat} (hn : n ≤ 1024) (h : inM x n k a) : ¬ x < 2147483648 := by
  obtain ⟨rfl, h⟩ := h
  exact fun z => by
    have := (pk_lLT (a := 2147483648 + a) (b := 2147483648) (by omega) (by omega)).mp z
    omega
theorem inM_hi {x : Int64} {n k a : Nat} (hn : n ≤ 1024) (hk : k ≤ 8) (hn1 : 1 ≤ n) (h : inM x n k a) : ¬ lN (2147483648 + 4096 * n) - (nI k).toInt64 < x := by
  obtain ⟨rfl, h⟩ := h
  rw [nI_l (by omega), lN_sub (by omega)]
  exact fun z => by
    have := (pk_lLT (by omega) (by omega)).mp z
    omega
theorem ish (k s : Nat) (hs : s < 32) (h : k < 2 ^ 31) : nI k >>> (nI s &&& 31) = nI (k / 2 ^ s) := pk_shrN h _ s ((by decide +kernel : ∀ s, s < 32 → ((nI s &&& 31).toBitVec.smod 32).toNat = s) s hs)
theorem pup_merge (M : Nat → Int64) (k : Nat) (x : Int64) : pup M (k / 512) (va_up (fun j => M (512 * (k / 512) + j)) (k % 512) x) = va_up M k x := by
  funext q
  unfold pup
  by_cases h : q / 512 = k / 512
  · rw [if_pos h]
    by_cases h2 : q = k
    · rw [h2, va_up_self, va_up_self]
    · rw [va_up_ne _ _ h2, va_up_ne _ _ (by omega)]
      show M (512 * (k / 512) + q % 512) = M q
      rw [show 512 * (k / 512) + q % 512 = q by omega]
  · rw [if_neg h, va_up_ne _ _ (fun z => h (by rw [z]))]
theorem va_up_id {α : Type} (f : Nat → α) (k : Nat) : va_up f k (f k) = f := by
  funext q
  by_cases h : q = k
  · rw [h, va_up_self]
  · rw [va_up_ne _ _ h]
set_option maxHeartbeats 4000000 in
set_option maxRecDepth 100000 in
theorem t_S_pages (l : Launch) (D : va_G) (cJ cI cP : ClassId) (bs : Nat) (w : Nat → Option va_E) (h n : Nat) (M T : Nat → Int64) (ra : Nat → Int64) (rs : Nat → Int32) (aT aA aS : Nat) (pt : Nat → Option Nat) (hs : sm cJ cI cP w h n M T ra rs aT aA aS pt) : Met l y_S_pages ws_S_pages ({ frames := 0, cells := 0, slots := 0, locals := 0 }) (mPc D vwCl (mT cJ cI cP) bs w [.ref h]) (va_Qi (S := Unit) (fun r _ => r = nI n) (mB D vwCl bs (fun _ => w)) (mA bs)) 0 0 (mA bs) := by
  refine Met.ofW (cc := c_S_pages) (maxL := 1) (ret := (some .int)) (by decide) rfl ?_
  intro p e s m args below meth c s₁ B hml hv
  obtain ⟨rfl, hbs, hP, hK⟩ := hv
  have hx := B.exec
  have hb := B.bytes
  have hr := B.returns
  have htg : ∀ w ∈ gt, w.before _ s = true := fun w h => atoms_spec (ws := ws_S_pages) B.pre w (List.mem_cons_of_mem _ h)
  have hown : s.vm.findClass R_S = some m.cls := findClass_of_methodNamed B.named
  have hlocks := B.notSynchronized
  have hS : va_S (mA bs) s.heap s.heap [] := va_S.rf
  have hl := lv_entry ([.ref h]) (n := 1) (Nat.le_of_ble_eq_true rfl)
  rw [lg_entry_eq]
  generalize (lg_sl ([.ref h]) ++ List.replicate (1 - (lg_sl ([.ref h])).length) Slot.unset).toArray = ls at hl ⊢
  have hl : lv_has ls 1 [(0, .ref h)] := hl
  obtain ⟨hn, s1, s2, s3, s4, s5, s6, s7⟩ := id hs
  have f1 : w h = some (.inr (ciS, [.int (nI n), .ref aT, .ref aA, .ref aS])) := s1
  refine lv_aload_n hx hb d_S_pages_0 rfl (lv_at hl 0 rfl) ?_
  refine mw_get (C := R_S) (T := T_S) (N := 4) (ci := ciS) (v := .int (nI n)) hx hb htg i_S hown hK hP f1 rfl 0 (by decide) (htg _ k_46) (fun _ h9 => h9) rfl d_S_pages_1 ?_
  exact W.iret (v := nI n) hx hb hr (fun t ht hW => ⟨⟨_, (), rfl, rfl, hP.at ht⟩, hS.F ht⟩) hS.2.2 d_S_pages_4
set_option maxHeartbeats 4000000 in
set_option maxRecDepth 100000 in
theorem t_S_endAddress (l : Launch) (D : va_G) (cJ cI cP : ClassId) (bs : Nat) (w : Nat → Option va_E) (h n : Nat) (M T : Nat → Int64) (ra : Nat → Int64) (rs : Nat → Int32) (aT aA aS : Nat) (pt : Nat → Option Nat) (hs : sm cJ cI cP w h n M T ra rs aT aA aS pt) : Met l y_S_endAddress ws_S_endAddress ({ frames := 0, cells := 0, slots := 0, locals := 0 }) (mPc D vwCl (mT cJ cI cP) bs w [.ref h]) (va_Ql (S := Unit) (fun r _ => r = lN (2147483648 + 4096 * n)) (mB D vwCl bs (fun _ => w)) (mA bs)) 0 0 (mA bs) := by
  refine Met.ofW (cc := c_S_endAddress) (maxL := 1) (ret := (some .long)) (by decide) rfl ?_
  intro p e s m args below meth c s₁ B hml hv
  obtain ⟨rfl, hbs, hP, hK⟩ := hv
  have hx := B.exec
  have hb := B.bytes
  have hr := B.returns
  have htg : ∀ w ∈ gt, w.before _ s = true := fun w h => atoms_spec (ws := ws_S_endAddress) B.pre w (List.mem_cons_of_mem _ h)
  have hown : s.vm.findClass R_S = some m.cls := findClass_of_methodNamed B.named
  have hlocks := B.notSynchronized
  have hS : va_S (mA bs) s.heap s.heap [] := va_S.rf
  have hl := lv_entry ([.ref h]) (n := 1) (Nat.le_of_ble_eq_true rfl)
  rw [lg_entry_eq]
  generalize (lg_sl ([.ref h]) ++ List.replicate (1 - (lg_sl ([.ref h])).length) Slot.unset).toArray = ls at hl ⊢
  have hl : lv_has ls 1 [(0, .ref h)] := hl
  obtain ⟨hn, s1, s2, s3, s4, s5, s6, s7⟩ := id hs
  have f1 : w h = some (.inr (ciS, [.int (nI n), .ref aT, .ref aA, .ref aS])) := s1
  refine lv_ldc2 (own := R_S) (v := 2147483648) hx hb hown (htg _ k_160) d_S_endAddress_0 ?_
  refine lv_aload_n hx hb d_S_endAddress_3 rfl (lv_at hl 0 rfl) ?_
  refine mw_get (C := R_S) (T := T_S) (N := 4) (ci := ciS) (v := .int (nI n)) hx hb htg i_S hown hK hP f1 rfl 0 (by decide) (htg _ k_46) (fun _ h9 => h9) rfl d_S_endAddress_4 ?_
  refine lv_i2l hx hb d_S_endAddress_7 rfl ?_
  refine lv_ldc2 (own := R_S) (v := 4096) hx hb hown (htg _ k_165) d_S_endAddress_8 ?_
  refine lv_lmul hx hb d_S_endAddress_11 ?_
  refine lv_ladd hx hb d_S_endAddress_12 ?_
  exact W.lret (v := 2147483648 + (((nI n).toInt64) * 4096)) hx hb hr (fun t ht hW => ⟨⟨_, (), rfl, en_w hn.2, hP.at ht⟩, hS.F ht⟩) hS.2.2 d_S_endAddress_13
set_option maxHeartbeats 4000000 in
set_option maxRecDepth 100000 in
theorem t_S_isInMemory (l : Launch) (D : va_G) (cJ cI cP : ClassId) (bs : Nat) (w : Nat → Option va_E) (h n : Nat) (M T : Nat → Int64) (ra : Nat → Int64) (rs : Nat → Int32) (aT aA aS : Nat) (pt : Nat → Option Nat) (hs : sm cJ cI cP w h n M T ra rs aT aA aS pt) (x : Int64) (k : Nat) (hk : k ≤ 8) : Met l y_S_isInMemory ws_S_isInMemory ({ frames := 1, cells := 0, slots := 0, locals := 20 }) (mPc D vwCl (mT cJ cI cP) bs w [.ref h, .long x, .int (nI k)]) (va_Qi (S := Unit) (fun r _ => (r = 1 ∧ ∃ a, inM x n k a) ∨ (r = 0 ∧ ¬ ∃ a, inM x n k a)) (mB D vwCl bs (fun _ => w)) (mA bs)) 0 0 (mA bs) := by
  refine Met.ofW (cc := c_S_isInMemory) (maxL := 4) (ret := (some .boolean)) (by decide) rfl ?_
  intro p e s m args below meth c s₁ B hml hv
  obtain ⟨rfl, hbs, hP, hK⟩ := hv
  have hx := B.exec
  have hb := B.bytes
  have hr := B.returns
  have htg : ∀ w ∈ gt, w.before _ s = true := fun w h => atoms_spec (ws := ws_S_isInMemory) B.pre w (List.mem_cons_of_mem _ h)
  have hown : s.vm.findClass R_S = some m.cls := findClass_of_methodNamed B.named
  have hlocks := B.notSynchronized
  have hS : va_S (mA bs) s.heap s.heap [] := va_S.rf
  have hl := lv_entry ([.ref h, .long x, .int (nI k)]) (n := 4) (Nat.le_of_ble_eq_true rfl)
  rw [lg_entry_eq]
  generalize (lg_sl ([.ref h, .long x, .int (nI k)]) ++ List.replicate (4 - (lg_sl ([.ref h, .long x, .int (nI k)])).length) Slot.unset).toArray = ls at hl ⊢
  have hl : lv_has ls 4 [(0, .ref h), (1, .long x), (3, .int (nI k))] := hl
  obtain ⟨hn, s1, s2, s3, s4, s5, s6, s7⟩ := id hs
  have f1 : w h = some (.inr (ciS, [.int (nI n), .ref aT, .ref aA, .ref aS])) := s1
  refine lv_lload_n hx hb d_S_isInMemory_0 rfl (lv_at hl 1 rfl) ?_
  refine lv_ldc2 (own := R_S) (v := 2147483648) hx hb hown (htg _ k_160) d_S_isInMemory_1 ?_
  refine lc_lt (tgt := 24) hx hb d_S_isInMemory_4 d_S_isInMemory_5 (by decide) (fun c4 => ?_) (fun c4 => ?_)
  · refine lv_iconst (v := 0) hx hb d_S_isInMemory_24 (by decide) ?_
    exact W.zret (v := 0) hx hb hr rfl (fun t ht hW => ⟨⟨_, (), rfl, Or.inr ⟨rfl, fun ⟨a, ha⟩ => by first | exact inM_hi hn.2 hk hn.1 ha c16 | exact inM_lo hn.2 ha c4⟩, hP.at ht⟩, hS.F ht⟩) hS.2.2 d_S_isInMemory_25
  · refine lv_lload_n hx hb d_S_isInMemory_8 rfl (lv_at hl 1 rfl) ?_
    refine lv_aload_n hx hb d_S_isInMemory_9 rfl (lv_at hl 0 rfl) ?_
    refine mc_l (va_runV (As := []) (rest := [.long x]) ⟨hx, hb, hml, hown, htg⟩ (t_S_endAddress l D cJ cI cP bs w h n M T ra rs aT aA aS pt hs) (cwV (own := R_S) (C := R_S) 0 htg (ginV k_161 k_163 k_2 k_25 k_164) rfl rfl rfl (by decide +kernel) ⟨Nat.le_of_ble_eq_true rfl, Nat.le_of_ble_eq_true rfl⟩) (mPc.preV (ci := ciS) (q := (R_S, T_S, 4)) hbs hS hP hK rfl f1) rfl rfl hl.1 rfl (lv_room (Nat.le_of_ble_eq_true rfl)) d_S_isInMemory_10 ⟨Nat.le_of_ble_eq_true rfl, Nat.le_of_ble_eq_true rfl⟩) hS (fun r10 u10 H locs hw hP hz10 hS => ?_)
    subst hw
    refine lv_iload_n hx hb d_S_isInMemory_13 rfl (lv_at hl 2 rfl) ?_
    refine lv_i2l hx hb d_S_isInMemory_14 rfl ?_
    refine lv_lsub hx hb d_S_isInMemory_15 ?_
    refine lc_gt (tgt := 24) hx hb d_S_isInMemory_16 d_S_isInMemory_17 (by decide) (fun c16 => ?_) (fun c16 => ?_)
    · refine lv_iconst (v := 0) hx hb d_S_isInMemory_24 (by decide) ?_
      exact W.zret (v := 0) hx hb hr rfl (fun t ht hW => ⟨⟨_, (), rfl, Or.inr ⟨rfl, fun ⟨a, ha⟩ => by first | exact inM_hi hn.2 hk hn.1 ha c16 | exact inM_lo hn.2 ha c4⟩, hP.at ht⟩, hS.F ht⟩) hS.2.2 d_S_isInMemory_25
    · refine lv_iconst (v := 1) hx hb d_S_isInMemory_20 (by decide) ?_
      refine lv_goto (tgt := 25) hx hb d_S_isInMemory_21 (by decide) ?_
      exact W.zret (v := 1) hx hb hr rfl (fun t ht hW => ⟨⟨_, (), rfl, Or.inl ⟨rfl, inM_of hn.2 hn.1 hk c4 c16⟩, hP.at ht⟩, hS.F ht⟩) hS.2.2 d_S_isInMemory_25
set_option maxHeartbeats 4000000 in
set_option maxRecDepth 100000 in
theorem t_S_isPage (l : Launch) (D : va_G) (cJ cI cP : ClassId) (bs : Nat) (w : Nat → Option va_E) (h n : Nat) (M T : Nat → Int64) (ra : Nat → Int64) (rs : Nat → Int32) (aT aA aS : Nat) (pt : Nat → Option Nat) (hs : sm cJ cI cP w h n M T ra rs aT aA aS pt) (x : Int32) : Met l y_S_isPage ws_S_isPage ({ frames := 0, cells := 0, slots := 0, locals := 0 }) (mPc D vwCl (mT cJ cI cP) bs w [.ref h, .int x]) (va_Qi (S := Unit) (fun r _ => (r = 1 ∧ ∃ i, i < n ∧ x = nI i) ∨ (r = 0 ∧ ¬ ∃ i, i < n ∧ x = nI i)) (mB D vwCl bs (fun _ => w)) (mA bs)) 0 0 (mA bs) := by
  refine Met.ofW (cc := c_S_isPage) (maxL := 2) (ret := (some .boolean)) (by decide) rfl ?_
  intro p e s m args below meth c s₁ B hml hv
  obtain ⟨rfl, hbs, hP, hK⟩ := hv
  have hx := B.exec
  have hb := B.bytes
  have hr := B.returns
  have htg : ∀ w ∈ gt, w.before _ s = true := fun w h => atoms_spec (ws := ws_S_isPage) B.pre w (List.mem_cons_of_mem _ h)
  have hown : s.vm.findClass R_S = some m.cls := findClass_of_methodNamed B.named
  have hlocks := B.notSynchronized
  have hS : va_S (mA bs) s.heap s.heap [] := va_S.rf
  have hl := lv_entry ([.ref h, .int x]) (n := 2) (Nat.le_of_ble_eq_true rfl)
  rw [lg_entry_eq]
  generalize (lg_sl ([.ref h, .int x]) ++ List.replicate (2 - (lg_sl ([.ref h, .int x])).length) Slot.unset).toArray = ls at hl ⊢
  have hl : lv_has ls 2 [(0, .ref h), (1, .int x)] := hl
  obtain ⟨hn, s1, s2, s3, s4, s5, s6, s7⟩ := id hs
  have f1 : w h = some (.inr (ciS, [.int (nI n), .ref aT, .ref aA, .ref aS])) := s1
  refine lv_iload_n hx hb d_S_isPage_0 rfl (lv_at hl 1 rfl) ?_
  refine lv_if_lt (tgt := 16) hx hb d_S_isPage_1 (by decide) (fun c1 => ?_) (fun c1 => ?_)
  · refine lv_iconst (v := 0) hx hb d_S_isPage_16 (by decide) ?_
    have hres : ¬ ∃ i, i < n ∧ x = nI i := by
      rintro ⟨i, hi, rfl⟩
      first | exact nI_pos (by omega) c1 | exact nI_ge hi (by omega) (by assumption)
    exact W.zret (v := 0) hx hb hr rfl (fun t ht hW => ⟨⟨_, (), rfl, Or.inr ⟨rfl, hres⟩, hP.at ht⟩, hS.F ht⟩) hS.2.2 d_S_isPage_17
  · refine lv_iload_n hx hb d_S_isPage_4 rfl (lv_at hl 1 rfl) ?_
    refine lv_aload_n hx hb d_S_isPage_5 rfl (lv_at hl 0 rfl) ?_
    refine mw_get (C := R_S) (T := T_S) (N := 4) (ci := ciS) (v := .int (nI n)) hx hb htg i_S hown hK hP f1 rfl 0 (by decide) (htg _ k_46) (fun _ h9 => h9) rfl d_S_isPage_6 ?_
    refine lv_icmp_ge (tgt := 16) hx hb d_S_isPage_9 (by decide) (fun c9 => ?_) (fun c9 => ?_)
    · refine lv_iconst (v := 0) hx hb d_S_isPage_16 (by decide) ?_
      have hres : ¬ ∃ i, i < n ∧ x = nI i := by
        rintro ⟨i, hi, rfl⟩
        first | exact nI_pos (by omega) c1 | exact nI_ge hi (by omega) (by assumption)
      exact W.zret (v := 0) hx hb hr rfl (fun t ht hW => ⟨⟨_, (), rfl, Or.inr ⟨rfl, hres⟩, hP.at ht⟩, hS.F ht⟩) hS.2.2 d_S_isPage_17
    · refine lv_iconst (v := 1) hx hb d_S_isPage_12 (by decide) ?_
      refine lv_goto (tgt := 17) hx hb d_S_isPage_13 (by decide) ?_
      have hres : ∃ i, i < n ∧ x = nI i := by
        rcases pk_ix x (n := n) (by omega) with z | z | z
        · exact absurd z c1
        · exact absurd z (by assumption)
        · exact z
      exact W.zret (v := 1) hx hb hr rfl (fun t ht hW => ⟨⟨_, (), rfl, Or.inl ⟨rfl, hres⟩, hP.at ht⟩, hS.F ht⟩) hS.2.2 d_S_isPage_17
set_option maxHeartbeats 4000000 in
set_option maxRecDepth 100000 in
theorem t_S_wordAt (l : Launch) (D : va_G) (cJ cI cP : ClassId) (bs : Nat) (w : Nat → Option va_E) (h n : Nat) (M T : Nat → Int64) (ra : Nat → Int64) (rs : Nat → Int32) (aT aA aS : Nat) (pt : Nat → Option Nat) (hs : sm cJ cI cP w h n M T ra rs aT aA aS pt) (k : Nat) (hk : k < 512 * n) : Met l y_S_wordAt ws_S_wordAt ({ frames := 1, cells := 0, slots := 0, locals := 21 }) (mPc D vwCl (mT cJ cI cP) bs w [.ref h, .int (nI k)]) (va_Ql (S := Unit) (fun r _ => r = M k) (mB D vwCl bs (fun _ => w)) (mA bs)) 0 0 (mA bs) := by
  refine Met.ofW (cc := c_S_wordAt) (maxL := 3) (ret := (some .long)) (by decide) rfl ?_
  intro p e s m args below meth c s₁ B hml hv
  obtain ⟨rfl, hbs, hP, hK⟩ := hv
  have hx := B.exec
  have hb := B.bytes
  have hr := B.returns
  have htg : ∀ w ∈ gt, w.before _ s = true := fun w h => atoms_spec (ws := ws_S_wordAt) B.pre w (List.mem_cons_of_mem _ h)
  have hown : s.vm.findClass R_S = some m.cls := findClass_of_methodNamed B.named
  have hlocks := B.notSynchronized
  have hS : va_S (mA bs) s.heap s.heap [] := va_S.rf
  have hl := lv_entry ([.ref h, .int (nI k)]) (n := 3) (Nat.le_of_ble_eq_true rfl)
  rw [lg_entry_eq]
  generalize (lg_sl ([.ref h, .int (nI k)]) ++ List.replicate (3 - (lg_sl ([.ref h, .int (nI k)])).length) Slot.unset).toArray = ls at hl ⊢
  have hl : lv_has ls 3 [(0, .ref h), (1, .int (nI k))] := hl
  obtain ⟨hn, s1, s2, s3, s4, s5, s6, s7⟩ := id hs
  have f1 : w h = some (.inr (ciS, [.int (nI n), .ref aT, .ref aA, .ref aS])) := s1
  have hi : k / 512 < n := by omega
  refine lv_aload_n hx hb d_S_wordAt_0 rfl (lv_at hl 0 rfl) ?_
  refine mw_get (C := R_S) (T := T_S) (N := 4) (ci := ciS) (v := .ref aT) hx hb htg i_S hown hK hP f1 rfl 1 (by decide) (htg _ k_47) (fun _ h9 => h9) rfl d_S_wordAt_1 ?_
  refine lv_iload_n hx hb d_S_wordAt_4 rfl (lv_at hl 1 rfl) ?_
  refine lv_bipush (v := 9) hx hb d_S_wordAt_5 (by decide) ?_
  refine lv_ishr hx hb d_S_wordAt_7 ?_
  rw [show (nI k) >>> (9 &&& 31) = nI (k / 512) from ish k 9 (by omega) (by omega)]
  refine mw_aldq hx hb hK hP 2 s2 rfl (vp_in_nI hi (by omega)) d_S_wordAt_8 ?_
  rw [show (nI (k / 512)).toNatClampNeg = k / 512 from nI_clamp (by omega)]
  rcases hpt : pt (k / 512) with _ | pz
  · refine lv_astore_nN (lv' := [(2, .null), (0, .ref h), (1, .int (nI k))]) hx hb d_S_wordAt_9 rfl hl (by decide) rfl (fun ls hl => ?_)
    refine lv_aload_nN hx hb d_S_wordAt_10 rfl (lv_at hl 0 rfl) ?_
    refine lv_ifnonnullN hx hb d_S_wordAt_11 ?_
    refine lv_lconst (v := 0) hx hb d_S_wordAt_14 rfl ?_
    refine lv_goto (tgt := 27) hx hb d_S_wordAt_15 (by decide) ?_
    exact W.lret (v := 0) hx hb hr (fun t ht hW => ⟨⟨_, (), rfl, ((s5 (k / 512) hi hpt).2 (k % 512) (Nat.mod_lt _ (by decide))).symm.trans (by rw [show 512 * (k / 512) + k % 512 = k by omega]), hP.at ht⟩, hS.F ht⟩) hS.2.2 d_S_wordAt_27
  · obtain ⟨wr, ev, ew, y1, y2⟩ := s6 (k / 512) pz hi hpt
    refine lv_astore_n (lv' := [(2, .ref pz), (0, .ref h), (1, .int (nI k))]) hx hb d_S_wordAt_9 rfl hl (by decide) rfl (fun ls hl => ?_)
    refine lv_aload_n hx hb d_S_wordAt_10 rfl (lv_at hl 0 rfl) ?_
    refine lv_ifnonnull (tgt := 18) hx hb d_S_wordAt_11 (by decide) ?_
    refine lv_aload_n hx hb d_S_wordAt_18 rfl (lv_at hl 0 rfl) ?_
    refine lv_iload_n hx hb d_S_wordAt_19 rfl (lv_at hl 2 rfl) ?_
    refine lv_sipush (v := 511) hx hb d_S_wordAt_20 (by decide) ?_
    refine lv_iand hx hb d_S_wordAt_23 ?_
    rw [show (nI k) &&& 511 = nI (k % 512) from pk_andN (show k < 2 ^ 32 by omega) 9 (by decide)]
    refine mc_l (va_runV (As := [.int (nI (k % 512))]) (rest := []) ⟨hx, hb, hml, hown, htg⟩ (t_P_wordAt l D cJ cI cP bs w pz (fun j => M (512 * (k / 512) + j)) (T (k / 512)) (s6 (k / 512) pz hi hpt) (k % 512) (Nat.mod_lt _ (by decide))) (cwV (own := R_S) (C := R_P) 1 htg (ginV k_196 k_197 k_198 k_32 k_199) rfl rfl rfl (by decide +kernel) ⟨Nat.le_of_ble_eq_true rfl, Nat.le_of_ble_eq_true rfl⟩) (mPc.preV (ci := ciP) (q := (R_P, T_P, 5)) hbs hS hP hK rfl y1) rfl rfl hl.1 rfl (lv_room (Nat.le_of_ble_eq_true rfl)) d_S_wordAt_24 ⟨Nat.le_of_ble_eq_true rfl, Nat.le_of_ble_eq_true rfl⟩) hS (fun r24 u24 H locs hw hP hz24 hS => ?_)
    exact W.lret (v := r24) hx hb hr (fun t ht hW => ⟨⟨_, (), rfl, by rw [hw]; show M (512 * (k / 512) + k % 512) = M k; rw [show 512 * (k / 512) + k % 512 = k by omega], hP.at ht⟩, hS.F ht⟩) hS.2.2 d_S_wordAt_27
