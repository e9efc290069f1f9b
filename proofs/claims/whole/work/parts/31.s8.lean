abbrev szK (x : Int32) : Prop := x = 1 ∨ x = 2 ∨ x = 4 ∨ x = 8
theorem szK_of {x : Int32} (h : szK x) : ∃ k, x = nI k ∧ 1 ≤ k ∧ k ≤ 8 := by
  rcases h with rfl | rfl | rfl | rfl
  · exact ⟨1, rfl, by omega, by omega⟩
  · exact ⟨2, rfl, by omega, by omega⟩
  · exact ⟨4, rfl, by omega, by omega⟩
  · exact ⟨8, rfl, by omega, by omega⟩
/-- why load and store throw -/
abbrev whyM (x : Int64) (sz : Int32) (n : Nat) (E : String) : Prop := (E = eIA ∧ ¬ szK sz) ∨ (E = eIO ∧ szK sz ∧ ∀ k, sz = nI k → ¬ ∃ a, inM x n k a)
theorem inM_u {x : Int64} {n k a b : Nat} (hn : n ≤ 1024) (h1 : inM x n k a) (h2 : inM x n k b) : a = b := by
  obtain ⟨rfl, h1⟩ := h1
  obtain ⟨e, h2⟩ := h2
  have := (pk_lEQ (by omega) (by omega)).mp e
  omega
theorem nI_inj {a b : Nat} (ha : a < 2 ^ 31) (hb : b < 2 ^ 31) (h : nI a = nI b) : a = b := (nI_eq ha hb).mp h
set_option maxHeartbeats 4000000 in
set_option maxRecDepth 100000 in
/-- load -/
theorem t_S_load (l : Launch) (hl0 : l.stackTraces = false) (D : va_G) (cJ cI cP : ClassId) (bs : Nat) (w : Nat → Option va_E) (h n : Nat) (M T : Nat → Int64) (ra : Nat → Int64) (rs : Nat → Int32) (aT aA aS : Nat) (pt : Nat → Option Nat) (hs : sm cJ cI cP w h n M T ra rs aT aA aS pt) (x : Int64) (sz : Int32) : vx_Met l y_S_load ws_S_load ({ frames := 6, cells := 1, slots := 6, locals := 90 }) (mPx D vwCl (mT cJ cI cP) bs w [.ref h, .long x, .int sz]) (va_Ql (S := Unit) (fun r _ => ∃ a k, sz = nI k ∧ szK sz ∧ 1 ≤ k ∧ k ≤ 8 ∧ inM x n k a ∧ ∀ i, i < 64 → bi r i = rdN (mb M) a k i) (mB D vwCl bs (fun _ => w)) (mA bs)) (xX D vwCl bs w (whyM x sz n)) 1 6 (mA bs) := by
  refine vx_ofW (cc := c_S_load) (maxL := 4) (ret := (some .long)) (by decide) rfl ?_
  intro p e s m args below meth c s₁ B hml hex hv
  obtain ⟨rfl, hbs, hP, hK, hE⟩ := hv
  have hx := B.exec
  have hb := B.bytes
  have hr := B.returns
  have htg : ∀ w ∈ gt, w.before _ s = true := fun w h => atoms_spec (ws := ws_S_load) B.pre w (List.mem_cons_of_mem _ h)
  have hown : s.vm.findClass R_S = some m.cls := findClass_of_methodNamed B.named
  have hlocks := B.notSynchronized
  have hS : va_S (mA bs) s.heap s.heap [] := va_S.rf
  have hl := lv_entry ([.ref h, .long x, .int sz]) (n := 4) (Nat.le_of_ble_eq_true rfl)
  rw [lg_entry_eq]
  generalize (lg_sl ([.ref h, .long x, .int sz]) ++ List.replicate (4 - (lg_sl ([.ref h, .long x, .int sz])).length) Slot.unset).toArray = ls at hl ⊢
  have hl : lv_has ls 4 [(0, .ref h), (1, .long x), (3, .int sz)] := hl
  obtain ⟨hn, s1, s2, s3, s4, s5, s6, s7⟩ := id hs
  have f1 : w h = some (.inr (ciS, [.int (nI n), .ref aT, .ref aA, .ref aS])) := s1
  refine lv_iload_n hx hb d_S_load_0 rfl (lv_at hl 2 rfl) ?_
  refine mc_i (va_runS (As := [.int sz]) (rest := []) ⟨hx, hb, hml, hown, htg⟩ (t_S_isSize l D cJ cI cP bs w sz) (cwS (own := R_S) 1 htg (ginS k_85 k_86 k_25 k_87) rfl rfl rfl (by decide +kernel) ⟨Nat.le_of_ble_eq_true rfl, Nat.le_of_ble_eq_true rfl⟩) (mPc.preS hbs hS hP hK) rfl rfl hl.1 rfl (lv_room (Nat.le_of_ble_eq_true rfl)) d_S_load_1 ⟨Nat.le_of_ble_eq_true rfl, Nat.le_of_ble_eq_true rfl⟩) hS (fun r1 u1 H locs hw hP hz1 hS => ?_)
  have hsz := hw
  refine lv_if_ne (tgt := 17) hx hb d_S_load_4 (by decide) (fun c4 => ?_) (fun c4 => ?_)
  · have hok : szK sz := Classical.byContradiction (fun z => by rw [if_neg z] at hsz; exact c4 hsz)
    obtain ⟨k, rfl, h1, h8⟩ := szK_of hok
    have hl : lv_has ls 4 [(0, .ref h), (1, .long x), (3, .int (nI k))] := hl
    refine lv_aload_n hx hb d_S_load_17 rfl (lv_at hl 0 rfl) ?_
    refine lv_lload_n hx hb d_S_load_18 rfl (lv_at hl 1 rfl) ?_
    refine lv_iload_n hx hb d_S_load_19 rfl (lv_at hl 2 rfl) ?_
    refine mc_i (va_runV (As := [.long x, .int (nI k)]) (rest := []) ⟨hx, hb, hml, hown, htg⟩ (t_S_isInMemory l D cJ cI cP bs w h n M T ra rs aT aA aS pt hs x k h8) (cwV (own := R_S) (C := R_S) 2 htg (ginV k_156 k_158 k_1 k_25 k_159) rfl rfl rfl (by decide +kernel) ⟨Nat.le_of_ble_eq_true rfl, Nat.le_of_ble_eq_true rfl⟩) (mPc.preV (ci := ciS) (q := (R_S, T_S, 4)) hbs hS hP hK rfl f1) rfl rfl hl.1 rfl (lv_room (Nat.le_of_ble_eq_true rfl)) d_S_load_20 ⟨Nat.le_of_ble_eq_true rfl, Nat.le_of_ble_eq_true rfl⟩) hS (fun r20 u20 H locs hw hP hz20 hS => ?_)
    have hin := hw
    refine lv_if_ne (tgt := 36) hx hb d_S_load_23 (by decide) (fun c23 => ?_) (fun c23 => ?_)
    · obtain ⟨a, ha⟩ : ∃ a, inM x n k a := by
        rcases hin with z | z
        · exact z.2
        · exact absurd z.1 c23
      obtain ⟨rfl, hak⟩ := id ha
      have hl : lv_has ls 4 [(0, .ref h), (1, .long (lN (2147483648 + a))), (3, .int (nI k))] := hl
      refine lv_aload_n hx hb d_S_load_36 rfl (lv_at hl 0 rfl) ?_
      refine lv_lload_n hx hb d_S_load_37 rfl (lv_at hl 1 rfl) ?_
      refine mc_i (va_runS (As := [.long (lN (2147483648 + a))]) (rest := [.ref h]) ⟨hx, hb, hml, hown, htg⟩ (t_S_placeOf l D cJ cI cP bs w a) (cwS (own := R_S) 1 htg (ginS k_182 k_183 k_25 k_184) rfl rfl rfl (by decide +kernel) ⟨Nat.le_of_ble_eq_true rfl, Nat.le_of_ble_eq_true rfl⟩) (mPc.preS hbs hS hP hK) rfl rfl hl.1 rfl (lv_room (Nat.le_of_ble_eq_true rfl)) d_S_load_38 ⟨Nat.le_of_ble_eq_true rfl, Nat.le_of_ble_eq_true rfl⟩) hS (fun r38 u38 H locs hw hP hz38 hS => ?_)
      subst hw
      refine lv_iload_n hx hb d_S_load_41 rfl (lv_at hl 2 rfl) ?_
      refine mc_l (va_runV (As := [.int (nI a), .int (nI k)]) (rest := []) ⟨hx, hb, hml, hown, htg⟩ (t_S_numberAt l D cJ cI cP bs w h n M T ra rs aT aA aS pt hs a k h1 h8 ha.2) (cwV (own := R_S) (C := R_S) 2 htg (ginV k_185 k_187 k_3 k_25 k_188) rfl rfl rfl (by decide +kernel) ⟨Nat.le_of_ble_eq_true rfl, Nat.le_of_ble_eq_true rfl⟩) (mPc.preV (ci := ciS) (q := (R_S, T_S, 4)) hbs hS hP hK rfl f1) rfl rfl hl.1 rfl (lv_room (Nat.le_of_ble_eq_true rfl)) d_S_load_42 ⟨Nat.le_of_ble_eq_true rfl, Nat.le_of_ble_eq_true rfl⟩) hS (fun num u42 H locs hnum hP hz42 hS => ?_)
      refine W.widen (k := 1) (n := 6) (Nat.zero_le _) (Nat.zero_le _) ?_
      refine vx_ret ?_
      exact W.lret (v := num) hx hb hr (fun t ht hW => ⟨⟨_, (), rfl, ⟨a, k, rfl, hok, h1, h8, ha, hnum⟩, hP.at ht⟩, hS.F ht⟩) hS.2.2 d_S_load_45
    · exact mw_throw (E := eIO) hx hb hl0 hown htg hE (by decide +kernel) k_166 k_31 hE.2.2.2.2.2.2.1 g_IO ng_IO hE.2.2.1.2.1 ot_IO hP hS (hl.1.trans hml.symm) d_S_load_26 d_S_load_29 d_S_load_30 d_S_load_32 d_S_load_35 hex (Nat.le_of_ble_eq_true rfl) (Nat.le_of_ble_eq_true rfl) (Nat.le_of_ble_eq_true rfl) (Nat.le_of_ble_eq_true rfl) hlocks (Or.inr ⟨rfl, hok, fun k2 e2 y => by
          rcases hin with z | z
          · rw [z.1] at c23; exact absurd c23 (by decide)
          · obtain ⟨a, ha⟩ := y
            have e4 : k2 % 2 ^ 32 = k := by
              have := congrArg (fun q : Int32 => q.toBitVec.toNat) e2
              have h3 : (nI k).toBitVec.toNat = (nI k2).toBitVec.toNat := this
              rw [pk_tn (by omega)] at h3
              rw [h3]
              show _ = (BitVec.ofNat 32 k2).toNat
              rw [BitVec.toNat_ofNat]
            have e5 : k2 = k := by have := ha.2; omega
            exact z.2 ⟨a, by rw [← e5]; exact ha⟩⟩) (Nat.le_of_ble_eq_true rfl) (Nat.le_of_ble_eq_true rfl)
  · exact mw_throw (E := eIA) hx hb hl0 hown htg hE (by decide +kernel) k_88 k_30 hE.2.2.2.2.2.1 g_IA ng_IA hE.2.2.1.1 ot_IA hP hS (hl.1.trans hml.symm) d_S_load_7 d_S_load_10 d_S_load_11 d_S_load_13 d_S_load_16 hex (Nat.le_of_ble_eq_true rfl) (Nat.le_of_ble_eq_true rfl) (Nat.le_of_ble_eq_true rfl) (Nat.le_of_ble_eq_true rfl) hlocks (Or.inl ⟨rfl, fun z => by rw [if_pos z] at hsz; rw [hsz] at c4; exact absurd c4 (by decide)⟩) (Nat.le_of_ble_eq_true rfl) (Nat.le_of_ble_eq_true rfl)
set_option maxHeartbeats 4000000 in
set_option maxRecDepth 100000 in
/-- store -/
theorem t_S_store (l : Launch) (hl0 : l.stackTraces = false) (D : va_G) (cJ cI cP : ClassId) (bs : Nat) (w : Nat → Option va_E) (h n : Nat) (M T : Nat → Int64) (ra : Nat → Int64) (rs : Nat → Int32) (aT aA aS : Nat) (pt : Nat → Option Nat) (hs : sm cJ cI cP w h n M T ra rs aT aA aS pt) (hro : rok ra n) (x : Int64) (sz : Int32) (v : Int64) : vx_Met l y_S_store ws_S_store ({ frames := 6, cells := 4, slots := 1034, locals := 126 }) (mPx D vwCl (mT cJ cI cP) bs w [.ref h, .long x, .int sz, .long v]) (va_Qv (S := ((Nat → Option va_E) × (Nat → Int64) × (Nat → Option Nat))) (fun u => ∃ a k, sz = nI k ∧ szK sz ∧ 1 ≤ k ∧ k ≤ 8 ∧ inM x n k a ∧ sm cJ cI cP u.1 h n u.2.1 (tinc T (a / 4096) ((a + k - 1) / 4096 + 1)) (lost ra (a / 8) ((a + k - 1) / 8)) rs aT aA aS u.2.2 ∧ mb u.2.1 = wrN (mb M) a k v ∧ kp w u.1 (sfp w h) (sfp u.1 h)) (mB D vwCl bs (fun u => u.1)) (mA bs)) (xX D vwCl bs w (whyM x sz n)) 4 1034 (mA bs) := by
  refine vx_ofW (cc := c_S_store) (maxL := 6) (ret := none) (by decide) rfl ?_
  intro p e s m args below meth c s₁ B hml hex hv
  obtain ⟨rfl, hbs, hP, hK, hE⟩ := hv
  have hx := B.exec
  have hb := B.bytes
  have hr := B.returns
  have htg : ∀ w ∈ gt, w.before _ s = true := fun w h => atoms_spec (ws := ws_S_store) B.pre w (List.mem_cons_of_mem _ h)
  have hown : s.vm.findClass R_S = some m.cls := findClass_of_methodNamed B.named
  have hlocks := B.notSynchronized
  have hS : va_S (mA bs) s.heap s.heap [] := va_S.rf
  have hl := lv_entry ([.ref h, .long x, .int sz, .long v]) (n := 6) (Nat.le_of_ble_eq_true rfl)
  rw [lg_entry_eq]
  generalize (lg_sl ([.ref h, .long x, .int sz, .long v]) ++ List.replicate (6 - (lg_sl ([.ref h, .long x, .int sz, .long v])).length) Slot.unset).toArray = ls at hl ⊢
  have hl : lv_has ls 6 [(0, .ref h), (1, .long x), (3, .int sz), (4, .long v)] := hl
  obtain ⟨hn, s1, s2, s3, s4, s5, s6, s7⟩ := id hs
  have f1 : w h = some (.inr (ciS, [.int (nI n), .ref aT, .ref aA, .ref aS])) := s1
  refine lv_iload_n hx hb d_S_store_0 rfl (lv_at hl 2 rfl) ?_
  refine mc_i (va_runS (As := [.int sz]) (rest := []) ⟨hx, hb, hml, hown, htg⟩ (t_S_isSize l D cJ cI cP bs w sz) (cwS (own := R_S) 1 htg (ginS k_85 k_86 k_25 k_87) rfl rfl rfl (by decide +kernel) ⟨Nat.le_of_ble_eq_true rfl, Nat.le_of_ble_eq_true rfl⟩) (mPc.preS hbs hS hP hK) rfl rfl hl.1 rfl (lv_room (Nat.le_of_ble_eq_true rfl)) d_S_store_1 ⟨Nat.le_of_ble_eq_true rfl, Nat.le_of_ble_eq_true rfl⟩) hS (fun r1 u1 H locs hw hP hz1 hS => ?_)
  have hsz := hw
  refine lv_if_ne (tgt := 17) hx hb d_S_store_4 (by decide) (fun c4 => ?_) (fun c4 => ?_)
  · have hok : szK sz := Classical.byContradiction (fun z => by rw [if_neg z] at hsz; exact c4 hsz)
    obtain ⟨k, rfl, h1, h8⟩ := szK_of hok
    have hl : lv_has ls 6 [(0, .ref h), (1, .long x), (3, .int (nI k)), (4, .long v)] := hl
    refine lv_aload_n hx hb d_S_store_17 rfl (lv_at hl 0 rfl) ?_
    refine lv_lload_n hx hb d_S_store_18 rfl (lv_at hl 1 rfl) ?_
    refine lv_iload_n hx hb d_S_store_19 rfl (lv_at hl 2 rfl) ?_
    refine mc_i (va_runV (As := [.long x, .int (nI k)]) (rest := []) ⟨hx, hb, hml, hown, htg⟩ (t_S_isInMemory l D cJ cI cP bs w h n M T ra rs aT aA aS pt hs x k h8) (cwV (own := R_S) (C := R_S) 2 htg (ginV k_156 k_158 k_1 k_25 k_159) rfl rfl rfl (by decide +kernel) ⟨Nat.le_of_ble_eq_true rfl, Nat.le_of_ble_eq_true rfl⟩) (mPc.preV (ci := ciS) (q := (R_S, T_S, 4)) hbs hS hP hK rfl f1) rfl rfl hl.1 rfl (lv_room (Nat.le_of_ble_eq_true rfl)) d_S_store_20 ⟨Nat.le_of_ble_eq_true rfl, Nat.le_of_ble_eq_true rfl⟩) hS (fun r20 u20 H locs hw hP hz20 hS => ?_)
    have hin := hw
    refine lv_if_ne (tgt := 36) hx hb d_S_store_23 (by decide) (fun c23 => ?_) (fun c23 => ?_)
    · obtain ⟨a, ha⟩ : ∃ a, inM x n k a := by
        rcases hin with z | z
        · exact z.2
        · exact absurd z.1 c23
      obtain ⟨rfl, hak⟩ := id ha
      have hl : lv_has ls 6 [(0, .ref h), (1, .long (lN (2147483648 + a))), (3, .int (nI k)), (4, .long v)] := hl
      refine lv_aload_n hx hb d_S_store_36 rfl (lv_at hl 0 rfl) ?_
      refine lv_lload_n hx hb d_S_store_37 rfl (lv_at hl 1 rfl) ?_
      refine mc_i (va_runS (As := [.long (lN (2147483648 + a))]) (rest := [.ref h]) ⟨hx, hb, hml, hown, htg⟩ (t_S_placeOf l D cJ cI cP bs w a) (cwS (own := R_S) 1 htg (ginS k_182 k_183 k_25 k_184) rfl rfl rfl (by decide +kernel) ⟨Nat.le_of_ble_eq_true rfl, Nat.le_of_ble_eq_true rfl⟩) (mPc.preS hbs hS hP hK) rfl rfl hl.1 rfl (lv_room (Nat.le_of_ble_eq_true rfl)) d_S_store_38 ⟨Nat.le_of_ble_eq_true rfl, Nat.le_of_ble_eq_true rfl⟩) hS (fun r38 u38 H locs hw hP hz38 hS => ?_)
      subst hw
      refine lv_iload_n hx hb d_S_store_41 rfl (lv_at hl 2 rfl) ?_
      refine lv_lload hx hb d_S_store_42 (lv_at hl 3 rfl) ?_
      refine mc_v (va_runV (As := [.int (nI a), .int (nI k), .long v]) (rest := []) ⟨hx, hb, hml, hown, htg⟩ (t_S_putNumber l D cJ cI cP bs w h n M T ra rs aT aA aS pt hs a k h1 h8 ha.2 hro v) (cwV (own := R_S) (C := R_S) 3 htg (ginV k_211 k_213 k_5 k_25 k_214) rfl rfl rfl (by decide +kernel) ⟨Nat.le_of_ble_eq_true rfl, Nat.le_of_ble_eq_true rfl⟩) (mPc.preV (ci := ciS) (q := (R_S, T_S, 4)) hbs hS hP hK rfl f1) rfl rfl hl.1 rfl (lv_room (Nat.le_of_ble_eq_true rfl)) d_S_store_44 ⟨Nat.le_of_ble_eq_true rfl, Nat.le_of_ble_eq_true rfl⟩) hS (fun u9 H locs hw hP hz44 hS => ?_)
      obtain ⟨w9, M9, pt9⟩ := u9
      refine vx_ret ?_
      exact W.vret hx hb hr (fun t ht hW => ⟨⟨(w9, M9, pt9), rfl, ⟨a, k, rfl, hok, h1, h8, ha, hw⟩, hP.at ht⟩, hS.F ht⟩) hS.2.2 d_S_store_47
    · exact mw_throw (E := eIO) hx hb hl0 hown htg hE (by decide +kernel) k_166 k_31 hE.2.2.2.2.2.2.1 g_IO ng_IO hE.2.2.1.2.1 ot_IO hP hS (hl.1.trans hml.symm) d_S_store_26 d_S_store_29 d_S_store_30 d_S_store_32 d_S_store_35 hex (Nat.le_of_ble_eq_true rfl) (Nat.le_of_ble_eq_true rfl) (Nat.le_of_ble_eq_true rfl) (Nat.le_of_ble_eq_true rfl) hlocks (Or.inr ⟨rfl, hok, fun k2 e2 y => by
          rcases hin with z | z
          · rw [z.1] at c23; exact absurd c23 (by decide)
          · obtain ⟨a, ha⟩ := y
            have e4 : k2 % 2 ^ 32 = k := by
              have := congrArg (fun q : Int32 => q.toBitVec.toNat) e2
              have h3 : (nI k).toBitVec.toNat = (nI k2).toBitVec.toNat := this
              rw [pk_tn (by omega)] at h3
              rw [h3]
              show _ = (BitVec.ofNat 32 k2).toNat
              rw [BitVec.toNat_ofNat]
            have e5 : k2 = k := by have := ha.2; omega
            exact z.2 ⟨a, by rw [← e5]; exact ha⟩⟩) (Nat.le_of_ble_eq_true rfl) (Nat.le_of_ble_eq_true rfl)
  · exact mw_throw (E := eIA) hx hb hl0 hown htg hE (by decide +kernel) k_88 k_30 hE.2.2.2.2.2.1 g_IA ng_IA hE.2.2.1.1 ot_IA hP hS (hl.1.trans hml.symm) d_S_store_7 d_S_store_10 d_S_store_11 d_S_store_13 d_S_store_16 hex (Nat.le_of_ble_eq_true rfl) (Nat.le_of_ble_eq_true rfl) (Nat.le_of_ble_eq_true rfl) (Nat.le_of_ble_eq_true rfl) hlocks (Or.inl ⟨rfl, fun z => by rw [if_pos z] at hsz; rw [hsz] at c4; exact absurd c4 (by decide)⟩) (Nat.le_of_ble_eq_true rfl) (Nat.le_of_ble_eq_true rfl)
theorem prc_of {x : Int32} (h : 0 ≤ x ∧ x < 4) : ∃ j, j < 4 ∧ x = nI j := by
  rcases pk_ix x (n := 4) (by decide) with z | z | z
  · exact absurd h.1 (Int32.not_le.mpr z)
  · exact absurd h.2 (Int32.not_lt.mpr z)
  · exact z
set_option maxHeartbeats 4000000 in
set_option maxRecDepth 100000 in
/-- reserved -/
theorem t_S_reserved (l : Launch) (hl0 : l.stackTraces = false) (D : va_G) (cJ cI cP : ClassId) (bs : Nat) (w : Nat → Option va_E) (h n : Nat) (M T : Nat → Int64) (ra : Nat → Int64) (rs : Nat → Int32) (aT aA aS : Nat) (pt : Nat → Option Nat) (hs : sm cJ cI cP w h n M T ra rs aT aA aS pt) (x : Int32) : vx_Met l y_S_reserved ws_S_reserved ({ frames := 6, cells := 1, slots := 6, locals := 90 }) (mPx D vwCl (mT cJ cI cP) bs w [.ref h, .int x]) (va_Ql (S := Unit) (fun r _ => ∃ j, j < 4 ∧ x = nI j ∧ r = ra j) (mB D vwCl bs (fun _ => w)) (mA bs)) (xX D vwCl bs w (fun E => E = eIO ∧ ¬ (0 ≤ x ∧ x < 4))) 1 6 (mA bs) := by
  refine vx_ofW (cc := c_S_reserved) (maxL := 2) (ret := (some .long)) (by decide) rfl ?_
  intro p e s m args below meth c s₁ B hml hex hv
  obtain ⟨rfl, hbs, hP, hK, hE⟩ := hv
  have hx := B.exec
  have hb := B.bytes
  have hr := B.returns
  have htg : ∀ w ∈ gt, w.before _ s = true := fun w h => atoms_spec (ws := ws_S_reserved) B.pre w (List.mem_cons_of_mem _ h)
  have hown : s.vm.findClass R_S = some m.cls := findClass_of_methodNamed B.named
  have hlocks := B.notSynchronized
  have hS : va_S (mA bs) s.heap s.heap [] := va_S.rf
  have hl := lv_entry ([.ref h, .int x]) (n := 2) (Nat.le_of_ble_eq_true rfl)
  rw [lg_entry_eq]
  generalize (lg_sl ([.ref h, .int x]) ++ List.replicate (2 - (lg_sl ([.ref h, .int x])).length) Slot.unset).toArray = ls at hl ⊢
  have hl : lv_has ls 2 [(0, .ref h), (1, .int x)] := hl
  obtain ⟨hn, s1, s2, s3, s4, s5, s6, s7⟩ := id hs
  have f1 : w h = some (.inr (ciS, [.int (nI n), .ref aT, .ref aA, .ref aS])) := s1
  refine lv_iload_n hx hb d_S_reserved_0 rfl (lv_at hl 1 rfl) ?_
  refine mc_i (va_runS (As := [.int x]) (rest := []) ⟨hx, hb, hml, hown, htg⟩ (t_S_isProcessor l D cJ cI cP bs w x) (cwS (own := R_S) 1 htg (ginS k_313 k_314 k_25 k_315) rfl rfl rfl (by decide +kernel) ⟨Nat.le_of_ble_eq_true rfl, Nat.le_of_ble_eq_true rfl⟩) (mPc.preS hbs hS hP hK) rfl rfl hl.1 rfl (lv_room (Nat.le_of_ble_eq_true rfl)) d_S_reserved_1 ⟨Nat.le_of_ble_eq_true rfl, Nat.le_of_ble_eq_true rfl⟩) hS (fun r1 u1 H locs hw hP hz1 hS => ?_)
  have hpr := hw
  refine lv_if_ne (tgt := 17) hx hb d_S_reserved_4 (by decide) (fun c4 => ?_) (fun c4 => ?_)
  · have hok : 0 ≤ x ∧ x < 4 := Classical.byContradiction (fun z => by rw [if_neg z] at hpr; exact c4 hpr)
    obtain ⟨j, hj, rfl⟩ := prc_of hok
    have hl : lv_has ls 2 [(0, .ref h), (1, .int (nI j))] := hl
    refine lv_aload_n hx hb d_S_reserved_17 rfl (lv_at hl 0 rfl) ?_
    refine mw_get (C := R_S) (T := T_S) (N := 4) (ci := ciS) (v := .ref aA) hx hb htg i_S hown hK hP f1 rfl 2 (by decide) (htg _ k_48) (fun _ h9 => h9) rfl d_S_reserved_18 ?_
    refine lv_iload_n hx hb d_S_reserved_21 rfl (lv_at hl 1 rfl) ?_
    refine mw_lald hx hb hK hP 0 s3 rfl (vp_in_nI hj (by omega)) d_S_reserved_22 ?_
    rw [show (nI j).toNatClampNeg = j from nI_clamp (by omega)]
    refine W.widen (k := 1) (n := 6) (Nat.zero_le _) (Nat.zero_le _) ?_
    refine vx_ret ?_
    exact W.lret (v := ra j) hx hb hr (fun t ht hW => ⟨⟨_, (), rfl, ⟨j, hj, rfl, rfl⟩, hP.at ht⟩, hS.F ht⟩) hS.2.2 d_S_reserved_23
  · exact mw_throw (E := eIO) hx hb hl0 hown htg hE (by decide +kernel) k_166 k_31 hE.2.2.2.2.2.2.2.2.2.2.2.1 g_IO ng_IO hE.2.2.1.2.1 ot_IO hP hS (hl.1.trans hml.symm) d_S_reserved_7 d_S_reserved_10 d_S_reserved_11 d_S_reserved_13 d_S_reserved_16 hex (Nat.le_of_ble_eq_true rfl) (Nat.le_of_ble_eq_true rfl) (Nat.le_of_ble_eq_true rfl) (Nat.le_of_ble_eq_true rfl) hlocks (⟨rfl, fun z => by rw [if_pos z] at hpr; rw [hpr] at c4; exact absurd c4 (by decide)⟩) (Nat.le_of_ble_eq_true rfl) (Nat.le_of_ble_eq_true rfl)
set_option maxHeartbeats 4000000 in
set_option maxRecDepth 100000 in
/-- drop -/
theorem t_S_drop (l : Launch) (hl0 : l.stackTraces = false) (D : va_G) (cJ cI cP : ClassId) (bs : Nat) (w : Nat → Option va_E) (h n : Nat) (M T : Nat → Int64) (ra : Nat → Int64) (rs : Nat → Int32) (aT aA aS : Nat) (pt : Nat → Option Nat) (hs : sm cJ cI cP w h n M T ra rs aT aA aS pt) (x : Int32) : vx_Met l y_S_drop ws_S_drop ({ frames := 6, cells := 1, slots := 6, locals := 90 }) (mPx D vwCl (mT cJ cI cP) bs w [.ref h, .int x]) (va_Qi (S := (Nat → Option va_E)) (fun r u => ∃ j, j < 4 ∧ x = nI j ∧ r = (if ra j = 0 then 0 else 1) ∧ sm cJ cI cP u h n M T (vp_updL ra j 0) rs aT aA aS pt ∧ kp w u (sfp w h) (sfp u h)) (mB D vwCl bs (fun u => u)) (mA bs)) (xX D vwCl bs w (fun E => E = eIO ∧ ¬ (0 ≤ x ∧ x < 4))) 1 6 (mA bs) := by
  refine vx_ofW (cc := c_S_drop) (maxL := 3) (ret := (some .boolean)) (by decide) rfl ?_
  intro p e s m args below meth c s₁ B hml hex hv
  obtain ⟨rfl, hbs, hP, hK, hE⟩ := hv
  have hx := B.exec
  have hb := B.bytes
  have hr := B.returns
  have htg : ∀ w ∈ gt, w.before _ s = true := fun w h => atoms_spec (ws := ws_S_drop) B.pre w (List.mem_cons_of_mem _ h)
  have hown : s.vm.findClass R_S = some m.cls := findClass_of_methodNamed B.named
  have hlocks := B.notSynchronized
  have hS : va_S (mA bs) s.heap s.heap [] := va_S.rf
  have hl := lv_entry ([.ref h, .int x]) (n := 3) (Nat.le_of_ble_eq_true rfl)
  rw [lg_entry_eq]
  generalize (lg_sl ([.ref h, .int x]) ++ List.replicate (3 - (lg_sl ([.ref h, .int x])).length) Slot.unset).toArray = ls at hl ⊢
  have hl : lv_has ls 3 [(0, .ref h), (1, .int x)] := hl
  obtain ⟨hn, s1, s2, s3, s4, s5, s6, s7⟩ := id hs
  have f1 : w h = some (.inr (ciS, [.int (nI n), .ref aT, .ref aA, .ref aS])) := s1
  refine lv_iload_n hx hb d_S_drop_0 rfl (lv_at hl 1 rfl) ?_
  refine mc_i (va_runS (As := [.int x]) (rest := []) ⟨hx, hb, hml, hown, htg⟩ (t_S_isProcessor l D cJ cI cP bs w x) (cwS (own := R_S) 1 htg (ginS k_313 k_314 k_25 k_315) rfl rfl rfl (by decide +kernel) ⟨Nat.le_of_ble_eq_true rfl, Nat.le_of_ble_eq_true rfl⟩) (mPc.preS hbs hS hP hK) rfl rfl hl.1 rfl (lv_room (Nat.le_of_ble_eq_true rfl)) d_S_drop_1 ⟨Nat.le_of_ble_eq_true rfl, Nat.le_of_ble_eq_true rfl⟩) hS (fun r1 u1 H locs hw hP hz1 hS => ?_)
  have hpr := hw
  refine lv_if_ne (tgt := 17) hx hb d_S_drop_4 (by decide) (fun c4 => ?_) (fun c4 => ?_)
  · have hok : 0 ≤ x ∧ x < 4 := Classical.byContradiction (fun z => by rw [if_neg z] at hpr; exact c4 hpr)
    obtain ⟨j, hj, rfl⟩ := prc_of hok
    have hl : lv_has ls 3 [(0, .ref h), (1, .int (nI j))] := hl
    refine lv_aload_n hx hb d_S_drop_17 rfl (lv_at hl 0 rfl) ?_
    refine mw_get (C := R_S) (T := T_S) (N := 4) (ci := ciS) (v := .ref aA) hx hb htg i_S hown hK hP f1 rfl 2 (by decide) (htg _ k_48) (fun _ h9 => h9) rfl d_S_drop_18 ?_
    refine lv_iload_n hx hb d_S_drop_21 rfl (lv_at hl 1 rfl) ?_
    refine mw_lald hx hb hK hP 0 s3 rfl (vp_in_nI hj (by omega)) d_S_drop_22 ?_
    rw [show (nI j).toNatClampNeg = j from nI_clamp (by omega)]
    refine lv_lconst (v := 0) hx hb d_S_drop_23 rfl ?_
    refine lc_eq (tgt := 32) hx hb d_S_drop_24 d_S_drop_25 (by decide) (fun c24 => ?_) (fun c24 => ?_)
    · refine lv_iconst (v := 0) hx hb d_S_drop_32 (by decide) ?_
      refine lv_istore_n (lv' := [(2, .int 0), (0, .ref h), (1, .int (nI j))]) hx hb d_S_drop_33 rfl hl (by decide) rfl (fun ls hl => ?_)
      refine lv_aload_n hx hb d_S_drop_34 rfl (lv_at hl 1 rfl) ?_
      refine mw_get (C := R_S) (T := T_S) (N := 4) (ci := ciS) (v := .ref aA) hx hb htg i_S hown hK hP f1 rfl 2 (by decide) (htg _ k_48) (fun _ h9 => h9) rfl d_S_drop_35 ?_
      refine lv_iload_n hx hb d_S_drop_38 rfl (lv_at hl 2 rfl) ?_
      refine lv_lconst (v := 0) hx hb d_S_drop_39 rfl ?_
      refine mw_last hx hb hK hP hS 0 s3 rfl (vp_in_nI hj (by omega)) d_S_drop_40 (fun H locs hP hS hz40 => ?_)
      rw [show (nI j).toNatClampNeg = j from nI_clamp (by omega)] at hP
      obtain ⟨w_1, ew_1⟩ : ∃ z9, z9 = va_up w aA (some (.inl (cJ, 4, .inr (.inl (vp_updL ra j 0)))) : Option va_E) := ⟨_, rfl⟩
      rw [← ew_1] at hP
      have h_2 : w_1 aA = some (.inl (cJ, 4, .inr (.inl (vp_updL ra j 0)))) := by rw [ew_1, va_up_self]
      have h_3 : w_1 h = some (.inr (ciS, [.int (nI n), .ref aT, .ref aA, .ref aS])) := by rw [ew_1, va_up_ne _ _ (fun z => by rw [z, s3] at f1; cases f1)]; exact f1
      have h_4 : w_1 aT = some (.inl (cP, n, .inr (.inr (.inr (.inr pt))))) := by rw [ew_1, va_up_ne _ _ (fun z => by rw [z, s3] at s2; simp at s2)]; exact s2
      have h_5 : w_1 aS = some (.inl (cI, 4, .inl rs)) := by rw [ew_1, va_up_ne _ _ (fun z => by rw [z, s3] at s4; simp at s4)]; exact s4
      refine lv_iload_n hx hb d_S_drop_41 rfl (lv_at hl 0 rfl) ?_
      have q1 := sm_ra hs (vp_updL ra j 0)
      rw [← ew_1] at q1
      refine W.widen (k := 1) (n := 6) (Nat.zero_le _) (Nat.zero_le _) ?_
      refine vx_ret ?_
      exact W.zret (v := 0) hx hb hr rfl (fun t ht hW => ⟨⟨_, w_1, rfl, ⟨j, hj, rfl, by first | rw [if_pos c24] | rw [if_neg c24], q1.1, q1.2⟩, hP.at ht⟩, hS.F ht⟩) hS.2.2 d_S_drop_42
    · refine lv_iconst (v := 1) hx hb d_S_drop_28 (by decide) ?_
      refine lv_goto (tgt := 33) hx hb d_S_drop_29 (by decide) ?_
      refine lv_istore_n (lv' := [(2, .int 1), (0, .ref h), (1, .int (nI j))]) hx hb d_S_drop_33 rfl hl (by decide) rfl (fun ls hl => ?_)
      refine lv_aload_n hx hb d_S_drop_34 rfl (lv_at hl 1 rfl) ?_
      refine mw_get (C := R_S) (T := T_S) (N := 4) (ci := ciS) (v := .ref aA) hx hb htg i_S hown hK hP f1 rfl 2 (by decide) (htg _ k_48) (fun _ h9 => h9) rfl d_S_drop_35 ?_
      refine lv_iload_n hx hb d_S_drop_38 rfl (lv_at hl 2 rfl) ?_
      refine lv_lconst (v := 0) hx hb d_S_drop_39 rfl ?_
      refine mw_last hx hb hK hP hS 0 s3 rfl (vp_in_nI hj (by omega)) d_S_drop_40 (fun H locs hP hS hz40 => ?_)
      rw [show (nI j).toNatClampNeg = j from nI_clamp (by omega)] at hP
      obtain ⟨w_6, ew_6⟩ : ∃ z9, z9 = va_up w aA (some (.inl (cJ, 4, .inr (.inl (vp_updL ra j 0)))) : Option va_E) := ⟨_, rfl⟩
      rw [← ew_6] at hP
      have h_7 : w_6 aA = some (.inl (cJ, 4, .inr (.inl (vp_updL ra j 0)))) := by rw [ew_6, va_up_self]
      have h_8 : w_6 h = some (.inr (ciS, [.int (nI n), .ref aT, .ref aA, .ref aS])) := by rw [ew_6, va_up_ne _ _ (fun z => by rw [z, s3] at f1; cases f1)]; exact f1
      have h_9 : w_6 aT = some (.inl (cP, n, .inr (.inr (.inr (.inr pt))))) := by rw [ew_6, va_up_ne _ _ (fun z => by rw [z, s3] at s2; simp at s2)]; exact s2
      have h_10 : w_6 aS = some (.inl (cI, 4, .inl rs)) := by rw [ew_6, va_up_ne _ _ (fun z => by rw [z, s3] at s4; simp at s4)]; exact s4
      refine lv_iload_n hx hb d_S_drop_41 rfl (lv_at hl 0 rfl) ?_
      have q1 := sm_ra hs (vp_updL ra j 0)
      rw [← ew_6] at q1
      refine W.widen (k := 1) (n := 6) (Nat.zero_le _) (Nat.zero_le _) ?_
      refine vx_ret ?_
      exact W.zret (v := 1) hx hb hr rfl (fun t ht hW => ⟨⟨_, w_6, rfl, ⟨j, hj, rfl, by first | rw [if_pos c24] | rw [if_neg c24], q1.1, q1.2⟩, hP.at ht⟩, hS.F ht⟩) hS.2.2 d_S_drop_42
  · exact mw_throw (E := eIO) hx hb hl0 hown htg hE (by decide +kernel) k_166 k_31 hE.2.2.2.2.2.2.2.2.2.2.2.1 g_IO ng_IO hE.2.2.1.2.1 ot_IO hP hS (hl.1.trans hml.symm) d_S_drop_7 d_S_drop_10 d_S_drop_11 d_S_drop_13 d_S_drop_16 hex (Nat.le_of_ble_eq_true rfl) (Nat.le_of_ble_eq_true rfl) (Nat.le_of_ble_eq_true rfl) (Nat.le_of_ble_eq_true rfl) hlocks (⟨rfl, fun z => by rw [if_pos z] at hpr; rw [hpr] at c4; exact absurd c4 (by decide)⟩) (Nat.le_of_ble_eq_true rfl) (Nat.le_of_ble_eq_true rfl)
set_option maxHeartbeats 4000000 in
set_option maxRecDepth 100000 in
/-- writes -/
theorem t_S_writes (l : Launch) (hl0 : l.stackTraces = false) (D : va_G) (cJ cI cP : ClassId) (bs : Nat) (w : Nat → Option va_E) (h n : Nat) (M T : Nat → Int64) (ra : Nat → Int64) (rs : Nat → Int32) (aT aA aS : Nat) (pt : Nat → Option Nat) (hs : sm cJ cI cP w h n M T ra rs aT aA aS pt) (x : Int32) : vx_Met l y_S_writes ws_S_writes ({ frames := 6, cells := 1, slots := 6, locals := 90 }) (mPx D vwCl (mT cJ cI cP) bs w [.ref h, .int x]) (va_Ql (S := Unit) (fun r _ => ∃ i, i < n ∧ x = nI i ∧ r = T i) (mB D vwCl bs (fun _ => w)) (mA bs)) (xX D vwCl bs w (fun E => E = eIO ∧ ¬ ∃ i, i < n ∧ x = nI i)) 1 6 (mA bs) := by
  refine vx_ofW (cc := c_S_writes) (maxL := 3) (ret := (some .long)) (by decide) rfl ?_
  intro p e s m args below meth c s₁ B hml hex hv
  obtain ⟨rfl, hbs, hP, hK, hE⟩ := hv
  have hx := B.exec
  have hb := B.bytes
  have hr := B.returns
  have htg : ∀ w ∈ gt, w.before _ s = true := fun w h => atoms_spec (ws := ws_S_writes) B.pre w (List.mem_cons_of_mem _ h)
  have hown : s.vm.findClass R_S = some m.cls := findClass_of_methodNamed B.named
  have hlocks := B.notSynchronized
  have hS : va_S (mA bs) s.heap s.heap [] := va_S.rf
  have hl := lv_entry ([.ref h, .int x]) (n := 3) (Nat.le_of_ble_eq_true rfl)
  rw [lg_entry_eq]
  generalize (lg_sl ([.ref h, .int x]) ++ List.replicate (3 - (lg_sl ([.ref h, .int x])).length) Slot.unset).toArray = ls at hl ⊢
  have hl : lv_has ls 3 [(0, .ref h), (1, .int x)] := hl
  obtain ⟨hn, s1, s2, s3, s4, s5, s6, s7⟩ := id hs
  have f1 : w h = some (.inr (ciS, [.int (nI n), .ref aT, .ref aA, .ref aS])) := s1
  refine lv_aload_n hx hb d_S_writes_0 rfl (lv_at hl 0 rfl) ?_
  refine lv_iload_n hx hb d_S_writes_1 rfl (lv_at hl 1 rfl) ?_
  refine mc_i (va_runV (As := [.int x]) (rest := []) ⟨hx, hb, hml, hown, htg⟩ (t_S_isPage l D cJ cI cP bs w h n M T ra rs aT aA aS pt hs x) (cwV (own := R_S) (C := R_S) 1 htg (ginV k_383 k_385 k_16 k_25 k_386) rfl rfl rfl (by decide +kernel) ⟨Nat.le_of_ble_eq_true rfl, Nat.le_of_ble_eq_true rfl⟩) (mPc.preV (ci := ciS) (q := (R_S, T_S, 4)) hbs hS hP hK rfl f1) rfl rfl hl.1 rfl (lv_room (Nat.le_of_ble_eq_true rfl)) d_S_writes_2 ⟨Nat.le_of_ble_eq_true rfl, Nat.le_of_ble_eq_true rfl⟩) hS (fun r2 u2 H locs hw hP hz2 hS => ?_)
  have hpg := hw
  refine lv_if_ne (tgt := 18) hx hb d_S_writes_5 (by decide) (fun c5 => ?_) (fun c5 => ?_)
  · obtain ⟨i, hi, rfl⟩ : ∃ i, i < n ∧ x = nI i := by
      rcases hpg with z | z
      · exact z.2
      · exact absurd z.1 c5
    have hl : lv_has ls 3 [(0, .ref h), (1, .int (nI i))] := hl
    refine lv_aload_n hx hb d_S_writes_18 rfl (lv_at hl 0 rfl) ?_
    refine mw_get (C := R_S) (T := T_S) (N := 4) (ci := ciS) (v := .ref aT) hx hb htg i_S hown hK hP f1 rfl 1 (by decide) (htg _ k_47) (fun _ h9 => h9) rfl d_S_writes_19 ?_
    refine lv_iload_n hx hb d_S_writes_22 rfl (lv_at hl 1 rfl) ?_
    refine mw_aldq hx hb hK hP 2 s2 rfl (vp_in_nI hi (by omega)) d_S_writes_23 ?_
    rw [show (nI i).toNatClampNeg = i from nI_clamp (by omega)]
    rcases hpt : pt i with _ | pz
    · refine lv_astore_nN (lv' := [(2, .null), (0, .ref h), (1, .int (nI i))]) hx hb d_S_writes_24 rfl hl (by decide) rfl (fun ls hl => ?_)
      refine lv_aload_nN hx hb d_S_writes_25 rfl (lv_at hl 0 rfl) ?_
      refine lv_ifnonnullN hx hb d_S_writes_26 ?_
      refine lv_lconst (v := 0) hx hb d_S_writes_29 rfl ?_
      refine lv_goto (tgt := 37) hx hb d_S_writes_30 (by decide) ?_
      refine W.widen (k := 1) (n := 6) (Nat.zero_le _) (Nat.zero_le _) ?_
      refine vx_ret ?_
      exact W.lret (v := 0) hx hb hr (fun t ht hW => ⟨⟨_, (), rfl, ⟨i, hi, rfl, (s5 i hi hpt).1.symm⟩, hP.at ht⟩, hS.F ht⟩) hS.2.2 d_S_writes_37
    · obtain ⟨wr, ev, ew, y1, y2⟩ := s6 i pz hi hpt
      refine lv_astore_n (lv' := [(2, .ref pz), (0, .ref h), (1, .int (nI i))]) hx hb d_S_writes_24 rfl hl (by decide) rfl (fun ls hl => ?_)
      refine lv_aload_n hx hb d_S_writes_25 rfl (lv_at hl 0 rfl) ?_
      refine lv_ifnonnull (tgt := 33) hx hb d_S_writes_26 (by decide) ?_
      refine lv_aload_n hx hb d_S_writes_33 rfl (lv_at hl 0 rfl) ?_
      refine mc_l (va_runV (As := []) (rest := []) ⟨hx, hb, hml, hown, htg⟩ (t_P_writeCount l D cJ cI cP bs w pz (fun j => M (512 * i + j)) (T i) (s6 i pz hi hpt)) (cwV (own := R_S) (C := R_P) 0 htg (ginV k_388 k_389 k_390 k_32 k_391) rfl rfl rfl (by decide +kernel) ⟨Nat.le_of_ble_eq_true rfl, Nat.le_of_ble_eq_true rfl⟩) (mPc.preV (ci := ciP) (q := (R_P, T_P, 5)) hbs hS hP hK rfl y1) rfl rfl hl.1 rfl (lv_room (Nat.le_of_ble_eq_true rfl)) d_S_writes_34 ⟨Nat.le_of_ble_eq_true rfl, Nat.le_of_ble_eq_true rfl⟩) hS (fun r34 u34 H locs hw hP hz34 hS => ?_)
      refine W.widen (k := 1) (n := 6) (Nat.zero_le _) (Nat.zero_le _) ?_
      refine vx_ret ?_
      exact W.lret (v := r34) hx hb hr (fun t ht hW => ⟨⟨_, (), rfl, ⟨i, hi, rfl, hw⟩, hP.at ht⟩, hS.F ht⟩) hS.2.2 d_S_writes_37
  · have hno : ¬ ∃ i, i < n ∧ x = nI i := by
      rcases hpg with z | z
      · rw [z.1] at c5; exact absurd c5 (by decide)
      · exact z.2
    exact mw_throw (E := eIO) hx hb hl0 hown htg hE (by decide +kernel) k_166 k_31 hE.2.2.2.2.2.2.2.2.2.2.2.2 g_IO ng_IO hE.2.2.1.2.1 ot_IO hP hS (hl.1.trans hml.symm) d_S_writes_8 d_S_writes_11 d_S_writes_12 d_S_writes_14 d_S_writes_17 hex (Nat.le_of_ble_eq_true rfl) (Nat.le_of_ble_eq_true rfl) (Nat.le_of_ble_eq_true rfl) (Nat.le_of_ble_eq_true rfl) hlocks (⟨rfl, hno⟩) (Nat.le_of_ble_eq_true rfl) (Nat.le_of_ble_eq_true rfl)
