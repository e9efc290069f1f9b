theorem land_lN {m s : Nat} (hm : m < 2 ^ 63) (hs : s ≤ 62) : lN m &&& lN (2 ^ s - 1) = lN (m % 2 ^ s) := by
  have h2 : 2 ^ s ≤ 2 ^ 62 := Nat.pow_le_pow_right (by decide) hs
  have h3 : 0 < 2 ^ s := Nat.pow_pos (by decide)
  apply Int64.toBitVec_inj.mp
  apply BitVec.eq_of_toNat_eq
  rw [Int64.toBitVec_and, BitVec.toNat_and, lN_nat (by omega), lN_nat (by omega), lN_nat (by have := Nat.mod_lt m h3; omega), Nat.and_two_pow_sub_one_eq_mod]
abbrev szA (x : Int32) : Prop := x = 4 ∨ x = 8
theorem szA_of {x : Int32} (h : szA x) : ∃ k, x = nI k ∧ (k = 4 ∨ k = 8) := by
  rcases h with rfl | rfl
  · exact ⟨4, rfl, Or.inl rfl⟩
  · exact ⟨8, rfl, Or.inr rfl⟩
theorem al_w {a k : Nat} (ha : a < 2 ^ 31) (hk : k = 4 ∨ k = 8) : (lN (2147483648 + a) &&& (nI k - 1).toInt64) = lN (a % k) := by
  have e : (nI k - 1).toInt64 = lN (k - 1) := by rcases hk with rfl | rfl <;> rfl
  rw [e]
  rcases hk with rfl | rfl
  · rw [show lN (4 - 1) = lN (2 ^ 2 - 1) from rfl, land_lN (by omega) (by omega)]
    congr 1
    omega
  · rw [show lN (8 - 1) = lN (2 ^ 3 - 1) from rfl, land_lN (by omega) (by omega)]
    congr 1
    omega
abbrev S3 : Type := (Nat → Option va_E) × (Nat → Int64) × (Nat → Option Nat)
/-- why atomic throws -/
abbrev whyA (x y : Int32) (z : Int64) (sz : Int32) (n : Nat) (E : String) : Prop := (E = eIA ∧ ¬ (szA sz ∧ isKd y)) ∨ (E = eIO ∧ isKd y ∧ ∃ k, sz = nI k ∧ (k = 4 ∨ k = 8) ∧ ¬ ((0 ≤ x ∧ x < 4) ∧ ∃ a, inM z n k a)) ∨ (E = eIS ∧ isKd y ∧ ∃ k a, sz = nI k ∧ (k = 4 ∨ k = 8) ∧ (0 ≤ x ∧ x < 4) ∧ inM z n k a ∧ ¬ a % k = 0)
/-- what atomic does: the processor j, the size k, the place a -/
abbrev doA (cJ cI cP : ClassId) (w : Nat → Option va_E) (h n : Nat) (M T : Nat → Int64) (ra : Nat → Int64) (rs : Nat → Int32) (aT aA aS : Nat) (pt : Nat → Option Nat) (y : Int32) (v : Int64) (j k a : Nat) (r : Int64) (u : S3) : Prop :=
  kp w u.1 (sfp w h) (sfp u.1 h) ∧ ((y = 2 ∧ sm cJ cI cP u.1 h n M T (vp_updL ra j (lN (2147483648 + a))) (upd rs j (nI k)) aT aA aS u.2.2 ∧ u.2.1 = M ∧ ∃ num, r = wsg num k ∧ ∀ i, i < 64 → bi num i = rdN (mb M) a k i) ∨
  (y = 3 ∧ ((ra j = lN (2147483648 + a) ∧ rs j = nI k ∧ r = 0 ∧ sm cJ cI cP u.1 h n u.2.1 (tinc T (a / 4096) ((a + k - 1) / 4096 + 1)) (lost (vp_updL ra j 0) (a / 8) ((a + k - 1) / 8)) rs aT aA aS u.2.2 ∧ mb u.2.1 = wrN (mb M) a k v) ∨ (¬ (ra j = lN (2147483648 + a) ∧ rs j = nI k) ∧ r = 1 ∧ u.2.1 = M ∧ sm cJ cI cP u.1 h n M T (vp_updL ra j 0) rs aT aA aS u.2.2))) ∨
  (¬ y = 2 ∧ ¬ y = 3 ∧ sm cJ cI cP u.1 h n u.2.1 (tinc T (a / 4096) ((a + k - 1) / 4096 + 1)) (lost ra (a / 8) ((a + k - 1) / 8)) rs aT aA aS u.2.2 ∧ mb u.2.1 = wrN (mb M) a k (chg y r (wsg v k)) ∧ ∃ num, r = wsg num k ∧ ∀ i, i < 64 → bi num i = rdN (mb M) a k i))
set_option maxHeartbeats 4000000 in
set_option maxRecDepth 100000 in
/-- atomic -/
theorem t_S_atomic (l : Launch) (hl0 : l.stackTraces = false) (D : va_G) (cJ cI cP : ClassId) (bs : Nat) (w : Nat → Option va_E) (h n : Nat) (M T : Nat → Int64) (ra : Nat → Int64) (rs : Nat → Int32) (aT aA aS : Nat) (pt : Nat → Option Nat) (hs : sm cJ cI cP w h n M T ra rs aT aA aS pt) (hro : rok ra n) (x y : Int32) (z : Int64) (sz : Int32) (v : Int64) : vx_Met l y_S_atomic ws_S_atomic ({ frames := 6, cells := 4, slots := 1034, locals := 153 }) (mPx D vwCl (mT cJ cI cP) bs w [.ref h, .int x, .int y, .long z, .int sz, .long v]) (va_Ql (S := S3) (fun r u => isKd y ∧ ∃ j k a, j < 4 ∧ x = nI j ∧ sz = nI k ∧ (k = 4 ∨ k = 8) ∧ inM z n k a ∧ a % k = 0 ∧ doA cJ cI cP w h n M T ra rs aT aA aS pt y v j k a r u) (mB D vwCl bs (fun u => u.1)) (mA bs)) (xX D vwCl bs w (whyA x y z sz n)) 4 1034 (mA bs) := by
  refine vx_ofW (cc := c_S_atomic) (maxL := 8) (ret := (some .long)) (by decide) rfl ?_
  intro p e s m args below meth c s₁ B hml hex hv
  obtain ⟨rfl, hbs, hP, hK, hE⟩ := hv
  have hx := B.exec
  have hb := B.bytes
  have hr := B.returns
  have htg : ∀ w ∈ gt, w.before _ s = true := fun w h => atoms_spec (ws := ws_S_atomic) B.pre w (List.mem_cons_of_mem _ h)
  have hown : s.vm.findClass R_S = some m.cls := findClass_of_methodNamed B.named
  have hlocks := B.notSynchronized
  have hS : va_S (mA bs) s.heap s.heap [] := va_S.rf
  have hl := lv_entry ([.ref h, .int x, .int y, .long z, .int sz, .long v]) (n := 8) (Nat.le_of_ble_eq_true rfl)
  rw [lg_entry_eq]
  generalize (lg_sl ([.ref h, .int x, .int y, .long z, .int sz, .long v]) ++ List.replicate (8 - (lg_sl ([.ref h, .int x, .int y, .long z, .int sz, .long v])).length) Slot.unset).toArray = ls at hl ⊢
  have hl : lv_has ls 8 [(0, .ref h), (1, .int x), (2, .int y), (3, .long z), (5, .int sz), (6, .long v)] := hl
  obtain ⟨hn, s1, s2, s3, s4, s5, s6, s7⟩ := id hs
  have f1 : w h = some (.inr (ciS, [.int (nI n), .ref aT, .ref aA, .ref aS])) := s1
  refine lv_iload hx hb d_S_atomic_0 (lv_at hl 4 rfl) ?_
  refine mc_i (va_runS (As := [.int sz]) (rest := []) ⟨hx, hb, hml, hown, htg⟩ (t_S_isAtomicSize l D cJ cI cP bs w sz) (cwS (own := R_S) 1 htg (ginS k_306 k_307 k_25 k_308) rfl rfl rfl (by decide +kernel) ⟨Nat.le_of_ble_eq_true rfl, Nat.le_of_ble_eq_true rfl⟩) (mPc.preS hbs hS hP hK) rfl rfl hl.1 rfl (lv_room (Nat.le_of_ble_eq_true rfl)) d_S_atomic_2 ⟨Nat.le_of_ble_eq_true rfl, Nat.le_of_ble_eq_true rfl⟩) hS (fun r2 u2 H locs hw hP hz2 hS => ?_)
  have hsz := hw
  refine lv_if_eq (tgt := 15) hx hb d_S_atomic_5 (by decide) (fun c5 => ?_) (fun c5 => ?_)
  · exact mw_throw (E := eIA) hx hb hl0 hown htg hE (by decide +kernel) k_88 k_30 hE.2.2.2.2.2.2.2.2.1 g_IA ng_IA hE.2.2.1.1 ot_IA hP hS (hl.1.trans hml.symm) d_S_atomic_15 d_S_atomic_18 d_S_atomic_19 d_S_atomic_21 d_S_atomic_24 hex (Nat.le_of_ble_eq_true rfl) (Nat.le_of_ble_eq_true rfl) (Nat.le_of_ble_eq_true rfl) (Nat.le_of_ble_eq_true rfl) hlocks (Or.inl ⟨rfl, fun q => by first | (rw [if_pos q.2] at hkd; rw [hkd] at c12; exact absurd c12 (by decide)) | (rw [if_pos q.1] at hsz; rw [hsz] at c5; exact absurd c5 (by decide))⟩) (Nat.le_of_ble_eq_true rfl) (Nat.le_of_ble_eq_true rfl)
  · refine lv_iload_n hx hb d_S_atomic_8 rfl (lv_at hl 2 rfl) ?_
    refine mc_i (va_runS (As := [.int y]) (rest := []) ⟨hx, hb, hml, hown, htg⟩ (t_S_isKind l D cJ cI cP bs w y) (cwS (own := R_S) 1 htg (ginS k_309 k_310 k_25 k_311) rfl rfl rfl (by decide +kernel) ⟨Nat.le_of_ble_eq_true rfl, Nat.le_of_ble_eq_true rfl⟩) (mPc.preS hbs hS hP hK) rfl rfl hl.1 rfl (lv_room (Nat.le_of_ble_eq_true rfl)) d_S_atomic_9 ⟨Nat.le_of_ble_eq_true rfl, Nat.le_of_ble_eq_true rfl⟩) hS (fun r9 u9 H locs hw hP hz9 hS => ?_)
    have hkd := hw
    refine lv_if_ne (tgt := 25) hx hb d_S_atomic_12 (by decide) (fun c12 => ?_) (fun c12 => ?_)
    · have hk1 : isKd y := Classical.byContradiction (fun q => by rw [if_neg q] at hkd; exact c12 hkd)
      have hs1 : szA sz := Classical.byContradiction (fun q => by rw [if_neg q] at hsz; exact c5 hsz)
      obtain ⟨k, rfl, hk48⟩ := szA_of hs1
      have h1k : 1 ≤ k := by rcases hk48 with e | e <;> rw [e] <;> decide
      have h8k : k ≤ 8 := by rcases hk48 with e | e <;> rw [e] <;> decide
      have hl : lv_has ls 8 [(0, .ref h), (1, .int x), (2, .int y), (3, .long z), (5, .int (nI k)), (6, .long v)] := hl
      refine lv_iload_n hx hb d_S_atomic_25 rfl (lv_at hl 1 rfl) ?_
      refine mc_i (va_runS (As := [.int x]) (rest := []) ⟨hx, hb, hml, hown, htg⟩ (t_S_isProcessor l D cJ cI cP bs w x) (cwS (own := R_S) 1 htg (ginS k_313 k_314 k_25 k_315) rfl rfl rfl (by decide +kernel) ⟨Nat.le_of_ble_eq_true rfl, Nat.le_of_ble_eq_true rfl⟩) (mPc.preS hbs hS hP hK) rfl rfl hl.1 rfl (lv_room (Nat.le_of_ble_eq_true rfl)) d_S_atomic_26 ⟨Nat.le_of_ble_eq_true rfl, Nat.le_of_ble_eq_true rfl⟩) hS (fun r26 u26 H locs hw hP hz26 hS => ?_)
      have hpr := hw
      refine lv_if_eq (tgt := 42) hx hb d_S_atomic_29 (by decide) (fun c29 => ?_) (fun c29 => ?_)
      · exact mw_throw (E := eIO) hx hb hl0 hown htg hE (by decide +kernel) k_166 k_31 hE.2.2.2.2.2.2.2.2.2.1 g_IO ng_IO hE.2.2.1.2.1 ot_IO hP hS (hl.1.trans hml.symm) d_S_atomic_42 d_S_atomic_45 d_S_atomic_46 d_S_atomic_48 d_S_atomic_51 hex (Nat.le_of_ble_eq_true rfl) (Nat.le_of_ble_eq_true rfl) (Nat.le_of_ble_eq_true rfl) (Nat.le_of_ble_eq_true rfl) hlocks (Or.inr (Or.inl ⟨rfl, hk1, k, rfl, hk48, fun q => by first | (rcases hin with i1 | i1; exact absurd (i1.1.symm.trans c39) (by decide); exact i1.2 q.2) | (rw [if_pos q.1] at hpr; rw [hpr] at c29; exact absurd c29 (by decide))⟩)) (Nat.le_of_ble_eq_true rfl) (Nat.le_of_ble_eq_true rfl)
      · refine lv_aload_n hx hb d_S_atomic_32 rfl (lv_at hl 0 rfl) ?_
        refine lv_lload_n hx hb d_S_atomic_33 rfl (lv_at hl 3 rfl) ?_
        refine lv_iload hx hb d_S_atomic_34 (lv_at hl 4 rfl) ?_
        refine mc_i (va_runV (As := [.long z, .int (nI k)]) (rest := []) ⟨hx, hb, hml, hown, htg⟩ (t_S_isInMemory l D cJ cI cP bs w h n M T ra rs aT aA aS pt hs z k h8k) (cwV (own := R_S) (C := R_S) 2 htg (ginV k_156 k_158 k_1 k_25 k_159) rfl rfl rfl (by decide +kernel) ⟨Nat.le_of_ble_eq_true rfl, Nat.le_of_ble_eq_true rfl⟩) (mPc.preV (ci := ciS) (q := (R_S, T_S, 4)) hbs hS hP hK rfl f1) rfl rfl hl.1 rfl (lv_room (Nat.le_of_ble_eq_true rfl)) d_S_atomic_36 ⟨Nat.le_of_ble_eq_true rfl, Nat.le_of_ble_eq_true rfl⟩) hS (fun r36 u36 H locs hw hP hz36 hS => ?_)
        have hin := hw
        refine lv_if_ne (tgt := 52) hx hb d_S_atomic_39 (by decide) (fun c39 => ?_) (fun c39 => ?_)
        · have hp1 : 0 ≤ x ∧ x < 4 := Classical.byContradiction (fun q => by rw [if_neg q] at hpr; exact c29 hpr)
          obtain ⟨a, ha⟩ : ∃ a, inM z n k a := by
            rcases hin with i1 | i1
            · exact i1.2
            · exact absurd i1.1 c39
          obtain ⟨rfl, hak⟩ := id ha
          have hl : lv_has ls 8 [(0, .ref h), (1, .int x), (2, .int y), (3, .long (lN (2147483648 + a))), (5, .int (nI k)), (6, .long v)] := hl
          refine lv_lload_n hx hb d_S_atomic_52 rfl (lv_at hl 3 rfl) ?_
          refine lv_iload hx hb d_S_atomic_53 (lv_at hl 4 rfl) ?_
          refine lv_iconst (v := 1) hx hb d_S_atomic_55 (by decide) ?_
          refine lv_isub hx hb d_S_atomic_56 ?_
          refine lv_i2l hx hb d_S_atomic_57 rfl ?_
          refine lv_land hx hb d_S_atomic_58 ?_
          rw [show (lN (2147483648 + a)) &&& (((nI k) - 1).toInt64) = lN (a % k) from al_w (by omega) hk48]
          refine lv_lconst (v := 0) hx hb d_S_atomic_59 rfl ?_
          refine lc_eq (tgt := 74) hx hb d_S_atomic_60 d_S_atomic_61 (by decide) (fun c60 => ?_) (fun c60 => ?_)
          · have hal : a % k = 0 := by
              have := (pk_lEQ (a := a % k) (b := 0) (by rcases hk48 with e | e <;> rw [e] <;> omega) (by omega)).mp c60
              exact this
            obtain ⟨j, hj, rfl⟩ := prc_of hp1
            have hl : lv_has ls 8 [(0, .ref h), (1, .int (nI j)), (2, .int y), (3, .long (lN (2147483648 + a))), (5, .int (nI k)), (6, .long v)] := hl
            refine lv_iload_n hx hb d_S_atomic_74 rfl (lv_at hl 2 rfl) ?_
            refine lv_iconst (v := 2) hx hb d_S_atomic_75 (by decide) ?_
            refine lv_icmp_ne (tgt := 88) hx hb d_S_atomic_76 (by decide) (fun c76 => ?_) (fun c76 => ?_)
            · refine lv_iload_n hx hb d_S_atomic_88 rfl (lv_at hl 2 rfl) ?_
              refine lv_iconst (v := 3) hx hb d_S_atomic_89 (by decide) ?_
              refine lv_icmp_ne (tgt := 104) hx hb d_S_atomic_90 (by decide) (fun c90 => ?_) (fun c90 => ?_)
              · refine lv_aload_n hx hb d_S_atomic_104 rfl (lv_at hl 0 rfl) ?_
                refine lv_iload_n hx hb d_S_atomic_105 rfl (lv_at hl 2 rfl) ?_
                refine lv_lload_n hx hb d_S_atomic_106 rfl (lv_at hl 3 rfl) ?_
                refine mc_i (va_runS (As := [.long (lN (2147483648 + a))]) (rest := [.int y, .ref h]) ⟨hx, hb, hml, hown, htg⟩ (t_S_placeOf l D cJ cI cP bs w a) (cwS (own := R_S) 1 htg (ginS k_182 k_183 k_25 k_184) rfl rfl rfl (by decide +kernel) ⟨Nat.le_of_ble_eq_true rfl, Nat.le_of_ble_eq_true rfl⟩) (mPc.preS hbs hS hP hK) rfl rfl hl.1 rfl (lv_room (Nat.le_of_ble_eq_true rfl)) d_S_atomic_107 ⟨Nat.le_of_ble_eq_true rfl, Nat.le_of_ble_eq_true rfl⟩) hS (fun r107 u107 H locs hw hP hz107 hS => ?_)
                subst hw
                refine lv_iload hx hb d_S_atomic_110 (lv_at hl 4 rfl) ?_
                refine lv_lload hx hb d_S_atomic_112 (lv_at hl 5 rfl) ?_
                refine mc_l (va_runV (As := [.int y, .int (nI a), .int (nI k), .long v]) (rest := []) ⟨hx, hb, hml, hown, htg⟩ (t_S_change l D cJ cI cP bs w h n M T ra rs aT aA aS pt hs y a k h1k h8k ha.2 hro v) (cwV (own := R_S) (C := R_S) 4 htg (ginV k_344 k_346 k_15 k_25 k_347) rfl rfl rfl (by decide +kernel) ⟨Nat.le_of_ble_eq_true rfl, Nat.le_of_ble_eq_true rfl⟩) (mPc.preV (ci := ciS) (q := (R_S, T_S, 4)) hbs hS hP hK rfl f1) rfl rfl hl.1 rfl (lv_room (Nat.le_of_ble_eq_true rfl)) d_S_atomic_114 ⟨Nat.le_of_ble_eq_true rfl, Nat.le_of_ble_eq_true rfl⟩) hS (fun rr uu H locs hw hP hz114 hS => ?_)
                refine vx_ret ?_
                exact W.lret (v := rr) hx hb hr (fun t ht hW => ⟨⟨_, uu, rfl, ⟨hk1, j, k, a, hj, rfl, rfl, hk48, ha, hal, ⟨hw.2.2.1, Or.inr (Or.inr ⟨c76, c90, hw.1, hw.2.1, hw.2.2.2⟩)⟩⟩, hP.at ht⟩, hS.F ht⟩) hS.2.2 d_S_atomic_117
              · refine lv_aload_n hx hb d_S_atomic_93 rfl (lv_at hl 0 rfl) ?_
                refine lv_iload_n hx hb d_S_atomic_94 rfl (lv_at hl 1 rfl) ?_
                refine lv_lload_n hx hb d_S_atomic_95 rfl (lv_at hl 3 rfl) ?_
                refine lv_iload hx hb d_S_atomic_96 (lv_at hl 4 rfl) ?_
                refine lv_lload hx hb d_S_atomic_98 (lv_at hl 5 rfl) ?_
                refine mc_l (va_runV (As := [.int (nI j), .long (lN (2147483648 + a)), .int (nI k), .long v]) (rest := []) ⟨hx, hb, hml, hown, htg⟩ (t_S_sir l D cJ cI cP bs w h n M T ra rs aT aA aS pt hs j hj a k h1k h8k ha.2 hro v) (cwV (own := R_S) (C := R_S) 4 htg (ginV k_340 k_342 k_14 k_25 k_343) rfl rfl rfl (by decide +kernel) ⟨Nat.le_of_ble_eq_true rfl, Nat.le_of_ble_eq_true rfl⟩) (mPc.preV (ci := ciS) (q := (R_S, T_S, 4)) hbs hS hP hK rfl f1) rfl rfl hl.1 rfl (lv_room (Nat.le_of_ble_eq_true rfl)) d_S_atomic_100 ⟨Nat.le_of_ble_eq_true rfl, Nat.le_of_ble_eq_true rfl⟩) hS (fun rr uu H locs hw hP hz100 hS => ?_)
                obtain ⟨u2, hu2, hdo⟩ : ∃ u2 : S3, u2.1 = uu.1 ∧ doA cJ cI cP w h n M T ra rs aT aA aS pt y v j k a rr u2 := by
                  rcases hw with ⟨e1, e2, e3, e4, e5, e6⟩ | ⟨e1, e2, e3, e4⟩
                  · exact ⟨uu, rfl, e6, Or.inr (Or.inl ⟨c90, Or.inl ⟨e1, e2, e3, e4, e5⟩⟩)⟩
                  · exact ⟨(uu.1, M, pt), rfl, e4, Or.inr (Or.inl ⟨c90, Or.inr ⟨e1, e2, rfl, e3⟩⟩)⟩
                rw [← hu2] at hP
                refine vx_ret ?_
                exact W.lret (v := rr) hx hb hr (fun t ht hW => ⟨⟨_, u2, rfl, ⟨hk1, j, k, a, hj, rfl, rfl, hk48, ha, hal, hdo⟩, hP.at ht⟩, hS.F ht⟩) hS.2.2 d_S_atomic_103
            · refine lv_aload_n hx hb d_S_atomic_79 rfl (lv_at hl 0 rfl) ?_
              refine lv_iload_n hx hb d_S_atomic_80 rfl (lv_at hl 1 rfl) ?_
              refine lv_lload_n hx hb d_S_atomic_81 rfl (lv_at hl 3 rfl) ?_
              refine lv_iload hx hb d_S_atomic_82 (lv_at hl 4 rfl) ?_
              refine mc_l (va_runV (As := [.int (nI j), .long (lN (2147483648 + a)), .int (nI k)]) (rest := []) ⟨hx, hb, hml, hown, htg⟩ (t_S_reserve l D cJ cI cP bs w h n M T ra rs aT aA aS pt hs j hj a k h1k h8k ha.2) (cwV (own := R_S) (C := R_S) 3 htg (ginV k_333 k_335 k_13 k_25 k_336) rfl rfl rfl (by decide +kernel) ⟨Nat.le_of_ble_eq_true rfl, Nat.le_of_ble_eq_true rfl⟩) (mPc.preV (ci := ciS) (q := (R_S, T_S, 4)) hbs hS hP hK rfl f1) rfl rfl hl.1 rfl (lv_room (Nat.le_of_ble_eq_true rfl)) d_S_atomic_84 ⟨Nat.le_of_ble_eq_true rfl, Nat.le_of_ble_eq_true rfl⟩) hS (fun rr uu H locs hw hP hz84 hS => ?_)
              obtain ⟨z1, z2, z3⟩ := hw
              refine W.widen (k := 4) (n := 1034) (Nat.zero_le _) (Nat.zero_le _) ?_
              refine vx_ret ?_
              exact W.lret (v := rr) hx hb hr (fun t ht hW => ⟨⟨_, (uu, M, pt), rfl, ⟨hk1, j, k, a, hj, rfl, rfl, hk48, ha, hal, ⟨z2, Or.inl ⟨c76, z1, rfl, z3⟩⟩⟩, hP.at ht⟩, hS.F ht⟩) hS.2.2 d_S_atomic_87
          · exact mw_throw (E := eIS) hx hb hl0 hown htg hE (by decide +kernel) k_317 k_35 hE.2.2.2.2.2.2.2.2.2.2.1 g_IS ng_IS hE.2.2.1.2.2 ot_IS hP hS (hl.1.trans hml.symm) d_S_atomic_64 d_S_atomic_67 d_S_atomic_68 d_S_atomic_70 d_S_atomic_73 hex (Nat.le_of_ble_eq_true rfl) (Nat.le_of_ble_eq_true rfl) (Nat.le_of_ble_eq_true rfl) (Nat.le_of_ble_eq_true rfl) hlocks (Or.inr (Or.inr ⟨rfl, hk1, k, a, rfl, hk48, hp1, ha, fun q => c60 (by rw [q]; rfl)⟩)) (Nat.le_of_ble_eq_true rfl) (Nat.le_of_ble_eq_true rfl)
        · exact mw_throw (E := eIO) hx hb hl0 hown htg hE (by decide +kernel) k_166 k_31 hE.2.2.2.2.2.2.2.2.2.1 g_IO ng_IO hE.2.2.1.2.1 ot_IO hP hS (hl.1.trans hml.symm) d_S_atomic_42 d_S_atomic_45 d_S_atomic_46 d_S_atomic_48 d_S_atomic_51 hex (Nat.le_of_ble_eq_true rfl) (Nat.le_of_ble_eq_true rfl) (Nat.le_of_ble_eq_true rfl) (Nat.le_of_ble_eq_true rfl) hlocks (Or.inr (Or.inl ⟨rfl, hk1, k, rfl, hk48, fun q => by first | (rcases hin with i1 | i1; exact absurd (i1.1.symm.trans c39) (by decide); exact i1.2 q.2) | (rw [if_pos q.1] at hpr; rw [hpr] at c29; exact absurd c29 (by decide))⟩)) (Nat.le_of_ble_eq_true rfl) (Nat.le_of_ble_eq_true rfl)
    · exact mw_throw (E := eIA) hx hb hl0 hown htg hE (by decide +kernel) k_88 k_30 hE.2.2.2.2.2.2.2.2.1 g_IA ng_IA hE.2.2.1.1 ot_IA hP hS (hl.1.trans hml.symm) d_S_atomic_15 d_S_atomic_18 d_S_atomic_19 d_S_atomic_21 d_S_atomic_24 hex (Nat.le_of_ble_eq_true rfl) (Nat.le_of_ble_eq_true rfl) (Nat.le_of_ble_eq_true rfl) (Nat.le_of_ble_eq_true rfl) hlocks (Or.inl ⟨rfl, fun q => by first | (rw [if_pos q.2] at hkd; rw [hkd] at c12; exact absurd c12 (by decide)) | (rw [if_pos q.1] at hsz; rw [hsz] at c5; exact absurd c5 (by decide))⟩) (Nat.le_of_ble_eq_true rfl) (Nat.le_of_ble_eq_true rfl)
