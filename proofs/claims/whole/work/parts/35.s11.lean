/-- a byte in each of the eight places -/
def pat (v : Int32) : Int64 := (v &&& 255).toInt64 * 72340172838076673
abbrev inF (x y : Int64) (n a b : Nat) : Prop := x = lN (2147483648 + a) ∧ y = lN (2147483648 + b) ∧ a < b ∧ b ≤ 4096 * n
abbrev whyF (x y : Int64) (n : Nat) (E : String) : Prop := (E = eIA ∧ ¬ x ≤ y) ∨ (E = eIO ∧ x ≤ y ∧ ¬ y = x ∧ ¬ ∃ a b, inF x y n a b)
theorem inF_of {x y : Int64} {n : Nat} (hn : n ≤ 1024) (h0 : x ≤ y) (h1 : ¬ y = x) (h2 : ¬ x < 2147483648) (h3 : y ≤ lN (2147483648 + 4096 * n)) : ∃ a b, inF x y n a b := by
  obtain ⟨m, hm, rfl⟩ := pk_lOf (fun z => h2 (Int64.lt_of_lt_of_le z (by decide)))
  have e1 : ¬ m < 2147483648 := fun z => h2 ((pk_lLT (b := 2147483648) hm (by omega)).mpr z)
  obtain ⟨q, hq, rfl⟩ := pk_lOf (x := y) (fun z => h2 (Int64.lt_of_le_of_lt h0 (Int64.lt_of_lt_of_le z (by decide))))
  have e2 : m ≤ q := (pk_lLE hm hq).mp h0
  have e3 : ¬ q = m := fun z => h1 (by rw [z])
  have e4 : q ≤ 2147483648 + 4096 * n := (pk_lLE hq (by omega)).mp h3
  exact ⟨m - 2147483648, q - 2147483648, by rw [show 2147483648 + (m - 2147483648) = m by omega], by rw [show 2147483648 + (q - 2147483648) = q by omega], by omega, by omega⟩
theorem inF_lo {x y : Int64} {n a b : Nat} (hn : n ≤ 1024) (h : inF x y n a b) : ¬ x < 2147483648 := by
  obtain ⟨rfl, rfl, h1, h2⟩ := h
  exact fun z => by
    have := (pk_lLT (a := 2147483648 + a) (b := 2147483648) (by omega) (by omega)).mp z
    omega
theorem inF_hi {x y : Int64} {n a b : Nat} (hn : n ≤ 1024) (h : inF x y n a b) : y ≤ lN (2147483648 + 4096 * n) := by
  obtain ⟨rfl, rfl, h1, h2⟩ := h
  exact (pk_lLE (by omega) (by omega)).mpr (by omega)
set_option maxHeartbeats 4000000 in
set_option maxRecDepth 100000 in
/-- fill -/
theorem t_S_fill (l : Launch) (hl0 : l.stackTraces = false) (D : va_G) (cJ cI cP : ClassId) (bs : Nat) (w : Nat → Option va_E) (h n : Nat) (M T : Nat → Int64) (ra : Nat → Int64) (rs : Nat → Int32) (aT aA aS : Nat) (pt : Nat → Option Nat) (hs : sm cJ cI cP w h n M T ra rs aT aA aS pt) (hro : rok ra n) (x y : Int64) (v : Int32) : vx_Met l y_S_fill ws_S_fill ({ frames := 6, cells := 1026, slots := 6144, locals := 131 }) (mPx D vwCl (mT cJ cI cP) bs w [.ref h, .long x, .long y, .int v]) (va_Qv (S := S3) (fun u => (y = x ∧ u = (w, M, pt)) ∨ (x ≤ y ∧ ¬ y = x ∧ ∃ a b, inF x y n a b ∧ sm cJ cI cP u.1 h n u.2.1 (tinc T (a / 4096) ((b - 1) / 4096 + 1)) (lost ra (a / 8) ((b - 1) / 8)) rs aT aA aS u.2.2 ∧ (∀ k z, z < 64 → bi (u.2.1 k) z = flB M a (b - 1) (pat v) k z) ∧ kp w u.1 (sfp w h) (sfp u.1 h))) (mB D vwCl bs (fun u => u.1)) (mA bs)) (xX D vwCl bs w (whyF x y n)) 1026 6144 (mA bs) := by
  refine vx_ofW (cc := c_S_fill) (maxL := 6) (ret := none) (by decide) rfl ?_
  intro p e s m args below meth c s₁ B hml hex hv
  obtain ⟨rfl, hbs, hP, hK, hE⟩ := hv
  have hx := B.exec
  have hb := B.bytes
  have hr := B.returns
  have htg : ∀ w ∈ gt, w.before _ s = true := fun w h => atoms_spec (ws := ws_S_fill) B.pre w (List.mem_cons_of_mem _ h)
  have hown : s.vm.findClass R_S = some m.cls := findClass_of_methodNamed B.named
  have hlocks := B.notSynchronized
  have hS : va_S (mA bs) s.heap s.heap [] := va_S.rf
  have hl := lv_entry ([.ref h, .long x, .long y, .int v]) (n := 6) (Nat.le_of_ble_eq_true rfl)
  rw [lg_entry_eq]
  generalize (lg_sl ([.ref h, .long x, .long y, .int v]) ++ List.replicate (6 - (lg_sl ([.ref h, .long x, .long y, .int v])).length) Slot.unset).toArray = ls at hl ⊢
  have hl : lv_has ls 6 [(0, .ref h), (1, .long x), (3, .long y), (5, .int v)] := hl
  obtain ⟨hn, s1, s2, s3, s4, s5, s6, s7⟩ := id hs
  have f1 : w h = some (.inr (ciS, [.int (nI n), .ref aT, .ref aA, .ref aS])) := s1
  refine lv_lload_n hx hb d_S_fill_0 rfl (lv_at hl 2 rfl) ?_
  refine lv_lload_n hx hb d_S_fill_1 rfl (lv_at hl 1 rfl) ?_
  refine lc_ge (tgt := 16) hx hb d_S_fill_2 d_S_fill_3 (by decide) (fun c2 => ?_) (fun c2 => ?_)
  · refine lv_lload_n hx hb d_S_fill_16 rfl (lv_at hl 2 rfl) ?_
    refine lv_lload_n hx hb d_S_fill_17 rfl (lv_at hl 1 rfl) ?_
    refine lc_ne (tgt := 23) hx hb d_S_fill_18 d_S_fill_19 (by decide) (fun c18 => ?_) (fun c18 => ?_)
    · refine lv_lload_n hx hb d_S_fill_23 rfl (lv_at hl 1 rfl) ?_
      refine lv_ldc2 (own := R_S) (v := 2147483648) hx hb hown (htg _ k_160) d_S_fill_24 ?_
      refine lc_lt (tgt := 40) hx hb d_S_fill_27 d_S_fill_28 (by decide) (fun c27 => ?_) (fun c27 => ?_)
      · exact mw_throw (E := eIO) hx hb hl0 hown htg hE (by decide +kernel) k_166 k_31 hE.2.2.2.2.2.2.1 g_IO ng_IO hE.2.2.1.2.1 ot_IO hP hS (hl.1.trans hml.symm) d_S_fill_40 d_S_fill_43 d_S_fill_44 d_S_fill_46 d_S_fill_49 hex (Nat.le_of_ble_eq_true rfl) (Nat.le_of_ble_eq_true rfl) (Nat.le_of_ble_eq_true rfl) (Nat.le_of_ble_eq_true rfl) hlocks (Or.inr ⟨rfl, c2, c18, fun ⟨a, b, q⟩ => by first | exact c36 (inF_hi hn.2 q) | exact inF_lo hn.2 q c27⟩) (Nat.le_of_ble_eq_true rfl) (Nat.le_of_ble_eq_true rfl)
      · refine lv_lload_n hx hb d_S_fill_31 rfl (lv_at hl 2 rfl) ?_
        refine lv_aload_n hx hb d_S_fill_32 rfl (lv_at hl 0 rfl) ?_
        refine mc_l (va_runV (As := []) (rest := [.long y]) ⟨hx, hb, hml, hown, htg⟩ (t_S_endAddress l D cJ cI cP bs w h n M T ra rs aT aA aS pt hs) (cwV (own := R_S) (C := R_S) 0 htg (ginV k_161 k_163 k_2 k_25 k_164) rfl rfl rfl (by decide +kernel) ⟨Nat.le_of_ble_eq_true rfl, Nat.le_of_ble_eq_true rfl⟩) (mPc.preV (ci := ciS) (q := (R_S, T_S, 4)) hbs hS hP hK rfl f1) rfl rfl hl.1 rfl (lv_room (Nat.le_of_ble_eq_true rfl)) d_S_fill_33 ⟨Nat.le_of_ble_eq_true rfl, Nat.le_of_ble_eq_true rfl⟩) hS (fun r33 u33 H locs hw hP hz33 hS => ?_)
        subst hw
        refine lc_le (tgt := 50) hx hb d_S_fill_36 d_S_fill_37 (by decide) (fun c36 => ?_) (fun c36 => ?_)
        · obtain ⟨a, b, hab⟩ := inF_of hn.2 c2 c18 c27 c36
          obtain ⟨rfl, rfl, hlt, hbn⟩ := id hab
          have hl : lv_has ls 6 [(0, .ref h), (1, .long (lN (2147483648 + a))), (3, .long (lN (2147483648 + b))), (5, .int v)] := hl
          refine lv_aload_n hx hb d_S_fill_50 rfl (lv_at hl 0 rfl) ?_
          refine lv_lload_n hx hb d_S_fill_51 rfl (lv_at hl 1 rfl) ?_
          refine mc_i (va_runS (As := [.long (lN (2147483648 + a))]) (rest := [.ref h]) ⟨hx, hb, hml, hown, htg⟩ (t_S_placeOf l D cJ cI cP bs w a) (cwS (own := R_S) 1 htg (ginS k_182 k_183 k_25 k_184) rfl rfl rfl (by decide +kernel) ⟨Nat.le_of_ble_eq_true rfl, Nat.le_of_ble_eq_true rfl⟩) (mPc.preS hbs hS hP hK) rfl rfl hl.1 rfl (lv_room (Nat.le_of_ble_eq_true rfl)) d_S_fill_52 ⟨Nat.le_of_ble_eq_true rfl, Nat.le_of_ble_eq_true rfl⟩) hS (fun r52 u52 H locs hw hP hz52 hS => ?_)
          subst hw
          refine lv_lload_n hx hb d_S_fill_55 rfl (lv_at hl 2 rfl) ?_
          refine lv_lconst (v := 1) hx hb d_S_fill_56 rfl ?_
          refine lv_lsub hx hb d_S_fill_57 ?_
          rw [show (lN (2147483648 + b)) - 1 = lN (2147483648 + (b - 1)) from (by show lN _ - lN 1 = _; rw [lN_sub (by omega)]; congr 1; omega)]
          refine mc_i (va_runS (As := [.long (lN (2147483648 + (b - 1)))]) (rest := [.int (nI a), .ref h]) ⟨hx, hb, hml, hown, htg⟩ (t_S_placeOf l D cJ cI cP bs w (b - 1)) (cwS (own := R_S) 1 htg (ginS k_182 k_183 k_25 k_184) rfl rfl rfl (by decide +kernel) ⟨Nat.le_of_ble_eq_true rfl, Nat.le_of_ble_eq_true rfl⟩) (mPc.preS hbs hS hP hK) rfl rfl hl.1 rfl (lv_room (Nat.le_of_ble_eq_true rfl)) d_S_fill_58 ⟨Nat.le_of_ble_eq_true rfl, Nat.le_of_ble_eq_true rfl⟩) hS (fun r58 u58 H locs hw hP hz58 hS => ?_)
          subst hw
          refine lv_iload hx hb d_S_fill_61 (lv_at hl 3 rfl) ?_
          refine lv_sipush (v := 255) hx hb d_S_fill_63 (by decide) ?_
          refine lv_iand hx hb d_S_fill_66 ?_
          refine lv_i2l hx hb d_S_fill_67 rfl ?_
          refine lv_ldc2 (own := R_S) (v := 72340172838076673) hx hb hown (htg _ k_277) d_S_fill_68 ?_
          refine lv_lmul hx hb d_S_fill_71 ?_
          change W _ _ _ _ _ _ _ _ _ _ _ _ _ _ _ (F0 m 72 ls (.long (pat v) :: [.int (nI (b - 1)), .int (nI a), .ref h]))
          refine mc_v (va_runV (As := [.int (nI a), .int (nI (b - 1)), .long (pat v)]) (rest := []) ⟨hx, hb, hml, hown, htg⟩ (t_S_psb l D cJ cI cP bs w h n M T ra rs aT aA aS pt hs a (b - 1) (by omega) (by omega) hro (pat v)) (cwV (own := R_S) (C := R_S) 3 htg (ginV k_278 k_280 k_11 k_25 k_281) rfl rfl rfl (by decide +kernel) ⟨Nat.le_of_ble_eq_true rfl, Nat.le_of_ble_eq_true rfl⟩) (mPx.preV (ci := ciS) (q := (R_S, T_S, 4)) hbs hS hP hK hE rfl f1) rfl rfl hl.1 rfl (lv_room (Nat.le_of_ble_eq_true rfl)) d_S_fill_72 ⟨Nat.le_of_ble_eq_true rfl, Nat.le_of_ble_eq_true rfl⟩) hS (fun uu H locs hw hP hz72 hS => ?_)
          refine vx_ret ?_
          exact W.vret hx hb hr (fun t ht hW => ⟨⟨uu, rfl, Or.inr ⟨c2, c18, a, b, hab, hw⟩, hP.at ht⟩, hS.F ht⟩) hS.2.2 d_S_fill_75
        · exact mw_throw (E := eIO) hx hb hl0 hown htg hE (by decide +kernel) k_166 k_31 hE.2.2.2.2.2.2.1 g_IO ng_IO hE.2.2.1.2.1 ot_IO hP hS (hl.1.trans hml.symm) d_S_fill_40 d_S_fill_43 d_S_fill_44 d_S_fill_46 d_S_fill_49 hex (Nat.le_of_ble_eq_true rfl) (Nat.le_of_ble_eq_true rfl) (Nat.le_of_ble_eq_true rfl) (Nat.le_of_ble_eq_true rfl) hlocks (Or.inr ⟨rfl, c2, c18, fun ⟨a, b, q⟩ => by first | exact c36 (inF_hi hn.2 q) | exact inF_lo hn.2 q c27⟩) (Nat.le_of_ble_eq_true rfl) (Nat.le_of_ble_eq_true rfl)
    · refine W.widen (k := 1026) (n := 6144) (Nat.zero_le _) (Nat.zero_le _) ?_
      refine vx_ret ?_
      exact W.vret hx hb hr (fun t ht hW => ⟨⟨(w, M, pt), rfl, Or.inl ⟨c18, rfl⟩, hP.at ht⟩, hS.F ht⟩) hS.2.2 d_S_fill_22
  · exact mw_throw (E := eIA) hx hb hl0 hown htg hE (by decide +kernel) k_88 k_30 hE.2.2.2.2.2.2.2.1 g_IA ng_IA hE.2.2.1.1 ot_IA hP hS (hl.1.trans hml.symm) d_S_fill_6 d_S_fill_9 d_S_fill_10 d_S_fill_12 d_S_fill_15 hex (Nat.le_of_ble_eq_true rfl) (Nat.le_of_ble_eq_true rfl) (Nat.le_of_ble_eq_true rfl) (Nat.le_of_ble_eq_true rfl) hlocks (Or.inl ⟨rfl, c2⟩) (Nat.le_of_ble_eq_true rfl) (Nat.le_of_ble_eq_true rfl)
/-- a word, byte by byte from the lowest -/
def swd (x : Int64) : Nat → Int64
  | 0 => x
  | q + 1 => ((swd x q).toUInt64 >>> ((8 : Int32).toInt64.toUInt64 &&& Int64.toUInt64 63)).toInt64
theorem swd_b (x : Int64) : ∀ q i, bi (swd x q) i = bi x (8 * q + i) := by
  intro q
  induction q with
  | zero => intro i; show bi x i = _; congr 1; omega
  | succ q ih =>
    intro i
    show bi (((swd x q).toUInt64 >>> ((nI 8).toInt64.toUInt64 &&& Int64.toUInt64 63)).toInt64) i = _
    rw [bi_ushr _ (by omega), ih]
    congr 1
    omega
theorem swd_z {x : Int64} {q : Nat} (h : swd x q = 0) : ∀ d, swd x (q + d) = 0 := by
  intro d
  apply bi_ext
  intro i hi
  rw [swd_b, bi_0, show 8 * (q + d) + i = 8 * q + (8 * d + i) by omega, ← swd_b, h, bi_0]
theorem swd_8 (x : Int64) : swd x 8 = 0 := by
  apply bi_ext
  intro i hi
  rw [swd_b, bi_0, bi_big (by omega)]
/-- what a byte adds to the sum -/
def wtk (Wd : Nat → Int64) (k : Nat) : Int64 := (swd (Wd (k / 8)) (k % 8) &&& 255) * lN (k + 1)
def tot (Wd : Nat → Int64) : Nat → Int64
  | 0 => 0
  | k + 1 => tot Wd k + wtk Wd k
theorem wtk_0 {Wd : Nat → Int64} {k : Nat} (h : swd (Wd (k / 8)) (k % 8) = 0) : wtk Wd k = 0 := by
  unfold wtk
  rw [h]
  show (0 &&& 255) * lN (k + 1) = (0 : Int64)
  rw [show (0 &&& 255 : Int64) = 0 from rfl, Int64.zero_mul]
theorem tot_z {Wd : Nat → Int64} {i q : Nat} (hq : q ≤ 8) (h : swd (Wd i) q = 0) : ∀ d, q + d ≤ 8 → tot Wd (8 * i + (q + d)) = tot Wd (8 * i + q) := by
  intro d
  induction d with
  | zero => intro _; rfl
  | succ d ih =>
    intro hd
    show tot Wd (8 * i + (q + d)) + wtk Wd (8 * i + (q + d)) = _
    rw [ih (by omega), wtk_0 (by rw [show (8 * i + (q + d)) / 8 = i by omega, show (8 * i + (q + d)) % 8 = q + d by omega]; exact swd_z h d), Int64.add_zero]
set_option maxHeartbeats 4000000 in
set_option maxRecDepth 100000 in
/-- weightedSum: the bytes of a word -/
theorem lp_P_ws1 {p : Program} {l : Launch} {e : Env} {s : State} {m : MethodId} {args : Array Value} {below : List Frame} {meth : Method} {c : Code} {Q : State → Prop} {D : va_G} {cJ cI cP : ClassId} {bs : Nat} (hx : p.tables.exec = Jvm.exec) (hb : c.code = c_P_weightedSum) (hml : c.maxLocals = 7) (hown : s.vm.findClass R_P = some m.cls) (htg : ∀ w ∈ gt, w.before args s = true) (hK : va_K D vwCl (mT cJ cI cP) s) (hbs : bs ≤ s.heap.size) (w : Nat → Option va_E) (pa : Nat) (Wd : Nat → Int64) (i : Nat) (hi : i < 512) (kx : ∀ (ls : Array Slot) (H : Heap) (locs : List Loc), mw D vwCl bs w H → va_S (mA bs) s.heap H locs → lv_has ls 7 [(1, .long (tot Wd (8 * i + 8))), (3, .int (nI i)), (0, .ref pa)] → W p l e ({ frames := 1, cells := 0, slots := 0, locals := 21 } : Room) s m args below meth c H locs 0 0 Q (F0 m 71 ls [])) :
    ∀ (k : Nat) (q : Nat) (ls : Array Slot) (H : Heap) (locs : List Loc), 8 - q < k → q ≤ 8 → mw D vwCl bs w H → va_S (mA bs) s.heap H locs → lv_has ls 7 [(6, .int (nI (8 * i + 1 + q))), (4, .long (swd (Wd i) q)), (1, .long (tot Wd (8 * i + q))), (3, .int (nI i)), (0, .ref pa)] → W p l e ({ frames := 1, cells := 0, slots := 0, locals := 21 } : Room) s m args below meth c H locs 0 0 Q (F0 m 26 ls []) := by
  intro k
  induction k with
  | zero => intro q ls H locs hk0; exact absurd hk0 (by omega)
  | succ k ih =>
    intro q ls H locs hk hq hP hS hl
    refine lv_lload hx hb d_P_weightedSum_26 (lv_at hl 1 rfl) ?_
    refine lv_lconst (v := 0) hx hb d_P_weightedSum_28 rfl ?_
    refine lc_eq (tgt := 71) hx hb d_P_weightedSum_29 d_P_weightedSum_30 (by decide) (fun c29 => ?_) (fun c29 => ?_)
    · have et := tot_z hq c29 (8 - q) (by omega)
      rw [show q + (8 - q) = 8 by omega] at et
      exact kx ls H locs hP hS (by rw [et]; exact lv_sub hl [2, 3, 4] rfl)
    · refine lv_iload hx hb d_P_weightedSum_33 (lv_at hl 0 rfl) ?_
      refine lv_bipush (v := 8) hx hb d_P_weightedSum_35 (by decide) ?_
      refine lv_iload_n hx hb d_P_weightedSum_37 rfl (lv_at hl 3 rfl) ?_
      refine lv_imul hx hb d_P_weightedSum_38 ?_
      refine lv_bipush (v := 8) hx hb d_P_weightedSum_39 (by decide) ?_
      refine lv_iadd hx hb d_P_weightedSum_41 ?_
      rw [show (8 * (nI i)) + 8 = nI (8 * i + 8) from (by show nI 8 * nI i + nI 8 = _; rw [pk_mul, nI_add])]
      refine lv_icmp_gt (tgt := 71) hx hb d_P_weightedSum_42 (by decide) (fun c42 => ?_) (fun c42 => ?_)
      · have e8 : q = 8 := by
          have := (nI_ltI (by omega) (by omega)).mp c42
          omega
        subst e8
        exact kx ls H locs hP hS (lv_sub hl [2, 3, 4] rfl)
      · have hq8 : q < 8 := by
          rcases Nat.lt_or_ge q 8 with z | z
          · exact z
          · exact absurd (nI_lt (show 8 * i + 8 < 8 * i + 1 + q by omega) (by omega)) c42
        refine lv_lload_n hx hb d_P_weightedSum_45 rfl (lv_at hl 2 rfl) ?_
        refine lv_lload hx hb d_P_weightedSum_46 (lv_at hl 1 rfl) ?_
        refine lv_ldc2 (own := R_P) (v := 255) hx hb hown (htg _ k_403) d_P_weightedSum_48 ?_
        refine lv_land hx hb d_P_weightedSum_51 ?_
        refine lv_iload hx hb d_P_weightedSum_52 (lv_at hl 0 rfl) ?_
        refine lv_i2l hx hb d_P_weightedSum_54 rfl ?_
        refine lv_lmul hx hb d_P_weightedSum_55 ?_
        refine lv_ladd hx hb d_P_weightedSum_56 ?_
        refine lv_topl (fun x_1 ex_1 => ?_)
        refine lv_lstore_n (lv' := [(1, .long x_1), (6, .int (nI (8 * i + 1 + q))), (4, .long (swd (Wd i) q)), (3, .int (nI i)), (0, .ref pa)]) hx hb d_P_weightedSum_57 rfl hl (by decide) rfl (fun ls hl => ?_)
        refine lv_lload hx hb d_P_weightedSum_58 (lv_at hl 2 rfl) ?_
        refine lv_bipush (v := 8) hx hb d_P_weightedSum_60 (by decide) ?_
        refine lv_lushr hx hb d_P_weightedSum_62 rfl ?_
        refine lv_topl (fun x_2 ex_2 => ?_)
        refine lv_lstore (lv' := [(4, .long x_2), (1, .long x_1), (6, .int (nI (8 * i + 1 + q))), (3, .int (nI i)), (0, .ref pa)]) hx hb d_P_weightedSum_63 hl (by decide) rfl (fun ls hl => ?_)
        obtain ⟨i_3, ei_3⟩ : ∃ y : Int32, y = (nI (8 * i + 1 + q)) + 1 := ⟨_, rfl⟩
        refine lv_iinc (v := i_3) (lv' := [(6, .int i_3), (4, .long x_2), (1, .long x_1), (3, .int (nI i)), (0, .ref pa)]) hx hb d_P_weightedSum_65 hl (k := 2) rfl (by rw [ei_3]; rfl) (by decide) rfl (fun ls hl => ?_)
        refine lv_goto (tgt := 26) hx hb d_P_weightedSum_68 (by decide) ?_
        have h6 : i_3 = nI (8 * i + 1 + (q + 1)) := by rw [ei_3, nI_1]; rfl
        have h4 : x_2 = swd (Wd i) (q + 1) := by rw [ex_2]; rfl
        have h1 : x_1 = tot Wd (8 * i + (q + 1)) := by
          rw [ex_1]
          show _ = tot Wd (8 * i + q) + wtk Wd (8 * i + q)
          unfold wtk
          rw [show (8 * i + q) / 8 = i by omega, show (8 * i + q) % 8 = q by omega, nI_l (by omega), show 8 * i + 1 + q = 8 * i + q + 1 by omega]
        rw [h6, h4, h1] at hl
        exact ih (q + 1) ls H locs (by omega) (by omega) hP hS (lv_sub hl [0, 1, 2, 3, 4] rfl)
set_option maxHeartbeats 4000000 in
set_option maxRecDepth 100000 in
/-- weightedSum: the words -/
theorem lp_P_ws2 {p : Program} {l : Launch} {e : Env} {s : State} {m : MethodId} {args : Array Value} {below : List Frame} {meth : Method} {c : Code} {Q : State → Prop} {D : va_G} {cJ cI cP : ClassId} {bs : Nat} (hx : p.tables.exec = Jvm.exec) (hb : c.code = c_P_weightedSum) (hml : c.maxLocals = 7) (hown : s.vm.findClass R_P = some m.cls) (htg : ∀ w ∈ gt, w.before args s = true) (hK : va_K D vwCl (mT cJ cI cP) s) (hbs : bs ≤ s.heap.size) (w : Nat → Option va_E) (pa : Nat) (Wd : Nat → Int64) (tw : Int64) (hp : pg cJ w pa Wd tw) (kx : ∀ (ls : Array Slot) (H : Heap) (locs : List Loc), mw D vwCl bs w H → va_S (mA bs) s.heap H locs → lv_has ls 7 [(1, .long (tot Wd 4096))] → W p l e ({ frames := 1, cells := 0, slots := 0, locals := 21 } : Room) s m args below meth c H locs 0 0 Q (F0 m 77 ls [])) :
    ∀ (k : Nat) (i : Nat) (ls : Array Slot) (H : Heap) (locs : List Loc), 512 - i < k → i ≤ 512 → mw D vwCl bs w H → va_S (mA bs) s.heap H locs → lv_has ls 7 [(1, .long (tot Wd (8 * i))), (3, .int (nI i)), (0, .ref pa)] → W p l e ({ frames := 1, cells := 0, slots := 0, locals := 21 } : Room) s m args below meth c H locs 0 0 Q (F0 m 4 ls []) := by
  intro k
  induction k with
  | zero => intro i ls H locs hk0; exact absurd hk0 (by omega)
  | succ k ih =>
    intro i ls H locs hk hi hP hS hl
    obtain ⟨wr, ev, ew, g1, g2⟩ := id hp
    refine lv_iload_n hx hb d_P_weightedSum_4 rfl (lv_at hl 1 rfl) ?_
    refine lv_sipush (v := 512) hx hb d_P_weightedSum_5 (by decide) ?_
    refine lv_icmp_ge (tgt := 77) hx hb d_P_weightedSum_8 (by decide) (fun c8 => ?_) (fun c8 => ?_)
    · have e5 : i = 512 := Nat.le_antisymm hi (Nat.le_of_not_lt (fun z => nI_ge z (by omega) (show nI 512 ≤ nI i from c8)))
      subst e5
      exact kx ls H locs hP hS (lv_sub hl [0] rfl)
    · have hlt : i < 512 := Nat.lt_of_not_le (fun z => c8 (show nI 512 ≤ nI i from nI_le z (by omega)))
      refine lv_aload_n hx hb d_P_weightedSum_11 rfl (lv_at hl 2 rfl) ?_
      refine lv_iload_n hx hb d_P_weightedSum_12 rfl (lv_at hl 1 rfl) ?_
      refine mc_l (va_runV (As := [.int (nI i)]) (rest := []) ⟨hx, hb, hml, hown, htg⟩ (t_P_wordAt l D cJ cI cP bs w pa Wd tw hp i hlt) (cwV (own := R_P) (C := R_P) 1 htg (ginV k_248 k_197 k_198 k_32 k_199) rfl rfl rfl (by decide +kernel) ⟨Nat.le_of_ble_eq_true rfl, Nat.le_of_ble_eq_true rfl⟩) (mPc.preV (ci := ciP) (q := (R_P, T_P, 5)) hbs hS hP hK rfl g1) rfl rfl hl.1 rfl (lv_room (Nat.le_of_ble_eq_true rfl)) d_P_weightedSum_13 ⟨Nat.le_of_ble_eq_true rfl, Nat.le_of_ble_eq_true rfl⟩) hS (fun r13 u13 H locs hw hP hz13 hS => ?_)
      subst hw
      refine lv_topl (fun x_1 ex_1 => ?_)
      refine lv_lstore (lv' := [(4, .long x_1), (1, .long (tot Wd (8 * i))), (3, .int (nI i)), (0, .ref pa)]) hx hb d_P_weightedSum_16 hl (by decide) rfl (fun ls hl => ?_)
      refine lv_bipush (v := 8) hx hb d_P_weightedSum_18 (by decide) ?_
      refine lv_iload_n hx hb d_P_weightedSum_20 rfl (lv_at hl 2 rfl) ?_
      refine lv_imul hx hb d_P_weightedSum_21 ?_
      refine lv_iconst (v := 1) hx hb d_P_weightedSum_22 (by decide) ?_
      refine lv_iadd hx hb d_P_weightedSum_23 ?_
      rw [show (8 * (nI i)) + 1 = nI (8 * i + 1 + 0) from (by show nI 8 * nI i + nI 1 = _; rw [pk_mul, nI_add])]
      refine lv_istore (lv' := [(6, .int (nI (8 * i + 1 + 0))), (4, .long x_1), (1, .long (tot Wd (8 * i))), (3, .int (nI i)), (0, .ref pa)]) hx hb d_P_weightedSum_24 hl (by decide) rfl (fun ls hl => ?_)
      rw [ex_1] at hl
      refine lp_P_ws1 (D := D) (cJ := cJ) (cI := cI) (cP := cP) (bs := bs) hx hb hml hown htg hK hbs w pa Wd i hlt (fun ls H locs hP hS hl => ?_) 9 0 ls H locs (by omega) (by omega) hP hS (lv_sub hl [0, 1, 2, 3, 4] rfl)
      obtain ⟨i_2, ei_2⟩ : ∃ y : Int32, y = (nI i) + 1 := ⟨_, rfl⟩
      refine lv_iinc (v := i_2) (lv' := [(3, .int i_2), (1, .long (tot Wd (8 * i + 8))), (0, .ref pa)]) hx hb d_P_weightedSum_71 hl (k := 1) rfl (by rw [ei_2]; rfl) (by decide) rfl (fun ls hl => ?_)
      refine lv_goto (tgt := 4) hx hb d_P_weightedSum_74 (by decide) ?_
      exact ih (i + 1) ls H locs (by omega) (by omega) hP hS (by rw [← nI_1 i, ← ei_2]; exact lv_sub hl [1, 0, 2] rfl)
set_option maxHeartbeats 4000000 in
set_option maxRecDepth 100000 in
/-- weightedSum -/
theorem t_P_ws (l : Launch) (D : va_G) (cJ cI cP : ClassId) (bs : Nat) (w : Nat → Option va_E) (pa : Nat) (Wd : Nat → Int64) (tw : Int64) (hp : pg cJ w pa Wd tw) : Met l y_P_weightedSum ws_P_weightedSum ({ frames := 1, cells := 0, slots := 0, locals := 21 }) (mPc D vwCl (mT cJ cI cP) bs w [.ref pa]) (va_Ql (S := Unit) (fun r _ => r = tot Wd 4096) (mB D vwCl bs (fun _ => w)) (mA bs)) 0 0 (mA bs) := by
  refine Met.ofW (cc := c_P_weightedSum) (maxL := 7) (ret := (some .long)) (by decide) rfl ?_
  intro p e s m args below meth c s₁ B hml hv
  obtain ⟨rfl, hbs, hP, hK⟩ := hv
  have hx := B.exec
  have hb := B.bytes
  have hr := B.returns
  have htg : ∀ w ∈ gt, w.before _ s = true := fun w h => atoms_spec (ws := ws_P_weightedSum) B.pre w (List.mem_cons_of_mem _ h)
  have hown : s.vm.findClass R_P = some m.cls := findClass_of_methodNamed B.named
  have hlocks := B.notSynchronized
  have hS : va_S (mA bs) s.heap s.heap [] := va_S.rf
  have hl := lv_entry ([.ref pa]) (n := 7) (Nat.le_of_ble_eq_true rfl)
  rw [lg_entry_eq]
  generalize (lg_sl ([.ref pa]) ++ List.replicate (7 - (lg_sl ([.ref pa])).length) Slot.unset).toArray = ls at hl ⊢
  have hl : lv_has ls 7 [(0, .ref pa)] := hl
  refine lv_lconst (v := 0) hx hb d_P_weightedSum_0 rfl ?_
  refine lv_lstore_n (lv' := [(1, .long 0), (0, .ref pa)]) hx hb d_P_weightedSum_1 rfl hl (by decide) rfl (fun ls hl => ?_)
  refine lv_iconst (v := 0) hx hb d_P_weightedSum_2 (by decide) ?_
  refine lv_istore_n (lv' := [(3, .int 0), (1, .long 0), (0, .ref pa)]) hx hb d_P_weightedSum_3 rfl hl (by decide) rfl (fun ls hl => ?_)
  refine lp_P_ws2 (D := D) (cJ := cJ) (cI := cI) (cP := cP) (bs := bs) hx hb hml hown htg hK hbs w pa Wd tw hp (fun ls H locs hP hS hl => ?_) 513 0 ls _ _ (by omega) (by omega) hP hS (lv_sub hl [1, 0, 2] rfl)
  refine lv_lload_n hx hb d_P_weightedSum_77 rfl (lv_at hl 0 rfl) ?_
  exact W.lret (v := tot Wd 4096) hx hb hr (fun t ht hW => ⟨⟨_, (), rfl, rfl, hP.at ht⟩, hS.F ht⟩) hS.2.2 d_P_weightedSum_78
