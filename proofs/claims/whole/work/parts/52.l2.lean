/-- the script and the world, at the start of 'cell' -/
def cPc (D : va_G) (bs : Nat) (w : Nat → Option va_E) (b L : Nat) (xs : Nat → Int32) : Array Value → State → Prop := va_Pc [.ref b, .int 0] (fun U => bs ≤ U.heap.size ∧ mw D vwCl bs w U.heap ∧ va_X b L xs U U.heap)
theorem cPc.preS {D : va_G} {bs : Nat} {w : Nat → Option va_E} {b L : Nat} {xs : Nat → Int32} {s : State} {H : Heap} {locs : List Loc} (hbs : bs ≤ s.heap.size) (hS : va_S (mA bs) s.heap H locs) (hP : mw D vwCl bs w H) (hbl : b < s.heap.size) (hbA : ¬ mA bs b) (hX : va_X b L xs s s.heap) : PreS s H (cPc D bs w b L xs) [.ref b, .int 0] :=
  ⟨fun a U g mk q => by
    obtain ⟨q0, q1, q2, q3⟩ := q
    exact ⟨q0, q1, q2, va_X.moved (u := U) (U := U.calling g mk a) (Vm.Alike.refl U.vm) q3⟩, fun U hU hW => ⟨rfl, by rw [hU]; exact Nat.le_trans hbs hS.1, by rw [hU]; exact hP, by rw [hU]; exact va_X.moved hW.alike (hX.kept (hS.2.1 b hbl hbA))⟩⟩
set_option maxHeartbeats 4000000 in
set_option maxRecDepth 100000 in
theorem t_L_cell (l : Launch) (D : va_G) (bs : Nat) (w : Nat → Option va_E) (b L : Nat) (xs : Nat → Int32) (hL : L ≤ 4097) (hbb : b < bs) : Met l y_L_cell ws_L_cell ({ frames := 0, cells := 0, slots := 0, locals := 0 }) (cPc D bs w b L xs) (va_Qi (S := Unit) (fun r _ => r = if 0 < L then xs 0 else 0) (mB D vwCl bs (fun _ => w)) (mA bs)) 0 0 (mA bs) := by
  refine Met.ofW (cc := c_L_cell) (maxL := 2) (ret := (some .int)) (by decide) rfl ?_
  intro p e s m args below meth c s₁ B hml hv
  obtain ⟨rfl, hbs, hP, hX⟩ := hv
  have hbl : b < s.heap.size := Nat.lt_of_lt_of_le hbb hbs
  have hbA : ¬ mA bs b := Nat.not_le.mpr hbb
  have hx := B.exec
  have hb := B.bytes
  have hr := B.returns
  have htg : ∀ w ∈ gt, w.before _ s = true := fun w h => atoms_spec (ws := ws_L_cell) B.pre w (List.mem_cons_of_mem _ h)
  have hown : s.vm.findClass R_L = some m.cls := findClass_of_methodNamed B.named
  have hlocks := B.notSynchronized
  have hS : va_S (mA bs) s.heap s.heap [] := va_S.rf
  have hl := lv_entry ([.ref b, .int 0]) (n := 2) (Nat.le_of_ble_eq_true rfl)
  rw [lg_entry_eq]
  generalize (lg_sl ([.ref b, .int 0]) ++ List.replicate (2 - (lg_sl ([.ref b, .int 0])).length) Slot.unset).toArray = ls at hl ⊢
  have hl : lv_has ls 2 [(0, .ref b), (1, .int 0)] := hl
  refine lv_iload_n hx hb d_L_cell_0 rfl (lv_at hl 1 rfl) ?_
  refine lv_aload_n hx hb d_L_cell_1 rfl (lv_at hl 0 rfl) ?_
  refine va_slen hx hb hX hbl hbA hS d_L_cell_2 ?_
  change W _ _ _ _ _ _ _ _ _ _ _ _ _ _ _ (F0 m 3 ls [.int (nI L), .int 0])
  refine lv_icmp_ge (tgt := 12) hx hb d_L_cell_3 (by decide) (fun c3 => ?_) (fun c3 => ?_)
  · refine lv_iconst (v := 0) hx hb d_L_cell_12 (by decide) ?_
    exact W.iret (v := 0) hx hb hr (fun t ht hW => ⟨⟨_, (), rfl, by rw [if_neg (fun z => nI_ge z (by omega) (show nI L ≤ nI 0 from c3))], hP.at ht⟩, hS.F ht⟩) hS.2.2 d_L_cell_13
  · refine lv_aload_n hx hb d_L_cell_6 rfl (lv_at hl 0 rfl) ?_
    refine lv_iload_n hx hb d_L_cell_7 rfl (lv_at hl 1 rfl) ?_
    have hlt : 0 < L := Nat.pos_of_ne_zero (fun z => c3 (by rw [z]; decide))
    refine va_sld hx hb hX hbl hbA hS (show vp_in (nI 0) L from vp_in_nI hlt (by omega)) d_L_cell_8 ?_
    change W _ _ _ _ _ _ _ _ _ _ _ _ _ _ _ (F0 m 9 ls [.int (xs 0)])
    refine lv_goto (tgt := 13) hx hb d_L_cell_9 (by decide) ?_
    exact W.iret (v := xs 0) hx hb hr (fun t ht hW => ⟨⟨_, (), rfl, by rw [if_pos hlt], hP.at ht⟩, hS.F ht⟩) hS.2.2 d_L_cell_13
set_option maxHeartbeats 4000000 in
set_option maxRecDepth 100000 in
/-- case 0: pages -/
theorem lw_0 {p : Program} {l : Launch} {e : Env} {s : State} {m : MethodId} {below : List Frame} {meth : Method} {c : Code} {Q : State → Prop} {b L : Nat} {xs : Nat → Int32} {D : va_G} {cJ cI cP : ClassId} {bs : Nat} (hl0 : l.stackTraces = false) (hx : p.tables.exec = Jvm.exec) (hb : c.code = c_L_law) (hml : c.maxLocals = 8) (hown : s.vm.findClass R_L = some m.cls) (htg : ∀ w ∈ gt, w.before #[Value.ref b] s = true) (hX : va_X b L xs s s.heap) (hbl : b < s.heap.size) (hbA : ¬ mA bs b) (hK : va_K D vwCl (mT cJ cI cP) s) (hbs : bs ≤ s.heap.size) (hE : evX bs s) (h hm ao i ce sl : Nat) (hi : i + 8 ≤ L) (hL : L ≤ 4097) (hce : ce + 1026 ≤ 601024) (hsl : sl + 6144 ≤ 7293000) (w : Nat → Option va_E) (hI : LI cJ cI cP h hm ao w)
    (kx : ∀ (w : Nat → Option va_E) (ls : Array Slot) (H : Heap) (locs : List Loc), LI cJ cI cP h hm ao w → mw D vwCl bs w H → va_S (mA bs) s.heap H locs → lv_has ls 8 [(4, .int (nI i)), (0, .ref b), (1, .ref h), (2, .ref hm), (3, .ref ao)] → W p l e room_1 s m #[Value.ref b] below meth c H locs (ce + 1026) (sl + 6144) Q (F0 m 876 ls []))
    (ls : Array Slot) (H : Heap) (locs : List Loc) (hP : mw D vwCl bs w H) (hS : va_S (mA bs) s.heap H locs) (hl : lv_has ls 8 [(4, .int (nI i)), (0, .ref b), (1, .ref h), (2, .ref hm), (3, .ref ao)]) : W p l e room_1 s m #[Value.ref b] below meth c H locs ce sl Q (F0 m 104 ls []) := by
  obtain ⟨n, cd, M, T, ra, rs, aT, aA, aS, pt, aW, aU, aP, aZ, O, hv0, hro⟩ := hI
  obtain ⟨hs, ho, hao, hdj⟩ := id hv0
  have hn := hs.1
  have hna : ¬ sfp w h ao := fun z => (hdj ao z).2.2.2.2.2 rfl
  refine lv_aload_n hx hb d_L_law_104 rfl (lv_at hl 2 rfl) ?_
  refine mc_i (va_runV (As := []) (rest := []) ⟨hx, hb, hml, hown, htg⟩ (t_S_pages l D cJ cI cP bs w h n M T ra rs aT aA aS pt hs) (cwV (own := R_L) (C := R_S) 0 htg (ginV k_61 k_62 k_63 k_25 k_64) rfl rfl rfl (by decide +kernel) ⟨Nat.le_of_ble_eq_true rfl, Nat.le_of_ble_eq_true rfl⟩) (mPc.preV (ci := ciS) (q := (R_S, T_S, 4)) hbs hS hP hK rfl (hv0).1.2.1) rfl rfl hl.1 rfl (lv_room (Nat.le_of_ble_eq_true rfl)) d_L_law_105 ⟨by show _ ≤ 601024; omega, by show _ ≤ 7293000; omega⟩) hS (fun r105 u105 H locs hw hP hz105 hS => ?_)
  subst hw
  refine lv_aload_n hx hb d_L_law_108 rfl (lv_at hl 3 rfl) ?_
  refine mc_i (va_runV (As := []) (rest := [.int (nI n)]) ⟨hx, hb, hml, hown, htg⟩ (t_M_pages l D cJ cI cP bs w hm n cd M T ra rs aW aU aP aZ ho) (cwV (own := R_L) (C := R_M) 0 htg (ginV k_434 k_435 k_436 k_26 k_437) rfl rfl rfl (by decide +kernel) ⟨Nat.le_of_ble_eq_true rfl, Nat.le_of_ble_eq_true rfl⟩) (mPc.preV (ci := ciM) (q := (R_M, T_M, 6)) hbs hS hP hK rfl (hv0).2.1.2.1) rfl rfl hl.1 rfl (lv_room (Nat.le_of_ble_eq_true rfl)) d_L_law_109 ⟨by show _ ≤ 601024; omega, by show _ ≤ 7293000; omega⟩) hS (fun r109 w7 H locs hw hP hz109 hS => ?_)
  obtain ⟨hr7, hmo, hkm⟩ := hw
  subst hr7
  have hP : mw D vwCl bs w7 H := hP
  refine lv_icmp_eq (tgt := 876) hx hb d_L_law_112 (by decide) (fun _ => ?_) (fun z => absurd rfl z)
  refine W.widen (k := ce + 1026) (n := sl + 6144) (by omega) (by omega) ?_
  exact kx w7 ls H locs (LI.of (hv_M hv0 hkm hmo) hro) hP hS (lv_sub hl [0, 1, 2, 3, 4] rfl)
set_option maxHeartbeats 4000000 in
set_option maxRecDepth 100000 in
/-- case 9: used -/
theorem lw_9 {p : Program} {l : Launch} {e : Env} {s : State} {m : MethodId} {below : List Frame} {meth : Method} {c : Code} {Q : State → Prop} {b L : Nat} {xs : Nat → Int32} {D : va_G} {cJ cI cP : ClassId} {bs : Nat} (hl0 : l.stackTraces = false) (hx : p.tables.exec = Jvm.exec) (hb : c.code = c_L_law) (hml : c.maxLocals = 8) (hown : s.vm.findClass R_L = some m.cls) (htg : ∀ w ∈ gt, w.before #[Value.ref b] s = true) (hX : va_X b L xs s s.heap) (hbl : b < s.heap.size) (hbA : ¬ mA bs b) (hK : va_K D vwCl (mT cJ cI cP) s) (hbs : bs ≤ s.heap.size) (hE : evX bs s) (h hm ao i ce sl : Nat) (hi : i + 8 ≤ L) (hL : L ≤ 4097) (hce : ce + 1026 ≤ 601024) (hsl : sl + 6144 ≤ 7293000) (w : Nat → Option va_E) (hI : LI cJ cI cP h hm ao w)
    (kx : ∀ (w : Nat → Option va_E) (ls : Array Slot) (H : Heap) (locs : List Loc), LI cJ cI cP h hm ao w → mw D vwCl bs w H → va_S (mA bs) s.heap H locs → lv_has ls 8 [(4, .int (nI i)), (0, .ref b), (1, .ref h), (2, .ref hm), (3, .ref ao)] → W p l e room_1 s m #[Value.ref b] below meth c H locs (ce + 1026) (sl + 6144) Q (F0 m 876 ls []))
    (ls : Array Slot) (H : Heap) (locs : List Loc) (hP : mw D vwCl bs w H) (hS : va_S (mA bs) s.heap H locs) (hl : lv_has ls 8 [(4, .int (nI i)), (0, .ref b), (1, .ref h), (2, .ref hm), (3, .ref ao)]) : W p l e room_1 s m #[Value.ref b] below meth c H locs ce sl Q (F0 m 863 ls []) := by
  obtain ⟨n, cd, M, T, ra, rs, aT, aA, aS, pt, aW, aU, aP, aZ, O, hv0, hro⟩ := hI
  obtain ⟨hs, ho, hao, hdj⟩ := id hv0
  have hn := hs.1
  have hna : ¬ sfp w h ao := fun z => (hdj ao z).2.2.2.2.2 rfl
  refine lv_aload_n hx hb d_L_law_863 rfl (lv_at hl 2 rfl) ?_
  refine mc_i (va_runV (As := []) (rest := []) ⟨hx, hb, hml, hown, htg⟩ (t_S_used l D cJ cI cP bs w h n M T ra rs aT aA aS pt hs) (cwV (own := R_L) (C := R_S) 0 htg (ginV k_65 k_66 k_67 k_25 k_68) rfl rfl rfl (by decide +kernel) ⟨Nat.le_of_ble_eq_true rfl, Nat.le_of_ble_eq_true rfl⟩) (mPc.preV (ci := ciS) (q := (R_S, T_S, 4)) hbs hS hP hK rfl (hv0).1.2.1) rfl rfl hl.1 rfl (lv_room (Nat.le_of_ble_eq_true rfl)) d_L_law_864 ⟨by show _ ≤ 601024; omega, by show _ ≤ 7293000; omega⟩) hS (fun r864 u864 H locs hw hP hz864 hS => ?_)
  subst hw
  refine lv_aload_n hx hb d_L_law_867 rfl (lv_at hl 3 rfl) ?_
  refine mc_i (va_runV (As := []) (rest := [.int (nI (usd M n))]) ⟨hx, hb, hml, hown, htg⟩ (t_M_used l D cJ cI cP bs w hm n cd M T ra rs aW aU aP aZ ho) (cwV (own := R_L) (C := R_M) 0 htg (ginV k_519 k_520 k_521 k_26 k_522) rfl rfl rfl (by decide +kernel) ⟨Nat.le_of_ble_eq_true rfl, Nat.le_of_ble_eq_true rfl⟩) (mPc.preV (ci := ciM) (q := (R_M, T_M, 6)) hbs hS hP hK rfl (hv0).2.1.2.1) rfl rfl hl.1 rfl (lv_room (Nat.le_of_ble_eq_true rfl)) d_L_law_868 ⟨by show _ ≤ 601024; omega, by show _ ≤ 7293000; omega⟩) hS (fun r868 w7 H locs hw hP hz868 hS => ?_)
  obtain ⟨hr7, hkm, hmo⟩ := hw
  subst hr7
  have hP : mw D vwCl bs w7 H := hP
  refine lv_icmp_eq (tgt := 876) hx hb d_L_law_871 (by decide) (fun _ => ?_) (fun z => absurd rfl z)
  refine W.widen (k := ce + 1026) (n := sl + 6144) (by omega) (by omega) ?_
  exact kx w7 ls H locs (LI.of (hv_M hv0 hkm hmo) hro) hP hS (lv_sub hl [0, 1, 2, 3, 4] rfl)
set_option maxHeartbeats 4000000 in
set_option maxRecDepth 100000 in
/-- case 1: load -/
theorem lw_1 {p : Program} {l : Launch} {e : Env} {s : State} {m : MethodId} {below : List Frame} {meth : Method} {c : Code} {Q : State → Prop} {b L : Nat} {xs : Nat → Int32} {D : va_G} {cJ cI cP : ClassId} {bs : Nat} (hl0 : l.stackTraces = false) (hx : p.tables.exec = Jvm.exec) (hb : c.code = c_L_law) (hml : c.maxLocals = 8) (hown : s.vm.findClass R_L = some m.cls) (htg : ∀ w ∈ gt, w.before #[Value.ref b] s = true) (hX : va_X b L xs s s.heap) (hbl : b < s.heap.size) (hbA : ¬ mA bs b) (hK : va_K D vwCl (mT cJ cI cP) s) (hbs : bs ≤ s.heap.size) (hE : evX bs s) (h hm ao i ce sl : Nat) (hi : i + 8 ≤ L) (hL : L ≤ 4097) (hce : ce + 1026 ≤ 601024) (hsl : sl + 6144 ≤ 7293000) (w : Nat → Option va_E) (hI : LI cJ cI cP h hm ao w)
    (kx : ∀ (w : Nat → Option va_E) (ls : Array Slot) (H : Heap) (locs : List Loc), LI cJ cI cP h hm ao w → mw D vwCl bs w H → va_S (mA bs) s.heap H locs → lv_has ls 8 [(4, .int (nI i)), (0, .ref b), (1, .ref h), (2, .ref hm), (3, .ref ao)] → W p l e room_1 s m #[Value.ref b] below meth c H locs (ce + 1026) (sl + 6144) Q (F0 m 876 ls []))
    (ls : Array Slot) (H : Heap) (locs : List Loc) (hP : mw D vwCl bs w H) (hS : va_S (mA bs) s.heap H locs) (hl : lv_has ls 8 [(4, .int (nI i)), (0, .ref b), (1, .ref h), (2, .ref hm), (3, .ref ao)]) : W p l e room_1 s m #[Value.ref b] below meth c H locs ce sl Q (F0 m 117 ls []) := by
  obtain ⟨n, cd, M, T, ra, rs, aT, aA, aS, pt, aW, aU, aP, aZ, O, hv0, hro⟩ := hI
  obtain ⟨hs, ho, hao, hdj⟩ := id hv0
  have hn := hs.1
  have hna : ¬ sfp w h ao := fun z => (hdj ao z).2.2.2.2.2 rfl
  refine lv_aload_n hx hb d_L_law_117 rfl (lv_at hl 2 rfl) ?_
  refine lv_aload_n hx hb d_L_law_118 rfl (lv_at hl 1 rfl) ?_
  refine lv_iload hx hb d_L_law_119 (lv_at hl 0 rfl) ?_
  refine lv_iconst (v := 1) hx hb d_L_law_121 (by decide) ?_
  refine lv_iadd hx hb d_L_law_122 ?_
  rw [show (nI i) + 1 = nI (i + 1) from (show nI i + nI 1 = _ from nI_add _ _)]
  refine va_sld hx hb hX hbl hbA hS (vp_in_nI (show i + 1 < L by omega) (by omega)) d_L_law_123 ?_
  rw [show (nI (i + 1)).toNatClampNeg = i + 1 from nI_clamp (by omega)]
  refine lv_i2l hx hb d_L_law_124 rfl ?_
  refine lv_bipush (v := 32) hx hb d_L_law_125 (by decide) ?_
  refine lv_lshl hx hb d_L_law_127 rfl ?_
  refine lv_aload_n hx hb d_L_law_128 rfl (lv_at hl 1 rfl) ?_
  refine lv_iload hx hb d_L_law_129 (lv_at hl 0 rfl) ?_
  refine lv_iconst (v := 2) hx hb d_L_law_131 (by decide) ?_
  refine lv_iadd hx hb d_L_law_132 ?_
  rw [show (nI i) + 2 = nI (i + 2) from (show nI i + nI 2 = _ from nI_add _ _)]
  refine va_sld hx hb hX hbl hbA hS (vp_in_nI (show i + 2 < L by omega) (by omega)) d_L_law_133 ?_
  rw [show (nI (i + 2)).toNatClampNeg = i + 2 from nI_clamp (by omega)]
  refine lv_i2l hx hb d_L_law_134 rfl ?_
  refine lv_ldc2 (own := R_L) (v := 4294967295) hx hb hown (htg _ k_523) d_L_law_135 ?_
  refine lv_land hx hb d_L_law_138 ?_
  refine lv_lor hx hb d_L_law_139 ?_
  rw [show (((xs (i + 1)).toInt64) <<< ((32 : Int32).toInt64 &&& 63)) ||| (((xs (i + 2)).toInt64) &&& 4294967295) = lg2 (xs (i + 1)) (xs (i + 2)) from rfl]
  refine lv_aload_n hx hb d_L_law_140 rfl (lv_at hl 1 rfl) ?_
  refine lv_iload hx hb d_L_law_141 (lv_at hl 0 rfl) ?_
  refine lv_iconst (v := 3) hx hb d_L_law_143 (by decide) ?_
  refine lv_iadd hx hb d_L_law_144 ?_
  rw [show (nI i) + 3 = nI (i + 3) from (show nI i + nI 3 = _ from nI_add _ _)]
  refine va_sld hx hb hX hbl hbA hS (vp_in_nI (show i + 3 < L by omega) (by omega)) d_L_law_145 ?_
  rw [show (nI (i + 3)).toNatClampNeg = i + 3 from nI_clamp (by omega)]
  refine lv_aload_n hx hb d_L_law_146 rfl (lv_at hl 4 rfl) ?_
  refine mc_i (vx_runSW (As := [.ref h, .long (lg2 (xs (i + 1)) (xs (i + 2))), .int (xs (i + 3)), .ref ao]) (rest := []) ⟨hx, hb, hml, hown, htg⟩ (t_L_load l hl0 D cJ cI cP bs w h n M T ra rs aT aA aS pt hs ao O hao (lg2 (xs (i + 1)) (xs (i + 2))) (xs (i + 3))) (vx_cwSW (own := R_L) 4 htg (ginT k_76 k_77 k_24 k_78) rfl rfl rfl (by decide +kernel) ⟨Nat.le_of_ble_eq_true rfl, Nat.le_of_ble_eq_true rfl⟩) (mPx.preS hbs hS hP hK hE) rfl rfl hl.1 rfl (lv_room (Nat.le_of_ble_eq_true rfl)) d_L_law_147 ⟨by show _ ≤ 601024; omega, by show _ ≤ 7293000; omega⟩) hS (fun rk u5 H locs hw hP hz5 hS => ?_)
  have hP : mw D vwCl bs u5 H := hP
  rcases hw with ⟨ek, hy, ew⟩ | ⟨ek, hy, ew⟩ | ⟨ek, v9, hq, ew⟩
  · subst ek
    rw [ew] at hP
    refine lv_istore (lv' := [(5, .int 1), (4, .int (nI i)), (0, .ref b), (1, .ref h), (2, .ref hm), (3, .ref ao)]) hx hb d_L_law_150 hl (by decide) rfl (fun ls hl => ?_)
    refine lv_aload_n hx hb d_L_law_152 rfl (lv_at hl 4 rfl) ?_
    refine lv_aload_n hx hb d_L_law_153 rfl (lv_at hl 2 rfl) ?_
    refine lv_iload hx hb d_L_law_154 (lv_at hl 1 rfl) ?_
    refine lv_iconst (v := 1) hx hb d_L_law_156 (by decide) ?_
    refine lv_iadd hx hb d_L_law_157 ?_
    rw [show (nI i) + 1 = nI (i + 1) from (show nI i + nI 1 = _ from nI_add _ _)]
    refine va_sld hx hb hX hbl hbA hS (vp_in_nI (show i + 1 < L by omega) (by omega)) d_L_law_158 ?_
    rw [show (nI (i + 1)).toNatClampNeg = i + 1 from nI_clamp (by omega)]
    refine lv_i2l hx hb d_L_law_159 rfl ?_
    refine lv_bipush (v := 32) hx hb d_L_law_160 (by decide) ?_
    refine lv_lshl hx hb d_L_law_162 rfl ?_
    refine lv_aload_n hx hb d_L_law_163 rfl (lv_at hl 2 rfl) ?_
    refine lv_iload hx hb d_L_law_164 (lv_at hl 1 rfl) ?_
    refine lv_iconst (v := 2) hx hb d_L_law_166 (by decide) ?_
    refine lv_iadd hx hb d_L_law_167 ?_
    rw [show (nI i) + 2 = nI (i + 2) from (show nI i + nI 2 = _ from nI_add _ _)]
    refine va_sld hx hb hX hbl hbA hS (vp_in_nI (show i + 2 < L by omega) (by omega)) d_L_law_168 ?_
    rw [show (nI (i + 2)).toNatClampNeg = i + 2 from nI_clamp (by omega)]
    refine lv_i2l hx hb d_L_law_169 rfl ?_
    refine lv_ldc2 (own := R_L) (v := 4294967295) hx hb hown (htg _ k_523) d_L_law_170 ?_
    refine lv_land hx hb d_L_law_173 ?_
    refine lv_lor hx hb d_L_law_174 ?_
    rw [show (((xs (i + 1)).toInt64) <<< ((32 : Int32).toInt64 &&& 63)) ||| (((xs (i + 2)).toInt64) &&& 4294967295) = lg2 (xs (i + 1)) (xs (i + 2)) from rfl]
    refine lv_aload_n hx hb d_L_law_175 rfl (lv_at hl 2 rfl) ?_
    refine lv_iload hx hb d_L_law_176 (lv_at hl 1 rfl) ?_
    refine lv_iconst (v := 3) hx hb d_L_law_178 (by decide) ?_
    refine lv_iadd hx hb d_L_law_179 ?_
    rw [show (nI i) + 3 = nI (i + 3) from (show nI i + nI 3 = _ from nI_add _ _)]
    refine va_sld hx hb hX hbl hbA hS (vp_in_nI (show i + 3 < L by omega) (by omega)) d_L_law_180 ?_
    rw [show (nI (i + 3)).toNatClampNeg = i + 3 from nI_clamp (by omega)]
    refine mc_l (va_runV (As := [.long (lg2 (xs (i + 1)) (xs (i + 2))), .int (xs (i + 3))]) (rest := []) ⟨hx, hb, hml, hown, htg⟩ (t_M_load l D cJ cI cP bs w hm n cd M T ra rs aW aU aP aZ (hv0).2.1 (lg2 (xs (i + 1)) (xs (i + 2))) (xs (i + 3))) (cwV (own := R_L) (C := R_M) 2 htg (ginV k_438 k_439 k_440 k_26 k_441) rfl rfl rfl (by decide +kernel) ⟨Nat.le_of_ble_eq_true rfl, Nat.le_of_ble_eq_true rfl⟩) (mPc.preV (ci := ciM) (q := (R_M, T_M, 6)) hbs hS hP hK rfl (hv0).2.1.2.1) rfl rfl hl.1 rfl (lv_room (Nat.le_of_ble_eq_true rfl)) d_L_law_181 ⟨by show _ ≤ 601024; omega, by show _ ≤ 7293000; omega⟩) hS (fun b9 u7 H locs hM hP hz181 hS => ?_)
    obtain ⟨w7, ew7⟩ : ∃ z, z = u7 := ⟨_, rfl⟩
    subst ew7
    have hP : mw D vwCl bs w7 H := hP
    obtain ⟨hkm, hM⟩ := hM
    rcases hM with ⟨hz, hmo⟩ | ⟨hz, ⟨k, ek7, h8, hno⟩, hmo⟩ | ⟨a, k, ek7, hok, h1, h8, ha, hbits, hmo⟩
    · have hv7 := hv_M (hv0) hkm hmo
      refine lv_lstore (lv' := [(6, .long b9), (5, .int 1), (4, .int (nI i)), (0, .ref b), (1, .ref h), (2, .ref hm), (3, .ref ao)]) hx hb d_L_law_184 hl (by decide) rfl (fun ls hl => ?_)
      refine lv_aload_n hx hb d_L_law_186 rfl (lv_at hl 5 rfl) ?_
      refine mc_i (va_runV (As := []) (rest := []) ⟨hx, hb, hml, hown, htg⟩ (t_M_thrown l D cJ cI cP bs w7 hm n 1 _ _ _ _ _ _ _ _ (hv7).2.1) (cwV (own := R_L) (C := R_M) 0 htg (ginV k_430 k_431 k_432 k_26 k_433) rfl rfl rfl (by decide +kernel) ⟨Nat.le_of_ble_eq_true rfl, Nat.le_of_ble_eq_true rfl⟩) (mPc.preV (ci := ciM) (q := (R_M, T_M, 6)) hbs hS hP hK rfl (hv7).2.1.2.1) rfl rfl hl.1 rfl (lv_room (Nat.le_of_ble_eq_true rfl)) d_L_law_187 ⟨by show _ ≤ 601024; omega, by show _ ≤ 7293000; omega⟩) hS (fun r187 u187 H locs hth hP hz187 hS => ?_)
      subst hth
      refine lv_iload hx hb d_L_law_190 (lv_at hl 1 rfl) ?_
      refine lv_icmp_eq (tgt := 197) hx hb d_L_law_192 (by decide) (fun _ => ?_) (fun z => absurd rfl z)
      refine lv_iload hx hb d_L_law_197 (lv_at hl 1 rfl) ?_
      refine lv_if_ne (tgt := 213) hx hb d_L_law_199 (by decide) (fun _ => ?_) (fun z => absurd z (by decide))
      refine lv_goto (tgt := 876) hx hb d_L_law_213 (by decide) ?_
      refine W.widen (k := ce + 1026) (n := sl + 6144) (by omega) (by omega) ?_
      exact kx w7 ls H locs (LI.of hv7 hro) hP hS (lv_sub hl [2, 3, 4, 5, 6] rfl)
    · exact absurd hz hy
    · exact absurd hok hy
  · subst ek
    rw [ew] at hP
    refine lv_istore (lv' := [(5, .int 2), (4, .int (nI i)), (0, .ref b), (1, .ref h), (2, .ref hm), (3, .ref ao)]) hx hb d_L_law_150 hl (by decide) rfl (fun ls hl => ?_)
    refine lv_aload_n hx hb d_L_law_152 rfl (lv_at hl 4 rfl) ?_
    refine lv_aload_n hx hb d_L_law_153 rfl (lv_at hl 2 rfl) ?_
    refine lv_iload hx hb d_L_law_154 (lv_at hl 1 rfl) ?_
    refine lv_iconst (v := 1) hx hb d_L_law_156 (by decide) ?_
    refine lv_iadd hx hb d_L_law_157 ?_
    rw [show (nI i) + 1 = nI (i + 1) from (show nI i + nI 1 = _ from nI_add _ _)]
    refine va_sld hx hb hX hbl hbA hS (vp_in_nI (show i + 1 < L by omega) (by omega)) d_L_law_158 ?_
    rw [show (nI (i + 1)).toNatClampNeg = i + 1 from nI_clamp (by omega)]
    refine lv_i2l hx hb d_L_law_159 rfl ?_
    refine lv_bipush (v := 32) hx hb d_L_law_160 (by decide) ?_
    refine lv_lshl hx hb d_L_law_162 rfl ?_
    refine lv_aload_n hx hb d_L_law_163 rfl (lv_at hl 2 rfl) ?_
    refine lv_iload hx hb d_L_law_164 (lv_at hl 1 rfl) ?_
    refine lv_iconst (v := 2) hx hb d_L_law_166 (by decide) ?_
    refine lv_iadd hx hb d_L_law_167 ?_
    rw [show (nI i) + 2 = nI (i + 2) from (show nI i + nI 2 = _ from nI_add _ _)]
    refine va_sld hx hb hX hbl hbA hS (vp_in_nI (show i + 2 < L by omega) (by omega)) d_L_law_168 ?_
    rw [show (nI (i + 2)).toNatClampNeg = i + 2 from nI_clamp (by omega)]
    refine lv_i2l hx hb d_L_law_169 rfl ?_
    refine lv_ldc2 (own := R_L) (v := 4294967295) hx hb hown (htg _ k_523) d_L_law_170 ?_
    refine lv_land hx hb d_L_law_173 ?_
    refine lv_lor hx hb d_L_law_174 ?_
    rw [show (((xs (i + 1)).toInt64) <<< ((32 : Int32).toInt64 &&& 63)) ||| (((xs (i + 2)).toInt64) &&& 4294967295) = lg2 (xs (i + 1)) (xs (i + 2)) from rfl]
    refine lv_aload_n hx hb d_L_law_175 rfl (lv_at hl 2 rfl) ?_
    refine lv_iload hx hb d_L_law_176 (lv_at hl 1 rfl) ?_
    refine lv_iconst (v := 3) hx hb d_L_law_178 (by decide) ?_
    refine lv_iadd hx hb d_L_law_179 ?_
    rw [show (nI i) + 3 = nI (i + 3) from (show nI i + nI 3 = _ from nI_add _ _)]
    refine va_sld hx hb hX hbl hbA hS (vp_in_nI (show i + 3 < L by omega) (by omega)) d_L_law_180 ?_
    rw [show (nI (i + 3)).toNatClampNeg = i + 3 from nI_clamp (by omega)]
    refine mc_l (va_runV (As := [.long (lg2 (xs (i + 1)) (xs (i + 2))), .int (xs (i + 3))]) (rest := []) ⟨hx, hb, hml, hown, htg⟩ (t_M_load l D cJ cI cP bs w hm n cd M T ra rs aW aU aP aZ (hv0).2.1 (lg2 (xs (i + 1)) (xs (i + 2))) (xs (i + 3))) (cwV (own := R_L) (C := R_M) 2 htg (ginV k_438 k_439 k_440 k_26 k_441) rfl rfl rfl (by decide +kernel) ⟨Nat.le_of_ble_eq_true rfl, Nat.le_of_ble_eq_true rfl⟩) (mPc.preV (ci := ciM) (q := (R_M, T_M, 6)) hbs hS hP hK rfl (hv0).2.1.2.1) rfl rfl hl.1 rfl (lv_room (Nat.le_of_ble_eq_true rfl)) d_L_law_181 ⟨by show _ ≤ 601024; omega, by show _ ≤ 7293000; omega⟩) hS (fun b9 u7 H locs hM hP hz181 hS => ?_)
    obtain ⟨w7, ew7⟩ : ∃ z, z = u7 := ⟨_, rfl⟩
    subst ew7
    have hP : mw D vwCl bs w7 H := hP
    obtain ⟨hkm, hM⟩ := hM
    rcases hM with ⟨hz, hmo⟩ | ⟨hz, ⟨k, ek7, h8, hno⟩, hmo⟩ | ⟨a, k, ek7, hok, h1, h8, ha, hbits, hmo⟩
    · exact absurd hy.1 hz
    · have hv7 := hv_M (hv0) hkm hmo
      refine lv_lstore (lv' := [(6, .long b9), (5, .int 2), (4, .int (nI i)), (0, .ref b), (1, .ref h), (2, .ref hm), (3, .ref ao)]) hx hb d_L_law_184 hl (by decide) rfl (fun ls hl => ?_)
      refine lv_aload_n hx hb d_L_law_186 rfl (lv_at hl 5 rfl) ?_
      refine mc_i (va_runV (As := []) (rest := []) ⟨hx, hb, hml, hown, htg⟩ (t_M_thrown l D cJ cI cP bs w7 hm n 2 _ _ _ _ _ _ _ _ (hv7).2.1) (cwV (own := R_L) (C := R_M) 0 htg (ginV k_430 k_431 k_432 k_26 k_433) rfl rfl rfl (by decide +kernel) ⟨Nat.le_of_ble_eq_true rfl, Nat.le_of_ble_eq_true rfl⟩) (mPc.preV (ci := ciM) (q := (R_M, T_M, 6)) hbs hS hP hK rfl (hv7).2.1.2.1) rfl rfl hl.1 rfl (lv_room (Nat.le_of_ble_eq_true rfl)) d_L_law_187 ⟨by show _ ≤ 601024; omega, by show _ ≤ 7293000; omega⟩) hS (fun r187 u187 H locs hth hP hz187 hS => ?_)
      subst hth
      refine lv_iload hx hb d_L_law_190 (lv_at hl 1 rfl) ?_
      refine lv_icmp_eq (tgt := 197) hx hb d_L_law_192 (by decide) (fun _ => ?_) (fun z => absurd rfl z)
      refine lv_iload hx hb d_L_law_197 (lv_at hl 1 rfl) ?_
      refine lv_if_ne (tgt := 213) hx hb d_L_law_199 (by decide) (fun _ => ?_) (fun z => absurd z (by decide))
      refine lv_goto (tgt := 876) hx hb d_L_law_213 (by decide) ?_
      refine W.widen (k := ce + 1026) (n := sl + 6144) (by omega) (by omega) ?_
      exact kx w7 ls H locs (LI.of hv7 hro) hP hS (lv_sub hl [2, 3, 4, 5, 6] rfl)
    · exact absurd ⟨a, ha⟩ (hy.2 k ek7)
  · subst ek
    obtain ⟨a9, k9, ek9, hok9, h19, h89, ha9, hbits9⟩ := hq
    have hv1 : hv cJ cI cP u5 h hm ao n cd M T ra rs M T ra rs aT aA aS pt aW aU aP aZ (vp_updL O 0 v9) := by rw [ew]; exact hv_O hv0 _
    refine lv_istore (lv' := [(5, .int 0), (4, .int (nI i)), (0, .ref b), (1, .ref h), (2, .ref hm), (3, .ref ao)]) hx hb d_L_law_150 hl (by decide) rfl (fun ls hl => ?_)
    refine lv_aload_n hx hb d_L_law_152 rfl (lv_at hl 4 rfl) ?_
    refine lv_aload_n hx hb d_L_law_153 rfl (lv_at hl 2 rfl) ?_
    refine lv_iload hx hb d_L_law_154 (lv_at hl 1 rfl) ?_
    refine lv_iconst (v := 1) hx hb d_L_law_156 (by decide) ?_
    refine lv_iadd hx hb d_L_law_157 ?_
    rw [show (nI i) + 1 = nI (i + 1) from (show nI i + nI 1 = _ from nI_add _ _)]
    refine va_sld hx hb hX hbl hbA hS (vp_in_nI (show i + 1 < L by omega) (by omega)) d_L_law_158 ?_
    rw [show (nI (i + 1)).toNatClampNeg = i + 1 from nI_clamp (by omega)]
    refine lv_i2l hx hb d_L_law_159 rfl ?_
    refine lv_bipush (v := 32) hx hb d_L_law_160 (by decide) ?_
    refine lv_lshl hx hb d_L_law_162 rfl ?_
    refine lv_aload_n hx hb d_L_law_163 rfl (lv_at hl 2 rfl) ?_
    refine lv_iload hx hb d_L_law_164 (lv_at hl 1 rfl) ?_
    refine lv_iconst (v := 2) hx hb d_L_law_166 (by decide) ?_
    refine lv_iadd hx hb d_L_law_167 ?_
    rw [show (nI i) + 2 = nI (i + 2) from (show nI i + nI 2 = _ from nI_add _ _)]
    refine va_sld hx hb hX hbl hbA hS (vp_in_nI (show i + 2 < L by omega) (by omega)) d_L_law_168 ?_
    rw [show (nI (i + 2)).toNatClampNeg = i + 2 from nI_clamp (by omega)]
    refine lv_i2l hx hb d_L_law_169 rfl ?_
    refine lv_ldc2 (own := R_L) (v := 4294967295) hx hb hown (htg _ k_523) d_L_law_170 ?_
    refine lv_land hx hb d_L_law_173 ?_
    refine lv_lor hx hb d_L_law_174 ?_
    rw [show (((xs (i + 1)).toInt64) <<< ((32 : Int32).toInt64 &&& 63)) ||| (((xs (i + 2)).toInt64) &&& 4294967295) = lg2 (xs (i + 1)) (xs (i + 2)) from rfl]
    refine lv_aload_n hx hb d_L_law_175 rfl (lv_at hl 2 rfl) ?_
    refine lv_iload hx hb d_L_law_176 (lv_at hl 1 rfl) ?_
    refine lv_iconst (v := 3) hx hb d_L_law_178 (by decide) ?_
    refine lv_iadd hx hb d_L_law_179 ?_
    rw [show (nI i) + 3 = nI (i + 3) from (show nI i + nI 3 = _ from nI_add _ _)]
    refine va_sld hx hb hX hbl hbA hS (vp_in_nI (show i + 3 < L by omega) (by omega)) d_L_law_180 ?_
    rw [show (nI (i + 3)).toNatClampNeg = i + 3 from nI_clamp (by omega)]
    refine mc_l (va_runV (As := [.long (lg2 (xs (i + 1)) (xs (i + 2))), .int (xs (i + 3))]) (rest := []) ⟨hx, hb, hml, hown, htg⟩ (t_M_load l D cJ cI cP bs u5 hm n cd M T ra rs aW aU aP aZ (hv1).2.1 (lg2 (xs (i + 1)) (xs (i + 2))) (xs (i + 3))) (cwV (own := R_L) (C := R_M) 2 htg (ginV k_438 k_439 k_440 k_26 k_441) rfl rfl rfl (by decide +kernel) ⟨Nat.le_of_ble_eq_true rfl, Nat.le_of_ble_eq_true rfl⟩) (mPc.preV (ci := ciM) (q := (R_M, T_M, 6)) hbs hS hP hK rfl (hv1).2.1.2.1) rfl rfl hl.1 rfl (lv_room (Nat.le_of_ble_eq_true rfl)) d_L_law_181 ⟨by show _ ≤ 601024; omega, by show _ ≤ 7293000; omega⟩) hS (fun b9 u7 H locs hM hP hz181 hS => ?_)
    obtain ⟨w7, ew7⟩ : ∃ z, z = u7 := ⟨_, rfl⟩
    subst ew7
    have hP : mw D vwCl bs w7 H := hP
    obtain ⟨hkm, hM⟩ := hM
    rcases hM with ⟨hz, hmo⟩ | ⟨hz, ⟨k, ek7, h8, hno⟩, hmo⟩ | ⟨a, k, ek7, hok, h1, h8, ha, hbits, hmo⟩
    · exact absurd hok9 hz
    · have ekk : k9 = k := nk8 (ek9.symm.trans ek7) h89 h8
      subst ekk
      exact absurd ⟨a9, ha9⟩ hno
    · have ekk : k9 = k := nk8 (ek9.symm.trans ek7) h89 h8
      subst ekk
      have eaa : a9 = a := inM_u hn.2 ha9 ha
      subst eaa
      have hout : v9 = b9 := bi_ext (fun i hi => (hbits9 i hi).trans (hbits i hi).symm)
      have hv7 := hv_M (hv1) hkm hmo
      refine lv_lstore (lv' := [(6, .long b9), (5, .int 0), (4, .int (nI i)), (0, .ref b), (1, .ref h), (2, .ref hm), (3, .ref ao)]) hx hb d_L_law_184 hl (by decide) rfl (fun ls hl => ?_)
      refine lv_aload_n hx hb d_L_law_186 rfl (lv_at hl 5 rfl) ?_
      refine mc_i (va_runV (As := []) (rest := []) ⟨hx, hb, hml, hown, htg⟩ (t_M_thrown l D cJ cI cP bs w7 hm n 0 _ _ _ _ _ _ _ _ (hv7).2.1) (cwV (own := R_L) (C := R_M) 0 htg (ginV k_430 k_431 k_432 k_26 k_433) rfl rfl rfl (by decide +kernel) ⟨Nat.le_of_ble_eq_true rfl, Nat.le_of_ble_eq_true rfl⟩) (mPc.preV (ci := ciM) (q := (R_M, T_M, 6)) hbs hS hP hK rfl (hv7).2.1.2.1) rfl rfl hl.1 rfl (lv_room (Nat.le_of_ble_eq_true rfl)) d_L_law_187 ⟨by show _ ≤ 601024; omega, by show _ ≤ 7293000; omega⟩) hS (fun r187 u187 H locs hth hP hz187 hS => ?_)
      subst hth
      refine lv_iload hx hb d_L_law_190 (lv_at hl 1 rfl) ?_
      refine lv_icmp_eq (tgt := 197) hx hb d_L_law_192 (by decide) (fun _ => ?_) (fun z => absurd rfl z)
      refine lv_iload hx hb d_L_law_197 (lv_at hl 1 rfl) ?_
      refine lv_if_ne (tgt := 213) hx hb d_L_law_199 (by decide) (fun z => absurd z (by decide)) (fun _ => ?_)
      refine lv_aload_n hx hb d_L_law_202 rfl (lv_at hl 6 rfl) ?_
      refine lv_iconst (v := 0) hx hb d_L_law_203 (by decide) ?_
      refine mw_lald hx hb hK hP 0 (hv7).2.2.1 rfl in01 d_L_law_204 ?_
      rw [show (0 : Int32).toNatClampNeg = 0 from rfl]
      refine lv_lload hx hb d_L_law_205 (lv_at hl 0 rfl) ?_
      refine lc_eq (tgt := 213) hx hb d_L_law_207 d_L_law_208 (by decide) (fun _ => ?_) (fun z => absurd (by rw [← hout]; exact pk_uLs) z)
      refine lv_goto (tgt := 876) hx hb d_L_law_213 (by decide) ?_
      refine W.widen (k := ce + 1026) (n := sl + 6144) (by omega) (by omega) ?_
      exact kx w7 ls H locs (LI.of hv7 hro) hP hS (lv_sub hl [2, 3, 4, 5, 6] rfl)
set_option maxHeartbeats 4000000 in
set_option maxRecDepth 100000 in
/-- case 2: store -/
theorem lw_2 {p : Program} {l : Launch} {e : Env} {s : State} {m : MethodId} {below : List Frame} {meth : Method} {c : Code} {Q : State → Prop} {b L : Nat} {xs : Nat → Int32} {D : va_G} {cJ cI cP : ClassId} {bs : Nat} (hl0 : l.stackTraces = false) (hx : p.tables.exec = Jvm.exec) (hb : c.code = c_L_law) (hml : c.maxLocals = 8) (hown : s.vm.findClass R_L = some m.cls) (htg : ∀ w ∈ gt, w.before #[Value.ref b] s = true) (hX : va_X b L xs s s.heap) (hbl : b < s.heap.size) (hbA : ¬ mA bs b) (hK : va_K D vwCl (mT cJ cI cP) s) (hbs : bs ≤ s.heap.size) (hE : evX bs s) (h hm ao i ce sl : Nat) (hi : i + 8 ≤ L) (hL : L ≤ 4097) (hce : ce + 1026 ≤ 601024) (hsl : sl + 6144 ≤ 7293000) (w : Nat → Option va_E) (hI : LI cJ cI cP h hm ao w)
    (kx : ∀ (w : Nat → Option va_E) (ls : Array Slot) (H : Heap) (locs : List Loc), LI cJ cI cP h hm ao w → mw D vwCl bs w H → va_S (mA bs) s.heap H locs → lv_has ls 8 [(4, .int (nI i)), (0, .ref b), (1, .ref h), (2, .ref hm), (3, .ref ao)] → W p l e room_1 s m #[Value.ref b] below meth c H locs (ce + 1026) (sl + 6144) Q (F0 m 876 ls []))
    (ls : Array Slot) (H : Heap) (locs : List Loc) (hP : mw D vwCl bs w H) (hS : va_S (mA bs) s.heap H locs) (hl : lv_has ls 8 [(4, .int (nI i)), (0, .ref b), (1, .ref h), (2, .ref hm), (3, .ref ao)]) : W p l e room_1 s m #[Value.ref b] below meth c H locs ce sl Q (F0 m 216 ls []) := by
  obtain ⟨n, cd, M, T, ra, rs, aT, aA, aS, pt, aW, aU, aP, aZ, O, hv0, hro⟩ := hI
  obtain ⟨hs, ho, hao, hdj⟩ := id hv0
  have hn := hs.1
  have hna : ¬ sfp w h ao := fun z => (hdj ao z).2.2.2.2.2 rfl
  refine lv_aload_n hx hb d_L_law_216 rfl (lv_at hl 2 rfl) ?_
  refine lv_aload_n hx hb d_L_law_217 rfl (lv_at hl 1 rfl) ?_
  refine lv_iload hx hb d_L_law_218 (lv_at hl 0 rfl) ?_
  refine lv_iconst (v := 1) hx hb d_L_law_220 (by decide) ?_
  refine lv_iadd hx hb d_L_law_221 ?_
  rw [show (nI i) + 1 = nI (i + 1) from (show nI i + nI 1 = _ from nI_add _ _)]
  refine va_sld hx hb hX hbl hbA hS (vp_in_nI (show i + 1 < L by omega) (by omega)) d_L_law_222 ?_
  rw [show (nI (i + 1)).toNatClampNeg = i + 1 from nI_clamp (by omega)]
  refine lv_i2l hx hb d_L_law_223 rfl ?_
  refine lv_bipush (v := 32) hx hb d_L_law_224 (by decide) ?_
  refine lv_lshl hx hb d_L_law_226 rfl ?_
  refine lv_aload_n hx hb d_L_law_227 rfl (lv_at hl 1 rfl) ?_
  refine lv_iload hx hb d_L_law_228 (lv_at hl 0 rfl) ?_
  refine lv_iconst (v := 2) hx hb d_L_law_230 (by decide) ?_
  refine lv_iadd hx hb d_L_law_231 ?_
  rw [show (nI i) + 2 = nI (i + 2) from (show nI i + nI 2 = _ from nI_add _ _)]
  refine va_sld hx hb hX hbl hbA hS (vp_in_nI (show i + 2 < L by omega) (by omega)) d_L_law_232 ?_
  rw [show (nI (i + 2)).toNatClampNeg = i + 2 from nI_clamp (by omega)]
  refine lv_i2l hx hb d_L_law_233 rfl ?_
  refine lv_ldc2 (own := R_L) (v := 4294967295) hx hb hown (htg _ k_523) d_L_law_234 ?_
  refine lv_land hx hb d_L_law_237 ?_
  refine lv_lor hx hb d_L_law_238 ?_
  rw [show (((xs (i + 1)).toInt64) <<< ((32 : Int32).toInt64 &&& 63)) ||| (((xs (i + 2)).toInt64) &&& 4294967295) = lg2 (xs (i + 1)) (xs (i + 2)) from rfl]
  refine lv_aload_n hx hb d_L_law_239 rfl (lv_at hl 1 rfl) ?_
  refine lv_iload hx hb d_L_law_240 (lv_at hl 0 rfl) ?_
  refine lv_iconst (v := 3) hx hb d_L_law_242 (by decide) ?_
  refine lv_iadd hx hb d_L_law_243 ?_
  rw [show (nI i) + 3 = nI (i + 3) from (show nI i + nI 3 = _ from nI_add _ _)]
  refine va_sld hx hb hX hbl hbA hS (vp_in_nI (show i + 3 < L by omega) (by omega)) d_L_law_244 ?_
  rw [show (nI (i + 3)).toNatClampNeg = i + 3 from nI_clamp (by omega)]
  refine lv_aload_n hx hb d_L_law_245 rfl (lv_at hl 1 rfl) ?_
  refine lv_iload hx hb d_L_law_246 (lv_at hl 0 rfl) ?_
  refine lv_iconst (v := 4) hx hb d_L_law_248 (by decide) ?_
  refine lv_iadd hx hb d_L_law_249 ?_
  rw [show (nI i) + 4 = nI (i + 4) from (show nI i + nI 4 = _ from nI_add _ _)]
  refine va_sld hx hb hX hbl hbA hS (vp_in_nI (show i + 4 < L by omega) (by omega)) d_L_law_250 ?_
  rw [show (nI (i + 4)).toNatClampNeg = i + 4 from nI_clamp (by omega)]
  refine lv_i2l hx hb d_L_law_251 rfl ?_
  refine lv_bipush (v := 32) hx hb d_L_law_252 (by decide) ?_
  refine lv_lshl hx hb d_L_law_254 rfl ?_
  refine lv_aload_n hx hb d_L_law_255 rfl (lv_at hl 1 rfl) ?_
  refine lv_iload hx hb d_L_law_256 (lv_at hl 0 rfl) ?_
  refine lv_iconst (v := 5) hx hb d_L_law_258 (by decide) ?_
  refine lv_iadd hx hb d_L_law_259 ?_
  rw [show (nI i) + 5 = nI (i + 5) from (show nI i + nI 5 = _ from nI_add _ _)]
  refine va_sld hx hb hX hbl hbA hS (vp_in_nI (show i + 5 < L by omega) (by omega)) d_L_law_260 ?_
  rw [show (nI (i + 5)).toNatClampNeg = i + 5 from nI_clamp (by omega)]
  refine lv_i2l hx hb d_L_law_261 rfl ?_
  refine lv_ldc2 (own := R_L) (v := 4294967295) hx hb hown (htg _ k_523) d_L_law_262 ?_
  refine lv_land hx hb d_L_law_265 ?_
  refine lv_lor hx hb d_L_law_266 ?_
  rw [show (((xs (i + 4)).toInt64) <<< ((32 : Int32).toInt64 &&& 63)) ||| (((xs (i + 5)).toInt64) &&& 4294967295) = lg2 (xs (i + 4)) (xs (i + 5)) from rfl]
  refine mc_i (vx_runSW (As := [.ref h, .long (lg2 (xs (i + 1)) (xs (i + 2))), .int (xs (i + 3)), .long (lg2 (xs (i + 4)) (xs (i + 5)))]) (rest := []) ⟨hx, hb, hml, hown, htg⟩ (t_L_store l hl0 D cJ cI cP bs w h n M T ra rs aT aA aS pt hs hro (lg2 (xs (i + 1)) (xs (i + 2))) (xs (i + 3)) (lg2 (xs (i + 4)) (xs (i + 5)))) (vx_cwSW (own := R_L) 4 htg (ginT k_204 k_205 k_24 k_206) rfl rfl rfl (by decide +kernel) ⟨Nat.le_of_ble_eq_true rfl, Nat.le_of_ble_eq_true rfl⟩) (mPx.preS hbs hS hP hK hE) rfl rfl hl.1 rfl (lv_room (Nat.le_of_ble_eq_true rfl)) d_L_law_267 ⟨by show _ ≤ 601024; omega, by show _ ≤ 7293000; omega⟩) hS (fun rk u5 H locs hw hP hz5 hS => ?_)
  have hP : mw D vwCl bs u5 H := hP
  rcases hw with ⟨ek, hy, ew⟩ | ⟨ek, hy, ew⟩ | ⟨ek, M9, pt9, hq⟩
  · subst ek
    rw [ew] at hP
    refine lv_istore (lv' := [(5, .int 1), (4, .int (nI i)), (0, .ref b), (1, .ref h), (2, .ref hm), (3, .ref ao)]) hx hb d_L_law_270 hl (by decide) rfl (fun ls hl => ?_)
    refine lv_aload_n hx hb d_L_law_272 rfl (lv_at hl 4 rfl) ?_
    refine lv_aload_n hx hb d_L_law_273 rfl (lv_at hl 2 rfl) ?_
    refine lv_iload hx hb d_L_law_274 (lv_at hl 1 rfl) ?_
    refine lv_iconst (v := 1) hx hb d_L_law_276 (by decide) ?_
    refine lv_iadd hx hb d_L_law_277 ?_
    rw [show (nI i) + 1 = nI (i + 1) from (show nI i + nI 1 = _ from nI_add _ _)]
    refine va_sld hx hb hX hbl hbA hS (vp_in_nI (show i + 1 < L by omega) (by omega)) d_L_law_278 ?_
    rw [show (nI (i + 1)).toNatClampNeg = i + 1 from nI_clamp (by omega)]
    refine lv_i2l hx hb d_L_law_279 rfl ?_
    refine lv_bipush (v := 32) hx hb d_L_law_280 (by decide) ?_
    refine lv_lshl hx hb d_L_law_282 rfl ?_
    refine lv_aload_n hx hb d_L_law_283 rfl (lv_at hl 2 rfl) ?_
    refine lv_iload hx hb d_L_law_284 (lv_at hl 1 rfl) ?_
    refine lv_iconst (v := 2) hx hb d_L_law_286 (by decide) ?_
    refine lv_iadd hx hb d_L_law_287 ?_
    rw [show (nI i) + 2 = nI (i + 2) from (show nI i + nI 2 = _ from nI_add _ _)]
    refine va_sld hx hb hX hbl hbA hS (vp_in_nI (show i + 2 < L by omega) (by omega)) d_L_law_288 ?_
    rw [show (nI (i + 2)).toNatClampNeg = i + 2 from nI_clamp (by omega)]
    refine lv_i2l hx hb d_L_law_289 rfl ?_
    refine lv_ldc2 (own := R_L) (v := 4294967295) hx hb hown (htg _ k_523) d_L_law_290 ?_
    refine lv_land hx hb d_L_law_293 ?_
    refine lv_lor hx hb d_L_law_294 ?_
    rw [show (((xs (i + 1)).toInt64) <<< ((32 : Int32).toInt64 &&& 63)) ||| (((xs (i + 2)).toInt64) &&& 4294967295) = lg2 (xs (i + 1)) (xs (i + 2)) from rfl]
    refine lv_aload_n hx hb d_L_law_295 rfl (lv_at hl 2 rfl) ?_
    refine lv_iload hx hb d_L_law_296 (lv_at hl 1 rfl) ?_
    refine lv_iconst (v := 3) hx hb d_L_law_298 (by decide) ?_
    refine lv_iadd hx hb d_L_law_299 ?_
    rw [show (nI i) + 3 = nI (i + 3) from (show nI i + nI 3 = _ from nI_add _ _)]
    refine va_sld hx hb hX hbl hbA hS (vp_in_nI (show i + 3 < L by omega) (by omega)) d_L_law_300 ?_
    rw [show (nI (i + 3)).toNatClampNeg = i + 3 from nI_clamp (by omega)]
    refine lv_aload_n hx hb d_L_law_301 rfl (lv_at hl 2 rfl) ?_
    refine lv_iload hx hb d_L_law_302 (lv_at hl 1 rfl) ?_
    refine lv_iconst (v := 4) hx hb d_L_law_304 (by decide) ?_
    refine lv_iadd hx hb d_L_law_305 ?_
    rw [show (nI i) + 4 = nI (i + 4) from (show nI i + nI 4 = _ from nI_add _ _)]
    refine va_sld hx hb hX hbl hbA hS (vp_in_nI (show i + 4 < L by omega) (by omega)) d_L_law_306 ?_
    rw [show (nI (i + 4)).toNatClampNeg = i + 4 from nI_clamp (by omega)]
    refine lv_i2l hx hb d_L_law_307 rfl ?_
    refine lv_bipush (v := 32) hx hb d_L_law_308 (by decide) ?_
    refine lv_lshl hx hb d_L_law_310 rfl ?_
    refine lv_aload_n hx hb d_L_law_311 rfl (lv_at hl 2 rfl) ?_
    refine lv_iload hx hb d_L_law_312 (lv_at hl 1 rfl) ?_
    refine lv_iconst (v := 5) hx hb d_L_law_314 (by decide) ?_
    refine lv_iadd hx hb d_L_law_315 ?_
    rw [show (nI i) + 5 = nI (i + 5) from (show nI i + nI 5 = _ from nI_add _ _)]
    refine va_sld hx hb hX hbl hbA hS (vp_in_nI (show i + 5 < L by omega) (by omega)) d_L_law_316 ?_
    rw [show (nI (i + 5)).toNatClampNeg = i + 5 from nI_clamp (by omega)]
    refine lv_i2l hx hb d_L_law_317 rfl ?_
    refine lv_ldc2 (own := R_L) (v := 4294967295) hx hb hown (htg _ k_523) d_L_law_318 ?_
    refine lv_land hx hb d_L_law_321 ?_
    refine lv_lor hx hb d_L_law_322 ?_
    rw [show (((xs (i + 4)).toInt64) <<< ((32 : Int32).toInt64 &&& 63)) ||| (((xs (i + 5)).toInt64) &&& 4294967295) = lg2 (xs (i + 4)) (xs (i + 5)) from rfl]
    refine mc_v (va_runV (As := [.long (lg2 (xs (i + 1)) (xs (i + 2))), .int (xs (i + 3)), .long (lg2 (xs (i + 4)) (xs (i + 5)))]) (rest := []) ⟨hx, hb, hml, hown, htg⟩ (t_M_store l D cJ cI cP bs w hm n cd M T ra rs aW aU aP aZ (hv0).2.1 hro (lg2 (xs (i + 1)) (xs (i + 2))) (xs (i + 3)) (lg2 (xs (i + 4)) (xs (i + 5)))) (cwV (own := R_L) (C := R_M) 3 htg (ginV k_464 k_465 k_466 k_26 k_467) rfl rfl rfl (by decide +kernel) ⟨Nat.le_of_ble_eq_true rfl, Nat.le_of_ble_eq_true rfl⟩) (mPc.preV (ci := ciM) (q := (R_M, T_M, 6)) hbs hS hP hK rfl (hv0).2.1.2.1) rfl rfl hl.1 rfl (lv_room (Nat.le_of_ble_eq_true rfl)) d_L_law_323 ⟨by show _ ≤ 601024; omega, by show _ ≤ 7293000; omega⟩) hS (fun u7 H locs hM hP hz323 hS => ?_)
    obtain ⟨w7, M7⟩ := u7
    have hP : mw D vwCl bs w7 H := hP
    obtain ⟨hkm, hM⟩ := hM
    rcases hM with ⟨hz, hmo⟩ | ⟨hz, ⟨k, ek7, h8, hno⟩, hmo⟩ | ⟨a, k, ek7, hok, h1, h8, ha, hM7, hmo⟩
    · have hv7 := hv_M (hv0) hkm hmo
      refine lv_aload_n hx hb d_L_law_326 rfl (lv_at hl 4 rfl) ?_
      refine mc_i (va_runV (As := []) (rest := []) ⟨hx, hb, hml, hown, htg⟩ (t_M_thrown l D cJ cI cP bs w7 hm n 1 _ _ _ _ _ _ _ _ (hv7).2.1) (cwV (own := R_L) (C := R_M) 0 htg (ginV k_430 k_431 k_432 k_26 k_433) rfl rfl rfl (by decide +kernel) ⟨Nat.le_of_ble_eq_true rfl, Nat.le_of_ble_eq_true rfl⟩) (mPc.preV (ci := ciM) (q := (R_M, T_M, 6)) hbs hS hP hK rfl (hv7).2.1.2.1) rfl rfl hl.1 rfl (lv_room (Nat.le_of_ble_eq_true rfl)) d_L_law_327 ⟨by show _ ≤ 601024; omega, by show _ ≤ 7293000; omega⟩) hS (fun r327 u327 H locs hth hP hz327 hS => ?_)
      subst hth
      refine lv_iload hx hb d_L_law_330 (lv_at hl 0 rfl) ?_
      refine lv_icmp_eq (tgt := 337) hx hb d_L_law_332 (by decide) (fun _ => ?_) (fun z => absurd rfl z)
      refine lv_goto (tgt := 876) hx hb d_L_law_337 (by decide) ?_
      refine W.widen (k := ce + 1026) (n := sl + 6144) (by omega) (by omega) ?_
      exact kx w7 ls H locs (LI.of hv7 hro) hP hS (lv_sub hl [1, 2, 3, 4, 5] rfl)
    · exact absurd hz hy
    · exact absurd hok hy
  · subst ek
    rw [ew] at hP
    refine lv_istore (lv' := [(5, .int 2), (4, .int (nI i)), (0, .ref b), (1, .ref h), (2, .ref hm), (3, .ref ao)]) hx hb d_L_law_270 hl (by decide) rfl (fun ls hl => ?_)
    refine lv_aload_n hx hb d_L_law_272 rfl (lv_at hl 4 rfl) ?_
    refine lv_aload_n hx hb d_L_law_273 rfl (lv_at hl 2 rfl) ?_
    refine lv_iload hx hb d_L_law_274 (lv_at hl 1 rfl) ?_
    refine lv_iconst (v := 1) hx hb d_L_law_276 (by decide) ?_
    refine lv_iadd hx hb d_L_law_277 ?_
    rw [show (nI i) + 1 = nI (i + 1) from (show nI i + nI 1 = _ from nI_add _ _)]
    refine va_sld hx hb hX hbl hbA hS (vp_in_nI (show i + 1 < L by omega) (by omega)) d_L_law_278 ?_
    rw [show (nI (i + 1)).toNatClampNeg = i + 1 from nI_clamp (by omega)]
    refine lv_i2l hx hb d_L_law_279 rfl ?_
    refine lv_bipush (v := 32) hx hb d_L_law_280 (by decide) ?_
    refine lv_lshl hx hb d_L_law_282 rfl ?_
    refine lv_aload_n hx hb d_L_law_283 rfl (lv_at hl 2 rfl) ?_
    refine lv_iload hx hb d_L_law_284 (lv_at hl 1 rfl) ?_
    refine lv_iconst (v := 2) hx hb d_L_law_286 (by decide) ?_
    refine lv_iadd hx hb d_L_law_287 ?_
    rw [show (nI i) + 2 = nI (i + 2) from (show nI i + nI 2 = _ from nI_add _ _)]
    refine va_sld hx hb hX hbl hbA hS (vp_in_nI (show i + 2 < L by omega) (by omega)) d_L_law_288 ?_
    rw [show (nI (i + 2)).toNatClampNeg = i + 2 from nI_clamp (by omega)]
    refine lv_i2l hx hb d_L_law_289 rfl ?_
    refine lv_ldc2 (own := R_L) (v := 4294967295) hx hb hown (htg _ k_523) d_L_law_290 ?_
    refine lv_land hx hb d_L_law_293 ?_
    refine lv_lor hx hb d_L_law_294 ?_
    rw [show (((xs (i + 1)).toInt64) <<< ((32 : Int32).toInt64 &&& 63)) ||| (((xs (i + 2)).toInt64) &&& 4294967295) = lg2 (xs (i + 1)) (xs (i + 2)) from rfl]
    refine lv_aload_n hx hb d_L_law_295 rfl (lv_at hl 2 rfl) ?_
    refine lv_iload hx hb d_L_law_296 (lv_at hl 1 rfl) ?_
    refine lv_iconst (v := 3) hx hb d_L_law_298 (by decide) ?_
    refine lv_iadd hx hb d_L_law_299 ?_
    rw [show (nI i) + 3 = nI (i + 3) from (show nI i + nI 3 = _ from nI_add _ _)]
    refine va_sld hx hb hX hbl hbA hS (vp_in_nI (show i + 3 < L by omega) (by omega)) d_L_law_300 ?_
    rw [show (nI (i + 3)).toNatClampNeg = i + 3 from nI_clamp (by omega)]
    refine lv_aload_n hx hb d_L_law_301 rfl (lv_at hl 2 rfl) ?_
    refine lv_iload hx hb d_L_law_302 (lv_at hl 1 rfl) ?_
    refine lv_iconst (v := 4) hx hb d_L_law_304 (by decide) ?_
    refine lv_iadd hx hb d_L_law_305 ?_
    rw [show (nI i) + 4 = nI (i + 4) from (show nI i + nI 4 = _ from nI_add _ _)]
    refine va_sld hx hb hX hbl hbA hS (vp_in_nI (show i + 4 < L by omega) (by omega)) d_L_law_306 ?_
    rw [show (nI (i + 4)).toNatClampNeg = i + 4 from nI_clamp (by omega)]
    refine lv_i2l hx hb d_L_law_307 rfl ?_
    refine lv_bipush (v := 32) hx hb d_L_law_308 (by decide) ?_
    refine lv_lshl hx hb d_L_law_310 rfl ?_
    refine lv_aload_n hx hb d_L_law_311 rfl (lv_at hl 2 rfl) ?_
    refine lv_iload hx hb d_L_law_312 (lv_at hl 1 rfl) ?_
    refine lv_iconst (v := 5) hx hb d_L_law_314 (by decide) ?_
    refine lv_iadd hx hb d_L_law_315 ?_
    rw [show (nI i) + 5 = nI (i + 5) from (show nI i + nI 5 = _ from nI_add _ _)]
    refine va_sld hx hb hX hbl hbA hS (vp_in_nI (show i + 5 < L by omega) (by omega)) d_L_law_316 ?_
    rw [show (nI (i + 5)).toNatClampNeg = i + 5 from nI_clamp (by omega)]
    refine lv_i2l hx hb d_L_law_317 rfl ?_
    refine lv_ldc2 (own := R_L) (v := 4294967295) hx hb hown (htg _ k_523) d_L_law_318 ?_
    refine lv_land hx hb d_L_law_321 ?_
    refine lv_lor hx hb d_L_law_322 ?_
    rw [show (((xs (i + 4)).toInt64) <<< ((32 : Int32).toInt64 &&& 63)) ||| (((xs (i + 5)).toInt64) &&& 4294967295) = lg2 (xs (i + 4)) (xs (i + 5)) from rfl]
    refine mc_v (va_runV (As := [.long (lg2 (xs (i + 1)) (xs (i + 2))), .int (xs (i + 3)), .long (lg2 (xs (i + 4)) (xs (i + 5)))]) (rest := []) ⟨hx, hb, hml, hown, htg⟩ (t_M_store l D cJ cI cP bs w hm n cd M T ra rs aW aU aP aZ (hv0).2.1 hro (lg2 (xs (i + 1)) (xs (i + 2))) (xs (i + 3)) (lg2 (xs (i + 4)) (xs (i + 5)))) (cwV (own := R_L) (C := R_M) 3 htg (ginV k_464 k_465 k_466 k_26 k_467) rfl rfl rfl (by decide +kernel) ⟨Nat.le_of_ble_eq_true rfl, Nat.le_of_ble_eq_true rfl⟩) (mPc.preV (ci := ciM) (q := (R_M, T_M, 6)) hbs hS hP hK rfl (hv0).2.1.2.1) rfl rfl hl.1 rfl (lv_room (Nat.le_of_ble_eq_true rfl)) d_L_law_323 ⟨by show _ ≤ 601024; omega, by show _ ≤ 7293000; omega⟩) hS (fun u7 H locs hM hP hz323 hS => ?_)
    obtain ⟨w7, M7⟩ := u7
    have hP : mw D vwCl bs w7 H := hP
    obtain ⟨hkm, hM⟩ := hM
    rcases hM with ⟨hz, hmo⟩ | ⟨hz, ⟨k, ek7, h8, hno⟩, hmo⟩ | ⟨a, k, ek7, hok, h1, h8, ha, hM7, hmo⟩
    · exact absurd hy.1 hz
    · have hv7 := hv_M (hv0) hkm hmo
      refine lv_aload_n hx hb d_L_law_326 rfl (lv_at hl 4 rfl) ?_
      refine mc_i (va_runV (As := []) (rest := []) ⟨hx, hb, hml, hown, htg⟩ (t_M_thrown l D cJ cI cP bs w7 hm n 2 _ _ _ _ _ _ _ _ (hv7).2.1) (cwV (own := R_L) (C := R_M) 0 htg (ginV k_430 k_431 k_432 k_26 k_433) rfl rfl rfl (by decide +kernel) ⟨Nat.le_of_ble_eq_true rfl, Nat.le_of_ble_eq_true rfl⟩) (mPc.preV (ci := ciM) (q := (R_M, T_M, 6)) hbs hS hP hK rfl (hv7).2.1.2.1) rfl rfl hl.1 rfl (lv_room (Nat.le_of_ble_eq_true rfl)) d_L_law_327 ⟨by show _ ≤ 601024; omega, by show _ ≤ 7293000; omega⟩) hS (fun r327 u327 H locs hth hP hz327 hS => ?_)
      subst hth
      refine lv_iload hx hb d_L_law_330 (lv_at hl 0 rfl) ?_
      refine lv_icmp_eq (tgt := 337) hx hb d_L_law_332 (by decide) (fun _ => ?_) (fun z => absurd rfl z)
      refine lv_goto (tgt := 876) hx hb d_L_law_337 (by decide) ?_
      refine W.widen (k := ce + 1026) (n := sl + 6144) (by omega) (by omega) ?_
      exact kx w7 ls H locs (LI.of hv7 hro) hP hS (lv_sub hl [1, 2, 3, 4, 5] rfl)
    · exact absurd ⟨a, ha⟩ (hy.2 k ek7)
  · subst ek
    obtain ⟨a9, k9, ek9, hok9, h19, h89, ha9, hsm9, hM9, hkp9⟩ := hq
    have hv1 := hv_S hv0 hkp9 hsm9
    refine lv_istore (lv' := [(5, .int 0), (4, .int (nI i)), (0, .ref b), (1, .ref h), (2, .ref hm), (3, .ref ao)]) hx hb d_L_law_270 hl (by decide) rfl (fun ls hl => ?_)
    refine lv_aload_n hx hb d_L_law_272 rfl (lv_at hl 4 rfl) ?_
    refine lv_aload_n hx hb d_L_law_273 rfl (lv_at hl 2 rfl) ?_
    refine lv_iload hx hb d_L_law_274 (lv_at hl 1 rfl) ?_
    refine lv_iconst (v := 1) hx hb d_L_law_276 (by decide) ?_
    refine lv_iadd hx hb d_L_law_277 ?_
    rw [show (nI i) + 1 = nI (i + 1) from (show nI i + nI 1 = _ from nI_add _ _)]
    refine va_sld hx hb hX hbl hbA hS (vp_in_nI (show i + 1 < L by omega) (by omega)) d_L_law_278 ?_
    rw [show (nI (i + 1)).toNatClampNeg = i + 1 from nI_clamp (by omega)]
    refine lv_i2l hx hb d_L_law_279 rfl ?_
    refine lv_bipush (v := 32) hx hb d_L_law_280 (by decide) ?_
    refine lv_lshl hx hb d_L_law_282 rfl ?_
    refine lv_aload_n hx hb d_L_law_283 rfl (lv_at hl 2 rfl) ?_
    refine lv_iload hx hb d_L_law_284 (lv_at hl 1 rfl) ?_
    refine lv_iconst (v := 2) hx hb d_L_law_286 (by decide) ?_
    refine lv_iadd hx hb d_L_law_287 ?_
    rw [show (nI i) + 2 = nI (i + 2) from (show nI i + nI 2 = _ from nI_add _ _)]
    refine va_sld hx hb hX hbl hbA hS (vp_in_nI (show i + 2 < L by omega) (by omega)) d_L_law_288 ?_
    rw [show (nI (i + 2)).toNatClampNeg = i + 2 from nI_clamp (by omega)]
    refine lv_i2l hx hb d_L_law_289 rfl ?_
    refine lv_ldc2 (own := R_L) (v := 4294967295) hx hb hown (htg _ k_523) d_L_law_290 ?_
    refine lv_land hx hb d_L_law_293 ?_
    refine lv_lor hx hb d_L_law_294 ?_
    rw [show (((xs (i + 1)).toInt64) <<< ((32 : Int32).toInt64 &&& 63)) ||| (((xs (i + 2)).toInt64) &&& 4294967295) = lg2 (xs (i + 1)) (xs (i + 2)) from rfl]
    refine lv_aload_n hx hb d_L_law_295 rfl (lv_at hl 2 rfl) ?_
    refine lv_iload hx hb d_L_law_296 (lv_at hl 1 rfl) ?_
    refine lv_iconst (v := 3) hx hb d_L_law_298 (by decide) ?_
    refine lv_iadd hx hb d_L_law_299 ?_
    rw [show (nI i) + 3 = nI (i + 3) from (show nI i + nI 3 = _ from nI_add _ _)]
    refine va_sld hx hb hX hbl hbA hS (vp_in_nI (show i + 3 < L by omega) (by omega)) d_L_law_300 ?_
    rw [show (nI (i + 3)).toNatClampNeg = i + 3 from nI_clamp (by omega)]
    refine lv_aload_n hx hb d_L_law_301 rfl (lv_at hl 2 rfl) ?_
    refine lv_iload hx hb d_L_law_302 (lv_at hl 1 rfl) ?_
    refine lv_iconst (v := 4) hx hb d_L_law_304 (by decide) ?_
    refine lv_iadd hx hb d_L_law_305 ?_
    rw [show (nI i) + 4 = nI (i + 4) from (show nI i + nI 4 = _ from nI_add _ _)]
    refine va_sld hx hb hX hbl hbA hS (vp_in_nI (show i + 4 < L by omega) (by omega)) d_L_law_306 ?_
    rw [show (nI (i + 4)).toNatClampNeg = i + 4 from nI_clamp (by omega)]
    refine lv_i2l hx hb d_L_law_307 rfl ?_
    refine lv_bipush (v := 32) hx hb d_L_law_308 (by decide) ?_
    refine lv_lshl hx hb d_L_law_310 rfl ?_
    refine lv_aload_n hx hb d_L_law_311 rfl (lv_at hl 2 rfl) ?_
    refine lv_iload hx hb d_L_law_312 (lv_at hl 1 rfl) ?_
    refine lv_iconst (v := 5) hx hb d_L_law_314 (by decide) ?_
    refine lv_iadd hx hb d_L_law_315 ?_
    rw [show (nI i) + 5 = nI (i + 5) from (show nI i + nI 5 = _ from nI_add _ _)]
    refine va_sld hx hb hX hbl hbA hS (vp_in_nI (show i + 5 < L by omega) (by omega)) d_L_law_316 ?_
    rw [show (nI (i + 5)).toNatClampNeg = i + 5 from nI_clamp (by omega)]
    refine lv_i2l hx hb d_L_law_317 rfl ?_
    refine lv_ldc2 (own := R_L) (v := 4294967295) hx hb hown (htg _ k_523) d_L_law_318 ?_
    refine lv_land hx hb d_L_law_321 ?_
    refine lv_lor hx hb d_L_law_322 ?_
    rw [show (((xs (i + 4)).toInt64) <<< ((32 : Int32).toInt64 &&& 63)) ||| (((xs (i + 5)).toInt64) &&& 4294967295) = lg2 (xs (i + 4)) (xs (i + 5)) from rfl]
    refine mc_v (va_runV (As := [.long (lg2 (xs (i + 1)) (xs (i + 2))), .int (xs (i + 3)), .long (lg2 (xs (i + 4)) (xs (i + 5)))]) (rest := []) ⟨hx, hb, hml, hown, htg⟩ (t_M_store l D cJ cI cP bs u5 hm n cd M T ra rs aW aU aP aZ (hv1).2.1 hro (lg2 (xs (i + 1)) (xs (i + 2))) (xs (i + 3)) (lg2 (xs (i + 4)) (xs (i + 5)))) (cwV (own := R_L) (C := R_M) 3 htg (ginV k_464 k_465 k_466 k_26 k_467) rfl rfl rfl (by decide +kernel) ⟨Nat.le_of_ble_eq_true rfl, Nat.le_of_ble_eq_true rfl⟩) (mPc.preV (ci := ciM) (q := (R_M, T_M, 6)) hbs hS hP hK rfl (hv1).2.1.2.1) rfl rfl hl.1 rfl (lv_room (Nat.le_of_ble_eq_true rfl)) d_L_law_323 ⟨by show _ ≤ 601024; omega, by show _ ≤ 7293000; omega⟩) hS (fun u7 H locs hM hP hz323 hS => ?_)
    obtain ⟨w7, M7⟩ := u7
    have hP : mw D vwCl bs w7 H := hP
    obtain ⟨hkm, hM⟩ := hM
    rcases hM with ⟨hz, hmo⟩ | ⟨hz, ⟨k, ek7, h8, hno⟩, hmo⟩ | ⟨a, k, ek7, hok, h1, h8, ha, hM7, hmo⟩
    · exact absurd hok9 hz
    · have ekk : k9 = k := nk8 (ek9.symm.trans ek7) h89 h8
      subst ekk
      exact absurd ⟨a9, ha9⟩ hno
    · have ekk : k9 = k := nk8 (ek9.symm.trans ek7) h89 h8
      subst ekk
      have eaa : a9 = a := inM_u hn.2 ha9 ha
      subst eaa
      have eM : M9 = M7 := mb_inj (hM9.trans hM7.symm)
      subst eM
      have hv7 := hv_M hv1 hkm hmo
      refine lv_aload_n hx hb d_L_law_326 rfl (lv_at hl 4 rfl) ?_
      refine mc_i (va_runV (As := []) (rest := []) ⟨hx, hb, hml, hown, htg⟩ (t_M_thrown l D cJ cI cP bs w7 hm n 0 _ _ _ _ _ _ _ _ (hv7).2.1) (cwV (own := R_L) (C := R_M) 0 htg (ginV k_430 k_431 k_432 k_26 k_433) rfl rfl rfl (by decide +kernel) ⟨Nat.le_of_ble_eq_true rfl, Nat.le_of_ble_eq_true rfl⟩) (mPc.preV (ci := ciM) (q := (R_M, T_M, 6)) hbs hS hP hK rfl (hv7).2.1.2.1) rfl rfl hl.1 rfl (lv_room (Nat.le_of_ble_eq_true rfl)) d_L_law_327 ⟨by show _ ≤ 601024; omega, by show _ ≤ 7293000; omega⟩) hS (fun r327 u327 H locs hth hP hz327 hS => ?_)
      subst hth
      refine lv_iload hx hb d_L_law_330 (lv_at hl 0 rfl) ?_
      refine lv_icmp_eq (tgt := 337) hx hb d_L_law_332 (by decide) (fun _ => ?_) (fun z => absurd rfl z)
      refine lv_goto (tgt := 876) hx hb d_L_law_337 (by decide) ?_
      refine W.widen (k := ce + 1026) (n := sl + 6144) (by omega) (by omega) ?_
      exact kx w7 ls H locs (LI.of hv7 (rok_lost hro _ _)) hP hS (lv_sub hl [1, 2, 3, 4, 5] rfl)
set_option maxHeartbeats 4000000 in
set_option maxRecDepth 100000 in
/-- case 3: fill -/
theorem lw_3 {p : Program} {l : Launch} {e : Env} {s : State} {m : MethodId} {below : List Frame} {meth : Method} {c : Code} {Q : State → Prop} {b L : Nat} {xs : Nat → Int32} {D : va_G} {cJ cI cP : ClassId} {bs : Nat} (hl0 : l.stackTraces = false) (hx : p.tables.exec = Jvm.exec) (hb : c.code = c_L_law) (hml : c.maxLocals = 8) (hown : s.vm.findClass R_L = some m.cls) (htg : ∀ w ∈ gt, w.before #[Value.ref b] s = true) (hX : va_X b L xs s s.heap) (hbl : b < s.heap.size) (hbA : ¬ mA bs b) (hK : va_K D vwCl (mT cJ cI cP) s) (hbs : bs ≤ s.heap.size) (hE : evX bs s) (h hm ao i ce sl : Nat) (hi : i + 8 ≤ L) (hL : L ≤ 4097) (hce : ce + 1026 ≤ 601024) (hsl : sl + 6144 ≤ 7293000) (w : Nat → Option va_E) (hI : LI cJ cI cP h hm ao w)
    (kx : ∀ (w : Nat → Option va_E) (ls : Array Slot) (H : Heap) (locs : List Loc), LI cJ cI cP h hm ao w → mw D vwCl bs w H → va_S (mA bs) s.heap H locs → lv_has ls 8 [(4, .int (nI i)), (0, .ref b), (1, .ref h), (2, .ref hm), (3, .ref ao)] → W p l e room_1 s m #[Value.ref b] below meth c H locs (ce + 1026) (sl + 6144) Q (F0 m 876 ls []))
    (ls : Array Slot) (H : Heap) (locs : List Loc) (hP : mw D vwCl bs w H) (hS : va_S (mA bs) s.heap H locs) (hl : lv_has ls 8 [(4, .int (nI i)), (0, .ref b), (1, .ref h), (2, .ref hm), (3, .ref ao)]) : W p l e room_1 s m #[Value.ref b] below meth c H locs ce sl Q (F0 m 340 ls []) := by
  obtain ⟨n, cd, M, T, ra, rs, aT, aA, aS, pt, aW, aU, aP, aZ, O, hv0, hro⟩ := hI
  obtain ⟨hs, ho, hao, hdj⟩ := id hv0
  have hn := hs.1
  have hna : ¬ sfp w h ao := fun z => (hdj ao z).2.2.2.2.2 rfl
  refine lv_aload_n hx hb d_L_law_340 rfl (lv_at hl 2 rfl) ?_
  refine lv_aload_n hx hb d_L_law_341 rfl (lv_at hl 1 rfl) ?_
  refine lv_iload hx hb d_L_law_342 (lv_at hl 0 rfl) ?_
  refine lv_iconst (v := 1) hx hb d_L_law_344 (by decide) ?_
  refine lv_iadd hx hb d_L_law_345 ?_
  rw [show (nI i) + 1 = nI (i + 1) from (show nI i + nI 1 = _ from nI_add _ _)]
  refine va_sld hx hb hX hbl hbA hS (vp_in_nI (show i + 1 < L by omega) (by omega)) d_L_law_346 ?_
  rw [show (nI (i + 1)).toNatClampNeg = i + 1 from nI_clamp (by omega)]
  refine lv_i2l hx hb d_L_law_347 rfl ?_
  refine lv_bipush (v := 32) hx hb d_L_law_348 (by decide) ?_
  refine lv_lshl hx hb d_L_law_350 rfl ?_
  refine lv_aload_n hx hb d_L_law_351 rfl (lv_at hl 1 rfl) ?_
  refine lv_iload hx hb d_L_law_352 (lv_at hl 0 rfl) ?_
  refine lv_iconst (v := 2) hx hb d_L_law_354 (by decide) ?_
  refine lv_iadd hx hb d_L_law_355 ?_
  rw [show (nI i) + 2 = nI (i + 2) from (show nI i + nI 2 = _ from nI_add _ _)]
  refine va_sld hx hb hX hbl hbA hS (vp_in_nI (show i + 2 < L by omega) (by omega)) d_L_law_356 ?_
  rw [show (nI (i + 2)).toNatClampNeg = i + 2 from nI_clamp (by omega)]
  refine lv_i2l hx hb d_L_law_357 rfl ?_
  refine lv_ldc2 (own := R_L) (v := 4294967295) hx hb hown (htg _ k_523) d_L_law_358 ?_
  refine lv_land hx hb d_L_law_361 ?_
  refine lv_lor hx hb d_L_law_362 ?_
  rw [show (((xs (i + 1)).toInt64) <<< ((32 : Int32).toInt64 &&& 63)) ||| (((xs (i + 2)).toInt64) &&& 4294967295) = lg2 (xs (i + 1)) (xs (i + 2)) from rfl]
  refine lv_aload_n hx hb d_L_law_363 rfl (lv_at hl 1 rfl) ?_
  refine lv_iload hx hb d_L_law_364 (lv_at hl 0 rfl) ?_
  refine lv_iconst (v := 3) hx hb d_L_law_366 (by decide) ?_
  refine lv_iadd hx hb d_L_law_367 ?_
  rw [show (nI i) + 3 = nI (i + 3) from (show nI i + nI 3 = _ from nI_add _ _)]
  refine va_sld hx hb hX hbl hbA hS (vp_in_nI (show i + 3 < L by omega) (by omega)) d_L_law_368 ?_
  rw [show (nI (i + 3)).toNatClampNeg = i + 3 from nI_clamp (by omega)]
  refine lv_i2l hx hb d_L_law_369 rfl ?_
  refine lv_bipush (v := 32) hx hb d_L_law_370 (by decide) ?_
  refine lv_lshl hx hb d_L_law_372 rfl ?_
  refine lv_aload_n hx hb d_L_law_373 rfl (lv_at hl 1 rfl) ?_
  refine lv_iload hx hb d_L_law_374 (lv_at hl 0 rfl) ?_
  refine lv_iconst (v := 4) hx hb d_L_law_376 (by decide) ?_
  refine lv_iadd hx hb d_L_law_377 ?_
  rw [show (nI i) + 4 = nI (i + 4) from (show nI i + nI 4 = _ from nI_add _ _)]
  refine va_sld hx hb hX hbl hbA hS (vp_in_nI (show i + 4 < L by omega) (by omega)) d_L_law_378 ?_
  rw [show (nI (i + 4)).toNatClampNeg = i + 4 from nI_clamp (by omega)]
  refine lv_i2l hx hb d_L_law_379 rfl ?_
  refine lv_ldc2 (own := R_L) (v := 4294967295) hx hb hown (htg _ k_523) d_L_law_380 ?_
  refine lv_land hx hb d_L_law_383 ?_
  refine lv_lor hx hb d_L_law_384 ?_
  rw [show (((xs (i + 3)).toInt64) <<< ((32 : Int32).toInt64 &&& 63)) ||| (((xs (i + 4)).toInt64) &&& 4294967295) = lg2 (xs (i + 3)) (xs (i + 4)) from rfl]
  refine lv_aload_n hx hb d_L_law_385 rfl (lv_at hl 1 rfl) ?_
  refine lv_iload hx hb d_L_law_386 (lv_at hl 0 rfl) ?_
  refine lv_iconst (v := 5) hx hb d_L_law_388 (by decide) ?_
  refine lv_iadd hx hb d_L_law_389 ?_
  rw [show (nI i) + 5 = nI (i + 5) from (show nI i + nI 5 = _ from nI_add _ _)]
  refine va_sld hx hb hX hbl hbA hS (vp_in_nI (show i + 5 < L by omega) (by omega)) d_L_law_390 ?_
  rw [show (nI (i + 5)).toNatClampNeg = i + 5 from nI_clamp (by omega)]
  refine mc_i (vx_runSW (As := [.ref h, .long (lg2 (xs (i + 1)) (xs (i + 2))), .long (lg2 (xs (i + 3)) (xs (i + 4))), .int (xs (i + 5))]) (rest := []) ⟨hx, hb, hml, hown, htg⟩ (t_L_fill l hl0 D cJ cI cP bs w h n M T ra rs aT aA aS pt hs hro (lg2 (xs (i + 1)) (xs (i + 2))) (lg2 (xs (i + 3)) (xs (i + 4))) (xs (i + 5))) (vx_cwSW (own := R_L) 4 htg (ginT k_269 k_270 k_24 k_271) rfl rfl rfl (by decide +kernel) ⟨Nat.le_of_ble_eq_true rfl, Nat.le_of_ble_eq_true rfl⟩) (mPx.preS hbs hS hP hK hE) rfl rfl hl.1 rfl (lv_room (Nat.le_of_ble_eq_true rfl)) d_L_law_391 ⟨by show _ ≤ 601024; omega, by show _ ≤ 7293000; omega⟩) hS (fun rk u5 H locs hw hP hz5 hS => ?_)
  have hP : mw D vwCl bs u5 H := hP
  rcases hw with ⟨ek, hy, ew⟩ | ⟨ek, hy, ew⟩ | ⟨ek, M9, pt9, hq | hq⟩
  · subst ek
    rw [ew] at hP
    refine lv_istore (lv' := [(5, .int 1), (4, .int (nI i)), (0, .ref b), (1, .ref h), (2, .ref hm), (3, .ref ao)]) hx hb d_L_law_394 hl (by decide) rfl (fun ls hl => ?_)
    refine lv_aload_n hx hb d_L_law_396 rfl (lv_at hl 4 rfl) ?_
    refine lv_aload_n hx hb d_L_law_397 rfl (lv_at hl 2 rfl) ?_
    refine lv_iload hx hb d_L_law_398 (lv_at hl 1 rfl) ?_
    refine lv_iconst (v := 1) hx hb d_L_law_400 (by decide) ?_
    refine lv_iadd hx hb d_L_law_401 ?_
    rw [show (nI i) + 1 = nI (i + 1) from (show nI i + nI 1 = _ from nI_add _ _)]
    refine va_sld hx hb hX hbl hbA hS (vp_in_nI (show i + 1 < L by omega) (by omega)) d_L_law_402 ?_
    rw [show (nI (i + 1)).toNatClampNeg = i + 1 from nI_clamp (by omega)]
    refine lv_i2l hx hb d_L_law_403 rfl ?_
    refine lv_bipush (v := 32) hx hb d_L_law_404 (by decide) ?_
    refine lv_lshl hx hb d_L_law_406 rfl ?_
    refine lv_aload_n hx hb d_L_law_407 rfl (lv_at hl 2 rfl) ?_
    refine lv_iload hx hb d_L_law_408 (lv_at hl 1 rfl) ?_
    refine lv_iconst (v := 2) hx hb d_L_law_410 (by decide) ?_
    refine lv_iadd hx hb d_L_law_411 ?_
    rw [show (nI i) + 2 = nI (i + 2) from (show nI i + nI 2 = _ from nI_add _ _)]
    refine va_sld hx hb hX hbl hbA hS (vp_in_nI (show i + 2 < L by omega) (by omega)) d_L_law_412 ?_
    rw [show (nI (i + 2)).toNatClampNeg = i + 2 from nI_clamp (by omega)]
    refine lv_i2l hx hb d_L_law_413 rfl ?_
    refine lv_ldc2 (own := R_L) (v := 4294967295) hx hb hown (htg _ k_523) d_L_law_414 ?_
    refine lv_land hx hb d_L_law_417 ?_
    refine lv_lor hx hb d_L_law_418 ?_
    rw [show (((xs (i + 1)).toInt64) <<< ((32 : Int32).toInt64 &&& 63)) ||| (((xs (i + 2)).toInt64) &&& 4294967295) = lg2 (xs (i + 1)) (xs (i + 2)) from rfl]
    refine lv_aload_n hx hb d_L_law_419 rfl (lv_at hl 2 rfl) ?_
    refine lv_iload hx hb d_L_law_420 (lv_at hl 1 rfl) ?_
    refine lv_iconst (v := 3) hx hb d_L_law_422 (by decide) ?_
    refine lv_iadd hx hb d_L_law_423 ?_
    rw [show (nI i) + 3 = nI (i + 3) from (show nI i + nI 3 = _ from nI_add _ _)]
    refine va_sld hx hb hX hbl hbA hS (vp_in_nI (show i + 3 < L by omega) (by omega)) d_L_law_424 ?_
    rw [show (nI (i + 3)).toNatClampNeg = i + 3 from nI_clamp (by omega)]
    refine lv_i2l hx hb d_L_law_425 rfl ?_
    refine lv_bipush (v := 32) hx hb d_L_law_426 (by decide) ?_
    refine lv_lshl hx hb d_L_law_428 rfl ?_
    refine lv_aload_n hx hb d_L_law_429 rfl (lv_at hl 2 rfl) ?_
    refine lv_iload hx hb d_L_law_430 (lv_at hl 1 rfl) ?_
    refine lv_iconst (v := 4) hx hb d_L_law_432 (by decide) ?_
    refine lv_iadd hx hb d_L_law_433 ?_
    rw [show (nI i) + 4 = nI (i + 4) from (show nI i + nI 4 = _ from nI_add _ _)]
    refine va_sld hx hb hX hbl hbA hS (vp_in_nI (show i + 4 < L by omega) (by omega)) d_L_law_434 ?_
    rw [show (nI (i + 4)).toNatClampNeg = i + 4 from nI_clamp (by omega)]
    refine lv_i2l hx hb d_L_law_435 rfl ?_
    refine lv_ldc2 (own := R_L) (v := 4294967295) hx hb hown (htg _ k_523) d_L_law_436 ?_
    refine lv_land hx hb d_L_law_439 ?_
    refine lv_lor hx hb d_L_law_440 ?_
    rw [show (((xs (i + 3)).toInt64) <<< ((32 : Int32).toInt64 &&& 63)) ||| (((xs (i + 4)).toInt64) &&& 4294967295) = lg2 (xs (i + 3)) (xs (i + 4)) from rfl]
    refine lv_aload_n hx hb d_L_law_441 rfl (lv_at hl 2 rfl) ?_
    refine lv_iload hx hb d_L_law_442 (lv_at hl 1 rfl) ?_
    refine lv_iconst (v := 5) hx hb d_L_law_444 (by decide) ?_
    refine lv_iadd hx hb d_L_law_445 ?_
    rw [show (nI i) + 5 = nI (i + 5) from (show nI i + nI 5 = _ from nI_add _ _)]
    refine va_sld hx hb hX hbl hbA hS (vp_in_nI (show i + 5 < L by omega) (by omega)) d_L_law_446 ?_
    rw [show (nI (i + 5)).toNatClampNeg = i + 5 from nI_clamp (by omega)]
    refine mc_v (va_runV (As := [.long (lg2 (xs (i + 1)) (xs (i + 2))), .long (lg2 (xs (i + 3)) (xs (i + 4))), .int (xs (i + 5))]) (rest := []) ⟨hx, hb, hml, hown, htg⟩ (t_M_fill l D cJ cI cP bs w hm n cd M T ra rs aW aU aP aZ (hv0).2.1 hro (lg2 (xs (i + 1)) (xs (i + 2))) (lg2 (xs (i + 3)) (xs (i + 4))) (xs (i + 5))) (cwV (own := R_L) (C := R_M) 3 htg (ginV k_479 k_480 k_481 k_26 k_482) rfl rfl rfl (by decide +kernel) ⟨Nat.le_of_ble_eq_true rfl, Nat.le_of_ble_eq_true rfl⟩) (mPc.preV (ci := ciM) (q := (R_M, T_M, 6)) hbs hS hP hK rfl (hv0).2.1.2.1) rfl rfl hl.1 rfl (lv_room (Nat.le_of_ble_eq_true rfl)) d_L_law_447 ⟨by show _ ≤ 601024; omega, by show _ ≤ 7293000; omega⟩) hS (fun u7 H locs hM hP hz447 hS => ?_)
    obtain ⟨w7, M7⟩ := u7
    have hP : mw D vwCl bs w7 H := hP
    rcases hM with ⟨hz, hmo, hkm⟩ | ⟨hz1, hz2, hno, hmo, hkm⟩ | ⟨hz, hmo, hkm⟩ | ⟨hz1, hz2, a, b8, hab, hmo, hM7, hkm⟩
    · have hv7 := hv_M (hv0) hkm hmo
      refine lv_aload_n hx hb d_L_law_450 rfl (lv_at hl 4 rfl) ?_
      refine mc_i (va_runV (As := []) (rest := []) ⟨hx, hb, hml, hown, htg⟩ (t_M_thrown l D cJ cI cP bs w7 hm n 1 _ _ _ _ _ _ _ _ (hv7).2.1) (cwV (own := R_L) (C := R_M) 0 htg (ginV k_430 k_431 k_432 k_26 k_433) rfl rfl rfl (by decide +kernel) ⟨Nat.le_of_ble_eq_true rfl, Nat.le_of_ble_eq_true rfl⟩) (mPc.preV (ci := ciM) (q := (R_M, T_M, 6)) hbs hS hP hK rfl (hv7).2.1.2.1) rfl rfl hl.1 rfl (lv_room (Nat.le_of_ble_eq_true rfl)) d_L_law_451 ⟨by show _ ≤ 601024; omega, by show _ ≤ 7293000; omega⟩) hS (fun r451 u451 H locs hth hP hz451 hS => ?_)
      subst hth
      refine lv_iload hx hb d_L_law_454 (lv_at hl 0 rfl) ?_
      refine lv_icmp_eq (tgt := 461) hx hb d_L_law_456 (by decide) (fun _ => ?_) (fun z => absurd rfl z)
      refine lv_goto (tgt := 876) hx hb d_L_law_461 (by decide) ?_
      refine W.widen (k := ce + 1026) (n := sl + 6144) (by omega) (by omega) ?_
      exact kx w7 ls H locs (LI.of hv7 hro) hP hS (lv_sub hl [1, 2, 3, 4, 5] rfl)
    · exact absurd hz1 hy
    · exact absurd (show _ ≤ _ by rw [hz]; exact Int64.le_refl _) hy
    · exact absurd hz1 hy
  · subst ek
    rw [ew] at hP
    refine lv_istore (lv' := [(5, .int 2), (4, .int (nI i)), (0, .ref b), (1, .ref h), (2, .ref hm), (3, .ref ao)]) hx hb d_L_law_394 hl (by decide) rfl (fun ls hl => ?_)
    refine lv_aload_n hx hb d_L_law_396 rfl (lv_at hl 4 rfl) ?_
    refine lv_aload_n hx hb d_L_law_397 rfl (lv_at hl 2 rfl) ?_
    refine lv_iload hx hb d_L_law_398 (lv_at hl 1 rfl) ?_
    refine lv_iconst (v := 1) hx hb d_L_law_400 (by decide) ?_
    refine lv_iadd hx hb d_L_law_401 ?_
    rw [show (nI i) + 1 = nI (i + 1) from (show nI i + nI 1 = _ from nI_add _ _)]
    refine va_sld hx hb hX hbl hbA hS (vp_in_nI (show i + 1 < L by omega) (by omega)) d_L_law_402 ?_
    rw [show (nI (i + 1)).toNatClampNeg = i + 1 from nI_clamp (by omega)]
    refine lv_i2l hx hb d_L_law_403 rfl ?_
    refine lv_bipush (v := 32) hx hb d_L_law_404 (by decide) ?_
    refine lv_lshl hx hb d_L_law_406 rfl ?_
    refine lv_aload_n hx hb d_L_law_407 rfl (lv_at hl 2 rfl) ?_
    refine lv_iload hx hb d_L_law_408 (lv_at hl 1 rfl) ?_
    refine lv_iconst (v := 2) hx hb d_L_law_410 (by decide) ?_
    refine lv_iadd hx hb d_L_law_411 ?_
    rw [show (nI i) + 2 = nI (i + 2) from (show nI i + nI 2 = _ from nI_add _ _)]
    refine va_sld hx hb hX hbl hbA hS (vp_in_nI (show i + 2 < L by omega) (by omega)) d_L_law_412 ?_
    rw [show (nI (i + 2)).toNatClampNeg = i + 2 from nI_clamp (by omega)]
    refine lv_i2l hx hb d_L_law_413 rfl ?_
    refine lv_ldc2 (own := R_L) (v := 4294967295) hx hb hown (htg _ k_523) d_L_law_414 ?_
    refine lv_land hx hb d_L_law_417 ?_
    refine lv_lor hx hb d_L_law_418 ?_
    rw [show (((xs (i + 1)).toInt64) <<< ((32 : Int32).toInt64 &&& 63)) ||| (((xs (i + 2)).toInt64) &&& 4294967295) = lg2 (xs (i + 1)) (xs (i + 2)) from rfl]
    refine lv_aload_n hx hb d_L_law_419 rfl (lv_at hl 2 rfl) ?_
    refine lv_iload hx hb d_L_law_420 (lv_at hl 1 rfl) ?_
    refine lv_iconst (v := 3) hx hb d_L_law_422 (by decide) ?_
    refine lv_iadd hx hb d_L_law_423 ?_
    rw [show (nI i) + 3 = nI (i + 3) from (show nI i + nI 3 = _ from nI_add _ _)]
    refine va_sld hx hb hX hbl hbA hS (vp_in_nI (show i + 3 < L by omega) (by omega)) d_L_law_424 ?_
    rw [show (nI (i + 3)).toNatClampNeg = i + 3 from nI_clamp (by omega)]
    refine lv_i2l hx hb d_L_law_425 rfl ?_
    refine lv_bipush (v := 32) hx hb d_L_law_426 (by decide) ?_
    refine lv_lshl hx hb d_L_law_428 rfl ?_
    refine lv_aload_n hx hb d_L_law_429 rfl (lv_at hl 2 rfl) ?_
    refine lv_iload hx hb d_L_law_430 (lv_at hl 1 rfl) ?_
    refine lv_iconst (v := 4) hx hb d_L_law_432 (by decide) ?_
    refine lv_iadd hx hb d_L_law_433 ?_
    rw [show (nI i) + 4 = nI (i + 4) from (show nI i + nI 4 = _ from nI_add _ _)]
    refine va_sld hx hb hX hbl hbA hS (vp_in_nI (show i + 4 < L by omega) (by omega)) d_L_law_434 ?_
    rw [show (nI (i + 4)).toNatClampNeg = i + 4 from nI_clamp (by omega)]
    refine lv_i2l hx hb d_L_law_435 rfl ?_
    refine lv_ldc2 (own := R_L) (v := 4294967295) hx hb hown (htg _ k_523) d_L_law_436 ?_
    refine lv_land hx hb d_L_law_439 ?_
    refine lv_lor hx hb d_L_law_440 ?_
    rw [show (((xs (i + 3)).toInt64) <<< ((32 : Int32).toInt64 &&& 63)) ||| (((xs (i + 4)).toInt64) &&& 4294967295) = lg2 (xs (i + 3)) (xs (i + 4)) from rfl]
    refine lv_aload_n hx hb d_L_law_441 rfl (lv_at hl 2 rfl) ?_
    refine lv_iload hx hb d_L_law_442 (lv_at hl 1 rfl) ?_
    refine lv_iconst (v := 5) hx hb d_L_law_444 (by decide) ?_
    refine lv_iadd hx hb d_L_law_445 ?_
    rw [show (nI i) + 5 = nI (i + 5) from (show nI i + nI 5 = _ from nI_add _ _)]
    refine va_sld hx hb hX hbl hbA hS (vp_in_nI (show i + 5 < L by omega) (by omega)) d_L_law_446 ?_
    rw [show (nI (i + 5)).toNatClampNeg = i + 5 from nI_clamp (by omega)]
    refine mc_v (va_runV (As := [.long (lg2 (xs (i + 1)) (xs (i + 2))), .long (lg2 (xs (i + 3)) (xs (i + 4))), .int (xs (i + 5))]) (rest := []) ⟨hx, hb, hml, hown, htg⟩ (t_M_fill l D cJ cI cP bs w hm n cd M T ra rs aW aU aP aZ (hv0).2.1 hro (lg2 (xs (i + 1)) (xs (i + 2))) (lg2 (xs (i + 3)) (xs (i + 4))) (xs (i + 5))) (cwV (own := R_L) (C := R_M) 3 htg (ginV k_479 k_480 k_481 k_26 k_482) rfl rfl rfl (by decide +kernel) ⟨Nat.le_of_ble_eq_true rfl, Nat.le_of_ble_eq_true rfl⟩) (mPc.preV (ci := ciM) (q := (R_M, T_M, 6)) hbs hS hP hK rfl (hv0).2.1.2.1) rfl rfl hl.1 rfl (lv_room (Nat.le_of_ble_eq_true rfl)) d_L_law_447 ⟨by show _ ≤ 601024; omega, by show _ ≤ 7293000; omega⟩) hS (fun u7 H locs hM hP hz447 hS => ?_)
    obtain ⟨w7, M7⟩ := u7
    have hP : mw D vwCl bs w7 H := hP
    rcases hM with ⟨hz, hmo, hkm⟩ | ⟨hz1, hz2, hno, hmo, hkm⟩ | ⟨hz, hmo, hkm⟩ | ⟨hz1, hz2, a, b8, hab, hmo, hM7, hkm⟩
    · exact absurd hy.1 hz
    · have hv7 := hv_M (hv0) hkm hmo
      refine lv_aload_n hx hb d_L_law_450 rfl (lv_at hl 4 rfl) ?_
      refine mc_i (va_runV (As := []) (rest := []) ⟨hx, hb, hml, hown, htg⟩ (t_M_thrown l D cJ cI cP bs w7 hm n 2 _ _ _ _ _ _ _ _ (hv7).2.1) (cwV (own := R_L) (C := R_M) 0 htg (ginV k_430 k_431 k_432 k_26 k_433) rfl rfl rfl (by decide +kernel) ⟨Nat.le_of_ble_eq_true rfl, Nat.le_of_ble_eq_true rfl⟩) (mPc.preV (ci := ciM) (q := (R_M, T_M, 6)) hbs hS hP hK rfl (hv7).2.1.2.1) rfl rfl hl.1 rfl (lv_room (Nat.le_of_ble_eq_true rfl)) d_L_law_451 ⟨by show _ ≤ 601024; omega, by show _ ≤ 7293000; omega⟩) hS (fun r451 u451 H locs hth hP hz451 hS => ?_)
      subst hth
      refine lv_iload hx hb d_L_law_454 (lv_at hl 0 rfl) ?_
      refine lv_icmp_eq (tgt := 461) hx hb d_L_law_456 (by decide) (fun _ => ?_) (fun z => absurd rfl z)
      refine lv_goto (tgt := 876) hx hb d_L_law_461 (by decide) ?_
      refine W.widen (k := ce + 1026) (n := sl + 6144) (by omega) (by omega) ?_
      exact kx w7 ls H locs (LI.of hv7 hro) hP hS (lv_sub hl [1, 2, 3, 4, 5] rfl)
    · exact absurd hz hy.2.1
    · exact absurd ⟨a, b8, hab⟩ hy.2.2
  · subst ek
    obtain ⟨hyx, hue⟩ := hq
    have ew : u5 = w := congrArg Prod.fst hue
    rw [ew] at hP
    refine lv_istore (lv' := [(5, .int 0), (4, .int (nI i)), (0, .ref b), (1, .ref h), (2, .ref hm), (3, .ref ao)]) hx hb d_L_law_394 hl (by decide) rfl (fun ls hl => ?_)
    refine lv_aload_n hx hb d_L_law_396 rfl (lv_at hl 4 rfl) ?_
    refine lv_aload_n hx hb d_L_law_397 rfl (lv_at hl 2 rfl) ?_
    refine lv_iload hx hb d_L_law_398 (lv_at hl 1 rfl) ?_
    refine lv_iconst (v := 1) hx hb d_L_law_400 (by decide) ?_
    refine lv_iadd hx hb d_L_law_401 ?_
    rw [show (nI i) + 1 = nI (i + 1) from (show nI i + nI 1 = _ from nI_add _ _)]
    refine va_sld hx hb hX hbl hbA hS (vp_in_nI (show i + 1 < L by omega) (by omega)) d_L_law_402 ?_
    rw [show (nI (i + 1)).toNatClampNeg = i + 1 from nI_clamp (by omega)]
    refine lv_i2l hx hb d_L_law_403 rfl ?_
    refine lv_bipush (v := 32) hx hb d_L_law_404 (by decide) ?_
    refine lv_lshl hx hb d_L_law_406 rfl ?_
    refine lv_aload_n hx hb d_L_law_407 rfl (lv_at hl 2 rfl) ?_
    refine lv_iload hx hb d_L_law_408 (lv_at hl 1 rfl) ?_
    refine lv_iconst (v := 2) hx hb d_L_law_410 (by decide) ?_
    refine lv_iadd hx hb d_L_law_411 ?_
    rw [show (nI i) + 2 = nI (i + 2) from (show nI i + nI 2 = _ from nI_add _ _)]
    refine va_sld hx hb hX hbl hbA hS (vp_in_nI (show i + 2 < L by omega) (by omega)) d_L_law_412 ?_
    rw [show (nI (i + 2)).toNatClampNeg = i + 2 from nI_clamp (by omega)]
    refine lv_i2l hx hb d_L_law_413 rfl ?_
    refine lv_ldc2 (own := R_L) (v := 4294967295) hx hb hown (htg _ k_523) d_L_law_414 ?_
    refine lv_land hx hb d_L_law_417 ?_
    refine lv_lor hx hb d_L_law_418 ?_
    rw [show (((xs (i + 1)).toInt64) <<< ((32 : Int32).toInt64 &&& 63)) ||| (((xs (i + 2)).toInt64) &&& 4294967295) = lg2 (xs (i + 1)) (xs (i + 2)) from rfl]
    refine lv_aload_n hx hb d_L_law_419 rfl (lv_at hl 2 rfl) ?_
    refine lv_iload hx hb d_L_law_420 (lv_at hl 1 rfl) ?_
    refine lv_iconst (v := 3) hx hb d_L_law_422 (by decide) ?_
    refine lv_iadd hx hb d_L_law_423 ?_
    rw [show (nI i) + 3 = nI (i + 3) from (show nI i + nI 3 = _ from nI_add _ _)]
    refine va_sld hx hb hX hbl hbA hS (vp_in_nI (show i + 3 < L by omega) (by omega)) d_L_law_424 ?_
    rw [show (nI (i + 3)).toNatClampNeg = i + 3 from nI_clamp (by omega)]
    refine lv_i2l hx hb d_L_law_425 rfl ?_
    refine lv_bipush (v := 32) hx hb d_L_law_426 (by decide) ?_
    refine lv_lshl hx hb d_L_law_428 rfl ?_
    refine lv_aload_n hx hb d_L_law_429 rfl (lv_at hl 2 rfl) ?_
    refine lv_iload hx hb d_L_law_430 (lv_at hl 1 rfl) ?_
    refine lv_iconst (v := 4) hx hb d_L_law_432 (by decide) ?_
    refine lv_iadd hx hb d_L_law_433 ?_
    rw [show (nI i) + 4 = nI (i + 4) from (show nI i + nI 4 = _ from nI_add _ _)]
    refine va_sld hx hb hX hbl hbA hS (vp_in_nI (show i + 4 < L by omega) (by omega)) d_L_law_434 ?_
    rw [show (nI (i + 4)).toNatClampNeg = i + 4 from nI_clamp (by omega)]
    refine lv_i2l hx hb d_L_law_435 rfl ?_
    refine lv_ldc2 (own := R_L) (v := 4294967295) hx hb hown (htg _ k_523) d_L_law_436 ?_
    refine lv_land hx hb d_L_law_439 ?_
    refine lv_lor hx hb d_L_law_440 ?_
    rw [show (((xs (i + 3)).toInt64) <<< ((32 : Int32).toInt64 &&& 63)) ||| (((xs (i + 4)).toInt64) &&& 4294967295) = lg2 (xs (i + 3)) (xs (i + 4)) from rfl]
    refine lv_aload_n hx hb d_L_law_441 rfl (lv_at hl 2 rfl) ?_
    refine lv_iload hx hb d_L_law_442 (lv_at hl 1 rfl) ?_
    refine lv_iconst (v := 5) hx hb d_L_law_444 (by decide) ?_
    refine lv_iadd hx hb d_L_law_445 ?_
    rw [show (nI i) + 5 = nI (i + 5) from (show nI i + nI 5 = _ from nI_add _ _)]
    refine va_sld hx hb hX hbl hbA hS (vp_in_nI (show i + 5 < L by omega) (by omega)) d_L_law_446 ?_
    rw [show (nI (i + 5)).toNatClampNeg = i + 5 from nI_clamp (by omega)]
    refine mc_v (va_runV (As := [.long (lg2 (xs (i + 1)) (xs (i + 2))), .long (lg2 (xs (i + 3)) (xs (i + 4))), .int (xs (i + 5))]) (rest := []) ⟨hx, hb, hml, hown, htg⟩ (t_M_fill l D cJ cI cP bs w hm n cd M T ra rs aW aU aP aZ (hv0).2.1 hro (lg2 (xs (i + 1)) (xs (i + 2))) (lg2 (xs (i + 3)) (xs (i + 4))) (xs (i + 5))) (cwV (own := R_L) (C := R_M) 3 htg (ginV k_479 k_480 k_481 k_26 k_482) rfl rfl rfl (by decide +kernel) ⟨Nat.le_of_ble_eq_true rfl, Nat.le_of_ble_eq_true rfl⟩) (mPc.preV (ci := ciM) (q := (R_M, T_M, 6)) hbs hS hP hK rfl (hv0).2.1.2.1) rfl rfl hl.1 rfl (lv_room (Nat.le_of_ble_eq_true rfl)) d_L_law_447 ⟨by show _ ≤ 601024; omega, by show _ ≤ 7293000; omega⟩) hS (fun u7 H locs hM hP hz447 hS => ?_)
    obtain ⟨w7, M7⟩ := u7
    have hP : mw D vwCl bs w7 H := hP
    rcases hM with ⟨hz, hmo, hkm⟩ | ⟨hz1, hz2, hno, hmo, hkm⟩ | ⟨hz, hmo, hkm⟩ | ⟨hz1, hz2, a, b8, hab, hmo, hM7, hkm⟩
    · exact absurd (show _ ≤ _ by rw [hyx]; exact Int64.le_refl _) hz
    · exact absurd hyx hz2
    · have hv7 := hv_M (hv0) hkm hmo
      refine lv_aload_n hx hb d_L_law_450 rfl (lv_at hl 4 rfl) ?_
      refine mc_i (va_runV (As := []) (rest := []) ⟨hx, hb, hml, hown, htg⟩ (t_M_thrown l D cJ cI cP bs w7 hm n 0 _ _ _ _ _ _ _ _ (hv7).2.1) (cwV (own := R_L) (C := R_M) 0 htg (ginV k_430 k_431 k_432 k_26 k_433) rfl rfl rfl (by decide +kernel) ⟨Nat.le_of_ble_eq_true rfl, Nat.le_of_ble_eq_true rfl⟩) (mPc.preV (ci := ciM) (q := (R_M, T_M, 6)) hbs hS hP hK rfl (hv7).2.1.2.1) rfl rfl hl.1 rfl (lv_room (Nat.le_of_ble_eq_true rfl)) d_L_law_451 ⟨by show _ ≤ 601024; omega, by show _ ≤ 7293000; omega⟩) hS (fun r451 u451 H locs hth hP hz451 hS => ?_)
      subst hth
      refine lv_iload hx hb d_L_law_454 (lv_at hl 0 rfl) ?_
      refine lv_icmp_eq (tgt := 461) hx hb d_L_law_456 (by decide) (fun _ => ?_) (fun z => absurd rfl z)
      refine lv_goto (tgt := 876) hx hb d_L_law_461 (by decide) ?_
      refine W.widen (k := ce + 1026) (n := sl + 6144) (by omega) (by omega) ?_
      exact kx w7 ls H locs (LI.of hv7 hro) hP hS (lv_sub hl [1, 2, 3, 4, 5] rfl)
    · exact absurd hyx hz2
  · subst ek
    obtain ⟨hy1, hy2, a9, b9, hab9, hsm9, hM9, hkp9⟩ := hq
    have hv1 := hv_S hv0 hkp9 hsm9
    refine lv_istore (lv' := [(5, .int 0), (4, .int (nI i)), (0, .ref b), (1, .ref h), (2, .ref hm), (3, .ref ao)]) hx hb d_L_law_394 hl (by decide) rfl (fun ls hl => ?_)
    refine lv_aload_n hx hb d_L_law_396 rfl (lv_at hl 4 rfl) ?_
    refine lv_aload_n hx hb d_L_law_397 rfl (lv_at hl 2 rfl) ?_
    refine lv_iload hx hb d_L_law_398 (lv_at hl 1 rfl) ?_
    refine lv_iconst (v := 1) hx hb d_L_law_400 (by decide) ?_
    refine lv_iadd hx hb d_L_law_401 ?_
    rw [show (nI i) + 1 = nI (i + 1) from (show nI i + nI 1 = _ from nI_add _ _)]
    refine va_sld hx hb hX hbl hbA hS (vp_in_nI (show i + 1 < L by omega) (by omega)) d_L_law_402 ?_
    rw [show (nI (i + 1)).toNatClampNeg = i + 1 from nI_clamp (by omega)]
    refine lv_i2l hx hb d_L_law_403 rfl ?_
    refine lv_bipush (v := 32) hx hb d_L_law_404 (by decide) ?_
    refine lv_lshl hx hb d_L_law_406 rfl ?_
    refine lv_aload_n hx hb d_L_law_407 rfl (lv_at hl 2 rfl) ?_
    refine lv_iload hx hb d_L_law_408 (lv_at hl 1 rfl) ?_
    refine lv_iconst (v := 2) hx hb d_L_law_410 (by decide) ?_
    refine lv_iadd hx hb d_L_law_411 ?_
    rw [show (nI i) + 2 = nI (i + 2) from (show nI i + nI 2 = _ from nI_add _ _)]
    refine va_sld hx hb hX hbl hbA hS (vp_in_nI (show i + 2 < L by omega) (by omega)) d_L_law_412 ?_
    rw [show (nI (i + 2)).toNatClampNeg = i + 2 from nI_clamp (by omega)]
    refine lv_i2l hx hb d_L_law_413 rfl ?_
    refine lv_ldc2 (own := R_L) (v := 4294967295) hx hb hown (htg _ k_523) d_L_law_414 ?_
    refine lv_land hx hb d_L_law_417 ?_
    refine lv_lor hx hb d_L_law_418 ?_
    rw [show (((xs (i + 1)).toInt64) <<< ((32 : Int32).toInt64 &&& 63)) ||| (((xs (i + 2)).toInt64) &&& 4294967295) = lg2 (xs (i + 1)) (xs (i + 2)) from rfl]
    refine lv_aload_n hx hb d_L_law_419 rfl (lv_at hl 2 rfl) ?_
    refine lv_iload hx hb d_L_law_420 (lv_at hl 1 rfl) ?_
    refine lv_iconst (v := 3) hx hb d_L_law_422 (by decide) ?_
    refine lv_iadd hx hb d_L_law_423 ?_
    rw [show (nI i) + 3 = nI (i + 3) from (show nI i + nI 3 = _ from nI_add _ _)]
    refine va_sld hx hb hX hbl hbA hS (vp_in_nI (show i + 3 < L by omega) (by omega)) d_L_law_424 ?_
    rw [show (nI (i + 3)).toNatClampNeg = i + 3 from nI_clamp (by omega)]
    refine lv_i2l hx hb d_L_law_425 rfl ?_
    refine lv_bipush (v := 32) hx hb d_L_law_426 (by decide) ?_
    refine lv_lshl hx hb d_L_law_428 rfl ?_
    refine lv_aload_n hx hb d_L_law_429 rfl (lv_at hl 2 rfl) ?_
    refine lv_iload hx hb d_L_law_430 (lv_at hl 1 rfl) ?_
    refine lv_iconst (v := 4) hx hb d_L_law_432 (by decide) ?_
    refine lv_iadd hx hb d_L_law_433 ?_
    rw [show (nI i) + 4 = nI (i + 4) from (show nI i + nI 4 = _ from nI_add _ _)]
    refine va_sld hx hb hX hbl hbA hS (vp_in_nI (show i + 4 < L by omega) (by omega)) d_L_law_434 ?_
    rw [show (nI (i + 4)).toNatClampNeg = i + 4 from nI_clamp (by omega)]
    refine lv_i2l hx hb d_L_law_435 rfl ?_
    refine lv_ldc2 (own := R_L) (v := 4294967295) hx hb hown (htg _ k_523) d_L_law_436 ?_
    refine lv_land hx hb d_L_law_439 ?_
    refine lv_lor hx hb d_L_law_440 ?_
    rw [show (((xs (i + 3)).toInt64) <<< ((32 : Int32).toInt64 &&& 63)) ||| (((xs (i + 4)).toInt64) &&& 4294967295) = lg2 (xs (i + 3)) (xs (i + 4)) from rfl]
    refine lv_aload_n hx hb d_L_law_441 rfl (lv_at hl 2 rfl) ?_
    refine lv_iload hx hb d_L_law_442 (lv_at hl 1 rfl) ?_
    refine lv_iconst (v := 5) hx hb d_L_law_444 (by decide) ?_
    refine lv_iadd hx hb d_L_law_445 ?_
    rw [show (nI i) + 5 = nI (i + 5) from (show nI i + nI 5 = _ from nI_add _ _)]
    refine va_sld hx hb hX hbl hbA hS (vp_in_nI (show i + 5 < L by omega) (by omega)) d_L_law_446 ?_
    rw [show (nI (i + 5)).toNatClampNeg = i + 5 from nI_clamp (by omega)]
    refine mc_v (va_runV (As := [.long (lg2 (xs (i + 1)) (xs (i + 2))), .long (lg2 (xs (i + 3)) (xs (i + 4))), .int (xs (i + 5))]) (rest := []) ⟨hx, hb, hml, hown, htg⟩ (t_M_fill l D cJ cI cP bs u5 hm n cd M T ra rs aW aU aP aZ (hv1).2.1 hro (lg2 (xs (i + 1)) (xs (i + 2))) (lg2 (xs (i + 3)) (xs (i + 4))) (xs (i + 5))) (cwV (own := R_L) (C := R_M) 3 htg (ginV k_479 k_480 k_481 k_26 k_482) rfl rfl rfl (by decide +kernel) ⟨Nat.le_of_ble_eq_true rfl, Nat.le_of_ble_eq_true rfl⟩) (mPc.preV (ci := ciM) (q := (R_M, T_M, 6)) hbs hS hP hK rfl (hv1).2.1.2.1) rfl rfl hl.1 rfl (lv_room (Nat.le_of_ble_eq_true rfl)) d_L_law_447 ⟨by show _ ≤ 601024; omega, by show _ ≤ 7293000; omega⟩) hS (fun u7 H locs hM hP hz447 hS => ?_)
    obtain ⟨w7, M7⟩ := u7
    have hP : mw D vwCl bs w7 H := hP
    rcases hM with ⟨hz, hmo, hkm⟩ | ⟨hz1, hz2, hno, hmo, hkm⟩ | ⟨hz, hmo, hkm⟩ | ⟨hz1, hz2, a, b8, hab, hmo, hM7, hkm⟩
    · exact absurd hy1 hz
    · exact absurd ⟨a9, b9, hab9⟩ hno
    · exact absurd hz hy2
    · obtain ⟨ea, eb⟩ := inF_u hn.2 hab9 hab
      subst ea
      subst eb
      have eM : M9 = M7 := by
        funext k
        exact bi_ext (fun z hz => (hM9 k z hz).trans (hM7 k z hz).symm)
      subst eM
      have hv7 := hv_M hv1 hkm hmo
      refine lv_aload_n hx hb d_L_law_450 rfl (lv_at hl 4 rfl) ?_
      refine mc_i (va_runV (As := []) (rest := []) ⟨hx, hb, hml, hown, htg⟩ (t_M_thrown l D cJ cI cP bs w7 hm n 0 _ _ _ _ _ _ _ _ (hv7).2.1) (cwV (own := R_L) (C := R_M) 0 htg (ginV k_430 k_431 k_432 k_26 k_433) rfl rfl rfl (by decide +kernel) ⟨Nat.le_of_ble_eq_true rfl, Nat.le_of_ble_eq_true rfl⟩) (mPc.preV (ci := ciM) (q := (R_M, T_M, 6)) hbs hS hP hK rfl (hv7).2.1.2.1) rfl rfl hl.1 rfl (lv_room (Nat.le_of_ble_eq_true rfl)) d_L_law_451 ⟨by show _ ≤ 601024; omega, by show _ ≤ 7293000; omega⟩) hS (fun r451 u451 H locs hth hP hz451 hS => ?_)
      subst hth
      refine lv_iload hx hb d_L_law_454 (lv_at hl 0 rfl) ?_
      refine lv_icmp_eq (tgt := 461) hx hb d_L_law_456 (by decide) (fun _ => ?_) (fun z => absurd rfl z)
      refine lv_goto (tgt := 876) hx hb d_L_law_461 (by decide) ?_
      refine W.widen (k := ce + 1026) (n := sl + 6144) (by omega) (by omega) ?_
      exact kx w7 ls H locs (LI.of hv7 (rok_lost hro _ _)) hP hS (lv_sub hl [1, 2, 3, 4, 5] rfl)
set_option maxHeartbeats 4000000 in
set_option maxRecDepth 100000 in
/-- case 4: atomic -/
theorem lw_4 {p : Program} {l : Launch} {e : Env} {s : State} {m : MethodId} {below : List Frame} {meth : Method} {c : Code} {Q : State → Prop} {b L : Nat} {xs : Nat → Int32} {D : va_G} {cJ cI cP : ClassId} {bs : Nat} (hl0 : l.stackTraces = false) (hx : p.tables.exec = Jvm.exec) (hb : c.code = c_L_law) (hml : c.maxLocals = 8) (hown : s.vm.findClass R_L = some m.cls) (htg : ∀ w ∈ gt, w.before #[Value.ref b] s = true) (hX : va_X b L xs s s.heap) (hbl : b < s.heap.size) (hbA : ¬ mA bs b) (hK : va_K D vwCl (mT cJ cI cP) s) (hbs : bs ≤ s.heap.size) (hE : evX bs s) (h hm ao i ce sl : Nat) (hi : i + 8 ≤ L) (hL : L ≤ 4097) (hce : ce + 1026 ≤ 601024) (hsl : sl + 6144 ≤ 7293000) (w : Nat → Option va_E) (hI : LI cJ cI cP h hm ao w)
    (kx : ∀ (w : Nat → Option va_E) (ls : Array Slot) (H : Heap) (locs : List Loc), LI cJ cI cP h hm ao w → mw D vwCl bs w H → va_S (mA bs) s.heap H locs → lv_has ls 8 [(4, .int (nI i)), (0, .ref b), (1, .ref h), (2, .ref hm), (3, .ref ao)] → W p l e room_1 s m #[Value.ref b] below meth c H locs (ce + 1026) (sl + 6144) Q (F0 m 876 ls []))
    (ls : Array Slot) (H : Heap) (locs : List Loc) (hP : mw D vwCl bs w H) (hS : va_S (mA bs) s.heap H locs) (hl : lv_has ls 8 [(4, .int (nI i)), (0, .ref b), (1, .ref h), (2, .ref hm), (3, .ref ao)]) : W p l e room_1 s m #[Value.ref b] below meth c H locs ce sl Q (F0 m 464 ls []) := by
  obtain ⟨n, cd, M, T, ra, rs, aT, aA, aS, pt, aW, aU, aP, aZ, O, hv0, hro⟩ := hI
  obtain ⟨hs, ho, hao, hdj⟩ := id hv0
  have hn := hs.1
  have hna : ¬ sfp w h ao := fun z => (hdj ao z).2.2.2.2.2 rfl
  refine lv_aload_n hx hb d_L_law_464 rfl (lv_at hl 2 rfl) ?_
  refine lv_aload_n hx hb d_L_law_465 rfl (lv_at hl 1 rfl) ?_
  refine lv_iload hx hb d_L_law_466 (lv_at hl 0 rfl) ?_
  refine lv_iconst (v := 1) hx hb d_L_law_468 (by decide) ?_
  refine lv_iadd hx hb d_L_law_469 ?_
  rw [show (nI i) + 1 = nI (i + 1) from (show nI i + nI 1 = _ from nI_add _ _)]
  refine va_sld hx hb hX hbl hbA hS (vp_in_nI (show i + 1 < L by omega) (by omega)) d_L_law_470 ?_
  rw [show (nI (i + 1)).toNatClampNeg = i + 1 from nI_clamp (by omega)]
  refine lv_aload_n hx hb d_L_law_471 rfl (lv_at hl 1 rfl) ?_
  refine lv_iload hx hb d_L_law_472 (lv_at hl 0 rfl) ?_
  refine lv_iconst (v := 2) hx hb d_L_law_474 (by decide) ?_
  refine lv_iadd hx hb d_L_law_475 ?_
  rw [show (nI i) + 2 = nI (i + 2) from (show nI i + nI 2 = _ from nI_add _ _)]
  refine va_sld hx hb hX hbl hbA hS (vp_in_nI (show i + 2 < L by omega) (by omega)) d_L_law_476 ?_
  rw [show (nI (i + 2)).toNatClampNeg = i + 2 from nI_clamp (by omega)]
  refine lv_aload_n hx hb d_L_law_477 rfl (lv_at hl 1 rfl) ?_
  refine lv_iload hx hb d_L_law_478 (lv_at hl 0 rfl) ?_
  refine lv_iconst (v := 3) hx hb d_L_law_480 (by decide) ?_
  refine lv_iadd hx hb d_L_law_481 ?_
  rw [show (nI i) + 3 = nI (i + 3) from (show nI i + nI 3 = _ from nI_add _ _)]
  refine va_sld hx hb hX hbl hbA hS (vp_in_nI (show i + 3 < L by omega) (by omega)) d_L_law_482 ?_
  rw [show (nI (i + 3)).toNatClampNeg = i + 3 from nI_clamp (by omega)]
  refine lv_i2l hx hb d_L_law_483 rfl ?_
  refine lv_bipush (v := 32) hx hb d_L_law_484 (by decide) ?_
  refine lv_lshl hx hb d_L_law_486 rfl ?_
  refine lv_aload_n hx hb d_L_law_487 rfl (lv_at hl 1 rfl) ?_
  refine lv_iload hx hb d_L_law_488 (lv_at hl 0 rfl) ?_
  refine lv_iconst (v := 4) hx hb d_L_law_490 (by decide) ?_
  refine lv_iadd hx hb d_L_law_491 ?_
  rw [show (nI i) + 4 = nI (i + 4) from (show nI i + nI 4 = _ from nI_add _ _)]
  refine va_sld hx hb hX hbl hbA hS (vp_in_nI (show i + 4 < L by omega) (by omega)) d_L_law_492 ?_
  rw [show (nI (i + 4)).toNatClampNeg = i + 4 from nI_clamp (by omega)]
  refine lv_i2l hx hb d_L_law_493 rfl ?_
  refine lv_ldc2 (own := R_L) (v := 4294967295) hx hb hown (htg _ k_523) d_L_law_494 ?_
  refine lv_land hx hb d_L_law_497 ?_
  refine lv_lor hx hb d_L_law_498 ?_
  rw [show (((xs (i + 3)).toInt64) <<< ((32 : Int32).toInt64 &&& 63)) ||| (((xs (i + 4)).toInt64) &&& 4294967295) = lg2 (xs (i + 3)) (xs (i + 4)) from rfl]
  refine lv_aload_n hx hb d_L_law_499 rfl (lv_at hl 1 rfl) ?_
  refine lv_iload hx hb d_L_law_500 (lv_at hl 0 rfl) ?_
  refine lv_iconst (v := 5) hx hb d_L_law_502 (by decide) ?_
  refine lv_iadd hx hb d_L_law_503 ?_
  rw [show (nI i) + 5 = nI (i + 5) from (show nI i + nI 5 = _ from nI_add _ _)]
  refine va_sld hx hb hX hbl hbA hS (vp_in_nI (show i + 5 < L by omega) (by omega)) d_L_law_504 ?_
  rw [show (nI (i + 5)).toNatClampNeg = i + 5 from nI_clamp (by omega)]
  refine lv_aload_n hx hb d_L_law_505 rfl (lv_at hl 1 rfl) ?_
  refine lv_iload hx hb d_L_law_506 (lv_at hl 0 rfl) ?_
  refine lv_bipush (v := 6) hx hb d_L_law_508 (by decide) ?_
  refine lv_iadd hx hb d_L_law_510 ?_
  rw [show (nI i) + 6 = nI (i + 6) from (show nI i + nI 6 = _ from nI_add _ _)]
  refine va_sld hx hb hX hbl hbA hS (vp_in_nI (show i + 6 < L by omega) (by omega)) d_L_law_511 ?_
  rw [show (nI (i + 6)).toNatClampNeg = i + 6 from nI_clamp (by omega)]
  refine lv_i2l hx hb d_L_law_512 rfl ?_
  refine lv_bipush (v := 32) hx hb d_L_law_513 (by decide) ?_
  refine lv_lshl hx hb d_L_law_515 rfl ?_
  refine lv_aload_n hx hb d_L_law_516 rfl (lv_at hl 1 rfl) ?_
  refine lv_iload hx hb d_L_law_517 (lv_at hl 0 rfl) ?_
  refine lv_bipush (v := 7) hx hb d_L_law_519 (by decide) ?_
  refine lv_iadd hx hb d_L_law_521 ?_
  rw [show (nI i) + 7 = nI (i + 7) from (show nI i + nI 7 = _ from nI_add _ _)]
  refine va_sld hx hb hX hbl hbA hS (vp_in_nI (show i + 7 < L by omega) (by omega)) d_L_law_522 ?_
  rw [show (nI (i + 7)).toNatClampNeg = i + 7 from nI_clamp (by omega)]
  refine lv_i2l hx hb d_L_law_523 rfl ?_
  refine lv_ldc2 (own := R_L) (v := 4294967295) hx hb hown (htg _ k_523) d_L_law_524 ?_
  refine lv_land hx hb d_L_law_527 ?_
  refine lv_lor hx hb d_L_law_528 ?_
  rw [show (((xs (i + 6)).toInt64) <<< ((32 : Int32).toInt64 &&& 63)) ||| (((xs (i + 7)).toInt64) &&& 4294967295) = lg2 (xs (i + 6)) (xs (i + 7)) from rfl]
  refine lv_aload_n hx hb d_L_law_529 rfl (lv_at hl 4 rfl) ?_
  refine mc_i (vx_runSW (As := [.ref h, .int (xs (i + 1)), .int (xs (i + 2)), .long (lg2 (xs (i + 3)) (xs (i + 4))), .int (xs (i + 5)), .long (lg2 (xs (i + 6)) (xs (i + 7))), .ref ao]) (rest := []) ⟨hx, hb, hml, hown, htg⟩ (t_L_atomic l hl0 D cJ cI cP bs w h n M T ra rs aT aA aS pt hs ao O hao hna hro (xs (i + 1)) (xs (i + 2)) (lg2 (xs (i + 3)) (xs (i + 4))) (xs (i + 5)) (lg2 (xs (i + 6)) (xs (i + 7)))) (vx_cwSW (own := R_L) 7 htg (ginT k_298 k_299 k_24 k_300) rfl rfl rfl (by decide +kernel) ⟨Nat.le_of_ble_eq_true rfl, Nat.le_of_ble_eq_true rfl⟩) (mPx.preS hbs hS hP hK hE) rfl rfl hl.1 rfl (lv_room (Nat.le_of_ble_eq_true rfl)) d_L_law_530 ⟨by show _ ≤ 601024; omega, by show _ ≤ 7293000; omega⟩) hS (fun rk u5 H locs hw hP hz5 hS => ?_)
  have hP : mw D vwCl bs u5 H := hP
  rcases hw with ⟨ek, hy, ew⟩ | ⟨ek, hy, ew⟩ | ⟨ek, hy, ew⟩ | ⟨ek, v9, w9, M9, pt9, hq, ew⟩
  · subst ek
    rw [ew] at hP
    refine lv_istore (lv' := [(5, .int 1), (4, .int (nI i)), (0, .ref b), (1, .ref h), (2, .ref hm), (3, .ref ao)]) hx hb d_L_law_533 hl (by decide) rfl (fun ls hl => ?_)
    refine lv_aload_n hx hb d_L_law_535 rfl (lv_at hl 4 rfl) ?_
    refine lv_aload_n hx hb d_L_law_536 rfl (lv_at hl 2 rfl) ?_
    refine lv_iload hx hb d_L_law_537 (lv_at hl 1 rfl) ?_
    refine lv_iconst (v := 1) hx hb d_L_law_539 (by decide) ?_
    refine lv_iadd hx hb d_L_law_540 ?_
    rw [show (nI i) + 1 = nI (i + 1) from (show nI i + nI 1 = _ from nI_add _ _)]
    refine va_sld hx hb hX hbl hbA hS (vp_in_nI (show i + 1 < L by omega) (by omega)) d_L_law_541 ?_
    rw [show (nI (i + 1)).toNatClampNeg = i + 1 from nI_clamp (by omega)]
    refine lv_aload_n hx hb d_L_law_542 rfl (lv_at hl 2 rfl) ?_
    refine lv_iload hx hb d_L_law_543 (lv_at hl 1 rfl) ?_
    refine lv_iconst (v := 2) hx hb d_L_law_545 (by decide) ?_
    refine lv_iadd hx hb d_L_law_546 ?_
    rw [show (nI i) + 2 = nI (i + 2) from (show nI i + nI 2 = _ from nI_add _ _)]
    refine va_sld hx hb hX hbl hbA hS (vp_in_nI (show i + 2 < L by omega) (by omega)) d_L_law_547 ?_
    rw [show (nI (i + 2)).toNatClampNeg = i + 2 from nI_clamp (by omega)]
    refine lv_aload_n hx hb d_L_law_548 rfl (lv_at hl 2 rfl) ?_
    refine lv_iload hx hb d_L_law_549 (lv_at hl 1 rfl) ?_
    refine lv_iconst (v := 3) hx hb d_L_law_551 (by decide) ?_
    refine lv_iadd hx hb d_L_law_552 ?_
    rw [show (nI i) + 3 = nI (i + 3) from (show nI i + nI 3 = _ from nI_add _ _)]
    refine va_sld hx hb hX hbl hbA hS (vp_in_nI (show i + 3 < L by omega) (by omega)) d_L_law_553 ?_
    rw [show (nI (i + 3)).toNatClampNeg = i + 3 from nI_clamp (by omega)]
    refine lv_i2l hx hb d_L_law_554 rfl ?_
    refine lv_bipush (v := 32) hx hb d_L_law_555 (by decide) ?_
    refine lv_lshl hx hb d_L_law_557 rfl ?_
    refine lv_aload_n hx hb d_L_law_558 rfl (lv_at hl 2 rfl) ?_
    refine lv_iload hx hb d_L_law_559 (lv_at hl 1 rfl) ?_
    refine lv_iconst (v := 4) hx hb d_L_law_561 (by decide) ?_
    refine lv_iadd hx hb d_L_law_562 ?_
    rw [show (nI i) + 4 = nI (i + 4) from (show nI i + nI 4 = _ from nI_add _ _)]
    refine va_sld hx hb hX hbl hbA hS (vp_in_nI (show i + 4 < L by omega) (by omega)) d_L_law_563 ?_
    rw [show (nI (i + 4)).toNatClampNeg = i + 4 from nI_clamp (by omega)]
    refine lv_i2l hx hb d_L_law_564 rfl ?_
    refine lv_ldc2 (own := R_L) (v := 4294967295) hx hb hown (htg _ k_523) d_L_law_565 ?_
    refine lv_land hx hb d_L_law_568 ?_
    refine lv_lor hx hb d_L_law_569 ?_
    rw [show (((xs (i + 3)).toInt64) <<< ((32 : Int32).toInt64 &&& 63)) ||| (((xs (i + 4)).toInt64) &&& 4294967295) = lg2 (xs (i + 3)) (xs (i + 4)) from rfl]
    refine lv_aload_n hx hb d_L_law_570 rfl (lv_at hl 2 rfl) ?_
    refine lv_iload hx hb d_L_law_571 (lv_at hl 1 rfl) ?_
    refine lv_iconst (v := 5) hx hb d_L_law_573 (by decide) ?_
    refine lv_iadd hx hb d_L_law_574 ?_
    rw [show (nI i) + 5 = nI (i + 5) from (show nI i + nI 5 = _ from nI_add _ _)]
    refine va_sld hx hb hX hbl hbA hS (vp_in_nI (show i + 5 < L by omega) (by omega)) d_L_law_575 ?_
    rw [show (nI (i + 5)).toNatClampNeg = i + 5 from nI_clamp (by omega)]
    refine lv_aload_n hx hb d_L_law_576 rfl (lv_at hl 2 rfl) ?_
    refine lv_iload hx hb d_L_law_577 (lv_at hl 1 rfl) ?_
    refine lv_bipush (v := 6) hx hb d_L_law_579 (by decide) ?_
    refine lv_iadd hx hb d_L_law_581 ?_
    rw [show (nI i) + 6 = nI (i + 6) from (show nI i + nI 6 = _ from nI_add _ _)]
    refine va_sld hx hb hX hbl hbA hS (vp_in_nI (show i + 6 < L by omega) (by omega)) d_L_law_582 ?_
    rw [show (nI (i + 6)).toNatClampNeg = i + 6 from nI_clamp (by omega)]
    refine lv_i2l hx hb d_L_law_583 rfl ?_
    refine lv_bipush (v := 32) hx hb d_L_law_584 (by decide) ?_
    refine lv_lshl hx hb d_L_law_586 rfl ?_
    refine lv_aload_n hx hb d_L_law_587 rfl (lv_at hl 2 rfl) ?_
    refine lv_iload hx hb d_L_law_588 (lv_at hl 1 rfl) ?_
    refine lv_bipush (v := 7) hx hb d_L_law_590 (by decide) ?_
    refine lv_iadd hx hb d_L_law_592 ?_
    rw [show (nI i) + 7 = nI (i + 7) from (show nI i + nI 7 = _ from nI_add _ _)]
    refine va_sld hx hb hX hbl hbA hS (vp_in_nI (show i + 7 < L by omega) (by omega)) d_L_law_593 ?_
    rw [show (nI (i + 7)).toNatClampNeg = i + 7 from nI_clamp (by omega)]
    refine lv_i2l hx hb d_L_law_594 rfl ?_
    refine lv_ldc2 (own := R_L) (v := 4294967295) hx hb hown (htg _ k_523) d_L_law_595 ?_
    refine lv_land hx hb d_L_law_598 ?_
    refine lv_lor hx hb d_L_law_599 ?_
    rw [show (((xs (i + 6)).toInt64) <<< ((32 : Int32).toInt64 &&& 63)) ||| (((xs (i + 7)).toInt64) &&& 4294967295) = lg2 (xs (i + 6)) (xs (i + 7)) from rfl]
    refine mc_l (va_runV (As := [.int (xs (i + 1)), .int (xs (i + 2)), .long (lg2 (xs (i + 3)) (xs (i + 4))), .int (xs (i + 5)), .long (lg2 (xs (i + 6)) (xs (i + 7)))]) (rest := []) ⟨hx, hb, hml, hown, htg⟩ (t_M_atomic l D cJ cI cP bs w hm n cd M T ra rs aW aU aP aZ (hv0).2.1 hro (xs (i + 1)) (xs (i + 2)) (lg2 (xs (i + 3)) (xs (i + 4))) (xs (i + 5)) (lg2 (xs (i + 6)) (xs (i + 7)))) (cwV (own := R_L) (C := R_M) 5 htg (ginV k_483 k_484 k_485 k_26 k_486) rfl rfl rfl (by decide +kernel) ⟨Nat.le_of_ble_eq_true rfl, Nat.le_of_ble_eq_true rfl⟩) (mPc.preV (ci := ciM) (q := (R_M, T_M, 6)) hbs hS hP hK rfl (hv0).2.1.2.1) rfl rfl hl.1 rfl (lv_room (Nat.le_of_ble_eq_true rfl)) d_L_law_600 ⟨by show _ ≤ 601024; omega, by show _ ≤ 7293000; omega⟩) hS (fun b9 u7 H locs hM hP hz600 hS => ?_)
    obtain ⟨w7, M7⟩ := u7
    have hP : mw D vwCl bs w7 H := hP
    obtain ⟨hkm, hM⟩ := hM
    rcases hM with ⟨hz, hmo⟩ | ⟨hz, ⟨k, ek7, hk48, hno⟩, hmo⟩ | ⟨hz, ⟨k, a, ek7, hk48, hx4, ha, hno⟩, hmo⟩ | ⟨hz, j, k, a, hj, ej, ek7, hk48, ha, hal, hdo⟩
    · have hv7 := hv_M (hv0) hkm hmo
      refine lv_lstore (lv' := [(6, .long b9), (5, .int 1), (4, .int (nI i)), (0, .ref b), (1, .ref h), (2, .ref hm), (3, .ref ao)]) hx hb d_L_law_603 hl (by decide) rfl (fun ls hl => ?_)
      refine lv_aload_n hx hb d_L_law_605 rfl (lv_at hl 5 rfl) ?_
      refine mc_i (va_runV (As := []) (rest := []) ⟨hx, hb, hml, hown, htg⟩ (t_M_thrown l D cJ cI cP bs w7 hm n 1 _ _ _ _ _ _ _ _ (hv7).2.1) (cwV (own := R_L) (C := R_M) 0 htg (ginV k_430 k_431 k_432 k_26 k_433) rfl rfl rfl (by decide +kernel) ⟨Nat.le_of_ble_eq_true rfl, Nat.le_of_ble_eq_true rfl⟩) (mPc.preV (ci := ciM) (q := (R_M, T_M, 6)) hbs hS hP hK rfl (hv7).2.1.2.1) rfl rfl hl.1 rfl (lv_room (Nat.le_of_ble_eq_true rfl)) d_L_law_606 ⟨by show _ ≤ 601024; omega, by show _ ≤ 7293000; omega⟩) hS (fun r606 u606 H locs hth hP hz606 hS => ?_)
      subst hth
      refine lv_iload hx hb d_L_law_609 (lv_at hl 1 rfl) ?_
      refine lv_icmp_eq (tgt := 616) hx hb d_L_law_611 (by decide) (fun _ => ?_) (fun z => absurd rfl z)
      refine lv_iload hx hb d_L_law_616 (lv_at hl 1 rfl) ?_
      refine lv_if_ne (tgt := 632) hx hb d_L_law_618 (by decide) (fun _ => ?_) (fun z => absurd z (by decide))
      refine lv_goto (tgt := 876) hx hb d_L_law_632 (by decide) ?_
      refine W.widen (k := ce + 1026) (n := sl + 6144) (by omega) (by omega) ?_
      exact kx w7 ls H locs (LI.of hv7 hro) hP hS (lv_sub hl [2, 3, 4, 5, 6] rfl)
    · exact absurd ⟨(by rw [ek7]; rcases hk48 with e | e <;> rw [e] <;> first | exact Or.inl rfl | exact Or.inr rfl), hz⟩ hy
    · exact absurd ⟨(by rw [ek7]; rcases hk48 with e | e <;> rw [e] <;> first | exact Or.inl rfl | exact Or.inr rfl), hz⟩ hy
    · exact absurd ⟨(by rw [ek7]; rcases hk48 with e | e <;> rw [e] <;> first | exact Or.inl rfl | exact Or.inr rfl), hz⟩ hy
  · subst ek
    rw [ew] at hP
    refine lv_istore (lv' := [(5, .int 2), (4, .int (nI i)), (0, .ref b), (1, .ref h), (2, .ref hm), (3, .ref ao)]) hx hb d_L_law_533 hl (by decide) rfl (fun ls hl => ?_)
    refine lv_aload_n hx hb d_L_law_535 rfl (lv_at hl 4 rfl) ?_
    refine lv_aload_n hx hb d_L_law_536 rfl (lv_at hl 2 rfl) ?_
    refine lv_iload hx hb d_L_law_537 (lv_at hl 1 rfl) ?_
    refine lv_iconst (v := 1) hx hb d_L_law_539 (by decide) ?_
    refine lv_iadd hx hb d_L_law_540 ?_
    rw [show (nI i) + 1 = nI (i + 1) from (show nI i + nI 1 = _ from nI_add _ _)]
    refine va_sld hx hb hX hbl hbA hS (vp_in_nI (show i + 1 < L by omega) (by omega)) d_L_law_541 ?_
    rw [show (nI (i + 1)).toNatClampNeg = i + 1 from nI_clamp (by omega)]
    refine lv_aload_n hx hb d_L_law_542 rfl (lv_at hl 2 rfl) ?_
    refine lv_iload hx hb d_L_law_543 (lv_at hl 1 rfl) ?_
    refine lv_iconst (v := 2) hx hb d_L_law_545 (by decide) ?_
    refine lv_iadd hx hb d_L_law_546 ?_
    rw [show (nI i) + 2 = nI (i + 2) from (show nI i + nI 2 = _ from nI_add _ _)]
    refine va_sld hx hb hX hbl hbA hS (vp_in_nI (show i + 2 < L by omega) (by omega)) d_L_law_547 ?_
    rw [show (nI (i + 2)).toNatClampNeg = i + 2 from nI_clamp (by omega)]
    refine lv_aload_n hx hb d_L_law_548 rfl (lv_at hl 2 rfl) ?_
    refine lv_iload hx hb d_L_law_549 (lv_at hl 1 rfl) ?_
    refine lv_iconst (v := 3) hx hb d_L_law_551 (by decide) ?_
    refine lv_iadd hx hb d_L_law_552 ?_
    rw [show (nI i) + 3 = nI (i + 3) from (show nI i + nI 3 = _ from nI_add _ _)]
    refine va_sld hx hb hX hbl hbA hS (vp_in_nI (show i + 3 < L by omega) (by omega)) d_L_law_553 ?_
    rw [show (nI (i + 3)).toNatClampNeg = i + 3 from nI_clamp (by omega)]
    refine lv_i2l hx hb d_L_law_554 rfl ?_
    refine lv_bipush (v := 32) hx hb d_L_law_555 (by decide) ?_
    refine lv_lshl hx hb d_L_law_557 rfl ?_
    refine lv_aload_n hx hb d_L_law_558 rfl (lv_at hl 2 rfl) ?_
    refine lv_iload hx hb d_L_law_559 (lv_at hl 1 rfl) ?_
    refine lv_iconst (v := 4) hx hb d_L_law_561 (by decide) ?_
    refine lv_iadd hx hb d_L_law_562 ?_
    rw [show (nI i) + 4 = nI (i + 4) from (show nI i + nI 4 = _ from nI_add _ _)]
    refine va_sld hx hb hX hbl hbA hS (vp_in_nI (show i + 4 < L by omega) (by omega)) d_L_law_563 ?_
    rw [show (nI (i + 4)).toNatClampNeg = i + 4 from nI_clamp (by omega)]
    refine lv_i2l hx hb d_L_law_564 rfl ?_
    refine lv_ldc2 (own := R_L) (v := 4294967295) hx hb hown (htg _ k_523) d_L_law_565 ?_
    refine lv_land hx hb d_L_law_568 ?_
    refine lv_lor hx hb d_L_law_569 ?_
    rw [show (((xs (i + 3)).toInt64) <<< ((32 : Int32).toInt64 &&& 63)) ||| (((xs (i + 4)).toInt64) &&& 4294967295) = lg2 (xs (i + 3)) (xs (i + 4)) from rfl]
    refine lv_aload_n hx hb d_L_law_570 rfl (lv_at hl 2 rfl) ?_
    refine lv_iload hx hb d_L_law_571 (lv_at hl 1 rfl) ?_
    refine lv_iconst (v := 5) hx hb d_L_law_573 (by decide) ?_
    refine lv_iadd hx hb d_L_law_574 ?_
    rw [show (nI i) + 5 = nI (i + 5) from (show nI i + nI 5 = _ from nI_add _ _)]
    refine va_sld hx hb hX hbl hbA hS (vp_in_nI (show i + 5 < L by omega) (by omega)) d_L_law_575 ?_
    rw [show (nI (i + 5)).toNatClampNeg = i + 5 from nI_clamp (by omega)]
    refine lv_aload_n hx hb d_L_law_576 rfl (lv_at hl 2 rfl) ?_
    refine lv_iload hx hb d_L_law_577 (lv_at hl 1 rfl) ?_
    refine lv_bipush (v := 6) hx hb d_L_law_579 (by decide) ?_
    refine lv_iadd hx hb d_L_law_581 ?_
    rw [show (nI i) + 6 = nI (i + 6) from (show nI i + nI 6 = _ from nI_add _ _)]
    refine va_sld hx hb hX hbl hbA hS (vp_in_nI (show i + 6 < L by omega) (by omega)) d_L_law_582 ?_
    rw [show (nI (i + 6)).toNatClampNeg = i + 6 from nI_clamp (by omega)]
    refine lv_i2l hx hb d_L_law_583 rfl ?_
    refine lv_bipush (v := 32) hx hb d_L_law_584 (by decide) ?_
    refine lv_lshl hx hb d_L_law_586 rfl ?_
    refine lv_aload_n hx hb d_L_law_587 rfl (lv_at hl 2 rfl) ?_
    refine lv_iload hx hb d_L_law_588 (lv_at hl 1 rfl) ?_
    refine lv_bipush (v := 7) hx hb d_L_law_590 (by decide) ?_
    refine lv_iadd hx hb d_L_law_592 ?_
    rw [show (nI i) + 7 = nI (i + 7) from (show nI i + nI 7 = _ from nI_add _ _)]
    refine va_sld hx hb hX hbl hbA hS (vp_in_nI (show i + 7 < L by omega) (by omega)) d_L_law_593 ?_
    rw [show (nI (i + 7)).toNatClampNeg = i + 7 from nI_clamp (by omega)]
    refine lv_i2l hx hb d_L_law_594 rfl ?_
    refine lv_ldc2 (own := R_L) (v := 4294967295) hx hb hown (htg _ k_523) d_L_law_595 ?_
    refine lv_land hx hb d_L_law_598 ?_
    refine lv_lor hx hb d_L_law_599 ?_
    rw [show (((xs (i + 6)).toInt64) <<< ((32 : Int32).toInt64 &&& 63)) ||| (((xs (i + 7)).toInt64) &&& 4294967295) = lg2 (xs (i + 6)) (xs (i + 7)) from rfl]
    refine mc_l (va_runV (As := [.int (xs (i + 1)), .int (xs (i + 2)), .long (lg2 (xs (i + 3)) (xs (i + 4))), .int (xs (i + 5)), .long (lg2 (xs (i + 6)) (xs (i + 7)))]) (rest := []) ⟨hx, hb, hml, hown, htg⟩ (t_M_atomic l D cJ cI cP bs w hm n cd M T ra rs aW aU aP aZ (hv0).2.1 hro (xs (i + 1)) (xs (i + 2)) (lg2 (xs (i + 3)) (xs (i + 4))) (xs (i + 5)) (lg2 (xs (i + 6)) (xs (i + 7)))) (cwV (own := R_L) (C := R_M) 5 htg (ginV k_483 k_484 k_485 k_26 k_486) rfl rfl rfl (by decide +kernel) ⟨Nat.le_of_ble_eq_true rfl, Nat.le_of_ble_eq_true rfl⟩) (mPc.preV (ci := ciM) (q := (R_M, T_M, 6)) hbs hS hP hK rfl (hv0).2.1.2.1) rfl rfl hl.1 rfl (lv_room (Nat.le_of_ble_eq_true rfl)) d_L_law_600 ⟨by show _ ≤ 601024; omega, by show _ ≤ 7293000; omega⟩) hS (fun b9 u7 H locs hM hP hz600 hS => ?_)
    obtain ⟨w7, M7⟩ := u7
    have hP : mw D vwCl bs w7 H := hP
    obtain ⟨hkm, hM⟩ := hM
    rcases hM with ⟨hz, hmo⟩ | ⟨hz, ⟨k, ek7, hk48, hno⟩, hmo⟩ | ⟨hz, ⟨k, a, ek7, hk48, hx4, ha, hno⟩, hmo⟩ | ⟨hz, j, k, a, hj, ej, ek7, hk48, ha, hal, hdo⟩
    · obtain ⟨hkd9, k9, ek7, hk48, hno⟩ := hy
      exact absurd ⟨(by rw [ek7]; rcases hk48 with e | e <;> rw [e] <;> first | exact Or.inl rfl | exact Or.inr rfl), hkd9⟩ hz
    · have hv7 := hv_M (hv0) hkm hmo
      refine lv_lstore (lv' := [(6, .long b9), (5, .int 2), (4, .int (nI i)), (0, .ref b), (1, .ref h), (2, .ref hm), (3, .ref ao)]) hx hb d_L_law_603 hl (by decide) rfl (fun ls hl => ?_)
      refine lv_aload_n hx hb d_L_law_605 rfl (lv_at hl 5 rfl) ?_
      refine mc_i (va_runV (As := []) (rest := []) ⟨hx, hb, hml, hown, htg⟩ (t_M_thrown l D cJ cI cP bs w7 hm n 2 _ _ _ _ _ _ _ _ (hv7).2.1) (cwV (own := R_L) (C := R_M) 0 htg (ginV k_430 k_431 k_432 k_26 k_433) rfl rfl rfl (by decide +kernel) ⟨Nat.le_of_ble_eq_true rfl, Nat.le_of_ble_eq_true rfl⟩) (mPc.preV (ci := ciM) (q := (R_M, T_M, 6)) hbs hS hP hK rfl (hv7).2.1.2.1) rfl rfl hl.1 rfl (lv_room (Nat.le_of_ble_eq_true rfl)) d_L_law_606 ⟨by show _ ≤ 601024; omega, by show _ ≤ 7293000; omega⟩) hS (fun r606 u606 H locs hth hP hz606 hS => ?_)
      subst hth
      refine lv_iload hx hb d_L_law_609 (lv_at hl 1 rfl) ?_
      refine lv_icmp_eq (tgt := 616) hx hb d_L_law_611 (by decide) (fun _ => ?_) (fun z => absurd rfl z)
      refine lv_iload hx hb d_L_law_616 (lv_at hl 1 rfl) ?_
      refine lv_if_ne (tgt := 632) hx hb d_L_law_618 (by decide) (fun _ => ?_) (fun z => absurd z (by decide))
      refine lv_goto (tgt := 876) hx hb d_L_law_632 (by decide) ?_
      refine W.widen (k := ce + 1026) (n := sl + 6144) (by omega) (by omega) ?_
      exact kx w7 ls H locs (LI.of hv7 hro) hP hS (lv_sub hl [2, 3, 4, 5, 6] rfl)
    · obtain ⟨hkd9, k9, ek9, hk9, hno9⟩ := hy
      have ekk : k9 = k := nk8 (ek9.symm.trans ek7) (k48 hk9) (k48 hk48)
      subst ekk
      exact absurd ⟨hx4, a, ha⟩ hno9
    · obtain ⟨hkd9, k9, ek9, hk9, hno9⟩ := hy
      have ekk : k9 = k := nk8 (ek9.symm.trans ek7) (k48 hk9) (k48 hk48)
      subst ekk
      exact absurd ⟨by rw [ej]; rcases (show j = 0 ∨ j = 1 ∨ j = 2 ∨ j = 3 by omega) with e | e | e | e <;> rw [e] <;> decide, a, ha⟩ hno9
  · subst ek
    rw [ew] at hP
    refine lv_istore (lv' := [(5, .int 3), (4, .int (nI i)), (0, .ref b), (1, .ref h), (2, .ref hm), (3, .ref ao)]) hx hb d_L_law_533 hl (by decide) rfl (fun ls hl => ?_)
    refine lv_aload_n hx hb d_L_law_535 rfl (lv_at hl 4 rfl) ?_
    refine lv_aload_n hx hb d_L_law_536 rfl (lv_at hl 2 rfl) ?_
    refine lv_iload hx hb d_L_law_537 (lv_at hl 1 rfl) ?_
    refine lv_iconst (v := 1) hx hb d_L_law_539 (by decide) ?_
    refine lv_iadd hx hb d_L_law_540 ?_
    rw [show (nI i) + 1 = nI (i + 1) from (show nI i + nI 1 = _ from nI_add _ _)]
    refine va_sld hx hb hX hbl hbA hS (vp_in_nI (show i + 1 < L by omega) (by omega)) d_L_law_541 ?_
    rw [show (nI (i + 1)).toNatClampNeg = i + 1 from nI_clamp (by omega)]
    refine lv_aload_n hx hb d_L_law_542 rfl (lv_at hl 2 rfl) ?_
    refine lv_iload hx hb d_L_law_543 (lv_at hl 1 rfl) ?_
    refine lv_iconst (v := 2) hx hb d_L_law_545 (by decide) ?_
    refine lv_iadd hx hb d_L_law_546 ?_
    rw [show (nI i) + 2 = nI (i + 2) from (show nI i + nI 2 = _ from nI_add _ _)]
    refine va_sld hx hb hX hbl hbA hS (vp_in_nI (show i + 2 < L by omega) (by omega)) d_L_law_547 ?_
    rw [show (nI (i + 2)).toNatClampNeg = i + 2 from nI_clamp (by omega)]
    refine lv_aload_n hx hb d_L_law_548 rfl (lv_at hl 2 rfl) ?_
    refine lv_iload hx hb d_L_law_549 (lv_at hl 1 rfl) ?_
    refine lv_iconst (v := 3) hx hb d_L_law_551 (by decide) ?_
    refine lv_iadd hx hb d_L_law_552 ?_
    rw [show (nI i) + 3 = nI (i + 3) from (show nI i + nI 3 = _ from nI_add _ _)]
    refine va_sld hx hb hX hbl hbA hS (vp_in_nI (show i + 3 < L by omega) (by omega)) d_L_law_553 ?_
    rw [show (nI (i + 3)).toNatClampNeg = i + 3 from nI_clamp (by omega)]
    refine lv_i2l hx hb d_L_law_554 rfl ?_
    refine lv_bipush (v := 32) hx hb d_L_law_555 (by decide) ?_
    refine lv_lshl hx hb d_L_law_557 rfl ?_
    refine lv_aload_n hx hb d_L_law_558 rfl (lv_at hl 2 rfl) ?_
    refine lv_iload hx hb d_L_law_559 (lv_at hl 1 rfl) ?_
    refine lv_iconst (v := 4) hx hb d_L_law_561 (by decide) ?_
    refine lv_iadd hx hb d_L_law_562 ?_
    rw [show (nI i) + 4 = nI (i + 4) from (show nI i + nI 4 = _ from nI_add _ _)]
    refine va_sld hx hb hX hbl hbA hS (vp_in_nI (show i + 4 < L by omega) (by omega)) d_L_law_563 ?_
    rw [show (nI (i + 4)).toNatClampNeg = i + 4 from nI_clamp (by omega)]
    refine lv_i2l hx hb d_L_law_564 rfl ?_
    refine lv_ldc2 (own := R_L) (v := 4294967295) hx hb hown (htg _ k_523) d_L_law_565 ?_
    refine lv_land hx hb d_L_law_568 ?_
    refine lv_lor hx hb d_L_law_569 ?_
    rw [show (((xs (i + 3)).toInt64) <<< ((32 : Int32).toInt64 &&& 63)) ||| (((xs (i + 4)).toInt64) &&& 4294967295) = lg2 (xs (i + 3)) (xs (i + 4)) from rfl]
    refine lv_aload_n hx hb d_L_law_570 rfl (lv_at hl 2 rfl) ?_
    refine lv_iload hx hb d_L_law_571 (lv_at hl 1 rfl) ?_
    refine lv_iconst (v := 5) hx hb d_L_law_573 (by decide) ?_
    refine lv_iadd hx hb d_L_law_574 ?_
    rw [show (nI i) + 5 = nI (i + 5) from (show nI i + nI 5 = _ from nI_add _ _)]
    refine va_sld hx hb hX hbl hbA hS (vp_in_nI (show i + 5 < L by omega) (by omega)) d_L_law_575 ?_
    rw [show (nI (i + 5)).toNatClampNeg = i + 5 from nI_clamp (by omega)]
    refine lv_aload_n hx hb d_L_law_576 rfl (lv_at hl 2 rfl) ?_
    refine lv_iload hx hb d_L_law_577 (lv_at hl 1 rfl) ?_
    refine lv_bipush (v := 6) hx hb d_L_law_579 (by decide) ?_
    refine lv_iadd hx hb d_L_law_581 ?_
    rw [show (nI i) + 6 = nI (i + 6) from (show nI i + nI 6 = _ from nI_add _ _)]
    refine va_sld hx hb hX hbl hbA hS (vp_in_nI (show i + 6 < L by omega) (by omega)) d_L_law_582 ?_
    rw [show (nI (i + 6)).toNatClampNeg = i + 6 from nI_clamp (by omega)]
    refine lv_i2l hx hb d_L_law_583 rfl ?_
    refine lv_bipush (v := 32) hx hb d_L_law_584 (by decide) ?_
    refine lv_lshl hx hb d_L_law_586 rfl ?_
    refine lv_aload_n hx hb d_L_law_587 rfl (lv_at hl 2 rfl) ?_
    refine lv_iload hx hb d_L_law_588 (lv_at hl 1 rfl) ?_
    refine lv_bipush (v := 7) hx hb d_L_law_590 (by decide) ?_
    refine lv_iadd hx hb d_L_law_592 ?_
    rw [show (nI i) + 7 = nI (i + 7) from (show nI i + nI 7 = _ from nI_add _ _)]
    refine va_sld hx hb hX hbl hbA hS (vp_in_nI (show i + 7 < L by omega) (by omega)) d_L_law_593 ?_
    rw [show (nI (i + 7)).toNatClampNeg = i + 7 from nI_clamp (by omega)]
    refine lv_i2l hx hb d_L_law_594 rfl ?_
    refine lv_ldc2 (own := R_L) (v := 4294967295) hx hb hown (htg _ k_523) d_L_law_595 ?_
    refine lv_land hx hb d_L_law_598 ?_
    refine lv_lor hx hb d_L_law_599 ?_
    rw [show (((xs (i + 6)).toInt64) <<< ((32 : Int32).toInt64 &&& 63)) ||| (((xs (i + 7)).toInt64) &&& 4294967295) = lg2 (xs (i + 6)) (xs (i + 7)) from rfl]
    refine mc_l (va_runV (As := [.int (xs (i + 1)), .int (xs (i + 2)), .long (lg2 (xs (i + 3)) (xs (i + 4))), .int (xs (i + 5)), .long (lg2 (xs (i + 6)) (xs (i + 7)))]) (rest := []) ⟨hx, hb, hml, hown, htg⟩ (t_M_atomic l D cJ cI cP bs w hm n cd M T ra rs aW aU aP aZ (hv0).2.1 hro (xs (i + 1)) (xs (i + 2)) (lg2 (xs (i + 3)) (xs (i + 4))) (xs (i + 5)) (lg2 (xs (i + 6)) (xs (i + 7)))) (cwV (own := R_L) (C := R_M) 5 htg (ginV k_483 k_484 k_485 k_26 k_486) rfl rfl rfl (by decide +kernel) ⟨Nat.le_of_ble_eq_true rfl, Nat.le_of_ble_eq_true rfl⟩) (mPc.preV (ci := ciM) (q := (R_M, T_M, 6)) hbs hS hP hK rfl (hv0).2.1.2.1) rfl rfl hl.1 rfl (lv_room (Nat.le_of_ble_eq_true rfl)) d_L_law_600 ⟨by show _ ≤ 601024; omega, by show _ ≤ 7293000; omega⟩) hS (fun b9 u7 H locs hM hP hz600 hS => ?_)
    obtain ⟨w7, M7⟩ := u7
    have hP : mw D vwCl bs w7 H := hP
    obtain ⟨hkm, hM⟩ := hM
    rcases hM with ⟨hz, hmo⟩ | ⟨hz, ⟨k, ek7, hk48, hno⟩, hmo⟩ | ⟨hz, ⟨k, a, ek7, hk48, hx4, ha, hno⟩, hmo⟩ | ⟨hz, j, k, a, hj, ej, ek7, hk48, ha, hal, hdo⟩
    · obtain ⟨hkd9, k9, a9, ek7, hk48, -⟩ := hy
      exact absurd ⟨(by rw [ek7]; rcases hk48 with e | e <;> rw [e] <;> first | exact Or.inl rfl | exact Or.inr rfl), hkd9⟩ hz
    · obtain ⟨hkd9, k9, a9, ek9, hk9, hx9, ha9, hn9⟩ := hy
      have ekk : k9 = k := nk8 (ek9.symm.trans ek7) (k48 hk9) (k48 hk48)
      subst ekk
      exact absurd ⟨hx9, a9, ha9⟩ hno
    · have hv7 := hv_M (hv0) hkm hmo
      refine lv_lstore (lv' := [(6, .long b9), (5, .int 3), (4, .int (nI i)), (0, .ref b), (1, .ref h), (2, .ref hm), (3, .ref ao)]) hx hb d_L_law_603 hl (by decide) rfl (fun ls hl => ?_)
      refine lv_aload_n hx hb d_L_law_605 rfl (lv_at hl 5 rfl) ?_
      refine mc_i (va_runV (As := []) (rest := []) ⟨hx, hb, hml, hown, htg⟩ (t_M_thrown l D cJ cI cP bs w7 hm n 3 _ _ _ _ _ _ _ _ (hv7).2.1) (cwV (own := R_L) (C := R_M) 0 htg (ginV k_430 k_431 k_432 k_26 k_433) rfl rfl rfl (by decide +kernel) ⟨Nat.le_of_ble_eq_true rfl, Nat.le_of_ble_eq_true rfl⟩) (mPc.preV (ci := ciM) (q := (R_M, T_M, 6)) hbs hS hP hK rfl (hv7).2.1.2.1) rfl rfl hl.1 rfl (lv_room (Nat.le_of_ble_eq_true rfl)) d_L_law_606 ⟨by show _ ≤ 601024; omega, by show _ ≤ 7293000; omega⟩) hS (fun r606 u606 H locs hth hP hz606 hS => ?_)
      subst hth
      refine lv_iload hx hb d_L_law_609 (lv_at hl 1 rfl) ?_
      refine lv_icmp_eq (tgt := 616) hx hb d_L_law_611 (by decide) (fun _ => ?_) (fun z => absurd rfl z)
      refine lv_iload hx hb d_L_law_616 (lv_at hl 1 rfl) ?_
      refine lv_if_ne (tgt := 632) hx hb d_L_law_618 (by decide) (fun _ => ?_) (fun z => absurd z (by decide))
      refine lv_goto (tgt := 876) hx hb d_L_law_632 (by decide) ?_
      refine W.widen (k := ce + 1026) (n := sl + 6144) (by omega) (by omega) ?_
      exact kx w7 ls H locs (LI.of hv7 hro) hP hS (lv_sub hl [2, 3, 4, 5, 6] rfl)
    · obtain ⟨hkd9, k9, a9, ek9, hk9, hx9, ha9, hn9⟩ := hy
      have ekk : k9 = k := nk8 (ek9.symm.trans ek7) (k48 hk9) (k48 hk48)
      subst ekk
      have eaa : a9 = a := inM_u hn.2 ha9 ha
      subst eaa
      exact absurd hal hn9
  · subst ek
    obtain ⟨hkd9, j9, k9, a9, hj9, ej9, ek9, hk9, ha9, hal9, hdo9⟩ := hq
    obtain ⟨M1, T1, ra1, rs1, pt1, hv1⟩ := at_half hv0 hdo9 ew
    refine lv_istore (lv' := [(5, .int 0), (4, .int (nI i)), (0, .ref b), (1, .ref h), (2, .ref hm), (3, .ref ao)]) hx hb d_L_law_533 hl (by decide) rfl (fun ls hl => ?_)
    refine lv_aload_n hx hb d_L_law_535 rfl (lv_at hl 4 rfl) ?_
    refine lv_aload_n hx hb d_L_law_536 rfl (lv_at hl 2 rfl) ?_
    refine lv_iload hx hb d_L_law_537 (lv_at hl 1 rfl) ?_
    refine lv_iconst (v := 1) hx hb d_L_law_539 (by decide) ?_
    refine lv_iadd hx hb d_L_law_540 ?_
    rw [show (nI i) + 1 = nI (i + 1) from (show nI i + nI 1 = _ from nI_add _ _)]
    refine va_sld hx hb hX hbl hbA hS (vp_in_nI (show i + 1 < L by omega) (by omega)) d_L_law_541 ?_
    rw [show (nI (i + 1)).toNatClampNeg = i + 1 from nI_clamp (by omega)]
    refine lv_aload_n hx hb d_L_law_542 rfl (lv_at hl 2 rfl) ?_
    refine lv_iload hx hb d_L_law_543 (lv_at hl 1 rfl) ?_
    refine lv_iconst (v := 2) hx hb d_L_law_545 (by decide) ?_
    refine lv_iadd hx hb d_L_law_546 ?_
    rw [show (nI i) + 2 = nI (i + 2) from (show nI i + nI 2 = _ from nI_add _ _)]
    refine va_sld hx hb hX hbl hbA hS (vp_in_nI (show i + 2 < L by omega) (by omega)) d_L_law_547 ?_
    rw [show (nI (i + 2)).toNatClampNeg = i + 2 from nI_clamp (by omega)]
    refine lv_aload_n hx hb d_L_law_548 rfl (lv_at hl 2 rfl) ?_
    refine lv_iload hx hb d_L_law_549 (lv_at hl 1 rfl) ?_
    refine lv_iconst (v := 3) hx hb d_L_law_551 (by decide) ?_
    refine lv_iadd hx hb d_L_law_552 ?_
    rw [show (nI i) + 3 = nI (i + 3) from (show nI i + nI 3 = _ from nI_add _ _)]
    refine va_sld hx hb hX hbl hbA hS (vp_in_nI (show i + 3 < L by omega) (by omega)) d_L_law_553 ?_
    rw [show (nI (i + 3)).toNatClampNeg = i + 3 from nI_clamp (by omega)]
    refine lv_i2l hx hb d_L_law_554 rfl ?_
    refine lv_bipush (v := 32) hx hb d_L_law_555 (by decide) ?_
    refine lv_lshl hx hb d_L_law_557 rfl ?_
    refine lv_aload_n hx hb d_L_law_558 rfl (lv_at hl 2 rfl) ?_
    refine lv_iload hx hb d_L_law_559 (lv_at hl 1 rfl) ?_
    refine lv_iconst (v := 4) hx hb d_L_law_561 (by decide) ?_
    refine lv_iadd hx hb d_L_law_562 ?_
    rw [show (nI i) + 4 = nI (i + 4) from (show nI i + nI 4 = _ from nI_add _ _)]
    refine va_sld hx hb hX hbl hbA hS (vp_in_nI (show i + 4 < L by omega) (by omega)) d_L_law_563 ?_
    rw [show (nI (i + 4)).toNatClampNeg = i + 4 from nI_clamp (by omega)]
    refine lv_i2l hx hb d_L_law_564 rfl ?_
    refine lv_ldc2 (own := R_L) (v := 4294967295) hx hb hown (htg _ k_523) d_L_law_565 ?_
    refine lv_land hx hb d_L_law_568 ?_
    refine lv_lor hx hb d_L_law_569 ?_
    rw [show (((xs (i + 3)).toInt64) <<< ((32 : Int32).toInt64 &&& 63)) ||| (((xs (i + 4)).toInt64) &&& 4294967295) = lg2 (xs (i + 3)) (xs (i + 4)) from rfl]
    refine lv_aload_n hx hb d_L_law_570 rfl (lv_at hl 2 rfl) ?_
    refine lv_iload hx hb d_L_law_571 (lv_at hl 1 rfl) ?_
    refine lv_iconst (v := 5) hx hb d_L_law_573 (by decide) ?_
    refine lv_iadd hx hb d_L_law_574 ?_
    rw [show (nI i) + 5 = nI (i + 5) from (show nI i + nI 5 = _ from nI_add _ _)]
    refine va_sld hx hb hX hbl hbA hS (vp_in_nI (show i + 5 < L by omega) (by omega)) d_L_law_575 ?_
    rw [show (nI (i + 5)).toNatClampNeg = i + 5 from nI_clamp (by omega)]
    refine lv_aload_n hx hb d_L_law_576 rfl (lv_at hl 2 rfl) ?_
    refine lv_iload hx hb d_L_law_577 (lv_at hl 1 rfl) ?_
    refine lv_bipush (v := 6) hx hb d_L_law_579 (by decide) ?_
    refine lv_iadd hx hb d_L_law_581 ?_
    rw [show (nI i) + 6 = nI (i + 6) from (show nI i + nI 6 = _ from nI_add _ _)]
    refine va_sld hx hb hX hbl hbA hS (vp_in_nI (show i + 6 < L by omega) (by omega)) d_L_law_582 ?_
    rw [show (nI (i + 6)).toNatClampNeg = i + 6 from nI_clamp (by omega)]
    refine lv_i2l hx hb d_L_law_583 rfl ?_
    refine lv_bipush (v := 32) hx hb d_L_law_584 (by decide) ?_
    refine lv_lshl hx hb d_L_law_586 rfl ?_
    refine lv_aload_n hx hb d_L_law_587 rfl (lv_at hl 2 rfl) ?_
    refine lv_iload hx hb d_L_law_588 (lv_at hl 1 rfl) ?_
    refine lv_bipush (v := 7) hx hb d_L_law_590 (by decide) ?_
    refine lv_iadd hx hb d_L_law_592 ?_
    rw [show (nI i) + 7 = nI (i + 7) from (show nI i + nI 7 = _ from nI_add _ _)]
    refine va_sld hx hb hX hbl hbA hS (vp_in_nI (show i + 7 < L by omega) (by omega)) d_L_law_593 ?_
    rw [show (nI (i + 7)).toNatClampNeg = i + 7 from nI_clamp (by omega)]
    refine lv_i2l hx hb d_L_law_594 rfl ?_
    refine lv_ldc2 (own := R_L) (v := 4294967295) hx hb hown (htg _ k_523) d_L_law_595 ?_
    refine lv_land hx hb d_L_law_598 ?_
    refine lv_lor hx hb d_L_law_599 ?_
    rw [show (((xs (i + 6)).toInt64) <<< ((32 : Int32).toInt64 &&& 63)) ||| (((xs (i + 7)).toInt64) &&& 4294967295) = lg2 (xs (i + 6)) (xs (i + 7)) from rfl]
    refine mc_l (va_runV (As := [.int (xs (i + 1)), .int (xs (i + 2)), .long (lg2 (xs (i + 3)) (xs (i + 4))), .int (xs (i + 5)), .long (lg2 (xs (i + 6)) (xs (i + 7)))]) (rest := []) ⟨hx, hb, hml, hown, htg⟩ (t_M_atomic l D cJ cI cP bs u5 hm n cd M T ra rs aW aU aP aZ (hv1).2.1 hro (xs (i + 1)) (xs (i + 2)) (lg2 (xs (i + 3)) (xs (i + 4))) (xs (i + 5)) (lg2 (xs (i + 6)) (xs (i + 7)))) (cwV (own := R_L) (C := R_M) 5 htg (ginV k_483 k_484 k_485 k_26 k_486) rfl rfl rfl (by decide +kernel) ⟨Nat.le_of_ble_eq_true rfl, Nat.le_of_ble_eq_true rfl⟩) (mPc.preV (ci := ciM) (q := (R_M, T_M, 6)) hbs hS hP hK rfl (hv1).2.1.2.1) rfl rfl hl.1 rfl (lv_room (Nat.le_of_ble_eq_true rfl)) d_L_law_600 ⟨by show _ ≤ 601024; omega, by show _ ≤ 7293000; omega⟩) hS (fun b9 u7 H locs hM hP hz600 hS => ?_)
    obtain ⟨w7, M7⟩ := u7
    have hP : mw D vwCl bs w7 H := hP
    obtain ⟨hkm, hM⟩ := hM
    rcases hM with ⟨hz, hmo⟩ | ⟨hz, ⟨k, ek7, hk48, hno⟩, hmo⟩ | ⟨hz, ⟨k, a, ek7, hk48, hx4, ha, hno⟩, hmo⟩ | ⟨hz, j, k, a, hj, ej, ek7, hk48, ha, hal, hdo⟩
    · have ek7 := ek9
      have hk48 := hk9
      exact absurd ⟨(by rw [ek7]; rcases hk48 with e | e <;> rw [e] <;> first | exact Or.inl rfl | exact Or.inr rfl), hkd9⟩ hz
    · have ekk : k9 = k := nk8 (ek9.symm.trans ek7) (k48 hk9) (k48 hk48)
      subst ekk
      exact absurd ⟨(by rw [ej9]; rcases (show j9 = 0 ∨ j9 = 1 ∨ j9 = 2 ∨ j9 = 3 by omega) with e | e | e | e <;> rw [e] <;> decide), a9, ha9⟩ hno
    · have ekk : k9 = k := nk8 (ek9.symm.trans ek7) (k48 hk9) (k48 hk48)
      subst ekk
      have eaa : a9 = a := inM_u hn.2 ha9 ha
      subst eaa
      exact absurd hal9 hno
    · have ekk : k9 = k := nk8 (ek9.symm.trans ek7) (k48 hk9) (k48 hk48)
      subst ekk
      have eaa : a9 = a := inM_u hn.2 ha9 ha
      subst eaa
      have ejj : j9 = j := nI_inj (by omega) (by omega) (ej9.symm.trans ej)
      subst ejj
      obtain ⟨hout, M2, T2, ra2, rs2, pt2, hv7, hro7⟩ := at_both hv0 hro (by have := ha9.2; rcases hk9 with e | e <;> omega) hdo9 ew hkm hdo
      refine lv_lstore (lv' := [(6, .long b9), (5, .int 0), (4, .int (nI i)), (0, .ref b), (1, .ref h), (2, .ref hm), (3, .ref ao)]) hx hb d_L_law_603 hl (by decide) rfl (fun ls hl => ?_)
      refine lv_aload_n hx hb d_L_law_605 rfl (lv_at hl 5 rfl) ?_
      refine mc_i (va_runV (As := []) (rest := []) ⟨hx, hb, hml, hown, htg⟩ (t_M_thrown l D cJ cI cP bs w7 hm n 0 _ _ _ _ _ _ _ _ (hv7).2.1) (cwV (own := R_L) (C := R_M) 0 htg (ginV k_430 k_431 k_432 k_26 k_433) rfl rfl rfl (by decide +kernel) ⟨Nat.le_of_ble_eq_true rfl, Nat.le_of_ble_eq_true rfl⟩) (mPc.preV (ci := ciM) (q := (R_M, T_M, 6)) hbs hS hP hK rfl (hv7).2.1.2.1) rfl rfl hl.1 rfl (lv_room (Nat.le_of_ble_eq_true rfl)) d_L_law_606 ⟨by show _ ≤ 601024; omega, by show _ ≤ 7293000; omega⟩) hS (fun r606 u606 H locs hth hP hz606 hS => ?_)
      subst hth
      refine lv_iload hx hb d_L_law_609 (lv_at hl 1 rfl) ?_
      refine lv_icmp_eq (tgt := 616) hx hb d_L_law_611 (by decide) (fun _ => ?_) (fun z => absurd rfl z)
      refine lv_iload hx hb d_L_law_616 (lv_at hl 1 rfl) ?_
      refine lv_if_ne (tgt := 632) hx hb d_L_law_618 (by decide) (fun z => absurd z (by decide)) (fun _ => ?_)
      refine lv_aload_n hx hb d_L_law_621 rfl (lv_at hl 6 rfl) ?_
      refine lv_iconst (v := 0) hx hb d_L_law_622 (by decide) ?_
      refine mw_lald hx hb hK hP 0 (hv7).2.2.1 rfl in01 d_L_law_623 ?_
      rw [show (0 : Int32).toNatClampNeg = 0 from rfl]
      refine lv_lload hx hb d_L_law_624 (lv_at hl 0 rfl) ?_
      refine lc_eq (tgt := 632) hx hb d_L_law_626 d_L_law_627 (by decide) (fun _ => ?_) (fun z => absurd (by rw [← hout]; exact pk_uLs) z)
      refine lv_goto (tgt := 876) hx hb d_L_law_632 (by decide) ?_
      refine W.widen (k := ce + 1026) (n := sl + 6144) (by omega) (by omega) ?_
      exact kx w7 ls H locs (LI.of hv7 hro7) hP hS (lv_sub hl [2, 3, 4, 5, 6] rfl)
set_option maxHeartbeats 4000000 in
set_option maxRecDepth 100000 in
/-- case 5: drop -/
theorem lw_5 {p : Program} {l : Launch} {e : Env} {s : State} {m : MethodId} {below : List Frame} {meth : Method} {c : Code} {Q : State → Prop} {b L : Nat} {xs : Nat → Int32} {D : va_G} {cJ cI cP : ClassId} {bs : Nat} (hl0 : l.stackTraces = false) (hx : p.tables.exec = Jvm.exec) (hb : c.code = c_L_law) (hml : c.maxLocals = 8) (hown : s.vm.findClass R_L = some m.cls) (htg : ∀ w ∈ gt, w.before #[Value.ref b] s = true) (hX : va_X b L xs s s.heap) (hbl : b < s.heap.size) (hbA : ¬ mA bs b) (hK : va_K D vwCl (mT cJ cI cP) s) (hbs : bs ≤ s.heap.size) (hE : evX bs s) (h hm ao i ce sl : Nat) (hi : i + 8 ≤ L) (hL : L ≤ 4097) (hce : ce + 1026 ≤ 601024) (hsl : sl + 6144 ≤ 7293000) (w : Nat → Option va_E) (hI : LI cJ cI cP h hm ao w)
    (kx : ∀ (w : Nat → Option va_E) (ls : Array Slot) (H : Heap) (locs : List Loc), LI cJ cI cP h hm ao w → mw D vwCl bs w H → va_S (mA bs) s.heap H locs → lv_has ls 8 [(4, .int (nI i)), (0, .ref b), (1, .ref h), (2, .ref hm), (3, .ref ao)] → W p l e room_1 s m #[Value.ref b] below meth c H locs (ce + 1026) (sl + 6144) Q (F0 m 876 ls []))
    (ls : Array Slot) (H : Heap) (locs : List Loc) (hP : mw D vwCl bs w H) (hS : va_S (mA bs) s.heap H locs) (hl : lv_has ls 8 [(4, .int (nI i)), (0, .ref b), (1, .ref h), (2, .ref hm), (3, .ref ao)]) : W p l e room_1 s m #[Value.ref b] below meth c H locs ce sl Q (F0 m 635 ls []) := by
  obtain ⟨n, cd, M, T, ra, rs, aT, aA, aS, pt, aW, aU, aP, aZ, O, hv0, hro⟩ := hI
  obtain ⟨hs, ho, hao, hdj⟩ := id hv0
  have hn := hs.1
  have hna : ¬ sfp w h ao := fun z => (hdj ao z).2.2.2.2.2 rfl
  refine lv_aload_n hx hb d_L_law_635 rfl (lv_at hl 2 rfl) ?_
  refine lv_aload_n hx hb d_L_law_636 rfl (lv_at hl 1 rfl) ?_
  refine lv_iload hx hb d_L_law_637 (lv_at hl 0 rfl) ?_
  refine lv_iconst (v := 1) hx hb d_L_law_639 (by decide) ?_
  refine lv_iadd hx hb d_L_law_640 ?_
  rw [show (nI i) + 1 = nI (i + 1) from (show nI i + nI 1 = _ from nI_add _ _)]
  refine va_sld hx hb hX hbl hbA hS (vp_in_nI (show i + 1 < L by omega) (by omega)) d_L_law_641 ?_
  rw [show (nI (i + 1)).toNatClampNeg = i + 1 from nI_clamp (by omega)]
  refine lv_aload_n hx hb d_L_law_642 rfl (lv_at hl 4 rfl) ?_
  refine mc_i (vx_runSW (As := [.ref h, .int (xs (i + 1)), .ref ao]) (rest := []) ⟨hx, hb, hml, hown, htg⟩ (t_L_drop l hl0 D cJ cI cP bs w h n M T ra rs aT aA aS pt hs ao O hao hna (xs (i + 1))) (vx_cwSW (own := R_L) 3 htg (ginT k_361 k_362 k_24 k_363) rfl rfl rfl (by decide +kernel) ⟨Nat.le_of_ble_eq_true rfl, Nat.le_of_ble_eq_true rfl⟩) (mPx.preS hbs hS hP hK hE) rfl rfl hl.1 rfl (lv_room (Nat.le_of_ble_eq_true rfl)) d_L_law_643 ⟨by show _ ≤ 601024; omega, by show _ ≤ 7293000; omega⟩) hS (fun rk u5 H locs hw hP hz5 hS => ?_)
  have hP : mw D vwCl bs u5 H := hP
  rcases hw with ⟨ek, hy, ew⟩ | ⟨ek, r9, w9, hq, ew⟩
  · subst ek
    rw [ew] at hP
    refine lv_istore (lv' := [(5, .int 1), (4, .int (nI i)), (0, .ref b), (1, .ref h), (2, .ref hm), (3, .ref ao)]) hx hb d_L_law_646 hl (by decide) rfl (fun ls hl => ?_)
    refine lv_aload_n hx hb d_L_law_648 rfl (lv_at hl 4 rfl) ?_
    refine lv_aload_n hx hb d_L_law_649 rfl (lv_at hl 2 rfl) ?_
    refine lv_iload hx hb d_L_law_650 (lv_at hl 1 rfl) ?_
    refine lv_iconst (v := 1) hx hb d_L_law_652 (by decide) ?_
    refine lv_iadd hx hb d_L_law_653 ?_
    rw [show (nI i) + 1 = nI (i + 1) from (show nI i + nI 1 = _ from nI_add _ _)]
    refine va_sld hx hb hX hbl hbA hS (vp_in_nI (show i + 1 < L by omega) (by omega)) d_L_law_654 ?_
    rw [show (nI (i + 1)).toNatClampNeg = i + 1 from nI_clamp (by omega)]
    refine mc_i (va_runV (As := [.int (xs (i + 1))]) (rest := []) ⟨hx, hb, hml, hown, htg⟩ (t_M_drop l D cJ cI cP bs w hm n cd M T ra rs aW aU aP aZ (hv0).2.1 hro (xs (i + 1))) (cwV (own := R_L) (C := R_M) 1 htg (ginV k_499 k_500 k_501 k_26 k_502) rfl rfl rfl (by decide +kernel) ⟨Nat.le_of_ble_eq_true rfl, Nat.le_of_ble_eq_true rfl⟩) (mPc.preV (ci := ciM) (q := (R_M, T_M, 6)) hbs hS hP hK rfl (hv0).2.1.2.1) rfl rfl hl.1 rfl (lv_room (Nat.le_of_ble_eq_true rfl)) d_L_law_655 ⟨by show _ ≤ 601024; omega, by show _ ≤ 7293000; omega⟩) hS (fun b9 u7 H locs hM hP hz655 hS => ?_)
    obtain ⟨w7, ew7⟩ : ∃ z, z = u7 := ⟨_, rfl⟩
    subst ew7
    have hP : mw D vwCl bs w7 H := hP
    obtain ⟨hkm, hM⟩ := hM
    rcases hM with ⟨hz, hmo⟩ | ⟨j, hj, ej, eb, hmo⟩
    · have hv7 := hv_M (hv0) hkm hmo
      refine lv_istore (lv' := [(6, .int b9), (5, .int 1), (4, .int (nI i)), (0, .ref b), (1, .ref h), (2, .ref hm), (3, .ref ao)]) hx hb d_L_law_658 hl (by decide) rfl (fun ls hl => ?_)
      refine lv_aload_n hx hb d_L_law_660 rfl (lv_at hl 5 rfl) ?_
      refine mc_i (va_runV (As := []) (rest := []) ⟨hx, hb, hml, hown, htg⟩ (t_M_thrown l D cJ cI cP bs w7 hm n 1 _ _ _ _ _ _ _ _ (hv7).2.1) (cwV (own := R_L) (C := R_M) 0 htg (ginV k_430 k_431 k_432 k_26 k_433) rfl rfl rfl (by decide +kernel) ⟨Nat.le_of_ble_eq_true rfl, Nat.le_of_ble_eq_true rfl⟩) (mPc.preV (ci := ciM) (q := (R_M, T_M, 6)) hbs hS hP hK rfl (hv7).2.1.2.1) rfl rfl hl.1 rfl (lv_room (Nat.le_of_ble_eq_true rfl)) d_L_law_661 ⟨by show _ ≤ 601024; omega, by show _ ≤ 7293000; omega⟩) hS (fun r661 u661 H locs hth hP hz661 hS => ?_)
      subst hth
      refine lv_iload hx hb d_L_law_664 (lv_at hl 1 rfl) ?_
      refine lv_icmp_eq (tgt := 671) hx hb d_L_law_666 (by decide) (fun _ => ?_) (fun z => absurd rfl z)
      refine lv_iload hx hb d_L_law_671 (lv_at hl 1 rfl) ?_
      refine lv_if_ne (tgt := 695) hx hb d_L_law_673 (by decide) (fun _ => ?_) (fun z => absurd z (by decide))
      refine lv_goto (tgt := 876) hx hb d_L_law_695 (by decide) ?_
      refine W.widen (k := ce + 1026) (n := sl + 6144) (by omega) (by omega) ?_
      exact kx w7 ls H locs (LI.of hv7 hro) hP hS (lv_sub hl [2, 3, 4, 5, 6] rfl)
    · exact absurd (by rw [ej]; rcases (show j = 0 ∨ j = 1 ∨ j = 2 ∨ j = 3 by omega) with e | e | e | e <;> rw [e] <;> decide) hy
  · subst ek
    obtain ⟨j9, hj9, ej9, er9, hsm9, hkp9⟩ := hq
    have hv1 : hv cJ cI cP u5 h hm ao n cd M T ra rs M T (vp_updL ra j9 0) rs aT aA aS pt aW aU aP aZ (vp_updL O 0 (if r9 = 0 then 0 else 1)) := by rw [ew]; exact hv_O (hv_S hv0 hkp9 hsm9) _
    refine lv_istore (lv' := [(5, .int 0), (4, .int (nI i)), (0, .ref b), (1, .ref h), (2, .ref hm), (3, .ref ao)]) hx hb d_L_law_646 hl (by decide) rfl (fun ls hl => ?_)
    refine lv_aload_n hx hb d_L_law_648 rfl (lv_at hl 4 rfl) ?_
    refine lv_aload_n hx hb d_L_law_649 rfl (lv_at hl 2 rfl) ?_
    refine lv_iload hx hb d_L_law_650 (lv_at hl 1 rfl) ?_
    refine lv_iconst (v := 1) hx hb d_L_law_652 (by decide) ?_
    refine lv_iadd hx hb d_L_law_653 ?_
    rw [show (nI i) + 1 = nI (i + 1) from (show nI i + nI 1 = _ from nI_add _ _)]
    refine va_sld hx hb hX hbl hbA hS (vp_in_nI (show i + 1 < L by omega) (by omega)) d_L_law_654 ?_
    rw [show (nI (i + 1)).toNatClampNeg = i + 1 from nI_clamp (by omega)]
    refine mc_i (va_runV (As := [.int (xs (i + 1))]) (rest := []) ⟨hx, hb, hml, hown, htg⟩ (t_M_drop l D cJ cI cP bs u5 hm n cd M T ra rs aW aU aP aZ (hv1).2.1 hro (xs (i + 1))) (cwV (own := R_L) (C := R_M) 1 htg (ginV k_499 k_500 k_501 k_26 k_502) rfl rfl rfl (by decide +kernel) ⟨Nat.le_of_ble_eq_true rfl, Nat.le_of_ble_eq_true rfl⟩) (mPc.preV (ci := ciM) (q := (R_M, T_M, 6)) hbs hS hP hK rfl (hv1).2.1.2.1) rfl rfl hl.1 rfl (lv_room (Nat.le_of_ble_eq_true rfl)) d_L_law_655 ⟨by show _ ≤ 601024; omega, by show _ ≤ 7293000; omega⟩) hS (fun b9 u7 H locs hM hP hz655 hS => ?_)
    obtain ⟨w7, ew7⟩ : ∃ z, z = u7 := ⟨_, rfl⟩
    subst ew7
    have hP : mw D vwCl bs w7 H := hP
    obtain ⟨hkm, hM⟩ := hM
    rcases hM with ⟨hz, hmo⟩ | ⟨j, hj, ej, eb, hmo⟩
    · exact absurd (by rw [ej9]; rcases (show j9 = 0 ∨ j9 = 1 ∨ j9 = 2 ∨ j9 = 3 by omega) with e | e | e | e <;> rw [e] <;> decide) hz
    · have ejj : j9 = j := nI_inj (by omega) (by omega) (ej9.symm.trans ej)
      subst ejj
      have hout : r9 = b9 := er9.trans eb.symm
      have hv7 := hv_M hv1 hkm hmo
      refine lv_istore (lv' := [(6, .int b9), (5, .int 0), (4, .int (nI i)), (0, .ref b), (1, .ref h), (2, .ref hm), (3, .ref ao)]) hx hb d_L_law_658 hl (by decide) rfl (fun ls hl => ?_)
      refine lv_aload_n hx hb d_L_law_660 rfl (lv_at hl 5 rfl) ?_
      refine mc_i (va_runV (As := []) (rest := []) ⟨hx, hb, hml, hown, htg⟩ (t_M_thrown l D cJ cI cP bs w7 hm n 0 _ _ _ _ _ _ _ _ (hv7).2.1) (cwV (own := R_L) (C := R_M) 0 htg (ginV k_430 k_431 k_432 k_26 k_433) rfl rfl rfl (by decide +kernel) ⟨Nat.le_of_ble_eq_true rfl, Nat.le_of_ble_eq_true rfl⟩) (mPc.preV (ci := ciM) (q := (R_M, T_M, 6)) hbs hS hP hK rfl (hv7).2.1.2.1) rfl rfl hl.1 rfl (lv_room (Nat.le_of_ble_eq_true rfl)) d_L_law_661 ⟨by show _ ≤ 601024; omega, by show _ ≤ 7293000; omega⟩) hS (fun r661 u661 H locs hth hP hz661 hS => ?_)
      subst hth
      refine lv_iload hx hb d_L_law_664 (lv_at hl 1 rfl) ?_
      refine lv_icmp_eq (tgt := 671) hx hb d_L_law_666 (by decide) (fun _ => ?_) (fun z => absurd rfl z)
      refine lv_iload hx hb d_L_law_671 (lv_at hl 1 rfl) ?_
      refine lv_if_ne (tgt := 695) hx hb d_L_law_673 (by decide) (fun z => absurd z (by decide)) (fun _ => ?_)
      refine lv_aload_n hx hb d_L_law_676 rfl (lv_at hl 6 rfl) ?_
      refine lv_iconst (v := 0) hx hb d_L_law_677 (by decide) ?_
      refine mw_lald hx hb hK hP 0 (hv7).2.2.1 rfl in01 d_L_law_678 ?_
      rw [show (0 : Int32).toNatClampNeg = 0 from rfl]
      refine lv_iload hx hb d_L_law_679 (lv_at hl 0 rfl) ?_
      refine lv_if_eq (tgt := 688) hx hb d_L_law_681 (by decide) (fun c681 => ?_) (fun c681 => ?_)
      · refine lv_lconst (v := 0) hx hb d_L_law_688 rfl ?_
        refine lc_eq (tgt := 695) hx hb d_L_law_689 d_L_law_690 (by decide) (fun _ => ?_) (fun z => absurd (by rw [pk_uLs, hout, if_pos c681]) z)
        refine lv_goto (tgt := 876) hx hb d_L_law_695 (by decide) ?_
        refine W.widen (k := ce + 1026) (n := sl + 6144) (by omega) (by omega) ?_
        exact kx w7 ls H locs (LI.of hv7 (rok_0 hro _)) hP hS (lv_sub hl [2, 3, 4, 5, 6] rfl)
      · refine lv_lconst (v := 1) hx hb d_L_law_684 rfl ?_
        refine lv_goto (tgt := 689) hx hb d_L_law_685 (by decide) ?_
        refine lc_eq (tgt := 695) hx hb d_L_law_689 d_L_law_690 (by decide) (fun _ => ?_) (fun z => absurd (by rw [pk_uLs, hout, if_neg c681]) z)
        refine lv_goto (tgt := 876) hx hb d_L_law_695 (by decide) ?_
        refine W.widen (k := ce + 1026) (n := sl + 6144) (by omega) (by omega) ?_
        exact kx w7 ls H locs (LI.of hv7 (rok_0 hro _)) hP hS (lv_sub hl [2, 3, 4, 5, 6] rfl)
set_option maxHeartbeats 4000000 in
set_option maxRecDepth 100000 in
/-- case 6: reserved -/
theorem lw_6 {p : Program} {l : Launch} {e : Env} {s : State} {m : MethodId} {below : List Frame} {meth : Method} {c : Code} {Q : State → Prop} {b L : Nat} {xs : Nat → Int32} {D : va_G} {cJ cI cP : ClassId} {bs : Nat} (hl0 : l.stackTraces = false) (hx : p.tables.exec = Jvm.exec) (hb : c.code = c_L_law) (hml : c.maxLocals = 8) (hown : s.vm.findClass R_L = some m.cls) (htg : ∀ w ∈ gt, w.before #[Value.ref b] s = true) (hX : va_X b L xs s s.heap) (hbl : b < s.heap.size) (hbA : ¬ mA bs b) (hK : va_K D vwCl (mT cJ cI cP) s) (hbs : bs ≤ s.heap.size) (hE : evX bs s) (h hm ao i ce sl : Nat) (hi : i + 8 ≤ L) (hL : L ≤ 4097) (hce : ce + 1026 ≤ 601024) (hsl : sl + 6144 ≤ 7293000) (w : Nat → Option va_E) (hI : LI cJ cI cP h hm ao w)
    (kx : ∀ (w : Nat → Option va_E) (ls : Array Slot) (H : Heap) (locs : List Loc), LI cJ cI cP h hm ao w → mw D vwCl bs w H → va_S (mA bs) s.heap H locs → lv_has ls 8 [(4, .int (nI i)), (0, .ref b), (1, .ref h), (2, .ref hm), (3, .ref ao)] → W p l e room_1 s m #[Value.ref b] below meth c H locs (ce + 1026) (sl + 6144) Q (F0 m 876 ls []))
    (ls : Array Slot) (H : Heap) (locs : List Loc) (hP : mw D vwCl bs w H) (hS : va_S (mA bs) s.heap H locs) (hl : lv_has ls 8 [(4, .int (nI i)), (0, .ref b), (1, .ref h), (2, .ref hm), (3, .ref ao)]) : W p l e room_1 s m #[Value.ref b] below meth c H locs ce sl Q (F0 m 698 ls []) := by
  obtain ⟨n, cd, M, T, ra, rs, aT, aA, aS, pt, aW, aU, aP, aZ, O, hv0, hro⟩ := hI
  obtain ⟨hs, ho, hao, hdj⟩ := id hv0
  have hn := hs.1
  have hna : ¬ sfp w h ao := fun z => (hdj ao z).2.2.2.2.2 rfl
  refine lv_aload_n hx hb d_L_law_698 rfl (lv_at hl 2 rfl) ?_
  refine lv_aload_n hx hb d_L_law_699 rfl (lv_at hl 1 rfl) ?_
  refine lv_iload hx hb d_L_law_700 (lv_at hl 0 rfl) ?_
  refine lv_iconst (v := 1) hx hb d_L_law_702 (by decide) ?_
  refine lv_iadd hx hb d_L_law_703 ?_
  rw [show (nI i) + 1 = nI (i + 1) from (show nI i + nI 1 = _ from nI_add _ _)]
  refine va_sld hx hb hX hbl hbA hS (vp_in_nI (show i + 1 < L by omega) (by omega)) d_L_law_704 ?_
  rw [show (nI (i + 1)).toNatClampNeg = i + 1 from nI_clamp (by omega)]
  refine lv_aload_n hx hb d_L_law_705 rfl (lv_at hl 4 rfl) ?_
  refine mc_i (vx_runSW (As := [.ref h, .int (xs (i + 1)), .ref ao]) (rest := []) ⟨hx, hb, hml, hown, htg⟩ (t_L_reserved l hl0 D cJ cI cP bs w h n M T ra rs aT aA aS pt hs ao O hao (xs (i + 1))) (vx_cwSW (own := R_L) 3 htg (ginT k_369 k_370 k_24 k_371) rfl rfl rfl (by decide +kernel) ⟨Nat.le_of_ble_eq_true rfl, Nat.le_of_ble_eq_true rfl⟩) (mPx.preS hbs hS hP hK hE) rfl rfl hl.1 rfl (lv_room (Nat.le_of_ble_eq_true rfl)) d_L_law_706 ⟨by show _ ≤ 601024; omega, by show _ ≤ 7293000; omega⟩) hS (fun rk u5 H locs hw hP hz5 hS => ?_)
  have hP : mw D vwCl bs u5 H := hP
  rcases hw with ⟨ek, hy, ew⟩ | ⟨ek, v9, hq, ew⟩
  · subst ek
    rw [ew] at hP
    refine lv_istore (lv' := [(5, .int 1), (4, .int (nI i)), (0, .ref b), (1, .ref h), (2, .ref hm), (3, .ref ao)]) hx hb d_L_law_709 hl (by decide) rfl (fun ls hl => ?_)
    refine lv_aload_n hx hb d_L_law_711 rfl (lv_at hl 4 rfl) ?_
    refine lv_aload_n hx hb d_L_law_712 rfl (lv_at hl 2 rfl) ?_
    refine lv_iload hx hb d_L_law_713 (lv_at hl 1 rfl) ?_
    refine lv_iconst (v := 1) hx hb d_L_law_715 (by decide) ?_
    refine lv_iadd hx hb d_L_law_716 ?_
    rw [show (nI i) + 1 = nI (i + 1) from (show nI i + nI 1 = _ from nI_add _ _)]
    refine va_sld hx hb hX hbl hbA hS (vp_in_nI (show i + 1 < L by omega) (by omega)) d_L_law_717 ?_
    rw [show (nI (i + 1)).toNatClampNeg = i + 1 from nI_clamp (by omega)]
    refine mc_l (va_runV (As := [.int (xs (i + 1))]) (rest := []) ⟨hx, hb, hml, hown, htg⟩ (t_M_reserved l D cJ cI cP bs w hm n cd M T ra rs aW aU aP aZ (hv0).2.1 (xs (i + 1))) (cwV (own := R_L) (C := R_M) 1 htg (ginV k_503 k_504 k_505 k_26 k_506) rfl rfl rfl (by decide +kernel) ⟨Nat.le_of_ble_eq_true rfl, Nat.le_of_ble_eq_true rfl⟩) (mPc.preV (ci := ciM) (q := (R_M, T_M, 6)) hbs hS hP hK rfl (hv0).2.1.2.1) rfl rfl hl.1 rfl (lv_room (Nat.le_of_ble_eq_true rfl)) d_L_law_718 ⟨by show _ ≤ 601024; omega, by show _ ≤ 7293000; omega⟩) hS (fun b9 u7 H locs hM hP hz718 hS => ?_)
    obtain ⟨w7, ew7⟩ : ∃ z, z = u7 := ⟨_, rfl⟩
    subst ew7
    have hP : mw D vwCl bs w7 H := hP
    obtain ⟨hkm, hM⟩ := hM
    rcases hM with ⟨hz, hmo⟩ | ⟨j, hj, ej, eb, hmo⟩
    · have hv7 := hv_M (hv0) hkm hmo
      refine lv_lstore (lv' := [(6, .long b9), (5, .int 1), (4, .int (nI i)), (0, .ref b), (1, .ref h), (2, .ref hm), (3, .ref ao)]) hx hb d_L_law_721 hl (by decide) rfl (fun ls hl => ?_)
      refine lv_aload_n hx hb d_L_law_723 rfl (lv_at hl 5 rfl) ?_
      refine mc_i (va_runV (As := []) (rest := []) ⟨hx, hb, hml, hown, htg⟩ (t_M_thrown l D cJ cI cP bs w7 hm n 1 _ _ _ _ _ _ _ _ (hv7).2.1) (cwV (own := R_L) (C := R_M) 0 htg (ginV k_430 k_431 k_432 k_26 k_433) rfl rfl rfl (by decide +kernel) ⟨Nat.le_of_ble_eq_true rfl, Nat.le_of_ble_eq_true rfl⟩) (mPc.preV (ci := ciM) (q := (R_M, T_M, 6)) hbs hS hP hK rfl (hv7).2.1.2.1) rfl rfl hl.1 rfl (lv_room (Nat.le_of_ble_eq_true rfl)) d_L_law_724 ⟨by show _ ≤ 601024; omega, by show _ ≤ 7293000; omega⟩) hS (fun r724 u724 H locs hth hP hz724 hS => ?_)
      subst hth
      refine lv_iload hx hb d_L_law_727 (lv_at hl 1 rfl) ?_
      refine lv_icmp_eq (tgt := 734) hx hb d_L_law_729 (by decide) (fun _ => ?_) (fun z => absurd rfl z)
      refine lv_iload hx hb d_L_law_734 (lv_at hl 1 rfl) ?_
      refine lv_if_ne (tgt := 750) hx hb d_L_law_736 (by decide) (fun _ => ?_) (fun z => absurd z (by decide))
      refine lv_goto (tgt := 876) hx hb d_L_law_750 (by decide) ?_
      refine W.widen (k := ce + 1026) (n := sl + 6144) (by omega) (by omega) ?_
      exact kx w7 ls H locs (LI.of hv7 hro) hP hS (lv_sub hl [2, 3, 4, 5, 6] rfl)
    · exact absurd (by rw [ej]; rcases (show j = 0 ∨ j = 1 ∨ j = 2 ∨ j = 3 by omega) with e | e | e | e <;> rw [e] <;> decide) hy
  · subst ek
    have hv1 : hv cJ cI cP u5 h hm ao n cd M T ra rs M T ra rs aT aA aS pt aW aU aP aZ (vp_updL O 0 v9) := by rw [ew]; exact hv_O hv0 _
    obtain ⟨j9, hj9, ej9, er9⟩ := hq
    refine lv_istore (lv' := [(5, .int 0), (4, .int (nI i)), (0, .ref b), (1, .ref h), (2, .ref hm), (3, .ref ao)]) hx hb d_L_law_709 hl (by decide) rfl (fun ls hl => ?_)
    refine lv_aload_n hx hb d_L_law_711 rfl (lv_at hl 4 rfl) ?_
    refine lv_aload_n hx hb d_L_law_712 rfl (lv_at hl 2 rfl) ?_
    refine lv_iload hx hb d_L_law_713 (lv_at hl 1 rfl) ?_
    refine lv_iconst (v := 1) hx hb d_L_law_715 (by decide) ?_
    refine lv_iadd hx hb d_L_law_716 ?_
    rw [show (nI i) + 1 = nI (i + 1) from (show nI i + nI 1 = _ from nI_add _ _)]
    refine va_sld hx hb hX hbl hbA hS (vp_in_nI (show i + 1 < L by omega) (by omega)) d_L_law_717 ?_
    rw [show (nI (i + 1)).toNatClampNeg = i + 1 from nI_clamp (by omega)]
    refine mc_l (va_runV (As := [.int (xs (i + 1))]) (rest := []) ⟨hx, hb, hml, hown, htg⟩ (t_M_reserved l D cJ cI cP bs u5 hm n cd M T ra rs aW aU aP aZ (hv1).2.1 (xs (i + 1))) (cwV (own := R_L) (C := R_M) 1 htg (ginV k_503 k_504 k_505 k_26 k_506) rfl rfl rfl (by decide +kernel) ⟨Nat.le_of_ble_eq_true rfl, Nat.le_of_ble_eq_true rfl⟩) (mPc.preV (ci := ciM) (q := (R_M, T_M, 6)) hbs hS hP hK rfl (hv1).2.1.2.1) rfl rfl hl.1 rfl (lv_room (Nat.le_of_ble_eq_true rfl)) d_L_law_718 ⟨by show _ ≤ 601024; omega, by show _ ≤ 7293000; omega⟩) hS (fun b9 u7 H locs hM hP hz718 hS => ?_)
    obtain ⟨w7, ew7⟩ : ∃ z, z = u7 := ⟨_, rfl⟩
    subst ew7
    have hP : mw D vwCl bs w7 H := hP
    obtain ⟨hkm, hM⟩ := hM
    rcases hM with ⟨hz, hmo⟩ | ⟨j, hj, ej, eb, hmo⟩
    · exact absurd (by rw [ej9]; rcases (show j9 = 0 ∨ j9 = 1 ∨ j9 = 2 ∨ j9 = 3 by omega) with e | e | e | e <;> rw [e] <;> decide) hz
    · have ejj : j9 = j := nI_inj (by omega) (by omega) (ej9.symm.trans ej)
      subst ejj
      have hout : v9 = b9 := er9.trans eb.symm
      have hv7 := hv_M (hv1) hkm hmo
      refine lv_lstore (lv' := [(6, .long b9), (5, .int 0), (4, .int (nI i)), (0, .ref b), (1, .ref h), (2, .ref hm), (3, .ref ao)]) hx hb d_L_law_721 hl (by decide) rfl (fun ls hl => ?_)
      refine lv_aload_n hx hb d_L_law_723 rfl (lv_at hl 5 rfl) ?_
      refine mc_i (va_runV (As := []) (rest := []) ⟨hx, hb, hml, hown, htg⟩ (t_M_thrown l D cJ cI cP bs w7 hm n 0 _ _ _ _ _ _ _ _ (hv7).2.1) (cwV (own := R_L) (C := R_M) 0 htg (ginV k_430 k_431 k_432 k_26 k_433) rfl rfl rfl (by decide +kernel) ⟨Nat.le_of_ble_eq_true rfl, Nat.le_of_ble_eq_true rfl⟩) (mPc.preV (ci := ciM) (q := (R_M, T_M, 6)) hbs hS hP hK rfl (hv7).2.1.2.1) rfl rfl hl.1 rfl (lv_room (Nat.le_of_ble_eq_true rfl)) d_L_law_724 ⟨by show _ ≤ 601024; omega, by show _ ≤ 7293000; omega⟩) hS (fun r724 u724 H locs hth hP hz724 hS => ?_)
      subst hth
      refine lv_iload hx hb d_L_law_727 (lv_at hl 1 rfl) ?_
      refine lv_icmp_eq (tgt := 734) hx hb d_L_law_729 (by decide) (fun _ => ?_) (fun z => absurd rfl z)
      refine lv_iload hx hb d_L_law_734 (lv_at hl 1 rfl) ?_
      refine lv_if_ne (tgt := 750) hx hb d_L_law_736 (by decide) (fun z => absurd z (by decide)) (fun _ => ?_)
      refine lv_aload_n hx hb d_L_law_739 rfl (lv_at hl 6 rfl) ?_
      refine lv_iconst (v := 0) hx hb d_L_law_740 (by decide) ?_
      refine mw_lald hx hb hK hP 0 (hv7).2.2.1 rfl in01 d_L_law_741 ?_
      rw [show (0 : Int32).toNatClampNeg = 0 from rfl]
      refine lv_lload hx hb d_L_law_742 (lv_at hl 0 rfl) ?_
      refine lc_eq (tgt := 750) hx hb d_L_law_744 d_L_law_745 (by decide) (fun _ => ?_) (fun z => absurd (by rw [← hout]; exact pk_uLs) z)
      refine lv_goto (tgt := 876) hx hb d_L_law_750 (by decide) ?_
      refine W.widen (k := ce + 1026) (n := sl + 6144) (by omega) (by omega) ?_
      exact kx w7 ls H locs (LI.of hv7 hro) hP hS (lv_sub hl [2, 3, 4, 5, 6] rfl)
set_option maxHeartbeats 4000000 in
set_option maxRecDepth 100000 in
/-- case 7: writes -/
theorem lw_7 {p : Program} {l : Launch} {e : Env} {s : State} {m : MethodId} {below : List Frame} {meth : Method} {c : Code} {Q : State → Prop} {b L : Nat} {xs : Nat → Int32} {D : va_G} {cJ cI cP : ClassId} {bs : Nat} (hl0 : l.stackTraces = false) (hx : p.tables.exec = Jvm.exec) (hb : c.code = c_L_law) (hml : c.maxLocals = 8) (hown : s.vm.findClass R_L = some m.cls) (htg : ∀ w ∈ gt, w.before #[Value.ref b] s = true) (hX : va_X b L xs s s.heap) (hbl : b < s.heap.size) (hbA : ¬ mA bs b) (hK : va_K D vwCl (mT cJ cI cP) s) (hbs : bs ≤ s.heap.size) (hE : evX bs s) (h hm ao i ce sl : Nat) (hi : i + 8 ≤ L) (hL : L ≤ 4097) (hce : ce + 1026 ≤ 601024) (hsl : sl + 6144 ≤ 7293000) (w : Nat → Option va_E) (hI : LI cJ cI cP h hm ao w)
    (kx : ∀ (w : Nat → Option va_E) (ls : Array Slot) (H : Heap) (locs : List Loc), LI cJ cI cP h hm ao w → mw D vwCl bs w H → va_S (mA bs) s.heap H locs → lv_has ls 8 [(4, .int (nI i)), (0, .ref b), (1, .ref h), (2, .ref hm), (3, .ref ao)] → W p l e room_1 s m #[Value.ref b] below meth c H locs (ce + 1026) (sl + 6144) Q (F0 m 876 ls []))
    (ls : Array Slot) (H : Heap) (locs : List Loc) (hP : mw D vwCl bs w H) (hS : va_S (mA bs) s.heap H locs) (hl : lv_has ls 8 [(4, .int (nI i)), (0, .ref b), (1, .ref h), (2, .ref hm), (3, .ref ao)]) : W p l e room_1 s m #[Value.ref b] below meth c H locs ce sl Q (F0 m 753 ls []) := by
  obtain ⟨n, cd, M, T, ra, rs, aT, aA, aS, pt, aW, aU, aP, aZ, O, hv0, hro⟩ := hI
  obtain ⟨hs, ho, hao, hdj⟩ := id hv0
  have hn := hs.1
  have hna : ¬ sfp w h ao := fun z => (hdj ao z).2.2.2.2.2 rfl
  refine lv_aload_n hx hb d_L_law_753 rfl (lv_at hl 2 rfl) ?_
  refine lv_aload_n hx hb d_L_law_754 rfl (lv_at hl 1 rfl) ?_
  refine lv_iload hx hb d_L_law_755 (lv_at hl 0 rfl) ?_
  refine lv_iconst (v := 1) hx hb d_L_law_757 (by decide) ?_
  refine lv_iadd hx hb d_L_law_758 ?_
  rw [show (nI i) + 1 = nI (i + 1) from (show nI i + nI 1 = _ from nI_add _ _)]
  refine va_sld hx hb hX hbl hbA hS (vp_in_nI (show i + 1 < L by omega) (by omega)) d_L_law_759 ?_
  rw [show (nI (i + 1)).toNatClampNeg = i + 1 from nI_clamp (by omega)]
  refine lv_aload_n hx hb d_L_law_760 rfl (lv_at hl 4 rfl) ?_
  refine mc_i (vx_runSW (As := [.ref h, .int (xs (i + 1)), .ref ao]) (rest := []) ⟨hx, hb, hml, hown, htg⟩ (t_L_writes l hl0 D cJ cI cP bs w h n M T ra rs aT aA aS pt hs ao O hao (xs (i + 1))) (vx_cwSW (own := R_L) 3 htg (ginT k_376 k_377 k_24 k_378) rfl rfl rfl (by decide +kernel) ⟨Nat.le_of_ble_eq_true rfl, Nat.le_of_ble_eq_true rfl⟩) (mPx.preS hbs hS hP hK hE) rfl rfl hl.1 rfl (lv_room (Nat.le_of_ble_eq_true rfl)) d_L_law_761 ⟨by show _ ≤ 601024; omega, by show _ ≤ 7293000; omega⟩) hS (fun rk u5 H locs hw hP hz5 hS => ?_)
  have hP : mw D vwCl bs u5 H := hP
  rcases hw with ⟨ek, hy, ew⟩ | ⟨ek, v9, hq, ew⟩
  · subst ek
    rw [ew] at hP
    refine lv_istore (lv' := [(5, .int 1), (4, .int (nI i)), (0, .ref b), (1, .ref h), (2, .ref hm), (3, .ref ao)]) hx hb d_L_law_764 hl (by decide) rfl (fun ls hl => ?_)
    refine lv_aload_n hx hb d_L_law_766 rfl (lv_at hl 4 rfl) ?_
    refine lv_aload_n hx hb d_L_law_767 rfl (lv_at hl 2 rfl) ?_
    refine lv_iload hx hb d_L_law_768 (lv_at hl 1 rfl) ?_
    refine lv_iconst (v := 1) hx hb d_L_law_770 (by decide) ?_
    refine lv_iadd hx hb d_L_law_771 ?_
    rw [show (nI i) + 1 = nI (i + 1) from (show nI i + nI 1 = _ from nI_add _ _)]
    refine va_sld hx hb hX hbl hbA hS (vp_in_nI (show i + 1 < L by omega) (by omega)) d_L_law_772 ?_
    rw [show (nI (i + 1)).toNatClampNeg = i + 1 from nI_clamp (by omega)]
    refine mc_l (va_runV (As := [.int (xs (i + 1))]) (rest := []) ⟨hx, hb, hml, hown, htg⟩ (t_M_writes l D cJ cI cP bs w hm n cd M T ra rs aW aU aP aZ (hv0).2.1 (xs (i + 1))) (cwV (own := R_L) (C := R_M) 1 htg (ginV k_507 k_508 k_509 k_26 k_510) rfl rfl rfl (by decide +kernel) ⟨Nat.le_of_ble_eq_true rfl, Nat.le_of_ble_eq_true rfl⟩) (mPc.preV (ci := ciM) (q := (R_M, T_M, 6)) hbs hS hP hK rfl (hv0).2.1.2.1) rfl rfl hl.1 rfl (lv_room (Nat.le_of_ble_eq_true rfl)) d_L_law_773 ⟨by show _ ≤ 601024; omega, by show _ ≤ 7293000; omega⟩) hS (fun b9 u7 H locs hM hP hz773 hS => ?_)
    obtain ⟨w7, ew7⟩ : ∃ z, z = u7 := ⟨_, rfl⟩
    subst ew7
    have hP : mw D vwCl bs w7 H := hP
    obtain ⟨hkm, hM⟩ := hM
    rcases hM with ⟨hz, hmo⟩ | ⟨j, hj, ej, eb, hmo⟩
    · have hv7 := hv_M (hv0) hkm hmo
      refine lv_lstore (lv' := [(6, .long b9), (5, .int 1), (4, .int (nI i)), (0, .ref b), (1, .ref h), (2, .ref hm), (3, .ref ao)]) hx hb d_L_law_776 hl (by decide) rfl (fun ls hl => ?_)
      refine lv_aload_n hx hb d_L_law_778 rfl (lv_at hl 5 rfl) ?_
      refine mc_i (va_runV (As := []) (rest := []) ⟨hx, hb, hml, hown, htg⟩ (t_M_thrown l D cJ cI cP bs w7 hm n 1 _ _ _ _ _ _ _ _ (hv7).2.1) (cwV (own := R_L) (C := R_M) 0 htg (ginV k_430 k_431 k_432 k_26 k_433) rfl rfl rfl (by decide +kernel) ⟨Nat.le_of_ble_eq_true rfl, Nat.le_of_ble_eq_true rfl⟩) (mPc.preV (ci := ciM) (q := (R_M, T_M, 6)) hbs hS hP hK rfl (hv7).2.1.2.1) rfl rfl hl.1 rfl (lv_room (Nat.le_of_ble_eq_true rfl)) d_L_law_779 ⟨by show _ ≤ 601024; omega, by show _ ≤ 7293000; omega⟩) hS (fun r779 u779 H locs hth hP hz779 hS => ?_)
      subst hth
      refine lv_iload hx hb d_L_law_782 (lv_at hl 1 rfl) ?_
      refine lv_icmp_eq (tgt := 789) hx hb d_L_law_784 (by decide) (fun _ => ?_) (fun z => absurd rfl z)
      refine lv_iload hx hb d_L_law_789 (lv_at hl 1 rfl) ?_
      refine lv_if_ne (tgt := 805) hx hb d_L_law_791 (by decide) (fun _ => ?_) (fun z => absurd z (by decide))
      refine lv_goto (tgt := 876) hx hb d_L_law_805 (by decide) ?_
      refine W.widen (k := ce + 1026) (n := sl + 6144) (by omega) (by omega) ?_
      exact kx w7 ls H locs (LI.of hv7 hro) hP hS (lv_sub hl [2, 3, 4, 5, 6] rfl)
    · exact absurd ⟨j, hj, ej⟩ hy
  · subst ek
    have hv1 : hv cJ cI cP u5 h hm ao n cd M T ra rs M T ra rs aT aA aS pt aW aU aP aZ (vp_updL O 0 v9) := by rw [ew]; exact hv_O hv0 _
    obtain ⟨j9, hj9, ej9, er9⟩ := hq
    refine lv_istore (lv' := [(5, .int 0), (4, .int (nI i)), (0, .ref b), (1, .ref h), (2, .ref hm), (3, .ref ao)]) hx hb d_L_law_764 hl (by decide) rfl (fun ls hl => ?_)
    refine lv_aload_n hx hb d_L_law_766 rfl (lv_at hl 4 rfl) ?_
    refine lv_aload_n hx hb d_L_law_767 rfl (lv_at hl 2 rfl) ?_
    refine lv_iload hx hb d_L_law_768 (lv_at hl 1 rfl) ?_
    refine lv_iconst (v := 1) hx hb d_L_law_770 (by decide) ?_
    refine lv_iadd hx hb d_L_law_771 ?_
    rw [show (nI i) + 1 = nI (i + 1) from (show nI i + nI 1 = _ from nI_add _ _)]
    refine va_sld hx hb hX hbl hbA hS (vp_in_nI (show i + 1 < L by omega) (by omega)) d_L_law_772 ?_
    rw [show (nI (i + 1)).toNatClampNeg = i + 1 from nI_clamp (by omega)]
    refine mc_l (va_runV (As := [.int (xs (i + 1))]) (rest := []) ⟨hx, hb, hml, hown, htg⟩ (t_M_writes l D cJ cI cP bs u5 hm n cd M T ra rs aW aU aP aZ (hv1).2.1 (xs (i + 1))) (cwV (own := R_L) (C := R_M) 1 htg (ginV k_507 k_508 k_509 k_26 k_510) rfl rfl rfl (by decide +kernel) ⟨Nat.le_of_ble_eq_true rfl, Nat.le_of_ble_eq_true rfl⟩) (mPc.preV (ci := ciM) (q := (R_M, T_M, 6)) hbs hS hP hK rfl (hv1).2.1.2.1) rfl rfl hl.1 rfl (lv_room (Nat.le_of_ble_eq_true rfl)) d_L_law_773 ⟨by show _ ≤ 601024; omega, by show _ ≤ 7293000; omega⟩) hS (fun b9 u7 H locs hM hP hz773 hS => ?_)
    obtain ⟨w7, ew7⟩ : ∃ z, z = u7 := ⟨_, rfl⟩
    subst ew7
    have hP : mw D vwCl bs w7 H := hP
    obtain ⟨hkm, hM⟩ := hM
    rcases hM with ⟨hz, hmo⟩ | ⟨j, hj, ej, eb, hmo⟩
    · exact absurd ⟨j9, hj9, ej9⟩ hz
    · have ejj : j9 = j := nI_inj (by omega) (by omega) (ej9.symm.trans ej)
      subst ejj
      have hout : v9 = b9 := er9.trans eb.symm
      have hv7 := hv_M (hv1) hkm hmo
      refine lv_lstore (lv' := [(6, .long b9), (5, .int 0), (4, .int (nI i)), (0, .ref b), (1, .ref h), (2, .ref hm), (3, .ref ao)]) hx hb d_L_law_776 hl (by decide) rfl (fun ls hl => ?_)
      refine lv_aload_n hx hb d_L_law_778 rfl (lv_at hl 5 rfl) ?_
      refine mc_i (va_runV (As := []) (rest := []) ⟨hx, hb, hml, hown, htg⟩ (t_M_thrown l D cJ cI cP bs w7 hm n 0 _ _ _ _ _ _ _ _ (hv7).2.1) (cwV (own := R_L) (C := R_M) 0 htg (ginV k_430 k_431 k_432 k_26 k_433) rfl rfl rfl (by decide +kernel) ⟨Nat.le_of_ble_eq_true rfl, Nat.le_of_ble_eq_true rfl⟩) (mPc.preV (ci := ciM) (q := (R_M, T_M, 6)) hbs hS hP hK rfl (hv7).2.1.2.1) rfl rfl hl.1 rfl (lv_room (Nat.le_of_ble_eq_true rfl)) d_L_law_779 ⟨by show _ ≤ 601024; omega, by show _ ≤ 7293000; omega⟩) hS (fun r779 u779 H locs hth hP hz779 hS => ?_)
      subst hth
      refine lv_iload hx hb d_L_law_782 (lv_at hl 1 rfl) ?_
      refine lv_icmp_eq (tgt := 789) hx hb d_L_law_784 (by decide) (fun _ => ?_) (fun z => absurd rfl z)
      refine lv_iload hx hb d_L_law_789 (lv_at hl 1 rfl) ?_
      refine lv_if_ne (tgt := 805) hx hb d_L_law_791 (by decide) (fun z => absurd z (by decide)) (fun _ => ?_)
      refine lv_aload_n hx hb d_L_law_794 rfl (lv_at hl 6 rfl) ?_
      refine lv_iconst (v := 0) hx hb d_L_law_795 (by decide) ?_
      refine mw_lald hx hb hK hP 0 (hv7).2.2.1 rfl in01 d_L_law_796 ?_
      rw [show (0 : Int32).toNatClampNeg = 0 from rfl]
      refine lv_lload hx hb d_L_law_797 (lv_at hl 0 rfl) ?_
      refine lc_eq (tgt := 805) hx hb d_L_law_799 d_L_law_800 (by decide) (fun _ => ?_) (fun z => absurd (by rw [← hout]; exact pk_uLs) z)
      refine lv_goto (tgt := 876) hx hb d_L_law_805 (by decide) ?_
      refine W.widen (k := ce + 1026) (n := sl + 6144) (by omega) (by omega) ?_
      exact kx w7 ls H locs (LI.of hv7 hro) hP hS (lv_sub hl [2, 3, 4, 5, 6] rfl)
set_option maxHeartbeats 4000000 in
set_option maxRecDepth 100000 in
/-- case 8: sum -/
theorem lw_8 {p : Program} {l : Launch} {e : Env} {s : State} {m : MethodId} {below : List Frame} {meth : Method} {c : Code} {Q : State → Prop} {b L : Nat} {xs : Nat → Int32} {D : va_G} {cJ cI cP : ClassId} {bs : Nat} (hl0 : l.stackTraces = false) (hx : p.tables.exec = Jvm.exec) (hb : c.code = c_L_law) (hml : c.maxLocals = 8) (hown : s.vm.findClass R_L = some m.cls) (htg : ∀ w ∈ gt, w.before #[Value.ref b] s = true) (hX : va_X b L xs s s.heap) (hbl : b < s.heap.size) (hbA : ¬ mA bs b) (hK : va_K D vwCl (mT cJ cI cP) s) (hbs : bs ≤ s.heap.size) (hE : evX bs s) (h hm ao i ce sl : Nat) (hi : i + 8 ≤ L) (hL : L ≤ 4097) (hce : ce + 1026 ≤ 601024) (hsl : sl + 6144 ≤ 7293000) (w : Nat → Option va_E) (hI : LI cJ cI cP h hm ao w)
    (kx : ∀ (w : Nat → Option va_E) (ls : Array Slot) (H : Heap) (locs : List Loc), LI cJ cI cP h hm ao w → mw D vwCl bs w H → va_S (mA bs) s.heap H locs → lv_has ls 8 [(4, .int (nI i)), (0, .ref b), (1, .ref h), (2, .ref hm), (3, .ref ao)] → W p l e room_1 s m #[Value.ref b] below meth c H locs (ce + 1026) (sl + 6144) Q (F0 m 876 ls []))
    (ls : Array Slot) (H : Heap) (locs : List Loc) (hP : mw D vwCl bs w H) (hS : va_S (mA bs) s.heap H locs) (hl : lv_has ls 8 [(4, .int (nI i)), (0, .ref b), (1, .ref h), (2, .ref hm), (3, .ref ao)]) : W p l e room_1 s m #[Value.ref b] below meth c H locs ce sl Q (F0 m 808 ls []) := by
  obtain ⟨n, cd, M, T, ra, rs, aT, aA, aS, pt, aW, aU, aP, aZ, O, hv0, hro⟩ := hI
  obtain ⟨hs, ho, hao, hdj⟩ := id hv0
  have hn := hs.1
  have hna : ¬ sfp w h ao := fun z => (hdj ao z).2.2.2.2.2 rfl
  refine lv_aload_n hx hb d_L_law_808 rfl (lv_at hl 2 rfl) ?_
  refine lv_aload_n hx hb d_L_law_809 rfl (lv_at hl 1 rfl) ?_
  refine lv_iload hx hb d_L_law_810 (lv_at hl 0 rfl) ?_
  refine lv_iconst (v := 1) hx hb d_L_law_812 (by decide) ?_
  refine lv_iadd hx hb d_L_law_813 ?_
  rw [show (nI i) + 1 = nI (i + 1) from (show nI i + nI 1 = _ from nI_add _ _)]
  refine va_sld hx hb hX hbl hbA hS (vp_in_nI (show i + 1 < L by omega) (by omega)) d_L_law_814 ?_
  rw [show (nI (i + 1)).toNatClampNeg = i + 1 from nI_clamp (by omega)]
  refine lv_aload_n hx hb d_L_law_815 rfl (lv_at hl 4 rfl) ?_
  refine mc_i (vx_runSW (As := [.ref h, .int (xs (i + 1)), .ref ao]) (rest := []) ⟨hx, hb, hml, hown, htg⟩ (t_L_sum l hl0 D cJ cI cP bs w h n M T ra rs aT aA aS pt hs ao O hao (xs (i + 1))) (vx_cwSW (own := R_L) 3 htg (ginT k_392 k_393 k_24 k_394) rfl rfl rfl (by decide +kernel) ⟨Nat.le_of_ble_eq_true rfl, Nat.le_of_ble_eq_true rfl⟩) (mPx.preS hbs hS hP hK hE) rfl rfl hl.1 rfl (lv_room (Nat.le_of_ble_eq_true rfl)) d_L_law_816 ⟨by show _ ≤ 601024; omega, by show _ ≤ 7293000; omega⟩) hS (fun rk u5 H locs hw hP hz5 hS => ?_)
  have hP : mw D vwCl bs u5 H := hP
  rcases hw with ⟨ek, hy, ew⟩ | ⟨ek, v9, hq, ew⟩
  · subst ek
    rw [ew] at hP
    refine lv_istore (lv' := [(5, .int 1), (4, .int (nI i)), (0, .ref b), (1, .ref h), (2, .ref hm), (3, .ref ao)]) hx hb d_L_law_819 hl (by decide) rfl (fun ls hl => ?_)
    refine lv_aload_n hx hb d_L_law_821 rfl (lv_at hl 4 rfl) ?_
    refine lv_aload_n hx hb d_L_law_822 rfl (lv_at hl 2 rfl) ?_
    refine lv_iload hx hb d_L_law_823 (lv_at hl 1 rfl) ?_
    refine lv_iconst (v := 1) hx hb d_L_law_825 (by decide) ?_
    refine lv_iadd hx hb d_L_law_826 ?_
    rw [show (nI i) + 1 = nI (i + 1) from (show nI i + nI 1 = _ from nI_add _ _)]
    refine va_sld hx hb hX hbl hbA hS (vp_in_nI (show i + 1 < L by omega) (by omega)) d_L_law_827 ?_
    rw [show (nI (i + 1)).toNatClampNeg = i + 1 from nI_clamp (by omega)]
    refine mc_l (va_runV (As := [.int (xs (i + 1))]) (rest := []) ⟨hx, hb, hml, hown, htg⟩ (t_M_sum l D cJ cI cP bs w hm n cd M T ra rs aW aU aP aZ (hv0).2.1 (xs (i + 1))) (cwV (own := R_L) (C := R_M) 1 htg (ginV k_515 k_516 k_517 k_26 k_518) rfl rfl rfl (by decide +kernel) ⟨Nat.le_of_ble_eq_true rfl, Nat.le_of_ble_eq_true rfl⟩) (mPc.preV (ci := ciM) (q := (R_M, T_M, 6)) hbs hS hP hK rfl (hv0).2.1.2.1) rfl rfl hl.1 rfl (lv_room (Nat.le_of_ble_eq_true rfl)) d_L_law_828 ⟨by show _ ≤ 601024; omega, by show _ ≤ 7293000; omega⟩) hS (fun b9 u7 H locs hM hP hz828 hS => ?_)
    obtain ⟨w7, ew7⟩ : ∃ z, z = u7 := ⟨_, rfl⟩
    subst ew7
    have hP : mw D vwCl bs w7 H := hP
    obtain ⟨hkm, hM⟩ := hM
    rcases hM with ⟨hz, hmo⟩ | ⟨j, hj, ej, eb, hmo⟩
    · have hv7 := hv_M (hv0) hkm hmo
      refine lv_lstore (lv' := [(6, .long b9), (5, .int 1), (4, .int (nI i)), (0, .ref b), (1, .ref h), (2, .ref hm), (3, .ref ao)]) hx hb d_L_law_831 hl (by decide) rfl (fun ls hl => ?_)
      refine lv_aload_n hx hb d_L_law_833 rfl (lv_at hl 5 rfl) ?_
      refine mc_i (va_runV (As := []) (rest := []) ⟨hx, hb, hml, hown, htg⟩ (t_M_thrown l D cJ cI cP bs w7 hm n 1 _ _ _ _ _ _ _ _ (hv7).2.1) (cwV (own := R_L) (C := R_M) 0 htg (ginV k_430 k_431 k_432 k_26 k_433) rfl rfl rfl (by decide +kernel) ⟨Nat.le_of_ble_eq_true rfl, Nat.le_of_ble_eq_true rfl⟩) (mPc.preV (ci := ciM) (q := (R_M, T_M, 6)) hbs hS hP hK rfl (hv7).2.1.2.1) rfl rfl hl.1 rfl (lv_room (Nat.le_of_ble_eq_true rfl)) d_L_law_834 ⟨by show _ ≤ 601024; omega, by show _ ≤ 7293000; omega⟩) hS (fun r834 u834 H locs hth hP hz834 hS => ?_)
      subst hth
      refine lv_iload hx hb d_L_law_837 (lv_at hl 1 rfl) ?_
      refine lv_icmp_eq (tgt := 844) hx hb d_L_law_839 (by decide) (fun _ => ?_) (fun z => absurd rfl z)
      refine lv_iload hx hb d_L_law_844 (lv_at hl 1 rfl) ?_
      refine lv_if_ne (tgt := 860) hx hb d_L_law_846 (by decide) (fun _ => ?_) (fun z => absurd z (by decide))
      refine lv_goto (tgt := 876) hx hb d_L_law_860 (by decide) ?_
      refine W.widen (k := ce + 1026) (n := sl + 6144) (by omega) (by omega) ?_
      exact kx w7 ls H locs (LI.of hv7 hro) hP hS (lv_sub hl [2, 3, 4, 5, 6] rfl)
    · exact absurd ⟨j, hj, ej⟩ hy
  · subst ek
    have hv1 : hv cJ cI cP u5 h hm ao n cd M T ra rs M T ra rs aT aA aS pt aW aU aP aZ (vp_updL O 0 v9) := by rw [ew]; exact hv_O hv0 _
    obtain ⟨j9, hj9, ej9, er9⟩ := hq
    refine lv_istore (lv' := [(5, .int 0), (4, .int (nI i)), (0, .ref b), (1, .ref h), (2, .ref hm), (3, .ref ao)]) hx hb d_L_law_819 hl (by decide) rfl (fun ls hl => ?_)
    refine lv_aload_n hx hb d_L_law_821 rfl (lv_at hl 4 rfl) ?_
    refine lv_aload_n hx hb d_L_law_822 rfl (lv_at hl 2 rfl) ?_
    refine lv_iload hx hb d_L_law_823 (lv_at hl 1 rfl) ?_
    refine lv_iconst (v := 1) hx hb d_L_law_825 (by decide) ?_
    refine lv_iadd hx hb d_L_law_826 ?_
    rw [show (nI i) + 1 = nI (i + 1) from (show nI i + nI 1 = _ from nI_add _ _)]
    refine va_sld hx hb hX hbl hbA hS (vp_in_nI (show i + 1 < L by omega) (by omega)) d_L_law_827 ?_
    rw [show (nI (i + 1)).toNatClampNeg = i + 1 from nI_clamp (by omega)]
    refine mc_l (va_runV (As := [.int (xs (i + 1))]) (rest := []) ⟨hx, hb, hml, hown, htg⟩ (t_M_sum l D cJ cI cP bs u5 hm n cd M T ra rs aW aU aP aZ (hv1).2.1 (xs (i + 1))) (cwV (own := R_L) (C := R_M) 1 htg (ginV k_515 k_516 k_517 k_26 k_518) rfl rfl rfl (by decide +kernel) ⟨Nat.le_of_ble_eq_true rfl, Nat.le_of_ble_eq_true rfl⟩) (mPc.preV (ci := ciM) (q := (R_M, T_M, 6)) hbs hS hP hK rfl (hv1).2.1.2.1) rfl rfl hl.1 rfl (lv_room (Nat.le_of_ble_eq_true rfl)) d_L_law_828 ⟨by show _ ≤ 601024; omega, by show _ ≤ 7293000; omega⟩) hS (fun b9 u7 H locs hM hP hz828 hS => ?_)
    obtain ⟨w7, ew7⟩ : ∃ z, z = u7 := ⟨_, rfl⟩
    subst ew7
    have hP : mw D vwCl bs w7 H := hP
    obtain ⟨hkm, hM⟩ := hM
    rcases hM with ⟨hz, hmo⟩ | ⟨j, hj, ej, eb, hmo⟩
    · exact absurd ⟨j9, hj9, ej9⟩ hz
    · have ejj : j9 = j := nI_inj (by omega) (by omega) (ej9.symm.trans ej)
      subst ejj
      have hout : v9 = b9 := er9.trans eb.symm
      have hv7 := hv_M (hv1) hkm hmo
      refine lv_lstore (lv' := [(6, .long b9), (5, .int 0), (4, .int (nI i)), (0, .ref b), (1, .ref h), (2, .ref hm), (3, .ref ao)]) hx hb d_L_law_831 hl (by decide) rfl (fun ls hl => ?_)
      refine lv_aload_n hx hb d_L_law_833 rfl (lv_at hl 5 rfl) ?_
      refine mc_i (va_runV (As := []) (rest := []) ⟨hx, hb, hml, hown, htg⟩ (t_M_thrown l D cJ cI cP bs w7 hm n 0 _ _ _ _ _ _ _ _ (hv7).2.1) (cwV (own := R_L) (C := R_M) 0 htg (ginV k_430 k_431 k_432 k_26 k_433) rfl rfl rfl (by decide +kernel) ⟨Nat.le_of_ble_eq_true rfl, Nat.le_of_ble_eq_true rfl⟩) (mPc.preV (ci := ciM) (q := (R_M, T_M, 6)) hbs hS hP hK rfl (hv7).2.1.2.1) rfl rfl hl.1 rfl (lv_room (Nat.le_of_ble_eq_true rfl)) d_L_law_834 ⟨by show _ ≤ 601024; omega, by show _ ≤ 7293000; omega⟩) hS (fun r834 u834 H locs hth hP hz834 hS => ?_)
      subst hth
      refine lv_iload hx hb d_L_law_837 (lv_at hl 1 rfl) ?_
      refine lv_icmp_eq (tgt := 844) hx hb d_L_law_839 (by decide) (fun _ => ?_) (fun z => absurd rfl z)
      refine lv_iload hx hb d_L_law_844 (lv_at hl 1 rfl) ?_
      refine lv_if_ne (tgt := 860) hx hb d_L_law_846 (by decide) (fun z => absurd z (by decide)) (fun _ => ?_)
      refine lv_aload_n hx hb d_L_law_849 rfl (lv_at hl 6 rfl) ?_
      refine lv_iconst (v := 0) hx hb d_L_law_850 (by decide) ?_
      refine mw_lald hx hb hK hP 0 (hv7).2.2.1 rfl in01 d_L_law_851 ?_
      rw [show (0 : Int32).toNatClampNeg = 0 from rfl]
      refine lv_lload hx hb d_L_law_852 (lv_at hl 0 rfl) ?_
      refine lc_eq (tgt := 860) hx hb d_L_law_854 d_L_law_855 (by decide) (fun _ => ?_) (fun z => absurd (by rw [← hout]; exact pk_uLs) z)
      refine lv_goto (tgt := 876) hx hb d_L_law_860 (by decide) ?_
      refine W.widen (k := ce + 1026) (n := sl + 6144) (by omega) (by omega) ?_
      exact kx w7 ls H locs (LI.of hv7 hro) hP hS (lv_sub hl [2, 3, 4, 5, 6] rfl)
