theorem bi_lN {m z : Nat} (hz : z < 64) : bi (lN m) z = m.testBit z := by
  show (BitVec.ofNat 64 m).getLsbD z = _
  rw [BitVec.getLsbD_ofNat, decide_eq_true hz, Bool.true_and]
theorem pat_t : ∀ c, c < 256 → ∀ z, z < 64 → (c * 72340172838076673).testBit z = c.testBit (z % 8) := by decide +kernel
theorem pat_b (v : Int32) {z : Nat} (hz : z < 64) : bi (pat v) z = bi v.toInt64 (z % 8) := by
  have hc : v.toBitVec.toNat % 2 ^ 8 < 256 := Nat.mod_lt _ (by decide)
  unfold pat
  rw [pk_and v 8 (by decide), nI_l (by omega)]
  show bi (lN (v.toBitVec.toNat % 2 ^ 8) * lN 72340172838076673) z = _
  rw [lN_mul, bi_lN hz, pat_t _ hc z hz, Nat.testBit_mod_two_pow, decide_eq_true (show z % 8 < 8 by omega), Bool.true_and, bi_i _ (by omega), BitVec.testBit_toNat]
theorem upd_tinc (T : Nat → Int64) (p : Nat) (y : Int64) : vp_updL (tinc T p (p + 1)) p y = vp_updL T p y := by
  funext j
  by_cases h : j = p
  · rw [h, pk_uLs, pk_uLs]
  · rw [pk_uLn h, pk_uLn h]
    unfold tinc
    rw [if_neg (by omega)]
theorem upd_self (T : Nat → Int64) (p : Nat) : vp_updL T p (T p) = T := by
  funext j
  by_cases h : j = p
  · rw [h, pk_uLs]
  · rw [pk_uLn h]
theorem tK_1 (T : Nat → Int64) (c : Nat) : tK T c 1 = tinc T (c / 4096) (c / 4096 + 1) := by
  unfold tK
  rw [if_neg (by omega), Nat.add_sub_cancel]
theorem pK_1 (pl : Nat → Int64) (a i : Nat) : pK (pK pl a i) (a + i) 1 = pK pl a (i + 1) := by
  rw [← pK_s pl a i]
  generalize pK pl a i = P
  unfold pK
  rw [if_neg (by omega), Nat.add_sub_cancel]
def flK (B : Nat → Bool) (a c : Nat) (v : Int32) : Nat → Bool := fun b => if 8 * a ≤ b ∧ b < 8 * c then bi v.toInt64 (b % 8) else B b
theorem flK_s (B : Nat → Bool) (a i : Nat) (v : Int32) : wrN (flK B a (a + i) v) (a + i) 1 v.toInt64 = flK B a (a + (i + 1)) v := by
  funext b
  unfold wrN flK
  by_cases h : 8 * (a + i) ≤ b ∧ b < 8 * (a + i + 1)
  · rw [if_pos h, if_pos (by omega)]
    congr 1
    omega
  · rw [if_neg h]
    by_cases h2 : 8 * a ≤ b ∧ b < 8 * (a + i)
    · rw [if_pos h2, if_pos (by omega)]
    · rw [if_neg h2, if_neg (by omega)]
theorem flK_0 (B : Nat → Bool) (a : Nat) (v : Int32) : flK B a (a + 0) v = B := by
  funext b
  unfold flK
  rw [if_neg (by omega)]
theorem flK_B {Mc M : Nat → Int64} {a b : Nat} {v : Int32} (hab : a < b) (h : mb Mc = flK (mb M) a b v) (k z : Nat) (hz : z < 64) : bi (Mc k) z = flB M a (b - 1) (pat v) k z := by
  have e1 : mb Mc (64 * k + z) = bi (Mc k) z := by unfold mb; rw [show (64 * k + z) / 64 = k by omega, show (64 * k + z) % 64 = z by omega]
  have e2 : mb M (64 * k + z) = bi (M k) z := by unfold mb; rw [show (64 * k + z) / 64 = k by omega, show (64 * k + z) % 64 = z by omega]
  rw [← e1, h]
  unfold flK flB
  by_cases c : 8 * a ≤ 64 * k + z ∧ 64 * k + z < 8 * b
  · rw [if_pos c, if_pos (by omega), pat_b v hz]
    congr 1
    omega
  · rw [if_neg c, if_neg (by omega), e2]
set_option maxHeartbeats 4000000 in
set_option maxRecDepth 100000 in
/-- fill: its loop -/
theorem lp_M_fill {p : Program} {l : Launch} {e : Env} {s : State} {m : MethodId} {args : Array Value} {below : List Frame} {meth : Method} {c : Code} {Q : State → Prop} {D : va_G} {cJ cI cP : ClassId} {bs : Nat} (hx : p.tables.exec = Jvm.exec) (hb : c.code = c_M_fill) (hml : c.maxLocals = 10) (hown : s.vm.findClass R_M = some m.cls) (htg : ∀ w ∈ gt, w.before args s = true) (hK : va_K D vwCl (mT cJ cI cP) s) (hbs : bs ≤ s.heap.size) (w : Nat → Option va_E) (hm n : Nat) (cd : Int32) (M T pl : Nat → Int64) (sz : Nat → Int32) (aW aU aP aZ : Nat) (hro : rok pl n) (a b : Nat) (v : Int32) (hab : a < b) (hbn : b ≤ 4096 * n) (hn9 : n ≤ 1024) (kx : ∀ (w1 : Nat → Option va_E) (Mc : Nat → Int64) (ls : Array Slot) (H : Heap) (locs : List Loc), mb Mc = flK (mb M) a b v → mo cJ cI w1 hm n cd Mc (tK T a (b - a)) (pK pl a (b - a)) sz aW aU aP aZ → kM w w1 hm aW aU aP aZ → mw D vwCl bs w1 H → va_S (mA bs) s.heap H locs → W p l e ({ frames := 2, cells := 0, slots := 0, locals := 54 } : Room) s m args below meth c H locs 0 0 Q (F0 m 141 ls [])) :
    ∀ (k : Nat) (i : Nat) (w1 : Nat → Option va_E) (Mc : Nat → Int64) (ls : Array Slot) (H : Heap) (locs : List Loc), b - (a + i) < k → a + i ≤ b → mb Mc = flK (mb M) a (a + i) v → mo cJ cI w1 hm n cd Mc (tK T a i) (pK pl a i) sz aW aU aP aZ → kM w w1 hm aW aU aP aZ → mw D vwCl bs w1 H → va_S (mA bs) s.heap H locs → lv_has ls 10 [(6, .long (lN (2147483648 + (a + i)))), (0, .ref hm), (1, .long (lN (2147483648 + a))), (3, .long (lN (2147483648 + b))), (5, .int v)] → W p l e ({ frames := 2, cells := 0, slots := 0, locals := 54 } : Room) s m args below meth c H locs 0 0 Q (F0 m 54 ls []) := by
  intro k
  induction k with
  | zero => intro i w1 Mc ls H locs hk0; exact absurd hk0 (by omega)
  | succ k ih =>
    intro i w1 Mc ls H locs hk hi hMc hs1 hkm0 hP hS hl
    obtain ⟨hn, s1, s2, s3, s4, s5⟩ := id hs1
    refine lv_lload hx hb d_M_fill_54 (lv_at hl 0 rfl) ?_
    refine lv_lload_n hx hb d_M_fill_56 rfl (lv_at hl 3 rfl) ?_
    refine lc_ge (tgt := 141) hx hb d_M_fill_57 d_M_fill_58 (by decide) (fun c57 => ?_) (fun c57 => ?_)
    · have e5 : a + i = b := Nat.le_antisymm hi ((pk_lLE (by omega) (by omega)).mp c57 |> fun z => by omega)
      have e6 : i = b - a := by omega
      subst e6
      rw [show a + (b - a) = b by omega] at hMc
      exact kx w1 Mc ls H locs hMc hs1 hkm0 hP hS
    · have hlt : a + i < b := by
        rcases Nat.lt_or_ge (a + i) b with z | z
        · exact z
        · exact absurd ((pk_lLE (by omega) (by omega)).mpr (by omega)) c57
      refine lv_aload_n hx hb d_M_fill_61 rfl (lv_at hl 1 rfl) ?_
      refine mw_get (C := R_M) (T := T_M) (N := 6) (ci := ciM) (v := .ref aU) hx hb htg i_M hown hK hP s1 rfl 3 (by decide) (htg _ k_414) (fun _ h9 => h9) rfl d_M_fill_62 ?_
      refine lv_lload hx hb d_M_fill_65 (lv_at hl 0 rfl) ?_
      refine lv_ldc2 (own := R_M) (v := 2147483648) hx hb hown (htg _ k_453) d_M_fill_67 ?_
      refine lv_lsub hx hb d_M_fill_70 ?_
      rw [show (lN (2147483648 + (a + i))) - 2147483648 = lN (a + i) from sub_st _]
      refine lv_ldc2 (own := R_M) (v := 4096) hx hb hown (htg _ k_454) d_M_fill_71 ?_
      refine lv_ldiv hx hb d_M_fill_74 (by decide) ?_
      rw [show (lN (a + i)) / 4096 = lN ((a + i) / 4096) from (show lN _ / lN 4096 = _ from pk_lDiv (by omega) (by omega) (by omega))]
      refine lv_l2i hx hb d_M_fill_75 rfl ?_
      rw [show (lN ((a + i) / 4096)).toInt32 = nI ((a + i) / 4096) from lN_i _]
      refine mw_lald hx hb hK hP 0 s3 rfl (vp_in_nI (show (a + i) / 4096 < 1024 by omega) (by omega)) d_M_fill_76 ?_
      rw [show (nI ((a + i) / 4096)).toNatClampNeg = (a + i) / 4096 from nI_clamp (by omega)]
      refine lv_topl (fun x_1 ex_1 => ?_)
      refine lv_lstore (lv' := [(8, .long x_1), (6, .long (lN (2147483648 + (a + i)))), (0, .ref hm), (1, .long (lN (2147483648 + a))), (3, .long (lN (2147483648 + b))), (5, .int v)]) hx hb d_M_fill_77 hl (by decide) rfl (fun ls hl => ?_)
      refine lv_aload_n hx hb d_M_fill_79 rfl (lv_at hl 2 rfl) ?_
      refine lv_lload hx hb d_M_fill_80 (lv_at hl 1 rfl) ?_
      refine lv_iconst (v := 1) hx hb d_M_fill_82 (by decide) ?_
      refine lv_iload hx hb d_M_fill_83 (lv_at hl 5 rfl) ?_
      refine lv_i2l hx hb d_M_fill_85 rfl ?_
      refine mc_v (va_runV (As := [.long (lN (2147483648 + (a + i))), .int 1, .long v.toInt64]) (rest := []) ⟨hx, hb, hml, hown, htg⟩ (t_M_keep l D cJ cI cP bs w1 hm n cd Mc (tK T a i) (pK pl a i) sz aW aU aP aZ hs1 (rok_pK hro a i) (a + i) 1 (by omega) (by omega) v.toInt64) (cwV (own := R_M) (C := R_M) 3 htg (ginV k_468 k_470 k_21 k_26 k_471) rfl rfl rfl (by decide +kernel) ⟨Nat.le_of_ble_eq_true rfl, Nat.le_of_ble_eq_true rfl⟩) (mPc.preV (ci := ciM) (q := (R_M, T_M, 6)) hbs hS hP hK rfl s1) rfl rfl hl.1 rfl (lv_room (Nat.le_of_ble_eq_true rfl)) d_M_fill_86 ⟨Nat.le_of_ble_eq_true rfl, Nat.le_of_ble_eq_true rfl⟩) hS (fun u86 H locs hw hP hz86 hS => ?_)
      obtain ⟨w2, M2⟩ := u86
      obtain ⟨b1, b2, b3⟩ := hw
      have b1 : mo cJ cI w2 hm n cd M2 (tK (tK T a i) (a + i) 1) (pK (pK pl a i) (a + i) 1) sz aW aU aP aZ := b1
      have b2 : mb M2 = wrN (mb Mc) (a + i) 1 v.toInt64 := b2
      have b3 : kM w1 w2 hm aW aU aP aZ := b3
      have hP : mw D vwCl bs w2 H := hP
      rw [hMc, flK_s] at b2
      rw [pK_1, tK_1] at b1
      obtain ⟨hn', s1', s2', s3', s4', s5'⟩ := id b1
      refine lv_aload_n hx hb d_M_fill_89 rfl (lv_at hl 2 rfl) ?_
      refine mw_get (C := R_M) (T := T_M) (N := 6) (ci := ciM) (v := .ref aU) hx hb htg i_M hown hK hP s1' rfl 3 (by decide) (htg _ k_414) (fun _ h9 => h9) rfl d_M_fill_90 ?_
      refine lv_lload hx hb d_M_fill_93 (lv_at hl 1 rfl) ?_
      refine lv_ldc2 (own := R_M) (v := 2147483648) hx hb hown (htg _ k_453) d_M_fill_95 ?_
      refine lv_lsub hx hb d_M_fill_98 ?_
      rw [show (lN (2147483648 + (a + i))) - 2147483648 = lN (a + i) from sub_st _]
      refine lv_ldc2 (own := R_M) (v := 4096) hx hb hown (htg _ k_454) d_M_fill_99 ?_
      refine lv_ldiv hx hb d_M_fill_102 (by decide) ?_
      rw [show (lN (a + i)) / 4096 = lN ((a + i) / 4096) from (show lN _ / lN 4096 = _ from pk_lDiv (by omega) (by omega) (by omega))]
      refine lv_l2i hx hb d_M_fill_103 rfl ?_
      rw [show (lN ((a + i) / 4096)).toInt32 = nI ((a + i) / 4096) from lN_i _]
      refine lv_lload hx hb d_M_fill_104 (lv_at hl 1 rfl) ?_
      refine lv_lload_n hx hb d_M_fill_106 rfl (lv_at hl 3 rfl) ?_
      refine lc_eq (tgt := 122) hx hb d_M_fill_107 d_M_fill_108 (by decide) (fun c107 => ?_) (fun c107 => ?_)
      · have hcase : i = 0 ∨ (a + i) % 4096 = 0 := by
          first
            | exact Or.inl (by have e7 := (pk_lEQ (by omega) (by omega)).mp c107; omega)
            | exact Or.inr (by have e7 := (pk_lEQ (b := 0) (by omega) (by omega)).mp c118; omega)
        refine lv_lload hx hb d_M_fill_122 (lv_at hl 0 rfl) ?_
        refine lv_lconst (v := 1) hx hb d_M_fill_124 rfl ?_
        refine lv_ladd hx hb d_M_fill_125 ?_
        refine lv_goto (tgt := 131) hx hb d_M_fill_126 (by decide) ?_
        refine lv_topl (fun x_2 ex_2 => ?_)
        refine mw_last hx hb hK hP hS 0 s3' rfl (vp_in_nI (show (a + i) / 4096 < 1024 by omega) (by omega)) d_M_fill_131 (fun H locs hP hS hz131 => ?_)
        rw [show (nI ((a + i) / 4096)).toNatClampNeg = (a + i) / 4096 from nI_clamp (by omega)] at hP
        obtain ⟨w_3, ew_3⟩ : ∃ z9, z9 = va_up w2 aU (some (.inl (cJ, 1024, .inr (.inl (vp_updL (tinc (tK T a i) ((a + i) / 4096) ((a + i) / 4096 + 1)) ((a + i) / 4096) x_2)))) : Option va_E) := ⟨_, rfl⟩
        rw [← ew_3] at hP
        have h_4 : w_3 aU = some (.inl (cJ, 1024, .inr (.inl (vp_updL (tinc (tK T a i) ((a + i) / 4096) ((a + i) / 4096 + 1)) ((a + i) / 4096) x_2)))) := by rw [ew_3, va_up_self]
        have h_5 : w_3 hm = some (.inr (ciM, [.int cd, .int (nI n), .ref aW, .ref aU, .ref aP, .ref aZ])) := by rw [ew_3, va_up_ne _ _ (fun z => by rw [z, s3'] at s1'; cases s1')]; exact s1'
        have h_6 : w_3 aW = some (.inl (cJ, 524288, .inr (.inl M2))) := by rw [ew_3, va_up_ne _ _ (fun z => by rw [z, s3'] at s2'; simp at s2')]; exact s2'
        have h_7 : w_3 aP = some (.inl (cJ, 4, .inr (.inl (pK pl a (i + 1))))) := by rw [ew_3, va_up_ne _ _ (fun z => by rw [z, s3'] at s4'; simp at s4')]; exact s4'
        have h_8 : w_3 aZ = some (.inl (cI, 4, .inl sz)) := by rw [ew_3, va_up_ne _ _ (fun z => by rw [z, s3'] at s5'; simp at s5')]; exact s5'
        refine lv_lload hx hb d_M_fill_132 (lv_at hl 1 rfl) ?_
        refine lv_lconst (v := 1) hx hb d_M_fill_134 rfl ?_
        refine lv_ladd hx hb d_M_fill_135 ?_
        rw [show (lN (2147483648 + (a + i))) + 1 = lN (2147483648 + (a + (i + 1))) from lN_1 _]
        refine lv_lstore (lv' := [(6, .long (lN (2147483648 + (a + (i + 1))))), (8, .long x_1), (0, .ref hm), (1, .long (lN (2147483648 + a))), (3, .long (lN (2147483648 + b))), (5, .int v)]) hx hb d_M_fill_136 hl (by decide) rfl (fun ls hl => ?_)
        refine lv_goto (tgt := 54) hx hb d_M_fill_138 (by decide) ?_
        have eT : vp_updL (tinc (tK T a i) ((a + i) / 4096) ((a + i) / 4096 + 1)) ((a + i) / 4096) x_2 = tK T a (i + 1) := by rw [upd_tinc, ex_2, ex_1]; exact tK_inc T a i hcase
        have hmo : mo cJ cI w_3 hm n cd M2 (tK T a (i + 1)) (pK pl a (i + 1)) sz aW aU aP aZ := ⟨hn, h_5, h_6, by rw [h_4, eT], h_7, h_8⟩
        have hkm : kM w2 w_3 hm aW aU aP aZ := fun q z1 z2 z3 z4 z5 => by rw [ew_3, va_up_ne _ _ z3]
        exact ih (i + 1) w_3 M2 ls H locs (by omega) (by omega) b2 hmo ((hkm0.trans b3).trans hkm) hP hS (lv_sub hl [0, 2, 3, 4, 5] rfl)
      · refine lv_lload hx hb d_M_fill_111 (lv_at hl 1 rfl) ?_
        refine lv_ldc2 (own := R_M) (v := 4096) hx hb hown (htg _ k_454) d_M_fill_113 ?_
        refine lv_lrem hx hb d_M_fill_116 (by decide) ?_
        rw [show (lN (2147483648 + (a + i))) - (lN (2147483648 + (a + i))) / 4096 * 4096 = lN ((2147483648 + (a + i)) % 4096) from (show lN _ - lN _ / lN 4096 * lN 4096 = _ from pk_lRem (by omega) (by omega) (by omega))]
        refine lv_lconst (v := 0) hx hb d_M_fill_117 rfl ?_
        refine lc_ne (tgt := 129) hx hb d_M_fill_118 d_M_fill_119 (by decide) (fun c118 => ?_) (fun c118 => ?_)
        · have hi0 : ¬ i = 0 := fun z => c107 (by rw [z]; rfl)
          have hm9 : ¬ (a + i) % 4096 = 0 := fun z => c118 (by rw [show (2147483648 + (a + i)) % 4096 = 0 by omega]; rfl)
          refine lv_lload hx hb d_M_fill_129 (lv_at hl 0 rfl) ?_
          refine mw_last hx hb hK hP hS 0 s3' rfl (vp_in_nI (show (a + i) / 4096 < 1024 by omega) (by omega)) d_M_fill_131 (fun H locs hP hS hz131 => ?_)
          rw [show (nI ((a + i) / 4096)).toNatClampNeg = (a + i) / 4096 from nI_clamp (by omega)] at hP
          obtain ⟨w_9, ew_9⟩ : ∃ z9, z9 = va_up w2 aU (some (.inl (cJ, 1024, .inr (.inl (vp_updL (tinc (tK T a i) ((a + i) / 4096) ((a + i) / 4096 + 1)) ((a + i) / 4096) x_1)))) : Option va_E) := ⟨_, rfl⟩
          rw [← ew_9] at hP
          have h_10 : w_9 aU = some (.inl (cJ, 1024, .inr (.inl (vp_updL (tinc (tK T a i) ((a + i) / 4096) ((a + i) / 4096 + 1)) ((a + i) / 4096) x_1)))) := by rw [ew_9, va_up_self]
          have h_11 : w_9 hm = some (.inr (ciM, [.int cd, .int (nI n), .ref aW, .ref aU, .ref aP, .ref aZ])) := by rw [ew_9, va_up_ne _ _ (fun z => by rw [z, s3'] at s1'; cases s1')]; exact s1'
          have h_12 : w_9 aW = some (.inl (cJ, 524288, .inr (.inl M2))) := by rw [ew_9, va_up_ne _ _ (fun z => by rw [z, s3'] at s2'; simp at s2')]; exact s2'
          have h_13 : w_9 aP = some (.inl (cJ, 4, .inr (.inl (pK pl a (i + 1))))) := by rw [ew_9, va_up_ne _ _ (fun z => by rw [z, s3'] at s4'; simp at s4')]; exact s4'
          have h_14 : w_9 aZ = some (.inl (cI, 4, .inl sz)) := by rw [ew_9, va_up_ne _ _ (fun z => by rw [z, s3'] at s5'; simp at s5')]; exact s5'
          refine lv_lload hx hb d_M_fill_132 (lv_at hl 1 rfl) ?_
          refine lv_lconst (v := 1) hx hb d_M_fill_134 rfl ?_
          refine lv_ladd hx hb d_M_fill_135 ?_
          rw [show (lN (2147483648 + (a + i))) + 1 = lN (2147483648 + (a + (i + 1))) from lN_1 _]
          refine lv_lstore (lv' := [(6, .long (lN (2147483648 + (a + (i + 1))))), (8, .long x_1), (0, .ref hm), (1, .long (lN (2147483648 + a))), (3, .long (lN (2147483648 + b))), (5, .int v)]) hx hb d_M_fill_136 hl (by decide) rfl (fun ls hl => ?_)
          refine lv_goto (tgt := 54) hx hb d_M_fill_138 (by decide) ?_
          have eT : vp_updL (tinc (tK T a i) ((a + i) / 4096) ((a + i) / 4096 + 1)) ((a + i) / 4096) x_1 = tK T a (i + 1) := by rw [upd_tinc, ex_1, upd_self]; exact tK_same T a i hi0 hm9
          have hmo : mo cJ cI w_9 hm n cd M2 (tK T a (i + 1)) (pK pl a (i + 1)) sz aW aU aP aZ := ⟨hn, h_11, h_12, by rw [h_10, eT], h_13, h_14⟩
          have hkm : kM w2 w_9 hm aW aU aP aZ := fun q z1 z2 z3 z4 z5 => by rw [ew_9, va_up_ne _ _ z3]
          exact ih (i + 1) w_9 M2 ls H locs (by omega) (by omega) b2 hmo ((hkm0.trans b3).trans hkm) hP hS (lv_sub hl [0, 2, 3, 4, 5] rfl)
        · have hcase : i = 0 ∨ (a + i) % 4096 = 0 := by
            first
              | exact Or.inl (by have e7 := (pk_lEQ (by omega) (by omega)).mp c107; omega)
              | exact Or.inr (by have e7 := (pk_lEQ (b := 0) (by omega) (by omega)).mp c118; omega)
          refine lv_lload hx hb d_M_fill_122 (lv_at hl 0 rfl) ?_
          refine lv_lconst (v := 1) hx hb d_M_fill_124 rfl ?_
          refine lv_ladd hx hb d_M_fill_125 ?_
          refine lv_goto (tgt := 131) hx hb d_M_fill_126 (by decide) ?_
          refine lv_topl (fun x_15 ex_15 => ?_)
          refine mw_last hx hb hK hP hS 0 s3' rfl (vp_in_nI (show (a + i) / 4096 < 1024 by omega) (by omega)) d_M_fill_131 (fun H locs hP hS hz131 => ?_)
          rw [show (nI ((a + i) / 4096)).toNatClampNeg = (a + i) / 4096 from nI_clamp (by omega)] at hP
          obtain ⟨w_16, ew_16⟩ : ∃ z9, z9 = va_up w2 aU (some (.inl (cJ, 1024, .inr (.inl (vp_updL (tinc (tK T a i) ((a + i) / 4096) ((a + i) / 4096 + 1)) ((a + i) / 4096) x_15)))) : Option va_E) := ⟨_, rfl⟩
          rw [← ew_16] at hP
          have h_17 : w_16 aU = some (.inl (cJ, 1024, .inr (.inl (vp_updL (tinc (tK T a i) ((a + i) / 4096) ((a + i) / 4096 + 1)) ((a + i) / 4096) x_15)))) := by rw [ew_16, va_up_self]
          have h_18 : w_16 hm = some (.inr (ciM, [.int cd, .int (nI n), .ref aW, .ref aU, .ref aP, .ref aZ])) := by rw [ew_16, va_up_ne _ _ (fun z => by rw [z, s3'] at s1'; cases s1')]; exact s1'
          have h_19 : w_16 aW = some (.inl (cJ, 524288, .inr (.inl M2))) := by rw [ew_16, va_up_ne _ _ (fun z => by rw [z, s3'] at s2'; simp at s2')]; exact s2'
          have h_20 : w_16 aP = some (.inl (cJ, 4, .inr (.inl (pK pl a (i + 1))))) := by rw [ew_16, va_up_ne _ _ (fun z => by rw [z, s3'] at s4'; simp at s4')]; exact s4'
          have h_21 : w_16 aZ = some (.inl (cI, 4, .inl sz)) := by rw [ew_16, va_up_ne _ _ (fun z => by rw [z, s3'] at s5'; simp at s5')]; exact s5'
          refine lv_lload hx hb d_M_fill_132 (lv_at hl 1 rfl) ?_
          refine lv_lconst (v := 1) hx hb d_M_fill_134 rfl ?_
          refine lv_ladd hx hb d_M_fill_135 ?_
          rw [show (lN (2147483648 + (a + i))) + 1 = lN (2147483648 + (a + (i + 1))) from lN_1 _]
          refine lv_lstore (lv' := [(6, .long (lN (2147483648 + (a + (i + 1))))), (8, .long x_1), (0, .ref hm), (1, .long (lN (2147483648 + a))), (3, .long (lN (2147483648 + b))), (5, .int v)]) hx hb d_M_fill_136 hl (by decide) rfl (fun ls hl => ?_)
          refine lv_goto (tgt := 54) hx hb d_M_fill_138 (by decide) ?_
          have eT : vp_updL (tinc (tK T a i) ((a + i) / 4096) ((a + i) / 4096 + 1)) ((a + i) / 4096) x_15 = tK T a (i + 1) := by rw [upd_tinc, ex_15, ex_1]; exact tK_inc T a i hcase
          have hmo : mo cJ cI w_16 hm n cd M2 (tK T a (i + 1)) (pK pl a (i + 1)) sz aW aU aP aZ := ⟨hn, h_18, h_19, by rw [h_17, eT], h_20, h_21⟩
          have hkm : kM w2 w_16 hm aW aU aP aZ := fun q z1 z2 z3 z4 z5 => by rw [ew_16, va_up_ne _ _ z3]
          exact ih (i + 1) w_16 M2 ls H locs (by omega) (by omega) b2 hmo ((hkm0.trans b3).trans hkm) hP hS (lv_sub hl [0, 2, 3, 4, 5] rfl)
theorem inF_B {x y : Int64} {n : Nat} (hn : n ≤ 1024) (h0 : ¬ y ≤ x) (h1 : ∃ a, inM x n 1 a) (h2 : ∃ a, inM (y - 1) n 1 a) : ∃ a b, inF x y n a b := by
  obtain ⟨a, rfl, ha⟩ := h1
  obtain ⟨b, hb, hb2⟩ := h2
  have ey : y = lN (2147483648 + (b + 1)) := by
    have : y = (y - 1) + 1 := (Int64.sub_add_cancel y 1).symm
    rw [this, hb, lN_1]
    rfl
  subst ey
  refine ⟨a, b + 1, rfl, rfl, ?_, by omega⟩
  rcases Nat.lt_or_ge a (b + 1) with z | z
  · exact z
  · exact absurd ((pk_lLE (by omega) (by omega)).mpr (by omega)) h0
theorem inF_B1 {x y : Int64} {n a b : Nat} (h : inF x y n a b) : inM x n 1 a ∧ inM (y - 1) n 1 (b - 1) := by
  obtain ⟨rfl, rfl, h1, h2⟩ := h
  refine ⟨⟨rfl, by omega⟩, ?_, by omega⟩
  show lN _ - lN 1 = _
  rw [lN_sub (by omega), show 2147483648 + b - 1 = 2147483648 + (b - 1) by omega]
set_option maxHeartbeats 4000000 in
set_option maxRecDepth 100000 in
/-- fill -/
theorem t_M_fill (l : Launch) (D : va_G) (cJ cI cP : ClassId) (bs : Nat) (w : Nat → Option va_E) (hm n : Nat) (cd : Int32) (M T pl : Nat → Int64) (sz : Nat → Int32) (aW aU aP aZ : Nat) (hs : mo cJ cI w hm n cd M T pl sz aW aU aP aZ) (hro : rok pl n) (x y : Int64) (v : Int32) : Met l y_M_fill ws_M_fill ({ frames := 2, cells := 0, slots := 0, locals := 54 }) (mPc D vwCl (mT cJ cI cP) bs w [.ref hm, .long x, .long y, .int v]) (va_Qv (S := ((Nat → Option va_E) × (Nat → Int64))) (fun u => (¬ x ≤ y ∧ mo cJ cI u.1 hm n 1 M T pl sz aW aU aP aZ ∧ kM w u.1 hm aW aU aP aZ) ∨ (x ≤ y ∧ ¬ y = x ∧ (¬ ∃ a b, inF x y n a b) ∧ mo cJ cI u.1 hm n 2 M T pl sz aW aU aP aZ ∧ kM w u.1 hm aW aU aP aZ) ∨ (y = x ∧ mo cJ cI u.1 hm n 0 M T pl sz aW aU aP aZ ∧ kM w u.1 hm aW aU aP aZ) ∨ (x ≤ y ∧ ¬ y = x ∧ ∃ a b, inF x y n a b ∧ mo cJ cI u.1 hm n 0 u.2 (tinc T (a / 4096) ((b - 1) / 4096 + 1)) (lost pl (a / 8) ((b - 1) / 8)) sz aW aU aP aZ ∧ (∀ k z, z < 64 → bi (u.2 k) z = flB M a (b - 1) (pat v) k z) ∧ kM w u.1 hm aW aU aP aZ)) (mB D vwCl bs (fun u => u.1)) (mA bs)) 0 0 (mA bs) := by
  refine Met.ofW (cc := c_M_fill) (maxL := 10) (ret := none) (by decide) rfl ?_
  intro p e s m args below meth c s₁ B hml hv
  obtain ⟨rfl, hbs, hP, hK⟩ := hv
  have hx := B.exec
  have hb := B.bytes
  have hr := B.returns
  have htg : ∀ w ∈ gt, w.before _ s = true := fun w h => atoms_spec (ws := ws_M_fill) B.pre w (List.mem_cons_of_mem _ h)
  have hown : s.vm.findClass R_M = some m.cls := findClass_of_methodNamed B.named
  have hlocks := B.notSynchronized
  have hS : va_S (mA bs) s.heap s.heap [] := va_S.rf
  have hl := lv_entry ([.ref hm, .long x, .long y, .int v]) (n := 10) (Nat.le_of_ble_eq_true rfl)
  rw [lg_entry_eq]
  generalize (lg_sl ([.ref hm, .long x, .long y, .int v]) ++ List.replicate (10 - (lg_sl ([.ref hm, .long x, .long y, .int v])).length) Slot.unset).toArray = ls at hl ⊢
  have hl : lv_has ls 10 [(0, .ref hm), (1, .long x), (3, .long y), (5, .int v)] := hl
  obtain ⟨hn, s1, s2, s3, s4, s5⟩ := id hs
  refine lv_aload_n hx hb d_M_fill_0 rfl (lv_at hl 0 rfl) ?_
  refine lv_lload_n hx hb d_M_fill_1 rfl (lv_at hl 2 rfl) ?_
  refine lv_lload_n hx hb d_M_fill_2 rfl (lv_at hl 1 rfl) ?_
  refine lc_ge (tgt := 11) hx hb d_M_fill_3 d_M_fill_4 (by decide) (fun c3 => ?_) (fun c3 => ?_)
  · refine lv_lload_n hx hb d_M_fill_11 rfl (lv_at hl 2 rfl) ?_
    refine lv_lload_n hx hb d_M_fill_12 rfl (lv_at hl 1 rfl) ?_
    refine lc_le (tgt := 39) hx hb d_M_fill_13 d_M_fill_14 (by decide) (fun c13 => ?_) (fun c13 => ?_)
    · refine lv_iconst (v := 0) hx hb d_M_fill_39 (by decide) ?_
      refine mw_put (C := R_M) (T := T_M) (N := 6) (ci := ciM) (v := .int 0) (ty := .int) (fs' := [.int 0, .int (nI n), .ref aW, .ref aU, .ref aP, .ref aZ]) hx hb htg i_M ty_M tk_M nm_M hown hK hP hS s1 rfl 0 (by decide) (htg _ k_411) (fun _ h9 => h9) rfl (by decide +kernel) rfl rfl (Nat.le_of_ble_eq_true rfl) rfl d_M_fill_40 (fun H locs hP hS hz40 => ?_)
      obtain ⟨w_1, ew_1⟩ : ∃ z9, z9 = va_up w hm (some (.inr (ciM, [.int 0, .int (nI n), .ref aW, .ref aU, .ref aP, .ref aZ])) : Option va_E) := ⟨_, rfl⟩
      rw [← ew_1] at hP
      have h_2 : w_1 hm = some (.inr (ciM, [.int 0, .int (nI n), .ref aW, .ref aU, .ref aP, .ref aZ])) := by rw [ew_1, va_up_self]
      have h_3 : w_1 aW = some (.inl (cJ, 524288, .inr (.inl M))) := by rw [ew_1, va_up_ne _ _ (fun z => by rw [z, s1] at s2; cases s2)]; exact s2
      have h_4 : w_1 aU = some (.inl (cJ, 1024, .inr (.inl T))) := by rw [ew_1, va_up_ne _ _ (fun z => by rw [z, s1] at s3; cases s3)]; exact s3
      have h_5 : w_1 aP = some (.inl (cJ, 4, .inr (.inl pl))) := by rw [ew_1, va_up_ne _ _ (fun z => by rw [z, s1] at s4; cases s4)]; exact s4
      have h_6 : w_1 aZ = some (.inl (cI, 4, .inl sz)) := by rw [ew_1, va_up_ne _ _ (fun z => by rw [z, s1] at s5; cases s5)]; exact s5
      refine lv_aload_n hx hb d_M_fill_43 rfl (lv_at hl 0 rfl) ?_
      refine mw_get (C := R_M) (T := T_M) (N := 6) (ci := ciM) (v := .int 0) hx hb htg i_M hown hK hP h_2 rfl 0 (by decide) (htg _ k_411) (fun _ h9 => h9) rfl d_M_fill_44 ?_
      refine lv_if_le (tgt := 51) hx hb d_M_fill_47 (by decide) (fun _ => ?_) (fun z => absurd z (by decide))
      refine lv_lload_n hx hb d_M_fill_51 rfl (lv_at hl 1 rfl) ?_
      refine lv_lstore (lv' := [(6, .long x), (0, .ref hm), (1, .long x), (3, .long y), (5, .int v)]) hx hb d_M_fill_52 hl (by decide) rfl (fun ls hl => ?_)
      have hmo : mo cJ cI w_1 hm n 0 M T pl sz aW aU aP aZ := ⟨hn, h_2, h_3, h_4, h_5, h_6⟩
      have hkm : kM w w_1 hm aW aU aP aZ := fun q z1 z2 z3 z4 z5 => by rw [ew_1, va_up_ne _ _ z1]
      have exy : y = x := Int64.le_antisymm c13 c3
      refine lv_lload hx hb d_M_fill_54 (lv_at hl 0 rfl) ?_
      refine lv_lload_n hx hb d_M_fill_56 rfl (lv_at hl 3 rfl) ?_
      refine lc_ge (tgt := 141) hx hb d_M_fill_57 d_M_fill_58 (by decide) (fun c57 => ?_) (fun c57 => absurd c13 c57)
      exact W.vret hx hb hr (fun t ht hW => ⟨⟨(w_1, M), rfl, Or.inr (Or.inr (Or.inl ⟨exy, hmo, hkm⟩)), hP.at ht⟩, hS.F ht⟩) hS.2.2 d_M_fill_141
    · refine lv_aload_n hx hb d_M_fill_17 rfl (lv_at hl 0 rfl) ?_
      refine lv_lload_n hx hb d_M_fill_18 rfl (lv_at hl 1 rfl) ?_
      refine mc_i (va_runV (As := [.long x]) (rest := [.ref hm]) ⟨hx, hb, hml, hown, htg⟩ (t_M_isByte l D cJ cI cP bs w hm n cd M T pl sz aW aU aP aZ hs x) (cwV (own := R_M) (C := R_M) 1 htg (ginV k_449 k_451 k_18 k_26 k_452) rfl rfl rfl (by decide +kernel) ⟨Nat.le_of_ble_eq_true rfl, Nat.le_of_ble_eq_true rfl⟩) (mPc.preV (ci := ciM) (q := (R_M, T_M, 6)) hbs hS hP hK rfl s1) rfl rfl hl.1 rfl (lv_room (Nat.le_of_ble_eq_true rfl)) d_M_fill_19 ⟨Nat.le_of_ble_eq_true rfl, Nat.le_of_ble_eq_true rfl⟩) hS (fun r19 u19 H locs hb19 hP hz19 hS => ?_)
      refine lv_if_eq (tgt := 35) hx hb d_M_fill_22 (by decide) (fun c22 => ?_) (fun c22 => ?_)
      · have hno : ¬ ∃ a b, inF x y n a b := by
          rintro ⟨a, b, q⟩
          have q2 := inF_B1 q
          first
            | (rcases hb29 with z | z
               · rw [z.1] at c32; exact absurd c32 (by decide)
               · exact z.2 ⟨_, q2.2⟩)
            | (rcases hb19 with z | z
               · rw [z.1] at c22; exact absurd c22 (by decide)
               · exact z.2 ⟨_, q2.1⟩)
        refine lv_iconst (v := 2) hx hb d_M_fill_35 (by decide) ?_
        refine lv_goto (tgt := 40) hx hb d_M_fill_36 (by decide) ?_
        refine mw_put (C := R_M) (T := T_M) (N := 6) (ci := ciM) (v := .int 2) (ty := .int) (fs' := [.int 2, .int (nI n), .ref aW, .ref aU, .ref aP, .ref aZ]) hx hb htg i_M ty_M tk_M nm_M hown hK hP hS s1 rfl 0 (by decide) (htg _ k_411) (fun _ h9 => h9) rfl (by decide +kernel) rfl rfl (Nat.le_of_ble_eq_true rfl) rfl d_M_fill_40 (fun H locs hP hS hz40 => ?_)
        obtain ⟨w_7, ew_7⟩ : ∃ z9, z9 = va_up w hm (some (.inr (ciM, [.int 2, .int (nI n), .ref aW, .ref aU, .ref aP, .ref aZ])) : Option va_E) := ⟨_, rfl⟩
        rw [← ew_7] at hP
        have h_8 : w_7 hm = some (.inr (ciM, [.int 2, .int (nI n), .ref aW, .ref aU, .ref aP, .ref aZ])) := by rw [ew_7, va_up_self]
        have h_9 : w_7 aW = some (.inl (cJ, 524288, .inr (.inl M))) := by rw [ew_7, va_up_ne _ _ (fun z => by rw [z, s1] at s2; cases s2)]; exact s2
        have h_10 : w_7 aU = some (.inl (cJ, 1024, .inr (.inl T))) := by rw [ew_7, va_up_ne _ _ (fun z => by rw [z, s1] at s3; cases s3)]; exact s3
        have h_11 : w_7 aP = some (.inl (cJ, 4, .inr (.inl pl))) := by rw [ew_7, va_up_ne _ _ (fun z => by rw [z, s1] at s4; cases s4)]; exact s4
        have h_12 : w_7 aZ = some (.inl (cI, 4, .inl sz)) := by rw [ew_7, va_up_ne _ _ (fun z => by rw [z, s1] at s5; cases s5)]; exact s5
        refine lv_aload_n hx hb d_M_fill_43 rfl (lv_at hl 0 rfl) ?_
        refine mw_get (C := R_M) (T := T_M) (N := 6) (ci := ciM) (v := .int 2) hx hb htg i_M hown hK hP h_8 rfl 0 (by decide) (htg _ k_411) (fun _ h9 => h9) rfl d_M_fill_44 ?_
        refine lv_if_le (tgt := 51) hx hb d_M_fill_47 (by decide) (fun z => absurd z (by decide)) (fun _ => ?_)
        have hmo : mo cJ cI w_7 hm n 2 M T pl sz aW aU aP aZ := ⟨hn, h_8, h_9, h_10, h_11, h_12⟩
        have hkm : kM w w_7 hm aW aU aP aZ := fun q z1 z2 z3 z4 z5 => by rw [ew_7, va_up_ne _ _ z1]
        exact W.vret hx hb hr (fun t ht hW => ⟨⟨(w_7, M), rfl, Or.inr (Or.inl ⟨c3, fun z => c13 (by rw [z]; exact Int64.le_refl _), hno, hmo, hkm⟩), hP.at ht⟩, hS.F ht⟩) hS.2.2 d_M_fill_50
      · refine lv_aload_n hx hb d_M_fill_25 rfl (lv_at hl 0 rfl) ?_
        refine lv_lload_n hx hb d_M_fill_26 rfl (lv_at hl 2 rfl) ?_
        refine lv_lconst (v := 1) hx hb d_M_fill_27 rfl ?_
        refine lv_lsub hx hb d_M_fill_28 ?_
        refine mc_i (va_runV (As := [.long (y - 1)]) (rest := [.ref hm]) ⟨hx, hb, hml, hown, htg⟩ (t_M_isByte l D cJ cI cP bs w hm n cd M T pl sz aW aU aP aZ hs (y - 1)) (cwV (own := R_M) (C := R_M) 1 htg (ginV k_449 k_451 k_18 k_26 k_452) rfl rfl rfl (by decide +kernel) ⟨Nat.le_of_ble_eq_true rfl, Nat.le_of_ble_eq_true rfl⟩) (mPc.preV (ci := ciM) (q := (R_M, T_M, 6)) hbs hS hP hK rfl s1) rfl rfl hl.1 rfl (lv_room (Nat.le_of_ble_eq_true rfl)) d_M_fill_29 ⟨Nat.le_of_ble_eq_true rfl, Nat.le_of_ble_eq_true rfl⟩) hS (fun r29 u29 H locs hb29 hP hz29 hS => ?_)
        refine lv_if_ne (tgt := 39) hx hb d_M_fill_32 (by decide) (fun c32 => ?_) (fun c32 => ?_)
        · refine lv_iconst (v := 0) hx hb d_M_fill_39 (by decide) ?_
          refine mw_put (C := R_M) (T := T_M) (N := 6) (ci := ciM) (v := .int 0) (ty := .int) (fs' := [.int 0, .int (nI n), .ref aW, .ref aU, .ref aP, .ref aZ]) hx hb htg i_M ty_M tk_M nm_M hown hK hP hS s1 rfl 0 (by decide) (htg _ k_411) (fun _ h9 => h9) rfl (by decide +kernel) rfl rfl (Nat.le_of_ble_eq_true rfl) rfl d_M_fill_40 (fun H locs hP hS hz40 => ?_)
          obtain ⟨w_13, ew_13⟩ : ∃ z9, z9 = va_up w hm (some (.inr (ciM, [.int 0, .int (nI n), .ref aW, .ref aU, .ref aP, .ref aZ])) : Option va_E) := ⟨_, rfl⟩
          rw [← ew_13] at hP
          have h_14 : w_13 hm = some (.inr (ciM, [.int 0, .int (nI n), .ref aW, .ref aU, .ref aP, .ref aZ])) := by rw [ew_13, va_up_self]
          have h_15 : w_13 aW = some (.inl (cJ, 524288, .inr (.inl M))) := by rw [ew_13, va_up_ne _ _ (fun z => by rw [z, s1] at s2; cases s2)]; exact s2
          have h_16 : w_13 aU = some (.inl (cJ, 1024, .inr (.inl T))) := by rw [ew_13, va_up_ne _ _ (fun z => by rw [z, s1] at s3; cases s3)]; exact s3
          have h_17 : w_13 aP = some (.inl (cJ, 4, .inr (.inl pl))) := by rw [ew_13, va_up_ne _ _ (fun z => by rw [z, s1] at s4; cases s4)]; exact s4
          have h_18 : w_13 aZ = some (.inl (cI, 4, .inl sz)) := by rw [ew_13, va_up_ne _ _ (fun z => by rw [z, s1] at s5; cases s5)]; exact s5
          refine lv_aload_n hx hb d_M_fill_43 rfl (lv_at hl 0 rfl) ?_
          refine mw_get (C := R_M) (T := T_M) (N := 6) (ci := ciM) (v := .int 0) hx hb htg i_M hown hK hP h_14 rfl 0 (by decide) (htg _ k_411) (fun _ h9 => h9) rfl d_M_fill_44 ?_
          refine lv_if_le (tgt := 51) hx hb d_M_fill_47 (by decide) (fun _ => ?_) (fun z => absurd z (by decide))
          refine lv_lload_n hx hb d_M_fill_51 rfl (lv_at hl 1 rfl) ?_
          refine lv_lstore (lv' := [(6, .long x), (0, .ref hm), (1, .long x), (3, .long y), (5, .int v)]) hx hb d_M_fill_52 hl (by decide) rfl (fun ls hl => ?_)
          have hmo : mo cJ cI w_13 hm n 0 M T pl sz aW aU aP aZ := ⟨hn, h_14, h_15, h_16, h_17, h_18⟩
          have hkm : kM w w_13 hm aW aU aP aZ := fun q z1 z2 z3 z4 z5 => by rw [ew_13, va_up_ne _ _ z1]
          obtain ⟨a, b, hab⟩ : ∃ a b, inF x y n a b := by
            refine inF_B hn.2 c13 ?_ ?_
            · rcases hb19 with z | z
              · exact z.2
              · exact absurd z.1 c22
            · rcases hb29 with z | z
              · exact z.2
              · exact absurd z.1 c32
          obtain ⟨rfl, rfl, hlt, hbn⟩ := id hab
          have hl : lv_has ls 10 [(6, .long (lN (2147483648 + a))), (0, .ref hm), (1, .long (lN (2147483648 + a))), (3, .long (lN (2147483648 + b))), (5, .int v)] := hl
          refine lp_M_fill (D := D) (cJ := cJ) (cI := cI) (cP := cP) (bs := bs) hx hb hml hown htg hK hbs w_13 hm n 0 M T pl sz aW aU aP aZ hro a b v hlt hbn hn.2 (fun w1 Mc ls H locs q1 q2 q3 hP hS => ?_) (b + 1) 0 w_13 M ls _ _ (by omega) (by omega) (flK_0 _ _ _).symm hmo kM.rf hP hS (lv_sub hl [0, 1, 2, 3, 4] rfl)
          have eT : tK T a (b - a) = tinc T (a / 4096) ((b - 1) / 4096 + 1) := by unfold tK; rw [if_neg (by omega), show a + (b - a) - 1 = b - 1 by omega]
          have eP : pK pl a (b - a) = lost pl (a / 8) ((b - 1) / 8) := by unfold pK; rw [if_neg (by omega), show a + (b - a) - 1 = b - 1 by omega]
          rw [eT, eP] at q2
          exact W.vret hx hb hr (fun t ht hW => ⟨⟨(w1, Mc), rfl, Or.inr (Or.inr (Or.inr ⟨c3, fun z => c13 (by rw [z]; exact Int64.le_refl _), a, b, hab, q2, fun k z hz => flK_B hlt q1 k z hz, hkm.trans q3⟩)), hP.at ht⟩, hS.F ht⟩) hS.2.2 d_M_fill_141
        · have hno : ¬ ∃ a b, inF x y n a b := by
            rintro ⟨a, b, q⟩
            have q2 := inF_B1 q
            first
              | (rcases hb29 with z | z
                 · rw [z.1] at c32; exact absurd c32 (by decide)
                 · exact z.2 ⟨_, q2.2⟩)
              | (rcases hb19 with z | z
                 · rw [z.1] at c22; exact absurd c22 (by decide)
                 · exact z.2 ⟨_, q2.1⟩)
          refine lv_iconst (v := 2) hx hb d_M_fill_35 (by decide) ?_
          refine lv_goto (tgt := 40) hx hb d_M_fill_36 (by decide) ?_
          refine mw_put (C := R_M) (T := T_M) (N := 6) (ci := ciM) (v := .int 2) (ty := .int) (fs' := [.int 2, .int (nI n), .ref aW, .ref aU, .ref aP, .ref aZ]) hx hb htg i_M ty_M tk_M nm_M hown hK hP hS s1 rfl 0 (by decide) (htg _ k_411) (fun _ h9 => h9) rfl (by decide +kernel) rfl rfl (Nat.le_of_ble_eq_true rfl) rfl d_M_fill_40 (fun H locs hP hS hz40 => ?_)
          obtain ⟨w_19, ew_19⟩ : ∃ z9, z9 = va_up w hm (some (.inr (ciM, [.int 2, .int (nI n), .ref aW, .ref aU, .ref aP, .ref aZ])) : Option va_E) := ⟨_, rfl⟩
          rw [← ew_19] at hP
          have h_20 : w_19 hm = some (.inr (ciM, [.int 2, .int (nI n), .ref aW, .ref aU, .ref aP, .ref aZ])) := by rw [ew_19, va_up_self]
          have h_21 : w_19 aW = some (.inl (cJ, 524288, .inr (.inl M))) := by rw [ew_19, va_up_ne _ _ (fun z => by rw [z, s1] at s2; cases s2)]; exact s2
          have h_22 : w_19 aU = some (.inl (cJ, 1024, .inr (.inl T))) := by rw [ew_19, va_up_ne _ _ (fun z => by rw [z, s1] at s3; cases s3)]; exact s3
          have h_23 : w_19 aP = some (.inl (cJ, 4, .inr (.inl pl))) := by rw [ew_19, va_up_ne _ _ (fun z => by rw [z, s1] at s4; cases s4)]; exact s4
          have h_24 : w_19 aZ = some (.inl (cI, 4, .inl sz)) := by rw [ew_19, va_up_ne _ _ (fun z => by rw [z, s1] at s5; cases s5)]; exact s5
          refine lv_aload_n hx hb d_M_fill_43 rfl (lv_at hl 0 rfl) ?_
          refine mw_get (C := R_M) (T := T_M) (N := 6) (ci := ciM) (v := .int 2) hx hb htg i_M hown hK hP h_20 rfl 0 (by decide) (htg _ k_411) (fun _ h9 => h9) rfl d_M_fill_44 ?_
          refine lv_if_le (tgt := 51) hx hb d_M_fill_47 (by decide) (fun z => absurd z (by decide)) (fun _ => ?_)
          have hmo : mo cJ cI w_19 hm n 2 M T pl sz aW aU aP aZ := ⟨hn, h_20, h_21, h_22, h_23, h_24⟩
          have hkm : kM w w_19 hm aW aU aP aZ := fun q z1 z2 z3 z4 z5 => by rw [ew_19, va_up_ne _ _ z1]
          exact W.vret hx hb hr (fun t ht hW => ⟨⟨(w_19, M), rfl, Or.inr (Or.inl ⟨c3, fun z => c13 (by rw [z]; exact Int64.le_refl _), hno, hmo, hkm⟩), hP.at ht⟩, hS.F ht⟩) hS.2.2 d_M_fill_50
  · refine lv_iconst (v := 1) hx hb d_M_fill_7 (by decide) ?_
    refine lv_goto (tgt := 40) hx hb d_M_fill_8 (by decide) ?_
    refine mw_put (C := R_M) (T := T_M) (N := 6) (ci := ciM) (v := .int 1) (ty := .int) (fs' := [.int 1, .int (nI n), .ref aW, .ref aU, .ref aP, .ref aZ]) hx hb htg i_M ty_M tk_M nm_M hown hK hP hS s1 rfl 0 (by decide) (htg _ k_411) (fun _ h9 => h9) rfl (by decide +kernel) rfl rfl (Nat.le_of_ble_eq_true rfl) rfl d_M_fill_40 (fun H locs hP hS hz40 => ?_)
    obtain ⟨w_25, ew_25⟩ : ∃ z9, z9 = va_up w hm (some (.inr (ciM, [.int 1, .int (nI n), .ref aW, .ref aU, .ref aP, .ref aZ])) : Option va_E) := ⟨_, rfl⟩
    rw [← ew_25] at hP
    have h_26 : w_25 hm = some (.inr (ciM, [.int 1, .int (nI n), .ref aW, .ref aU, .ref aP, .ref aZ])) := by rw [ew_25, va_up_self]
    have h_27 : w_25 aW = some (.inl (cJ, 524288, .inr (.inl M))) := by rw [ew_25, va_up_ne _ _ (fun z => by rw [z, s1] at s2; cases s2)]; exact s2
    have h_28 : w_25 aU = some (.inl (cJ, 1024, .inr (.inl T))) := by rw [ew_25, va_up_ne _ _ (fun z => by rw [z, s1] at s3; cases s3)]; exact s3
    have h_29 : w_25 aP = some (.inl (cJ, 4, .inr (.inl pl))) := by rw [ew_25, va_up_ne _ _ (fun z => by rw [z, s1] at s4; cases s4)]; exact s4
    have h_30 : w_25 aZ = some (.inl (cI, 4, .inl sz)) := by rw [ew_25, va_up_ne _ _ (fun z => by rw [z, s1] at s5; cases s5)]; exact s5
    refine lv_aload_n hx hb d_M_fill_43 rfl (lv_at hl 0 rfl) ?_
    refine mw_get (C := R_M) (T := T_M) (N := 6) (ci := ciM) (v := .int 1) hx hb htg i_M hown hK hP h_26 rfl 0 (by decide) (htg _ k_411) (fun _ h9 => h9) rfl d_M_fill_44 ?_
    refine lv_if_le (tgt := 51) hx hb d_M_fill_47 (by decide) (fun z => absurd z (by decide)) (fun _ => ?_)
    have hmo : mo cJ cI w_25 hm n 1 M T pl sz aW aU aP aZ := ⟨hn, h_26, h_27, h_28, h_29, h_30⟩
    have hkm : kM w w_25 hm aW aU aP aZ := fun q z1 z2 z3 z4 z5 => by rw [ew_25, va_up_ne _ _ z1]
    exact W.vret hx hb hr (fun t ht hW => ⟨⟨(w_25, M), rfl, Or.inl ⟨c3, hmo, hkm⟩, hP.at ht⟩, hS.F ht⟩) hS.2.2 d_M_fill_50
