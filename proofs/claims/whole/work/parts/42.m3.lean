theorem rok_pos {pl : Nat → Int64} {n j : Nat} (hn : n ≤ 1024) (h : rok pl n) (hj : j < 4) (hp : pl j ≤ 0) : pl j = 0 := by
  rcases h j hj with z | ⟨c, z, hc⟩
  · exact z
  · exfalso
    rw [z] at hp
    have := (pk_lLE (a := 2147483648 + c) (b := 0) (by omega) (by omega)).mp hp
    omega
theorem sub_st (c : Nat) : lN (2147483648 + c) - 2147483648 = lN c := by
  show lN (2147483648 + c) - lN 2147483648 = _
  rw [lN_sub (Nat.le_add_right _ _), Nat.add_sub_cancel_left]
theorem rok_at {pl : Nat → Int64} {n j : Nat} (h : rok pl n) (hj : j < 4) (hp : ¬ pl j ≤ 0) : ∃ c, pl j = lN (2147483648 + c) ∧ c < 4096 * n := by
  rcases h j hj with z | z
  · rw [z] at hp; exact absurd (Int64.le_refl 0) hp
  · exact z
set_option maxHeartbeats 4000000 in
set_option maxRecDepth 100000 in
/-- keep: the reservations -/
theorem lp_M_keep1 {p : Program} {l : Launch} {e : Env} {s : State} {m : MethodId} {args : Array Value} {below : List Frame} {meth : Method} {c : Code} {Q : State → Prop} {D : va_G} {cJ cI cP : ClassId} {bs : Nat} (hx : p.tables.exec = Jvm.exec) (hb : c.code = c_M_keep) (hml : c.maxLocals = 10) (hown : s.vm.findClass R_M = some m.cls) (htg : ∀ w ∈ gt, w.before args s = true) (hK : va_K D vwCl (mT cJ cI cP) s) (hbs : bs ≤ s.heap.size) (w : Nat → Option va_E) (hm n : Nat) (cd : Int32) (M T pl : Nat → Int64) (sz : Nat → Int32) (aW aU aP aZ : Nat) (hro : rok pl n) (a i k9 : Nat) (v : Int64) (hai : a + i < 4096 * n) (kx : ∀ (w1 : Nat → Option va_E) (ls : Array Slot) (H : Heap) (locs : List Loc), mo cJ cI w1 hm n cd M T (lost pl ((a + i) / 8) ((a + i) / 8)) sz aW aU aP aZ → kM w w1 hm aW aU aP aZ → mw D vwCl bs w1 H → va_S (mA bs) s.heap H locs → lv_has ls 10 [(6, .int (nI i)), (7, .long (lN (2147483648 + (a + i)))), (0, .ref hm), (1, .long (lN (2147483648 + a))), (3, .int (nI k9)), (4, .long v)] → W p l e ({ frames := 1, cells := 0, slots := 0, locals := 25 } : Room) s m args below meth c H locs 0 0 Q (F0 m 97 ls [])) :
    ∀ (k : Nat) (j : Nat) (w1 : Nat → Option va_E) (pc9 : Nat → Int64) (ls : Array Slot) (H : Heap) (locs : List Loc), 4 - j < k → j ≤ 4 → (∀ q, q < j → pc9 q = lost pl ((a + i) / 8) ((a + i) / 8) q) → (∀ q, ¬ q < j → pc9 q = pl q) → mo cJ cI w1 hm n cd M T pc9 sz aW aU aP aZ → kM w w1 hm aW aU aP aZ → mw D vwCl bs w1 H → va_S (mA bs) s.heap H locs → lv_has ls 10 [(9, .int (nI j)), (6, .int (nI i)), (7, .long (lN (2147483648 + (a + i)))), (0, .ref hm), (1, .long (lN (2147483648 + a))), (3, .int (nI k9)), (4, .long v)] → W p l e ({ frames := 1, cells := 0, slots := 0, locals := 25 } : Room) s m args below meth c H locs 0 0 Q (F0 m 34 ls []) := by
  intro k
  induction k with
  | zero => intro j w1 pc9 ls H locs hk0; exact absurd hk0 (by omega)
  | succ k ih =>
    intro j w1 pc9 ls H locs hk hj hlo hhi hs1 hkm0 hP hS hl
    obtain ⟨hn, s1, s2, s3, s4, s5⟩ := id hs1
    refine lv_iload hx hb d_M_keep_34 (lv_at hl 0 rfl) ?_
    refine lv_iconst (v := 4) hx hb d_M_keep_36 (by decide) ?_
    refine lv_icmp_ge (tgt := 97) hx hb d_M_keep_37 (by decide) (fun c37 => ?_) (fun c37 => ?_)
    · have e5 : j = 4 := Nat.le_antisymm hj (Nat.le_of_not_lt (fun z => nI_ge z (by omega) (show nI 4 ≤ nI j from c37)))
      subst e5
      have erc : pc9 = lost pl ((a + i) / 8) ((a + i) / 8) := by
        funext q
        by_cases hq : q < 4
        · exact hlo q hq
        · rw [hhi q hq]; unfold lost; rw [if_neg (fun z => hq z.1)]
      subst erc
      exact kx w1 ls H locs hs1 hkm0 hP hS (lv_sub hl [1, 2, 3, 4, 5, 6] rfl)
    · have hlt : j < 4 := Nat.lt_of_not_le (fun z => c37 (show nI 4 ≤ nI j from nI_le z (by omega)))
      have epj : pc9 j = pl j := hhi j (by omega)
      refine lv_aload_n hx hb d_M_keep_40 rfl (lv_at hl 3 rfl) ?_
      refine mw_get (C := R_M) (T := T_M) (N := 6) (ci := ciM) (v := .ref aP) hx hb htg i_M hown hK hP s1 rfl 4 (by decide) (htg _ k_415) (fun _ h9 => h9) rfl d_M_keep_41 ?_
      refine lv_iload hx hb d_M_keep_44 (lv_at hl 0 rfl) ?_
      refine lv_aload_n hx hb d_M_keep_46 rfl (lv_at hl 3 rfl) ?_
      refine mw_get (C := R_M) (T := T_M) (N := 6) (ci := ciM) (v := .ref aP) hx hb htg i_M hown hK hP s1 rfl 4 (by decide) (htg _ k_415) (fun _ h9 => h9) rfl d_M_keep_47 ?_
      refine lv_iload hx hb d_M_keep_50 (lv_at hl 0 rfl) ?_
      refine mw_lald hx hb hK hP 0 s4 rfl (vp_in_nI hlt (by omega)) d_M_keep_52 ?_
      rw [show (nI j).toNatClampNeg = j from nI_clamp (by omega)]
      refine lv_lconst (v := 0) hx hb d_M_keep_53 rfl ?_
      refine lc_le (tgt := 83) hx hb d_M_keep_54 d_M_keep_55 (by decide) (fun c54 => ?_) (fun c54 => ?_)
      · refine lv_aload_n hx hb d_M_keep_83 rfl (lv_at hl 3 rfl) ?_
        refine mw_get (C := R_M) (T := T_M) (N := 6) (ci := ciM) (v := .ref aP) hx hb htg i_M hown hK hP s1 rfl 4 (by decide) (htg _ k_415) (fun _ h9 => h9) rfl d_M_keep_84 ?_
        refine lv_iload hx hb d_M_keep_87 (lv_at hl 0 rfl) ?_
        refine mw_lald hx hb hK hP 0 s4 rfl (vp_in_nI hlt (by omega)) d_M_keep_89 ?_
        rw [show (nI j).toNatClampNeg = j from nI_clamp (by omega)]
        refine lv_topl (fun x_1 ex_1 => ?_)
        refine mw_last hx hb hK hP hS 0 s4 rfl (vp_in_nI hlt (by omega)) d_M_keep_90 (fun H locs hP hS hz90 => ?_)
        rw [show (nI j).toNatClampNeg = j from nI_clamp (by omega)] at hP
        obtain ⟨w_2, ew_2⟩ : ∃ z9, z9 = va_up w1 aP (some (.inl (cJ, 4, .inr (.inl (vp_updL pc9 j x_1)))) : Option va_E) := ⟨_, rfl⟩
        rw [← ew_2] at hP
        have h_3 : w_2 aP = some (.inl (cJ, 4, .inr (.inl (vp_updL pc9 j x_1)))) := by rw [ew_2, va_up_self]
        have h_4 : w_2 hm = some (.inr (ciM, [.int cd, .int (nI n), .ref aW, .ref aU, .ref aP, .ref aZ])) := by rw [ew_2, va_up_ne _ _ (fun z => by rw [z, s4] at s1; cases s1)]; exact s1
        have h_5 : w_2 aW = some (.inl (cJ, 524288, .inr (.inl M))) := by rw [ew_2, va_up_ne _ _ (fun z => by rw [z, s4] at s2; simp at s2)]; exact s2
        have h_6 : w_2 aU = some (.inl (cJ, 1024, .inr (.inl T))) := by rw [ew_2, va_up_ne _ _ (fun z => by rw [z, s4] at s3; simp at s3)]; exact s3
        have h_7 : w_2 aZ = some (.inl (cI, 4, .inl sz)) := by rw [ew_2, va_up_ne _ _ (fun z => by rw [z, s4] at s5; simp at s5)]; exact s5
        obtain ⟨i_8, ei_8⟩ : ∃ y : Int32, y = (nI j) + 1 := ⟨_, rfl⟩
        refine lv_iinc (v := i_8) (lv' := [(9, .int i_8), (6, .int (nI i)), (7, .long (lN (2147483648 + (a + i)))), (0, .ref hm), (1, .long (lN (2147483648 + a))), (3, .int (nI k9)), (4, .long v)]) hx hb d_M_keep_91 hl (k := 0) rfl (by rw [ei_8]; rfl) (by decide) rfl (fun ls hl => ?_)
        refine lv_goto (tgt := 34) hx hb d_M_keep_94 (by decide) ?_
        have hmo : mo cJ cI w_2 hm n cd M T (vp_updL pc9 j x_1) sz aW aU aP aZ := ⟨hn, h_4, h_5, h_6, h_3, h_7⟩
        have hkm : kM w1 w_2 hm aW aU aP aZ := fun q z1 z2 z3 z4 z5 => by rw [ew_2, va_up_ne _ _ z4]
        refine ih (j + 1) w_2 (vp_updL pc9 j x_1) ls H locs (by omega) (by omega) (fun q hq => ?_) (fun q hq => ?_) hmo (hkm0.trans hkm) hP hS (by rw [← nI_1 j, ← ei_8]; exact lv_sub hl [0, 1, 2, 3, 4, 5, 6] rfl)
        · by_cases hqj : q = j
          · subst hqj; rw [pk_uLs, ex_1, epj]; unfold lost; rw [if_neg (fun z => ?_)]
            have z2 := z.2
            rw [← epj] at z2
            first
              | (rw [hc9, lostB_at (by omega), Bool.and_eq_true, decide_eq_true_iff, decide_eq_true_iff] at z2; exact c75 (by rw [show (2147483648 + c9) / 8 = (2147483648 + (a + i)) / 8 by omega]))
              | (rw [epj, rok_pos hn.2 hro hlt (by rw [← epj]; exact c54), lostB_0] at z2; cases z2)
          · rw [pk_uLn hqj]; exact hlo q (by omega)
        · rw [pk_uLn (by omega)]; exact hhi q (by omega)
      · obtain ⟨c9, hc9, hcn⟩ := rok_at hro hlt (by rw [← epj]; exact c54)
        rw [← epj] at hc9
        refine lv_aload_n hx hb d_M_keep_58 rfl (lv_at hl 3 rfl) ?_
        refine mw_get (C := R_M) (T := T_M) (N := 6) (ci := ciM) (v := .ref aP) hx hb htg i_M hown hK hP s1 rfl 4 (by decide) (htg _ k_415) (fun _ h9 => h9) rfl d_M_keep_59 ?_
        refine lv_iload hx hb d_M_keep_62 (lv_at hl 0 rfl) ?_
        refine mw_lald hx hb hK hP 0 s4 rfl (vp_in_nI hlt (by omega)) d_M_keep_64 ?_
        rw [show (nI j).toNatClampNeg = j from nI_clamp (by omega)]
        rw [show pc9 j = lN (2147483648 + c9) from hc9]
        refine lv_ldc2 (own := R_M) (v := 8) hx hb hown (htg _ k_478) d_M_keep_65 ?_
        refine lv_ldiv hx hb d_M_keep_68 (by decide) ?_
        rw [show (lN (2147483648 + c9)) / 8 = lN ((2147483648 + c9) / 8) from (show lN _ / lN 8 = _ from pk_lDiv (by omega) (by omega) (by omega))]
        refine lv_lload hx hb d_M_keep_69 (lv_at hl 2 rfl) ?_
        refine lv_ldc2 (own := R_M) (v := 8) hx hb hown (htg _ k_478) d_M_keep_71 ?_
        refine lv_ldiv hx hb d_M_keep_74 (by decide) ?_
        rw [show (lN (2147483648 + (a + i))) / 8 = lN ((2147483648 + (a + i)) / 8) from (show lN _ / lN 8 = _ from pk_lDiv (by omega) (by omega) (by omega))]
        refine lc_ne (tgt := 83) hx hb d_M_keep_75 d_M_keep_76 (by decide) (fun c75 => ?_) (fun c75 => ?_)
        · refine lv_aload_n hx hb d_M_keep_83 rfl (lv_at hl 3 rfl) ?_
          refine mw_get (C := R_M) (T := T_M) (N := 6) (ci := ciM) (v := .ref aP) hx hb htg i_M hown hK hP s1 rfl 4 (by decide) (htg _ k_415) (fun _ h9 => h9) rfl d_M_keep_84 ?_
          refine lv_iload hx hb d_M_keep_87 (lv_at hl 0 rfl) ?_
          refine mw_lald hx hb hK hP 0 s4 rfl (vp_in_nI hlt (by omega)) d_M_keep_89 ?_
          rw [show (nI j).toNatClampNeg = j from nI_clamp (by omega)]
          refine lv_topl (fun x_9 ex_9 => ?_)
          refine mw_last hx hb hK hP hS 0 s4 rfl (vp_in_nI hlt (by omega)) d_M_keep_90 (fun H locs hP hS hz90 => ?_)
          rw [show (nI j).toNatClampNeg = j from nI_clamp (by omega)] at hP
          obtain ⟨w_10, ew_10⟩ : ∃ z9, z9 = va_up w1 aP (some (.inl (cJ, 4, .inr (.inl (vp_updL pc9 j x_9)))) : Option va_E) := ⟨_, rfl⟩
          rw [← ew_10] at hP
          have h_11 : w_10 aP = some (.inl (cJ, 4, .inr (.inl (vp_updL pc9 j x_9)))) := by rw [ew_10, va_up_self]
          have h_12 : w_10 hm = some (.inr (ciM, [.int cd, .int (nI n), .ref aW, .ref aU, .ref aP, .ref aZ])) := by rw [ew_10, va_up_ne _ _ (fun z => by rw [z, s4] at s1; cases s1)]; exact s1
          have h_13 : w_10 aW = some (.inl (cJ, 524288, .inr (.inl M))) := by rw [ew_10, va_up_ne _ _ (fun z => by rw [z, s4] at s2; simp at s2)]; exact s2
          have h_14 : w_10 aU = some (.inl (cJ, 1024, .inr (.inl T))) := by rw [ew_10, va_up_ne _ _ (fun z => by rw [z, s4] at s3; simp at s3)]; exact s3
          have h_15 : w_10 aZ = some (.inl (cI, 4, .inl sz)) := by rw [ew_10, va_up_ne _ _ (fun z => by rw [z, s4] at s5; simp at s5)]; exact s5
          obtain ⟨i_16, ei_16⟩ : ∃ y : Int32, y = (nI j) + 1 := ⟨_, rfl⟩
          refine lv_iinc (v := i_16) (lv' := [(9, .int i_16), (6, .int (nI i)), (7, .long (lN (2147483648 + (a + i)))), (0, .ref hm), (1, .long (lN (2147483648 + a))), (3, .int (nI k9)), (4, .long v)]) hx hb d_M_keep_91 hl (k := 0) rfl (by rw [ei_16]; rfl) (by decide) rfl (fun ls hl => ?_)
          refine lv_goto (tgt := 34) hx hb d_M_keep_94 (by decide) ?_
          have hmo : mo cJ cI w_10 hm n cd M T (vp_updL pc9 j x_9) sz aW aU aP aZ := ⟨hn, h_12, h_13, h_14, h_11, h_15⟩
          have hkm : kM w1 w_10 hm aW aU aP aZ := fun q z1 z2 z3 z4 z5 => by rw [ew_10, va_up_ne _ _ z4]
          refine ih (j + 1) w_10 (vp_updL pc9 j x_9) ls H locs (by omega) (by omega) (fun q hq => ?_) (fun q hq => ?_) hmo (hkm0.trans hkm) hP hS (by rw [← nI_1 j, ← ei_16]; exact lv_sub hl [0, 1, 2, 3, 4, 5, 6] rfl)
          · by_cases hqj : q = j
            · subst hqj; rw [pk_uLs, ex_9, epj]; unfold lost; rw [if_neg (fun z => ?_)]
              have z2 := z.2
              rw [← epj] at z2
              first
                | (rw [hc9, lostB_at (by omega), Bool.and_eq_true, decide_eq_true_iff, decide_eq_true_iff] at z2; exact c75 (by rw [show (2147483648 + c9) / 8 = (2147483648 + (a + i)) / 8 by omega]))
                | (rw [epj, rok_pos hn.2 hro hlt (by rw [← epj]; exact c54), lostB_0] at z2; cases z2)
            · rw [pk_uLn hqj]; exact hlo q (by omega)
          · rw [pk_uLn (by omega)]; exact hhi q (by omega)
        · refine lv_lconst (v := 0) hx hb d_M_keep_79 rfl ?_
          refine lv_goto (tgt := 90) hx hb d_M_keep_80 (by decide) ?_
          refine mw_last hx hb hK hP hS 0 s4 rfl (vp_in_nI hlt (by omega)) d_M_keep_90 (fun H locs hP hS hz90 => ?_)
          rw [show (nI j).toNatClampNeg = j from nI_clamp (by omega)] at hP
          obtain ⟨w_17, ew_17⟩ : ∃ z9, z9 = va_up w1 aP (some (.inl (cJ, 4, .inr (.inl (vp_updL pc9 j 0)))) : Option va_E) := ⟨_, rfl⟩
          rw [← ew_17] at hP
          have h_18 : w_17 aP = some (.inl (cJ, 4, .inr (.inl (vp_updL pc9 j 0)))) := by rw [ew_17, va_up_self]
          have h_19 : w_17 hm = some (.inr (ciM, [.int cd, .int (nI n), .ref aW, .ref aU, .ref aP, .ref aZ])) := by rw [ew_17, va_up_ne _ _ (fun z => by rw [z, s4] at s1; cases s1)]; exact s1
          have h_20 : w_17 aW = some (.inl (cJ, 524288, .inr (.inl M))) := by rw [ew_17, va_up_ne _ _ (fun z => by rw [z, s4] at s2; simp at s2)]; exact s2
          have h_21 : w_17 aU = some (.inl (cJ, 1024, .inr (.inl T))) := by rw [ew_17, va_up_ne _ _ (fun z => by rw [z, s4] at s3; simp at s3)]; exact s3
          have h_22 : w_17 aZ = some (.inl (cI, 4, .inl sz)) := by rw [ew_17, va_up_ne _ _ (fun z => by rw [z, s4] at s5; simp at s5)]; exact s5
          obtain ⟨i_23, ei_23⟩ : ∃ y : Int32, y = (nI j) + 1 := ⟨_, rfl⟩
          refine lv_iinc (v := i_23) (lv' := [(9, .int i_23), (6, .int (nI i)), (7, .long (lN (2147483648 + (a + i)))), (0, .ref hm), (1, .long (lN (2147483648 + a))), (3, .int (nI k9)), (4, .long v)]) hx hb d_M_keep_91 hl (k := 0) rfl (by rw [ei_23]; rfl) (by decide) rfl (fun ls hl => ?_)
          refine lv_goto (tgt := 34) hx hb d_M_keep_94 (by decide) ?_
          have hmo : mo cJ cI w_17 hm n cd M T (vp_updL pc9 j 0) sz aW aU aP aZ := ⟨hn, h_19, h_20, h_21, h_18, h_22⟩
          have hkm : kM w1 w_17 hm aW aU aP aZ := fun q z1 z2 z3 z4 z5 => by rw [ew_17, va_up_ne _ _ z4]
          refine ih (j + 1) w_17 (vp_updL pc9 j 0) ls H locs (by omega) (by omega) (fun q hq => ?_) (fun q hq => ?_) hmo (hkm0.trans hkm) hP hS (by rw [← nI_1 j, ← ei_23]; exact lv_sub hl [0, 1, 2, 3, 4, 5, 6] rfl)
          · by_cases hqj : q = j
            · subst hqj; rw [pk_uLs]; unfold lost; rw [if_pos ⟨hlt, by rw [← epj, hc9, lostB_at (by omega)]; have e7 := (pk_lEQ (by omega) (by omega)).mp c75; rw [decide_eq_true (by omega), decide_eq_true (by omega)]; rfl⟩]
            · rw [pk_uLn hqj]; exact hlo q (by omega)
          · rw [pk_uLn (by omega)]; exact hhi q (by omega)
set_option maxHeartbeats 4000000 in
set_option maxRecDepth 100000 in
/-- keep: the bytes -/
theorem lp_M_keep2 {p : Program} {l : Launch} {e : Env} {s : State} {m : MethodId} {args : Array Value} {below : List Frame} {meth : Method} {c : Code} {Q : State → Prop} {D : va_G} {cJ cI cP : ClassId} {bs : Nat} (hx : p.tables.exec = Jvm.exec) (hb : c.code = c_M_keep) (hml : c.maxLocals = 10) (hown : s.vm.findClass R_M = some m.cls) (htg : ∀ w ∈ gt, w.before args s = true) (hK : va_K D vwCl (mT cJ cI cP) s) (hbs : bs ≤ s.heap.size) (w : Nat → Option va_E) (hm n : Nat) (cd : Int32) (M T pl : Nat → Int64) (sz : Nat → Int32) (aW aU aP aZ : Nat) (hro : rok pl n) (a k9 : Nat) (v : Int64) (h8 : k9 ≤ 8) (hak : a + k9 ≤ 4096 * n) (kx : ∀ (w1 : Nat → Option va_E) (Mc : Nat → Int64) (ls : Array Slot) (H : Heap) (locs : List Loc), mb Mc = wrN (mb M) a k9 v → mo cJ cI w1 hm n cd Mc (tK T a k9) (pK pl a k9) sz aW aU aP aZ → kM w w1 hm aW aU aP aZ → mw D vwCl bs w1 H → va_S (mA bs) s.heap H locs → W p l e ({ frames := 1, cells := 0, slots := 0, locals := 25 } : Room) s m args below meth c H locs 0 0 Q (F0 m 139 ls [])) :
    ∀ (k : Nat) (i : Nat) (w1 : Nat → Option va_E) (Mc : Nat → Int64) (ls : Array Slot) (H : Heap) (locs : List Loc), k9 - i < k → i ≤ k9 → mb Mc = wrN (mb M) a i v → mo cJ cI w1 hm n cd Mc (tK T a i) (pK pl a i) sz aW aU aP aZ → kM w w1 hm aW aU aP aZ → mw D vwCl bs w1 H → va_S (mA bs) s.heap H locs → lv_has ls 10 [(6, .int (nI i)), (0, .ref hm), (1, .long (lN (2147483648 + a))), (3, .int (nI k9)), (4, .long v)] → W p l e ({ frames := 1, cells := 0, slots := 0, locals := 25 } : Room) s m args below meth c H locs 0 0 Q (F0 m 3 ls []) := by
  intro k
  induction k with
  | zero => intro i w1 Mc ls H locs hk0; exact absurd hk0 (by omega)
  | succ k ih =>
    intro i w1 Mc ls H locs hk hi hMc hs1 hkm0 hP hS hl
    obtain ⟨hn, s1, s2, s3, s4, s5⟩ := id hs1
    refine lv_iload hx hb d_M_keep_3 (lv_at hl 0 rfl) ?_
    refine lv_iload_n hx hb d_M_keep_5 rfl (lv_at hl 3 rfl) ?_
    refine lv_icmp_ge (tgt := 139) hx hb d_M_keep_6 (by decide) (fun c6 => ?_) (fun c6 => ?_)
    · have e5 : i = k9 := Nat.le_antisymm hi (Nat.le_of_not_lt (fun z => nI_ge z (by omega) c6))
      subst e5
      exact kx w1 Mc ls H locs hMc hs1 hkm0 hP hS
    · have hlt : i < k9 := Nat.lt_of_not_le (fun z => c6 (nI_le z (by omega)))
      refine lv_lload_n hx hb d_M_keep_9 rfl (lv_at hl 2 rfl) ?_
      refine lv_iload hx hb d_M_keep_10 (lv_at hl 0 rfl) ?_
      refine lv_i2l hx hb d_M_keep_12 rfl ?_
      refine lv_ladd hx hb d_M_keep_13 ?_
      rw [show (lN (2147483648 + a)) + ((nI i).toInt64) = lN (2147483648 + (a + i)) from (by rw [nI_l (by omega), lN_add]; congr 1; omega)]
      refine lv_lstore (lv' := [(7, .long (lN (2147483648 + (a + i)))), (6, .int (nI i)), (0, .ref hm), (1, .long (lN (2147483648 + a))), (3, .int (nI k9)), (4, .long v)]) hx hb d_M_keep_14 hl (by decide) rfl (fun ls hl => ?_)
      refine lv_aload_n hx hb d_M_keep_16 rfl (lv_at hl 2 rfl) ?_
      refine lv_lload hx hb d_M_keep_17 (lv_at hl 0 rfl) ?_
      refine lv_lload hx hb d_M_keep_19 (lv_at hl 5 rfl) ?_
      refine lv_bipush (v := 8) hx hb d_M_keep_21 (by decide) ?_
      refine lv_iload hx hb d_M_keep_23 (lv_at hl 1 rfl) ?_
      refine lv_imul hx hb d_M_keep_25 ?_
      rw [show 8 * (nI i) = nI (8 * i) from (by show nI 8 * nI i = _; exact pk_mul _ _)]
      refine lv_lushr hx hb d_M_keep_26 rfl ?_
      refine lv_l2i hx hb d_M_keep_27 rfl ?_
      refine mc_v (va_runV (As := [.long (lN (2147483648 + (a + i))), .int (((v.toUInt64 >>> ((nI (8 * i)).toInt64.toUInt64 &&& Int64.toUInt64 63)).toInt64).toInt32)]) (rest := []) ⟨hx, hb, hml, hown, htg⟩ (t_M_set l D cJ cI cP bs w1 hm n cd Mc (tK T a i) (pK pl a i) sz aW aU aP aZ hs1 (a + i) (by omega) (((v.toUInt64 >>> ((nI (8 * i)).toInt64.toUInt64 &&& Int64.toUInt64 63)).toInt64).toInt32)) (cwV (own := R_M) (C := R_M) 2 htg (ginV k_472 k_474 k_22 k_26 k_475) rfl rfl rfl (by decide +kernel) ⟨Nat.le_of_ble_eq_true rfl, Nat.le_of_ble_eq_true rfl⟩) (mPc.preV (ci := ciM) (q := (R_M, T_M, 6)) hbs hS hP hK rfl s1) rfl rfl hl.1 rfl (lv_room (Nat.le_of_ble_eq_true rfl)) d_M_keep_28 ⟨Nat.le_of_ble_eq_true rfl, Nat.le_of_ble_eq_true rfl⟩) hS (fun u28 H locs hw hP hz28 hS => ?_)
      obtain ⟨w2, M2⟩ := u28
      obtain ⟨b1, b2, b3⟩ := hw
      have b1 : mo cJ cI w2 hm n cd M2 (tK T a i) (pK pl a i) sz aW aU aP aZ := b1
      have b2 : mb M2 = wrN (mb Mc) (a + i) 1 _ := b2
      have b3 : kM w1 w2 hm aW aU aP aZ := b3
      have hP : mw D vwCl bs w2 H := hP
      rw [hMc, wrN_s _ _ _ v _ (fun q hq => by rw [bi_l2i _ (by omega), bi_ushr _ (by omega)])] at b2
      refine lv_iconst (v := 0) hx hb d_M_keep_31 (by decide) ?_
      refine lv_istore (lv' := [(9, .int 0), (7, .long (lN (2147483648 + (a + i)))), (6, .int (nI i)), (0, .ref hm), (1, .long (lN (2147483648 + a))), (3, .int (nI k9)), (4, .long v)]) hx hb d_M_keep_32 hl (by decide) rfl (fun ls hl => ?_)
      refine lp_M_keep1 (D := D) (cJ := cJ) (cI := cI) (cP := cP) (bs := bs) hx hb hml hown htg hK hbs w2 hm n cd M2 (tK T a i) (pK pl a i) sz aW aU aP aZ (rok_pK hro a i) a i k9 v (by omega) (fun w3 ls H locs q1 q2 hP hS hl => ?_) 5 0 w2 (pK pl a i) ls H locs (by omega) (by omega) (fun q hq => absurd hq (by omega)) (fun _ _ => rfl) b1 kM.rf hP hS (lv_sub hl [0, 2, 1, 3, 4, 5, 6] rfl)
      rw [pK_s] at q1
      obtain ⟨hn', s1', s2', s3', s4', s5'⟩ := id q1
      refine lv_iload hx hb d_M_keep_97 (lv_at hl 0 rfl) ?_
      refine lv_if_eq (tgt := 113) hx hb d_M_keep_99 (by decide) (fun c99 => ?_) (fun c99 => ?_)
      · have hcase : i = 0 ∨ (a + i) % 4096 = 0 := by
          first
            | exact Or.inl (nI_inj (by omega) (by omega) (show nI i = nI 0 from c99))
            | exact Or.inr (by have e7 := (pk_lEQ (b := 0) (by omega) (by omega)).mp c109; omega)
        refine lv_aload_n hx hb d_M_keep_113 rfl (lv_at hl 2 rfl) ?_
        refine mw_get (C := R_M) (T := T_M) (N := 6) (ci := ciM) (v := .ref aU) hx hb htg i_M hown hK hP s1' rfl 3 (by decide) (htg _ k_414) (fun _ h9 => h9) rfl d_M_keep_114 ?_
        refine lv_lload hx hb d_M_keep_117 (lv_at hl 1 rfl) ?_
        refine lv_ldc2 (own := R_M) (v := 2147483648) hx hb hown (htg _ k_453) d_M_keep_119 ?_
        refine lv_lsub hx hb d_M_keep_122 ?_
        rw [show (lN (2147483648 + (a + i))) - 2147483648 = lN (a + i) from sub_st _]
        refine lv_ldc2 (own := R_M) (v := 4096) hx hb hown (htg _ k_454) d_M_keep_123 ?_
        refine lv_ldiv hx hb d_M_keep_126 (by decide) ?_
        rw [show (lN (a + i)) / 4096 = lN ((a + i) / 4096) from (show lN _ / lN 4096 = _ from pk_lDiv (by omega) (by omega) (by omega))]
        refine lv_l2i hx hb d_M_keep_127 rfl ?_
        rw [show (lN ((a + i) / 4096)).toInt32 = nI ((a + i) / 4096) from lN_i _]
        refine lv_dup2_11 hx hb d_M_keep_128 rfl rfl ?_
        refine mw_lald hx hb hK hP 0 s3' rfl (vp_in_nI (show (a + i) / 4096 < 1024 by omega) (by omega)) d_M_keep_129 ?_
        rw [show (nI ((a + i) / 4096)).toNatClampNeg = (a + i) / 4096 from nI_clamp (by omega)]
        refine lv_lconst (v := 1) hx hb d_M_keep_130 rfl ?_
        refine lv_ladd hx hb d_M_keep_131 ?_
        refine lv_topl (fun x_1 ex_1 => ?_)
        refine mw_last hx hb hK hP hS 0 s3' rfl (vp_in_nI (show (a + i) / 4096 < 1024 by omega) (by omega)) d_M_keep_132 (fun H locs hP hS hz132 => ?_)
        rw [show (nI ((a + i) / 4096)).toNatClampNeg = (a + i) / 4096 from nI_clamp (by omega)] at hP
        obtain ⟨w_2, ew_2⟩ : ∃ z9, z9 = va_up w3 aU (some (.inl (cJ, 1024, .inr (.inl (vp_updL (tK T a i) ((a + i) / 4096) x_1)))) : Option va_E) := ⟨_, rfl⟩
        rw [← ew_2] at hP
        have h_3 : w_2 aU = some (.inl (cJ, 1024, .inr (.inl (vp_updL (tK T a i) ((a + i) / 4096) x_1)))) := by rw [ew_2, va_up_self]
        have h_4 : w_2 hm = some (.inr (ciM, [.int cd, .int (nI n), .ref aW, .ref aU, .ref aP, .ref aZ])) := by rw [ew_2, va_up_ne _ _ (fun z => by rw [z, s3'] at s1'; cases s1')]; exact s1'
        have h_5 : w_2 aW = some (.inl (cJ, 524288, .inr (.inl M2))) := by rw [ew_2, va_up_ne _ _ (fun z => by rw [z, s3'] at s2'; simp at s2')]; exact s2'
        have h_6 : w_2 aP = some (.inl (cJ, 4, .inr (.inl (pK pl a (i + 1))))) := by rw [ew_2, va_up_ne _ _ (fun z => by rw [z, s3'] at s4'; simp at s4')]; exact s4'
        have h_7 : w_2 aZ = some (.inl (cI, 4, .inl sz)) := by rw [ew_2, va_up_ne _ _ (fun z => by rw [z, s3'] at s5'; simp at s5')]; exact s5'
        obtain ⟨i_8, ei_8⟩ : ∃ y : Int32, y = (nI i) + 1 := ⟨_, rfl⟩
        refine lv_iinc (v := i_8) (lv' := [(6, .int i_8), (7, .long (lN (2147483648 + (a + i)))), (0, .ref hm), (1, .long (lN (2147483648 + a))), (3, .int (nI k9)), (4, .long v)]) hx hb d_M_keep_133 hl (k := 0) rfl (by rw [ei_8]; rfl) (by decide) rfl (fun ls hl => ?_)
        refine lv_goto (tgt := 3) hx hb d_M_keep_136 (by decide) ?_
        have hmo : mo cJ cI w_2 hm n cd M2 (tK T a (i + 1)) (pK pl a (i + 1)) sz aW aU aP aZ := ⟨hn, h_4, h_5, by rw [h_3]; rw [← tK_inc T a i hcase]; rw [ex_1], h_6, h_7⟩
        have hkm : kM w3 w_2 hm aW aU aP aZ := fun q z1 z2 z3 z4 z5 => by rw [ew_2, va_up_ne _ _ z3]
        exact ih (i + 1) w_2 M2 ls H locs (by omega) (by omega) b2 hmo (((hkm0.trans b3).trans q2).trans hkm) hP hS (by rw [← nI_1 i, ← ei_8]; exact lv_sub hl [0, 2, 3, 4, 5] rfl)
      · refine lv_lload hx hb d_M_keep_102 (lv_at hl 1 rfl) ?_
        refine lv_ldc2 (own := R_M) (v := 4096) hx hb hown (htg _ k_454) d_M_keep_104 ?_
        refine lv_lrem hx hb d_M_keep_107 (by decide) ?_
        rw [show (lN (2147483648 + (a + i))) - (lN (2147483648 + (a + i))) / 4096 * 4096 = lN ((2147483648 + (a + i)) % 4096) from (show lN _ - lN _ / lN 4096 * lN 4096 = _ from pk_lRem (by omega) (by omega) (by omega))]
        refine lv_lconst (v := 0) hx hb d_M_keep_108 rfl ?_
        refine lc_ne (tgt := 133) hx hb d_M_keep_109 d_M_keep_110 (by decide) (fun c109 => ?_) (fun c109 => ?_)
        · obtain ⟨i_9, ei_9⟩ : ∃ y : Int32, y = (nI i) + 1 := ⟨_, rfl⟩
          refine lv_iinc (v := i_9) (lv' := [(6, .int i_9), (7, .long (lN (2147483648 + (a + i)))), (0, .ref hm), (1, .long (lN (2147483648 + a))), (3, .int (nI k9)), (4, .long v)]) hx hb d_M_keep_133 hl (k := 0) rfl (by rw [ei_9]; rfl) (by decide) rfl (fun ls hl => ?_)
          refine lv_goto (tgt := 3) hx hb d_M_keep_136 (by decide) ?_
          have hi0 : ¬ i = 0 := fun z => c99 (by rw [z]; rfl)
          have hm9 : ¬ (a + i) % 4096 = 0 := fun z => c109 (by rw [show (2147483648 + (a + i)) % 4096 = 0 by omega]; rfl)
          have hmo : mo cJ cI w3 hm n cd M2 (tK T a (i + 1)) (pK pl a (i + 1)) sz aW aU aP aZ := by rw [← tK_same T a i hi0 hm9]; exact q1
          have hkm : kM w3 w3 hm aW aU aP aZ := fun q z1 z2 z3 z4 z5 => by rfl
          exact ih (i + 1) w3 M2 ls H locs (by omega) (by omega) b2 hmo (((hkm0.trans b3).trans q2).trans hkm) hP hS (by rw [← nI_1 i, ← ei_9]; exact lv_sub hl [0, 2, 3, 4, 5] rfl)
        · have hcase : i = 0 ∨ (a + i) % 4096 = 0 := by
            first
              | exact Or.inl (nI_inj (by omega) (by omega) (show nI i = nI 0 from c99))
              | exact Or.inr (by have e7 := (pk_lEQ (b := 0) (by omega) (by omega)).mp c109; omega)
          refine lv_aload_n hx hb d_M_keep_113 rfl (lv_at hl 2 rfl) ?_
          refine mw_get (C := R_M) (T := T_M) (N := 6) (ci := ciM) (v := .ref aU) hx hb htg i_M hown hK hP s1' rfl 3 (by decide) (htg _ k_414) (fun _ h9 => h9) rfl d_M_keep_114 ?_
          refine lv_lload hx hb d_M_keep_117 (lv_at hl 1 rfl) ?_
          refine lv_ldc2 (own := R_M) (v := 2147483648) hx hb hown (htg _ k_453) d_M_keep_119 ?_
          refine lv_lsub hx hb d_M_keep_122 ?_
          rw [show (lN (2147483648 + (a + i))) - 2147483648 = lN (a + i) from sub_st _]
          refine lv_ldc2 (own := R_M) (v := 4096) hx hb hown (htg _ k_454) d_M_keep_123 ?_
          refine lv_ldiv hx hb d_M_keep_126 (by decide) ?_
          rw [show (lN (a + i)) / 4096 = lN ((a + i) / 4096) from (show lN _ / lN 4096 = _ from pk_lDiv (by omega) (by omega) (by omega))]
          refine lv_l2i hx hb d_M_keep_127 rfl ?_
          rw [show (lN ((a + i) / 4096)).toInt32 = nI ((a + i) / 4096) from lN_i _]
          refine lv_dup2_11 hx hb d_M_keep_128 rfl rfl ?_
          refine mw_lald hx hb hK hP 0 s3' rfl (vp_in_nI (show (a + i) / 4096 < 1024 by omega) (by omega)) d_M_keep_129 ?_
          rw [show (nI ((a + i) / 4096)).toNatClampNeg = (a + i) / 4096 from nI_clamp (by omega)]
          refine lv_lconst (v := 1) hx hb d_M_keep_130 rfl ?_
          refine lv_ladd hx hb d_M_keep_131 ?_
          refine lv_topl (fun x_10 ex_10 => ?_)
          refine mw_last hx hb hK hP hS 0 s3' rfl (vp_in_nI (show (a + i) / 4096 < 1024 by omega) (by omega)) d_M_keep_132 (fun H locs hP hS hz132 => ?_)
          rw [show (nI ((a + i) / 4096)).toNatClampNeg = (a + i) / 4096 from nI_clamp (by omega)] at hP
          obtain ⟨w_11, ew_11⟩ : ∃ z9, z9 = va_up w3 aU (some (.inl (cJ, 1024, .inr (.inl (vp_updL (tK T a i) ((a + i) / 4096) x_10)))) : Option va_E) := ⟨_, rfl⟩
          rw [← ew_11] at hP
          have h_12 : w_11 aU = some (.inl (cJ, 1024, .inr (.inl (vp_updL (tK T a i) ((a + i) / 4096) x_10)))) := by rw [ew_11, va_up_self]
          have h_13 : w_11 hm = some (.inr (ciM, [.int cd, .int (nI n), .ref aW, .ref aU, .ref aP, .ref aZ])) := by rw [ew_11, va_up_ne _ _ (fun z => by rw [z, s3'] at s1'; cases s1')]; exact s1'
          have h_14 : w_11 aW = some (.inl (cJ, 524288, .inr (.inl M2))) := by rw [ew_11, va_up_ne _ _ (fun z => by rw [z, s3'] at s2'; simp at s2')]; exact s2'
          have h_15 : w_11 aP = some (.inl (cJ, 4, .inr (.inl (pK pl a (i + 1))))) := by rw [ew_11, va_up_ne _ _ (fun z => by rw [z, s3'] at s4'; simp at s4')]; exact s4'
          have h_16 : w_11 aZ = some (.inl (cI, 4, .inl sz)) := by rw [ew_11, va_up_ne _ _ (fun z => by rw [z, s3'] at s5'; simp at s5')]; exact s5'
          obtain ⟨i_17, ei_17⟩ : ∃ y : Int32, y = (nI i) + 1 := ⟨_, rfl⟩
          refine lv_iinc (v := i_17) (lv' := [(6, .int i_17), (7, .long (lN (2147483648 + (a + i)))), (0, .ref hm), (1, .long (lN (2147483648 + a))), (3, .int (nI k9)), (4, .long v)]) hx hb d_M_keep_133 hl (k := 0) rfl (by rw [ei_17]; rfl) (by decide) rfl (fun ls hl => ?_)
          refine lv_goto (tgt := 3) hx hb d_M_keep_136 (by decide) ?_
          have hmo : mo cJ cI w_11 hm n cd M2 (tK T a (i + 1)) (pK pl a (i + 1)) sz aW aU aP aZ := ⟨hn, h_13, h_14, by rw [h_12]; rw [← tK_inc T a i hcase]; rw [ex_10], h_15, h_16⟩
          have hkm : kM w3 w_11 hm aW aU aP aZ := fun q z1 z2 z3 z4 z5 => by rw [ew_11, va_up_ne _ _ z3]
          exact ih (i + 1) w_11 M2 ls H locs (by omega) (by omega) b2 hmo (((hkm0.trans b3).trans q2).trans hkm) hP hS (by rw [← nI_1 i, ← ei_17]; exact lv_sub hl [0, 2, 3, 4, 5] rfl)
set_option maxHeartbeats 4000000 in
set_option maxRecDepth 100000 in
/-- keep -/
theorem t_M_keep (l : Launch) (D : va_G) (cJ cI cP : ClassId) (bs : Nat) (w : Nat → Option va_E) (hm n : Nat) (cd : Int32) (M T pl : Nat → Int64) (sz : Nat → Int32) (aW aU aP aZ : Nat) (hs : mo cJ cI w hm n cd M T pl sz aW aU aP aZ) (hro : rok pl n) (a k : Nat) (h8 : k ≤ 8) (hak : a + k ≤ 4096 * n) (v : Int64) : Met l y_M_keep ws_M_keep ({ frames := 1, cells := 0, slots := 0, locals := 25 }) (mPc D vwCl (mT cJ cI cP) bs w [.ref hm, .long (lN (2147483648 + a)), .int (nI k), .long v]) (va_Qv (S := ((Nat → Option va_E) × (Nat → Int64))) (fun u => mo cJ cI u.1 hm n cd u.2 (tK T a k) (pK pl a k) sz aW aU aP aZ ∧ mb u.2 = wrN (mb M) a k v ∧ kM w u.1 hm aW aU aP aZ) (mB D vwCl bs (fun u => u.1)) (mA bs)) 0 0 (mA bs) := by
  refine Met.ofW (cc := c_M_keep) (maxL := 10) (ret := none) (by decide) rfl ?_
  intro p e s m args below meth c s₁ B hml hv
  obtain ⟨rfl, hbs, hP, hK⟩ := hv
  have hx := B.exec
  have hb := B.bytes
  have hr := B.returns
  have htg : ∀ w ∈ gt, w.before _ s = true := fun w h => atoms_spec (ws := ws_M_keep) B.pre w (List.mem_cons_of_mem _ h)
  have hown : s.vm.findClass R_M = some m.cls := findClass_of_methodNamed B.named
  have hlocks := B.notSynchronized
  have hS : va_S (mA bs) s.heap s.heap [] := va_S.rf
  have hl := lv_entry ([.ref hm, .long (lN (2147483648 + a)), .int (nI k), .long v]) (n := 10) (Nat.le_of_ble_eq_true rfl)
  rw [lg_entry_eq]
  generalize (lg_sl ([.ref hm, .long (lN (2147483648 + a)), .int (nI k), .long v]) ++ List.replicate (10 - (lg_sl ([.ref hm, .long (lN (2147483648 + a)), .int (nI k), .long v])).length) Slot.unset).toArray = ls at hl ⊢
  have hl : lv_has ls 10 [(0, .ref hm), (1, .long (lN (2147483648 + a))), (3, .int (nI k)), (4, .long v)] := hl
  obtain ⟨hn, s1, s2, s3, s4, s5⟩ := id hs
  refine lv_iconst (v := 0) hx hb d_M_keep_0 (by decide) ?_
  refine lv_istore (lv' := [(6, .int 0), (0, .ref hm), (1, .long (lN (2147483648 + a))), (3, .int (nI k)), (4, .long v)]) hx hb d_M_keep_1 hl (by decide) rfl (fun ls hl => ?_)
  refine lp_M_keep2 (D := D) (cJ := cJ) (cI := cI) (cP := cP) (bs := bs) hx hb hml hown htg hK hbs w hm n cd M T pl sz aW aU aP aZ hro a k v h8 hak (fun w1 Mc ls H locs q1 q2 q3 hP hS => ?_) (k + 1) 0 w M ls _ _ (by omega) (by omega) (wrN_0 _ _ _).symm hs kM.rf hP hS (lv_sub hl [0, 1, 2, 3, 4] rfl)
  exact W.vret hx hb hr (fun t ht hW => ⟨⟨(w1, Mc), rfl, ⟨q2, q1, q3⟩, hP.at ht⟩, hS.F ht⟩) hS.2.2 d_M_keep_139
