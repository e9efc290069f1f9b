set_option maxHeartbeats 4000000 in
set_option maxRecDepth 100000 in
/-- merge: the masked bits of a word are taken from others -/
theorem t_P_merge (l : Launch) (D : va_G) (cJ cI cP : ClassId) (bs : Nat) (w : Nat → Option va_E) (pa : Nat) (Wd : Nat → Int64) (tw : Int64) (hp : pg cJ w pa Wd tw) (k : Nat) (hk : k < 512) (mask bits : Int64) (mc ms : Nat) (hm : pgw w pa = none → ¬ mrg (Wd k) mask bits = Wd k → 1 ≤ mc ∧ 512 ≤ ms) : Met l y_P_merge ws_P_merge ({ frames := 2, cells := mc, slots := ms, locals := 44 }) (mPc D vwCl (mT cJ cI cP) bs w [.ref pa, .int (nI k), .long mask, .long bits]) (va_Qv (S := (Nat → Option va_E)) (fun u => pg cJ u pa (va_up Wd k (mrg (Wd k) mask bits)) tw ∧ kp w u (pfp w pa) (pfp u pa) ∧ (mrg (Wd k) mask bits = Wd k → u = w) ∧ (¬ mrg (Wd k) mask bits = Wd k → ¬ pgw u pa = none)) (mB D vwCl bs (fun u => u)) (mA bs)) mc ms (mA bs) := by
  refine Met.ofW (cc := c_P_merge) (maxL := 10) (ret := none) (by decide) rfl ?_
  intro p e s m args below meth c s₁ B hml hv
  obtain ⟨rfl, hbs, hP, hK⟩ := hv
  have hx := B.exec
  have hb := B.bytes
  have hr := B.returns
  have htg : ∀ w ∈ gt, w.before _ s = true := fun w h => atoms_spec (ws := ws_P_merge) B.pre w (List.mem_cons_of_mem _ h)
  have hown : s.vm.findClass R_P = some m.cls := findClass_of_methodNamed B.named
  have hlocks := B.notSynchronized
  have hS : va_S (mA bs) s.heap s.heap [] := va_S.rf
  have hl := lv_entry ([.ref pa, .int (nI k), .long mask, .long bits]) (n := 10) (Nat.le_of_ble_eq_true rfl)
  rw [lg_entry_eq]
  generalize (lg_sl ([.ref pa, .int (nI k), .long mask, .long bits]) ++ List.replicate (10 - (lg_sl ([.ref pa, .int (nI k), .long mask, .long bits])).length) Slot.unset).toArray = ls at hl ⊢
  have hl : lv_has ls 10 [(0, .ref pa), (1, .int (nI k)), (2, .long mask), (4, .long bits)] := hl
  obtain ⟨wr, ev, ew, g1, g2, g3, g4, g5⟩ := id hp
  obtain ⟨nz, enz⟩ : ∃ x, x = nI (nzc Wd 512) := ⟨_, rfl⟩
  rw [← enz] at g1
  have f1 : w pa = some (.inr (ciP, [va_rf wr, .int ev, .long ew, .int nz, .long tw])) := g1
  refine lv_aload_n hx hb d_P_merge_0 rfl (lv_at hl 0 rfl) ?_
  refine lv_iload_n hx hb d_P_merge_1 rfl (lv_at hl 1 rfl) ?_
  refine mc_l (va_runV (As := [.int (nI k)]) (rest := []) ⟨hx, hb, hml, hown, htg⟩ (t_P_wordAt l D cJ cI cP bs w pa Wd tw hp k hk) (cwV (own := R_P) (C := R_P) 1 htg (ginV k_248 k_197 k_198 k_32 k_199) rfl rfl rfl (by decide +kernel) ⟨Nat.le_of_ble_eq_true rfl, Nat.le_of_ble_eq_true rfl⟩) (mPc.preV (ci := ciP) (q := (R_P, T_P, 5)) hbs hS hP hK rfl f1) rfl rfl hl.1 rfl (lv_room (Nat.le_of_ble_eq_true rfl)) d_P_merge_2 ⟨Nat.zero_le _, Nat.zero_le _⟩) hS (fun r2 u2 H locs hw hP hz2 hS => ?_)
  subst hw
  refine lv_topl (fun x_1 ex_1 => ?_)
  refine lv_lstore (lv' := [(6, .long x_1), (0, .ref pa), (1, .int (nI k)), (2, .long mask), (4, .long bits)]) hx hb d_P_merge_5 hl (by decide) rfl (fun ls hl => ?_)
  refine lv_lload hx hb d_P_merge_7 (lv_at hl 0 rfl) ?_
  refine lv_lload_n hx hb d_P_merge_9 rfl (lv_at hl 3 rfl) ?_
  refine lv_ldc2 (own := R_P) (v := (-1)) hx hb hown (htg _ k_249) d_P_merge_10 ?_
  refine lv_lxor hx hb d_P_merge_13 ?_
  refine lv_land hx hb d_P_merge_14 ?_
  refine lv_lload hx hb d_P_merge_15 (lv_at hl 4 rfl) ?_
  refine lv_lload_n hx hb d_P_merge_17 rfl (lv_at hl 3 rfl) ?_
  refine lv_land hx hb d_P_merge_18 ?_
  refine lv_lor hx hb d_P_merge_19 ?_
  refine lv_topl (fun x_2 ex_2 => ?_)
  refine lv_lstore (lv' := [(8, .long x_2), (6, .long x_1), (0, .ref pa), (1, .int (nI k)), (2, .long mask), (4, .long bits)]) hx hb d_P_merge_20 hl (by decide) rfl (fun ls hl => ?_)
  have eY : x_2 = mrg (Wd k) mask bits := by rw [ex_2, ex_1]; rfl
  refine lv_lload hx hb d_P_merge_22 (lv_at hl 0 rfl) ?_
  refine lv_lload hx hb d_P_merge_24 (lv_at hl 1 rfl) ?_
  refine lc_ne (tgt := 31) hx hb d_P_merge_26 d_P_merge_27 (by decide) (fun c26 => ?_) (fun c26 => ?_)
  · have hch : ¬ mrg (Wd k) mask bits = Wd k := by rw [← eY, ← ex_1]; exact c26
    refine lv_aload_n hx hb d_P_merge_31 rfl (lv_at hl 2 rfl) ?_
    refine mc_r (va_runV (As := []) (rest := []) ⟨hx, hb, hml, hown, htg⟩ (t_P_wow l D cJ cI cP bs w pa wr ev ew nz tw g1 (fun a ha => ⟨_, (g5 a ha).choose_spec.1⟩) mc ms (fun z => hm (by rw [pgw_of g1]; exact z) hch)) (cwV (own := R_P) (C := R_P) 0 htg (ginV k_250 k_252 k_8 k_32 k_253) rfl rfl rfl (by decide +kernel) ⟨Nat.le_of_ble_eq_true rfl, Nat.le_of_ble_eq_true rfl⟩) (mPc.preV (ci := ciP) (q := (R_P, T_P, 5)) hbs hS hP hK rfl f1) rfl rfl hl.1 rfl (lv_room (Nat.le_of_ble_eq_true rfl)) d_P_merge_32 ⟨by rw [Nat.zero_add]; exact Nat.le_refl _, by rw [Nat.zero_add]; exact Nat.le_refl _⟩) hS (fun u H locs hw hP hz32 hS => ?_)
    obtain ⟨w2, aa, f⟩ := u
    obtain ⟨b1, b2, b3, b4, b5, b6⟩ := hw
    have b1 : w2 pa = some (.inr (ciP, [.ref aa, .int 0, .long ew, .int nz, .long tw])) := b1
    have b2 : w2 aa = some (.inl (cJ, 512, .inr (.inl f))) := b2
    have b3 : wr = some aa ∨ w aa = none := b3
    have b4 : ∀ q, ¬ q = pa → ¬ q = aa → w2 q = w q := b4
    have hP : mw D vwCl bs w2 H := hP
    dsimp only at b5 b6
    have hfW : ∀ i, i < 512 → f i = Wd i := by
      intro i hi
      rcases g2 with z | z
      · rcases hwr : wr with _ | a
        · exact absurd hwr (g4 z)
        · obtain ⟨f0, q1, q2⟩ := g5 a hwr
          rw [b5 z f0 a hwr q1]; exact q2 z i hi
      · rw [b6 (by rw [z]; decide) i hi]; exact (g3 z i hi).symm
    refine lv_iload_n hx hb d_P_merge_35 rfl (lv_at hl 3 rfl) ?_
    refine lv_lload hx hb d_P_merge_36 (lv_at hl 0 rfl) ?_
    refine mw_last hx hb hK hP hS 0 b2 rfl (vp_in_nI hk (by omega)) d_P_merge_38 (fun H locs hP hS hz38 => ?_)
    rw [show (nI k).toNatClampNeg = k from nI_clamp (by omega)] at hP
    obtain ⟨w_3, ew_3⟩ : ∃ z9, z9 = va_up w2 aa (some (.inl (cJ, 512, .inr (.inl (vp_updL f k x_2)))) : Option va_E) := ⟨_, rfl⟩
    rw [← ew_3] at hP
    have h_4 : w_3 aa = some (.inl (cJ, 512, .inr (.inl (vp_updL f k x_2)))) := by rw [ew_3, va_up_self]
    have h_5 : w_3 pa = some (.inr (ciP, [.ref aa, .int 0, .long ew, .int nz, .long tw])) := by rw [ew_3, va_up_ne _ _ (fun z => by rw [z, b2] at b1; cases b1)]; exact b1
    refine lv_lload hx hb d_P_merge_39 (lv_at hl 1 rfl) ?_
    refine lv_lconst (v := 0) hx hb d_P_merge_41 rfl ?_
    refine lc_ne (tgt := 56) hx hb d_P_merge_42 d_P_merge_43 (by decide) (fun c42 => ?_) (fun c42 => ?_)
    · refine lv_lload hx hb d_P_merge_56 (lv_at hl 0 rfl) ?_
      refine lv_lconst (v := 0) hx hb d_P_merge_58 rfl ?_
      refine lc_ne (tgt := 73) hx hb d_P_merge_59 d_P_merge_60 (by decide) (fun c59 => ?_) (fun c59 => ?_)
      · have hn := nzc_up Wd k x_2 512 hk
        have z1 : nz1 (Wd k) = 1 := nz1_ne (by rw [← ex_1]; exact c42)
        have z2 : nz1 x_2 = 1 := nz1_ne c59
        have hzF : nz = nI (nzc (va_up Wd k x_2) 512) := by rw [enz]; congr 1; omega
        have fin := pg_fin (cJ := cJ) (W := va_up Wd k x_2) (wr := some aa) (ev := 0) (ew := ew) (tw := tw) g1 (w3 := w_3) h_5 (fun a ha => by cases ha; exact b3) (fun q z1 z2 => by rw [ew_3, va_up_ne _ _ (fun z => z2 (by rw [z]))]; exact b4 q z1 (fun z => z2 (by rw [z]))) hzF (Or.inl rfl) (fun z => absurd z (by decide)) (fun _ => by simp) (fun a ha => by
          cases ha
          refine ⟨_, h_4, fun _ i hi => ?_⟩
          by_cases hik : i = k
          · rw [hik, va_up_self]; exact pk_uLs
          · rw [va_up_ne _ _ hik, pk_uLn hik]; exact hfW i hi)
        rw [eY] at fin
        have hpw : pgw w_3 pa = some aa := pgw_of (wr := some aa) (ev := 0) (ew := ew) (nz := nz) (tw := tw) h_5
        refine W.widen (k := mc) (n := ms) (by rw [Nat.zero_add]; exact Nat.le_refl _) (by rw [Nat.zero_add]; exact Nat.le_refl _) ?_
        exact W.vret hx hb hr (fun t ht hW => ⟨⟨w_3, rfl, ⟨fin.1, fin.2, fun z => absurd z hch, fun _ => by rw [hpw]; simp⟩, hP.at ht⟩, hS.F ht⟩) hS.2.2 d_P_merge_73
      · refine lv_aload_n hx hb d_P_merge_63 rfl (lv_at hl 2 rfl) ?_
        refine lv_dup hx hb d_P_merge_64 rfl ?_
        refine mw_get (C := R_P) (T := T_P) (N := 5) (ci := ciP) (v := .int nz) hx hb htg i_P hown hK hP h_5 rfl 3 (by decide) (htg _ k_231) (fun _ h9 => h9) rfl d_P_merge_65 ?_
        refine lv_iconst (v := 1) hx hb d_P_merge_68 (by decide) ?_
        refine lv_isub hx hb d_P_merge_69 ?_
        refine lv_topi (fun x_6 ex_6 => ?_)
        refine mw_put (C := R_P) (T := T_P) (N := 5) (ci := ciP) (v := .int x_6) (ty := .int) (fs' := [.ref aa, .int 0, .long ew, .int x_6, .long tw]) hx hb htg i_P ty_P tk_P nm_P hown hK hP hS h_5 rfl 3 (by decide) (htg _ k_231) (fun _ h9 => h9) rfl (by decide +kernel) rfl rfl (Nat.le_of_ble_eq_true rfl) rfl d_P_merge_70 (fun H locs hP hS hz70 => ?_)
        obtain ⟨w_7, ew_7⟩ : ∃ z9, z9 = va_up w_3 pa (some (.inr (ciP, [.ref aa, .int 0, .long ew, .int x_6, .long tw])) : Option va_E) := ⟨_, rfl⟩
        rw [← ew_7] at hP
        have h_8 : w_7 pa = some (.inr (ciP, [.ref aa, .int 0, .long ew, .int x_6, .long tw])) := by rw [ew_7, va_up_self]
        have h_9 : w_7 aa = some (.inl (cJ, 512, .inr (.inl (vp_updL f k x_2)))) := by rw [ew_7, va_up_ne _ _ (fun z => by rw [z, h_5] at h_4; cases h_4)]; exact h_4
        have hn := nzc_up Wd k x_2 512 hk
        have z1 : nz1 (Wd k) = 1 := nz1_ne (by rw [← ex_1]; exact c42)
        have z2 : nz1 x_2 = 0 := by rw [c59]; exact nz1_0
        have hzF : x_6 = nI (nzc (va_up Wd k x_2) 512) := by rw [ex_6, enz, show nzc Wd 512 = nzc (va_up Wd k x_2) 512 + 1 by omega]; exact nI_pred _
        have fin := pg_fin (cJ := cJ) (W := va_up Wd k x_2) (wr := some aa) (ev := 0) (ew := ew) (tw := tw) g1 (w3 := w_7) h_8 (fun a ha => by cases ha; exact b3) (fun q z1 z2 => by rw [ew_7, va_up_ne _ _ z1]; rw [ew_3, va_up_ne _ _ (fun z => z2 (by rw [z]))]; exact b4 q z1 (fun z => z2 (by rw [z]))) hzF (Or.inl rfl) (fun z => absurd z (by decide)) (fun _ => by simp) (fun a ha => by
          cases ha
          refine ⟨_, h_9, fun _ i hi => ?_⟩
          by_cases hik : i = k
          · rw [hik, va_up_self]; exact pk_uLs
          · rw [va_up_ne _ _ hik, pk_uLn hik]; exact hfW i hi)
        rw [eY] at fin
        have hpw : pgw w_7 pa = some aa := pgw_of (wr := some aa) (ev := 0) (ew := ew) (nz := x_6) (tw := tw) h_8
        refine W.widen (k := mc) (n := ms) (by rw [Nat.zero_add]; exact Nat.le_refl _) (by rw [Nat.zero_add]; exact Nat.le_refl _) ?_
        exact W.vret hx hb hr (fun t ht hW => ⟨⟨w_7, rfl, ⟨fin.1, fin.2, fun z => absurd z hch, fun _ => by rw [hpw]; simp⟩, hP.at ht⟩, hS.F ht⟩) hS.2.2 d_P_merge_73
    · refine lv_aload_n hx hb d_P_merge_46 rfl (lv_at hl 2 rfl) ?_
      refine lv_dup hx hb d_P_merge_47 rfl ?_
      refine mw_get (C := R_P) (T := T_P) (N := 5) (ci := ciP) (v := .int nz) hx hb htg i_P hown hK hP h_5 rfl 3 (by decide) (htg _ k_231) (fun _ h9 => h9) rfl d_P_merge_48 ?_
      refine lv_iconst (v := 1) hx hb d_P_merge_51 (by decide) ?_
      refine lv_iadd hx hb d_P_merge_52 ?_
      refine lv_topi (fun x_10 ex_10 => ?_)
      refine mw_put (C := R_P) (T := T_P) (N := 5) (ci := ciP) (v := .int x_10) (ty := .int) (fs' := [.ref aa, .int 0, .long ew, .int x_10, .long tw]) hx hb htg i_P ty_P tk_P nm_P hown hK hP hS h_5 rfl 3 (by decide) (htg _ k_231) (fun _ h9 => h9) rfl (by decide +kernel) rfl rfl (Nat.le_of_ble_eq_true rfl) rfl d_P_merge_53 (fun H locs hP hS hz53 => ?_)
      obtain ⟨w_11, ew_11⟩ : ∃ z9, z9 = va_up w_3 pa (some (.inr (ciP, [.ref aa, .int 0, .long ew, .int x_10, .long tw])) : Option va_E) := ⟨_, rfl⟩
      rw [← ew_11] at hP
      have h_12 : w_11 pa = some (.inr (ciP, [.ref aa, .int 0, .long ew, .int x_10, .long tw])) := by rw [ew_11, va_up_self]
      have h_13 : w_11 aa = some (.inl (cJ, 512, .inr (.inl (vp_updL f k x_2)))) := by rw [ew_11, va_up_ne _ _ (fun z => by rw [z, h_5] at h_4; cases h_4)]; exact h_4
      refine lv_lload hx hb d_P_merge_56 (lv_at hl 0 rfl) ?_
      refine lv_lconst (v := 0) hx hb d_P_merge_58 rfl ?_
      refine lc_ne (tgt := 73) hx hb d_P_merge_59 d_P_merge_60 (by decide) (fun c59 => ?_) (fun c59 => ?_)
      · have hn := nzc_up Wd k x_2 512 hk
        have z1 : nz1 (Wd k) = 0 := by rw [← ex_1, c42]; exact nz1_0
        have z2 : nz1 x_2 = 1 := nz1_ne c59
        have hzF : x_10 = nI (nzc (va_up Wd k x_2) 512) := by rw [ex_10, enz, nI_1]; congr 1; omega
        have fin := pg_fin (cJ := cJ) (W := va_up Wd k x_2) (wr := some aa) (ev := 0) (ew := ew) (tw := tw) g1 (w3 := w_11) h_12 (fun a ha => by cases ha; exact b3) (fun q z1 z2 => by rw [ew_11, va_up_ne _ _ z1]; rw [ew_3, va_up_ne _ _ (fun z => z2 (by rw [z]))]; exact b4 q z1 (fun z => z2 (by rw [z]))) hzF (Or.inl rfl) (fun z => absurd z (by decide)) (fun _ => by simp) (fun a ha => by
          cases ha
          refine ⟨_, h_13, fun _ i hi => ?_⟩
          by_cases hik : i = k
          · rw [hik, va_up_self]; exact pk_uLs
          · rw [va_up_ne _ _ hik, pk_uLn hik]; exact hfW i hi)
        rw [eY] at fin
        have hpw : pgw w_11 pa = some aa := pgw_of (wr := some aa) (ev := 0) (ew := ew) (nz := x_10) (tw := tw) h_12
        refine W.widen (k := mc) (n := ms) (by rw [Nat.zero_add]; exact Nat.le_refl _) (by rw [Nat.zero_add]; exact Nat.le_refl _) ?_
        exact W.vret hx hb hr (fun t ht hW => ⟨⟨w_11, rfl, ⟨fin.1, fin.2, fun z => absurd z hch, fun _ => by rw [hpw]; simp⟩, hP.at ht⟩, hS.F ht⟩) hS.2.2 d_P_merge_73
      · refine lv_aload_n hx hb d_P_merge_63 rfl (lv_at hl 2 rfl) ?_
        refine lv_dup hx hb d_P_merge_64 rfl ?_
        refine mw_get (C := R_P) (T := T_P) (N := 5) (ci := ciP) (v := .int x_10) hx hb htg i_P hown hK hP h_12 rfl 3 (by decide) (htg _ k_231) (fun _ h9 => h9) rfl d_P_merge_65 ?_
        refine lv_iconst (v := 1) hx hb d_P_merge_68 (by decide) ?_
        refine lv_isub hx hb d_P_merge_69 ?_
        refine lv_topi (fun x_14 ex_14 => ?_)
        refine mw_put (C := R_P) (T := T_P) (N := 5) (ci := ciP) (v := .int x_14) (ty := .int) (fs' := [.ref aa, .int 0, .long ew, .int x_14, .long tw]) hx hb htg i_P ty_P tk_P nm_P hown hK hP hS h_12 rfl 3 (by decide) (htg _ k_231) (fun _ h9 => h9) rfl (by decide +kernel) rfl rfl (Nat.le_of_ble_eq_true rfl) rfl d_P_merge_70 (fun H locs hP hS hz70 => ?_)
        obtain ⟨w_15, ew_15⟩ : ∃ z9, z9 = va_up w_11 pa (some (.inr (ciP, [.ref aa, .int 0, .long ew, .int x_14, .long tw])) : Option va_E) := ⟨_, rfl⟩
        rw [← ew_15] at hP
        have h_16 : w_15 pa = some (.inr (ciP, [.ref aa, .int 0, .long ew, .int x_14, .long tw])) := by rw [ew_15, va_up_self]
        have h_17 : w_15 aa = some (.inl (cJ, 512, .inr (.inl (vp_updL f k x_2)))) := by rw [ew_15, va_up_ne _ _ (fun z => by rw [z, h_12] at h_13; cases h_13)]; exact h_13
        exact absurd (c59.trans c42.symm) c26
  · have hsame : mrg (Wd k) mask bits = Wd k := by rw [← eY, ← ex_1]; exact c26
    have hup : va_up Wd k (mrg (Wd k) mask bits) = Wd := by
      funext i
      by_cases hi : i = k
      · rw [hi, va_up_self, hsame]
      · rw [va_up_ne _ _ hi]
    refine W.widen (k := mc) (n := ms) (Nat.zero_le _) (Nat.zero_le _) ?_
    exact W.vret hx hb hr (fun t ht hW => ⟨⟨w, rfl, ⟨by rw [hup]; exact hp, kp.rf, fun _ => rfl, fun z => absurd hsame z⟩, hP.at ht⟩, hS.F ht⟩) hS.2.2 d_P_merge_30
set_option maxHeartbeats 4000000 in
set_option maxRecDepth 100000 in
/-- all words become x -/
theorem t_P_makeEven (l : Launch) (D : va_G) (cJ cI cP : ClassId) (bs : Nat) (w : Nat → Option va_E) (pa : Nat) (Wd : Nat → Int64) (tw : Int64) (hp : pg cJ w pa Wd tw) (x : Int64) : Met l y_P_makeEven ws_P_makeEven ({ frames := 0, cells := 0, slots := 0, locals := 0 }) (mPc D vwCl (mT cJ cI cP) bs w [.ref pa, .long x]) (va_Qv (S := (Nat → Option va_E)) (fun u => pg cJ u pa (fun _ => x) tw ∧ kp w u (pfp w pa) (pfp u pa)) (mB D vwCl bs (fun u => u)) (mA bs)) 0 0 (mA bs) := by
  refine Met.ofW (cc := c_P_makeEven) (maxL := 3) (ret := none) (by decide) rfl ?_
  intro p e s m args below meth c s₁ B hml hv
  obtain ⟨rfl, hbs, hP, hK⟩ := hv
  have hx := B.exec
  have hb := B.bytes
  have hr := B.returns
  have htg : ∀ w ∈ gt, w.before _ s = true := fun w h => atoms_spec (ws := ws_P_makeEven) B.pre w (List.mem_cons_of_mem _ h)
  have hown : s.vm.findClass R_P = some m.cls := findClass_of_methodNamed B.named
  have hlocks := B.notSynchronized
  have hS : va_S (mA bs) s.heap s.heap [] := va_S.rf
  have hl := lv_entry ([.ref pa, .long x]) (n := 3) (Nat.le_of_ble_eq_true rfl)
  rw [lg_entry_eq]
  generalize (lg_sl ([.ref pa, .long x]) ++ List.replicate (3 - (lg_sl ([.ref pa, .long x])).length) Slot.unset).toArray = ls at hl ⊢
  have hl : lv_has ls 3 [(0, .ref pa), (1, .long x)] := hl
  obtain ⟨wr, ev, ew, g1, g2, g3, g4, g5⟩ := id hp
  obtain ⟨nz, enz⟩ : ∃ x, x = nI (nzc Wd 512) := ⟨_, rfl⟩
  rw [← enz] at g1
  have f1 : w pa = some (.inr (ciP, [va_rf wr, .int ev, .long ew, .int nz, .long tw])) := g1
  refine lv_aload_n hx hb d_P_makeEven_0 rfl (lv_at hl 0 rfl) ?_
  refine lv_iconst (v := 1) hx hb d_P_makeEven_1 (by decide) ?_
  refine mw_put (C := R_P) (T := T_P) (N := 5) (ci := ciP) (v := .int 1) (ty := .boolean) (fs' := [va_rf (wr), .int 1, .long ew, .int nz, .long tw]) hx hb htg i_P ty_P tk_P nm_P hown hK hP hS f1 rfl 1 (by decide) (htg _ k_229) (fun _ h9 => h9) rfl (by decide +kernel) (by decide) (by decide) (Nat.le_of_ble_eq_true rfl) rfl d_P_makeEven_2 (fun H locs hP hS hz2 => ?_)
  obtain ⟨w_1, ew_1⟩ : ∃ z9, z9 = va_up w pa (some (.inr (ciP, [va_rf (wr), .int 1, .long ew, .int nz, .long tw])) : Option va_E) := ⟨_, rfl⟩
  rw [← ew_1] at hP
  have h_2 : w_1 pa = some (.inr (ciP, [va_rf (wr), .int 1, .long ew, .int nz, .long tw])) := by rw [ew_1, va_up_self]
  refine lv_aload_n hx hb d_P_makeEven_5 rfl (lv_at hl 0 rfl) ?_
  refine lv_lload_n hx hb d_P_makeEven_6 rfl (lv_at hl 1 rfl) ?_
  refine mw_put (C := R_P) (T := T_P) (N := 5) (ci := ciP) (v := .long x) (ty := .long) (fs' := [va_rf (wr), .int 1, .long x, .int nz, .long tw]) hx hb htg i_P ty_P tk_P nm_P hown hK hP hS h_2 rfl 2 (by decide) (htg _ k_230) (fun _ h9 => h9) rfl (by decide +kernel) rfl rfl (Nat.le_of_ble_eq_true rfl) rfl d_P_makeEven_7 (fun H locs hP hS hz7 => ?_)
  obtain ⟨w_3, ew_3⟩ : ∃ z9, z9 = va_up w_1 pa (some (.inr (ciP, [va_rf (wr), .int 1, .long x, .int nz, .long tw])) : Option va_E) := ⟨_, rfl⟩
  rw [← ew_3] at hP
  have h_4 : w_3 pa = some (.inr (ciP, [va_rf (wr), .int 1, .long x, .int nz, .long tw])) := by rw [ew_3, va_up_self]
  refine lv_aload_n hx hb d_P_makeEven_10 rfl (lv_at hl 0 rfl) ?_
  refine lv_lload_n hx hb d_P_makeEven_11 rfl (lv_at hl 1 rfl) ?_
  refine lv_lconst (v := 0) hx hb d_P_makeEven_12 rfl ?_
  refine lc_ne (tgt := 21) hx hb d_P_makeEven_13 d_P_makeEven_14 (by decide) (fun c13 => ?_) (fun c13 => ?_)
  · refine lv_sipush (v := 512) hx hb d_P_makeEven_21 (by decide) ?_
    refine mw_put (C := R_P) (T := T_P) (N := 5) (ci := ciP) (v := .int 512) (ty := .int) (fs' := [va_rf (wr), .int 1, .long x, .int 512, .long tw]) hx hb htg i_P ty_P tk_P nm_P hown hK hP hS h_4 rfl 3 (by decide) (htg _ k_231) (fun _ h9 => h9) rfl (by decide +kernel) rfl rfl (Nat.le_of_ble_eq_true rfl) rfl d_P_makeEven_24 (fun H locs hP hS hz24 => ?_)
    obtain ⟨w_5, ew_5⟩ : ∃ z9, z9 = va_up w_3 pa (some (.inr (ciP, [va_rf (wr), .int 1, .long x, .int 512, .long tw])) : Option va_E) := ⟨_, rfl⟩
    rw [← ew_5] at hP
    have h_6 : w_5 pa = some (.inr (ciP, [va_rf (wr), .int 1, .long x, .int 512, .long tw])) := by rw [ew_5, va_up_self]
    have hzF : (512 : Int32) = nI (nzc (fun _ => x) 512) := by rw [nzc_const]; first | (rw [if_pos c13]; rfl) | (rw [if_neg c13]; rfl)
    have oth : ∀ q, ¬ q = pa → w_5 q = w q := fun q z1 => by rw [ew_5, va_up_ne _ _ z1]; rw [ew_3, va_up_ne _ _ z1]; rw [ew_1, va_up_ne _ _ z1]
    have g5' : ∀ a, wr = some a → ∃ f : Nat → Int64, w_5 a = some (.inl (cJ, 512, .inr (.inl f))) ∧ ((1 : Int32) = 0 → ∀ i, i < 512 → f i = (fun _ => x) i) := fun a ha => by
      obtain ⟨f, q1, q2⟩ := g5 a ha
      exact ⟨f, by rw [oth a (fun z => by rw [z, g1] at q1; simp [pgE] at q1)]; exact q1, fun z => absurd z (by decide)⟩
    have fin := pg_fin (cJ := cJ) (W := fun _ => x) (wr := wr) (ev := 1) (ew := x) (tw := tw) g1 (w3 := w_5) h_6 (fun a ha => Or.inl ha) (fun q z1 _ => oth q z1) hzF (Or.inr rfl) (fun _ _ _ => rfl) (fun z => absurd z (by decide)) g5'
    exact W.vret hx hb hr (fun t ht hW => ⟨⟨w_5, rfl, fin, hP.at ht⟩, hS.F ht⟩) hS.2.2 d_P_makeEven_27
  · refine lv_iconst (v := 0) hx hb d_P_makeEven_17 (by decide) ?_
    refine lv_goto (tgt := 24) hx hb d_P_makeEven_18 (by decide) ?_
    refine mw_put (C := R_P) (T := T_P) (N := 5) (ci := ciP) (v := .int 0) (ty := .int) (fs' := [va_rf (wr), .int 1, .long x, .int 0, .long tw]) hx hb htg i_P ty_P tk_P nm_P hown hK hP hS h_4 rfl 3 (by decide) (htg _ k_231) (fun _ h9 => h9) rfl (by decide +kernel) rfl rfl (Nat.le_of_ble_eq_true rfl) rfl d_P_makeEven_24 (fun H locs hP hS hz24 => ?_)
    obtain ⟨w_7, ew_7⟩ : ∃ z9, z9 = va_up w_3 pa (some (.inr (ciP, [va_rf (wr), .int 1, .long x, .int 0, .long tw])) : Option va_E) := ⟨_, rfl⟩
    rw [← ew_7] at hP
    have h_8 : w_7 pa = some (.inr (ciP, [va_rf (wr), .int 1, .long x, .int 0, .long tw])) := by rw [ew_7, va_up_self]
    have hzF : (0 : Int32) = nI (nzc (fun _ => x) 512) := by rw [nzc_const]; first | (rw [if_pos c13]; rfl) | (rw [if_neg c13]; rfl)
    have oth : ∀ q, ¬ q = pa → w_7 q = w q := fun q z1 => by rw [ew_7, va_up_ne _ _ z1]; rw [ew_3, va_up_ne _ _ z1]; rw [ew_1, va_up_ne _ _ z1]
    have g5' : ∀ a, wr = some a → ∃ f : Nat → Int64, w_7 a = some (.inl (cJ, 512, .inr (.inl f))) ∧ ((1 : Int32) = 0 → ∀ i, i < 512 → f i = (fun _ => x) i) := fun a ha => by
      obtain ⟨f, q1, q2⟩ := g5 a ha
      exact ⟨f, by rw [oth a (fun z => by rw [z, g1] at q1; simp [pgE] at q1)]; exact q1, fun z => absurd z (by decide)⟩
    have fin := pg_fin (cJ := cJ) (W := fun _ => x) (wr := wr) (ev := 1) (ew := x) (tw := tw) g1 (w3 := w_7) h_8 (fun a ha => Or.inl ha) (fun q z1 _ => oth q z1) hzF (Or.inr rfl) (fun _ _ _ => rfl) (fun z => absurd z (by decide)) g5'
    exact W.vret hx hb hr (fun t ht hW => ⟨⟨w_7, rfl, fin, hP.at ht⟩, hS.F ht⟩) hS.2.2 d_P_makeEven_27
