set_option maxHeartbeats 4000000 in
set_option maxRecDepth 100000 in
/-- Arrays.fill: its loop -/
theorem lp_A_fill {p : Program} {l : Launch} {e : Env} {s : State} {m : MethodId} {args : Array Value} {below : List Frame} {meth : Method} {c : Code} {Q : State → Prop} {D : va_G} {cJ cI cP : ClassId} {bs : Nat} (hx : p.tables.exec = Jvm.exec) (hb : c.code = c_A_fill) (hml : c.maxLocals = 5) (hown : s.vm.findClass R_A = some m.cls) (htg : ∀ w ∈ gt, w.before args s = true) (hK : va_K D vwCl (mT cJ cI cP) s) (hbs : bs ≤ s.heap.size) (w : Nat → Option va_E) (a : Nat) (x : Int64) (kx : ∀ (w1 : Nat → Option va_E) (f : Nat → Int64) (ls : Array Slot) (H : Heap) (locs : List Loc), (∀ j, j < 512 → f j = x) → w1 a = some (.inl (cJ, 512, .inr (.inl f))) → (∀ q, ¬ q = a → w1 q = w q) → mw D vwCl bs w1 H → va_S (mA bs) s.heap H locs → W p l e ({ frames := 0, cells := 0, slots := 0, locals := 0 } : Room) s m args below meth c H locs 0 0 Q (F0 m 22 ls [])) :
    ∀ (k : Nat) (i : Nat) (w1 : Nat → Option va_E) (f : Nat → Int64) (ls : Array Slot) (H : Heap) (locs : List Loc), 512 - i < k → i ≤ 512 → (∀ j, j < i → f j = x) → w1 a = some (.inl (cJ, 512, .inr (.inl f))) → (∀ q, ¬ q = a → w1 q = w q) → mw D vwCl bs w1 H → va_S (mA bs) s.heap H locs → lv_has ls 5 [(4, .int (nI 512)), (3, .int (nI i)), (0, .ref a), (1, .long x)] → W p l e ({ frames := 0, cells := 0, slots := 0, locals := 0 } : Room) s m args below meth c H locs 0 0 Q (F0 m 6 ls []) := by
  intro k
  induction k with
  | zero => intro i w1 f ls H locs hk0; exact absurd hk0 (by omega)
  | succ k ih =>
    intro i w1 f ls H locs hk hi hf ha hq hP hS hl
    refine lv_iload_n hx hb d_A_fill_6 rfl (lv_at hl 1 rfl) ?_
    refine lv_iload hx hb d_A_fill_7 (lv_at hl 0 rfl) ?_
    refine lv_icmp_ge (tgt := 22) hx hb d_A_fill_9 (by decide) (fun c9 => ?_) (fun c9 => ?_)
    · have e5 : i = 512 := Nat.le_antisymm hi (Nat.le_of_not_lt (fun z => nI_ge z (by omega) c9))
      subst e5
      exact kx w1 f ls H locs hf ha hq hP hS
    · have hlt : i < 512 := Nat.lt_of_not_le (fun z => c9 (nI_le z (by omega)))
      refine lv_aload_n hx hb d_A_fill_12 rfl (lv_at hl 2 rfl) ?_
      refine lv_iload_n hx hb d_A_fill_13 rfl (lv_at hl 1 rfl) ?_
      refine lv_lload_n hx hb d_A_fill_14 rfl (lv_at hl 3 rfl) ?_
      refine mw_last hx hb hK hP hS 0 ha rfl (vp_in_nI hlt (by omega)) d_A_fill_15 (fun H locs hP hS hz15 => ?_)
      rw [show (nI i).toNatClampNeg = i from nI_clamp (by omega)] at hP
      obtain ⟨w_1, ew_1⟩ : ∃ z9, z9 = va_up w1 a (some (.inl (cJ, 512, .inr (.inl (vp_updL f i x)))) : Option va_E) := ⟨_, rfl⟩
      rw [← ew_1] at hP
      have h_2 : w_1 a = some (.inl (cJ, 512, .inr (.inl (vp_updL f i x)))) := by rw [ew_1, va_up_self]
      obtain ⟨i_3, ei_3⟩ : ∃ y : Int32, y = (nI i) + 1 := ⟨_, rfl⟩
      refine lv_iinc (v := i_3) (lv' := [(3, .int i_3), (4, .int (nI 512)), (0, .ref a), (1, .long x)]) hx hb d_A_fill_16 hl (k := 1) rfl (by rw [ei_3]; rfl) (by decide) rfl (fun ls hl => ?_)
      refine lv_goto (tgt := 6) hx hb d_A_fill_19 (by decide) ?_
      refine ih (i + 1) w_1 (vp_updL f i x) ls H locs (by omega) (by omega) (fun j hj => ?_) h_2 (fun q hq2 => by rw [ew_1, va_up_ne _ _ hq2]; exact hq q hq2) hP hS ?_
      · by_cases hji : j = i
        · subst hji; exact pk_uLs
        · rw [pk_uLn hji]; exact hf j (by omega)
      · rw [← nI_1 i, ← ei_3]; exact lv_sub hl [1, 0, 2, 3] rfl
set_option maxHeartbeats 4000000 in
set_option maxRecDepth 100000 in
/-- Arrays.fill(long[512], x) -/
theorem t_A_fill (l : Launch) (D : va_G) (cJ cI cP : ClassId) (bs : Nat) (w : Nat → Option va_E) (a : Nat) (x : Int64) (f0 : Nat → Int64) (ha : w a = some (.inl (cJ, 512, .inr (.inl f0)))) : Met l y_A_fill ws_A_fill ({ frames := 0, cells := 0, slots := 0, locals := 0 }) (mPc D vwCl (mT cJ cI cP) bs w [.ref a, .long x]) (va_Qv (S := (Nat → Option va_E)) (fun u => (∃ f : Nat → Int64, u a = some (.inl (cJ, 512, .inr (.inl f))) ∧ ∀ j, j < 512 → f j = x) ∧ ∀ q, ¬ q = a → u q = w q) (mB D vwCl bs (fun u => u)) (mA bs)) 0 0 (mA bs) := by
  refine Met.ofW (cc := c_A_fill) (maxL := 5) (ret := none) (by decide) rfl ?_
  intro p e s m args below meth c s₁ B hml hv
  obtain ⟨rfl, hbs, hP, hK⟩ := hv
  have hx := B.exec
  have hb := B.bytes
  have hr := B.returns
  have htg : ∀ w ∈ gt, w.before _ s = true := fun w h => atoms_spec (ws := ws_A_fill) B.pre w (List.mem_cons_of_mem _ h)
  have hown : s.vm.findClass R_A = some m.cls := findClass_of_methodNamed B.named
  have hlocks := B.notSynchronized
  have hS : va_S (mA bs) s.heap s.heap [] := va_S.rf
  have hl := lv_entry ([.ref a, .long x]) (n := 5) (Nat.le_of_ble_eq_true rfl)
  rw [lg_entry_eq]
  generalize (lg_sl ([.ref a, .long x]) ++ List.replicate (5 - (lg_sl ([.ref a, .long x])).length) Slot.unset).toArray = ls at hl ⊢
  have hl : lv_has ls 5 [(0, .ref a), (1, .long x)] := hl
  refine lv_iconst (v := 0) hx hb d_A_fill_0 (by decide) ?_
  refine lv_istore_n (lv' := [(3, .int 0), (0, .ref a), (1, .long x)]) hx hb d_A_fill_1 rfl hl (by decide) rfl (fun ls hl => ?_)
  refine lv_aload_n hx hb d_A_fill_2 rfl (lv_at hl 1 rfl) ?_
  refine mw_alen (v := nI 512) hx hb hK hP 0 ha rfl rfl d_A_fill_3 ?_
  refine lv_istore (lv' := [(4, .int (nI 512)), (3, .int 0), (0, .ref a), (1, .long x)]) hx hb d_A_fill_4 hl (by decide) rfl (fun ls hl => ?_)
  refine lp_A_fill (D := D) (cJ := cJ) (cI := cI) (cP := cP) (bs := bs) hx hb hml hown htg hK hbs w a x (fun w1 f ls H locs hf h1 h2 hP hS => ?_) 513 0 w f0 ls _ _ (by omega) (by omega) (fun j hj => absurd hj (by omega)) ha (fun _ _ => rfl) hP hS (lv_sub hl [0, 1, 2, 3] rfl)
  exact W.vret hx hb hr (fun t ht hW => ⟨⟨w1, rfl, ⟨⟨f, h1, hf⟩, h2⟩, hP.at ht⟩, hS.F ht⟩) hS.2.2 d_A_fill_22
set_option maxHeartbeats 4000000 in
set_option maxRecDepth 100000 in
/-- writtenOutWords: the page has an array of its own now, and is not even -/
theorem t_P_wow (l : Launch) (D : va_G) (cJ cI cP : ClassId) (bs : Nat) (w : Nat → Option va_E) (pa : Nat) (wr : Option Nat) (ev : Int32) (ew : Int64) (nz : Int32) (tw : Int64) (f1 : w pa = some (pgE wr ev ew nz tw)) (f2 : ∀ a, wr = some a → ∃ f : Nat → Int64, w a = some (.inl (cJ, 512, .inr (.inl f)))) (mc ms : Nat) (hm : wr = none → 1 ≤ mc ∧ 512 ≤ ms) : Met l y_P_writtenOutWords ws_P_writtenOutWords ({ frames := 1, cells := mc, slots := ms, locals := 24 }) (mPc D vwCl (mT cJ cI cP) bs w [.ref pa]) (va_Qr (S := ((Nat → Option va_E) × Nat × (Nat → Int64))) (fun u => u.1 pa = some (pgE (some u.2.1) 0 ew nz tw) ∧ u.1 u.2.1 = some (.inl (cJ, 512, .inr (.inl u.2.2))) ∧ (wr = some u.2.1 ∨ w u.2.1 = none) ∧ (∀ q, ¬ q = pa → ¬ q = u.2.1 → u.1 q = w q) ∧ (ev = 0 → ∀ f0 a, wr = some a → w a = some (.inl (cJ, 512, .inr (.inl f0))) → u.2.2 = f0) ∧ (¬ ev = 0 → ∀ j, j < 512 → u.2.2 j = ew)) (fun u ra t => ra = (fun u => u.2.1) u ∧ mw D vwCl bs ((fun u => u.1) u) t.heap) (mA bs)) mc ms (mA bs) := by
  refine Met.ofW (cc := c_P_writtenOutWords) (maxL := 1) (ret := (some (.array .long))) (by decide) rfl ?_
  intro p e s m args below meth c s₁ B hml hv
  obtain ⟨rfl, hbs, hP, hK⟩ := hv
  have hx := B.exec
  have hb := B.bytes
  have hr := B.returns
  have htg : ∀ w ∈ gt, w.before _ s = true := fun w h => atoms_spec (ws := ws_P_writtenOutWords) B.pre w (List.mem_cons_of_mem _ h)
  have hown : s.vm.findClass R_P = some m.cls := findClass_of_methodNamed B.named
  have hlocks := B.notSynchronized
  have hS : va_S (mA bs) s.heap s.heap [] := va_S.rf
  have hl := lv_entry ([.ref pa]) (n := 1) (Nat.le_of_ble_eq_true rfl)
  rw [lg_entry_eq]
  generalize (lg_sl ([.ref pa]) ++ List.replicate (1 - (lg_sl ([.ref pa])).length) Slot.unset).toArray = ls at hl ⊢
  have hl : lv_has ls 1 [(0, .ref pa)] := hl
  rcases wr with _ | wa
  · have f1 : w pa = some (.inr (ciP, [.null, .int ev, .long ew, .int nz, .long tw])) := f1
    refine lv_aload_n hx hb d_P_writtenOutWords_0 rfl (lv_at hl 0 rfl) ?_
    refine mw_get (C := R_P) (T := T_P) (N := 5) (ci := ciP) (v := .null) hx hb htg i_P hown hK hP f1 rfl 0 (by decide) (htg _ k_228) (fun _ h9 => h9) rfl d_P_writtenOutWords_1 ?_
    refine lv_ifnonnullN hx hb d_P_writtenOutWords_4 ?_
    refine lv_aload_n hx hb d_P_writtenOutWords_7 rfl (lv_at hl 0 rfl) ?_
    refine lv_sipush (v := 512) hx hb d_P_writtenOutWords_8 (by decide) ?_
    refine mw_newa (atype := .long) (ty := .long) (N' := 512) (a0 := (512, .inr (.inl (fun _ => 0)))) hx hb (htg _ k_59) rfl hK hP hS (hbs) 0 (cA := cJ) rfl rfl rfl (by decide) rfl (by decide) (hm rfl).1 (hm rfl).2 d_P_writtenOutWords_11 (fun q_1 H nq_1 eq_1 hP hS hz11 => ?_)
    obtain ⟨w_2, ew_2⟩ : ∃ z9, z9 = va_up w q_1 (some (.inl (cJ, 512, .inr (.inl (fun _ => 0)))) : Option va_E) := ⟨_, rfl⟩
    rw [← ew_2] at hP
    have h_3 : w_2 q_1 = some (.inl (cJ, 512, .inr (.inl (fun _ => 0)))) := by rw [ew_2, va_up_self]
    have h_4 : w_2 pa = some (.inr (ciP, [.null, .int ev, .long ew, .int nz, .long tw])) := by rw [ew_2, va_up_ne _ _ (fun z => by rw [z, nq_1] at f1; cases f1)]; exact f1
    refine mw_put (C := R_P) (T := T_P) (N := 5) (ci := ciP) (v := .ref q_1) (ty := .array .long) (fs' := [.ref q_1, .int ev, .long ew, .int nz, .long tw]) hx hb htg i_P ty_P tk_P nm_P hown hK hP hS h_4 rfl 0 (by decide) (htg _ k_228) (fun _ h9 => h9) rfl (by decide +kernel) rfl rfl (Nat.le_of_ble_eq_true rfl) rfl d_P_writtenOutWords_13 (fun H locs hP hS hz13 => ?_)
    obtain ⟨w_5, ew_5⟩ : ∃ z9, z9 = va_up w_2 pa (some (.inr (ciP, [.ref q_1, .int ev, .long ew, .int nz, .long tw])) : Option va_E) := ⟨_, rfl⟩
    rw [← ew_5] at hP
    have h_6 : w_5 pa = some (.inr (ciP, [.ref q_1, .int ev, .long ew, .int nz, .long tw])) := by rw [ew_5, va_up_self]
    have h_7 : w_5 q_1 = some (.inl (cJ, 512, .inr (.inl (fun _ => 0)))) := by rw [ew_5, va_up_ne _ _ (fun z => by rw [z, h_4] at h_3; cases h_3)]; exact h_3
    refine lv_aload_n hx hb d_P_writtenOutWords_16 rfl (lv_at hl 0 rfl) ?_
    refine mw_get (C := R_P) (T := T_P) (N := 5) (ci := ciP) (v := .int ev) hx hb htg i_P hown hK hP h_6 rfl 1 (by decide) (htg _ k_229) (fun _ h9 => h9) rfl d_P_writtenOutWords_17 ?_
    refine lv_if_eq (tgt := 39) hx hb d_P_writtenOutWords_20 (by decide) (fun c20 => ?_) (fun c20 => ?_)
    · refine lv_aload_n hx hb d_P_writtenOutWords_39 rfl (lv_at hl 0 rfl) ?_
      refine mw_get (C := R_P) (T := T_P) (N := 5) (ci := ciP) (v := .ref q_1) hx hb htg i_P hown hK hP h_6 rfl 0 (by decide) (htg _ k_228) (fun _ h9 => h9) rfl d_P_writtenOutWords_40 ?_
      refine W.widen (k := mc) (n := ms) (hm rfl).1 (hm rfl).2 ?_
      exact W.aret (v := .ref q_1) hx hb hr (Or.inr ⟨_, rfl⟩) (Or.inr ⟨_, rfl⟩) (fun t ht hW => ⟨⟨(w_5, q_1, (fun _ => 0)), q_1, rfl, ⟨(by show w_5 pa = _; rw [h_6]; first | rfl | (rw [c20]; rfl)), h_7, Or.inr nq_1, (fun q z1 z2 => by show w_5 q = w q; rw [ew_5, va_up_ne _ _ z1]; rw [ew_2, va_up_ne _ _ z2]), (fun _ f0 a ha => by cases ha), (fun z j hj => by first | exact absurd c20 z | exact b2 j hj)⟩, rfl, hP.at ht⟩, hS.F ht⟩) hS.2.2 d_P_writtenOutWords_43
    · refine lv_aload_n hx hb d_P_writtenOutWords_23 rfl (lv_at hl 0 rfl) ?_
      refine mw_get (C := R_P) (T := T_P) (N := 5) (ci := ciP) (v := .ref q_1) hx hb htg i_P hown hK hP h_6 rfl 0 (by decide) (htg _ k_228) (fun _ h9 => h9) rfl d_P_writtenOutWords_24 ?_
      refine lv_aload_n hx hb d_P_writtenOutWords_27 rfl (lv_at hl 0 rfl) ?_
      refine mw_get (C := R_P) (T := T_P) (N := 5) (ci := ciP) (v := .long ew) hx hb htg i_P hown hK hP h_6 rfl 2 (by decide) (htg _ k_230) (fun _ h9 => h9) rfl d_P_writtenOutWords_28 ?_
      refine mc_v (va_runS (As := [.ref q_1, .long ew]) (rest := []) ⟨hx, hb, hml, hown, htg⟩ (t_A_fill l D cJ cI cP bs w_5 q_1 ew (fun _ => 0) h_7) (va_cwS (own := R_P) 2 htg (ginT k_254 k_255 k_33 k_256) rfl rfl rfl (by decide +kernel) ⟨Nat.le_of_ble_eq_true rfl, Nat.le_of_ble_eq_true rfl⟩) (mPc.preS hbs hS hP hK) rfl rfl hl.1 rfl (lv_room (Nat.le_of_ble_eq_true rfl)) d_P_writtenOutWords_31 ⟨(hm rfl).1, (hm rfl).2⟩) hS (fun u9 H locs hw hP hz hS => ?_)
      obtain ⟨⟨f9, b1, b2⟩, b3⟩ := hw
      have f9p : u9 pa = some (.inr (ciP, [.ref q_1, .int ev, .long ew, .int nz, .long tw])) := by rw [b3 pa (fun z => by rw [z, h_7] at h_6; cases h_6)]; exact h_6
      refine lv_aload_n hx hb d_P_writtenOutWords_34 rfl (lv_at hl 0 rfl) ?_
      refine lv_iconst (v := 0) hx hb d_P_writtenOutWords_35 (by decide) ?_
      refine mw_put (C := R_P) (T := T_P) (N := 5) (ci := ciP) (v := .int 0) (ty := .boolean) (fs' := [.ref q_1, .int 0, .long ew, .int nz, .long tw]) hx hb htg i_P ty_P tk_P nm_P hown hK hP hS f9p rfl 1 (by decide) (htg _ k_229) (fun _ h9 => h9) rfl (by decide +kernel) (by decide) (by decide) (Nat.le_of_ble_eq_true rfl) rfl d_P_writtenOutWords_36 (fun H locs hP hS hz36 => ?_)
      obtain ⟨w_8, ew_8⟩ : ∃ z9, z9 = va_up u9 pa (some (.inr (ciP, [.ref q_1, .int 0, .long ew, .int nz, .long tw])) : Option va_E) := ⟨_, rfl⟩
      rw [← ew_8] at hP
      have h_9 : w_8 pa = some (.inr (ciP, [.ref q_1, .int 0, .long ew, .int nz, .long tw])) := by rw [ew_8, va_up_self]
      have h_10 : w_8 q_1 = some (.inl (cJ, 512, .inr (.inl f9))) := by rw [ew_8, va_up_ne _ _ (fun z => by rw [z, f9p] at b1; cases b1)]; exact b1
      refine lv_aload_n hx hb d_P_writtenOutWords_39 rfl (lv_at hl 0 rfl) ?_
      refine mw_get (C := R_P) (T := T_P) (N := 5) (ci := ciP) (v := .ref q_1) hx hb htg i_P hown hK hP h_9 rfl 0 (by decide) (htg _ k_228) (fun _ h9 => h9) rfl d_P_writtenOutWords_40 ?_
      refine W.widen (k := mc) (n := ms) (hm rfl).1 (hm rfl).2 ?_
      exact W.aret (v := .ref q_1) hx hb hr (Or.inr ⟨_, rfl⟩) (Or.inr ⟨_, rfl⟩) (fun t ht hW => ⟨⟨(w_8, q_1, f9), q_1, rfl, ⟨(by show w_8 pa = _; rw [h_9]; first | rfl | (rw [c20]; rfl)), h_10, Or.inr nq_1, (fun q z1 z2 => by show w_8 q = w q; rw [ew_8, va_up_ne _ _ z1]; rw [b3 q z2]; rw [ew_5, va_up_ne _ _ z1]; rw [ew_2, va_up_ne _ _ z2]), (fun _ f0 a ha => by cases ha), (fun z j hj => by first | exact absurd c20 z | exact b2 j hj)⟩, rfl, hP.at ht⟩, hS.F ht⟩) hS.2.2 d_P_writtenOutWords_43
  · have f1 : w pa = some (.inr (ciP, [.ref wa, .int ev, .long ew, .int nz, .long tw])) := f1
    obtain ⟨f0, q1⟩ := f2 wa rfl
    refine lv_aload_n hx hb d_P_writtenOutWords_0 rfl (lv_at hl 0 rfl) ?_
    refine mw_get (C := R_P) (T := T_P) (N := 5) (ci := ciP) (v := .ref wa) hx hb htg i_P hown hK hP f1 rfl 0 (by decide) (htg _ k_228) (fun _ h9 => h9) rfl d_P_writtenOutWords_1 ?_
    refine lv_ifnonnull (tgt := 16) hx hb d_P_writtenOutWords_4 (by decide) ?_
    refine lv_aload_n hx hb d_P_writtenOutWords_16 rfl (lv_at hl 0 rfl) ?_
    refine mw_get (C := R_P) (T := T_P) (N := 5) (ci := ciP) (v := .int ev) hx hb htg i_P hown hK hP f1 rfl 1 (by decide) (htg _ k_229) (fun _ h9 => h9) rfl d_P_writtenOutWords_17 ?_
    refine lv_if_eq (tgt := 39) hx hb d_P_writtenOutWords_20 (by decide) (fun c20 => ?_) (fun c20 => ?_)
    · refine lv_aload_n hx hb d_P_writtenOutWords_39 rfl (lv_at hl 0 rfl) ?_
      refine mw_get (C := R_P) (T := T_P) (N := 5) (ci := ciP) (v := .ref wa) hx hb htg i_P hown hK hP f1 rfl 0 (by decide) (htg _ k_228) (fun _ h9 => h9) rfl d_P_writtenOutWords_40 ?_
      refine W.widen (k := mc) (n := ms) (Nat.zero_le _) (Nat.zero_le _) ?_
      exact W.aret (v := .ref wa) hx hb hr (Or.inr ⟨_, rfl⟩) (Or.inr ⟨_, rfl⟩) (fun t ht hW => ⟨⟨(w, wa, f0), wa, rfl, ⟨(by show w pa = _; rw [f1]; first | rfl | (rw [c20]; rfl)), q1, Or.inl rfl, (fun q z1 z2 => by show w q = w q; rfl), (fun z f0 a ha h9 => by cases ha; first | exact absurd z c20 | (rw [q1] at h9; cases h9; rfl)), (fun z j hj => by first | exact absurd c20 z | exact b2 j hj)⟩, rfl, hP.at ht⟩, hS.F ht⟩) hS.2.2 d_P_writtenOutWords_43
    · refine lv_aload_n hx hb d_P_writtenOutWords_23 rfl (lv_at hl 0 rfl) ?_
      refine mw_get (C := R_P) (T := T_P) (N := 5) (ci := ciP) (v := .ref wa) hx hb htg i_P hown hK hP f1 rfl 0 (by decide) (htg _ k_228) (fun _ h9 => h9) rfl d_P_writtenOutWords_24 ?_
      refine lv_aload_n hx hb d_P_writtenOutWords_27 rfl (lv_at hl 0 rfl) ?_
      refine mw_get (C := R_P) (T := T_P) (N := 5) (ci := ciP) (v := .long ew) hx hb htg i_P hown hK hP f1 rfl 2 (by decide) (htg _ k_230) (fun _ h9 => h9) rfl d_P_writtenOutWords_28 ?_
      refine mc_v (va_runS (As := [.ref wa, .long ew]) (rest := []) ⟨hx, hb, hml, hown, htg⟩ (t_A_fill l D cJ cI cP bs w wa ew f0 q1) (va_cwS (own := R_P) 2 htg (ginT k_254 k_255 k_33 k_256) rfl rfl rfl (by decide +kernel) ⟨Nat.le_of_ble_eq_true rfl, Nat.le_of_ble_eq_true rfl⟩) (mPc.preS hbs hS hP hK) rfl rfl hl.1 rfl (lv_room (Nat.le_of_ble_eq_true rfl)) d_P_writtenOutWords_31 ⟨Nat.zero_le _, Nat.zero_le _⟩) hS (fun u9 H locs hw hP hz hS => ?_)
      obtain ⟨⟨f9, b1, b2⟩, b3⟩ := hw
      have f9p : u9 pa = some (.inr (ciP, [.ref wa, .int ev, .long ew, .int nz, .long tw])) := by rw [b3 pa (fun z => by rw [z, q1] at f1; cases f1)]; exact f1
      refine lv_aload_n hx hb d_P_writtenOutWords_34 rfl (lv_at hl 0 rfl) ?_
      refine lv_iconst (v := 0) hx hb d_P_writtenOutWords_35 (by decide) ?_
      refine mw_put (C := R_P) (T := T_P) (N := 5) (ci := ciP) (v := .int 0) (ty := .boolean) (fs' := [.ref wa, .int 0, .long ew, .int nz, .long tw]) hx hb htg i_P ty_P tk_P nm_P hown hK hP hS f9p rfl 1 (by decide) (htg _ k_229) (fun _ h9 => h9) rfl (by decide +kernel) (by decide) (by decide) (Nat.le_of_ble_eq_true rfl) rfl d_P_writtenOutWords_36 (fun H locs hP hS hz36 => ?_)
      obtain ⟨w_11, ew_11⟩ : ∃ z9, z9 = va_up u9 pa (some (.inr (ciP, [.ref wa, .int 0, .long ew, .int nz, .long tw])) : Option va_E) := ⟨_, rfl⟩
      rw [← ew_11] at hP
      have h_12 : w_11 pa = some (.inr (ciP, [.ref wa, .int 0, .long ew, .int nz, .long tw])) := by rw [ew_11, va_up_self]
      have h_13 : w_11 wa = some (.inl (cJ, 512, .inr (.inl f9))) := by rw [ew_11, va_up_ne _ _ (fun z => by rw [z, f9p] at b1; cases b1)]; exact b1
      refine lv_aload_n hx hb d_P_writtenOutWords_39 rfl (lv_at hl 0 rfl) ?_
      refine mw_get (C := R_P) (T := T_P) (N := 5) (ci := ciP) (v := .ref wa) hx hb htg i_P hown hK hP h_12 rfl 0 (by decide) (htg _ k_228) (fun _ h9 => h9) rfl d_P_writtenOutWords_40 ?_
      refine W.widen (k := mc) (n := ms) (Nat.zero_le _) (Nat.zero_le _) ?_
      exact W.aret (v := .ref wa) hx hb hr (Or.inr ⟨_, rfl⟩) (Or.inr ⟨_, rfl⟩) (fun t ht hW => ⟨⟨(w_11, wa, f9), wa, rfl, ⟨(by show w_11 pa = _; rw [h_12]; first | rfl | (rw [c20]; rfl)), h_13, Or.inl rfl, (fun q z1 z2 => by show w_11 q = w q; rw [ew_11, va_up_ne _ _ z1]; rw [b3 q z2]), (fun z f0 a ha h9 => by cases ha; first | exact absurd z c20 | (rw [q1] at h9; cases h9; rfl)), (fun z j hj => by first | exact absurd c20 z | exact b2 j hj)⟩, rfl, hP.at ht⟩, hS.F ht⟩) hS.2.2 d_P_writtenOutWords_43
