theorem tot_0 {Wd : Nat → Int64} (h : ∀ j, j < 512 → Wd j = 0) : ∀ k, k ≤ 4096 → tot Wd k = 0 := by
  intro k
  induction k with
  | zero => intro _; rfl
  | succ k ih =>
    intro hk
    show tot Wd k + wtk Wd k = 0
    rw [ih (by omega), wtk_0 (by rw [h _ (by omega)]; exact Nat.zero_add (k % 8) ▸ swd_z (show swd 0 0 = 0 from rfl) (k % 8)), Int64.add_zero]
set_option maxHeartbeats 4000000 in
set_option maxRecDepth 100000 in
/-- sum -/
theorem t_S_sum (l : Launch) (hl0 : l.stackTraces = false) (D : va_G) (cJ cI cP : ClassId) (bs : Nat) (w : Nat → Option va_E) (h n : Nat) (M T : Nat → Int64) (ra : Nat → Int64) (rs : Nat → Int32) (aT aA aS : Nat) (pt : Nat → Option Nat) (hs : sm cJ cI cP w h n M T ra rs aT aA aS pt) (x : Int32) : vx_Met l y_S_sum ws_S_sum ({ frames := 6, cells := 1, slots := 6, locals := 90 }) (mPx D vwCl (mT cJ cI cP) bs w [.ref h, .int x]) (va_Ql (S := Unit) (fun r _ => ∃ i, i < n ∧ x = nI i ∧ r = tot (fun j => M (512 * i + j)) 4096) (mB D vwCl bs (fun _ => w)) (mA bs)) (xX D vwCl bs w (fun E => E = eIO ∧ ¬ ∃ i, i < n ∧ x = nI i)) 1 6 (mA bs) := by
  refine vx_ofW (cc := c_S_sum) (maxL := 3) (ret := (some .long)) (by decide) rfl ?_
  intro p e s m args below meth c s₁ B hml hex hv
  obtain ⟨rfl, hbs, hP, hK, hE⟩ := hv
  have hx := B.exec
  have hb := B.bytes
  have hr := B.returns
  have htg : ∀ w ∈ gt, w.before _ s = true := fun w h => atoms_spec (ws := ws_S_sum) B.pre w (List.mem_cons_of_mem _ h)
  have hown : s.vm.findClass R_S = some m.cls := findClass_of_methodNamed B.named
  have hlocks := B.notSynchronized
  have hS : va_S (mA bs) s.heap s.heap [] := va_S.rf
  have hl := lv_entry ([.ref h, .int x]) (n := 3) (Nat.le_of_ble_eq_true rfl)
  rw [lg_entry_eq]
  generalize (lg_sl ([.ref h, .int x]) ++ List.replicate (3 - (lg_sl ([.ref h, .int x])).length) Slot.unset).toArray = ls at hl ⊢
  have hl : lv_has ls 3 [(0, .ref h), (1, .int x)] := hl
  obtain ⟨hn, s1, s2, s3, s4, s5, s6, s7⟩ := id hs
  have f1 : w h = some (.inr (ciS, [.int (nI n), .ref aT, .ref aA, .ref aS])) := s1
  refine lv_aload_n hx hb d_S_sum_0 rfl (lv_at hl 0 rfl) ?_
  refine lv_iload_n hx hb d_S_sum_1 rfl (lv_at hl 1 rfl) ?_
  refine mc_i (va_runV (As := [.int x]) (rest := []) ⟨hx, hb, hml, hown, htg⟩ (t_S_isPage l D cJ cI cP bs w h n M T ra rs aT aA aS pt hs x) (cwV (own := R_S) (C := R_S) 1 htg (ginV k_383 k_385 k_16 k_25 k_386) rfl rfl rfl (by decide +kernel) ⟨Nat.le_of_ble_eq_true rfl, Nat.le_of_ble_eq_true rfl⟩) (mPc.preV (ci := ciS) (q := (R_S, T_S, 4)) hbs hS hP hK rfl f1) rfl rfl hl.1 rfl (lv_room (Nat.le_of_ble_eq_true rfl)) d_S_sum_2 ⟨Nat.le_of_ble_eq_true rfl, Nat.le_of_ble_eq_true rfl⟩) hS (fun r2 u2 H locs hw hP hz2 hS => ?_)
  have hpg := hw
  refine lv_if_ne (tgt := 18) hx hb d_S_sum_5 (by decide) (fun c5 => ?_) (fun c5 => ?_)
  · obtain ⟨i, hi, rfl⟩ : ∃ i, i < n ∧ x = nI i := by
      rcases hpg with z | z
      · exact z.2
      · exact absurd z.1 c5
    have hl : lv_has ls 3 [(0, .ref h), (1, .int (nI i))] := hl
    refine lv_aload_n hx hb d_S_sum_18 rfl (lv_at hl 0 rfl) ?_
    refine mw_get (C := R_S) (T := T_S) (N := 4) (ci := ciS) (v := .ref aT) hx hb htg i_S hown hK hP f1 rfl 1 (by decide) (htg _ k_47) (fun _ h9 => h9) rfl d_S_sum_19 ?_
    refine lv_iload_n hx hb d_S_sum_22 rfl (lv_at hl 1 rfl) ?_
    refine mw_aldq hx hb hK hP 2 s2 rfl (vp_in_nI hi (by omega)) d_S_sum_23 ?_
    rw [show (nI i).toNatClampNeg = i from nI_clamp (by omega)]
    rcases hpt : pt i with _ | pz
    · refine lv_astore_nN (lv' := [(2, .null), (0, .ref h), (1, .int (nI i))]) hx hb d_S_sum_24 rfl hl (by decide) rfl (fun ls hl => ?_)
      refine lv_aload_nN hx hb d_S_sum_25 rfl (lv_at hl 0 rfl) ?_
      refine lv_ifnonnullN hx hb d_S_sum_26 ?_
      refine lv_lconst (v := 0) hx hb d_S_sum_29 rfl ?_
      refine lv_goto (tgt := 37) hx hb d_S_sum_30 (by decide) ?_
      refine W.widen (k := 1) (n := 6) (Nat.zero_le _) (Nat.zero_le _) ?_
      refine vx_ret ?_
      exact W.lret (v := 0) hx hb hr (fun t ht hW => ⟨⟨_, (), rfl, ⟨i, hi, rfl, (tot_0 (fun j hj => (s5 i hi hpt).2 j hj) 4096 (Nat.le_refl _)).symm⟩, hP.at ht⟩, hS.F ht⟩) hS.2.2 d_S_sum_37
    · obtain ⟨wr, ev, ew, y1, y2⟩ := s6 i pz hi hpt
      refine lv_astore_n (lv' := [(2, .ref pz), (0, .ref h), (1, .int (nI i))]) hx hb d_S_sum_24 rfl hl (by decide) rfl (fun ls hl => ?_)
      refine lv_aload_n hx hb d_S_sum_25 rfl (lv_at hl 0 rfl) ?_
      refine lv_ifnonnull (tgt := 33) hx hb d_S_sum_26 (by decide) ?_
      refine lv_aload_n hx hb d_S_sum_33 rfl (lv_at hl 0 rfl) ?_
      refine mc_l (va_runV (As := []) (rest := []) ⟨hx, hb, hml, hown, htg⟩ (t_P_ws l D cJ cI cP bs w pz (fun j => M (512 * i + j)) (T i) (s6 i pz hi hpt)) (cwV (own := R_S) (C := R_P) 0 htg (ginV k_399 k_400 k_401 k_32 k_402) rfl rfl rfl (by decide +kernel) ⟨Nat.le_of_ble_eq_true rfl, Nat.le_of_ble_eq_true rfl⟩) (mPc.preV (ci := ciP) (q := (R_P, T_P, 5)) hbs hS hP hK rfl y1) rfl rfl hl.1 rfl (lv_room (Nat.le_of_ble_eq_true rfl)) d_S_sum_34 ⟨Nat.le_of_ble_eq_true rfl, Nat.le_of_ble_eq_true rfl⟩) hS (fun r34 u34 H locs hw hP hz34 hS => ?_)
      refine W.widen (k := 1) (n := 6) (Nat.zero_le _) (Nat.zero_le _) ?_
      refine vx_ret ?_
      exact W.lret (v := r34) hx hb hr (fun t ht hW => ⟨⟨_, (), rfl, ⟨i, hi, rfl, hw⟩, hP.at ht⟩, hS.F ht⟩) hS.2.2 d_S_sum_37
  · have hno : ¬ ∃ i, i < n ∧ x = nI i := by
      rcases hpg with z | z
      · rw [z.1] at c5; exact absurd c5 (by decide)
      · exact z.2
    exact mw_throw (E := eIO) hx hb hl0 hown htg hE (by decide +kernel) k_166 k_31 hE.2.2.2.2.2.2.2.2.2.2.2.2 g_IO ng_IO hE.2.2.1.2.1 ot_IO hP hS (hl.1.trans hml.symm) d_S_sum_8 d_S_sum_11 d_S_sum_12 d_S_sum_14 d_S_sum_17 hex (Nat.le_of_ble_eq_true rfl) (Nat.le_of_ble_eq_true rfl) (Nat.le_of_ble_eq_true rfl) (Nat.le_of_ble_eq_true rfl) hlocks (⟨rfl, hno⟩) (Nat.le_of_ble_eq_true rfl) (Nat.le_of_ble_eq_true rfl)
/-- how many of the first pages have a word that is not 0 -/
def usd (M : Nat → Int64) : Nat → Nat
  | 0 => 0
  | i + 1 => usd M i + (if nzc (fun j => M (512 * i + j)) 512 = 0 then 0 else 1)
theorem usd_le (M : Nat → Int64) : ∀ i, usd M i ≤ i := by
  intro i
  induction i with
  | zero => exact Nat.le_refl _
  | succ i ih =>
    show usd M i + (if nzc (fun j => M (512 * i + j)) 512 = 0 then 0 else 1) ≤ i + 1
    split <;> omega
set_option maxHeartbeats 4000000 in
set_option maxRecDepth 100000 in
/-- used: its loop -/
theorem lp_S_used {p : Program} {l : Launch} {e : Env} {s : State} {m : MethodId} {args : Array Value} {below : List Frame} {meth : Method} {c : Code} {Q : State → Prop} {D : va_G} {cJ cI cP : ClassId} {bs : Nat} (hx : p.tables.exec = Jvm.exec) (hb : c.code = c_S_used) (hml : c.maxLocals = 4) (hown : s.vm.findClass R_S = some m.cls) (htg : ∀ w ∈ gt, w.before args s = true) (hK : va_K D vwCl (mT cJ cI cP) s) (hbs : bs ≤ s.heap.size) (w : Nat → Option va_E) (h n : Nat) (M T : Nat → Int64) (ra : Nat → Int64) (rs : Nat → Int32) (aT aA aS : Nat) (pt : Nat → Option Nat) (hs : sm cJ cI cP w h n M T ra rs aT aA aS pt) (kx : ∀ (ls : Array Slot) (H : Heap) (locs : List Loc), mw D vwCl bs w H → va_S (mA bs) s.heap H locs → lv_has ls 4 [(1, .int (nI (usd M n)))] → W p l e ({ frames := 1, cells := 0, slots := 0, locals := 20 } : Room) s m args below meth c H locs 0 0 Q (F0 m 39 ls [])) :
    ∀ (k : Nat) (i : Nat) (ls : Array Slot) (H : Heap) (locs : List Loc), n - i < k → i ≤ n → mw D vwCl bs w H → va_S (mA bs) s.heap H locs → lv_has ls 4 [(1, .int (nI (usd M i))), (2, .int (nI i)), (0, .ref h)] → W p l e ({ frames := 1, cells := 0, slots := 0, locals := 20 } : Room) s m args below meth c H locs 0 0 Q (F0 m 4 ls []) := by
  intro k
  induction k with
  | zero => intro i ls H locs hk0; exact absurd hk0 (by omega)
  | succ k ih =>
    intro i ls H locs hk hin hP hS hl
    obtain ⟨hn, s1, s2, s3, s4, s5, s6, s7⟩ := id hs
    have f1 : w h = some (.inr (ciS, [.int (nI n), .ref aT, .ref aA, .ref aS])) := s1
    refine lv_iload_n hx hb d_S_used_4 rfl (lv_at hl 1 rfl) ?_
    refine lv_aload_n hx hb d_S_used_5 rfl (lv_at hl 2 rfl) ?_
    refine mw_get (C := R_S) (T := T_S) (N := 4) (ci := ciS) (v := .int (nI n)) hx hb htg i_S hown hK hP f1 rfl 0 (by decide) (htg _ k_46) (fun _ h9 => h9) rfl d_S_used_6 ?_
    refine lv_icmp_ge (tgt := 39) hx hb d_S_used_9 (by decide) (fun c9 => ?_) (fun c9 => ?_)
    · have e5 : i = n := Nat.le_antisymm hin (Nat.le_of_not_lt (fun z => nI_ge z (by omega) c9))
      subst e5
      exact kx ls H locs hP hS (lv_sub hl [0] rfl)
    · have hi : i < n := Nat.lt_of_not_le (fun z => c9 (nI_le z (by omega)))
      refine lv_aload_n hx hb d_S_used_12 rfl (lv_at hl 2 rfl) ?_
      refine mw_get (C := R_S) (T := T_S) (N := 4) (ci := ciS) (v := .ref aT) hx hb htg i_S hown hK hP f1 rfl 1 (by decide) (htg _ k_47) (fun _ h9 => h9) rfl d_S_used_13 ?_
      refine lv_iload_n hx hb d_S_used_16 rfl (lv_at hl 1 rfl) ?_
      refine mw_aldq hx hb hK hP 2 s2 rfl (vp_in_nI hi (by omega)) d_S_used_17 ?_
      rw [show (nI i).toNatClampNeg = i from nI_clamp (by omega)]
      rcases hpt : pt i with _ | pz
      · refine lv_astore_nN (lv' := [(3, .null), (1, .int (nI (usd M i))), (2, .int (nI i)), (0, .ref h)]) hx hb d_S_used_18 rfl hl (by decide) rfl (fun ls hl => ?_)
        refine lv_aload_nN hx hb d_S_used_19 rfl (lv_at hl 0 rfl) ?_
        refine lv_ifnullN (tgt := 33) hx hb d_S_used_20 (by decide) ?_
        obtain ⟨i_1, ei_1⟩ : ∃ y : Int32, y = (nI i) + 1 := ⟨_, rfl⟩
        refine lv_iinc (v := i_1) (lv' := [(2, .int i_1), (3, .null), (1, .int (nI (usd M i))), (0, .ref h)]) hx hb d_S_used_33 hl (k := 2) rfl (by rw [ei_1]; rfl) (by decide) rfl (fun ls hl => ?_)
        refine lv_goto (tgt := 4) hx hb d_S_used_36 (by decide) ?_
        have hu : nI (usd M i) = nI (usd M (i + 1)) := by
          show nI (usd M i) = nI (usd M i + (if nzc (fun j => M (512 * i + j)) 512 = 0 then 0 else 1))
          rw [if_pos ((nzc_0 _ 512).mpr (fun j hj => (s5 i hi hpt).2 j hj))]
          rfl
        exact ih (i + 1) ls H locs (by omega) (by omega) hP hS (by rw [← nI_1 i, ← ei_1, ← hu]; exact lv_sub hl [2, 0, 3] rfl)
      · obtain ⟨wr, ev, ew, y1, y2⟩ := s6 i pz hi hpt
        refine lv_astore_n (lv' := [(3, .ref pz), (1, .int (nI (usd M i))), (2, .int (nI i)), (0, .ref h)]) hx hb d_S_used_18 rfl hl (by decide) rfl (fun ls hl => ?_)
        refine lv_aload_n hx hb d_S_used_19 rfl (lv_at hl 0 rfl) ?_
        refine lv_ifnull hx hb d_S_used_20 ?_
        refine lv_aload_n hx hb d_S_used_23 rfl (lv_at hl 0 rfl) ?_
        refine mc_i (va_runV (As := []) (rest := []) ⟨hx, hb, hml, hown, htg⟩ (t_P_isBlank l D cJ cI cP bs w pz (fun j => M (512 * i + j)) (T i) (s6 i pz hi hpt)) (cwV (own := R_S) (C := R_P) 0 htg (ginV k_69 k_70 k_71 k_32 k_72) rfl rfl rfl (by decide +kernel) ⟨Nat.le_of_ble_eq_true rfl, Nat.le_of_ble_eq_true rfl⟩) (mPc.preV (ci := ciP) (q := (R_P, T_P, 5)) hbs hS hP hK rfl y1) rfl rfl hl.1 rfl (lv_room (Nat.le_of_ble_eq_true rfl)) d_S_used_24 ⟨Nat.le_of_ble_eq_true rfl, Nat.le_of_ble_eq_true rfl⟩) hS (fun r24 u24 H locs hw hP hz24 hS => ?_)
        refine lv_if_ne (tgt := 33) hx hb d_S_used_27 (by decide) (fun c27 => ?_) (fun c27 => ?_)
        · obtain ⟨i_2, ei_2⟩ : ∃ y : Int32, y = (nI i) + 1 := ⟨_, rfl⟩
          refine lv_iinc (v := i_2) (lv' := [(2, .int i_2), (3, .ref pz), (1, .int (nI (usd M i))), (0, .ref h)]) hx hb d_S_used_33 hl (k := 2) rfl (by rw [ei_2]; rfl) (by decide) rfl (fun ls hl => ?_)
          refine lv_goto (tgt := 4) hx hb d_S_used_36 (by decide) ?_
          have hu : nI (usd M i) = nI (usd M (i + 1)) := by
            show nI (usd M i) = nI (usd M i + (if nzc (fun j => M (512 * i + j)) 512 = 0 then 0 else 1))
            rw [if_pos (Classical.byContradiction (fun z => by rw [if_neg z] at hw; exact c27 hw))]
            rfl
          exact ih (i + 1) ls H locs (by omega) (by omega) hP hS (by rw [← nI_1 i, ← ei_2, ← hu]; exact lv_sub hl [2, 0, 3] rfl)
        · obtain ⟨i_3, ei_3⟩ : ∃ y : Int32, y = (nI (usd M i)) + 1 := ⟨_, rfl⟩
          refine lv_iinc (v := i_3) (lv' := [(1, .int i_3), (3, .ref pz), (2, .int (nI i)), (0, .ref h)]) hx hb d_S_used_30 hl (k := 1) rfl (by rw [ei_3]; rfl) (by decide) rfl (fun ls hl => ?_)
          obtain ⟨i_4, ei_4⟩ : ∃ y : Int32, y = (nI i) + 1 := ⟨_, rfl⟩
          refine lv_iinc (v := i_4) (lv' := [(2, .int i_4), (1, .int i_3), (3, .ref pz), (0, .ref h)]) hx hb d_S_used_33 hl (k := 2) rfl (by rw [ei_4]; rfl) (by decide) rfl (fun ls hl => ?_)
          refine lv_goto (tgt := 4) hx hb d_S_used_36 (by decide) ?_
          have hu : i_3 = nI (usd M (i + 1)) := by
            rw [ei_3, nI_1]
            show nI (usd M i + 1) = nI (usd M i + (if nzc (fun j => M (512 * i + j)) 512 = 0 then 0 else 1))
            rw [if_neg (fun z => by rw [if_pos z] at hw; rw [hw] at c27; exact absurd c27 (by decide))]
          exact ih (i + 1) ls H locs (by omega) (by omega) hP hS (by rw [← nI_1 i, ← ei_4, ← hu]; exact lv_sub hl [1, 0, 3] rfl)
set_option maxHeartbeats 4000000 in
set_option maxRecDepth 100000 in
/-- used -/
theorem t_S_used (l : Launch) (D : va_G) (cJ cI cP : ClassId) (bs : Nat) (w : Nat → Option va_E) (h n : Nat) (M T : Nat → Int64) (ra : Nat → Int64) (rs : Nat → Int32) (aT aA aS : Nat) (pt : Nat → Option Nat) (hs : sm cJ cI cP w h n M T ra rs aT aA aS pt) : Met l y_S_used ws_S_used ({ frames := 1, cells := 0, slots := 0, locals := 20 }) (mPc D vwCl (mT cJ cI cP) bs w [.ref h]) (va_Qi (S := Unit) (fun r _ => r = nI (usd M n)) (mB D vwCl bs (fun _ => w)) (mA bs)) 0 0 (mA bs) := by
  refine Met.ofW (cc := c_S_used) (maxL := 4) (ret := (some .int)) (by decide) rfl ?_
  intro p e s m args below meth c s₁ B hml hv
  obtain ⟨rfl, hbs, hP, hK⟩ := hv
  have hx := B.exec
  have hb := B.bytes
  have hr := B.returns
  have htg : ∀ w ∈ gt, w.before _ s = true := fun w h => atoms_spec (ws := ws_S_used) B.pre w (List.mem_cons_of_mem _ h)
  have hown : s.vm.findClass R_S = some m.cls := findClass_of_methodNamed B.named
  have hlocks := B.notSynchronized
  have hS : va_S (mA bs) s.heap s.heap [] := va_S.rf
  have hl := lv_entry ([.ref h]) (n := 4) (Nat.le_of_ble_eq_true rfl)
  rw [lg_entry_eq]
  generalize (lg_sl ([.ref h]) ++ List.replicate (4 - (lg_sl ([.ref h])).length) Slot.unset).toArray = ls at hl ⊢
  have hl : lv_has ls 4 [(0, .ref h)] := hl
  obtain ⟨hn, s1, s2, s3, s4, s5, s6, s7⟩ := id hs
  have f1 : w h = some (.inr (ciS, [.int (nI n), .ref aT, .ref aA, .ref aS])) := s1
  refine lv_iconst (v := 0) hx hb d_S_used_0 (by decide) ?_
  refine lv_istore_n (lv' := [(1, .int 0), (0, .ref h)]) hx hb d_S_used_1 rfl hl (by decide) rfl (fun ls hl => ?_)
  refine lv_iconst (v := 0) hx hb d_S_used_2 (by decide) ?_
  refine lv_istore_n (lv' := [(2, .int 0), (1, .int 0), (0, .ref h)]) hx hb d_S_used_3 rfl hl (by decide) rfl (fun ls hl => ?_)
  refine lp_S_used (D := D) (cJ := cJ) (cI := cI) (cP := cP) (bs := bs) hx hb hml hown htg hK hbs w h n M T ra rs aT aA aS pt hs (fun ls H locs hP hS hl => ?_) (n + 1) 0 ls _ _ (by omega) (by omega) hP hS (lv_sub hl [1, 0, 2] rfl)
  refine lv_iload_n hx hb d_S_used_39 rfl (lv_at hl 0 rfl) ?_
  exact W.iret (v := nI (usd M n)) hx hb hr (fun t ht hW => ⟨⟨_, (), rfl, rfl, hP.at ht⟩, hS.F ht⟩) hS.2.2 d_S_used_40
def pgs (x : Int32) : Nat := if x < 1 ∨ 1024 < x then 1024 else x.toNatClampNeg
theorem pgs_in (x : Int32) : 1 ≤ pgs x ∧ pgs x ≤ 1024 := by
  unfold pgs
  by_cases h : x < 1 ∨ 1024 < x
  · rw [if_pos h]; omega
  · rw [if_neg h]
    obtain ⟨j, hj, rfl⟩ := nI_of (x := x) (fun z => h (Or.inl (Int32.lt_of_lt_of_le z (by decide))))
    rw [nI_clamp hj]
    have a1 : ¬ j < 1 := fun z => h (Or.inl (show nI j < nI 1 from nI_lt z (by omega)))
    have a2 : ¬ 1024 < j := fun z => h (Or.inr (show nI 1024 < nI j from nI_lt z hj))
    omega
theorem pgs_ok {x : Int32} (h1 : ¬ x < 1) (h2 : ¬ 1024 < x) : x = nI (pgs x) := by
  unfold pgs
  rw [if_neg (fun z => z.elim h1 h2)]
  obtain ⟨j, hj, rfl⟩ := nI_of (x := x) (fun z => h1 (Int32.lt_of_lt_of_le z (by decide)))
  rw [nI_clamp hj]
theorem pgs_no {x : Int32} (h : x < 1 ∨ 1024 < x) : (1024 : Int32) = nI (pgs x) := by
  unfold pgs
  rw [if_pos h]
  rfl
set_option maxHeartbeats 4000000 in
set_option maxRecDepth 100000 in
/-- the constructor -/
theorem t_S_init (l : Launch) (D : va_G) (cJ cI cP : ClassId) (bs : Nat) (w : Nat → Option va_E) (h : Nat) (hh : w h = some (.inr (ciS, [.int 0, .null, .null, .null]))) (x : Int32) : Met l y_S_init ws_S_init ({ frames := 1, cells := 3, slots := 1032, locals := 20 }) (mPx D vwCl (mT cJ cI cP) bs w [.ref h, .int x]) (va_Qv (S := (Nat → Option va_E)) (fun u => ∃ aT aA aS, sm cJ cI cP u h (pgs x) (fun _ => 0) (fun _ => 0) (fun _ => 0) (fun _ => 0) aT aA aS (fun _ => none) ∧ (∀ q, ¬ w q = none → ¬ q = h → u q = w q) ∧ (∀ q, sfp u h q → q = h ∨ w q = none)) (mB D vwCl bs (fun u => u)) (mA bs)) 3 1032 (mA bs) := by
  refine Met.ofW (cc := c_S_init) (maxL := 2) (ret := none) (by decide) rfl ?_
  intro p e s m args below meth c s₁ B hml hv
  obtain ⟨rfl, hbs, hP, hK, hE⟩ := hv
  have hx := B.exec
  have hb := B.bytes
  have hr := B.returns
  have htg : ∀ w ∈ gt, w.before _ s = true := fun w h => atoms_spec (ws := ws_S_init) B.pre w (List.mem_cons_of_mem _ h)
  have hown : s.vm.findClass R_S = some m.cls := findClass_of_methodNamed B.named
  have hlocks := B.notSynchronized
  have hS : va_S (mA bs) s.heap s.heap [] := va_S.rf
  have hin : meth.name = "<init>" := (name_of_methodNamed B.named B.method).1
  have hl := lv_entry ([.ref h, .int x]) (n := 2) (Nat.le_of_ble_eq_true rfl)
  rw [lg_entry_eq]
  generalize (lg_sl ([.ref h, .int x]) ++ List.replicate (2 - (lg_sl ([.ref h, .int x])).length) Slot.unset).toArray = ls at hl ⊢
  have hl : lv_has ls 2 [(0, .ref h), (1, .int x)] := hl
  have hpi := pgs_in x
  obtain ⟨n, en⟩ : ∃ z9, z9 = pgs x := ⟨_, rfl⟩
  rw [← en] at hpi
  have hP0 := hP
  refine lv_aload_n hx hb d_S_init_0 rfl (lv_at hl 0 rfl) ?_
  refine W.objInit hx hb hown (htg _ k_41) (htg _ k_42) (htg _ k_43) rfl (by rw [hml]; exact hl.1) rfl d_S_init_1 (Nat.le_of_ble_eq_true rfl) (Nat.le_of_ble_eq_true rfl) ?_
  refine W.eq (g2 := F0 m 4 ls []) rfl ?_
  refine lv_aload_n hx hb d_S_init_4 rfl (lv_at hl 0 rfl) ?_
  refine lv_iload_n hx hb d_S_init_5 rfl (lv_at hl 1 rfl) ?_
  refine lv_iconst (v := 1) hx hb d_S_init_6 (by decide) ?_
  refine lv_icmp_lt (tgt := 21) hx hb d_S_init_7 (by decide) (fun c7 => ?_) (fun c7 => ?_)
  · refine lv_sipush (v := 1024) hx hb d_S_init_21 (by decide) ?_
    rw [show 1024 = nI n from (by rw [en]; exact pgs_no (by first | exact Or.inr c14 | exact Or.inl c7))]
    refine mw_putF (C := R_S) (T := T_S) (N := 4) (ci := ciS) (v := .int (nI n)) (ty := .int) (fs' := [.int (nI n), .null, .null, .null]) hx hb htg i_S ty_S tk_S nm_S hown hK hP hS hh rfl 0 (by decide) (htg _ k_46) (fun _ h9 => h9) rfl hin rfl (by decide +kernel) rfl rfl (Nat.le_of_ble_eq_true rfl) rfl d_S_init_24 (fun H locs hP hS hz24 => ?_)
    obtain ⟨w_1, ew_1⟩ : ∃ z9, z9 = va_up w h (some (.inr (ciS, [.int (nI n), .null, .null, .null])) : Option va_E) := ⟨_, rfl⟩
    rw [← ew_1] at hP
    have h_2 : w_1 h = some (.inr (ciS, [.int (nI n), .null, .null, .null])) := by rw [ew_1, va_up_self]
    refine lv_aload_n hx hb d_S_init_27 rfl (lv_at hl 0 rfl) ?_
    refine lv_aload_n hx hb d_S_init_28 rfl (lv_at hl 0 rfl) ?_
    refine mw_get (C := R_S) (T := T_S) (N := 4) (ci := ciS) (v := .int (nI n)) hx hb htg i_S hown hK hP h_2 rfl 0 (by decide) (htg _ k_46) (fun _ h9 => h9) rfl d_S_init_29 ?_
    have hS01 := hS
    refine mw_newq (C := R_P) (N' := n) hx hb hown (htg _ k_44) (va_AO.use hE.1.2) hK hP hS hbs 2 (cA := cP) rfl (nI_pos (by omega)) (nI_clamp (by omega)) (by omega) (by show 0 + 1 ≤ 3; omega) (by show 0 + n ≤ 1032; omega) d_S_init_32 (fun q_t H nq_t eq_t hP hS hz32 => ?_)
    obtain ⟨w_3, ew_3⟩ : ∃ z9, z9 = va_up w_1 q_t (some (.inl (cP, n, .inr (.inr (.inr (.inr (fun _ => none)))))) : Option va_E) := ⟨_, rfl⟩
    rw [← ew_3] at hP
    have h_4 : w_3 q_t = some (.inl (cP, n, .inr (.inr (.inr (.inr (fun _ => none)))))) := by rw [ew_3, va_up_self]
    have h_5 : w_3 h = some (.inr (ciS, [.int (nI n), .null, .null, .null])) := by rw [ew_3, va_up_ne _ _ (fun z => by rw [z, nq_t] at h_2; cases h_2)]; exact h_2
    have mq_t : w q_t = none := hP0.fresh (by rw [eq_t]; exact hS01.1)
    refine mw_putF (C := R_S) (T := T_S) (N := 4) (ci := ciS) (v := .ref q_t) (ty := .array (.object "SharedMemory$Page")) (fs' := [.int (nI n), .ref q_t, .null, .null]) hx hb htg i_S ty_S tk_S nm_S hown hK hP hS h_5 rfl 1 (by decide) (htg _ k_47) (fun _ h9 => h9) rfl hin rfl (by decide +kernel) rfl rfl (Nat.le_of_ble_eq_true rfl) rfl d_S_init_35 (fun H locs hP hS hz35 => ?_)
    obtain ⟨w_6, ew_6⟩ : ∃ z9, z9 = va_up w_3 h (some (.inr (ciS, [.int (nI n), .ref q_t, .null, .null])) : Option va_E) := ⟨_, rfl⟩
    rw [← ew_6] at hP
    have h_7 : w_6 h = some (.inr (ciS, [.int (nI n), .ref q_t, .null, .null])) := by rw [ew_6, va_up_self]
    have h_8 : w_6 q_t = some (.inl (cP, n, .inr (.inr (.inr (.inr (fun _ => none)))))) := by rw [ew_6, va_up_ne _ _ (fun z => by rw [z, h_5] at h_4; cases h_4)]; exact h_4
    refine lv_aload_n hx hb d_S_init_38 rfl (lv_at hl 0 rfl) ?_
    refine lv_iconst (v := 4) hx hb d_S_init_39 (by decide) ?_
    have hS02 := hS
    refine mw_newa (atype := .long) (ty := .long) (N' := 4) (a0 := (4, .inr (.inl (fun _ => 0)))) hx hb (htg _ k_59) rfl hK hP hS (hbs) 0 (cA := cJ) rfl rfl rfl (by decide) rfl (by decide) (Nat.le_of_ble_eq_true rfl) (by show 0 + n + 4 ≤ 1032; omega) d_S_init_40 (fun q_9 H nq_9 eq_9 hP hS hz40 => ?_)
    obtain ⟨w_10, ew_10⟩ : ∃ z9, z9 = va_up w_6 q_9 (some (.inl (cJ, 4, .inr (.inl (fun _ => 0)))) : Option va_E) := ⟨_, rfl⟩
    rw [← ew_10] at hP
    have h_11 : w_10 q_9 = some (.inl (cJ, 4, .inr (.inl (fun _ => 0)))) := by rw [ew_10, va_up_self]
    have h_12 : w_10 h = some (.inr (ciS, [.int (nI n), .ref q_t, .null, .null])) := by rw [ew_10, va_up_ne _ _ (fun z => by rw [z, nq_9] at h_7; cases h_7)]; exact h_7
    have h_13 : w_10 q_t = some (.inl (cP, n, .inr (.inr (.inr (.inr (fun _ => none)))))) := by rw [ew_10, va_up_ne _ _ (fun z => by rw [z, nq_9] at h_8; cases h_8)]; exact h_8
    have mq_9 : w q_9 = none := hP0.fresh (by rw [eq_9]; exact hS02.1)
    refine mw_putF (C := R_S) (T := T_S) (N := 4) (ci := ciS) (v := .ref q_9) (ty := .array .long) (fs' := [.int (nI n), .ref q_t, .ref q_9, .null]) hx hb htg i_S ty_S tk_S nm_S hown hK hP hS h_12 rfl 2 (by decide) (htg _ k_48) (fun _ h9 => h9) rfl hin rfl (by decide +kernel) rfl rfl (Nat.le_of_ble_eq_true rfl) rfl d_S_init_42 (fun H locs hP hS hz42 => ?_)
    obtain ⟨w_14, ew_14⟩ : ∃ z9, z9 = va_up w_10 h (some (.inr (ciS, [.int (nI n), .ref q_t, .ref q_9, .null])) : Option va_E) := ⟨_, rfl⟩
    rw [← ew_14] at hP
    have h_15 : w_14 h = some (.inr (ciS, [.int (nI n), .ref q_t, .ref q_9, .null])) := by rw [ew_14, va_up_self]
    have h_16 : w_14 q_9 = some (.inl (cJ, 4, .inr (.inl (fun _ => 0)))) := by rw [ew_14, va_up_ne _ _ (fun z => by rw [z, h_12] at h_11; cases h_11)]; exact h_11
    have h_17 : w_14 q_t = some (.inl (cP, n, .inr (.inr (.inr (.inr (fun _ => none)))))) := by rw [ew_14, va_up_ne _ _ (fun z => by rw [z, h_12] at h_13; cases h_13)]; exact h_13
    refine lv_aload_n hx hb d_S_init_45 rfl (lv_at hl 0 rfl) ?_
    refine lv_iconst (v := 4) hx hb d_S_init_46 (by decide) ?_
    have hS03 := hS
    refine mw_newa (atype := .int) (ty := .int) (N' := 4) (a0 := (4, .inl (fun _ => 0))) hx hb (htg _ k_60) rfl hK hP hS (hbs) 1 (cA := cI) rfl rfl rfl (by decide) rfl (by decide) (Nat.le_of_ble_eq_true rfl) (by show 0 + n + 4 + 4 ≤ 1032; omega) d_S_init_47 (fun q_18 H nq_18 eq_18 hP hS hz47 => ?_)
    obtain ⟨w_19, ew_19⟩ : ∃ z9, z9 = va_up w_14 q_18 (some (.inl (cI, 4, .inl (fun _ => 0))) : Option va_E) := ⟨_, rfl⟩
    rw [← ew_19] at hP
    have h_20 : w_19 q_18 = some (.inl (cI, 4, .inl (fun _ => 0))) := by rw [ew_19, va_up_self]
    have h_21 : w_19 h = some (.inr (ciS, [.int (nI n), .ref q_t, .ref q_9, .null])) := by rw [ew_19, va_up_ne _ _ (fun z => by rw [z, nq_18] at h_15; cases h_15)]; exact h_15
    have h_22 : w_19 q_9 = some (.inl (cJ, 4, .inr (.inl (fun _ => 0)))) := by rw [ew_19, va_up_ne _ _ (fun z => by rw [z, nq_18] at h_16; cases h_16)]; exact h_16
    have h_23 : w_19 q_t = some (.inl (cP, n, .inr (.inr (.inr (.inr (fun _ => none)))))) := by rw [ew_19, va_up_ne _ _ (fun z => by rw [z, nq_18] at h_17; cases h_17)]; exact h_17
    have mq_18 : w q_18 = none := hP0.fresh (by rw [eq_18]; exact hS03.1)
    refine mw_putF (C := R_S) (T := T_S) (N := 4) (ci := ciS) (v := .ref q_18) (ty := .array .int) (fs' := [.int (nI n), .ref q_t, .ref q_9, .ref q_18]) hx hb htg i_S ty_S tk_S nm_S hown hK hP hS h_21 rfl 3 (by decide) (htg _ k_49) (fun _ h9 => h9) rfl hin rfl (by decide +kernel) rfl rfl (Nat.le_of_ble_eq_true rfl) rfl d_S_init_49 (fun H locs hP hS hz49 => ?_)
    obtain ⟨w_24, ew_24⟩ : ∃ z9, z9 = va_up w_19 h (some (.inr (ciS, [.int (nI n), .ref q_t, .ref q_9, .ref q_18])) : Option va_E) := ⟨_, rfl⟩
    rw [← ew_24] at hP
    have h_25 : w_24 h = some (.inr (ciS, [.int (nI n), .ref q_t, .ref q_9, .ref q_18])) := by rw [ew_24, va_up_self]
    have h_26 : w_24 q_18 = some (.inl (cI, 4, .inl (fun _ => 0))) := by rw [ew_24, va_up_ne _ _ (fun z => by rw [z, h_21] at h_20; cases h_20)]; exact h_20
    have h_27 : w_24 q_9 = some (.inl (cJ, 4, .inr (.inl (fun _ => 0)))) := by rw [ew_24, va_up_ne _ _ (fun z => by rw [z, h_21] at h_22; cases h_22)]; exact h_22
    have h_28 : w_24 q_t = some (.inl (cP, n, .inr (.inr (.inr (.inr (fun _ => none)))))) := by rw [ew_24, va_up_ne _ _ (fun z => by rw [z, h_21] at h_23; cases h_23)]; exact h_23
    refine W.widen (k := 3) (n := 1032) (Nat.le_of_ble_eq_true rfl) (by show 0 + n + 4 + 4 ≤ 1032; omega) ?_
    have oth : ∀ q, ¬ w q = none → ¬ q = h → w_24 q = w q := fun q z1 z2 => by rw [ew_24, va_up_ne _ _ z2]; rw [ew_19, va_up_ne _ _ (fun z => z1 (by rw [z]; exact mq_18))]; rw [ew_14, va_up_ne _ _ z2]; rw [ew_10, va_up_ne _ _ (fun z => z1 (by rw [z]; exact mq_9))]; rw [ew_6, va_up_ne _ _ z2]; rw [ew_3, va_up_ne _ _ (fun z => z1 (by rw [z]; exact mq_t))]; rw [ew_1, va_up_ne _ _ z2]
    have hsm : sm cJ cI cP w_24 h n (fun _ => 0) (fun _ => 0) (fun _ => 0) (fun _ => 0) q_t q_9 q_18 (fun _ => none) := ⟨hpi, h_25, h_28, h_27, h_26, fun i _ _ => ⟨rfl, fun _ _ => rfl⟩, fun i p _ z => (by cases z), fun i j p p2 q _ _ z => (by cases z)⟩
    have hfp : ∀ q, sfp w_24 h q → q = h ∨ w q = none := fun q z => by
      rw [sfp_iff hsm.2.1 hsm.2.2.1] at z
      rcases z with z | z | z | z | ⟨i, p2, _, z, _⟩
      · exact Or.inl z
      · exact Or.inr (by rw [z]; exact mq_t)
      · exact Or.inr (by rw [z]; exact mq_9)
      · exact Or.inr (by rw [z]; exact mq_18)
      · cases z
    exact W.vret hx hb hr (fun t ht hW => ⟨⟨w_24, rfl, ⟨q_t, q_9, q_18, by rw [← en]; exact hsm, oth, hfp⟩, hP.at ht⟩, hS.F ht⟩) hS.2.2 d_S_init_52
  · refine lv_iload_n hx hb d_S_init_10 rfl (lv_at hl 1 rfl) ?_
    refine lv_sipush (v := 1024) hx hb d_S_init_11 (by decide) ?_
    refine lv_icmp_gt (tgt := 21) hx hb d_S_init_14 (by decide) (fun c14 => ?_) (fun c14 => ?_)
    · refine lv_sipush (v := 1024) hx hb d_S_init_21 (by decide) ?_
      rw [show 1024 = nI n from (by rw [en]; exact pgs_no (by first | exact Or.inr c14 | exact Or.inl c7))]
      refine mw_putF (C := R_S) (T := T_S) (N := 4) (ci := ciS) (v := .int (nI n)) (ty := .int) (fs' := [.int (nI n), .null, .null, .null]) hx hb htg i_S ty_S tk_S nm_S hown hK hP hS hh rfl 0 (by decide) (htg _ k_46) (fun _ h9 => h9) rfl hin rfl (by decide +kernel) rfl rfl (Nat.le_of_ble_eq_true rfl) rfl d_S_init_24 (fun H locs hP hS hz24 => ?_)
      obtain ⟨w_29, ew_29⟩ : ∃ z9, z9 = va_up w h (some (.inr (ciS, [.int (nI n), .null, .null, .null])) : Option va_E) := ⟨_, rfl⟩
      rw [← ew_29] at hP
      have h_30 : w_29 h = some (.inr (ciS, [.int (nI n), .null, .null, .null])) := by rw [ew_29, va_up_self]
      refine lv_aload_n hx hb d_S_init_27 rfl (lv_at hl 0 rfl) ?_
      refine lv_aload_n hx hb d_S_init_28 rfl (lv_at hl 0 rfl) ?_
      refine mw_get (C := R_S) (T := T_S) (N := 4) (ci := ciS) (v := .int (nI n)) hx hb htg i_S hown hK hP h_30 rfl 0 (by decide) (htg _ k_46) (fun _ h9 => h9) rfl d_S_init_29 ?_
      have hS01 := hS
      refine mw_newq (C := R_P) (N' := n) hx hb hown (htg _ k_44) (va_AO.use hE.1.2) hK hP hS hbs 2 (cA := cP) rfl (nI_pos (by omega)) (nI_clamp (by omega)) (by omega) (by show 0 + 1 ≤ 3; omega) (by show 0 + n ≤ 1032; omega) d_S_init_32 (fun q_t H nq_t eq_t hP hS hz32 => ?_)
      obtain ⟨w_31, ew_31⟩ : ∃ z9, z9 = va_up w_29 q_t (some (.inl (cP, n, .inr (.inr (.inr (.inr (fun _ => none)))))) : Option va_E) := ⟨_, rfl⟩
      rw [← ew_31] at hP
      have h_32 : w_31 q_t = some (.inl (cP, n, .inr (.inr (.inr (.inr (fun _ => none)))))) := by rw [ew_31, va_up_self]
      have h_33 : w_31 h = some (.inr (ciS, [.int (nI n), .null, .null, .null])) := by rw [ew_31, va_up_ne _ _ (fun z => by rw [z, nq_t] at h_30; cases h_30)]; exact h_30
      have mq_t : w q_t = none := hP0.fresh (by rw [eq_t]; exact hS01.1)
      refine mw_putF (C := R_S) (T := T_S) (N := 4) (ci := ciS) (v := .ref q_t) (ty := .array (.object "SharedMemory$Page")) (fs' := [.int (nI n), .ref q_t, .null, .null]) hx hb htg i_S ty_S tk_S nm_S hown hK hP hS h_33 rfl 1 (by decide) (htg _ k_47) (fun _ h9 => h9) rfl hin rfl (by decide +kernel) rfl rfl (Nat.le_of_ble_eq_true rfl) rfl d_S_init_35 (fun H locs hP hS hz35 => ?_)
      obtain ⟨w_34, ew_34⟩ : ∃ z9, z9 = va_up w_31 h (some (.inr (ciS, [.int (nI n), .ref q_t, .null, .null])) : Option va_E) := ⟨_, rfl⟩
      rw [← ew_34] at hP
      have h_35 : w_34 h = some (.inr (ciS, [.int (nI n), .ref q_t, .null, .null])) := by rw [ew_34, va_up_self]
      have h_36 : w_34 q_t = some (.inl (cP, n, .inr (.inr (.inr (.inr (fun _ => none)))))) := by rw [ew_34, va_up_ne _ _ (fun z => by rw [z, h_33] at h_32; cases h_32)]; exact h_32
      refine lv_aload_n hx hb d_S_init_38 rfl (lv_at hl 0 rfl) ?_
      refine lv_iconst (v := 4) hx hb d_S_init_39 (by decide) ?_
      have hS02 := hS
      refine mw_newa (atype := .long) (ty := .long) (N' := 4) (a0 := (4, .inr (.inl (fun _ => 0)))) hx hb (htg _ k_59) rfl hK hP hS (hbs) 0 (cA := cJ) rfl rfl rfl (by decide) rfl (by decide) (Nat.le_of_ble_eq_true rfl) (by show 0 + n + 4 ≤ 1032; omega) d_S_init_40 (fun q_37 H nq_37 eq_37 hP hS hz40 => ?_)
      obtain ⟨w_38, ew_38⟩ : ∃ z9, z9 = va_up w_34 q_37 (some (.inl (cJ, 4, .inr (.inl (fun _ => 0)))) : Option va_E) := ⟨_, rfl⟩
      rw [← ew_38] at hP
      have h_39 : w_38 q_37 = some (.inl (cJ, 4, .inr (.inl (fun _ => 0)))) := by rw [ew_38, va_up_self]
      have h_40 : w_38 h = some (.inr (ciS, [.int (nI n), .ref q_t, .null, .null])) := by rw [ew_38, va_up_ne _ _ (fun z => by rw [z, nq_37] at h_35; cases h_35)]; exact h_35
      have h_41 : w_38 q_t = some (.inl (cP, n, .inr (.inr (.inr (.inr (fun _ => none)))))) := by rw [ew_38, va_up_ne _ _ (fun z => by rw [z, nq_37] at h_36; cases h_36)]; exact h_36
      have mq_37 : w q_37 = none := hP0.fresh (by rw [eq_37]; exact hS02.1)
      refine mw_putF (C := R_S) (T := T_S) (N := 4) (ci := ciS) (v := .ref q_37) (ty := .array .long) (fs' := [.int (nI n), .ref q_t, .ref q_37, .null]) hx hb htg i_S ty_S tk_S nm_S hown hK hP hS h_40 rfl 2 (by decide) (htg _ k_48) (fun _ h9 => h9) rfl hin rfl (by decide +kernel) rfl rfl (Nat.le_of_ble_eq_true rfl) rfl d_S_init_42 (fun H locs hP hS hz42 => ?_)
      obtain ⟨w_42, ew_42⟩ : ∃ z9, z9 = va_up w_38 h (some (.inr (ciS, [.int (nI n), .ref q_t, .ref q_37, .null])) : Option va_E) := ⟨_, rfl⟩
      rw [← ew_42] at hP
      have h_43 : w_42 h = some (.inr (ciS, [.int (nI n), .ref q_t, .ref q_37, .null])) := by rw [ew_42, va_up_self]
      have h_44 : w_42 q_37 = some (.inl (cJ, 4, .inr (.inl (fun _ => 0)))) := by rw [ew_42, va_up_ne _ _ (fun z => by rw [z, h_40] at h_39; cases h_39)]; exact h_39
      have h_45 : w_42 q_t = some (.inl (cP, n, .inr (.inr (.inr (.inr (fun _ => none)))))) := by rw [ew_42, va_up_ne _ _ (fun z => by rw [z, h_40] at h_41; cases h_41)]; exact h_41
      refine lv_aload_n hx hb d_S_init_45 rfl (lv_at hl 0 rfl) ?_
      refine lv_iconst (v := 4) hx hb d_S_init_46 (by decide) ?_
      have hS03 := hS
      refine mw_newa (atype := .int) (ty := .int) (N' := 4) (a0 := (4, .inl (fun _ => 0))) hx hb (htg _ k_60) rfl hK hP hS (hbs) 1 (cA := cI) rfl rfl rfl (by decide) rfl (by decide) (Nat.le_of_ble_eq_true rfl) (by show 0 + n + 4 + 4 ≤ 1032; omega) d_S_init_47 (fun q_46 H nq_46 eq_46 hP hS hz47 => ?_)
      obtain ⟨w_47, ew_47⟩ : ∃ z9, z9 = va_up w_42 q_46 (some (.inl (cI, 4, .inl (fun _ => 0))) : Option va_E) := ⟨_, rfl⟩
      rw [← ew_47] at hP
      have h_48 : w_47 q_46 = some (.inl (cI, 4, .inl (fun _ => 0))) := by rw [ew_47, va_up_self]
      have h_49 : w_47 h = some (.inr (ciS, [.int (nI n), .ref q_t, .ref q_37, .null])) := by rw [ew_47, va_up_ne _ _ (fun z => by rw [z, nq_46] at h_43; cases h_43)]; exact h_43
      have h_50 : w_47 q_37 = some (.inl (cJ, 4, .inr (.inl (fun _ => 0)))) := by rw [ew_47, va_up_ne _ _ (fun z => by rw [z, nq_46] at h_44; cases h_44)]; exact h_44
      have h_51 : w_47 q_t = some (.inl (cP, n, .inr (.inr (.inr (.inr (fun _ => none)))))) := by rw [ew_47, va_up_ne _ _ (fun z => by rw [z, nq_46] at h_45; cases h_45)]; exact h_45
      have mq_46 : w q_46 = none := hP0.fresh (by rw [eq_46]; exact hS03.1)
      refine mw_putF (C := R_S) (T := T_S) (N := 4) (ci := ciS) (v := .ref q_46) (ty := .array .int) (fs' := [.int (nI n), .ref q_t, .ref q_37, .ref q_46]) hx hb htg i_S ty_S tk_S nm_S hown hK hP hS h_49 rfl 3 (by decide) (htg _ k_49) (fun _ h9 => h9) rfl hin rfl (by decide +kernel) rfl rfl (Nat.le_of_ble_eq_true rfl) rfl d_S_init_49 (fun H locs hP hS hz49 => ?_)
      obtain ⟨w_52, ew_52⟩ : ∃ z9, z9 = va_up w_47 h (some (.inr (ciS, [.int (nI n), .ref q_t, .ref q_37, .ref q_46])) : Option va_E) := ⟨_, rfl⟩
      rw [← ew_52] at hP
      have h_53 : w_52 h = some (.inr (ciS, [.int (nI n), .ref q_t, .ref q_37, .ref q_46])) := by rw [ew_52, va_up_self]
      have h_54 : w_52 q_46 = some (.inl (cI, 4, .inl (fun _ => 0))) := by rw [ew_52, va_up_ne _ _ (fun z => by rw [z, h_49] at h_48; cases h_48)]; exact h_48
      have h_55 : w_52 q_37 = some (.inl (cJ, 4, .inr (.inl (fun _ => 0)))) := by rw [ew_52, va_up_ne _ _ (fun z => by rw [z, h_49] at h_50; cases h_50)]; exact h_50
      have h_56 : w_52 q_t = some (.inl (cP, n, .inr (.inr (.inr (.inr (fun _ => none)))))) := by rw [ew_52, va_up_ne _ _ (fun z => by rw [z, h_49] at h_51; cases h_51)]; exact h_51
      refine W.widen (k := 3) (n := 1032) (Nat.le_of_ble_eq_true rfl) (by show 0 + n + 4 + 4 ≤ 1032; omega) ?_
      have oth : ∀ q, ¬ w q = none → ¬ q = h → w_52 q = w q := fun q z1 z2 => by rw [ew_52, va_up_ne _ _ z2]; rw [ew_47, va_up_ne _ _ (fun z => z1 (by rw [z]; exact mq_46))]; rw [ew_42, va_up_ne _ _ z2]; rw [ew_38, va_up_ne _ _ (fun z => z1 (by rw [z]; exact mq_37))]; rw [ew_34, va_up_ne _ _ z2]; rw [ew_31, va_up_ne _ _ (fun z => z1 (by rw [z]; exact mq_t))]; rw [ew_29, va_up_ne _ _ z2]
      have hsm : sm cJ cI cP w_52 h n (fun _ => 0) (fun _ => 0) (fun _ => 0) (fun _ => 0) q_t q_37 q_46 (fun _ => none) := ⟨hpi, h_53, h_56, h_55, h_54, fun i _ _ => ⟨rfl, fun _ _ => rfl⟩, fun i p _ z => (by cases z), fun i j p p2 q _ _ z => (by cases z)⟩
      have hfp : ∀ q, sfp w_52 h q → q = h ∨ w q = none := fun q z => by
        rw [sfp_iff hsm.2.1 hsm.2.2.1] at z
        rcases z with z | z | z | z | ⟨i, p2, _, z, _⟩
        · exact Or.inl z
        · exact Or.inr (by rw [z]; exact mq_t)
        · exact Or.inr (by rw [z]; exact mq_37)
        · exact Or.inr (by rw [z]; exact mq_46)
        · cases z
      exact W.vret hx hb hr (fun t ht hW => ⟨⟨w_52, rfl, ⟨q_t, q_37, q_46, by rw [← en]; exact hsm, oth, hfp⟩, hP.at ht⟩, hS.F ht⟩) hS.2.2 d_S_init_52
    · refine lv_iload_n hx hb d_S_init_17 rfl (lv_at hl 1 rfl) ?_
      refine lv_goto (tgt := 24) hx hb d_S_init_18 (by decide) ?_
      refine lv_topi (fun y9 ey9 => ?_)
      have ey8 : y9 = nI n := by rw [ey9, en]; exact pgs_ok c7 c14
      clear ey9
      subst ey8
      refine mw_putF (C := R_S) (T := T_S) (N := 4) (ci := ciS) (v := .int (nI n)) (ty := .int) (fs' := [.int (nI n), .null, .null, .null]) hx hb htg i_S ty_S tk_S nm_S hown hK hP hS hh rfl 0 (by decide) (htg _ k_46) (fun _ h9 => h9) rfl hin rfl (by decide +kernel) rfl rfl (Nat.le_of_ble_eq_true rfl) rfl d_S_init_24 (fun H locs hP hS hz24 => ?_)
      obtain ⟨w_57, ew_57⟩ : ∃ z9, z9 = va_up w h (some (.inr (ciS, [.int (nI n), .null, .null, .null])) : Option va_E) := ⟨_, rfl⟩
      rw [← ew_57] at hP
      have h_58 : w_57 h = some (.inr (ciS, [.int (nI n), .null, .null, .null])) := by rw [ew_57, va_up_self]
      refine lv_aload_n hx hb d_S_init_27 rfl (lv_at hl 0 rfl) ?_
      refine lv_aload_n hx hb d_S_init_28 rfl (lv_at hl 0 rfl) ?_
      refine mw_get (C := R_S) (T := T_S) (N := 4) (ci := ciS) (v := .int (nI n)) hx hb htg i_S hown hK hP h_58 rfl 0 (by decide) (htg _ k_46) (fun _ h9 => h9) rfl d_S_init_29 ?_
      have hS01 := hS
      refine mw_newq (C := R_P) (N' := n) hx hb hown (htg _ k_44) (va_AO.use hE.1.2) hK hP hS hbs 2 (cA := cP) rfl (nI_pos (by omega)) (nI_clamp (by omega)) (by omega) (by show 0 + 1 ≤ 3; omega) (by show 0 + n ≤ 1032; omega) d_S_init_32 (fun q_t H nq_t eq_t hP hS hz32 => ?_)
      obtain ⟨w_59, ew_59⟩ : ∃ z9, z9 = va_up w_57 q_t (some (.inl (cP, n, .inr (.inr (.inr (.inr (fun _ => none)))))) : Option va_E) := ⟨_, rfl⟩
      rw [← ew_59] at hP
      have h_60 : w_59 q_t = some (.inl (cP, n, .inr (.inr (.inr (.inr (fun _ => none)))))) := by rw [ew_59, va_up_self]
      have h_61 : w_59 h = some (.inr (ciS, [.int (nI n), .null, .null, .null])) := by rw [ew_59, va_up_ne _ _ (fun z => by rw [z, nq_t] at h_58; cases h_58)]; exact h_58
      have mq_t : w q_t = none := hP0.fresh (by rw [eq_t]; exact hS01.1)
      refine mw_putF (C := R_S) (T := T_S) (N := 4) (ci := ciS) (v := .ref q_t) (ty := .array (.object "SharedMemory$Page")) (fs' := [.int (nI n), .ref q_t, .null, .null]) hx hb htg i_S ty_S tk_S nm_S hown hK hP hS h_61 rfl 1 (by decide) (htg _ k_47) (fun _ h9 => h9) rfl hin rfl (by decide +kernel) rfl rfl (Nat.le_of_ble_eq_true rfl) rfl d_S_init_35 (fun H locs hP hS hz35 => ?_)
      obtain ⟨w_62, ew_62⟩ : ∃ z9, z9 = va_up w_59 h (some (.inr (ciS, [.int (nI n), .ref q_t, .null, .null])) : Option va_E) := ⟨_, rfl⟩
      rw [← ew_62] at hP
      have h_63 : w_62 h = some (.inr (ciS, [.int (nI n), .ref q_t, .null, .null])) := by rw [ew_62, va_up_self]
      have h_64 : w_62 q_t = some (.inl (cP, n, .inr (.inr (.inr (.inr (fun _ => none)))))) := by rw [ew_62, va_up_ne _ _ (fun z => by rw [z, h_61] at h_60; cases h_60)]; exact h_60
      refine lv_aload_n hx hb d_S_init_38 rfl (lv_at hl 0 rfl) ?_
      refine lv_iconst (v := 4) hx hb d_S_init_39 (by decide) ?_
      have hS02 := hS
      refine mw_newa (atype := .long) (ty := .long) (N' := 4) (a0 := (4, .inr (.inl (fun _ => 0)))) hx hb (htg _ k_59) rfl hK hP hS (hbs) 0 (cA := cJ) rfl rfl rfl (by decide) rfl (by decide) (Nat.le_of_ble_eq_true rfl) (by show 0 + n + 4 ≤ 1032; omega) d_S_init_40 (fun q_65 H nq_65 eq_65 hP hS hz40 => ?_)
      obtain ⟨w_66, ew_66⟩ : ∃ z9, z9 = va_up w_62 q_65 (some (.inl (cJ, 4, .inr (.inl (fun _ => 0)))) : Option va_E) := ⟨_, rfl⟩
      rw [← ew_66] at hP
      have h_67 : w_66 q_65 = some (.inl (cJ, 4, .inr (.inl (fun _ => 0)))) := by rw [ew_66, va_up_self]
      have h_68 : w_66 h = some (.inr (ciS, [.int (nI n), .ref q_t, .null, .null])) := by rw [ew_66, va_up_ne _ _ (fun z => by rw [z, nq_65] at h_63; cases h_63)]; exact h_63
      have h_69 : w_66 q_t = some (.inl (cP, n, .inr (.inr (.inr (.inr (fun _ => none)))))) := by rw [ew_66, va_up_ne _ _ (fun z => by rw [z, nq_65] at h_64; cases h_64)]; exact h_64
      have mq_65 : w q_65 = none := hP0.fresh (by rw [eq_65]; exact hS02.1)
      refine mw_putF (C := R_S) (T := T_S) (N := 4) (ci := ciS) (v := .ref q_65) (ty := .array .long) (fs' := [.int (nI n), .ref q_t, .ref q_65, .null]) hx hb htg i_S ty_S tk_S nm_S hown hK hP hS h_68 rfl 2 (by decide) (htg _ k_48) (fun _ h9 => h9) rfl hin rfl (by decide +kernel) rfl rfl (Nat.le_of_ble_eq_true rfl) rfl d_S_init_42 (fun H locs hP hS hz42 => ?_)
      obtain ⟨w_70, ew_70⟩ : ∃ z9, z9 = va_up w_66 h (some (.inr (ciS, [.int (nI n), .ref q_t, .ref q_65, .null])) : Option va_E) := ⟨_, rfl⟩
      rw [← ew_70] at hP
      have h_71 : w_70 h = some (.inr (ciS, [.int (nI n), .ref q_t, .ref q_65, .null])) := by rw [ew_70, va_up_self]
      have h_72 : w_70 q_65 = some (.inl (cJ, 4, .inr (.inl (fun _ => 0)))) := by rw [ew_70, va_up_ne _ _ (fun z => by rw [z, h_68] at h_67; cases h_67)]; exact h_67
      have h_73 : w_70 q_t = some (.inl (cP, n, .inr (.inr (.inr (.inr (fun _ => none)))))) := by rw [ew_70, va_up_ne _ _ (fun z => by rw [z, h_68] at h_69; cases h_69)]; exact h_69
      refine lv_aload_n hx hb d_S_init_45 rfl (lv_at hl 0 rfl) ?_
      refine lv_iconst (v := 4) hx hb d_S_init_46 (by decide) ?_
      have hS03 := hS
      refine mw_newa (atype := .int) (ty := .int) (N' := 4) (a0 := (4, .inl (fun _ => 0))) hx hb (htg _ k_60) rfl hK hP hS (hbs) 1 (cA := cI) rfl rfl rfl (by decide) rfl (by decide) (Nat.le_of_ble_eq_true rfl) (by show 0 + n + 4 + 4 ≤ 1032; omega) d_S_init_47 (fun q_74 H nq_74 eq_74 hP hS hz47 => ?_)
      obtain ⟨w_75, ew_75⟩ : ∃ z9, z9 = va_up w_70 q_74 (some (.inl (cI, 4, .inl (fun _ => 0))) : Option va_E) := ⟨_, rfl⟩
      rw [← ew_75] at hP
      have h_76 : w_75 q_74 = some (.inl (cI, 4, .inl (fun _ => 0))) := by rw [ew_75, va_up_self]
      have h_77 : w_75 h = some (.inr (ciS, [.int (nI n), .ref q_t, .ref q_65, .null])) := by rw [ew_75, va_up_ne _ _ (fun z => by rw [z, nq_74] at h_71; cases h_71)]; exact h_71
      have h_78 : w_75 q_65 = some (.inl (cJ, 4, .inr (.inl (fun _ => 0)))) := by rw [ew_75, va_up_ne _ _ (fun z => by rw [z, nq_74] at h_72; cases h_72)]; exact h_72
      have h_79 : w_75 q_t = some (.inl (cP, n, .inr (.inr (.inr (.inr (fun _ => none)))))) := by rw [ew_75, va_up_ne _ _ (fun z => by rw [z, nq_74] at h_73; cases h_73)]; exact h_73
      have mq_74 : w q_74 = none := hP0.fresh (by rw [eq_74]; exact hS03.1)
      refine mw_putF (C := R_S) (T := T_S) (N := 4) (ci := ciS) (v := .ref q_74) (ty := .array .int) (fs' := [.int (nI n), .ref q_t, .ref q_65, .ref q_74]) hx hb htg i_S ty_S tk_S nm_S hown hK hP hS h_77 rfl 3 (by decide) (htg _ k_49) (fun _ h9 => h9) rfl hin rfl (by decide +kernel) rfl rfl (Nat.le_of_ble_eq_true rfl) rfl d_S_init_49 (fun H locs hP hS hz49 => ?_)
      obtain ⟨w_80, ew_80⟩ : ∃ z9, z9 = va_up w_75 h (some (.inr (ciS, [.int (nI n), .ref q_t, .ref q_65, .ref q_74])) : Option va_E) := ⟨_, rfl⟩
      rw [← ew_80] at hP
      have h_81 : w_80 h = some (.inr (ciS, [.int (nI n), .ref q_t, .ref q_65, .ref q_74])) := by rw [ew_80, va_up_self]
      have h_82 : w_80 q_74 = some (.inl (cI, 4, .inl (fun _ => 0))) := by rw [ew_80, va_up_ne _ _ (fun z => by rw [z, h_77] at h_76; cases h_76)]; exact h_76
      have h_83 : w_80 q_65 = some (.inl (cJ, 4, .inr (.inl (fun _ => 0)))) := by rw [ew_80, va_up_ne _ _ (fun z => by rw [z, h_77] at h_78; cases h_78)]; exact h_78
      have h_84 : w_80 q_t = some (.inl (cP, n, .inr (.inr (.inr (.inr (fun _ => none)))))) := by rw [ew_80, va_up_ne _ _ (fun z => by rw [z, h_77] at h_79; cases h_79)]; exact h_79
      refine W.widen (k := 3) (n := 1032) (Nat.le_of_ble_eq_true rfl) (by show 0 + n + 4 + 4 ≤ 1032; omega) ?_
      have oth : ∀ q, ¬ w q = none → ¬ q = h → w_80 q = w q := fun q z1 z2 => by rw [ew_80, va_up_ne _ _ z2]; rw [ew_75, va_up_ne _ _ (fun z => z1 (by rw [z]; exact mq_74))]; rw [ew_70, va_up_ne _ _ z2]; rw [ew_66, va_up_ne _ _ (fun z => z1 (by rw [z]; exact mq_65))]; rw [ew_62, va_up_ne _ _ z2]; rw [ew_59, va_up_ne _ _ (fun z => z1 (by rw [z]; exact mq_t))]; rw [ew_57, va_up_ne _ _ z2]
      have hsm : sm cJ cI cP w_80 h n (fun _ => 0) (fun _ => 0) (fun _ => 0) (fun _ => 0) q_t q_65 q_74 (fun _ => none) := ⟨hpi, h_81, h_84, h_83, h_82, fun i _ _ => ⟨rfl, fun _ _ => rfl⟩, fun i p _ z => (by cases z), fun i j p p2 q _ _ z => (by cases z)⟩
      have hfp : ∀ q, sfp w_80 h q → q = h ∨ w q = none := fun q z => by
        rw [sfp_iff hsm.2.1 hsm.2.2.1] at z
        rcases z with z | z | z | z | ⟨i, p2, _, z, _⟩
        · exact Or.inl z
        · exact Or.inr (by rw [z]; exact mq_t)
        · exact Or.inr (by rw [z]; exact mq_65)
        · exact Or.inr (by rw [z]; exact mq_74)
        · cases z
      exact W.vret hx hb hr (fun t ht hW => ⟨⟨w_80, rfl, ⟨q_t, q_65, q_74, by rw [← en]; exact hsm, oth, hfp⟩, hP.at ht⟩, hS.F ht⟩) hS.2.2 d_S_init_52
