theorem lN_nat {m : Nat} (h : m < 2 ^ 64) : (lN m).toBitVec.toNat = m := by
  show (BitVec.ofNat 64 m).toNat = m
  rw [BitVec.toNat_ofNat, Nat.mod_eq_of_lt h]
/-- whether a reservation lies in the words from a to b -/
def lostB (x : Int64) (a b : Nat) : Bool := decide (¬ x = 0) && (decide (a ≤ (x.toBitVec.toNat - 2147483648) / 8) && decide ((x.toBitVec.toNat - 2147483648) / 8 ≤ b))
def lost (ra : Nat → Int64) (a b : Nat) : Nat → Int64 := fun j => if j < 4 ∧ lostB (ra j) a b = true then 0 else ra j
/-- the addresses that are reserved lie in memory -/
def rok (ra : Nat → Int64) (n : Nat) : Prop := ∀ j, j < 4 → ra j = 0 ∨ ∃ c, ra j = lN (2147483648 + c) ∧ c < 4096 * n
theorem lN_ne0 {c : Nat} (h : c < 2 ^ 31) : ¬ lN (2147483648 + c) = 0 := fun z => by
  have := (pk_lEQ (a := 2147483648 + c) (b := 0) (by omega) (by omega)).mp z
  omega
theorem lostB_at {c : Nat} (h : c < 2 ^ 31) (a b : Nat) : lostB (lN (2147483648 + c)) a b = (decide (a ≤ c / 8) && decide (c / 8 ≤ b)) := by
  unfold lostB
  rw [lN_nat (by omega), Nat.add_sub_cancel_left, decide_eq_true (lN_ne0 h), Bool.true_and]
theorem lostB_0 (a b : Nat) : lostB 0 a b = false := by
  unfold lostB
  simp
theorem rok_lost {ra : Nat → Int64} {n : Nat} (h : rok ra n) (a b : Nat) : rok (lost ra a b) n := fun j hj => by
  unfold lost
  by_cases c : j < 4 ∧ lostB (ra j) a b = true
  · rw [if_pos c]; exact Or.inl rfl
  · rw [if_neg c]; exact h j hj
def tinc (T : Nat → Int64) (a b : Nat) : Nat → Int64 := fun j => if a ≤ j ∧ j < b then T j + 1 else T j
theorem tinc_0 (T : Nat → Int64) (a : Nat) : tinc T a a = T := by
  funext j
  unfold tinc
  rw [if_neg (by omega)]
theorem tinc_s (T : Nat → Int64) {a i : Nat} (h : a ≤ i) : va_up (tinc T a i) i (tinc T a i i + 1) = tinc T a (i + 1) := by
  funext j
  by_cases hj : j = i
  · subst hj
    rw [va_up_self]
    unfold tinc
    rw [if_neg (by omega), if_pos (by omega)]
  · rw [va_up_ne _ _ hj]
    unfold tinc
    by_cases c : a ≤ j ∧ j < i
    · rw [if_pos c, if_pos (by omega)]
    · rw [if_neg c, if_neg (by omega)]
theorem pup_id (M : Nat → Int64) (i : Nat) : pup M i (fun j => M (512 * i + j)) = M := by
  funext q
  unfold pup
  by_cases h : q / 512 = i
  · rw [if_pos h]
    show M (512 * i + q % 512) = M q
    rw [show 512 * i + q % 512 = q by omega]
  · rw [if_neg h]
set_option maxHeartbeats 4000000 in
set_option maxRecDepth 100000 in
/-- loseReservations: its loop -/
theorem lp_S_lose {p : Program} {l : Launch} {e : Env} {s : State} {m : MethodId} {args : Array Value} {below : List Frame} {meth : Method} {c : Code} {Q : State → Prop} {D : va_G} {cJ cI cP : ClassId} {bs : Nat} (hx : p.tables.exec = Jvm.exec) (hb : c.code = c_S_loseReservations) (hml : c.maxLocals = 5) (hown : s.vm.findClass R_S = some m.cls) (htg : ∀ w ∈ gt, w.before args s = true) (hK : va_K D vwCl (mT cJ cI cP) s) (hbs : bs ≤ s.heap.size) (w : Nat → Option va_E) (h n : Nat) (M T : Nat → Int64) (ra : Nat → Int64) (rs : Nat → Int32) (aT aA aS : Nat) (pt : Nat → Option Nat) (a b : Nat) (ha : a < 2 ^ 30) (hb9 : b < 2 ^ 30) (hro : rok ra n) (kx : ∀ (w1 : Nat → Option va_E) (ls : Array Slot) (H : Heap) (locs : List Loc), sm cJ cI cP w1 h n M T (lost ra a b) rs aT aA aS pt → kp w w1 (sfp w h) (sfp w1 h) → mw D vwCl bs w1 H → va_S (mA bs) s.heap H locs → W p l e ({ frames := 1, cells := 0, slots := 0, locals := 21 } : Room) s m args below meth c H locs 0 0 Q (F0 m 56 ls [])) :
    ∀ (k : Nat) (i : Nat) (w1 : Nat → Option va_E) (rc : Nat → Int64) (ls : Array Slot) (H : Heap) (locs : List Loc), 4 - i < k → i ≤ 4 → (∀ j, j < i → rc j = lost ra a b j) → (∀ j, ¬ j < i → rc j = ra j) → sm cJ cI cP w1 h n M T rc rs aT aA aS pt → kp w w1 (sfp w h) (sfp w1 h) → mw D vwCl bs w1 H → va_S (mA bs) s.heap H locs → lv_has ls 5 [(3, .int (nI i)), (0, .ref h), (1, .int (nI a)), (2, .int (nI b))] → W p l e ({ frames := 1, cells := 0, slots := 0, locals := 21 } : Room) s m args below meth c H locs 0 0 Q (F0 m 2 ls []) := by
  intro k
  induction k with
  | zero => intro i w1 rc ls H locs hk0; exact absurd hk0 (by omega)
  | succ k ih =>
    intro i w1 rc ls H locs hk hi hlo hhi hs1 hkp hP hS hl
    obtain ⟨hn, s1, s2, s3, s4, s5, s6, s7⟩ := id hs1
    have f1 : w1 h = some (.inr (ciS, [.int (nI n), .ref aT, .ref aA, .ref aS])) := s1
    refine lv_iload_n hx hb d_S_loseReservations_2 rfl (lv_at hl 0 rfl) ?_
    refine lv_iconst (v := 4) hx hb d_S_loseReservations_3 (by decide) ?_
    refine lv_icmp_ge (tgt := 56) hx hb d_S_loseReservations_4 (by decide) (fun c4 => ?_) (fun c4 => ?_)
    · have e5 : i = 4 := Nat.le_antisymm hi (Nat.le_of_not_lt (fun z => nI_ge z (by omega) (show nI 4 ≤ nI i from c4)))
      subst e5
      have erc : rc = lost ra a b := by
        funext j
        by_cases hj : j < 4
        · exact hlo j hj
        · rw [hhi j hj]; unfold lost; rw [if_neg (fun z => hj z.1)]
      subst erc
      exact kx w1 ls H locs hs1 hkp hP hS
    · have hlt : i < 4 := Nat.lt_of_not_le (fun z => c4 (show nI 4 ≤ nI i from nI_le z (by omega)))
      have eri : rc i = ra i := hhi i (by omega)
      refine lv_aload_n hx hb d_S_loseReservations_7 rfl (lv_at hl 1 rfl) ?_
      refine mw_get (C := R_S) (T := T_S) (N := 4) (ci := ciS) (v := .ref aA) hx hb htg i_S hown hK hP f1 rfl 2 (by decide) (htg _ k_48) (fun _ h9 => h9) rfl d_S_loseReservations_8 ?_
      refine lv_iload_n hx hb d_S_loseReservations_11 rfl (lv_at hl 0 rfl) ?_
      refine mw_lald hx hb hK hP 0 s3 rfl (vp_in_nI hlt (by omega)) d_S_loseReservations_12 ?_
      rw [show (nI i).toNatClampNeg = i from nI_clamp (by omega)]
      refine lv_lconst (v := 0) hx hb d_S_loseReservations_13 rfl ?_
      refine lc_eq (tgt := 50) hx hb d_S_loseReservations_14 d_S_loseReservations_15 (by decide) (fun c14 => ?_) (fun c14 => ?_)
      · obtain ⟨i_1, ei_1⟩ : ∃ y : Int32, y = (nI i) + 1 := ⟨_, rfl⟩
        refine lv_iinc (v := i_1) (lv' := [(3, .int i_1), (0, .ref h), (1, .int (nI a)), (2, .int (nI b))]) hx hb d_S_loseReservations_50 hl (k := 0) rfl (by rw [ei_1]; rfl) (by decide) rfl (fun ls hl => ?_)
        refine lv_goto (tgt := 2) hx hb d_S_loseReservations_53 (by decide) ?_
        refine ih (i + 1) w1 rc ls H locs (by omega) (by omega) (fun j hj => ?_) (fun j hj => hhi j (by omega)) hs1 hkp hP hS (by rw [← nI_1 i, ← ei_1]; exact lv_sub hl [0, 1, 2, 3] rfl)
        by_cases hji : j = i
        · subst hji; unfold lost; rw [if_neg (fun z => ?_), eri]
          have z2 := z.2
          rw [← eri] at z2
          first
            | (rw [c14, lostB_0] at z2; cases z2)
            | (rw [hc9, lostB_at (by omega), Bool.and_eq_true, decide_eq_true_iff, decide_eq_true_iff] at z2; first | exact absurd z2.1 (Nat.not_le.mpr ((nI_ltI (by omega) (by omega)).mp c34)) | exact absurd z2.2 (Nat.not_le.mpr ((nI_ltI (by omega) (by omega)).mp c40)))
        · exact hlo j (by omega)
      · obtain ⟨c9, hc9, hcn⟩ : ∃ c, rc i = lN (2147483648 + c) ∧ c < 4096 * n := by
          rw [eri] at c14 ⊢
          rcases hro i hlt with z | z
          · exact absurd z c14
          · exact z
        refine lv_aload_n hx hb d_S_loseReservations_18 rfl (lv_at hl 1 rfl) ?_
        refine mw_get (C := R_S) (T := T_S) (N := 4) (ci := ciS) (v := .ref aA) hx hb htg i_S hown hK hP f1 rfl 2 (by decide) (htg _ k_48) (fun _ h9 => h9) rfl d_S_loseReservations_19 ?_
        refine lv_iload_n hx hb d_S_loseReservations_22 rfl (lv_at hl 0 rfl) ?_
        refine mw_lald hx hb hK hP 0 s3 rfl (vp_in_nI hlt (by omega)) d_S_loseReservations_23 ?_
        rw [show (nI i).toNatClampNeg = i from nI_clamp (by omega)]
        rw [show rc i = lN (2147483648 + c9) from hc9]
        refine mc_i (va_runS (As := [.long (lN (2147483648 + c9))]) (rest := []) ⟨hx, hb, hml, hown, htg⟩ (t_S_placeOf l D cJ cI cP bs w1 c9) (cwS (own := R_S) 1 htg (ginS k_182 k_183 k_25 k_184) rfl rfl rfl (by decide +kernel) ⟨Nat.le_of_ble_eq_true rfl, Nat.le_of_ble_eq_true rfl⟩) (mPc.preS hbs hS hP hK) rfl rfl hl.1 rfl (lv_room (Nat.le_of_ble_eq_true rfl)) d_S_loseReservations_24 ⟨Nat.le_of_ble_eq_true rfl, Nat.le_of_ble_eq_true rfl⟩) hS (fun r24 u24 H locs hw hP hz24 hS => ?_)
        subst hw
        refine lv_iconst (v := 3) hx hb d_S_loseReservations_27 (by decide) ?_
        refine lv_ishr hx hb d_S_loseReservations_28 ?_
        rw [show (nI c9) >>> (3 &&& 31) = nI (c9 / 8) from ish c9 3 (by omega) (by omega)]
        refine lv_istore (lv' := [(4, .int (nI (c9 / 8))), (3, .int (nI i)), (0, .ref h), (1, .int (nI a)), (2, .int (nI b))]) hx hb d_S_loseReservations_29 hl (by decide) rfl (fun ls hl => ?_)
        refine lv_iload hx hb d_S_loseReservations_31 (lv_at hl 0 rfl) ?_
        refine lv_iload_n hx hb d_S_loseReservations_33 rfl (lv_at hl 3 rfl) ?_
        refine lv_icmp_lt (tgt := 50) hx hb d_S_loseReservations_34 (by decide) (fun c34 => ?_) (fun c34 => ?_)
        · obtain ⟨i_2, ei_2⟩ : ∃ y : Int32, y = (nI i) + 1 := ⟨_, rfl⟩
          refine lv_iinc (v := i_2) (lv' := [(3, .int i_2), (4, .int (nI (c9 / 8))), (0, .ref h), (1, .int (nI a)), (2, .int (nI b))]) hx hb d_S_loseReservations_50 hl (k := 1) rfl (by rw [ei_2]; rfl) (by decide) rfl (fun ls hl => ?_)
          refine lv_goto (tgt := 2) hx hb d_S_loseReservations_53 (by decide) ?_
          refine ih (i + 1) w1 rc ls H locs (by omega) (by omega) (fun j hj => ?_) (fun j hj => hhi j (by omega)) hs1 hkp hP hS (by rw [← nI_1 i, ← ei_2]; exact lv_sub hl [0, 2, 3, 4] rfl)
          by_cases hji : j = i
          · subst hji; unfold lost; rw [if_neg (fun z => ?_), eri]
            have z2 := z.2
            rw [← eri] at z2
            first
              | (rw [c14, lostB_0] at z2; cases z2)
              | (rw [hc9, lostB_at (by omega), Bool.and_eq_true, decide_eq_true_iff, decide_eq_true_iff] at z2; first | exact absurd z2.1 (Nat.not_le.mpr ((nI_ltI (by omega) (by omega)).mp c34)) | exact absurd z2.2 (Nat.not_le.mpr ((nI_ltI (by omega) (by omega)).mp c40)))
          · exact hlo j (by omega)
        · refine lv_iload hx hb d_S_loseReservations_37 (lv_at hl 0 rfl) ?_
          refine lv_iload_n hx hb d_S_loseReservations_39 rfl (lv_at hl 4 rfl) ?_
          refine lv_icmp_gt (tgt := 50) hx hb d_S_loseReservations_40 (by decide) (fun c40 => ?_) (fun c40 => ?_)
          · obtain ⟨i_3, ei_3⟩ : ∃ y : Int32, y = (nI i) + 1 := ⟨_, rfl⟩
            refine lv_iinc (v := i_3) (lv' := [(3, .int i_3), (4, .int (nI (c9 / 8))), (0, .ref h), (1, .int (nI a)), (2, .int (nI b))]) hx hb d_S_loseReservations_50 hl (k := 1) rfl (by rw [ei_3]; rfl) (by decide) rfl (fun ls hl => ?_)
            refine lv_goto (tgt := 2) hx hb d_S_loseReservations_53 (by decide) ?_
            refine ih (i + 1) w1 rc ls H locs (by omega) (by omega) (fun j hj => ?_) (fun j hj => hhi j (by omega)) hs1 hkp hP hS (by rw [← nI_1 i, ← ei_3]; exact lv_sub hl [0, 2, 3, 4] rfl)
            by_cases hji : j = i
            · subst hji; unfold lost; rw [if_neg (fun z => ?_), eri]
              have z2 := z.2
              rw [← eri] at z2
              first
                | (rw [c14, lostB_0] at z2; cases z2)
                | (rw [hc9, lostB_at (by omega), Bool.and_eq_true, decide_eq_true_iff, decide_eq_true_iff] at z2; first | exact absurd z2.1 (Nat.not_le.mpr ((nI_ltI (by omega) (by omega)).mp c34)) | exact absurd z2.2 (Nat.not_le.mpr ((nI_ltI (by omega) (by omega)).mp c40)))
            · exact hlo j (by omega)
          · refine lv_aload_n hx hb d_S_loseReservations_43 rfl (lv_at hl 2 rfl) ?_
            refine mw_get (C := R_S) (T := T_S) (N := 4) (ci := ciS) (v := .ref aA) hx hb htg i_S hown hK hP f1 rfl 2 (by decide) (htg _ k_48) (fun _ h9 => h9) rfl d_S_loseReservations_44 ?_
            refine lv_iload_n hx hb d_S_loseReservations_47 rfl (lv_at hl 1 rfl) ?_
            refine lv_lconst (v := 0) hx hb d_S_loseReservations_48 rfl ?_
            refine mw_last hx hb hK hP hS 0 s3 rfl (vp_in_nI hlt (by omega)) d_S_loseReservations_49 (fun H locs hP hS hz49 => ?_)
            rw [show (nI i).toNatClampNeg = i from nI_clamp (by omega)] at hP
            obtain ⟨w_4, ew_4⟩ : ∃ z9, z9 = va_up w1 aA (some (.inl (cJ, 4, .inr (.inl (vp_updL rc i 0)))) : Option va_E) := ⟨_, rfl⟩
            rw [← ew_4] at hP
            have h_5 : w_4 aA = some (.inl (cJ, 4, .inr (.inl (vp_updL rc i 0)))) := by rw [ew_4, va_up_self]
            have h_6 : w_4 h = some (.inr (ciS, [.int (nI n), .ref aT, .ref aA, .ref aS])) := by rw [ew_4, va_up_ne _ _ (fun z => by rw [z, s3] at f1; cases f1)]; exact f1
            have h_7 : w_4 aT = some (.inl (cP, n, .inr (.inr (.inr (.inr pt))))) := by rw [ew_4, va_up_ne _ _ (fun z => by rw [z, s3] at s2; simp at s2)]; exact s2
            have h_8 : w_4 aS = some (.inl (cI, 4, .inl rs)) := by rw [ew_4, va_up_ne _ _ (fun z => by rw [z, s3] at s4; simp at s4)]; exact s4
            obtain ⟨i_9, ei_9⟩ : ∃ y : Int32, y = (nI i) + 1 := ⟨_, rfl⟩
            refine lv_iinc (v := i_9) (lv' := [(3, .int i_9), (4, .int (nI (c9 / 8))), (0, .ref h), (1, .int (nI a)), (2, .int (nI b))]) hx hb d_S_loseReservations_50 hl (k := 1) rfl (by rw [ei_9]; rfl) (by decide) rfl (fun ls hl => ?_)
            refine lv_goto (tgt := 2) hx hb d_S_loseReservations_53 (by decide) ?_
            have hra := sm_ra hs1 (vp_updL rc i 0)
            rw [← ew_4] at hra
            refine ih (i + 1) w_4 (vp_updL rc i 0) ls H locs (by omega) (by omega) (fun j hj => ?_) (fun j hj => ?_) hra.1 (hkp.trans hra.2) hP hS (by rw [← nI_1 i, ← ei_9]; exact lv_sub hl [0, 2, 3, 4] rfl)
            · by_cases hji : j = i
              · subst hji; rw [pk_uLs]; unfold lost; rw [if_pos ⟨hlt, by rw [← eri, hc9, lostB_at (by omega), decide_eq_true ((nI_leI (by omega) (by omega)).mp (Int32.not_lt.mp c34)), decide_eq_true ((nI_leI (by omega) (by omega)).mp (Int32.not_lt.mp c40))]; rfl⟩]
              · rw [pk_uLn hji]; exact hlo j (by omega)
            · rw [pk_uLn (by omega)]; exact hhi j (by omega)
set_option maxHeartbeats 4000000 in
set_option maxRecDepth 100000 in
/-- loseReservations: those in the words from a to b -/
theorem t_S_lose (l : Launch) (D : va_G) (cJ cI cP : ClassId) (bs : Nat) (w : Nat → Option va_E) (h n : Nat) (M T : Nat → Int64) (ra : Nat → Int64) (rs : Nat → Int32) (aT aA aS : Nat) (pt : Nat → Option Nat) (hs : sm cJ cI cP w h n M T ra rs aT aA aS pt) (a b : Nat) (ha : a < 2 ^ 30) (hb9 : b < 2 ^ 30) (hro : rok ra n) : Met l y_S_loseReservations ws_S_loseReservations ({ frames := 1, cells := 0, slots := 0, locals := 21 }) (mPc D vwCl (mT cJ cI cP) bs w [.ref h, .int (nI a), .int (nI b)]) (va_Qv (S := (Nat → Option va_E)) (fun u => sm cJ cI cP u h n M T (lost ra a b) rs aT aA aS pt ∧ kp w u (sfp w h) (sfp u h)) (mB D vwCl bs (fun u => u)) (mA bs)) 0 0 (mA bs) := by
  refine Met.ofW (cc := c_S_loseReservations) (maxL := 5) (ret := none) (by decide) rfl ?_
  intro p e s m args below meth c s₁ B hml hv
  obtain ⟨rfl, hbs, hP, hK⟩ := hv
  have hx := B.exec
  have hb := B.bytes
  have hr := B.returns
  have htg : ∀ w ∈ gt, w.before _ s = true := fun w h => atoms_spec (ws := ws_S_loseReservations) B.pre w (List.mem_cons_of_mem _ h)
  have hown : s.vm.findClass R_S = some m.cls := findClass_of_methodNamed B.named
  have hlocks := B.notSynchronized
  have hS : va_S (mA bs) s.heap s.heap [] := va_S.rf
  have hl := lv_entry ([.ref h, .int (nI a), .int (nI b)]) (n := 5) (Nat.le_of_ble_eq_true rfl)
  rw [lg_entry_eq]
  generalize (lg_sl ([.ref h, .int (nI a), .int (nI b)]) ++ List.replicate (5 - (lg_sl ([.ref h, .int (nI a), .int (nI b)])).length) Slot.unset).toArray = ls at hl ⊢
  have hl : lv_has ls 5 [(0, .ref h), (1, .int (nI a)), (2, .int (nI b))] := hl
  refine lv_iconst (v := 0) hx hb d_S_loseReservations_0 (by decide) ?_
  refine lv_istore_n (lv' := [(3, .int 0), (0, .ref h), (1, .int (nI a)), (2, .int (nI b))]) hx hb d_S_loseReservations_1 rfl hl (by decide) rfl (fun ls hl => ?_)
  refine lp_S_lose (D := D) (cJ := cJ) (cI := cI) (cP := cP) (bs := bs) hx hb hml hown htg hK hbs w h n M T ra rs aT aA aS pt a b ha hb9 hro (fun w1 ls H locs h1 h2 hP hS => ?_) 5 0 w ra ls _ _ (by omega) (by omega) (fun j hj => absurd hj (by omega)) (fun _ _ => rfl) hs kp.rf hP hS (lv_sub hl [0, 1, 2, 3] rfl)
  exact W.vret hx hb hr (fun t ht hW => ⟨⟨w1, rfl, ⟨h1, h2⟩, hP.at ht⟩, hS.F ht⟩) hS.2.2 d_S_loseReservations_56
set_option maxHeartbeats 4000000 in
set_option maxRecDepth 100000 in
/-- noteStored: its loop -/
theorem lp_S_note {p : Program} {l : Launch} {e : Env} {s : State} {m : MethodId} {args : Array Value} {below : List Frame} {meth : Method} {c : Code} {Q : State → Prop} {D : va_G} {cJ cI cP : ClassId} {bs : Nat} (hx : p.tables.exec = Jvm.exec) (hb : c.code = c_S_noteStored) (hml : c.maxLocals = 5) (hown : s.vm.findClass R_S = some m.cls) (htg : ∀ w ∈ gt, w.before args s = true) (hK : va_K D vwCl (mT cJ cI cP) s) (hbs : bs ≤ s.heap.size) (w : Nat → Option va_E) (h n : Nat) (M T : Nat → Int64) (ra : Nat → Int64) (rs : Nat → Int32) (aT aA aS : Nat) (pt : Nat → Option Nat) (a b : Nat) (hbn : b < 4096 * n) (hn9 : n ≤ 1024) (hall : ∀ i, a / 4096 ≤ i → i ≤ b / 4096 → ¬ pt i = none) (kx : ∀ (w1 : Nat → Option va_E) (ls : Array Slot) (H : Heap) (locs : List Loc), sm cJ cI cP w1 h n M (tinc T (a / 4096) (b / 4096 + 1)) ra rs aT aA aS pt → kp w w1 (sfp w h) (sfp w1 h) → mw D vwCl bs w1 H → va_S (mA bs) s.heap H locs → lv_has ls 5 [(0, .ref h), (1, .int (nI a)), (2, .int (nI b))] → W p l e ({ frames := 3, cells := 0, slots := 0, locals := 62 } : Room) s m args below meth c H locs 0 0 Q (F0 m 32 ls [])) :
    ∀ (k : Nat) (i : Nat) (w1 : Nat → Option va_E) (ls : Array Slot) (H : Heap) (locs : List Loc), b / 4096 + 1 - i < k → a / 4096 ≤ i → i ≤ b / 4096 + 1 → sm cJ cI cP w1 h n M (tinc T (a / 4096) i) ra rs aT aA aS pt → kp w w1 (sfp w h) (sfp w1 h) → mw D vwCl bs w1 H → va_S (mA bs) s.heap H locs → lv_has ls 5 [(4, .int (nI i)), (3, .int (nI (b / 4096))), (0, .ref h), (1, .int (nI a)), (2, .int (nI b))] → W p l e ({ frames := 3, cells := 0, slots := 0, locals := 62 } : Room) s m args below meth c H locs 0 0 Q (F0 m 11 ls []) := by
  intro k
  induction k with
  | zero => intro i w1 ls H locs hk0; exact absurd hk0 (by omega)
  | succ k ih =>
    intro i w1 ls H locs hk hai hi hs1 hkp hP hS hl
    obtain ⟨hn, s1, s2, s3, s4, s5, s6, s7⟩ := id hs1
    have f1 : w1 h = some (.inr (ciS, [.int (nI n), .ref aT, .ref aA, .ref aS])) := s1
    refine lv_iload hx hb d_S_noteStored_11 (lv_at hl 0 rfl) ?_
    refine lv_iload_n hx hb d_S_noteStored_13 rfl (lv_at hl 1 rfl) ?_
    refine lv_icmp_gt (tgt := 32) hx hb d_S_noteStored_14 (by decide) (fun c14 => ?_) (fun c14 => ?_)
    · have e5 : i = b / 4096 + 1 := Nat.le_antisymm hi ((nI_ltI (by omega) (by omega)).mp c14)
      subst e5
      exact kx w1 ls H locs hs1 hkp hP hS (lv_sub hl [2, 3, 4] rfl)
    · have hlt : i ≤ b / 4096 := Nat.le_of_not_lt (fun z => c14 (nI_lt z (by omega)))
      have hin : i < n := by omega
      have hex := hall i hai hlt
      refine lv_aload_n hx hb d_S_noteStored_17 rfl (lv_at hl 2 rfl) ?_
      refine lv_iload hx hb d_S_noteStored_18 (lv_at hl 0 rfl) ?_
      refine mc_r (va_runV (As := [.int (nI i)]) (rest := []) ⟨hx, hb, hml, hown, htg⟩ (t_S_ptw l D cJ cI cP bs w1 h n M (tinc T (a / 4096) i) ra rs aT aA aS pt hs1 i hin 0 0 (fun z => absurd z hex)) (cwV (own := R_S) (C := R_S) 1 htg (ginV k_219 k_221 k_7 k_25 k_222) rfl rfl rfl (by decide +kernel) ⟨Nat.le_of_ble_eq_true rfl, Nat.le_of_ble_eq_true rfl⟩) (mPc.preV (ci := ciS) (q := (R_S, T_S, 4)) hbs hS hP hK rfl f1) rfl rfl hl.1 rfl (lv_room (Nat.le_of_ble_eq_true rfl)) d_S_noteStored_20 ⟨Nat.le_of_ble_eq_true rfl, Nat.le_of_ble_eq_true rfl⟩) hS (fun u20 H locs hw hP hz20 hS => ?_)
      obtain ⟨w2, pz, pt2⟩ := u20
      obtain ⟨m1, m2, m3, m4, m5⟩ := hw
      have ept : pt2 = pt := by
        funext j
        by_cases hji : j = i
        · rw [hji]; exact m5 hex
        · exact m4 j hji
      subst ept
      have m1 : sm cJ cI cP w2 h n M (tinc T (a / 4096) i) ra rs aT aA aS pt2 := m1
      have m2 : pt2 i = some pz := m2
      have m3 : kp w1 w2 (sfp w1 h) (sfp w2 h) := m3
      have hP : mw D vwCl bs w2 H := hP
      have m6 := m1.2.2.2.2.2.2.1 i pz hin m2
      obtain ⟨wr, ev, ew, y1, y2⟩ := id m6
      refine mc_v (va_runV (As := []) (rest := []) ⟨hx, hb, hml, hown, htg⟩ (t_P_countWrite l D cJ cI cP bs w2 pz (fun j => M (512 * i + j)) (tinc T (a / 4096) i i) m6) (cwV (own := R_S) (C := R_P) 0 htg (ginV k_261 k_262 k_263 k_32 k_264) rfl rfl rfl (by decide +kernel) ⟨Nat.le_of_ble_eq_true rfl, Nat.le_of_ble_eq_true rfl⟩) (mPc.preV (ci := ciP) (q := (R_P, T_P, 5)) hbs hS hP hK rfl y1) rfl rfl hl.1 rfl (lv_room (Nat.le_of_ble_eq_true rfl)) d_S_noteStored_23 ⟨Nat.le_of_ble_eq_true rfl, Nat.le_of_ble_eq_true rfl⟩) hS (fun w3 H locs hw hP hz23 hS => ?_)
      have hpg := sm_page m1 hin m2 hw.2 hw.1
      rw [pup_id, tinc_s T hai] at hpg
      obtain ⟨i_1, ei_1⟩ : ∃ y : Int32, y = (nI i) + 1 := ⟨_, rfl⟩
      refine lv_iinc (v := i_1) (lv' := [(4, .int i_1), (3, .int (nI (b / 4096))), (0, .ref h), (1, .int (nI a)), (2, .int (nI b))]) hx hb d_S_noteStored_26 hl (k := 0) rfl (by rw [ei_1]; rfl) (by decide) rfl (fun ls hl => ?_)
      refine lv_goto (tgt := 11) hx hb d_S_noteStored_29 (by decide) ?_
      exact ih (i + 1) w3 ls H locs (by omega) (by omega) (by omega) hpg.1 ((hkp.trans m3).trans hpg.2) hP hS (by rw [← nI_1 i, ← ei_1]; exact lv_sub hl [0, 1, 2, 3, 4] rfl)
set_option maxHeartbeats 4000000 in
set_option maxRecDepth 100000 in
/-- noteStored: writes are counted, reservations lost -/
theorem t_S_note (l : Launch) (D : va_G) (cJ cI cP : ClassId) (bs : Nat) (w : Nat → Option va_E) (h n : Nat) (M T : Nat → Int64) (ra : Nat → Int64) (rs : Nat → Int32) (aT aA aS : Nat) (pt : Nat → Option Nat) (hs : sm cJ cI cP w h n M T ra rs aT aA aS pt) (a b : Nat) (hab : a ≤ b) (hbn : b < 4096 * n) (hro : rok ra n) (hall : ∀ i, a / 4096 ≤ i → i ≤ b / 4096 → ¬ pt i = none) : Met l y_S_noteStored ws_S_noteStored ({ frames := 3, cells := 0, slots := 0, locals := 62 }) (mPc D vwCl (mT cJ cI cP) bs w [.ref h, .int (nI a), .int (nI b)]) (va_Qv (S := (Nat → Option va_E)) (fun u => sm cJ cI cP u h n M (tinc T (a / 4096) (b / 4096 + 1)) (lost ra (a / 8) (b / 8)) rs aT aA aS pt ∧ kp w u (sfp w h) (sfp u h)) (mB D vwCl bs (fun u => u)) (mA bs)) 0 0 (mA bs) := by
  refine Met.ofW (cc := c_S_noteStored) (maxL := 5) (ret := none) (by decide) rfl ?_
  intro p e s m args below meth c s₁ B hml hv
  obtain ⟨rfl, hbs, hP, hK⟩ := hv
  have hx := B.exec
  have hb := B.bytes
  have hr := B.returns
  have htg : ∀ w ∈ gt, w.before _ s = true := fun w h => atoms_spec (ws := ws_S_noteStored) B.pre w (List.mem_cons_of_mem _ h)
  have hown : s.vm.findClass R_S = some m.cls := findClass_of_methodNamed B.named
  have hlocks := B.notSynchronized
  have hS : va_S (mA bs) s.heap s.heap [] := va_S.rf
  have hl := lv_entry ([.ref h, .int (nI a), .int (nI b)]) (n := 5) (Nat.le_of_ble_eq_true rfl)
  rw [lg_entry_eq]
  generalize (lg_sl ([.ref h, .int (nI a), .int (nI b)]) ++ List.replicate (5 - (lg_sl ([.ref h, .int (nI a), .int (nI b)])).length) Slot.unset).toArray = ls at hl ⊢
  have hl : lv_has ls 5 [(0, .ref h), (1, .int (nI a)), (2, .int (nI b))] := hl
  obtain ⟨hn, s1, s2, s3, s4, s5, s6, s7⟩ := id hs
  have f1 : w h = some (.inr (ciS, [.int (nI n), .ref aT, .ref aA, .ref aS])) := s1
  refine lv_iload_n hx hb d_S_noteStored_0 rfl (lv_at hl 2 rfl) ?_
  refine lv_bipush (v := 12) hx hb d_S_noteStored_1 (by decide) ?_
  refine lv_ishr hx hb d_S_noteStored_3 ?_
  rw [show (nI b) >>> (12 &&& 31) = nI (b / 4096) from ish b 12 (by omega) (by omega)]
  refine lv_istore_n (lv' := [(3, .int (nI (b / 4096))), (0, .ref h), (1, .int (nI a)), (2, .int (nI b))]) hx hb d_S_noteStored_4 rfl hl (by decide) rfl (fun ls hl => ?_)
  refine lv_iload_n hx hb d_S_noteStored_5 rfl (lv_at hl 2 rfl) ?_
  refine lv_bipush (v := 12) hx hb d_S_noteStored_6 (by decide) ?_
  refine lv_ishr hx hb d_S_noteStored_8 ?_
  rw [show (nI a) >>> (12 &&& 31) = nI (a / 4096) from ish a 12 (by omega) (by omega)]
  refine lv_istore (lv' := [(4, .int (nI (a / 4096))), (3, .int (nI (b / 4096))), (0, .ref h), (1, .int (nI a)), (2, .int (nI b))]) hx hb d_S_noteStored_9 hl (by decide) rfl (fun ls hl => ?_)
  refine lp_S_note (D := D) (cJ := cJ) (cI := cI) (cP := cP) (bs := bs) hx hb hml hown htg hK hbs w h n M T ra rs aT aA aS pt a b hbn hn.2 hall (fun w1 ls H locs h1 h2 hP hS hl => ?_) (b / 4096 + 2) (a / 4096) w ls _ _ (by omega) (Nat.le_refl _) (by omega) (by rw [tinc_0]; exact hs) kp.rf hP hS (lv_sub hl [0, 1, 2, 3, 4] rfl)
  obtain ⟨hn1, s1, s2, s3, s4, s5, s6, s7⟩ := id h1
  have f1 : w1 h = some (.inr (ciS, [.int (nI n), .ref aT, .ref aA, .ref aS])) := s1
  refine lv_aload_n hx hb d_S_noteStored_32 rfl (lv_at hl 0 rfl) ?_
  refine lv_iload_n hx hb d_S_noteStored_33 rfl (lv_at hl 1 rfl) ?_
  refine lv_iconst (v := 3) hx hb d_S_noteStored_34 (by decide) ?_
  refine lv_ishr hx hb d_S_noteStored_35 ?_
  rw [show (nI a) >>> (3 &&& 31) = nI (a / 8) from ish a 3 (by omega) (by omega)]
  refine lv_iload_n hx hb d_S_noteStored_36 rfl (lv_at hl 2 rfl) ?_
  refine lv_iconst (v := 3) hx hb d_S_noteStored_37 (by decide) ?_
  refine lv_ishr hx hb d_S_noteStored_38 ?_
  rw [show (nI b) >>> (3 &&& 31) = nI (b / 8) from ish b 3 (by omega) (by omega)]
  refine mc_v (va_runV (As := [.int (nI (a / 8)), .int (nI (b / 8))]) (rest := []) ⟨hx, hb, hml, hown, htg⟩ (t_S_lose l D cJ cI cP bs w1 h n M (tinc T (a / 4096) (b / 4096 + 1)) ra rs aT aA aS pt h1 (a / 8) (b / 8) (by omega) (by omega) hro) (cwV (own := R_S) (C := R_S) 2 htg (ginV k_265 k_267 k_10 k_25 k_268) rfl rfl rfl (by decide +kernel) ⟨Nat.le_of_ble_eq_true rfl, Nat.le_of_ble_eq_true rfl⟩) (mPc.preV (ci := ciS) (q := (R_S, T_S, 4)) hbs hS hP hK rfl f1) rfl rfl hl.1 rfl (lv_room (Nat.le_of_ble_eq_true rfl)) d_S_noteStored_39 ⟨Nat.le_of_ble_eq_true rfl, Nat.le_of_ble_eq_true rfl⟩) hS (fun w2 H locs hw hP hz39 hS => ?_)
  exact W.vret hx hb hr (fun t ht hW => ⟨⟨w2, rfl, ⟨hw.1, h2.trans hw.2⟩, hP.at ht⟩, hS.F ht⟩) hS.2.2 d_S_noteStored_42
