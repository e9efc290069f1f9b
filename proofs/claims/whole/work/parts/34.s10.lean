theorem mx_w {a c : Nat} (ha : a < 2 ^ 30) (hc : c < 2 ^ 30) : (if nI a - nI c < 0 then 0 else nI a - nI c) = nI (a - c) := by
  by_cases h : a < c
  · rw [if_pos (pk_sneg hc h), show a - c = 0 by omega, nI_0]
  · rw [pk_sub (by omega), if_neg (nI_pos (by omega))]
theorem mn_w {b c : Nat} (hb : b < 2 ^ 30) (hc : c ≤ b) : (if 4095 < nI b - nI c then 4095 else nI b - nI c) = nI (min (b - c) 4095) := by
  rw [pk_sub hc]
  show (if nI 4095 < nI (b - c) then nI 4095 else nI (b - c)) = _
  by_cases h : 4095 < b - c
  · rw [if_pos (nI_lt h (by omega)), Nat.min_eq_right (by omega)]
  · rw [if_neg (nI_nlt (by omega) (by omega)), Nat.min_eq_left (by omega)]
/-- the bits of memory behind a fill of the places from a to b -/
def flB (M : Nat → Int64) (a b : Nat) (x : Int64) (k i : Nat) : Bool := if 8 * a ≤ 64 * k + i ∧ 64 * k + i < 8 * (b + 1) then bi x i else bi (M k) i
/-- how many cells and slots are made at most, with the pages before i done -/
def cB (p0 p1 i : Nat) : Nat := (i - p0) + (if p0 < i then 1 else 0) + (if p1 < i then 1 else 0)
def sB (p0 p1 i : Nat) : Nat := 5 * (i - p0) + (if p0 < i then 512 else 0) + (if p1 < i then 512 else 0)
theorem cB_le {p0 p1 i : Nat} (h : i ≤ p1 + 1) (h2 : p1 < 1024) : cB p0 p1 i ≤ 1026 := by
  unfold cB
  split <;> split <;> omega
theorem sB_le {p0 p1 i : Nat} (h : i ≤ p1 + 1) (h2 : p1 < 1024) : sB p0 p1 i ≤ 6144 := by
  unfold sB
  split <;> split <;> omega
theorem cB_s {p0 p1 i : Nat} (F : Prop) (h : p0 ≤ i) (h1 : i ≤ p1) (hF : p0 < i → i < p1 → F) : ∃ mq sq, (¬ F → 1 ≤ mq ∧ 512 ≤ sq) ∧ cB p0 p1 i + 1 + mq ≤ cB p0 p1 (i + 1) ∧ sB p0 p1 i + 5 + sq ≤ sB p0 p1 (i + 1) := by
  by_cases q : p0 < i ∧ i < p1
  · refine ⟨0, 0, fun z => absurd (hF q.1 q.2) z, ?_, ?_⟩
    · unfold cB; rw [if_pos q.1, if_neg (by omega), if_pos (by omega), if_neg (by omega)]; omega
    · unfold sB; rw [if_pos q.1, if_neg (by omega), if_pos (by omega), if_neg (by omega)]; omega
  · refine ⟨1, 512, fun _ => ⟨Nat.le_refl _, Nat.le_refl _⟩, ?_, ?_⟩
    · unfold cB; rw [if_pos (show p0 < i + 1 by omega)]; split <;> split <;> split <;> omega
    · unfold sB; rw [if_pos (show p0 < i + 1 by omega)]; split <;> split <;> split <;> omega
set_option maxHeartbeats 4000000 in
set_option maxRecDepth 100000 in
/-- putSameBytes: its loop -/
theorem lp_S_psb {p : Program} {l : Launch} {e : Env} {s : State} {m : MethodId} {args : Array Value} {below : List Frame} {meth : Method} {c : Code} {Q : State → Prop} {D : va_G} {cJ cI cP : ClassId} {bs : Nat} (hx : p.tables.exec = Jvm.exec) (hb : c.code = c_S_putSameBytes) (hml : c.maxLocals = 10) (hown : s.vm.findClass R_S = some m.cls) (htg : ∀ w ∈ gt, w.before args s = true) (hK : va_K D vwCl (mT cJ cI cP) s) (hbs : bs ≤ s.heap.size) (hE : evX bs s) (w : Nat → Option va_E) (h n : Nat) (M T : Nat → Int64) (ra : Nat → Int64) (rs : Nat → Int32) (aT aA aS : Nat) (x : Int64) (a b : Nat) (hab : a ≤ b) (hbn : b < 4096 * n) (hn9 : n ≤ 1024) (kx : ∀ (w1 : Nat → Option va_E) (Mc : Nat → Int64) (pt : Nat → Option Nat) (ls : Array Slot) (H : Heap) (locs : List Loc), sm cJ cI cP w1 h n Mc T ra rs aT aA aS pt → kp w w1 (sfp w h) (sfp w1 h) → (∀ k z, z < 64 → bi (Mc k) z = flB M a b x k z) → (∀ j, a / 4096 ≤ j → j ≤ b / 4096 → ¬ pt j = none) → mw D vwCl bs w1 H → va_S (mA bs) s.heap H locs → lv_has ls 10 [(0, .ref h), (1, .int (nI a)), (2, .int (nI b)), (3, .long x)] → W p l e ({ frames := 4, cells := 1026, slots := 6144, locals := 102 } : Room) s m args below meth c H locs 1026 6144 Q (F0 m 68 ls [])) :
    ∀ (k : Nat) (i : Nat) (w1 : Nat → Option va_E) (Mc : Nat → Int64) (pt : Nat → Option Nat) (ls : Array Slot) (H : Heap) (locs : List Loc), b / 4096 + 1 - i < k → a / 4096 ≤ i → i ≤ b / 4096 + 1 → (∀ k, a / 4096 ≤ k / 512 → k / 512 < i → ∀ z, z < 64 → bi (Mc k) z = flB M a b x k z) → (∀ k, ¬ (a / 4096 ≤ k / 512 ∧ k / 512 < i) → Mc k = M k) → (∀ j, a / 4096 ≤ j → j < i → ¬ pt j = none) → sm cJ cI cP w1 h n Mc T ra rs aT aA aS pt → kp w w1 (sfp w h) (sfp w1 h) → mw D vwCl bs w1 H → va_S (mA bs) s.heap H locs → lv_has ls 10 [(6, .int (nI i)), (5, .int (nI (b / 4096))), (0, .ref h), (1, .int (nI a)), (2, .int (nI b)), (3, .long x)] → W p l e ({ frames := 4, cells := 1026, slots := 6144, locals := 102 } : Room) s m args below meth c H locs (cB (a / 4096) (b / 4096) i) (sB (a / 4096) (b / 4096) i) Q (F0 m 12 ls []) := by
  intro k
  induction k with
  | zero => intro i w1 Mc pt ls H locs hk0; exact absurd hk0 (by omega)
  | succ k ih =>
    intro i w1 Mc pt ls H locs hk hai hi hlo hhi hpt hs1 hkp hP hS hl
    obtain ⟨hn, s1, s2, s3, s4, s5, s6, s7⟩ := id hs1
    have f1 : w1 h = some (.inr (ciS, [.int (nI n), .ref aT, .ref aA, .ref aS])) := s1
    refine lv_iload hx hb d_S_putSameBytes_12 (lv_at hl 0 rfl) ?_
    refine lv_iload hx hb d_S_putSameBytes_14 (lv_at hl 1 rfl) ?_
    refine lv_icmp_gt (tgt := 68) hx hb d_S_putSameBytes_16 (by decide) (fun c16 => ?_) (fun c16 => ?_)
    · have e5 : i = b / 4096 + 1 := Nat.le_antisymm hi ((nI_ltI (by omega) (by omega)).mp c16)
      subst e5
      refine W.widen (k := 1026) (n := 6144) (cB_le hi (by omega)) (sB_le hi (by omega)) ?_
      refine kx w1 Mc pt ls H locs hs1 hkp (fun k z hz => ?_) (fun j h1 h2 => hpt j h1 (by omega)) hP hS (lv_sub hl [2, 3, 4, 5] rfl)
      by_cases hc : a / 4096 ≤ k / 512 ∧ k / 512 < b / 4096 + 1
      · exact hlo k hc.1 hc.2 z hz
      · rw [hhi k hc]; unfold flB; rw [if_neg (by omega)]
    · have hlt : i ≤ b / 4096 := Nat.le_of_not_lt (fun z => c16 (nI_lt z (by omega)))
      have hin : i < n := by omega
      refine lv_iload hx hb d_S_putSameBytes_19 (lv_at hl 0 rfl) ?_
      refine lv_bipush (v := 12) hx hb d_S_putSameBytes_21 (by decide) ?_
      refine lv_ishl hx hb d_S_putSameBytes_23 ?_
      rw [show (nI i) <<< (12 &&& 31) = nI (i * 4096) from pk_shlN 12 12 (by decide) (by omega)]
      refine lv_istore (lv' := [(7, .int (nI (i * 4096))), (6, .int (nI i)), (5, .int (nI (b / 4096))), (0, .ref h), (1, .int (nI a)), (2, .int (nI b)), (3, .long x)]) hx hb d_S_putSameBytes_24 hl (by decide) rfl (fun ls hl => ?_)
      refine lv_iload_n hx hb d_S_putSameBytes_26 rfl (lv_at hl 4 rfl) ?_
      refine lv_iload hx hb d_S_putSameBytes_27 (lv_at hl 0 rfl) ?_
      refine lv_isub hx hb d_S_putSameBytes_29 ?_
      refine lv_iconst (v := 0) hx hb d_S_putSameBytes_30 (by decide) ?_
      refine va_mmax (own := R_S) hx hb (hml.trans hl.1.symm) hown (htg _ k_282) (htg _ k_283) (htg _ k_34) (htg _ k_284) (Nat.le_of_ble_eq_true rfl) (Nat.le_of_ble_eq_true rfl) (cB_le hi (by omega)) (sB_le hi (by omega)) d_S_putSameBytes_31 ?_
      rw [show (if ((nI a) - (nI (i * 4096))) < 0 then 0 else ((nI a) - (nI (i * 4096)))) = nI (a - i * 4096) from mx_w (by omega) (by omega)]
      refine lv_istore (lv' := [(8, .int (nI (a - i * 4096))), (7, .int (nI (i * 4096))), (6, .int (nI i)), (5, .int (nI (b / 4096))), (0, .ref h), (1, .int (nI a)), (2, .int (nI b)), (3, .long x)]) hx hb d_S_putSameBytes_34 hl (by decide) rfl (fun ls hl => ?_)
      refine lv_iload_n hx hb d_S_putSameBytes_36 rfl (lv_at hl 6 rfl) ?_
      refine lv_iload hx hb d_S_putSameBytes_37 (lv_at hl 1 rfl) ?_
      refine lv_isub hx hb d_S_putSameBytes_39 ?_
      refine lv_sipush (v := 4095) hx hb d_S_putSameBytes_40 (by decide) ?_
      refine va_mmin (own := R_S) hx hb (hml.trans hl.1.symm) hown (htg _ k_285) (htg _ k_286) (htg _ k_34) (htg _ k_287) (Nat.le_of_ble_eq_true rfl) (Nat.le_of_ble_eq_true rfl) (cB_le hi (by omega)) (sB_le hi (by omega)) d_S_putSameBytes_43 ?_
      rw [show (if 4095 < ((nI b) - (nI (i * 4096))) then 4095 else ((nI b) - (nI (i * 4096)))) = nI (min (b - i * 4096) 4095) from mn_w (by omega) (by omega)]
      refine lv_istore (lv' := [(9, .int (nI (min (b - i * 4096) 4095))), (8, .int (nI (a - i * 4096))), (7, .int (nI (i * 4096))), (6, .int (nI i)), (5, .int (nI (b / 4096))), (0, .ref h), (1, .int (nI a)), (2, .int (nI b)), (3, .long x)]) hx hb d_S_putSameBytes_46 hl (by decide) rfl (fun ls hl => ?_)
      obtain ⟨mq, sq, hq1, hq2, hq3⟩ := cB_s (a - i * 4096 = 0 ∧ min (b - i * 4096) 4095 = 4095) hai hlt (fun q1 q2 => ⟨by omega, by rw [Nat.min_eq_right (by omega)]⟩)
      have hc9 := cB_le (p0 := a / 4096) (p1 := b / 4096) (i := i + 1) (by omega) (by omega)
      have hs9 := sB_le (p0 := a / 4096) (p1 := b / 4096) (i := i + 1) (by omega) (by omega)
      have fc1 : cB (a / 4096) (b / 4096) i + 1 ≤ 1026 := by omega
      have fs1 : sB (a / 4096) (b / 4096) i + 5 ≤ 6144 := by omega
      have fc2 : cB (a / 4096) (b / 4096) i + 1 + mq ≤ 1026 := by omega
      have fs2 : sB (a / 4096) (b / 4096) i + 5 + sq ≤ 6144 := by omega
      refine lv_aload_n hx hb d_S_putSameBytes_48 rfl (lv_at hl 5 rfl) ?_
      refine lv_iload hx hb d_S_putSameBytes_49 (lv_at hl 3 rfl) ?_
      refine mc_r (va_runV (As := [.int (nI i)]) (rest := []) ⟨hx, hb, hml, hown, htg⟩ (t_S_ptw l D cJ cI cP bs w1 h n Mc T ra rs aT aA aS pt hs1 i hin 1 5 (fun _ => ⟨Nat.le_refl _, Nat.le_refl _⟩)) (cwV (own := R_S) (C := R_S) 1 htg (ginV k_219 k_221 k_7 k_25 k_222) rfl rfl rfl (by decide +kernel) ⟨Nat.le_of_ble_eq_true rfl, Nat.le_of_ble_eq_true rfl⟩) (mPc.preV (ci := ciS) (q := (R_S, T_S, 4)) hbs hS hP hK rfl f1) rfl rfl hl.1 rfl (lv_room (Nat.le_of_ble_eq_true rfl)) d_S_putSameBytes_51 ⟨fc1, fs1⟩) hS (fun u51 H locs hw hP hz51 hS => ?_)
      obtain ⟨w2, pz, pt2⟩ := u51
      obtain ⟨m1, m2, m3, m4, m5⟩ := hw
      have m1 : sm cJ cI cP w2 h n Mc T ra rs aT aA aS pt2 := m1
      have m2 : pt2 i = some pz := m2
      have m3 : kp w1 w2 (sfp w1 h) (sfp w2 h) := m3
      have m4 : ∀ j, ¬ j = i → pt2 j = pt j := m4
      have hP : mw D vwCl bs w2 H := hP
      have m6 := m1.2.2.2.2.2.2.1 i pz hin m2
      obtain ⟨wr, ev, ew, y1, y2⟩ := id m6
      refine lv_iload hx hb d_S_putSameBytes_54 (lv_at hl 1 rfl) ?_
      refine lv_iload hx hb d_S_putSameBytes_56 (lv_at hl 0 rfl) ?_
      refine lv_lload_n hx hb d_S_putSameBytes_58 rfl (lv_at hl 8 rfl) ?_
      refine mc_v (va_runV (As := [.int (nI (a - i * 4096)), .int (nI (min (b - i * 4096) 4095)), .long x]) (rest := []) ⟨hx, hb, hml, hown, htg⟩ (t_P_spread l D cJ cI cP bs w2 pz (fun j => Mc (512 * i + j)) (T i) m6 (a - i * 4096) (min (b - i * 4096) 4095) (Nat.le_min.mpr ⟨by omega, by omega⟩) (Nat.lt_of_le_of_lt (Nat.min_le_right _ _) (by omega)) x mq sq hq1) (cwV (own := R_S) (C := R_P) 3 htg (ginV k_288 k_289 k_290 k_32 k_291) rfl rfl rfl (by decide +kernel) ⟨Nat.le_of_ble_eq_true rfl, Nat.le_of_ble_eq_true rfl⟩) (mPx.preV (ci := ciP) (q := (R_P, T_P, 5)) hbs hS hP hK hE rfl y1) rfl rfl hl.1 rfl (lv_room (Nat.le_of_ble_eq_true rfl)) d_S_putSameBytes_59 ⟨fc2, fs2⟩) hS (fun u59 H locs hw hP hz59 hS => ?_)
      obtain ⟨w3, W3⟩ := u59
      obtain ⟨v1, v2, v3⟩ := hw
      have v3 : ∀ j, j < 512 → ∀ z, z < 64 → bi (W3 j) z = spB (fun j => Mc (512 * i + j)) (a - i * 4096) (min (b - i * 4096) 4095) x j z := v3
      have hP : mw D vwCl bs w3 H := hP
      have hpg := sm_page m1 hin m2 v2 v1
      rw [va_up_id] at hpg
      obtain ⟨i_1, ei_1⟩ : ∃ y : Int32, y = (nI i) + 1 := ⟨_, rfl⟩
      refine lv_iinc (v := i_1) (lv' := [(6, .int i_1), (9, .int (nI (min (b - i * 4096) 4095))), (8, .int (nI (a - i * 4096))), (7, .int (nI (i * 4096))), (5, .int (nI (b / 4096))), (0, .ref h), (1, .int (nI a)), (2, .int (nI b)), (3, .long x)]) hx hb d_S_putSameBytes_62 hl (k := 3) rfl (by rw [ei_1]; rfl) (by decide) rfl (fun ls hl => ?_)
      refine lv_goto (tgt := 12) hx hb d_S_putSameBytes_65 (by decide) ?_
      refine W.widen (k := cB (a / 4096) (b / 4096) (i + 1)) (n := sB (a / 4096) (b / 4096) (i + 1)) hq2 hq3 ?_
      refine ih (i + 1) w3 (pup Mc i W3) pt2 ls H locs (by omega) (by omega) (by omega) (fun k h1 h2 z hz => ?_) (fun k hk2 => ?_) (fun j h1 h2 => ?_) hpg.1 ((hkp.trans m3).trans hpg.2) hP hS (by rw [← nI_1 i, ← ei_1]; exact lv_sub hl [0, 4, 5, 6, 7, 8] rfl)
      · by_cases hki : k / 512 = i
        · have e1 : pup Mc i W3 k = W3 (k % 512) := by unfold pup; rw [if_pos hki]
          have e2 : Mc (512 * i + k % 512) = M k := by rw [show 512 * i + k % 512 = k by omega]; exact hhi k (by omega)
          rw [e1, v3 (k % 512) (Nat.mod_lt _ (by decide)) z hz]
          unfold spB flB
          rw [show (fun j => Mc (512 * i + j)) (k % 512) = M k from e2]
          have hmn : min (b - i * 4096) 4095 = b - i * 4096 ∨ min (b - i * 4096) 4095 = 4095 := by omega
          by_cases hc : 8 * a ≤ 64 * k + z ∧ 64 * k + z < 8 * (b + 1)
          · rw [if_pos hc, if_pos (by omega)]
          · rw [if_neg hc, if_neg (by omega)]
        · have e1 : pup Mc i W3 k = Mc k := by unfold pup; rw [if_neg hki]
          rw [e1]; exact hlo k h1 (by omega) z hz
      · have e1 : pup Mc i W3 k = Mc k := by unfold pup; rw [if_neg (by omega)]
        rw [e1]; exact hhi k (by omega)
      · by_cases hji : j = i
        · rw [hji, m2]; simp
        · rw [m4 j hji]; exact hpt j h1 (by omega)
set_option maxHeartbeats 4000000 in
set_option maxRecDepth 100000 in
/-- putSameBytes -/
theorem t_S_psb (l : Launch) (D : va_G) (cJ cI cP : ClassId) (bs : Nat) (w : Nat → Option va_E) (h n : Nat) (M T : Nat → Int64) (ra : Nat → Int64) (rs : Nat → Int32) (aT aA aS : Nat) (pt : Nat → Option Nat) (hs : sm cJ cI cP w h n M T ra rs aT aA aS pt) (a b : Nat) (hab : a ≤ b) (hbn : b < 4096 * n) (hro : rok ra n) (x : Int64) : Met l y_S_putSameBytes ws_S_putSameBytes ({ frames := 4, cells := 1026, slots := 6144, locals := 102 }) (mPx D vwCl (mT cJ cI cP) bs w [.ref h, .int (nI a), .int (nI b), .long x]) (va_Qv (S := S3) (fun u => sm cJ cI cP u.1 h n u.2.1 (tinc T (a / 4096) (b / 4096 + 1)) (lost ra (a / 8) (b / 8)) rs aT aA aS u.2.2 ∧ (∀ k z, z < 64 → bi (u.2.1 k) z = flB M a b x k z) ∧ kp w u.1 (sfp w h) (sfp u.1 h)) (mB D vwCl bs (fun u => u.1)) (mA bs)) 1026 6144 (mA bs) := by
  refine Met.ofW (cc := c_S_putSameBytes) (maxL := 10) (ret := none) (by decide) rfl ?_
  intro p e s m args below meth c s₁ B hml hv
  obtain ⟨rfl, hbs, hP, hK, hE⟩ := hv
  have hx := B.exec
  have hb := B.bytes
  have hr := B.returns
  have htg : ∀ w ∈ gt, w.before _ s = true := fun w h => atoms_spec (ws := ws_S_putSameBytes) B.pre w (List.mem_cons_of_mem _ h)
  have hown : s.vm.findClass R_S = some m.cls := findClass_of_methodNamed B.named
  have hlocks := B.notSynchronized
  have hS : va_S (mA bs) s.heap s.heap [] := va_S.rf
  have hl := lv_entry ([.ref h, .int (nI a), .int (nI b), .long x]) (n := 10) (Nat.le_of_ble_eq_true rfl)
  rw [lg_entry_eq]
  generalize (lg_sl ([.ref h, .int (nI a), .int (nI b), .long x]) ++ List.replicate (10 - (lg_sl ([.ref h, .int (nI a), .int (nI b), .long x])).length) Slot.unset).toArray = ls at hl ⊢
  have hl : lv_has ls 10 [(0, .ref h), (1, .int (nI a)), (2, .int (nI b)), (3, .long x)] := hl
  obtain ⟨hn, s1, s2, s3, s4, s5, s6, s7⟩ := id hs
  have f1 : w h = some (.inr (ciS, [.int (nI n), .ref aT, .ref aA, .ref aS])) := s1
  refine lv_iload_n hx hb d_S_putSameBytes_0 rfl (lv_at hl 2 rfl) ?_
  refine lv_bipush (v := 12) hx hb d_S_putSameBytes_1 (by decide) ?_
  refine lv_ishr hx hb d_S_putSameBytes_3 ?_
  rw [show (nI b) >>> (12 &&& 31) = nI (b / 4096) from ish b 12 (by omega) (by omega)]
  refine lv_istore (lv' := [(5, .int (nI (b / 4096))), (0, .ref h), (1, .int (nI a)), (2, .int (nI b)), (3, .long x)]) hx hb d_S_putSameBytes_4 hl (by decide) rfl (fun ls hl => ?_)
  refine lv_iload_n hx hb d_S_putSameBytes_6 rfl (lv_at hl 2 rfl) ?_
  refine lv_bipush (v := 12) hx hb d_S_putSameBytes_7 (by decide) ?_
  refine lv_ishr hx hb d_S_putSameBytes_9 ?_
  rw [show (nI a) >>> (12 &&& 31) = nI (a / 4096) from ish a 12 (by omega) (by omega)]
  refine lv_istore (lv' := [(6, .int (nI (a / 4096))), (5, .int (nI (b / 4096))), (0, .ref h), (1, .int (nI a)), (2, .int (nI b)), (3, .long x)]) hx hb d_S_putSameBytes_10 hl (by decide) rfl (fun ls hl => ?_)
  refine W.widen (k := cB (a / 4096) (b / 4096) (a / 4096)) (n := sB (a / 4096) (b / 4096) (a / 4096)) (Nat.zero_le _) (Nat.zero_le _) ?_
  refine lp_S_psb (D := D) (cJ := cJ) (cI := cI) (cP := cP) (bs := bs) hx hb hml hown htg hK hbs hE w h n M T ra rs aT aA aS x a b hab hbn hn.2 (fun w1 Mc pt1 ls H locs h1 h2 h3 h4 hP hS hl => ?_) (b / 4096 + 2) (a / 4096) w M pt ls _ _ (by omega) (Nat.le_refl _) (by omega) (fun k q1 q2 => absurd q2 (by omega)) (fun _ _ => rfl) (fun j q1 q2 => absurd q2 (by omega)) hs kp.rf hP hS (lv_sub hl [0, 1, 2, 3, 4, 5] rfl)
  have f1 : w1 h = some (.inr (ciS, [.int (nI n), .ref aT, .ref aA, .ref aS])) := h1.2.1
  refine lv_aload_n hx hb d_S_putSameBytes_68 rfl (lv_at hl 0 rfl) ?_
  refine lv_iload_n hx hb d_S_putSameBytes_69 rfl (lv_at hl 1 rfl) ?_
  refine lv_iload_n hx hb d_S_putSameBytes_70 rfl (lv_at hl 2 rfl) ?_
  refine mc_v (va_runV (As := [.int (nI a), .int (nI b)]) (rest := []) ⟨hx, hb, hml, hown, htg⟩ (t_S_note l D cJ cI cP bs w1 h n Mc T ra rs aT aA aS pt1 h1 a b hab hbn hro h4) (cwV (own := R_S) (C := R_S) 2 htg (ginV k_257 k_259 k_9 k_25 k_260) rfl rfl rfl (by decide +kernel) ⟨Nat.le_of_ble_eq_true rfl, Nat.le_of_ble_eq_true rfl⟩) (mPc.preV (ci := ciS) (q := (R_S, T_S, 4)) hbs hS hP hK rfl f1) rfl rfl hl.1 rfl (lv_room (Nat.le_of_ble_eq_true rfl)) d_S_putSameBytes_71 ⟨Nat.le_of_ble_eq_true rfl, Nat.le_of_ble_eq_true rfl⟩) hS (fun w9 H locs hw hP hz71 hS => ?_)
  exact W.vret hx hb hr (fun t ht hW => ⟨⟨(w9, Mc, pt1), rfl, ⟨hw.1, h3, h2.trans hw.2⟩, hP.at ht⟩, hS.F ht⟩) hS.2.2 d_S_putSameBytes_74
