theorem bi_m1' (i : Nat) : bi (-1) i = decide (i < 64) := by
  rcases Nat.lt_or_ge i 64 with h | h
  · rw [bi_m1 i h, decide_eq_true h]
  · rw [bi_big h, decide_eq_false (Nat.not_lt.mpr h)]
def need (w : Nat → Option va_E) (p : Nat) : Nat := if pgw w p = none then 1 else 0
theorem need_0 {w : Nat → Option va_E} {p : Nat} (h : ¬ pgw w p = none) : need w p = 0 := by simp [need, h]
theorem need_1 {w : Nat → Option va_E} {p : Nat} (h : pgw w p = none) : need w p = 1 := by simp [need, h]
/-- a page's bits behind spread -/
def spB (Wd : Nat → Int64) (f g : Nat) (x : Int64) (j b : Nat) : Bool := if 8 * f ≤ 64 * j + b ∧ 64 * j + b < 8 * (g + 1) then bi x b else bi (Wd j) b
theorem bud {w1 : Nat → Option va_E} {pa ce sl : Nat} {A B : Int64} (h1 : ce + need w1 pa ≤ 1) (h2 : sl + 512 * need w1 pa ≤ 512) : ∃ mq sq, (pgw w1 pa = none → ¬ A = B → 1 ≤ mq ∧ 512 ≤ sq) ∧ ce + mq ≤ 1 ∧ sl + sq ≤ 512 ∧ ∀ u : Nat → Option va_E, (A = B → u = w1) → (¬ A = B → ¬ pgw u pa = none) → ce + mq + need u pa ≤ 1 ∧ sl + sq + 512 * need u pa ≤ 512 := by
  by_cases q1 : A = B
  · exact ⟨0, 0, fun _ z => absurd q1 z, by omega, by omega, fun u e1 _ => by rw [e1 q1]; omega⟩
  · by_cases q2 : pgw w1 pa = none
    · have e0 := need_1 q2
      exact ⟨1, 512, fun _ _ => ⟨Nat.le_refl _, Nat.le_refl _⟩, by omega, by omega, fun u _ e2 => by have e3 := need_0 (e2 q1); omega⟩
    · exact ⟨0, 0, fun z => absurd z q2, by omega, by omega, fun u _ e2 => by have e3 := need_0 (e2 q1); omega⟩
set_option maxHeartbeats 4000000 in
set_option maxRecDepth 100000 in
/-- spread: its loop -/
theorem lp_P_spread {p : Program} {l : Launch} {e : Env} {s : State} {m : MethodId} {args : Array Value} {below : List Frame} {meth : Method} {c : Code} {Q : State → Prop} {D : va_G} {cJ cI cP : ClassId} {bs : Nat} (hx : p.tables.exec = Jvm.exec) (hb : c.code = c_P_spread) (hml : c.maxLocals = 10) (hown : s.vm.findClass R_P = some m.cls) (htg : ∀ w ∈ gt, w.before args s = true) (hK : va_K D vwCl (mT cJ cI cP) s) (hbs : bs ≤ s.heap.size) (hE : evX bs s) (w : Nat → Option va_E) (pa : Nat) (Wd : Nat → Int64) (tw : Int64) (x : Int64) (f g : Nat) (hfg : f ≤ g) (hg : g < 4096) (mc ms : Nat) (hmc : 1 ≤ mc) (hms : 512 ≤ ms) (kx : ∀ (w1 : Nat → Option va_E) (Wc : Nat → Int64) (ls : Array Slot) (H : Heap) (locs : List Loc), pg cJ w1 pa Wc tw → kp w w1 (pfp w pa) (pfp w1 pa) → (∀ j, j < 512 → ∀ b, b < 64 → bi (Wc j) b = spB Wd f g x j b) → mw D vwCl bs w1 H → va_S (mA bs) s.heap H locs → W p l e ({ frames := 3, cells := mc, slots := ms, locals := 73 } : Room) s m args below meth c H locs 1 512 Q (F0 m 97 ls [])) :
    ∀ (k : Nat) (i : Nat) (w1 : Nat → Option va_E) (Wc : Nat → Int64) (ce sl : Nat) (ls : Array Slot) (H : Heap) (locs : List Loc), g / 8 + 1 - i < k → f / 8 ≤ i → i ≤ g / 8 + 1 → (∀ j, f / 8 ≤ j → j < i → ∀ b, b < 64 → bi (Wc j) b = spB Wd f g x j b) → (∀ j, ¬ (f / 8 ≤ j ∧ j < i) → Wc j = Wd j) → pg cJ w1 pa Wc tw → kp w w1 (pfp w pa) (pfp w1 pa) → ce + need w1 pa ≤ 1 → sl + 512 * need w1 pa ≤ 512 → mw D vwCl bs w1 H → va_S (mA bs) s.heap H locs → lv_has ls 10 [(7, .int (nI i)), (6, .int (nI (g / 8))), (5, .int (nI (f / 8))), (0, .ref pa), (1, .int (nI f)), (2, .int (nI g)), (3, .long x)] → W p l e ({ frames := 3, cells := mc, slots := ms, locals := 73 } : Room) s m args below meth c H locs ce sl Q (F0 m 31 ls []) := by
  intro k
  induction k with
  | zero => intro i w1 Wc ce sl ls H locs hk0; exact absurd hk0 (by omega)
  | succ k ih =>
    intro i w1 Wc ce sl ls H locs hk hfi hi hlo hhi hp hkp hce hsl hP hS hl
    obtain ⟨wr, ev, ew, g1, g2⟩ := id hp
    refine lv_iload hx hb d_P_spread_31 (lv_at hl 0 rfl) ?_
    refine lv_iload hx hb d_P_spread_33 (lv_at hl 1 rfl) ?_
    refine lv_icmp_gt (tgt := 97) hx hb d_P_spread_35 (by decide) (fun c35 => ?_) (fun c35 => ?_)
    · have e5 : i = g / 8 + 1 := Nat.le_antisymm hi ((nI_ltI (by omega) (by omega)).mp c35)
      subst e5
      refine W.widen (k := 1) (n := 512) (Nat.le_of_add_right_le hce) (Nat.le_of_add_right_le hsl) ?_
      refine kx w1 Wc ls H locs hp hkp (fun j hj b hb => ?_) hP hS
      by_cases hj2 : f / 8 ≤ j ∧ j < g / 8 + 1
      · exact hlo j hj2.1 hj2.2 b hb
      · rw [hhi j hj2]; unfold spB; rw [if_neg (by omega)]
    · have hle : i ≤ g / 8 := Nat.le_of_not_lt (fun z => c35 (nI_lt z (by omega)))
      refine lv_ldc2 (own := R_P) (v := (-1)) hx hb hown (htg _ k_249) d_P_spread_38 ?_
      refine lv_lstore (lv' := [(8, .long (-1)), (7, .int (nI i)), (6, .int (nI (g / 8))), (5, .int (nI (f / 8))), (0, .ref pa), (1, .int (nI f)), (2, .int (nI g)), (3, .long x)]) hx hb d_P_spread_41 hl (by decide) rfl (fun ls hl => ?_)
      refine lv_iload hx hb d_P_spread_43 (lv_at hl 1 rfl) ?_
      refine lv_iload hx hb d_P_spread_45 (lv_at hl 3 rfl) ?_
      refine lv_icmp_ne (tgt := 59) hx hb d_P_spread_47 (by decide) (fun c47 => ?_) (fun c47 => ?_)
      · have hif : ¬ i = f / 8 := fun z => c47 (by rw [z])
        refine lv_iload hx hb d_P_spread_59 (lv_at hl 1 rfl) ?_
        refine lv_iload hx hb d_P_spread_61 (lv_at hl 2 rfl) ?_
        refine lv_icmp_ne (tgt := 82) hx hb d_P_spread_63 (by decide) (fun c63 => ?_) (fun c63 => ?_)
        · have hil : ¬ i = g / 8 := fun z => c63 (by rw [z])
          have hmask : ∀ b, b < 64 → bi (-1) b = decide (8 * f ≤ 64 * i + b ∧ 64 * i + b < 8 * (g + 1)) := by
            intro b hb
            rw [bi_m1', Bool.eq_iff_iff]
            simp only [Bool.and_eq_true, decide_eq_true_iff]
            constructor <;> (intro hq; omega)
          obtain ⟨mq, sq, hq1, hq2, hq3, hq4⟩ := bud (A := mrg (Wc i) (-1) x) (B := Wc i) hce hsl
          refine lv_aload_n hx hb d_P_spread_82 rfl (lv_at hl 4 rfl) ?_
          refine lv_iload hx hb d_P_spread_83 (lv_at hl 1 rfl) ?_
          refine lv_lload hx hb d_P_spread_85 (lv_at hl 0 rfl) ?_
          refine lv_lload_n hx hb d_P_spread_87 rfl (lv_at hl 7 rfl) ?_
          refine mc_v (va_runV (As := [.int (nI i), .long (-1), .long x]) (rest := []) ⟨hx, hb, hml, hown, htg⟩ (t_P_merge l D cJ cI cP bs w1 pa Wc tw hp i (by omega) (-1) x mq sq hq1) (cwV (own := R_P) (C := R_P) 3 htg (ginV k_297 k_245 k_246 k_32 k_247) rfl rfl rfl (by decide +kernel) ⟨Nat.le_of_ble_eq_true rfl, Nat.le_of_ble_eq_true rfl⟩) (mPc.preV (ci := ciP) (q := (R_P, T_P, 5)) hbs hS hP hK rfl g1) rfl rfl hl.1 rfl (lv_room (Nat.le_of_ble_eq_true rfl)) d_P_spread_88 ⟨Nat.le_trans hq2 hmc, Nat.le_trans hq3 hms⟩) hS (fun w3 H locs hw hP hz88 hS => ?_)
          obtain ⟨v1, v2, v3, v4⟩ := hw
          have v5 := hq4 w3 v3 v4
          obtain ⟨i_1, ei_1⟩ : ∃ y : Int32, y = (nI i) + 1 := ⟨_, rfl⟩
          refine lv_iinc (v := i_1) (lv' := [(7, .int i_1), (8, .long (-1)), (6, .int (nI (g / 8))), (5, .int (nI (f / 8))), (0, .ref pa), (1, .int (nI f)), (2, .int (nI g)), (3, .long x)]) hx hb d_P_spread_91 hl (k := 1) rfl (by rw [ei_1]; rfl) (by decide) rfl (fun ls hl => ?_)
          refine lv_goto (tgt := 31) hx hb d_P_spread_94 (by decide) ?_
          refine ih (i + 1) w3 (va_up Wc i (mrg (Wc i) (-1) x)) (ce + mq) (sl + sq) ls H locs (by omega) (by omega) (by omega) (fun j h1 h2 b hb => ?_) (fun j hj => ?_) v1 (hkp.trans v2) v5.1 v5.2 hP hS (by rw [← nI_1 i, ← ei_1]; exact lv_sub hl [0, 2, 3, 4, 5, 6, 7] rfl)
          · by_cases hji : j = i
            · subst hji
              rw [va_up_self, bi_mrg _ _ _ hb, hmask b hb, hhi j (by omega)]
              unfold spB
              by_cases hc : 8 * f ≤ 64 * j + b ∧ 64 * j + b < 8 * (g + 1)
              · rw [if_pos hc, if_pos (decide_eq_true hc)]
              · rw [if_neg hc, if_neg (by simp [hc])]
            · rw [va_up_ne _ _ hji]; exact hlo j h1 (by omega) b hb
          · rw [va_up_ne _ _ (by omega)]; exact hhi j (by omega)
        · have hil : i = g / 8 := nI_inj (by omega) (by omega) c63
          refine lv_lload hx hb d_P_spread_66 (lv_at hl 0 rfl) ?_
          refine lv_ldc2 (own := R_P) (v := (-1)) hx hb hown (htg _ k_249) d_P_spread_68 ?_
          refine lv_bipush (v := 56) hx hb d_P_spread_71 (by decide) ?_
          refine lv_iload_n hx hb d_P_spread_73 rfl (lv_at hl 6 rfl) ?_
          refine mc_i (va_runSN (host := R_S) (own := R_P) (As := [.int (nI g)]) (rest := [.int 56, .long (-1), .long (-1)]) ⟨hx, hb, hml, hown, htg⟩ (t_S_shiftInWord l D cJ cI cP bs w1 g (by omega)) ⟨va_cnB 1 htg (gin0 k_191) rfl rfl rfl hE.1.1 (htg _ k_25) (by decide +kernel) ⟨Nat.le_of_ble_eq_true rfl, Nat.le_of_ble_eq_true rfl⟩, htg _ k_190, trivial⟩ (mPc.preS hbs hS hP hK) rfl rfl hl.1 rfl (lv_room (Nat.le_of_ble_eq_true rfl)) d_P_spread_74 ⟨Nat.le_trans (Nat.le_of_add_right_le hce) hmc, Nat.le_trans (Nat.le_of_add_right_le hsl) hms⟩) hS (fun r74 u74 H locs hw hP hz74 hS => ?_)
          subst hw
          refine lv_isub hx hb d_P_spread_77 ?_
          rw [show 56 - (nI (8 * (g % 8))) = nI (56 - 8 * (g % 8)) from (by show nI 56 - nI _ = _; exact pk_sub (by omega))]
          refine lv_lushr hx hb d_P_spread_78 rfl ?_
          refine lv_land hx hb d_P_spread_79 ?_
          refine lv_topl (fun x_2 ex_2 => ?_)
          refine lv_lstore (lv' := [(8, .long x_2), (7, .int (nI i)), (6, .int (nI (g / 8))), (5, .int (nI (f / 8))), (0, .ref pa), (1, .int (nI f)), (2, .int (nI g)), (3, .long x)]) hx hb d_P_spread_80 hl (by decide) rfl (fun ls hl => ?_)
          have hmask : ∀ b, b < 64 → bi x_2 b = decide (8 * f ≤ 64 * i + b ∧ 64 * i + b < 8 * (g + 1)) := by
            intro b hb
            rw [ex_2, bi_and, bi_m1', bi_ushr _ (by omega), bi_m1', Bool.eq_iff_iff]
            simp only [Bool.and_eq_true, decide_eq_true_iff]
            constructor <;> (intro hq; omega)
          obtain ⟨mq, sq, hq1, hq2, hq3, hq4⟩ := bud (A := mrg (Wc i) x_2 x) (B := Wc i) hce hsl
          refine lv_aload_n hx hb d_P_spread_82 rfl (lv_at hl 4 rfl) ?_
          refine lv_iload hx hb d_P_spread_83 (lv_at hl 1 rfl) ?_
          refine lv_lload hx hb d_P_spread_85 (lv_at hl 0 rfl) ?_
          refine lv_lload_n hx hb d_P_spread_87 rfl (lv_at hl 7 rfl) ?_
          refine mc_v (va_runV (As := [.int (nI i), .long x_2, .long x]) (rest := []) ⟨hx, hb, hml, hown, htg⟩ (t_P_merge l D cJ cI cP bs w1 pa Wc tw hp i (by omega) x_2 x mq sq hq1) (cwV (own := R_P) (C := R_P) 3 htg (ginV k_297 k_245 k_246 k_32 k_247) rfl rfl rfl (by decide +kernel) ⟨Nat.le_of_ble_eq_true rfl, Nat.le_of_ble_eq_true rfl⟩) (mPc.preV (ci := ciP) (q := (R_P, T_P, 5)) hbs hS hP hK rfl g1) rfl rfl hl.1 rfl (lv_room (Nat.le_of_ble_eq_true rfl)) d_P_spread_88 ⟨Nat.le_trans hq2 hmc, Nat.le_trans hq3 hms⟩) hS (fun w3 H locs hw hP hz88 hS => ?_)
          obtain ⟨v1, v2, v3, v4⟩ := hw
          have v5 := hq4 w3 v3 v4
          obtain ⟨i_3, ei_3⟩ : ∃ y : Int32, y = (nI i) + 1 := ⟨_, rfl⟩
          refine lv_iinc (v := i_3) (lv' := [(7, .int i_3), (8, .long x_2), (6, .int (nI (g / 8))), (5, .int (nI (f / 8))), (0, .ref pa), (1, .int (nI f)), (2, .int (nI g)), (3, .long x)]) hx hb d_P_spread_91 hl (k := 1) rfl (by rw [ei_3]; rfl) (by decide) rfl (fun ls hl => ?_)
          refine lv_goto (tgt := 31) hx hb d_P_spread_94 (by decide) ?_
          refine ih (i + 1) w3 (va_up Wc i (mrg (Wc i) x_2 x)) (ce + mq) (sl + sq) ls H locs (by omega) (by omega) (by omega) (fun j h1 h2 b hb => ?_) (fun j hj => ?_) v1 (hkp.trans v2) v5.1 v5.2 hP hS (by rw [← nI_1 i, ← ei_3]; exact lv_sub hl [0, 2, 3, 4, 5, 6, 7] rfl)
          · by_cases hji : j = i
            · subst hji
              rw [va_up_self, bi_mrg _ _ _ hb, hmask b hb, hhi j (by omega)]
              unfold spB
              by_cases hc : 8 * f ≤ 64 * j + b ∧ 64 * j + b < 8 * (g + 1)
              · rw [if_pos hc, if_pos (decide_eq_true hc)]
              · rw [if_neg hc, if_neg (by simp [hc])]
            · rw [va_up_ne _ _ hji]; exact hlo j h1 (by omega) b hb
          · rw [va_up_ne _ _ (by omega)]; exact hhi j (by omega)
      · have hif : i = f / 8 := nI_inj (by omega) (by omega) c47
        refine lv_lload hx hb d_P_spread_50 (lv_at hl 0 rfl) ?_
        refine lv_iload_n hx hb d_P_spread_52 rfl (lv_at hl 5 rfl) ?_
        refine mc_i (va_runSN (host := R_S) (own := R_P) (As := [.int (nI f)]) (rest := [.long (-1)]) ⟨hx, hb, hml, hown, htg⟩ (t_S_shiftInWord l D cJ cI cP bs w1 f (by omega)) ⟨va_cnB 1 htg (gin0 k_191) rfl rfl rfl hE.1.1 (htg _ k_25) (by decide +kernel) ⟨Nat.le_of_ble_eq_true rfl, Nat.le_of_ble_eq_true rfl⟩, htg _ k_190, trivial⟩ (mPc.preS hbs hS hP hK) rfl rfl hl.1 rfl (lv_room (Nat.le_of_ble_eq_true rfl)) d_P_spread_53 ⟨Nat.le_trans (Nat.le_of_add_right_le hce) hmc, Nat.le_trans (Nat.le_of_add_right_le hsl) hms⟩) hS (fun r53 u53 H locs hw hP hz53 hS => ?_)
        subst hw
        refine lv_lshl hx hb d_P_spread_56 rfl ?_
        refine lv_topl (fun x_4 ex_4 => ?_)
        refine lv_lstore (lv' := [(8, .long x_4), (7, .int (nI i)), (6, .int (nI (g / 8))), (5, .int (nI (f / 8))), (0, .ref pa), (1, .int (nI f)), (2, .int (nI g)), (3, .long x)]) hx hb d_P_spread_57 hl (by decide) rfl (fun ls hl => ?_)
        refine lv_iload hx hb d_P_spread_59 (lv_at hl 1 rfl) ?_
        refine lv_iload hx hb d_P_spread_61 (lv_at hl 2 rfl) ?_
        refine lv_icmp_ne (tgt := 82) hx hb d_P_spread_63 (by decide) (fun c63 => ?_) (fun c63 => ?_)
        · have hil : ¬ i = g / 8 := fun z => c63 (by rw [z])
          have hmask : ∀ b, b < 64 → bi x_4 b = decide (8 * f ≤ 64 * i + b ∧ 64 * i + b < 8 * (g + 1)) := by
            intro b hb
            rw [ex_4, bi_shl _ (by omega) hb, bi_m1', Bool.eq_iff_iff]
            simp only [Bool.and_eq_true, decide_eq_true_iff]
            constructor <;> (intro hq; omega)
          obtain ⟨mq, sq, hq1, hq2, hq3, hq4⟩ := bud (A := mrg (Wc i) x_4 x) (B := Wc i) hce hsl
          refine lv_aload_n hx hb d_P_spread_82 rfl (lv_at hl 4 rfl) ?_
          refine lv_iload hx hb d_P_spread_83 (lv_at hl 1 rfl) ?_
          refine lv_lload hx hb d_P_spread_85 (lv_at hl 0 rfl) ?_
          refine lv_lload_n hx hb d_P_spread_87 rfl (lv_at hl 7 rfl) ?_
          refine mc_v (va_runV (As := [.int (nI i), .long x_4, .long x]) (rest := []) ⟨hx, hb, hml, hown, htg⟩ (t_P_merge l D cJ cI cP bs w1 pa Wc tw hp i (by omega) x_4 x mq sq hq1) (cwV (own := R_P) (C := R_P) 3 htg (ginV k_297 k_245 k_246 k_32 k_247) rfl rfl rfl (by decide +kernel) ⟨Nat.le_of_ble_eq_true rfl, Nat.le_of_ble_eq_true rfl⟩) (mPc.preV (ci := ciP) (q := (R_P, T_P, 5)) hbs hS hP hK rfl g1) rfl rfl hl.1 rfl (lv_room (Nat.le_of_ble_eq_true rfl)) d_P_spread_88 ⟨Nat.le_trans hq2 hmc, Nat.le_trans hq3 hms⟩) hS (fun w3 H locs hw hP hz88 hS => ?_)
          obtain ⟨v1, v2, v3, v4⟩ := hw
          have v5 := hq4 w3 v3 v4
          obtain ⟨i_5, ei_5⟩ : ∃ y : Int32, y = (nI i) + 1 := ⟨_, rfl⟩
          refine lv_iinc (v := i_5) (lv' := [(7, .int i_5), (8, .long x_4), (6, .int (nI (g / 8))), (5, .int (nI (f / 8))), (0, .ref pa), (1, .int (nI f)), (2, .int (nI g)), (3, .long x)]) hx hb d_P_spread_91 hl (k := 1) rfl (by rw [ei_5]; rfl) (by decide) rfl (fun ls hl => ?_)
          refine lv_goto (tgt := 31) hx hb d_P_spread_94 (by decide) ?_
          refine ih (i + 1) w3 (va_up Wc i (mrg (Wc i) x_4 x)) (ce + mq) (sl + sq) ls H locs (by omega) (by omega) (by omega) (fun j h1 h2 b hb => ?_) (fun j hj => ?_) v1 (hkp.trans v2) v5.1 v5.2 hP hS (by rw [← nI_1 i, ← ei_5]; exact lv_sub hl [0, 2, 3, 4, 5, 6, 7] rfl)
          · by_cases hji : j = i
            · subst hji
              rw [va_up_self, bi_mrg _ _ _ hb, hmask b hb, hhi j (by omega)]
              unfold spB
              by_cases hc : 8 * f ≤ 64 * j + b ∧ 64 * j + b < 8 * (g + 1)
              · rw [if_pos hc, if_pos (decide_eq_true hc)]
              · rw [if_neg hc, if_neg (by simp [hc])]
            · rw [va_up_ne _ _ hji]; exact hlo j h1 (by omega) b hb
          · rw [va_up_ne _ _ (by omega)]; exact hhi j (by omega)
        · have hil : i = g / 8 := nI_inj (by omega) (by omega) c63
          refine lv_lload hx hb d_P_spread_66 (lv_at hl 0 rfl) ?_
          refine lv_ldc2 (own := R_P) (v := (-1)) hx hb hown (htg _ k_249) d_P_spread_68 ?_
          refine lv_bipush (v := 56) hx hb d_P_spread_71 (by decide) ?_
          refine lv_iload_n hx hb d_P_spread_73 rfl (lv_at hl 6 rfl) ?_
          refine mc_i (va_runSN (host := R_S) (own := R_P) (As := [.int (nI g)]) (rest := [.int 56, .long (-1), .long x_4]) ⟨hx, hb, hml, hown, htg⟩ (t_S_shiftInWord l D cJ cI cP bs w1 g (by omega)) ⟨va_cnB 1 htg (gin0 k_191) rfl rfl rfl hE.1.1 (htg _ k_25) (by decide +kernel) ⟨Nat.le_of_ble_eq_true rfl, Nat.le_of_ble_eq_true rfl⟩, htg _ k_190, trivial⟩ (mPc.preS hbs hS hP hK) rfl rfl hl.1 rfl (lv_room (Nat.le_of_ble_eq_true rfl)) d_P_spread_74 ⟨Nat.le_trans (Nat.le_of_add_right_le hce) hmc, Nat.le_trans (Nat.le_of_add_right_le hsl) hms⟩) hS (fun r74 u74 H locs hw hP hz74 hS => ?_)
          subst hw
          refine lv_isub hx hb d_P_spread_77 ?_
          rw [show 56 - (nI (8 * (g % 8))) = nI (56 - 8 * (g % 8)) from (by show nI 56 - nI _ = _; exact pk_sub (by omega))]
          refine lv_lushr hx hb d_P_spread_78 rfl ?_
          refine lv_land hx hb d_P_spread_79 ?_
          refine lv_topl (fun x_6 ex_6 => ?_)
          refine lv_lstore (lv' := [(8, .long x_6), (7, .int (nI i)), (6, .int (nI (g / 8))), (5, .int (nI (f / 8))), (0, .ref pa), (1, .int (nI f)), (2, .int (nI g)), (3, .long x)]) hx hb d_P_spread_80 hl (by decide) rfl (fun ls hl => ?_)
          have hmask : ∀ b, b < 64 → bi x_6 b = decide (8 * f ≤ 64 * i + b ∧ 64 * i + b < 8 * (g + 1)) := by
            intro b hb
            rw [ex_6, ex_4, bi_and, bi_shl _ (by omega) hb, bi_m1', bi_ushr _ (by omega), bi_m1', Bool.eq_iff_iff]
            simp only [Bool.and_eq_true, decide_eq_true_iff]
            constructor <;> (intro hq; omega)
          obtain ⟨mq, sq, hq1, hq2, hq3, hq4⟩ := bud (A := mrg (Wc i) x_6 x) (B := Wc i) hce hsl
          refine lv_aload_n hx hb d_P_spread_82 rfl (lv_at hl 4 rfl) ?_
          refine lv_iload hx hb d_P_spread_83 (lv_at hl 1 rfl) ?_
          refine lv_lload hx hb d_P_spread_85 (lv_at hl 0 rfl) ?_
          refine lv_lload_n hx hb d_P_spread_87 rfl (lv_at hl 7 rfl) ?_
          refine mc_v (va_runV (As := [.int (nI i), .long x_6, .long x]) (rest := []) ⟨hx, hb, hml, hown, htg⟩ (t_P_merge l D cJ cI cP bs w1 pa Wc tw hp i (by omega) x_6 x mq sq hq1) (cwV (own := R_P) (C := R_P) 3 htg (ginV k_297 k_245 k_246 k_32 k_247) rfl rfl rfl (by decide +kernel) ⟨Nat.le_of_ble_eq_true rfl, Nat.le_of_ble_eq_true rfl⟩) (mPc.preV (ci := ciP) (q := (R_P, T_P, 5)) hbs hS hP hK rfl g1) rfl rfl hl.1 rfl (lv_room (Nat.le_of_ble_eq_true rfl)) d_P_spread_88 ⟨Nat.le_trans hq2 hmc, Nat.le_trans hq3 hms⟩) hS (fun w3 H locs hw hP hz88 hS => ?_)
          obtain ⟨v1, v2, v3, v4⟩ := hw
          have v5 := hq4 w3 v3 v4
          obtain ⟨i_7, ei_7⟩ : ∃ y : Int32, y = (nI i) + 1 := ⟨_, rfl⟩
          refine lv_iinc (v := i_7) (lv' := [(7, .int i_7), (8, .long x_6), (6, .int (nI (g / 8))), (5, .int (nI (f / 8))), (0, .ref pa), (1, .int (nI f)), (2, .int (nI g)), (3, .long x)]) hx hb d_P_spread_91 hl (k := 1) rfl (by rw [ei_7]; rfl) (by decide) rfl (fun ls hl => ?_)
          refine lv_goto (tgt := 31) hx hb d_P_spread_94 (by decide) ?_
          refine ih (i + 1) w3 (va_up Wc i (mrg (Wc i) x_6 x)) (ce + mq) (sl + sq) ls H locs (by omega) (by omega) (by omega) (fun j h1 h2 b hb => ?_) (fun j hj => ?_) v1 (hkp.trans v2) v5.1 v5.2 hP hS (by rw [← nI_1 i, ← ei_7]; exact lv_sub hl [0, 2, 3, 4, 5, 6, 7] rfl)
          · by_cases hji : j = i
            · subst hji
              rw [va_up_self, bi_mrg _ _ _ hb, hmask b hb, hhi j (by omega)]
              unfold spB
              by_cases hc : 8 * f ≤ 64 * j + b ∧ 64 * j + b < 8 * (g + 1)
              · rw [if_pos hc, if_pos (decide_eq_true hc)]
              · rw [if_neg hc, if_neg (by simp [hc])]
            · rw [va_up_ne _ _ hji]; exact hlo j h1 (by omega) b hb
          · rw [va_up_ne _ _ (by omega)]; exact hhi j (by omega)
set_option maxHeartbeats 4000000 in
set_option maxRecDepth 100000 in
/-- spread: the bytes from f to g become those of a pattern -/
theorem t_P_spread (l : Launch) (D : va_G) (cJ cI cP : ClassId) (bs : Nat) (w : Nat → Option va_E) (pa : Nat) (Wd : Nat → Int64) (tw : Int64) (hp : pg cJ w pa Wd tw) (f g : Nat) (hfg : f ≤ g) (hg : g < 4096) (x : Int64) (mc ms : Nat) (hm : ¬ (f = 0 ∧ g = 4095) → 1 ≤ mc ∧ 512 ≤ ms) : Met l y_P_spread ws_P_spread ({ frames := 3, cells := mc, slots := ms, locals := 73 }) (mPx D vwCl (mT cJ cI cP) bs w [.ref pa, .int (nI f), .int (nI g), .long x]) (va_Qv (S := ((Nat → Option va_E) × (Nat → Int64))) (fun u => pg cJ u.1 pa u.2 tw ∧ kp w u.1 (pfp w pa) (pfp u.1 pa) ∧ ∀ j, j < 512 → ∀ b, b < 64 → bi (u.2 j) b = spB Wd f g x j b) (mB D vwCl bs (fun u => u.1)) (mA bs)) mc ms (mA bs) := by
  refine Met.ofW (cc := c_P_spread) (maxL := 10) (ret := none) (by decide) rfl ?_
  intro p e s m args below meth c s₁ B hml hv
  obtain ⟨rfl, hbs, hP, hK, hE⟩ := hv
  have hx := B.exec
  have hb := B.bytes
  have hr := B.returns
  have htg : ∀ w ∈ gt, w.before _ s = true := fun w h => atoms_spec (ws := ws_P_spread) B.pre w (List.mem_cons_of_mem _ h)
  have hown : s.vm.findClass R_P = some m.cls := findClass_of_methodNamed B.named
  have hlocks := B.notSynchronized
  have hS : va_S (mA bs) s.heap s.heap [] := va_S.rf
  have hl := lv_entry ([.ref pa, .int (nI f), .int (nI g), .long x]) (n := 10) (Nat.le_of_ble_eq_true rfl)
  rw [lg_entry_eq]
  generalize (lg_sl ([.ref pa, .int (nI f), .int (nI g), .long x]) ++ List.replicate (10 - (lg_sl ([.ref pa, .int (nI f), .int (nI g), .long x])).length) Slot.unset).toArray = ls at hl ⊢
  have hl : lv_has ls 10 [(0, .ref pa), (1, .int (nI f)), (2, .int (nI g)), (3, .long x)] := hl
  obtain ⟨wr, ev, ew, g1, g2⟩ := id hp
  refine lv_iload_n hx hb d_P_spread_0 rfl (lv_at hl 1 rfl) ?_
  refine lv_if_ne (tgt := 17) hx hb d_P_spread_1 (by decide) (fun c1 => ?_) (fun c1 => ?_)
  · have hmm := hm (fun z => by first | exact c1 (by rw [z.1]; rfl) | exact c8 (by rw [z.2]; rfl))
    refine lv_iload_n hx hb d_P_spread_17 rfl (lv_at hl 1 rfl) ?_
    refine lv_iconst (v := 3) hx hb d_P_spread_18 (by decide) ?_
    refine lv_ishr hx hb d_P_spread_19 ?_
    rw [show (nI f) >>> (3 &&& 31) = nI (f / 8) from ish f 3 (by omega) (by omega)]
    refine lv_istore (lv' := [(5, .int (nI (f / 8))), (0, .ref pa), (1, .int (nI f)), (2, .int (nI g)), (3, .long x)]) hx hb d_P_spread_20 hl (by decide) rfl (fun ls hl => ?_)
    refine lv_iload_n hx hb d_P_spread_22 rfl (lv_at hl 3 rfl) ?_
    refine lv_iconst (v := 3) hx hb d_P_spread_23 (by decide) ?_
    refine lv_ishr hx hb d_P_spread_24 ?_
    rw [show (nI g) >>> (3 &&& 31) = nI (g / 8) from ish g 3 (by omega) (by omega)]
    refine lv_istore (lv' := [(6, .int (nI (g / 8))), (5, .int (nI (f / 8))), (0, .ref pa), (1, .int (nI f)), (2, .int (nI g)), (3, .long x)]) hx hb d_P_spread_25 hl (by decide) rfl (fun ls hl => ?_)
    refine lv_iload hx hb d_P_spread_27 (lv_at hl 1 rfl) ?_
    refine lv_istore (lv' := [(7, .int (nI (f / 8))), (6, .int (nI (g / 8))), (5, .int (nI (f / 8))), (0, .ref pa), (1, .int (nI f)), (2, .int (nI g)), (3, .long x)]) hx hb d_P_spread_29 hl (by decide) rfl (fun ls hl => ?_)
    refine lp_P_spread (D := D) (cJ := cJ) (cI := cI) (cP := cP) (bs := bs) hx hb hml hown htg hK hbs hE w pa Wd tw x f g hfg hg mc ms hmm.1 hmm.2 (fun w1 Wc ls H locs q1 q2 q3 hP hS => ?_) (g / 8 + 2) (f / 8) w Wd 0 0 ls _ _ (by omega) (Nat.le_refl _) (by omega) (fun j h1 h2 => absurd h2 (by omega)) (fun _ _ => rfl) hp kp.rf (by unfold need; split <;> omega) (by unfold need; split <;> omega) hP hS (lv_sub hl [0, 1, 2, 3, 4, 5, 6] rfl)
    refine W.widen (k := mc) (n := ms) hmm.1 hmm.2 ?_
    exact W.vret hx hb hr (fun t ht hW => ⟨⟨(w1, Wc), rfl, ⟨q1, q2, q3⟩, hP.at ht⟩, hS.F ht⟩) hS.2.2 d_P_spread_97
  · refine lv_iload_n hx hb d_P_spread_4 rfl (lv_at hl 2 rfl) ?_
    refine lv_sipush (v := 4095) hx hb d_P_spread_5 (by decide) ?_
    refine lv_icmp_ne (tgt := 17) hx hb d_P_spread_8 (by decide) (fun c8 => ?_) (fun c8 => ?_)
    · have hmm := hm (fun z => by first | exact c1 (by rw [z.1]; rfl) | exact c8 (by rw [z.2]; rfl))
      refine lv_iload_n hx hb d_P_spread_17 rfl (lv_at hl 1 rfl) ?_
      refine lv_iconst (v := 3) hx hb d_P_spread_18 (by decide) ?_
      refine lv_ishr hx hb d_P_spread_19 ?_
      rw [show (nI f) >>> (3 &&& 31) = nI (f / 8) from ish f 3 (by omega) (by omega)]
      refine lv_istore (lv' := [(5, .int (nI (f / 8))), (0, .ref pa), (1, .int (nI f)), (2, .int (nI g)), (3, .long x)]) hx hb d_P_spread_20 hl (by decide) rfl (fun ls hl => ?_)
      refine lv_iload_n hx hb d_P_spread_22 rfl (lv_at hl 3 rfl) ?_
      refine lv_iconst (v := 3) hx hb d_P_spread_23 (by decide) ?_
      refine lv_ishr hx hb d_P_spread_24 ?_
      rw [show (nI g) >>> (3 &&& 31) = nI (g / 8) from ish g 3 (by omega) (by omega)]
      refine lv_istore (lv' := [(6, .int (nI (g / 8))), (5, .int (nI (f / 8))), (0, .ref pa), (1, .int (nI f)), (2, .int (nI g)), (3, .long x)]) hx hb d_P_spread_25 hl (by decide) rfl (fun ls hl => ?_)
      refine lv_iload hx hb d_P_spread_27 (lv_at hl 1 rfl) ?_
      refine lv_istore (lv' := [(7, .int (nI (f / 8))), (6, .int (nI (g / 8))), (5, .int (nI (f / 8))), (0, .ref pa), (1, .int (nI f)), (2, .int (nI g)), (3, .long x)]) hx hb d_P_spread_29 hl (by decide) rfl (fun ls hl => ?_)
      refine lp_P_spread (D := D) (cJ := cJ) (cI := cI) (cP := cP) (bs := bs) hx hb hml hown htg hK hbs hE w pa Wd tw x f g hfg hg mc ms hmm.1 hmm.2 (fun w1 Wc ls H locs q1 q2 q3 hP hS => ?_) (g / 8 + 2) (f / 8) w Wd 0 0 ls _ _ (by omega) (Nat.le_refl _) (by omega) (fun j h1 h2 => absurd h2 (by omega)) (fun _ _ => rfl) hp kp.rf (by unfold need; split <;> omega) (by unfold need; split <;> omega) hP hS (lv_sub hl [0, 1, 2, 3, 4, 5, 6] rfl)
      refine W.widen (k := mc) (n := ms) hmm.1 hmm.2 ?_
      exact W.vret hx hb hr (fun t ht hW => ⟨⟨(w1, Wc), rfl, ⟨q1, q2, q3⟩, hP.at ht⟩, hS.F ht⟩) hS.2.2 d_P_spread_97
    · refine lv_aload_n hx hb d_P_spread_11 rfl (lv_at hl 0 rfl) ?_
      refine lv_lload_n hx hb d_P_spread_12 rfl (lv_at hl 3 rfl) ?_
      refine mc_v (va_runV (As := [.long x]) (rest := []) ⟨hx, hb, hml, hown, htg⟩ (t_P_makeEven l D cJ cI cP bs w pa Wd tw hp x) (cwV (own := R_P) (C := R_P) 1 htg (ginV k_292 k_294 k_12 k_32 k_295) rfl rfl rfl (by decide +kernel) ⟨Nat.le_of_ble_eq_true rfl, Nat.le_of_ble_eq_true rfl⟩) (mPc.preV (ci := ciP) (q := (R_P, T_P, 5)) hbs hS hP hK rfl g1) rfl rfl hl.1 rfl (lv_room (Nat.le_of_ble_eq_true rfl)) d_P_spread_13 ⟨Nat.zero_le _, Nat.zero_le _⟩) hS (fun w3 H locs hw hP hz13 hS => ?_)
      have ef : f = 0 := nI_inj (by omega) (by omega) (c1.trans nI_0.symm)
      have eg : g = 4095 := nI_inj (by omega) (by omega) (show nI g = nI 4095 from c8)
      refine W.widen (k := mc) (n := ms) (Nat.zero_le _) (Nat.zero_le _) ?_
      exact W.vret hx hb hr (fun t ht hW => ⟨⟨(w3, fun _ => x), rfl, ⟨hw.1, hw.2, fun j hj b hb => by unfold spB; rw [if_pos (by omega)]⟩, hP.at ht⟩, hS.F ht⟩) hS.2.2 d_P_spread_16
