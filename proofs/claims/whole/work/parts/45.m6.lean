set_option maxHeartbeats 4000000 in
set_option maxRecDepth 100000 in
theorem t_M_isLess1 (l : Launch) (D : va_G) (cJ cI cP : ClassId) (bs : Nat) (w : Nat → Option va_E) (a b : Int64) : Met l y_M_isLess ws_M_isLess ({ frames := 0, cells := 0, slots := 0, locals := 0 }) (mPc D vwCl (mT cJ cI cP) bs w [.long a, .long b, .int 1]) (va_Qi (S := Unit) (fun r _ => r = if a < b then 1 else 0) (mB D vwCl bs (fun _ => w)) (mA bs)) 0 0 (mA bs) := by
  refine Met.ofW (cc := c_M_isLess) (maxL := 5) (ret := (some .boolean)) (by decide) rfl ?_
  intro p e s m args below meth c s₁ B hml hv
  obtain ⟨rfl, hbs, hP, hK⟩ := hv
  have hx := B.exec
  have hb := B.bytes
  have hr := B.returns
  have htg : ∀ w ∈ gt, w.before _ s = true := fun w h => atoms_spec (ws := ws_M_isLess) B.pre w (List.mem_cons_of_mem _ h)
  have hown : s.vm.findClass R_M = some m.cls := findClass_of_methodNamed B.named
  have hlocks := B.notSynchronized
  have hS : va_S (mA bs) s.heap s.heap [] := va_S.rf
  have hl := lv_entry ([.long a, .long b, .int 1]) (n := 5) (Nat.le_of_ble_eq_true rfl)
  rw [lg_entry_eq]
  generalize (lg_sl ([.long a, .long b, .int 1]) ++ List.replicate (5 - (lg_sl ([.long a, .long b, .int 1])).length) Slot.unset).toArray = ls at hl ⊢
  have hl : lv_has ls 5 [(0, .long a), (2, .long b), (4, .int 1)] := hl
  refine lv_iload hx hb d_M_isLess_0 (lv_at hl 2 rfl) ?_
  refine lv_if_eq (tgt := 19) hx hb d_M_isLess_2 (by decide) (fun z => absurd z (by decide)) (fun _ => ?_)
  refine lv_lload_n hx hb d_M_isLess_5 rfl (lv_at hl 0 rfl) ?_
  refine lv_lload_n hx hb d_M_isLess_6 rfl (lv_at hl 1 rfl) ?_
  refine lc_ge (tgt := 15) hx hb d_M_isLess_7 d_M_isLess_8 (by decide) (fun c7 => ?_) (fun c7 => ?_)
  · refine lv_iconst (v := 0) hx hb d_M_isLess_15 (by decide) ?_
    refine lv_goto (tgt := 69) hx hb d_M_isLess_16 (by decide) ?_
    have hres : (0 : Int32) = if a < b then 1 else 0 := by
      rw [if_neg (Int64.not_lt.mpr c7)]
    exact W.zret (v := 0) hx hb hr rfl (fun t ht hW => ⟨⟨_, (), rfl, hres, hP.at ht⟩, hS.F ht⟩) hS.2.2 d_M_isLess_69
  · refine lv_iconst (v := 1) hx hb d_M_isLess_11 (by decide) ?_
    refine lv_goto (tgt := 69) hx hb d_M_isLess_12 (by decide) ?_
    have hres : (1 : Int32) = if a < b then 1 else 0 := by
      rw [if_pos (Int64.not_le.mp c7)]
    exact W.zret (v := 1) hx hb hr rfl (fun t ht hW => ⟨⟨_, (), rfl, hres, hP.at ht⟩, hS.F ht⟩) hS.2.2 d_M_isLess_69
set_option maxHeartbeats 4000000 in
set_option maxRecDepth 100000 in
theorem t_M_isLess0 (l : Launch) (D : va_G) (cJ cI cP : ClassId) (bs : Nat) (w : Nat → Option va_E) (a b : Int64) : Met l y_M_isLess ws_M_isLess ({ frames := 0, cells := 0, slots := 0, locals := 0 }) (mPc D vwCl (mT cJ cI cP) bs w [.long a, .long b, .int 0]) (va_Qi (S := Unit) (fun r _ => r = if a + (-9223372036854775808) < b + (-9223372036854775808) then 1 else 0) (mB D vwCl bs (fun _ => w)) (mA bs)) 0 0 (mA bs) := by
  refine Met.ofW (cc := c_M_isLess) (maxL := 5) (ret := (some .boolean)) (by decide) rfl ?_
  intro p e s m args below meth c s₁ B hml hv
  obtain ⟨rfl, hbs, hP, hK⟩ := hv
  have hx := B.exec
  have hb := B.bytes
  have hr := B.returns
  have htg : ∀ w ∈ gt, w.before _ s = true := fun w h => atoms_spec (ws := ws_M_isLess) B.pre w (List.mem_cons_of_mem _ h)
  have hown : s.vm.findClass R_M = some m.cls := findClass_of_methodNamed B.named
  have hlocks := B.notSynchronized
  have hS : va_S (mA bs) s.heap s.heap [] := va_S.rf
  have hl := lv_entry ([.long a, .long b, .int 0]) (n := 5) (Nat.le_of_ble_eq_true rfl)
  rw [lg_entry_eq]
  generalize (lg_sl ([.long a, .long b, .int 0]) ++ List.replicate (5 - (lg_sl ([.long a, .long b, .int 0])).length) Slot.unset).toArray = ls at hl ⊢
  have hl : lv_has ls 5 [(0, .long a), (2, .long b), (4, .int 0)] := hl
  refine lv_iload hx hb d_M_isLess_0 (lv_at hl 2 rfl) ?_
  refine lv_if_eq (tgt := 19) hx hb d_M_isLess_2 (by decide) (fun _ => ?_) (fun z => absurd z (by decide))
  refine lv_lload_n hx hb d_M_isLess_19 rfl (lv_at hl 0 rfl) ?_
  refine lv_lconst (v := 0) hx hb d_M_isLess_20 rfl ?_
  refine lc_lt (tgt := 29) hx hb d_M_isLess_21 d_M_isLess_22 (by decide) (fun c21 => ?_) (fun c21 => ?_)
  · refine lv_iconst (v := 0) hx hb d_M_isLess_29 (by decide) ?_
    refine lv_lload_n hx hb d_M_isLess_30 rfl (lv_at hl 1 rfl) ?_
    refine lv_lconst (v := 0) hx hb d_M_isLess_31 rfl ?_
    refine lc_lt (tgt := 40) hx hb d_M_isLess_32 d_M_isLess_33 (by decide) (fun c32 => ?_) (fun c32 => ?_)
    · refine lv_iconst (v := 0) hx hb d_M_isLess_40 (by decide) ?_
      refine lv_icmp_ne (tgt := 58) hx hb d_M_isLess_41 (by decide) (fun c41 => ?_) (fun c41 => ?_)
      · refine lv_lload_n hx hb d_M_isLess_58 rfl (lv_at hl 0 rfl) ?_
        refine lv_lconst (v := 0) hx hb d_M_isLess_59 rfl ?_
        refine lc_lt (tgt := 68) hx hb d_M_isLess_60 d_M_isLess_61 (by decide) (fun c60 => ?_) (fun c60 => ?_)
        · refine lv_iconst (v := 0) hx hb d_M_isLess_68 (by decide) ?_
          have hres : (0 : Int32) = if a + (-9223372036854775808) < b + (-9223372036854775808) then 1 else 0 := by
            first
              | exact absurd c41 (by decide)
              | exact absurd rfl c41
              | rw [if_neg (fun q => absurd (((isl a b).2 (fun q => by first | exact absurd (q.mp (Int64.not_lt.mp c21)) (Int64.not_le.mpr c32) | exact absurd (q.mpr (Int64.not_lt.mp c32)) (Int64.not_le.mpr c21))).mp q) (Int64.not_le.mpr c60))]
          exact W.zret (v := 0) hx hb hr rfl (fun t ht hW => ⟨⟨_, (), rfl, hres, hP.at ht⟩, hS.F ht⟩) hS.2.2 d_M_isLess_69
        · refine lv_iconst (v := 1) hx hb d_M_isLess_64 (by decide) ?_
          refine lv_goto (tgt := 69) hx hb d_M_isLess_65 (by decide) ?_
          have hres : (1 : Int32) = if a + (-9223372036854775808) < b + (-9223372036854775808) then 1 else 0 := by
            first
              | exact absurd c41 (by decide)
              | exact absurd rfl c41
              | rw [if_pos (((isl a b).2 (fun q => by first | exact absurd (q.mp (Int64.not_lt.mp c21)) (Int64.not_le.mpr c32) | exact absurd (q.mpr (Int64.not_lt.mp c32)) (Int64.not_le.mpr c21))).mpr (Int64.not_lt.mp c60))]
          exact W.zret (v := 1) hx hb hr rfl (fun t ht hW => ⟨⟨_, (), rfl, hres, hP.at ht⟩, hS.F ht⟩) hS.2.2 d_M_isLess_69
      · refine lv_lload_n hx hb d_M_isLess_44 rfl (lv_at hl 0 rfl) ?_
        refine lv_lload_n hx hb d_M_isLess_45 rfl (lv_at hl 1 rfl) ?_
        refine lc_ge (tgt := 54) hx hb d_M_isLess_46 d_M_isLess_47 (by decide) (fun c46 => ?_) (fun c46 => ?_)
        · refine lv_iconst (v := 0) hx hb d_M_isLess_54 (by decide) ?_
          refine lv_goto (tgt := 69) hx hb d_M_isLess_55 (by decide) ?_
          have hres : (0 : Int32) = if a + (-9223372036854775808) < b + (-9223372036854775808) then 1 else 0 := by
            first
              | exact absurd c41 (by decide)
              | exact absurd rfl c41
              | rw [if_neg (fun q => absurd (((isl a b).1 (by first | exact iff_of_true (Int64.not_lt.mp c21) (Int64.not_lt.mp c32) | exact iff_of_false (Int64.not_le.mpr c21) (Int64.not_le.mpr c32))).mp q) (Int64.not_lt.mpr c46))]
          exact W.zret (v := 0) hx hb hr rfl (fun t ht hW => ⟨⟨_, (), rfl, hres, hP.at ht⟩, hS.F ht⟩) hS.2.2 d_M_isLess_69
        · refine lv_iconst (v := 1) hx hb d_M_isLess_50 (by decide) ?_
          refine lv_goto (tgt := 69) hx hb d_M_isLess_51 (by decide) ?_
          have hres : (1 : Int32) = if a + (-9223372036854775808) < b + (-9223372036854775808) then 1 else 0 := by
            first
              | exact absurd c41 (by decide)
              | exact absurd rfl c41
              | rw [if_pos (((isl a b).1 (by first | exact iff_of_true (Int64.not_lt.mp c21) (Int64.not_lt.mp c32) | exact iff_of_false (Int64.not_le.mpr c21) (Int64.not_le.mpr c32))).mpr (Int64.not_le.mp c46))]
          exact W.zret (v := 1) hx hb hr rfl (fun t ht hW => ⟨⟨_, (), rfl, hres, hP.at ht⟩, hS.F ht⟩) hS.2.2 d_M_isLess_69
    · refine lv_iconst (v := 1) hx hb d_M_isLess_36 (by decide) ?_
      refine lv_goto (tgt := 41) hx hb d_M_isLess_37 (by decide) ?_
      refine lv_icmp_ne (tgt := 58) hx hb d_M_isLess_41 (by decide) (fun c41 => ?_) (fun c41 => ?_)
      · refine lv_lload_n hx hb d_M_isLess_58 rfl (lv_at hl 0 rfl) ?_
        refine lv_lconst (v := 0) hx hb d_M_isLess_59 rfl ?_
        refine lc_lt (tgt := 68) hx hb d_M_isLess_60 d_M_isLess_61 (by decide) (fun c60 => ?_) (fun c60 => ?_)
        · refine lv_iconst (v := 0) hx hb d_M_isLess_68 (by decide) ?_
          have hres : (0 : Int32) = if a + (-9223372036854775808) < b + (-9223372036854775808) then 1 else 0 := by
            first
              | exact absurd c41 (by decide)
              | exact absurd rfl c41
              | rw [if_neg (fun q => absurd (((isl a b).2 (fun q => by first | exact absurd (q.mp (Int64.not_lt.mp c21)) (Int64.not_le.mpr c32) | exact absurd (q.mpr (Int64.not_lt.mp c32)) (Int64.not_le.mpr c21))).mp q) (Int64.not_le.mpr c60))]
          exact W.zret (v := 0) hx hb hr rfl (fun t ht hW => ⟨⟨_, (), rfl, hres, hP.at ht⟩, hS.F ht⟩) hS.2.2 d_M_isLess_69
        · refine lv_iconst (v := 1) hx hb d_M_isLess_64 (by decide) ?_
          refine lv_goto (tgt := 69) hx hb d_M_isLess_65 (by decide) ?_
          have hres : (1 : Int32) = if a + (-9223372036854775808) < b + (-9223372036854775808) then 1 else 0 := by
            first
              | exact absurd c41 (by decide)
              | exact absurd rfl c41
              | rw [if_pos (((isl a b).2 (fun q => by first | exact absurd (q.mp (Int64.not_lt.mp c21)) (Int64.not_le.mpr c32) | exact absurd (q.mpr (Int64.not_lt.mp c32)) (Int64.not_le.mpr c21))).mpr (Int64.not_lt.mp c60))]
          exact W.zret (v := 1) hx hb hr rfl (fun t ht hW => ⟨⟨_, (), rfl, hres, hP.at ht⟩, hS.F ht⟩) hS.2.2 d_M_isLess_69
      · refine lv_lload_n hx hb d_M_isLess_44 rfl (lv_at hl 0 rfl) ?_
        refine lv_lload_n hx hb d_M_isLess_45 rfl (lv_at hl 1 rfl) ?_
        refine lc_ge (tgt := 54) hx hb d_M_isLess_46 d_M_isLess_47 (by decide) (fun c46 => ?_) (fun c46 => ?_)
        · refine lv_iconst (v := 0) hx hb d_M_isLess_54 (by decide) ?_
          refine lv_goto (tgt := 69) hx hb d_M_isLess_55 (by decide) ?_
          have hres : (0 : Int32) = if a + (-9223372036854775808) < b + (-9223372036854775808) then 1 else 0 := by
            first
              | exact absurd c41 (by decide)
              | exact absurd rfl c41
              | rw [if_neg (fun q => absurd (((isl a b).1 (by first | exact iff_of_true (Int64.not_lt.mp c21) (Int64.not_lt.mp c32) | exact iff_of_false (Int64.not_le.mpr c21) (Int64.not_le.mpr c32))).mp q) (Int64.not_lt.mpr c46))]
          exact W.zret (v := 0) hx hb hr rfl (fun t ht hW => ⟨⟨_, (), rfl, hres, hP.at ht⟩, hS.F ht⟩) hS.2.2 d_M_isLess_69
        · refine lv_iconst (v := 1) hx hb d_M_isLess_50 (by decide) ?_
          refine lv_goto (tgt := 69) hx hb d_M_isLess_51 (by decide) ?_
          have hres : (1 : Int32) = if a + (-9223372036854775808) < b + (-9223372036854775808) then 1 else 0 := by
            first
              | exact absurd c41 (by decide)
              | exact absurd rfl c41
              | rw [if_pos (((isl a b).1 (by first | exact iff_of_true (Int64.not_lt.mp c21) (Int64.not_lt.mp c32) | exact iff_of_false (Int64.not_le.mpr c21) (Int64.not_le.mpr c32))).mpr (Int64.not_le.mp c46))]
          exact W.zret (v := 1) hx hb hr rfl (fun t ht hW => ⟨⟨_, (), rfl, hres, hP.at ht⟩, hS.F ht⟩) hS.2.2 d_M_isLess_69
  · refine lv_iconst (v := 1) hx hb d_M_isLess_25 (by decide) ?_
    refine lv_goto (tgt := 30) hx hb d_M_isLess_26 (by decide) ?_
    refine lv_lload_n hx hb d_M_isLess_30 rfl (lv_at hl 1 rfl) ?_
    refine lv_lconst (v := 0) hx hb d_M_isLess_31 rfl ?_
    refine lc_lt (tgt := 40) hx hb d_M_isLess_32 d_M_isLess_33 (by decide) (fun c32 => ?_) (fun c32 => ?_)
    · refine lv_iconst (v := 0) hx hb d_M_isLess_40 (by decide) ?_
      refine lv_icmp_ne (tgt := 58) hx hb d_M_isLess_41 (by decide) (fun c41 => ?_) (fun c41 => ?_)
      · refine lv_lload_n hx hb d_M_isLess_58 rfl (lv_at hl 0 rfl) ?_
        refine lv_lconst (v := 0) hx hb d_M_isLess_59 rfl ?_
        refine lc_lt (tgt := 68) hx hb d_M_isLess_60 d_M_isLess_61 (by decide) (fun c60 => ?_) (fun c60 => ?_)
        · refine lv_iconst (v := 0) hx hb d_M_isLess_68 (by decide) ?_
          have hres : (0 : Int32) = if a + (-9223372036854775808) < b + (-9223372036854775808) then 1 else 0 := by
            first
              | exact absurd c41 (by decide)
              | exact absurd rfl c41
              | rw [if_neg (fun q => absurd (((isl a b).2 (fun q => by first | exact absurd (q.mp (Int64.not_lt.mp c21)) (Int64.not_le.mpr c32) | exact absurd (q.mpr (Int64.not_lt.mp c32)) (Int64.not_le.mpr c21))).mp q) (Int64.not_le.mpr c60))]
          exact W.zret (v := 0) hx hb hr rfl (fun t ht hW => ⟨⟨_, (), rfl, hres, hP.at ht⟩, hS.F ht⟩) hS.2.2 d_M_isLess_69
        · refine lv_iconst (v := 1) hx hb d_M_isLess_64 (by decide) ?_
          refine lv_goto (tgt := 69) hx hb d_M_isLess_65 (by decide) ?_
          have hres : (1 : Int32) = if a + (-9223372036854775808) < b + (-9223372036854775808) then 1 else 0 := by
            first
              | exact absurd c41 (by decide)
              | exact absurd rfl c41
              | rw [if_pos (((isl a b).2 (fun q => by first | exact absurd (q.mp (Int64.not_lt.mp c21)) (Int64.not_le.mpr c32) | exact absurd (q.mpr (Int64.not_lt.mp c32)) (Int64.not_le.mpr c21))).mpr (Int64.not_lt.mp c60))]
          exact W.zret (v := 1) hx hb hr rfl (fun t ht hW => ⟨⟨_, (), rfl, hres, hP.at ht⟩, hS.F ht⟩) hS.2.2 d_M_isLess_69
      · refine lv_lload_n hx hb d_M_isLess_44 rfl (lv_at hl 0 rfl) ?_
        refine lv_lload_n hx hb d_M_isLess_45 rfl (lv_at hl 1 rfl) ?_
        refine lc_ge (tgt := 54) hx hb d_M_isLess_46 d_M_isLess_47 (by decide) (fun c46 => ?_) (fun c46 => ?_)
        · refine lv_iconst (v := 0) hx hb d_M_isLess_54 (by decide) ?_
          refine lv_goto (tgt := 69) hx hb d_M_isLess_55 (by decide) ?_
          have hres : (0 : Int32) = if a + (-9223372036854775808) < b + (-9223372036854775808) then 1 else 0 := by
            first
              | exact absurd c41 (by decide)
              | exact absurd rfl c41
              | rw [if_neg (fun q => absurd (((isl a b).1 (by first | exact iff_of_true (Int64.not_lt.mp c21) (Int64.not_lt.mp c32) | exact iff_of_false (Int64.not_le.mpr c21) (Int64.not_le.mpr c32))).mp q) (Int64.not_lt.mpr c46))]
          exact W.zret (v := 0) hx hb hr rfl (fun t ht hW => ⟨⟨_, (), rfl, hres, hP.at ht⟩, hS.F ht⟩) hS.2.2 d_M_isLess_69
        · refine lv_iconst (v := 1) hx hb d_M_isLess_50 (by decide) ?_
          refine lv_goto (tgt := 69) hx hb d_M_isLess_51 (by decide) ?_
          have hres : (1 : Int32) = if a + (-9223372036854775808) < b + (-9223372036854775808) then 1 else 0 := by
            first
              | exact absurd c41 (by decide)
              | exact absurd rfl c41
              | rw [if_pos (((isl a b).1 (by first | exact iff_of_true (Int64.not_lt.mp c21) (Int64.not_lt.mp c32) | exact iff_of_false (Int64.not_le.mpr c21) (Int64.not_le.mpr c32))).mpr (Int64.not_le.mp c46))]
          exact W.zret (v := 1) hx hb hr rfl (fun t ht hW => ⟨⟨_, (), rfl, hres, hP.at ht⟩, hS.F ht⟩) hS.2.2 d_M_isLess_69
    · refine lv_iconst (v := 1) hx hb d_M_isLess_36 (by decide) ?_
      refine lv_goto (tgt := 41) hx hb d_M_isLess_37 (by decide) ?_
      refine lv_icmp_ne (tgt := 58) hx hb d_M_isLess_41 (by decide) (fun c41 => ?_) (fun c41 => ?_)
      · refine lv_lload_n hx hb d_M_isLess_58 rfl (lv_at hl 0 rfl) ?_
        refine lv_lconst (v := 0) hx hb d_M_isLess_59 rfl ?_
        refine lc_lt (tgt := 68) hx hb d_M_isLess_60 d_M_isLess_61 (by decide) (fun c60 => ?_) (fun c60 => ?_)
        · refine lv_iconst (v := 0) hx hb d_M_isLess_68 (by decide) ?_
          have hres : (0 : Int32) = if a + (-9223372036854775808) < b + (-9223372036854775808) then 1 else 0 := by
            first
              | exact absurd c41 (by decide)
              | exact absurd rfl c41
              | rw [if_neg (fun q => absurd (((isl a b).2 (fun q => by first | exact absurd (q.mp (Int64.not_lt.mp c21)) (Int64.not_le.mpr c32) | exact absurd (q.mpr (Int64.not_lt.mp c32)) (Int64.not_le.mpr c21))).mp q) (Int64.not_le.mpr c60))]
          exact W.zret (v := 0) hx hb hr rfl (fun t ht hW => ⟨⟨_, (), rfl, hres, hP.at ht⟩, hS.F ht⟩) hS.2.2 d_M_isLess_69
        · refine lv_iconst (v := 1) hx hb d_M_isLess_64 (by decide) ?_
          refine lv_goto (tgt := 69) hx hb d_M_isLess_65 (by decide) ?_
          have hres : (1 : Int32) = if a + (-9223372036854775808) < b + (-9223372036854775808) then 1 else 0 := by
            first
              | exact absurd c41 (by decide)
              | exact absurd rfl c41
              | rw [if_pos (((isl a b).2 (fun q => by first | exact absurd (q.mp (Int64.not_lt.mp c21)) (Int64.not_le.mpr c32) | exact absurd (q.mpr (Int64.not_lt.mp c32)) (Int64.not_le.mpr c21))).mpr (Int64.not_lt.mp c60))]
          exact W.zret (v := 1) hx hb hr rfl (fun t ht hW => ⟨⟨_, (), rfl, hres, hP.at ht⟩, hS.F ht⟩) hS.2.2 d_M_isLess_69
      · refine lv_lload_n hx hb d_M_isLess_44 rfl (lv_at hl 0 rfl) ?_
        refine lv_lload_n hx hb d_M_isLess_45 rfl (lv_at hl 1 rfl) ?_
        refine lc_ge (tgt := 54) hx hb d_M_isLess_46 d_M_isLess_47 (by decide) (fun c46 => ?_) (fun c46 => ?_)
        · refine lv_iconst (v := 0) hx hb d_M_isLess_54 (by decide) ?_
          refine lv_goto (tgt := 69) hx hb d_M_isLess_55 (by decide) ?_
          have hres : (0 : Int32) = if a + (-9223372036854775808) < b + (-9223372036854775808) then 1 else 0 := by
            first
              | exact absurd c41 (by decide)
              | exact absurd rfl c41
              | rw [if_neg (fun q => absurd (((isl a b).1 (by first | exact iff_of_true (Int64.not_lt.mp c21) (Int64.not_lt.mp c32) | exact iff_of_false (Int64.not_le.mpr c21) (Int64.not_le.mpr c32))).mp q) (Int64.not_lt.mpr c46))]
          exact W.zret (v := 0) hx hb hr rfl (fun t ht hW => ⟨⟨_, (), rfl, hres, hP.at ht⟩, hS.F ht⟩) hS.2.2 d_M_isLess_69
        · refine lv_iconst (v := 1) hx hb d_M_isLess_50 (by decide) ?_
          refine lv_goto (tgt := 69) hx hb d_M_isLess_51 (by decide) ?_
          have hres : (1 : Int32) = if a + (-9223372036854775808) < b + (-9223372036854775808) then 1 else 0 := by
            first
              | exact absurd c41 (by decide)
              | exact absurd rfl c41
              | rw [if_pos (((isl a b).1 (by first | exact iff_of_true (Int64.not_lt.mp c21) (Int64.not_lt.mp c32) | exact iff_of_false (Int64.not_le.mpr c21) (Int64.not_le.mpr c32))).mpr (Int64.not_le.mp c46))]
          exact W.zret (v := 1) hx hb hr rfl (fun t ht hW => ⟨⟨_, (), rfl, hres, hP.at ht⟩, hS.F ht⟩) hS.2.2 d_M_isLess_69
theorem chg_1 (a b : Int64) : chg (nI 1) a b = b := by
  unfold chg
  rw [if_neg (by decide), if_neg (by decide), if_neg (by decide), if_neg (by decide), if_neg (by decide), if_neg (by decide), if_neg (by decide), if_neg (by decide)]
set_option maxHeartbeats 4000000 in
set_option maxRecDepth 100000 in
theorem t_M_changed (l : Launch) (D : va_G) (cJ cI cP : ClassId) (bs : Nat) (w : Nat → Option va_E) (x : Int32) (a b : Int64) (hkd : isKd x) (h2 : ¬ x = 2) (h3 : ¬ x = 3) : Met l y_M_changed ws_M_changed ({ frames := 1, cells := 0, slots := 0, locals := 24 }) (mPc D vwCl (mT cJ cI cP) bs w [.int x, .long a, .long b]) (va_Ql (S := Unit) (fun r _ => r = chg x a b) (mB D vwCl bs (fun _ => w)) (mA bs)) 0 0 (mA bs) := by
  refine Met.ofW (cc := c_M_changed) (maxL := 5) (ret := (some .long)) (by decide) rfl ?_
  intro p e s m args below meth c s₁ B hml hv
  obtain ⟨rfl, hbs, hP, hK⟩ := hv
  have hx := B.exec
  have hb := B.bytes
  have hr := B.returns
  have htg : ∀ w ∈ gt, w.before _ s = true := fun w h => atoms_spec (ws := ws_M_changed) B.pre w (List.mem_cons_of_mem _ h)
  have hown : s.vm.findClass R_M = some m.cls := findClass_of_methodNamed B.named
  have hlocks := B.notSynchronized
  have hS : va_S (mA bs) s.heap s.heap [] := va_S.rf
  have hl := lv_entry ([.int x, .long a, .long b]) (n := 5) (Nat.le_of_ble_eq_true rfl)
  rw [lg_entry_eq]
  generalize (lg_sl ([.int x, .long a, .long b]) ++ List.replicate (5 - (lg_sl ([.int x, .long a, .long b])).length) Slot.unset).toArray = ls at hl ⊢
  have hl : lv_has ls 5 [(0, .int x), (1, .long a), (3, .long b)] := hl
  refine lv_iload_n hx hb d_M_changed_0 rfl (lv_at hl 0 rfl) ?_
  rcases pk_ix x (n := 25) (by decide) with csw | csw | ⟨jsw, csw, esw⟩
  · refine lv_tableOut (tgt := 179) hx hb d_M_changed_1 (Or.inl (by have h := (Int32.lt_iff_toInt_lt).mp csw; exact h)) (by decide) ?_
    refine lv_lload_n hx hb d_M_changed_179 rfl (lv_at hl 1 rfl) ?_
    refine lv_lload_n hx hb d_M_changed_180 rfl (lv_at hl 2 rfl) ?_
    refine lv_iconst (v := 0) hx hb d_M_changed_181 (by decide) ?_
    refine mc_i (va_runS (As := [.long a, .long b, .int 0]) (rest := []) ⟨hx, hb, hml, hown, htg⟩ (t_M_isLess0 l D cJ cI cP bs w a b) (cwS (own := R_M) 3 htg (ginS k_496 k_497 k_26 k_498) rfl rfl rfl (by decide +kernel) ⟨Nat.le_of_ble_eq_true rfl, Nat.le_of_ble_eq_true rfl⟩) (mPc.preS hbs hS hP hK) rfl rfl hl.1 rfl (lv_room (Nat.le_of_ble_eq_true rfl)) d_M_changed_182 ⟨Nat.le_of_ble_eq_true rfl, Nat.le_of_ble_eq_true rfl⟩) hS (fun r182 u182 H locs hw hP hz182 hS => ?_)
    have hls := hw
    refine lv_if_eq (tgt := 192) hx hb d_M_changed_185 (by decide) (fun c185 => ?_) (fun c185 => ?_)
    · refine lv_lload_n hx hb d_M_changed_192 rfl (lv_at hl 1 rfl) ?_
      exfalso
      rcases hkd with rfl | rfl | rfl | rfl | rfl | rfl | rfl | rfl | rfl | rfl | rfl <;> exact absurd csw (by decide)
    · refine lv_lload_n hx hb d_M_changed_188 rfl (lv_at hl 2 rfl) ?_
      refine lv_goto (tgt := 193) hx hb d_M_changed_189 (by decide) ?_
      exfalso
      rcases hkd with rfl | rfl | rfl | rfl | rfl | rfl | rfl | rfl | rfl | rfl | rfl <;> exact absurd csw (by decide)
  · refine lv_tableOut (tgt := 179) hx hb d_M_changed_1 (Or.inr (by have h := (Int32.le_iff_toInt_le).mp csw; rw [nI_toInt (by decide)] at h; omega)) (by decide) ?_
    refine lv_lload_n hx hb d_M_changed_179 rfl (lv_at hl 1 rfl) ?_
    refine lv_lload_n hx hb d_M_changed_180 rfl (lv_at hl 2 rfl) ?_
    refine lv_iconst (v := 0) hx hb d_M_changed_181 (by decide) ?_
    refine mc_i (va_runS (As := [.long a, .long b, .int 0]) (rest := []) ⟨hx, hb, hml, hown, htg⟩ (t_M_isLess0 l D cJ cI cP bs w a b) (cwS (own := R_M) 3 htg (ginS k_496 k_497 k_26 k_498) rfl rfl rfl (by decide +kernel) ⟨Nat.le_of_ble_eq_true rfl, Nat.le_of_ble_eq_true rfl⟩) (mPc.preS hbs hS hP hK) rfl rfl hl.1 rfl (lv_room (Nat.le_of_ble_eq_true rfl)) d_M_changed_182 ⟨Nat.le_of_ble_eq_true rfl, Nat.le_of_ble_eq_true rfl⟩) hS (fun r182 u182 H locs hw hP hz182 hS => ?_)
    have hls := hw
    refine lv_if_eq (tgt := 192) hx hb d_M_changed_185 (by decide) (fun c185 => ?_) (fun c185 => ?_)
    · refine lv_lload_n hx hb d_M_changed_192 rfl (lv_at hl 1 rfl) ?_
      have e28 : x = nI 28 := by
        rcases hkd with rfl | rfl | rfl | rfl | rfl | rfl | rfl | rfl | rfl | rfl | rfl <;> first | exact absurd csw (by decide) | rfl
      subst e28
      have hres : a = chg (nI 28) a b := by
        rw [chg_28]
        by_cases q : a + (-9223372036854775808) < b + (-9223372036854775808)
        · rw [if_pos q] at hls
          refine Eq.trans ?_ (if_pos q).symm
          first | rfl | (rw [hls] at c185; exact absurd c185 (by decide))
        · rw [if_neg q] at hls
          refine Eq.trans ?_ (if_neg q).symm
          first | rfl | exact absurd hls c185
      exact W.lret (v := a) hx hb hr (fun t ht hW => ⟨⟨_, (), rfl, hres, hP.at ht⟩, hS.F ht⟩) hS.2.2 d_M_changed_193
    · refine lv_lload_n hx hb d_M_changed_188 rfl (lv_at hl 2 rfl) ?_
      refine lv_goto (tgt := 193) hx hb d_M_changed_189 (by decide) ?_
      have e28 : x = nI 28 := by
        rcases hkd with rfl | rfl | rfl | rfl | rfl | rfl | rfl | rfl | rfl | rfl | rfl <;> first | exact absurd csw (by decide) | rfl
      subst e28
      have hres : b = chg (nI 28) a b := by
        rw [chg_28]
        by_cases q : a + (-9223372036854775808) < b + (-9223372036854775808)
        · rw [if_pos q] at hls
          refine Eq.trans ?_ (if_pos q).symm
          first | rfl | (rw [hls] at c185; exact absurd c185 (by decide))
        · rw [if_neg q] at hls
          refine Eq.trans ?_ (if_neg q).symm
          first | rfl | exact absurd hls c185
      exact W.lret (v := b) hx hb hr (fun t ht hW => ⟨⟨_, (), rfl, hres, hP.at ht⟩, hS.F ht⟩) hS.2.2 d_M_changed_193
  · rcases (show jsw = 0 ∨ jsw = 1 ∨ jsw = 2 ∨ jsw = 3 ∨ jsw = 4 ∨ jsw = 5 ∨ jsw = 6 ∨ jsw = 7 ∨ jsw = 8 ∨ jsw = 9 ∨ jsw = 10 ∨ jsw = 11 ∨ jsw = 12 ∨ jsw = 13 ∨ jsw = 14 ∨ jsw = 15 ∨ jsw = 16 ∨ jsw = 17 ∨ jsw = 18 ∨ jsw = 19 ∨ jsw = 20 ∨ jsw = 21 ∨ jsw = 22 ∨ jsw = 23 ∨ jsw = 24 by omega) with rfl | rfl | rfl | rfl | rfl | rfl | rfl | rfl | rfl | rfl | rfl | rfl | rfl | rfl | rfl | rfl | rfl | rfl | rfl | rfl | rfl | rfl | rfl | rfl | rfl
    · subst esw
      have hl : lv_has ls 5 [(0, .int (nI 0)), (1, .long a), (3, .long b)] := hl
      refine lv_tableIn (off := 115) (tgt := 116) hx hb d_M_changed_1 (by decide) (by decide) (by decide) (by decide) ?_
      refine lv_lload_n hx hb d_M_changed_116 rfl (lv_at hl 1 rfl) ?_
      refine lv_lload_n hx hb d_M_changed_117 rfl (lv_at hl 2 rfl) ?_
      refine lv_ladd hx hb d_M_changed_118 ?_
      have hres : a + b = chg (nI 0) a b := (chg_0 a b).symm
      exact W.lret (v := a + b) hx hb hr (fun t ht hW => ⟨⟨_, (), rfl, hres, hP.at ht⟩, hS.F ht⟩) hS.2.2 d_M_changed_119
    · subst esw
      have hl : lv_has ls 5 [(0, .int (nI 1)), (1, .long a), (3, .long b)] := hl
      refine lv_tableIn (off := 119) (tgt := 120) hx hb d_M_changed_1 (by decide) (by decide) (by decide) (by decide) ?_
      refine lv_lload_n hx hb d_M_changed_120 rfl (lv_at hl 2 rfl) ?_
      have hres : b = chg (nI 1) a b := (chg_1 a b).symm
      exact W.lret (v := b) hx hb hr (fun t ht hW => ⟨⟨_, (), rfl, hres, hP.at ht⟩, hS.F ht⟩) hS.2.2 d_M_changed_121
    · subst esw
      have hl : lv_has ls 5 [(0, .int (nI 2)), (1, .long a), (3, .long b)] := hl
      refine lv_tableIn (off := 178) (tgt := 179) hx hb d_M_changed_1 (by decide) (by decide) (by decide) (by decide) ?_
      refine lv_lload_n hx hb d_M_changed_179 rfl (lv_at hl 1 rfl) ?_
      refine lv_lload_n hx hb d_M_changed_180 rfl (lv_at hl 2 rfl) ?_
      refine lv_iconst (v := 0) hx hb d_M_changed_181 (by decide) ?_
      refine mc_i (va_runS (As := [.long a, .long b, .int 0]) (rest := []) ⟨hx, hb, hml, hown, htg⟩ (t_M_isLess0 l D cJ cI cP bs w a b) (cwS (own := R_M) 3 htg (ginS k_496 k_497 k_26 k_498) rfl rfl rfl (by decide +kernel) ⟨Nat.le_of_ble_eq_true rfl, Nat.le_of_ble_eq_true rfl⟩) (mPc.preS hbs hS hP hK) rfl rfl hl.1 rfl (lv_room (Nat.le_of_ble_eq_true rfl)) d_M_changed_182 ⟨Nat.le_of_ble_eq_true rfl, Nat.le_of_ble_eq_true rfl⟩) hS (fun r182 u182 H locs hw hP hz182 hS => ?_)
      have hls := hw
      refine lv_if_eq (tgt := 192) hx hb d_M_changed_185 (by decide) (fun c185 => ?_) (fun c185 => ?_)
      · refine lv_lload_n hx hb d_M_changed_192 rfl (lv_at hl 1 rfl) ?_
        exact absurd (show nI 2 = 2 from rfl) h2
      · refine lv_lload_n hx hb d_M_changed_188 rfl (lv_at hl 2 rfl) ?_
        refine lv_goto (tgt := 193) hx hb d_M_changed_189 (by decide) ?_
        exact absurd (show nI 2 = 2 from rfl) h2
    · subst esw
      have hl : lv_has ls 5 [(0, .int (nI 3)), (1, .long a), (3, .long b)] := hl
      refine lv_tableIn (off := 178) (tgt := 179) hx hb d_M_changed_1 (by decide) (by decide) (by decide) (by decide) ?_
      refine lv_lload_n hx hb d_M_changed_179 rfl (lv_at hl 1 rfl) ?_
      refine lv_lload_n hx hb d_M_changed_180 rfl (lv_at hl 2 rfl) ?_
      refine lv_iconst (v := 0) hx hb d_M_changed_181 (by decide) ?_
      refine mc_i (va_runS (As := [.long a, .long b, .int 0]) (rest := []) ⟨hx, hb, hml, hown, htg⟩ (t_M_isLess0 l D cJ cI cP bs w a b) (cwS (own := R_M) 3 htg (ginS k_496 k_497 k_26 k_498) rfl rfl rfl (by decide +kernel) ⟨Nat.le_of_ble_eq_true rfl, Nat.le_of_ble_eq_true rfl⟩) (mPc.preS hbs hS hP hK) rfl rfl hl.1 rfl (lv_room (Nat.le_of_ble_eq_true rfl)) d_M_changed_182 ⟨Nat.le_of_ble_eq_true rfl, Nat.le_of_ble_eq_true rfl⟩) hS (fun r182 u182 H locs hw hP hz182 hS => ?_)
      have hls := hw
      refine lv_if_eq (tgt := 192) hx hb d_M_changed_185 (by decide) (fun c185 => ?_) (fun c185 => ?_)
      · refine lv_lload_n hx hb d_M_changed_192 rfl (lv_at hl 1 rfl) ?_
        exact absurd (show nI 3 = 3 from rfl) h3
      · refine lv_lload_n hx hb d_M_changed_188 rfl (lv_at hl 2 rfl) ?_
        refine lv_goto (tgt := 193) hx hb d_M_changed_189 (by decide) ?_
        exact absurd (show nI 3 = 3 from rfl) h3
    · subst esw
      have hl : lv_has ls 5 [(0, .int (nI 4)), (1, .long a), (3, .long b)] := hl
      refine lv_tableIn (off := 121) (tgt := 122) hx hb d_M_changed_1 (by decide) (by decide) (by decide) (by decide) ?_
      refine lv_lload_n hx hb d_M_changed_122 rfl (lv_at hl 1 rfl) ?_
      refine lv_lload_n hx hb d_M_changed_123 rfl (lv_at hl 2 rfl) ?_
      refine lv_lxor hx hb d_M_changed_124 ?_
      have hres : a ^^^ b = chg (nI 4) a b := (chg_4 a b).symm
      exact W.lret (v := a ^^^ b) hx hb hr (fun t ht hW => ⟨⟨_, (), rfl, hres, hP.at ht⟩, hS.F ht⟩) hS.2.2 d_M_changed_125
    · subst esw
      have hl : lv_has ls 5 [(0, .int (nI 5)), (1, .long a), (3, .long b)] := hl
      refine lv_tableIn (off := 178) (tgt := 179) hx hb d_M_changed_1 (by decide) (by decide) (by decide) (by decide) ?_
      refine lv_lload_n hx hb d_M_changed_179 rfl (lv_at hl 1 rfl) ?_
      refine lv_lload_n hx hb d_M_changed_180 rfl (lv_at hl 2 rfl) ?_
      refine lv_iconst (v := 0) hx hb d_M_changed_181 (by decide) ?_
      refine mc_i (va_runS (As := [.long a, .long b, .int 0]) (rest := []) ⟨hx, hb, hml, hown, htg⟩ (t_M_isLess0 l D cJ cI cP bs w a b) (cwS (own := R_M) 3 htg (ginS k_496 k_497 k_26 k_498) rfl rfl rfl (by decide +kernel) ⟨Nat.le_of_ble_eq_true rfl, Nat.le_of_ble_eq_true rfl⟩) (mPc.preS hbs hS hP hK) rfl rfl hl.1 rfl (lv_room (Nat.le_of_ble_eq_true rfl)) d_M_changed_182 ⟨Nat.le_of_ble_eq_true rfl, Nat.le_of_ble_eq_true rfl⟩) hS (fun r182 u182 H locs hw hP hz182 hS => ?_)
      have hls := hw
      refine lv_if_eq (tgt := 192) hx hb d_M_changed_185 (by decide) (fun c185 => ?_) (fun c185 => ?_)
      · refine lv_lload_n hx hb d_M_changed_192 rfl (lv_at hl 1 rfl) ?_
        exact absurd hkd (by decide)
      · refine lv_lload_n hx hb d_M_changed_188 rfl (lv_at hl 2 rfl) ?_
        refine lv_goto (tgt := 193) hx hb d_M_changed_189 (by decide) ?_
        exact absurd hkd (by decide)
    · subst esw
      have hl : lv_has ls 5 [(0, .int (nI 6)), (1, .long a), (3, .long b)] := hl
      refine lv_tableIn (off := 178) (tgt := 179) hx hb d_M_changed_1 (by decide) (by decide) (by decide) (by decide) ?_
      refine lv_lload_n hx hb d_M_changed_179 rfl (lv_at hl 1 rfl) ?_
      refine lv_lload_n hx hb d_M_changed_180 rfl (lv_at hl 2 rfl) ?_
      refine lv_iconst (v := 0) hx hb d_M_changed_181 (by decide) ?_
      refine mc_i (va_runS (As := [.long a, .long b, .int 0]) (rest := []) ⟨hx, hb, hml, hown, htg⟩ (t_M_isLess0 l D cJ cI cP bs w a b) (cwS (own := R_M) 3 htg (ginS k_496 k_497 k_26 k_498) rfl rfl rfl (by decide +kernel) ⟨Nat.le_of_ble_eq_true rfl, Nat.le_of_ble_eq_true rfl⟩) (mPc.preS hbs hS hP hK) rfl rfl hl.1 rfl (lv_room (Nat.le_of_ble_eq_true rfl)) d_M_changed_182 ⟨Nat.le_of_ble_eq_true rfl, Nat.le_of_ble_eq_true rfl⟩) hS (fun r182 u182 H locs hw hP hz182 hS => ?_)
      have hls := hw
      refine lv_if_eq (tgt := 192) hx hb d_M_changed_185 (by decide) (fun c185 => ?_) (fun c185 => ?_)
      · refine lv_lload_n hx hb d_M_changed_192 rfl (lv_at hl 1 rfl) ?_
        exact absurd hkd (by decide)
      · refine lv_lload_n hx hb d_M_changed_188 rfl (lv_at hl 2 rfl) ?_
        refine lv_goto (tgt := 193) hx hb d_M_changed_189 (by decide) ?_
        exact absurd hkd (by decide)
    · subst esw
      have hl : lv_has ls 5 [(0, .int (nI 7)), (1, .long a), (3, .long b)] := hl
      refine lv_tableIn (off := 178) (tgt := 179) hx hb d_M_changed_1 (by decide) (by decide) (by decide) (by decide) ?_
      refine lv_lload_n hx hb d_M_changed_179 rfl (lv_at hl 1 rfl) ?_
      refine lv_lload_n hx hb d_M_changed_180 rfl (lv_at hl 2 rfl) ?_
      refine lv_iconst (v := 0) hx hb d_M_changed_181 (by decide) ?_
      refine mc_i (va_runS (As := [.long a, .long b, .int 0]) (rest := []) ⟨hx, hb, hml, hown, htg⟩ (t_M_isLess0 l D cJ cI cP bs w a b) (cwS (own := R_M) 3 htg (ginS k_496 k_497 k_26 k_498) rfl rfl rfl (by decide +kernel) ⟨Nat.le_of_ble_eq_true rfl, Nat.le_of_ble_eq_true rfl⟩) (mPc.preS hbs hS hP hK) rfl rfl hl.1 rfl (lv_room (Nat.le_of_ble_eq_true rfl)) d_M_changed_182 ⟨Nat.le_of_ble_eq_true rfl, Nat.le_of_ble_eq_true rfl⟩) hS (fun r182 u182 H locs hw hP hz182 hS => ?_)
      have hls := hw
      refine lv_if_eq (tgt := 192) hx hb d_M_changed_185 (by decide) (fun c185 => ?_) (fun c185 => ?_)
      · refine lv_lload_n hx hb d_M_changed_192 rfl (lv_at hl 1 rfl) ?_
        exact absurd hkd (by decide)
      · refine lv_lload_n hx hb d_M_changed_188 rfl (lv_at hl 2 rfl) ?_
        refine lv_goto (tgt := 193) hx hb d_M_changed_189 (by decide) ?_
        exact absurd hkd (by decide)
    · subst esw
      have hl : lv_has ls 5 [(0, .int (nI 8)), (1, .long a), (3, .long b)] := hl
      refine lv_tableIn (off := 125) (tgt := 126) hx hb d_M_changed_1 (by decide) (by decide) (by decide) (by decide) ?_
      refine lv_lload_n hx hb d_M_changed_126 rfl (lv_at hl 1 rfl) ?_
      refine lv_lload_n hx hb d_M_changed_127 rfl (lv_at hl 2 rfl) ?_
      refine lv_lor hx hb d_M_changed_128 ?_
      have hres : a ||| b = chg (nI 8) a b := (chg_8 a b).symm
      exact W.lret (v := a ||| b) hx hb hr (fun t ht hW => ⟨⟨_, (), rfl, hres, hP.at ht⟩, hS.F ht⟩) hS.2.2 d_M_changed_129
    · subst esw
      have hl : lv_has ls 5 [(0, .int (nI 9)), (1, .long a), (3, .long b)] := hl
      refine lv_tableIn (off := 178) (tgt := 179) hx hb d_M_changed_1 (by decide) (by decide) (by decide) (by decide) ?_
      refine lv_lload_n hx hb d_M_changed_179 rfl (lv_at hl 1 rfl) ?_
      refine lv_lload_n hx hb d_M_changed_180 rfl (lv_at hl 2 rfl) ?_
      refine lv_iconst (v := 0) hx hb d_M_changed_181 (by decide) ?_
      refine mc_i (va_runS (As := [.long a, .long b, .int 0]) (rest := []) ⟨hx, hb, hml, hown, htg⟩ (t_M_isLess0 l D cJ cI cP bs w a b) (cwS (own := R_M) 3 htg (ginS k_496 k_497 k_26 k_498) rfl rfl rfl (by decide +kernel) ⟨Nat.le_of_ble_eq_true rfl, Nat.le_of_ble_eq_true rfl⟩) (mPc.preS hbs hS hP hK) rfl rfl hl.1 rfl (lv_room (Nat.le_of_ble_eq_true rfl)) d_M_changed_182 ⟨Nat.le_of_ble_eq_true rfl, Nat.le_of_ble_eq_true rfl⟩) hS (fun r182 u182 H locs hw hP hz182 hS => ?_)
      have hls := hw
      refine lv_if_eq (tgt := 192) hx hb d_M_changed_185 (by decide) (fun c185 => ?_) (fun c185 => ?_)
      · refine lv_lload_n hx hb d_M_changed_192 rfl (lv_at hl 1 rfl) ?_
        exact absurd hkd (by decide)
      · refine lv_lload_n hx hb d_M_changed_188 rfl (lv_at hl 2 rfl) ?_
        refine lv_goto (tgt := 193) hx hb d_M_changed_189 (by decide) ?_
        exact absurd hkd (by decide)
    · subst esw
      have hl : lv_has ls 5 [(0, .int (nI 10)), (1, .long a), (3, .long b)] := hl
      refine lv_tableIn (off := 178) (tgt := 179) hx hb d_M_changed_1 (by decide) (by decide) (by decide) (by decide) ?_
      refine lv_lload_n hx hb d_M_changed_179 rfl (lv_at hl 1 rfl) ?_
      refine lv_lload_n hx hb d_M_changed_180 rfl (lv_at hl 2 rfl) ?_
      refine lv_iconst (v := 0) hx hb d_M_changed_181 (by decide) ?_
      refine mc_i (va_runS (As := [.long a, .long b, .int 0]) (rest := []) ⟨hx, hb, hml, hown, htg⟩ (t_M_isLess0 l D cJ cI cP bs w a b) (cwS (own := R_M) 3 htg (ginS k_496 k_497 k_26 k_498) rfl rfl rfl (by decide +kernel) ⟨Nat.le_of_ble_eq_true rfl, Nat.le_of_ble_eq_true rfl⟩) (mPc.preS hbs hS hP hK) rfl rfl hl.1 rfl (lv_room (Nat.le_of_ble_eq_true rfl)) d_M_changed_182 ⟨Nat.le_of_ble_eq_true rfl, Nat.le_of_ble_eq_true rfl⟩) hS (fun r182 u182 H locs hw hP hz182 hS => ?_)
      have hls := hw
      refine lv_if_eq (tgt := 192) hx hb d_M_changed_185 (by decide) (fun c185 => ?_) (fun c185 => ?_)
      · refine lv_lload_n hx hb d_M_changed_192 rfl (lv_at hl 1 rfl) ?_
        exact absurd hkd (by decide)
      · refine lv_lload_n hx hb d_M_changed_188 rfl (lv_at hl 2 rfl) ?_
        refine lv_goto (tgt := 193) hx hb d_M_changed_189 (by decide) ?_
        exact absurd hkd (by decide)
    · subst esw
      have hl : lv_has ls 5 [(0, .int (nI 11)), (1, .long a), (3, .long b)] := hl
      refine lv_tableIn (off := 178) (tgt := 179) hx hb d_M_changed_1 (by decide) (by decide) (by decide) (by decide) ?_
      refine lv_lload_n hx hb d_M_changed_179 rfl (lv_at hl 1 rfl) ?_
      refine lv_lload_n hx hb d_M_changed_180 rfl (lv_at hl 2 rfl) ?_
      refine lv_iconst (v := 0) hx hb d_M_changed_181 (by decide) ?_
      refine mc_i (va_runS (As := [.long a, .long b, .int 0]) (rest := []) ⟨hx, hb, hml, hown, htg⟩ (t_M_isLess0 l D cJ cI cP bs w a b) (cwS (own := R_M) 3 htg (ginS k_496 k_497 k_26 k_498) rfl rfl rfl (by decide +kernel) ⟨Nat.le_of_ble_eq_true rfl, Nat.le_of_ble_eq_true rfl⟩) (mPc.preS hbs hS hP hK) rfl rfl hl.1 rfl (lv_room (Nat.le_of_ble_eq_true rfl)) d_M_changed_182 ⟨Nat.le_of_ble_eq_true rfl, Nat.le_of_ble_eq_true rfl⟩) hS (fun r182 u182 H locs hw hP hz182 hS => ?_)
      have hls := hw
      refine lv_if_eq (tgt := 192) hx hb d_M_changed_185 (by decide) (fun c185 => ?_) (fun c185 => ?_)
      · refine lv_lload_n hx hb d_M_changed_192 rfl (lv_at hl 1 rfl) ?_
        exact absurd hkd (by decide)
      · refine lv_lload_n hx hb d_M_changed_188 rfl (lv_at hl 2 rfl) ?_
        refine lv_goto (tgt := 193) hx hb d_M_changed_189 (by decide) ?_
        exact absurd hkd (by decide)
    · subst esw
      have hl : lv_has ls 5 [(0, .int (nI 12)), (1, .long a), (3, .long b)] := hl
      refine lv_tableIn (off := 129) (tgt := 130) hx hb d_M_changed_1 (by decide) (by decide) (by decide) (by decide) ?_
      refine lv_lload_n hx hb d_M_changed_130 rfl (lv_at hl 1 rfl) ?_
      refine lv_lload_n hx hb d_M_changed_131 rfl (lv_at hl 2 rfl) ?_
      refine lv_land hx hb d_M_changed_132 ?_
      have hres : a &&& b = chg (nI 12) a b := (chg_12 a b).symm
      exact W.lret (v := a &&& b) hx hb hr (fun t ht hW => ⟨⟨_, (), rfl, hres, hP.at ht⟩, hS.F ht⟩) hS.2.2 d_M_changed_133
    · subst esw
      have hl : lv_has ls 5 [(0, .int (nI 13)), (1, .long a), (3, .long b)] := hl
      refine lv_tableIn (off := 178) (tgt := 179) hx hb d_M_changed_1 (by decide) (by decide) (by decide) (by decide) ?_
      refine lv_lload_n hx hb d_M_changed_179 rfl (lv_at hl 1 rfl) ?_
      refine lv_lload_n hx hb d_M_changed_180 rfl (lv_at hl 2 rfl) ?_
      refine lv_iconst (v := 0) hx hb d_M_changed_181 (by decide) ?_
      refine mc_i (va_runS (As := [.long a, .long b, .int 0]) (rest := []) ⟨hx, hb, hml, hown, htg⟩ (t_M_isLess0 l D cJ cI cP bs w a b) (cwS (own := R_M) 3 htg (ginS k_496 k_497 k_26 k_498) rfl rfl rfl (by decide +kernel) ⟨Nat.le_of_ble_eq_true rfl, Nat.le_of_ble_eq_true rfl⟩) (mPc.preS hbs hS hP hK) rfl rfl hl.1 rfl (lv_room (Nat.le_of_ble_eq_true rfl)) d_M_changed_182 ⟨Nat.le_of_ble_eq_true rfl, Nat.le_of_ble_eq_true rfl⟩) hS (fun r182 u182 H locs hw hP hz182 hS => ?_)
      have hls := hw
      refine lv_if_eq (tgt := 192) hx hb d_M_changed_185 (by decide) (fun c185 => ?_) (fun c185 => ?_)
      · refine lv_lload_n hx hb d_M_changed_192 rfl (lv_at hl 1 rfl) ?_
        exact absurd hkd (by decide)
      · refine lv_lload_n hx hb d_M_changed_188 rfl (lv_at hl 2 rfl) ?_
        refine lv_goto (tgt := 193) hx hb d_M_changed_189 (by decide) ?_
        exact absurd hkd (by decide)
    · subst esw
      have hl : lv_has ls 5 [(0, .int (nI 14)), (1, .long a), (3, .long b)] := hl
      refine lv_tableIn (off := 178) (tgt := 179) hx hb d_M_changed_1 (by decide) (by decide) (by decide) (by decide) ?_
      refine lv_lload_n hx hb d_M_changed_179 rfl (lv_at hl 1 rfl) ?_
      refine lv_lload_n hx hb d_M_changed_180 rfl (lv_at hl 2 rfl) ?_
      refine lv_iconst (v := 0) hx hb d_M_changed_181 (by decide) ?_
      refine mc_i (va_runS (As := [.long a, .long b, .int 0]) (rest := []) ⟨hx, hb, hml, hown, htg⟩ (t_M_isLess0 l D cJ cI cP bs w a b) (cwS (own := R_M) 3 htg (ginS k_496 k_497 k_26 k_498) rfl rfl rfl (by decide +kernel) ⟨Nat.le_of_ble_eq_true rfl, Nat.le_of_ble_eq_true rfl⟩) (mPc.preS hbs hS hP hK) rfl rfl hl.1 rfl (lv_room (Nat.le_of_ble_eq_true rfl)) d_M_changed_182 ⟨Nat.le_of_ble_eq_true rfl, Nat.le_of_ble_eq_true rfl⟩) hS (fun r182 u182 H locs hw hP hz182 hS => ?_)
      have hls := hw
      refine lv_if_eq (tgt := 192) hx hb d_M_changed_185 (by decide) (fun c185 => ?_) (fun c185 => ?_)
      · refine lv_lload_n hx hb d_M_changed_192 rfl (lv_at hl 1 rfl) ?_
        exact absurd hkd (by decide)
      · refine lv_lload_n hx hb d_M_changed_188 rfl (lv_at hl 2 rfl) ?_
        refine lv_goto (tgt := 193) hx hb d_M_changed_189 (by decide) ?_
        exact absurd hkd (by decide)
    · subst esw
      have hl : lv_has ls 5 [(0, .int (nI 15)), (1, .long a), (3, .long b)] := hl
      refine lv_tableIn (off := 178) (tgt := 179) hx hb d_M_changed_1 (by decide) (by decide) (by decide) (by decide) ?_
      refine lv_lload_n hx hb d_M_changed_179 rfl (lv_at hl 1 rfl) ?_
      refine lv_lload_n hx hb d_M_changed_180 rfl (lv_at hl 2 rfl) ?_
      refine lv_iconst (v := 0) hx hb d_M_changed_181 (by decide) ?_
      refine mc_i (va_runS (As := [.long a, .long b, .int 0]) (rest := []) ⟨hx, hb, hml, hown, htg⟩ (t_M_isLess0 l D cJ cI cP bs w a b) (cwS (own := R_M) 3 htg (ginS k_496 k_497 k_26 k_498) rfl rfl rfl (by decide +kernel) ⟨Nat.le_of_ble_eq_true rfl, Nat.le_of_ble_eq_true rfl⟩) (mPc.preS hbs hS hP hK) rfl rfl hl.1 rfl (lv_room (Nat.le_of_ble_eq_true rfl)) d_M_changed_182 ⟨Nat.le_of_ble_eq_true rfl, Nat.le_of_ble_eq_true rfl⟩) hS (fun r182 u182 H locs hw hP hz182 hS => ?_)
      have hls := hw
      refine lv_if_eq (tgt := 192) hx hb d_M_changed_185 (by decide) (fun c185 => ?_) (fun c185 => ?_)
      · refine lv_lload_n hx hb d_M_changed_192 rfl (lv_at hl 1 rfl) ?_
        exact absurd hkd (by decide)
      · refine lv_lload_n hx hb d_M_changed_188 rfl (lv_at hl 2 rfl) ?_
        refine lv_goto (tgt := 193) hx hb d_M_changed_189 (by decide) ?_
        exact absurd hkd (by decide)
    · subst esw
      have hl : lv_has ls 5 [(0, .int (nI 16)), (1, .long a), (3, .long b)] := hl
      refine lv_tableIn (off := 133) (tgt := 134) hx hb d_M_changed_1 (by decide) (by decide) (by decide) (by decide) ?_
      refine lv_lload_n hx hb d_M_changed_134 rfl (lv_at hl 1 rfl) ?_
      refine lv_lload_n hx hb d_M_changed_135 rfl (lv_at hl 2 rfl) ?_
      refine lv_iconst (v := 1) hx hb d_M_changed_136 (by decide) ?_
      refine mc_i (va_runS (As := [.long a, .long b, .int 1]) (rest := []) ⟨hx, hb, hml, hown, htg⟩ (t_M_isLess1 l D cJ cI cP bs w a b) (cwS (own := R_M) 3 htg (ginS k_496 k_497 k_26 k_498) rfl rfl rfl (by decide +kernel) ⟨Nat.le_of_ble_eq_true rfl, Nat.le_of_ble_eq_true rfl⟩) (mPc.preS hbs hS hP hK) rfl rfl hl.1 rfl (lv_room (Nat.le_of_ble_eq_true rfl)) d_M_changed_137 ⟨Nat.le_of_ble_eq_true rfl, Nat.le_of_ble_eq_true rfl⟩) hS (fun r137 u137 H locs hw hP hz137 hS => ?_)
      have hls := hw
      refine lv_if_eq (tgt := 147) hx hb d_M_changed_140 (by decide) (fun c140 => ?_) (fun c140 => ?_)
      · refine lv_lload_n hx hb d_M_changed_147 rfl (lv_at hl 2 rfl) ?_
        have hres : b = chg (nI 16) a b := by
          rw [chg_16]
          by_cases q : a < b
          · rw [if_pos q] at hls
            refine Eq.trans ?_ (if_pos q).symm
            first | rfl | (rw [hls] at c140; exact absurd c140 (by decide))
          · rw [if_neg q] at hls
            refine Eq.trans ?_ (if_neg q).symm
            first | rfl | exact absurd hls c140
        exact W.lret (v := b) hx hb hr (fun t ht hW => ⟨⟨_, (), rfl, hres, hP.at ht⟩, hS.F ht⟩) hS.2.2 d_M_changed_148
      · refine lv_lload_n hx hb d_M_changed_143 rfl (lv_at hl 1 rfl) ?_
        refine lv_goto (tgt := 148) hx hb d_M_changed_144 (by decide) ?_
        have hres : a = chg (nI 16) a b := by
          rw [chg_16]
          by_cases q : a < b
          · rw [if_pos q] at hls
            refine Eq.trans ?_ (if_pos q).symm
            first | rfl | (rw [hls] at c140; exact absurd c140 (by decide))
          · rw [if_neg q] at hls
            refine Eq.trans ?_ (if_neg q).symm
            first | rfl | exact absurd hls c140
        exact W.lret (v := a) hx hb hr (fun t ht hW => ⟨⟨_, (), rfl, hres, hP.at ht⟩, hS.F ht⟩) hS.2.2 d_M_changed_148
    · subst esw
      have hl : lv_has ls 5 [(0, .int (nI 17)), (1, .long a), (3, .long b)] := hl
      refine lv_tableIn (off := 178) (tgt := 179) hx hb d_M_changed_1 (by decide) (by decide) (by decide) (by decide) ?_
      refine lv_lload_n hx hb d_M_changed_179 rfl (lv_at hl 1 rfl) ?_
      refine lv_lload_n hx hb d_M_changed_180 rfl (lv_at hl 2 rfl) ?_
      refine lv_iconst (v := 0) hx hb d_M_changed_181 (by decide) ?_
      refine mc_i (va_runS (As := [.long a, .long b, .int 0]) (rest := []) ⟨hx, hb, hml, hown, htg⟩ (t_M_isLess0 l D cJ cI cP bs w a b) (cwS (own := R_M) 3 htg (ginS k_496 k_497 k_26 k_498) rfl rfl rfl (by decide +kernel) ⟨Nat.le_of_ble_eq_true rfl, Nat.le_of_ble_eq_true rfl⟩) (mPc.preS hbs hS hP hK) rfl rfl hl.1 rfl (lv_room (Nat.le_of_ble_eq_true rfl)) d_M_changed_182 ⟨Nat.le_of_ble_eq_true rfl, Nat.le_of_ble_eq_true rfl⟩) hS (fun r182 u182 H locs hw hP hz182 hS => ?_)
      have hls := hw
      refine lv_if_eq (tgt := 192) hx hb d_M_changed_185 (by decide) (fun c185 => ?_) (fun c185 => ?_)
      · refine lv_lload_n hx hb d_M_changed_192 rfl (lv_at hl 1 rfl) ?_
        exact absurd hkd (by decide)
      · refine lv_lload_n hx hb d_M_changed_188 rfl (lv_at hl 2 rfl) ?_
        refine lv_goto (tgt := 193) hx hb d_M_changed_189 (by decide) ?_
        exact absurd hkd (by decide)
    · subst esw
      have hl : lv_has ls 5 [(0, .int (nI 18)), (1, .long a), (3, .long b)] := hl
      refine lv_tableIn (off := 178) (tgt := 179) hx hb d_M_changed_1 (by decide) (by decide) (by decide) (by decide) ?_
      refine lv_lload_n hx hb d_M_changed_179 rfl (lv_at hl 1 rfl) ?_
      refine lv_lload_n hx hb d_M_changed_180 rfl (lv_at hl 2 rfl) ?_
      refine lv_iconst (v := 0) hx hb d_M_changed_181 (by decide) ?_
      refine mc_i (va_runS (As := [.long a, .long b, .int 0]) (rest := []) ⟨hx, hb, hml, hown, htg⟩ (t_M_isLess0 l D cJ cI cP bs w a b) (cwS (own := R_M) 3 htg (ginS k_496 k_497 k_26 k_498) rfl rfl rfl (by decide +kernel) ⟨Nat.le_of_ble_eq_true rfl, Nat.le_of_ble_eq_true rfl⟩) (mPc.preS hbs hS hP hK) rfl rfl hl.1 rfl (lv_room (Nat.le_of_ble_eq_true rfl)) d_M_changed_182 ⟨Nat.le_of_ble_eq_true rfl, Nat.le_of_ble_eq_true rfl⟩) hS (fun r182 u182 H locs hw hP hz182 hS => ?_)
      have hls := hw
      refine lv_if_eq (tgt := 192) hx hb d_M_changed_185 (by decide) (fun c185 => ?_) (fun c185 => ?_)
      · refine lv_lload_n hx hb d_M_changed_192 rfl (lv_at hl 1 rfl) ?_
        exact absurd hkd (by decide)
      · refine lv_lload_n hx hb d_M_changed_188 rfl (lv_at hl 2 rfl) ?_
        refine lv_goto (tgt := 193) hx hb d_M_changed_189 (by decide) ?_
        exact absurd hkd (by decide)
    · subst esw
      have hl : lv_has ls 5 [(0, .int (nI 19)), (1, .long a), (3, .long b)] := hl
      refine lv_tableIn (off := 178) (tgt := 179) hx hb d_M_changed_1 (by decide) (by decide) (by decide) (by decide) ?_
      refine lv_lload_n hx hb d_M_changed_179 rfl (lv_at hl 1 rfl) ?_
      refine lv_lload_n hx hb d_M_changed_180 rfl (lv_at hl 2 rfl) ?_
      refine lv_iconst (v := 0) hx hb d_M_changed_181 (by decide) ?_
      refine mc_i (va_runS (As := [.long a, .long b, .int 0]) (rest := []) ⟨hx, hb, hml, hown, htg⟩ (t_M_isLess0 l D cJ cI cP bs w a b) (cwS (own := R_M) 3 htg (ginS k_496 k_497 k_26 k_498) rfl rfl rfl (by decide +kernel) ⟨Nat.le_of_ble_eq_true rfl, Nat.le_of_ble_eq_true rfl⟩) (mPc.preS hbs hS hP hK) rfl rfl hl.1 rfl (lv_room (Nat.le_of_ble_eq_true rfl)) d_M_changed_182 ⟨Nat.le_of_ble_eq_true rfl, Nat.le_of_ble_eq_true rfl⟩) hS (fun r182 u182 H locs hw hP hz182 hS => ?_)
      have hls := hw
      refine lv_if_eq (tgt := 192) hx hb d_M_changed_185 (by decide) (fun c185 => ?_) (fun c185 => ?_)
      · refine lv_lload_n hx hb d_M_changed_192 rfl (lv_at hl 1 rfl) ?_
        exact absurd hkd (by decide)
      · refine lv_lload_n hx hb d_M_changed_188 rfl (lv_at hl 2 rfl) ?_
        refine lv_goto (tgt := 193) hx hb d_M_changed_189 (by decide) ?_
        exact absurd hkd (by decide)
    · subst esw
      have hl : lv_has ls 5 [(0, .int (nI 20)), (1, .long a), (3, .long b)] := hl
      refine lv_tableIn (off := 148) (tgt := 149) hx hb d_M_changed_1 (by decide) (by decide) (by decide) (by decide) ?_
      refine lv_lload_n hx hb d_M_changed_149 rfl (lv_at hl 1 rfl) ?_
      refine lv_lload_n hx hb d_M_changed_150 rfl (lv_at hl 2 rfl) ?_
      refine lv_iconst (v := 1) hx hb d_M_changed_151 (by decide) ?_
      refine mc_i (va_runS (As := [.long a, .long b, .int 1]) (rest := []) ⟨hx, hb, hml, hown, htg⟩ (t_M_isLess1 l D cJ cI cP bs w a b) (cwS (own := R_M) 3 htg (ginS k_496 k_497 k_26 k_498) rfl rfl rfl (by decide +kernel) ⟨Nat.le_of_ble_eq_true rfl, Nat.le_of_ble_eq_true rfl⟩) (mPc.preS hbs hS hP hK) rfl rfl hl.1 rfl (lv_room (Nat.le_of_ble_eq_true rfl)) d_M_changed_152 ⟨Nat.le_of_ble_eq_true rfl, Nat.le_of_ble_eq_true rfl⟩) hS (fun r152 u152 H locs hw hP hz152 hS => ?_)
      have hls := hw
      refine lv_if_eq (tgt := 162) hx hb d_M_changed_155 (by decide) (fun c155 => ?_) (fun c155 => ?_)
      · refine lv_lload_n hx hb d_M_changed_162 rfl (lv_at hl 1 rfl) ?_
        have hres : a = chg (nI 20) a b := by
          rw [chg_20]
          by_cases q : a < b
          · rw [if_pos q] at hls
            refine Eq.trans ?_ (if_pos q).symm
            first | rfl | (rw [hls] at c155; exact absurd c155 (by decide))
          · rw [if_neg q] at hls
            refine Eq.trans ?_ (if_neg q).symm
            first | rfl | exact absurd hls c155
        exact W.lret (v := a) hx hb hr (fun t ht hW => ⟨⟨_, (), rfl, hres, hP.at ht⟩, hS.F ht⟩) hS.2.2 d_M_changed_163
      · refine lv_lload_n hx hb d_M_changed_158 rfl (lv_at hl 2 rfl) ?_
        refine lv_goto (tgt := 163) hx hb d_M_changed_159 (by decide) ?_
        have hres : b = chg (nI 20) a b := by
          rw [chg_20]
          by_cases q : a < b
          · rw [if_pos q] at hls
            refine Eq.trans ?_ (if_pos q).symm
            first | rfl | (rw [hls] at c155; exact absurd c155 (by decide))
          · rw [if_neg q] at hls
            refine Eq.trans ?_ (if_neg q).symm
            first | rfl | exact absurd hls c155
        exact W.lret (v := b) hx hb hr (fun t ht hW => ⟨⟨_, (), rfl, hres, hP.at ht⟩, hS.F ht⟩) hS.2.2 d_M_changed_163
    · subst esw
      have hl : lv_has ls 5 [(0, .int (nI 21)), (1, .long a), (3, .long b)] := hl
      refine lv_tableIn (off := 178) (tgt := 179) hx hb d_M_changed_1 (by decide) (by decide) (by decide) (by decide) ?_
      refine lv_lload_n hx hb d_M_changed_179 rfl (lv_at hl 1 rfl) ?_
      refine lv_lload_n hx hb d_M_changed_180 rfl (lv_at hl 2 rfl) ?_
      refine lv_iconst (v := 0) hx hb d_M_changed_181 (by decide) ?_
      refine mc_i (va_runS (As := [.long a, .long b, .int 0]) (rest := []) ⟨hx, hb, hml, hown, htg⟩ (t_M_isLess0 l D cJ cI cP bs w a b) (cwS (own := R_M) 3 htg (ginS k_496 k_497 k_26 k_498) rfl rfl rfl (by decide +kernel) ⟨Nat.le_of_ble_eq_true rfl, Nat.le_of_ble_eq_true rfl⟩) (mPc.preS hbs hS hP hK) rfl rfl hl.1 rfl (lv_room (Nat.le_of_ble_eq_true rfl)) d_M_changed_182 ⟨Nat.le_of_ble_eq_true rfl, Nat.le_of_ble_eq_true rfl⟩) hS (fun r182 u182 H locs hw hP hz182 hS => ?_)
      have hls := hw
      refine lv_if_eq (tgt := 192) hx hb d_M_changed_185 (by decide) (fun c185 => ?_) (fun c185 => ?_)
      · refine lv_lload_n hx hb d_M_changed_192 rfl (lv_at hl 1 rfl) ?_
        exact absurd hkd (by decide)
      · refine lv_lload_n hx hb d_M_changed_188 rfl (lv_at hl 2 rfl) ?_
        refine lv_goto (tgt := 193) hx hb d_M_changed_189 (by decide) ?_
        exact absurd hkd (by decide)
    · subst esw
      have hl : lv_has ls 5 [(0, .int (nI 22)), (1, .long a), (3, .long b)] := hl
      refine lv_tableIn (off := 178) (tgt := 179) hx hb d_M_changed_1 (by decide) (by decide) (by decide) (by decide) ?_
      refine lv_lload_n hx hb d_M_changed_179 rfl (lv_at hl 1 rfl) ?_
      refine lv_lload_n hx hb d_M_changed_180 rfl (lv_at hl 2 rfl) ?_
      refine lv_iconst (v := 0) hx hb d_M_changed_181 (by decide) ?_
      refine mc_i (va_runS (As := [.long a, .long b, .int 0]) (rest := []) ⟨hx, hb, hml, hown, htg⟩ (t_M_isLess0 l D cJ cI cP bs w a b) (cwS (own := R_M) 3 htg (ginS k_496 k_497 k_26 k_498) rfl rfl rfl (by decide +kernel) ⟨Nat.le_of_ble_eq_true rfl, Nat.le_of_ble_eq_true rfl⟩) (mPc.preS hbs hS hP hK) rfl rfl hl.1 rfl (lv_room (Nat.le_of_ble_eq_true rfl)) d_M_changed_182 ⟨Nat.le_of_ble_eq_true rfl, Nat.le_of_ble_eq_true rfl⟩) hS (fun r182 u182 H locs hw hP hz182 hS => ?_)
      have hls := hw
      refine lv_if_eq (tgt := 192) hx hb d_M_changed_185 (by decide) (fun c185 => ?_) (fun c185 => ?_)
      · refine lv_lload_n hx hb d_M_changed_192 rfl (lv_at hl 1 rfl) ?_
        exact absurd hkd (by decide)
      · refine lv_lload_n hx hb d_M_changed_188 rfl (lv_at hl 2 rfl) ?_
        refine lv_goto (tgt := 193) hx hb d_M_changed_189 (by decide) ?_
        exact absurd hkd (by decide)
    · subst esw
      have hl : lv_has ls 5 [(0, .int (nI 23)), (1, .long a), (3, .long b)] := hl
      refine lv_tableIn (off := 178) (tgt := 179) hx hb d_M_changed_1 (by decide) (by decide) (by decide) (by decide) ?_
      refine lv_lload_n hx hb d_M_changed_179 rfl (lv_at hl 1 rfl) ?_
      refine lv_lload_n hx hb d_M_changed_180 rfl (lv_at hl 2 rfl) ?_
      refine lv_iconst (v := 0) hx hb d_M_changed_181 (by decide) ?_
      refine mc_i (va_runS (As := [.long a, .long b, .int 0]) (rest := []) ⟨hx, hb, hml, hown, htg⟩ (t_M_isLess0 l D cJ cI cP bs w a b) (cwS (own := R_M) 3 htg (ginS k_496 k_497 k_26 k_498) rfl rfl rfl (by decide +kernel) ⟨Nat.le_of_ble_eq_true rfl, Nat.le_of_ble_eq_true rfl⟩) (mPc.preS hbs hS hP hK) rfl rfl hl.1 rfl (lv_room (Nat.le_of_ble_eq_true rfl)) d_M_changed_182 ⟨Nat.le_of_ble_eq_true rfl, Nat.le_of_ble_eq_true rfl⟩) hS (fun r182 u182 H locs hw hP hz182 hS => ?_)
      have hls := hw
      refine lv_if_eq (tgt := 192) hx hb d_M_changed_185 (by decide) (fun c185 => ?_) (fun c185 => ?_)
      · refine lv_lload_n hx hb d_M_changed_192 rfl (lv_at hl 1 rfl) ?_
        exact absurd hkd (by decide)
      · refine lv_lload_n hx hb d_M_changed_188 rfl (lv_at hl 2 rfl) ?_
        refine lv_goto (tgt := 193) hx hb d_M_changed_189 (by decide) ?_
        exact absurd hkd (by decide)
    · subst esw
      have hl : lv_has ls 5 [(0, .int (nI 24)), (1, .long a), (3, .long b)] := hl
      refine lv_tableIn (off := 163) (tgt := 164) hx hb d_M_changed_1 (by decide) (by decide) (by decide) (by decide) ?_
      refine lv_lload_n hx hb d_M_changed_164 rfl (lv_at hl 1 rfl) ?_
      refine lv_lload_n hx hb d_M_changed_165 rfl (lv_at hl 2 rfl) ?_
      refine lv_iconst (v := 0) hx hb d_M_changed_166 (by decide) ?_
      refine mc_i (va_runS (As := [.long a, .long b, .int 0]) (rest := []) ⟨hx, hb, hml, hown, htg⟩ (t_M_isLess0 l D cJ cI cP bs w a b) (cwS (own := R_M) 3 htg (ginS k_496 k_497 k_26 k_498) rfl rfl rfl (by decide +kernel) ⟨Nat.le_of_ble_eq_true rfl, Nat.le_of_ble_eq_true rfl⟩) (mPc.preS hbs hS hP hK) rfl rfl hl.1 rfl (lv_room (Nat.le_of_ble_eq_true rfl)) d_M_changed_167 ⟨Nat.le_of_ble_eq_true rfl, Nat.le_of_ble_eq_true rfl⟩) hS (fun r167 u167 H locs hw hP hz167 hS => ?_)
      have hls := hw
      refine lv_if_eq (tgt := 177) hx hb d_M_changed_170 (by decide) (fun c170 => ?_) (fun c170 => ?_)
      · refine lv_lload_n hx hb d_M_changed_177 rfl (lv_at hl 2 rfl) ?_
        have hres : b = chg (nI 24) a b := by
          rw [chg_24]
          by_cases q : a + (-9223372036854775808) < b + (-9223372036854775808)
          · rw [if_pos q] at hls
            refine Eq.trans ?_ (if_pos q).symm
            first | rfl | (rw [hls] at c170; exact absurd c170 (by decide))
          · rw [if_neg q] at hls
            refine Eq.trans ?_ (if_neg q).symm
            first | rfl | exact absurd hls c170
        exact W.lret (v := b) hx hb hr (fun t ht hW => ⟨⟨_, (), rfl, hres, hP.at ht⟩, hS.F ht⟩) hS.2.2 d_M_changed_178
      · refine lv_lload_n hx hb d_M_changed_173 rfl (lv_at hl 1 rfl) ?_
        refine lv_goto (tgt := 178) hx hb d_M_changed_174 (by decide) ?_
        have hres : a = chg (nI 24) a b := by
          rw [chg_24]
          by_cases q : a + (-9223372036854775808) < b + (-9223372036854775808)
          · rw [if_pos q] at hls
            refine Eq.trans ?_ (if_pos q).symm
            first | rfl | (rw [hls] at c170; exact absurd c170 (by decide))
          · rw [if_neg q] at hls
            refine Eq.trans ?_ (if_neg q).symm
            first | rfl | exact absurd hls c170
        exact W.lret (v := a) hx hb hr (fun t ht hW => ⟨⟨_, (), rfl, hres, hP.at ht⟩, hS.F ht⟩) hS.2.2 d_M_changed_178
/-- what the reference's atomic does -/
abbrev doB (cJ cI : ClassId) (hm n : Nat) (M T pl : Nat → Int64) (sz : Nat → Int32) (aW aU aP aZ : Nat) (y : Int32) (v : Int64) (j k a : Nat) (r : Int64) (u : (Nat → Option va_E) × (Nat → Int64)) : Prop :=
  (y = 2 ∧ u.2 = M ∧ mo cJ cI u.1 hm n 0 M T (vp_updL pl j (lN (2147483648 + a))) (upd sz j (nI k)) aW aU aP aZ ∧ ∃ num, r = wsg num k ∧ ∀ i, i < 64 → bi num i = rdN (mb M) a k i) ∨
  (y = 3 ∧ ((pl j = lN (2147483648 + a) ∧ sz j = nI k ∧ r = 0 ∧ mo cJ cI u.1 hm n 0 u.2 (tinc T (a / 4096) ((a + k - 1) / 4096 + 1)) (lost (vp_updL pl j 0) (a / 8) ((a + k - 1) / 8)) sz aW aU aP aZ ∧ mb u.2 = wrN (mb M) a k v) ∨ (¬ (pl j = lN (2147483648 + a) ∧ sz j = nI k) ∧ r = 1 ∧ u.2 = M ∧ mo cJ cI u.1 hm n 0 M T (vp_updL pl j 0) sz aW aU aP aZ))) ∨
  (¬ y = 2 ∧ ¬ y = 3 ∧ mo cJ cI u.1 hm n 0 u.2 (tinc T (a / 4096) ((a + k - 1) / 4096 + 1)) (lost pl (a / 8) ((a + k - 1) / 8)) sz aW aU aP aZ ∧ mb u.2 = wrN (mb M) a k (chg y r (wsg v k)) ∧ ∃ num, r = wsg num k ∧ ∀ i, i < 64 → bi num i = rdN (mb M) a k i)
theorem le3 {x : Int32} (h1 : ¬ x < 0) (h2 : ¬ 3 < x) : 0 ≤ x ∧ x < 4 := ⟨Int32.not_lt.mp h1, Int32.lt_of_le_of_lt (Int32.not_lt.mp h2) (by decide)⟩
theorem le3' {x : Int32} (h : 3 < x) : ¬ x < 4 := by
  intro q
  have h1 := Int32.lt_iff_toInt_lt.mp h
  have h2 := Int32.lt_iff_toInt_lt.mp q
  rw [show (3 : Int32).toInt = 3 from by decide] at h1
  rw [show (4 : Int32).toInt = 4 from by decide] at h2
  omega
set_option maxHeartbeats 4000000 in
set_option maxRecDepth 100000 in
/-- atomic -/
theorem t_M_atomic (l : Launch) (D : va_G) (cJ cI cP : ClassId) (bs : Nat) (w : Nat → Option va_E) (hm n : Nat) (cd : Int32) (M T pl : Nat → Int64) (sz : Nat → Int32) (aW aU aP aZ : Nat) (hs : mo cJ cI w hm n cd M T pl sz aW aU aP aZ) (hro : rok pl n) (x y : Int32) (z : Int64) (sv : Int32) (v : Int64) : Met l y_M_atomic ws_M_atomic ({ frames := 2, cells := 0, slots := 0, locals := 54 }) (mPc D vwCl (mT cJ cI cP) bs w [.ref hm, .int x, .int y, .long z, .int sv, .long v]) (va_Ql (S := ((Nat → Option va_E) × (Nat → Int64))) (fun r u => kM w u.1 hm aW aU aP aZ ∧ ((¬ (szA sv ∧ isKd y) ∧ mo cJ cI u.1 hm n 1 M T pl sz aW aU aP aZ) ∨ (isKd y ∧ (∃ k, sv = nI k ∧ (k = 4 ∨ k = 8) ∧ ¬ ((0 ≤ x ∧ x < 4) ∧ ∃ a, inM z n k a)) ∧ mo cJ cI u.1 hm n 2 M T pl sz aW aU aP aZ) ∨ (isKd y ∧ (∃ k a, sv = nI k ∧ (k = 4 ∨ k = 8) ∧ (0 ≤ x ∧ x < 4) ∧ inM z n k a ∧ ¬ a % k = 0) ∧ mo cJ cI u.1 hm n 3 M T pl sz aW aU aP aZ) ∨ (isKd y ∧ ∃ j k a, j < 4 ∧ x = nI j ∧ sv = nI k ∧ (k = 4 ∨ k = 8) ∧ inM z n k a ∧ a % k = 0 ∧ doB cJ cI hm n M T pl sz aW aU aP aZ y v j k a r u))) (mB D vwCl bs (fun u => u.1)) (mA bs)) 0 0 (mA bs) := by
  refine Met.ofW (cc := c_M_atomic) (maxL := 11) (ret := (some .long)) (by decide) rfl ?_
  intro p e s m args below meth c s₁ B hml hv
  obtain ⟨rfl, hbs, hP, hK⟩ := hv
  have hx := B.exec
  have hb := B.bytes
  have hr := B.returns
  have htg : ∀ w ∈ gt, w.before _ s = true := fun w h => atoms_spec (ws := ws_M_atomic) B.pre w (List.mem_cons_of_mem _ h)
  have hown : s.vm.findClass R_M = some m.cls := findClass_of_methodNamed B.named
  have hlocks := B.notSynchronized
  have hS : va_S (mA bs) s.heap s.heap [] := va_S.rf
  have hl := lv_entry ([.ref hm, .int x, .int y, .long z, .int sv, .long v]) (n := 11) (Nat.le_of_ble_eq_true rfl)
  rw [lg_entry_eq]
  generalize (lg_sl ([.ref hm, .int x, .int y, .long z, .int sv, .long v]) ++ List.replicate (11 - (lg_sl ([.ref hm, .int x, .int y, .long z, .int sv, .long v])).length) Slot.unset).toArray = ls at hl ⊢
  have hl : lv_has ls 11 [(0, .ref hm), (1, .int x), (2, .int y), (3, .long z), (5, .int sv), (6, .long v)] := hl
  obtain ⟨hn, s1, s2, s3, s4, s5⟩ := id hs
  refine lv_aload_n hx hb d_M_atomic_0 rfl (lv_at hl 0 rfl) ?_
  refine lv_iload hx hb d_M_atomic_1 (lv_at hl 4 rfl) ?_
  refine lv_iconst (v := 4) hx hb d_M_atomic_3 (by decide) ?_
  refine lv_icmp_eq (tgt := 14) hx hb d_M_atomic_4 (by decide) (fun c4 => ?_) (fun c4 => ?_)
  · refine lv_iload_n hx hb d_M_atomic_14 rfl (lv_at hl 2 rfl) ?_
    refine mc_i (va_runS (As := [.int y]) (rest := [.ref hm]) ⟨hx, hb, hml, hown, htg⟩ (t_M_isKind l D cJ cI cP bs w y) (cwS (own := R_M) 1 htg (ginS k_487 k_488 k_26 k_489) rfl rfl rfl (by decide +kernel) ⟨Nat.le_of_ble_eq_true rfl, Nat.le_of_ble_eq_true rfl⟩) (mPc.preS hbs hS hP hK) rfl rfl hl.1 rfl (lv_room (Nat.le_of_ble_eq_true rfl)) d_M_atomic_15 ⟨Nat.le_of_ble_eq_true rfl, Nat.le_of_ble_eq_true rfl⟩) hS (fun r15 u15 H locs hw hP hz15 hS => ?_)
    have hkd := hw
    refine lv_if_ne (tgt := 25) hx hb d_M_atomic_18 (by decide) (fun c18 => ?_) (fun c18 => ?_)
    · have hk1 : isKd y := Classical.byContradiction (fun q => by rw [if_neg q] at hkd; exact c18 hkd)
      have hs1 : szA sv := by first | exact Or.inl c4 | exact Or.inr c11
      obtain ⟨k, ek, hk48⟩ := szA_of hs1
      subst ek
      have h1k : 1 ≤ k := by rcases hk48 with e | e <;> rw [e] <;> decide
      have h8k : k ≤ 8 := by rcases hk48 with e | e <;> rw [e] <;> decide
      have hl : lv_has ls 11 [(0, .ref hm), (1, .int x), (2, .int y), (3, .long z), (5, .int (nI k)), (6, .long v)] := hl
      refine lv_iload_n hx hb d_M_atomic_25 rfl (lv_at hl 1 rfl) ?_
      refine lv_if_lt (tgt := 44) hx hb d_M_atomic_26 (by decide) (fun c26 => ?_) (fun c26 => ?_)
      · have hno : ¬ ((0 ≤ x ∧ x < 4) ∧ ∃ a, inM z n k a) := fun q => by
          first
            | (rcases hin with i1 | i1
               · exact absurd (i1.1.symm.trans c41) (by decide)
               · exact i1.2 q.2)
            | exact absurd q.1.1 (Int32.not_le.mpr c26)
            | exact le3' c31 q.1.2
        refine lv_iconst (v := 2) hx hb d_M_atomic_44 (by decide) ?_
        refine lv_goto (tgt := 63) hx hb d_M_atomic_45 (by decide) ?_
        refine mw_put (C := R_M) (T := T_M) (N := 6) (ci := ciM) (v := .int 2) (ty := .int) (fs' := [.int 2, .int (nI n), .ref aW, .ref aU, .ref aP, .ref aZ]) hx hb htg i_M ty_M tk_M nm_M hown hK hP hS s1 rfl 0 (by decide) (htg _ k_411) (fun _ h9 => h9) rfl (by decide +kernel) rfl rfl (Nat.le_of_ble_eq_true rfl) rfl d_M_atomic_63 (fun H locs hP hS hz63 => ?_)
        obtain ⟨w_1, ew_1⟩ : ∃ z9, z9 = va_up w hm (some (.inr (ciM, [.int 2, .int (nI n), .ref aW, .ref aU, .ref aP, .ref aZ])) : Option va_E) := ⟨_, rfl⟩
        rw [← ew_1] at hP
        have h_2 : w_1 hm = some (.inr (ciM, [.int 2, .int (nI n), .ref aW, .ref aU, .ref aP, .ref aZ])) := by rw [ew_1, va_up_self]
        have h_3 : w_1 aW = some (.inl (cJ, 524288, .inr (.inl M))) := by rw [ew_1, va_up_ne _ _ (fun z => by rw [z, s1] at s2; cases s2)]; exact s2
        have h_4 : w_1 aU = some (.inl (cJ, 1024, .inr (.inl T))) := by rw [ew_1, va_up_ne _ _ (fun z => by rw [z, s1] at s3; cases s3)]; exact s3
        have h_5 : w_1 aP = some (.inl (cJ, 4, .inr (.inl pl))) := by rw [ew_1, va_up_ne _ _ (fun z => by rw [z, s1] at s4; cases s4)]; exact s4
        have h_6 : w_1 aZ = some (.inl (cI, 4, .inl sz)) := by rw [ew_1, va_up_ne _ _ (fun z => by rw [z, s1] at s5; cases s5)]; exact s5
        refine lv_aload_n hx hb d_M_atomic_66 rfl (lv_at hl 0 rfl) ?_
        refine mw_get (C := R_M) (T := T_M) (N := 6) (ci := ciM) (v := .int 2) hx hb htg i_M hown hK hP h_2 rfl 0 (by decide) (htg _ k_411) (fun _ h9 => h9) rfl d_M_atomic_67 ?_
        refine lv_if_le (tgt := 75) hx hb d_M_atomic_70 (by decide) (fun z => absurd z (by decide)) (fun _ => ?_)
        refine lv_lconst (v := 0) hx hb d_M_atomic_73 rfl ?_
        have hmo : mo cJ cI w_1 hm n 2 M T pl sz aW aU aP aZ := ⟨hn, h_2, h_3, h_4, h_5, h_6⟩
        have hkm : kM w w_1 hm aW aU aP aZ := fun q z1 z2 z3 z4 z5 => by rw [ew_1, va_up_ne _ _ z1]
        exact W.lret (v := 0) hx hb hr (fun t ht hW => ⟨⟨_, (w_1, M), rfl, ⟨hkm, Or.inr (Or.inl ⟨hk1, ⟨k, rfl, hk48, hno⟩, hmo⟩)⟩, hP.at ht⟩, hS.F ht⟩) hS.2.2 d_M_atomic_74
      · refine lv_iload_n hx hb d_M_atomic_29 rfl (lv_at hl 1 rfl) ?_
        refine lv_iconst (v := 3) hx hb d_M_atomic_30 (by decide) ?_
        refine lv_icmp_gt (tgt := 44) hx hb d_M_atomic_31 (by decide) (fun c31 => ?_) (fun c31 => ?_)
        · have hno : ¬ ((0 ≤ x ∧ x < 4) ∧ ∃ a, inM z n k a) := fun q => by
            first
              | (rcases hin with i1 | i1
                 · exact absurd (i1.1.symm.trans c41) (by decide)
                 · exact i1.2 q.2)
              | exact absurd q.1.1 (Int32.not_le.mpr c26)
              | exact le3' c31 q.1.2
          refine lv_iconst (v := 2) hx hb d_M_atomic_44 (by decide) ?_
          refine lv_goto (tgt := 63) hx hb d_M_atomic_45 (by decide) ?_
          refine mw_put (C := R_M) (T := T_M) (N := 6) (ci := ciM) (v := .int 2) (ty := .int) (fs' := [.int 2, .int (nI n), .ref aW, .ref aU, .ref aP, .ref aZ]) hx hb htg i_M ty_M tk_M nm_M hown hK hP hS s1 rfl 0 (by decide) (htg _ k_411) (fun _ h9 => h9) rfl (by decide +kernel) rfl rfl (Nat.le_of_ble_eq_true rfl) rfl d_M_atomic_63 (fun H locs hP hS hz63 => ?_)
          obtain ⟨w_7, ew_7⟩ : ∃ z9, z9 = va_up w hm (some (.inr (ciM, [.int 2, .int (nI n), .ref aW, .ref aU, .ref aP, .ref aZ])) : Option va_E) := ⟨_, rfl⟩
          rw [← ew_7] at hP
          have h_8 : w_7 hm = some (.inr (ciM, [.int 2, .int (nI n), .ref aW, .ref aU, .ref aP, .ref aZ])) := by rw [ew_7, va_up_self]
          have h_9 : w_7 aW = some (.inl (cJ, 524288, .inr (.inl M))) := by rw [ew_7, va_up_ne _ _ (fun z => by rw [z, s1] at s2; cases s2)]; exact s2
          have h_10 : w_7 aU = some (.inl (cJ, 1024, .inr (.inl T))) := by rw [ew_7, va_up_ne _ _ (fun z => by rw [z, s1] at s3; cases s3)]; exact s3
          have h_11 : w_7 aP = some (.inl (cJ, 4, .inr (.inl pl))) := by rw [ew_7, va_up_ne _ _ (fun z => by rw [z, s1] at s4; cases s4)]; exact s4
          have h_12 : w_7 aZ = some (.inl (cI, 4, .inl sz)) := by rw [ew_7, va_up_ne _ _ (fun z => by rw [z, s1] at s5; cases s5)]; exact s5
          refine lv_aload_n hx hb d_M_atomic_66 rfl (lv_at hl 0 rfl) ?_
          refine mw_get (C := R_M) (T := T_M) (N := 6) (ci := ciM) (v := .int 2) hx hb htg i_M hown hK hP h_8 rfl 0 (by decide) (htg _ k_411) (fun _ h9 => h9) rfl d_M_atomic_67 ?_
          refine lv_if_le (tgt := 75) hx hb d_M_atomic_70 (by decide) (fun z => absurd z (by decide)) (fun _ => ?_)
          refine lv_lconst (v := 0) hx hb d_M_atomic_73 rfl ?_
          have hmo : mo cJ cI w_7 hm n 2 M T pl sz aW aU aP aZ := ⟨hn, h_8, h_9, h_10, h_11, h_12⟩
          have hkm : kM w w_7 hm aW aU aP aZ := fun q z1 z2 z3 z4 z5 => by rw [ew_7, va_up_ne _ _ z1]
          exact W.lret (v := 0) hx hb hr (fun t ht hW => ⟨⟨_, (w_7, M), rfl, ⟨hkm, Or.inr (Or.inl ⟨hk1, ⟨k, rfl, hk48, hno⟩, hmo⟩)⟩, hP.at ht⟩, hS.F ht⟩) hS.2.2 d_M_atomic_74
        · refine lv_aload_n hx hb d_M_atomic_34 rfl (lv_at hl 0 rfl) ?_
          refine lv_lload_n hx hb d_M_atomic_35 rfl (lv_at hl 3 rfl) ?_
          refine lv_iload hx hb d_M_atomic_36 (lv_at hl 4 rfl) ?_
          refine mc_i (va_runV (As := [.long z, .int (nI k)]) (rest := [.ref hm]) ⟨hx, hb, hml, hown, htg⟩ (t_M_areBytes l D cJ cI cP bs w hm n cd M T pl sz aW aU aP aZ hs z k h1k h8k) (cwV (own := R_M) (C := R_M) 2 htg (ginV k_445 k_447 k_17 k_26 k_448) rfl rfl rfl (by decide +kernel) ⟨Nat.le_of_ble_eq_true rfl, Nat.le_of_ble_eq_true rfl⟩) (mPc.preV (ci := ciM) (q := (R_M, T_M, 6)) hbs hS hP hK rfl s1) rfl rfl hl.1 rfl (lv_room (Nat.le_of_ble_eq_true rfl)) d_M_atomic_38 ⟨Nat.le_of_ble_eq_true rfl, Nat.le_of_ble_eq_true rfl⟩) hS (fun r38 u38 H locs hw hP hz38 hS => ?_)
          have hin := hw
          refine lv_if_ne (tgt := 48) hx hb d_M_atomic_41 (by decide) (fun c41 => ?_) (fun c41 => ?_)
          · obtain ⟨a, ha⟩ : ∃ a, inM z n k a := by
              rcases hin with i1 | i1
              · exact i1.2
              · exact absurd i1.1 c41
            obtain ⟨rfl, hak⟩ := id ha
            have hx4 := le3 c26 c31
            have hl : lv_has ls 11 [(0, .ref hm), (1, .int x), (2, .int y), (3, .long (lN (2147483648 + a))), (5, .int (nI k)), (6, .long v)] := hl
            refine lv_lload_n hx hb d_M_atomic_48 rfl (lv_at hl 3 rfl) ?_
            refine lv_iload hx hb d_M_atomic_49 (lv_at hl 4 rfl) ?_
            refine lv_i2l hx hb d_M_atomic_51 rfl ?_
            rw [show (nI k).toInt64 = lN k from nI_l (by omega)]
            refine lv_lrem hx hb d_M_atomic_52 (by rcases hk48 with e | e <;> rw [e] <;> decide) ?_
            rw [show (lN (2147483648 + a)) - (lN (2147483648 + a)) / (lN k) * (lN k) = lN ((2147483648 + a) % k) from pk_lRem (by omega) (by omega) (by omega)]
            refine lv_lconst (v := 0) hx hb d_M_atomic_53 rfl ?_
            refine lc_eq (tgt := 62) hx hb d_M_atomic_54 d_M_atomic_55 (by decide) (fun c54 => ?_) (fun c54 => ?_)
            · have hal : a % k = 0 := by
                have q := (pk_lEQ (b := 0) (by rcases hk48 with e | e <;> rw [e] <;> omega) (by omega)).mp c54
                rcases hk48 with e | e <;> rw [e] at q ⊢ <;> omega
              refine lv_iconst (v := 0) hx hb d_M_atomic_62 (by decide) ?_
              refine mw_put (C := R_M) (T := T_M) (N := 6) (ci := ciM) (v := .int 0) (ty := .int) (fs' := [.int 0, .int (nI n), .ref aW, .ref aU, .ref aP, .ref aZ]) hx hb htg i_M ty_M tk_M nm_M hown hK hP hS s1 rfl 0 (by decide) (htg _ k_411) (fun _ h9 => h9) rfl (by decide +kernel) rfl rfl (Nat.le_of_ble_eq_true rfl) rfl d_M_atomic_63 (fun H locs hP hS hz63 => ?_)
              obtain ⟨w_13, ew_13⟩ : ∃ z9, z9 = va_up w hm (some (.inr (ciM, [.int 0, .int (nI n), .ref aW, .ref aU, .ref aP, .ref aZ])) : Option va_E) := ⟨_, rfl⟩
              rw [← ew_13] at hP
              have h_14 : w_13 hm = some (.inr (ciM, [.int 0, .int (nI n), .ref aW, .ref aU, .ref aP, .ref aZ])) := by rw [ew_13, va_up_self]
              have h_15 : w_13 aW = some (.inl (cJ, 524288, .inr (.inl M))) := by rw [ew_13, va_up_ne _ _ (fun z => by rw [z, s1] at s2; cases s2)]; exact s2
              have h_16 : w_13 aU = some (.inl (cJ, 1024, .inr (.inl T))) := by rw [ew_13, va_up_ne _ _ (fun z => by rw [z, s1] at s3; cases s3)]; exact s3
              have h_17 : w_13 aP = some (.inl (cJ, 4, .inr (.inl pl))) := by rw [ew_13, va_up_ne _ _ (fun z => by rw [z, s1] at s4; cases s4)]; exact s4
              have h_18 : w_13 aZ = some (.inl (cI, 4, .inl sz)) := by rw [ew_13, va_up_ne _ _ (fun z => by rw [z, s1] at s5; cases s5)]; exact s5
              refine lv_aload_n hx hb d_M_atomic_66 rfl (lv_at hl 0 rfl) ?_
              refine mw_get (C := R_M) (T := T_M) (N := 6) (ci := ciM) (v := .int 0) hx hb htg i_M hown hK hP h_14 rfl 0 (by decide) (htg _ k_411) (fun _ h9 => h9) rfl d_M_atomic_67 ?_
              refine lv_if_le (tgt := 75) hx hb d_M_atomic_70 (by decide) (fun _ => ?_) (fun z => absurd z (by decide))
              obtain ⟨j, hj, ej⟩ := prc_of hx4
              subst ej
              have hl : lv_has ls 11 [(0, .ref hm), (1, .int (nI j)), (2, .int y), (3, .long (lN (2147483648 + a))), (5, .int (nI k)), (6, .long v)] := hl
              refine lv_aload_n hx hb d_M_atomic_75 rfl (lv_at hl 0 rfl) ?_
              refine lv_lload_n hx hb d_M_atomic_76 rfl (lv_at hl 3 rfl) ?_
              refine lv_iload hx hb d_M_atomic_77 (lv_at hl 4 rfl) ?_
              have hmo : mo cJ cI w_13 hm n 0 M T pl sz aW aU aP aZ := ⟨hn, h_14, h_15, h_16, h_17, h_18⟩
              have hkm : kM w w_13 hm aW aU aP aZ := fun q z1 z2 z3 z4 z5 => by rw [ew_13, va_up_ne _ _ z1]
              refine mc_l (va_runV (As := [.long (lN (2147483648 + a)), .int (nI k)]) (rest := []) ⟨hx, hb, hml, hown, htg⟩ (t_M_number l D cJ cI cP bs w_13 hm n 0 M T pl sz aW aU aP aZ hmo a k h8k ha.2) (cwV (own := R_M) (C := R_M) 2 htg (ginV k_455 k_457 k_19 k_26 k_458) rfl rfl rfl (by decide +kernel) ⟨Nat.le_of_ble_eq_true rfl, Nat.le_of_ble_eq_true rfl⟩) (mPc.preV (ci := ciM) (q := (R_M, T_M, 6)) hbs hS hP hK rfl h_14) rfl rfl hl.1 rfl (lv_room (Nat.le_of_ble_eq_true rfl)) d_M_atomic_79 ⟨Nat.le_of_ble_eq_true rfl, Nat.le_of_ble_eq_true rfl⟩) hS (fun num u79 H locs hnum hP hz79 hS => ?_)
              refine lv_iload hx hb d_M_atomic_82 (lv_at hl 4 rfl) ?_
              refine mc_l (va_runS (As := [.long num, .int (nI k)]) (rest := []) ⟨hx, hb, hml, hown, htg⟩ (t_M_signed l D cJ cI cP bs w_13 num k) (cwS (own := R_M) 2 htg (ginS k_490 k_491 k_26 k_492) rfl rfl rfl (by decide +kernel) ⟨Nat.le_of_ble_eq_true rfl, Nat.le_of_ble_eq_true rfl⟩) (mPc.preS hbs hS hP hK) rfl rfl hl.1 rfl (lv_room (Nat.le_of_ble_eq_true rfl)) d_M_atomic_84 ⟨Nat.le_of_ble_eq_true rfl, Nat.le_of_ble_eq_true rfl⟩) hS (fun r84 u84 H locs hw hP hz84 hS => ?_)
              have hsg84 := hw
              refine lv_lstore (lv' := [(8, .long r84), (0, .ref hm), (1, .int (nI j)), (2, .int y), (3, .long (lN (2147483648 + a))), (5, .int (nI k)), (6, .long v)]) hx hb d_M_atomic_87 hl (by decide) rfl (fun ls hl => ?_)
              refine lv_iload_n hx hb d_M_atomic_89 rfl (lv_at hl 3 rfl) ?_
              refine lv_iconst (v := 2) hx hb d_M_atomic_90 (by decide) ?_
              refine lv_icmp_ne (tgt := 112) hx hb d_M_atomic_91 (by decide) (fun c91 => ?_) (fun c91 => ?_)
              · refine lv_iload_n hx hb d_M_atomic_112 rfl (lv_at hl 3 rfl) ?_
                refine lv_iconst (v := 3) hx hb d_M_atomic_113 (by decide) ?_
                refine lv_icmp_ne (tgt := 178) hx hb d_M_atomic_114 (by decide) (fun c114 => ?_) (fun c114 => ?_)
                · refine lv_aload_n hx hb d_M_atomic_178 rfl (lv_at hl 1 rfl) ?_
                  refine lv_lload_n hx hb d_M_atomic_179 rfl (lv_at hl 4 rfl) ?_
                  refine lv_iload hx hb d_M_atomic_180 (lv_at hl 5 rfl) ?_
                  refine lv_iload_n hx hb d_M_atomic_182 rfl (lv_at hl 3 rfl) ?_
                  refine lv_lload hx hb d_M_atomic_183 (lv_at hl 0 rfl) ?_
                  refine lv_lload hx hb d_M_atomic_185 (lv_at hl 6 rfl) ?_
                  refine lv_iload hx hb d_M_atomic_187 (lv_at hl 5 rfl) ?_
                  refine mc_l (va_runS (As := [.long v, .int (nI k)]) (rest := [.long r84, .int y, .int (nI k), .long (lN (2147483648 + a)), .ref hm]) ⟨hx, hb, hml, hown, htg⟩ (t_M_signed l D cJ cI cP bs w_13 v k) (cwS (own := R_M) 2 htg (ginS k_490 k_491 k_26 k_492) rfl rfl rfl (by decide +kernel) ⟨Nat.le_of_ble_eq_true rfl, Nat.le_of_ble_eq_true rfl⟩) (mPc.preS hbs hS hP hK) rfl rfl hl.1 rfl (lv_room (Nat.le_of_ble_eq_true rfl)) d_M_atomic_189 ⟨Nat.le_of_ble_eq_true rfl, Nat.le_of_ble_eq_true rfl⟩) hS (fun r189 u189 H locs hw hP hz189 hS => ?_)
                  have hsg189 := hw
                  refine mc_l (va_runS (As := [.int y, .long r84, .long r189]) (rest := [.int (nI k), .long (lN (2147483648 + a)), .ref hm]) ⟨hx, hb, hml, hown, htg⟩ (t_M_changed l D cJ cI cP bs w_13 y r84 r189 hk1 c91 c114) (cwS (own := R_M) 3 htg (ginS k_493 k_494 k_26 k_495) rfl rfl rfl (by decide +kernel) ⟨Nat.le_of_ble_eq_true rfl, Nat.le_of_ble_eq_true rfl⟩) (mPc.preS hbs hS hP hK) rfl rfl hl.1 rfl (lv_room (Nat.le_of_ble_eq_true rfl)) d_M_atomic_192 ⟨Nat.le_of_ble_eq_true rfl, Nat.le_of_ble_eq_true rfl⟩) hS (fun r192 u192 H locs hw hP hz192 hS => ?_)
                  have hch := hw
                  have hmo : mo cJ cI w_13 hm n 0 M T pl sz aW aU aP aZ := ⟨hn, h_14, h_15, h_16, h_17, h_18⟩
                  have hkm : kM w w_13 hm aW aU aP aZ := fun q z1 z2 z3 z4 z5 => by rw [ew_13, va_up_ne _ _ z1]
                  refine mc_v (va_runV (As := [.long (lN (2147483648 + a)), .int (nI k), .long r192]) (rest := []) ⟨hx, hb, hml, hown, htg⟩ (t_M_keep l D cJ cI cP bs w_13 hm n 0 M T pl sz aW aU aP aZ hmo hro a k h8k ha.2 r192) (cwV (own := R_M) (C := R_M) 3 htg (ginV k_468 k_470 k_21 k_26 k_471) rfl rfl rfl (by decide +kernel) ⟨Nat.le_of_ble_eq_true rfl, Nat.le_of_ble_eq_true rfl⟩) (mPc.preV (ci := ciM) (q := (R_M, T_M, 6)) hbs hS hP hK rfl h_14) rfl rfl hl.1 rfl (lv_room (Nat.le_of_ble_eq_true rfl)) d_M_atomic_195 ⟨Nat.le_of_ble_eq_true rfl, Nat.le_of_ble_eq_true rfl⟩) hS (fun uu H locs hw hP hz195 hS => ?_)
                  obtain ⟨w9, M9⟩ := uu
                  obtain ⟨y1, y2, y3⟩ := hw
                  have hP : mw D vwCl bs w9 H := hP
                  have y1 : mo cJ cI w9 hm n 0 M9 _ _ sz aW aU aP aZ := y1
                  rw [tK_k _ h1k, pK_k _ h1k] at y1
                  refine lv_lload hx hb d_M_atomic_198 (lv_at hl 0 rfl) ?_
                  exact W.lret (v := r84) hx hb hr (fun t ht hW => ⟨⟨_, (w9, M9), rfl, ⟨hkm.trans y3, Or.inr (Or.inr (Or.inr ⟨hk1, j, k, a, hj, rfl, rfl, hk48, ha, hal, Or.inr (Or.inr ⟨c91, c114, y1, by rw [hch, hsg189] at y2; exact y2, num, hsg84, hnum⟩)⟩))⟩, hP.at ht⟩, hS.F ht⟩) hS.2.2 d_M_atomic_200
                · refine lv_aload_n hx hb d_M_atomic_117 rfl (lv_at hl 1 rfl) ?_
                  refine mw_get (C := R_M) (T := T_M) (N := 6) (ci := ciM) (v := .ref aP) hx hb htg i_M hown hK hP h_14 rfl 4 (by decide) (htg _ k_415) (fun _ h9 => h9) rfl d_M_atomic_118 ?_
                  refine lv_iload_n hx hb d_M_atomic_121 rfl (lv_at hl 2 rfl) ?_
                  refine mw_lald hx hb hK hP 0 h_17 rfl (vp_in_nI hj (by omega)) d_M_atomic_122 ?_
                  rw [show (nI j).toNatClampNeg = j from nI_clamp (by omega)]
                  refine lv_lload_n hx hb d_M_atomic_123 rfl (lv_at hl 4 rfl) ?_
                  refine lc_ne (tgt := 143) hx hb d_M_atomic_124 d_M_atomic_125 (by decide) (fun c124 => ?_) (fun c124 => ?_)
                  · refine lv_iconst (v := 0) hx hb d_M_atomic_143 (by decide) ?_
                    refine lv_istore (lv' := [(10, .int 0), (8, .long r84), (0, .ref hm), (1, .int (nI j)), (2, .int y), (3, .long (lN (2147483648 + a))), (5, .int (nI k)), (6, .long v)]) hx hb d_M_atomic_144 hl (by decide) rfl (fun ls hl => ?_)
                    refine lv_aload_n hx hb d_M_atomic_146 rfl (lv_at hl 2 rfl) ?_
                    refine mw_get (C := R_M) (T := T_M) (N := 6) (ci := ciM) (v := .ref aP) hx hb htg i_M hown hK hP h_14 rfl 4 (by decide) (htg _ k_415) (fun _ h9 => h9) rfl d_M_atomic_147 ?_
                    refine lv_iload_n hx hb d_M_atomic_150 rfl (lv_at hl 3 rfl) ?_
                    refine lv_lconst (v := 0) hx hb d_M_atomic_151 rfl ?_
                    refine mw_last hx hb hK hP hS 0 h_17 rfl (vp_in_nI hj (by omega)) d_M_atomic_152 (fun H locs hP hS hz152 => ?_)
                    rw [show (nI j).toNatClampNeg = j from nI_clamp (by omega)] at hP
                    obtain ⟨w_19, ew_19⟩ : ∃ z9, z9 = va_up w_13 aP (some (.inl (cJ, 4, .inr (.inl (vp_updL pl j 0)))) : Option va_E) := ⟨_, rfl⟩
                    rw [← ew_19] at hP
                    have h_20 : w_19 aP = some (.inl (cJ, 4, .inr (.inl (vp_updL pl j 0)))) := by rw [ew_19, va_up_self]
                    have h_21 : w_19 hm = some (.inr (ciM, [.int 0, .int (nI n), .ref aW, .ref aU, .ref aP, .ref aZ])) := by rw [ew_19, va_up_ne _ _ (fun z => by rw [z, h_17] at h_14; cases h_14)]; exact h_14
                    have h_22 : w_19 aW = some (.inl (cJ, 524288, .inr (.inl M))) := by rw [ew_19, va_up_ne _ _ (fun z => by rw [z, h_17] at h_15; simp at h_15)]; exact h_15
                    have h_23 : w_19 aU = some (.inl (cJ, 1024, .inr (.inl T))) := by rw [ew_19, va_up_ne _ _ (fun z => by rw [z, h_17] at h_16; simp at h_16)]; exact h_16
                    have h_24 : w_19 aZ = some (.inl (cI, 4, .inl sz)) := by rw [ew_19, va_up_ne _ _ (fun z => by rw [z, h_17] at h_18; simp at h_18)]; exact h_18
                    refine lv_iload hx hb d_M_atomic_153 (lv_at hl 0 rfl) ?_
                    refine lv_if_eq (tgt := 167) hx hb d_M_atomic_155 (by decide) (fun _ => ?_) (fun z => absurd z (by decide))
                    refine lv_iload hx hb d_M_atomic_167 (lv_at hl 0 rfl) ?_
                    refine lv_if_eq (tgt := 176) hx hb d_M_atomic_169 (by decide) (fun _ => ?_) (fun z => absurd z (by decide))
                    refine lv_lconst (v := 1) hx hb d_M_atomic_176 rfl ?_
                    have hmo : mo cJ cI w_19 hm n 0 M T (vp_updL pl j 0) sz aW aU aP aZ := ⟨hn, h_21, h_22, h_23, h_20, h_24⟩
                    have hkm : kM w w_19 hm aW aU aP aZ := fun q z1 z2 z3 z4 z5 => by rw [ew_19, va_up_ne _ _ z4]; rw [ew_13, va_up_ne _ _ z1]
                    exact W.lret (v := 1) hx hb hr (fun t ht hW => ⟨⟨_, (w_19, M), rfl, ⟨hkm, Or.inr (Or.inr (Or.inr ⟨hk1, j, k, a, hj, rfl, rfl, hk48, ha, hal, Or.inr (Or.inl ⟨c114, Or.inr ⟨fun q => by first | exact c124 q.1 | exact c136 q.2, rfl, rfl, hmo⟩⟩)⟩))⟩, hP.at ht⟩, hS.F ht⟩) hS.2.2 d_M_atomic_177
                  · refine lv_aload_n hx hb d_M_atomic_128 rfl (lv_at hl 1 rfl) ?_
                    refine mw_get (C := R_M) (T := T_M) (N := 6) (ci := ciM) (v := .ref aZ) hx hb htg i_M hown hK hP h_14 rfl 5 (by decide) (htg _ k_416) (fun _ h9 => h9) rfl d_M_atomic_129 ?_
                    refine lv_iload_n hx hb d_M_atomic_132 rfl (lv_at hl 2 rfl) ?_
                    refine mw_iald hx hb hK hP 1 h_18 rfl (vp_in_nI hj (by omega)) d_M_atomic_133 ?_
                    rw [show (nI j).toNatClampNeg = j from nI_clamp (by omega)]
                    refine lv_iload hx hb d_M_atomic_134 (lv_at hl 5 rfl) ?_
                    refine lv_icmp_ne (tgt := 143) hx hb d_M_atomic_136 (by decide) (fun c136 => ?_) (fun c136 => ?_)
                    · refine lv_iconst (v := 0) hx hb d_M_atomic_143 (by decide) ?_
                      refine lv_istore (lv' := [(10, .int 0), (8, .long r84), (0, .ref hm), (1, .int (nI j)), (2, .int y), (3, .long (lN (2147483648 + a))), (5, .int (nI k)), (6, .long v)]) hx hb d_M_atomic_144 hl (by decide) rfl (fun ls hl => ?_)
                      refine lv_aload_n hx hb d_M_atomic_146 rfl (lv_at hl 2 rfl) ?_
                      refine mw_get (C := R_M) (T := T_M) (N := 6) (ci := ciM) (v := .ref aP) hx hb htg i_M hown hK hP h_14 rfl 4 (by decide) (htg _ k_415) (fun _ h9 => h9) rfl d_M_atomic_147 ?_
                      refine lv_iload_n hx hb d_M_atomic_150 rfl (lv_at hl 3 rfl) ?_
                      refine lv_lconst (v := 0) hx hb d_M_atomic_151 rfl ?_
                      refine mw_last hx hb hK hP hS 0 h_17 rfl (vp_in_nI hj (by omega)) d_M_atomic_152 (fun H locs hP hS hz152 => ?_)
                      rw [show (nI j).toNatClampNeg = j from nI_clamp (by omega)] at hP
                      obtain ⟨w_25, ew_25⟩ : ∃ z9, z9 = va_up w_13 aP (some (.inl (cJ, 4, .inr (.inl (vp_updL pl j 0)))) : Option va_E) := ⟨_, rfl⟩
                      rw [← ew_25] at hP
                      have h_26 : w_25 aP = some (.inl (cJ, 4, .inr (.inl (vp_updL pl j 0)))) := by rw [ew_25, va_up_self]
                      have h_27 : w_25 hm = some (.inr (ciM, [.int 0, .int (nI n), .ref aW, .ref aU, .ref aP, .ref aZ])) := by rw [ew_25, va_up_ne _ _ (fun z => by rw [z, h_17] at h_14; cases h_14)]; exact h_14
                      have h_28 : w_25 aW = some (.inl (cJ, 524288, .inr (.inl M))) := by rw [ew_25, va_up_ne _ _ (fun z => by rw [z, h_17] at h_15; simp at h_15)]; exact h_15
                      have h_29 : w_25 aU = some (.inl (cJ, 1024, .inr (.inl T))) := by rw [ew_25, va_up_ne _ _ (fun z => by rw [z, h_17] at h_16; simp at h_16)]; exact h_16
                      have h_30 : w_25 aZ = some (.inl (cI, 4, .inl sz)) := by rw [ew_25, va_up_ne _ _ (fun z => by rw [z, h_17] at h_18; simp at h_18)]; exact h_18
                      refine lv_iload hx hb d_M_atomic_153 (lv_at hl 0 rfl) ?_
                      refine lv_if_eq (tgt := 167) hx hb d_M_atomic_155 (by decide) (fun _ => ?_) (fun z => absurd z (by decide))
                      refine lv_iload hx hb d_M_atomic_167 (lv_at hl 0 rfl) ?_
                      refine lv_if_eq (tgt := 176) hx hb d_M_atomic_169 (by decide) (fun _ => ?_) (fun z => absurd z (by decide))
                      refine lv_lconst (v := 1) hx hb d_M_atomic_176 rfl ?_
                      have hmo : mo cJ cI w_25 hm n 0 M T (vp_updL pl j 0) sz aW aU aP aZ := ⟨hn, h_27, h_28, h_29, h_26, h_30⟩
                      have hkm : kM w w_25 hm aW aU aP aZ := fun q z1 z2 z3 z4 z5 => by rw [ew_25, va_up_ne _ _ z4]; rw [ew_13, va_up_ne _ _ z1]
                      exact W.lret (v := 1) hx hb hr (fun t ht hW => ⟨⟨_, (w_25, M), rfl, ⟨hkm, Or.inr (Or.inr (Or.inr ⟨hk1, j, k, a, hj, rfl, rfl, hk48, ha, hal, Or.inr (Or.inl ⟨c114, Or.inr ⟨fun q => by first | exact c124 q.1 | exact c136 q.2, rfl, rfl, hmo⟩⟩)⟩))⟩, hP.at ht⟩, hS.F ht⟩) hS.2.2 d_M_atomic_177
                    · refine lv_iconst (v := 1) hx hb d_M_atomic_139 (by decide) ?_
                      refine lv_goto (tgt := 144) hx hb d_M_atomic_140 (by decide) ?_
                      refine lv_istore (lv' := [(10, .int 1), (8, .long r84), (0, .ref hm), (1, .int (nI j)), (2, .int y), (3, .long (lN (2147483648 + a))), (5, .int (nI k)), (6, .long v)]) hx hb d_M_atomic_144 hl (by decide) rfl (fun ls hl => ?_)
                      refine lv_aload_n hx hb d_M_atomic_146 rfl (lv_at hl 2 rfl) ?_
                      refine mw_get (C := R_M) (T := T_M) (N := 6) (ci := ciM) (v := .ref aP) hx hb htg i_M hown hK hP h_14 rfl 4 (by decide) (htg _ k_415) (fun _ h9 => h9) rfl d_M_atomic_147 ?_
                      refine lv_iload_n hx hb d_M_atomic_150 rfl (lv_at hl 3 rfl) ?_
                      refine lv_lconst (v := 0) hx hb d_M_atomic_151 rfl ?_
                      refine mw_last hx hb hK hP hS 0 h_17 rfl (vp_in_nI hj (by omega)) d_M_atomic_152 (fun H locs hP hS hz152 => ?_)
                      rw [show (nI j).toNatClampNeg = j from nI_clamp (by omega)] at hP
                      obtain ⟨w_31, ew_31⟩ : ∃ z9, z9 = va_up w_13 aP (some (.inl (cJ, 4, .inr (.inl (vp_updL pl j 0)))) : Option va_E) := ⟨_, rfl⟩
                      rw [← ew_31] at hP
                      have h_32 : w_31 aP = some (.inl (cJ, 4, .inr (.inl (vp_updL pl j 0)))) := by rw [ew_31, va_up_self]
                      have h_33 : w_31 hm = some (.inr (ciM, [.int 0, .int (nI n), .ref aW, .ref aU, .ref aP, .ref aZ])) := by rw [ew_31, va_up_ne _ _ (fun z => by rw [z, h_17] at h_14; cases h_14)]; exact h_14
                      have h_34 : w_31 aW = some (.inl (cJ, 524288, .inr (.inl M))) := by rw [ew_31, va_up_ne _ _ (fun z => by rw [z, h_17] at h_15; simp at h_15)]; exact h_15
                      have h_35 : w_31 aU = some (.inl (cJ, 1024, .inr (.inl T))) := by rw [ew_31, va_up_ne _ _ (fun z => by rw [z, h_17] at h_16; simp at h_16)]; exact h_16
                      have h_36 : w_31 aZ = some (.inl (cI, 4, .inl sz)) := by rw [ew_31, va_up_ne _ _ (fun z => by rw [z, h_17] at h_18; simp at h_18)]; exact h_18
                      refine lv_iload hx hb d_M_atomic_153 (lv_at hl 0 rfl) ?_
                      refine lv_if_eq (tgt := 167) hx hb d_M_atomic_155 (by decide) (fun z => absurd z (by decide)) (fun _ => ?_)
                      refine lv_aload_n hx hb d_M_atomic_158 rfl (lv_at hl 2 rfl) ?_
                      refine lv_lload_n hx hb d_M_atomic_159 rfl (lv_at hl 5 rfl) ?_
                      refine lv_iload hx hb d_M_atomic_160 (lv_at hl 6 rfl) ?_
                      refine lv_lload hx hb d_M_atomic_162 (lv_at hl 7 rfl) ?_
                      have hmo : mo cJ cI w_31 hm n 0 M T (vp_updL pl j 0) sz aW aU aP aZ := ⟨hn, h_33, h_34, h_35, h_32, h_36⟩
                      have hkm : kM w w_31 hm aW aU aP aZ := fun q z1 z2 z3 z4 z5 => by rw [ew_31, va_up_ne _ _ z4]; rw [ew_13, va_up_ne _ _ z1]
                      refine mc_v (va_runV (As := [.long (lN (2147483648 + a)), .int (nI k), .long v]) (rest := []) ⟨hx, hb, hml, hown, htg⟩ (t_M_keep l D cJ cI cP bs w_31 hm n 0 M T (vp_updL pl j 0) sz aW aU aP aZ hmo (rok_0 hro j) a k h8k ha.2 v) (cwV (own := R_M) (C := R_M) 3 htg (ginV k_468 k_470 k_21 k_26 k_471) rfl rfl rfl (by decide +kernel) ⟨Nat.le_of_ble_eq_true rfl, Nat.le_of_ble_eq_true rfl⟩) (mPc.preV (ci := ciM) (q := (R_M, T_M, 6)) hbs hS hP hK rfl h_33) rfl rfl hl.1 rfl (lv_room (Nat.le_of_ble_eq_true rfl)) d_M_atomic_164 ⟨Nat.le_of_ble_eq_true rfl, Nat.le_of_ble_eq_true rfl⟩) hS (fun uu H locs hw hP hz164 hS => ?_)
                      obtain ⟨w9, M9⟩ := uu
                      obtain ⟨y1, y2, y3⟩ := hw
                      have hP : mw D vwCl bs w9 H := hP
                      have y1 : mo cJ cI w9 hm n 0 M9 _ _ sz aW aU aP aZ := y1
                      rw [tK_k _ h1k, pK_k _ h1k] at y1
                      refine lv_iload hx hb d_M_atomic_167 (lv_at hl 0 rfl) ?_
                      refine lv_if_eq (tgt := 176) hx hb d_M_atomic_169 (by decide) (fun z => absurd z (by decide)) (fun _ => ?_)
                      refine lv_lconst (v := 0) hx hb d_M_atomic_172 rfl ?_
                      refine lv_goto (tgt := 177) hx hb d_M_atomic_173 (by decide) ?_
                      exact W.lret (v := 0) hx hb hr (fun t ht hW => ⟨⟨_, (w9, M9), rfl, ⟨hkm.trans y3, Or.inr (Or.inr (Or.inr ⟨hk1, j, k, a, hj, rfl, rfl, hk48, ha, hal, Or.inr (Or.inl ⟨c114, Or.inl ⟨c124, c136, rfl, y1, y2⟩⟩)⟩))⟩, hP.at ht⟩, hS.F ht⟩) hS.2.2 d_M_atomic_177
              · refine lv_aload_n hx hb d_M_atomic_94 rfl (lv_at hl 1 rfl) ?_
                refine mw_get (C := R_M) (T := T_M) (N := 6) (ci := ciM) (v := .ref aP) hx hb htg i_M hown hK hP h_14 rfl 4 (by decide) (htg _ k_415) (fun _ h9 => h9) rfl d_M_atomic_95 ?_
                refine lv_iload_n hx hb d_M_atomic_98 rfl (lv_at hl 2 rfl) ?_
                refine lv_lload_n hx hb d_M_atomic_99 rfl (lv_at hl 4 rfl) ?_
                refine lv_topl (fun x_37 ex_37 => ?_)
                refine mw_last hx hb hK hP hS 0 h_17 rfl (vp_in_nI hj (by omega)) d_M_atomic_100 (fun H locs hP hS hz100 => ?_)
                rw [show (nI j).toNatClampNeg = j from nI_clamp (by omega)] at hP
                obtain ⟨w_38, ew_38⟩ : ∃ z9, z9 = va_up w_13 aP (some (.inl (cJ, 4, .inr (.inl (vp_updL pl j x_37)))) : Option va_E) := ⟨_, rfl⟩
                rw [← ew_38] at hP
                have h_39 : w_38 aP = some (.inl (cJ, 4, .inr (.inl (vp_updL pl j x_37)))) := by rw [ew_38, va_up_self]
                have h_40 : w_38 hm = some (.inr (ciM, [.int 0, .int (nI n), .ref aW, .ref aU, .ref aP, .ref aZ])) := by rw [ew_38, va_up_ne _ _ (fun z => by rw [z, h_17] at h_14; cases h_14)]; exact h_14
                have h_41 : w_38 aW = some (.inl (cJ, 524288, .inr (.inl M))) := by rw [ew_38, va_up_ne _ _ (fun z => by rw [z, h_17] at h_15; simp at h_15)]; exact h_15
                have h_42 : w_38 aU = some (.inl (cJ, 1024, .inr (.inl T))) := by rw [ew_38, va_up_ne _ _ (fun z => by rw [z, h_17] at h_16; simp at h_16)]; exact h_16
                have h_43 : w_38 aZ = some (.inl (cI, 4, .inl sz)) := by rw [ew_38, va_up_ne _ _ (fun z => by rw [z, h_17] at h_18; simp at h_18)]; exact h_18
                refine lv_aload_n hx hb d_M_atomic_101 rfl (lv_at hl 1 rfl) ?_
                refine mw_get (C := R_M) (T := T_M) (N := 6) (ci := ciM) (v := .ref aZ) hx hb htg i_M hown hK hP h_40 rfl 5 (by decide) (htg _ k_416) (fun _ h9 => h9) rfl d_M_atomic_102 ?_
                refine lv_iload_n hx hb d_M_atomic_105 rfl (lv_at hl 2 rfl) ?_
                refine lv_iload hx hb d_M_atomic_106 (lv_at hl 5 rfl) ?_
                refine lv_topi (fun x_44 ex_44 => ?_)
                refine mw_iast hx hb hK hP hS 1 h_43 rfl (vp_in_nI hj (by omega)) d_M_atomic_108 (fun H locs hP hS hz108 => ?_)
                rw [show (nI j).toNatClampNeg = j from nI_clamp (by omega)] at hP
                obtain ⟨w_45, ew_45⟩ : ∃ z9, z9 = va_up w_38 aZ (some (.inl (cI, 4, .inl (upd sz j x_44))) : Option va_E) := ⟨_, rfl⟩
                rw [← ew_45] at hP
                have h_46 : w_45 aZ = some (.inl (cI, 4, .inl (upd sz j x_44))) := by rw [ew_45, va_up_self]
                have h_47 : w_45 aP = some (.inl (cJ, 4, .inr (.inl (vp_updL pl j x_37)))) := by rw [ew_45, va_up_ne _ _ (fun z => by rw [z, h_43] at h_39; simp at h_39)]; exact h_39
                have h_48 : w_45 hm = some (.inr (ciM, [.int 0, .int (nI n), .ref aW, .ref aU, .ref aP, .ref aZ])) := by rw [ew_45, va_up_ne _ _ (fun z => by rw [z, h_43] at h_40; cases h_40)]; exact h_40
                have h_49 : w_45 aW = some (.inl (cJ, 524288, .inr (.inl M))) := by rw [ew_45, va_up_ne _ _ (fun z => by rw [z, h_43] at h_41; simp at h_41)]; exact h_41
                have h_50 : w_45 aU = some (.inl (cJ, 1024, .inr (.inl T))) := by rw [ew_45, va_up_ne _ _ (fun z => by rw [z, h_43] at h_42; simp at h_42)]; exact h_42
                refine lv_lload hx hb d_M_atomic_109 (lv_at hl 0 rfl) ?_
                have hmo : mo cJ cI w_45 hm n 0 M T (vp_updL pl j x_37) (upd sz j x_44) aW aU aP aZ := ⟨hn, h_48, h_49, h_50, h_47, h_46⟩
                have hkm : kM w w_45 hm aW aU aP aZ := fun q z1 z2 z3 z4 z5 => by rw [ew_45, va_up_ne _ _ z5]; rw [ew_38, va_up_ne _ _ z4]; rw [ew_13, va_up_ne _ _ z1]
                rw [ex_37, ex_44] at hmo
                exact W.lret (v := r84) hx hb hr (fun t ht hW => ⟨⟨_, (w_45, M), rfl, ⟨hkm, Or.inr (Or.inr (Or.inr ⟨hk1, j, k, a, hj, rfl, rfl, hk48, ha, hal, Or.inl ⟨c91, rfl, hmo, num, hsg84, hnum⟩⟩))⟩, hP.at ht⟩, hS.F ht⟩) hS.2.2 d_M_atomic_111
            · have hno : ¬ a % k = 0 := fun q => c54 (by rw [show (2147483648 + a) % k = 0 by rcases hk48 with e | e <;> rw [e] at q ⊢ <;> omega]; rfl)
              refine lv_iconst (v := 3) hx hb d_M_atomic_58 (by decide) ?_
              refine lv_goto (tgt := 63) hx hb d_M_atomic_59 (by decide) ?_
              refine mw_put (C := R_M) (T := T_M) (N := 6) (ci := ciM) (v := .int 3) (ty := .int) (fs' := [.int 3, .int (nI n), .ref aW, .ref aU, .ref aP, .ref aZ]) hx hb htg i_M ty_M tk_M nm_M hown hK hP hS s1 rfl 0 (by decide) (htg _ k_411) (fun _ h9 => h9) rfl (by decide +kernel) rfl rfl (Nat.le_of_ble_eq_true rfl) rfl d_M_atomic_63 (fun H locs hP hS hz63 => ?_)
              obtain ⟨w_51, ew_51⟩ : ∃ z9, z9 = va_up w hm (some (.inr (ciM, [.int 3, .int (nI n), .ref aW, .ref aU, .ref aP, .ref aZ])) : Option va_E) := ⟨_, rfl⟩
              rw [← ew_51] at hP
              have h_52 : w_51 hm = some (.inr (ciM, [.int 3, .int (nI n), .ref aW, .ref aU, .ref aP, .ref aZ])) := by rw [ew_51, va_up_self]
              have h_53 : w_51 aW = some (.inl (cJ, 524288, .inr (.inl M))) := by rw [ew_51, va_up_ne _ _ (fun z => by rw [z, s1] at s2; cases s2)]; exact s2
              have h_54 : w_51 aU = some (.inl (cJ, 1024, .inr (.inl T))) := by rw [ew_51, va_up_ne _ _ (fun z => by rw [z, s1] at s3; cases s3)]; exact s3
              have h_55 : w_51 aP = some (.inl (cJ, 4, .inr (.inl pl))) := by rw [ew_51, va_up_ne _ _ (fun z => by rw [z, s1] at s4; cases s4)]; exact s4
              have h_56 : w_51 aZ = some (.inl (cI, 4, .inl sz)) := by rw [ew_51, va_up_ne _ _ (fun z => by rw [z, s1] at s5; cases s5)]; exact s5
              refine lv_aload_n hx hb d_M_atomic_66 rfl (lv_at hl 0 rfl) ?_
              refine mw_get (C := R_M) (T := T_M) (N := 6) (ci := ciM) (v := .int 3) hx hb htg i_M hown hK hP h_52 rfl 0 (by decide) (htg _ k_411) (fun _ h9 => h9) rfl d_M_atomic_67 ?_
              refine lv_if_le (tgt := 75) hx hb d_M_atomic_70 (by decide) (fun z => absurd z (by decide)) (fun _ => ?_)
              refine lv_lconst (v := 0) hx hb d_M_atomic_73 rfl ?_
              have hmo : mo cJ cI w_51 hm n 3 M T pl sz aW aU aP aZ := ⟨hn, h_52, h_53, h_54, h_55, h_56⟩
              have hkm : kM w w_51 hm aW aU aP aZ := fun q z1 z2 z3 z4 z5 => by rw [ew_51, va_up_ne _ _ z1]
              exact W.lret (v := 0) hx hb hr (fun t ht hW => ⟨⟨_, (w_51, M), rfl, ⟨hkm, Or.inr (Or.inr (Or.inl ⟨hk1, ⟨k, a, rfl, hk48, hx4, ha, hno⟩, hmo⟩))⟩, hP.at ht⟩, hS.F ht⟩) hS.2.2 d_M_atomic_74
          · have hno : ¬ ((0 ≤ x ∧ x < 4) ∧ ∃ a, inM z n k a) := fun q => by
              first
                | (rcases hin with i1 | i1
                   · exact absurd (i1.1.symm.trans c41) (by decide)
                   · exact i1.2 q.2)
                | exact absurd q.1.1 (Int32.not_le.mpr c26)
                | exact le3' c31 q.1.2
            refine lv_iconst (v := 2) hx hb d_M_atomic_44 (by decide) ?_
            refine lv_goto (tgt := 63) hx hb d_M_atomic_45 (by decide) ?_
            refine mw_put (C := R_M) (T := T_M) (N := 6) (ci := ciM) (v := .int 2) (ty := .int) (fs' := [.int 2, .int (nI n), .ref aW, .ref aU, .ref aP, .ref aZ]) hx hb htg i_M ty_M tk_M nm_M hown hK hP hS s1 rfl 0 (by decide) (htg _ k_411) (fun _ h9 => h9) rfl (by decide +kernel) rfl rfl (Nat.le_of_ble_eq_true rfl) rfl d_M_atomic_63 (fun H locs hP hS hz63 => ?_)
            obtain ⟨w_57, ew_57⟩ : ∃ z9, z9 = va_up w hm (some (.inr (ciM, [.int 2, .int (nI n), .ref aW, .ref aU, .ref aP, .ref aZ])) : Option va_E) := ⟨_, rfl⟩
            rw [← ew_57] at hP
            have h_58 : w_57 hm = some (.inr (ciM, [.int 2, .int (nI n), .ref aW, .ref aU, .ref aP, .ref aZ])) := by rw [ew_57, va_up_self]
            have h_59 : w_57 aW = some (.inl (cJ, 524288, .inr (.inl M))) := by rw [ew_57, va_up_ne _ _ (fun z => by rw [z, s1] at s2; cases s2)]; exact s2
            have h_60 : w_57 aU = some (.inl (cJ, 1024, .inr (.inl T))) := by rw [ew_57, va_up_ne _ _ (fun z => by rw [z, s1] at s3; cases s3)]; exact s3
            have h_61 : w_57 aP = some (.inl (cJ, 4, .inr (.inl pl))) := by rw [ew_57, va_up_ne _ _ (fun z => by rw [z, s1] at s4; cases s4)]; exact s4
            have h_62 : w_57 aZ = some (.inl (cI, 4, .inl sz)) := by rw [ew_57, va_up_ne _ _ (fun z => by rw [z, s1] at s5; cases s5)]; exact s5
            refine lv_aload_n hx hb d_M_atomic_66 rfl (lv_at hl 0 rfl) ?_
            refine mw_get (C := R_M) (T := T_M) (N := 6) (ci := ciM) (v := .int 2) hx hb htg i_M hown hK hP h_58 rfl 0 (by decide) (htg _ k_411) (fun _ h9 => h9) rfl d_M_atomic_67 ?_
            refine lv_if_le (tgt := 75) hx hb d_M_atomic_70 (by decide) (fun z => absurd z (by decide)) (fun _ => ?_)
            refine lv_lconst (v := 0) hx hb d_M_atomic_73 rfl ?_
            have hmo : mo cJ cI w_57 hm n 2 M T pl sz aW aU aP aZ := ⟨hn, h_58, h_59, h_60, h_61, h_62⟩
            have hkm : kM w w_57 hm aW aU aP aZ := fun q z1 z2 z3 z4 z5 => by rw [ew_57, va_up_ne _ _ z1]
            exact W.lret (v := 0) hx hb hr (fun t ht hW => ⟨⟨_, (w_57, M), rfl, ⟨hkm, Or.inr (Or.inl ⟨hk1, ⟨k, rfl, hk48, hno⟩, hmo⟩)⟩, hP.at ht⟩, hS.F ht⟩) hS.2.2 d_M_atomic_74
    · have hno : ¬ (szA sv ∧ isKd y) := fun q => by
        first
          | (rw [if_pos q.2] at hkd; rw [hkd] at c18; exact absurd c18 (by decide))
          | exact q.1.elim c4 c11
      refine lv_iconst (v := 1) hx hb d_M_atomic_21 (by decide) ?_
      refine lv_goto (tgt := 63) hx hb d_M_atomic_22 (by decide) ?_
      refine mw_put (C := R_M) (T := T_M) (N := 6) (ci := ciM) (v := .int 1) (ty := .int) (fs' := [.int 1, .int (nI n), .ref aW, .ref aU, .ref aP, .ref aZ]) hx hb htg i_M ty_M tk_M nm_M hown hK hP hS s1 rfl 0 (by decide) (htg _ k_411) (fun _ h9 => h9) rfl (by decide +kernel) rfl rfl (Nat.le_of_ble_eq_true rfl) rfl d_M_atomic_63 (fun H locs hP hS hz63 => ?_)
      obtain ⟨w_63, ew_63⟩ : ∃ z9, z9 = va_up w hm (some (.inr (ciM, [.int 1, .int (nI n), .ref aW, .ref aU, .ref aP, .ref aZ])) : Option va_E) := ⟨_, rfl⟩
      rw [← ew_63] at hP
      have h_64 : w_63 hm = some (.inr (ciM, [.int 1, .int (nI n), .ref aW, .ref aU, .ref aP, .ref aZ])) := by rw [ew_63, va_up_self]
      have h_65 : w_63 aW = some (.inl (cJ, 524288, .inr (.inl M))) := by rw [ew_63, va_up_ne _ _ (fun z => by rw [z, s1] at s2; cases s2)]; exact s2
      have h_66 : w_63 aU = some (.inl (cJ, 1024, .inr (.inl T))) := by rw [ew_63, va_up_ne _ _ (fun z => by rw [z, s1] at s3; cases s3)]; exact s3
      have h_67 : w_63 aP = some (.inl (cJ, 4, .inr (.inl pl))) := by rw [ew_63, va_up_ne _ _ (fun z => by rw [z, s1] at s4; cases s4)]; exact s4
      have h_68 : w_63 aZ = some (.inl (cI, 4, .inl sz)) := by rw [ew_63, va_up_ne _ _ (fun z => by rw [z, s1] at s5; cases s5)]; exact s5
      refine lv_aload_n hx hb d_M_atomic_66 rfl (lv_at hl 0 rfl) ?_
      refine mw_get (C := R_M) (T := T_M) (N := 6) (ci := ciM) (v := .int 1) hx hb htg i_M hown hK hP h_64 rfl 0 (by decide) (htg _ k_411) (fun _ h9 => h9) rfl d_M_atomic_67 ?_
      refine lv_if_le (tgt := 75) hx hb d_M_atomic_70 (by decide) (fun z => absurd z (by decide)) (fun _ => ?_)
      refine lv_lconst (v := 0) hx hb d_M_atomic_73 rfl ?_
      have hmo : mo cJ cI w_63 hm n 1 M T pl sz aW aU aP aZ := ⟨hn, h_64, h_65, h_66, h_67, h_68⟩
      have hkm : kM w w_63 hm aW aU aP aZ := fun q z1 z2 z3 z4 z5 => by rw [ew_63, va_up_ne _ _ z1]
      exact W.lret (v := 0) hx hb hr (fun t ht hW => ⟨⟨_, (w_63, M), rfl, ⟨hkm, Or.inl ⟨hno, hmo⟩⟩, hP.at ht⟩, hS.F ht⟩) hS.2.2 d_M_atomic_74
  · refine lv_iload hx hb d_M_atomic_7 (lv_at hl 4 rfl) ?_
    refine lv_bipush (v := 8) hx hb d_M_atomic_9 (by decide) ?_
    refine lv_icmp_ne (tgt := 21) hx hb d_M_atomic_11 (by decide) (fun c11 => ?_) (fun c11 => ?_)
    · have hno : ¬ (szA sv ∧ isKd y) := fun q => by
        first
          | (rw [if_pos q.2] at hkd; rw [hkd] at c18; exact absurd c18 (by decide))
          | exact q.1.elim c4 c11
      refine lv_iconst (v := 1) hx hb d_M_atomic_21 (by decide) ?_
      refine lv_goto (tgt := 63) hx hb d_M_atomic_22 (by decide) ?_
      refine mw_put (C := R_M) (T := T_M) (N := 6) (ci := ciM) (v := .int 1) (ty := .int) (fs' := [.int 1, .int (nI n), .ref aW, .ref aU, .ref aP, .ref aZ]) hx hb htg i_M ty_M tk_M nm_M hown hK hP hS s1 rfl 0 (by decide) (htg _ k_411) (fun _ h9 => h9) rfl (by decide +kernel) rfl rfl (Nat.le_of_ble_eq_true rfl) rfl d_M_atomic_63 (fun H locs hP hS hz63 => ?_)
      obtain ⟨w_69, ew_69⟩ : ∃ z9, z9 = va_up w hm (some (.inr (ciM, [.int 1, .int (nI n), .ref aW, .ref aU, .ref aP, .ref aZ])) : Option va_E) := ⟨_, rfl⟩
      rw [← ew_69] at hP
      have h_70 : w_69 hm = some (.inr (ciM, [.int 1, .int (nI n), .ref aW, .ref aU, .ref aP, .ref aZ])) := by rw [ew_69, va_up_self]
      have h_71 : w_69 aW = some (.inl (cJ, 524288, .inr (.inl M))) := by rw [ew_69, va_up_ne _ _ (fun z => by rw [z, s1] at s2; cases s2)]; exact s2
      have h_72 : w_69 aU = some (.inl (cJ, 1024, .inr (.inl T))) := by rw [ew_69, va_up_ne _ _ (fun z => by rw [z, s1] at s3; cases s3)]; exact s3
      have h_73 : w_69 aP = some (.inl (cJ, 4, .inr (.inl pl))) := by rw [ew_69, va_up_ne _ _ (fun z => by rw [z, s1] at s4; cases s4)]; exact s4
      have h_74 : w_69 aZ = some (.inl (cI, 4, .inl sz)) := by rw [ew_69, va_up_ne _ _ (fun z => by rw [z, s1] at s5; cases s5)]; exact s5
      refine lv_aload_n hx hb d_M_atomic_66 rfl (lv_at hl 0 rfl) ?_
      refine mw_get (C := R_M) (T := T_M) (N := 6) (ci := ciM) (v := .int 1) hx hb htg i_M hown hK hP h_70 rfl 0 (by decide) (htg _ k_411) (fun _ h9 => h9) rfl d_M_atomic_67 ?_
      refine lv_if_le (tgt := 75) hx hb d_M_atomic_70 (by decide) (fun z => absurd z (by decide)) (fun _ => ?_)
      refine lv_lconst (v := 0) hx hb d_M_atomic_73 rfl ?_
      have hmo : mo cJ cI w_69 hm n 1 M T pl sz aW aU aP aZ := ⟨hn, h_70, h_71, h_72, h_73, h_74⟩
      have hkm : kM w w_69 hm aW aU aP aZ := fun q z1 z2 z3 z4 z5 => by rw [ew_69, va_up_ne _ _ z1]
      exact W.lret (v := 0) hx hb hr (fun t ht hW => ⟨⟨_, (w_69, M), rfl, ⟨hkm, Or.inl ⟨hno, hmo⟩⟩, hP.at ht⟩, hS.F ht⟩) hS.2.2 d_M_atomic_74
    · refine lv_iload_n hx hb d_M_atomic_14 rfl (lv_at hl 2 rfl) ?_
      refine mc_i (va_runS (As := [.int y]) (rest := [.ref hm]) ⟨hx, hb, hml, hown, htg⟩ (t_M_isKind l D cJ cI cP bs w y) (cwS (own := R_M) 1 htg (ginS k_487 k_488 k_26 k_489) rfl rfl rfl (by decide +kernel) ⟨Nat.le_of_ble_eq_true rfl, Nat.le_of_ble_eq_true rfl⟩) (mPc.preS hbs hS hP hK) rfl rfl hl.1 rfl (lv_room (Nat.le_of_ble_eq_true rfl)) d_M_atomic_15 ⟨Nat.le_of_ble_eq_true rfl, Nat.le_of_ble_eq_true rfl⟩) hS (fun r15 u15 H locs hw hP hz15 hS => ?_)
      have hkd := hw
      refine lv_if_ne (tgt := 25) hx hb d_M_atomic_18 (by decide) (fun c18 => ?_) (fun c18 => ?_)
      · have hk1 : isKd y := Classical.byContradiction (fun q => by rw [if_neg q] at hkd; exact c18 hkd)
        have hs1 : szA sv := by first | exact Or.inl c4 | exact Or.inr c11
        obtain ⟨k, ek, hk48⟩ := szA_of hs1
        subst ek
        have h1k : 1 ≤ k := by rcases hk48 with e | e <;> rw [e] <;> decide
        have h8k : k ≤ 8 := by rcases hk48 with e | e <;> rw [e] <;> decide
        have hl : lv_has ls 11 [(0, .ref hm), (1, .int x), (2, .int y), (3, .long z), (5, .int (nI k)), (6, .long v)] := hl
        refine lv_iload_n hx hb d_M_atomic_25 rfl (lv_at hl 1 rfl) ?_
        refine lv_if_lt (tgt := 44) hx hb d_M_atomic_26 (by decide) (fun c26 => ?_) (fun c26 => ?_)
        · have hno : ¬ ((0 ≤ x ∧ x < 4) ∧ ∃ a, inM z n k a) := fun q => by
            first
              | (rcases hin with i1 | i1
                 · exact absurd (i1.1.symm.trans c41) (by decide)
                 · exact i1.2 q.2)
              | exact absurd q.1.1 (Int32.not_le.mpr c26)
              | exact le3' c31 q.1.2
          refine lv_iconst (v := 2) hx hb d_M_atomic_44 (by decide) ?_
          refine lv_goto (tgt := 63) hx hb d_M_atomic_45 (by decide) ?_
          refine mw_put (C := R_M) (T := T_M) (N := 6) (ci := ciM) (v := .int 2) (ty := .int) (fs' := [.int 2, .int (nI n), .ref aW, .ref aU, .ref aP, .ref aZ]) hx hb htg i_M ty_M tk_M nm_M hown hK hP hS s1 rfl 0 (by decide) (htg _ k_411) (fun _ h9 => h9) rfl (by decide +kernel) rfl rfl (Nat.le_of_ble_eq_true rfl) rfl d_M_atomic_63 (fun H locs hP hS hz63 => ?_)
          obtain ⟨w_75, ew_75⟩ : ∃ z9, z9 = va_up w hm (some (.inr (ciM, [.int 2, .int (nI n), .ref aW, .ref aU, .ref aP, .ref aZ])) : Option va_E) := ⟨_, rfl⟩
          rw [← ew_75] at hP
          have h_76 : w_75 hm = some (.inr (ciM, [.int 2, .int (nI n), .ref aW, .ref aU, .ref aP, .ref aZ])) := by rw [ew_75, va_up_self]
          have h_77 : w_75 aW = some (.inl (cJ, 524288, .inr (.inl M))) := by rw [ew_75, va_up_ne _ _ (fun z => by rw [z, s1] at s2; cases s2)]; exact s2
          have h_78 : w_75 aU = some (.inl (cJ, 1024, .inr (.inl T))) := by rw [ew_75, va_up_ne _ _ (fun z => by rw [z, s1] at s3; cases s3)]; exact s3
          have h_79 : w_75 aP = some (.inl (cJ, 4, .inr (.inl pl))) := by rw [ew_75, va_up_ne _ _ (fun z => by rw [z, s1] at s4; cases s4)]; exact s4
          have h_80 : w_75 aZ = some (.inl (cI, 4, .inl sz)) := by rw [ew_75, va_up_ne _ _ (fun z => by rw [z, s1] at s5; cases s5)]; exact s5
          refine lv_aload_n hx hb d_M_atomic_66 rfl (lv_at hl 0 rfl) ?_
          refine mw_get (C := R_M) (T := T_M) (N := 6) (ci := ciM) (v := .int 2) hx hb htg i_M hown hK hP h_76 rfl 0 (by decide) (htg _ k_411) (fun _ h9 => h9) rfl d_M_atomic_67 ?_
          refine lv_if_le (tgt := 75) hx hb d_M_atomic_70 (by decide) (fun z => absurd z (by decide)) (fun _ => ?_)
          refine lv_lconst (v := 0) hx hb d_M_atomic_73 rfl ?_
          have hmo : mo cJ cI w_75 hm n 2 M T pl sz aW aU aP aZ := ⟨hn, h_76, h_77, h_78, h_79, h_80⟩
          have hkm : kM w w_75 hm aW aU aP aZ := fun q z1 z2 z3 z4 z5 => by rw [ew_75, va_up_ne _ _ z1]
          exact W.lret (v := 0) hx hb hr (fun t ht hW => ⟨⟨_, (w_75, M), rfl, ⟨hkm, Or.inr (Or.inl ⟨hk1, ⟨k, rfl, hk48, hno⟩, hmo⟩)⟩, hP.at ht⟩, hS.F ht⟩) hS.2.2 d_M_atomic_74
        · refine lv_iload_n hx hb d_M_atomic_29 rfl (lv_at hl 1 rfl) ?_
          refine lv_iconst (v := 3) hx hb d_M_atomic_30 (by decide) ?_
          refine lv_icmp_gt (tgt := 44) hx hb d_M_atomic_31 (by decide) (fun c31 => ?_) (fun c31 => ?_)
          · have hno : ¬ ((0 ≤ x ∧ x < 4) ∧ ∃ a, inM z n k a) := fun q => by
              first
                | (rcases hin with i1 | i1
                   · exact absurd (i1.1.symm.trans c41) (by decide)
                   · exact i1.2 q.2)
                | exact absurd q.1.1 (Int32.not_le.mpr c26)
                | exact le3' c31 q.1.2
            refine lv_iconst (v := 2) hx hb d_M_atomic_44 (by decide) ?_
            refine lv_goto (tgt := 63) hx hb d_M_atomic_45 (by decide) ?_
            refine mw_put (C := R_M) (T := T_M) (N := 6) (ci := ciM) (v := .int 2) (ty := .int) (fs' := [.int 2, .int (nI n), .ref aW, .ref aU, .ref aP, .ref aZ]) hx hb htg i_M ty_M tk_M nm_M hown hK hP hS s1 rfl 0 (by decide) (htg _ k_411) (fun _ h9 => h9) rfl (by decide +kernel) rfl rfl (Nat.le_of_ble_eq_true rfl) rfl d_M_atomic_63 (fun H locs hP hS hz63 => ?_)
            obtain ⟨w_81, ew_81⟩ : ∃ z9, z9 = va_up w hm (some (.inr (ciM, [.int 2, .int (nI n), .ref aW, .ref aU, .ref aP, .ref aZ])) : Option va_E) := ⟨_, rfl⟩
            rw [← ew_81] at hP
            have h_82 : w_81 hm = some (.inr (ciM, [.int 2, .int (nI n), .ref aW, .ref aU, .ref aP, .ref aZ])) := by rw [ew_81, va_up_self]
            have h_83 : w_81 aW = some (.inl (cJ, 524288, .inr (.inl M))) := by rw [ew_81, va_up_ne _ _ (fun z => by rw [z, s1] at s2; cases s2)]; exact s2
            have h_84 : w_81 aU = some (.inl (cJ, 1024, .inr (.inl T))) := by rw [ew_81, va_up_ne _ _ (fun z => by rw [z, s1] at s3; cases s3)]; exact s3
            have h_85 : w_81 aP = some (.inl (cJ, 4, .inr (.inl pl))) := by rw [ew_81, va_up_ne _ _ (fun z => by rw [z, s1] at s4; cases s4)]; exact s4
            have h_86 : w_81 aZ = some (.inl (cI, 4, .inl sz)) := by rw [ew_81, va_up_ne _ _ (fun z => by rw [z, s1] at s5; cases s5)]; exact s5
            refine lv_aload_n hx hb d_M_atomic_66 rfl (lv_at hl 0 rfl) ?_
            refine mw_get (C := R_M) (T := T_M) (N := 6) (ci := ciM) (v := .int 2) hx hb htg i_M hown hK hP h_82 rfl 0 (by decide) (htg _ k_411) (fun _ h9 => h9) rfl d_M_atomic_67 ?_
            refine lv_if_le (tgt := 75) hx hb d_M_atomic_70 (by decide) (fun z => absurd z (by decide)) (fun _ => ?_)
            refine lv_lconst (v := 0) hx hb d_M_atomic_73 rfl ?_
            have hmo : mo cJ cI w_81 hm n 2 M T pl sz aW aU aP aZ := ⟨hn, h_82, h_83, h_84, h_85, h_86⟩
            have hkm : kM w w_81 hm aW aU aP aZ := fun q z1 z2 z3 z4 z5 => by rw [ew_81, va_up_ne _ _ z1]
            exact W.lret (v := 0) hx hb hr (fun t ht hW => ⟨⟨_, (w_81, M), rfl, ⟨hkm, Or.inr (Or.inl ⟨hk1, ⟨k, rfl, hk48, hno⟩, hmo⟩)⟩, hP.at ht⟩, hS.F ht⟩) hS.2.2 d_M_atomic_74
          · refine lv_aload_n hx hb d_M_atomic_34 rfl (lv_at hl 0 rfl) ?_
            refine lv_lload_n hx hb d_M_atomic_35 rfl (lv_at hl 3 rfl) ?_
            refine lv_iload hx hb d_M_atomic_36 (lv_at hl 4 rfl) ?_
            refine mc_i (va_runV (As := [.long z, .int (nI k)]) (rest := [.ref hm]) ⟨hx, hb, hml, hown, htg⟩ (t_M_areBytes l D cJ cI cP bs w hm n cd M T pl sz aW aU aP aZ hs z k h1k h8k) (cwV (own := R_M) (C := R_M) 2 htg (ginV k_445 k_447 k_17 k_26 k_448) rfl rfl rfl (by decide +kernel) ⟨Nat.le_of_ble_eq_true rfl, Nat.le_of_ble_eq_true rfl⟩) (mPc.preV (ci := ciM) (q := (R_M, T_M, 6)) hbs hS hP hK rfl s1) rfl rfl hl.1 rfl (lv_room (Nat.le_of_ble_eq_true rfl)) d_M_atomic_38 ⟨Nat.le_of_ble_eq_true rfl, Nat.le_of_ble_eq_true rfl⟩) hS (fun r38 u38 H locs hw hP hz38 hS => ?_)
            have hin := hw
            refine lv_if_ne (tgt := 48) hx hb d_M_atomic_41 (by decide) (fun c41 => ?_) (fun c41 => ?_)
            · obtain ⟨a, ha⟩ : ∃ a, inM z n k a := by
                rcases hin with i1 | i1
                · exact i1.2
                · exact absurd i1.1 c41
              obtain ⟨rfl, hak⟩ := id ha
              have hx4 := le3 c26 c31
              have hl : lv_has ls 11 [(0, .ref hm), (1, .int x), (2, .int y), (3, .long (lN (2147483648 + a))), (5, .int (nI k)), (6, .long v)] := hl
              refine lv_lload_n hx hb d_M_atomic_48 rfl (lv_at hl 3 rfl) ?_
              refine lv_iload hx hb d_M_atomic_49 (lv_at hl 4 rfl) ?_
              refine lv_i2l hx hb d_M_atomic_51 rfl ?_
              rw [show (nI k).toInt64 = lN k from nI_l (by omega)]
              refine lv_lrem hx hb d_M_atomic_52 (by rcases hk48 with e | e <;> rw [e] <;> decide) ?_
              rw [show (lN (2147483648 + a)) - (lN (2147483648 + a)) / (lN k) * (lN k) = lN ((2147483648 + a) % k) from pk_lRem (by omega) (by omega) (by omega)]
              refine lv_lconst (v := 0) hx hb d_M_atomic_53 rfl ?_
              refine lc_eq (tgt := 62) hx hb d_M_atomic_54 d_M_atomic_55 (by decide) (fun c54 => ?_) (fun c54 => ?_)
              · have hal : a % k = 0 := by
                  have q := (pk_lEQ (b := 0) (by rcases hk48 with e | e <;> rw [e] <;> omega) (by omega)).mp c54
                  rcases hk48 with e | e <;> rw [e] at q ⊢ <;> omega
                refine lv_iconst (v := 0) hx hb d_M_atomic_62 (by decide) ?_
                refine mw_put (C := R_M) (T := T_M) (N := 6) (ci := ciM) (v := .int 0) (ty := .int) (fs' := [.int 0, .int (nI n), .ref aW, .ref aU, .ref aP, .ref aZ]) hx hb htg i_M ty_M tk_M nm_M hown hK hP hS s1 rfl 0 (by decide) (htg _ k_411) (fun _ h9 => h9) rfl (by decide +kernel) rfl rfl (Nat.le_of_ble_eq_true rfl) rfl d_M_atomic_63 (fun H locs hP hS hz63 => ?_)
                obtain ⟨w_87, ew_87⟩ : ∃ z9, z9 = va_up w hm (some (.inr (ciM, [.int 0, .int (nI n), .ref aW, .ref aU, .ref aP, .ref aZ])) : Option va_E) := ⟨_, rfl⟩
                rw [← ew_87] at hP
                have h_88 : w_87 hm = some (.inr (ciM, [.int 0, .int (nI n), .ref aW, .ref aU, .ref aP, .ref aZ])) := by rw [ew_87, va_up_self]
                have h_89 : w_87 aW = some (.inl (cJ, 524288, .inr (.inl M))) := by rw [ew_87, va_up_ne _ _ (fun z => by rw [z, s1] at s2; cases s2)]; exact s2
                have h_90 : w_87 aU = some (.inl (cJ, 1024, .inr (.inl T))) := by rw [ew_87, va_up_ne _ _ (fun z => by rw [z, s1] at s3; cases s3)]; exact s3
                have h_91 : w_87 aP = some (.inl (cJ, 4, .inr (.inl pl))) := by rw [ew_87, va_up_ne _ _ (fun z => by rw [z, s1] at s4; cases s4)]; exact s4
                have h_92 : w_87 aZ = some (.inl (cI, 4, .inl sz)) := by rw [ew_87, va_up_ne _ _ (fun z => by rw [z, s1] at s5; cases s5)]; exact s5
                refine lv_aload_n hx hb d_M_atomic_66 rfl (lv_at hl 0 rfl) ?_
                refine mw_get (C := R_M) (T := T_M) (N := 6) (ci := ciM) (v := .int 0) hx hb htg i_M hown hK hP h_88 rfl 0 (by decide) (htg _ k_411) (fun _ h9 => h9) rfl d_M_atomic_67 ?_
                refine lv_if_le (tgt := 75) hx hb d_M_atomic_70 (by decide) (fun _ => ?_) (fun z => absurd z (by decide))
                obtain ⟨j, hj, ej⟩ := prc_of hx4
                subst ej
                have hl : lv_has ls 11 [(0, .ref hm), (1, .int (nI j)), (2, .int y), (3, .long (lN (2147483648 + a))), (5, .int (nI k)), (6, .long v)] := hl
                refine lv_aload_n hx hb d_M_atomic_75 rfl (lv_at hl 0 rfl) ?_
                refine lv_lload_n hx hb d_M_atomic_76 rfl (lv_at hl 3 rfl) ?_
                refine lv_iload hx hb d_M_atomic_77 (lv_at hl 4 rfl) ?_
                have hmo : mo cJ cI w_87 hm n 0 M T pl sz aW aU aP aZ := ⟨hn, h_88, h_89, h_90, h_91, h_92⟩
                have hkm : kM w w_87 hm aW aU aP aZ := fun q z1 z2 z3 z4 z5 => by rw [ew_87, va_up_ne _ _ z1]
                refine mc_l (va_runV (As := [.long (lN (2147483648 + a)), .int (nI k)]) (rest := []) ⟨hx, hb, hml, hown, htg⟩ (t_M_number l D cJ cI cP bs w_87 hm n 0 M T pl sz aW aU aP aZ hmo a k h8k ha.2) (cwV (own := R_M) (C := R_M) 2 htg (ginV k_455 k_457 k_19 k_26 k_458) rfl rfl rfl (by decide +kernel) ⟨Nat.le_of_ble_eq_true rfl, Nat.le_of_ble_eq_true rfl⟩) (mPc.preV (ci := ciM) (q := (R_M, T_M, 6)) hbs hS hP hK rfl h_88) rfl rfl hl.1 rfl (lv_room (Nat.le_of_ble_eq_true rfl)) d_M_atomic_79 ⟨Nat.le_of_ble_eq_true rfl, Nat.le_of_ble_eq_true rfl⟩) hS (fun num u79 H locs hnum hP hz79 hS => ?_)
                refine lv_iload hx hb d_M_atomic_82 (lv_at hl 4 rfl) ?_
                refine mc_l (va_runS (As := [.long num, .int (nI k)]) (rest := []) ⟨hx, hb, hml, hown, htg⟩ (t_M_signed l D cJ cI cP bs w_87 num k) (cwS (own := R_M) 2 htg (ginS k_490 k_491 k_26 k_492) rfl rfl rfl (by decide +kernel) ⟨Nat.le_of_ble_eq_true rfl, Nat.le_of_ble_eq_true rfl⟩) (mPc.preS hbs hS hP hK) rfl rfl hl.1 rfl (lv_room (Nat.le_of_ble_eq_true rfl)) d_M_atomic_84 ⟨Nat.le_of_ble_eq_true rfl, Nat.le_of_ble_eq_true rfl⟩) hS (fun r84 u84 H locs hw hP hz84 hS => ?_)
                have hsg84 := hw
                refine lv_lstore (lv' := [(8, .long r84), (0, .ref hm), (1, .int (nI j)), (2, .int y), (3, .long (lN (2147483648 + a))), (5, .int (nI k)), (6, .long v)]) hx hb d_M_atomic_87 hl (by decide) rfl (fun ls hl => ?_)
                refine lv_iload_n hx hb d_M_atomic_89 rfl (lv_at hl 3 rfl) ?_
                refine lv_iconst (v := 2) hx hb d_M_atomic_90 (by decide) ?_
                refine lv_icmp_ne (tgt := 112) hx hb d_M_atomic_91 (by decide) (fun c91 => ?_) (fun c91 => ?_)
                · refine lv_iload_n hx hb d_M_atomic_112 rfl (lv_at hl 3 rfl) ?_
                  refine lv_iconst (v := 3) hx hb d_M_atomic_113 (by decide) ?_
                  refine lv_icmp_ne (tgt := 178) hx hb d_M_atomic_114 (by decide) (fun c114 => ?_) (fun c114 => ?_)
                  · refine lv_aload_n hx hb d_M_atomic_178 rfl (lv_at hl 1 rfl) ?_
                    refine lv_lload_n hx hb d_M_atomic_179 rfl (lv_at hl 4 rfl) ?_
                    refine lv_iload hx hb d_M_atomic_180 (lv_at hl 5 rfl) ?_
                    refine lv_iload_n hx hb d_M_atomic_182 rfl (lv_at hl 3 rfl) ?_
                    refine lv_lload hx hb d_M_atomic_183 (lv_at hl 0 rfl) ?_
                    refine lv_lload hx hb d_M_atomic_185 (lv_at hl 6 rfl) ?_
                    refine lv_iload hx hb d_M_atomic_187 (lv_at hl 5 rfl) ?_
                    refine mc_l (va_runS (As := [.long v, .int (nI k)]) (rest := [.long r84, .int y, .int (nI k), .long (lN (2147483648 + a)), .ref hm]) ⟨hx, hb, hml, hown, htg⟩ (t_M_signed l D cJ cI cP bs w_87 v k) (cwS (own := R_M) 2 htg (ginS k_490 k_491 k_26 k_492) rfl rfl rfl (by decide +kernel) ⟨Nat.le_of_ble_eq_true rfl, Nat.le_of_ble_eq_true rfl⟩) (mPc.preS hbs hS hP hK) rfl rfl hl.1 rfl (lv_room (Nat.le_of_ble_eq_true rfl)) d_M_atomic_189 ⟨Nat.le_of_ble_eq_true rfl, Nat.le_of_ble_eq_true rfl⟩) hS (fun r189 u189 H locs hw hP hz189 hS => ?_)
                    have hsg189 := hw
                    refine mc_l (va_runS (As := [.int y, .long r84, .long r189]) (rest := [.int (nI k), .long (lN (2147483648 + a)), .ref hm]) ⟨hx, hb, hml, hown, htg⟩ (t_M_changed l D cJ cI cP bs w_87 y r84 r189 hk1 c91 c114) (cwS (own := R_M) 3 htg (ginS k_493 k_494 k_26 k_495) rfl rfl rfl (by decide +kernel) ⟨Nat.le_of_ble_eq_true rfl, Nat.le_of_ble_eq_true rfl⟩) (mPc.preS hbs hS hP hK) rfl rfl hl.1 rfl (lv_room (Nat.le_of_ble_eq_true rfl)) d_M_atomic_192 ⟨Nat.le_of_ble_eq_true rfl, Nat.le_of_ble_eq_true rfl⟩) hS (fun r192 u192 H locs hw hP hz192 hS => ?_)
                    have hch := hw
                    have hmo : mo cJ cI w_87 hm n 0 M T pl sz aW aU aP aZ := ⟨hn, h_88, h_89, h_90, h_91, h_92⟩
                    have hkm : kM w w_87 hm aW aU aP aZ := fun q z1 z2 z3 z4 z5 => by rw [ew_87, va_up_ne _ _ z1]
                    refine mc_v (va_runV (As := [.long (lN (2147483648 + a)), .int (nI k), .long r192]) (rest := []) ⟨hx, hb, hml, hown, htg⟩ (t_M_keep l D cJ cI cP bs w_87 hm n 0 M T pl sz aW aU aP aZ hmo hro a k h8k ha.2 r192) (cwV (own := R_M) (C := R_M) 3 htg (ginV k_468 k_470 k_21 k_26 k_471) rfl rfl rfl (by decide +kernel) ⟨Nat.le_of_ble_eq_true rfl, Nat.le_of_ble_eq_true rfl⟩) (mPc.preV (ci := ciM) (q := (R_M, T_M, 6)) hbs hS hP hK rfl h_88) rfl rfl hl.1 rfl (lv_room (Nat.le_of_ble_eq_true rfl)) d_M_atomic_195 ⟨Nat.le_of_ble_eq_true rfl, Nat.le_of_ble_eq_true rfl⟩) hS (fun uu H locs hw hP hz195 hS => ?_)
                    obtain ⟨w9, M9⟩ := uu
                    obtain ⟨y1, y2, y3⟩ := hw
                    have hP : mw D vwCl bs w9 H := hP
                    have y1 : mo cJ cI w9 hm n 0 M9 _ _ sz aW aU aP aZ := y1
                    rw [tK_k _ h1k, pK_k _ h1k] at y1
                    refine lv_lload hx hb d_M_atomic_198 (lv_at hl 0 rfl) ?_
                    exact W.lret (v := r84) hx hb hr (fun t ht hW => ⟨⟨_, (w9, M9), rfl, ⟨hkm.trans y3, Or.inr (Or.inr (Or.inr ⟨hk1, j, k, a, hj, rfl, rfl, hk48, ha, hal, Or.inr (Or.inr ⟨c91, c114, y1, by rw [hch, hsg189] at y2; exact y2, num, hsg84, hnum⟩)⟩))⟩, hP.at ht⟩, hS.F ht⟩) hS.2.2 d_M_atomic_200
                  · refine lv_aload_n hx hb d_M_atomic_117 rfl (lv_at hl 1 rfl) ?_
                    refine mw_get (C := R_M) (T := T_M) (N := 6) (ci := ciM) (v := .ref aP) hx hb htg i_M hown hK hP h_88 rfl 4 (by decide) (htg _ k_415) (fun _ h9 => h9) rfl d_M_atomic_118 ?_
                    refine lv_iload_n hx hb d_M_atomic_121 rfl (lv_at hl 2 rfl) ?_
                    refine mw_lald hx hb hK hP 0 h_91 rfl (vp_in_nI hj (by omega)) d_M_atomic_122 ?_
                    rw [show (nI j).toNatClampNeg = j from nI_clamp (by omega)]
                    refine lv_lload_n hx hb d_M_atomic_123 rfl (lv_at hl 4 rfl) ?_
                    refine lc_ne (tgt := 143) hx hb d_M_atomic_124 d_M_atomic_125 (by decide) (fun c124 => ?_) (fun c124 => ?_)
                    · refine lv_iconst (v := 0) hx hb d_M_atomic_143 (by decide) ?_
                      refine lv_istore (lv' := [(10, .int 0), (8, .long r84), (0, .ref hm), (1, .int (nI j)), (2, .int y), (3, .long (lN (2147483648 + a))), (5, .int (nI k)), (6, .long v)]) hx hb d_M_atomic_144 hl (by decide) rfl (fun ls hl => ?_)
                      refine lv_aload_n hx hb d_M_atomic_146 rfl (lv_at hl 2 rfl) ?_
                      refine mw_get (C := R_M) (T := T_M) (N := 6) (ci := ciM) (v := .ref aP) hx hb htg i_M hown hK hP h_88 rfl 4 (by decide) (htg _ k_415) (fun _ h9 => h9) rfl d_M_atomic_147 ?_
                      refine lv_iload_n hx hb d_M_atomic_150 rfl (lv_at hl 3 rfl) ?_
                      refine lv_lconst (v := 0) hx hb d_M_atomic_151 rfl ?_
                      refine mw_last hx hb hK hP hS 0 h_91 rfl (vp_in_nI hj (by omega)) d_M_atomic_152 (fun H locs hP hS hz152 => ?_)
                      rw [show (nI j).toNatClampNeg = j from nI_clamp (by omega)] at hP
                      obtain ⟨w_93, ew_93⟩ : ∃ z9, z9 = va_up w_87 aP (some (.inl (cJ, 4, .inr (.inl (vp_updL pl j 0)))) : Option va_E) := ⟨_, rfl⟩
                      rw [← ew_93] at hP
                      have h_94 : w_93 aP = some (.inl (cJ, 4, .inr (.inl (vp_updL pl j 0)))) := by rw [ew_93, va_up_self]
                      have h_95 : w_93 hm = some (.inr (ciM, [.int 0, .int (nI n), .ref aW, .ref aU, .ref aP, .ref aZ])) := by rw [ew_93, va_up_ne _ _ (fun z => by rw [z, h_91] at h_88; cases h_88)]; exact h_88
                      have h_96 : w_93 aW = some (.inl (cJ, 524288, .inr (.inl M))) := by rw [ew_93, va_up_ne _ _ (fun z => by rw [z, h_91] at h_89; simp at h_89)]; exact h_89
                      have h_97 : w_93 aU = some (.inl (cJ, 1024, .inr (.inl T))) := by rw [ew_93, va_up_ne _ _ (fun z => by rw [z, h_91] at h_90; simp at h_90)]; exact h_90
                      have h_98 : w_93 aZ = some (.inl (cI, 4, .inl sz)) := by rw [ew_93, va_up_ne _ _ (fun z => by rw [z, h_91] at h_92; simp at h_92)]; exact h_92
                      refine lv_iload hx hb d_M_atomic_153 (lv_at hl 0 rfl) ?_
                      refine lv_if_eq (tgt := 167) hx hb d_M_atomic_155 (by decide) (fun _ => ?_) (fun z => absurd z (by decide))
                      refine lv_iload hx hb d_M_atomic_167 (lv_at hl 0 rfl) ?_
                      refine lv_if_eq (tgt := 176) hx hb d_M_atomic_169 (by decide) (fun _ => ?_) (fun z => absurd z (by decide))
                      refine lv_lconst (v := 1) hx hb d_M_atomic_176 rfl ?_
                      have hmo : mo cJ cI w_93 hm n 0 M T (vp_updL pl j 0) sz aW aU aP aZ := ⟨hn, h_95, h_96, h_97, h_94, h_98⟩
                      have hkm : kM w w_93 hm aW aU aP aZ := fun q z1 z2 z3 z4 z5 => by rw [ew_93, va_up_ne _ _ z4]; rw [ew_87, va_up_ne _ _ z1]
                      exact W.lret (v := 1) hx hb hr (fun t ht hW => ⟨⟨_, (w_93, M), rfl, ⟨hkm, Or.inr (Or.inr (Or.inr ⟨hk1, j, k, a, hj, rfl, rfl, hk48, ha, hal, Or.inr (Or.inl ⟨c114, Or.inr ⟨fun q => by first | exact c124 q.1 | exact c136 q.2, rfl, rfl, hmo⟩⟩)⟩))⟩, hP.at ht⟩, hS.F ht⟩) hS.2.2 d_M_atomic_177
                    · refine lv_aload_n hx hb d_M_atomic_128 rfl (lv_at hl 1 rfl) ?_
                      refine mw_get (C := R_M) (T := T_M) (N := 6) (ci := ciM) (v := .ref aZ) hx hb htg i_M hown hK hP h_88 rfl 5 (by decide) (htg _ k_416) (fun _ h9 => h9) rfl d_M_atomic_129 ?_
                      refine lv_iload_n hx hb d_M_atomic_132 rfl (lv_at hl 2 rfl) ?_
                      refine mw_iald hx hb hK hP 1 h_92 rfl (vp_in_nI hj (by omega)) d_M_atomic_133 ?_
                      rw [show (nI j).toNatClampNeg = j from nI_clamp (by omega)]
                      refine lv_iload hx hb d_M_atomic_134 (lv_at hl 5 rfl) ?_
                      refine lv_icmp_ne (tgt := 143) hx hb d_M_atomic_136 (by decide) (fun c136 => ?_) (fun c136 => ?_)
                      · refine lv_iconst (v := 0) hx hb d_M_atomic_143 (by decide) ?_
                        refine lv_istore (lv' := [(10, .int 0), (8, .long r84), (0, .ref hm), (1, .int (nI j)), (2, .int y), (3, .long (lN (2147483648 + a))), (5, .int (nI k)), (6, .long v)]) hx hb d_M_atomic_144 hl (by decide) rfl (fun ls hl => ?_)
                        refine lv_aload_n hx hb d_M_atomic_146 rfl (lv_at hl 2 rfl) ?_
                        refine mw_get (C := R_M) (T := T_M) (N := 6) (ci := ciM) (v := .ref aP) hx hb htg i_M hown hK hP h_88 rfl 4 (by decide) (htg _ k_415) (fun _ h9 => h9) rfl d_M_atomic_147 ?_
                        refine lv_iload_n hx hb d_M_atomic_150 rfl (lv_at hl 3 rfl) ?_
                        refine lv_lconst (v := 0) hx hb d_M_atomic_151 rfl ?_
                        refine mw_last hx hb hK hP hS 0 h_91 rfl (vp_in_nI hj (by omega)) d_M_atomic_152 (fun H locs hP hS hz152 => ?_)
                        rw [show (nI j).toNatClampNeg = j from nI_clamp (by omega)] at hP
                        obtain ⟨w_99, ew_99⟩ : ∃ z9, z9 = va_up w_87 aP (some (.inl (cJ, 4, .inr (.inl (vp_updL pl j 0)))) : Option va_E) := ⟨_, rfl⟩
                        rw [← ew_99] at hP
                        have h_100 : w_99 aP = some (.inl (cJ, 4, .inr (.inl (vp_updL pl j 0)))) := by rw [ew_99, va_up_self]
                        have h_101 : w_99 hm = some (.inr (ciM, [.int 0, .int (nI n), .ref aW, .ref aU, .ref aP, .ref aZ])) := by rw [ew_99, va_up_ne _ _ (fun z => by rw [z, h_91] at h_88; cases h_88)]; exact h_88
                        have h_102 : w_99 aW = some (.inl (cJ, 524288, .inr (.inl M))) := by rw [ew_99, va_up_ne _ _ (fun z => by rw [z, h_91] at h_89; simp at h_89)]; exact h_89
                        have h_103 : w_99 aU = some (.inl (cJ, 1024, .inr (.inl T))) := by rw [ew_99, va_up_ne _ _ (fun z => by rw [z, h_91] at h_90; simp at h_90)]; exact h_90
                        have h_104 : w_99 aZ = some (.inl (cI, 4, .inl sz)) := by rw [ew_99, va_up_ne _ _ (fun z => by rw [z, h_91] at h_92; simp at h_92)]; exact h_92
                        refine lv_iload hx hb d_M_atomic_153 (lv_at hl 0 rfl) ?_
                        refine lv_if_eq (tgt := 167) hx hb d_M_atomic_155 (by decide) (fun _ => ?_) (fun z => absurd z (by decide))
                        refine lv_iload hx hb d_M_atomic_167 (lv_at hl 0 rfl) ?_
                        refine lv_if_eq (tgt := 176) hx hb d_M_atomic_169 (by decide) (fun _ => ?_) (fun z => absurd z (by decide))
                        refine lv_lconst (v := 1) hx hb d_M_atomic_176 rfl ?_
                        have hmo : mo cJ cI w_99 hm n 0 M T (vp_updL pl j 0) sz aW aU aP aZ := ⟨hn, h_101, h_102, h_103, h_100, h_104⟩
                        have hkm : kM w w_99 hm aW aU aP aZ := fun q z1 z2 z3 z4 z5 => by rw [ew_99, va_up_ne _ _ z4]; rw [ew_87, va_up_ne _ _ z1]
                        exact W.lret (v := 1) hx hb hr (fun t ht hW => ⟨⟨_, (w_99, M), rfl, ⟨hkm, Or.inr (Or.inr (Or.inr ⟨hk1, j, k, a, hj, rfl, rfl, hk48, ha, hal, Or.inr (Or.inl ⟨c114, Or.inr ⟨fun q => by first | exact c124 q.1 | exact c136 q.2, rfl, rfl, hmo⟩⟩)⟩))⟩, hP.at ht⟩, hS.F ht⟩) hS.2.2 d_M_atomic_177
                      · refine lv_iconst (v := 1) hx hb d_M_atomic_139 (by decide) ?_
                        refine lv_goto (tgt := 144) hx hb d_M_atomic_140 (by decide) ?_
                        refine lv_istore (lv' := [(10, .int 1), (8, .long r84), (0, .ref hm), (1, .int (nI j)), (2, .int y), (3, .long (lN (2147483648 + a))), (5, .int (nI k)), (6, .long v)]) hx hb d_M_atomic_144 hl (by decide) rfl (fun ls hl => ?_)
                        refine lv_aload_n hx hb d_M_atomic_146 rfl (lv_at hl 2 rfl) ?_
                        refine mw_get (C := R_M) (T := T_M) (N := 6) (ci := ciM) (v := .ref aP) hx hb htg i_M hown hK hP h_88 rfl 4 (by decide) (htg _ k_415) (fun _ h9 => h9) rfl d_M_atomic_147 ?_
                        refine lv_iload_n hx hb d_M_atomic_150 rfl (lv_at hl 3 rfl) ?_
                        refine lv_lconst (v := 0) hx hb d_M_atomic_151 rfl ?_
                        refine mw_last hx hb hK hP hS 0 h_91 rfl (vp_in_nI hj (by omega)) d_M_atomic_152 (fun H locs hP hS hz152 => ?_)
                        rw [show (nI j).toNatClampNeg = j from nI_clamp (by omega)] at hP
                        obtain ⟨w_105, ew_105⟩ : ∃ z9, z9 = va_up w_87 aP (some (.inl (cJ, 4, .inr (.inl (vp_updL pl j 0)))) : Option va_E) := ⟨_, rfl⟩
                        rw [← ew_105] at hP
                        have h_106 : w_105 aP = some (.inl (cJ, 4, .inr (.inl (vp_updL pl j 0)))) := by rw [ew_105, va_up_self]
                        have h_107 : w_105 hm = some (.inr (ciM, [.int 0, .int (nI n), .ref aW, .ref aU, .ref aP, .ref aZ])) := by rw [ew_105, va_up_ne _ _ (fun z => by rw [z, h_91] at h_88; cases h_88)]; exact h_88
                        have h_108 : w_105 aW = some (.inl (cJ, 524288, .inr (.inl M))) := by rw [ew_105, va_up_ne _ _ (fun z => by rw [z, h_91] at h_89; simp at h_89)]; exact h_89
                        have h_109 : w_105 aU = some (.inl (cJ, 1024, .inr (.inl T))) := by rw [ew_105, va_up_ne _ _ (fun z => by rw [z, h_91] at h_90; simp at h_90)]; exact h_90
                        have h_110 : w_105 aZ = some (.inl (cI, 4, .inl sz)) := by rw [ew_105, va_up_ne _ _ (fun z => by rw [z, h_91] at h_92; simp at h_92)]; exact h_92
                        refine lv_iload hx hb d_M_atomic_153 (lv_at hl 0 rfl) ?_
                        refine lv_if_eq (tgt := 167) hx hb d_M_atomic_155 (by decide) (fun z => absurd z (by decide)) (fun _ => ?_)
                        refine lv_aload_n hx hb d_M_atomic_158 rfl (lv_at hl 2 rfl) ?_
                        refine lv_lload_n hx hb d_M_atomic_159 rfl (lv_at hl 5 rfl) ?_
                        refine lv_iload hx hb d_M_atomic_160 (lv_at hl 6 rfl) ?_
                        refine lv_lload hx hb d_M_atomic_162 (lv_at hl 7 rfl) ?_
                        have hmo : mo cJ cI w_105 hm n 0 M T (vp_updL pl j 0) sz aW aU aP aZ := ⟨hn, h_107, h_108, h_109, h_106, h_110⟩
                        have hkm : kM w w_105 hm aW aU aP aZ := fun q z1 z2 z3 z4 z5 => by rw [ew_105, va_up_ne _ _ z4]; rw [ew_87, va_up_ne _ _ z1]
                        refine mc_v (va_runV (As := [.long (lN (2147483648 + a)), .int (nI k), .long v]) (rest := []) ⟨hx, hb, hml, hown, htg⟩ (t_M_keep l D cJ cI cP bs w_105 hm n 0 M T (vp_updL pl j 0) sz aW aU aP aZ hmo (rok_0 hro j) a k h8k ha.2 v) (cwV (own := R_M) (C := R_M) 3 htg (ginV k_468 k_470 k_21 k_26 k_471) rfl rfl rfl (by decide +kernel) ⟨Nat.le_of_ble_eq_true rfl, Nat.le_of_ble_eq_true rfl⟩) (mPc.preV (ci := ciM) (q := (R_M, T_M, 6)) hbs hS hP hK rfl h_107) rfl rfl hl.1 rfl (lv_room (Nat.le_of_ble_eq_true rfl)) d_M_atomic_164 ⟨Nat.le_of_ble_eq_true rfl, Nat.le_of_ble_eq_true rfl⟩) hS (fun uu H locs hw hP hz164 hS => ?_)
                        obtain ⟨w9, M9⟩ := uu
                        obtain ⟨y1, y2, y3⟩ := hw
                        have hP : mw D vwCl bs w9 H := hP
                        have y1 : mo cJ cI w9 hm n 0 M9 _ _ sz aW aU aP aZ := y1
                        rw [tK_k _ h1k, pK_k _ h1k] at y1
                        refine lv_iload hx hb d_M_atomic_167 (lv_at hl 0 rfl) ?_
                        refine lv_if_eq (tgt := 176) hx hb d_M_atomic_169 (by decide) (fun z => absurd z (by decide)) (fun _ => ?_)
                        refine lv_lconst (v := 0) hx hb d_M_atomic_172 rfl ?_
                        refine lv_goto (tgt := 177) hx hb d_M_atomic_173 (by decide) ?_
                        exact W.lret (v := 0) hx hb hr (fun t ht hW => ⟨⟨_, (w9, M9), rfl, ⟨hkm.trans y3, Or.inr (Or.inr (Or.inr ⟨hk1, j, k, a, hj, rfl, rfl, hk48, ha, hal, Or.inr (Or.inl ⟨c114, Or.inl ⟨c124, c136, rfl, y1, y2⟩⟩)⟩))⟩, hP.at ht⟩, hS.F ht⟩) hS.2.2 d_M_atomic_177
                · refine lv_aload_n hx hb d_M_atomic_94 rfl (lv_at hl 1 rfl) ?_
                  refine mw_get (C := R_M) (T := T_M) (N := 6) (ci := ciM) (v := .ref aP) hx hb htg i_M hown hK hP h_88 rfl 4 (by decide) (htg _ k_415) (fun _ h9 => h9) rfl d_M_atomic_95 ?_
                  refine lv_iload_n hx hb d_M_atomic_98 rfl (lv_at hl 2 rfl) ?_
                  refine lv_lload_n hx hb d_M_atomic_99 rfl (lv_at hl 4 rfl) ?_
                  refine lv_topl (fun x_111 ex_111 => ?_)
                  refine mw_last hx hb hK hP hS 0 h_91 rfl (vp_in_nI hj (by omega)) d_M_atomic_100 (fun H locs hP hS hz100 => ?_)
                  rw [show (nI j).toNatClampNeg = j from nI_clamp (by omega)] at hP
                  obtain ⟨w_112, ew_112⟩ : ∃ z9, z9 = va_up w_87 aP (some (.inl (cJ, 4, .inr (.inl (vp_updL pl j x_111)))) : Option va_E) := ⟨_, rfl⟩
                  rw [← ew_112] at hP
                  have h_113 : w_112 aP = some (.inl (cJ, 4, .inr (.inl (vp_updL pl j x_111)))) := by rw [ew_112, va_up_self]
                  have h_114 : w_112 hm = some (.inr (ciM, [.int 0, .int (nI n), .ref aW, .ref aU, .ref aP, .ref aZ])) := by rw [ew_112, va_up_ne _ _ (fun z => by rw [z, h_91] at h_88; cases h_88)]; exact h_88
                  have h_115 : w_112 aW = some (.inl (cJ, 524288, .inr (.inl M))) := by rw [ew_112, va_up_ne _ _ (fun z => by rw [z, h_91] at h_89; simp at h_89)]; exact h_89
                  have h_116 : w_112 aU = some (.inl (cJ, 1024, .inr (.inl T))) := by rw [ew_112, va_up_ne _ _ (fun z => by rw [z, h_91] at h_90; simp at h_90)]; exact h_90
                  have h_117 : w_112 aZ = some (.inl (cI, 4, .inl sz)) := by rw [ew_112, va_up_ne _ _ (fun z => by rw [z, h_91] at h_92; simp at h_92)]; exact h_92
                  refine lv_aload_n hx hb d_M_atomic_101 rfl (lv_at hl 1 rfl) ?_
                  refine mw_get (C := R_M) (T := T_M) (N := 6) (ci := ciM) (v := .ref aZ) hx hb htg i_M hown hK hP h_114 rfl 5 (by decide) (htg _ k_416) (fun _ h9 => h9) rfl d_M_atomic_102 ?_
                  refine lv_iload_n hx hb d_M_atomic_105 rfl (lv_at hl 2 rfl) ?_
                  refine lv_iload hx hb d_M_atomic_106 (lv_at hl 5 rfl) ?_
                  refine lv_topi (fun x_118 ex_118 => ?_)
                  refine mw_iast hx hb hK hP hS 1 h_117 rfl (vp_in_nI hj (by omega)) d_M_atomic_108 (fun H locs hP hS hz108 => ?_)
                  rw [show (nI j).toNatClampNeg = j from nI_clamp (by omega)] at hP
                  obtain ⟨w_119, ew_119⟩ : ∃ z9, z9 = va_up w_112 aZ (some (.inl (cI, 4, .inl (upd sz j x_118))) : Option va_E) := ⟨_, rfl⟩
                  rw [← ew_119] at hP
                  have h_120 : w_119 aZ = some (.inl (cI, 4, .inl (upd sz j x_118))) := by rw [ew_119, va_up_self]
                  have h_121 : w_119 aP = some (.inl (cJ, 4, .inr (.inl (vp_updL pl j x_111)))) := by rw [ew_119, va_up_ne _ _ (fun z => by rw [z, h_117] at h_113; simp at h_113)]; exact h_113
                  have h_122 : w_119 hm = some (.inr (ciM, [.int 0, .int (nI n), .ref aW, .ref aU, .ref aP, .ref aZ])) := by rw [ew_119, va_up_ne _ _ (fun z => by rw [z, h_117] at h_114; cases h_114)]; exact h_114
                  have h_123 : w_119 aW = some (.inl (cJ, 524288, .inr (.inl M))) := by rw [ew_119, va_up_ne _ _ (fun z => by rw [z, h_117] at h_115; simp at h_115)]; exact h_115
                  have h_124 : w_119 aU = some (.inl (cJ, 1024, .inr (.inl T))) := by rw [ew_119, va_up_ne _ _ (fun z => by rw [z, h_117] at h_116; simp at h_116)]; exact h_116
                  refine lv_lload hx hb d_M_atomic_109 (lv_at hl 0 rfl) ?_
                  have hmo : mo cJ cI w_119 hm n 0 M T (vp_updL pl j x_111) (upd sz j x_118) aW aU aP aZ := ⟨hn, h_122, h_123, h_124, h_121, h_120⟩
                  have hkm : kM w w_119 hm aW aU aP aZ := fun q z1 z2 z3 z4 z5 => by rw [ew_119, va_up_ne _ _ z5]; rw [ew_112, va_up_ne _ _ z4]; rw [ew_87, va_up_ne _ _ z1]
                  rw [ex_111, ex_118] at hmo
                  exact W.lret (v := r84) hx hb hr (fun t ht hW => ⟨⟨_, (w_119, M), rfl, ⟨hkm, Or.inr (Or.inr (Or.inr ⟨hk1, j, k, a, hj, rfl, rfl, hk48, ha, hal, Or.inl ⟨c91, rfl, hmo, num, hsg84, hnum⟩⟩))⟩, hP.at ht⟩, hS.F ht⟩) hS.2.2 d_M_atomic_111
              · have hno : ¬ a % k = 0 := fun q => c54 (by rw [show (2147483648 + a) % k = 0 by rcases hk48 with e | e <;> rw [e] at q ⊢ <;> omega]; rfl)
                refine lv_iconst (v := 3) hx hb d_M_atomic_58 (by decide) ?_
                refine lv_goto (tgt := 63) hx hb d_M_atomic_59 (by decide) ?_
                refine mw_put (C := R_M) (T := T_M) (N := 6) (ci := ciM) (v := .int 3) (ty := .int) (fs' := [.int 3, .int (nI n), .ref aW, .ref aU, .ref aP, .ref aZ]) hx hb htg i_M ty_M tk_M nm_M hown hK hP hS s1 rfl 0 (by decide) (htg _ k_411) (fun _ h9 => h9) rfl (by decide +kernel) rfl rfl (Nat.le_of_ble_eq_true rfl) rfl d_M_atomic_63 (fun H locs hP hS hz63 => ?_)
                obtain ⟨w_125, ew_125⟩ : ∃ z9, z9 = va_up w hm (some (.inr (ciM, [.int 3, .int (nI n), .ref aW, .ref aU, .ref aP, .ref aZ])) : Option va_E) := ⟨_, rfl⟩
                rw [← ew_125] at hP
                have h_126 : w_125 hm = some (.inr (ciM, [.int 3, .int (nI n), .ref aW, .ref aU, .ref aP, .ref aZ])) := by rw [ew_125, va_up_self]
                have h_127 : w_125 aW = some (.inl (cJ, 524288, .inr (.inl M))) := by rw [ew_125, va_up_ne _ _ (fun z => by rw [z, s1] at s2; cases s2)]; exact s2
                have h_128 : w_125 aU = some (.inl (cJ, 1024, .inr (.inl T))) := by rw [ew_125, va_up_ne _ _ (fun z => by rw [z, s1] at s3; cases s3)]; exact s3
                have h_129 : w_125 aP = some (.inl (cJ, 4, .inr (.inl pl))) := by rw [ew_125, va_up_ne _ _ (fun z => by rw [z, s1] at s4; cases s4)]; exact s4
                have h_130 : w_125 aZ = some (.inl (cI, 4, .inl sz)) := by rw [ew_125, va_up_ne _ _ (fun z => by rw [z, s1] at s5; cases s5)]; exact s5
                refine lv_aload_n hx hb d_M_atomic_66 rfl (lv_at hl 0 rfl) ?_
                refine mw_get (C := R_M) (T := T_M) (N := 6) (ci := ciM) (v := .int 3) hx hb htg i_M hown hK hP h_126 rfl 0 (by decide) (htg _ k_411) (fun _ h9 => h9) rfl d_M_atomic_67 ?_
                refine lv_if_le (tgt := 75) hx hb d_M_atomic_70 (by decide) (fun z => absurd z (by decide)) (fun _ => ?_)
                refine lv_lconst (v := 0) hx hb d_M_atomic_73 rfl ?_
                have hmo : mo cJ cI w_125 hm n 3 M T pl sz aW aU aP aZ := ⟨hn, h_126, h_127, h_128, h_129, h_130⟩
                have hkm : kM w w_125 hm aW aU aP aZ := fun q z1 z2 z3 z4 z5 => by rw [ew_125, va_up_ne _ _ z1]
                exact W.lret (v := 0) hx hb hr (fun t ht hW => ⟨⟨_, (w_125, M), rfl, ⟨hkm, Or.inr (Or.inr (Or.inl ⟨hk1, ⟨k, a, rfl, hk48, hx4, ha, hno⟩, hmo⟩))⟩, hP.at ht⟩, hS.F ht⟩) hS.2.2 d_M_atomic_74
            · have hno : ¬ ((0 ≤ x ∧ x < 4) ∧ ∃ a, inM z n k a) := fun q => by
                first
                  | (rcases hin with i1 | i1
                     · exact absurd (i1.1.symm.trans c41) (by decide)
                     · exact i1.2 q.2)
                  | exact absurd q.1.1 (Int32.not_le.mpr c26)
                  | exact le3' c31 q.1.2
              refine lv_iconst (v := 2) hx hb d_M_atomic_44 (by decide) ?_
              refine lv_goto (tgt := 63) hx hb d_M_atomic_45 (by decide) ?_
              refine mw_put (C := R_M) (T := T_M) (N := 6) (ci := ciM) (v := .int 2) (ty := .int) (fs' := [.int 2, .int (nI n), .ref aW, .ref aU, .ref aP, .ref aZ]) hx hb htg i_M ty_M tk_M nm_M hown hK hP hS s1 rfl 0 (by decide) (htg _ k_411) (fun _ h9 => h9) rfl (by decide +kernel) rfl rfl (Nat.le_of_ble_eq_true rfl) rfl d_M_atomic_63 (fun H locs hP hS hz63 => ?_)
              obtain ⟨w_131, ew_131⟩ : ∃ z9, z9 = va_up w hm (some (.inr (ciM, [.int 2, .int (nI n), .ref aW, .ref aU, .ref aP, .ref aZ])) : Option va_E) := ⟨_, rfl⟩
              rw [← ew_131] at hP
              have h_132 : w_131 hm = some (.inr (ciM, [.int 2, .int (nI n), .ref aW, .ref aU, .ref aP, .ref aZ])) := by rw [ew_131, va_up_self]
              have h_133 : w_131 aW = some (.inl (cJ, 524288, .inr (.inl M))) := by rw [ew_131, va_up_ne _ _ (fun z => by rw [z, s1] at s2; cases s2)]; exact s2
              have h_134 : w_131 aU = some (.inl (cJ, 1024, .inr (.inl T))) := by rw [ew_131, va_up_ne _ _ (fun z => by rw [z, s1] at s3; cases s3)]; exact s3
              have h_135 : w_131 aP = some (.inl (cJ, 4, .inr (.inl pl))) := by rw [ew_131, va_up_ne _ _ (fun z => by rw [z, s1] at s4; cases s4)]; exact s4
              have h_136 : w_131 aZ = some (.inl (cI, 4, .inl sz)) := by rw [ew_131, va_up_ne _ _ (fun z => by rw [z, s1] at s5; cases s5)]; exact s5
              refine lv_aload_n hx hb d_M_atomic_66 rfl (lv_at hl 0 rfl) ?_
              refine mw_get (C := R_M) (T := T_M) (N := 6) (ci := ciM) (v := .int 2) hx hb htg i_M hown hK hP h_132 rfl 0 (by decide) (htg _ k_411) (fun _ h9 => h9) rfl d_M_atomic_67 ?_
              refine lv_if_le (tgt := 75) hx hb d_M_atomic_70 (by decide) (fun z => absurd z (by decide)) (fun _ => ?_)
              refine lv_lconst (v := 0) hx hb d_M_atomic_73 rfl ?_
              have hmo : mo cJ cI w_131 hm n 2 M T pl sz aW aU aP aZ := ⟨hn, h_132, h_133, h_134, h_135, h_136⟩
              have hkm : kM w w_131 hm aW aU aP aZ := fun q z1 z2 z3 z4 z5 => by rw [ew_131, va_up_ne _ _ z1]
              exact W.lret (v := 0) hx hb hr (fun t ht hW => ⟨⟨_, (w_131, M), rfl, ⟨hkm, Or.inr (Or.inl ⟨hk1, ⟨k, rfl, hk48, hno⟩, hmo⟩)⟩, hP.at ht⟩, hS.F ht⟩) hS.2.2 d_M_atomic_74
      · have hno : ¬ (szA sv ∧ isKd y) := fun q => by
          first
            | (rw [if_pos q.2] at hkd; rw [hkd] at c18; exact absurd c18 (by decide))
            | exact q.1.elim c4 c11
        refine lv_iconst (v := 1) hx hb d_M_atomic_21 (by decide) ?_
        refine lv_goto (tgt := 63) hx hb d_M_atomic_22 (by decide) ?_
        refine mw_put (C := R_M) (T := T_M) (N := 6) (ci := ciM) (v := .int 1) (ty := .int) (fs' := [.int 1, .int (nI n), .ref aW, .ref aU, .ref aP, .ref aZ]) hx hb htg i_M ty_M tk_M nm_M hown hK hP hS s1 rfl 0 (by decide) (htg _ k_411) (fun _ h9 => h9) rfl (by decide +kernel) rfl rfl (Nat.le_of_ble_eq_true rfl) rfl d_M_atomic_63 (fun H locs hP hS hz63 => ?_)
        obtain ⟨w_137, ew_137⟩ : ∃ z9, z9 = va_up w hm (some (.inr (ciM, [.int 1, .int (nI n), .ref aW, .ref aU, .ref aP, .ref aZ])) : Option va_E) := ⟨_, rfl⟩
        rw [← ew_137] at hP
        have h_138 : w_137 hm = some (.inr (ciM, [.int 1, .int (nI n), .ref aW, .ref aU, .ref aP, .ref aZ])) := by rw [ew_137, va_up_self]
        have h_139 : w_137 aW = some (.inl (cJ, 524288, .inr (.inl M))) := by rw [ew_137, va_up_ne _ _ (fun z => by rw [z, s1] at s2; cases s2)]; exact s2
        have h_140 : w_137 aU = some (.inl (cJ, 1024, .inr (.inl T))) := by rw [ew_137, va_up_ne _ _ (fun z => by rw [z, s1] at s3; cases s3)]; exact s3
        have h_141 : w_137 aP = some (.inl (cJ, 4, .inr (.inl pl))) := by rw [ew_137, va_up_ne _ _ (fun z => by rw [z, s1] at s4; cases s4)]; exact s4
        have h_142 : w_137 aZ = some (.inl (cI, 4, .inl sz)) := by rw [ew_137, va_up_ne _ _ (fun z => by rw [z, s1] at s5; cases s5)]; exact s5
        refine lv_aload_n hx hb d_M_atomic_66 rfl (lv_at hl 0 rfl) ?_
        refine mw_get (C := R_M) (T := T_M) (N := 6) (ci := ciM) (v := .int 1) hx hb htg i_M hown hK hP h_138 rfl 0 (by decide) (htg _ k_411) (fun _ h9 => h9) rfl d_M_atomic_67 ?_
        refine lv_if_le (tgt := 75) hx hb d_M_atomic_70 (by decide) (fun z => absurd z (by decide)) (fun _ => ?_)
        refine lv_lconst (v := 0) hx hb d_M_atomic_73 rfl ?_
        have hmo : mo cJ cI w_137 hm n 1 M T pl sz aW aU aP aZ := ⟨hn, h_138, h_139, h_140, h_141, h_142⟩
        have hkm : kM w w_137 hm aW aU aP aZ := fun q z1 z2 z3 z4 z5 => by rw [ew_137, va_up_ne _ _ z1]
        exact W.lret (v := 0) hx hb hr (fun t ht hW => ⟨⟨_, (w_137, M), rfl, ⟨hkm, Or.inl ⟨hno, hmo⟩⟩, hP.at ht⟩, hS.F ht⟩) hS.2.2 d_M_atomic_74
