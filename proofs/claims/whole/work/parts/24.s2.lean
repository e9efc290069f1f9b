abbrev isKd (x : Int32) : Prop := x = 0 ∨ x = 1 ∨ x = 2 ∨ x = 3 ∨ x = 4 ∨ x = 8 ∨ x = 12 ∨ x = 16 ∨ x = 20 ∨ x = 24 ∨ x = 28
def ult (a b : Int64) : Prop := a + (-9223372036854775808) < b + (-9223372036854775808)
def chg (x : Int32) (a b : Int64) : Int64 := if x = 0 then a + b else if x = 4 then a ^^^ b else if x = 8 then a ||| b else if x = 12 then a &&& b else if x = 16 then (if a < b then a else b) else if x = 20 then (if a < b then b else a) else if x = 24 then (if a + (-9223372036854775808) < b + (-9223372036854775808) then a else b) else if x = 28 then (if a + (-9223372036854775808) < b + (-9223372036854775808) then b else a) else b
theorem chg_0 (a b : Int64) : chg (nI 0) a b = a + b := by
  unfold chg
  rw [if_pos (by decide)]
theorem chg_4 (a b : Int64) : chg (nI 4) a b = a ^^^ b := by
  unfold chg
  rw [if_neg (by decide), if_pos (by decide)]
theorem chg_8 (a b : Int64) : chg (nI 8) a b = a ||| b := by
  unfold chg
  rw [if_neg (by decide), if_neg (by decide), if_pos (by decide)]
theorem chg_12 (a b : Int64) : chg (nI 12) a b = a &&& b := by
  unfold chg
  rw [if_neg (by decide), if_neg (by decide), if_neg (by decide), if_pos (by decide)]
theorem chg_16 (a b : Int64) : chg (nI 16) a b = (if a < b then a else b) := by
  unfold chg
  rw [if_neg (by decide), if_neg (by decide), if_neg (by decide), if_neg (by decide), if_pos (by decide)]
theorem chg_20 (a b : Int64) : chg (nI 20) a b = (if a < b then b else a) := by
  unfold chg
  rw [if_neg (by decide), if_neg (by decide), if_neg (by decide), if_neg (by decide), if_neg (by decide), if_pos (by decide)]
theorem chg_24 (a b : Int64) : chg (nI 24) a b = (if a + (-9223372036854775808) < b + (-9223372036854775808) then a else b) := by
  unfold chg
  rw [if_neg (by decide), if_neg (by decide), if_neg (by decide), if_neg (by decide), if_neg (by decide), if_neg (by decide), if_pos (by decide)]
theorem chg_28 (a b : Int64) : chg (nI 28) a b = (if a + (-9223372036854775808) < b + (-9223372036854775808) then b else a) := by
  unfold chg
  rw [if_neg (by decide), if_neg (by decide), if_neg (by decide), if_neg (by decide), if_neg (by decide), if_neg (by decide), if_neg (by decide), if_pos (by decide)]
set_option maxHeartbeats 4000000 in
set_option maxRecDepth 100000 in
theorem t_S_isKind (l : Launch) (D : va_G) (cJ cI cP : ClassId) (bs : Nat) (w : Nat → Option va_E) (x : Int32) : Met l y_S_isKind ws_S_isKind ({ frames := 0, cells := 0, slots := 0, locals := 0 }) (mPc D vwCl (mT cJ cI cP) bs w [.int x]) (va_Qi (S := Unit) (fun r _ => r = if isKd x then 1 else 0) (mB D vwCl bs (fun _ => w)) (mA bs)) 0 0 (mA bs) := by
  refine Met.ofW (cc := c_S_isKind) (maxL := 1) (ret := (some .boolean)) (by decide) rfl ?_
  intro p e s m args below meth c s₁ B hml hv
  obtain ⟨rfl, hbs, hP, hK⟩ := hv
  have hx := B.exec
  have hb := B.bytes
  have hr := B.returns
  have htg : ∀ w ∈ gt, w.before _ s = true := fun w h => atoms_spec (ws := ws_S_isKind) B.pre w (List.mem_cons_of_mem _ h)
  have hown : s.vm.findClass R_S = some m.cls := findClass_of_methodNamed B.named
  have hlocks := B.notSynchronized
  have hS : va_S (mA bs) s.heap s.heap [] := va_S.rf
  have hl := lv_entry ([.int x]) (n := 1) (Nat.le_of_ble_eq_true rfl)
  rw [lg_entry_eq]
  generalize (lg_sl ([.int x]) ++ List.replicate (1 - (lg_sl ([.int x])).length) Slot.unset).toArray = ls at hl ⊢
  have hl : lv_has ls 1 [(0, .int x)] := hl
  refine lv_iload_n hx hb d_S_isKind_0 rfl (lv_at hl 0 rfl) ?_
  rcases pk_ix x (n := 29) (by decide) with csw | csw | ⟨jsw, csw, esw⟩
  · refine lv_tableOut (tgt := 134) hx hb d_S_isKind_1 (Or.inl (by have h := (Int32.lt_iff_toInt_lt).mp csw; exact h)) (by decide) ?_
    refine lv_iconst (v := 0) hx hb d_S_isKind_134 (by decide) ?_
    exact W.zret (v := 0) hx hb hr rfl (fun t ht hW => ⟨⟨_, (), rfl, by rw [if_neg (fun z => by rcases z with rfl | rfl | rfl | rfl | rfl | rfl | rfl | rfl | rfl | rfl | rfl <;> exact absurd csw (by decide))], hP.at ht⟩, hS.F ht⟩) hS.2.2 d_S_isKind_135
  · refine lv_tableOut (tgt := 134) hx hb d_S_isKind_1 (Or.inr (by have h := (Int32.le_iff_toInt_le).mp csw; rw [nI_toInt (by decide)] at h; omega)) (by decide) ?_
    refine lv_iconst (v := 0) hx hb d_S_isKind_134 (by decide) ?_
    exact W.zret (v := 0) hx hb hr rfl (fun t ht hW => ⟨⟨_, (), rfl, by rw [if_neg (fun z => by rcases z with rfl | rfl | rfl | rfl | rfl | rfl | rfl | rfl | rfl | rfl | rfl <;> exact absurd csw (by decide))], hP.at ht⟩, hS.F ht⟩) hS.2.2 d_S_isKind_135
  · rcases (show jsw = 0 ∨ jsw = 1 ∨ jsw = 2 ∨ jsw = 3 ∨ jsw = 4 ∨ jsw = 5 ∨ jsw = 6 ∨ jsw = 7 ∨ jsw = 8 ∨ jsw = 9 ∨ jsw = 10 ∨ jsw = 11 ∨ jsw = 12 ∨ jsw = 13 ∨ jsw = 14 ∨ jsw = 15 ∨ jsw = 16 ∨ jsw = 17 ∨ jsw = 18 ∨ jsw = 19 ∨ jsw = 20 ∨ jsw = 21 ∨ jsw = 22 ∨ jsw = 23 ∨ jsw = 24 ∨ jsw = 25 ∨ jsw = 26 ∨ jsw = 27 ∨ jsw = 28 by omega) with rfl | rfl | rfl | rfl | rfl | rfl | rfl | rfl | rfl | rfl | rfl | rfl | rfl | rfl | rfl | rfl | rfl | rfl | rfl | rfl | rfl | rfl | rfl | rfl | rfl | rfl | rfl | rfl | rfl
    · subst esw
      have hl : lv_has ls 1 [(0, .int (nI 0))] := hl
      refine lv_tableIn (off := 131) (tgt := 132) hx hb d_S_isKind_1 (by decide) (by decide) (by decide) (by decide) ?_
      refine lv_iconst (v := 1) hx hb d_S_isKind_132 (by decide) ?_
      exact W.zret (v := 1) hx hb hr rfl (fun t ht hW => ⟨⟨_, (), rfl, by decide, hP.at ht⟩, hS.F ht⟩) hS.2.2 d_S_isKind_133
    · subst esw
      have hl : lv_has ls 1 [(0, .int (nI 1))] := hl
      refine lv_tableIn (off := 131) (tgt := 132) hx hb d_S_isKind_1 (by decide) (by decide) (by decide) (by decide) ?_
      refine lv_iconst (v := 1) hx hb d_S_isKind_132 (by decide) ?_
      exact W.zret (v := 1) hx hb hr rfl (fun t ht hW => ⟨⟨_, (), rfl, by decide, hP.at ht⟩, hS.F ht⟩) hS.2.2 d_S_isKind_133
    · subst esw
      have hl : lv_has ls 1 [(0, .int (nI 2))] := hl
      refine lv_tableIn (off := 131) (tgt := 132) hx hb d_S_isKind_1 (by decide) (by decide) (by decide) (by decide) ?_
      refine lv_iconst (v := 1) hx hb d_S_isKind_132 (by decide) ?_
      exact W.zret (v := 1) hx hb hr rfl (fun t ht hW => ⟨⟨_, (), rfl, by decide, hP.at ht⟩, hS.F ht⟩) hS.2.2 d_S_isKind_133
    · subst esw
      have hl : lv_has ls 1 [(0, .int (nI 3))] := hl
      refine lv_tableIn (off := 131) (tgt := 132) hx hb d_S_isKind_1 (by decide) (by decide) (by decide) (by decide) ?_
      refine lv_iconst (v := 1) hx hb d_S_isKind_132 (by decide) ?_
      exact W.zret (v := 1) hx hb hr rfl (fun t ht hW => ⟨⟨_, (), rfl, by decide, hP.at ht⟩, hS.F ht⟩) hS.2.2 d_S_isKind_133
    · subst esw
      have hl : lv_has ls 1 [(0, .int (nI 4))] := hl
      refine lv_tableIn (off := 131) (tgt := 132) hx hb d_S_isKind_1 (by decide) (by decide) (by decide) (by decide) ?_
      refine lv_iconst (v := 1) hx hb d_S_isKind_132 (by decide) ?_
      exact W.zret (v := 1) hx hb hr rfl (fun t ht hW => ⟨⟨_, (), rfl, by decide, hP.at ht⟩, hS.F ht⟩) hS.2.2 d_S_isKind_133
    · subst esw
      have hl : lv_has ls 1 [(0, .int (nI 5))] := hl
      refine lv_tableIn (off := 133) (tgt := 134) hx hb d_S_isKind_1 (by decide) (by decide) (by decide) (by decide) ?_
      refine lv_iconst (v := 0) hx hb d_S_isKind_134 (by decide) ?_
      exact W.zret (v := 0) hx hb hr rfl (fun t ht hW => ⟨⟨_, (), rfl, by decide, hP.at ht⟩, hS.F ht⟩) hS.2.2 d_S_isKind_135
    · subst esw
      have hl : lv_has ls 1 [(0, .int (nI 6))] := hl
      refine lv_tableIn (off := 133) (tgt := 134) hx hb d_S_isKind_1 (by decide) (by decide) (by decide) (by decide) ?_
      refine lv_iconst (v := 0) hx hb d_S_isKind_134 (by decide) ?_
      exact W.zret (v := 0) hx hb hr rfl (fun t ht hW => ⟨⟨_, (), rfl, by decide, hP.at ht⟩, hS.F ht⟩) hS.2.2 d_S_isKind_135
    · subst esw
      have hl : lv_has ls 1 [(0, .int (nI 7))] := hl
      refine lv_tableIn (off := 133) (tgt := 134) hx hb d_S_isKind_1 (by decide) (by decide) (by decide) (by decide) ?_
      refine lv_iconst (v := 0) hx hb d_S_isKind_134 (by decide) ?_
      exact W.zret (v := 0) hx hb hr rfl (fun t ht hW => ⟨⟨_, (), rfl, by decide, hP.at ht⟩, hS.F ht⟩) hS.2.2 d_S_isKind_135
    · subst esw
      have hl : lv_has ls 1 [(0, .int (nI 8))] := hl
      refine lv_tableIn (off := 131) (tgt := 132) hx hb d_S_isKind_1 (by decide) (by decide) (by decide) (by decide) ?_
      refine lv_iconst (v := 1) hx hb d_S_isKind_132 (by decide) ?_
      exact W.zret (v := 1) hx hb hr rfl (fun t ht hW => ⟨⟨_, (), rfl, by decide, hP.at ht⟩, hS.F ht⟩) hS.2.2 d_S_isKind_133
    · subst esw
      have hl : lv_has ls 1 [(0, .int (nI 9))] := hl
      refine lv_tableIn (off := 133) (tgt := 134) hx hb d_S_isKind_1 (by decide) (by decide) (by decide) (by decide) ?_
      refine lv_iconst (v := 0) hx hb d_S_isKind_134 (by decide) ?_
      exact W.zret (v := 0) hx hb hr rfl (fun t ht hW => ⟨⟨_, (), rfl, by decide, hP.at ht⟩, hS.F ht⟩) hS.2.2 d_S_isKind_135
    · subst esw
      have hl : lv_has ls 1 [(0, .int (nI 10))] := hl
      refine lv_tableIn (off := 133) (tgt := 134) hx hb d_S_isKind_1 (by decide) (by decide) (by decide) (by decide) ?_
      refine lv_iconst (v := 0) hx hb d_S_isKind_134 (by decide) ?_
      exact W.zret (v := 0) hx hb hr rfl (fun t ht hW => ⟨⟨_, (), rfl, by decide, hP.at ht⟩, hS.F ht⟩) hS.2.2 d_S_isKind_135
    · subst esw
      have hl : lv_has ls 1 [(0, .int (nI 11))] := hl
      refine lv_tableIn (off := 133) (tgt := 134) hx hb d_S_isKind_1 (by decide) (by decide) (by decide) (by decide) ?_
      refine lv_iconst (v := 0) hx hb d_S_isKind_134 (by decide) ?_
      exact W.zret (v := 0) hx hb hr rfl (fun t ht hW => ⟨⟨_, (), rfl, by decide, hP.at ht⟩, hS.F ht⟩) hS.2.2 d_S_isKind_135
    · subst esw
      have hl : lv_has ls 1 [(0, .int (nI 12))] := hl
      refine lv_tableIn (off := 131) (tgt := 132) hx hb d_S_isKind_1 (by decide) (by decide) (by decide) (by decide) ?_
      refine lv_iconst (v := 1) hx hb d_S_isKind_132 (by decide) ?_
      exact W.zret (v := 1) hx hb hr rfl (fun t ht hW => ⟨⟨_, (), rfl, by decide, hP.at ht⟩, hS.F ht⟩) hS.2.2 d_S_isKind_133
    · subst esw
      have hl : lv_has ls 1 [(0, .int (nI 13))] := hl
      refine lv_tableIn (off := 133) (tgt := 134) hx hb d_S_isKind_1 (by decide) (by decide) (by decide) (by decide) ?_
      refine lv_iconst (v := 0) hx hb d_S_isKind_134 (by decide) ?_
      exact W.zret (v := 0) hx hb hr rfl (fun t ht hW => ⟨⟨_, (), rfl, by decide, hP.at ht⟩, hS.F ht⟩) hS.2.2 d_S_isKind_135
    · subst esw
      have hl : lv_has ls 1 [(0, .int (nI 14))] := hl
      refine lv_tableIn (off := 133) (tgt := 134) hx hb d_S_isKind_1 (by decide) (by decide) (by decide) (by decide) ?_
      refine lv_iconst (v := 0) hx hb d_S_isKind_134 (by decide) ?_
      exact W.zret (v := 0) hx hb hr rfl (fun t ht hW => ⟨⟨_, (), rfl, by decide, hP.at ht⟩, hS.F ht⟩) hS.2.2 d_S_isKind_135
    · subst esw
      have hl : lv_has ls 1 [(0, .int (nI 15))] := hl
      refine lv_tableIn (off := 133) (tgt := 134) hx hb d_S_isKind_1 (by decide) (by decide) (by decide) (by decide) ?_
      refine lv_iconst (v := 0) hx hb d_S_isKind_134 (by decide) ?_
      exact W.zret (v := 0) hx hb hr rfl (fun t ht hW => ⟨⟨_, (), rfl, by decide, hP.at ht⟩, hS.F ht⟩) hS.2.2 d_S_isKind_135
    · subst esw
      have hl : lv_has ls 1 [(0, .int (nI 16))] := hl
      refine lv_tableIn (off := 131) (tgt := 132) hx hb d_S_isKind_1 (by decide) (by decide) (by decide) (by decide) ?_
      refine lv_iconst (v := 1) hx hb d_S_isKind_132 (by decide) ?_
      exact W.zret (v := 1) hx hb hr rfl (fun t ht hW => ⟨⟨_, (), rfl, by decide, hP.at ht⟩, hS.F ht⟩) hS.2.2 d_S_isKind_133
    · subst esw
      have hl : lv_has ls 1 [(0, .int (nI 17))] := hl
      refine lv_tableIn (off := 133) (tgt := 134) hx hb d_S_isKind_1 (by decide) (by decide) (by decide) (by decide) ?_
      refine lv_iconst (v := 0) hx hb d_S_isKind_134 (by decide) ?_
      exact W.zret (v := 0) hx hb hr rfl (fun t ht hW => ⟨⟨_, (), rfl, by decide, hP.at ht⟩, hS.F ht⟩) hS.2.2 d_S_isKind_135
    · subst esw
      have hl : lv_has ls 1 [(0, .int (nI 18))] := hl
      refine lv_tableIn (off := 133) (tgt := 134) hx hb d_S_isKind_1 (by decide) (by decide) (by decide) (by decide) ?_
      refine lv_iconst (v := 0) hx hb d_S_isKind_134 (by decide) ?_
      exact W.zret (v := 0) hx hb hr rfl (fun t ht hW => ⟨⟨_, (), rfl, by decide, hP.at ht⟩, hS.F ht⟩) hS.2.2 d_S_isKind_135
    · subst esw
      have hl : lv_has ls 1 [(0, .int (nI 19))] := hl
      refine lv_tableIn (off := 133) (tgt := 134) hx hb d_S_isKind_1 (by decide) (by decide) (by decide) (by decide) ?_
      refine lv_iconst (v := 0) hx hb d_S_isKind_134 (by decide) ?_
      exact W.zret (v := 0) hx hb hr rfl (fun t ht hW => ⟨⟨_, (), rfl, by decide, hP.at ht⟩, hS.F ht⟩) hS.2.2 d_S_isKind_135
    · subst esw
      have hl : lv_has ls 1 [(0, .int (nI 20))] := hl
      refine lv_tableIn (off := 131) (tgt := 132) hx hb d_S_isKind_1 (by decide) (by decide) (by decide) (by decide) ?_
      refine lv_iconst (v := 1) hx hb d_S_isKind_132 (by decide) ?_
      exact W.zret (v := 1) hx hb hr rfl (fun t ht hW => ⟨⟨_, (), rfl, by decide, hP.at ht⟩, hS.F ht⟩) hS.2.2 d_S_isKind_133
    · subst esw
      have hl : lv_has ls 1 [(0, .int (nI 21))] := hl
      refine lv_tableIn (off := 133) (tgt := 134) hx hb d_S_isKind_1 (by decide) (by decide) (by decide) (by decide) ?_
      refine lv_iconst (v := 0) hx hb d_S_isKind_134 (by decide) ?_
      exact W.zret (v := 0) hx hb hr rfl (fun t ht hW => ⟨⟨_, (), rfl, by decide, hP.at ht⟩, hS.F ht⟩) hS.2.2 d_S_isKind_135
    · subst esw
      have hl : lv_has ls 1 [(0, .int (nI 22))] := hl
      refine lv_tableIn (off := 133) (tgt := 134) hx hb d_S_isKind_1 (by decide) (by decide) (by decide) (by decide) ?_
      refine lv_iconst (v := 0) hx hb d_S_isKind_134 (by decide) ?_
      exact W.zret (v := 0) hx hb hr rfl (fun t ht hW => ⟨⟨_, (), rfl, by decide, hP.at ht⟩, hS.F ht⟩) hS.2.2 d_S_isKind_135
    · subst esw
      have hl : lv_has ls 1 [(0, .int (nI 23))] := hl
      refine lv_tableIn (off := 133) (tgt := 134) hx hb d_S_isKind_1 (by decide) (by decide) (by decide) (by decide) ?_
      refine lv_iconst (v := 0) hx hb d_S_isKind_134 (by decide) ?_
      exact W.zret (v := 0) hx hb hr rfl (fun t ht hW => ⟨⟨_, (), rfl, by decide, hP.at ht⟩, hS.F ht⟩) hS.2.2 d_S_isKind_135
    · subst esw
      have hl : lv_has ls 1 [(0, .int (nI 24))] := hl
      refine lv_tableIn (off := 131) (tgt := 132) hx hb d_S_isKind_1 (by decide) (by decide) (by decide) (by decide) ?_
      refine lv_iconst (v := 1) hx hb d_S_isKind_132 (by decide) ?_
      exact W.zret (v := 1) hx hb hr rfl (fun t ht hW => ⟨⟨_, (), rfl, by decide, hP.at ht⟩, hS.F ht⟩) hS.2.2 d_S_isKind_133
    · subst esw
      have hl : lv_has ls 1 [(0, .int (nI 25))] := hl
      refine lv_tableIn (off := 133) (tgt := 134) hx hb d_S_isKind_1 (by decide) (by decide) (by decide) (by decide) ?_
      refine lv_iconst (v := 0) hx hb d_S_isKind_134 (by decide) ?_
      exact W.zret (v := 0) hx hb hr rfl (fun t ht hW => ⟨⟨_, (), rfl, by decide, hP.at ht⟩, hS.F ht⟩) hS.2.2 d_S_isKind_135
    · subst esw
      have hl : lv_has ls 1 [(0, .int (nI 26))] := hl
      refine lv_tableIn (off := 133) (tgt := 134) hx hb d_S_isKind_1 (by decide) (by decide) (by decide) (by decide) ?_
      refine lv_iconst (v := 0) hx hb d_S_isKind_134 (by decide) ?_
      exact W.zret (v := 0) hx hb hr rfl (fun t ht hW => ⟨⟨_, (), rfl, by decide, hP.at ht⟩, hS.F ht⟩) hS.2.2 d_S_isKind_135
    · subst esw
      have hl : lv_has ls 1 [(0, .int (nI 27))] := hl
      refine lv_tableIn (off := 133) (tgt := 134) hx hb d_S_isKind_1 (by decide) (by decide) (by decide) (by decide) ?_
      refine lv_iconst (v := 0) hx hb d_S_isKind_134 (by decide) ?_
      exact W.zret (v := 0) hx hb hr rfl (fun t ht hW => ⟨⟨_, (), rfl, by decide, hP.at ht⟩, hS.F ht⟩) hS.2.2 d_S_isKind_135
    · subst esw
      have hl : lv_has ls 1 [(0, .int (nI 28))] := hl
      refine lv_tableIn (off := 131) (tgt := 132) hx hb d_S_isKind_1 (by decide) (by decide) (by decide) (by decide) ?_
      refine lv_iconst (v := 1) hx hb d_S_isKind_132 (by decide) ?_
      exact W.zret (v := 1) hx hb hr rfl (fun t ht hW => ⟨⟨_, (), rfl, by decide, hP.at ht⟩, hS.F ht⟩) hS.2.2 d_S_isKind_133
set_option maxHeartbeats 4000000 in
set_option maxRecDepth 100000 in
theorem t_S_changed (l : Launch) (D : va_G) (cJ cI cP : ClassId) (bs : Nat) (w : Nat → Option va_E) (x : Int32) (a b : Int64) : Met l y_S_changed ws_S_changed ({ frames := 1, cells := 0, slots := 0, locals := 30 }) (mPc D vwCl (mT cJ cI cP) bs w [.int x, .long a, .long b]) (va_Ql (S := Unit) (fun r _ => r = chg x a b) (mB D vwCl bs (fun _ => w)) (mA bs)) 0 0 (mA bs) := by
  refine Met.ofW (cc := c_S_changed) (maxL := 5) (ret := (some .long)) (by decide) rfl ?_
  intro p e s m args below meth c s₁ B hml hv
  obtain ⟨rfl, hbs, hP, hK⟩ := hv
  have hx := B.exec
  have hb := B.bytes
  have hr := B.returns
  have htg : ∀ w ∈ gt, w.before _ s = true := fun w h => atoms_spec (ws := ws_S_changed) B.pre w (List.mem_cons_of_mem _ h)
  have hown : s.vm.findClass R_S = some m.cls := findClass_of_methodNamed B.named
  have hlocks := B.notSynchronized
  have hS : va_S (mA bs) s.heap s.heap [] := va_S.rf
  have hl := lv_entry ([.int x, .long a, .long b]) (n := 5) (Nat.le_of_ble_eq_true rfl)
  rw [lg_entry_eq]
  generalize (lg_sl ([.int x, .long a, .long b]) ++ List.replicate (5 - (lg_sl ([.int x, .long a, .long b])).length) Slot.unset).toArray = ls at hl ⊢
  have hl : lv_has ls 5 [(0, .int x), (1, .long a), (3, .long b)] := hl
  refine lv_iload_n hx hb d_S_changed_0 rfl (lv_at hl 0 rfl) ?_
  rcases pk_ix x (n := 29) (by decide) with csw | csw | ⟨jsw, csw, esw⟩
  · refine lv_tableOut (tgt := 188) hx hb d_S_changed_1 (Or.inl (by have h := (Int32.lt_iff_toInt_lt).mp csw; exact h)) (by decide) ?_
    refine lv_lload_n hx hb d_S_changed_188 rfl (lv_at hl 2 rfl) ?_
    exact W.lret (v := b) hx hb hr (fun t ht hW => ⟨⟨_, (), rfl, by unfold chg; repeat rw [if_neg (fun z => by rw [z] at csw; exact absurd csw (by decide))], hP.at ht⟩, hS.F ht⟩) hS.2.2 d_S_changed_189
  · refine lv_tableOut (tgt := 188) hx hb d_S_changed_1 (Or.inr (by have h := (Int32.le_iff_toInt_le).mp csw; rw [nI_toInt (by decide)] at h; omega)) (by decide) ?_
    refine lv_lload_n hx hb d_S_changed_188 rfl (lv_at hl 2 rfl) ?_
    exact W.lret (v := b) hx hb hr (fun t ht hW => ⟨⟨_, (), rfl, by unfold chg; repeat rw [if_neg (fun z => by rw [z] at csw; exact absurd csw (by decide))], hP.at ht⟩, hS.F ht⟩) hS.2.2 d_S_changed_189
  · rcases (show jsw = 0 ∨ jsw = 1 ∨ jsw = 2 ∨ jsw = 3 ∨ jsw = 4 ∨ jsw = 5 ∨ jsw = 6 ∨ jsw = 7 ∨ jsw = 8 ∨ jsw = 9 ∨ jsw = 10 ∨ jsw = 11 ∨ jsw = 12 ∨ jsw = 13 ∨ jsw = 14 ∨ jsw = 15 ∨ jsw = 16 ∨ jsw = 17 ∨ jsw = 18 ∨ jsw = 19 ∨ jsw = 20 ∨ jsw = 21 ∨ jsw = 22 ∨ jsw = 23 ∨ jsw = 24 ∨ jsw = 25 ∨ jsw = 26 ∨ jsw = 27 ∨ jsw = 28 by omega) with rfl | rfl | rfl | rfl | rfl | rfl | rfl | rfl | rfl | rfl | rfl | rfl | rfl | rfl | rfl | rfl | rfl | rfl | rfl | rfl | rfl | rfl | rfl | rfl | rfl | rfl | rfl | rfl | rfl
    · subst esw
      have hl : lv_has ls 5 [(0, .int (nI 0)), (1, .long a), (3, .long b)] := hl
      refine lv_tableIn (off := 131) (tgt := 132) hx hb d_S_changed_1 (by decide) (by decide) (by decide) (by decide) ?_
      refine lv_lload_n hx hb d_S_changed_132 rfl (lv_at hl 1 rfl) ?_
      refine lv_lload_n hx hb d_S_changed_133 rfl (lv_at hl 2 rfl) ?_
      refine lv_ladd hx hb d_S_changed_134 ?_
      exact W.lret (v := a + b) hx hb hr (fun t ht hW => ⟨⟨_, (), rfl, by unfold chg; rfl, hP.at ht⟩, hS.F ht⟩) hS.2.2 d_S_changed_135
    · subst esw
      have hl : lv_has ls 5 [(0, .int (nI 1)), (1, .long a), (3, .long b)] := hl
      refine lv_tableIn (off := 187) (tgt := 188) hx hb d_S_changed_1 (by decide) (by decide) (by decide) (by decide) ?_
      refine lv_lload_n hx hb d_S_changed_188 rfl (lv_at hl 2 rfl) ?_
      exact W.lret (v := b) hx hb hr (fun t ht hW => ⟨⟨_, (), rfl, by unfold chg; rfl, hP.at ht⟩, hS.F ht⟩) hS.2.2 d_S_changed_189
    · subst esw
      have hl : lv_has ls 5 [(0, .int (nI 2)), (1, .long a), (3, .long b)] := hl
      refine lv_tableIn (off := 187) (tgt := 188) hx hb d_S_changed_1 (by decide) (by decide) (by decide) (by decide) ?_
      refine lv_lload_n hx hb d_S_changed_188 rfl (lv_at hl 2 rfl) ?_
      exact W.lret (v := b) hx hb hr (fun t ht hW => ⟨⟨_, (), rfl, by unfold chg; rfl, hP.at ht⟩, hS.F ht⟩) hS.2.2 d_S_changed_189
    · subst esw
      have hl : lv_has ls 5 [(0, .int (nI 3)), (1, .long a), (3, .long b)] := hl
      refine lv_tableIn (off := 187) (tgt := 188) hx hb d_S_changed_1 (by decide) (by decide) (by decide) (by decide) ?_
      refine lv_lload_n hx hb d_S_changed_188 rfl (lv_at hl 2 rfl) ?_
      exact W.lret (v := b) hx hb hr (fun t ht hW => ⟨⟨_, (), rfl, by unfold chg; rfl, hP.at ht⟩, hS.F ht⟩) hS.2.2 d_S_changed_189
    · subst esw
      have hl : lv_has ls 5 [(0, .int (nI 4)), (1, .long a), (3, .long b)] := hl
      refine lv_tableIn (off := 135) (tgt := 136) hx hb d_S_changed_1 (by decide) (by decide) (by decide) (by decide) ?_
      refine lv_lload_n hx hb d_S_changed_136 rfl (lv_at hl 1 rfl) ?_
      refine lv_lload_n hx hb d_S_changed_137 rfl (lv_at hl 2 rfl) ?_
      refine lv_lxor hx hb d_S_changed_138 ?_
      exact W.lret (v := a ^^^ b) hx hb hr (fun t ht hW => ⟨⟨_, (), rfl, by unfold chg; rfl, hP.at ht⟩, hS.F ht⟩) hS.2.2 d_S_changed_139
    · subst esw
      have hl : lv_has ls 5 [(0, .int (nI 5)), (1, .long a), (3, .long b)] := hl
      refine lv_tableIn (off := 187) (tgt := 188) hx hb d_S_changed_1 (by decide) (by decide) (by decide) (by decide) ?_
      refine lv_lload_n hx hb d_S_changed_188 rfl (lv_at hl 2 rfl) ?_
      exact W.lret (v := b) hx hb hr (fun t ht hW => ⟨⟨_, (), rfl, by unfold chg; rfl, hP.at ht⟩, hS.F ht⟩) hS.2.2 d_S_changed_189
    · subst esw
      have hl : lv_has ls 5 [(0, .int (nI 6)), (1, .long a), (3, .long b)] := hl
      refine lv_tableIn (off := 187) (tgt := 188) hx hb d_S_changed_1 (by decide) (by decide) (by decide) (by decide) ?_
      refine lv_lload_n hx hb d_S_changed_188 rfl (lv_at hl 2 rfl) ?_
      exact W.lret (v := b) hx hb hr (fun t ht hW => ⟨⟨_, (), rfl, by unfold chg; rfl, hP.at ht⟩, hS.F ht⟩) hS.2.2 d_S_changed_189
    · subst esw
      have hl : lv_has ls 5 [(0, .int (nI 7)), (1, .long a), (3, .long b)] := hl
      refine lv_tableIn (off := 187) (tgt := 188) hx hb d_S_changed_1 (by decide) (by decide) (by decide) (by decide) ?_
      refine lv_lload_n hx hb d_S_changed_188 rfl (lv_at hl 2 rfl) ?_
      exact W.lret (v := b) hx hb hr (fun t ht hW => ⟨⟨_, (), rfl, by unfold chg; rfl, hP.at ht⟩, hS.F ht⟩) hS.2.2 d_S_changed_189
    · subst esw
      have hl : lv_has ls 5 [(0, .int (nI 8)), (1, .long a), (3, .long b)] := hl
      refine lv_tableIn (off := 139) (tgt := 140) hx hb d_S_changed_1 (by decide) (by decide) (by decide) (by decide) ?_
      refine lv_lload_n hx hb d_S_changed_140 rfl (lv_at hl 1 rfl) ?_
      refine lv_lload_n hx hb d_S_changed_141 rfl (lv_at hl 2 rfl) ?_
      refine lv_lor hx hb d_S_changed_142 ?_
      exact W.lret (v := a ||| b) hx hb hr (fun t ht hW => ⟨⟨_, (), rfl, by unfold chg; rfl, hP.at ht⟩, hS.F ht⟩) hS.2.2 d_S_changed_143
    · subst esw
      have hl : lv_has ls 5 [(0, .int (nI 9)), (1, .long a), (3, .long b)] := hl
      refine lv_tableIn (off := 187) (tgt := 188) hx hb d_S_changed_1 (by decide) (by decide) (by decide) (by decide) ?_
      refine lv_lload_n hx hb d_S_changed_188 rfl (lv_at hl 2 rfl) ?_
      exact W.lret (v := b) hx hb hr (fun t ht hW => ⟨⟨_, (), rfl, by unfold chg; rfl, hP.at ht⟩, hS.F ht⟩) hS.2.2 d_S_changed_189
    · subst esw
      have hl : lv_has ls 5 [(0, .int (nI 10)), (1, .long a), (3, .long b)] := hl
      refine lv_tableIn (off := 187) (tgt := 188) hx hb d_S_changed_1 (by decide) (by decide) (by decide) (by decide) ?_
      refine lv_lload_n hx hb d_S_changed_188 rfl (lv_at hl 2 rfl) ?_
      exact W.lret (v := b) hx hb hr (fun t ht hW => ⟨⟨_, (), rfl, by unfold chg; rfl, hP.at ht⟩, hS.F ht⟩) hS.2.2 d_S_changed_189
    · subst esw
      have hl : lv_has ls 5 [(0, .int (nI 11)), (1, .long a), (3, .long b)] := hl
      refine lv_tableIn (off := 187) (tgt := 188) hx hb d_S_changed_1 (by decide) (by decide) (by decide) (by decide) ?_
      refine lv_lload_n hx hb d_S_changed_188 rfl (lv_at hl 2 rfl) ?_
      exact W.lret (v := b) hx hb hr (fun t ht hW => ⟨⟨_, (), rfl, by unfold chg; rfl, hP.at ht⟩, hS.F ht⟩) hS.2.2 d_S_changed_189
    · subst esw
      have hl : lv_has ls 5 [(0, .int (nI 12)), (1, .long a), (3, .long b)] := hl
      refine lv_tableIn (off := 143) (tgt := 144) hx hb d_S_changed_1 (by decide) (by decide) (by decide) (by decide) ?_
      refine lv_lload_n hx hb d_S_changed_144 rfl (lv_at hl 1 rfl) ?_
      refine lv_lload_n hx hb d_S_changed_145 rfl (lv_at hl 2 rfl) ?_
      refine lv_land hx hb d_S_changed_146 ?_
      exact W.lret (v := a &&& b) hx hb hr (fun t ht hW => ⟨⟨_, (), rfl, by unfold chg; rfl, hP.at ht⟩, hS.F ht⟩) hS.2.2 d_S_changed_147
    · subst esw
      have hl : lv_has ls 5 [(0, .int (nI 13)), (1, .long a), (3, .long b)] := hl
      refine lv_tableIn (off := 187) (tgt := 188) hx hb d_S_changed_1 (by decide) (by decide) (by decide) (by decide) ?_
      refine lv_lload_n hx hb d_S_changed_188 rfl (lv_at hl 2 rfl) ?_
      exact W.lret (v := b) hx hb hr (fun t ht hW => ⟨⟨_, (), rfl, by unfold chg; rfl, hP.at ht⟩, hS.F ht⟩) hS.2.2 d_S_changed_189
    · subst esw
      have hl : lv_has ls 5 [(0, .int (nI 14)), (1, .long a), (3, .long b)] := hl
      refine lv_tableIn (off := 187) (tgt := 188) hx hb d_S_changed_1 (by decide) (by decide) (by decide) (by decide) ?_
      refine lv_lload_n hx hb d_S_changed_188 rfl (lv_at hl 2 rfl) ?_
      exact W.lret (v := b) hx hb hr (fun t ht hW => ⟨⟨_, (), rfl, by unfold chg; rfl, hP.at ht⟩, hS.F ht⟩) hS.2.2 d_S_changed_189
    · subst esw
      have hl : lv_has ls 5 [(0, .int (nI 15)), (1, .long a), (3, .long b)] := hl
      refine lv_tableIn (off := 187) (tgt := 188) hx hb d_S_changed_1 (by decide) (by decide) (by decide) (by decide) ?_
      refine lv_lload_n hx hb d_S_changed_188 rfl (lv_at hl 2 rfl) ?_
      exact W.lret (v := b) hx hb hr (fun t ht hW => ⟨⟨_, (), rfl, by unfold chg; rfl, hP.at ht⟩, hS.F ht⟩) hS.2.2 d_S_changed_189
    · subst esw
      have hl : lv_has ls 5 [(0, .int (nI 16)), (1, .long a), (3, .long b)] := hl
      refine lv_tableIn (off := 147) (tgt := 148) hx hb d_S_changed_1 (by decide) (by decide) (by decide) (by decide) ?_
      refine lv_lload_n hx hb d_S_changed_148 rfl (lv_at hl 1 rfl) ?_
      refine lv_lload_n hx hb d_S_changed_149 rfl (lv_at hl 2 rfl) ?_
      refine va_mmin_long (own := R_S) hx hb (hml.trans hl.1.symm) hown (htg _ k_351) (htg _ k_352) (htg _ k_34) (htg _ k_353) (Nat.le_of_ble_eq_true rfl) (Nat.le_of_ble_eq_true rfl) (Nat.le_of_ble_eq_true rfl) (Nat.le_of_ble_eq_true rfl) d_S_changed_150 ?_
      have hmm : (if b < a then b else a) = chg (nI 16) a b := by
        rw [chg_16]
        by_cases h1 : b < a
        · rw [if_pos h1, if_neg (Int64.not_lt.mpr (Int64.le_of_lt h1))]
        · rw [if_neg h1]
          by_cases h2 : a < b
          · rw [if_pos h2]
          · rw [if_neg h2]; first | exact Int64.le_antisymm (Int64.not_lt.mp h1) (Int64.not_lt.mp h2) | exact Int64.le_antisymm (Int64.not_lt.mp h2) (Int64.not_lt.mp h1) | rfl
      exact W.lret (v := if b < a then b else a) hx hb hr (fun t ht hW => ⟨⟨_, (), rfl, hmm, hP.at ht⟩, hS.F ht⟩) hS.2.2 d_S_changed_153
    · subst esw
      have hl : lv_has ls 5 [(0, .int (nI 17)), (1, .long a), (3, .long b)] := hl
      refine lv_tableIn (off := 187) (tgt := 188) hx hb d_S_changed_1 (by decide) (by decide) (by decide) (by decide) ?_
      refine lv_lload_n hx hb d_S_changed_188 rfl (lv_at hl 2 rfl) ?_
      exact W.lret (v := b) hx hb hr (fun t ht hW => ⟨⟨_, (), rfl, by unfold chg; rfl, hP.at ht⟩, hS.F ht⟩) hS.2.2 d_S_changed_189
    · subst esw
      have hl : lv_has ls 5 [(0, .int (nI 18)), (1, .long a), (3, .long b)] := hl
      refine lv_tableIn (off := 187) (tgt := 188) hx hb d_S_changed_1 (by decide) (by decide) (by decide) (by decide) ?_
      refine lv_lload_n hx hb d_S_changed_188 rfl (lv_at hl 2 rfl) ?_
      exact W.lret (v := b) hx hb hr (fun t ht hW => ⟨⟨_, (), rfl, by unfold chg; rfl, hP.at ht⟩, hS.F ht⟩) hS.2.2 d_S_changed_189
    · subst esw
      have hl : lv_has ls 5 [(0, .int (nI 19)), (1, .long a), (3, .long b)] := hl
      refine lv_tableIn (off := 187) (tgt := 188) hx hb d_S_changed_1 (by decide) (by decide) (by decide) (by decide) ?_
      refine lv_lload_n hx hb d_S_changed_188 rfl (lv_at hl 2 rfl) ?_
      exact W.lret (v := b) hx hb hr (fun t ht hW => ⟨⟨_, (), rfl, by unfold chg; rfl, hP.at ht⟩, hS.F ht⟩) hS.2.2 d_S_changed_189
    · subst esw
      have hl : lv_has ls 5 [(0, .int (nI 20)), (1, .long a), (3, .long b)] := hl
      refine lv_tableIn (off := 153) (tgt := 154) hx hb d_S_changed_1 (by decide) (by decide) (by decide) (by decide) ?_
      refine lv_lload_n hx hb d_S_changed_154 rfl (lv_at hl 1 rfl) ?_
      refine lv_lload_n hx hb d_S_changed_155 rfl (lv_at hl 2 rfl) ?_
      refine va_mmax_long (own := R_S) hx hb (hml.trans hl.1.symm) hown (htg _ k_354) (htg _ k_355) (htg _ k_34) (htg _ k_356) (Nat.le_of_ble_eq_true rfl) (Nat.le_of_ble_eq_true rfl) (Nat.le_of_ble_eq_true rfl) (Nat.le_of_ble_eq_true rfl) d_S_changed_156 ?_
      have hmm : (if b < a then a else b) = chg (nI 20) a b := by
        rw [chg_20]
        by_cases h1 : b < a
        · rw [if_pos h1, if_neg (Int64.not_lt.mpr (Int64.le_of_lt h1))]
        · rw [if_neg h1]
          by_cases h2 : a < b
          · rw [if_pos h2]
          · rw [if_neg h2]; first | exact Int64.le_antisymm (Int64.not_lt.mp h1) (Int64.not_lt.mp h2) | exact Int64.le_antisymm (Int64.not_lt.mp h2) (Int64.not_lt.mp h1) | rfl
      exact W.lret (v := if b < a then a else b) hx hb hr (fun t ht hW => ⟨⟨_, (), rfl, hmm, hP.at ht⟩, hS.F ht⟩) hS.2.2 d_S_changed_159
    · subst esw
      have hl : lv_has ls 5 [(0, .int (nI 21)), (1, .long a), (3, .long b)] := hl
      refine lv_tableIn (off := 187) (tgt := 188) hx hb d_S_changed_1 (by decide) (by decide) (by decide) (by decide) ?_
      refine lv_lload_n hx hb d_S_changed_188 rfl (lv_at hl 2 rfl) ?_
      exact W.lret (v := b) hx hb hr (fun t ht hW => ⟨⟨_, (), rfl, by unfold chg; rfl, hP.at ht⟩, hS.F ht⟩) hS.2.2 d_S_changed_189
    · subst esw
      have hl : lv_has ls 5 [(0, .int (nI 22)), (1, .long a), (3, .long b)] := hl
      refine lv_tableIn (off := 187) (tgt := 188) hx hb d_S_changed_1 (by decide) (by decide) (by decide) (by decide) ?_
      refine lv_lload_n hx hb d_S_changed_188 rfl (lv_at hl 2 rfl) ?_
      exact W.lret (v := b) hx hb hr (fun t ht hW => ⟨⟨_, (), rfl, by unfold chg; rfl, hP.at ht⟩, hS.F ht⟩) hS.2.2 d_S_changed_189
    · subst esw
      have hl : lv_has ls 5 [(0, .int (nI 23)), (1, .long a), (3, .long b)] := hl
      refine lv_tableIn (off := 187) (tgt := 188) hx hb d_S_changed_1 (by decide) (by decide) (by decide) (by decide) ?_
      refine lv_lload_n hx hb d_S_changed_188 rfl (lv_at hl 2 rfl) ?_
      exact W.lret (v := b) hx hb hr (fun t ht hW => ⟨⟨_, (), rfl, by unfold chg; rfl, hP.at ht⟩, hS.F ht⟩) hS.2.2 d_S_changed_189
    · subst esw
      have hl : lv_has ls 5 [(0, .int (nI 24)), (1, .long a), (3, .long b)] := hl
      refine lv_tableIn (off := 159) (tgt := 160) hx hb d_S_changed_1 (by decide) (by decide) (by decide) (by decide) ?_
      refine lv_lload_n hx hb d_S_changed_160 rfl (lv_at hl 1 rfl) ?_
      refine lv_lload_n hx hb d_S_changed_161 rfl (lv_at hl 2 rfl) ?_
      refine mc_i (va_runS (As := [.long a, .long b]) (rest := []) ⟨hx, hb, hml, hown, htg⟩ (t_S_isLessUnsigned l D cJ cI cP bs w a b) (cwS (own := R_S) 2 htg (ginS k_357 k_358 k_25 k_359) rfl rfl rfl (by decide +kernel) ⟨Nat.le_of_ble_eq_true rfl, Nat.le_of_ble_eq_true rfl⟩) (mPc.preS hbs hS hP hK) rfl rfl hl.1 rfl (lv_room (Nat.le_of_ble_eq_true rfl)) d_S_changed_162 ⟨Nat.le_of_ble_eq_true rfl, Nat.le_of_ble_eq_true rfl⟩) hS (fun r162 u162 H locs hw hP hz162 hS => ?_)
      refine lv_if_eq (tgt := 172) hx hb d_S_changed_165 (by decide) (fun c165 => ?_) (fun c165 => ?_)
      · refine lv_lload_n hx hb d_S_changed_172 rfl (lv_at hl 2 rfl) ?_
        have hmm : b = chg (nI 24) a b := by
          rw [chg_24]
          by_cases h1 : a + (-9223372036854775808) < b + (-9223372036854775808)
          · first | (rw [if_pos h1]; done) | (rw [if_pos h1] at hw; exact absurd (hw.symm.trans c165) (by decide))
          · first | (rw [if_neg h1]; done) | (rw [if_neg h1] at hw; exact absurd hw c165)
        exact W.lret (v := b) hx hb hr (fun t ht hW => ⟨⟨_, (), rfl, hmm, hP.at ht⟩, hS.F ht⟩) hS.2.2 d_S_changed_173
      · refine lv_lload_n hx hb d_S_changed_168 rfl (lv_at hl 1 rfl) ?_
        refine lv_goto (tgt := 173) hx hb d_S_changed_169 (by decide) ?_
        have hmm : a = chg (nI 24) a b := by
          rw [chg_24]
          by_cases h1 : a + (-9223372036854775808) < b + (-9223372036854775808)
          · first | (rw [if_pos h1]; done) | (rw [if_pos h1] at hw; exact absurd (hw.symm.trans c165) (by decide))
          · first | (rw [if_neg h1]; done) | (rw [if_neg h1] at hw; exact absurd hw c165)
        exact W.lret (v := a) hx hb hr (fun t ht hW => ⟨⟨_, (), rfl, hmm, hP.at ht⟩, hS.F ht⟩) hS.2.2 d_S_changed_173
    · subst esw
      have hl : lv_has ls 5 [(0, .int (nI 25)), (1, .long a), (3, .long b)] := hl
      refine lv_tableIn (off := 187) (tgt := 188) hx hb d_S_changed_1 (by decide) (by decide) (by decide) (by decide) ?_
      refine lv_lload_n hx hb d_S_changed_188 rfl (lv_at hl 2 rfl) ?_
      exact W.lret (v := b) hx hb hr (fun t ht hW => ⟨⟨_, (), rfl, by unfold chg; rfl, hP.at ht⟩, hS.F ht⟩) hS.2.2 d_S_changed_189
    · subst esw
      have hl : lv_has ls 5 [(0, .int (nI 26)), (1, .long a), (3, .long b)] := hl
      refine lv_tableIn (off := 187) (tgt := 188) hx hb d_S_changed_1 (by decide) (by decide) (by decide) (by decide) ?_
      refine lv_lload_n hx hb d_S_changed_188 rfl (lv_at hl 2 rfl) ?_
      exact W.lret (v := b) hx hb hr (fun t ht hW => ⟨⟨_, (), rfl, by unfold chg; rfl, hP.at ht⟩, hS.F ht⟩) hS.2.2 d_S_changed_189
    · subst esw
      have hl : lv_has ls 5 [(0, .int (nI 27)), (1, .long a), (3, .long b)] := hl
      refine lv_tableIn (off := 187) (tgt := 188) hx hb d_S_changed_1 (by decide) (by decide) (by decide) (by decide) ?_
      refine lv_lload_n hx hb d_S_changed_188 rfl (lv_at hl 2 rfl) ?_
      exact W.lret (v := b) hx hb hr (fun t ht hW => ⟨⟨_, (), rfl, by unfold chg; rfl, hP.at ht⟩, hS.F ht⟩) hS.2.2 d_S_changed_189
    · subst esw
      have hl : lv_has ls 5 [(0, .int (nI 28)), (1, .long a), (3, .long b)] := hl
      refine lv_tableIn (off := 173) (tgt := 174) hx hb d_S_changed_1 (by decide) (by decide) (by decide) (by decide) ?_
      refine lv_lload_n hx hb d_S_changed_174 rfl (lv_at hl 1 rfl) ?_
      refine lv_lload_n hx hb d_S_changed_175 rfl (lv_at hl 2 rfl) ?_
      refine mc_i (va_runS (As := [.long a, .long b]) (rest := []) ⟨hx, hb, hml, hown, htg⟩ (t_S_isLessUnsigned l D cJ cI cP bs w a b) (cwS (own := R_S) 2 htg (ginS k_357 k_358 k_25 k_359) rfl rfl rfl (by decide +kernel) ⟨Nat.le_of_ble_eq_true rfl, Nat.le_of_ble_eq_true rfl⟩) (mPc.preS hbs hS hP hK) rfl rfl hl.1 rfl (lv_room (Nat.le_of_ble_eq_true rfl)) d_S_changed_176 ⟨Nat.le_of_ble_eq_true rfl, Nat.le_of_ble_eq_true rfl⟩) hS (fun r176 u176 H locs hw hP hz176 hS => ?_)
      refine lv_if_eq (tgt := 186) hx hb d_S_changed_179 (by decide) (fun c179 => ?_) (fun c179 => ?_)
      · refine lv_lload_n hx hb d_S_changed_186 rfl (lv_at hl 1 rfl) ?_
        have hmm : a = chg (nI 28) a b := by
          rw [chg_28]
          by_cases h1 : a + (-9223372036854775808) < b + (-9223372036854775808)
          · first | (rw [if_pos h1]; done) | (rw [if_pos h1] at hw; exact absurd (hw.symm.trans c179) (by decide))
          · first | (rw [if_neg h1]; done) | (rw [if_neg h1] at hw; exact absurd hw c179)
        exact W.lret (v := a) hx hb hr (fun t ht hW => ⟨⟨_, (), rfl, hmm, hP.at ht⟩, hS.F ht⟩) hS.2.2 d_S_changed_187
      · refine lv_lload_n hx hb d_S_changed_182 rfl (lv_at hl 2 rfl) ?_
        refine lv_goto (tgt := 187) hx hb d_S_changed_183 (by decide) ?_
        have hmm : b = chg (nI 28) a b := by
          rw [chg_28]
          by_cases h1 : a + (-9223372036854775808) < b + (-9223372036854775808)
          · first | (rw [if_pos h1]; done) | (rw [if_pos h1] at hw; exact absurd (hw.symm.trans c179) (by decide))
          · first | (rw [if_neg h1]; done) | (rw [if_neg h1] at hw; exact absurd hw c179)
        exact W.lret (v := b) hx hb hr (fun t ht hW => ⟨⟨_, (), rfl, hmm, hP.at ht⟩, hS.F ht⟩) hS.2.2 d_S_changed_187
