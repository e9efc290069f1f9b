/-! THE LAW'S HELPERS: each calls the class, and says which class of exception came -/
theorem mt_ofWH {l : Launch} {y : MethodName} {ws ws' : List Cond} {rm : Room} {Pc : Array Value → State → Prop} {Qc : Array Value → State → Outcome → State → Prop} {mc ms : Nat} {free : Addr → Prop} {cc : ByteArray} {maxL : Nat} {ret : Option FieldType} {hh : List (Nat × Nat × Nat × Nat)}
    (hy : plainName y.cls = true) (hw : ws = Cond.codeWith y cc maxL ret hh :: ws')
    (body : ∀ p e s m args below meth c s₁, BodyLoose p l y (headSpec ws rm) cc maxL ret e s m args below meth c s₁ → c.maxLocals = maxL → c.exceptionTable.toList = tableOf hh → Pc args s →
      W p l e (headSpec ws rm).room s m args below meth c s.heap [] 0 0 (MQ below Qc args s mc ms free) (entryFrame m args maxL)) : Met l y ws rm Pc Qc mc ms free := by
  refine MetFree.of_bodyS (code := cc) (maxLocals := maxL) (ret := ret) hy ?_ ?_
  · intro args s m h hn
    obtain ⟨m9, meth, c, hn9, h1, h2, h3, h4, -, h5, h6, -⟩ := Cond.codeWith_spec (atoms_spec (ws := ws) h _ (by rw [hw]; exact List.mem_cons_self))
    cases hn.symm.trans hn9
    exact ⟨meth, c, h1, h2, h3, h4, h5, h6⟩
  · intro p e s m args below meth c s₁ B hml hP _
    have hh0 : s₁.heap = s.heap := by rw [B.state]; rfl
    have htab : c.exceptionTable.toList = tableOf hh := by
      obtain ⟨m9, meth9, c9, hn9, h1, h2, -, -, h6, -⟩ := Cond.codeWith_spec (atoms_spec (ws := ws) B.pre _ (by rw [hw]; exact List.mem_cons_self))
      cases Option.some.inj (hn9.symm.trans B.named)
      cases Option.some.inj (h1.symm.trans B.method)
      cases Option.some.inj (h2.symm.trans (Stand.of_body B).code)
      rw [← h6, table_eq]
    obtain ⟨t, a1, o, b1, b2, b3⟩ := body p e s m args below meth c s₁ B hml htab hP s₁ hh0 (Stand.of_body B)
    exact ⟨t, o, a1, b1, b2, ⟨b3.1, b3.2⟩⟩
section MXC
variable {p : Program} {l : Launch} {e : Env} {R : Room} {s : State} {m : MethodId} {args : Array Value} {below : List Frame} {meth : Method} {c : Code} {H : Heap} {locs : List Loc} {cells slots : Nat} {Q : State → Prop}
variable {cc : ByteArray} {pc : Nat} {ls : Array Slot} {rest st0 : List Value} {D : va_G} {cl : List vw_C} {bs : Nat} {a : Array Value} {H0 : Heap} {mc ms : Nat} {w : Nat → Option va_E} {why : String → Prop}
theorem mx_i {S : Type} {post : Int32 → S → Prop} {w' : S → Nat → Option va_E} (hr : vx_Run p l e R s m args below meth c H locs cells slots mc ms (F0 m pc ls st0) rest (va_Qi post (mB D cl bs w') (mA bs) a) (xX D cl bs w why) (mA bs)) (hS : va_S (mA bs) H0 H locs)
    (kx : ∀ (E : String) (ce : Cell) (q9 : Addr) (H1 : Heap) (locs1 : List Loc), why E → mw D cl bs w H1 → va_S (mA bs) H0 H1 locs1 → H1[q9]? = some ce → ce.vm = .none → s.vm.findClass E = some ce.cls → vx_W p l e R s m args below meth c H1 locs1 (cells + mc) (slots + ms) Q (F0 m pc ls rest) q9)
    (kk : ∀ (r : Int32) (u : S) (H1 : Heap) (locs1 : List Loc), post r u → mw D cl bs (w' u) H1 → H.size ≤ H1.size → va_S (mA bs) H0 H1 locs1 → W p l e R s m args below meth c H1 locs1 (cells + mc) (slots + ms) Q (F0 m (pc + 3) ls (.int r :: rest))) : W p l e R s m args below meth c H locs cells slots Q (F0 m pc ls st0) :=
  vx_calli hr hS (fun _ _ h => h) (fun _ h => h) (fun _ _ h => h) (fun E ce q9 u t H1 locs1 ht _ _ hB _ _ hS1 h1 h2 h3 => kx E ce q9 H1 locs1 hB.1 (by have h := hB.2; rw [ht] at h; exact h) hS1 h1 h2 h3) (fun r u t H1 locs1 ht _ hw hB hz _ hS1 => kk r u H1 locs1 hw (by have h : mw D cl bs (w' u) t.heap := hB; rw [ht] at h; exact h) hz hS1)
theorem mx_l {S : Type} {post : Int64 → S → Prop} {w' : S → Nat → Option va_E} (hr : vx_Run p l e R s m args below meth c H locs cells slots mc ms (F0 m pc ls st0) rest (va_Ql post (mB D cl bs w') (mA bs) a) (xX D cl bs w why) (mA bs)) (hS : va_S (mA bs) H0 H locs)
    (kx : ∀ (E : String) (ce : Cell) (q9 : Addr) (H1 : Heap) (locs1 : List Loc), why E → mw D cl bs w H1 → va_S (mA bs) H0 H1 locs1 → H1[q9]? = some ce → ce.vm = .none → s.vm.findClass E = some ce.cls → vx_W p l e R s m args below meth c H1 locs1 (cells + mc) (slots + ms) Q (F0 m pc ls rest) q9)
    (kk : ∀ (r : Int64) (u : S) (H1 : Heap) (locs1 : List Loc), post r u → mw D cl bs (w' u) H1 → H.size ≤ H1.size → va_S (mA bs) H0 H1 locs1 → W p l e R s m args below meth c H1 locs1 (cells + mc) (slots + ms) Q (F0 m (pc + 3) ls (.long r :: rest))) : W p l e R s m args below meth c H locs cells slots Q (F0 m pc ls st0) :=
  vx_calll hr hS (fun _ _ h => h) (fun _ h => h) (fun _ _ h => h) (fun E ce q9 u t H1 locs1 ht _ _ hB _ _ hS1 h1 h2 h3 => kx E ce q9 H1 locs1 hB.1 (by have h := hB.2; rw [ht] at h; exact h) hS1 h1 h2 h3) (fun r u t H1 locs1 ht _ hw hB hz _ hS1 => kk r u H1 locs1 hw (by have h : mw D cl bs (w' u) t.heap := hB; rw [ht] at h; exact h) hz hS1)
theorem mx_v {S : Type} {post : S → Prop} {w' : S → Nat → Option va_E} (hr : vx_Run p l e R s m args below meth c H locs cells slots mc ms (F0 m pc ls st0) rest (va_Qv post (mB D cl bs w') (mA bs) a) (xX D cl bs w why) (mA bs)) (hS : va_S (mA bs) H0 H locs)
    (kx : ∀ (E : String) (ce : Cell) (q9 : Addr) (H1 : Heap) (locs1 : List Loc), why E → mw D cl bs w H1 → va_S (mA bs) H0 H1 locs1 → H1[q9]? = some ce → ce.vm = .none → s.vm.findClass E = some ce.cls → vx_W p l e R s m args below meth c H1 locs1 (cells + mc) (slots + ms) Q (F0 m pc ls rest) q9)
    (kk : ∀ (u : S) (H1 : Heap) (locs1 : List Loc), post u → mw D cl bs (w' u) H1 → H.size ≤ H1.size → va_S (mA bs) H0 H1 locs1 → W p l e R s m args below meth c H1 locs1 (cells + mc) (slots + ms) Q (F0 m (pc + 3) ls rest)) : W p l e R s m args below meth c H locs cells slots Q (F0 m pc ls st0) :=
  vx_callv hr hS (fun _ _ h => h) (fun _ h => h) (fun _ _ h => h) (fun E ce q9 u t H1 locs1 ht _ _ hB _ _ hS1 h1 h2 h3 => kx E ce q9 H1 locs1 hB.1 (by have h := hB.2; rw [ht] at h; exact h) hS1 h1 h2 h3) (fun u t H1 locs1 ht _ hw hB hz _ hS1 => kk u H1 locs1 hw (by have h : mw D cl bs (w' u) t.heap := hB; rw [ht] at h; exact h) hz hS1)
end MXC
/-- the law's own array of one long -/
abbrev oE (cJ : ClassId) (O : Nat → Int64) : va_E := .inl (cJ, 1, .inr (.inl O))
theorem in01 : vp_in 0 1 := by unfold vp_in; decide
set_option maxHeartbeats 4000000 in
set_option maxRecDepth 100000 in
/-- load -/
theorem t_L_load (l : Launch) (hl0 : l.stackTraces = false) (D : va_G) (cJ cI cP : ClassId) (bs : Nat) (w : Nat → Option va_E) (h n : Nat) (M T : Nat → Int64) (ra : Nat → Int64) (rs : Nat → Int32) (aT aA aS : Nat) (pt : Nat → Option Nat) (hs : sm cJ cI cP w h n M T ra rs aT aA aS pt) (ao : Nat) (O : Nat → Int64) (hao : w ao = some (oE cJ O)) (x : Int64) (sz : Int32) : Met l y_L_load ws_L_load ({ frames := 7, cells := 1, slots := 6, locals := 113 }) (mPx D vwCl (mT cJ cI cP) bs w [.ref h, .long x, .int sz, .ref ao]) (va_Qi (S := (Nat → Option va_E)) (fun r u => (r = 1 ∧ ¬ szK sz ∧ u = w) ∨ (r = 2 ∧ (szK sz ∧ ∀ k, sz = nI k → ¬ ∃ a, inM x n k a) ∧ u = w) ∨ (r = 0 ∧ ∃ v, (∃ a k, sz = nI k ∧ szK sz ∧ 1 ≤ k ∧ k ≤ 8 ∧ inM x n k a ∧ ∀ i, i < 64 → bi v i = rdN (mb M) a k i) ∧ u = va_up w ao (some (oE cJ (vp_updL O 0 v))))) (mB D vwCl bs (fun u => u)) (mA bs)) 1 6 (mA bs) := by
  refine mt_ofWH (hh := [(0, 10, 13, 13), (0, 10, 17, 15)]) (cc := c_L_load) (maxL := 6) (ret := (some .int)) (by decide) rfl ?_
  intro p e s m args below meth c s₁ B hml htab hv
  obtain ⟨rfl, hbs, hP, hK, hE⟩ := hv
  have hx := B.exec
  have hb := B.bytes
  have hr := B.returns
  have htg : ∀ w ∈ gt, w.before _ s = true := fun w h => atoms_spec (ws := ws_L_load) B.pre w (List.mem_cons_of_mem _ h)
  have hown : s.vm.findClass R_L = some m.cls := findClass_of_methodNamed B.named
  have hlocks := B.notSynchronized
  have hS : va_S (mA bs) s.heap s.heap [] := va_S.rf
  have hl := lv_entry ([.ref h, .long x, .int sz, .ref ao]) (n := 6) (Nat.le_of_ble_eq_true rfl)
  rw [lg_entry_eq]
  generalize (lg_sl ([.ref h, .long x, .int sz, .ref ao]) ++ List.replicate (6 - (lg_sl ([.ref h, .long x, .int sz, .ref ao])).length) Slot.unset).toArray = ls at hl ⊢
  have hl : lv_has ls 6 [(0, .ref h), (1, .long x), (3, .int sz), (4, .ref ao)] := hl
  obtain ⟨hn, s1, s2, s3, s4, s5, s6, s7⟩ := id hs
  have f1 : w h = some (.inr (ciS, [.int (nI n), .ref aT, .ref aA, .ref aS])) := s1
  refine lv_aload hx hb d_L_load_0 (lv_at hl 3 rfl) ?_
  refine lv_iconst (v := 0) hx hb d_L_load_2 (by decide) ?_
  refine lv_aload_n hx hb d_L_load_3 rfl (lv_at hl 0 rfl) ?_
  refine lv_lload_n hx hb d_L_load_4 rfl (lv_at hl 1 rfl) ?_
  refine lv_iload_n hx hb d_L_load_5 rfl (lv_at hl 2 rfl) ?_
  refine mx_l (vx_runV (As := [.long x, .int sz]) (rest := [.int 0, .ref ao]) ⟨hx, hb, hml, hown, htg⟩ (t_S_load l hl0 D cJ cI cP bs w h n M T ra rs aT aA aS pt hs x sz) (cwV (own := R_L) (C := R_S) 2 htg (ginV k_81 k_82 k_83 k_25 k_84) rfl rfl rfl (by decide +kernel) ⟨Nat.le_of_ble_eq_true rfl, Nat.le_of_ble_eq_true rfl⟩) (mPx.preV (ci := ciS) (q := (R_S, T_S, 4)) hbs hS hP hK hE rfl f1) rfl rfl hl.1 rfl (lv_room (Nat.le_of_ble_eq_true rfl)) d_L_load_6 ⟨Nat.le_of_ble_eq_true rfl, Nat.le_of_ble_eq_true rfl⟩) hS (fun E9 ce9 q9 H locs hwhy hP hS hq1 hq2 hq3 => ?_) (fun r9 u9 H locs hw hP hz9 hS => ?_)
  · rcases hwhy with ⟨eE, hy⟩ | ⟨eE, hy⟩
    · subst eE
      refine vx_catch (own := R_L) (name := eIA) hown [] ⟨0, 10, 13, 13⟩ [⟨0, 10, 17, 15⟩] (htab.trans rfl) (fun z hz => absurd hz List.not_mem_nil) rfl (by decide) (htg _ k_79) (va_Nw.use rfl hE.2.2.1.1) hq1 hq2 hq3 ?_
      refine lv_astore (lv' := [(5, .ref q9), (0, .ref h), (1, .long x), (3, .int sz), (4, .ref ao)]) hx hb d_L_load_13 hl (by decide) rfl (fun ls hl => ?_)
      refine lv_iconst (v := 1) hx hb d_L_load_15 (by decide) ?_
      exact W.iret (v := 1) hx hb hr (fun t ht hW => ⟨⟨_, w, rfl, Or.inl ⟨rfl, hy, rfl⟩, hP.at ht⟩, hS.F ht⟩) hS.2.2 d_L_load_16
    · subst eE
      refine vx_catch (own := R_L) (name := eIO) hown [⟨0, 10, 13, 13⟩] ⟨0, 10, 17, 15⟩ [] (htab.trans rfl) (List.forall_mem_cons.mpr ⟨Or.inr ⟨by decide, eIA, (htg _ k_79), hE.2.2.2.2.1.1⟩, (fun z hz => absurd hz List.not_mem_nil)⟩) rfl (by decide) (htg _ k_80) (va_Nw.use rfl hE.2.2.1.2.1) hq1 hq2 hq3 ?_
      refine lv_astore (lv' := [(5, .ref q9), (0, .ref h), (1, .long x), (3, .int sz), (4, .ref ao)]) hx hb d_L_load_17 hl (by decide) rfl (fun ls hl => ?_)
      refine lv_iconst (v := 2) hx hb d_L_load_19 (by decide) ?_
      exact W.iret (v := 2) hx hb hr (fun t ht hW => ⟨⟨_, w, rfl, Or.inr (Or.inl ⟨rfl, hy, rfl⟩), hP.at ht⟩, hS.F ht⟩) hS.2.2 d_L_load_20
  · refine mw_last hx hb hK hP hS 0 hao rfl in01 d_L_load_9 (fun H locs hP hS hz9 => ?_)
    rw [show (0 : Int32).toNatClampNeg = 0 from rfl] at hP
    obtain ⟨w_1, ew_1⟩ : ∃ z9, z9 = va_up w ao (some (.inl (cJ, 1, .inr (.inl (vp_updL O 0 r9)))) : Option va_E) := ⟨_, rfl⟩
    rw [← ew_1] at hP
    have h_2 : w_1 ao = some (.inl (cJ, 1, .inr (.inl (vp_updL O 0 r9)))) := by rw [ew_1, va_up_self]
    have h_3 : w_1 h = some (.inr (ciS, [.int (nI n), .ref aT, .ref aA, .ref aS])) := by rw [ew_1, va_up_ne _ _ (fun z => by rw [z, hao] at f1; cases f1)]; exact f1
    have h_4 : w_1 aT = some (.inl (cP, n, .inr (.inr (.inr (.inr pt))))) := by rw [ew_1, va_up_ne _ _ (fun z => by rw [z, hao] at s2; simp at s2)]; exact s2
    have h_5 : w_1 aA = some (.inl (cJ, 4, .inr (.inl ra))) := by rw [ew_1, va_up_ne _ _ (fun z => by rw [z, hao] at s3; simp at s3)]; exact s3
    have h_6 : w_1 aS = some (.inl (cI, 4, .inl rs)) := by rw [ew_1, va_up_ne _ _ (fun z => by rw [z, hao] at s4; simp at s4)]; exact s4
    refine lv_goto (tgt := 21) hx hb d_L_load_10 (by decide) ?_
    refine lv_iconst (v := 0) hx hb d_L_load_21 (by decide) ?_
    exact W.iret (v := 0) hx hb hr (fun t ht hW => ⟨⟨_, w_1, rfl, Or.inr (Or.inr ⟨rfl, r9, hw, ew_1⟩), hP.at ht⟩, hS.F ht⟩) hS.2.2 d_L_load_22
set_option maxHeartbeats 4000000 in
set_option maxRecDepth 100000 in
/-- store -/
theorem t_L_store (l : Launch) (hl0 : l.stackTraces = false) (D : va_G) (cJ cI cP : ClassId) (bs : Nat) (w : Nat → Option va_E) (h n : Nat) (M T : Nat → Int64) (ra : Nat → Int64) (rs : Nat → Int32) (aT aA aS : Nat) (pt : Nat → Option Nat) (hs : sm cJ cI cP w h n M T ra rs aT aA aS pt) (hro : rok ra n) (x : Int64) (sz : Int32) (v : Int64) : Met l y_L_store ws_L_store ({ frames := 7, cells := 4, slots := 1034, locals := 151 }) (mPx D vwCl (mT cJ cI cP) bs w [.ref h, .long x, .int sz, .long v]) (va_Qi (S := (Nat → Option va_E)) (fun r u => (r = 1 ∧ ¬ szK sz ∧ u = w) ∨ (r = 2 ∧ (szK sz ∧ ∀ k, sz = nI k → ¬ ∃ a, inM x n k a) ∧ u = w) ∨ (r = 0 ∧ ∃ M9 pt9, (∃ a k, sz = nI k ∧ szK sz ∧ 1 ≤ k ∧ k ≤ 8 ∧ inM x n k a ∧ sm cJ cI cP u h n M9 (tinc T (a / 4096) ((a + k - 1) / 4096 + 1)) (lost ra (a / 8) ((a + k - 1) / 8)) rs aT aA aS pt9 ∧ mb M9 = wrN (mb M) a k v ∧ kp w u (sfp w h) (sfp u h)))) (mB D vwCl bs (fun u => u)) (mA bs)) 4 1034 (mA bs) := by
  refine mt_ofWH (hh := [(0, 8, 11, 13), (0, 8, 15, 15)]) (cc := c_L_store) (maxL := 7) (ret := (some .int)) (by decide) rfl ?_
  intro p e s m args below meth c s₁ B hml htab hv
  obtain ⟨rfl, hbs, hP, hK, hE⟩ := hv
  have hx := B.exec
  have hb := B.bytes
  have hr := B.returns
  have htg : ∀ w ∈ gt, w.before _ s = true := fun w h => atoms_spec (ws := ws_L_store) B.pre w (List.mem_cons_of_mem _ h)
  have hown : s.vm.findClass R_L = some m.cls := findClass_of_methodNamed B.named
  have hlocks := B.notSynchronized
  have hS : va_S (mA bs) s.heap s.heap [] := va_S.rf
  have hl := lv_entry ([.ref h, .long x, .int sz, .long v]) (n := 7) (Nat.le_of_ble_eq_true rfl)
  rw [lg_entry_eq]
  generalize (lg_sl ([.ref h, .long x, .int sz, .long v]) ++ List.replicate (7 - (lg_sl ([.ref h, .long x, .int sz, .long v])).length) Slot.unset).toArray = ls at hl ⊢
  have hl : lv_has ls 7 [(0, .ref h), (1, .long x), (3, .int sz), (4, .long v)] := hl
  obtain ⟨hn, s1, s2, s3, s4, s5, s6, s7⟩ := id hs
  have f1 : w h = some (.inr (ciS, [.int (nI n), .ref aT, .ref aA, .ref aS])) := s1
  refine lv_aload_n hx hb d_L_store_0 rfl (lv_at hl 0 rfl) ?_
  refine lv_lload_n hx hb d_L_store_1 rfl (lv_at hl 1 rfl) ?_
  refine lv_iload_n hx hb d_L_store_2 rfl (lv_at hl 2 rfl) ?_
  refine lv_lload hx hb d_L_store_3 (lv_at hl 3 rfl) ?_
  refine mx_v (vx_runV (As := [.long x, .int sz, .long v]) (rest := []) ⟨hx, hb, hml, hown, htg⟩ (t_S_store l hl0 D cJ cI cP bs w h n M T ra rs aT aA aS pt hs hro x sz v) (cwV (own := R_L) (C := R_S) 3 htg (ginV k_207 k_208 k_209 k_25 k_210) rfl rfl rfl (by decide +kernel) ⟨Nat.le_of_ble_eq_true rfl, Nat.le_of_ble_eq_true rfl⟩) (mPx.preV (ci := ciS) (q := (R_S, T_S, 4)) hbs hS hP hK hE rfl f1) rfl rfl hl.1 rfl (lv_room (Nat.le_of_ble_eq_true rfl)) d_L_store_5 ⟨Nat.le_of_ble_eq_true rfl, Nat.le_of_ble_eq_true rfl⟩) hS (fun E9 ce9 q9 H locs hwhy hP hS hq1 hq2 hq3 => ?_) (fun u9 H locs hw hP hz9 hS => ?_)
  · rcases hwhy with ⟨eE, hy⟩ | ⟨eE, hy⟩
    · subst eE
      refine vx_catch (own := R_L) (name := eIA) hown [] ⟨0, 8, 11, 13⟩ [⟨0, 8, 15, 15⟩] (htab.trans rfl) (fun z hz => absurd hz List.not_mem_nil) rfl (by decide) (htg _ k_79) (va_Nw.use rfl hE.2.2.1.1) hq1 hq2 hq3 ?_
      refine lv_astore (lv' := [(6, .ref q9), (0, .ref h), (1, .long x), (3, .int sz), (4, .long v)]) hx hb d_L_store_11 hl (by decide) rfl (fun ls hl => ?_)
      refine lv_iconst (v := 1) hx hb d_L_store_13 (by decide) ?_
      exact W.iret (v := 1) hx hb hr (fun t ht hW => ⟨⟨_, w, rfl, Or.inl ⟨rfl, hy, rfl⟩, hP.at ht⟩, hS.F ht⟩) hS.2.2 d_L_store_14
    · subst eE
      refine vx_catch (own := R_L) (name := eIO) hown [⟨0, 8, 11, 13⟩] ⟨0, 8, 15, 15⟩ [] (htab.trans rfl) (List.forall_mem_cons.mpr ⟨Or.inr ⟨by decide, eIA, (htg _ k_79), hE.2.2.2.2.1.1⟩, (fun z hz => absurd hz List.not_mem_nil)⟩) rfl (by decide) (htg _ k_80) (va_Nw.use rfl hE.2.2.1.2.1) hq1 hq2 hq3 ?_
      refine lv_astore (lv' := [(6, .ref q9), (0, .ref h), (1, .long x), (3, .int sz), (4, .long v)]) hx hb d_L_store_15 hl (by decide) rfl (fun ls hl => ?_)
      refine lv_iconst (v := 2) hx hb d_L_store_17 (by decide) ?_
      exact W.iret (v := 2) hx hb hr (fun t ht hW => ⟨⟨_, w, rfl, Or.inr (Or.inl ⟨rfl, hy, rfl⟩), hP.at ht⟩, hS.F ht⟩) hS.2.2 d_L_store_18
  · obtain ⟨w9, M9, pt9⟩ := u9
    have hP : mw D vwCl bs w9 H := hP
    refine lv_goto (tgt := 19) hx hb d_L_store_8 (by decide) ?_
    refine lv_iconst (v := 0) hx hb d_L_store_19 (by decide) ?_
    exact W.iret (v := 0) hx hb hr (fun t ht hW => ⟨⟨_, w9, rfl, Or.inr (Or.inr ⟨rfl, M9, pt9, hw⟩), hP.at ht⟩, hS.F ht⟩) hS.2.2 d_L_store_20
set_option maxHeartbeats 4000000 in
set_option maxRecDepth 100000 in
/-- fill -/
theorem t_L_fill (l : Launch) (hl0 : l.stackTraces = false) (D : va_G) (cJ cI cP : ClassId) (bs : Nat) (w : Nat → Option va_E) (h n : Nat) (M T : Nat → Int64) (ra : Nat → Int64) (rs : Nat → Int32) (aT aA aS : Nat) (pt : Nat → Option Nat) (hs : sm cJ cI cP w h n M T ra rs aT aA aS pt) (hro : rok ra n) (x y : Int64) (v : Int32) : Met l y_L_fill ws_L_fill ({ frames := 7, cells := 1026, slots := 6144, locals := 156 }) (mPx D vwCl (mT cJ cI cP) bs w [.ref h, .long x, .long y, .int v]) (va_Qi (S := (Nat → Option va_E)) (fun r u => (r = 1 ∧ (¬ x ≤ y) ∧ u = w) ∨ (r = 2 ∧ (x ≤ y ∧ ¬ y = x ∧ ¬ ∃ a b, inF x y n a b) ∧ u = w) ∨ (r = 0 ∧ ∃ M9 pt9, (y = x ∧ (u, M9, pt9) = (w, M, pt)) ∨ (x ≤ y ∧ ¬ y = x ∧ ∃ a b, inF x y n a b ∧ sm cJ cI cP u h n M9 (tinc T (a / 4096) ((b - 1) / 4096 + 1)) (lost ra (a / 8) ((b - 1) / 8)) rs aT aA aS pt9 ∧ (∀ k z, z < 64 → bi (M9 k) z = flB M a (b - 1) (pat v) k z) ∧ kp w u (sfp w h) (sfp u h)))) (mB D vwCl bs (fun u => u)) (mA bs)) 1026 6144 (mA bs) := by
  refine mt_ofWH (hh := [(0, 8, 11, 13), (0, 8, 15, 15)]) (cc := c_L_fill) (maxL := 7) (ret := (some .int)) (by decide) rfl ?_
  intro p e s m args below meth c s₁ B hml htab hv
  obtain ⟨rfl, hbs, hP, hK, hE⟩ := hv
  have hx := B.exec
  have hb := B.bytes
  have hr := B.returns
  have htg : ∀ w ∈ gt, w.before _ s = true := fun w h => atoms_spec (ws := ws_L_fill) B.pre w (List.mem_cons_of_mem _ h)
  have hown : s.vm.findClass R_L = some m.cls := findClass_of_methodNamed B.named
  have hlocks := B.notSynchronized
  have hS : va_S (mA bs) s.heap s.heap [] := va_S.rf
  have hl := lv_entry ([.ref h, .long x, .long y, .int v]) (n := 7) (Nat.le_of_ble_eq_true rfl)
  rw [lg_entry_eq]
  generalize (lg_sl ([.ref h, .long x, .long y, .int v]) ++ List.replicate (7 - (lg_sl ([.ref h, .long x, .long y, .int v])).length) Slot.unset).toArray = ls at hl ⊢
  have hl : lv_has ls 7 [(0, .ref h), (1, .long x), (3, .long y), (5, .int v)] := hl
  obtain ⟨hn, s1, s2, s3, s4, s5, s6, s7⟩ := id hs
  have f1 : w h = some (.inr (ciS, [.int (nI n), .ref aT, .ref aA, .ref aS])) := s1
  refine lv_aload_n hx hb d_L_fill_0 rfl (lv_at hl 0 rfl) ?_
  refine lv_lload_n hx hb d_L_fill_1 rfl (lv_at hl 1 rfl) ?_
  refine lv_lload_n hx hb d_L_fill_2 rfl (lv_at hl 2 rfl) ?_
  refine lv_iload hx hb d_L_fill_3 (lv_at hl 3 rfl) ?_
  refine mx_v (vx_runV (As := [.long x, .long y, .int v]) (rest := []) ⟨hx, hb, hml, hown, htg⟩ (t_S_fill l hl0 D cJ cI cP bs w h n M T ra rs aT aA aS pt hs hro x y v) (cwV (own := R_L) (C := R_S) 3 htg (ginV k_272 k_273 k_274 k_25 k_275) rfl rfl rfl (by decide +kernel) ⟨Nat.le_of_ble_eq_true rfl, Nat.le_of_ble_eq_true rfl⟩) (mPx.preV (ci := ciS) (q := (R_S, T_S, 4)) hbs hS hP hK hE rfl f1) rfl rfl hl.1 rfl (lv_room (Nat.le_of_ble_eq_true rfl)) d_L_fill_5 ⟨Nat.le_of_ble_eq_true rfl, Nat.le_of_ble_eq_true rfl⟩) hS (fun E9 ce9 q9 H locs hwhy hP hS hq1 hq2 hq3 => ?_) (fun u9 H locs hw hP hz9 hS => ?_)
  · rcases hwhy with ⟨eE, hy⟩ | ⟨eE, hy⟩
    · subst eE
      refine vx_catch (own := R_L) (name := eIA) hown [] ⟨0, 8, 11, 13⟩ [⟨0, 8, 15, 15⟩] (htab.trans rfl) (fun z hz => absurd hz List.not_mem_nil) rfl (by decide) (htg _ k_79) (va_Nw.use rfl hE.2.2.1.1) hq1 hq2 hq3 ?_
      refine lv_astore (lv' := [(6, .ref q9), (0, .ref h), (1, .long x), (3, .long y), (5, .int v)]) hx hb d_L_fill_11 hl (by decide) rfl (fun ls hl => ?_)
      refine lv_iconst (v := 1) hx hb d_L_fill_13 (by decide) ?_
      exact W.iret (v := 1) hx hb hr (fun t ht hW => ⟨⟨_, w, rfl, Or.inl ⟨rfl, hy, rfl⟩, hP.at ht⟩, hS.F ht⟩) hS.2.2 d_L_fill_14
    · subst eE
      refine vx_catch (own := R_L) (name := eIO) hown [⟨0, 8, 11, 13⟩] ⟨0, 8, 15, 15⟩ [] (htab.trans rfl) (List.forall_mem_cons.mpr ⟨Or.inr ⟨by decide, eIA, (htg _ k_79), hE.2.2.2.2.1.1⟩, (fun z hz => absurd hz List.not_mem_nil)⟩) rfl (by decide) (htg _ k_80) (va_Nw.use rfl hE.2.2.1.2.1) hq1 hq2 hq3 ?_
      refine lv_astore (lv' := [(6, .ref q9), (0, .ref h), (1, .long x), (3, .long y), (5, .int v)]) hx hb d_L_fill_15 hl (by decide) rfl (fun ls hl => ?_)
      refine lv_iconst (v := 2) hx hb d_L_fill_17 (by decide) ?_
      exact W.iret (v := 2) hx hb hr (fun t ht hW => ⟨⟨_, w, rfl, Or.inr (Or.inl ⟨rfl, hy, rfl⟩), hP.at ht⟩, hS.F ht⟩) hS.2.2 d_L_fill_18
  · obtain ⟨w9, M9, pt9⟩ := u9
    have hP : mw D vwCl bs w9 H := hP
    refine lv_goto (tgt := 19) hx hb d_L_fill_8 (by decide) ?_
    refine lv_iconst (v := 0) hx hb d_L_fill_19 (by decide) ?_
    exact W.iret (v := 0) hx hb hr (fun t ht hW => ⟨⟨_, w9, rfl, Or.inr (Or.inr ⟨rfl, M9, pt9, hw⟩), hP.at ht⟩, hS.F ht⟩) hS.2.2 d_L_fill_20
set_option maxHeartbeats 4000000 in
set_option maxRecDepth 100000 in
/-- atomic -/
theorem t_L_atomic (l : Launch) (hl0 : l.stackTraces = false) (D : va_G) (cJ cI cP : ClassId) (bs : Nat) (w : Nat → Option va_E) (h n : Nat) (M T : Nat → Int64) (ra : Nat → Int64) (rs : Nat → Int32) (aT aA aS : Nat) (pt : Nat → Option Nat) (hs : sm cJ cI cP w h n M T ra rs aT aA aS pt) (ao : Nat) (O : Nat → Int64) (hao : w ao = some (oE cJ O)) (hna : ¬ sfp w h ao) (hro : rok ra n) (x y : Int32) (z : Int64) (sz : Int32) (v : Int64) : Met l y_L_atomic ws_L_atomic ({ frames := 7, cells := 4, slots := 1034, locals := 180 }) (mPx D vwCl (mT cJ cI cP) bs w [.ref h, .int x, .int y, .long z, .int sz, .long v, .ref ao]) (va_Qi (S := (Nat → Option va_E)) (fun r u => (r = 1 ∧ (¬ (szA sz ∧ isKd y)) ∧ u = w) ∨ (r = 2 ∧ (isKd y ∧ ∃ k, sz = nI k ∧ (k = 4 ∨ k = 8) ∧ ¬ ((0 ≤ x ∧ x < 4) ∧ ∃ a, inM z n k a)) ∧ u = w) ∨ (r = 3 ∧ (isKd y ∧ ∃ k a, sz = nI k ∧ (k = 4 ∨ k = 8) ∧ (0 ≤ x ∧ x < 4) ∧ inM z n k a ∧ ¬ a % k = 0) ∧ u = w) ∨ (r = 0 ∧ ∃ r9 w9 M9 pt9, (isKd y ∧ ∃ j k a, j < 4 ∧ x = nI j ∧ sz = nI k ∧ (k = 4 ∨ k = 8) ∧ inM z n k a ∧ a % k = 0 ∧ doA cJ cI cP w h n M T ra rs aT aA aS pt y v j k a r9 (w9, M9, pt9)) ∧ u = va_up w9 ao (some (oE cJ (vp_updL O 0 r9))))) (mB D vwCl bs (fun u => u)) (mA bs)) 4 1034 (mA bs) := by
  refine mt_ofWH (hh := [(0, 15, 18, 13), (0, 15, 22, 15), (0, 15, 26, 29)]) (cc := c_L_atomic) (maxL := 10) (ret := (some .int)) (by decide) rfl ?_
  intro p e s m args below meth c s₁ B hml htab hv
  obtain ⟨rfl, hbs, hP, hK, hE⟩ := hv
  have hx := B.exec
  have hb := B.bytes
  have hr := B.returns
  have htg : ∀ w ∈ gt, w.before _ s = true := fun w h => atoms_spec (ws := ws_L_atomic) B.pre w (List.mem_cons_of_mem _ h)
  have hown : s.vm.findClass R_L = some m.cls := findClass_of_methodNamed B.named
  have hlocks := B.notSynchronized
  have hS : va_S (mA bs) s.heap s.heap [] := va_S.rf
  have hl := lv_entry ([.ref h, .int x, .int y, .long z, .int sz, .long v, .ref ao]) (n := 10) (Nat.le_of_ble_eq_true rfl)
  rw [lg_entry_eq]
  generalize (lg_sl ([.ref h, .int x, .int y, .long z, .int sz, .long v, .ref ao]) ++ List.replicate (10 - (lg_sl ([.ref h, .int x, .int y, .long z, .int sz, .long v, .ref ao])).length) Slot.unset).toArray = ls at hl ⊢
  have hl : lv_has ls 10 [(0, .ref h), (1, .int x), (2, .int y), (3, .long z), (5, .int sz), (6, .long v), (8, .ref ao)] := hl
  obtain ⟨hn, s1, s2, s3, s4, s5, s6, s7⟩ := id hs
  have f1 : w h = some (.inr (ciS, [.int (nI n), .ref aT, .ref aA, .ref aS])) := s1
  refine lv_aload hx hb d_L_atomic_0 (lv_at hl 6 rfl) ?_
  refine lv_iconst (v := 0) hx hb d_L_atomic_2 (by decide) ?_
  refine lv_aload_n hx hb d_L_atomic_3 rfl (lv_at hl 0 rfl) ?_
  refine lv_iload_n hx hb d_L_atomic_4 rfl (lv_at hl 1 rfl) ?_
  refine lv_iload_n hx hb d_L_atomic_5 rfl (lv_at hl 2 rfl) ?_
  refine lv_lload_n hx hb d_L_atomic_6 rfl (lv_at hl 3 rfl) ?_
  refine lv_iload hx hb d_L_atomic_7 (lv_at hl 4 rfl) ?_
  refine lv_lload hx hb d_L_atomic_9 (lv_at hl 5 rfl) ?_
  refine mx_l (vx_runV (As := [.int x, .int y, .long z, .int sz, .long v]) (rest := [.int 0, .ref ao]) ⟨hx, hb, hml, hown, htg⟩ (t_S_atomic l hl0 D cJ cI cP bs w h n M T ra rs aT aA aS pt hs hro x y z sz v) (cwV (own := R_L) (C := R_S) 5 htg (ginV k_302 k_303 k_304 k_25 k_305) rfl rfl rfl (by decide +kernel) ⟨Nat.le_of_ble_eq_true rfl, Nat.le_of_ble_eq_true rfl⟩) (mPx.preV (ci := ciS) (q := (R_S, T_S, 4)) hbs hS hP hK hE rfl f1) rfl rfl hl.1 rfl (lv_room (Nat.le_of_ble_eq_true rfl)) d_L_atomic_11 ⟨Nat.le_of_ble_eq_true rfl, Nat.le_of_ble_eq_true rfl⟩) hS (fun E9 ce9 q9 H locs hwhy hP hS hq1 hq2 hq3 => ?_) (fun r9 u9 H locs hw hP hz9 hS => ?_)
  · rcases hwhy with ⟨eE, hy⟩ | ⟨eE, hy⟩ | ⟨eE, hy⟩
    · subst eE
      refine vx_catch (own := R_L) (name := eIA) hown [] ⟨0, 15, 18, 13⟩ [⟨0, 15, 22, 15⟩, ⟨0, 15, 26, 29⟩] (htab.trans rfl) (fun z hz => absurd hz List.not_mem_nil) rfl (by decide) (htg _ k_79) (va_Nw.use rfl hE.2.2.1.1) hq1 hq2 hq3 ?_
      refine lv_astore (lv' := [(9, .ref q9), (0, .ref h), (1, .int x), (2, .int y), (3, .long z), (5, .int sz), (6, .long v), (8, .ref ao)]) hx hb d_L_atomic_18 hl (by decide) rfl (fun ls hl => ?_)
      refine lv_iconst (v := 1) hx hb d_L_atomic_20 (by decide) ?_
      exact W.iret (v := 1) hx hb hr (fun t ht hW => ⟨⟨_, w, rfl, Or.inl ⟨rfl, hy, rfl⟩, hP.at ht⟩, hS.F ht⟩) hS.2.2 d_L_atomic_21
    · subst eE
      refine vx_catch (own := R_L) (name := eIO) hown [⟨0, 15, 18, 13⟩] ⟨0, 15, 22, 15⟩ [⟨0, 15, 26, 29⟩] (htab.trans rfl) (List.forall_mem_cons.mpr ⟨Or.inr ⟨by decide, eIA, (htg _ k_79), hE.2.2.2.2.1.1⟩, (fun z hz => absurd hz List.not_mem_nil)⟩) rfl (by decide) (htg _ k_80) (va_Nw.use rfl hE.2.2.1.2.1) hq1 hq2 hq3 ?_
      refine lv_astore (lv' := [(9, .ref q9), (0, .ref h), (1, .int x), (2, .int y), (3, .long z), (5, .int sz), (6, .long v), (8, .ref ao)]) hx hb d_L_atomic_22 hl (by decide) rfl (fun ls hl => ?_)
      refine lv_iconst (v := 2) hx hb d_L_atomic_24 (by decide) ?_
      exact W.iret (v := 2) hx hb hr (fun t ht hW => ⟨⟨_, w, rfl, Or.inr (Or.inl ⟨rfl, hy, rfl⟩), hP.at ht⟩, hS.F ht⟩) hS.2.2 d_L_atomic_25
    · subst eE
      refine vx_catch (own := R_L) (name := eIS) hown [⟨0, 15, 18, 13⟩, ⟨0, 15, 22, 15⟩] ⟨0, 15, 26, 29⟩ [] (htab.trans rfl) (List.forall_mem_cons.mpr ⟨Or.inr ⟨by decide, eIA, (htg _ k_79), hE.2.2.2.2.1.2.1⟩, (List.forall_mem_cons.mpr ⟨Or.inr ⟨by decide, eIO, (htg _ k_80), hE.2.2.2.2.1.2.2⟩, (fun z hz => absurd hz List.not_mem_nil)⟩)⟩) rfl (by decide) (htg _ k_301) (va_Nw.use rfl hE.2.2.1.2.2) hq1 hq2 hq3 ?_
      refine lv_astore (lv' := [(9, .ref q9), (0, .ref h), (1, .int x), (2, .int y), (3, .long z), (5, .int sz), (6, .long v), (8, .ref ao)]) hx hb d_L_atomic_26 hl (by decide) rfl (fun ls hl => ?_)
      refine lv_iconst (v := 3) hx hb d_L_atomic_28 (by decide) ?_
      exact W.iret (v := 3) hx hb hr (fun t ht hW => ⟨⟨_, w, rfl, Or.inr (Or.inr (Or.inl ⟨rfl, hy, rfl⟩)), hP.at ht⟩, hS.F ht⟩) hS.2.2 d_L_atomic_29
  · obtain ⟨w9, M9, pt9⟩ := u9
    have hP : mw D vwCl bs w9 H := hP
    have hw : isKd y ∧ ∃ j k a, j < 4 ∧ x = nI j ∧ sz = nI k ∧ (k = 4 ∨ k = 8) ∧ inM z n k a ∧ a % k = 0 ∧ doA cJ cI cP w h n M T ra rs aT aA aS pt y v j k a r9 (w9, M9, pt9) := hw
    have hao9 : w9 ao = some (oE cJ O) := by
      obtain ⟨-, j, k, a, -, -, -, -, -, -, hk, -⟩ := hw
      exact (hk.1 ao (by rw [hao]; simp) hna).trans hao
    refine mw_last hx hb hK hP hS 0 hao9 rfl in01 d_L_atomic_14 (fun H locs hP hS hz14 => ?_)
    rw [show (0 : Int32).toNatClampNeg = 0 from rfl] at hP
    obtain ⟨w_1, ew_1⟩ : ∃ z9, z9 = va_up w9 ao (some (.inl (cJ, 1, .inr (.inl (vp_updL O 0 r9)))) : Option va_E) := ⟨_, rfl⟩
    rw [← ew_1] at hP
    have h_2 : w_1 ao = some (.inl (cJ, 1, .inr (.inl (vp_updL O 0 r9)))) := by rw [ew_1, va_up_self]
    refine lv_goto (tgt := 30) hx hb d_L_atomic_15 (by decide) ?_
    refine lv_iconst (v := 0) hx hb d_L_atomic_30 (by decide) ?_
    exact W.iret (v := 0) hx hb hr (fun t ht hW => ⟨⟨_, w_1, rfl, Or.inr (Or.inr (Or.inr ⟨rfl, r9, w9, M9, pt9, hw, ew_1⟩)), hP.at ht⟩, hS.F ht⟩) hS.2.2 d_L_atomic_31
set_option maxHeartbeats 4000000 in
set_option maxRecDepth 100000 in
/-- drop -/
theorem t_L_drop (l : Launch) (hl0 : l.stackTraces = false) (D : va_G) (cJ cI cP : ClassId) (bs : Nat) (w : Nat → Option va_E) (h n : Nat) (M T : Nat → Int64) (ra : Nat → Int64) (rs : Nat → Int32) (aT aA aS : Nat) (pt : Nat → Option Nat) (hs : sm cJ cI cP w h n M T ra rs aT aA aS pt) (ao : Nat) (O : Nat → Int64) (hao : w ao = some (oE cJ O)) (hna : ¬ sfp w h ao) (x : Int32) : Met l y_L_drop ws_L_drop ({ frames := 7, cells := 1, slots := 6, locals := 112 }) (mPx D vwCl (mT cJ cI cP) bs w [.ref h, .int x, .ref ao]) (va_Qi (S := (Nat → Option va_E)) (fun r u => (r = 1 ∧ (¬ (0 ≤ x ∧ x < 4)) ∧ u = w) ∨ (r = 0 ∧ ∃ (r9 : Int32) (u9 : Nat → Option va_E), (∃ j, j < 4 ∧ x = nI j ∧ r9 = (if ra j = 0 then 0 else 1) ∧ sm cJ cI cP u9 h n M T (vp_updL ra j 0) rs aT aA aS pt ∧ kp w u9 (sfp w h) (sfp u9 h)) ∧ u = va_up u9 ao (some (oE cJ (vp_updL O 0 (if r9 = 0 then 0 else 1)))))) (mB D vwCl bs (fun u => u)) (mA bs)) 1 6 (mA bs) := by
  refine mt_ofWH (hh := [(0, 16, 19, 15)]) (cc := c_L_drop) (maxL := 4) (ret := (some .int)) (by decide) rfl ?_
  intro p e s m args below meth c s₁ B hml htab hv
  obtain ⟨rfl, hbs, hP, hK, hE⟩ := hv
  have hx := B.exec
  have hb := B.bytes
  have hr := B.returns
  have htg : ∀ w ∈ gt, w.before _ s = true := fun w h => atoms_spec (ws := ws_L_drop) B.pre w (List.mem_cons_of_mem _ h)
  have hown : s.vm.findClass R_L = some m.cls := findClass_of_methodNamed B.named
  have hlocks := B.notSynchronized
  have hS : va_S (mA bs) s.heap s.heap [] := va_S.rf
  have hl := lv_entry ([.ref h, .int x, .ref ao]) (n := 4) (Nat.le_of_ble_eq_true rfl)
  rw [lg_entry_eq]
  generalize (lg_sl ([.ref h, .int x, .ref ao]) ++ List.replicate (4 - (lg_sl ([.ref h, .int x, .ref ao])).length) Slot.unset).toArray = ls at hl ⊢
  have hl : lv_has ls 4 [(0, .ref h), (1, .int x), (2, .ref ao)] := hl
  obtain ⟨hn, s1, s2, s3, s4, s5, s6, s7⟩ := id hs
  have f1 : w h = some (.inr (ciS, [.int (nI n), .ref aT, .ref aA, .ref aS])) := s1
  refine lv_aload_n hx hb d_L_drop_0 rfl (lv_at hl 2 rfl) ?_
  refine lv_iconst (v := 0) hx hb d_L_drop_1 (by decide) ?_
  refine lv_aload_n hx hb d_L_drop_2 rfl (lv_at hl 0 rfl) ?_
  refine lv_iload_n hx hb d_L_drop_3 rfl (lv_at hl 1 rfl) ?_
  refine mx_i (vx_runV (As := [.int x]) (rest := [.int 0, .ref ao]) ⟨hx, hb, hml, hown, htg⟩ (t_S_drop l hl0 D cJ cI cP bs w h n M T ra rs aT aA aS pt hs x) (cwV (own := R_L) (C := R_S) 1 htg (ginV k_364 k_365 k_366 k_25 k_367) rfl rfl rfl (by decide +kernel) ⟨Nat.le_of_ble_eq_true rfl, Nat.le_of_ble_eq_true rfl⟩) (mPx.preV (ci := ciS) (q := (R_S, T_S, 4)) hbs hS hP hK hE rfl f1) rfl rfl hl.1 rfl (lv_room (Nat.le_of_ble_eq_true rfl)) d_L_drop_4 ⟨Nat.le_of_ble_eq_true rfl, Nat.le_of_ble_eq_true rfl⟩) hS (fun E9 ce9 q9 H locs hwhy hP hS hq1 hq2 hq3 => ?_) (fun r9 u9 H locs hw hP hz9 hS => ?_)
  · obtain ⟨eE, hy⟩ := hwhy
    subst eE
    refine vx_catch (own := R_L) (name := eIO) hown [] ⟨0, 16, 19, 15⟩ [] (htab.trans rfl) (fun z hz => absurd hz List.not_mem_nil) rfl (by decide) (htg _ k_80) (va_Nw.use rfl hE.2.2.1.2.1) hq1 hq2 hq3 ?_
    refine lv_astore_n (lv' := [(3, .ref q9), (0, .ref h), (1, .int x), (2, .ref ao)]) hx hb d_L_drop_19 rfl hl (by decide) rfl (fun ls hl => ?_)
    refine lv_iconst (v := 1) hx hb d_L_drop_20 (by decide) ?_
    exact W.iret (v := 1) hx hb hr (fun t ht hW => ⟨⟨_, w, rfl, Or.inl ⟨rfl, hy, rfl⟩, hP.at ht⟩, hS.F ht⟩) hS.2.2 d_L_drop_21
  · have hw : ∃ j, j < 4 ∧ x = nI j ∧ r9 = (if ra j = 0 then 0 else 1) ∧ sm cJ cI cP u9 h n M T (vp_updL ra j 0) rs aT aA aS pt ∧ kp w u9 (sfp w h) (sfp u9 h) := hw
    have hao9 : u9 ao = some (oE cJ O) := by
      obtain ⟨j, -, -, -, -, hk⟩ := hw
      exact (hk.1 ao (by rw [hao]; simp) hna).trans hao
    refine lv_if_eq (tgt := 14) hx hb d_L_drop_7 (by decide) (fun c7 => ?_) (fun c7 => ?_)
    · refine lv_lconst (v := 0) hx hb d_L_drop_14 rfl ?_
      refine mw_last hx hb hK hP hS 0 hao9 rfl in01 d_L_drop_15 (fun H locs hP hS hz15 => ?_)
      rw [show (0 : Int32).toNatClampNeg = 0 from rfl] at hP
      obtain ⟨w_1, ew_1⟩ : ∃ z9, z9 = va_up u9 ao (some (.inl (cJ, 1, .inr (.inl (vp_updL O 0 0)))) : Option va_E) := ⟨_, rfl⟩
      rw [← ew_1] at hP
      have h_2 : w_1 ao = some (.inl (cJ, 1, .inr (.inl (vp_updL O 0 0)))) := by rw [ew_1, va_up_self]
      refine lv_goto (tgt := 22) hx hb d_L_drop_16 (by decide) ?_
      refine lv_iconst (v := 0) hx hb d_L_drop_22 (by decide) ?_
      have hv : (0 : Int64) = if r9 = 0 then 0 else 1 := by rw [if_pos c7]
      exact W.iret (v := 0) hx hb hr (fun t ht hW => ⟨⟨_, w_1, rfl, Or.inr ⟨rfl, r9, u9, hw, by rw [← hv]; exact ew_1⟩, hP.at ht⟩, hS.F ht⟩) hS.2.2 d_L_drop_23
    · refine lv_lconst (v := 1) hx hb d_L_drop_10 rfl ?_
      refine lv_goto (tgt := 15) hx hb d_L_drop_11 (by decide) ?_
      refine mw_last hx hb hK hP hS 0 hao9 rfl in01 d_L_drop_15 (fun H locs hP hS hz15 => ?_)
      rw [show (0 : Int32).toNatClampNeg = 0 from rfl] at hP
      obtain ⟨w_3, ew_3⟩ : ∃ z9, z9 = va_up u9 ao (some (.inl (cJ, 1, .inr (.inl (vp_updL O 0 1)))) : Option va_E) := ⟨_, rfl⟩
      rw [← ew_3] at hP
      have h_4 : w_3 ao = some (.inl (cJ, 1, .inr (.inl (vp_updL O 0 1)))) := by rw [ew_3, va_up_self]
      refine lv_goto (tgt := 22) hx hb d_L_drop_16 (by decide) ?_
      refine lv_iconst (v := 0) hx hb d_L_drop_22 (by decide) ?_
      have hv : (1 : Int64) = if r9 = 0 then 0 else 1 := by rw [if_neg c7]
      exact W.iret (v := 0) hx hb hr (fun t ht hW => ⟨⟨_, w_3, rfl, Or.inr ⟨rfl, r9, u9, hw, by rw [← hv]; exact ew_3⟩, hP.at ht⟩, hS.F ht⟩) hS.2.2 d_L_drop_23
set_option maxHeartbeats 4000000 in
set_option maxRecDepth 100000 in
/-- reserved -/
theorem t_L_reserved (l : Launch) (hl0 : l.stackTraces = false) (D : va_G) (cJ cI cP : ClassId) (bs : Nat) (w : Nat → Option va_E) (h n : Nat) (M T : Nat → Int64) (ra : Nat → Int64) (rs : Nat → Int32) (aT aA aS : Nat) (pt : Nat → Option Nat) (hs : sm cJ cI cP w h n M T ra rs aT aA aS pt) (ao : Nat) (O : Nat → Int64) (hao : w ao = some (oE cJ O)) (x : Int32) : Met l y_L_reserved ws_L_reserved ({ frames := 7, cells := 1, slots := 6, locals := 111 }) (mPx D vwCl (mT cJ cI cP) bs w [.ref h, .int x, .ref ao]) (va_Qi (S := (Nat → Option va_E)) (fun r u => (r = 1 ∧ (¬ (0 ≤ x ∧ x < 4)) ∧ u = w) ∨ (r = 0 ∧ ∃ v, (∃ j, j < 4 ∧ x = nI j ∧ v = ra j) ∧ u = va_up w ao (some (oE cJ (vp_updL O 0 v))))) (mB D vwCl bs (fun u => u)) (mA bs)) 1 6 (mA bs) := by
  refine mt_ofWH (hh := [(0, 8, 11, 15)]) (cc := c_L_reserved) (maxL := 4) (ret := (some .int)) (by decide) rfl ?_
  intro p e s m args below meth c s₁ B hml htab hv
  obtain ⟨rfl, hbs, hP, hK, hE⟩ := hv
  have hx := B.exec
  have hb := B.bytes
  have hr := B.returns
  have htg : ∀ w ∈ gt, w.before _ s = true := fun w h => atoms_spec (ws := ws_L_reserved) B.pre w (List.mem_cons_of_mem _ h)
  have hown : s.vm.findClass R_L = some m.cls := findClass_of_methodNamed B.named
  have hlocks := B.notSynchronized
  have hS : va_S (mA bs) s.heap s.heap [] := va_S.rf
  have hl := lv_entry ([.ref h, .int x, .ref ao]) (n := 4) (Nat.le_of_ble_eq_true rfl)
  rw [lg_entry_eq]
  generalize (lg_sl ([.ref h, .int x, .ref ao]) ++ List.replicate (4 - (lg_sl ([.ref h, .int x, .ref ao])).length) Slot.unset).toArray = ls at hl ⊢
  have hl : lv_has ls 4 [(0, .ref h), (1, .int x), (2, .ref ao)] := hl
  obtain ⟨hn, s1, s2, s3, s4, s5, s6, s7⟩ := id hs
  have f1 : w h = some (.inr (ciS, [.int (nI n), .ref aT, .ref aA, .ref aS])) := s1
  refine lv_aload_n hx hb d_L_reserved_0 rfl (lv_at hl 2 rfl) ?_
  refine lv_iconst (v := 0) hx hb d_L_reserved_1 (by decide) ?_
  refine lv_aload_n hx hb d_L_reserved_2 rfl (lv_at hl 0 rfl) ?_
  refine lv_iload_n hx hb d_L_reserved_3 rfl (lv_at hl 1 rfl) ?_
  refine mx_l (vx_runV (As := [.int x]) (rest := [.int 0, .ref ao]) ⟨hx, hb, hml, hown, htg⟩ (t_S_reserved l hl0 D cJ cI cP bs w h n M T ra rs aT aA aS pt hs x) (cwV (own := R_L) (C := R_S) 1 htg (ginV k_372 k_373 k_374 k_25 k_375) rfl rfl rfl (by decide +kernel) ⟨Nat.le_of_ble_eq_true rfl, Nat.le_of_ble_eq_true rfl⟩) (mPx.preV (ci := ciS) (q := (R_S, T_S, 4)) hbs hS hP hK hE rfl f1) rfl rfl hl.1 rfl (lv_room (Nat.le_of_ble_eq_true rfl)) d_L_reserved_4 ⟨Nat.le_of_ble_eq_true rfl, Nat.le_of_ble_eq_true rfl⟩) hS (fun E9 ce9 q9 H locs hwhy hP hS hq1 hq2 hq3 => ?_) (fun r9 u9 H locs hw hP hz9 hS => ?_)
  · obtain ⟨eE, hy⟩ := hwhy
    subst eE
    refine vx_catch (own := R_L) (name := eIO) hown [] ⟨0, 8, 11, 15⟩ [] (htab.trans rfl) (fun z hz => absurd hz List.not_mem_nil) rfl (by decide) (htg _ k_80) (va_Nw.use rfl hE.2.2.1.2.1) hq1 hq2 hq3 ?_
    refine lv_astore_n (lv' := [(3, .ref q9), (0, .ref h), (1, .int x), (2, .ref ao)]) hx hb d_L_reserved_11 rfl hl (by decide) rfl (fun ls hl => ?_)
    refine lv_iconst (v := 1) hx hb d_L_reserved_12 (by decide) ?_
    exact W.iret (v := 1) hx hb hr (fun t ht hW => ⟨⟨_, w, rfl, Or.inl ⟨rfl, hy, rfl⟩, hP.at ht⟩, hS.F ht⟩) hS.2.2 d_L_reserved_13
  · refine mw_last hx hb hK hP hS 0 hao rfl in01 d_L_reserved_7 (fun H locs hP hS hz7 => ?_)
    rw [show (0 : Int32).toNatClampNeg = 0 from rfl] at hP
    obtain ⟨w_1, ew_1⟩ : ∃ z9, z9 = va_up w ao (some (.inl (cJ, 1, .inr (.inl (vp_updL O 0 r9)))) : Option va_E) := ⟨_, rfl⟩
    rw [← ew_1] at hP
    have h_2 : w_1 ao = some (.inl (cJ, 1, .inr (.inl (vp_updL O 0 r9)))) := by rw [ew_1, va_up_self]
    have h_3 : w_1 h = some (.inr (ciS, [.int (nI n), .ref aT, .ref aA, .ref aS])) := by rw [ew_1, va_up_ne _ _ (fun z => by rw [z, hao] at f1; cases f1)]; exact f1
    have h_4 : w_1 aT = some (.inl (cP, n, .inr (.inr (.inr (.inr pt))))) := by rw [ew_1, va_up_ne _ _ (fun z => by rw [z, hao] at s2; simp at s2)]; exact s2
    have h_5 : w_1 aA = some (.inl (cJ, 4, .inr (.inl ra))) := by rw [ew_1, va_up_ne _ _ (fun z => by rw [z, hao] at s3; simp at s3)]; exact s3
    have h_6 : w_1 aS = some (.inl (cI, 4, .inl rs)) := by rw [ew_1, va_up_ne _ _ (fun z => by rw [z, hao] at s4; simp at s4)]; exact s4
    refine lv_goto (tgt := 14) hx hb d_L_reserved_8 (by decide) ?_
    refine lv_iconst (v := 0) hx hb d_L_reserved_14 (by decide) ?_
    exact W.iret (v := 0) hx hb hr (fun t ht hW => ⟨⟨_, w_1, rfl, Or.inr ⟨rfl, r9, hw, ew_1⟩, hP.at ht⟩, hS.F ht⟩) hS.2.2 d_L_reserved_15
set_option maxHeartbeats 4000000 in
set_option maxRecDepth 100000 in
/-- writes -/
theorem t_L_writes (l : Launch) (hl0 : l.stackTraces = false) (D : va_G) (cJ cI cP : ClassId) (bs : Nat) (w : Nat → Option va_E) (h n : Nat) (M T : Nat → Int64) (ra : Nat → Int64) (rs : Nat → Int32) (aT aA aS : Nat) (pt : Nat → Option Nat) (hs : sm cJ cI cP w h n M T ra rs aT aA aS pt) (ao : Nat) (O : Nat → Int64) (hao : w ao = some (oE cJ O)) (x : Int32) : Met l y_L_writes ws_L_writes ({ frames := 7, cells := 1, slots := 6, locals := 112 }) (mPx D vwCl (mT cJ cI cP) bs w [.ref h, .int x, .ref ao]) (va_Qi (S := (Nat → Option va_E)) (fun r u => (r = 1 ∧ (¬ ∃ i, i < n ∧ x = nI i) ∧ u = w) ∨ (r = 0 ∧ ∃ v, (∃ i, i < n ∧ x = nI i ∧ v = T i) ∧ u = va_up w ao (some (oE cJ (vp_updL O 0 v))))) (mB D vwCl bs (fun u => u)) (mA bs)) 1 6 (mA bs) := by
  refine mt_ofWH (hh := [(0, 8, 11, 15)]) (cc := c_L_writes) (maxL := 4) (ret := (some .int)) (by decide) rfl ?_
  intro p e s m args below meth c s₁ B hml htab hv
  obtain ⟨rfl, hbs, hP, hK, hE⟩ := hv
  have hx := B.exec
  have hb := B.bytes
  have hr := B.returns
  have htg : ∀ w ∈ gt, w.before _ s = true := fun w h => atoms_spec (ws := ws_L_writes) B.pre w (List.mem_cons_of_mem _ h)
  have hown : s.vm.findClass R_L = some m.cls := findClass_of_methodNamed B.named
  have hlocks := B.notSynchronized
  have hS : va_S (mA bs) s.heap s.heap [] := va_S.rf
  have hl := lv_entry ([.ref h, .int x, .ref ao]) (n := 4) (Nat.le_of_ble_eq_true rfl)
  rw [lg_entry_eq]
  generalize (lg_sl ([.ref h, .int x, .ref ao]) ++ List.replicate (4 - (lg_sl ([.ref h, .int x, .ref ao])).length) Slot.unset).toArray = ls at hl ⊢
  have hl : lv_has ls 4 [(0, .ref h), (1, .int x), (2, .ref ao)] := hl
  obtain ⟨hn, s1, s2, s3, s4, s5, s6, s7⟩ := id hs
  have f1 : w h = some (.inr (ciS, [.int (nI n), .ref aT, .ref aA, .ref aS])) := s1
  refine lv_aload_n hx hb d_L_writes_0 rfl (lv_at hl 2 rfl) ?_
  refine lv_iconst (v := 0) hx hb d_L_writes_1 (by decide) ?_
  refine lv_aload_n hx hb d_L_writes_2 rfl (lv_at hl 0 rfl) ?_
  refine lv_iload_n hx hb d_L_writes_3 rfl (lv_at hl 1 rfl) ?_
  refine mx_l (vx_runV (As := [.int x]) (rest := [.int 0, .ref ao]) ⟨hx, hb, hml, hown, htg⟩ (t_S_writes l hl0 D cJ cI cP bs w h n M T ra rs aT aA aS pt hs x) (cwV (own := R_L) (C := R_S) 1 htg (ginV k_379 k_380 k_381 k_25 k_382) rfl rfl rfl (by decide +kernel) ⟨Nat.le_of_ble_eq_true rfl, Nat.le_of_ble_eq_true rfl⟩) (mPx.preV (ci := ciS) (q := (R_S, T_S, 4)) hbs hS hP hK hE rfl f1) rfl rfl hl.1 rfl (lv_room (Nat.le_of_ble_eq_true rfl)) d_L_writes_4 ⟨Nat.le_of_ble_eq_true rfl, Nat.le_of_ble_eq_true rfl⟩) hS (fun E9 ce9 q9 H locs hwhy hP hS hq1 hq2 hq3 => ?_) (fun r9 u9 H locs hw hP hz9 hS => ?_)
  · obtain ⟨eE, hy⟩ := hwhy
    subst eE
    refine vx_catch (own := R_L) (name := eIO) hown [] ⟨0, 8, 11, 15⟩ [] (htab.trans rfl) (fun z hz => absurd hz List.not_mem_nil) rfl (by decide) (htg _ k_80) (va_Nw.use rfl hE.2.2.1.2.1) hq1 hq2 hq3 ?_
    refine lv_astore_n (lv' := [(3, .ref q9), (0, .ref h), (1, .int x), (2, .ref ao)]) hx hb d_L_writes_11 rfl hl (by decide) rfl (fun ls hl => ?_)
    refine lv_iconst (v := 1) hx hb d_L_writes_12 (by decide) ?_
    exact W.iret (v := 1) hx hb hr (fun t ht hW => ⟨⟨_, w, rfl, Or.inl ⟨rfl, hy, rfl⟩, hP.at ht⟩, hS.F ht⟩) hS.2.2 d_L_writes_13
  · refine mw_last hx hb hK hP hS 0 hao rfl in01 d_L_writes_7 (fun H locs hP hS hz7 => ?_)
    rw [show (0 : Int32).toNatClampNeg = 0 from rfl] at hP
    obtain ⟨w_1, ew_1⟩ : ∃ z9, z9 = va_up w ao (some (.inl (cJ, 1, .inr (.inl (vp_updL O 0 r9)))) : Option va_E) := ⟨_, rfl⟩
    rw [← ew_1] at hP
    have h_2 : w_1 ao = some (.inl (cJ, 1, .inr (.inl (vp_updL O 0 r9)))) := by rw [ew_1, va_up_self]
    have h_3 : w_1 h = some (.inr (ciS, [.int (nI n), .ref aT, .ref aA, .ref aS])) := by rw [ew_1, va_up_ne _ _ (fun z => by rw [z, hao] at f1; cases f1)]; exact f1
    have h_4 : w_1 aT = some (.inl (cP, n, .inr (.inr (.inr (.inr pt))))) := by rw [ew_1, va_up_ne _ _ (fun z => by rw [z, hao] at s2; simp at s2)]; exact s2
    have h_5 : w_1 aA = some (.inl (cJ, 4, .inr (.inl ra))) := by rw [ew_1, va_up_ne _ _ (fun z => by rw [z, hao] at s3; simp at s3)]; exact s3
    have h_6 : w_1 aS = some (.inl (cI, 4, .inl rs)) := by rw [ew_1, va_up_ne _ _ (fun z => by rw [z, hao] at s4; simp at s4)]; exact s4
    refine lv_goto (tgt := 14) hx hb d_L_writes_8 (by decide) ?_
    refine lv_iconst (v := 0) hx hb d_L_writes_14 (by decide) ?_
    exact W.iret (v := 0) hx hb hr (fun t ht hW => ⟨⟨_, w_1, rfl, Or.inr ⟨rfl, r9, hw, ew_1⟩, hP.at ht⟩, hS.F ht⟩) hS.2.2 d_L_writes_15
set_option maxHeartbeats 4000000 in
set_option maxRecDepth 100000 in
/-- sum -/
theorem t_L_sum (l : Launch) (hl0 : l.stackTraces = false) (D : va_G) (cJ cI cP : ClassId) (bs : Nat) (w : Nat → Option va_E) (h n : Nat) (M T : Nat → Int64) (ra : Nat → Int64) (rs : Nat → Int32) (aT aA aS : Nat) (pt : Nat → Option Nat) (hs : sm cJ cI cP w h n M T ra rs aT aA aS pt) (ao : Nat) (O : Nat → Int64) (hao : w ao = some (oE cJ O)) (x : Int32) : Met l y_L_sum ws_L_sum ({ frames := 7, cells := 1, slots := 6, locals := 112 }) (mPx D vwCl (mT cJ cI cP) bs w [.ref h, .int x, .ref ao]) (va_Qi (S := (Nat → Option va_E)) (fun r u => (r = 1 ∧ (¬ ∃ i, i < n ∧ x = nI i) ∧ u = w) ∨ (r = 0 ∧ ∃ v, (∃ i, i < n ∧ x = nI i ∧ v = tot (fun j => M (512 * i + j)) 4096) ∧ u = va_up w ao (some (oE cJ (vp_updL O 0 v))))) (mB D vwCl bs (fun u => u)) (mA bs)) 1 6 (mA bs) := by
  refine mt_ofWH (hh := [(0, 8, 11, 15)]) (cc := c_L_sum) (maxL := 4) (ret := (some .int)) (by decide) rfl ?_
  intro p e s m args below meth c s₁ B hml htab hv
  obtain ⟨rfl, hbs, hP, hK, hE⟩ := hv
  have hx := B.exec
  have hb := B.bytes
  have hr := B.returns
  have htg : ∀ w ∈ gt, w.before _ s = true := fun w h => atoms_spec (ws := ws_L_sum) B.pre w (List.mem_cons_of_mem _ h)
  have hown : s.vm.findClass R_L = some m.cls := findClass_of_methodNamed B.named
  have hlocks := B.notSynchronized
  have hS : va_S (mA bs) s.heap s.heap [] := va_S.rf
  have hl := lv_entry ([.ref h, .int x, .ref ao]) (n := 4) (Nat.le_of_ble_eq_true rfl)
  rw [lg_entry_eq]
  generalize (lg_sl ([.ref h, .int x, .ref ao]) ++ List.replicate (4 - (lg_sl ([.ref h, .int x, .ref ao])).length) Slot.unset).toArray = ls at hl ⊢
  have hl : lv_has ls 4 [(0, .ref h), (1, .int x), (2, .ref ao)] := hl
  obtain ⟨hn, s1, s2, s3, s4, s5, s6, s7⟩ := id hs
  have f1 : w h = some (.inr (ciS, [.int (nI n), .ref aT, .ref aA, .ref aS])) := s1
  refine lv_aload_n hx hb d_L_sum_0 rfl (lv_at hl 2 rfl) ?_
  refine lv_iconst (v := 0) hx hb d_L_sum_1 (by decide) ?_
  refine lv_aload_n hx hb d_L_sum_2 rfl (lv_at hl 0 rfl) ?_
  refine lv_iload_n hx hb d_L_sum_3 rfl (lv_at hl 1 rfl) ?_
  refine mx_l (vx_runV (As := [.int x]) (rest := [.int 0, .ref ao]) ⟨hx, hb, hml, hown, htg⟩ (t_S_sum l hl0 D cJ cI cP bs w h n M T ra rs aT aA aS pt hs x) (cwV (own := R_L) (C := R_S) 1 htg (ginV k_395 k_396 k_397 k_25 k_398) rfl rfl rfl (by decide +kernel) ⟨Nat.le_of_ble_eq_true rfl, Nat.le_of_ble_eq_true rfl⟩) (mPx.preV (ci := ciS) (q := (R_S, T_S, 4)) hbs hS hP hK hE rfl f1) rfl rfl hl.1 rfl (lv_room (Nat.le_of_ble_eq_true rfl)) d_L_sum_4 ⟨Nat.le_of_ble_eq_true rfl, Nat.le_of_ble_eq_true rfl⟩) hS (fun E9 ce9 q9 H locs hwhy hP hS hq1 hq2 hq3 => ?_) (fun r9 u9 H locs hw hP hz9 hS => ?_)
  · obtain ⟨eE, hy⟩ := hwhy
    subst eE
    refine vx_catch (own := R_L) (name := eIO) hown [] ⟨0, 8, 11, 15⟩ [] (htab.trans rfl) (fun z hz => absurd hz List.not_mem_nil) rfl (by decide) (htg _ k_80) (va_Nw.use rfl hE.2.2.1.2.1) hq1 hq2 hq3 ?_
    refine lv_astore_n (lv' := [(3, .ref q9), (0, .ref h), (1, .int x), (2, .ref ao)]) hx hb d_L_sum_11 rfl hl (by decide) rfl (fun ls hl => ?_)
    refine lv_iconst (v := 1) hx hb d_L_sum_12 (by decide) ?_
    exact W.iret (v := 1) hx hb hr (fun t ht hW => ⟨⟨_, w, rfl, Or.inl ⟨rfl, hy, rfl⟩, hP.at ht⟩, hS.F ht⟩) hS.2.2 d_L_sum_13
  · refine mw_last hx hb hK hP hS 0 hao rfl in01 d_L_sum_7 (fun H locs hP hS hz7 => ?_)
    rw [show (0 : Int32).toNatClampNeg = 0 from rfl] at hP
    obtain ⟨w_1, ew_1⟩ : ∃ z9, z9 = va_up w ao (some (.inl (cJ, 1, .inr (.inl (vp_updL O 0 r9)))) : Option va_E) := ⟨_, rfl⟩
    rw [← ew_1] at hP
    have h_2 : w_1 ao = some (.inl (cJ, 1, .inr (.inl (vp_updL O 0 r9)))) := by rw [ew_1, va_up_self]
    have h_3 : w_1 h = some (.inr (ciS, [.int (nI n), .ref aT, .ref aA, .ref aS])) := by rw [ew_1, va_up_ne _ _ (fun z => by rw [z, hao] at f1; cases f1)]; exact f1
    have h_4 : w_1 aT = some (.inl (cP, n, .inr (.inr (.inr (.inr pt))))) := by rw [ew_1, va_up_ne _ _ (fun z => by rw [z, hao] at s2; simp at s2)]; exact s2
    have h_5 : w_1 aA = some (.inl (cJ, 4, .inr (.inl ra))) := by rw [ew_1, va_up_ne _ _ (fun z => by rw [z, hao] at s3; simp at s3)]; exact s3
    have h_6 : w_1 aS = some (.inl (cI, 4, .inl rs)) := by rw [ew_1, va_up_ne _ _ (fun z => by rw [z, hao] at s4; simp at s4)]; exact s4
    refine lv_goto (tgt := 14) hx hb d_L_sum_8 (by decide) ?_
    refine lv_iconst (v := 0) hx hb d_L_sum_14 (by decide) ?_
    exact W.iret (v := 0) hx hb hr (fun t ht hW => ⟨⟨_, w_1, rfl, Or.inr ⟨rfl, r9, hw, ew_1⟩, hP.at ht⟩, hS.F ht⟩) hS.2.2 d_L_sum_15
