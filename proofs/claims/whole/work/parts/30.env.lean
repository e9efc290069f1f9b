/-! WHAT A METHOD THAT THROWS STANDS ON, beside the words of gt -/
def eIA : String := "java/lang/IllegalArgumentException"
def eIO : String := "java/lang/IndexOutOfBoundsException"
def eIS : String := "java/lang/IllegalStateException"
abbrev eUp : List String := ["java/lang/RuntimeException", "java/lang/Exception"]
def dcl (C : String) : Cond := .declares ⟨C, "<init>", "(Ljava/lang/String;)V"⟩
abbrev ngL (E : String) : List Cond := [Cond.castable E E, dcl "java/lang/RuntimeException", dcl "java/lang/Exception", dcl "java/lang/Throwable"]
theorem ng_IA : ∀ w ∈ (vx_atS R_S 35 eIA eUp).filter (fun w => !goodWord w), w ∈ ngL eIA := by decide +kernel
theorem ng_IO : ∀ w ∈ (vx_atS R_S 46 eIO eUp).filter (fun w => !goodWord w), w ∈ ngL eIO := by decide +kernel
theorem ng_IS : ∀ w ∈ (vx_atS R_S 89 eIS eUp).filter (fun w => !goodWord w), w ∈ ngL eIS := by decide +kernel
theorem g_IA : ∀ w ∈ (vx_atS R_S 35 eIA eUp).filter goodWord, w ∈ gt := by decide +kernel
theorem g_IO : ∀ w ∈ (vx_atS R_S 46 eIO eUp).filter goodWord, w ∈ gt := by decide +kernel
theorem g_IS : ∀ w ∈ (vx_atS R_S 89 eIS eUp).filter goodWord, w ∈ gt := by decide +kernel
abbrev nwS : Cond := .methodLinkNest R_P 50 y_S_shiftInWord R_S
/-- what the tables and the start say beside the good words: a nest mate's link, what a throw and a catch ask for, the texts -/
def evX (bs : Nat) (U : State) : Prop :=
  (va_Nw nwS U ∧ va_AO R_P U) ∧ (vx_Zq Bundle.tN "UNASSIGNED_STACK" Bundle.steD (mA bs) U U.heap ∧ vx_Zq Bundle.tN "SUPPRESSED_SENTINEL" Bundle.listD (mA bs) U U.heap) ∧
  (va_Nw (.castable eIA eIA) U ∧ va_Nw (.castable eIO eIO) U ∧ va_Nw (.castable eIS eIS) U) ∧ (va_Nw (dcl "java/lang/RuntimeException") U ∧ va_Nw (dcl "java/lang/Exception") U ∧ va_Nw (dcl "java/lang/Throwable") U) ∧
  (va_Nc eIO eIA U ∧ va_Nc eIS eIA U ∧ va_Nc eIS eIO U) ∧
  ((∃ q, vk_R R_S 33 "no such size" q U) ∧ (∃ q, vk_R R_S 44 "a byte is not in memory" q U) ∧ (∃ q, vk_R R_S 59 "the end is before the start" q U) ∧ (∃ q, vk_R R_S 78 "no such size or kind" q U) ∧ (∃ q, vk_R R_S 83 "no such processor, or a byte is not in memory" q U) ∧ (∃ q, vk_R R_S 87 "the size does not divide the address" q U) ∧ (∃ q, vk_R R_S 102 "no such processor" q U) ∧ ∃ q, vk_R R_S 107 "no such page" q U)
theorem exR {own tx : String} {k : Nat} {s U : State} (hW : s.WarmedH U.vm) (h : ∃ q, vk_R own k tx q s) : ∃ q, vk_R own k tx q U := h.elim fun q h => ⟨q, vk_R.warm hW h⟩
theorem evX.warm {bs : Nat} {s U : State} (hW : s.WarmedH U.vm) (hk : ∀ a : Nat, a < s.heap.size → ¬ mA bs a → U.heap[a]? = s.heap[a]?) (h : evX bs s) : evX bs U := by
  obtain ⟨⟨a1, a2⟩, ⟨b1, b2⟩, ⟨c1, c2, c3⟩, ⟨d1, d2, d3⟩, ⟨e1, e2, e3⟩, f1, f2, f3, f4, f5, f6, f7, f8⟩ := h
  exact ⟨⟨va_Nw.warmM hW a1, va_AO.moved hW.alike a2⟩, ⟨(b1.moved hW.alike).kept hk, (b2.moved hW.alike).kept hk⟩, ⟨va_Nw.warmC hW c1, va_Nw.warmC hW c2, va_Nw.warmC hW c3⟩, ⟨va_Nw.warmD hW d1, va_Nw.warmD hW d2, va_Nw.warmD hW d3⟩, ⟨va_Nc.moved hW.alike e1, va_Nc.moved hW.alike e2, va_Nc.moved hW.alike e3⟩,
    exR hW f1, exR hW f2, exR hW f3, exR hW f4, exR hW f5, exR hW f6, exR hW f7, exR hW f8⟩
def mPx (D : va_G) (cl : List vw_C) (tys : List (ClassId × FieldType)) (bs : Nat) (w : Nat → Option va_E) (av : List Value) : Array Value → State → Prop := va_Pc av (fun U => bs ≤ U.heap.size ∧ mw D cl bs w U.heap ∧ va_K D cl tys U ∧ evX bs U)
theorem mPx.blind {D : va_G} {cl : List vw_C} {tys : List (ClassId × FieldType)} {bs : Nat} {w : Nat → Option va_E} {av : List Value} : FrameBlind (mPx D cl tys bs w av) := fun a U g mk q => by
  obtain ⟨q0, q1, q2, q3, q4⟩ := q
  exact ⟨q0, q1, q2, va_K.moved (u := U) (U := U.calling g mk a) (Vm.Alike.refl U.vm) q3, evX.warm (s := U) (U := U.calling g mk a) (State.WarmedH.refl U) (fun _ _ _ => rfl) q4⟩
theorem mPx.preS {D : va_G} {cl : List vw_C} {tys : List (ClassId × FieldType)} {bs : Nat} {w : Nat → Option va_E} {av : List Value} {s : State} {H : Heap} {locs : List Loc} (hbs : bs ≤ s.heap.size) (hS : va_S (mA bs) s.heap H locs) (hP : mw D cl bs w H) (hK : va_K D cl tys s) (hE : evX bs s) : PreS s H (mPx D cl tys bs w av) av :=
  ⟨mPx.blind, fun U hU hW => ⟨rfl, by rw [hU]; exact Nat.le_trans hbs hS.1, by rw [hU]; exact hP, va_K.moved hW.alike hK, evX.warm hW (fun a h1 h2 => by rw [hU]; exact hS.2.1 a h1 h2) hE⟩⟩
theorem mPx.preV {D : va_G} {cl : List vw_C} {tys : List (ClassId × FieldType)} {bs : Nat} {w : Nat → Option va_E} {As : List Value} {s : State} {H : Heap} {locs : List Loc} {b ci : Nat} {q : vw_C} {fs : List Value} (hbs : bs ≤ s.heap.size) (hS : va_S (mA bs) s.heap H locs) (hP : mw D cl bs w H) (hK : va_K D cl tys s) (hE : evX bs s) (hc : cl[ci]? = some q) (he : w b = some (.inr (ci, fs))) : PreV s H q.1 b (mPx D cl tys bs w (.ref b :: As)) As :=
  ⟨mPx.blind, mw_recv hK hP hc he, fun U hU hW => ⟨rfl, by rw [hU]; exact Nat.le_trans hbs hS.1, by rw [hU]; exact hP, va_K.moved hW.alike hK, evX.warm hW (fun a h1 h2 => by rw [hU]; exact hS.2.1 a h1 h2) hE⟩⟩
/-- what a throw says: the class by its name, why, and that the world is as before -/
abbrev xX (D : va_G) (cl : List vw_C) (bs : Nat) (w : Nat → Option va_E) (why : String → Prop) : String → State → State → Prop := vx_X (S := Unit) (fun _ => True) (fun E _ t => why E ∧ mw D cl bs w t.heap) (mA bs)
section THR
variable {p : Program} {l : Launch} {e : Env} {R : Room} {s : State} {m : MethodId} {args : Array Value} {below : List Frame} {meth : Method} {c : Code} {H : Heap} {locs : List Loc} {cells slots : Nat}
variable {cc : ByteArray} {pc : Nat} {ls : Array Slot} {rest : List Value} {D : va_G} {cl : List vw_C} {bs : Nat} {w : Nat → Option va_E} {Qc : Array Value → State → Outcome → State → Prop}
/-- 'throw new E("..")' of the class -/
theorem mw_throw (hx : p.tables.exec = Jvm.exec) (hb : c.code = cc) (hl0 : l.stackTraces = false) (hown : s.vm.findClass R_S = some m.cls) (htg : ∀ w ∈ gt, w.before args s = true) (hE : evX bs s) {E : String} {ik is ic mc ms : Nat} {text : String} {why : String → Prop} (hcls : Bundle.fit E = true)
    (hk : Cond.classLink R_S ik E ∈ gt) (hini : Cond.initialized E ∈ gt) (hstr : ∃ q, vk_R R_S is text q s) (hg : ∀ w ∈ (vx_atS R_S ic E eUp).filter goodWord, w ∈ gt) (hng : ∀ w ∈ (vx_atS R_S ic E eUp).filter (fun w => !goodWord w), w ∈ ngL E) (hcast : va_Nw (.castable E E) s) (hot : (vx_atS R_S ic E eUp).all vx_ot = true)
    (hP : mw D cl bs w H) (hS : va_S (mA bs) s.heap H locs) (hsize : ls.size = c.maxLocals)
    (d0 : decode cc pc = .ok (.new ik, 3)) (d3 : decode cc (pc + 3) = .ok (.dup, 1)) (d4 : decode cc (pc + 4) = .ok (.ldc is, 2)) (d6 : decode cc (pc + 6) = .ok (.invokespecial ic, 3)) (d9 : decode cc (pc + 9) = .ok (.athrow, 1))
    (hout : ∀ x ∈ c.exceptionTable.toList, False) (hRf : 5 < R.frames) (hRl : (rest.map fun v => v.category).sum + 82 ≤ R.locals) (hRc : cells + 1 ≤ R.cells) (hRs : slots + 6 ≤ R.slots) (hlocks : meth.locks = false) (hwhy : why E) (hc : cells + 1 ≤ mc) (hs : slots + 6 ≤ ms) :
    W p l e R s m args below meth c H locs cells slots (vx_MQ below Qc (xX D cl bs w why) args s mc ms (mA bs)) (F0 m pc ls rest) := by
  obtain ⟨sa, hsa⟩ := hstr
  obtain ⟨-, ⟨z1, z2⟩, -, ⟨n1, n2, n3⟩, -⟩ := hE
  have hall : ∀ w ∈ vx_atS R_S ic E eUp, w.before args s = true := vx_hat (B := ngL E) (fun w hw => htg w (hg w hw)) hng (vx_c (va_Nw.use rfl hcast) (vx_c (va_Nw.use rfl n1) (vx_c (va_Nw.use rfl n2) (vx_c (va_Nw.use rfl n3) vx_n))))
  refine vx_throwS hx hb hl0 (own := R_S) (cls := E) (text := text) (names := eUp) (A := mA bs) hown hcls (by decide +kernel) (htg _ hk) (htg _ hini) hsa hall ?_ z1 z2 hS hsize d0 d3 d4 d6 d9 (fun x hx => (hout x hx).elim) hRf hRl hRc hRs hlocks ?_ hS.2.2 hc hs
  · intro w hw
    rcases List.mem_cons.mp hw with e1 | hw
    · rw [e1]; rfl
    · rcases List.mem_cons.mp hw with e2 | hw
      · rw [e2]; rfl
      · exact List.all_eq_true.mp hot w hw
  · intro t _ hz hq
    exact ⟨(), trivial, ⟨hwhy, hP.kept hq⟩, Nat.le_trans hS.1 hz, fun q h1 h2 => (hq q (Nat.lt_of_lt_of_le h1 hS.1)).trans (hS.2.1 q h1 h2)⟩
end THR
theorem ot_IA : (vx_atS R_S 35 eIA eUp).all vx_ot = true := by decide +kernel
theorem ot_IO : (vx_atS R_S 46 eIO eUp).all vx_ot = true := by decide +kernel
theorem ot_IS : (vx_atS R_S 89 eIS eUp).all vx_ot = true := by decide +kernel
