section
-- ===== PART A: goes FIRST, ahead of the names: the tables' words, and 'selects' of the private methods out of them =====
/-- a private method of a class that the tables say can be made, by its rows of tables_1 -/
def lw_okq (q : MethodName × Nat) : Prop := (q.1.cls ≠ "java/lang/invoke/MethodHandle" ∧ q.1.cls ≠ "java/lang/invoke/VarHandle") ∧ Cond.instantiable q.1.cls q.2 ∈ tables_1 ∧ Cond.privateMethod q.1 ∈ tables_1 ∧ Cond.instanceMethod q.1 ∈ tables_1
theorem lw_p0 : lw_okq (⟨"java/lang/Throwable", "fillInStackTrace", "(I)Ljava/lang/Throwable;"⟩, 6) := ⟨⟨by decide +kernel, by decide +kernel⟩, List.mem_of_getElem? (i := 103) (by decide +kernel), List.mem_of_getElem? (i := 101) (by decide +kernel), List.mem_of_getElem? (i := 102) (by decide +kernel)⟩
theorem lw_p1 : lw_okq (⟨"SharedMemory", "isInMemory", "(JI)Z"⟩, 4) := ⟨⟨by decide +kernel, by decide +kernel⟩, List.mem_of_getElem? (i := 13) (by decide +kernel), List.mem_of_getElem? (i := 133) (by decide +kernel), List.mem_of_getElem? (i := 134) (by decide +kernel)⟩
theorem lw_p2 : lw_okq (⟨"SharedMemory", "endAddress", "()J"⟩, 4) := ⟨⟨by decide +kernel, by decide +kernel⟩, List.mem_of_getElem? (i := 13) (by decide +kernel), List.mem_of_getElem? (i := 138) (by decide +kernel), List.mem_of_getElem? (i := 139) (by decide +kernel)⟩
theorem lw_p3 : lw_okq (⟨"SharedMemory", "numberAt", "(II)J"⟩, 4) := ⟨⟨by decide +kernel, by decide +kernel⟩, List.mem_of_getElem? (i := 13) (by decide +kernel), List.mem_of_getElem? (i := 162) (by decide +kernel), List.mem_of_getElem? (i := 163) (by decide +kernel)⟩
theorem lw_p4 : lw_okq (⟨"SharedMemory", "wordAt", "(I)J"⟩, 4) := ⟨⟨by decide +kernel, by decide +kernel⟩, List.mem_of_getElem? (i := 13) (by decide +kernel), List.mem_of_getElem? (i := 169) (by decide +kernel), List.mem_of_getElem? (i := 170) (by decide +kernel)⟩
theorem lw_p5 : lw_okq (⟨"SharedMemory", "putNumber", "(IIJ)V"⟩, 4) := ⟨⟨by decide +kernel, by decide +kernel⟩, List.mem_of_getElem? (i := 13) (by decide +kernel), List.mem_of_getElem? (i := 188) (by decide +kernel), List.mem_of_getElem? (i := 189) (by decide +kernel)⟩
theorem lw_p6 : lw_okq (⟨"SharedMemory", "mergeWord", "(IJJ)V"⟩, 4) := ⟨⟨by decide +kernel, by decide +kernel⟩, List.mem_of_getElem? (i := 13) (by decide +kernel), List.mem_of_getElem? (i := 192) (by decide +kernel), List.mem_of_getElem? (i := 193) (by decide +kernel)⟩
theorem lw_p7 : lw_okq (⟨"SharedMemory", "pageToWrite", "(I)LSharedMemory$Page;"⟩, 4) := ⟨⟨by decide +kernel, by decide +kernel⟩, List.mem_of_getElem? (i := 13) (by decide +kernel), List.mem_of_getElem? (i := 196) (by decide +kernel), List.mem_of_getElem? (i := 197) (by decide +kernel)⟩
theorem lw_p8 : lw_okq (⟨"SharedMemory$Page", "writtenOutWords", "()[J"⟩, 5) := ⟨⟨by decide +kernel, by decide +kernel⟩, List.mem_of_getElem? (i := 199) (by decide +kernel), List.mem_of_getElem? (i := 227) (by decide +kernel), List.mem_of_getElem? (i := 228) (by decide +kernel)⟩
theorem lw_p9 : lw_okq (⟨"SharedMemory", "noteStored", "(II)V"⟩, 4) := ⟨⟨by decide +kernel, by decide +kernel⟩, List.mem_of_getElem? (i := 13) (by decide +kernel), List.mem_of_getElem? (i := 234) (by decide +kernel), List.mem_of_getElem? (i := 235) (by decide +kernel)⟩
theorem lw_p10 : lw_okq (⟨"SharedMemory", "loseReservations", "(II)V"⟩, 4) := ⟨⟨by decide +kernel, by decide +kernel⟩, List.mem_of_getElem? (i := 13) (by decide +kernel), List.mem_of_getElem? (i := 242) (by decide +kernel), List.mem_of_getElem? (i := 243) (by decide +kernel)⟩
theorem lw_p11 : lw_okq (⟨"SharedMemory", "putSameBytes", "(IIJ)V"⟩, 4) := ⟨⟨by decide +kernel, by decide +kernel⟩, List.mem_of_getElem? (i := 13) (by decide +kernel), List.mem_of_getElem? (i := 255) (by decide +kernel), List.mem_of_getElem? (i := 256) (by decide +kernel)⟩
theorem lw_p12 : lw_okq (⟨"SharedMemory$Page", "makeEven", "(J)V"⟩, 5) := ⟨⟨by decide +kernel, by decide +kernel⟩, List.mem_of_getElem? (i := 199) (by decide +kernel), List.mem_of_getElem? (i := 269) (by decide +kernel), List.mem_of_getElem? (i := 270) (by decide +kernel)⟩
theorem lw_p13 : lw_okq (⟨"SharedMemory", "reserve", "(IJI)J"⟩, 4) := ⟨⟨by decide +kernel, by decide +kernel⟩, List.mem_of_getElem? (i := 13) (by decide +kernel), List.mem_of_getElem? (i := 310) (by decide +kernel), List.mem_of_getElem? (i := 311) (by decide +kernel)⟩
theorem lw_p14 : lw_okq (⟨"SharedMemory", "storeIfReserved", "(IJIJ)J"⟩, 4) := ⟨⟨by decide +kernel, by decide +kernel⟩, List.mem_of_getElem? (i := 13) (by decide +kernel), List.mem_of_getElem? (i := 317) (by decide +kernel), List.mem_of_getElem? (i := 318) (by decide +kernel)⟩
theorem lw_p15 : lw_okq (⟨"SharedMemory", "change", "(IIIJ)J"⟩, 4) := ⟨⟨by decide +kernel, by decide +kernel⟩, List.mem_of_getElem? (i := 13) (by decide +kernel), List.mem_of_getElem? (i := 321) (by decide +kernel), List.mem_of_getElem? (i := 322) (by decide +kernel)⟩
def lw_privs_1 : List (MethodName × Nat) := [(⟨"java/lang/Throwable", "fillInStackTrace", "(I)Ljava/lang/Throwable;"⟩, 6), (⟨"SharedMemory", "isInMemory", "(JI)Z"⟩, 4), (⟨"SharedMemory", "endAddress", "()J"⟩, 4), (⟨"SharedMemory", "numberAt", "(II)J"⟩, 4), (⟨"SharedMemory", "wordAt", "(I)J"⟩, 4), (⟨"SharedMemory", "putNumber", "(IIJ)V"⟩, 4), (⟨"SharedMemory", "mergeWord", "(IJJ)V"⟩, 4), (⟨"SharedMemory", "pageToWrite", "(I)LSharedMemory$Page;"⟩, 4), (⟨"SharedMemory$Page", "writtenOutWords", "()[J"⟩, 5), (⟨"SharedMemory", "noteStored", "(II)V"⟩, 4), (⟨"SharedMemory", "loseReservations", "(II)V"⟩, 4), (⟨"SharedMemory", "putSameBytes", "(IIJ)V"⟩, 4), (⟨"SharedMemory$Page", "makeEven", "(J)V"⟩, 5), (⟨"SharedMemory", "reserve", "(IJI)J"⟩, 4), (⟨"SharedMemory", "storeIfReserved", "(IJIJ)J"⟩, 4), (⟨"SharedMemory", "change", "(IIIJ)J"⟩, 4)]
theorem lw_r1 : ∀ q ∈ lw_privs_1, lw_okq q := List.forall_mem_cons.mpr ⟨lw_p0, List.forall_mem_cons.mpr ⟨lw_p1, List.forall_mem_cons.mpr ⟨lw_p2, List.forall_mem_cons.mpr ⟨lw_p3, List.forall_mem_cons.mpr ⟨lw_p4, List.forall_mem_cons.mpr ⟨lw_p5, List.forall_mem_cons.mpr ⟨lw_p6, List.forall_mem_cons.mpr ⟨lw_p7, List.forall_mem_cons.mpr ⟨lw_p8, List.forall_mem_cons.mpr ⟨lw_p9, List.forall_mem_cons.mpr ⟨lw_p10, List.forall_mem_cons.mpr ⟨lw_p11, List.forall_mem_cons.mpr ⟨lw_p12, List.forall_mem_cons.mpr ⟨lw_p13, List.forall_mem_cons.mpr ⟨lw_p14, List.forall_mem_cons.mpr ⟨lw_p15, fun _ h => absurd h List.not_mem_nil⟩⟩⟩⟩⟩⟩⟩⟩⟩⟩⟩⟩⟩⟩⟩⟩
theorem lw_p16 : lw_okq (⟨"SharedMemory", "isPage", "(I)Z"⟩, 4) := ⟨⟨by decide +kernel, by decide +kernel⟩, List.mem_of_getElem? (i := 13) (by decide +kernel), List.mem_of_getElem? (i := 360) (by decide +kernel), List.mem_of_getElem? (i := 361) (by decide +kernel)⟩
theorem lw_p17 : lw_okq (⟨"SharedMemoryModel", "areBytes", "(JI)Z"⟩, 6) := ⟨⟨by decide +kernel, by decide +kernel⟩, List.mem_of_getElem? (i := 381) (by decide +kernel), List.mem_of_getElem? (i := 422) (by decide +kernel), List.mem_of_getElem? (i := 423) (by decide +kernel)⟩
theorem lw_p18 : lw_okq (⟨"SharedMemoryModel", "isByte", "(J)Z"⟩, 6) := ⟨⟨by decide +kernel, by decide +kernel⟩, List.mem_of_getElem? (i := 381) (by decide +kernel), List.mem_of_getElem? (i := 426) (by decide +kernel), List.mem_of_getElem? (i := 427) (by decide +kernel)⟩
theorem lw_p19 : lw_okq (⟨"SharedMemoryModel", "number", "(JI)J"⟩, 6) := ⟨⟨by decide +kernel, by decide +kernel⟩, List.mem_of_getElem? (i := 381) (by decide +kernel), List.mem_of_getElem? (i := 432) (by decide +kernel), List.mem_of_getElem? (i := 433) (by decide +kernel)⟩
theorem lw_p20 : lw_okq (⟨"SharedMemoryModel", "get", "(J)I"⟩, 6) := ⟨⟨by decide +kernel, by decide +kernel⟩, List.mem_of_getElem? (i := 381) (by decide +kernel), List.mem_of_getElem? (i := 437) (by decide +kernel), List.mem_of_getElem? (i := 438) (by decide +kernel)⟩
theorem lw_p21 : lw_okq (⟨"SharedMemoryModel", "keep", "(JIJ)V"⟩, 6) := ⟨⟨by decide +kernel, by decide +kernel⟩, List.mem_of_getElem? (i := 381) (by decide +kernel), List.mem_of_getElem? (i := 445) (by decide +kernel), List.mem_of_getElem? (i := 446) (by decide +kernel)⟩
theorem lw_p22 : lw_okq (⟨"SharedMemoryModel", "set", "(JI)V"⟩, 6) := ⟨⟨by decide +kernel, by decide +kernel⟩, List.mem_of_getElem? (i := 381) (by decide +kernel), List.mem_of_getElem? (i := 449) (by decide +kernel), List.mem_of_getElem? (i := 450) (by decide +kernel)⟩
theorem lw_p23 : lw_okq (⟨"SharedMemoryModel", "noPage", "(I)Z"⟩, 6) := ⟨⟨by decide +kernel, by decide +kernel⟩, List.mem_of_getElem? (i := 381) (by decide +kernel), List.mem_of_getElem? (i := 488) (by decide +kernel), List.mem_of_getElem? (i := 489) (by decide +kernel)⟩
def lw_privs_2 : List (MethodName × Nat) := [(⟨"SharedMemory", "isPage", "(I)Z"⟩, 4), (⟨"SharedMemoryModel", "areBytes", "(JI)Z"⟩, 6), (⟨"SharedMemoryModel", "isByte", "(J)Z"⟩, 6), (⟨"SharedMemoryModel", "number", "(JI)J"⟩, 6), (⟨"SharedMemoryModel", "get", "(J)I"⟩, 6), (⟨"SharedMemoryModel", "keep", "(JIJ)V"⟩, 6), (⟨"SharedMemoryModel", "set", "(JI)V"⟩, 6), (⟨"SharedMemoryModel", "noPage", "(I)Z"⟩, 6)]
theorem lw_r2 : ∀ q ∈ lw_privs_2, lw_okq q := List.forall_mem_cons.mpr ⟨lw_p16, List.forall_mem_cons.mpr ⟨lw_p17, List.forall_mem_cons.mpr ⟨lw_p18, List.forall_mem_cons.mpr ⟨lw_p19, List.forall_mem_cons.mpr ⟨lw_p20, List.forall_mem_cons.mpr ⟨lw_p21, List.forall_mem_cons.mpr ⟨lw_p22, List.forall_mem_cons.mpr ⟨lw_p23, fun _ h => absurd h List.not_mem_nil⟩⟩⟩⟩⟩⟩⟩⟩
def lw_privs : List (MethodName × Nat) := lw_privs_1 ++ (lw_privs_2)
def lw_tbl : List Cond := k2_sels lw_privs ++ tables_1
theorem lw_privs_ok : ∀ q ∈ lw_privs, lw_okq q := by
  show ∀ q ∈ lw_privs_1 ++ (lw_privs_2), lw_okq q
  exact List.forall_mem_append.mpr ⟨lw_r1, lw_r2⟩
end
section
/-! ===== BEGIN words of one list among another's, by their places ===== -/
theorem goodIn_r {big : List Cond} (ws : List Cond) (ps : List Nat) (hp : ws = ps.filterMap (fun i => big[i]?)) (h : ws.all goodWord = true) : GoodIn big ws := by
  intro w hw
  have h1 := List.all_eq_true.mp h w hw
  rw [hp] at hw
  obtain ⟨i, -, hi⟩ := List.mem_filterMap.mp hw
  have hm : w ∈ big := by first | exact List.mem_of_getElem? hi | exact List.getElem?_mem hi
  exact ⟨hm, good_of_word h1⟩
theorem goodIn_app {big a b : List Cond} (ha : GoodIn big a) (hb : GoodIn big b) : GoodIn big (a ++ b) := fun w h => (List.mem_append.mp h).elim (ha w) (hb w)
theorem goodIn_ca {big a b : List Cond} {c : Cond} (ha : GoodIn big (c :: a)) (hb : GoodIn big b) : GoodIn big (c :: (a ++ b)) := fun w h => (List.mem_cons.mp h).elim (fun e => ha w (List.mem_cons.mpr (Or.inl e))) (fun h => (List.mem_append.mp h).elim (fun h => ha w (List.mem_cons.mpr (Or.inr h))) (hb w))
theorem goodIn_sub {big ws : List Cond} (hm : ∀ w ∈ ws, w ∈ big) (h : ws.all goodWord = true) : GoodIn big ws := fun w hw => ⟨hm w hw, good_of_word (List.all_eq_true.mp h w hw)⟩
/-! ===== END ===== -/

/-! ===== BEGIN exceptions that leave a method, and their catching by the caller (launches without stack traces) ===== -/
section VXA
/-! The laws vx_back, vx_callV, vx_callS, vx_callSW, vx_throw0, vx_throwS follow proofs of the library, with one case more: JvmDerived/Free/Laws.lean (Back.of_free), Shelf42/LK1.lean (callV, callS), Shelf/KitTraced.lean (throwNew0V, throwNewS). -/
/-- where a method has thrown q: the class by its name, the cell, what was written, the world -/
def vx_T (XC : String → State → State → Prop) (st : State) (q : Addr) (t : State) (mc ms : Nat) (free : Addr → Prop) : Prop :=
  ∃ (E : String) (ce : Cell) (L : List Loc), XC E st t ∧ t.heap[q]? = some ce ∧ ce.vm = .none ∧ st.vm.findClass E = some ce.cls ∧ st.WarmedH t.vm ∧ st.sameButNew ({ t with vm := st.vm } : State) L mc ms ∧ ∀ z ∈ L, free z.base
def vx_Q (Qc : Array Value → State → Outcome → State → Prop) (XC : String → State → State → Prop) (mc ms : Nat) (free : Addr → Prop) : Array Value → State → Outcome → State → Prop := fun a st o t =>
  (Qc a st o t ∧ ∃ L, FrameEnd st o t L mc ms ∧ ∀ q ∈ L, free q.base) ∨ ∃ q, o = .threw q ∧ vx_T XC st q t mc ms free
/-- a callee that returns or throws -/
def vx_Met (l : Launch) (y : MethodName) (ws : List Cond) (rm : Room) (Pc : Array Value → State → Prop) (Qc : Array Value → State → Outcome → State → Prop) (XC : String → State → State → Prop) (mc ms : Nat) (free : Addr → Prop) : Prop :=
  MetFree l y (headSpec ws rm) Pc (fun _ _ _ _ _ => True) (vx_Q Qc XC mc ms free)
def vx_Post (XC : String → State → State → Prop) (mc ms : Nat) (free : Addr → Prop) : Pt → Array Value → Addr → Pt → Prop := fun A a q B =>
  ∃ (g : JFrame) (mk : MethodId) (t : State) (L : List Loc) (E : String) (ce : Cell), B.U.heap = t.heap ∧ B.U.vm = t.vm ∧ XC E (A.U.calling g mk a) t ∧ t.heap[q]? = some ce ∧ ce.vm = .none ∧ A.U.vm.findClass E = some ce.cls ∧ B.locs = A.locs ++ L ∧ (∀ z ∈ L, free z.base) ∧ B.cells = A.cells + mc ∧ B.slots = A.slots + ms
def vx_Back (l : Launch) (R : Room) (p : Program) (e : Env) (below : List Frame) (s : State) (sargs : Array Value) (y : MethodName) (len W9 : Nat)
    (Pre : Pt → Array Value → Prop) (Post : Pt → Array Value → Option Value → Pt → Prop) (PostX : Pt → Array Value → Addr → Pt → Prop) : Prop :=
  ∀ (m : MethodId) (meth : Method) (c : Code) (A : Pt) (g : JFrame) (ig : Instr) (mk : MethodId) (a : Array Value),
    Stand p l e R s m sargs below meth c A.U A.locs A.cells A.slots → g.method = m → g.locals.size = c.maxLocals → decode c.code g.pc = .ok (ig, len) →
    2 * g.monitorRoom + (g.stack.map fun v => v.category).sum ≤ W9 → A.U.methodNamed? y = some mk → Pre A a →
    (∃ (v : Option Value) (B : Pt), Stand p l e R s m sargs below meth c B.U B.locs B.cells B.slots ∧ Post A a v B ∧
      Steps p.tables e below (doInvoke e (A.U.setTop g) [] mk a).1 (B.U.setTop { g with pc := g.pc + len, stack := v.toList ++ g.stack })) ∨
    (∃ (q : Addr) (B : Pt), Stand p l e R s m sargs below meth c B.U B.locs B.cells B.slots ∧ PostX A a q B ∧
      Steps p.tables e below (doInvoke e (A.U.setTop g) [] mk a).1 ((B.U.setTop g).pushFrame (.throwing q)))
section Payer
variable {l : Launch} {R : Room} {p : Program} {e : Env} {below : List Frame} {s : State} {sargs : Array Value} {y : MethodName} {len W9 : Nat}
theorem vx_back {ws : List Cond} {rm : Room} {Pc : Array Value → State → Prop} {Qc : Array Value → State → Outcome → State → Prop} {XC : String → State → State → Prop} {mc ms : Nat} {free : Addr → Prop} {bytes : ByteArray} {maxL : Nat} {ret : Option FieldType}
    (hM : vx_Met l y ws rm Pc Qc XC mc ms free) (hblind : FrameBlind Pc) (hrc : rm.cells = mc) (hrs : rm.slots = ms)
    (hframes : rm.frames + 1 ≤ R.frames) (hlocals : W9 + (maxL + 11) + rm.locals ≤ R.locals)
    (hws : ∀ w ∈ ws, ∀ a' U, s.WarmedH U.vm → w.before a' U = true) (hcode : Cond.code y bytes maxL ret ∈ ws) (hinit : ∀ a' U, s.WarmedH U.vm → (Cond.initialized y.cls).before a' U = true) :
    vx_Back l R p e below s sargs y len W9 (PreOf R mc ms Pc) (PostOf Qc mc ms free) (vx_Post XC mc ms free) := by
  intro m meth c A g ig mk a X hg hsize hdg hW hn hp
  have h1 : (headSpec ws rm).pre.before a A.U = true := atoms_intro fun w hw => hws w hw _ _ X.warmed
  have h2 : (Cond.code y bytes maxL ret).before a A.U = true := hws _ hcode _ _ X.warmed
  have h3 : (Cond.initialized y.cls).before a A.U = true := hinit _ _ X.warmed
  have h4 : A.cells + (headSpec ws rm).room.cells ≤ R.cells := by rw [show (headSpec ws rm).room.cells = mc from hrc]; exact hp.1
  have h5 : A.slots + (headSpec ws rm).room.slots ≤ R.slots := by rw [show (headSpec ws rm).room.slots = ms from hrs]; exact hp.2.1
  have hPc : Pc a (A.U.calling g mk a) := hblind _ _ _ _ hp.2.2
  obtain ⟨U, Ls, c0, s0⟩ := A
  dsimp only [Pt.U, Pt.locs, Pt.cells, Pt.slots] at h1 h2 h3 h4 h5 X hn hPc ⊢
  obtain ⟨methY, cY, hmY, hcY, -, hlY, -, -, -, -⟩ := Cond.code_spec hn h2
  obtain ⟨kY, hkY, -⟩ := className_of_methodNamed hn
  have hinitY : kY.init = .initialized := Cond.initialized_spec (findClass_of_methodNamed hn) hkY h3
  have h : At U g.method c below := by rw [hg]; exact X.here
  have hlocals9 : W9 + (maxL + 11) + (headSpec ws rm).room.locals ≤ R.locals := hlocals
  have happ : (headSpec ws rm).appliesLoose y e.platform (U.calling g mk a) = true :=
    Spec.appliesLoose_calling (g := g) h hdg hn hkY hinitY
      (X.room_calling (g := g) (R' := (headSpec ws rm).room) hsize hmY hcY hframes (by rw [hlY]; omega) h4 h5) h1
  obtain ⟨mid, hmid⟩ := h.above
  have hfr : (U.setTop g).frames = (.java g :: mid) ++ below := by rw [State.frames_setTop' g h.top, hmid]; rfl
  obtain ⟨o, s₂, hsteps, -, hend, hq⟩ := Steps.callFree hM p X.admits X.cas X.clock (acts := []) hfr happ hPc trivial
  have hq' : vx_Q Qc XC mc ms free a (U.calling g mk a) o s₂ := hq
  rw [State.frames_setTop' g h.top] at hend
  obtain ⟨g₀, hg0⟩ := Option.isSome_iff_exists.mp h.top
  obtain ⟨r, hr⟩ := State.topJava?_eq_some.mp hg0
  have hr' : (({ U with heap := s₂.heap, slotsUsed := s₂.slotsUsed } : State).setVm s₂.vm).frames = .java g₀ :: r := hr
  rcases hq' with ⟨hqc, L, hfe, hL⟩ | ⟨q, rfl, E, ce, L, hx, hce, hcv, hcl, hW₂, hsm, hL⟩
  · obtain ⟨⟨v, rfl⟩, hW₂, e2, q2, q3, q4, q5, q6⟩ := id hfe
    have e3 : s₂ = ({ (U.calling g mk a).setFrames s₂.frames with heap := s₂.heap, slotsUsed := s₂.slotsUsed } : State).setVm s₂.vm := by
      have : s₂ = ({ s₂ with vm := (U.calling g mk a).vm } : State).setVm s₂.vm := rfl
      rw [e2] at this
      exact this
    obtain ⟨c₂, i₂, len₂, hc₂, hd₂, hf₂⟩ := hend
    have hW' : U.WarmedH s₂.vm := hW₂
    have hcc : c₂ = c := by
      have h1 : s₂.code? g.method = U.code? g.method := by
        rw [State.code?_eq, State.code?_eq, hW'.alike.method?]
      exact Option.some.inj (hc₂.symm.trans (h1.trans h.code))
    subst hcc
    have hlen : len₂ = len := by rw [hdg] at hd₂; cases hd₂; rfl
    subst hlen
    have hs₂ : s₂ = (({ U with heap := s₂.heap, slotsUsed := s₂.slotsUsed } : State).setVm s₂.vm).setTop { g with pc := g.pc + len₂, stack := v.toList ++ g.stack } := by
      refine e3.trans ?_
      rw [hf₂, State.calling_eq h.top, State.setFrames_setFrames, State.setTop_of_frames _ hr', hr]
      rfl
    have hsame : U.sameButNew ({ U with heap := s₂.heap, slotsUsed := s₂.slotsUsed } : State) L mc ms := by
      refine ⟨?_, q2, q3, q4, q5, q6⟩
      obtain ⟨t, ht, -⟩ := State.frames_cons hr
      show ({ U with heap := s₂.heap, slotsUsed := s₂.slotsUsed } : State) = { U.setFrames U.frames with heap := s₂.heap, slotsUsed := s₂.slotsUsed }
      rw [State.setFrames_self ht]
    subst hg
    refine Or.inl ⟨v, ⟨(({ U with heap := s₂.heap, slotsUsed := s₂.slotsUsed } : State).setVm s₂.vm), Ls ++ L, c0 + mc, s0 + ms⟩,
      ⟨X.admits, X.cas, X.clock, X.frames, X.room, X.hears, X.method, X.code, (X.here.setHeapUsed s₂.heap s₂.slotsUsed).setVm hW'.alike, X.tail, State.WarmedH.trans X.warmed hW', X.limits, X.bytes, X.same.trans (hsame.setVm s.vm)⟩,
      ⟨g, mk, s₂, L, rfl, rfl, hqc, rfl, hL, rfl, rfl⟩, ?_⟩
    show Steps p.tables e below _ ((({ U with heap := s₂.heap, slotsUsed := s₂.slotsUsed } : State).setVm s₂.vm).setTop { g with pc := g.pc + len₂, stack := v.toList ++ g.stack })
    rw [← hs₂]
    exact hsteps
  · obtain ⟨e2, q2, q3, q4, q5, q6⟩ := id hsm
    have e3 : s₂ = ({ (U.calling g mk a).setFrames s₂.frames with heap := s₂.heap, slotsUsed := s₂.slotsUsed } : State).setVm s₂.vm := by
      have : s₂ = ({ s₂ with vm := (U.calling g mk a).vm } : State).setVm s₂.vm := rfl
      rw [e2] at this
      exact this
    have hf₂ : s₂.frames = .throwing q :: .java g :: U.frames.tail := hend
    have hW' : U.WarmedH s₂.vm := hW₂
    have hs₂ : s₂ = ((({ U with heap := s₂.heap, slotsUsed := s₂.slotsUsed } : State).setVm s₂.vm).setTop g).pushFrame (.throwing q) := by
      refine e3.trans ?_
      rw [hf₂, State.calling_eq h.top, State.setFrames_setFrames, State.pushFrame, State.frames_setTop _ hr', State.setTop_of_frames _ hr', State.setFrames_setFrames, hr]
      rfl
    have hsame : U.sameButNew ({ U with heap := s₂.heap, slotsUsed := s₂.slotsUsed } : State) L mc ms := by
      refine ⟨?_, q2, q3, q4, q5, q6⟩
      obtain ⟨t, ht, -⟩ := State.frames_cons hr
      show ({ U with heap := s₂.heap, slotsUsed := s₂.slotsUsed } : State) = { U.setFrames U.frames with heap := s₂.heap, slotsUsed := s₂.slotsUsed }
      rw [State.setFrames_self ht]
    subst hg
    refine Or.inr ⟨q, ⟨(({ U with heap := s₂.heap, slotsUsed := s₂.slotsUsed } : State).setVm s₂.vm), Ls ++ L, c0 + mc, s0 + ms⟩,
      ⟨X.admits, X.cas, X.clock, X.frames, X.room, X.hears, X.method, X.code, (X.here.setHeapUsed s₂.heap s₂.slotsUsed).setVm hW'.alike, X.tail, State.WarmedH.trans X.warmed hW', X.limits, X.bytes, X.same.trans (hsame.setVm s.vm)⟩,
      ⟨g, mk, s₂, L, E, ce, rfl, rfl, hx, hce, hcv, hcl, rfl, hL, rfl, rfl⟩, ?_⟩
    show Steps p.tables e below _ (((({ U with heap := s₂.heap, slotsUsed := s₂.slotsUsed } : State).setVm s₂.vm).setTop g).pushFrame (.throwing q))
    rw [← hs₂]
    exact hsteps
end Payer
section Calls
variable {p : Program} {l : Launch} {e : Env} {R : Room} {s : State} {m : MethodId} {args : Array Value} {below : List Frame} {meth : Method} {c : Code} {T : State} {locs : List Loc} {cells slots : Nat}
theorem vx_callV (X : Stand p l e R s m args below meth c T locs cells slots) (hexec : p.tables.exec = Jvm.exec) {own C : String} {index : Nat} {y : MethodName} {bytes : ByteArray} {maxL : Nat} {ret : Option FieldType}
    (hown : s.vm.findClass own = some m.cls) (hlink : (Cond.methodLink own index y).before args s = true) (hinst : (Cond.instanceMethod y).before args s = true) (hsel : (Cond.selects C y y).before args s = true)
    (hcode : (Cond.code y bytes maxL ret).before args s = true) (hy : y.cls ≠ "java/lang/invoke/MethodHandle" ∧ y.cls ≠ "java/lang/invoke/VarHandle")
    {W9 : Nat} {Pre : Pt → Array Value → Prop} {Post : Pt → Array Value → Option Value → Pt → Prop} {PostX : Pt → Array Value → Addr → Pt → Prop} (hK : vx_Back l R p e below s args y 3 W9 Pre Post PostX)
    {b : Addr} {cellB : Cell} (hcell : T.heap[b]? = some cellB) (hobj : cellB.vm.isStatics = false) (hcls : s.vm.findClass C = some cellB.cls)
    {g : JFrame} (hg : g.method = m) (hsize : g.locals.size = c.maxLocals) {argsL rest : List Value} (hlen : ∀ sig, parseMethodDescriptor y.desc = some sig → argsL.length = sig.parameters.length)
    (hstack : g.stack = argsL.reverse ++ .ref b :: rest) (hW : 2 * g.monitorRoom + (rest.map fun v => v.category).sum ≤ W9) (hdg : decode c.code g.pc = .ok (.invokevirtual index, 3))
    (hpre : ∀ vm₁, s.WarmedH vm₁ → Pre ⟨T.setVm vm₁, locs, cells, slots⟩ (Value.ref b :: argsL).toArray) :
    (∃ (v : Option Value) (vm₁ : Vm) (B : Pt), s.WarmedH vm₁ ∧ Stand p l e R s m args below meth c B.U B.locs B.cells B.slots ∧ Post ⟨T.setVm vm₁, locs, cells, slots⟩ (Value.ref b :: argsL).toArray v B ∧
      ∀ target, Steps p.tables e below (B.U.setTop { g with pc := g.pc + 3, stack := v.toList ++ rest }) target → Steps p.tables e below (T.setTop g) target) ∨
    (∃ (q : Addr) (vm₁ : Vm) (B : Pt), s.WarmedH vm₁ ∧ Stand p l e R s m args below meth c B.U B.locs B.cells B.slots ∧ PostX ⟨T.setVm vm₁, locs, cells, slots⟩ (Value.ref b :: argsL).toArray q B ∧
      Steps p.tables e below (T.setTop g) ((B.U.setTop { g with stack := rest }).pushFrame (.throwing q))) := by
  obtain ⟨mk, methM, hnamed, hmethM, hstM, habM⟩ := Cond.instanceMethod_spec hinst
  obtain ⟨methM', cM, hmethM', -, -, -, -, -, -, hsigM⟩ := Cond.code_spec hnamed hcode
  cases hmethM.symm.trans hmethM'
  obtain ⟨c2, r2, m2, q1, q2, q3, q4, kP, hkP, hkPi⟩ := Cond.selects_spec hsel
  cases hcls.symm.trans q1
  cases (State.methodFound?_of_named hnamed hy).symm.trans q2
  cases hnamed.symm.trans q3
  have hselP : selectMethod e.platform s.vm cellB.cls mk = .method mk := by rw [Launch.admits_selectMethod X.admits]; exact q4
  obtain ⟨vm₁, X₁, hstep₁⟩ := X.invokevirtual hexec hown hlink hnamed hmethM hstM hkP hkPi hy (a := b) (cell := cellB) hcell
    (fun z h => by rw [h] at hobj; cases hobj) hselP hmethM habM hkP hkPi (g := g) hg (argsL := argsL) (rest := rest) (hlen _ hsigM) hstack hdg
  rcases hK m meth c ⟨T.setVm vm₁, locs, cells, slots⟩ { g with stack := rest } (.invokevirtual index) mk (Value.ref b :: argsL).toArray X₁ hg hsize hdg hW (X₁.named hnamed) (hpre vm₁ X₁.warmed) with ⟨v, B, X', hpost, hsteps⟩ | ⟨q, B, X', hpost, hsteps⟩
  · exact Or.inl ⟨v, vm₁, B, X₁.warmed, X', hpost, fun target h => hstep₁ _ fun acts => by rw [doInvoke_state]; exact hsteps.trans h⟩
  · exact Or.inr ⟨q, vm₁, B, X₁.warmed, X', hpost, hstep₁ _ fun acts => by rw [doInvoke_state]; exact hsteps⟩
theorem vx_callS (X : Stand p l e R s m args below meth c T locs cells slots) (hexec : p.tables.exec = Jvm.exec) {own : String} {index : Nat} {y : MethodName} {bytes : ByteArray} {maxL : Nat} {ret : Option FieldType}
    (hown : s.vm.findClass own = some m.cls) (hlink : (Cond.methodLink own index y).before args s = true) (hstat : (Cond.static y).before args s = true) (hinit : (Cond.initialized y.cls).before args s = true)
    (hcode : (Cond.code y bytes maxL ret).before args s = true) (hy : y.cls ≠ "java/lang/invoke/MethodHandle" ∧ y.cls ≠ "java/lang/invoke/VarHandle")
    {W9 : Nat} {Pre : Pt → Array Value → Prop} {Post : Pt → Array Value → Option Value → Pt → Prop} {PostX : Pt → Array Value → Addr → Pt → Prop} (hK : vx_Back l R p e below s args y 3 W9 Pre Post PostX)
    {g : JFrame} (hg : g.method = m) (hsize : g.locals.size = c.maxLocals) {argsL rest : List Value} (hlen : ∀ sig, parseMethodDescriptor y.desc = some sig → argsL.length = sig.parameters.length)
    (hstack : g.stack = argsL.reverse ++ rest) (hW : 2 * g.monitorRoom + (rest.map fun v => v.category).sum ≤ W9) (hdg : decode c.code g.pc = .ok (.invokestatic index, 3))
    (hpre : ∀ vm₁, s.WarmedH vm₁ → Pre ⟨T.setVm vm₁, locs, cells, slots⟩ argsL.toArray) :
    (∃ (v : Option Value) (vm₁ : Vm) (B : Pt), s.WarmedH vm₁ ∧ Stand p l e R s m args below meth c B.U B.locs B.cells B.slots ∧ Post ⟨T.setVm vm₁, locs, cells, slots⟩ argsL.toArray v B ∧
      ∀ target, Steps p.tables e below (B.U.setTop { g with pc := g.pc + 3, stack := v.toList ++ rest }) target → Steps p.tables e below (T.setTop g) target) ∨
    (∃ (q : Addr) (vm₁ : Vm) (B : Pt), s.WarmedH vm₁ ∧ Stand p l e R s m args below meth c B.U B.locs B.cells B.slots ∧ PostX ⟨T.setVm vm₁, locs, cells, slots⟩ argsL.toArray q B ∧
      Steps p.tables e below (T.setTop g) ((B.U.setTop { g with stack := rest }).pushFrame (.throwing q))) := by
  obtain ⟨mk, hnamed⟩ := Cond.code_named hcode
  obtain ⟨methM, cM, hmethM, -, -, -, -, -, -, hsigM⟩ := Cond.code_spec hnamed hcode
  have hstatic : methM.isStatic = true := Cond.static_spec hnamed hmethM hstat
  obtain ⟨kP, hkP, -⟩ := className_of_methodNamed hnamed
  have hinitP : kP.init = .initialized := Cond.initialized_spec (findClass_of_methodNamed hnamed) hkP hinit
  obtain ⟨vm₁, X₁, hstep₁⟩ := X.invokestatic hexec hown hlink hnamed hmethM hstatic hkP hinitP hy (g := g) hg (argsL := argsL) (rest := rest) (hlen _ hsigM) hstack hdg
  rcases hK m meth c ⟨T.setVm vm₁, locs, cells, slots⟩ { g with stack := rest } (.invokestatic index) mk argsL.toArray X₁ hg hsize hdg hW (X₁.named hnamed) (hpre vm₁ X₁.warmed) with ⟨v, B, X', hpost, hsteps⟩ | ⟨q, B, X', hpost, hsteps⟩
  · exact Or.inl ⟨v, vm₁, B, X₁.warmed, X', hpost, fun target h => hstep₁ _ fun acts => by rw [doInvoke_state]; exact hsteps.trans h⟩
  · exact Or.inr ⟨q, vm₁, B, X₁.warmed, X', hpost, hstep₁ _ fun acts => by rw [doInvoke_state]; exact hsteps⟩
end Calls
theorem vx_cls {s : State} {T : State} {vm₁ : Vm} {E : String} {k : ClassId} (hW : s.WarmedH vm₁) (h : (T.setVm vm₁).vm.findClass E = some k) : s.vm.findClass E = some k := by
  have h1 : vm₁.findClass E = some k := h
  rw [hW.alike.findClass] at h1
  exact h1
/-- the method's frame g, with q thrown over it -/
def vx_W (p : Program) (l : Launch) (e : Env) (R : Room) (s : State) (m : MethodId) (args : Array Value) (below : List Frame) (meth : Method) (c : Code) (H : Heap) (locs : List Loc) (cells slots : Nat) (Q : State → Prop) (g : JFrame) (q : Addr) : Prop :=
  ∀ T : State, T.heap = H → Stand p l e R s m args below meth c T locs cells slots → ∃ t, Steps p.tables e below ((T.setTop g).pushFrame (.throwing q)) t ∧ Q t
def vx_Run (p : Program) (l : Launch) (e : Env) (R : Room) (s : State) (m : MethodId) (args : Array Value) (below : List Frame) (meth : Method) (c : Code) (H : Heap) (locs : List Loc) (cells slots mc ms : Nat) (g : JFrame) (rest : List Value) (Qa : State → Outcome → State → Prop) (XC : String → State → State → Prop) (free : Addr → Prop) : Prop :=
  ∀ T : State, T.heap = H → Stand p l e R s m args below meth c T locs cells slots →
    (∃ (v : Option Value) (st₀ t T' : State) (L : List Loc), st₀.heap = H ∧ Stand p l e R s m args below meth c T' (locs ++ L) (cells + mc) (slots + ms) ∧ (∀ q ∈ L, free q.base) ∧ T'.heap = t.heap ∧ T'.vm = t.vm ∧ Qa st₀ (.returned v) t ∧
      Goes p e below T g T' { g with pc := g.pc + 3, stack := v.toList ++ rest }) ∨
    (∃ (q : Addr) (st₀ t T' : State) (L : List Loc) (E : String) (ce : Cell), st₀.heap = H ∧ Stand p l e R s m args below meth c T' (locs ++ L) (cells + mc) (slots + ms) ∧ (∀ z ∈ L, free z.base) ∧ T'.heap = t.heap ∧ T'.vm = t.vm ∧ XC E st₀ t ∧ t.heap[q]? = some ce ∧ ce.vm = .none ∧ s.vm.findClass E = some ce.cls ∧
      Steps p.tables e below (T.setTop g) ((T'.setTop { g with stack := rest }).pushFrame (.throwing q)))
def vx_X {S : Type} (px : S → Prop) (B : String → S → State → Prop) (A : Nat → Prop) : String → State → State → Prop := fun E st t => ∃ u : S, px u ∧ B E u t ∧ va_F A st t
section Runs
variable {p : Program} {l : Launch} {e : Env} {R : Room} {s : State} {m : MethodId} {args : Array Value} {below : List Frame} {meth : Method} {c : Code} {H : Heap} {locs : List Loc} {cells slots : Nat}
variable {y : MethodName} {bytes cc : ByteArray} {maxL nL mc ms n index : Nat} {ret : Option FieldType} {ws : List Cond} {rm : Room} {Pc : Array Value → State → Prop} {Qc : Array Value → State → Outcome → State → Prop} {XC : String → State → State → Prop} {free : Addr → Prop} {Ts : List Cond} {own C : String} {b : Addr} {As rest : List Value} {g : JFrame}
theorem vx_callBack (cb : CallB R s args own index y bytes maxL ret ws rm mc ms n) (hM : vx_Met l y ws rm Pc Qc XC mc ms free) (hbl : FrameBlind Pc) : vx_Back l R p e below s args y 3 8 (PreOf R mc ms Pc) (PostOf Qc mc ms free) (vx_Post XC mc ms free) := by
  obtain ⟨hrc, hrs, hfr, hlo, hws, hcw, -, hini, -⟩ := cb
  exact vx_back (bytes := bytes) (maxL := maxL) (ret := ret) hM hbl hrc hrs hfr hlo hws hcw (fun a' U hW => word_at hW (Or.inl (by first | rfl | simp [Cond.onTables, Cond.keeps, Cond.steady])) hini)
theorem vx_runV (S : CallFix p m c cc nL s args Ts own) (hM : vx_Met l y ws rm Pc Qc XC mc ms free) (cw : CallW R s args own C index y bytes maxL ret ws rm mc ms n) (hp : PreV s H C b Pc As)
    (hg : g.method = m) (hn : As.length = n) (hsize : g.locals.size = nL) (hstack : g.stack = As.reverse ++ .ref b :: rest) (hW : 2 * g.monitorRoom + (rest.map fun v => v.category).sum ≤ 8) (hdg : decode cc g.pc = .ok (.invokevirtual index, 3)) (hf : cells + mc ≤ R.cells ∧ slots + ms ≤ R.slots) :
    vx_Run p l e R s m args below meth c H locs cells slots mc ms g rest (Qc (Value.ref b :: As).toArray) XC free := by
  have hK : vx_Back l R p e below s args y 3 8 (PreOf R mc ms Pc) (PostOf Qc mc ms free) (vx_Post XC mc ms free) := vx_callBack cw.1 hM hp.1
  obtain ⟨⟨-, -, -, -, -, -, hcode, -, hy, hlen, hl⟩, hin, hse⟩ := cw
  obtain ⟨hx, hb, hml, ho, -⟩ := S
  obtain ⟨-, ⟨cellB, hcB, hoB, hclB⟩, hPc⟩ := hp
  intro T hT X
  rcases vx_callV X hx (C := C) (bytes := bytes) (maxL := maxL) (ret := ret) ho hl hin hse hcode hy hK (by rw [hT]; exact hcB) hoB hclB hg (hsize.trans hml.symm) (argsL := As) (rest := rest) (fun sig h => hn.trans (hlen sig h)) hstack hW (by rw [hb]; exact hdg)
    (fun vm₁ hW₁ => ⟨hf.1, hf.2, hPc (T.setVm vm₁) hT hW₁⟩) with ⟨v, vm₁, ⟨U', l2, c2, s2⟩, hW₁, X', ⟨g', mk, t, L, e1, e2, hq, h1, hL, h2, h3⟩, st⟩ | ⟨q, vm₁, ⟨U', l2, c2, s2⟩, hW₁, X', ⟨g', mk, t, L, E, ce, e1, e2, hq, hce, hcv, hcl, h1, hL, h2, h3⟩, st⟩
  · dsimp only [Pt.U, Pt.locs, Pt.cells, Pt.slots] at X' e1 e2 h1 h2 h3 st
    subst h1; subst h2; subst h3
    exact Or.inl ⟨v, (T.setVm vm₁).calling g' mk (Value.ref b :: As).toArray, t, U', L, hT, X', hL, e1, e2, hq, st⟩
  · dsimp only [Pt.U, Pt.locs, Pt.cells, Pt.slots] at X' e1 e2 h1 h2 h3 st hcl
    subst h1; subst h2; subst h3
    exact Or.inr ⟨q, (T.setVm vm₁).calling g' mk (Value.ref b :: As).toArray, t, U', L, E, ce, hT, X', hL, e1, e2, hq, hce, hcv, vx_cls hW₁ hcl, st⟩
theorem vx_runS (S : CallFix p m c cc nL s args Ts own) (hM : vx_Met l y ws rm Pc Qc XC mc ms free) (cw : CallB R s args own index y bytes maxL ret ws rm mc ms n ∧ (Cond.static y).before args s = true) (hp : PreS s H Pc As)
    (hg : g.method = m) (hn : As.length = n) (hsize : g.locals.size = nL) (hstack : g.stack = As.reverse ++ rest) (hW : 2 * g.monitorRoom + (rest.map fun v => v.category).sum ≤ 8) (hdg : decode cc g.pc = .ok (.invokestatic index, 3)) (hf : cells + mc ≤ R.cells ∧ slots + ms ≤ R.slots) :
    vx_Run p l e R s m args below meth c H locs cells slots mc ms g rest (Qc As.toArray) XC free := by
  have hK : vx_Back l R p e below s args y 3 8 (PreOf R mc ms Pc) (PostOf Qc mc ms free) (vx_Post XC mc ms free) := vx_callBack cw.1 hM hp.1
  obtain ⟨⟨-, -, -, -, -, -, hcode, hini, hy, hlen, hl⟩, hstt⟩ := cw
  obtain ⟨hx, hb, hml, ho, -⟩ := S
  intro T hT X
  rcases vx_callS X hx (bytes := bytes) (maxL := maxL) (ret := ret) ho hl hstt hini hcode hy hK hg (hsize.trans hml.symm) (argsL := As) (rest := rest) (fun sig h => hn.trans (hlen sig h)) hstack hW (by rw [hb]; exact hdg)
    (fun vm₁ hW₁ => ⟨hf.1, hf.2, hp.2 (T.setVm vm₁) hT hW₁⟩) with ⟨v, vm₁, ⟨U', l2, c2, s2⟩, hW₁, X', ⟨g', mk, t, L, e1, e2, hq, h1, hL, h2, h3⟩, st⟩ | ⟨q, vm₁, ⟨U', l2, c2, s2⟩, hW₁, X', ⟨g', mk, t, L, E, ce, e1, e2, hq, hce, hcv, hcl, h1, hL, h2, h3⟩, st⟩
  · dsimp only [Pt.U, Pt.locs, Pt.cells, Pt.slots] at X' e1 e2 h1 h2 h3 st
    subst h1; subst h2; subst h3
    exact Or.inl ⟨v, (T.setVm vm₁).calling g' mk As.toArray, t, U', L, hT, X', hL, e1, e2, hq, st⟩
  · dsimp only [Pt.U, Pt.locs, Pt.cells, Pt.slots] at X' e1 e2 h1 h2 h3 st hcl
    subst h1; subst h2; subst h3
    exact Or.inr ⟨q, (T.setVm vm₁).calling g' mk As.toArray, t, U', L, E, ce, hT, X', hL, e1, e2, hq, hce, hcv, vx_cls hW₁ hcl, st⟩
end Runs
section Rows
variable {p : Program} {l : Launch} {e : Env} {R : Room} {s : State} {m : MethodId} {args : Array Value} {below : List Frame} {meth : Method} {c : Code} {H : Heap} {locs : List Loc} {cells slots : Nat} {Q : State → Prop}
variable {mc ms : Nat} {free : Addr → Prop} {A0 A1 : Nat → Prop} {H0 : Heap} {a : Array Value} {pc : Nat} {ls : Array Slot} {st0 rest : List Value}
theorem vx_keep {st₀ t T' : State} {L : List Loc} (h0 : st₀.heap = H) (e1 : T'.heap = t.heap) (hS : va_S A0 H0 H locs) (hA : ∀ q, q < H.size → A1 q → A0 q) (hf : ∀ q, free q → A0 q) (hL : ∀ q ∈ L, free q.base) (hF : va_F A1 st₀ t) :
    H.size ≤ T'.heap.size ∧ (∀ q : Nat, q < H.size → ¬ A1 q → T'.heap[q]? = H[q]?) ∧ va_S A0 H0 T'.heap (locs ++ L) := by
  obtain ⟨hz, hk⟩ := hF
  rw [h0] at hz hk
  exact ⟨by rw [e1]; exact hz, fun q h1 h2 => by rw [e1]; exact hk q h1 h2,
    ⟨Nat.le_trans hS.1 (by rw [e1]; exact hz), fun q h1 h2 => by rw [e1, hk q (Nat.lt_of_lt_of_le h1 hS.1) (fun z => h2 (hA q (Nat.lt_of_lt_of_le h1 hS.1) z))]; exact hS.2.1 q h1 h2, fun q hq => by
      rcases List.mem_append.mp hq with h | h
      · exact hS.2.2 q h
      · exact hf _ (hL q h)⟩⟩
theorem vx_calli {S SX : Type} {post : Int32 → S → Prop} {px : SX → Prop} {B : S → State → Prop} {BX : String → SX → State → Prop} {AX : Nat → Prop} (hr : vx_Run p l e R s m args below meth c H locs cells slots mc ms (F0 m pc ls st0) rest (va_Qi post B A1 a) (vx_X px BX AX) free) (hS : va_S A0 H0 H locs) (hA : ∀ q, q < H.size → A1 q → A0 q) (hf : ∀ q, free q → A0 q) (hAX : ∀ q, q < H.size → AX q → A0 q)
    (kx : ∀ (E : String) (ce : Cell) (q9 : Addr) (u : SX) (t : State) (H1 : Heap) (locs1 : List Loc), t.heap = H1 → s.vm.Alike t.vm → px u → BX E u t → H.size ≤ H1.size → (∀ q : Nat, q < H.size → ¬ AX q → H1[q]? = H[q]?) → va_S A0 H0 H1 locs1 → H1[q9]? = some ce → ce.vm = .none → s.vm.findClass E = some ce.cls → vx_W p l e R s m args below meth c H1 locs1 (cells + mc) (slots + ms) Q (F0 m pc ls rest) q9)
    (kk : ∀ (r : Int32) (u : S) (t : State) (H1 : Heap) (locs1 : List Loc), t.heap = H1 → s.vm.Alike t.vm → post r u → B u t → H.size ≤ H1.size → (∀ q : Nat, q < H.size → ¬ A1 q → H1[q]? = H[q]?) → va_S A0 H0 H1 locs1 → W p l e R s m args below meth c H1 locs1 (cells + mc) (slots + ms) Q (F0 m (pc + 3) ls (.int r :: rest))) : W p l e R s m args below meth c H locs cells slots Q (F0 m pc ls st0) := by
  intro T hT X
  rcases hr T hT X with ⟨v, st₀, t, T', L, h0, X', hL, e1, e2, ⟨⟨r, u, hv, hp, hb⟩, hF⟩, st⟩ | ⟨q, st₀, t, T', L, E, ce, h0, X', hL, e1, e2, ⟨u, hp, hb, hF⟩, hce, hcv, hcl, st⟩
  · cases hv
    obtain ⟨k1, k2, k3⟩ := vx_keep h0 e1 hS hA hf hL hF
    obtain ⟨t2, a1, b1⟩ := kk r u t T'.heap (locs ++ L) e1.symm (by rw [← e2]; exact X'.warmed.alike) hp hb k1 k2 k3 T' rfl X'
    exact ⟨t2, st t2 a1, b1⟩
  · obtain ⟨k1, k2, k3⟩ := vx_keep h0 e1 hS hAX hf hL hF
    obtain ⟨t2, a1, b1⟩ := kx E ce q u t T'.heap (locs ++ L) e1.symm (by rw [← e2]; exact X'.warmed.alike) hp hb k1 k2 k3 (by rw [e1]; exact hce) hcv hcl T' rfl X'
    exact ⟨t2, st.trans a1, b1⟩
theorem vx_calll {S SX : Type} {post : Int64 → S → Prop} {px : SX → Prop} {B : S → State → Prop} {BX : String → SX → State → Prop} {AX : Nat → Prop} (hr : vx_Run p l e R s m args below meth c H locs cells slots mc ms (F0 m pc ls st0) rest (va_Ql post B A1 a) (vx_X px BX AX) free) (hS : va_S A0 H0 H locs) (hA : ∀ q, q < H.size → A1 q → A0 q) (hf : ∀ q, free q → A0 q) (hAX : ∀ q, q < H.size → AX q → A0 q)
    (kx : ∀ (E : String) (ce : Cell) (q9 : Addr) (u : SX) (t : State) (H1 : Heap) (locs1 : List Loc), t.heap = H1 → s.vm.Alike t.vm → px u → BX E u t → H.size ≤ H1.size → (∀ q : Nat, q < H.size → ¬ AX q → H1[q]? = H[q]?) → va_S A0 H0 H1 locs1 → H1[q9]? = some ce → ce.vm = .none → s.vm.findClass E = some ce.cls → vx_W p l e R s m args below meth c H1 locs1 (cells + mc) (slots + ms) Q (F0 m pc ls rest) q9)
    (kk : ∀ (r : Int64) (u : S) (t : State) (H1 : Heap) (locs1 : List Loc), t.heap = H1 → s.vm.Alike t.vm → post r u → B u t → H.size ≤ H1.size → (∀ q : Nat, q < H.size → ¬ A1 q → H1[q]? = H[q]?) → va_S A0 H0 H1 locs1 → W p l e R s m args below meth c H1 locs1 (cells + mc) (slots + ms) Q (F0 m (pc + 3) ls (.long r :: rest))) : W p l e R s m args below meth c H locs cells slots Q (F0 m pc ls st0) := by
  intro T hT X
  rcases hr T hT X with ⟨v, st₀, t, T', L, h0, X', hL, e1, e2, ⟨⟨r, u, hv, hp, hb⟩, hF⟩, st⟩ | ⟨q, st₀, t, T', L, E, ce, h0, X', hL, e1, e2, ⟨u, hp, hb, hF⟩, hce, hcv, hcl, st⟩
  · cases hv
    obtain ⟨k1, k2, k3⟩ := vx_keep h0 e1 hS hA hf hL hF
    obtain ⟨t2, a1, b1⟩ := kk r u t T'.heap (locs ++ L) e1.symm (by rw [← e2]; exact X'.warmed.alike) hp hb k1 k2 k3 T' rfl X'
    exact ⟨t2, st t2 a1, b1⟩
  · obtain ⟨k1, k2, k3⟩ := vx_keep h0 e1 hS hAX hf hL hF
    obtain ⟨t2, a1, b1⟩ := kx E ce q u t T'.heap (locs ++ L) e1.symm (by rw [← e2]; exact X'.warmed.alike) hp hb k1 k2 k3 (by rw [e1]; exact hce) hcv hcl T' rfl X'
    exact ⟨t2, st.trans a1, b1⟩
theorem vx_callf {S SX : Type} {post : UInt32 → S → Prop} {px : SX → Prop} {B : S → State → Prop} {BX : String → SX → State → Prop} {AX : Nat → Prop} (hr : vx_Run p l e R s m args below meth c H locs cells slots mc ms (F0 m pc ls st0) rest (va_Qf post B A1 a) (vx_X px BX AX) free) (hS : va_S A0 H0 H locs) (hA : ∀ q, q < H.size → A1 q → A0 q) (hf : ∀ q, free q → A0 q) (hAX : ∀ q, q < H.size → AX q → A0 q)
    (kx : ∀ (E : String) (ce : Cell) (q9 : Addr) (u : SX) (t : State) (H1 : Heap) (locs1 : List Loc), t.heap = H1 → s.vm.Alike t.vm → px u → BX E u t → H.size ≤ H1.size → (∀ q : Nat, q < H.size → ¬ AX q → H1[q]? = H[q]?) → va_S A0 H0 H1 locs1 → H1[q9]? = some ce → ce.vm = .none → s.vm.findClass E = some ce.cls → vx_W p l e R s m args below meth c H1 locs1 (cells + mc) (slots + ms) Q (F0 m pc ls rest) q9)
    (kk : ∀ (r : UInt32) (u : S) (t : State) (H1 : Heap) (locs1 : List Loc), t.heap = H1 → s.vm.Alike t.vm → post r u → B u t → H.size ≤ H1.size → (∀ q : Nat, q < H.size → ¬ A1 q → H1[q]? = H[q]?) → va_S A0 H0 H1 locs1 → W p l e R s m args below meth c H1 locs1 (cells + mc) (slots + ms) Q (F0 m (pc + 3) ls (.float r :: rest))) : W p l e R s m args below meth c H locs cells slots Q (F0 m pc ls st0) := by
  intro T hT X
  rcases hr T hT X with ⟨v, st₀, t, T', L, h0, X', hL, e1, e2, ⟨⟨r, u, hv, hp, hb⟩, hF⟩, st⟩ | ⟨q, st₀, t, T', L, E, ce, h0, X', hL, e1, e2, ⟨u, hp, hb, hF⟩, hce, hcv, hcl, st⟩
  · cases hv
    obtain ⟨k1, k2, k3⟩ := vx_keep h0 e1 hS hA hf hL hF
    obtain ⟨t2, a1, b1⟩ := kk r u t T'.heap (locs ++ L) e1.symm (by rw [← e2]; exact X'.warmed.alike) hp hb k1 k2 k3 T' rfl X'
    exact ⟨t2, st t2 a1, b1⟩
  · obtain ⟨k1, k2, k3⟩ := vx_keep h0 e1 hS hAX hf hL hF
    obtain ⟨t2, a1, b1⟩ := kx E ce q u t T'.heap (locs ++ L) e1.symm (by rw [← e2]; exact X'.warmed.alike) hp hb k1 k2 k3 (by rw [e1]; exact hce) hcv hcl T' rfl X'
    exact ⟨t2, st.trans a1, b1⟩
theorem vx_calld {S SX : Type} {post : UInt64 → S → Prop} {px : SX → Prop} {B : S → State → Prop} {BX : String → SX → State → Prop} {AX : Nat → Prop} (hr : vx_Run p l e R s m args below meth c H locs cells slots mc ms (F0 m pc ls st0) rest (va_Qd post B A1 a) (vx_X px BX AX) free) (hS : va_S A0 H0 H locs) (hA : ∀ q, q < H.size → A1 q → A0 q) (hf : ∀ q, free q → A0 q) (hAX : ∀ q, q < H.size → AX q → A0 q)
    (kx : ∀ (E : String) (ce : Cell) (q9 : Addr) (u : SX) (t : State) (H1 : Heap) (locs1 : List Loc), t.heap = H1 → s.vm.Alike t.vm → px u → BX E u t → H.size ≤ H1.size → (∀ q : Nat, q < H.size → ¬ AX q → H1[q]? = H[q]?) → va_S A0 H0 H1 locs1 → H1[q9]? = some ce → ce.vm = .none → s.vm.findClass E = some ce.cls → vx_W p l e R s m args below meth c H1 locs1 (cells + mc) (slots + ms) Q (F0 m pc ls rest) q9)
    (kk : ∀ (r : UInt64) (u : S) (t : State) (H1 : Heap) (locs1 : List Loc), t.heap = H1 → s.vm.Alike t.vm → post r u → B u t → H.size ≤ H1.size → (∀ q : Nat, q < H.size → ¬ A1 q → H1[q]? = H[q]?) → va_S A0 H0 H1 locs1 → W p l e R s m args below meth c H1 locs1 (cells + mc) (slots + ms) Q (F0 m (pc + 3) ls (.double r :: rest))) : W p l e R s m args below meth c H locs cells slots Q (F0 m pc ls st0) := by
  intro T hT X
  rcases hr T hT X with ⟨v, st₀, t, T', L, h0, X', hL, e1, e2, ⟨⟨r, u, hv, hp, hb⟩, hF⟩, st⟩ | ⟨q, st₀, t, T', L, E, ce, h0, X', hL, e1, e2, ⟨u, hp, hb, hF⟩, hce, hcv, hcl, st⟩
  · cases hv
    obtain ⟨k1, k2, k3⟩ := vx_keep h0 e1 hS hA hf hL hF
    obtain ⟨t2, a1, b1⟩ := kk r u t T'.heap (locs ++ L) e1.symm (by rw [← e2]; exact X'.warmed.alike) hp hb k1 k2 k3 T' rfl X'
    exact ⟨t2, st t2 a1, b1⟩
  · obtain ⟨k1, k2, k3⟩ := vx_keep h0 e1 hS hAX hf hL hF
    obtain ⟨t2, a1, b1⟩ := kx E ce q u t T'.heap (locs ++ L) e1.symm (by rw [← e2]; exact X'.warmed.alike) hp hb k1 k2 k3 (by rw [e1]; exact hce) hcv hcl T' rfl X'
    exact ⟨t2, st.trans a1, b1⟩
theorem vx_callv {S SX : Type} {post : S → Prop} {px : SX → Prop} {B : S → State → Prop} {BX : String → SX → State → Prop} {AX : Nat → Prop} (hr : vx_Run p l e R s m args below meth c H locs cells slots mc ms (F0 m pc ls st0) rest (va_Qv post B A1 a) (vx_X px BX AX) free) (hS : va_S A0 H0 H locs) (hA : ∀ q, q < H.size → A1 q → A0 q) (hf : ∀ q, free q → A0 q) (hAX : ∀ q, q < H.size → AX q → A0 q)
    (kx : ∀ (E : String) (ce : Cell) (q9 : Addr) (u : SX) (t : State) (H1 : Heap) (locs1 : List Loc), t.heap = H1 → s.vm.Alike t.vm → px u → BX E u t → H.size ≤ H1.size → (∀ q : Nat, q < H.size → ¬ AX q → H1[q]? = H[q]?) → va_S A0 H0 H1 locs1 → H1[q9]? = some ce → ce.vm = .none → s.vm.findClass E = some ce.cls → vx_W p l e R s m args below meth c H1 locs1 (cells + mc) (slots + ms) Q (F0 m pc ls rest) q9)
    (kk : ∀ (u : S) (t : State) (H1 : Heap) (locs1 : List Loc), t.heap = H1 → s.vm.Alike t.vm → post u → B u t → H.size ≤ H1.size → (∀ q : Nat, q < H.size → ¬ A1 q → H1[q]? = H[q]?) → va_S A0 H0 H1 locs1 → W p l e R s m args below meth c H1 locs1 (cells + mc) (slots + ms) Q (F0 m (pc + 3) ls (rest))) : W p l e R s m args below meth c H locs cells slots Q (F0 m pc ls st0) := by
  intro T hT X
  rcases hr T hT X with ⟨v, st₀, t, T', L, h0, X', hL, e1, e2, ⟨⟨u, hv, hp, hb⟩, hF⟩, st⟩ | ⟨q, st₀, t, T', L, E, ce, h0, X', hL, e1, e2, ⟨u, hp, hb, hF⟩, hce, hcv, hcl, st⟩
  · cases hv
    obtain ⟨k1, k2, k3⟩ := vx_keep h0 e1 hS hA hf hL hF
    obtain ⟨t2, a1, b1⟩ := kk u t T'.heap (locs ++ L) e1.symm (by rw [← e2]; exact X'.warmed.alike) hp hb k1 k2 k3 T' rfl X'
    exact ⟨t2, st t2 a1, b1⟩
  · obtain ⟨k1, k2, k3⟩ := vx_keep h0 e1 hS hAX hf hL hF
    obtain ⟨t2, a1, b1⟩ := kx E ce q u t T'.heap (locs ++ L) e1.symm (by rw [← e2]; exact X'.warmed.alike) hp hb k1 k2 k3 (by rw [e1]; exact hce) hcv hcl T' rfl X'
    exact ⟨t2, st.trans a1, b1⟩
/-- caught by the row x of this method's table; the rows ahead don't take it -/
theorem vx_catch {own name : String} {E : String} {ce : Cell} {q : Addr} (hown : s.vm.findClass own = some m.cls) (pre : List ExceptionTableEntry) (x : ExceptionTableEntry) (suf : List ExceptionTableEntry) (hsplit : c.exceptionTable.toList = pre ++ x :: suf)
    (hpass : ∀ z ∈ pre, covers z pc = false ∨ (z.catchType ≠ 0 ∧ ∃ nm : String, (Cond.classLink own z.catchType nm).before args s = true ∧ va_Nc E nm s)) (hx : covers x pc = true) (h0 : x.catchType ≠ 0)
    (hlink : (Cond.classLink own x.catchType name).before args s = true) (hcast : (Cond.castable E name).before args s = true) (hcell : H[q]? = some ce) (hv : ce.vm = .none) (hcl : s.vm.findClass E = some ce.cls)
    (kk : W p l e R s m args below meth c H locs cells slots Q (F0 m x.handlerPc ls [.ref q])) : vx_W p l e R s m args below meth c H locs cells slots Q (F0 m pc ls rest) q := by
  intro T hT X
  have hpl : e.platform.magicAccessors = ({} : Platform).magicAccessors := by rw [X.admits.platform]
  obtain ⟨c3, c4, hc3, hc4, hasg⟩ := Cond.castable_spec hcast
  cases Option.some.inj (hc3.symm.trans hcl)
  obtain ⟨c5, hc5, hcl5⟩ := Cond.classLink_spec hown hlink e.platform hpl
  cases Option.some.inj (hc4.symm.trans hc5)
  obtain ⟨vm', X', st⟩ := X.thenCaughtThrough q (g := F0 m pc ls rest) rfl (Steps.refl _) (by rw [hT]; exact hcell) (by rw [hv]; rfl) (by obtain ⟨k9, h9, -⟩ := Vm.findClass_spec hcl; exact ⟨k9, h9⟩) pre x suf hsplit
    (fun z hz => by
      rcases hpass z hz with h | ⟨hz0, nm, hl1, hn1⟩
      · exact Or.inl h
      · obtain ⟨c6, hc6, hcl6⟩ := Cond.classLink_spec hown hl1 e.platform hpl
        obtain ⟨a8, b8, h1, h2, h3⟩ := hn1
        cases Option.some.inj (h1.symm.trans hcl)
        cases Option.some.inj (h2.symm.trans hc6)
        exact Or.inr ⟨hz0, _, hcl6, h3⟩) hx (Or.inr ⟨h0, c4, hcl5, hasg⟩)
  obtain ⟨t, a1, b1⟩ := kk (T.setVm vm') hT X'
  exact ⟨t, st.trans a1, b1⟩
end Rows
section Ends
variable {p : Program} {l : Launch} {e : Env} {R : Room} {s : State} {m : MethodId} {args : Array Value} {below : List Frame} {meth : Method} {c : Code} {H : Heap} {locs : List Loc} {cells slots : Nat} {Q : State → Prop}
variable {mc ms : Nat} {free : Addr → Prop} {A0 A1 : Nat → Prop} {H0 : Heap} {a : Array Value} {ls : Array Slot} {st0 rest : List Value}
variable {Qc : Array Value → State → Outcome → State → Prop} {XC : String → State → State → Prop}
/-- what a body that may throw owes at its end -/
def vx_MQ (below : List Frame) (Qc : Array Value → State → Outcome → State → Prop) (XC : String → State → State → Prop) (a : Array Value) (s : State) (mc ms : Nat) (free : Addr → Prop) : State → Prop := fun t =>
  ∃ o, t.status = .running ∧ Ended t below o ∧ vx_Q Qc XC mc ms free a s o t
theorem vx_ret {g : JFrame} {mc ms : Nat} (k : W p l e R s m args below meth c H locs cells slots (MQ below Qc args s mc ms free) g) : W p l e R s m args below meth c H locs cells slots (vx_MQ below Qc XC args s mc ms free) g := by
  intro T hT X
  obtain ⟨t, a1, o, b1, b2, b3, b4⟩ := k T hT X
  exact ⟨t, a1, o, b1, b2, Or.inl ⟨b3, b4⟩⟩
/-- not caught here: it goes on to the caller -/
theorem vx_widen {g : JFrame} {q : Addr} {k n : Nat} (h1 : cells ≤ k) (h2 : slots ≤ n) (kk : vx_W p l e R s m args below meth c H locs k n Q g q) : vx_W p l e R s m args below meth c H locs cells slots Q g q := fun T hT X => kk T hT (stand_widen X h1 h2)
theorem vx_out {pc : Nat} {E : String} {ce : Cell} {q : Addr} {mc ms : Nat} (hout : ∀ x ∈ c.exceptionTable.toList, covers x pc = false) (hlocks : meth.locks = false) (hcell : H[q]? = some ce) (hv : ce.vm = .none) (hcl : s.vm.findClass E = some ce.cls)
    (hx : ∀ t : State, t.heap = H → s.vm.Alike t.vm → XC E s t) (hf : ∀ z ∈ locs, free z.base) (hc : cells ≤ mc) (hs : slots ≤ ms) :
    vx_W p l e R s m args below meth c H locs cells slots (vx_MQ below Qc XC args s mc ms free) (F0 m pc ls rest) q := by
  intro T hT X
  obtain ⟨st1, hrun, hend, hW, hsm⟩ := X.leaveThrown q (g := F0 m pc ls rest) rfl rfl rfl hout hlocks
  have hcell9 : (T.setFrames (.throwing q :: below)).heap[q]? = some ce := by
    show T.heap[q]? = some ce
    rw [hT]; exact hcell
  exact ⟨_, st1, .threw q, hrun, hend, Or.inr ⟨q, rfl, E, ce, locs, hx _ hT hW.alike, hcell9, hv, hcl, hW, hsm.mono hc hs, hf⟩⟩
theorem vx_frame {U : State} {k n : Nat} (h : s.sameButNew ({ U with vm := s.vm } : State) locs k n) : s.heap.size ≤ U.heap.size ∧ ∀ q : Nat, q < s.heap.size → (∀ z ∈ locs, z.base ≠ q) → U.heap[q]? = s.heap[q]? := by
  obtain ⟨-, h2, -, -, -, h6⟩ := h
  refine ⟨h2, fun q hq hz => ?_⟩
  obtain ⟨c9, e1, e2, e3, e4⟩ := h6 q _ (Array.getElem?_eq_getElem hq)
  have hs : c9.slots = (s.heap[q]).slots := Array.ext_getElem? fun i => e4 i fun hm => hz _ hm rfl
  have h9 : c9 = s.heap[q] := by
    rw [hs] at e2
    exact e2
  have e5 : U.heap[q]? = some c9 := e1
  rw [e5, h9, Array.getElem?_eq_getElem hq]
/-- the words of a throw but the four that speak of the heap -/
def vx_no (w : Cond) : Bool := decide (w ≠ .isRef (.static Bundle.tN "UNASSIGNED_STACK" Bundle.steD)) && decide (w ≠ .isRef (.static Bundle.tN "SUPPRESSED_SENTINEL" Bundle.listD)) && decide (w ≠ .laysStatic Bundle.tN "UNASSIGNED_STACK" Bundle.steD) && decide (w ≠ .laysStatic Bundle.tN "SUPPRESSED_SENTINEL" Bundle.listD)
def vx_at0 (own : String) (ic : Nat) (X : String) (names : List String) : List Cond := (Bundle.ownAtoms0 own ic X names).filter vx_no
def vx_atS (own : String) (ic : Nat) (X : String) (names : List String) : List Cond := (Bundle.ownAtoms own ic X names).filter vx_no
/-- a word that the tables alone decide, or a good one -/
def vx_ot (w : Cond) : Bool := w.onTables || goodWord w
theorem vx_ot_at {args a' : Array Value} {s U : State} {w : Cond} (hW : s.WarmedH U.vm) (hvm : s.vm = U.vm) (hg : vx_ot w = true) (h : w.before args s = true) : w.before a' U = true := by
  simp only [vx_ot, Bool.or_eq_true] at hg
  rcases hg with hg | hg
  · exact va_tabs hg hvm h
  · exact word_at hW (good_of_word hg) h
/-- a list's words: the good ones out of the method's own list, the others by premises of their own -/
theorem vx_hat {args : Array Value} {s : State} {L B : List Cond} (h1 : ∀ w ∈ L.filter goodWord, w.before args s = true) (h2 : ∀ w ∈ L.filter (fun w => !goodWord w), w ∈ B) (h3 : ∀ w ∈ B, w.before args s = true) : ∀ w ∈ L, w.before args s = true := by
  intro w hw
  by_cases g : goodWord w = true
  · exact h1 w (List.mem_filter.mpr ⟨hw, g⟩)
  · refine h3 w (h2 w (List.mem_filter.mpr ⟨hw, ?_⟩))
    show (!goodWord w) = true
    cases hgw : goodWord w
    · rfl
    · exact absurd hgw g
theorem vx_c {args : Array Value} {s : State} {w : Cond} {B : List Cond} (h : w.before args s = true) (t : ∀ w ∈ B, w.before args s = true) : ∀ w' ∈ w :: B, w'.before args s = true := fun w' h' => (List.mem_cons.mp h').elim (fun e => by rw [e]; exact h) (t w')
theorem vx_n {args : Array Value} {s : State} : ∀ w ∈ ([] : List Cond), w.before args s = true := fun _ h => nomatch h
theorem vx_own {args : Array Value} {s : State} {L : List Cond} (h1 : ∀ w ∈ L.filter vx_no, w.before args s = true)
    (hU : (Cond.isRef (.static Bundle.tN "UNASSIGNED_STACK" Bundle.steD)).before args s = true) (hN : (Cond.isRef (.static Bundle.tN "SUPPRESSED_SENTINEL" Bundle.listD)).before args s = true)
    (lU : (Cond.laysStatic Bundle.tN "UNASSIGNED_STACK" Bundle.steD).before args s = true) (lN : (Cond.laysStatic Bundle.tN "SUPPRESSED_SENTINEL" Bundle.listD).before args s = true) : ∀ w ∈ L, w.before args s = true := by
  intro w hw
  by_cases e1 : w = .isRef (.static Bundle.tN "UNASSIGNED_STACK" Bundle.steD)
  · rw [e1]; exact hU
  · by_cases e2 : w = .isRef (.static Bundle.tN "SUPPRESSED_SENTINEL" Bundle.listD)
    · rw [e2]; exact hN
    · by_cases e3 : w = .laysStatic Bundle.tN "UNASSIGNED_STACK" Bundle.steD
      · rw [e3]; exact lU
      · by_cases e4 : w = .laysStatic Bundle.tN "SUPPRESSED_SENTINEL" Bundle.listD
        · rw [e4]; exact lN
        · exact h1 w (List.mem_filter.mpr ⟨hw, by unfold vx_no; rw [decide_eq_true e1, decide_eq_true e2, decide_eq_true e3, decide_eq_true e4]; rfl⟩)
/-- where a static field lies, its class's statics cell in H -/
def vx_L (C n d : String) (A : Nat → Prop) (U : State) (H : Heap) : Prop := ∃ (c : ClassId) (k : Class) (i : Nat) (f : Field) (a : Nat) (cell : Cell), U.vm.findClass C = some c ∧ U.fieldFound? C n d = some (c, k, i, f) ∧ f.isStatic = true ∧ k.statics = some a ∧ H[a]? = some cell ∧ cell.vm.isStatics = true ∧ cell.cls = c ∧ f.slot < cell.slots.size ∧ k.staticTypes[f.slot]? = some f.type ∧ ¬ A a
theorem vx_L.moved {C n d : String} {A : Nat → Prop} {u U : State} {H : Heap} (hvm : u.vm.Alike U.vm) (h : vx_L C n d A u H) : vx_L C n d A U H := by
  obtain ⟨c, k, i, f, a, cell, h1, h2, h3, h4, h5, h6, h7, h8, h9, h10⟩ := h
  obtain ⟨k', hi', he⟩ := State.fieldFound?_setVm hvm h2
  exact ⟨c, k', i, f, a, cell, by rw [hvm.findClass]; exact h1, hi', h3, by rw [he]; exact h4, h5, h6, h7, h8, by rw [he]; exact h9, h10⟩
theorem vx_L.kept {C n d : String} {A : Nat → Prop} {U : State} {H H1 : Heap} (h : vx_L C n d A U H) (hq : ∀ a : Nat, a < H.size → ¬ A a → H1[a]? = H[a]?) : vx_L C n d A U H1 := by
  obtain ⟨c, k, i, f, a, cell, h1, h2, h3, h4, h5, h6, h7, h8, h9, h10⟩ := h
  exact ⟨c, k, i, f, a, cell, h1, h2, h3, h4, by rw [hq a (Array.getElem?_eq_some_iff.mp h5).1 h10]; exact h5, h6, h7, h8, h9, h10⟩
theorem vx_L.narrow {C n d : String} {A B : Nat → Prop} {U : State} {H : Heap} (h : vx_L C n d A U H) (hAB : ∀ q, B q → A q) : vx_L C n d B U H := by
  obtain ⟨c, k, i, f, a, cell, h1, h2, h3, h4, h5, h6, h7, h8, h9, h10⟩ := h
  exact ⟨c, k, i, f, a, cell, h1, h2, h3, h4, h5, h6, h7, h8, h9, fun z => h10 (hAB _ z)⟩
theorem vx_L.word {C n d : String} {A : Nat → Prop} {s : State} {args : Array Value} (h : vx_L C n d A s s.heap) : (Cond.laysStatic C n d).before args s = true := by
  obtain ⟨c, k, i, f, a, cell, h1, h2, h3, h4, h5, h6, h7, h8, h9, -⟩ := h
  show (Cond.laysStatic C n d).holds args s none s [] = true
  exact Cond.laysStatic_of h1 h2 h3 h4 h5 h6 h7 h8 h9
/-- .. and what it holds: null or some reference -/
def vx_Zq (C n d : String) (A : Nat → Prop) (U : State) (H : Heap) : Prop := va_Zq C n d A U H ∧ vx_L C n d A U H
theorem vx_Zq.moved {C n d : String} {A : Nat → Prop} {u U : State} {H : Heap} (hvm : u.vm.Alike U.vm) (h : vx_Zq C n d A u H) : vx_Zq C n d A U H := ⟨va_Zq.moved hvm h.1, vx_L.moved hvm h.2⟩
theorem vx_Zq.kept {C n d : String} {A : Nat → Prop} {U : State} {H H1 : Heap} (h : vx_Zq C n d A U H) (hq : ∀ a : Nat, a < H.size → ¬ A a → H1[a]? = H[a]?) : vx_Zq C n d A U H1 := ⟨va_Zq.kept h.1 hq, vx_L.kept h.2 hq⟩
theorem vx_Zq.narrow {C n d : String} {A B : Nat → Prop} {U : State} {H : Heap} (h : vx_Zq C n d A U H) (hAB : ∀ q, B q → A q) : vx_Zq C n d B U H := ⟨va_Zq.narrow h.1 hAB, vx_L.narrow h.2 hAB⟩
theorem vx_Zqof {args : Array Value} {s : State} {C n d : String} {A : Nat → Prop} (hl : (Cond.laysStatic C n d).before args s = true) (hini : (Cond.initialized C).before args s = true) (h : (Cond.isRef (.static C n d)).before args s = true) (hA : ∀ a : Nat, a < s.heap.size → ¬ A a) : vx_Zq C n d A s s.heap := by
  refine ⟨va_Zqof hl hini h hA, ?_⟩
  obtain ⟨c, k, i, f, a, cell, h1, h2, h3, h4, h5, h6, h7, h8, h9⟩ := Cond.laysStatic_spec hl
  exact ⟨c, k, i, f, a, cell, h1, h2, h3, h4, h5, h6, h7, h8, h9, hA a (Array.getElem?_eq_some_iff.mp h5).1⟩
theorem vx_isRef {C n d : String} {v : Value} {A : Nat → Prop} {s : State} {args : Array Value} (h : va_Z C n d v A s s.heap) (hv : v.isRef = true) : (Cond.isRef (.static C n d)).before args s = true := by
  obtain ⟨cf, kf, fi, f, a, cell, h1, h2, h3, h4, h5, h6, h7, -⟩ := h
  have he : (Term.static C n d).eval args s none [] s = some v := by
    simp [Term.eval, State.fieldNamed?, h1, h2, h4, h5, h6, h7]
  simp only [Cond.before, Cond.holds, Cond.value, he]
  cases v <;> simp_all [Value.isRef]
theorem vx_isRefq {C n d : String} {A : Nat → Prop} {s : State} {args : Array Value} (h : va_Zq C n d A s s.heap) : (Cond.isRef (.static C n d)).before args s = true := by
  rcases h with h | ⟨t, h⟩
  · exact vx_isRef h rfl
  · exact vx_isRef h rfl
/-- the same frame, seen from here: as if the method were called anew in this heap -/
theorem vx_rebase {T : State} (X : Stand p l e R s m args below meth c T locs cells slots) {R' : Room} (hf : R'.frames ≤ R.frames) (hl : R'.locals ≤ R.locals) (hc : cells + R'.cells ≤ R.cells) (hs : slots + R'.slots ≤ R.slots) :
    Stand p l e R' ((T.setVm s.vm).setFrames (.invoking m args :: below)) m args below meth c T [] 0 0 := by
  have htop : (T.setVm s.vm).topJava?.isSome := X.here.top
  have hF : ((T.setVm s.vm).setFrames (.invoking m args :: below)).frames = .invoking m args :: below := State.frames_setFrames _ (State.cur_lt_of_top htop)
  obtain ⟨g₀, hg0⟩ := Option.isSome_iff_exists.mp htop
  obtain ⟨r, hr⟩ := State.topJava?_eq_some.mp hg0
  have hl9 : e.platform.stackLimits (T.setVm s.vm).me = e.platform.stackLimits s.me := X.limits
  have hb9 : (T.setVm s.vm).me.stackBytes = s.me.stackBytes := X.bytes
  refine ⟨X.admits, X.cas, X.clock, hF, ?_, X.hears, X.method, X.code, X.here, X.tail, X.warmed, ?_, ?_, ?_⟩
  · have h := X.room
    have hU : ((T.setVm s.vm).setFrames (.invoking m args :: below)).localsInUse = s.localsInUse := by
      rw [State.localsInUse_invoking hF (meth := meth) (c := c) X.method X.code, State.localsInUse_invoking X.frames X.method X.code]
    simp only [State.hasRoom, Bool.and_eq_true, decide_eq_true_eq] at h ⊢
    obtain ⟨⟨⟨⟨h1, h2, h3, h4, h5, h6⟩, h7⟩, h8⟩, h9⟩ := h
    rw [X.frames, List.length_cons] at h2 h3
    have q1 := X.heapSize
    have q2 := X.used
    simp only [hF, hU, List.length_cons, State.stackLimits_setFrames, State.stackBytes_setFrames, hl9, hb9]
    refine ⟨⟨⟨⟨by omega, by omega, by omega, by omega, by omega, h6⟩, ?_⟩, ?_⟩, X.book⟩
    · show T.heap.size + R'.cells ≤ e.platform.maxCells
      omega
    · show T.slotsUsed + R'.slots ≤ e.platform.maxSlots
      omega
  · rw [State.stackLimits_setFrames]; rfl
  · rw [State.stackBytes_setFrames]; rfl
  · refine ⟨?_, Nat.le_refl _, Nat.le_refl _, ?_, ?_, fun a c9 h9 => ⟨c9, h9, rfl, rfl, fun _ _ => rfl⟩⟩
    · obtain ⟨t, ht, -⟩ := State.frames_cons hr
      show T.setVm s.vm = { ((T.setVm s.vm).setFrames (.invoking m args :: below)).setFrames (T.setVm s.vm).frames with heap := T.heap, slotsUsed := T.slotsUsed }
      rw [State.setFrames_setFrames, State.setFrames_self ht]
      rfl
    · show T.slotsUsed = T.slotsUsed + ((T.heap.toList.drop T.heap.size).map (·.slots.size)).sum
      rw [List.drop_eq_nil_of_le (Nat.le_of_eq Array.length_toList)]
      rfl
    · show ((T.heap.toList.drop T.heap.size).map (·.slots.size)).sum ≤ 0
      rw [List.drop_eq_nil_of_le (Nat.le_of_eq Array.length_toList)]
      exact Nat.le_refl _
/-- 'throw new E()': new; dup; invokespecial; athrow -/
theorem vx_throw0 {cc : ByteArray} {pc : Nat} (hexec : p.tables.exec = Jvm.exec) (hb : c.code = cc) (hl : l.stackTraces = false) {own cls : String} {names : List String} {ik ic mc ms : Nat} {A : Nat → Prop}
    (hown : s.vm.findClass own = some m.cls) (hcls : Bundle.fit cls = true) (hnames : ∀ n ∈ names, Bundle.fit n = true)
    (hk : (Cond.classLink own ik cls).before args s = true) (hini : (Cond.initialized cls).before args s = true) (hat : ∀ w ∈ vx_at0 own ic cls names, w.before args s = true)
    (hgood : ∀ w ∈ Cond.classLink own ik cls :: Cond.initialized cls :: vx_at0 own ic cls names, vx_ot w = true)
    (hU : vx_Zq Bundle.tN "UNASSIGNED_STACK" Bundle.steD A s s.heap) (hN : vx_Zq Bundle.tN "SUPPRESSED_SENTINEL" Bundle.listD A s s.heap) (hS : va_S A s.heap H locs) (hsize : ls.size = c.maxLocals)
    (d0 : decode cc pc = .ok (.new ik, 3)) (d3 : decode cc (pc + 3) = .ok (.dup, 1)) (d4 : decode cc (pc + 4) = .ok (.invokespecial ic, 3)) (d7 : decode cc (pc + 7) = .ok (.athrow, 1))
    (hout : ∀ x ∈ c.exceptionTable.toList, covers x (pc + 7) = false)
    (hRframes : names.length + 3 < R.frames) (hRlocals : (rest.map fun v => v.category).sum + (13 * (names.length + 1) + 42) ≤ R.locals) (hRcells : cells + 1 ≤ R.cells) (hRslots : slots + 6 ≤ R.slots) (hlocks : meth.locks = false)
    (hx : ∀ t : State, s.vm.Alike t.vm → H.size ≤ t.heap.size → (∀ q : Nat, q < H.size → t.heap[q]? = H[q]?) → XC cls s t)
    (hf : ∀ z ∈ locs, free z.base) (hc : cells + 1 ≤ mc) (hs : slots + 6 ≤ ms) :
    W p l e R s m args below meth c H locs cells slots (vx_MQ below Qc XC args s mc ms free) (F0 m pc ls rest) := by
  intro T hT X
  have htr : e.platform.stackTraces = false := (show e.platform.stackTraces = l.stackTraces by rw [X.admits.platform]).trans hl
  have Y := vx_rebase X (R' := { frames := R.frames, locals := R.locals, cells := 1, slots := 6 }) (Nat.le_refl _) (Nat.le_refl _) hRcells hRslots
  obtain ⟨s', hA⟩ : ∃ z, z = (T.setVm s.vm).setFrames (.invoking m args :: below) := ⟨_, rfl⟩
  rw [← hA] at Y
  have hvm : s'.vm = s.vm := by rw [hA]; rfl
  have hhp : s'.heap = H := by rw [hA]; exact hT
  have hW0 : s.WarmedH s'.vm := by rw [hvm]; exact State.WarmedH.refl s
  have hat' : ∀ w ∈ vx_at0 own ic cls names, w.before args s' = true := fun w hw => vx_ot_at hW0 hvm.symm (hgood w (List.mem_cons_of_mem _ (List.mem_cons_of_mem _ hw))) (hat w hw)
  have hk' : (Cond.classLink own ik cls).before args s' = true := vx_ot_at hW0 hvm.symm (hgood _ List.mem_cons_self) hk
  have hini' : (Cond.initialized cls).before args s' = true := vx_ot_at hW0 hvm.symm (hgood _ (List.mem_cons_of_mem _ List.mem_cons_self)) hini
  have hU' : vx_Zq Bundle.tN "UNASSIGNED_STACK" Bundle.steD A s' s'.heap := by rw [hhp]; exact vx_Zq.moved hW0.alike (hU.kept hS.2.1)
  have hN' : vx_Zq Bundle.tN "SUPPRESSED_SENTINEL" Bundle.listD A s' s'.heap := by rw [hhp]; exact vx_Zq.moved hW0.alike (hN.kept hS.2.1)
  have h : ∀ w ∈ Bundle.ownAtoms0 own ic cls names, w.before args s' = true := vx_own hat' (vx_isRefq hU'.1) (vx_isRefq hN'.1) hU'.2.word hN'.2.word
  have hown' : s'.vm.findClass own = some m.cls := by rw [hvm]; exact hown
  have hins : (Cond.instantiable cls 6).before args s' = true := h _ (by simp [Bundle.ownAtoms0])
  obtain ⟨vm₁, cX, kX, hfX, hkX, -, -, X₁, st1⟩ := Y.newCold hexec (own := own) (C := cls) (index := ik) (n := 6) hown' hk' hins hini'
    (g := F0 m pc ls rest) rfl (by rw [hb]; exact d0) (Nat.le_refl _) (Nat.le_refl _)
  generalize hT1 : (T.setVm vm₁).pushCell { cls := cX, slots := kX.instanceTypes.map defaultValue, vm := .none } = T1 at X₁ st1
  have hcat : (Value.ref T.heap.size).category = 1 := rfl
  have hcellA : T1.heap[T.heap.size]? = some (freshCell cX kX) := by rw [← hT1]; exact State.heap_pushCell_size _ _
  have d3' : decode c.code (pc + 3) = .ok (.dup, 1) := by rw [hb]; exact d3
  obtain ⟨U, hsteps, hrun, hend, hW, hsame, ce, hce, hO⟩ := X₁.ctorThrow0 hexec htr (own := own) (cls := cls) (names := names) (ic := ic) hown' hcls hnames h (fun x hx => nomatch hx) hfX hkX hcellA (by rw [hhp, hT]; exact Nat.le_refl _)
    (g := { method := m, pc := pc + 4, locals := ls, stack := .ref T.heap.size :: .ref T.heap.size :: rest, locked := none }) rfl hsize rfl rfl (rest := rest) rfl
    (by rw [hb]; exact d4) (by rw [hb]; exact d7) hout hRframes (by simp only [List.map_cons, List.sum_cons, hcat]; omega) hlocks
  obtain ⟨f1, f2⟩ := vx_frame hsame
  rw [hhp] at f1 f2
  have hWs : s.WarmedH U.vm := State.WarmedH.trans hW0 hW
  have hcl : s.vm.findClass cls = some ce.cls := by
    have h9 := hO.cls
    rw [hvm] at h9
    exact h9
  have hall : s.sameButNew ({ U with vm := s.vm } : State) locs mc ms := by
    subst hA
    obtain ⟨e1, e2⟩ := hsame
    rw [State.setFrames_setFrames] at e1
    have h2 : (T.setVm s.vm).sameButNew ({ U with vm := s.vm } : State) [] (0 + 1) (0 + 6) := ⟨e1, e2⟩
    have h3 := X.same.trans h2
    rw [List.append_nil] at h3
    exact h3.mono hc hs
  refine ⟨U, ?_, .threw T.heap.size, hrun, hend, Or.inr ⟨T.heap.size, rfl, cls, ce, locs, hx U hWs.alike f1 (fun q hq => f2 q hq (fun z hz => nomatch hz)), hce, hO.vm, hcl, hWs, hall, hf⟩⟩
  refine st1 _ ?_
  show Steps p.tables e below (T1.setTop { method := m, pc := pc + 3, locals := ls, stack := .ref T.heap.size :: rest, locked := none }) _
  jvm_step X₁.here [X₁.here.top, hexec, d3', Value.category]
  exact hsteps
/-- 'throw new E("text")': new; dup; ldc; invokespecial; athrow -/
theorem vx_throwS {cc : ByteArray} {pc : Nat} (hexec : p.tables.exec = Jvm.exec) (hb : c.code = cc) (hl : l.stackTraces = false) {own cls text : String} {names : List String} {ik is ic mc ms sa : Nat} {A : Nat → Prop}
    (hown : s.vm.findClass own = some m.cls) (hcls : Bundle.fit cls = true) (hnames : ∀ n ∈ names, Bundle.fit n = true)
    (hk : (Cond.classLink own ik cls).before args s = true) (hini : (Cond.initialized cls).before args s = true) (hstr : vk_R own is text sa s) (hat : ∀ w ∈ vx_atS own ic cls names, w.before args s = true)
    (hgood : ∀ w ∈ Cond.classLink own ik cls :: Cond.initialized cls :: vx_atS own ic cls names, vx_ot w = true)
    (hU : vx_Zq Bundle.tN "UNASSIGNED_STACK" Bundle.steD A s s.heap) (hN : vx_Zq Bundle.tN "SUPPRESSED_SENTINEL" Bundle.listD A s s.heap) (hS : va_S A s.heap H locs) (hsize : ls.size = c.maxLocals)
    (d0 : decode cc pc = .ok (.new ik, 3)) (d3 : decode cc (pc + 3) = .ok (.dup, 1)) (d4 : decode cc (pc + 4) = .ok (.ldc is, 2)) (d6 : decode cc (pc + 6) = .ok (.invokespecial ic, 3)) (d9 : decode cc (pc + 9) = .ok (.athrow, 1))
    (hout : ∀ x ∈ c.exceptionTable.toList, covers x (pc + 9) = false)
    (hRframes : names.length + 3 < R.frames) (hRlocals : (rest.map fun v => v.category).sum + (13 * (names.length + 1) + 43) ≤ R.locals) (hRcells : cells + 1 ≤ R.cells) (hRslots : slots + 6 ≤ R.slots) (hlocks : meth.locks = false)
    (hx : ∀ t : State, s.vm.Alike t.vm → H.size ≤ t.heap.size → (∀ q : Nat, q < H.size → t.heap[q]? = H[q]?) → XC cls s t)
    (hf : ∀ z ∈ locs, free z.base) (hc : cells + 1 ≤ mc) (hs : slots + 6 ≤ ms) :
    W p l e R s m args below meth c H locs cells slots (vx_MQ below Qc XC args s mc ms free) (F0 m pc ls rest) := by
  intro T hT X
  have htr : e.platform.stackTraces = false := (show e.platform.stackTraces = l.stackTraces by rw [X.admits.platform]).trans hl
  have Y := vx_rebase X (R' := { frames := R.frames, locals := R.locals, cells := 1, slots := 6 }) (Nat.le_refl _) (Nat.le_refl _) hRcells hRslots
  obtain ⟨s', hA⟩ : ∃ z, z = (T.setVm s.vm).setFrames (.invoking m args :: below) := ⟨_, rfl⟩
  rw [← hA] at Y
  have hvm : s'.vm = s.vm := by rw [hA]; rfl
  have hhp : s'.heap = H := by rw [hA]; exact hT
  have hW0 : s.WarmedH s'.vm := by rw [hvm]; exact State.WarmedH.refl s
  have hat' : ∀ w ∈ vx_atS own ic cls names, w.before args s' = true := fun w hw => vx_ot_at hW0 hvm.symm (hgood w (List.mem_cons_of_mem _ (List.mem_cons_of_mem _ hw))) (hat w hw)
  have hk' : (Cond.classLink own ik cls).before args s' = true := vx_ot_at hW0 hvm.symm (hgood _ List.mem_cons_self) hk
  have hini' : (Cond.initialized cls).before args s' = true := vx_ot_at hW0 hvm.symm (hgood _ (List.mem_cons_of_mem _ List.mem_cons_self)) hini
  have hU' : vx_Zq Bundle.tN "UNASSIGNED_STACK" Bundle.steD A s' s'.heap := by rw [hhp]; exact vx_Zq.moved hW0.alike (hU.kept hS.2.1)
  have hN' : vx_Zq Bundle.tN "SUPPRESSED_SENTINEL" Bundle.listD A s' s'.heap := by rw [hhp]; exact vx_Zq.moved hW0.alike (hN.kept hS.2.1)
  have h : ∀ w ∈ Bundle.ownAtoms own ic cls names, w.before args s' = true := vx_own hat' (vx_isRefq hU'.1) (vx_isRefq hN'.1) hU'.2.word hN'.2.word
  have hown' : s'.vm.findClass own = some m.cls := by rw [hvm]; exact hown
  have hins : (Cond.instantiable cls 6).before args s' = true := h _ (by simp [Bundle.ownAtoms])
  obtain ⟨vm₁, cX, kX, hfX, hkX, -, -, X₁, st1⟩ := Y.newCold hexec (own := own) (C := cls) (index := ik) (n := 6) hown' hk' hins hini'
    (g := F0 m pc ls rest) rfl (by rw [hb]; exact d0) (Nat.le_refl _) (Nat.le_refl _)
  generalize hT1 : (T.setVm vm₁).pushCell { cls := cX, slots := kX.instanceTypes.map defaultValue, vm := .none } = T1 at X₁ st1
  have hcat : (Value.ref T.heap.size).category = 1 := rfl
  have hcellA : T1.heap[T.heap.size]? = some (freshCell cX kX) := by rw [← hT1]; exact State.heap_pushCell_size _ _
  have d3' : decode c.code (pc + 3) = .ok (.dup, 1) := by rw [hb]; exact d3
  have d4' : decode c.code (pc + 4) = .ok (.ldc is, 2) := by rw [hb]; exact d4
  have hstr' : vk_R own is text sa s' := vk_R.warm hW0 hstr
  obtain ⟨U, hsteps, hrun, hend, hW, hsame, ce, hce, hO⟩ := X₁.ctorThrowS hexec htr (own := own) (cls := cls) (names := names) (ic := ic) hown' hcls hnames h (fun x hx => nomatch hx) hfX hkX hcellA (by rw [hhp, hT]; exact Nat.le_refl _) (msg := .ref sa) rfl
    (g := { method := m, pc := pc + 6, locals := ls, stack := .ref sa :: .ref T.heap.size :: .ref T.heap.size :: rest, locked := none }) rfl hsize rfl rfl (rest := rest) rfl
    (by rw [hb]; exact d6) (by rw [hb]; exact d9) hout hRframes (by simp only [List.map_cons, List.sum_cons, hcat]; omega) hlocks
  obtain ⟨f1, f2⟩ := vx_frame hsame
  rw [hhp] at f1 f2
  have hWs : s.WarmedH U.vm := State.WarmedH.trans hW0 hW
  have hcl : s.vm.findClass cls = some ce.cls := by
    have h9 := hO.cls
    rw [hvm] at h9
    exact h9
  have hall : s.sameButNew ({ U with vm := s.vm } : State) locs mc ms := by
    subst hA
    obtain ⟨e1, e2⟩ := hsame
    rw [State.setFrames_setFrames] at e1
    have h2 : (T.setVm s.vm).sameButNew ({ U with vm := s.vm } : State) [] (0 + 1) (0 + 6) := ⟨e1, e2⟩
    have h3 := X.same.trans h2
    rw [List.append_nil] at h3
    exact h3.mono hc hs
  refine ⟨U, ?_, .threw T.heap.size, hrun, hend, Or.inr ⟨T.heap.size, rfl, cls, ce, locs, hx U hWs.alike f1 (fun q hq => f2 q hq (fun z hz => nomatch hz)), hce, hO.vm, hcl, hWs, hall, hf⟩⟩
  refine st1 _ ?_
  show Steps p.tables e below (T1.setTop { method := m, pc := pc + 3, locals := ls, stack := .ref T.heap.size :: rest, locked := none }) _
  jvm_step X₁.here [X₁.here.top, hexec, d3', Value.category]
  exact X₁.ldcString hexec (own := own) (text := text) (index := is) (a := sa) hown' hstr'.1 hstr'.2
    (g := { method := m, pc := pc + 4, locals := ls, stack := .ref T.heap.size :: .ref T.heap.size :: rest, locked := none }) rfl d4' _ hsteps
/-- 'throw new E("text")', the text by a wide index -/
theorem vx_throwSW {cc : ByteArray} {pc : Nat} (hexec : p.tables.exec = Jvm.exec) (hb : c.code = cc) (hl : l.stackTraces = false) {own cls text : String} {names : List String} {ik is ic mc ms sa : Nat} {A : Nat → Prop}
    (hown : s.vm.findClass own = some m.cls) (hcls : Bundle.fit cls = true) (hnames : ∀ n ∈ names, Bundle.fit n = true)
    (hk : (Cond.classLink own ik cls).before args s = true) (hini : (Cond.initialized cls).before args s = true) (hstr : vk_R own is text sa s) (hat : ∀ w ∈ vx_atS own ic cls names, w.before args s = true)
    (hgood : ∀ w ∈ Cond.classLink own ik cls :: Cond.initialized cls :: vx_atS own ic cls names, vx_ot w = true)
    (hU : vx_Zq Bundle.tN "UNASSIGNED_STACK" Bundle.steD A s s.heap) (hN : vx_Zq Bundle.tN "SUPPRESSED_SENTINEL" Bundle.listD A s s.heap) (hS : va_S A s.heap H locs) (hsize : ls.size = c.maxLocals)
    (d0 : decode cc pc = .ok (.new ik, 3)) (d3 : decode cc (pc + 3) = .ok (.dup, 1)) (d4 : decode cc (pc + 4) = .ok (.ldc_w is, 3)) (d7 : decode cc (pc + 7) = .ok (.invokespecial ic, 3)) (d10 : decode cc (pc + 10) = .ok (.athrow, 1))
    (hout : ∀ x ∈ c.exceptionTable.toList, covers x (pc + 10) = false)
    (hRframes : names.length + 3 < R.frames) (hRlocals : (rest.map fun v => v.category).sum + (13 * (names.length + 1) + 43) ≤ R.locals) (hRcells : cells + 1 ≤ R.cells) (hRslots : slots + 6 ≤ R.slots) (hlocks : meth.locks = false)
    (hx : ∀ t : State, s.vm.Alike t.vm → H.size ≤ t.heap.size → (∀ q : Nat, q < H.size → t.heap[q]? = H[q]?) → XC cls s t)
    (hf : ∀ z ∈ locs, free z.base) (hc : cells + 1 ≤ mc) (hs : slots + 6 ≤ ms) :
    W p l e R s m args below meth c H locs cells slots (vx_MQ below Qc XC args s mc ms free) (F0 m pc ls rest) := by
  intro T hT X
  have htr : e.platform.stackTraces = false := (show e.platform.stackTraces = l.stackTraces by rw [X.admits.platform]).trans hl
  have Y := vx_rebase X (R' := { frames := R.frames, locals := R.locals, cells := 1, slots := 6 }) (Nat.le_refl _) (Nat.le_refl _) hRcells hRslots
  obtain ⟨s', hA⟩ : ∃ z, z = (T.setVm s.vm).setFrames (.invoking m args :: below) := ⟨_, rfl⟩
  rw [← hA] at Y
  have hvm : s'.vm = s.vm := by rw [hA]; rfl
  have hhp : s'.heap = H := by rw [hA]; exact hT
  have hW0 : s.WarmedH s'.vm := by rw [hvm]; exact State.WarmedH.refl s
  have hat' : ∀ w ∈ vx_atS own ic cls names, w.before args s' = true := fun w hw => vx_ot_at hW0 hvm.symm (hgood w (List.mem_cons_of_mem _ (List.mem_cons_of_mem _ hw))) (hat w hw)
  have hk' : (Cond.classLink own ik cls).before args s' = true := vx_ot_at hW0 hvm.symm (hgood _ List.mem_cons_self) hk
  have hini' : (Cond.initialized cls).before args s' = true := vx_ot_at hW0 hvm.symm (hgood _ (List.mem_cons_of_mem _ List.mem_cons_self)) hini
  have hU' : vx_Zq Bundle.tN "UNASSIGNED_STACK" Bundle.steD A s' s'.heap := by rw [hhp]; exact vx_Zq.moved hW0.alike (hU.kept hS.2.1)
  have hN' : vx_Zq Bundle.tN "SUPPRESSED_SENTINEL" Bundle.listD A s' s'.heap := by rw [hhp]; exact vx_Zq.moved hW0.alike (hN.kept hS.2.1)
  have h : ∀ w ∈ Bundle.ownAtoms own ic cls names, w.before args s' = true := vx_own hat' (vx_isRefq hU'.1) (vx_isRefq hN'.1) hU'.2.word hN'.2.word
  have hown' : s'.vm.findClass own = some m.cls := by rw [hvm]; exact hown
  have hins : (Cond.instantiable cls 6).before args s' = true := h _ (by simp [Bundle.ownAtoms])
  obtain ⟨vm₁, cX, kX, hfX, hkX, -, -, X₁, st1⟩ := Y.newCold hexec (own := own) (C := cls) (index := ik) (n := 6) hown' hk' hins hini'
    (g := F0 m pc ls rest) rfl (by rw [hb]; exact d0) (Nat.le_refl _) (Nat.le_refl _)
  generalize hT1 : (T.setVm vm₁).pushCell { cls := cX, slots := kX.instanceTypes.map defaultValue, vm := .none } = T1 at X₁ st1
  have hcat : (Value.ref T.heap.size).category = 1 := rfl
  have hcellA : T1.heap[T.heap.size]? = some (freshCell cX kX) := by rw [← hT1]; exact State.heap_pushCell_size _ _
  have d3' : decode c.code (pc + 3) = .ok (.dup, 1) := by rw [hb]; exact d3
  have d4' : decode c.code (pc + 4) = .ok (.ldc_w is, 3) := by rw [hb]; exact d4
  have hstr' : vk_R own is text sa s' := vk_R.warm hW0 hstr
  obtain ⟨U, hsteps, hrun, hend, hW, hsame, ce, hce, hO⟩ := X₁.ctorThrowS hexec htr (own := own) (cls := cls) (names := names) (ic := ic) hown' hcls hnames h (fun x hx => nomatch hx) hfX hkX hcellA (by rw [hhp, hT]; exact Nat.le_refl _) (msg := .ref sa) rfl
    (g := { method := m, pc := pc + 7, locals := ls, stack := .ref sa :: .ref T.heap.size :: .ref T.heap.size :: rest, locked := none }) rfl hsize rfl rfl (rest := rest) rfl
    (by rw [hb]; exact d7) (by rw [hb]; exact d10) hout hRframes (by simp only [List.map_cons, List.sum_cons, hcat]; omega) hlocks
  obtain ⟨f1, f2⟩ := vx_frame hsame
  rw [hhp] at f1 f2
  have hWs : s.WarmedH U.vm := State.WarmedH.trans hW0 hW
  have hcl : s.vm.findClass cls = some ce.cls := by
    have h9 := hO.cls
    rw [hvm] at h9
    exact h9
  have hall : s.sameButNew ({ U with vm := s.vm } : State) locs mc ms := by
    subst hA
    obtain ⟨e1, e2⟩ := hsame
    rw [State.setFrames_setFrames] at e1
    have h2 : (T.setVm s.vm).sameButNew ({ U with vm := s.vm } : State) [] (0 + 1) (0 + 6) := ⟨e1, e2⟩
    have h3 := X.same.trans h2
    rw [List.append_nil] at h3
    exact h3.mono hc hs
  refine ⟨U, ?_, .threw T.heap.size, hrun, hend, Or.inr ⟨T.heap.size, rfl, cls, ce, locs, hx U hWs.alike f1 (fun q hq => f2 q hq (fun z hz => nomatch hz)), hce, hO.vm, hcl, hWs, hall, hf⟩⟩
  refine st1 _ ?_
  show Steps p.tables e below (T1.setTop { method := m, pc := pc + 3, locals := ls, stack := .ref T.heap.size :: rest, locked := none }) _
  jvm_step X₁.here [X₁.here.top, hexec, d3', Value.category]
  exact X₁.ldcStringW hexec (own := own) (text := text) (index := is) (a := sa) hown' hstr'.1 hstr'.2
    (g := { method := m, pc := pc + 4, locals := ls, stack := .ref T.heap.size :: .ref T.heap.size :: rest, locked := none }) rfl d4' _ hsteps
end Ends
section Bodies
variable {l : Launch}
theorem vx_ofW {y : MethodName} {ws ws' : List Cond} {rm : Room} {Pc : Array Value → State → Prop} {Qc : Array Value → State → Outcome → State → Prop} {XC : String → State → State → Prop} {mc ms : Nat} {free : Addr → Prop} {cc : ByteArray} {maxL : Nat} {ret : Option FieldType}
    (hy : plainName y.cls = true) (hw : ws = Cond.code y cc maxL ret :: ws')
    (body : ∀ p e s m args below meth c s₁, BodyLoose p l y (headSpec ws rm) cc maxL ret e s m args below meth c s₁ → c.maxLocals = maxL → (∀ x ∈ c.exceptionTable.toList, False) → Pc args s →
      W p l e (headSpec ws rm).room s m args below meth c s.heap [] 0 0 (vx_MQ below Qc XC args s mc ms free) (entryFrame m args maxL)) : vx_Met l y ws rm Pc Qc XC mc ms free := by
  refine MetFree.of_bodyS (code := cc) (maxLocals := maxL) (ret := ret) hy ?_ ?_
  · intro args s m h hn
    obtain ⟨meth, c, h1, h2, h3, h4, h5, h6, -, -⟩ := Cond.code_spec hn (atoms_spec (ws := ws) h _ (by rw [hw]; exact List.mem_cons_self))
    exact ⟨meth, c, h1, h2, h3, h4, h5, h6⟩
  · intro p e s m args below meth c s₁ B hml hP _
    have hh0 : s₁.heap = s.heap := by rw [B.state]; rfl
    have ht : ∀ x ∈ c.exceptionTable.toList, False := by
      obtain ⟨meth9, c9, h1, h2, -, -, -, -, h7, -⟩ := Cond.code_spec B.named (atoms_spec (ws := ws) B.pre _ (by rw [hw]; exact List.mem_cons_self))
      cases Option.some.inj (h1.symm.trans B.method)
      cases Option.some.inj (h2.symm.trans (Stand.of_body B).code)
      intro x hx
      rw [Array.isEmpty_iff.mp h7] at hx
      cases hx
    obtain ⟨t, a1, o, b1, b2, b3⟩ := body p e s m args below meth c s₁ B hml ht hP s₁ hh0 (Stand.of_body B)
    exact ⟨t, o, a1, b1, b2, b3⟩
/-- the table of a body with handlers -/
theorem vx_table {p : Program} {x y : MethodName} {S : Spec} {cc bytes : ByteArray} {maxL maxL' : Nat} {ret ret' : Option FieldType} {e : Env} {s s₁ : State} {m : MethodId} {args : Array Value} {below : List Frame} {meth : Method} {c : Code} {hh : List (Nat × Nat × Nat × Nat)}
    (B : BodyLoose p l y S cc maxL ret e s m args below meth c s₁) (h : (Cond.codeWith y bytes maxL' ret' hh).before args s = true) : c.exceptionTable.toList = tableOf hh := by
  obtain ⟨m9, meth9, c9, hn9, h1, h2, -, -, h6, -⟩ := Cond.codeWith_spec h
  cases Option.some.inj (hn9.symm.trans B.named)
  cases Option.some.inj (h1.symm.trans B.method)
  cases Option.some.inj (h2.symm.trans (Stand.of_body B).code)
  rw [← h6, table_eq]
end Bodies
end VXA
/-! ===== END ===== -/
/-! ===== BEGIN a static call of a method with an exception table ===== -/
section VXS
variable {p : Program} {l : Launch} {e : Env} {R : Room} {s : State} {m : MethodId} {args : Array Value} {below : List Frame} {meth : Method} {c : Code} {T : State} {H : Heap} {locs : List Loc} {cells slots : Nat}
abbrev vx_CSW (R : Room) (s : State) (args : Array Value) (own : String) (index : Nat) (y : MethodName) (bytes : ByteArray) (maxL : Nat) (ret : Option FieldType) (hh : List (Nat × Nat × Nat × Nat)) (ws : List Cond) (rm : Room) (mc ms n : Nat) : Prop :=
  (rm.cells = mc ∧ rm.slots = ms ∧ rm.frames + 1 ≤ R.frames ∧ 8 + (maxL + 11) + rm.locals ≤ R.locals ∧ (∀ w ∈ ws, ∀ (a' : Array Value) (U : State), s.WarmedH U.vm → w.before a' U = true) ∧ Cond.codeWith y bytes maxL ret hh ∈ ws) ∧
  (Cond.codeWith y bytes maxL ret hh).before args s = true ∧ (Cond.initialized y.cls).before args s = true ∧ (y.cls ≠ "java/lang/invoke/MethodHandle" ∧ y.cls ≠ "java/lang/invoke/VarHandle") ∧
  (∀ sig, parseMethodDescriptor y.desc = some sig → n = sig.parameters.length) ∧ (Cond.methodLink own index y).before args s = true ∧ (Cond.static y).before args s = true
theorem vx_cwSW {own : String} {index maxL mc ms : Nat} {y : MethodName} {bytes : ByteArray} {ret : Option FieldType} {hh : List (Nat × Nat × Nat × Nat)} {Ts ws ws' : List Cond} {rm : Room} (n : Nat) (ht : ∀ w ∈ Ts, w.before args s = true) (hT : GoodIn Ts (va_wsS own index y ws)) (hw : ws = Cond.codeWith y bytes maxL ret hh :: ws') (hrc : rm.cells = mc) (hrs : rm.slots = ms)
    (hd : y.cls ≠ "java/lang/invoke/MethodHandle" ∧ y.cls ≠ "java/lang/invoke/VarHandle" ∧ (parseMethodDescriptor y.desc).map (fun d => d.parameters.length) = some n) (hR : rm.frames + 1 ≤ R.frames ∧ 8 + (maxL + 11) + rm.locals ≤ R.locals) :
    vx_CSW R s args own index y bytes maxL ret hh ws rm mc ms n := by
  have ok : ∀ w ∈ va_wsS own index y ws, w.before args s = true := fun w h => ht w (hT w h).1
  have hG : GoodIn Ts ws := fun w h => hT w (by unfold va_wsS; exact List.mem_append_right _ h)
  have hc : Cond.codeWith y bytes maxL ret hh ∈ ws := by rw [hw]; exact List.mem_cons_self
  refine ⟨⟨hrc, hrs, hR.1, hR.2, pay_in ht hG, hc⟩, ht _ (hG _ hc).1, ok _ (by simp [va_wsS]), ⟨hd.1, hd.2.1⟩, fun sig h => ?_, ok _ (by simp [va_wsS]), ok _ (by simp [va_wsS])⟩
  have h2 := hd.2.2
  rw [h] at h2
  exact (Option.some.inj h2).symm
theorem vx_callSW (X : Stand p l e R s m args below meth c T locs cells slots) (hexec : p.tables.exec = Jvm.exec) {own : String} {index : Nat} {y : MethodName} {bytes : ByteArray} {maxL : Nat} {ret : Option FieldType} {hh : List (Nat × Nat × Nat × Nat)}
    (hown : s.vm.findClass own = some m.cls) (hlink : (Cond.methodLink own index y).before args s = true) (hstat : (Cond.static y).before args s = true) (hinit : (Cond.initialized y.cls).before args s = true)
    (hcode : (Cond.codeWith y bytes maxL ret hh).before args s = true) (hy : y.cls ≠ "java/lang/invoke/MethodHandle" ∧ y.cls ≠ "java/lang/invoke/VarHandle")
    {W9 : Nat} {Pre : Pt → Array Value → Prop} {Post : Pt → Array Value → Option Value → Pt → Prop} (hK : Back l R p e below s args y 3 W9 Pre Post)
    {g : JFrame} (hg : g.method = m) (hsize : g.locals.size = c.maxLocals) {argsL rest : List Value} (hlen : ∀ sig, parseMethodDescriptor y.desc = some sig → argsL.length = sig.parameters.length)
    (hstack : g.stack = argsL.reverse ++ rest) (hW : 2 * g.monitorRoom + (rest.map fun v => v.category).sum ≤ W9) (hdg : decode c.code g.pc = .ok (.invokestatic index, 3))
    (hpre : ∀ vm₁, s.WarmedH vm₁ → Pre ⟨T.setVm vm₁, locs, cells, slots⟩ argsL.toArray) :
    ∃ (v : Option Value) (vm₁ : Vm) (B : Pt), s.WarmedH vm₁ ∧ Stand p l e R s m args below meth c B.U B.locs B.cells B.slots ∧ Post ⟨T.setVm vm₁, locs, cells, slots⟩ argsL.toArray v B ∧
      ∀ target, Steps p.tables e below (B.U.setTop { g with pc := g.pc + 3, stack := v.toList ++ rest }) target → Steps p.tables e below (T.setTop g) target := by
  obtain ⟨mk, methM, cM, hnamed, hmethM, -, -, -, -, -, -, hsigM⟩ := Cond.codeWith_spec hcode
  have hstatic : methM.isStatic = true := Cond.static_spec hnamed hmethM hstat
  obtain ⟨kP, hkP, -⟩ := className_of_methodNamed hnamed
  have hinitP : kP.init = .initialized := Cond.initialized_spec (findClass_of_methodNamed hnamed) hkP hinit
  obtain ⟨vm₁, X₁, hstep₁⟩ := X.invokestatic hexec hown hlink hnamed hmethM hstatic hkP hinitP hy (g := g) hg (argsL := argsL) (rest := rest) (hlen _ hsigM) hstack hdg
  obtain ⟨v, B, X', hpost, hsteps⟩ := hK m meth c ⟨T.setVm vm₁, locs, cells, slots⟩ { g with stack := rest } (.invokestatic index) mk argsL.toArray X₁ hg hsize hdg hW (X₁.named hnamed) (hpre vm₁ X₁.warmed)
  exact ⟨v, vm₁, B, X₁.warmed, X', hpost, fun target h => hstep₁ _ fun acts => by rw [doInvoke_state]; exact hsteps.trans h⟩
theorem vx_runSW {y : MethodName} {bytes cc : ByteArray} {maxL nL mc ms n index : Nat} {ret : Option FieldType} {hh : List (Nat × Nat × Nat × Nat)} {ws : List Cond} {rm : Room} {Pc : Array Value → State → Prop} {Qc : Array Value → State → Outcome → State → Prop} {free : Addr → Prop} {Ts : List Cond} {own : String} {As rest : List Value} {g : JFrame}
    (S : CallFix p m c cc nL s args Ts own) (hM : Met l y ws rm Pc Qc mc ms free) (cw : vx_CSW R s args own index y bytes maxL ret hh ws rm mc ms n) (hp : PreS s H Pc As)
    (hg : g.method = m) (hn : As.length = n) (hsize : g.locals.size = nL) (hstack : g.stack = As.reverse ++ rest) (hW : 2 * g.monitorRoom + (rest.map fun v => v.category).sum ≤ 8) (hdg : decode cc g.pc = .ok (.invokestatic index, 3)) (hf : cells + mc ≤ R.cells ∧ slots + ms ≤ R.slots) :
    va_Run p l e R s m args below meth c H locs cells slots mc ms g rest (Qc As.toArray) (free) := by
  obtain ⟨⟨hrc, hrs, hfr, hlo, hws, hcw⟩, hcode, hini, hy, hlen, hl, hstt⟩ := cw
  have hK : Back l R p e below s args y 3 8 (PreOf R mc ms Pc) (PostOf Qc mc ms free) := va_backW (hh := hh) (bytes := bytes) (maxL := maxL) (ret := ret) hM hp.1 hrc hrs hfr hlo hws hcw (fun a' U hW => word_at hW (Or.inl (by first | rfl | simp [Cond.onTables, Cond.keeps, Cond.steady])) hini)
  obtain ⟨hx, hb, hml, ho, -⟩ := S
  intro T hT X
  obtain ⟨v, vm₁, ⟨U', l2, c2, s2⟩, hW₁, X', ⟨g', mk, t, L, e1, e2, hq, h1, hL, h2, h3⟩, st⟩ := vx_callSW X hx (hh := hh) (bytes := bytes) (maxL := maxL) (ret := ret) ho hl hstt hini hcode hy hK hg (hsize.trans hml.symm) (argsL := As) (rest := rest) (fun sig h => hn.trans (hlen sig h)) hstack hW (by rw [hb]; exact hdg)
    (fun vm₁ hW₁ => ⟨hf.1, hf.2, hp.2 (T.setVm vm₁) hT hW₁⟩)
  dsimp only [Pt.U, Pt.locs, Pt.cells, Pt.slots] at X' e1 e2 h1 h2 h3 st
  subst h1; subst h2; subst h3
  exact ⟨v, (T.setVm vm₁).calling g' mk As.toArray, t, U', L, hT, X', hL, e1, e2, hq, st⟩
/-- not caught here, past rows that name other classes: it goes on to the caller -/
theorem vx_outP {p : Program} {l : Launch} {e : Env} {R : Room} {s : State} {m : MethodId} {args : Array Value} {below : List Frame} {meth : Method} {c : Code} {H : Heap} {locs : List Loc} {cells slots : Nat} {free : Addr → Prop} {ls : Array Slot} {rest : List Value} {Qc : Array Value → State → Outcome → State → Prop} {XC : String → State → State → Prop}
    {pc : Nat} {own E : String} {ce : Cell} {q : Addr} {mc ms : Nat} (hown : s.vm.findClass own = some m.cls) (hlocks : meth.locks = false)
    (hpass : ∀ z ∈ c.exceptionTable.toList, covers z pc = false ∨ (z.catchType ≠ 0 ∧ ∃ nm : String, (Cond.classLink own z.catchType nm).before args s = true ∧ va_Nc E nm s)) (hcell : H[q]? = some ce) (hv : ce.vm = .none) (hcl : s.vm.findClass E = some ce.cls)
    (hx : ∀ t : State, t.heap = H → s.vm.Alike t.vm → XC E s t) (hf : ∀ z ∈ locs, free z.base) (hc : cells ≤ mc) (hs : slots ≤ ms) :
    vx_W p l e R s m args below meth c H locs cells slots (vx_MQ below Qc XC args s mc ms free) (F0 m pc ls rest) q := by
  intro T hT X
  have hpl : e.platform.magicAccessors = ({} : Platform).magicAccessors := by rw [X.admits.platform]
  obtain ⟨vm', hW', X', st⟩ := X.outThrough hlocks q (g := F0 m pc ls rest) rfl rfl rfl (cell := ce) (by rw [hT]; exact hcell) (by rw [hv]; rfl)
    (by obtain ⟨k9, h9, -⟩ := Vm.findClass_spec hcl; exact ⟨k9, h9⟩) (fun z hz => by
      rcases hpass z hz with h | ⟨hz0, nm, hl1, hn1⟩
      · exact Or.inl h
      · obtain ⟨c6, hc6, hcl6⟩ := Cond.classLink_spec hown hl1 e.platform hpl
        obtain ⟨a8, b8, h1, h2, h3⟩ := hn1
        cases Option.some.inj (h1.symm.trans hcl)
        cases Option.some.inj (h2.symm.trans hc6)
        exact Or.inr ⟨hz0, _, hcl6, h3⟩)
  obtain ⟨g₀, hfr⟩ := X'.frames_eq
  have hcell9 : ((T.setVm vm').setFrames (.throwing q :: below)).heap[q]? = some ce := by
    show T.heap[q]? = some ce
    rw [hT]; exact hcell
  have hend : Ended ((T.setVm vm').setFrames (.throwing q :: below)) below (.threw q) := State.frames_setFrames _ (State.cur_lt_of_frames hfr)
  refine ⟨(T.setVm vm').setFrames (.throwing q :: below), ?_, .threw q, X'.here.running, hend, Or.inr ⟨q, rfl, E, ce, locs, hx _ hT (X'.ends _).1.alike, hcell9, hv, hcl, (X'.ends _).1, (X'.ends _).2.mono hc hs, hf⟩⟩
  rw [X.pushThrowing_eq]
  exact st
/-- a thing of a world lies in the heap -/
theorem vx_lt {D : va_G} {cl : List vw_C} {ws : va_W} {H1 : Heap} (h : va_P D cl ws H1) {k : Nat} {q : Nat × va_E} (hk : ws[k]? = some q) : q.1 < H1.size := (h k q hk).lt
end VXS
/-! ===== END ===== -/
/-! ===== BEGIN methods with a table of their own: called by a name, returning or throwing ===== -/
section VXH
/-! vx_backW, vx_callVX, vx_callSX, vx_callVW, vx_runVW, vx_runVX, vx_runSX, vx_ofWH follow the same proofs as their sisters above (Free/Laws.lean, Shelf42/LK1.lean); vx_outP calls Shelf42/NT130.lean (outThrough). -/
section
variable {l : Launch} {R : Room} {p : Program} {e : Env} {below : List Frame} {s : State} {sargs : Array Value} {y : MethodName} {len W9 : Nat}
theorem vx_backW {ws : List Cond} {rm : Room} {Pc : Array Value → State → Prop} {Qc : Array Value → State → Outcome → State → Prop} {XC : String → State → State → Prop} {mc ms : Nat} {free : Addr → Prop} {bytes : ByteArray} {maxL : Nat} {ret : Option FieldType} {hh : List (Nat × Nat × Nat × Nat)}
    (hM : vx_Met l y ws rm Pc Qc XC mc ms free) (hblind : FrameBlind Pc) (hrc : rm.cells = mc) (hrs : rm.slots = ms)
    (hframes : rm.frames + 1 ≤ R.frames) (hlocals : W9 + (maxL + 11) + rm.locals ≤ R.locals)
    (hws : ∀ w ∈ ws, ∀ a' U, s.WarmedH U.vm → w.before a' U = true) (hcode : Cond.codeWith y bytes maxL ret hh ∈ ws) (hinit : ∀ a' U, s.WarmedH U.vm → (Cond.initialized y.cls).before a' U = true) :
    vx_Back l R p e below s sargs y len W9 (PreOf R mc ms Pc) (PostOf Qc mc ms free) (vx_Post XC mc ms free) := by
  intro m meth c A g ig mk a X hg hsize hdg hW hn hp
  have h1 : (headSpec ws rm).pre.before a A.U = true := atoms_intro fun w hw => hws w hw _ _ X.warmed
  have h2 : (Cond.codeWith y bytes maxL ret hh).before a A.U = true := hws _ hcode _ _ X.warmed
  have h3 : (Cond.initialized y.cls).before a A.U = true := hinit _ _ X.warmed
  have h4 : A.cells + (headSpec ws rm).room.cells ≤ R.cells := by rw [show (headSpec ws rm).room.cells = mc from hrc]; exact hp.1
  have h5 : A.slots + (headSpec ws rm).room.slots ≤ R.slots := by rw [show (headSpec ws rm).room.slots = ms from hrs]; exact hp.2.1
  have hPc : Pc a (A.U.calling g mk a) := hblind _ _ _ _ hp.2.2
  obtain ⟨U, Ls, c0, s0⟩ := A
  dsimp only [Pt.U, Pt.locs, Pt.cells, Pt.slots] at h1 h2 h3 h4 h5 X hn hPc ⊢
  obtain ⟨m9, methY, cY, hn9, hmY, hcY, -, hlY, -⟩ := Cond.codeWith_spec h2
  cases Option.some.inj (hn9.symm.trans hn)
  obtain ⟨kY, hkY, -⟩ := className_of_methodNamed hn
  have hinitY : kY.init = .initialized := Cond.initialized_spec (findClass_of_methodNamed hn) hkY h3
  have h : At U g.method c below := by rw [hg]; exact X.here
  have hlocals9 : W9 + (maxL + 11) + (headSpec ws rm).room.locals ≤ R.locals := hlocals
  have happ : (headSpec ws rm).appliesLoose y e.platform (U.calling g mk a) = true :=
    Spec.appliesLoose_calling (g := g) h hdg hn hkY hinitY
      (X.room_calling (g := g) (R' := (headSpec ws rm).room) hsize hmY hcY hframes (by rw [hlY]; omega) h4 h5) h1
  obtain ⟨mid, hmid⟩ := h.above
  have hfr : (U.setTop g).frames = (.java g :: mid) ++ below := by rw [State.frames_setTop' g h.top, hmid]; rfl
  obtain ⟨o, s₂, hsteps, -, hend, hq⟩ := Steps.callFree hM p X.admits X.cas X.clock (acts := []) hfr happ hPc trivial
  have hq' : vx_Q Qc XC mc ms free a (U.calling g mk a) o s₂ := hq
  rw [State.frames_setTop' g h.top] at hend
  obtain ⟨g₀, hg0⟩ := Option.isSome_iff_exists.mp h.top
  obtain ⟨r, hr⟩ := State.topJava?_eq_some.mp hg0
  have hr' : (({ U with heap := s₂.heap, slotsUsed := s₂.slotsUsed } : State).setVm s₂.vm).frames = .java g₀ :: r := hr
  rcases hq' with ⟨hqc, L, hfe, hL⟩ | ⟨q, rfl, E, ce, L, hx, hce, hcv, hcl, hW₂, hsm, hL⟩
  · obtain ⟨⟨v, rfl⟩, hW₂, e2, q2, q3, q4, q5, q6⟩ := id hfe
    have e3 : s₂ = ({ (U.calling g mk a).setFrames s₂.frames with heap := s₂.heap, slotsUsed := s₂.slotsUsed } : State).setVm s₂.vm := by
      have : s₂ = ({ s₂ with vm := (U.calling g mk a).vm } : State).setVm s₂.vm := rfl
      rw [e2] at this
      exact this
    obtain ⟨c₂, i₂, len₂, hc₂, hd₂, hf₂⟩ := hend
    have hW' : U.WarmedH s₂.vm := hW₂
    have hcc : c₂ = c := by
      have h1 : s₂.code? g.method = U.code? g.method := by
        rw [State.code?_eq, State.code?_eq, hW'.alike.method?]
      exact Option.some.inj (hc₂.symm.trans (h1.trans h.code))
    subst hcc
    have hlen : len₂ = len := by rw [hdg] at hd₂; cases hd₂; rfl
    subst hlen
    have hs₂ : s₂ = (({ U with heap := s₂.heap, slotsUsed := s₂.slotsUsed } : State).setVm s₂.vm).setTop { g with pc := g.pc + len₂, stack := v.toList ++ g.stack } := by
      refine e3.trans ?_
      rw [hf₂, State.calling_eq h.top, State.setFrames_setFrames, State.setTop_of_frames _ hr', hr]
      rfl
    have hsame : U.sameButNew ({ U with heap := s₂.heap, slotsUsed := s₂.slotsUsed } : State) L mc ms := by
      refine ⟨?_, q2, q3, q4, q5, q6⟩
      obtain ⟨t, ht, -⟩ := State.frames_cons hr
      show ({ U with heap := s₂.heap, slotsUsed := s₂.slotsUsed } : State) = { U.setFrames U.frames with heap := s₂.heap, slotsUsed := s₂.slotsUsed }
      rw [State.setFrames_self ht]
    subst hg
    refine Or.inl ⟨v, ⟨(({ U with heap := s₂.heap, slotsUsed := s₂.slotsUsed } : State).setVm s₂.vm), Ls ++ L, c0 + mc, s0 + ms⟩,
      ⟨X.admits, X.cas, X.clock, X.frames, X.room, X.hears, X.method, X.code, (X.here.setHeapUsed s₂.heap s₂.slotsUsed).setVm hW'.alike, X.tail, State.WarmedH.trans X.warmed hW', X.limits, X.bytes, X.same.trans (hsame.setVm s.vm)⟩,
      ⟨g, mk, s₂, L, rfl, rfl, hqc, rfl, hL, rfl, rfl⟩, ?_⟩
    show Steps p.tables e below _ ((({ U with heap := s₂.heap, slotsUsed := s₂.slotsUsed } : State).setVm s₂.vm).setTop { g with pc := g.pc + len₂, stack := v.toList ++ g.stack })
    rw [← hs₂]
    exact hsteps
  · obtain ⟨e2, q2, q3, q4, q5, q6⟩ := id hsm
    have e3 : s₂ = ({ (U.calling g mk a).setFrames s₂.frames with heap := s₂.heap, slotsUsed := s₂.slotsUsed } : State).setVm s₂.vm := by
      have : s₂ = ({ s₂ with vm := (U.calling g mk a).vm } : State).setVm s₂.vm := rfl
      rw [e2] at this
      exact this
    have hf₂ : s₂.frames = .throwing q :: .java g :: U.frames.tail := hend
    have hW' : U.WarmedH s₂.vm := hW₂
    have hs₂ : s₂ = ((({ U with heap := s₂.heap, slotsUsed := s₂.slotsUsed } : State).setVm s₂.vm).setTop g).pushFrame (.throwing q) := by
      refine e3.trans ?_
      rw [hf₂, State.calling_eq h.top, State.setFrames_setFrames, State.pushFrame, State.frames_setTop _ hr', State.setTop_of_frames _ hr', State.setFrames_setFrames, hr]
      rfl
    have hsame : U.sameButNew ({ U with heap := s₂.heap, slotsUsed := s₂.slotsUsed } : State) L mc ms := by
      refine ⟨?_, q2, q3, q4, q5, q6⟩
      obtain ⟨t, ht, -⟩ := State.frames_cons hr
      show ({ U with heap := s₂.heap, slotsUsed := s₂.slotsUsed } : State) = { U.setFrames U.frames with heap := s₂.heap, slotsUsed := s₂.slotsUsed }
      rw [State.setFrames_self ht]
    subst hg
    refine Or.inr ⟨q, ⟨(({ U with heap := s₂.heap, slotsUsed := s₂.slotsUsed } : State).setVm s₂.vm), Ls ++ L, c0 + mc, s0 + ms⟩,
      ⟨X.admits, X.cas, X.clock, X.frames, X.room, X.hears, X.method, X.code, (X.here.setHeapUsed s₂.heap s₂.slotsUsed).setVm hW'.alike, X.tail, State.WarmedH.trans X.warmed hW', X.limits, X.bytes, X.same.trans (hsame.setVm s.vm)⟩,
      ⟨g, mk, s₂, L, E, ce, rfl, rfl, hx, hce, hcv, hcl, rfl, hL, rfl, rfl⟩, ?_⟩
    show Steps p.tables e below _ (((({ U with heap := s₂.heap, slotsUsed := s₂.slotsUsed } : State).setVm s₂.vm).setTop g).pushFrame (.throwing q))
    rw [← hs₂]
    exact hsteps
end
variable {p : Program} {l : Launch} {e : Env} {R : Room} {s : State} {m : MethodId} {args : Array Value} {below : List Frame} {meth : Method} {c : Code} {T : State} {H : Heap} {locs : List Loc} {cells slots : Nat}
theorem vx_callVX (X : Stand p l e R s m args below meth c T locs cells slots) (hexec : p.tables.exec = Jvm.exec) {own C : String} {index : Nat} {y : MethodName} {bytes : ByteArray} {maxL : Nat} {ret : Option FieldType} {hh : List (Nat × Nat × Nat × Nat)}
    (hown : s.vm.findClass own = some m.cls) (hlink : (Cond.methodLink own index y).before args s = true) (hinst : (Cond.instanceMethod y).before args s = true) (hsel : (Cond.selects C y y).before args s = true)
    (hcode : (Cond.codeWith y bytes maxL ret hh).before args s = true) (hy : y.cls ≠ "java/lang/invoke/MethodHandle" ∧ y.cls ≠ "java/lang/invoke/VarHandle")
    {W9 : Nat} {Pre : Pt → Array Value → Prop} {Post : Pt → Array Value → Option Value → Pt → Prop} {PostX : Pt → Array Value → Addr → Pt → Prop} (hK : vx_Back l R p e below s args y 3 W9 Pre Post PostX)
    {b : Addr} {cellB : Cell} (hcell : T.heap[b]? = some cellB) (hobj : cellB.vm.isStatics = false) (hcls : s.vm.findClass C = some cellB.cls)
    {g : JFrame} (hg : g.method = m) (hsize : g.locals.size = c.maxLocals) {argsL rest : List Value} (hlen : ∀ sig, parseMethodDescriptor y.desc = some sig → argsL.length = sig.parameters.length)
    (hstack : g.stack = argsL.reverse ++ .ref b :: rest) (hW : 2 * g.monitorRoom + (rest.map fun v => v.category).sum ≤ W9) (hdg : decode c.code g.pc = .ok (.invokevirtual index, 3))
    (hpre : ∀ vm₁, s.WarmedH vm₁ → Pre ⟨T.setVm vm₁, locs, cells, slots⟩ (Value.ref b :: argsL).toArray) :
    (∃ (v : Option Value) (vm₁ : Vm) (B : Pt), s.WarmedH vm₁ ∧ Stand p l e R s m args below meth c B.U B.locs B.cells B.slots ∧ Post ⟨T.setVm vm₁, locs, cells, slots⟩ (Value.ref b :: argsL).toArray v B ∧
      ∀ target, Steps p.tables e below (B.U.setTop { g with pc := g.pc + 3, stack := v.toList ++ rest }) target → Steps p.tables e below (T.setTop g) target) ∨
    (∃ (q : Addr) (vm₁ : Vm) (B : Pt), s.WarmedH vm₁ ∧ Stand p l e R s m args below meth c B.U B.locs B.cells B.slots ∧ PostX ⟨T.setVm vm₁, locs, cells, slots⟩ (Value.ref b :: argsL).toArray q B ∧
      Steps p.tables e below (T.setTop g) ((B.U.setTop { g with stack := rest }).pushFrame (.throwing q))) := by
  obtain ⟨mk, methM, hnamed, hmethM, hstM, habM⟩ := Cond.instanceMethod_spec hinst
  obtain ⟨m8, methM', cM, hn8, hmethM', -, -, -, -, -, -, hsigM⟩ := Cond.codeWith_spec hcode
  cases Option.some.inj (hn8.symm.trans hnamed)
  cases hmethM.symm.trans hmethM'
  obtain ⟨c2, r2, m2, q1, q2, q3, q4, kP, hkP, hkPi⟩ := Cond.selects_spec hsel
  cases hcls.symm.trans q1
  cases (State.methodFound?_of_named hnamed hy).symm.trans q2
  cases hnamed.symm.trans q3
  have hselP : selectMethod e.platform s.vm cellB.cls mk = .method mk := by rw [Launch.admits_selectMethod X.admits]; exact q4
  obtain ⟨vm₁, X₁, hstep₁⟩ := X.invokevirtual hexec hown hlink hnamed hmethM hstM hkP hkPi hy (a := b) (cell := cellB) hcell
    (fun z h => by rw [h] at hobj; cases hobj) hselP hmethM habM hkP hkPi (g := g) hg (argsL := argsL) (rest := rest) (hlen _ hsigM) hstack hdg
  rcases hK m meth c ⟨T.setVm vm₁, locs, cells, slots⟩ { g with stack := rest } (.invokevirtual index) mk (Value.ref b :: argsL).toArray X₁ hg hsize hdg hW (X₁.named hnamed) (hpre vm₁ X₁.warmed) with ⟨v, B, X', hpost, hsteps⟩ | ⟨q, B, X', hpost, hsteps⟩
  · exact Or.inl ⟨v, vm₁, B, X₁.warmed, X', hpost, fun target h => hstep₁ _ fun acts => by rw [doInvoke_state]; exact hsteps.trans h⟩
  · exact Or.inr ⟨q, vm₁, B, X₁.warmed, X', hpost, hstep₁ _ fun acts => by rw [doInvoke_state]; exact hsteps⟩
theorem vx_callSX (X : Stand p l e R s m args below meth c T locs cells slots) (hexec : p.tables.exec = Jvm.exec) {own : String} {index : Nat} {y : MethodName} {bytes : ByteArray} {maxL : Nat} {ret : Option FieldType} {hh : List (Nat × Nat × Nat × Nat)}
    (hown : s.vm.findClass own = some m.cls) (hlink : (Cond.methodLink own index y).before args s = true) (hstat : (Cond.static y).before args s = true) (hinit : (Cond.initialized y.cls).before args s = true)
    (hcode : (Cond.codeWith y bytes maxL ret hh).before args s = true) (hy : y.cls ≠ "java/lang/invoke/MethodHandle" ∧ y.cls ≠ "java/lang/invoke/VarHandle")
    {W9 : Nat} {Pre : Pt → Array Value → Prop} {Post : Pt → Array Value → Option Value → Pt → Prop} {PostX : Pt → Array Value → Addr → Pt → Prop} (hK : vx_Back l R p e below s args y 3 W9 Pre Post PostX)
    {g : JFrame} (hg : g.method = m) (hsize : g.locals.size = c.maxLocals) {argsL rest : List Value} (hlen : ∀ sig, parseMethodDescriptor y.desc = some sig → argsL.length = sig.parameters.length)
    (hstack : g.stack = argsL.reverse ++ rest) (hW : 2 * g.monitorRoom + (rest.map fun v => v.category).sum ≤ W9) (hdg : decode c.code g.pc = .ok (.invokestatic index, 3))
    (hpre : ∀ vm₁, s.WarmedH vm₁ → Pre ⟨T.setVm vm₁, locs, cells, slots⟩ argsL.toArray) :
    (∃ (v : Option Value) (vm₁ : Vm) (B : Pt), s.WarmedH vm₁ ∧ Stand p l e R s m args below meth c B.U B.locs B.cells B.slots ∧ Post ⟨T.setVm vm₁, locs, cells, slots⟩ argsL.toArray v B ∧
      ∀ target, Steps p.tables e below (B.U.setTop { g with pc := g.pc + 3, stack := v.toList ++ rest }) target → Steps p.tables e below (T.setTop g) target) ∨
    (∃ (q : Addr) (vm₁ : Vm) (B : Pt), s.WarmedH vm₁ ∧ Stand p l e R s m args below meth c B.U B.locs B.cells B.slots ∧ PostX ⟨T.setVm vm₁, locs, cells, slots⟩ argsL.toArray q B ∧
      Steps p.tables e below (T.setTop g) ((B.U.setTop { g with stack := rest }).pushFrame (.throwing q))) := by
  obtain ⟨mk, methM, cM, hnamed, hmethM, -, -, -, -, -, -, hsigM⟩ := Cond.codeWith_spec hcode
  have hstatic : methM.isStatic = true := Cond.static_spec hnamed hmethM hstat
  obtain ⟨kP, hkP, -⟩ := className_of_methodNamed hnamed
  have hinitP : kP.init = .initialized := Cond.initialized_spec (findClass_of_methodNamed hnamed) hkP hinit
  obtain ⟨vm₁, X₁, hstep₁⟩ := X.invokestatic hexec hown hlink hnamed hmethM hstatic hkP hinitP hy (g := g) hg (argsL := argsL) (rest := rest) (hlen _ hsigM) hstack hdg
  rcases hK m meth c ⟨T.setVm vm₁, locs, cells, slots⟩ { g with stack := rest } (.invokestatic index) mk argsL.toArray X₁ hg hsize hdg hW (X₁.named hnamed) (hpre vm₁ X₁.warmed) with ⟨v, B, X', hpost, hsteps⟩ | ⟨q, B, X', hpost, hsteps⟩
  · exact Or.inl ⟨v, vm₁, B, X₁.warmed, X', hpost, fun target h => hstep₁ _ fun acts => by rw [doInvoke_state]; exact hsteps.trans h⟩
  · exact Or.inr ⟨q, vm₁, B, X₁.warmed, X', hpost, hstep₁ _ fun acts => by rw [doInvoke_state]; exact hsteps⟩
theorem vx_callVW (X : Stand p l e R s m args below meth c T locs cells slots) (hexec : p.tables.exec = Jvm.exec) {own C : String} {index : Nat} {y : MethodName} {bytes : ByteArray} {maxL : Nat} {ret : Option FieldType} {hh : List (Nat × Nat × Nat × Nat)}
    (hown : s.vm.findClass own = some m.cls) (hlink : (Cond.methodLink own index y).before args s = true) (hinst : (Cond.instanceMethod y).before args s = true) (hsel : (Cond.selects C y y).before args s = true)
    (hcode : (Cond.codeWith y bytes maxL ret hh).before args s = true) (hy : y.cls ≠ "java/lang/invoke/MethodHandle" ∧ y.cls ≠ "java/lang/invoke/VarHandle")
    {W9 : Nat} {Pre : Pt → Array Value → Prop} {Post : Pt → Array Value → Option Value → Pt → Prop} (hK : Back l R p e below s args y 3 W9 Pre Post)
    {b : Addr} {cellB : Cell} (hcell : T.heap[b]? = some cellB) (hobj : cellB.vm.isStatics = false) (hcls : s.vm.findClass C = some cellB.cls)
    {g : JFrame} (hg : g.method = m) (hsize : g.locals.size = c.maxLocals) {argsL rest : List Value} (hlen : ∀ sig, parseMethodDescriptor y.desc = some sig → argsL.length = sig.parameters.length)
    (hstack : g.stack = argsL.reverse ++ .ref b :: rest) (hW : 2 * g.monitorRoom + (rest.map fun v => v.category).sum ≤ W9) (hdg : decode c.code g.pc = .ok (.invokevirtual index, 3))
    (hpre : ∀ vm₁, s.WarmedH vm₁ → Pre ⟨T.setVm vm₁, locs, cells, slots⟩ (Value.ref b :: argsL).toArray) :
    ∃ (v : Option Value) (vm₁ : Vm) (B : Pt), s.WarmedH vm₁ ∧ Stand p l e R s m args below meth c B.U B.locs B.cells B.slots ∧ Post ⟨T.setVm vm₁, locs, cells, slots⟩ (Value.ref b :: argsL).toArray v B ∧
      ∀ target, Steps p.tables e below (B.U.setTop { g with pc := g.pc + 3, stack := v.toList ++ rest }) target → Steps p.tables e below (T.setTop g) target := by
  obtain ⟨mk, methM, hnamed, hmethM, hstM, habM⟩ := Cond.instanceMethod_spec hinst
  obtain ⟨m8, methM', cM, hn8, hmethM', -, -, -, -, -, -, hsigM⟩ := Cond.codeWith_spec hcode
  cases Option.some.inj (hn8.symm.trans hnamed)
  cases hmethM.symm.trans hmethM'
  obtain ⟨c2, r2, m2, q1, q2, q3, q4, kP, hkP, hkPi⟩ := Cond.selects_spec hsel
  cases hcls.symm.trans q1
  cases (State.methodFound?_of_named hnamed hy).symm.trans q2
  cases hnamed.symm.trans q3
  have hselP : selectMethod e.platform s.vm cellB.cls mk = .method mk := by rw [Launch.admits_selectMethod X.admits]; exact q4
  obtain ⟨vm₁, X₁, hstep₁⟩ := X.invokevirtual hexec hown hlink hnamed hmethM hstM hkP hkPi hy (a := b) (cell := cellB) hcell
    (fun z h => by rw [h] at hobj; cases hobj) hselP hmethM habM hkP hkPi (g := g) hg (argsL := argsL) (rest := rest) (hlen _ hsigM) hstack hdg
  obtain ⟨v, B, X', hpost, hsteps⟩ := hK m meth c ⟨T.setVm vm₁, locs, cells, slots⟩ { g with stack := rest } (.invokevirtual index) mk (Value.ref b :: argsL).toArray X₁ hg hsize hdg hW (X₁.named hnamed) (hpre vm₁ X₁.warmed)
  exact ⟨v, vm₁, B, X₁.warmed, X', hpost, fun target h => hstep₁ _ fun acts => by rw [doInvoke_state]; exact hsteps.trans h⟩
abbrev vx_CVW (R : Room) (s : State) (args : Array Value) (own C : String) (index : Nat) (y : MethodName) (bytes : ByteArray) (maxL : Nat) (ret : Option FieldType) (hh : List (Nat × Nat × Nat × Nat)) (ws : List Cond) (rm : Room) (mc ms n : Nat) : Prop :=
  (rm.cells = mc ∧ rm.slots = ms ∧ rm.frames + 1 ≤ R.frames ∧ 8 + (maxL + 11) + rm.locals ≤ R.locals ∧ (∀ w ∈ ws, ∀ (a' : Array Value) (U : State), s.WarmedH U.vm → w.before a' U = true) ∧ Cond.codeWith y bytes maxL ret hh ∈ ws) ∧
  (Cond.codeWith y bytes maxL ret hh).before args s = true ∧ (Cond.initialized y.cls).before args s = true ∧ (y.cls ≠ "java/lang/invoke/MethodHandle" ∧ y.cls ≠ "java/lang/invoke/VarHandle") ∧
  (∀ sig, parseMethodDescriptor y.desc = some sig → n = sig.parameters.length) ∧ (Cond.methodLink own index y).before args s = true ∧ (Cond.instanceMethod y).before args s = true ∧ (Cond.selects C y y).before args s = true
theorem vx_cwVW {own C : String} {index maxL mc ms : Nat} {y : MethodName} {bytes : ByteArray} {ret : Option FieldType} {hh : List (Nat × Nat × Nat × Nat)} {Ts ws ws' : List Cond} {rm : Room} (n : Nat) (ht : ∀ w ∈ Ts, w.before args s = true) (hT : GoodIn Ts (wsV own index C y ws)) (hw : ws = Cond.codeWith y bytes maxL ret hh :: ws') (hrc : rm.cells = mc) (hrs : rm.slots = ms)
    (hd : y.cls = C ∧ y.cls ≠ "java/lang/invoke/MethodHandle" ∧ y.cls ≠ "java/lang/invoke/VarHandle" ∧ (parseMethodDescriptor y.desc).map (fun d => d.parameters.length) = some n) (hR : rm.frames + 1 ≤ R.frames ∧ 8 + (maxL + 11) + rm.locals ≤ R.locals) :
    vx_CVW R s args own C index y bytes maxL ret hh ws rm mc ms n := by
  obtain ⟨hC, hd⟩ := hd
  subst hC
  have ok : ∀ w ∈ wsV own index y.cls y ws, w.before args s = true := fun w h => ht w (hT w h).1
  have hG : GoodIn Ts ws := fun w h => hT w (by unfold wsV; exact List.mem_append_right _ h)
  have hc : Cond.codeWith y bytes maxL ret hh ∈ ws := by rw [hw]; exact List.mem_cons_self
  refine ⟨⟨hrc, hrs, hR.1, hR.2, pay_in ht hG, hc⟩, ht _ (hG _ hc).1, ok _ (by simp [wsV]), ⟨hd.1, hd.2.1⟩, fun sig h => ?_, ok _ (by simp [wsV]), ok _ (by simp [wsV]), ok _ (by simp [wsV])⟩
  have h2 := hd.2.2
  rw [h] at h2
  exact (Option.some.inj h2).symm
theorem vx_runVW {y : MethodName} {bytes cc : ByteArray} {maxL nL mc ms n index : Nat} {ret : Option FieldType} {hh : List (Nat × Nat × Nat × Nat)} {ws : List Cond} {rm : Room} {Pc : Array Value → State → Prop} {Qc : Array Value → State → Outcome → State → Prop} {free : Addr → Prop} {Ts : List Cond} {own C : String} {b : Addr} {As rest : List Value} {g : JFrame}
    (S : CallFix p m c cc nL s args Ts own) (hM : Met l y ws rm Pc Qc mc ms free) (cw : vx_CVW R s args own C index y bytes maxL ret hh ws rm mc ms n) (hp : PreV s H C b Pc As)
    (hg : g.method = m) (hn : As.length = n) (hsize : g.locals.size = nL) (hstack : g.stack = As.reverse ++ .ref b :: rest) (hW : 2 * g.monitorRoom + (rest.map fun v => v.category).sum ≤ 8) (hdg : decode cc g.pc = .ok (.invokevirtual index, 3)) (hf : cells + mc ≤ R.cells ∧ slots + ms ≤ R.slots) :
    va_Run p l e R s m args below meth c H locs cells slots mc ms g rest (Qc (Value.ref b :: As).toArray) free := by
  obtain ⟨⟨hrc, hrs, hfr, hlo, hws, hcw⟩, hcode, hini, hy, hlen, hl, hin, hse⟩ := cw
  have hK : Back l R p e below s args y 3 8 (PreOf R mc ms Pc) (PostOf Qc mc ms free) := va_backW (hh := hh) (bytes := bytes) (maxL := maxL) (ret := ret) hM hp.1 hrc hrs hfr hlo hws hcw (fun a' U hW => word_at hW (Or.inl (by first | rfl | simp [Cond.onTables, Cond.keeps, Cond.steady])) hini)
  obtain ⟨hx, hb, hml, ho, -⟩ := S
  obtain ⟨-, ⟨cellB, hcB, hoB, hclB⟩, hPc⟩ := hp
  intro T hT X
  obtain ⟨v, vm₁, ⟨U', l2, c2, s2⟩, hW₁, X', ⟨g', mk, t, L, e1, e2, hq, h1, hL, h2, h3⟩, st⟩ := vx_callVW X hx (C := C) (hh := hh) (bytes := bytes) (maxL := maxL) (ret := ret) ho hl hin hse hcode hy hK (by rw [hT]; exact hcB) hoB hclB hg (hsize.trans hml.symm) (argsL := As) (rest := rest) (fun sig h => hn.trans (hlen sig h)) hstack hW (by rw [hb]; exact hdg)
    (fun vm₁ hW₁ => ⟨hf.1, hf.2, hPc (T.setVm vm₁) hT hW₁⟩)
  dsimp only [Pt.U, Pt.locs, Pt.cells, Pt.slots] at X' e1 e2 h1 h2 h3 st
  subst h1; subst h2; subst h3
  exact ⟨v, (T.setVm vm₁).calling g' mk (Value.ref b :: As).toArray, t, U', L, hT, X', hL, e1, e2, hq, st⟩
section
variable {y : MethodName} {bytes cc : ByteArray} {maxL nL mc ms n index : Nat} {ret : Option FieldType} {ws : List Cond} {rm : Room} {Pc : Array Value → State → Prop} {Qc : Array Value → State → Outcome → State → Prop} {XC : String → State → State → Prop} {free : Addr → Prop} {Ts : List Cond} {own C : String} {b : Addr} {As rest : List Value} {g : JFrame}
theorem vx_runVX {hh : List (Nat × Nat × Nat × Nat)} (S : CallFix p m c cc nL s args Ts own) (hM : vx_Met l y ws rm Pc Qc XC mc ms free) (cw : vx_CVW R s args own C index y bytes maxL ret hh ws rm mc ms n) (hp : PreV s H C b Pc As)
    (hg : g.method = m) (hn : As.length = n) (hsize : g.locals.size = nL) (hstack : g.stack = As.reverse ++ .ref b :: rest) (hW : 2 * g.monitorRoom + (rest.map fun v => v.category).sum ≤ 8) (hdg : decode cc g.pc = .ok (.invokevirtual index, 3)) (hf : cells + mc ≤ R.cells ∧ slots + ms ≤ R.slots) :
    vx_Run p l e R s m args below meth c H locs cells slots mc ms g rest (Qc (Value.ref b :: As).toArray) XC free := by
  obtain ⟨⟨hrc, hrs, hfr, hlo, hws, hcw⟩, hcode, hini, hy, hlen, hl, hin, hse⟩ := cw
  have hK : vx_Back l R p e below s args y 3 8 (PreOf R mc ms Pc) (PostOf Qc mc ms free) (vx_Post XC mc ms free) := vx_backW (hh := hh) (bytes := bytes) (maxL := maxL) (ret := ret) hM hp.1 hrc hrs hfr hlo hws hcw (fun a' U hW => word_at hW (Or.inl (by first | rfl | simp [Cond.onTables, Cond.keeps, Cond.steady])) hini)
  obtain ⟨hx, hb, hml, ho, -⟩ := S
  obtain ⟨-, ⟨cellB, hcB, hoB, hclB⟩, hPc⟩ := hp
  intro T hT X
  rcases vx_callVX X hx (C := C) (hh := hh) (bytes := bytes) (maxL := maxL) (ret := ret) ho hl hin hse hcode hy hK (by rw [hT]; exact hcB) hoB hclB hg (hsize.trans hml.symm) (argsL := As) (rest := rest) (fun sig h => hn.trans (hlen sig h)) hstack hW (by rw [hb]; exact hdg)
    (fun vm₁ hW₁ => ⟨hf.1, hf.2, hPc (T.setVm vm₁) hT hW₁⟩) with ⟨v, vm₁, ⟨U', l2, c2, s2⟩, hW₁, X', ⟨g', mk, t, L, e1, e2, hq, h1, hL, h2, h3⟩, st⟩ | ⟨q, vm₁, ⟨U', l2, c2, s2⟩, hW₁, X', ⟨g', mk, t, L, E, ce, e1, e2, hq, hce, hcv, hcl, h1, hL, h2, h3⟩, st⟩
  · dsimp only [Pt.U, Pt.locs, Pt.cells, Pt.slots] at X' e1 e2 h1 h2 h3 st
    subst h1; subst h2; subst h3
    exact Or.inl ⟨v, (T.setVm vm₁).calling g' mk (Value.ref b :: As).toArray, t, U', L, hT, X', hL, e1, e2, hq, st⟩
  · dsimp only [Pt.U, Pt.locs, Pt.cells, Pt.slots] at X' e1 e2 h1 h2 h3 st hcl
    subst h1; subst h2; subst h3
    exact Or.inr ⟨q, (T.setVm vm₁).calling g' mk (Value.ref b :: As).toArray, t, U', L, E, ce, hT, X', hL, e1, e2, hq, hce, hcv, vx_cls hW₁ hcl, st⟩
theorem vx_runSX {hh : List (Nat × Nat × Nat × Nat)} (S : CallFix p m c cc nL s args Ts own) (hM : vx_Met l y ws rm Pc Qc XC mc ms free) (cw : vx_CSW R s args own index y bytes maxL ret hh ws rm mc ms n) (hp : PreS s H Pc As)
    (hg : g.method = m) (hn : As.length = n) (hsize : g.locals.size = nL) (hstack : g.stack = As.reverse ++ rest) (hW : 2 * g.monitorRoom + (rest.map fun v => v.category).sum ≤ 8) (hdg : decode cc g.pc = .ok (.invokestatic index, 3)) (hf : cells + mc ≤ R.cells ∧ slots + ms ≤ R.slots) :
    vx_Run p l e R s m args below meth c H locs cells slots mc ms g rest (Qc As.toArray) XC free := by
  obtain ⟨⟨hrc, hrs, hfr, hlo, hws, hcw⟩, hcode, hini, hy, hlen, hl, hstt⟩ := cw
  have hK : vx_Back l R p e below s args y 3 8 (PreOf R mc ms Pc) (PostOf Qc mc ms free) (vx_Post XC mc ms free) := vx_backW (hh := hh) (bytes := bytes) (maxL := maxL) (ret := ret) hM hp.1 hrc hrs hfr hlo hws hcw (fun a' U hW => word_at hW (Or.inl (by first | rfl | simp [Cond.onTables, Cond.keeps, Cond.steady])) hini)
  obtain ⟨hx, hb, hml, ho, -⟩ := S
  intro T hT X
  rcases vx_callSX X hx (hh := hh) (bytes := bytes) (maxL := maxL) (ret := ret) ho hl hstt hini hcode hy hK hg (hsize.trans hml.symm) (argsL := As) (rest := rest) (fun sig h => hn.trans (hlen sig h)) hstack hW (by rw [hb]; exact hdg)
    (fun vm₁ hW₁ => ⟨hf.1, hf.2, hp.2 (T.setVm vm₁) hT hW₁⟩) with ⟨v, vm₁, ⟨U', l2, c2, s2⟩, hW₁, X', ⟨g', mk, t, L, e1, e2, hq, h1, hL, h2, h3⟩, st⟩ | ⟨q, vm₁, ⟨U', l2, c2, s2⟩, hW₁, X', ⟨g', mk, t, L, E, ce, e1, e2, hq, hce, hcv, hcl, h1, hL, h2, h3⟩, st⟩
  · dsimp only [Pt.U, Pt.locs, Pt.cells, Pt.slots] at X' e1 e2 h1 h2 h3 st
    subst h1; subst h2; subst h3
    exact Or.inl ⟨v, (T.setVm vm₁).calling g' mk As.toArray, t, U', L, hT, X', hL, e1, e2, hq, st⟩
  · dsimp only [Pt.U, Pt.locs, Pt.cells, Pt.slots] at X' e1 e2 h1 h2 h3 st hcl
    subst h1; subst h2; subst h3
    exact Or.inr ⟨q, (T.setVm vm₁).calling g' mk As.toArray, t, U', L, E, ce, hT, X', hL, e1, e2, hq, hce, hcv, vx_cls hW₁ hcl, st⟩
end
end VXH
theorem vx_ofWH {l : Launch} {y : MethodName} {ws ws' : List Cond} {rm : Room} {Pc : Array Value → State → Prop} {Qc : Array Value → State → Outcome → State → Prop} {XC : String → State → State → Prop} {mc ms : Nat} {free : Addr → Prop} {cc : ByteArray} {maxL : Nat} {ret : Option FieldType} {hh : List (Nat × Nat × Nat × Nat)}
    (hy : plainName y.cls = true) (hw : ws = Cond.codeWith y cc maxL ret hh :: ws')
    (body : ∀ p e s m args below meth c s₁, BodyLoose p l y (headSpec ws rm) cc maxL ret e s m args below meth c s₁ → c.maxLocals = maxL → Pc args s →
      W p l e (headSpec ws rm).room s m args below meth c s.heap [] 0 0 (vx_MQ below Qc XC args s mc ms free) (entryFrame m args maxL)) : vx_Met l y ws rm Pc Qc XC mc ms free := by
  refine MetFree.of_bodyS (code := cc) (maxLocals := maxL) (ret := ret) hy ?_ ?_
  · intro args s m h hn
    obtain ⟨m9, meth, c, hn9, h1, h2, h3, h4, -, h5, h6, -⟩ := Cond.codeWith_spec (atoms_spec (ws := ws) h _ (by rw [hw]; exact List.mem_cons_self))
    cases hn.symm.trans hn9
    exact ⟨meth, c, h1, h2, h3, h4, h5, h6⟩
  · intro p e s m args below meth c s₁ B hml hP _
    have hh0 : s₁.heap = s.heap := by rw [B.state]; rfl
    obtain ⟨t, a1, o, b1, b2, b3⟩ := body p e s m args below meth c s₁ B hml hP s₁ hh0 (Stand.of_body B)
    exact ⟨t, o, a1, b1, b2, b3⟩
/-! ===== END ===== -/
end
section
def R_P : String := "SharedMemory$Page"
def R_S : String := "SharedMemory"
def R_M : String := "SharedMemoryModel"
def R_L : String := "SharedMemoryLaw"
def R_A : String := "java/util/Arrays"
def T_P : u_T := fun k => match k with
  | 0 => ("SharedMemory$Page", "words", "[J", false)
  | 1 => ("SharedMemory$Page", "even", "Z", false)
  | 2 => ("SharedMemory$Page", "evenWord", "J", false)
  | 3 => ("SharedMemory$Page", "wordsNotZero", "I", false)
  | _ => ("SharedMemory$Page", "timesWritten", "J", false)
def ty_P : Nat → FieldType := fun k => match k with
  | 0 => .array .long
  | 1 => .boolean
  | 2 => .long
  | 3 => .int
  | _ => .long
theorem nm_P : ∀ a, a < 5 → ∀ b, b < 5 → a ≠ b → (T_P a).2.1 ≠ (T_P b).2.1 := by decide +kernel
theorem tk_P : ∀ k, k < 5 → parseFieldDescriptor (T_P k).2.2.1 = some (ty_P k) := by decide +kernel
def T_S : u_T := fun k => match k with
  | 0 => ("SharedMemory", "pageCount", "I", true)
  | 1 => ("SharedMemory", "pageTable", "[LSharedMemory$Page;", true)
  | 2 => ("SharedMemory", "reservedAddress", "[J", true)
  | _ => ("SharedMemory", "reservedSize", "[I", true)
def ty_S : Nat → FieldType := fun k => match k with
  | 0 => .int
  | 1 => .array (.object "SharedMemory$Page")
  | 2 => .array .long
  | _ => .array .int
theorem nm_S : ∀ a, a < 4 → ∀ b, b < 4 → a ≠ b → (T_S a).2.1 ≠ (T_S b).2.1 := by decide +kernel
theorem tk_S : ∀ k, k < 4 → parseFieldDescriptor (T_S k).2.2.1 = some (ty_S k) := by decide +kernel
def T_M : u_T := fun k => match k with
  | 0 => ("SharedMemoryModel", "code", "I", false)
  | 1 => ("SharedMemoryModel", "pages", "I", true)
  | 2 => ("SharedMemoryModel", "words", "[J", true)
  | 3 => ("SharedMemoryModel", "writes", "[J", true)
  | 4 => ("SharedMemoryModel", "places", "[J", true)
  | _ => ("SharedMemoryModel", "sizes", "[I", true)
def ty_M : Nat → FieldType := fun k => match k with
  | 0 => .int
  | 1 => .int
  | 2 => .array .long
  | 3 => .array .long
  | 4 => .array .long
  | _ => .array .int
theorem nm_M : ∀ a, a < 6 → ∀ b, b < 6 → a ≠ b → (T_M a).2.1 ≠ (T_M b).2.1 := by decide +kernel
theorem tk_M : ∀ k, k < 6 → parseFieldDescriptor (T_M k).2.2.1 = some (ty_M k) := by decide +kernel
abbrev vwCl : List vw_C := [(R_P, T_P, 5), (R_S, T_S, 4), (R_M, T_M, 6)]
def ciP : Nat := 0
def ciS : Nat := 1
def ciM : Nat := 2
abbrev c_S_init : ByteArray := prog_1_method_1_code
def y_S_init : MethodName := ⟨R_S, "<init>", "(I)V"⟩
abbrev c_S_pages : ByteArray := prog_1_method_2_code
def y_S_pages : MethodName := ⟨R_S, "pages", "()I"⟩
abbrev c_S_used : ByteArray := prog_1_method_11_code
def y_S_used : MethodName := ⟨R_S, "used", "()I"⟩
abbrev c_P_isBlank : ByteArray := prog_2_method_4_code
def y_P_isBlank : MethodName := ⟨R_P, "isBlank", "()Z"⟩
abbrev c_L_cell : ByteArray := method_2_code
def y_L_cell : MethodName := ⟨R_L, "cell", "([II)I"⟩
abbrev c_L_load : ByteArray := method_3_code
def y_L_load : MethodName := ⟨R_L, "load", "(LSharedMemory;JI[J)I"⟩
abbrev c_S_load : ByteArray := prog_1_method_3_code
def y_S_load : MethodName := ⟨R_S, "load", "(JI)J"⟩
abbrev c_S_isSize : ByteArray := prog_1_method_12_code
def y_S_isSize : MethodName := ⟨R_S, "isSize", "(I)Z"⟩
abbrev c_S_isInMemory : ByteArray := prog_1_method_18_code
def y_S_isInMemory : MethodName := ⟨R_S, "isInMemory", "(JI)Z"⟩
abbrev c_S_endAddress : ByteArray := prog_1_method_17_code
def y_S_endAddress : MethodName := ⟨R_S, "endAddress", "()J"⟩
abbrev c_S_placeOf : ByteArray := prog_1_method_19_code
def y_S_placeOf : MethodName := ⟨R_S, "placeOf", "(J)I"⟩
abbrev c_S_numberAt : ByteArray := prog_1_method_26_code
def y_S_numberAt : MethodName := ⟨R_S, "numberAt", "(II)J"⟩
abbrev c_S_shiftInWord : ByteArray := prog_1_method_22_code
def y_S_shiftInWord : MethodName := ⟨R_S, "shiftInWord", "(I)I"⟩
abbrev c_S_wordAt : ByteArray := prog_1_method_23_code
def y_S_wordAt : MethodName := ⟨R_S, "wordAt", "(I)J"⟩
abbrev c_P_wordAt : ByteArray := prog_2_method_5_code
def y_P_wordAt : MethodName := ⟨R_P, "wordAt", "(I)J"⟩
abbrev c_S_lowestBytes : ByteArray := prog_1_method_20_code
def y_S_lowestBytes : MethodName := ⟨R_S, "lowestBytes", "(I)J"⟩
abbrev c_L_store : ByteArray := method_4_code
def y_L_store : MethodName := ⟨R_L, "store", "(LSharedMemory;JIJ)I"⟩
abbrev c_S_store : ByteArray := prog_1_method_4_code
def y_S_store : MethodName := ⟨R_S, "store", "(JIJ)V"⟩
abbrev c_S_putNumber : ByteArray := prog_1_method_27_code
def y_S_putNumber : MethodName := ⟨R_S, "putNumber", "(IIJ)V"⟩
abbrev c_S_mergeWord : ByteArray := prog_1_method_24_code
def y_S_mergeWord : MethodName := ⟨R_S, "mergeWord", "(IJJ)V"⟩
abbrev c_S_pageToWrite : ByteArray := prog_1_method_25_code
def y_S_pageToWrite : MethodName := ⟨R_S, "pageToWrite", "(I)LSharedMemory$Page;"⟩
abbrev c_P_init : ByteArray := prog_2_method_1_code
def y_P_init : MethodName := ⟨R_P, "<init>", "()V"⟩
abbrev c_P_merge : ByteArray := prog_2_method_6_code
def y_P_merge : MethodName := ⟨R_P, "merge", "(IJJ)V"⟩
abbrev c_P_writtenOutWords : ByteArray := prog_2_method_7_code
def y_P_writtenOutWords : MethodName := ⟨R_P, "writtenOutWords", "()[J"⟩
abbrev c_A_fill : ByteArray := prog_13_method_101_code
def y_A_fill : MethodName := ⟨R_A, "fill", "([JJ)V"⟩
abbrev c_S_noteStored : ByteArray := prog_1_method_29_code
def y_S_noteStored : MethodName := ⟨R_S, "noteStored", "(II)V"⟩
abbrev c_P_countWrite : ByteArray := prog_2_method_3_code
def y_P_countWrite : MethodName := ⟨R_P, "countWrite", "()V"⟩
abbrev c_S_loseReservations : ByteArray := prog_1_method_30_code
def y_S_loseReservations : MethodName := ⟨R_S, "loseReservations", "(II)V"⟩
abbrev c_L_fill : ByteArray := method_5_code
def y_L_fill : MethodName := ⟨R_L, "fill", "(LSharedMemory;JJI)I"⟩
abbrev c_S_fill : ByteArray := prog_1_method_5_code
def y_S_fill : MethodName := ⟨R_S, "fill", "(JJI)V"⟩
abbrev c_S_putSameBytes : ByteArray := prog_1_method_28_code
def y_S_putSameBytes : MethodName := ⟨R_S, "putSameBytes", "(IIJ)V"⟩
abbrev c_P_spread : ByteArray := prog_2_method_8_code
def y_P_spread : MethodName := ⟨R_P, "spread", "(IIJ)V"⟩
abbrev c_P_makeEven : ByteArray := prog_2_method_9_code
def y_P_makeEven : MethodName := ⟨R_P, "makeEven", "(J)V"⟩
abbrev c_L_atomic : ByteArray := method_6_code
def y_L_atomic : MethodName := ⟨R_L, "atomic", "(LSharedMemory;IIJIJ[J)I"⟩
abbrev c_S_atomic : ByteArray := prog_1_method_6_code
def y_S_atomic : MethodName := ⟨R_S, "atomic", "(IIJIJ)J"⟩
abbrev c_S_isAtomicSize : ByteArray := prog_1_method_13_code
def y_S_isAtomicSize : MethodName := ⟨R_S, "isAtomicSize", "(I)Z"⟩
abbrev c_S_isKind : ByteArray := prog_1_method_14_code
def y_S_isKind : MethodName := ⟨R_S, "isKind", "(I)Z"⟩
abbrev c_S_isProcessor : ByteArray := prog_1_method_15_code
def y_S_isProcessor : MethodName := ⟨R_S, "isProcessor", "(I)Z"⟩
abbrev c_S_reserve : ByteArray := prog_1_method_31_code
def y_S_reserve : MethodName := ⟨R_S, "reserve", "(IJI)J"⟩
abbrev c_S_withSign : ByteArray := prog_1_method_21_code
def y_S_withSign : MethodName := ⟨R_S, "withSign", "(JI)J"⟩
abbrev c_S_storeIfReserved : ByteArray := prog_1_method_32_code
def y_S_storeIfReserved : MethodName := ⟨R_S, "storeIfReserved", "(IJIJ)J"⟩
abbrev c_S_change : ByteArray := prog_1_method_33_code
def y_S_change : MethodName := ⟨R_S, "change", "(IIIJ)J"⟩
abbrev c_S_changed : ByteArray := prog_1_method_34_code
def y_S_changed : MethodName := ⟨R_S, "changed", "(IJJ)J"⟩
abbrev c_S_isLessUnsigned : ByteArray := prog_1_method_35_code
def y_S_isLessUnsigned : MethodName := ⟨R_S, "isLessUnsigned", "(JJ)Z"⟩
abbrev c_L_drop : ByteArray := method_7_code
def y_L_drop : MethodName := ⟨R_L, "drop", "(LSharedMemory;I[J)I"⟩
abbrev c_S_drop : ByteArray := prog_1_method_7_code
def y_S_drop : MethodName := ⟨R_S, "drop", "(I)Z"⟩
abbrev c_L_reserved : ByteArray := method_8_code
def y_L_reserved : MethodName := ⟨R_L, "reserved", "(LSharedMemory;I[J)I"⟩
abbrev c_S_reserved : ByteArray := prog_1_method_8_code
def y_S_reserved : MethodName := ⟨R_S, "reserved", "(I)J"⟩
abbrev c_L_writes : ByteArray := method_9_code
def y_L_writes : MethodName := ⟨R_L, "writes", "(LSharedMemory;I[J)I"⟩
abbrev c_S_writes : ByteArray := prog_1_method_9_code
def y_S_writes : MethodName := ⟨R_S, "writes", "(I)J"⟩
abbrev c_S_isPage : ByteArray := prog_1_method_16_code
def y_S_isPage : MethodName := ⟨R_S, "isPage", "(I)Z"⟩
abbrev c_P_writeCount : ByteArray := prog_2_method_2_code
def y_P_writeCount : MethodName := ⟨R_P, "writeCount", "()J"⟩
abbrev c_L_sum : ByteArray := method_10_code
def y_L_sum : MethodName := ⟨R_L, "sum", "(LSharedMemory;I[J)I"⟩
abbrev c_S_sum : ByteArray := prog_1_method_10_code
def y_S_sum : MethodName := ⟨R_S, "sum", "(I)J"⟩
abbrev c_P_weightedSum : ByteArray := prog_2_method_10_code
def y_P_weightedSum : MethodName := ⟨R_P, "weightedSum", "()J"⟩
abbrev c_M_init : ByteArray := prog_4_method_1_code
def y_M_init : MethodName := ⟨R_M, "<init>", "(I)V"⟩
abbrev c_M_thrown : ByteArray := prog_4_method_2_code
def y_M_thrown : MethodName := ⟨R_M, "thrown", "()I"⟩
abbrev c_M_pages : ByteArray := prog_4_method_3_code
def y_M_pages : MethodName := ⟨R_M, "pages", "()I"⟩
abbrev c_M_load : ByteArray := prog_4_method_11_code
def y_M_load : MethodName := ⟨R_M, "load", "(JI)J"⟩
abbrev c_M_isSize : ByteArray := prog_4_method_10_code
def y_M_isSize : MethodName := ⟨R_M, "isSize", "(I)Z"⟩
abbrev c_M_areBytes : ByteArray := prog_4_method_5_code
def y_M_areBytes : MethodName := ⟨R_M, "areBytes", "(JI)Z"⟩
abbrev c_M_isByte : ByteArray := prog_4_method_4_code
def y_M_isByte : MethodName := ⟨R_M, "isByte", "(J)Z"⟩
abbrev c_M_number : ByteArray := prog_4_method_8_code
def y_M_number : MethodName := ⟨R_M, "number", "(JI)J"⟩
abbrev c_M_get : ByteArray := prog_4_method_6_code
def y_M_get : MethodName := ⟨R_M, "get", "(J)I"⟩
abbrev c_M_store : ByteArray := prog_4_method_12_code
def y_M_store : MethodName := ⟨R_M, "store", "(JIJ)V"⟩
abbrev c_M_keep : ByteArray := prog_4_method_9_code
def y_M_keep : MethodName := ⟨R_M, "keep", "(JIJ)V"⟩
abbrev c_M_set : ByteArray := prog_4_method_7_code
def y_M_set : MethodName := ⟨R_M, "set", "(JI)V"⟩
abbrev c_M_fill : ByteArray := prog_4_method_13_code
def y_M_fill : MethodName := ⟨R_M, "fill", "(JJI)V"⟩
abbrev c_M_atomic : ByteArray := prog_4_method_18_code
def y_M_atomic : MethodName := ⟨R_M, "atomic", "(IIJIJ)J"⟩
abbrev c_M_isKind : ByteArray := prog_4_method_17_code
def y_M_isKind : MethodName := ⟨R_M, "isKind", "(I)Z"⟩
abbrev c_M_signed : ByteArray := prog_4_method_14_code
def y_M_signed : MethodName := ⟨R_M, "signed", "(JI)J"⟩
abbrev c_M_changed : ByteArray := prog_4_method_16_code
def y_M_changed : MethodName := ⟨R_M, "changed", "(IJJ)J"⟩
abbrev c_M_isLess : ByteArray := prog_4_method_15_code
def y_M_isLess : MethodName := ⟨R_M, "isLess", "(JJZ)Z"⟩
abbrev c_M_drop : ByteArray := prog_4_method_19_code
def y_M_drop : MethodName := ⟨R_M, "drop", "(I)Z"⟩
abbrev c_M_reserved : ByteArray := prog_4_method_20_code
def y_M_reserved : MethodName := ⟨R_M, "reserved", "(I)J"⟩
abbrev c_M_writes : ByteArray := prog_4_method_22_code
def y_M_writes : MethodName := ⟨R_M, "writes", "(I)J"⟩
abbrev c_M_noPage : ByteArray := prog_4_method_21_code
def y_M_noPage : MethodName := ⟨R_M, "noPage", "(I)Z"⟩
abbrev c_M_sum : ByteArray := prog_4_method_23_code
def y_M_sum : MethodName := ⟨R_M, "sum", "(I)J"⟩
abbrev c_M_used : ByteArray := prog_4_method_24_code
def y_M_used : MethodName := ⟨R_M, "used", "()I"⟩
abbrev c_L_law : ByteArray := code
def y_L_law : MethodName := ⟨R_L, "law", "([I)Z"⟩
/-- the words that every contract has: the good ones of the tables -/
def gt : List Cond := lw_tbl.filter goodWord
theorem gt_i {w : Cond} (i : Nat) (h : lw_tbl[i]? = some w) (hg : goodWord w = true) : w ∈ gt := List.mem_filter.mpr ⟨List.mem_of_getElem? h, hg⟩
def ws_S_init : List Cond := .code y_S_init c_S_init 2 none :: gt
def ws_S_pages : List Cond := .code y_S_pages c_S_pages 1 (some .int) :: gt
def ws_S_used : List Cond := .code y_S_used c_S_used 4 (some .int) :: gt
def ws_P_isBlank : List Cond := .code y_P_isBlank c_P_isBlank 1 (some .boolean) :: gt
def ws_L_cell : List Cond := .code y_L_cell c_L_cell 2 (some .int) :: gt
def ws_L_load : List Cond := .codeWith y_L_load c_L_load 6 (some .int) [(0, 10, 13, 13), (0, 10, 17, 15)] :: gt
def ws_S_load : List Cond := .code y_S_load c_S_load 4 (some .long) :: gt
def ws_S_isSize : List Cond := .code y_S_isSize c_S_isSize 1 (some .boolean) :: gt
def ws_S_isInMemory : List Cond := .code y_S_isInMemory c_S_isInMemory 4 (some .boolean) :: gt
def ws_S_endAddress : List Cond := .code y_S_endAddress c_S_endAddress 1 (some .long) :: gt
def ws_S_placeOf : List Cond := .code y_S_placeOf c_S_placeOf 2 (some .int) :: gt
def ws_S_numberAt : List Cond := .code y_S_numberAt c_S_numberAt 7 (some .long) :: gt
def ws_S_shiftInWord : List Cond := .code y_S_shiftInWord c_S_shiftInWord 1 (some .int) :: gt
def ws_S_wordAt : List Cond := .code y_S_wordAt c_S_wordAt 3 (some .long) :: gt
def ws_P_wordAt : List Cond := .code y_P_wordAt c_P_wordAt 2 (some .long) :: gt
def ws_S_lowestBytes : List Cond := .code y_S_lowestBytes c_S_lowestBytes 1 (some .long) :: gt
def ws_L_store : List Cond := .codeWith y_L_store c_L_store 7 (some .int) [(0, 8, 11, 13), (0, 8, 15, 15)] :: gt
def ws_S_store : List Cond := .code y_S_store c_S_store 6 none :: gt
def ws_S_putNumber : List Cond := .code y_S_putNumber c_S_putNumber 9 none :: gt
def ws_S_mergeWord : List Cond := .code y_S_mergeWord c_S_mergeWord 6 none :: gt
def ws_S_pageToWrite : List Cond := .code y_S_pageToWrite c_S_pageToWrite 3 (some (.object "SharedMemory$Page")) :: gt
def ws_P_init : List Cond := .code y_P_init c_P_init 1 none :: gt
def ws_P_merge : List Cond := .code y_P_merge c_P_merge 10 none :: gt
def ws_P_writtenOutWords : List Cond := .code y_P_writtenOutWords c_P_writtenOutWords 1 (some (.array .long)) :: gt
def ws_A_fill : List Cond := .code y_A_fill c_A_fill 5 none :: gt
def ws_S_noteStored : List Cond := .code y_S_noteStored c_S_noteStored 5 none :: gt
def ws_P_countWrite : List Cond := .code y_P_countWrite c_P_countWrite 1 none :: gt
def ws_S_loseReservations : List Cond := .code y_S_loseReservations c_S_loseReservations 5 none :: gt
def ws_L_fill : List Cond := .codeWith y_L_fill c_L_fill 7 (some .int) [(0, 8, 11, 13), (0, 8, 15, 15)] :: gt
def ws_S_fill : List Cond := .code y_S_fill c_S_fill 6 none :: gt
def ws_S_putSameBytes : List Cond := .code y_S_putSameBytes c_S_putSameBytes 10 none :: gt
def ws_P_spread : List Cond := .code y_P_spread c_P_spread 10 none :: gt
def ws_P_makeEven : List Cond := .code y_P_makeEven c_P_makeEven 3 none :: gt
def ws_L_atomic : List Cond := .codeWith y_L_atomic c_L_atomic 10 (some .int) [(0, 15, 18, 13), (0, 15, 22, 15), (0, 15, 26, 29)] :: gt
def ws_S_atomic : List Cond := .code y_S_atomic c_S_atomic 8 (some .long) :: gt
def ws_S_isAtomicSize : List Cond := .code y_S_isAtomicSize c_S_isAtomicSize 1 (some .boolean) :: gt
def ws_S_isKind : List Cond := .code y_S_isKind c_S_isKind 1 (some .boolean) :: gt
def ws_S_isProcessor : List Cond := .code y_S_isProcessor c_S_isProcessor 1 (some .boolean) :: gt
def ws_S_reserve : List Cond := .code y_S_reserve c_S_reserve 5 (some .long) :: gt
def ws_S_withSign : List Cond := .code y_S_withSign c_S_withSign 3 (some .long) :: gt
def ws_S_storeIfReserved : List Cond := .code y_S_storeIfReserved c_S_storeIfReserved 8 (some .long) :: gt
def ws_S_change : List Cond := .code y_S_change c_S_change 8 (some .long) :: gt
def ws_S_changed : List Cond := .code y_S_changed c_S_changed 5 (some .long) :: gt
def ws_S_isLessUnsigned : List Cond := .code y_S_isLessUnsigned c_S_isLessUnsigned 4 (some .boolean) :: gt
def ws_L_drop : List Cond := .codeWith y_L_drop c_L_drop 4 (some .int) [(0, 16, 19, 15)] :: gt
def ws_S_drop : List Cond := .code y_S_drop c_S_drop 3 (some .boolean) :: gt
def ws_L_reserved : List Cond := .codeWith y_L_reserved c_L_reserved 4 (some .int) [(0, 8, 11, 15)] :: gt
def ws_S_reserved : List Cond := .code y_S_reserved c_S_reserved 2 (some .long) :: gt
def ws_L_writes : List Cond := .codeWith y_L_writes c_L_writes 4 (some .int) [(0, 8, 11, 15)] :: gt
def ws_S_writes : List Cond := .code y_S_writes c_S_writes 3 (some .long) :: gt
def ws_S_isPage : List Cond := .code y_S_isPage c_S_isPage 2 (some .boolean) :: gt
def ws_P_writeCount : List Cond := .code y_P_writeCount c_P_writeCount 1 (some .long) :: gt
def ws_L_sum : List Cond := .codeWith y_L_sum c_L_sum 4 (some .int) [(0, 8, 11, 15)] :: gt
def ws_S_sum : List Cond := .code y_S_sum c_S_sum 3 (some .long) :: gt
def ws_P_weightedSum : List Cond := .code y_P_weightedSum c_P_weightedSum 7 (some .long) :: gt
def ws_M_init : List Cond := .code y_M_init c_M_init 2 none :: gt
def ws_M_thrown : List Cond := .code y_M_thrown c_M_thrown 1 (some .int) :: gt
def ws_M_pages : List Cond := .code y_M_pages c_M_pages 1 (some .int) :: gt
def ws_M_load : List Cond := .code y_M_load c_M_load 4 (some .long) :: gt
def ws_M_isSize : List Cond := .code y_M_isSize c_M_isSize 1 (some .boolean) :: gt
def ws_M_areBytes : List Cond := .code y_M_areBytes c_M_areBytes 4 (some .boolean) :: gt
def ws_M_isByte : List Cond := .code y_M_isByte c_M_isByte 3 (some .boolean) :: gt
def ws_M_number : List Cond := .code y_M_number c_M_number 7 (some .long) :: gt
def ws_M_get : List Cond := .code y_M_get c_M_get 4 (some .int) :: gt
def ws_M_store : List Cond := .code y_M_store c_M_store 6 none :: gt
def ws_M_keep : List Cond := .code y_M_keep c_M_keep 10 none :: gt
def ws_M_set : List Cond := .code y_M_set c_M_set 6 none :: gt
def ws_M_fill : List Cond := .code y_M_fill c_M_fill 10 none :: gt
def ws_M_atomic : List Cond := .code y_M_atomic c_M_atomic 11 (some .long) :: gt
def ws_M_isKind : List Cond := .code y_M_isKind c_M_isKind 1 (some .boolean) :: gt
def ws_M_signed : List Cond := .code y_M_signed c_M_signed 3 (some .long) :: gt
def ws_M_changed : List Cond := .code y_M_changed c_M_changed 5 (some .long) :: gt
def ws_M_isLess : List Cond := .code y_M_isLess c_M_isLess 5 (some .boolean) :: gt
def ws_M_drop : List Cond := .code y_M_drop c_M_drop 3 (some .boolean) :: gt
def ws_M_reserved : List Cond := .code y_M_reserved c_M_reserved 2 (some .long) :: gt
def ws_M_writes : List Cond := .code y_M_writes c_M_writes 2 (some .long) :: gt
def ws_M_noPage : List Cond := .code y_M_noPage c_M_noPage 2 (some .boolean) :: gt
def ws_M_sum : List Cond := .code y_M_sum c_M_sum 5 (some .long) :: gt
def ws_M_used : List Cond := .code y_M_used c_M_used 5 (some .int) :: gt
end
section
theorem k_24 : Cond.initialized "SharedMemoryLaw" ∈ gt := gt_i 24 (by decide +kernel) (by decide +kernel)
theorem k_25 : Cond.initialized "SharedMemory" ∈ gt := gt_i 25 (by decide +kernel) (by decide +kernel)
theorem k_26 : Cond.initialized "SharedMemoryModel" ∈ gt := gt_i 26 (by decide +kernel) (by decide +kernel)
theorem k_27 : Cond.initialized "java/lang/Throwable" ∈ gt := gt_i 27 (by decide +kernel) (by decide +kernel)
theorem k_28 : Cond.initialized "java/lang/Exception" ∈ gt := gt_i 28 (by decide +kernel) (by decide +kernel)
theorem k_29 : Cond.initialized "java/lang/RuntimeException" ∈ gt := gt_i 29 (by decide +kernel) (by decide +kernel)
theorem k_30 : Cond.initialized "java/lang/IllegalArgumentException" ∈ gt := gt_i 30 (by decide +kernel) (by decide +kernel)
theorem k_31 : Cond.initialized "java/lang/IndexOutOfBoundsException" ∈ gt := gt_i 31 (by decide +kernel) (by decide +kernel)
theorem k_32 : Cond.initialized "SharedMemory$Page" ∈ gt := gt_i 32 (by decide +kernel) (by decide +kernel)
theorem k_33 : Cond.initialized "java/util/Arrays" ∈ gt := gt_i 33 (by decide +kernel) (by decide +kernel)
theorem k_34 : Cond.initialized "java/lang/Math" ∈ gt := gt_i 34 (by decide +kernel) (by decide +kernel)
theorem k_35 : Cond.initialized "java/lang/IllegalStateException" ∈ gt := gt_i 35 (by decide +kernel) (by decide +kernel)
theorem k_36 : Cond.classLink "SharedMemoryLaw" 8 "SharedMemory" ∈ gt := gt_i 36 (by decide +kernel) (by decide +kernel)
theorem k_37 : Cond.instantiable "SharedMemory" 4 ∈ gt := gt_i 37 (by decide +kernel) (by decide +kernel)
theorem k_38 : Cond.methodLink "SharedMemoryLaw" 51 y_S_init ∈ gt := gt_i 38 (by decide +kernel) (by decide +kernel)
theorem k_39 : Cond.instanceMethod y_S_init ∈ gt := gt_i 39 (by decide +kernel) (by decide +kernel)
theorem k_40 : Cond.code y_S_init prog_1_method_1_code 2 none ∈ gt := gt_i 40 (by decide +kernel) (by decide +kernel)
theorem k_41 : Cond.methodLink "SharedMemory" 1 ⟨"java/lang/Object", "<init>", "()V"⟩ ∈ gt := gt_i 41 (by decide +kernel) (by decide +kernel)
theorem k_42 : Cond.instanceMethod ⟨"java/lang/Object", "<init>", "()V"⟩ ∈ gt := gt_i 42 (by decide +kernel) (by decide +kernel)
theorem k_43 : Cond.code ⟨"java/lang/Object", "<init>", "()V"⟩ object_method_1_code 1 none ∈ gt := gt_i 43 (by decide +kernel) (by decide +kernel)
theorem k_44 : Cond.classLink "SharedMemory" 13 "SharedMemory$Page" ∈ gt := gt_i 44 (by decide +kernel) (by decide +kernel)
theorem k_46 : Cond.fieldLink "SharedMemory" 9 "SharedMemory" "pageCount" "I" ∈ gt := gt_i 46 (by decide +kernel) (by decide +kernel)
theorem k_47 : Cond.fieldLink "SharedMemory" 15 "SharedMemory" "pageTable" "[LSharedMemory$Page;" ∈ gt := gt_i 47 (by decide +kernel) (by decide +kernel)
theorem k_48 : Cond.fieldLink "SharedMemory" 19 "SharedMemory" "reservedAddress" "[J" ∈ gt := gt_i 48 (by decide +kernel) (by decide +kernel)
theorem k_49 : Cond.fieldLink "SharedMemory" 23 "SharedMemory" "reservedSize" "[I" ∈ gt := gt_i 49 (by decide +kernel) (by decide +kernel)
theorem k_50 : Cond.laysFinal "SharedMemory" "SharedMemory" "pageCount" "I" ∈ gt := gt_i 50 (by decide +kernel) (by decide +kernel)
theorem k_52 : Cond.laysFinal "SharedMemory" "SharedMemory" "pageTable" "[LSharedMemory$Page;" ∈ gt := gt_i 52 (by decide +kernel) (by decide +kernel)
theorem k_54 : Cond.laysFinal "SharedMemory" "SharedMemory" "reservedAddress" "[J" ∈ gt := gt_i 54 (by decide +kernel) (by decide +kernel)
theorem k_56 : Cond.laysFinal "SharedMemory" "SharedMemory" "reservedSize" "[I" ∈ gt := gt_i 56 (by decide +kernel) (by decide +kernel)
theorem k_59 : Cond.arrayClass .long ∈ gt := gt_i 59 (by decide +kernel) (by decide +kernel)
theorem k_60 : Cond.arrayClass .int ∈ gt := gt_i 60 (by decide +kernel) (by decide +kernel)
theorem k_61 : Cond.methodLink "SharedMemoryLaw" 57 y_S_pages ∈ gt := gt_i 61 (by decide +kernel) (by decide +kernel)
theorem k_62 : Cond.instanceMethod y_S_pages ∈ gt := gt_i 62 (by decide +kernel) (by decide +kernel)
theorem k_63 : Cond.selects "SharedMemory" y_S_pages y_S_pages ∈ gt := gt_i 63 (by decide +kernel) (by decide +kernel)
theorem k_64 : Cond.code y_S_pages prog_1_method_2_code 1 (some .int) ∈ gt := gt_i 64 (by decide +kernel) (by decide +kernel)
theorem k_65 : Cond.methodLink "SharedMemoryLaw" 96 y_S_used ∈ gt := gt_i 65 (by decide +kernel) (by decide +kernel)
theorem k_66 : Cond.instanceMethod y_S_used ∈ gt := gt_i 66 (by decide +kernel) (by decide +kernel)
theorem k_67 : Cond.selects "SharedMemory" y_S_used y_S_used ∈ gt := gt_i 67 (by decide +kernel) (by decide +kernel)
theorem k_68 : Cond.code y_S_used prog_1_method_11_code 4 (some .int) ∈ gt := gt_i 68 (by decide +kernel) (by decide +kernel)
theorem k_69 : Cond.methodLink "SharedMemory" 115 y_P_isBlank ∈ gt := gt_i 69 (by decide +kernel) (by decide +kernel)
theorem k_70 : Cond.instanceMethod y_P_isBlank ∈ gt := gt_i 70 (by decide +kernel) (by decide +kernel)
theorem k_71 : Cond.selects "SharedMemory$Page" y_P_isBlank y_P_isBlank ∈ gt := gt_i 71 (by decide +kernel) (by decide +kernel)
theorem k_72 : Cond.code y_P_isBlank prog_2_method_4_code 1 (some .boolean) ∈ gt := gt_i 72 (by decide +kernel) (by decide +kernel)
theorem k_73 : Cond.methodLink "SharedMemoryLaw" 45 y_L_cell ∈ gt := gt_i 73 (by decide +kernel) (by decide +kernel)
theorem k_74 : Cond.static y_L_cell ∈ gt := gt_i 74 (by decide +kernel) (by decide +kernel)
theorem k_75 : Cond.code y_L_cell method_2_code 2 (some .int) ∈ gt := gt_i 75 (by decide +kernel) (by decide +kernel)
theorem k_76 : Cond.methodLink "SharedMemoryLaw" 64 y_L_load ∈ gt := gt_i 76 (by decide +kernel) (by decide +kernel)
theorem k_77 : Cond.static y_L_load ∈ gt := gt_i 77 (by decide +kernel) (by decide +kernel)
theorem k_78 : Cond.codeWith y_L_load method_3_code 6 (some .int) [(0, 10, 13, 13), (0, 10, 17, 15)] ∈ gt := gt_i 78 (by decide +kernel) (by decide +kernel)
theorem k_79 : Cond.classLink "SharedMemoryLaw" 13 "java/lang/IllegalArgumentException" ∈ gt := gt_i 79 (by decide +kernel) (by decide +kernel)
theorem k_80 : Cond.classLink "SharedMemoryLaw" 15 "java/lang/IndexOutOfBoundsException" ∈ gt := gt_i 80 (by decide +kernel) (by decide +kernel)
theorem k_81 : Cond.methodLink "SharedMemoryLaw" 7 y_S_load ∈ gt := gt_i 81 (by decide +kernel) (by decide +kernel)
theorem k_82 : Cond.instanceMethod y_S_load ∈ gt := gt_i 82 (by decide +kernel) (by decide +kernel)
theorem k_83 : Cond.selects "SharedMemory" y_S_load y_S_load ∈ gt := gt_i 83 (by decide +kernel) (by decide +kernel)
theorem k_84 : Cond.code y_S_load prog_1_method_3_code 4 (some .long) ∈ gt := gt_i 84 (by decide +kernel) (by decide +kernel)
theorem k_85 : Cond.methodLink "SharedMemory" 27 y_S_isSize ∈ gt := gt_i 85 (by decide +kernel) (by decide +kernel)
theorem k_86 : Cond.static y_S_isSize ∈ gt := gt_i 86 (by decide +kernel) (by decide +kernel)
theorem k_87 : Cond.code y_S_isSize prog_1_method_12_code 1 (some .boolean) ∈ gt := gt_i 87 (by decide +kernel) (by decide +kernel)
theorem k_88 : Cond.classLink "SharedMemory" 31 "java/lang/IllegalArgumentException" ∈ gt := gt_i 88 (by decide +kernel) (by decide +kernel)
theorem k_89 : Cond.instantiable "java/lang/IllegalArgumentException" 6 ∈ gt := gt_i 89 (by decide +kernel) (by decide +kernel)
theorem k_97 : Cond.selects "java/lang/IllegalArgumentException" ⟨"java/lang/Throwable", "fillInStackTrace", "(I)Ljava/lang/Throwable;"⟩ ⟨"java/lang/Throwable", "fillInStackTrace", "(I)Ljava/lang/Throwable;"⟩ ∈ gt := gt_i 97 (by decide +kernel) (by decide +kernel)
theorem k_98 : Cond.selects "java/lang/IllegalArgumentException" ⟨"java/lang/Throwable", "fillInStackTrace", "()Ljava/lang/Throwable;"⟩ ⟨"java/lang/Throwable", "fillInStackTrace", "()Ljava/lang/Throwable;"⟩ ∈ gt := gt_i 98 (by decide +kernel) (by decide +kernel)
theorem k_99 : Cond.lays "java/lang/IllegalArgumentException" "java/lang/Throwable" "cause" "Ljava/lang/Throwable;" ∈ gt := gt_i 99 (by decide +kernel) (by decide +kernel)
theorem k_100 : Cond.lays "java/lang/Throwable" "java/lang/Throwable" "cause" "Ljava/lang/Throwable;" ∈ gt := gt_i 100 (by decide +kernel) (by decide +kernel)
theorem k_101 : Cond.lays "java/lang/IllegalArgumentException" "java/lang/Throwable" "stackTrace" "[Ljava/lang/StackTraceElement;" ∈ gt := gt_i 101 (by decide +kernel) (by decide +kernel)
theorem k_102 : Cond.lays "java/lang/Throwable" "java/lang/Throwable" "stackTrace" "[Ljava/lang/StackTraceElement;" ∈ gt := gt_i 102 (by decide +kernel) (by decide +kernel)
theorem k_103 : Cond.lays "java/lang/IllegalArgumentException" "java/lang/Throwable" "suppressedExceptions" "Ljava/util/List;" ∈ gt := gt_i 103 (by decide +kernel) (by decide +kernel)
theorem k_104 : Cond.lays "java/lang/Throwable" "java/lang/Throwable" "suppressedExceptions" "Ljava/util/List;" ∈ gt := gt_i 104 (by decide +kernel) (by decide +kernel)
theorem k_105 : Cond.lays "java/lang/IllegalArgumentException" "java/lang/Throwable" "detailMessage" "Ljava/lang/String;" ∈ gt := gt_i 105 (by decide +kernel) (by decide +kernel)
theorem k_106 : Cond.lays "java/lang/Throwable" "java/lang/Throwable" "detailMessage" "Ljava/lang/String;" ∈ gt := gt_i 106 (by decide +kernel) (by decide +kernel)
theorem k_107 : Cond.lays "java/lang/IllegalArgumentException" "java/lang/Throwable" "backtrace" "Ljava/lang/Object;" ∈ gt := gt_i 107 (by decide +kernel) (by decide +kernel)
theorem k_108 : Cond.lays "java/lang/Throwable" "java/lang/Throwable" "backtrace" "Ljava/lang/Object;" ∈ gt := gt_i 108 (by decide +kernel) (by decide +kernel)
theorem k_109 : Cond.fieldLink "java/lang/Throwable" 198 "java/lang/Throwable" "backtrace" "Ljava/lang/Object;" ∈ gt := gt_i 109 (by decide +kernel) (by decide +kernel)
theorem k_111 : Cond.instanceMethod ⟨"java/lang/Throwable", "<init>", "()V"⟩ ∈ gt := gt_i 111 (by decide +kernel) (by decide +kernel)
theorem k_112 : Cond.code ⟨"java/lang/Throwable", "<init>", "()V"⟩ prog_12_method_1_code 1 none ∈ gt := gt_i 112 (by decide +kernel) (by decide +kernel)
theorem k_113 : Cond.methodLink "java/lang/Throwable" 1 ⟨"java/lang/Object", "<init>", "()V"⟩ ∈ gt := gt_i 113 (by decide +kernel) (by decide +kernel)
theorem k_114 : Cond.fieldLink "java/lang/Throwable" 13 "java/lang/Throwable" "UNASSIGNED_STACK" "[Ljava/lang/StackTraceElement;" ∈ gt := gt_i 114 (by decide +kernel) (by decide +kernel)
theorem k_116 : Cond.fieldLink "java/lang/Throwable" 20 "java/lang/Throwable" "SUPPRESSED_SENTINEL" "Ljava/util/List;" ∈ gt := gt_i 116 (by decide +kernel) (by decide +kernel)
theorem k_118 : Cond.methodLink "java/lang/Throwable" 27 ⟨"java/lang/Throwable", "fillInStackTrace", "()Ljava/lang/Throwable;"⟩ ∈ gt := gt_i 118 (by decide +kernel) (by decide +kernel)
theorem k_119 : Cond.instanceMethod ⟨"java/lang/Throwable", "fillInStackTrace", "()Ljava/lang/Throwable;"⟩ ∈ gt := gt_i 119 (by decide +kernel) (by decide +kernel)
theorem k_121 : Cond.selects "java/lang/IllegalStateException" ⟨"java/lang/Throwable", "fillInStackTrace", "()Ljava/lang/Throwable;"⟩ ⟨"java/lang/Throwable", "fillInStackTrace", "()Ljava/lang/Throwable;"⟩ ∈ gt := gt_i 121 (by decide +kernel) (by decide +kernel)
theorem k_122 : Cond.selects "java/lang/IndexOutOfBoundsException" ⟨"java/lang/Throwable", "fillInStackTrace", "()Ljava/lang/Throwable;"⟩ ⟨"java/lang/Throwable", "fillInStackTrace", "()Ljava/lang/Throwable;"⟩ ∈ gt := gt_i 122 (by decide +kernel) (by decide +kernel)
theorem k_124 : Cond.methodLink "java/lang/Throwable" 202 ⟨"java/lang/Throwable", "fillInStackTrace", "(I)Ljava/lang/Throwable;"⟩ ∈ gt := gt_i 124 (by decide +kernel) (by decide +kernel)
theorem k_126 : Cond.instanceMethod ⟨"java/lang/Throwable", "fillInStackTrace", "(I)Ljava/lang/Throwable;"⟩ ∈ gt := gt_i 126 (by decide +kernel) (by decide +kernel)
theorem k_127 : Cond.instantiable "java/lang/Throwable" 6 ∈ gt := gt_i 127 (by decide +kernel) (by decide +kernel)
theorem k_130 : Cond.methodLink "SharedMemory" 35 ⟨"java/lang/IllegalArgumentException", "<init>", "(Ljava/lang/String;)V"⟩ ∈ gt := gt_i 130 (by decide +kernel) (by decide +kernel)
theorem k_131 : Cond.instanceMethod ⟨"java/lang/IllegalArgumentException", "<init>", "(Ljava/lang/String;)V"⟩ ∈ gt := gt_i 131 (by decide +kernel) (by decide +kernel)
theorem k_132 : Cond.code ⟨"java/lang/IllegalArgumentException", "<init>", "(Ljava/lang/String;)V"⟩ prog_6_method_2_code 2 none ∈ gt := gt_i 132 (by decide +kernel) (by decide +kernel)
theorem k_133 : Cond.methodLink "java/lang/IllegalArgumentException" 7 ⟨"java/lang/RuntimeException", "<init>", "(Ljava/lang/String;)V"⟩ ∈ gt := gt_i 133 (by decide +kernel) (by decide +kernel)
theorem k_134 : Cond.instanceMethod ⟨"java/lang/RuntimeException", "<init>", "(Ljava/lang/String;)V"⟩ ∈ gt := gt_i 134 (by decide +kernel) (by decide +kernel)
theorem k_135 : Cond.code ⟨"java/lang/RuntimeException", "<init>", "(Ljava/lang/String;)V"⟩ prog_10_method_2_code 2 none ∈ gt := gt_i 135 (by decide +kernel) (by decide +kernel)
theorem k_136 : Cond.methodLink "java/lang/RuntimeException" 7 ⟨"java/lang/Exception", "<init>", "(Ljava/lang/String;)V"⟩ ∈ gt := gt_i 136 (by decide +kernel) (by decide +kernel)
theorem k_137 : Cond.instanceMethod ⟨"java/lang/Exception", "<init>", "(Ljava/lang/String;)V"⟩ ∈ gt := gt_i 137 (by decide +kernel) (by decide +kernel)
theorem k_138 : Cond.code ⟨"java/lang/Exception", "<init>", "(Ljava/lang/String;)V"⟩ prog_5_method_2_code 2 none ∈ gt := gt_i 138 (by decide +kernel) (by decide +kernel)
theorem k_139 : Cond.methodLink "java/lang/Exception" 7 ⟨"java/lang/Throwable", "<init>", "(Ljava/lang/String;)V"⟩ ∈ gt := gt_i 139 (by decide +kernel) (by decide +kernel)
theorem k_140 : Cond.instanceMethod ⟨"java/lang/Throwable", "<init>", "(Ljava/lang/String;)V"⟩ ∈ gt := gt_i 140 (by decide +kernel) (by decide +kernel)
theorem k_141 : Cond.code ⟨"java/lang/Throwable", "<init>", "(Ljava/lang/String;)V"⟩ prog_12_method_2_code 2 none ∈ gt := gt_i 141 (by decide +kernel) (by decide +kernel)
theorem k_142 : Cond.fieldLink "java/lang/Throwable" 198 "java/lang/Throwable" "backtrace" "Ljava/lang/Object;" ∈ gt := gt_i 142 (by decide +kernel) (by decide +kernel)
theorem k_143 : Cond.fieldLink "java/lang/Throwable" 31 "java/lang/Throwable" "detailMessage" "Ljava/lang/String;" ∈ gt := gt_i 143 (by decide +kernel) (by decide +kernel)
theorem k_144 : Cond.fieldLink "java/lang/Throwable" 7 "java/lang/Throwable" "cause" "Ljava/lang/Throwable;" ∈ gt := gt_i 144 (by decide +kernel) (by decide +kernel)
theorem k_145 : Cond.fieldLink "java/lang/Throwable" 17 "java/lang/Throwable" "stackTrace" "[Ljava/lang/StackTraceElement;" ∈ gt := gt_i 145 (by decide +kernel) (by decide +kernel)
theorem k_146 : Cond.fieldLink "java/lang/Throwable" 24 "java/lang/Throwable" "suppressedExceptions" "Ljava/util/List;" ∈ gt := gt_i 146 (by decide +kernel) (by decide +kernel)
theorem k_151 : Cond.lays "java/lang/IllegalArgumentException" "java/lang/Throwable" "depth" "I" ∈ gt := gt_i 151 (by decide +kernel) (by decide +kernel)
theorem k_155 : Cond.arrayClass .byte ∈ gt := gt_i 155 (by decide +kernel) (by decide +kernel)
theorem k_156 : Cond.methodLink "SharedMemory" 38 y_S_isInMemory ∈ gt := gt_i 156 (by decide +kernel) (by decide +kernel)
theorem k_158 : Cond.instanceMethod y_S_isInMemory ∈ gt := gt_i 158 (by decide +kernel) (by decide +kernel)
theorem k_159 : Cond.code y_S_isInMemory prog_1_method_18_code 4 (some .boolean) ∈ gt := gt_i 159 (by decide +kernel) (by decide +kernel)
theorem k_160 : Cond.constantLong "SharedMemory" 61 2147483648 ∈ gt := gt_i 160 (by decide +kernel) (by decide +kernel)
theorem k_161 : Cond.methodLink "SharedMemory" 63 y_S_endAddress ∈ gt := gt_i 161 (by decide +kernel) (by decide +kernel)
theorem k_163 : Cond.instanceMethod y_S_endAddress ∈ gt := gt_i 163 (by decide +kernel) (by decide +kernel)
theorem k_164 : Cond.code y_S_endAddress prog_1_method_17_code 1 (some .long) ∈ gt := gt_i 164 (by decide +kernel) (by decide +kernel)
theorem k_165 : Cond.constantLong "SharedMemory" 119 4096 ∈ gt := gt_i 165 (by decide +kernel) (by decide +kernel)
theorem k_166 : Cond.classLink "SharedMemory" 42 "java/lang/IndexOutOfBoundsException" ∈ gt := gt_i 166 (by decide +kernel) (by decide +kernel)
theorem k_167 : Cond.instantiable "java/lang/IndexOutOfBoundsException" 6 ∈ gt := gt_i 167 (by decide +kernel) (by decide +kernel)
theorem k_169 : Cond.selects "java/lang/IndexOutOfBoundsException" ⟨"java/lang/Throwable", "fillInStackTrace", "(I)Ljava/lang/Throwable;"⟩ ⟨"java/lang/Throwable", "fillInStackTrace", "(I)Ljava/lang/Throwable;"⟩ ∈ gt := gt_i 169 (by decide +kernel) (by decide +kernel)
theorem k_170 : Cond.lays "java/lang/IndexOutOfBoundsException" "java/lang/Throwable" "cause" "Ljava/lang/Throwable;" ∈ gt := gt_i 170 (by decide +kernel) (by decide +kernel)
theorem k_171 : Cond.lays "java/lang/IndexOutOfBoundsException" "java/lang/Throwable" "stackTrace" "[Ljava/lang/StackTraceElement;" ∈ gt := gt_i 171 (by decide +kernel) (by decide +kernel)
theorem k_172 : Cond.lays "java/lang/IndexOutOfBoundsException" "java/lang/Throwable" "suppressedExceptions" "Ljava/util/List;" ∈ gt := gt_i 172 (by decide +kernel) (by decide +kernel)
theorem k_173 : Cond.lays "java/lang/IndexOutOfBoundsException" "java/lang/Throwable" "detailMessage" "Ljava/lang/String;" ∈ gt := gt_i 173 (by decide +kernel) (by decide +kernel)
theorem k_174 : Cond.lays "java/lang/IndexOutOfBoundsException" "java/lang/Throwable" "backtrace" "Ljava/lang/Object;" ∈ gt := gt_i 174 (by decide +kernel) (by decide +kernel)
theorem k_176 : Cond.methodLink "SharedMemory" 46 ⟨"java/lang/IndexOutOfBoundsException", "<init>", "(Ljava/lang/String;)V"⟩ ∈ gt := gt_i 176 (by decide +kernel) (by decide +kernel)
theorem k_177 : Cond.instanceMethod ⟨"java/lang/IndexOutOfBoundsException", "<init>", "(Ljava/lang/String;)V"⟩ ∈ gt := gt_i 177 (by decide +kernel) (by decide +kernel)
theorem k_178 : Cond.code ⟨"java/lang/IndexOutOfBoundsException", "<init>", "(Ljava/lang/String;)V"⟩ prog_8_method_2_code 2 none ∈ gt := gt_i 178 (by decide +kernel) (by decide +kernel)
theorem k_179 : Cond.methodLink "java/lang/IndexOutOfBoundsException" 7 ⟨"java/lang/RuntimeException", "<init>", "(Ljava/lang/String;)V"⟩ ∈ gt := gt_i 179 (by decide +kernel) (by decide +kernel)
theorem k_180 : Cond.lays "java/lang/IndexOutOfBoundsException" "java/lang/Throwable" "depth" "I" ∈ gt := gt_i 180 (by decide +kernel) (by decide +kernel)
theorem k_182 : Cond.methodLink "SharedMemory" 47 y_S_placeOf ∈ gt := gt_i 182 (by decide +kernel) (by decide +kernel)
theorem k_183 : Cond.static y_S_placeOf ∈ gt := gt_i 183 (by decide +kernel) (by decide +kernel)
theorem k_184 : Cond.code y_S_placeOf prog_1_method_19_code 2 (some .int) ∈ gt := gt_i 184 (by decide +kernel) (by decide +kernel)
theorem k_185 : Cond.methodLink "SharedMemory" 51 y_S_numberAt ∈ gt := gt_i 185 (by decide +kernel) (by decide +kernel)
theorem k_187 : Cond.instanceMethod y_S_numberAt ∈ gt := gt_i 187 (by decide +kernel) (by decide +kernel)
theorem k_188 : Cond.code y_S_numberAt prog_1_method_26_code 7 (some .long) ∈ gt := gt_i 188 (by decide +kernel) (by decide +kernel)
theorem k_189 : Cond.methodLink "SharedMemory" 136 y_S_shiftInWord ∈ gt := gt_i 189 (by decide +kernel) (by decide +kernel)
theorem k_190 : Cond.static y_S_shiftInWord ∈ gt := gt_i 190 (by decide +kernel) (by decide +kernel)
theorem k_191 : Cond.code y_S_shiftInWord prog_1_method_22_code 1 (some .int) ∈ gt := gt_i 191 (by decide +kernel) (by decide +kernel)
theorem k_192 : Cond.methodLink "SharedMemory" 140 y_S_wordAt ∈ gt := gt_i 192 (by decide +kernel) (by decide +kernel)
theorem k_194 : Cond.instanceMethod y_S_wordAt ∈ gt := gt_i 194 (by decide +kernel) (by decide +kernel)
theorem k_195 : Cond.code y_S_wordAt prog_1_method_23_code 3 (some .long) ∈ gt := gt_i 195 (by decide +kernel) (by decide +kernel)
theorem k_196 : Cond.methodLink "SharedMemory" 123 y_P_wordAt ∈ gt := gt_i 196 (by decide +kernel) (by decide +kernel)
theorem k_197 : Cond.instanceMethod y_P_wordAt ∈ gt := gt_i 197 (by decide +kernel) (by decide +kernel)
theorem k_198 : Cond.selects "SharedMemory$Page" y_P_wordAt y_P_wordAt ∈ gt := gt_i 198 (by decide +kernel) (by decide +kernel)
theorem k_199 : Cond.code y_P_wordAt prog_2_method_5_code 2 (some .long) ∈ gt := gt_i 199 (by decide +kernel) (by decide +kernel)
theorem k_200 : Cond.methodLink "SharedMemory" 141 y_S_lowestBytes ∈ gt := gt_i 200 (by decide +kernel) (by decide +kernel)
theorem k_201 : Cond.static y_S_lowestBytes ∈ gt := gt_i 201 (by decide +kernel) (by decide +kernel)
theorem k_202 : Cond.code y_S_lowestBytes prog_1_method_20_code 1 (some .long) ∈ gt := gt_i 202 (by decide +kernel) (by decide +kernel)
theorem k_203 : Cond.constantLong "SharedMemory" 121 (-1) ∈ gt := gt_i 203 (by decide +kernel) (by decide +kernel)
theorem k_204 : Cond.methodLink "SharedMemoryLaw" 71 y_L_store ∈ gt := gt_i 204 (by decide +kernel) (by decide +kernel)
theorem k_205 : Cond.static y_L_store ∈ gt := gt_i 205 (by decide +kernel) (by decide +kernel)
theorem k_206 : Cond.codeWith y_L_store method_4_code 7 (some .int) [(0, 8, 11, 13), (0, 8, 15, 15)] ∈ gt := gt_i 206 (by decide +kernel) (by decide +kernel)
theorem k_207 : Cond.methodLink "SharedMemoryLaw" 17 y_S_store ∈ gt := gt_i 207 (by decide +kernel) (by decide +kernel)
theorem k_208 : Cond.instanceMethod y_S_store ∈ gt := gt_i 208 (by decide +kernel) (by decide +kernel)
theorem k_209 : Cond.selects "SharedMemory" y_S_store y_S_store ∈ gt := gt_i 209 (by decide +kernel) (by decide +kernel)
theorem k_210 : Cond.code y_S_store prog_1_method_4_code 6 none ∈ gt := gt_i 210 (by decide +kernel) (by decide +kernel)
theorem k_211 : Cond.methodLink "SharedMemory" 55 y_S_putNumber ∈ gt := gt_i 211 (by decide +kernel) (by decide +kernel)
theorem k_213 : Cond.instanceMethod y_S_putNumber ∈ gt := gt_i 213 (by decide +kernel) (by decide +kernel)
theorem k_214 : Cond.code y_S_putNumber prog_1_method_27_code 9 none ∈ gt := gt_i 214 (by decide +kernel) (by decide +kernel)
theorem k_215 : Cond.methodLink "SharedMemory" 144 y_S_mergeWord ∈ gt := gt_i 215 (by decide +kernel) (by decide +kernel)
theorem k_217 : Cond.instanceMethod y_S_mergeWord ∈ gt := gt_i 217 (by decide +kernel) (by decide +kernel)
theorem k_218 : Cond.code y_S_mergeWord prog_1_method_24_code 6 none ∈ gt := gt_i 218 (by decide +kernel) (by decide +kernel)
theorem k_219 : Cond.methodLink "SharedMemory" 127 y_S_pageToWrite ∈ gt := gt_i 219 (by decide +kernel) (by decide +kernel)
theorem k_221 : Cond.instanceMethod y_S_pageToWrite ∈ gt := gt_i 221 (by decide +kernel) (by decide +kernel)
theorem k_222 : Cond.code y_S_pageToWrite prog_1_method_25_code 3 (some (.object "SharedMemory$Page")) ∈ gt := gt_i 222 (by decide +kernel) (by decide +kernel)
theorem k_223 : Cond.instantiable "SharedMemory$Page" 5 ∈ gt := gt_i 223 (by decide +kernel) (by decide +kernel)
theorem k_224 : Cond.methodLink "SharedMemory" 135 y_P_init ∈ gt := gt_i 224 (by decide +kernel) (by decide +kernel)
theorem k_225 : Cond.instanceMethod y_P_init ∈ gt := gt_i 225 (by decide +kernel) (by decide +kernel)
theorem k_226 : Cond.code y_P_init prog_2_method_1_code 1 none ∈ gt := gt_i 226 (by decide +kernel) (by decide +kernel)
theorem k_227 : Cond.methodLink "SharedMemory$Page" 3 ⟨"java/lang/Object", "<init>", "()V"⟩ ∈ gt := gt_i 227 (by decide +kernel) (by decide +kernel)
theorem k_228 : Cond.fieldLink "SharedMemory$Page" 23 "SharedMemory$Page" "words" "[J" ∈ gt := gt_i 228 (by decide +kernel) (by decide +kernel)
theorem k_229 : Cond.fieldLink "SharedMemory$Page" 9 "SharedMemory$Page" "even" "Z" ∈ gt := gt_i 229 (by decide +kernel) (by decide +kernel)
theorem k_230 : Cond.fieldLink "SharedMemory$Page" 27 "SharedMemory$Page" "evenWord" "J" ∈ gt := gt_i 230 (by decide +kernel) (by decide +kernel)
theorem k_231 : Cond.fieldLink "SharedMemory$Page" 19 "SharedMemory$Page" "wordsNotZero" "I" ∈ gt := gt_i 231 (by decide +kernel) (by decide +kernel)
theorem k_232 : Cond.fieldLink "SharedMemory$Page" 15 "SharedMemory$Page" "timesWritten" "J" ∈ gt := gt_i 232 (by decide +kernel) (by decide +kernel)
theorem k_233 : Cond.lays "SharedMemory$Page" "SharedMemory$Page" "words" "[J" ∈ gt := gt_i 233 (by decide +kernel) (by decide +kernel)
theorem k_235 : Cond.lays "SharedMemory$Page" "SharedMemory$Page" "even" "Z" ∈ gt := gt_i 235 (by decide +kernel) (by decide +kernel)
theorem k_237 : Cond.lays "SharedMemory$Page" "SharedMemory$Page" "evenWord" "J" ∈ gt := gt_i 237 (by decide +kernel) (by decide +kernel)
theorem k_239 : Cond.lays "SharedMemory$Page" "SharedMemory$Page" "wordsNotZero" "I" ∈ gt := gt_i 239 (by decide +kernel) (by decide +kernel)
theorem k_241 : Cond.lays "SharedMemory$Page" "SharedMemory$Page" "timesWritten" "J" ∈ gt := gt_i 241 (by decide +kernel) (by decide +kernel)
theorem k_244 : Cond.methodLink "SharedMemory" 131 y_P_merge ∈ gt := gt_i 244 (by decide +kernel) (by decide +kernel)
theorem k_245 : Cond.instanceMethod y_P_merge ∈ gt := gt_i 245 (by decide +kernel) (by decide +kernel)
theorem k_246 : Cond.selects "SharedMemory$Page" y_P_merge y_P_merge ∈ gt := gt_i 246 (by decide +kernel) (by decide +kernel)
theorem k_247 : Cond.code y_P_merge prog_2_method_6_code 10 none ∈ gt := gt_i 247 (by decide +kernel) (by decide +kernel)
theorem k_248 : Cond.methodLink "SharedMemory$Page" 30 y_P_wordAt ∈ gt := gt_i 248 (by decide +kernel) (by decide +kernel)
theorem k_249 : Cond.constantLong "SharedMemory$Page" 34 (-1) ∈ gt := gt_i 249 (by decide +kernel) (by decide +kernel)
theorem k_250 : Cond.methodLink "SharedMemory$Page" 36 y_P_writtenOutWords ∈ gt := gt_i 250 (by decide +kernel) (by decide +kernel)
theorem k_252 : Cond.instanceMethod y_P_writtenOutWords ∈ gt := gt_i 252 (by decide +kernel) (by decide +kernel)
theorem k_253 : Cond.code y_P_writtenOutWords prog_2_method_7_code 1 (some (.array .long)) ∈ gt := gt_i 253 (by decide +kernel) (by decide +kernel)
theorem k_254 : Cond.methodLink "SharedMemory$Page" 40 y_A_fill ∈ gt := gt_i 254 (by decide +kernel) (by decide +kernel)
theorem k_255 : Cond.static y_A_fill ∈ gt := gt_i 255 (by decide +kernel) (by decide +kernel)
theorem k_256 : Cond.code y_A_fill prog_13_method_101_code 5 none ∈ gt := gt_i 256 (by decide +kernel) (by decide +kernel)
theorem k_257 : Cond.methodLink "SharedMemory" 147 y_S_noteStored ∈ gt := gt_i 257 (by decide +kernel) (by decide +kernel)
theorem k_259 : Cond.instanceMethod y_S_noteStored ∈ gt := gt_i 259 (by decide +kernel) (by decide +kernel)
theorem k_260 : Cond.code y_S_noteStored prog_1_method_29_code 5 none ∈ gt := gt_i 260 (by decide +kernel) (by decide +kernel)
theorem k_261 : Cond.methodLink "SharedMemory" 163 y_P_countWrite ∈ gt := gt_i 261 (by decide +kernel) (by decide +kernel)
theorem k_262 : Cond.instanceMethod y_P_countWrite ∈ gt := gt_i 262 (by decide +kernel) (by decide +kernel)
theorem k_263 : Cond.selects "SharedMemory$Page" y_P_countWrite y_P_countWrite ∈ gt := gt_i 263 (by decide +kernel) (by decide +kernel)
theorem k_264 : Cond.code y_P_countWrite prog_2_method_3_code 1 none ∈ gt := gt_i 264 (by decide +kernel) (by decide +kernel)
theorem k_265 : Cond.methodLink "SharedMemory" 166 y_S_loseReservations ∈ gt := gt_i 265 (by decide +kernel) (by decide +kernel)
theorem k_267 : Cond.instanceMethod y_S_loseReservations ∈ gt := gt_i 267 (by decide +kernel) (by decide +kernel)
theorem k_268 : Cond.code y_S_loseReservations prog_1_method_30_code 5 none ∈ gt := gt_i 268 (by decide +kernel) (by decide +kernel)
theorem k_269 : Cond.methodLink "SharedMemoryLaw" 75 y_L_fill ∈ gt := gt_i 269 (by decide +kernel) (by decide +kernel)
theorem k_270 : Cond.static y_L_fill ∈ gt := gt_i 270 (by decide +kernel) (by decide +kernel)
theorem k_271 : Cond.codeWith y_L_fill method_5_code 7 (some .int) [(0, 8, 11, 13), (0, 8, 15, 15)] ∈ gt := gt_i 271 (by decide +kernel) (by decide +kernel)
theorem k_272 : Cond.methodLink "SharedMemoryLaw" 21 y_S_fill ∈ gt := gt_i 272 (by decide +kernel) (by decide +kernel)
theorem k_273 : Cond.instanceMethod y_S_fill ∈ gt := gt_i 273 (by decide +kernel) (by decide +kernel)
theorem k_274 : Cond.selects "SharedMemory" y_S_fill y_S_fill ∈ gt := gt_i 274 (by decide +kernel) (by decide +kernel)
theorem k_275 : Cond.code y_S_fill prog_1_method_5_code 6 none ∈ gt := gt_i 275 (by decide +kernel) (by decide +kernel)
theorem k_277 : Cond.constantLong "SharedMemory" 67 72340172838076673 ∈ gt := gt_i 277 (by decide +kernel) (by decide +kernel)
theorem k_278 : Cond.methodLink "SharedMemory" 69 y_S_putSameBytes ∈ gt := gt_i 278 (by decide +kernel) (by decide +kernel)
theorem k_280 : Cond.instanceMethod y_S_putSameBytes ∈ gt := gt_i 280 (by decide +kernel) (by decide +kernel)
theorem k_281 : Cond.code y_S_putSameBytes prog_1_method_28_code 10 none ∈ gt := gt_i 281 (by decide +kernel) (by decide +kernel)
theorem k_282 : Cond.methodLink "SharedMemory" 151 ⟨"java/lang/Math", "max", "(II)I"⟩ ∈ gt := gt_i 282 (by decide +kernel) (by decide +kernel)
theorem k_283 : Cond.static ⟨"java/lang/Math", "max", "(II)I"⟩ ∈ gt := gt_i 283 (by decide +kernel) (by decide +kernel)
theorem k_284 : Cond.code ⟨"java/lang/Math", "max", "(II)I"⟩ prog_9_method_65_code 2 (some .int) ∈ gt := gt_i 284 (by decide +kernel) (by decide +kernel)
theorem k_285 : Cond.methodLink "SharedMemory" 157 ⟨"java/lang/Math", "min", "(II)I"⟩ ∈ gt := gt_i 285 (by decide +kernel) (by decide +kernel)
theorem k_286 : Cond.static ⟨"java/lang/Math", "min", "(II)I"⟩ ∈ gt := gt_i 286 (by decide +kernel) (by decide +kernel)
theorem k_287 : Cond.code ⟨"java/lang/Math", "min", "(II)I"⟩ prog_9_method_69_code 2 (some .int) ∈ gt := gt_i 287 (by decide +kernel) (by decide +kernel)
theorem k_288 : Cond.methodLink "SharedMemory" 160 y_P_spread ∈ gt := gt_i 288 (by decide +kernel) (by decide +kernel)
theorem k_289 : Cond.instanceMethod y_P_spread ∈ gt := gt_i 289 (by decide +kernel) (by decide +kernel)
theorem k_290 : Cond.selects "SharedMemory$Page" y_P_spread y_P_spread ∈ gt := gt_i 290 (by decide +kernel) (by decide +kernel)
theorem k_291 : Cond.code y_P_spread prog_2_method_8_code 10 none ∈ gt := gt_i 291 (by decide +kernel) (by decide +kernel)
theorem k_292 : Cond.methodLink "SharedMemory$Page" 46 y_P_makeEven ∈ gt := gt_i 292 (by decide +kernel) (by decide +kernel)
theorem k_294 : Cond.instanceMethod y_P_makeEven ∈ gt := gt_i 294 (by decide +kernel) (by decide +kernel)
theorem k_295 : Cond.code y_P_makeEven prog_2_method_9_code 3 none ∈ gt := gt_i 295 (by decide +kernel) (by decide +kernel)
theorem k_297 : Cond.methodLink "SharedMemory$Page" 54 y_P_merge ∈ gt := gt_i 297 (by decide +kernel) (by decide +kernel)
theorem k_298 : Cond.methodLink "SharedMemoryLaw" 79 y_L_atomic ∈ gt := gt_i 298 (by decide +kernel) (by decide +kernel)
theorem k_299 : Cond.static y_L_atomic ∈ gt := gt_i 299 (by decide +kernel) (by decide +kernel)
theorem k_300 : Cond.codeWith y_L_atomic method_6_code 10 (some .int) [(0, 15, 18, 13), (0, 15, 22, 15), (0, 15, 26, 29)] ∈ gt := gt_i 300 (by decide +kernel) (by decide +kernel)
theorem k_301 : Cond.classLink "SharedMemoryLaw" 29 "java/lang/IllegalStateException" ∈ gt := gt_i 301 (by decide +kernel) (by decide +kernel)
theorem k_302 : Cond.methodLink "SharedMemoryLaw" 25 y_S_atomic ∈ gt := gt_i 302 (by decide +kernel) (by decide +kernel)
theorem k_303 : Cond.instanceMethod y_S_atomic ∈ gt := gt_i 303 (by decide +kernel) (by decide +kernel)
theorem k_304 : Cond.selects "SharedMemory" y_S_atomic y_S_atomic ∈ gt := gt_i 304 (by decide +kernel) (by decide +kernel)
theorem k_305 : Cond.code y_S_atomic prog_1_method_6_code 8 (some .long) ∈ gt := gt_i 305 (by decide +kernel) (by decide +kernel)
theorem k_306 : Cond.methodLink "SharedMemory" 72 y_S_isAtomicSize ∈ gt := gt_i 306 (by decide +kernel) (by decide +kernel)
theorem k_307 : Cond.static y_S_isAtomicSize ∈ gt := gt_i 307 (by decide +kernel) (by decide +kernel)
theorem k_308 : Cond.code y_S_isAtomicSize prog_1_method_13_code 1 (some .boolean) ∈ gt := gt_i 308 (by decide +kernel) (by decide +kernel)
theorem k_309 : Cond.methodLink "SharedMemory" 75 y_S_isKind ∈ gt := gt_i 309 (by decide +kernel) (by decide +kernel)
theorem k_310 : Cond.static y_S_isKind ∈ gt := gt_i 310 (by decide +kernel) (by decide +kernel)
theorem k_311 : Cond.code y_S_isKind prog_1_method_14_code 1 (some .boolean) ∈ gt := gt_i 311 (by decide +kernel) (by decide +kernel)
theorem k_313 : Cond.methodLink "SharedMemory" 80 y_S_isProcessor ∈ gt := gt_i 313 (by decide +kernel) (by decide +kernel)
theorem k_314 : Cond.static y_S_isProcessor ∈ gt := gt_i 314 (by decide +kernel) (by decide +kernel)
theorem k_315 : Cond.code y_S_isProcessor prog_1_method_15_code 1 (some .boolean) ∈ gt := gt_i 315 (by decide +kernel) (by decide +kernel)
theorem k_317 : Cond.classLink "SharedMemory" 85 "java/lang/IllegalStateException" ∈ gt := gt_i 317 (by decide +kernel) (by decide +kernel)
theorem k_318 : Cond.instantiable "java/lang/IllegalStateException" 6 ∈ gt := gt_i 318 (by decide +kernel) (by decide +kernel)
theorem k_320 : Cond.selects "java/lang/IllegalStateException" ⟨"java/lang/Throwable", "fillInStackTrace", "(I)Ljava/lang/Throwable;"⟩ ⟨"java/lang/Throwable", "fillInStackTrace", "(I)Ljava/lang/Throwable;"⟩ ∈ gt := gt_i 320 (by decide +kernel) (by decide +kernel)
theorem k_321 : Cond.lays "java/lang/IllegalStateException" "java/lang/Throwable" "cause" "Ljava/lang/Throwable;" ∈ gt := gt_i 321 (by decide +kernel) (by decide +kernel)
theorem k_322 : Cond.lays "java/lang/IllegalStateException" "java/lang/Throwable" "stackTrace" "[Ljava/lang/StackTraceElement;" ∈ gt := gt_i 322 (by decide +kernel) (by decide +kernel)
theorem k_323 : Cond.lays "java/lang/IllegalStateException" "java/lang/Throwable" "suppressedExceptions" "Ljava/util/List;" ∈ gt := gt_i 323 (by decide +kernel) (by decide +kernel)
theorem k_324 : Cond.lays "java/lang/IllegalStateException" "java/lang/Throwable" "detailMessage" "Ljava/lang/String;" ∈ gt := gt_i 324 (by decide +kernel) (by decide +kernel)
theorem k_325 : Cond.lays "java/lang/IllegalStateException" "java/lang/Throwable" "backtrace" "Ljava/lang/Object;" ∈ gt := gt_i 325 (by decide +kernel) (by decide +kernel)
theorem k_327 : Cond.methodLink "SharedMemory" 89 ⟨"java/lang/IllegalStateException", "<init>", "(Ljava/lang/String;)V"⟩ ∈ gt := gt_i 327 (by decide +kernel) (by decide +kernel)
theorem k_328 : Cond.instanceMethod ⟨"java/lang/IllegalStateException", "<init>", "(Ljava/lang/String;)V"⟩ ∈ gt := gt_i 328 (by decide +kernel) (by decide +kernel)
theorem k_329 : Cond.code ⟨"java/lang/IllegalStateException", "<init>", "(Ljava/lang/String;)V"⟩ prog_7_method_2_code 2 none ∈ gt := gt_i 329 (by decide +kernel) (by decide +kernel)
theorem k_330 : Cond.methodLink "java/lang/IllegalStateException" 7 ⟨"java/lang/RuntimeException", "<init>", "(Ljava/lang/String;)V"⟩ ∈ gt := gt_i 330 (by decide +kernel) (by decide +kernel)
theorem k_331 : Cond.lays "java/lang/IllegalStateException" "java/lang/Throwable" "depth" "I" ∈ gt := gt_i 331 (by decide +kernel) (by decide +kernel)
theorem k_333 : Cond.methodLink "SharedMemory" 90 y_S_reserve ∈ gt := gt_i 333 (by decide +kernel) (by decide +kernel)
theorem k_335 : Cond.instanceMethod y_S_reserve ∈ gt := gt_i 335 (by decide +kernel) (by decide +kernel)
theorem k_336 : Cond.code y_S_reserve prog_1_method_31_code 5 (some .long) ∈ gt := gt_i 336 (by decide +kernel) (by decide +kernel)
theorem k_337 : Cond.methodLink "SharedMemory" 169 y_S_withSign ∈ gt := gt_i 337 (by decide +kernel) (by decide +kernel)
theorem k_338 : Cond.static y_S_withSign ∈ gt := gt_i 338 (by decide +kernel) (by decide +kernel)
theorem k_339 : Cond.code y_S_withSign prog_1_method_21_code 3 (some .long) ∈ gt := gt_i 339 (by decide +kernel) (by decide +kernel)
theorem k_340 : Cond.methodLink "SharedMemory" 94 y_S_storeIfReserved ∈ gt := gt_i 340 (by decide +kernel) (by decide +kernel)
theorem k_342 : Cond.instanceMethod y_S_storeIfReserved ∈ gt := gt_i 342 (by decide +kernel) (by decide +kernel)
theorem k_343 : Cond.code y_S_storeIfReserved prog_1_method_32_code 8 (some .long) ∈ gt := gt_i 343 (by decide +kernel) (by decide +kernel)
theorem k_344 : Cond.methodLink "SharedMemory" 98 y_S_change ∈ gt := gt_i 344 (by decide +kernel) (by decide +kernel)
theorem k_346 : Cond.instanceMethod y_S_change ∈ gt := gt_i 346 (by decide +kernel) (by decide +kernel)
theorem k_347 : Cond.code y_S_change prog_1_method_33_code 8 (some .long) ∈ gt := gt_i 347 (by decide +kernel) (by decide +kernel)
theorem k_348 : Cond.methodLink "SharedMemory" 173 y_S_changed ∈ gt := gt_i 348 (by decide +kernel) (by decide +kernel)
theorem k_349 : Cond.static y_S_changed ∈ gt := gt_i 349 (by decide +kernel) (by decide +kernel)
theorem k_350 : Cond.code y_S_changed prog_1_method_34_code 5 (some .long) ∈ gt := gt_i 350 (by decide +kernel) (by decide +kernel)
theorem k_351 : Cond.methodLink "SharedMemory" 177 ⟨"java/lang/Math", "min", "(JJ)J"⟩ ∈ gt := gt_i 351 (by decide +kernel) (by decide +kernel)
theorem k_352 : Cond.static ⟨"java/lang/Math", "min", "(JJ)J"⟩ ∈ gt := gt_i 352 (by decide +kernel) (by decide +kernel)
theorem k_353 : Cond.code ⟨"java/lang/Math", "min", "(JJ)J"⟩ prog_9_method_70_code 4 (some .long) ∈ gt := gt_i 353 (by decide +kernel) (by decide +kernel)
theorem k_354 : Cond.methodLink "SharedMemory" 180 ⟨"java/lang/Math", "max", "(JJ)J"⟩ ∈ gt := gt_i 354 (by decide +kernel) (by decide +kernel)
theorem k_355 : Cond.static ⟨"java/lang/Math", "max", "(JJ)J"⟩ ∈ gt := gt_i 355 (by decide +kernel) (by decide +kernel)
theorem k_356 : Cond.code ⟨"java/lang/Math", "max", "(JJ)J"⟩ prog_9_method_66_code 4 (some .long) ∈ gt := gt_i 356 (by decide +kernel) (by decide +kernel)
theorem k_357 : Cond.methodLink "SharedMemory" 182 y_S_isLessUnsigned ∈ gt := gt_i 357 (by decide +kernel) (by decide +kernel)
theorem k_358 : Cond.static y_S_isLessUnsigned ∈ gt := gt_i 358 (by decide +kernel) (by decide +kernel)
theorem k_359 : Cond.code y_S_isLessUnsigned prog_1_method_35_code 4 (some .boolean) ∈ gt := gt_i 359 (by decide +kernel) (by decide +kernel)
theorem k_360 : Cond.constantLong "SharedMemory" 188 (-9223372036854775808) ∈ gt := gt_i 360 (by decide +kernel) (by decide +kernel)
theorem k_361 : Cond.methodLink "SharedMemoryLaw" 83 y_L_drop ∈ gt := gt_i 361 (by decide +kernel) (by decide +kernel)
theorem k_362 : Cond.static y_L_drop ∈ gt := gt_i 362 (by decide +kernel) (by decide +kernel)
theorem k_363 : Cond.codeWith y_L_drop method_7_code 4 (some .int) [(0, 16, 19, 15)] ∈ gt := gt_i 363 (by decide +kernel) (by decide +kernel)
theorem k_364 : Cond.methodLink "SharedMemoryLaw" 31 y_S_drop ∈ gt := gt_i 364 (by decide +kernel) (by decide +kernel)
theorem k_365 : Cond.instanceMethod y_S_drop ∈ gt := gt_i 365 (by decide +kernel) (by decide +kernel)
theorem k_366 : Cond.selects "SharedMemory" y_S_drop y_S_drop ∈ gt := gt_i 366 (by decide +kernel) (by decide +kernel)
theorem k_367 : Cond.code y_S_drop prog_1_method_7_code 3 (some .boolean) ∈ gt := gt_i 367 (by decide +kernel) (by decide +kernel)
theorem k_369 : Cond.methodLink "SharedMemoryLaw" 87 y_L_reserved ∈ gt := gt_i 369 (by decide +kernel) (by decide +kernel)
theorem k_370 : Cond.static y_L_reserved ∈ gt := gt_i 370 (by decide +kernel) (by decide +kernel)
theorem k_371 : Cond.codeWith y_L_reserved method_8_code 4 (some .int) [(0, 8, 11, 15)] ∈ gt := gt_i 371 (by decide +kernel) (by decide +kernel)
theorem k_372 : Cond.methodLink "SharedMemoryLaw" 35 y_S_reserved ∈ gt := gt_i 372 (by decide +kernel) (by decide +kernel)
theorem k_373 : Cond.instanceMethod y_S_reserved ∈ gt := gt_i 373 (by decide +kernel) (by decide +kernel)
theorem k_374 : Cond.selects "SharedMemory" y_S_reserved y_S_reserved ∈ gt := gt_i 374 (by decide +kernel) (by decide +kernel)
theorem k_375 : Cond.code y_S_reserved prog_1_method_8_code 2 (some .long) ∈ gt := gt_i 375 (by decide +kernel) (by decide +kernel)
theorem k_376 : Cond.methodLink "SharedMemoryLaw" 90 y_L_writes ∈ gt := gt_i 376 (by decide +kernel) (by decide +kernel)
theorem k_377 : Cond.static y_L_writes ∈ gt := gt_i 377 (by decide +kernel) (by decide +kernel)
theorem k_378 : Cond.codeWith y_L_writes method_9_code 4 (some .int) [(0, 8, 11, 15)] ∈ gt := gt_i 378 (by decide +kernel) (by decide +kernel)
theorem k_379 : Cond.methodLink "SharedMemoryLaw" 39 y_S_writes ∈ gt := gt_i 379 (by decide +kernel) (by decide +kernel)
theorem k_380 : Cond.instanceMethod y_S_writes ∈ gt := gt_i 380 (by decide +kernel) (by decide +kernel)
theorem k_381 : Cond.selects "SharedMemory" y_S_writes y_S_writes ∈ gt := gt_i 381 (by decide +kernel) (by decide +kernel)
theorem k_382 : Cond.code y_S_writes prog_1_method_9_code 3 (some .long) ∈ gt := gt_i 382 (by decide +kernel) (by decide +kernel)
theorem k_383 : Cond.methodLink "SharedMemory" 104 y_S_isPage ∈ gt := gt_i 383 (by decide +kernel) (by decide +kernel)
theorem k_385 : Cond.instanceMethod y_S_isPage ∈ gt := gt_i 385 (by decide +kernel) (by decide +kernel)
theorem k_386 : Cond.code y_S_isPage prog_1_method_16_code 2 (some .boolean) ∈ gt := gt_i 386 (by decide +kernel) (by decide +kernel)
theorem k_388 : Cond.methodLink "SharedMemory" 109 y_P_writeCount ∈ gt := gt_i 388 (by decide +kernel) (by decide +kernel)
theorem k_389 : Cond.instanceMethod y_P_writeCount ∈ gt := gt_i 389 (by decide +kernel) (by decide +kernel)
theorem k_390 : Cond.selects "SharedMemory$Page" y_P_writeCount y_P_writeCount ∈ gt := gt_i 390 (by decide +kernel) (by decide +kernel)
theorem k_391 : Cond.code y_P_writeCount prog_2_method_2_code 1 (some .long) ∈ gt := gt_i 391 (by decide +kernel) (by decide +kernel)
theorem k_392 : Cond.methodLink "SharedMemoryLaw" 93 y_L_sum ∈ gt := gt_i 392 (by decide +kernel) (by decide +kernel)
theorem k_393 : Cond.static y_L_sum ∈ gt := gt_i 393 (by decide +kernel) (by decide +kernel)
theorem k_394 : Cond.codeWith y_L_sum method_10_code 4 (some .int) [(0, 8, 11, 15)] ∈ gt := gt_i 394 (by decide +kernel) (by decide +kernel)
theorem k_395 : Cond.methodLink "SharedMemoryLaw" 42 y_S_sum ∈ gt := gt_i 395 (by decide +kernel) (by decide +kernel)
theorem k_396 : Cond.instanceMethod y_S_sum ∈ gt := gt_i 396 (by decide +kernel) (by decide +kernel)
theorem k_397 : Cond.selects "SharedMemory" y_S_sum y_S_sum ∈ gt := gt_i 397 (by decide +kernel) (by decide +kernel)
theorem k_398 : Cond.code y_S_sum prog_1_method_10_code 3 (some .long) ∈ gt := gt_i 398 (by decide +kernel) (by decide +kernel)
theorem k_399 : Cond.methodLink "SharedMemory" 112 y_P_weightedSum ∈ gt := gt_i 399 (by decide +kernel) (by decide +kernel)
theorem k_400 : Cond.instanceMethod y_P_weightedSum ∈ gt := gt_i 400 (by decide +kernel) (by decide +kernel)
theorem k_401 : Cond.selects "SharedMemory$Page" y_P_weightedSum y_P_weightedSum ∈ gt := gt_i 401 (by decide +kernel) (by decide +kernel)
theorem k_402 : Cond.code y_P_weightedSum prog_2_method_10_code 7 (some .long) ∈ gt := gt_i 402 (by decide +kernel) (by decide +kernel)
theorem k_403 : Cond.constantLong "SharedMemory$Page" 58 255 ∈ gt := gt_i 403 (by decide +kernel) (by decide +kernel)
theorem k_404 : Cond.classLink "SharedMemoryLaw" 54 "SharedMemoryModel" ∈ gt := gt_i 404 (by decide +kernel) (by decide +kernel)
theorem k_405 : Cond.instantiable "SharedMemoryModel" 6 ∈ gt := gt_i 405 (by decide +kernel) (by decide +kernel)
theorem k_406 : Cond.methodLink "SharedMemoryLaw" 56 y_M_init ∈ gt := gt_i 406 (by decide +kernel) (by decide +kernel)
theorem k_407 : Cond.instanceMethod y_M_init ∈ gt := gt_i 407 (by decide +kernel) (by decide +kernel)
theorem k_408 : Cond.code y_M_init prog_4_method_1_code 2 none ∈ gt := gt_i 408 (by decide +kernel) (by decide +kernel)
theorem k_409 : Cond.methodLink "SharedMemoryModel" 1 ⟨"java/lang/Object", "<init>", "()V"⟩ ∈ gt := gt_i 409 (by decide +kernel) (by decide +kernel)
theorem k_410 : Cond.constant "SharedMemoryModel" 7 524288 ∈ gt := gt_i 410 (by decide +kernel) (by decide +kernel)
theorem k_411 : Cond.fieldLink "SharedMemoryModel" 28 "SharedMemoryModel" "code" "I" ∈ gt := gt_i 411 (by decide +kernel) (by decide +kernel)
theorem k_412 : Cond.fieldLink "SharedMemoryModel" 24 "SharedMemoryModel" "pages" "I" ∈ gt := gt_i 412 (by decide +kernel) (by decide +kernel)
theorem k_413 : Cond.fieldLink "SharedMemoryModel" 8 "SharedMemoryModel" "words" "[J" ∈ gt := gt_i 413 (by decide +kernel) (by decide +kernel)
theorem k_414 : Cond.fieldLink "SharedMemoryModel" 14 "SharedMemoryModel" "writes" "[J" ∈ gt := gt_i 414 (by decide +kernel) (by decide +kernel)
theorem k_415 : Cond.fieldLink "SharedMemoryModel" 17 "SharedMemoryModel" "places" "[J" ∈ gt := gt_i 415 (by decide +kernel) (by decide +kernel)
theorem k_416 : Cond.fieldLink "SharedMemoryModel" 20 "SharedMemoryModel" "sizes" "[I" ∈ gt := gt_i 416 (by decide +kernel) (by decide +kernel)
theorem k_417 : Cond.lays "SharedMemoryModel" "SharedMemoryModel" "code" "I" ∈ gt := gt_i 417 (by decide +kernel) (by decide +kernel)
theorem k_419 : Cond.laysFinal "SharedMemoryModel" "SharedMemoryModel" "pages" "I" ∈ gt := gt_i 419 (by decide +kernel) (by decide +kernel)
theorem k_421 : Cond.laysFinal "SharedMemoryModel" "SharedMemoryModel" "words" "[J" ∈ gt := gt_i 421 (by decide +kernel) (by decide +kernel)
theorem k_423 : Cond.laysFinal "SharedMemoryModel" "SharedMemoryModel" "writes" "[J" ∈ gt := gt_i 423 (by decide +kernel) (by decide +kernel)
theorem k_425 : Cond.laysFinal "SharedMemoryModel" "SharedMemoryModel" "places" "[J" ∈ gt := gt_i 425 (by decide +kernel) (by decide +kernel)
theorem k_427 : Cond.laysFinal "SharedMemoryModel" "SharedMemoryModel" "sizes" "[I" ∈ gt := gt_i 427 (by decide +kernel) (by decide +kernel)
theorem k_430 : Cond.methodLink "SharedMemoryLaw" 68 y_M_thrown ∈ gt := gt_i 430 (by decide +kernel) (by decide +kernel)
theorem k_431 : Cond.instanceMethod y_M_thrown ∈ gt := gt_i 431 (by decide +kernel) (by decide +kernel)
theorem k_432 : Cond.selects "SharedMemoryModel" y_M_thrown y_M_thrown ∈ gt := gt_i 432 (by decide +kernel) (by decide +kernel)
theorem k_433 : Cond.code y_M_thrown prog_4_method_2_code 1 (some .int) ∈ gt := gt_i 433 (by decide +kernel) (by decide +kernel)
theorem k_434 : Cond.methodLink "SharedMemoryLaw" 61 y_M_pages ∈ gt := gt_i 434 (by decide +kernel) (by decide +kernel)
theorem k_435 : Cond.instanceMethod y_M_pages ∈ gt := gt_i 435 (by decide +kernel) (by decide +kernel)
theorem k_436 : Cond.selects "SharedMemoryModel" y_M_pages y_M_pages ∈ gt := gt_i 436 (by decide +kernel) (by decide +kernel)
theorem k_437 : Cond.code y_M_pages prog_4_method_3_code 1 (some .int) ∈ gt := gt_i 437 (by decide +kernel) (by decide +kernel)
theorem k_438 : Cond.methodLink "SharedMemoryLaw" 67 y_M_load ∈ gt := gt_i 438 (by decide +kernel) (by decide +kernel)
theorem k_439 : Cond.instanceMethod y_M_load ∈ gt := gt_i 439 (by decide +kernel) (by decide +kernel)
theorem k_440 : Cond.selects "SharedMemoryModel" y_M_load y_M_load ∈ gt := gt_i 440 (by decide +kernel) (by decide +kernel)
theorem k_441 : Cond.code y_M_load prog_4_method_11_code 4 (some .long) ∈ gt := gt_i 441 (by decide +kernel) (by decide +kernel)
theorem k_442 : Cond.methodLink "SharedMemoryModel" 55 y_M_isSize ∈ gt := gt_i 442 (by decide +kernel) (by decide +kernel)
theorem k_443 : Cond.static y_M_isSize ∈ gt := gt_i 443 (by decide +kernel) (by decide +kernel)
theorem k_444 : Cond.code y_M_isSize prog_4_method_10_code 1 (some .boolean) ∈ gt := gt_i 444 (by decide +kernel) (by decide +kernel)
theorem k_445 : Cond.methodLink "SharedMemoryModel" 59 y_M_areBytes ∈ gt := gt_i 445 (by decide +kernel) (by decide +kernel)
theorem k_447 : Cond.instanceMethod y_M_areBytes ∈ gt := gt_i 447 (by decide +kernel) (by decide +kernel)
theorem k_448 : Cond.code y_M_areBytes prog_4_method_5_code 4 (some .boolean) ∈ gt := gt_i 448 (by decide +kernel) (by decide +kernel)
theorem k_449 : Cond.methodLink "SharedMemoryModel" 35 y_M_isByte ∈ gt := gt_i 449 (by decide +kernel) (by decide +kernel)
theorem k_451 : Cond.instanceMethod y_M_isByte ∈ gt := gt_i 451 (by decide +kernel) (by decide +kernel)
theorem k_452 : Cond.code y_M_isByte prog_4_method_4_code 3 (some .boolean) ∈ gt := gt_i 452 (by decide +kernel) (by decide +kernel)
theorem k_453 : Cond.constantLong "SharedMemoryModel" 31 2147483648 ∈ gt := gt_i 453 (by decide +kernel) (by decide +kernel)
theorem k_454 : Cond.constantLong "SharedMemoryModel" 33 4096 ∈ gt := gt_i 454 (by decide +kernel) (by decide +kernel)
theorem k_455 : Cond.methodLink "SharedMemoryModel" 63 y_M_number ∈ gt := gt_i 455 (by decide +kernel) (by decide +kernel)
theorem k_457 : Cond.instanceMethod y_M_number ∈ gt := gt_i 457 (by decide +kernel) (by decide +kernel)
theorem k_458 : Cond.code y_M_number prog_4_method_8_code 7 (some .long) ∈ gt := gt_i 458 (by decide +kernel) (by decide +kernel)
theorem k_459 : Cond.constantLong "SharedMemoryModel" 43 256 ∈ gt := gt_i 459 (by decide +kernel) (by decide +kernel)
theorem k_460 : Cond.methodLink "SharedMemoryModel" 45 y_M_get ∈ gt := gt_i 460 (by decide +kernel) (by decide +kernel)
theorem k_462 : Cond.instanceMethod y_M_get ∈ gt := gt_i 462 (by decide +kernel) (by decide +kernel)
theorem k_463 : Cond.code y_M_get prog_4_method_6_code 4 (some .int) ∈ gt := gt_i 463 (by decide +kernel) (by decide +kernel)
theorem k_464 : Cond.methodLink "SharedMemoryLaw" 74 y_M_store ∈ gt := gt_i 464 (by decide +kernel) (by decide +kernel)
theorem k_465 : Cond.instanceMethod y_M_store ∈ gt := gt_i 465 (by decide +kernel) (by decide +kernel)
theorem k_466 : Cond.selects "SharedMemoryModel" y_M_store y_M_store ∈ gt := gt_i 466 (by decide +kernel) (by decide +kernel)
theorem k_467 : Cond.code y_M_store prog_4_method_12_code 6 none ∈ gt := gt_i 467 (by decide +kernel) (by decide +kernel)
theorem k_468 : Cond.methodLink "SharedMemoryModel" 67 y_M_keep ∈ gt := gt_i 468 (by decide +kernel) (by decide +kernel)
theorem k_470 : Cond.instanceMethod y_M_keep ∈ gt := gt_i 470 (by decide +kernel) (by decide +kernel)
theorem k_471 : Cond.code y_M_keep prog_4_method_9_code 10 none ∈ gt := gt_i 471 (by decide +kernel) (by decide +kernel)
theorem k_472 : Cond.methodLink "SharedMemoryModel" 49 y_M_set ∈ gt := gt_i 472 (by decide +kernel) (by decide +kernel)
theorem k_474 : Cond.instanceMethod y_M_set ∈ gt := gt_i 474 (by decide +kernel) (by decide +kernel)
theorem k_475 : Cond.code y_M_set prog_4_method_7_code 6 none ∈ gt := gt_i 475 (by decide +kernel) (by decide +kernel)
theorem k_476 : Cond.constantLong "SharedMemoryModel" 39 255 ∈ gt := gt_i 476 (by decide +kernel) (by decide +kernel)
theorem k_477 : Cond.constantLong "SharedMemoryModel" 41 (-1) ∈ gt := gt_i 477 (by decide +kernel) (by decide +kernel)
theorem k_478 : Cond.constantLong "SharedMemoryModel" 53 8 ∈ gt := gt_i 478 (by decide +kernel) (by decide +kernel)
theorem k_479 : Cond.methodLink "SharedMemoryLaw" 78 y_M_fill ∈ gt := gt_i 479 (by decide +kernel) (by decide +kernel)
theorem k_480 : Cond.instanceMethod y_M_fill ∈ gt := gt_i 480 (by decide +kernel) (by decide +kernel)
theorem k_481 : Cond.selects "SharedMemoryModel" y_M_fill y_M_fill ∈ gt := gt_i 481 (by decide +kernel) (by decide +kernel)
theorem k_482 : Cond.code y_M_fill prog_4_method_13_code 10 none ∈ gt := gt_i 482 (by decide +kernel) (by decide +kernel)
theorem k_483 : Cond.methodLink "SharedMemoryLaw" 82 y_M_atomic ∈ gt := gt_i 483 (by decide +kernel) (by decide +kernel)
theorem k_484 : Cond.instanceMethod y_M_atomic ∈ gt := gt_i 484 (by decide +kernel) (by decide +kernel)
theorem k_485 : Cond.selects "SharedMemoryModel" y_M_atomic y_M_atomic ∈ gt := gt_i 485 (by decide +kernel) (by decide +kernel)
theorem k_486 : Cond.code y_M_atomic prog_4_method_18_code 11 (some .long) ∈ gt := gt_i 486 (by decide +kernel) (by decide +kernel)
theorem k_487 : Cond.methodLink "SharedMemoryModel" 75 y_M_isKind ∈ gt := gt_i 487 (by decide +kernel) (by decide +kernel)
theorem k_488 : Cond.static y_M_isKind ∈ gt := gt_i 488 (by decide +kernel) (by decide +kernel)
theorem k_489 : Cond.code y_M_isKind prog_4_method_17_code 1 (some .boolean) ∈ gt := gt_i 489 (by decide +kernel) (by decide +kernel)
theorem k_490 : Cond.methodLink "SharedMemoryModel" 78 y_M_signed ∈ gt := gt_i 490 (by decide +kernel) (by decide +kernel)
theorem k_491 : Cond.static y_M_signed ∈ gt := gt_i 491 (by decide +kernel) (by decide +kernel)
theorem k_492 : Cond.code y_M_signed prog_4_method_14_code 3 (some .long) ∈ gt := gt_i 492 (by decide +kernel) (by decide +kernel)
theorem k_493 : Cond.methodLink "SharedMemoryModel" 81 y_M_changed ∈ gt := gt_i 493 (by decide +kernel) (by decide +kernel)
theorem k_494 : Cond.static y_M_changed ∈ gt := gt_i 494 (by decide +kernel) (by decide +kernel)
theorem k_495 : Cond.code y_M_changed prog_4_method_16_code 5 (some .long) ∈ gt := gt_i 495 (by decide +kernel) (by decide +kernel)
theorem k_496 : Cond.methodLink "SharedMemoryModel" 71 y_M_isLess ∈ gt := gt_i 496 (by decide +kernel) (by decide +kernel)
theorem k_497 : Cond.static y_M_isLess ∈ gt := gt_i 497 (by decide +kernel) (by decide +kernel)
theorem k_498 : Cond.code y_M_isLess prog_4_method_15_code 5 (some .boolean) ∈ gt := gt_i 498 (by decide +kernel) (by decide +kernel)
theorem k_499 : Cond.methodLink "SharedMemoryLaw" 86 y_M_drop ∈ gt := gt_i 499 (by decide +kernel) (by decide +kernel)
theorem k_500 : Cond.instanceMethod y_M_drop ∈ gt := gt_i 500 (by decide +kernel) (by decide +kernel)
theorem k_501 : Cond.selects "SharedMemoryModel" y_M_drop y_M_drop ∈ gt := gt_i 501 (by decide +kernel) (by decide +kernel)
theorem k_502 : Cond.code y_M_drop prog_4_method_19_code 3 (some .boolean) ∈ gt := gt_i 502 (by decide +kernel) (by decide +kernel)
theorem k_503 : Cond.methodLink "SharedMemoryLaw" 89 y_M_reserved ∈ gt := gt_i 503 (by decide +kernel) (by decide +kernel)
theorem k_504 : Cond.instanceMethod y_M_reserved ∈ gt := gt_i 504 (by decide +kernel) (by decide +kernel)
theorem k_505 : Cond.selects "SharedMemoryModel" y_M_reserved y_M_reserved ∈ gt := gt_i 505 (by decide +kernel) (by decide +kernel)
theorem k_506 : Cond.code y_M_reserved prog_4_method_20_code 2 (some .long) ∈ gt := gt_i 506 (by decide +kernel) (by decide +kernel)
theorem k_507 : Cond.methodLink "SharedMemoryLaw" 92 y_M_writes ∈ gt := gt_i 507 (by decide +kernel) (by decide +kernel)
theorem k_508 : Cond.instanceMethod y_M_writes ∈ gt := gt_i 508 (by decide +kernel) (by decide +kernel)
theorem k_509 : Cond.selects "SharedMemoryModel" y_M_writes y_M_writes ∈ gt := gt_i 509 (by decide +kernel) (by decide +kernel)
theorem k_510 : Cond.code y_M_writes prog_4_method_22_code 2 (some .long) ∈ gt := gt_i 510 (by decide +kernel) (by decide +kernel)
theorem k_511 : Cond.methodLink "SharedMemoryModel" 85 y_M_noPage ∈ gt := gt_i 511 (by decide +kernel) (by decide +kernel)
theorem k_513 : Cond.instanceMethod y_M_noPage ∈ gt := gt_i 513 (by decide +kernel) (by decide +kernel)
theorem k_514 : Cond.code y_M_noPage prog_4_method_21_code 2 (some .boolean) ∈ gt := gt_i 514 (by decide +kernel) (by decide +kernel)
theorem k_515 : Cond.methodLink "SharedMemoryLaw" 95 y_M_sum ∈ gt := gt_i 515 (by decide +kernel) (by decide +kernel)
theorem k_516 : Cond.instanceMethod y_M_sum ∈ gt := gt_i 516 (by decide +kernel) (by decide +kernel)
theorem k_517 : Cond.selects "SharedMemoryModel" y_M_sum y_M_sum ∈ gt := gt_i 517 (by decide +kernel) (by decide +kernel)
theorem k_518 : Cond.code y_M_sum prog_4_method_23_code 5 (some .long) ∈ gt := gt_i 518 (by decide +kernel) (by decide +kernel)
theorem k_519 : Cond.methodLink "SharedMemoryLaw" 99 y_M_used ∈ gt := gt_i 519 (by decide +kernel) (by decide +kernel)
theorem k_520 : Cond.instanceMethod y_M_used ∈ gt := gt_i 520 (by decide +kernel) (by decide +kernel)
theorem k_521 : Cond.selects "SharedMemoryModel" y_M_used y_M_used ∈ gt := gt_i 521 (by decide +kernel) (by decide +kernel)
theorem k_522 : Cond.code y_M_used prog_4_method_24_code 5 (some .int) ∈ gt := gt_i 522 (by decide +kernel) (by decide +kernel)
theorem k_523 : Cond.constantLong "SharedMemoryLaw" 62 4294967295 ∈ gt := gt_i 523 (by decide +kernel) (by decide +kernel)
theorem k_0 : Cond.selects "java/lang/Throwable" ⟨"java/lang/Throwable", "fillInStackTrace", "(I)Ljava/lang/Throwable;"⟩ ⟨"java/lang/Throwable", "fillInStackTrace", "(I)Ljava/lang/Throwable;"⟩ ∈ gt := gt_i 0 (by decide +kernel) (by decide +kernel)
theorem k_1 : Cond.selects "SharedMemory" y_S_isInMemory y_S_isInMemory ∈ gt := gt_i 1 (by decide +kernel) (by decide +kernel)
theorem k_2 : Cond.selects "SharedMemory" y_S_endAddress y_S_endAddress ∈ gt := gt_i 2 (by decide +kernel) (by decide +kernel)
theorem k_3 : Cond.selects "SharedMemory" y_S_numberAt y_S_numberAt ∈ gt := gt_i 3 (by decide +kernel) (by decide +kernel)
theorem k_4 : Cond.selects "SharedMemory" y_S_wordAt y_S_wordAt ∈ gt := gt_i 4 (by decide +kernel) (by decide +kernel)
theorem k_5 : Cond.selects "SharedMemory" y_S_putNumber y_S_putNumber ∈ gt := gt_i 5 (by decide +kernel) (by decide +kernel)
theorem k_6 : Cond.selects "SharedMemory" y_S_mergeWord y_S_mergeWord ∈ gt := gt_i 6 (by decide +kernel) (by decide +kernel)
theorem k_7 : Cond.selects "SharedMemory" y_S_pageToWrite y_S_pageToWrite ∈ gt := gt_i 7 (by decide +kernel) (by decide +kernel)
theorem k_8 : Cond.selects "SharedMemory$Page" y_P_writtenOutWords y_P_writtenOutWords ∈ gt := gt_i 8 (by decide +kernel) (by decide +kernel)
theorem k_9 : Cond.selects "SharedMemory" y_S_noteStored y_S_noteStored ∈ gt := gt_i 9 (by decide +kernel) (by decide +kernel)
theorem k_10 : Cond.selects "SharedMemory" y_S_loseReservations y_S_loseReservations ∈ gt := gt_i 10 (by decide +kernel) (by decide +kernel)
theorem k_11 : Cond.selects "SharedMemory" y_S_putSameBytes y_S_putSameBytes ∈ gt := gt_i 11 (by decide +kernel) (by decide +kernel)
theorem k_12 : Cond.selects "SharedMemory$Page" y_P_makeEven y_P_makeEven ∈ gt := gt_i 12 (by decide +kernel) (by decide +kernel)
theorem k_13 : Cond.selects "SharedMemory" y_S_reserve y_S_reserve ∈ gt := gt_i 13 (by decide +kernel) (by decide +kernel)
theorem k_14 : Cond.selects "SharedMemory" y_S_storeIfReserved y_S_storeIfReserved ∈ gt := gt_i 14 (by decide +kernel) (by decide +kernel)
theorem k_15 : Cond.selects "SharedMemory" y_S_change y_S_change ∈ gt := gt_i 15 (by decide +kernel) (by decide +kernel)
theorem k_16 : Cond.selects "SharedMemory" y_S_isPage y_S_isPage ∈ gt := gt_i 16 (by decide +kernel) (by decide +kernel)
theorem k_17 : Cond.selects "SharedMemoryModel" y_M_areBytes y_M_areBytes ∈ gt := gt_i 17 (by decide +kernel) (by decide +kernel)
theorem k_18 : Cond.selects "SharedMemoryModel" y_M_isByte y_M_isByte ∈ gt := gt_i 18 (by decide +kernel) (by decide +kernel)
theorem k_19 : Cond.selects "SharedMemoryModel" y_M_number y_M_number ∈ gt := gt_i 19 (by decide +kernel) (by decide +kernel)
theorem k_20 : Cond.selects "SharedMemoryModel" y_M_get y_M_get ∈ gt := gt_i 20 (by decide +kernel) (by decide +kernel)
theorem k_21 : Cond.selects "SharedMemoryModel" y_M_keep y_M_keep ∈ gt := gt_i 21 (by decide +kernel) (by decide +kernel)
theorem k_22 : Cond.selects "SharedMemoryModel" y_M_set y_M_set ∈ gt := gt_i 22 (by decide +kernel) (by decide +kernel)
theorem k_23 : Cond.selects "SharedMemoryModel" y_M_noPage y_M_noPage ∈ gt := gt_i 23 (by decide +kernel) (by decide +kernel)
theorem i_P : ∀ w ∈ u_ws R_P T_P 5, w ∈ gt := by
  intro w hw
  obtain ⟨k, hk, rfl⟩ := List.mem_map.mp hw
  have hk := List.mem_range.mp hk
  rcases (show k = 0 ∨ k = 1 ∨ k = 2 ∨ k = 3 ∨ k = 4 by omega) with rfl | rfl | rfl | rfl | rfl
  · exact k_233
  · exact k_235
  · exact k_237
  · exact k_239
  · exact k_241
theorem i_S : ∀ w ∈ u_ws R_S T_S 4, w ∈ gt := by
  intro w hw
  obtain ⟨k, hk, rfl⟩ := List.mem_map.mp hw
  have hk := List.mem_range.mp hk
  rcases (show k = 0 ∨ k = 1 ∨ k = 2 ∨ k = 3 by omega) with rfl | rfl | rfl | rfl
  · exact k_50
  · exact k_52
  · exact k_54
  · exact k_56
theorem i_M : ∀ w ∈ u_ws R_M T_M 6, w ∈ gt := by
  intro w hw
  obtain ⟨k, hk, rfl⟩ := List.mem_map.mp hw
  have hk := List.mem_range.mp hk
  rcases (show k = 0 ∨ k = 1 ∨ k = 2 ∨ k = 3 ∨ k = 4 ∨ k = 5 by omega) with rfl | rfl | rfl | rfl | rfl | rfl
  · exact k_417
  · exact k_419
  · exact k_421
  · exact k_423
  · exact k_425
  · exact k_427
end
section
theorem d_S_init_0 : decode c_S_init 0 = .ok (.aload_n 0, 1) := by decide +kernel
theorem d_S_init_1 : decode c_S_init 1 = .ok (.invokespecial 1, 3) := by decide +kernel
theorem d_S_init_4 : decode c_S_init 4 = .ok (.aload_n 0, 1) := by decide +kernel
theorem d_S_init_5 : decode c_S_init 5 = .ok (.iload_n 1, 1) := by decide +kernel
theorem d_S_init_6 : decode c_S_init 6 = .ok (.iconst 1, 1) := by decide +kernel
theorem d_S_init_7 : decode c_S_init 7 = .ok (.if_icmp .lt 14, 3) := by decide +kernel
theorem d_S_init_10 : decode c_S_init 10 = .ok (.iload_n 1, 1) := by decide +kernel
theorem d_S_init_11 : decode c_S_init 11 = .ok (.sipush 1024, 3) := by decide +kernel
theorem d_S_init_14 : decode c_S_init 14 = .ok (.if_icmp .gt 7, 3) := by decide +kernel
theorem d_S_init_17 : decode c_S_init 17 = .ok (.iload_n 1, 1) := by decide +kernel
theorem d_S_init_18 : decode c_S_init 18 = .ok (.goto 6, 3) := by decide +kernel
theorem d_S_init_21 : decode c_S_init 21 = .ok (.sipush 1024, 3) := by decide +kernel
theorem d_S_init_24 : decode c_S_init 24 = .ok (.putfield 9, 3) := by decide +kernel
theorem d_S_init_27 : decode c_S_init 27 = .ok (.aload_n 0, 1) := by decide +kernel
theorem d_S_init_28 : decode c_S_init 28 = .ok (.aload_n 0, 1) := by decide +kernel
theorem d_S_init_29 : decode c_S_init 29 = .ok (.getfield 9, 3) := by decide +kernel
theorem d_S_init_32 : decode c_S_init 32 = .ok (.anewarray 13, 3) := by decide +kernel
theorem d_S_init_35 : decode c_S_init 35 = .ok (.putfield 15, 3) := by decide +kernel
theorem d_S_init_38 : decode c_S_init 38 = .ok (.aload_n 0, 1) := by decide +kernel
theorem d_S_init_39 : decode c_S_init 39 = .ok (.iconst 4, 1) := by decide +kernel
theorem d_S_init_40 : decode c_S_init 40 = .ok (.newarray .long, 2) := by decide +kernel
theorem d_S_init_42 : decode c_S_init 42 = .ok (.putfield 19, 3) := by decide +kernel
theorem d_S_init_45 : decode c_S_init 45 = .ok (.aload_n 0, 1) := by decide +kernel
theorem d_S_init_46 : decode c_S_init 46 = .ok (.iconst 4, 1) := by decide +kernel
theorem d_S_init_47 : decode c_S_init 47 = .ok (.newarray .int, 2) := by decide +kernel
theorem d_S_init_49 : decode c_S_init 49 = .ok (.putfield 23, 3) := by decide +kernel
theorem d_S_init_52 : decode c_S_init 52 = .ok (.return_, 1) := by decide +kernel
theorem d_S_pages_0 : decode c_S_pages 0 = .ok (.aload_n 0, 1) := by decide +kernel
theorem d_S_pages_1 : decode c_S_pages 1 = .ok (.getfield 9, 3) := by decide +kernel
theorem d_S_pages_4 : decode c_S_pages 4 = .ok (.ireturn, 1) := by decide +kernel
theorem d_S_used_0 : decode c_S_used 0 = .ok (.iconst 0, 1) := by decide +kernel
theorem d_S_used_1 : decode c_S_used 1 = .ok (.istore_n 1, 1) := by decide +kernel
theorem d_S_used_2 : decode c_S_used 2 = .ok (.iconst 0, 1) := by decide +kernel
theorem d_S_used_3 : decode c_S_used 3 = .ok (.istore_n 2, 1) := by decide +kernel
theorem d_S_used_4 : decode c_S_used 4 = .ok (.iload_n 2, 1) := by decide +kernel
theorem d_S_used_5 : decode c_S_used 5 = .ok (.aload_n 0, 1) := by decide +kernel
theorem d_S_used_6 : decode c_S_used 6 = .ok (.getfield 9, 3) := by decide +kernel
theorem d_S_used_9 : decode c_S_used 9 = .ok (.if_icmp .ge 30, 3) := by decide +kernel
theorem d_S_used_12 : decode c_S_used 12 = .ok (.aload_n 0, 1) := by decide +kernel
theorem d_S_used_13 : decode c_S_used 13 = .ok (.getfield 15, 3) := by decide +kernel
theorem d_S_used_16 : decode c_S_used 16 = .ok (.iload_n 2, 1) := by decide +kernel
theorem d_S_used_17 : decode c_S_used 17 = .ok (.aaload, 1) := by decide +kernel
theorem d_S_used_18 : decode c_S_used 18 = .ok (.astore_n 3, 1) := by decide +kernel
theorem d_S_used_19 : decode c_S_used 19 = .ok (.aload_n 3, 1) := by decide +kernel
theorem d_S_used_20 : decode c_S_used 20 = .ok (.ifnull 13, 3) := by decide +kernel
theorem d_S_used_23 : decode c_S_used 23 = .ok (.aload_n 3, 1) := by decide +kernel
theorem d_S_used_24 : decode c_S_used 24 = .ok (.invokevirtual 115, 3) := by decide +kernel
theorem d_S_used_27 : decode c_S_used 27 = .ok (.ifCond .ne 6, 3) := by decide +kernel
theorem d_S_used_30 : decode c_S_used 30 = .ok (.iinc 1 1, 3) := by decide +kernel
theorem d_S_used_33 : decode c_S_used 33 = .ok (.iinc 2 1, 3) := by decide +kernel
theorem d_S_used_36 : decode c_S_used 36 = .ok (.goto (-32), 3) := by decide +kernel
theorem d_S_used_39 : decode c_S_used 39 = .ok (.iload_n 1, 1) := by decide +kernel
theorem d_S_used_40 : decode c_S_used 40 = .ok (.ireturn, 1) := by decide +kernel
theorem d_P_isBlank_0 : decode c_P_isBlank 0 = .ok (.aload_n 0, 1) := by decide +kernel
theorem d_P_isBlank_1 : decode c_P_isBlank 1 = .ok (.getfield 19, 3) := by decide +kernel
theorem d_P_isBlank_4 : decode c_P_isBlank 4 = .ok (.ifCond .ne 7, 3) := by decide +kernel
theorem d_P_isBlank_7 : decode c_P_isBlank 7 = .ok (.iconst 1, 1) := by decide +kernel
theorem d_P_isBlank_8 : decode c_P_isBlank 8 = .ok (.goto 4, 3) := by decide +kernel
theorem d_P_isBlank_11 : decode c_P_isBlank 11 = .ok (.iconst 0, 1) := by decide +kernel
theorem d_P_isBlank_12 : decode c_P_isBlank 12 = .ok (.ireturn, 1) := by decide +kernel
theorem d_S_load_0 : decode c_S_load 0 = .ok (.iload_n 3, 1) := by decide +kernel
theorem d_S_load_1 : decode c_S_load 1 = .ok (.invokestatic 27, 3) := by decide +kernel
theorem d_S_load_4 : decode c_S_load 4 = .ok (.ifCond .ne 13, 3) := by decide +kernel
theorem d_S_load_7 : decode c_S_load 7 = .ok (.new 31, 3) := by decide +kernel
theorem d_S_load_10 : decode c_S_load 10 = .ok (.dup, 1) := by decide +kernel
theorem d_S_load_11 : decode c_S_load 11 = .ok (.ldc 33, 2) := by decide +kernel
theorem d_S_load_13 : decode c_S_load 13 = .ok (.invokespecial 35, 3) := by decide +kernel
theorem d_S_load_16 : decode c_S_load 16 = .ok (.athrow, 1) := by decide +kernel
theorem d_S_load_17 : decode c_S_load 17 = .ok (.aload_n 0, 1) := by decide +kernel
theorem d_S_load_18 : decode c_S_load 18 = .ok (.lload_n 1, 1) := by decide +kernel
theorem d_S_load_19 : decode c_S_load 19 = .ok (.iload_n 3, 1) := by decide +kernel
theorem d_S_load_20 : decode c_S_load 20 = .ok (.invokevirtual 38, 3) := by decide +kernel
theorem d_S_load_23 : decode c_S_load 23 = .ok (.ifCond .ne 13, 3) := by decide +kernel
theorem d_S_load_26 : decode c_S_load 26 = .ok (.new 42, 3) := by decide +kernel
theorem d_S_load_29 : decode c_S_load 29 = .ok (.dup, 1) := by decide +kernel
theorem d_S_load_30 : decode c_S_load 30 = .ok (.ldc 44, 2) := by decide +kernel
theorem d_S_load_32 : decode c_S_load 32 = .ok (.invokespecial 46, 3) := by decide +kernel
theorem d_S_load_35 : decode c_S_load 35 = .ok (.athrow, 1) := by decide +kernel
theorem d_S_load_36 : decode c_S_load 36 = .ok (.aload_n 0, 1) := by decide +kernel
theorem d_S_load_37 : decode c_S_load 37 = .ok (.lload_n 1, 1) := by decide +kernel
theorem d_S_load_38 : decode c_S_load 38 = .ok (.invokestatic 47, 3) := by decide +kernel
theorem d_S_load_41 : decode c_S_load 41 = .ok (.iload_n 3, 1) := by decide +kernel
theorem d_S_load_42 : decode c_S_load 42 = .ok (.invokevirtual 51, 3) := by decide +kernel
theorem d_S_load_45 : decode c_S_load 45 = .ok (.lreturn, 1) := by decide +kernel
theorem d_S_isSize_0 : decode c_S_isSize 0 = .ok (.iload_n 0, 1) := by decide +kernel
theorem d_S_isSize_1 : decode c_S_isSize 1 = .ok (.iconst 1, 1) := by decide +kernel
theorem d_S_isSize_2 : decode c_S_isSize 2 = .ok (.if_icmp .eq 19, 3) := by decide +kernel
theorem d_S_isSize_5 : decode c_S_isSize 5 = .ok (.iload_n 0, 1) := by decide +kernel
theorem d_S_isSize_6 : decode c_S_isSize 6 = .ok (.iconst 2, 1) := by decide +kernel
theorem d_S_isSize_7 : decode c_S_isSize 7 = .ok (.if_icmp .eq 14, 3) := by decide +kernel
theorem d_S_isSize_10 : decode c_S_isSize 10 = .ok (.iload_n 0, 1) := by decide +kernel
theorem d_S_isSize_11 : decode c_S_isSize 11 = .ok (.iconst 4, 1) := by decide +kernel
theorem d_S_isSize_12 : decode c_S_isSize 12 = .ok (.if_icmp .eq 9, 3) := by decide +kernel
theorem d_S_isSize_15 : decode c_S_isSize 15 = .ok (.iload_n 0, 1) := by decide +kernel
theorem d_S_isSize_16 : decode c_S_isSize 16 = .ok (.bipush 8, 2) := by decide +kernel
theorem d_S_isSize_18 : decode c_S_isSize 18 = .ok (.if_icmp .ne 7, 3) := by decide +kernel
theorem d_S_isSize_21 : decode c_S_isSize 21 = .ok (.iconst 1, 1) := by decide +kernel
theorem d_S_isSize_22 : decode c_S_isSize 22 = .ok (.goto 4, 3) := by decide +kernel
theorem d_S_isSize_25 : decode c_S_isSize 25 = .ok (.iconst 0, 1) := by decide +kernel
theorem d_S_isSize_26 : decode c_S_isSize 26 = .ok (.ireturn, 1) := by decide +kernel
theorem d_S_isInMemory_0 : decode c_S_isInMemory 0 = .ok (.lload_n 1, 1) := by decide +kernel
theorem d_S_isInMemory_1 : decode c_S_isInMemory 1 = .ok (.ldc2_w 61, 3) := by decide +kernel
theorem d_S_isInMemory_4 : decode c_S_isInMemory 4 = .ok (.lcmp, 1) := by decide +kernel
theorem d_S_isInMemory_5 : decode c_S_isInMemory 5 = .ok (.ifCond .lt 19, 3) := by decide +kernel
theorem d_S_isInMemory_8 : decode c_S_isInMemory 8 = .ok (.lload_n 1, 1) := by decide +kernel
theorem d_S_isInMemory_9 : decode c_S_isInMemory 9 = .ok (.aload_n 0, 1) := by decide +kernel
theorem d_S_isInMemory_10 : decode c_S_isInMemory 10 = .ok (.invokevirtual 63, 3) := by decide +kernel
theorem d_S_isInMemory_13 : decode c_S_isInMemory 13 = .ok (.iload_n 3, 1) := by decide +kernel
theorem d_S_isInMemory_14 : decode c_S_isInMemory 14 = .ok (.i2l, 1) := by decide +kernel
theorem d_S_isInMemory_15 : decode c_S_isInMemory 15 = .ok (.lsub, 1) := by decide +kernel
theorem d_S_isInMemory_16 : decode c_S_isInMemory 16 = .ok (.lcmp, 1) := by decide +kernel
theorem d_S_isInMemory_17 : decode c_S_isInMemory 17 = .ok (.ifCond .gt 7, 3) := by decide +kernel
theorem d_S_isInMemory_20 : decode c_S_isInMemory 20 = .ok (.iconst 1, 1) := by decide +kernel
theorem d_S_isInMemory_21 : decode c_S_isInMemory 21 = .ok (.goto 4, 3) := by decide +kernel
theorem d_S_isInMemory_24 : decode c_S_isInMemory 24 = .ok (.iconst 0, 1) := by decide +kernel
theorem d_S_isInMemory_25 : decode c_S_isInMemory 25 = .ok (.ireturn, 1) := by decide +kernel
theorem d_S_endAddress_0 : decode c_S_endAddress 0 = .ok (.ldc2_w 61, 3) := by decide +kernel
theorem d_S_endAddress_3 : decode c_S_endAddress 3 = .ok (.aload_n 0, 1) := by decide +kernel
theorem d_S_endAddress_4 : decode c_S_endAddress 4 = .ok (.getfield 9, 3) := by decide +kernel
theorem d_S_endAddress_7 : decode c_S_endAddress 7 = .ok (.i2l, 1) := by decide +kernel
theorem d_S_endAddress_8 : decode c_S_endAddress 8 = .ok (.ldc2_w 119, 3) := by decide +kernel
theorem d_S_endAddress_11 : decode c_S_endAddress 11 = .ok (.lmul, 1) := by decide +kernel
theorem d_S_endAddress_12 : decode c_S_endAddress 12 = .ok (.ladd, 1) := by decide +kernel
theorem d_S_endAddress_13 : decode c_S_endAddress 13 = .ok (.lreturn, 1) := by decide +kernel
theorem d_S_placeOf_0 : decode c_S_placeOf 0 = .ok (.lload_n 0, 1) := by decide +kernel
theorem d_S_placeOf_1 : decode c_S_placeOf 1 = .ok (.ldc2_w 61, 3) := by decide +kernel
theorem d_S_placeOf_4 : decode c_S_placeOf 4 = .ok (.lsub, 1) := by decide +kernel
theorem d_S_placeOf_5 : decode c_S_placeOf 5 = .ok (.l2i, 1) := by decide +kernel
theorem d_S_placeOf_6 : decode c_S_placeOf 6 = .ok (.ireturn, 1) := by decide +kernel
theorem d_S_numberAt_0 : decode c_S_numberAt 0 = .ok (.iload_n 1, 1) := by decide +kernel
theorem d_S_numberAt_1 : decode c_S_numberAt 1 = .ok (.iconst 3, 1) := by decide +kernel
theorem d_S_numberAt_2 : decode c_S_numberAt 2 = .ok (.ishr, 1) := by decide +kernel
theorem d_S_numberAt_3 : decode c_S_numberAt 3 = .ok (.istore_n 3, 1) := by decide +kernel
theorem d_S_numberAt_4 : decode c_S_numberAt 4 = .ok (.iload_n 1, 1) := by decide +kernel
theorem d_S_numberAt_5 : decode c_S_numberAt 5 = .ok (.invokestatic 136, 3) := by decide +kernel
theorem d_S_numberAt_8 : decode c_S_numberAt 8 = .ok (.istore 4, 2) := by decide +kernel
theorem d_S_numberAt_10 : decode c_S_numberAt 10 = .ok (.aload_n 0, 1) := by decide +kernel
theorem d_S_numberAt_11 : decode c_S_numberAt 11 = .ok (.iload_n 3, 1) := by decide +kernel
theorem d_S_numberAt_12 : decode c_S_numberAt 12 = .ok (.invokevirtual 140, 3) := by decide +kernel
theorem d_S_numberAt_15 : decode c_S_numberAt 15 = .ok (.iload 4, 2) := by decide +kernel
theorem d_S_numberAt_17 : decode c_S_numberAt 17 = .ok (.lushr, 1) := by decide +kernel
theorem d_S_numberAt_18 : decode c_S_numberAt 18 = .ok (.lstore 5, 2) := by decide +kernel
theorem d_S_numberAt_20 : decode c_S_numberAt 20 = .ok (.iload 4, 2) := by decide +kernel
theorem d_S_numberAt_22 : decode c_S_numberAt 22 = .ok (.bipush 8, 2) := by decide +kernel
theorem d_S_numberAt_24 : decode c_S_numberAt 24 = .ok (.iload_n 2, 1) := by decide +kernel
theorem d_S_numberAt_25 : decode c_S_numberAt 25 = .ok (.imul, 1) := by decide +kernel
theorem d_S_numberAt_26 : decode c_S_numberAt 26 = .ok (.iadd, 1) := by decide +kernel
theorem d_S_numberAt_27 : decode c_S_numberAt 27 = .ok (.bipush 64, 2) := by decide +kernel
theorem d_S_numberAt_29 : decode c_S_numberAt 29 = .ok (.if_icmp .le 21, 3) := by decide +kernel
theorem d_S_numberAt_32 : decode c_S_numberAt 32 = .ok (.lload 5, 2) := by decide +kernel
theorem d_S_numberAt_34 : decode c_S_numberAt 34 = .ok (.aload_n 0, 1) := by decide +kernel
theorem d_S_numberAt_35 : decode c_S_numberAt 35 = .ok (.iload_n 3, 1) := by decide +kernel
theorem d_S_numberAt_36 : decode c_S_numberAt 36 = .ok (.iconst 1, 1) := by decide +kernel
theorem d_S_numberAt_37 : decode c_S_numberAt 37 = .ok (.iadd, 1) := by decide +kernel
theorem d_S_numberAt_38 : decode c_S_numberAt 38 = .ok (.invokevirtual 140, 3) := by decide +kernel
theorem d_S_numberAt_41 : decode c_S_numberAt 41 = .ok (.bipush 64, 2) := by decide +kernel
theorem d_S_numberAt_43 : decode c_S_numberAt 43 = .ok (.iload 4, 2) := by decide +kernel
theorem d_S_numberAt_45 : decode c_S_numberAt 45 = .ok (.isub, 1) := by decide +kernel
theorem d_S_numberAt_46 : decode c_S_numberAt 46 = .ok (.lshl, 1) := by decide +kernel
theorem d_S_numberAt_47 : decode c_S_numberAt 47 = .ok (.lor, 1) := by decide +kernel
theorem d_S_numberAt_48 : decode c_S_numberAt 48 = .ok (.lstore 5, 2) := by decide +kernel
theorem d_S_numberAt_50 : decode c_S_numberAt 50 = .ok (.lload 5, 2) := by decide +kernel
theorem d_S_numberAt_52 : decode c_S_numberAt 52 = .ok (.iload_n 2, 1) := by decide +kernel
theorem d_S_numberAt_53 : decode c_S_numberAt 53 = .ok (.invokestatic 141, 3) := by decide +kernel
theorem d_S_numberAt_56 : decode c_S_numberAt 56 = .ok (.land, 1) := by decide +kernel
theorem d_S_numberAt_57 : decode c_S_numberAt 57 = .ok (.lreturn, 1) := by decide +kernel
theorem d_S_shiftInWord_0 : decode c_S_shiftInWord 0 = .ok (.iload_n 0, 1) := by decide +kernel
theorem d_S_shiftInWord_1 : decode c_S_shiftInWord 1 = .ok (.bipush 7, 2) := by decide +kernel
theorem d_S_shiftInWord_3 : decode c_S_shiftInWord 3 = .ok (.iand, 1) := by decide +kernel
theorem d_S_shiftInWord_4 : decode c_S_shiftInWord 4 = .ok (.bipush 8, 2) := by decide +kernel
theorem d_S_shiftInWord_6 : decode c_S_shiftInWord 6 = .ok (.imul, 1) := by decide +kernel
theorem d_S_shiftInWord_7 : decode c_S_shiftInWord 7 = .ok (.ireturn, 1) := by decide +kernel
theorem d_S_wordAt_0 : decode c_S_wordAt 0 = .ok (.aload_n 0, 1) := by decide +kernel
theorem d_S_wordAt_1 : decode c_S_wordAt 1 = .ok (.getfield 15, 3) := by decide +kernel
theorem d_S_wordAt_4 : decode c_S_wordAt 4 = .ok (.iload_n 1, 1) := by decide +kernel
theorem d_S_wordAt_5 : decode c_S_wordAt 5 = .ok (.bipush 9, 2) := by decide +kernel
theorem d_S_wordAt_7 : decode c_S_wordAt 7 = .ok (.ishr, 1) := by decide +kernel
theorem d_S_wordAt_8 : decode c_S_wordAt 8 = .ok (.aaload, 1) := by decide +kernel
theorem d_S_wordAt_9 : decode c_S_wordAt 9 = .ok (.astore_n 2, 1) := by decide +kernel
theorem d_S_wordAt_10 : decode c_S_wordAt 10 = .ok (.aload_n 2, 1) := by decide +kernel
theorem d_S_wordAt_11 : decode c_S_wordAt 11 = .ok (.ifnonnull 7, 3) := by decide +kernel
theorem d_S_wordAt_14 : decode c_S_wordAt 14 = .ok (.lconst 0, 1) := by decide +kernel
theorem d_S_wordAt_15 : decode c_S_wordAt 15 = .ok (.goto 12, 3) := by decide +kernel
theorem d_S_wordAt_18 : decode c_S_wordAt 18 = .ok (.aload_n 2, 1) := by decide +kernel
theorem d_S_wordAt_19 : decode c_S_wordAt 19 = .ok (.iload_n 1, 1) := by decide +kernel
theorem d_S_wordAt_20 : decode c_S_wordAt 20 = .ok (.sipush 511, 3) := by decide +kernel
theorem d_S_wordAt_23 : decode c_S_wordAt 23 = .ok (.iand, 1) := by decide +kernel
theorem d_S_wordAt_24 : decode c_S_wordAt 24 = .ok (.invokevirtual 123, 3) := by decide +kernel
theorem d_S_wordAt_27 : decode c_S_wordAt 27 = .ok (.lreturn, 1) := by decide +kernel
theorem d_P_wordAt_0 : decode c_P_wordAt 0 = .ok (.aload_n 0, 1) := by decide +kernel
theorem d_P_wordAt_1 : decode c_P_wordAt 1 = .ok (.getfield 9, 3) := by decide +kernel
theorem d_P_wordAt_4 : decode c_P_wordAt 4 = .ok (.ifCond .ne 10, 3) := by decide +kernel
theorem d_P_wordAt_7 : decode c_P_wordAt 7 = .ok (.aload_n 0, 1) := by decide +kernel
theorem d_P_wordAt_8 : decode c_P_wordAt 8 = .ok (.getfield 23, 3) := by decide +kernel
theorem d_P_wordAt_11 : decode c_P_wordAt 11 = .ok (.ifnonnull 10, 3) := by decide +kernel
theorem d_P_wordAt_14 : decode c_P_wordAt 14 = .ok (.aload_n 0, 1) := by decide +kernel
theorem d_P_wordAt_15 : decode c_P_wordAt 15 = .ok (.getfield 27, 3) := by decide +kernel
theorem d_P_wordAt_18 : decode c_P_wordAt 18 = .ok (.goto 9, 3) := by decide +kernel
theorem d_P_wordAt_21 : decode c_P_wordAt 21 = .ok (.aload_n 0, 1) := by decide +kernel
theorem d_P_wordAt_22 : decode c_P_wordAt 22 = .ok (.getfield 23, 3) := by decide +kernel
theorem d_P_wordAt_25 : decode c_P_wordAt 25 = .ok (.iload_n 1, 1) := by decide +kernel
theorem d_P_wordAt_26 : decode c_P_wordAt 26 = .ok (.laload, 1) := by decide +kernel
theorem d_P_wordAt_27 : decode c_P_wordAt 27 = .ok (.lreturn, 1) := by decide +kernel
theorem d_S_lowestBytes_0 : decode c_S_lowestBytes 0 = .ok (.ldc2_w 121, 3) := by decide +kernel
theorem d_S_lowestBytes_3 : decode c_S_lowestBytes 3 = .ok (.bipush 64, 2) := by decide +kernel
theorem d_S_lowestBytes_5 : decode c_S_lowestBytes 5 = .ok (.bipush 8, 2) := by decide +kernel
theorem d_S_lowestBytes_7 : decode c_S_lowestBytes 7 = .ok (.iload_n 0, 1) := by decide +kernel
theorem d_S_lowestBytes_8 : decode c_S_lowestBytes 8 = .ok (.imul, 1) := by decide +kernel
theorem d_S_lowestBytes_9 : decode c_S_lowestBytes 9 = .ok (.isub, 1) := by decide +kernel
theorem d_S_lowestBytes_10 : decode c_S_lowestBytes 10 = .ok (.lushr, 1) := by decide +kernel
theorem d_S_lowestBytes_11 : decode c_S_lowestBytes 11 = .ok (.lreturn, 1) := by decide +kernel
theorem d_S_store_0 : decode c_S_store 0 = .ok (.iload_n 3, 1) := by decide +kernel
theorem d_S_store_1 : decode c_S_store 1 = .ok (.invokestatic 27, 3) := by decide +kernel
theorem d_S_store_4 : decode c_S_store 4 = .ok (.ifCond .ne 13, 3) := by decide +kernel
theorem d_S_store_7 : decode c_S_store 7 = .ok (.new 31, 3) := by decide +kernel
theorem d_S_store_10 : decode c_S_store 10 = .ok (.dup, 1) := by decide +kernel
theorem d_S_store_11 : decode c_S_store 11 = .ok (.ldc 33, 2) := by decide +kernel
theorem d_S_store_13 : decode c_S_store 13 = .ok (.invokespecial 35, 3) := by decide +kernel
theorem d_S_store_16 : decode c_S_store 16 = .ok (.athrow, 1) := by decide +kernel
theorem d_S_store_17 : decode c_S_store 17 = .ok (.aload_n 0, 1) := by decide +kernel
theorem d_S_store_18 : decode c_S_store 18 = .ok (.lload_n 1, 1) := by decide +kernel
theorem d_S_store_19 : decode c_S_store 19 = .ok (.iload_n 3, 1) := by decide +kernel
theorem d_S_store_20 : decode c_S_store 20 = .ok (.invokevirtual 38, 3) := by decide +kernel
theorem d_S_store_23 : decode c_S_store 23 = .ok (.ifCond .ne 13, 3) := by decide +kernel
theorem d_S_store_26 : decode c_S_store 26 = .ok (.new 42, 3) := by decide +kernel
theorem d_S_store_29 : decode c_S_store 29 = .ok (.dup, 1) := by decide +kernel
theorem d_S_store_30 : decode c_S_store 30 = .ok (.ldc 44, 2) := by decide +kernel
theorem d_S_store_32 : decode c_S_store 32 = .ok (.invokespecial 46, 3) := by decide +kernel
theorem d_S_store_35 : decode c_S_store 35 = .ok (.athrow, 1) := by decide +kernel
theorem d_S_store_36 : decode c_S_store 36 = .ok (.aload_n 0, 1) := by decide +kernel
theorem d_S_store_37 : decode c_S_store 37 = .ok (.lload_n 1, 1) := by decide +kernel
theorem d_S_store_38 : decode c_S_store 38 = .ok (.invokestatic 47, 3) := by decide +kernel
theorem d_S_store_41 : decode c_S_store 41 = .ok (.iload_n 3, 1) := by decide +kernel
theorem d_S_store_42 : decode c_S_store 42 = .ok (.lload 4, 2) := by decide +kernel
theorem d_S_store_44 : decode c_S_store 44 = .ok (.invokevirtual 55, 3) := by decide +kernel
theorem d_S_store_47 : decode c_S_store 47 = .ok (.return_, 1) := by decide +kernel
theorem d_S_putNumber_0 : decode c_S_putNumber 0 = .ok (.iload_n 1, 1) := by decide +kernel
theorem d_S_putNumber_1 : decode c_S_putNumber 1 = .ok (.iconst 3, 1) := by decide +kernel
theorem d_S_putNumber_2 : decode c_S_putNumber 2 = .ok (.ishr, 1) := by decide +kernel
theorem d_S_putNumber_3 : decode c_S_putNumber 3 = .ok (.istore 5, 2) := by decide +kernel
theorem d_S_putNumber_5 : decode c_S_putNumber 5 = .ok (.iload_n 1, 1) := by decide +kernel
theorem d_S_putNumber_6 : decode c_S_putNumber 6 = .ok (.invokestatic 136, 3) := by decide +kernel
theorem d_S_putNumber_9 : decode c_S_putNumber 9 = .ok (.istore 6, 2) := by decide +kernel
theorem d_S_putNumber_11 : decode c_S_putNumber 11 = .ok (.iload_n 2, 1) := by decide +kernel
theorem d_S_putNumber_12 : decode c_S_putNumber 12 = .ok (.invokestatic 141, 3) := by decide +kernel
theorem d_S_putNumber_15 : decode c_S_putNumber 15 = .ok (.lstore 7, 2) := by decide +kernel
theorem d_S_putNumber_17 : decode c_S_putNumber 17 = .ok (.aload_n 0, 1) := by decide +kernel
theorem d_S_putNumber_18 : decode c_S_putNumber 18 = .ok (.iload 5, 2) := by decide +kernel
theorem d_S_putNumber_20 : decode c_S_putNumber 20 = .ok (.lload 7, 2) := by decide +kernel
theorem d_S_putNumber_22 : decode c_S_putNumber 22 = .ok (.iload 6, 2) := by decide +kernel
theorem d_S_putNumber_24 : decode c_S_putNumber 24 = .ok (.lshl, 1) := by decide +kernel
theorem d_S_putNumber_25 : decode c_S_putNumber 25 = .ok (.lload_n 3, 1) := by decide +kernel
theorem d_S_putNumber_26 : decode c_S_putNumber 26 = .ok (.iload 6, 2) := by decide +kernel
theorem d_S_putNumber_28 : decode c_S_putNumber 28 = .ok (.lshl, 1) := by decide +kernel
theorem d_S_putNumber_29 : decode c_S_putNumber 29 = .ok (.invokevirtual 144, 3) := by decide +kernel
theorem d_S_putNumber_32 : decode c_S_putNumber 32 = .ok (.iload 6, 2) := by decide +kernel
theorem d_S_putNumber_34 : decode c_S_putNumber 34 = .ok (.bipush 8, 2) := by decide +kernel
theorem d_S_putNumber_36 : decode c_S_putNumber 36 = .ok (.iload_n 2, 1) := by decide +kernel
theorem d_S_putNumber_37 : decode c_S_putNumber 37 = .ok (.imul, 1) := by decide +kernel
theorem d_S_putNumber_38 : decode c_S_putNumber 38 = .ok (.iadd, 1) := by decide +kernel
theorem d_S_putNumber_39 : decode c_S_putNumber 39 = .ok (.bipush 64, 2) := by decide +kernel
theorem d_S_putNumber_41 : decode c_S_putNumber 41 = .ok (.if_icmp .le 26, 3) := by decide +kernel
theorem d_S_putNumber_44 : decode c_S_putNumber 44 = .ok (.aload_n 0, 1) := by decide +kernel
theorem d_S_putNumber_45 : decode c_S_putNumber 45 = .ok (.iload 5, 2) := by decide +kernel
theorem d_S_putNumber_47 : decode c_S_putNumber 47 = .ok (.iconst 1, 1) := by decide +kernel
theorem d_S_putNumber_48 : decode c_S_putNumber 48 = .ok (.iadd, 1) := by decide +kernel
theorem d_S_putNumber_49 : decode c_S_putNumber 49 = .ok (.lload 7, 2) := by decide +kernel
theorem d_S_putNumber_51 : decode c_S_putNumber 51 = .ok (.bipush 64, 2) := by decide +kernel
theorem d_S_putNumber_53 : decode c_S_putNumber 53 = .ok (.iload 6, 2) := by decide +kernel
theorem d_S_putNumber_55 : decode c_S_putNumber 55 = .ok (.isub, 1) := by decide +kernel
theorem d_S_putNumber_56 : decode c_S_putNumber 56 = .ok (.lushr, 1) := by decide +kernel
theorem d_S_putNumber_57 : decode c_S_putNumber 57 = .ok (.lload_n 3, 1) := by decide +kernel
theorem d_S_putNumber_58 : decode c_S_putNumber 58 = .ok (.bipush 64, 2) := by decide +kernel
theorem d_S_putNumber_60 : decode c_S_putNumber 60 = .ok (.iload 6, 2) := by decide +kernel
theorem d_S_putNumber_62 : decode c_S_putNumber 62 = .ok (.isub, 1) := by decide +kernel
theorem d_S_putNumber_63 : decode c_S_putNumber 63 = .ok (.lushr, 1) := by decide +kernel
theorem d_S_putNumber_64 : decode c_S_putNumber 64 = .ok (.invokevirtual 144, 3) := by decide +kernel
theorem d_S_putNumber_67 : decode c_S_putNumber 67 = .ok (.aload_n 0, 1) := by decide +kernel
theorem d_S_putNumber_68 : decode c_S_putNumber 68 = .ok (.iload_n 1, 1) := by decide +kernel
theorem d_S_putNumber_69 : decode c_S_putNumber 69 = .ok (.iload_n 1, 1) := by decide +kernel
theorem d_S_putNumber_70 : decode c_S_putNumber 70 = .ok (.iload_n 2, 1) := by decide +kernel
theorem d_S_putNumber_71 : decode c_S_putNumber 71 = .ok (.iadd, 1) := by decide +kernel
theorem d_S_putNumber_72 : decode c_S_putNumber 72 = .ok (.iconst 1, 1) := by decide +kernel
theorem d_S_putNumber_73 : decode c_S_putNumber 73 = .ok (.isub, 1) := by decide +kernel
theorem d_S_putNumber_74 : decode c_S_putNumber 74 = .ok (.invokevirtual 147, 3) := by decide +kernel
theorem d_S_putNumber_77 : decode c_S_putNumber 77 = .ok (.return_, 1) := by decide +kernel
theorem d_S_mergeWord_0 : decode c_S_mergeWord 0 = .ok (.aload_n 0, 1) := by decide +kernel
theorem d_S_mergeWord_1 : decode c_S_mergeWord 1 = .ok (.iload_n 1, 1) := by decide +kernel
theorem d_S_mergeWord_2 : decode c_S_mergeWord 2 = .ok (.bipush 9, 2) := by decide +kernel
theorem d_S_mergeWord_4 : decode c_S_mergeWord 4 = .ok (.ishr, 1) := by decide +kernel
theorem d_S_mergeWord_5 : decode c_S_mergeWord 5 = .ok (.invokevirtual 127, 3) := by decide +kernel
theorem d_S_mergeWord_8 : decode c_S_mergeWord 8 = .ok (.iload_n 1, 1) := by decide +kernel
theorem d_S_mergeWord_9 : decode c_S_mergeWord 9 = .ok (.sipush 511, 3) := by decide +kernel
theorem d_S_mergeWord_12 : decode c_S_mergeWord 12 = .ok (.iand, 1) := by decide +kernel
theorem d_S_mergeWord_13 : decode c_S_mergeWord 13 = .ok (.lload_n 2, 1) := by decide +kernel
theorem d_S_mergeWord_14 : decode c_S_mergeWord 14 = .ok (.lload 4, 2) := by decide +kernel
theorem d_S_mergeWord_16 : decode c_S_mergeWord 16 = .ok (.invokevirtual 131, 3) := by decide +kernel
theorem d_S_mergeWord_19 : decode c_S_mergeWord 19 = .ok (.return_, 1) := by decide +kernel
theorem d_S_pageToWrite_0 : decode c_S_pageToWrite 0 = .ok (.aload_n 0, 1) := by decide +kernel
theorem d_S_pageToWrite_1 : decode c_S_pageToWrite 1 = .ok (.getfield 15, 3) := by decide +kernel
theorem d_S_pageToWrite_4 : decode c_S_pageToWrite 4 = .ok (.iload_n 1, 1) := by decide +kernel
theorem d_S_pageToWrite_5 : decode c_S_pageToWrite 5 = .ok (.aaload, 1) := by decide +kernel
theorem d_S_pageToWrite_6 : decode c_S_pageToWrite 6 = .ok (.astore_n 2, 1) := by decide +kernel
theorem d_S_pageToWrite_7 : decode c_S_pageToWrite 7 = .ok (.aload_n 2, 1) := by decide +kernel
theorem d_S_pageToWrite_8 : decode c_S_pageToWrite 8 = .ok (.ifnonnull 18, 3) := by decide +kernel
theorem d_S_pageToWrite_11 : decode c_S_pageToWrite 11 = .ok (.new 13, 3) := by decide +kernel
theorem d_S_pageToWrite_14 : decode c_S_pageToWrite 14 = .ok (.dup, 1) := by decide +kernel
theorem d_S_pageToWrite_15 : decode c_S_pageToWrite 15 = .ok (.invokespecial 135, 3) := by decide +kernel
theorem d_S_pageToWrite_18 : decode c_S_pageToWrite 18 = .ok (.astore_n 2, 1) := by decide +kernel
theorem d_S_pageToWrite_19 : decode c_S_pageToWrite 19 = .ok (.aload_n 0, 1) := by decide +kernel
theorem d_S_pageToWrite_20 : decode c_S_pageToWrite 20 = .ok (.getfield 15, 3) := by decide +kernel
theorem d_S_pageToWrite_23 : decode c_S_pageToWrite 23 = .ok (.iload_n 1, 1) := by decide +kernel
theorem d_S_pageToWrite_24 : decode c_S_pageToWrite 24 = .ok (.aload_n 2, 1) := by decide +kernel
theorem d_S_pageToWrite_25 : decode c_S_pageToWrite 25 = .ok (.aastore, 1) := by decide +kernel
theorem d_S_pageToWrite_26 : decode c_S_pageToWrite 26 = .ok (.aload_n 2, 1) := by decide +kernel
theorem d_S_pageToWrite_27 : decode c_S_pageToWrite 27 = .ok (.areturn, 1) := by decide +kernel
theorem d_P_init_0 : decode c_P_init 0 = .ok (.aload_n 0, 1) := by decide +kernel
theorem d_P_init_1 : decode c_P_init 1 = .ok (.invokespecial 3, 3) := by decide +kernel
theorem d_P_init_4 : decode c_P_init 4 = .ok (.aload_n 0, 1) := by decide +kernel
theorem d_P_init_5 : decode c_P_init 5 = .ok (.iconst 1, 1) := by decide +kernel
theorem d_P_init_6 : decode c_P_init 6 = .ok (.putfield 9, 3) := by decide +kernel
theorem d_P_init_9 : decode c_P_init 9 = .ok (.return_, 1) := by decide +kernel
theorem d_P_merge_0 : decode c_P_merge 0 = .ok (.aload_n 0, 1) := by decide +kernel
theorem d_P_merge_1 : decode c_P_merge 1 = .ok (.iload_n 1, 1) := by decide +kernel
theorem d_P_merge_2 : decode c_P_merge 2 = .ok (.invokevirtual 30, 3) := by decide +kernel
theorem d_P_merge_5 : decode c_P_merge 5 = .ok (.lstore 6, 2) := by decide +kernel
theorem d_P_merge_7 : decode c_P_merge 7 = .ok (.lload 6, 2) := by decide +kernel
theorem d_P_merge_9 : decode c_P_merge 9 = .ok (.lload_n 2, 1) := by decide +kernel
theorem d_P_merge_10 : decode c_P_merge 10 = .ok (.ldc2_w 34, 3) := by decide +kernel
theorem d_P_merge_13 : decode c_P_merge 13 = .ok (.lxor, 1) := by decide +kernel
theorem d_P_merge_14 : decode c_P_merge 14 = .ok (.land, 1) := by decide +kernel
theorem d_P_merge_15 : decode c_P_merge 15 = .ok (.lload 4, 2) := by decide +kernel
theorem d_P_merge_17 : decode c_P_merge 17 = .ok (.lload_n 2, 1) := by decide +kernel
theorem d_P_merge_18 : decode c_P_merge 18 = .ok (.land, 1) := by decide +kernel
theorem d_P_merge_19 : decode c_P_merge 19 = .ok (.lor, 1) := by decide +kernel
theorem d_P_merge_20 : decode c_P_merge 20 = .ok (.lstore 8, 2) := by decide +kernel
theorem d_P_merge_22 : decode c_P_merge 22 = .ok (.lload 8, 2) := by decide +kernel
theorem d_P_merge_24 : decode c_P_merge 24 = .ok (.lload 6, 2) := by decide +kernel
theorem d_P_merge_26 : decode c_P_merge 26 = .ok (.lcmp, 1) := by decide +kernel
theorem d_P_merge_27 : decode c_P_merge 27 = .ok (.ifCond .ne 4, 3) := by decide +kernel
theorem d_P_merge_30 : decode c_P_merge 30 = .ok (.return_, 1) := by decide +kernel
theorem d_P_merge_31 : decode c_P_merge 31 = .ok (.aload_n 0, 1) := by decide +kernel
theorem d_P_merge_32 : decode c_P_merge 32 = .ok (.invokevirtual 36, 3) := by decide +kernel
theorem d_P_merge_35 : decode c_P_merge 35 = .ok (.iload_n 1, 1) := by decide +kernel
theorem d_P_merge_36 : decode c_P_merge 36 = .ok (.lload 8, 2) := by decide +kernel
theorem d_P_merge_38 : decode c_P_merge 38 = .ok (.lastore, 1) := by decide +kernel
theorem d_P_merge_39 : decode c_P_merge 39 = .ok (.lload 6, 2) := by decide +kernel
theorem d_P_merge_41 : decode c_P_merge 41 = .ok (.lconst 0, 1) := by decide +kernel
theorem d_P_merge_42 : decode c_P_merge 42 = .ok (.lcmp, 1) := by decide +kernel
theorem d_P_merge_43 : decode c_P_merge 43 = .ok (.ifCond .ne 13, 3) := by decide +kernel
theorem d_P_merge_46 : decode c_P_merge 46 = .ok (.aload_n 0, 1) := by decide +kernel
theorem d_P_merge_47 : decode c_P_merge 47 = .ok (.dup, 1) := by decide +kernel
theorem d_P_merge_48 : decode c_P_merge 48 = .ok (.getfield 19, 3) := by decide +kernel
theorem d_P_merge_51 : decode c_P_merge 51 = .ok (.iconst 1, 1) := by decide +kernel
theorem d_P_merge_52 : decode c_P_merge 52 = .ok (.iadd, 1) := by decide +kernel
theorem d_P_merge_53 : decode c_P_merge 53 = .ok (.putfield 19, 3) := by decide +kernel
theorem d_P_merge_56 : decode c_P_merge 56 = .ok (.lload 8, 2) := by decide +kernel
theorem d_P_merge_58 : decode c_P_merge 58 = .ok (.lconst 0, 1) := by decide +kernel
theorem d_P_merge_59 : decode c_P_merge 59 = .ok (.lcmp, 1) := by decide +kernel
theorem d_P_merge_60 : decode c_P_merge 60 = .ok (.ifCond .ne 13, 3) := by decide +kernel
theorem d_P_merge_63 : decode c_P_merge 63 = .ok (.aload_n 0, 1) := by decide +kernel
theorem d_P_merge_64 : decode c_P_merge 64 = .ok (.dup, 1) := by decide +kernel
theorem d_P_merge_65 : decode c_P_merge 65 = .ok (.getfield 19, 3) := by decide +kernel
theorem d_P_merge_68 : decode c_P_merge 68 = .ok (.iconst 1, 1) := by decide +kernel
theorem d_P_merge_69 : decode c_P_merge 69 = .ok (.isub, 1) := by decide +kernel
theorem d_P_merge_70 : decode c_P_merge 70 = .ok (.putfield 19, 3) := by decide +kernel
theorem d_P_merge_73 : decode c_P_merge 73 = .ok (.return_, 1) := by decide +kernel
theorem d_P_writtenOutWords_0 : decode c_P_writtenOutWords 0 = .ok (.aload_n 0, 1) := by decide +kernel
theorem d_P_writtenOutWords_1 : decode c_P_writtenOutWords 1 = .ok (.getfield 23, 3) := by decide +kernel
theorem d_P_writtenOutWords_4 : decode c_P_writtenOutWords 4 = .ok (.ifnonnull 12, 3) := by decide +kernel
theorem d_P_writtenOutWords_7 : decode c_P_writtenOutWords 7 = .ok (.aload_n 0, 1) := by decide +kernel
theorem d_P_writtenOutWords_8 : decode c_P_writtenOutWords 8 = .ok (.sipush 512, 3) := by decide +kernel
theorem d_P_writtenOutWords_11 : decode c_P_writtenOutWords 11 = .ok (.newarray .long, 2) := by decide +kernel
theorem d_P_writtenOutWords_13 : decode c_P_writtenOutWords 13 = .ok (.putfield 23, 3) := by decide +kernel
theorem d_P_writtenOutWords_16 : decode c_P_writtenOutWords 16 = .ok (.aload_n 0, 1) := by decide +kernel
theorem d_P_writtenOutWords_17 : decode c_P_writtenOutWords 17 = .ok (.getfield 9, 3) := by decide +kernel
theorem d_P_writtenOutWords_20 : decode c_P_writtenOutWords 20 = .ok (.ifCond .eq 19, 3) := by decide +kernel
theorem d_P_writtenOutWords_23 : decode c_P_writtenOutWords 23 = .ok (.aload_n 0, 1) := by decide +kernel
theorem d_P_writtenOutWords_24 : decode c_P_writtenOutWords 24 = .ok (.getfield 23, 3) := by decide +kernel
theorem d_P_writtenOutWords_27 : decode c_P_writtenOutWords 27 = .ok (.aload_n 0, 1) := by decide +kernel
theorem d_P_writtenOutWords_28 : decode c_P_writtenOutWords 28 = .ok (.getfield 27, 3) := by decide +kernel
theorem d_P_writtenOutWords_31 : decode c_P_writtenOutWords 31 = .ok (.invokestatic 40, 3) := by decide +kernel
theorem d_P_writtenOutWords_34 : decode c_P_writtenOutWords 34 = .ok (.aload_n 0, 1) := by decide +kernel
theorem d_P_writtenOutWords_35 : decode c_P_writtenOutWords 35 = .ok (.iconst 0, 1) := by decide +kernel
theorem d_P_writtenOutWords_36 : decode c_P_writtenOutWords 36 = .ok (.putfield 9, 3) := by decide +kernel
theorem d_P_writtenOutWords_39 : decode c_P_writtenOutWords 39 = .ok (.aload_n 0, 1) := by decide +kernel
theorem d_P_writtenOutWords_40 : decode c_P_writtenOutWords 40 = .ok (.getfield 23, 3) := by decide +kernel
theorem d_P_writtenOutWords_43 : decode c_P_writtenOutWords 43 = .ok (.areturn, 1) := by decide +kernel
theorem d_A_fill_0 : decode c_A_fill 0 = .ok (.iconst 0, 1) := by decide +kernel
theorem d_A_fill_1 : decode c_A_fill 1 = .ok (.istore_n 3, 1) := by decide +kernel
theorem d_A_fill_2 : decode c_A_fill 2 = .ok (.aload_n 0, 1) := by decide +kernel
theorem d_A_fill_3 : decode c_A_fill 3 = .ok (.arraylength, 1) := by decide +kernel
theorem d_A_fill_4 : decode c_A_fill 4 = .ok (.istore 4, 2) := by decide +kernel
theorem d_A_fill_6 : decode c_A_fill 6 = .ok (.iload_n 3, 1) := by decide +kernel
theorem d_A_fill_7 : decode c_A_fill 7 = .ok (.iload 4, 2) := by decide +kernel
theorem d_A_fill_9 : decode c_A_fill 9 = .ok (.if_icmp .ge 13, 3) := by decide +kernel
theorem d_A_fill_12 : decode c_A_fill 12 = .ok (.aload_n 0, 1) := by decide +kernel
theorem d_A_fill_13 : decode c_A_fill 13 = .ok (.iload_n 3, 1) := by decide +kernel
theorem d_A_fill_14 : decode c_A_fill 14 = .ok (.lload_n 1, 1) := by decide +kernel
theorem d_A_fill_15 : decode c_A_fill 15 = .ok (.lastore, 1) := by decide +kernel
theorem d_A_fill_16 : decode c_A_fill 16 = .ok (.iinc 3 1, 3) := by decide +kernel
theorem d_A_fill_19 : decode c_A_fill 19 = .ok (.goto (-13), 3) := by decide +kernel
theorem d_A_fill_22 : decode c_A_fill 22 = .ok (.return_, 1) := by decide +kernel
theorem d_S_noteStored_0 : decode c_S_noteStored 0 = .ok (.iload_n 2, 1) := by decide +kernel
theorem d_S_noteStored_1 : decode c_S_noteStored 1 = .ok (.bipush 12, 2) := by decide +kernel
theorem d_S_noteStored_3 : decode c_S_noteStored 3 = .ok (.ishr, 1) := by decide +kernel
theorem d_S_noteStored_4 : decode c_S_noteStored 4 = .ok (.istore_n 3, 1) := by decide +kernel
theorem d_S_noteStored_5 : decode c_S_noteStored 5 = .ok (.iload_n 1, 1) := by decide +kernel
theorem d_S_noteStored_6 : decode c_S_noteStored 6 = .ok (.bipush 12, 2) := by decide +kernel
theorem d_S_noteStored_8 : decode c_S_noteStored 8 = .ok (.ishr, 1) := by decide +kernel
theorem d_S_noteStored_9 : decode c_S_noteStored 9 = .ok (.istore 4, 2) := by decide +kernel
theorem d_S_noteStored_11 : decode c_S_noteStored 11 = .ok (.iload 4, 2) := by decide +kernel
theorem d_S_noteStored_13 : decode c_S_noteStored 13 = .ok (.iload_n 3, 1) := by decide +kernel
theorem d_S_noteStored_14 : decode c_S_noteStored 14 = .ok (.if_icmp .gt 18, 3) := by decide +kernel
theorem d_S_noteStored_17 : decode c_S_noteStored 17 = .ok (.aload_n 0, 1) := by decide +kernel
theorem d_S_noteStored_18 : decode c_S_noteStored 18 = .ok (.iload 4, 2) := by decide +kernel
theorem d_S_noteStored_20 : decode c_S_noteStored 20 = .ok (.invokevirtual 127, 3) := by decide +kernel
theorem d_S_noteStored_23 : decode c_S_noteStored 23 = .ok (.invokevirtual 163, 3) := by decide +kernel
theorem d_S_noteStored_26 : decode c_S_noteStored 26 = .ok (.iinc 4 1, 3) := by decide +kernel
theorem d_S_noteStored_29 : decode c_S_noteStored 29 = .ok (.goto (-18), 3) := by decide +kernel
theorem d_S_noteStored_32 : decode c_S_noteStored 32 = .ok (.aload_n 0, 1) := by decide +kernel
theorem d_S_noteStored_33 : decode c_S_noteStored 33 = .ok (.iload_n 1, 1) := by decide +kernel
theorem d_S_noteStored_34 : decode c_S_noteStored 34 = .ok (.iconst 3, 1) := by decide +kernel
theorem d_S_noteStored_35 : decode c_S_noteStored 35 = .ok (.ishr, 1) := by decide +kernel
theorem d_S_noteStored_36 : decode c_S_noteStored 36 = .ok (.iload_n 2, 1) := by decide +kernel
theorem d_S_noteStored_37 : decode c_S_noteStored 37 = .ok (.iconst 3, 1) := by decide +kernel
theorem d_S_noteStored_38 : decode c_S_noteStored 38 = .ok (.ishr, 1) := by decide +kernel
theorem d_S_noteStored_39 : decode c_S_noteStored 39 = .ok (.invokevirtual 166, 3) := by decide +kernel
theorem d_S_noteStored_42 : decode c_S_noteStored 42 = .ok (.return_, 1) := by decide +kernel
theorem d_P_countWrite_0 : decode c_P_countWrite 0 = .ok (.aload_n 0, 1) := by decide +kernel
theorem d_P_countWrite_1 : decode c_P_countWrite 1 = .ok (.dup, 1) := by decide +kernel
theorem d_P_countWrite_2 : decode c_P_countWrite 2 = .ok (.getfield 15, 3) := by decide +kernel
theorem d_P_countWrite_5 : decode c_P_countWrite 5 = .ok (.lconst 1, 1) := by decide +kernel
theorem d_P_countWrite_6 : decode c_P_countWrite 6 = .ok (.ladd, 1) := by decide +kernel
theorem d_P_countWrite_7 : decode c_P_countWrite 7 = .ok (.putfield 15, 3) := by decide +kernel
theorem d_P_countWrite_10 : decode c_P_countWrite 10 = .ok (.return_, 1) := by decide +kernel
theorem d_S_loseReservations_0 : decode c_S_loseReservations 0 = .ok (.iconst 0, 1) := by decide +kernel
theorem d_S_loseReservations_1 : decode c_S_loseReservations 1 = .ok (.istore_n 3, 1) := by decide +kernel
theorem d_S_loseReservations_2 : decode c_S_loseReservations 2 = .ok (.iload_n 3, 1) := by decide +kernel
theorem d_S_loseReservations_3 : decode c_S_loseReservations 3 = .ok (.iconst 4, 1) := by decide +kernel
theorem d_S_loseReservations_4 : decode c_S_loseReservations 4 = .ok (.if_icmp .ge 52, 3) := by decide +kernel
theorem d_S_loseReservations_7 : decode c_S_loseReservations 7 = .ok (.aload_n 0, 1) := by decide +kernel
theorem d_S_loseReservations_8 : decode c_S_loseReservations 8 = .ok (.getfield 19, 3) := by decide +kernel
theorem d_S_loseReservations_11 : decode c_S_loseReservations 11 = .ok (.iload_n 3, 1) := by decide +kernel
theorem d_S_loseReservations_12 : decode c_S_loseReservations 12 = .ok (.laload, 1) := by decide +kernel
theorem d_S_loseReservations_13 : decode c_S_loseReservations 13 = .ok (.lconst 0, 1) := by decide +kernel
theorem d_S_loseReservations_14 : decode c_S_loseReservations 14 = .ok (.lcmp, 1) := by decide +kernel
theorem d_S_loseReservations_15 : decode c_S_loseReservations 15 = .ok (.ifCond .eq 35, 3) := by decide +kernel
theorem d_S_loseReservations_18 : decode c_S_loseReservations 18 = .ok (.aload_n 0, 1) := by decide +kernel
theorem d_S_loseReservations_19 : decode c_S_loseReservations 19 = .ok (.getfield 19, 3) := by decide +kernel
theorem d_S_loseReservations_22 : decode c_S_loseReservations 22 = .ok (.iload_n 3, 1) := by decide +kernel
theorem d_S_loseReservations_23 : decode c_S_loseReservations 23 = .ok (.laload, 1) := by decide +kernel
theorem d_S_loseReservations_24 : decode c_S_loseReservations 24 = .ok (.invokestatic 47, 3) := by decide +kernel
theorem d_S_loseReservations_27 : decode c_S_loseReservations 27 = .ok (.iconst 3, 1) := by decide +kernel
theorem d_S_loseReservations_28 : decode c_S_loseReservations 28 = .ok (.ishr, 1) := by decide +kernel
theorem d_S_loseReservations_29 : decode c_S_loseReservations 29 = .ok (.istore 4, 2) := by decide +kernel
theorem d_S_loseReservations_31 : decode c_S_loseReservations 31 = .ok (.iload 4, 2) := by decide +kernel
theorem d_S_loseReservations_33 : decode c_S_loseReservations 33 = .ok (.iload_n 1, 1) := by decide +kernel
theorem d_S_loseReservations_34 : decode c_S_loseReservations 34 = .ok (.if_icmp .lt 16, 3) := by decide +kernel
theorem d_S_loseReservations_37 : decode c_S_loseReservations 37 = .ok (.iload 4, 2) := by decide +kernel
theorem d_S_loseReservations_39 : decode c_S_loseReservations 39 = .ok (.iload_n 2, 1) := by decide +kernel
theorem d_S_loseReservations_40 : decode c_S_loseReservations 40 = .ok (.if_icmp .gt 10, 3) := by decide +kernel
theorem d_S_loseReservations_43 : decode c_S_loseReservations 43 = .ok (.aload_n 0, 1) := by decide +kernel
theorem d_S_loseReservations_44 : decode c_S_loseReservations 44 = .ok (.getfield 19, 3) := by decide +kernel
theorem d_S_loseReservations_47 : decode c_S_loseReservations 47 = .ok (.iload_n 3, 1) := by decide +kernel
theorem d_S_loseReservations_48 : decode c_S_loseReservations 48 = .ok (.lconst 0, 1) := by decide +kernel
theorem d_S_loseReservations_49 : decode c_S_loseReservations 49 = .ok (.lastore, 1) := by decide +kernel
theorem d_S_loseReservations_50 : decode c_S_loseReservations 50 = .ok (.iinc 3 1, 3) := by decide +kernel
theorem d_S_loseReservations_53 : decode c_S_loseReservations 53 = .ok (.goto (-51), 3) := by decide +kernel
theorem d_S_loseReservations_56 : decode c_S_loseReservations 56 = .ok (.return_, 1) := by decide +kernel
theorem d_S_fill_0 : decode c_S_fill 0 = .ok (.lload_n 3, 1) := by decide +kernel
theorem d_S_fill_1 : decode c_S_fill 1 = .ok (.lload_n 1, 1) := by decide +kernel
theorem d_S_fill_2 : decode c_S_fill 2 = .ok (.lcmp, 1) := by decide +kernel
theorem d_S_fill_3 : decode c_S_fill 3 = .ok (.ifCond .ge 13, 3) := by decide +kernel
theorem d_S_fill_6 : decode c_S_fill 6 = .ok (.new 31, 3) := by decide +kernel
theorem d_S_fill_9 : decode c_S_fill 9 = .ok (.dup, 1) := by decide +kernel
theorem d_S_fill_10 : decode c_S_fill 10 = .ok (.ldc 59, 2) := by decide +kernel
theorem d_S_fill_12 : decode c_S_fill 12 = .ok (.invokespecial 35, 3) := by decide +kernel
theorem d_S_fill_15 : decode c_S_fill 15 = .ok (.athrow, 1) := by decide +kernel
theorem d_S_fill_16 : decode c_S_fill 16 = .ok (.lload_n 3, 1) := by decide +kernel
theorem d_S_fill_17 : decode c_S_fill 17 = .ok (.lload_n 1, 1) := by decide +kernel
theorem d_S_fill_18 : decode c_S_fill 18 = .ok (.lcmp, 1) := by decide +kernel
theorem d_S_fill_19 : decode c_S_fill 19 = .ok (.ifCond .ne 4, 3) := by decide +kernel
theorem d_S_fill_22 : decode c_S_fill 22 = .ok (.return_, 1) := by decide +kernel
theorem d_S_fill_23 : decode c_S_fill 23 = .ok (.lload_n 1, 1) := by decide +kernel
theorem d_S_fill_24 : decode c_S_fill 24 = .ok (.ldc2_w 61, 3) := by decide +kernel
theorem d_S_fill_27 : decode c_S_fill 27 = .ok (.lcmp, 1) := by decide +kernel
theorem d_S_fill_28 : decode c_S_fill 28 = .ok (.ifCond .lt 12, 3) := by decide +kernel
theorem d_S_fill_31 : decode c_S_fill 31 = .ok (.lload_n 3, 1) := by decide +kernel
theorem d_S_fill_32 : decode c_S_fill 32 = .ok (.aload_n 0, 1) := by decide +kernel
theorem d_S_fill_33 : decode c_S_fill 33 = .ok (.invokevirtual 63, 3) := by decide +kernel
theorem d_S_fill_36 : decode c_S_fill 36 = .ok (.lcmp, 1) := by decide +kernel
theorem d_S_fill_37 : decode c_S_fill 37 = .ok (.ifCond .le 13, 3) := by decide +kernel
theorem d_S_fill_40 : decode c_S_fill 40 = .ok (.new 42, 3) := by decide +kernel
theorem d_S_fill_43 : decode c_S_fill 43 = .ok (.dup, 1) := by decide +kernel
theorem d_S_fill_44 : decode c_S_fill 44 = .ok (.ldc 44, 2) := by decide +kernel
theorem d_S_fill_46 : decode c_S_fill 46 = .ok (.invokespecial 46, 3) := by decide +kernel
theorem d_S_fill_49 : decode c_S_fill 49 = .ok (.athrow, 1) := by decide +kernel
theorem d_S_fill_50 : decode c_S_fill 50 = .ok (.aload_n 0, 1) := by decide +kernel
theorem d_S_fill_51 : decode c_S_fill 51 = .ok (.lload_n 1, 1) := by decide +kernel
theorem d_S_fill_52 : decode c_S_fill 52 = .ok (.invokestatic 47, 3) := by decide +kernel
theorem d_S_fill_55 : decode c_S_fill 55 = .ok (.lload_n 3, 1) := by decide +kernel
theorem d_S_fill_56 : decode c_S_fill 56 = .ok (.lconst 1, 1) := by decide +kernel
theorem d_S_fill_57 : decode c_S_fill 57 = .ok (.lsub, 1) := by decide +kernel
theorem d_S_fill_58 : decode c_S_fill 58 = .ok (.invokestatic 47, 3) := by decide +kernel
theorem d_S_fill_61 : decode c_S_fill 61 = .ok (.iload 5, 2) := by decide +kernel
theorem d_S_fill_63 : decode c_S_fill 63 = .ok (.sipush 255, 3) := by decide +kernel
theorem d_S_fill_66 : decode c_S_fill 66 = .ok (.iand, 1) := by decide +kernel
theorem d_S_fill_67 : decode c_S_fill 67 = .ok (.i2l, 1) := by decide +kernel
theorem d_S_fill_68 : decode c_S_fill 68 = .ok (.ldc2_w 67, 3) := by decide +kernel
theorem d_S_fill_71 : decode c_S_fill 71 = .ok (.lmul, 1) := by decide +kernel
theorem d_S_fill_72 : decode c_S_fill 72 = .ok (.invokevirtual 69, 3) := by decide +kernel
theorem d_S_fill_75 : decode c_S_fill 75 = .ok (.return_, 1) := by decide +kernel
theorem d_S_putSameBytes_0 : decode c_S_putSameBytes 0 = .ok (.iload_n 2, 1) := by decide +kernel
theorem d_S_putSameBytes_1 : decode c_S_putSameBytes 1 = .ok (.bipush 12, 2) := by decide +kernel
theorem d_S_putSameBytes_3 : decode c_S_putSameBytes 3 = .ok (.ishr, 1) := by decide +kernel
theorem d_S_putSameBytes_4 : decode c_S_putSameBytes 4 = .ok (.istore 5, 2) := by decide +kernel
theorem d_S_putSameBytes_6 : decode c_S_putSameBytes 6 = .ok (.iload_n 1, 1) := by decide +kernel
theorem d_S_putSameBytes_7 : decode c_S_putSameBytes 7 = .ok (.bipush 12, 2) := by decide +kernel
theorem d_S_putSameBytes_9 : decode c_S_putSameBytes 9 = .ok (.ishr, 1) := by decide +kernel
theorem d_S_putSameBytes_10 : decode c_S_putSameBytes 10 = .ok (.istore 6, 2) := by decide +kernel
theorem d_S_putSameBytes_12 : decode c_S_putSameBytes 12 = .ok (.iload 6, 2) := by decide +kernel
theorem d_S_putSameBytes_14 : decode c_S_putSameBytes 14 = .ok (.iload 5, 2) := by decide +kernel
theorem d_S_putSameBytes_16 : decode c_S_putSameBytes 16 = .ok (.if_icmp .gt 52, 3) := by decide +kernel
theorem d_S_putSameBytes_19 : decode c_S_putSameBytes 19 = .ok (.iload 6, 2) := by decide +kernel
theorem d_S_putSameBytes_21 : decode c_S_putSameBytes 21 = .ok (.bipush 12, 2) := by decide +kernel
theorem d_S_putSameBytes_23 : decode c_S_putSameBytes 23 = .ok (.ishl, 1) := by decide +kernel
theorem d_S_putSameBytes_24 : decode c_S_putSameBytes 24 = .ok (.istore 7, 2) := by decide +kernel
theorem d_S_putSameBytes_26 : decode c_S_putSameBytes 26 = .ok (.iload_n 1, 1) := by decide +kernel
theorem d_S_putSameBytes_27 : decode c_S_putSameBytes 27 = .ok (.iload 7, 2) := by decide +kernel
theorem d_S_putSameBytes_29 : decode c_S_putSameBytes 29 = .ok (.isub, 1) := by decide +kernel
theorem d_S_putSameBytes_30 : decode c_S_putSameBytes 30 = .ok (.iconst 0, 1) := by decide +kernel
theorem d_S_putSameBytes_31 : decode c_S_putSameBytes 31 = .ok (.invokestatic 151, 3) := by decide +kernel
theorem d_S_putSameBytes_34 : decode c_S_putSameBytes 34 = .ok (.istore 8, 2) := by decide +kernel
theorem d_S_putSameBytes_36 : decode c_S_putSameBytes 36 = .ok (.iload_n 2, 1) := by decide +kernel
theorem d_S_putSameBytes_37 : decode c_S_putSameBytes 37 = .ok (.iload 7, 2) := by decide +kernel
theorem d_S_putSameBytes_39 : decode c_S_putSameBytes 39 = .ok (.isub, 1) := by decide +kernel
theorem d_S_putSameBytes_40 : decode c_S_putSameBytes 40 = .ok (.sipush 4095, 3) := by decide +kernel
theorem d_S_putSameBytes_43 : decode c_S_putSameBytes 43 = .ok (.invokestatic 157, 3) := by decide +kernel
theorem d_S_putSameBytes_46 : decode c_S_putSameBytes 46 = .ok (.istore 9, 2) := by decide +kernel
theorem d_S_putSameBytes_48 : decode c_S_putSameBytes 48 = .ok (.aload_n 0, 1) := by decide +kernel
theorem d_S_putSameBytes_49 : decode c_S_putSameBytes 49 = .ok (.iload 6, 2) := by decide +kernel
theorem d_S_putSameBytes_51 : decode c_S_putSameBytes 51 = .ok (.invokevirtual 127, 3) := by decide +kernel
theorem d_S_putSameBytes_54 : decode c_S_putSameBytes 54 = .ok (.iload 8, 2) := by decide +kernel
theorem d_S_putSameBytes_56 : decode c_S_putSameBytes 56 = .ok (.iload 9, 2) := by decide +kernel
theorem d_S_putSameBytes_58 : decode c_S_putSameBytes 58 = .ok (.lload_n 3, 1) := by decide +kernel
theorem d_S_putSameBytes_59 : decode c_S_putSameBytes 59 = .ok (.invokevirtual 160, 3) := by decide +kernel
theorem d_S_putSameBytes_62 : decode c_S_putSameBytes 62 = .ok (.iinc 6 1, 3) := by decide +kernel
theorem d_S_putSameBytes_65 : decode c_S_putSameBytes 65 = .ok (.goto (-53), 3) := by decide +kernel
theorem d_S_putSameBytes_68 : decode c_S_putSameBytes 68 = .ok (.aload_n 0, 1) := by decide +kernel
theorem d_S_putSameBytes_69 : decode c_S_putSameBytes 69 = .ok (.iload_n 1, 1) := by decide +kernel
theorem d_S_putSameBytes_70 : decode c_S_putSameBytes 70 = .ok (.iload_n 2, 1) := by decide +kernel
theorem d_S_putSameBytes_71 : decode c_S_putSameBytes 71 = .ok (.invokevirtual 147, 3) := by decide +kernel
theorem d_S_putSameBytes_74 : decode c_S_putSameBytes 74 = .ok (.return_, 1) := by decide +kernel
theorem d_P_spread_0 : decode c_P_spread 0 = .ok (.iload_n 1, 1) := by decide +kernel
theorem d_P_spread_1 : decode c_P_spread 1 = .ok (.ifCond .ne 16, 3) := by decide +kernel
theorem d_P_spread_4 : decode c_P_spread 4 = .ok (.iload_n 2, 1) := by decide +kernel
theorem d_P_spread_5 : decode c_P_spread 5 = .ok (.sipush 4095, 3) := by decide +kernel
theorem d_P_spread_8 : decode c_P_spread 8 = .ok (.if_icmp .ne 9, 3) := by decide +kernel
theorem d_P_spread_11 : decode c_P_spread 11 = .ok (.aload_n 0, 1) := by decide +kernel
theorem d_P_spread_12 : decode c_P_spread 12 = .ok (.lload_n 3, 1) := by decide +kernel
theorem d_P_spread_13 : decode c_P_spread 13 = .ok (.invokevirtual 46, 3) := by decide +kernel
theorem d_P_spread_16 : decode c_P_spread 16 = .ok (.return_, 1) := by decide +kernel
theorem d_P_spread_17 : decode c_P_spread 17 = .ok (.iload_n 1, 1) := by decide +kernel
theorem d_P_spread_18 : decode c_P_spread 18 = .ok (.iconst 3, 1) := by decide +kernel
theorem d_P_spread_19 : decode c_P_spread 19 = .ok (.ishr, 1) := by decide +kernel
theorem d_P_spread_20 : decode c_P_spread 20 = .ok (.istore 5, 2) := by decide +kernel
theorem d_P_spread_22 : decode c_P_spread 22 = .ok (.iload_n 2, 1) := by decide +kernel
theorem d_P_spread_23 : decode c_P_spread 23 = .ok (.iconst 3, 1) := by decide +kernel
theorem d_P_spread_24 : decode c_P_spread 24 = .ok (.ishr, 1) := by decide +kernel
theorem d_P_spread_25 : decode c_P_spread 25 = .ok (.istore 6, 2) := by decide +kernel
theorem d_P_spread_27 : decode c_P_spread 27 = .ok (.iload 5, 2) := by decide +kernel
theorem d_P_spread_29 : decode c_P_spread 29 = .ok (.istore 7, 2) := by decide +kernel
theorem d_P_spread_31 : decode c_P_spread 31 = .ok (.iload 7, 2) := by decide +kernel
theorem d_P_spread_33 : decode c_P_spread 33 = .ok (.iload 6, 2) := by decide +kernel
theorem d_P_spread_35 : decode c_P_spread 35 = .ok (.if_icmp .gt 62, 3) := by decide +kernel
theorem d_P_spread_38 : decode c_P_spread 38 = .ok (.ldc2_w 34, 3) := by decide +kernel
theorem d_P_spread_41 : decode c_P_spread 41 = .ok (.lstore 8, 2) := by decide +kernel
theorem d_P_spread_43 : decode c_P_spread 43 = .ok (.iload 7, 2) := by decide +kernel
theorem d_P_spread_45 : decode c_P_spread 45 = .ok (.iload 5, 2) := by decide +kernel
theorem d_P_spread_47 : decode c_P_spread 47 = .ok (.if_icmp .ne 12, 3) := by decide +kernel
theorem d_P_spread_50 : decode c_P_spread 50 = .ok (.lload 8, 2) := by decide +kernel
theorem d_P_spread_52 : decode c_P_spread 52 = .ok (.iload_n 1, 1) := by decide +kernel
theorem d_P_spread_53 : decode c_P_spread 53 = .ok (.invokestatic 50, 3) := by decide +kernel
theorem d_P_spread_56 : decode c_P_spread 56 = .ok (.lshl, 1) := by decide +kernel
theorem d_P_spread_57 : decode c_P_spread 57 = .ok (.lstore 8, 2) := by decide +kernel
theorem d_P_spread_59 : decode c_P_spread 59 = .ok (.iload 7, 2) := by decide +kernel
theorem d_P_spread_61 : decode c_P_spread 61 = .ok (.iload 6, 2) := by decide +kernel
theorem d_P_spread_63 : decode c_P_spread 63 = .ok (.if_icmp .ne 19, 3) := by decide +kernel
theorem d_P_spread_66 : decode c_P_spread 66 = .ok (.lload 8, 2) := by decide +kernel
theorem d_P_spread_68 : decode c_P_spread 68 = .ok (.ldc2_w 34, 3) := by decide +kernel
theorem d_P_spread_71 : decode c_P_spread 71 = .ok (.bipush 56, 2) := by decide +kernel
theorem d_P_spread_73 : decode c_P_spread 73 = .ok (.iload_n 2, 1) := by decide +kernel
theorem d_P_spread_74 : decode c_P_spread 74 = .ok (.invokestatic 50, 3) := by decide +kernel
theorem d_P_spread_77 : decode c_P_spread 77 = .ok (.isub, 1) := by decide +kernel
theorem d_P_spread_78 : decode c_P_spread 78 = .ok (.lushr, 1) := by decide +kernel
theorem d_P_spread_79 : decode c_P_spread 79 = .ok (.land, 1) := by decide +kernel
theorem d_P_spread_80 : decode c_P_spread 80 = .ok (.lstore 8, 2) := by decide +kernel
theorem d_P_spread_82 : decode c_P_spread 82 = .ok (.aload_n 0, 1) := by decide +kernel
theorem d_P_spread_83 : decode c_P_spread 83 = .ok (.iload 7, 2) := by decide +kernel
theorem d_P_spread_85 : decode c_P_spread 85 = .ok (.lload 8, 2) := by decide +kernel
theorem d_P_spread_87 : decode c_P_spread 87 = .ok (.lload_n 3, 1) := by decide +kernel
theorem d_P_spread_88 : decode c_P_spread 88 = .ok (.invokevirtual 54, 3) := by decide +kernel
theorem d_P_spread_91 : decode c_P_spread 91 = .ok (.iinc 7 1, 3) := by decide +kernel
theorem d_P_spread_94 : decode c_P_spread 94 = .ok (.goto (-63), 3) := by decide +kernel
theorem d_P_spread_97 : decode c_P_spread 97 = .ok (.return_, 1) := by decide +kernel
theorem d_P_makeEven_0 : decode c_P_makeEven 0 = .ok (.aload_n 0, 1) := by decide +kernel
theorem d_P_makeEven_1 : decode c_P_makeEven 1 = .ok (.iconst 1, 1) := by decide +kernel
theorem d_P_makeEven_2 : decode c_P_makeEven 2 = .ok (.putfield 9, 3) := by decide +kernel
theorem d_P_makeEven_5 : decode c_P_makeEven 5 = .ok (.aload_n 0, 1) := by decide +kernel
theorem d_P_makeEven_6 : decode c_P_makeEven 6 = .ok (.lload_n 1, 1) := by decide +kernel
theorem d_P_makeEven_7 : decode c_P_makeEven 7 = .ok (.putfield 27, 3) := by decide +kernel
theorem d_P_makeEven_10 : decode c_P_makeEven 10 = .ok (.aload_n 0, 1) := by decide +kernel
theorem d_P_makeEven_11 : decode c_P_makeEven 11 = .ok (.lload_n 1, 1) := by decide +kernel
theorem d_P_makeEven_12 : decode c_P_makeEven 12 = .ok (.lconst 0, 1) := by decide +kernel
theorem d_P_makeEven_13 : decode c_P_makeEven 13 = .ok (.lcmp, 1) := by decide +kernel
theorem d_P_makeEven_14 : decode c_P_makeEven 14 = .ok (.ifCond .ne 7, 3) := by decide +kernel
theorem d_P_makeEven_17 : decode c_P_makeEven 17 = .ok (.iconst 0, 1) := by decide +kernel
theorem d_P_makeEven_18 : decode c_P_makeEven 18 = .ok (.goto 6, 3) := by decide +kernel
theorem d_P_makeEven_21 : decode c_P_makeEven 21 = .ok (.sipush 512, 3) := by decide +kernel
theorem d_P_makeEven_24 : decode c_P_makeEven 24 = .ok (.putfield 19, 3) := by decide +kernel
theorem d_P_makeEven_27 : decode c_P_makeEven 27 = .ok (.return_, 1) := by decide +kernel
theorem d_S_atomic_0 : decode c_S_atomic 0 = .ok (.iload 5, 2) := by decide +kernel
theorem d_S_atomic_2 : decode c_S_atomic 2 = .ok (.invokestatic 72, 3) := by decide +kernel
theorem d_S_atomic_5 : decode c_S_atomic 5 = .ok (.ifCond .eq 10, 3) := by decide +kernel
theorem d_S_atomic_8 : decode c_S_atomic 8 = .ok (.iload_n 2, 1) := by decide +kernel
theorem d_S_atomic_9 : decode c_S_atomic 9 = .ok (.invokestatic 75, 3) := by decide +kernel
theorem d_S_atomic_12 : decode c_S_atomic 12 = .ok (.ifCond .ne 13, 3) := by decide +kernel
theorem d_S_atomic_15 : decode c_S_atomic 15 = .ok (.new 31, 3) := by decide +kernel
theorem d_S_atomic_18 : decode c_S_atomic 18 = .ok (.dup, 1) := by decide +kernel
theorem d_S_atomic_19 : decode c_S_atomic 19 = .ok (.ldc 78, 2) := by decide +kernel
theorem d_S_atomic_21 : decode c_S_atomic 21 = .ok (.invokespecial 35, 3) := by decide +kernel
theorem d_S_atomic_24 : decode c_S_atomic 24 = .ok (.athrow, 1) := by decide +kernel
theorem d_S_atomic_25 : decode c_S_atomic 25 = .ok (.iload_n 1, 1) := by decide +kernel
theorem d_S_atomic_26 : decode c_S_atomic 26 = .ok (.invokestatic 80, 3) := by decide +kernel
theorem d_S_atomic_29 : decode c_S_atomic 29 = .ok (.ifCond .eq 13, 3) := by decide +kernel
theorem d_S_atomic_32 : decode c_S_atomic 32 = .ok (.aload_n 0, 1) := by decide +kernel
theorem d_S_atomic_33 : decode c_S_atomic 33 = .ok (.lload_n 3, 1) := by decide +kernel
theorem d_S_atomic_34 : decode c_S_atomic 34 = .ok (.iload 5, 2) := by decide +kernel
theorem d_S_atomic_36 : decode c_S_atomic 36 = .ok (.invokevirtual 38, 3) := by decide +kernel
theorem d_S_atomic_39 : decode c_S_atomic 39 = .ok (.ifCond .ne 13, 3) := by decide +kernel
theorem d_S_atomic_42 : decode c_S_atomic 42 = .ok (.new 42, 3) := by decide +kernel
theorem d_S_atomic_45 : decode c_S_atomic 45 = .ok (.dup, 1) := by decide +kernel
theorem d_S_atomic_46 : decode c_S_atomic 46 = .ok (.ldc 83, 2) := by decide +kernel
theorem d_S_atomic_48 : decode c_S_atomic 48 = .ok (.invokespecial 46, 3) := by decide +kernel
theorem d_S_atomic_51 : decode c_S_atomic 51 = .ok (.athrow, 1) := by decide +kernel
theorem d_S_atomic_52 : decode c_S_atomic 52 = .ok (.lload_n 3, 1) := by decide +kernel
theorem d_S_atomic_53 : decode c_S_atomic 53 = .ok (.iload 5, 2) := by decide +kernel
theorem d_S_atomic_55 : decode c_S_atomic 55 = .ok (.iconst 1, 1) := by decide +kernel
theorem d_S_atomic_56 : decode c_S_atomic 56 = .ok (.isub, 1) := by decide +kernel
theorem d_S_atomic_57 : decode c_S_atomic 57 = .ok (.i2l, 1) := by decide +kernel
theorem d_S_atomic_58 : decode c_S_atomic 58 = .ok (.land, 1) := by decide +kernel
theorem d_S_atomic_59 : decode c_S_atomic 59 = .ok (.lconst 0, 1) := by decide +kernel
theorem d_S_atomic_60 : decode c_S_atomic 60 = .ok (.lcmp, 1) := by decide +kernel
theorem d_S_atomic_61 : decode c_S_atomic 61 = .ok (.ifCond .eq 13, 3) := by decide +kernel
theorem d_S_atomic_64 : decode c_S_atomic 64 = .ok (.new 85, 3) := by decide +kernel
theorem d_S_atomic_67 : decode c_S_atomic 67 = .ok (.dup, 1) := by decide +kernel
theorem d_S_atomic_68 : decode c_S_atomic 68 = .ok (.ldc 87, 2) := by decide +kernel
theorem d_S_atomic_70 : decode c_S_atomic 70 = .ok (.invokespecial 89, 3) := by decide +kernel
theorem d_S_atomic_73 : decode c_S_atomic 73 = .ok (.athrow, 1) := by decide +kernel
theorem d_S_atomic_74 : decode c_S_atomic 74 = .ok (.iload_n 2, 1) := by decide +kernel
theorem d_S_atomic_75 : decode c_S_atomic 75 = .ok (.iconst 2, 1) := by decide +kernel
theorem d_S_atomic_76 : decode c_S_atomic 76 = .ok (.if_icmp .ne 12, 3) := by decide +kernel
theorem d_S_atomic_79 : decode c_S_atomic 79 = .ok (.aload_n 0, 1) := by decide +kernel
theorem d_S_atomic_80 : decode c_S_atomic 80 = .ok (.iload_n 1, 1) := by decide +kernel
theorem d_S_atomic_81 : decode c_S_atomic 81 = .ok (.lload_n 3, 1) := by decide +kernel
theorem d_S_atomic_82 : decode c_S_atomic 82 = .ok (.iload 5, 2) := by decide +kernel
theorem d_S_atomic_84 : decode c_S_atomic 84 = .ok (.invokevirtual 90, 3) := by decide +kernel
theorem d_S_atomic_87 : decode c_S_atomic 87 = .ok (.lreturn, 1) := by decide +kernel
theorem d_S_atomic_88 : decode c_S_atomic 88 = .ok (.iload_n 2, 1) := by decide +kernel
theorem d_S_atomic_89 : decode c_S_atomic 89 = .ok (.iconst 3, 1) := by decide +kernel
theorem d_S_atomic_90 : decode c_S_atomic 90 = .ok (.if_icmp .ne 14, 3) := by decide +kernel
theorem d_S_atomic_93 : decode c_S_atomic 93 = .ok (.aload_n 0, 1) := by decide +kernel
theorem d_S_atomic_94 : decode c_S_atomic 94 = .ok (.iload_n 1, 1) := by decide +kernel
theorem d_S_atomic_95 : decode c_S_atomic 95 = .ok (.lload_n 3, 1) := by decide +kernel
theorem d_S_atomic_96 : decode c_S_atomic 96 = .ok (.iload 5, 2) := by decide +kernel
theorem d_S_atomic_98 : decode c_S_atomic 98 = .ok (.lload 6, 2) := by decide +kernel
theorem d_S_atomic_100 : decode c_S_atomic 100 = .ok (.invokevirtual 94, 3) := by decide +kernel
theorem d_S_atomic_103 : decode c_S_atomic 103 = .ok (.lreturn, 1) := by decide +kernel
theorem d_S_atomic_104 : decode c_S_atomic 104 = .ok (.aload_n 0, 1) := by decide +kernel
theorem d_S_atomic_105 : decode c_S_atomic 105 = .ok (.iload_n 2, 1) := by decide +kernel
theorem d_S_atomic_106 : decode c_S_atomic 106 = .ok (.lload_n 3, 1) := by decide +kernel
theorem d_S_atomic_107 : decode c_S_atomic 107 = .ok (.invokestatic 47, 3) := by decide +kernel
theorem d_S_atomic_110 : decode c_S_atomic 110 = .ok (.iload 5, 2) := by decide +kernel
theorem d_S_atomic_112 : decode c_S_atomic 112 = .ok (.lload 6, 2) := by decide +kernel
theorem d_S_atomic_114 : decode c_S_atomic 114 = .ok (.invokevirtual 98, 3) := by decide +kernel
theorem d_S_atomic_117 : decode c_S_atomic 117 = .ok (.lreturn, 1) := by decide +kernel
theorem d_S_isAtomicSize_0 : decode c_S_isAtomicSize 0 = .ok (.iload_n 0, 1) := by decide +kernel
theorem d_S_isAtomicSize_1 : decode c_S_isAtomicSize 1 = .ok (.iconst 4, 1) := by decide +kernel
theorem d_S_isAtomicSize_2 : decode c_S_isAtomicSize 2 = .ok (.if_icmp .eq 9, 3) := by decide +kernel
theorem d_S_isAtomicSize_5 : decode c_S_isAtomicSize 5 = .ok (.iload_n 0, 1) := by decide +kernel
theorem d_S_isAtomicSize_6 : decode c_S_isAtomicSize 6 = .ok (.bipush 8, 2) := by decide +kernel
theorem d_S_isAtomicSize_8 : decode c_S_isAtomicSize 8 = .ok (.if_icmp .ne 7, 3) := by decide +kernel
theorem d_S_isAtomicSize_11 : decode c_S_isAtomicSize 11 = .ok (.iconst 1, 1) := by decide +kernel
theorem d_S_isAtomicSize_12 : decode c_S_isAtomicSize 12 = .ok (.goto 4, 3) := by decide +kernel
theorem d_S_isAtomicSize_15 : decode c_S_isAtomicSize 15 = .ok (.iconst 0, 1) := by decide +kernel
theorem d_S_isAtomicSize_16 : decode c_S_isAtomicSize 16 = .ok (.ireturn, 1) := by decide +kernel
theorem d_S_isKind_0 : decode c_S_isKind 0 = .ok (.iload_n 0, 1) := by decide +kernel
theorem d_S_isKind_1 : decode c_S_isKind 1 = .ok (.tableswitch 133 0 28 #[131, 131, 131, 131, 131, 133, 133, 133, 131, 133, 133, 133, 131, 133, 133, 133, 131, 133, 133, 133, 131, 133, 133, 133, 131, 133, 133, 133, 131], 131) := by decide +kernel
theorem d_S_isKind_132 : decode c_S_isKind 132 = .ok (.iconst 1, 1) := by decide +kernel
theorem d_S_isKind_133 : decode c_S_isKind 133 = .ok (.ireturn, 1) := by decide +kernel
theorem d_S_isKind_134 : decode c_S_isKind 134 = .ok (.iconst 0, 1) := by decide +kernel
theorem d_S_isKind_135 : decode c_S_isKind 135 = .ok (.ireturn, 1) := by decide +kernel
theorem d_S_isProcessor_0 : decode c_S_isProcessor 0 = .ok (.iload_n 0, 1) := by decide +kernel
theorem d_S_isProcessor_1 : decode c_S_isProcessor 1 = .ok (.ifCond .lt 12, 3) := by decide +kernel
theorem d_S_isProcessor_4 : decode c_S_isProcessor 4 = .ok (.iload_n 0, 1) := by decide +kernel
theorem d_S_isProcessor_5 : decode c_S_isProcessor 5 = .ok (.iconst 4, 1) := by decide +kernel
theorem d_S_isProcessor_6 : decode c_S_isProcessor 6 = .ok (.if_icmp .ge 7, 3) := by decide +kernel
theorem d_S_isProcessor_9 : decode c_S_isProcessor 9 = .ok (.iconst 1, 1) := by decide +kernel
theorem d_S_isProcessor_10 : decode c_S_isProcessor 10 = .ok (.goto 4, 3) := by decide +kernel
theorem d_S_isProcessor_13 : decode c_S_isProcessor 13 = .ok (.iconst 0, 1) := by decide +kernel
theorem d_S_isProcessor_14 : decode c_S_isProcessor 14 = .ok (.ireturn, 1) := by decide +kernel
theorem d_S_reserve_0 : decode c_S_reserve 0 = .ok (.aload_n 0, 1) := by decide +kernel
theorem d_S_reserve_1 : decode c_S_reserve 1 = .ok (.getfield 19, 3) := by decide +kernel
theorem d_S_reserve_4 : decode c_S_reserve 4 = .ok (.iload_n 1, 1) := by decide +kernel
theorem d_S_reserve_5 : decode c_S_reserve 5 = .ok (.lload_n 2, 1) := by decide +kernel
theorem d_S_reserve_6 : decode c_S_reserve 6 = .ok (.lastore, 1) := by decide +kernel
theorem d_S_reserve_7 : decode c_S_reserve 7 = .ok (.aload_n 0, 1) := by decide +kernel
theorem d_S_reserve_8 : decode c_S_reserve 8 = .ok (.getfield 23, 3) := by decide +kernel
theorem d_S_reserve_11 : decode c_S_reserve 11 = .ok (.iload_n 1, 1) := by decide +kernel
theorem d_S_reserve_12 : decode c_S_reserve 12 = .ok (.iload 4, 2) := by decide +kernel
theorem d_S_reserve_14 : decode c_S_reserve 14 = .ok (.iastore, 1) := by decide +kernel
theorem d_S_reserve_15 : decode c_S_reserve 15 = .ok (.aload_n 0, 1) := by decide +kernel
theorem d_S_reserve_16 : decode c_S_reserve 16 = .ok (.lload_n 2, 1) := by decide +kernel
theorem d_S_reserve_17 : decode c_S_reserve 17 = .ok (.invokestatic 47, 3) := by decide +kernel
theorem d_S_reserve_20 : decode c_S_reserve 20 = .ok (.iload 4, 2) := by decide +kernel
theorem d_S_reserve_22 : decode c_S_reserve 22 = .ok (.invokevirtual 51, 3) := by decide +kernel
theorem d_S_reserve_25 : decode c_S_reserve 25 = .ok (.iload 4, 2) := by decide +kernel
theorem d_S_reserve_27 : decode c_S_reserve 27 = .ok (.invokestatic 169, 3) := by decide +kernel
theorem d_S_reserve_30 : decode c_S_reserve 30 = .ok (.lreturn, 1) := by decide +kernel
theorem d_S_withSign_0 : decode c_S_withSign 0 = .ok (.iload_n 2, 1) := by decide +kernel
theorem d_S_withSign_1 : decode c_S_withSign 1 = .ok (.iconst 4, 1) := by decide +kernel
theorem d_S_withSign_2 : decode c_S_withSign 2 = .ok (.if_icmp .ne 9, 3) := by decide +kernel
theorem d_S_withSign_5 : decode c_S_withSign 5 = .ok (.lload_n 0, 1) := by decide +kernel
theorem d_S_withSign_6 : decode c_S_withSign 6 = .ok (.l2i, 1) := by decide +kernel
theorem d_S_withSign_7 : decode c_S_withSign 7 = .ok (.i2l, 1) := by decide +kernel
theorem d_S_withSign_8 : decode c_S_withSign 8 = .ok (.goto 4, 3) := by decide +kernel
theorem d_S_withSign_11 : decode c_S_withSign 11 = .ok (.lload_n 0, 1) := by decide +kernel
theorem d_S_withSign_12 : decode c_S_withSign 12 = .ok (.lreturn, 1) := by decide +kernel
theorem d_S_storeIfReserved_0 : decode c_S_storeIfReserved 0 = .ok (.aload_n 0, 1) := by decide +kernel
theorem d_S_storeIfReserved_1 : decode c_S_storeIfReserved 1 = .ok (.getfield 19, 3) := by decide +kernel
theorem d_S_storeIfReserved_4 : decode c_S_storeIfReserved 4 = .ok (.iload_n 1, 1) := by decide +kernel
theorem d_S_storeIfReserved_5 : decode c_S_storeIfReserved 5 = .ok (.laload, 1) := by decide +kernel
theorem d_S_storeIfReserved_6 : decode c_S_storeIfReserved 6 = .ok (.lload_n 2, 1) := by decide +kernel
theorem d_S_storeIfReserved_7 : decode c_S_storeIfReserved 7 = .ok (.lcmp, 1) := by decide +kernel
theorem d_S_storeIfReserved_8 : decode c_S_storeIfReserved 8 = .ok (.ifCond .ne 18, 3) := by decide +kernel
theorem d_S_storeIfReserved_11 : decode c_S_storeIfReserved 11 = .ok (.aload_n 0, 1) := by decide +kernel
theorem d_S_storeIfReserved_12 : decode c_S_storeIfReserved 12 = .ok (.getfield 23, 3) := by decide +kernel
theorem d_S_storeIfReserved_15 : decode c_S_storeIfReserved 15 = .ok (.iload_n 1, 1) := by decide +kernel
theorem d_S_storeIfReserved_16 : decode c_S_storeIfReserved 16 = .ok (.iaload, 1) := by decide +kernel
theorem d_S_storeIfReserved_17 : decode c_S_storeIfReserved 17 = .ok (.iload 4, 2) := by decide +kernel
theorem d_S_storeIfReserved_19 : decode c_S_storeIfReserved 19 = .ok (.if_icmp .ne 7, 3) := by decide +kernel
theorem d_S_storeIfReserved_22 : decode c_S_storeIfReserved 22 = .ok (.iconst 1, 1) := by decide +kernel
theorem d_S_storeIfReserved_23 : decode c_S_storeIfReserved 23 = .ok (.goto 4, 3) := by decide +kernel
theorem d_S_storeIfReserved_26 : decode c_S_storeIfReserved 26 = .ok (.iconst 0, 1) := by decide +kernel
theorem d_S_storeIfReserved_27 : decode c_S_storeIfReserved 27 = .ok (.istore 7, 2) := by decide +kernel
theorem d_S_storeIfReserved_29 : decode c_S_storeIfReserved 29 = .ok (.aload_n 0, 1) := by decide +kernel
theorem d_S_storeIfReserved_30 : decode c_S_storeIfReserved 30 = .ok (.getfield 19, 3) := by decide +kernel
theorem d_S_storeIfReserved_33 : decode c_S_storeIfReserved 33 = .ok (.iload_n 1, 1) := by decide +kernel
theorem d_S_storeIfReserved_34 : decode c_S_storeIfReserved 34 = .ok (.lconst 0, 1) := by decide +kernel
theorem d_S_storeIfReserved_35 : decode c_S_storeIfReserved 35 = .ok (.lastore, 1) := by decide +kernel
theorem d_S_storeIfReserved_36 : decode c_S_storeIfReserved 36 = .ok (.iload 7, 2) := by decide +kernel
theorem d_S_storeIfReserved_38 : decode c_S_storeIfReserved 38 = .ok (.ifCond .ne 5, 3) := by decide +kernel
theorem d_S_storeIfReserved_41 : decode c_S_storeIfReserved 41 = .ok (.lconst 1, 1) := by decide +kernel
theorem d_S_storeIfReserved_42 : decode c_S_storeIfReserved 42 = .ok (.lreturn, 1) := by decide +kernel
theorem d_S_storeIfReserved_43 : decode c_S_storeIfReserved 43 = .ok (.aload_n 0, 1) := by decide +kernel
theorem d_S_storeIfReserved_44 : decode c_S_storeIfReserved 44 = .ok (.lload_n 2, 1) := by decide +kernel
theorem d_S_storeIfReserved_45 : decode c_S_storeIfReserved 45 = .ok (.invokestatic 47, 3) := by decide +kernel
theorem d_S_storeIfReserved_48 : decode c_S_storeIfReserved 48 = .ok (.iload 4, 2) := by decide +kernel
theorem d_S_storeIfReserved_50 : decode c_S_storeIfReserved 50 = .ok (.lload 5, 2) := by decide +kernel
theorem d_S_storeIfReserved_52 : decode c_S_storeIfReserved 52 = .ok (.invokevirtual 55, 3) := by decide +kernel
theorem d_S_storeIfReserved_55 : decode c_S_storeIfReserved 55 = .ok (.lconst 0, 1) := by decide +kernel
theorem d_S_storeIfReserved_56 : decode c_S_storeIfReserved 56 = .ok (.lreturn, 1) := by decide +kernel
theorem d_S_change_0 : decode c_S_change 0 = .ok (.aload_n 0, 1) := by decide +kernel
theorem d_S_change_1 : decode c_S_change 1 = .ok (.iload_n 2, 1) := by decide +kernel
theorem d_S_change_2 : decode c_S_change 2 = .ok (.iload_n 3, 1) := by decide +kernel
theorem d_S_change_3 : decode c_S_change 3 = .ok (.invokevirtual 51, 3) := by decide +kernel
theorem d_S_change_6 : decode c_S_change 6 = .ok (.iload_n 3, 1) := by decide +kernel
theorem d_S_change_7 : decode c_S_change 7 = .ok (.invokestatic 169, 3) := by decide +kernel
theorem d_S_change_10 : decode c_S_change 10 = .ok (.lstore 6, 2) := by decide +kernel
theorem d_S_change_12 : decode c_S_change 12 = .ok (.aload_n 0, 1) := by decide +kernel
theorem d_S_change_13 : decode c_S_change 13 = .ok (.iload_n 2, 1) := by decide +kernel
theorem d_S_change_14 : decode c_S_change 14 = .ok (.iload_n 3, 1) := by decide +kernel
theorem d_S_change_15 : decode c_S_change 15 = .ok (.iload_n 1, 1) := by decide +kernel
theorem d_S_change_16 : decode c_S_change 16 = .ok (.lload 6, 2) := by decide +kernel
theorem d_S_change_18 : decode c_S_change 18 = .ok (.lload 4, 2) := by decide +kernel
theorem d_S_change_20 : decode c_S_change 20 = .ok (.iload_n 3, 1) := by decide +kernel
theorem d_S_change_21 : decode c_S_change 21 = .ok (.invokestatic 169, 3) := by decide +kernel
theorem d_S_change_24 : decode c_S_change 24 = .ok (.invokestatic 173, 3) := by decide +kernel
theorem d_S_change_27 : decode c_S_change 27 = .ok (.invokevirtual 55, 3) := by decide +kernel
theorem d_S_change_30 : decode c_S_change 30 = .ok (.lload 6, 2) := by decide +kernel
theorem d_S_change_32 : decode c_S_change 32 = .ok (.lreturn, 1) := by decide +kernel
theorem d_S_changed_0 : decode c_S_changed 0 = .ok (.iload_n 0, 1) := by decide +kernel
theorem d_S_changed_1 : decode c_S_changed 1 = .ok (.tableswitch 187 0 28 #[131, 187, 187, 187, 135, 187, 187, 187, 139, 187, 187, 187, 143, 187, 187, 187, 147, 187, 187, 187, 153, 187, 187, 187, 159, 187, 187, 187, 173], 131) := by decide +kernel
theorem d_S_changed_132 : decode c_S_changed 132 = .ok (.lload_n 1, 1) := by decide +kernel
theorem d_S_changed_133 : decode c_S_changed 133 = .ok (.lload_n 3, 1) := by decide +kernel
theorem d_S_changed_134 : decode c_S_changed 134 = .ok (.ladd, 1) := by decide +kernel
theorem d_S_changed_135 : decode c_S_changed 135 = .ok (.lreturn, 1) := by decide +kernel
theorem d_S_changed_136 : decode c_S_changed 136 = .ok (.lload_n 1, 1) := by decide +kernel
theorem d_S_changed_137 : decode c_S_changed 137 = .ok (.lload_n 3, 1) := by decide +kernel
theorem d_S_changed_138 : decode c_S_changed 138 = .ok (.lxor, 1) := by decide +kernel
theorem d_S_changed_139 : decode c_S_changed 139 = .ok (.lreturn, 1) := by decide +kernel
theorem d_S_changed_140 : decode c_S_changed 140 = .ok (.lload_n 1, 1) := by decide +kernel
theorem d_S_changed_141 : decode c_S_changed 141 = .ok (.lload_n 3, 1) := by decide +kernel
theorem d_S_changed_142 : decode c_S_changed 142 = .ok (.lor, 1) := by decide +kernel
theorem d_S_changed_143 : decode c_S_changed 143 = .ok (.lreturn, 1) := by decide +kernel
theorem d_S_changed_144 : decode c_S_changed 144 = .ok (.lload_n 1, 1) := by decide +kernel
theorem d_S_changed_145 : decode c_S_changed 145 = .ok (.lload_n 3, 1) := by decide +kernel
theorem d_S_changed_146 : decode c_S_changed 146 = .ok (.land, 1) := by decide +kernel
theorem d_S_changed_147 : decode c_S_changed 147 = .ok (.lreturn, 1) := by decide +kernel
theorem d_S_changed_148 : decode c_S_changed 148 = .ok (.lload_n 1, 1) := by decide +kernel
theorem d_S_changed_149 : decode c_S_changed 149 = .ok (.lload_n 3, 1) := by decide +kernel
theorem d_S_changed_150 : decode c_S_changed 150 = .ok (.invokestatic 177, 3) := by decide +kernel
theorem d_S_changed_153 : decode c_S_changed 153 = .ok (.lreturn, 1) := by decide +kernel
theorem d_S_changed_154 : decode c_S_changed 154 = .ok (.lload_n 1, 1) := by decide +kernel
theorem d_S_changed_155 : decode c_S_changed 155 = .ok (.lload_n 3, 1) := by decide +kernel
theorem d_S_changed_156 : decode c_S_changed 156 = .ok (.invokestatic 180, 3) := by decide +kernel
theorem d_S_changed_159 : decode c_S_changed 159 = .ok (.lreturn, 1) := by decide +kernel
theorem d_S_changed_160 : decode c_S_changed 160 = .ok (.lload_n 1, 1) := by decide +kernel
theorem d_S_changed_161 : decode c_S_changed 161 = .ok (.lload_n 3, 1) := by decide +kernel
theorem d_S_changed_162 : decode c_S_changed 162 = .ok (.invokestatic 182, 3) := by decide +kernel
theorem d_S_changed_165 : decode c_S_changed 165 = .ok (.ifCond .eq 7, 3) := by decide +kernel
theorem d_S_changed_168 : decode c_S_changed 168 = .ok (.lload_n 1, 1) := by decide +kernel
theorem d_S_changed_169 : decode c_S_changed 169 = .ok (.goto 4, 3) := by decide +kernel
theorem d_S_changed_172 : decode c_S_changed 172 = .ok (.lload_n 3, 1) := by decide +kernel
theorem d_S_changed_173 : decode c_S_changed 173 = .ok (.lreturn, 1) := by decide +kernel
theorem d_S_changed_174 : decode c_S_changed 174 = .ok (.lload_n 1, 1) := by decide +kernel
theorem d_S_changed_175 : decode c_S_changed 175 = .ok (.lload_n 3, 1) := by decide +kernel
theorem d_S_changed_176 : decode c_S_changed 176 = .ok (.invokestatic 182, 3) := by decide +kernel
theorem d_S_changed_179 : decode c_S_changed 179 = .ok (.ifCond .eq 7, 3) := by decide +kernel
theorem d_S_changed_182 : decode c_S_changed 182 = .ok (.lload_n 3, 1) := by decide +kernel
theorem d_S_changed_183 : decode c_S_changed 183 = .ok (.goto 4, 3) := by decide +kernel
theorem d_S_changed_186 : decode c_S_changed 186 = .ok (.lload_n 1, 1) := by decide +kernel
theorem d_S_changed_187 : decode c_S_changed 187 = .ok (.lreturn, 1) := by decide +kernel
theorem d_S_changed_188 : decode c_S_changed 188 = .ok (.lload_n 3, 1) := by decide +kernel
theorem d_S_changed_189 : decode c_S_changed 189 = .ok (.lreturn, 1) := by decide +kernel
theorem d_S_isLessUnsigned_0 : decode c_S_isLessUnsigned 0 = .ok (.lload_n 0, 1) := by decide +kernel
theorem d_S_isLessUnsigned_1 : decode c_S_isLessUnsigned 1 = .ok (.ldc2_w 188, 3) := by decide +kernel
theorem d_S_isLessUnsigned_4 : decode c_S_isLessUnsigned 4 = .ok (.ladd, 1) := by decide +kernel
theorem d_S_isLessUnsigned_5 : decode c_S_isLessUnsigned 5 = .ok (.lload_n 2, 1) := by decide +kernel
theorem d_S_isLessUnsigned_6 : decode c_S_isLessUnsigned 6 = .ok (.ldc2_w 188, 3) := by decide +kernel
theorem d_S_isLessUnsigned_9 : decode c_S_isLessUnsigned 9 = .ok (.ladd, 1) := by decide +kernel
theorem d_S_isLessUnsigned_10 : decode c_S_isLessUnsigned 10 = .ok (.lcmp, 1) := by decide +kernel
theorem d_S_isLessUnsigned_11 : decode c_S_isLessUnsigned 11 = .ok (.ifCond .ge 7, 3) := by decide +kernel
theorem d_S_isLessUnsigned_14 : decode c_S_isLessUnsigned 14 = .ok (.iconst 1, 1) := by decide +kernel
theorem d_S_isLessUnsigned_15 : decode c_S_isLessUnsigned 15 = .ok (.goto 4, 3) := by decide +kernel
theorem d_S_isLessUnsigned_18 : decode c_S_isLessUnsigned 18 = .ok (.iconst 0, 1) := by decide +kernel
theorem d_S_isLessUnsigned_19 : decode c_S_isLessUnsigned 19 = .ok (.ireturn, 1) := by decide +kernel
theorem d_S_drop_0 : decode c_S_drop 0 = .ok (.iload_n 1, 1) := by decide +kernel
theorem d_S_drop_1 : decode c_S_drop 1 = .ok (.invokestatic 80, 3) := by decide +kernel
theorem d_S_drop_4 : decode c_S_drop 4 = .ok (.ifCond .ne 13, 3) := by decide +kernel
theorem d_S_drop_7 : decode c_S_drop 7 = .ok (.new 42, 3) := by decide +kernel
theorem d_S_drop_10 : decode c_S_drop 10 = .ok (.dup, 1) := by decide +kernel
theorem d_S_drop_11 : decode c_S_drop 11 = .ok (.ldc 102, 2) := by decide +kernel
theorem d_S_drop_13 : decode c_S_drop 13 = .ok (.invokespecial 46, 3) := by decide +kernel
theorem d_S_drop_16 : decode c_S_drop 16 = .ok (.athrow, 1) := by decide +kernel
theorem d_S_drop_17 : decode c_S_drop 17 = .ok (.aload_n 0, 1) := by decide +kernel
theorem d_S_drop_18 : decode c_S_drop 18 = .ok (.getfield 19, 3) := by decide +kernel
theorem d_S_drop_21 : decode c_S_drop 21 = .ok (.iload_n 1, 1) := by decide +kernel
theorem d_S_drop_22 : decode c_S_drop 22 = .ok (.laload, 1) := by decide +kernel
theorem d_S_drop_23 : decode c_S_drop 23 = .ok (.lconst 0, 1) := by decide +kernel
theorem d_S_drop_24 : decode c_S_drop 24 = .ok (.lcmp, 1) := by decide +kernel
theorem d_S_drop_25 : decode c_S_drop 25 = .ok (.ifCond .eq 7, 3) := by decide +kernel
theorem d_S_drop_28 : decode c_S_drop 28 = .ok (.iconst 1, 1) := by decide +kernel
theorem d_S_drop_29 : decode c_S_drop 29 = .ok (.goto 4, 3) := by decide +kernel
theorem d_S_drop_32 : decode c_S_drop 32 = .ok (.iconst 0, 1) := by decide +kernel
theorem d_S_drop_33 : decode c_S_drop 33 = .ok (.istore_n 2, 1) := by decide +kernel
theorem d_S_drop_34 : decode c_S_drop 34 = .ok (.aload_n 0, 1) := by decide +kernel
theorem d_S_drop_35 : decode c_S_drop 35 = .ok (.getfield 19, 3) := by decide +kernel
theorem d_S_drop_38 : decode c_S_drop 38 = .ok (.iload_n 1, 1) := by decide +kernel
theorem d_S_drop_39 : decode c_S_drop 39 = .ok (.lconst 0, 1) := by decide +kernel
theorem d_S_drop_40 : decode c_S_drop 40 = .ok (.lastore, 1) := by decide +kernel
theorem d_S_drop_41 : decode c_S_drop 41 = .ok (.iload_n 2, 1) := by decide +kernel
theorem d_S_drop_42 : decode c_S_drop 42 = .ok (.ireturn, 1) := by decide +kernel
theorem d_S_reserved_0 : decode c_S_reserved 0 = .ok (.iload_n 1, 1) := by decide +kernel
theorem d_S_reserved_1 : decode c_S_reserved 1 = .ok (.invokestatic 80, 3) := by decide +kernel
theorem d_S_reserved_4 : decode c_S_reserved 4 = .ok (.ifCond .ne 13, 3) := by decide +kernel
theorem d_S_reserved_7 : decode c_S_reserved 7 = .ok (.new 42, 3) := by decide +kernel
theorem d_S_reserved_10 : decode c_S_reserved 10 = .ok (.dup, 1) := by decide +kernel
theorem d_S_reserved_11 : decode c_S_reserved 11 = .ok (.ldc 102, 2) := by decide +kernel
theorem d_S_reserved_13 : decode c_S_reserved 13 = .ok (.invokespecial 46, 3) := by decide +kernel
theorem d_S_reserved_16 : decode c_S_reserved 16 = .ok (.athrow, 1) := by decide +kernel
theorem d_S_reserved_17 : decode c_S_reserved 17 = .ok (.aload_n 0, 1) := by decide +kernel
theorem d_S_reserved_18 : decode c_S_reserved 18 = .ok (.getfield 19, 3) := by decide +kernel
theorem d_S_reserved_21 : decode c_S_reserved 21 = .ok (.iload_n 1, 1) := by decide +kernel
theorem d_S_reserved_22 : decode c_S_reserved 22 = .ok (.laload, 1) := by decide +kernel
theorem d_S_reserved_23 : decode c_S_reserved 23 = .ok (.lreturn, 1) := by decide +kernel
theorem d_S_writes_0 : decode c_S_writes 0 = .ok (.aload_n 0, 1) := by decide +kernel
theorem d_S_writes_1 : decode c_S_writes 1 = .ok (.iload_n 1, 1) := by decide +kernel
theorem d_S_writes_2 : decode c_S_writes 2 = .ok (.invokevirtual 104, 3) := by decide +kernel
theorem d_S_writes_5 : decode c_S_writes 5 = .ok (.ifCond .ne 13, 3) := by decide +kernel
theorem d_S_writes_8 : decode c_S_writes 8 = .ok (.new 42, 3) := by decide +kernel
theorem d_S_writes_11 : decode c_S_writes 11 = .ok (.dup, 1) := by decide +kernel
theorem d_S_writes_12 : decode c_S_writes 12 = .ok (.ldc 107, 2) := by decide +kernel
theorem d_S_writes_14 : decode c_S_writes 14 = .ok (.invokespecial 46, 3) := by decide +kernel
theorem d_S_writes_17 : decode c_S_writes 17 = .ok (.athrow, 1) := by decide +kernel
theorem d_S_writes_18 : decode c_S_writes 18 = .ok (.aload_n 0, 1) := by decide +kernel
theorem d_S_writes_19 : decode c_S_writes 19 = .ok (.getfield 15, 3) := by decide +kernel
theorem d_S_writes_22 : decode c_S_writes 22 = .ok (.iload_n 1, 1) := by decide +kernel
theorem d_S_writes_23 : decode c_S_writes 23 = .ok (.aaload, 1) := by decide +kernel
theorem d_S_writes_24 : decode c_S_writes 24 = .ok (.astore_n 2, 1) := by decide +kernel
theorem d_S_writes_25 : decode c_S_writes 25 = .ok (.aload_n 2, 1) := by decide +kernel
theorem d_S_writes_26 : decode c_S_writes 26 = .ok (.ifnonnull 7, 3) := by decide +kernel
theorem d_S_writes_29 : decode c_S_writes 29 = .ok (.lconst 0, 1) := by decide +kernel
theorem d_S_writes_30 : decode c_S_writes 30 = .ok (.goto 7, 3) := by decide +kernel
theorem d_S_writes_33 : decode c_S_writes 33 = .ok (.aload_n 2, 1) := by decide +kernel
theorem d_S_writes_34 : decode c_S_writes 34 = .ok (.invokevirtual 109, 3) := by decide +kernel
theorem d_S_writes_37 : decode c_S_writes 37 = .ok (.lreturn, 1) := by decide +kernel
theorem d_S_isPage_0 : decode c_S_isPage 0 = .ok (.iload_n 1, 1) := by decide +kernel
theorem d_S_isPage_1 : decode c_S_isPage 1 = .ok (.ifCond .lt 15, 3) := by decide +kernel
theorem d_S_isPage_4 : decode c_S_isPage 4 = .ok (.iload_n 1, 1) := by decide +kernel
theorem d_S_isPage_5 : decode c_S_isPage 5 = .ok (.aload_n 0, 1) := by decide +kernel
theorem d_S_isPage_6 : decode c_S_isPage 6 = .ok (.getfield 9, 3) := by decide +kernel
theorem d_S_isPage_9 : decode c_S_isPage 9 = .ok (.if_icmp .ge 7, 3) := by decide +kernel
theorem d_S_isPage_12 : decode c_S_isPage 12 = .ok (.iconst 1, 1) := by decide +kernel
theorem d_S_isPage_13 : decode c_S_isPage 13 = .ok (.goto 4, 3) := by decide +kernel
theorem d_S_isPage_16 : decode c_S_isPage 16 = .ok (.iconst 0, 1) := by decide +kernel
theorem d_S_isPage_17 : decode c_S_isPage 17 = .ok (.ireturn, 1) := by decide +kernel
theorem d_P_writeCount_0 : decode c_P_writeCount 0 = .ok (.aload_n 0, 1) := by decide +kernel
theorem d_P_writeCount_1 : decode c_P_writeCount 1 = .ok (.getfield 15, 3) := by decide +kernel
theorem d_P_writeCount_4 : decode c_P_writeCount 4 = .ok (.lreturn, 1) := by decide +kernel
theorem d_S_sum_0 : decode c_S_sum 0 = .ok (.aload_n 0, 1) := by decide +kernel
theorem d_S_sum_1 : decode c_S_sum 1 = .ok (.iload_n 1, 1) := by decide +kernel
theorem d_S_sum_2 : decode c_S_sum 2 = .ok (.invokevirtual 104, 3) := by decide +kernel
theorem d_S_sum_5 : decode c_S_sum 5 = .ok (.ifCond .ne 13, 3) := by decide +kernel
theorem d_S_sum_8 : decode c_S_sum 8 = .ok (.new 42, 3) := by decide +kernel
theorem d_S_sum_11 : decode c_S_sum 11 = .ok (.dup, 1) := by decide +kernel
theorem d_S_sum_12 : decode c_S_sum 12 = .ok (.ldc 107, 2) := by decide +kernel
theorem d_S_sum_14 : decode c_S_sum 14 = .ok (.invokespecial 46, 3) := by decide +kernel
theorem d_S_sum_17 : decode c_S_sum 17 = .ok (.athrow, 1) := by decide +kernel
theorem d_S_sum_18 : decode c_S_sum 18 = .ok (.aload_n 0, 1) := by decide +kernel
theorem d_S_sum_19 : decode c_S_sum 19 = .ok (.getfield 15, 3) := by decide +kernel
theorem d_S_sum_22 : decode c_S_sum 22 = .ok (.iload_n 1, 1) := by decide +kernel
theorem d_S_sum_23 : decode c_S_sum 23 = .ok (.aaload, 1) := by decide +kernel
theorem d_S_sum_24 : decode c_S_sum 24 = .ok (.astore_n 2, 1) := by decide +kernel
theorem d_S_sum_25 : decode c_S_sum 25 = .ok (.aload_n 2, 1) := by decide +kernel
theorem d_S_sum_26 : decode c_S_sum 26 = .ok (.ifnonnull 7, 3) := by decide +kernel
theorem d_S_sum_29 : decode c_S_sum 29 = .ok (.lconst 0, 1) := by decide +kernel
theorem d_S_sum_30 : decode c_S_sum 30 = .ok (.goto 7, 3) := by decide +kernel
theorem d_S_sum_33 : decode c_S_sum 33 = .ok (.aload_n 2, 1) := by decide +kernel
theorem d_S_sum_34 : decode c_S_sum 34 = .ok (.invokevirtual 112, 3) := by decide +kernel
theorem d_S_sum_37 : decode c_S_sum 37 = .ok (.lreturn, 1) := by decide +kernel
theorem d_P_weightedSum_0 : decode c_P_weightedSum 0 = .ok (.lconst 0, 1) := by decide +kernel
theorem d_P_weightedSum_1 : decode c_P_weightedSum 1 = .ok (.lstore_n 1, 1) := by decide +kernel
theorem d_P_weightedSum_2 : decode c_P_weightedSum 2 = .ok (.iconst 0, 1) := by decide +kernel
theorem d_P_weightedSum_3 : decode c_P_weightedSum 3 = .ok (.istore_n 3, 1) := by decide +kernel
theorem d_P_weightedSum_4 : decode c_P_weightedSum 4 = .ok (.iload_n 3, 1) := by decide +kernel
theorem d_P_weightedSum_5 : decode c_P_weightedSum 5 = .ok (.sipush 512, 3) := by decide +kernel
theorem d_P_weightedSum_8 : decode c_P_weightedSum 8 = .ok (.if_icmp .ge 69, 3) := by decide +kernel
theorem d_P_weightedSum_11 : decode c_P_weightedSum 11 = .ok (.aload_n 0, 1) := by decide +kernel
theorem d_P_weightedSum_12 : decode c_P_weightedSum 12 = .ok (.iload_n 3, 1) := by decide +kernel
theorem d_P_weightedSum_13 : decode c_P_weightedSum 13 = .ok (.invokevirtual 30, 3) := by decide +kernel
theorem d_P_weightedSum_16 : decode c_P_weightedSum 16 = .ok (.lstore 4, 2) := by decide +kernel
theorem d_P_weightedSum_18 : decode c_P_weightedSum 18 = .ok (.bipush 8, 2) := by decide +kernel
theorem d_P_weightedSum_20 : decode c_P_weightedSum 20 = .ok (.iload_n 3, 1) := by decide +kernel
theorem d_P_weightedSum_21 : decode c_P_weightedSum 21 = .ok (.imul, 1) := by decide +kernel
theorem d_P_weightedSum_22 : decode c_P_weightedSum 22 = .ok (.iconst 1, 1) := by decide +kernel
theorem d_P_weightedSum_23 : decode c_P_weightedSum 23 = .ok (.iadd, 1) := by decide +kernel
theorem d_P_weightedSum_24 : decode c_P_weightedSum 24 = .ok (.istore 6, 2) := by decide +kernel
theorem d_P_weightedSum_26 : decode c_P_weightedSum 26 = .ok (.lload 4, 2) := by decide +kernel
theorem d_P_weightedSum_28 : decode c_P_weightedSum 28 = .ok (.lconst 0, 1) := by decide +kernel
theorem d_P_weightedSum_29 : decode c_P_weightedSum 29 = .ok (.lcmp, 1) := by decide +kernel
theorem d_P_weightedSum_30 : decode c_P_weightedSum 30 = .ok (.ifCond .eq 41, 3) := by decide +kernel
theorem d_P_weightedSum_33 : decode c_P_weightedSum 33 = .ok (.iload 6, 2) := by decide +kernel
theorem d_P_weightedSum_35 : decode c_P_weightedSum 35 = .ok (.bipush 8, 2) := by decide +kernel
theorem d_P_weightedSum_37 : decode c_P_weightedSum 37 = .ok (.iload_n 3, 1) := by decide +kernel
theorem d_P_weightedSum_38 : decode c_P_weightedSum 38 = .ok (.imul, 1) := by decide +kernel
theorem d_P_weightedSum_39 : decode c_P_weightedSum 39 = .ok (.bipush 8, 2) := by decide +kernel
theorem d_P_weightedSum_41 : decode c_P_weightedSum 41 = .ok (.iadd, 1) := by decide +kernel
theorem d_P_weightedSum_42 : decode c_P_weightedSum 42 = .ok (.if_icmp .gt 29, 3) := by decide +kernel
theorem d_P_weightedSum_45 : decode c_P_weightedSum 45 = .ok (.lload_n 1, 1) := by decide +kernel
theorem d_P_weightedSum_46 : decode c_P_weightedSum 46 = .ok (.lload 4, 2) := by decide +kernel
theorem d_P_weightedSum_48 : decode c_P_weightedSum 48 = .ok (.ldc2_w 58, 3) := by decide +kernel
theorem d_P_weightedSum_51 : decode c_P_weightedSum 51 = .ok (.land, 1) := by decide +kernel
theorem d_P_weightedSum_52 : decode c_P_weightedSum 52 = .ok (.iload 6, 2) := by decide +kernel
theorem d_P_weightedSum_54 : decode c_P_weightedSum 54 = .ok (.i2l, 1) := by decide +kernel
theorem d_P_weightedSum_55 : decode c_P_weightedSum 55 = .ok (.lmul, 1) := by decide +kernel
theorem d_P_weightedSum_56 : decode c_P_weightedSum 56 = .ok (.ladd, 1) := by decide +kernel
theorem d_P_weightedSum_57 : decode c_P_weightedSum 57 = .ok (.lstore_n 1, 1) := by decide +kernel
theorem d_P_weightedSum_58 : decode c_P_weightedSum 58 = .ok (.lload 4, 2) := by decide +kernel
theorem d_P_weightedSum_60 : decode c_P_weightedSum 60 = .ok (.bipush 8, 2) := by decide +kernel
theorem d_P_weightedSum_62 : decode c_P_weightedSum 62 = .ok (.lushr, 1) := by decide +kernel
theorem d_P_weightedSum_63 : decode c_P_weightedSum 63 = .ok (.lstore 4, 2) := by decide +kernel
theorem d_P_weightedSum_65 : decode c_P_weightedSum 65 = .ok (.iinc 6 1, 3) := by decide +kernel
theorem d_P_weightedSum_68 : decode c_P_weightedSum 68 = .ok (.goto (-42), 3) := by decide +kernel
theorem d_P_weightedSum_71 : decode c_P_weightedSum 71 = .ok (.iinc 3 1, 3) := by decide +kernel
theorem d_P_weightedSum_74 : decode c_P_weightedSum 74 = .ok (.goto (-70), 3) := by decide +kernel
theorem d_P_weightedSum_77 : decode c_P_weightedSum 77 = .ok (.lload_n 1, 1) := by decide +kernel
theorem d_P_weightedSum_78 : decode c_P_weightedSum 78 = .ok (.lreturn, 1) := by decide +kernel
end
section
theorem d_L_cell_0 : decode c_L_cell 0 = .ok (.iload_n 1, 1) := by decide +kernel
theorem d_L_cell_1 : decode c_L_cell 1 = .ok (.aload_n 0, 1) := by decide +kernel
theorem d_L_cell_2 : decode c_L_cell 2 = .ok (.arraylength, 1) := by decide +kernel
theorem d_L_cell_3 : decode c_L_cell 3 = .ok (.if_icmp .ge 9, 3) := by decide +kernel
theorem d_L_cell_6 : decode c_L_cell 6 = .ok (.aload_n 0, 1) := by decide +kernel
theorem d_L_cell_7 : decode c_L_cell 7 = .ok (.iload_n 1, 1) := by decide +kernel
theorem d_L_cell_8 : decode c_L_cell 8 = .ok (.iaload, 1) := by decide +kernel
theorem d_L_cell_9 : decode c_L_cell 9 = .ok (.goto 4, 3) := by decide +kernel
theorem d_L_cell_12 : decode c_L_cell 12 = .ok (.iconst 0, 1) := by decide +kernel
theorem d_L_cell_13 : decode c_L_cell 13 = .ok (.ireturn, 1) := by decide +kernel
theorem d_L_load_0 : decode c_L_load 0 = .ok (.aload 4, 2) := by decide +kernel
theorem d_L_load_2 : decode c_L_load 2 = .ok (.iconst 0, 1) := by decide +kernel
theorem d_L_load_3 : decode c_L_load 3 = .ok (.aload_n 0, 1) := by decide +kernel
theorem d_L_load_4 : decode c_L_load 4 = .ok (.lload_n 1, 1) := by decide +kernel
theorem d_L_load_5 : decode c_L_load 5 = .ok (.iload_n 3, 1) := by decide +kernel
theorem d_L_load_6 : decode c_L_load 6 = .ok (.invokevirtual 7, 3) := by decide +kernel
theorem d_L_load_9 : decode c_L_load 9 = .ok (.lastore, 1) := by decide +kernel
theorem d_L_load_10 : decode c_L_load 10 = .ok (.goto 11, 3) := by decide +kernel
theorem d_L_load_13 : decode c_L_load 13 = .ok (.astore 5, 2) := by decide +kernel
theorem d_L_load_15 : decode c_L_load 15 = .ok (.iconst 1, 1) := by decide +kernel
theorem d_L_load_16 : decode c_L_load 16 = .ok (.ireturn, 1) := by decide +kernel
theorem d_L_load_17 : decode c_L_load 17 = .ok (.astore 5, 2) := by decide +kernel
theorem d_L_load_19 : decode c_L_load 19 = .ok (.iconst 2, 1) := by decide +kernel
theorem d_L_load_20 : decode c_L_load 20 = .ok (.ireturn, 1) := by decide +kernel
theorem d_L_load_21 : decode c_L_load 21 = .ok (.iconst 0, 1) := by decide +kernel
theorem d_L_load_22 : decode c_L_load 22 = .ok (.ireturn, 1) := by decide +kernel
theorem d_L_store_0 : decode c_L_store 0 = .ok (.aload_n 0, 1) := by decide +kernel
theorem d_L_store_1 : decode c_L_store 1 = .ok (.lload_n 1, 1) := by decide +kernel
theorem d_L_store_2 : decode c_L_store 2 = .ok (.iload_n 3, 1) := by decide +kernel
theorem d_L_store_3 : decode c_L_store 3 = .ok (.lload 4, 2) := by decide +kernel
theorem d_L_store_5 : decode c_L_store 5 = .ok (.invokevirtual 17, 3) := by decide +kernel
theorem d_L_store_8 : decode c_L_store 8 = .ok (.goto 11, 3) := by decide +kernel
theorem d_L_store_11 : decode c_L_store 11 = .ok (.astore 6, 2) := by decide +kernel
theorem d_L_store_13 : decode c_L_store 13 = .ok (.iconst 1, 1) := by decide +kernel
theorem d_L_store_14 : decode c_L_store 14 = .ok (.ireturn, 1) := by decide +kernel
theorem d_L_store_15 : decode c_L_store 15 = .ok (.astore 6, 2) := by decide +kernel
theorem d_L_store_17 : decode c_L_store 17 = .ok (.iconst 2, 1) := by decide +kernel
theorem d_L_store_18 : decode c_L_store 18 = .ok (.ireturn, 1) := by decide +kernel
theorem d_L_store_19 : decode c_L_store 19 = .ok (.iconst 0, 1) := by decide +kernel
theorem d_L_store_20 : decode c_L_store 20 = .ok (.ireturn, 1) := by decide +kernel
theorem d_L_fill_0 : decode c_L_fill 0 = .ok (.aload_n 0, 1) := by decide +kernel
theorem d_L_fill_1 : decode c_L_fill 1 = .ok (.lload_n 1, 1) := by decide +kernel
theorem d_L_fill_2 : decode c_L_fill 2 = .ok (.lload_n 3, 1) := by decide +kernel
theorem d_L_fill_3 : decode c_L_fill 3 = .ok (.iload 5, 2) := by decide +kernel
theorem d_L_fill_5 : decode c_L_fill 5 = .ok (.invokevirtual 21, 3) := by decide +kernel
theorem d_L_fill_8 : decode c_L_fill 8 = .ok (.goto 11, 3) := by decide +kernel
theorem d_L_fill_11 : decode c_L_fill 11 = .ok (.astore 6, 2) := by decide +kernel
theorem d_L_fill_13 : decode c_L_fill 13 = .ok (.iconst 1, 1) := by decide +kernel
theorem d_L_fill_14 : decode c_L_fill 14 = .ok (.ireturn, 1) := by decide +kernel
theorem d_L_fill_15 : decode c_L_fill 15 = .ok (.astore 6, 2) := by decide +kernel
theorem d_L_fill_17 : decode c_L_fill 17 = .ok (.iconst 2, 1) := by decide +kernel
theorem d_L_fill_18 : decode c_L_fill 18 = .ok (.ireturn, 1) := by decide +kernel
theorem d_L_fill_19 : decode c_L_fill 19 = .ok (.iconst 0, 1) := by decide +kernel
theorem d_L_fill_20 : decode c_L_fill 20 = .ok (.ireturn, 1) := by decide +kernel
theorem d_L_atomic_0 : decode c_L_atomic 0 = .ok (.aload 8, 2) := by decide +kernel
theorem d_L_atomic_2 : decode c_L_atomic 2 = .ok (.iconst 0, 1) := by decide +kernel
theorem d_L_atomic_3 : decode c_L_atomic 3 = .ok (.aload_n 0, 1) := by decide +kernel
theorem d_L_atomic_4 : decode c_L_atomic 4 = .ok (.iload_n 1, 1) := by decide +kernel
theorem d_L_atomic_5 : decode c_L_atomic 5 = .ok (.iload_n 2, 1) := by decide +kernel
theorem d_L_atomic_6 : decode c_L_atomic 6 = .ok (.lload_n 3, 1) := by decide +kernel
theorem d_L_atomic_7 : decode c_L_atomic 7 = .ok (.iload 5, 2) := by decide +kernel
theorem d_L_atomic_9 : decode c_L_atomic 9 = .ok (.lload 6, 2) := by decide +kernel
theorem d_L_atomic_11 : decode c_L_atomic 11 = .ok (.invokevirtual 25, 3) := by decide +kernel
theorem d_L_atomic_14 : decode c_L_atomic 14 = .ok (.lastore, 1) := by decide +kernel
theorem d_L_atomic_15 : decode c_L_atomic 15 = .ok (.goto 15, 3) := by decide +kernel
theorem d_L_atomic_18 : decode c_L_atomic 18 = .ok (.astore 9, 2) := by decide +kernel
theorem d_L_atomic_20 : decode c_L_atomic 20 = .ok (.iconst 1, 1) := by decide +kernel
theorem d_L_atomic_21 : decode c_L_atomic 21 = .ok (.ireturn, 1) := by decide +kernel
theorem d_L_atomic_22 : decode c_L_atomic 22 = .ok (.astore 9, 2) := by decide +kernel
theorem d_L_atomic_24 : decode c_L_atomic 24 = .ok (.iconst 2, 1) := by decide +kernel
theorem d_L_atomic_25 : decode c_L_atomic 25 = .ok (.ireturn, 1) := by decide +kernel
theorem d_L_atomic_26 : decode c_L_atomic 26 = .ok (.astore 9, 2) := by decide +kernel
theorem d_L_atomic_28 : decode c_L_atomic 28 = .ok (.iconst 3, 1) := by decide +kernel
theorem d_L_atomic_29 : decode c_L_atomic 29 = .ok (.ireturn, 1) := by decide +kernel
theorem d_L_atomic_30 : decode c_L_atomic 30 = .ok (.iconst 0, 1) := by decide +kernel
theorem d_L_atomic_31 : decode c_L_atomic 31 = .ok (.ireturn, 1) := by decide +kernel
theorem d_L_drop_0 : decode c_L_drop 0 = .ok (.aload_n 2, 1) := by decide +kernel
theorem d_L_drop_1 : decode c_L_drop 1 = .ok (.iconst 0, 1) := by decide +kernel
theorem d_L_drop_2 : decode c_L_drop 2 = .ok (.aload_n 0, 1) := by decide +kernel
theorem d_L_drop_3 : decode c_L_drop 3 = .ok (.iload_n 1, 1) := by decide +kernel
theorem d_L_drop_4 : decode c_L_drop 4 = .ok (.invokevirtual 31, 3) := by decide +kernel
theorem d_L_drop_7 : decode c_L_drop 7 = .ok (.ifCond .eq 7, 3) := by decide +kernel
theorem d_L_drop_10 : decode c_L_drop 10 = .ok (.lconst 1, 1) := by decide +kernel
theorem d_L_drop_11 : decode c_L_drop 11 = .ok (.goto 4, 3) := by decide +kernel
theorem d_L_drop_14 : decode c_L_drop 14 = .ok (.lconst 0, 1) := by decide +kernel
theorem d_L_drop_15 : decode c_L_drop 15 = .ok (.lastore, 1) := by decide +kernel
theorem d_L_drop_16 : decode c_L_drop 16 = .ok (.goto 6, 3) := by decide +kernel
theorem d_L_drop_19 : decode c_L_drop 19 = .ok (.astore_n 3, 1) := by decide +kernel
theorem d_L_drop_20 : decode c_L_drop 20 = .ok (.iconst 1, 1) := by decide +kernel
theorem d_L_drop_21 : decode c_L_drop 21 = .ok (.ireturn, 1) := by decide +kernel
theorem d_L_drop_22 : decode c_L_drop 22 = .ok (.iconst 0, 1) := by decide +kernel
theorem d_L_drop_23 : decode c_L_drop 23 = .ok (.ireturn, 1) := by decide +kernel
theorem d_L_reserved_0 : decode c_L_reserved 0 = .ok (.aload_n 2, 1) := by decide +kernel
theorem d_L_reserved_1 : decode c_L_reserved 1 = .ok (.iconst 0, 1) := by decide +kernel
theorem d_L_reserved_2 : decode c_L_reserved 2 = .ok (.aload_n 0, 1) := by decide +kernel
theorem d_L_reserved_3 : decode c_L_reserved 3 = .ok (.iload_n 1, 1) := by decide +kernel
theorem d_L_reserved_4 : decode c_L_reserved 4 = .ok (.invokevirtual 35, 3) := by decide +kernel
theorem d_L_reserved_7 : decode c_L_reserved 7 = .ok (.lastore, 1) := by decide +kernel
theorem d_L_reserved_8 : decode c_L_reserved 8 = .ok (.goto 6, 3) := by decide +kernel
theorem d_L_reserved_11 : decode c_L_reserved 11 = .ok (.astore_n 3, 1) := by decide +kernel
theorem d_L_reserved_12 : decode c_L_reserved 12 = .ok (.iconst 1, 1) := by decide +kernel
theorem d_L_reserved_13 : decode c_L_reserved 13 = .ok (.ireturn, 1) := by decide +kernel
theorem d_L_reserved_14 : decode c_L_reserved 14 = .ok (.iconst 0, 1) := by decide +kernel
theorem d_L_reserved_15 : decode c_L_reserved 15 = .ok (.ireturn, 1) := by decide +kernel
theorem d_L_writes_0 : decode c_L_writes 0 = .ok (.aload_n 2, 1) := by decide +kernel
theorem d_L_writes_1 : decode c_L_writes 1 = .ok (.iconst 0, 1) := by decide +kernel
theorem d_L_writes_2 : decode c_L_writes 2 = .ok (.aload_n 0, 1) := by decide +kernel
theorem d_L_writes_3 : decode c_L_writes 3 = .ok (.iload_n 1, 1) := by decide +kernel
theorem d_L_writes_4 : decode c_L_writes 4 = .ok (.invokevirtual 39, 3) := by decide +kernel
theorem d_L_writes_7 : decode c_L_writes 7 = .ok (.lastore, 1) := by decide +kernel
theorem d_L_writes_8 : decode c_L_writes 8 = .ok (.goto 6, 3) := by decide +kernel
theorem d_L_writes_11 : decode c_L_writes 11 = .ok (.astore_n 3, 1) := by decide +kernel
theorem d_L_writes_12 : decode c_L_writes 12 = .ok (.iconst 1, 1) := by decide +kernel
theorem d_L_writes_13 : decode c_L_writes 13 = .ok (.ireturn, 1) := by decide +kernel
theorem d_L_writes_14 : decode c_L_writes 14 = .ok (.iconst 0, 1) := by decide +kernel
theorem d_L_writes_15 : decode c_L_writes 15 = .ok (.ireturn, 1) := by decide +kernel
theorem d_L_sum_0 : decode c_L_sum 0 = .ok (.aload_n 2, 1) := by decide +kernel
theorem d_L_sum_1 : decode c_L_sum 1 = .ok (.iconst 0, 1) := by decide +kernel
theorem d_L_sum_2 : decode c_L_sum 2 = .ok (.aload_n 0, 1) := by decide +kernel
theorem d_L_sum_3 : decode c_L_sum 3 = .ok (.iload_n 1, 1) := by decide +kernel
theorem d_L_sum_4 : decode c_L_sum 4 = .ok (.invokevirtual 42, 3) := by decide +kernel
theorem d_L_sum_7 : decode c_L_sum 7 = .ok (.lastore, 1) := by decide +kernel
theorem d_L_sum_8 : decode c_L_sum 8 = .ok (.goto 6, 3) := by decide +kernel
theorem d_L_sum_11 : decode c_L_sum 11 = .ok (.astore_n 3, 1) := by decide +kernel
theorem d_L_sum_12 : decode c_L_sum 12 = .ok (.iconst 1, 1) := by decide +kernel
theorem d_L_sum_13 : decode c_L_sum 13 = .ok (.ireturn, 1) := by decide +kernel
theorem d_L_sum_14 : decode c_L_sum 14 = .ok (.iconst 0, 1) := by decide +kernel
theorem d_L_sum_15 : decode c_L_sum 15 = .ok (.ireturn, 1) := by decide +kernel
theorem d_M_init_0 : decode c_M_init 0 = .ok (.aload_n 0, 1) := by decide +kernel
theorem d_M_init_1 : decode c_M_init 1 = .ok (.invokespecial 1, 3) := by decide +kernel
theorem d_M_init_4 : decode c_M_init 4 = .ok (.aload_n 0, 1) := by decide +kernel
theorem d_M_init_5 : decode c_M_init 5 = .ok (.ldc 7, 2) := by decide +kernel
theorem d_M_init_7 : decode c_M_init 7 = .ok (.newarray .long, 2) := by decide +kernel
theorem d_M_init_9 : decode c_M_init 9 = .ok (.putfield 8, 3) := by decide +kernel
theorem d_M_init_12 : decode c_M_init 12 = .ok (.aload_n 0, 1) := by decide +kernel
theorem d_M_init_13 : decode c_M_init 13 = .ok (.sipush 1024, 3) := by decide +kernel
theorem d_M_init_16 : decode c_M_init 16 = .ok (.newarray .long, 2) := by decide +kernel
theorem d_M_init_18 : decode c_M_init 18 = .ok (.putfield 14, 3) := by decide +kernel
theorem d_M_init_21 : decode c_M_init 21 = .ok (.aload_n 0, 1) := by decide +kernel
theorem d_M_init_22 : decode c_M_init 22 = .ok (.iconst 4, 1) := by decide +kernel
theorem d_M_init_23 : decode c_M_init 23 = .ok (.newarray .long, 2) := by decide +kernel
theorem d_M_init_25 : decode c_M_init 25 = .ok (.putfield 17, 3) := by decide +kernel
theorem d_M_init_28 : decode c_M_init 28 = .ok (.aload_n 0, 1) := by decide +kernel
theorem d_M_init_29 : decode c_M_init 29 = .ok (.iconst 4, 1) := by decide +kernel
theorem d_M_init_30 : decode c_M_init 30 = .ok (.newarray .int, 2) := by decide +kernel
theorem d_M_init_32 : decode c_M_init 32 = .ok (.putfield 20, 3) := by decide +kernel
theorem d_M_init_35 : decode c_M_init 35 = .ok (.aload_n 0, 1) := by decide +kernel
theorem d_M_init_36 : decode c_M_init 36 = .ok (.iload_n 1, 1) := by decide +kernel
theorem d_M_init_37 : decode c_M_init 37 = .ok (.iconst 1, 1) := by decide +kernel
theorem d_M_init_38 : decode c_M_init 38 = .ok (.if_icmp .lt 10, 3) := by decide +kernel
theorem d_M_init_41 : decode c_M_init 41 = .ok (.iload_n 1, 1) := by decide +kernel
theorem d_M_init_42 : decode c_M_init 42 = .ok (.sipush 1024, 3) := by decide +kernel
theorem d_M_init_45 : decode c_M_init 45 = .ok (.if_icmp .le 9, 3) := by decide +kernel
theorem d_M_init_48 : decode c_M_init 48 = .ok (.sipush 1024, 3) := by decide +kernel
theorem d_M_init_51 : decode c_M_init 51 = .ok (.goto 4, 3) := by decide +kernel
theorem d_M_init_54 : decode c_M_init 54 = .ok (.iload_n 1, 1) := by decide +kernel
theorem d_M_init_55 : decode c_M_init 55 = .ok (.putfield 24, 3) := by decide +kernel
theorem d_M_init_58 : decode c_M_init 58 = .ok (.return_, 1) := by decide +kernel
theorem d_M_thrown_0 : decode c_M_thrown 0 = .ok (.aload_n 0, 1) := by decide +kernel
theorem d_M_thrown_1 : decode c_M_thrown 1 = .ok (.getfield 28, 3) := by decide +kernel
theorem d_M_thrown_4 : decode c_M_thrown 4 = .ok (.ireturn, 1) := by decide +kernel
theorem d_M_pages_0 : decode c_M_pages 0 = .ok (.aload_n 0, 1) := by decide +kernel
theorem d_M_pages_1 : decode c_M_pages 1 = .ok (.iconst 0, 1) := by decide +kernel
theorem d_M_pages_2 : decode c_M_pages 2 = .ok (.putfield 28, 3) := by decide +kernel
theorem d_M_pages_5 : decode c_M_pages 5 = .ok (.aload_n 0, 1) := by decide +kernel
theorem d_M_pages_6 : decode c_M_pages 6 = .ok (.getfield 24, 3) := by decide +kernel
theorem d_M_pages_9 : decode c_M_pages 9 = .ok (.ireturn, 1) := by decide +kernel
theorem d_M_load_0 : decode c_M_load 0 = .ok (.aload_n 0, 1) := by decide +kernel
theorem d_M_load_1 : decode c_M_load 1 = .ok (.iload_n 3, 1) := by decide +kernel
theorem d_M_load_2 : decode c_M_load 2 = .ok (.invokestatic 55, 3) := by decide +kernel
theorem d_M_load_5 : decode c_M_load 5 = .ok (.ifCond .ne 7, 3) := by decide +kernel
theorem d_M_load_8 : decode c_M_load 8 = .ok (.iconst 1, 1) := by decide +kernel
theorem d_M_load_9 : decode c_M_load 9 = .ok (.goto 17, 3) := by decide +kernel
theorem d_M_load_12 : decode c_M_load 12 = .ok (.aload_n 0, 1) := by decide +kernel
theorem d_M_load_13 : decode c_M_load 13 = .ok (.lload_n 1, 1) := by decide +kernel
theorem d_M_load_14 : decode c_M_load 14 = .ok (.iload_n 3, 1) := by decide +kernel
theorem d_M_load_15 : decode c_M_load 15 = .ok (.invokevirtual 59, 3) := by decide +kernel
theorem d_M_load_18 : decode c_M_load 18 = .ok (.ifCond .ne 7, 3) := by decide +kernel
theorem d_M_load_21 : decode c_M_load 21 = .ok (.iconst 2, 1) := by decide +kernel
theorem d_M_load_22 : decode c_M_load 22 = .ok (.goto 4, 3) := by decide +kernel
theorem d_M_load_25 : decode c_M_load 25 = .ok (.iconst 0, 1) := by decide +kernel
theorem d_M_load_26 : decode c_M_load 26 = .ok (.putfield 28, 3) := by decide +kernel
theorem d_M_load_29 : decode c_M_load 29 = .ok (.aload_n 0, 1) := by decide +kernel
theorem d_M_load_30 : decode c_M_load 30 = .ok (.getfield 28, 3) := by decide +kernel
theorem d_M_load_33 : decode c_M_load 33 = .ok (.ifCond .le 7, 3) := by decide +kernel
theorem d_M_load_36 : decode c_M_load 36 = .ok (.lconst 0, 1) := by decide +kernel
theorem d_M_load_37 : decode c_M_load 37 = .ok (.goto 9, 3) := by decide +kernel
theorem d_M_load_40 : decode c_M_load 40 = .ok (.aload_n 0, 1) := by decide +kernel
theorem d_M_load_41 : decode c_M_load 41 = .ok (.lload_n 1, 1) := by decide +kernel
theorem d_M_load_42 : decode c_M_load 42 = .ok (.iload_n 3, 1) := by decide +kernel
theorem d_M_load_43 : decode c_M_load 43 = .ok (.invokevirtual 63, 3) := by decide +kernel
theorem d_M_load_46 : decode c_M_load 46 = .ok (.lreturn, 1) := by decide +kernel
theorem d_M_isSize_0 : decode c_M_isSize 0 = .ok (.iload_n 0, 1) := by decide +kernel
theorem d_M_isSize_1 : decode c_M_isSize 1 = .ok (.iconst 1, 1) := by decide +kernel
theorem d_M_isSize_2 : decode c_M_isSize 2 = .ok (.if_icmp .eq 19, 3) := by decide +kernel
theorem d_M_isSize_5 : decode c_M_isSize 5 = .ok (.iload_n 0, 1) := by decide +kernel
theorem d_M_isSize_6 : decode c_M_isSize 6 = .ok (.iconst 2, 1) := by decide +kernel
theorem d_M_isSize_7 : decode c_M_isSize 7 = .ok (.if_icmp .eq 14, 3) := by decide +kernel
theorem d_M_isSize_10 : decode c_M_isSize 10 = .ok (.iload_n 0, 1) := by decide +kernel
theorem d_M_isSize_11 : decode c_M_isSize 11 = .ok (.iconst 4, 1) := by decide +kernel
theorem d_M_isSize_12 : decode c_M_isSize 12 = .ok (.if_icmp .eq 9, 3) := by decide +kernel
theorem d_M_isSize_15 : decode c_M_isSize 15 = .ok (.iload_n 0, 1) := by decide +kernel
theorem d_M_isSize_16 : decode c_M_isSize 16 = .ok (.bipush 8, 2) := by decide +kernel
theorem d_M_isSize_18 : decode c_M_isSize 18 = .ok (.if_icmp .ne 7, 3) := by decide +kernel
theorem d_M_isSize_21 : decode c_M_isSize 21 = .ok (.iconst 1, 1) := by decide +kernel
theorem d_M_isSize_22 : decode c_M_isSize 22 = .ok (.goto 4, 3) := by decide +kernel
theorem d_M_isSize_25 : decode c_M_isSize 25 = .ok (.iconst 0, 1) := by decide +kernel
theorem d_M_isSize_26 : decode c_M_isSize 26 = .ok (.ireturn, 1) := by decide +kernel
theorem d_M_areBytes_0 : decode c_M_areBytes 0 = .ok (.aload_n 0, 1) := by decide +kernel
theorem d_M_areBytes_1 : decode c_M_areBytes 1 = .ok (.lload_n 1, 1) := by decide +kernel
theorem d_M_areBytes_2 : decode c_M_areBytes 2 = .ok (.invokevirtual 35, 3) := by decide +kernel
theorem d_M_areBytes_5 : decode c_M_areBytes 5 = .ok (.ifCond .eq 20, 3) := by decide +kernel
theorem d_M_areBytes_8 : decode c_M_areBytes 8 = .ok (.aload_n 0, 1) := by decide +kernel
theorem d_M_areBytes_9 : decode c_M_areBytes 9 = .ok (.lload_n 1, 1) := by decide +kernel
theorem d_M_areBytes_10 : decode c_M_areBytes 10 = .ok (.iload_n 3, 1) := by decide +kernel
theorem d_M_areBytes_11 : decode c_M_areBytes 11 = .ok (.i2l, 1) := by decide +kernel
theorem d_M_areBytes_12 : decode c_M_areBytes 12 = .ok (.ladd, 1) := by decide +kernel
theorem d_M_areBytes_13 : decode c_M_areBytes 13 = .ok (.lconst 1, 1) := by decide +kernel
theorem d_M_areBytes_14 : decode c_M_areBytes 14 = .ok (.lsub, 1) := by decide +kernel
theorem d_M_areBytes_15 : decode c_M_areBytes 15 = .ok (.invokevirtual 35, 3) := by decide +kernel
theorem d_M_areBytes_18 : decode c_M_areBytes 18 = .ok (.ifCond .eq 7, 3) := by decide +kernel
theorem d_M_areBytes_21 : decode c_M_areBytes 21 = .ok (.iconst 1, 1) := by decide +kernel
theorem d_M_areBytes_22 : decode c_M_areBytes 22 = .ok (.goto 4, 3) := by decide +kernel
theorem d_M_areBytes_25 : decode c_M_areBytes 25 = .ok (.iconst 0, 1) := by decide +kernel
theorem d_M_areBytes_26 : decode c_M_areBytes 26 = .ok (.ireturn, 1) := by decide +kernel
theorem d_M_isByte_0 : decode c_M_isByte 0 = .ok (.lload_n 1, 1) := by decide +kernel
theorem d_M_isByte_1 : decode c_M_isByte 1 = .ok (.ldc2_w 31, 3) := by decide +kernel
theorem d_M_isByte_4 : decode c_M_isByte 4 = .ok (.lcmp, 1) := by decide +kernel
theorem d_M_isByte_5 : decode c_M_isByte 5 = .ok (.ifCond .lt 25, 3) := by decide +kernel
theorem d_M_isByte_8 : decode c_M_isByte 8 = .ok (.lload_n 1, 1) := by decide +kernel
theorem d_M_isByte_9 : decode c_M_isByte 9 = .ok (.ldc2_w 31, 3) := by decide +kernel
theorem d_M_isByte_12 : decode c_M_isByte 12 = .ok (.ldc2_w 33, 3) := by decide +kernel
theorem d_M_isByte_15 : decode c_M_isByte 15 = .ok (.aload_n 0, 1) := by decide +kernel
theorem d_M_isByte_16 : decode c_M_isByte 16 = .ok (.getfield 24, 3) := by decide +kernel
theorem d_M_isByte_19 : decode c_M_isByte 19 = .ok (.i2l, 1) := by decide +kernel
theorem d_M_isByte_20 : decode c_M_isByte 20 = .ok (.lmul, 1) := by decide +kernel
theorem d_M_isByte_21 : decode c_M_isByte 21 = .ok (.ladd, 1) := by decide +kernel
theorem d_M_isByte_22 : decode c_M_isByte 22 = .ok (.lcmp, 1) := by decide +kernel
theorem d_M_isByte_23 : decode c_M_isByte 23 = .ok (.ifCond .ge 7, 3) := by decide +kernel
theorem d_M_isByte_26 : decode c_M_isByte 26 = .ok (.iconst 1, 1) := by decide +kernel
theorem d_M_isByte_27 : decode c_M_isByte 27 = .ok (.goto 4, 3) := by decide +kernel
theorem d_M_isByte_30 : decode c_M_isByte 30 = .ok (.iconst 0, 1) := by decide +kernel
theorem d_M_isByte_31 : decode c_M_isByte 31 = .ok (.ireturn, 1) := by decide +kernel
theorem d_M_number_0 : decode c_M_number 0 = .ok (.lconst 0, 1) := by decide +kernel
theorem d_M_number_1 : decode c_M_number 1 = .ok (.lstore 4, 2) := by decide +kernel
theorem d_M_number_3 : decode c_M_number 3 = .ok (.iload_n 3, 1) := by decide +kernel
theorem d_M_number_4 : decode c_M_number 4 = .ok (.iconst 1, 1) := by decide +kernel
theorem d_M_number_5 : decode c_M_number 5 = .ok (.isub, 1) := by decide +kernel
theorem d_M_number_6 : decode c_M_number 6 = .ok (.istore 6, 2) := by decide +kernel
theorem d_M_number_8 : decode c_M_number 8 = .ok (.iload 6, 2) := by decide +kernel
theorem d_M_number_10 : decode c_M_number 10 = .ok (.ifCond .lt 28, 3) := by decide +kernel
theorem d_M_number_13 : decode c_M_number 13 = .ok (.ldc2_w 43, 3) := by decide +kernel
theorem d_M_number_16 : decode c_M_number 16 = .ok (.lload 4, 2) := by decide +kernel
theorem d_M_number_18 : decode c_M_number 18 = .ok (.lmul, 1) := by decide +kernel
theorem d_M_number_19 : decode c_M_number 19 = .ok (.aload_n 0, 1) := by decide +kernel
theorem d_M_number_20 : decode c_M_number 20 = .ok (.lload_n 1, 1) := by decide +kernel
theorem d_M_number_21 : decode c_M_number 21 = .ok (.iload 6, 2) := by decide +kernel
theorem d_M_number_23 : decode c_M_number 23 = .ok (.i2l, 1) := by decide +kernel
theorem d_M_number_24 : decode c_M_number 24 = .ok (.ladd, 1) := by decide +kernel
theorem d_M_number_25 : decode c_M_number 25 = .ok (.invokevirtual 45, 3) := by decide +kernel
theorem d_M_number_28 : decode c_M_number 28 = .ok (.i2l, 1) := by decide +kernel
theorem d_M_number_29 : decode c_M_number 29 = .ok (.ladd, 1) := by decide +kernel
theorem d_M_number_30 : decode c_M_number 30 = .ok (.lstore 4, 2) := by decide +kernel
theorem d_M_number_32 : decode c_M_number 32 = .ok (.iinc 6 (-1), 3) := by decide +kernel
theorem d_M_number_35 : decode c_M_number 35 = .ok (.goto (-27), 3) := by decide +kernel
theorem d_M_number_38 : decode c_M_number 38 = .ok (.lload 4, 2) := by decide +kernel
theorem d_M_number_40 : decode c_M_number 40 = .ok (.lreturn, 1) := by decide +kernel
theorem d_M_get_0 : decode c_M_get 0 = .ok (.lload_n 1, 1) := by decide +kernel
theorem d_M_get_1 : decode c_M_get 1 = .ok (.ldc2_w 31, 3) := by decide +kernel
theorem d_M_get_4 : decode c_M_get 4 = .ok (.lsub, 1) := by decide +kernel
theorem d_M_get_5 : decode c_M_get 5 = .ok (.l2i, 1) := by decide +kernel
theorem d_M_get_6 : decode c_M_get 6 = .ok (.istore_n 3, 1) := by decide +kernel
theorem d_M_get_7 : decode c_M_get 7 = .ok (.aload_n 0, 1) := by decide +kernel
theorem d_M_get_8 : decode c_M_get 8 = .ok (.getfield 8, 3) := by decide +kernel
theorem d_M_get_11 : decode c_M_get 11 = .ok (.iload_n 3, 1) := by decide +kernel
theorem d_M_get_12 : decode c_M_get 12 = .ok (.bipush 8, 2) := by decide +kernel
theorem d_M_get_14 : decode c_M_get 14 = .ok (.idiv, 1) := by decide +kernel
theorem d_M_get_15 : decode c_M_get 15 = .ok (.laload, 1) := by decide +kernel
theorem d_M_get_16 : decode c_M_get 16 = .ok (.bipush 8, 2) := by decide +kernel
theorem d_M_get_18 : decode c_M_get 18 = .ok (.iload_n 3, 1) := by decide +kernel
theorem d_M_get_19 : decode c_M_get 19 = .ok (.bipush 8, 2) := by decide +kernel
theorem d_M_get_21 : decode c_M_get 21 = .ok (.irem, 1) := by decide +kernel
theorem d_M_get_22 : decode c_M_get 22 = .ok (.imul, 1) := by decide +kernel
theorem d_M_get_23 : decode c_M_get 23 = .ok (.lushr, 1) := by decide +kernel
theorem d_M_get_24 : decode c_M_get 24 = .ok (.l2i, 1) := by decide +kernel
theorem d_M_get_25 : decode c_M_get 25 = .ok (.sipush 255, 3) := by decide +kernel
theorem d_M_get_28 : decode c_M_get 28 = .ok (.iand, 1) := by decide +kernel
theorem d_M_get_29 : decode c_M_get 29 = .ok (.ireturn, 1) := by decide +kernel
theorem d_M_store_0 : decode c_M_store 0 = .ok (.aload_n 0, 1) := by decide +kernel
theorem d_M_store_1 : decode c_M_store 1 = .ok (.iload_n 3, 1) := by decide +kernel
theorem d_M_store_2 : decode c_M_store 2 = .ok (.invokestatic 55, 3) := by decide +kernel
theorem d_M_store_5 : decode c_M_store 5 = .ok (.ifCond .ne 7, 3) := by decide +kernel
theorem d_M_store_8 : decode c_M_store 8 = .ok (.iconst 1, 1) := by decide +kernel
theorem d_M_store_9 : decode c_M_store 9 = .ok (.goto 17, 3) := by decide +kernel
theorem d_M_store_12 : decode c_M_store 12 = .ok (.aload_n 0, 1) := by decide +kernel
theorem d_M_store_13 : decode c_M_store 13 = .ok (.lload_n 1, 1) := by decide +kernel
theorem d_M_store_14 : decode c_M_store 14 = .ok (.iload_n 3, 1) := by decide +kernel
theorem d_M_store_15 : decode c_M_store 15 = .ok (.invokevirtual 59, 3) := by decide +kernel
theorem d_M_store_18 : decode c_M_store 18 = .ok (.ifCond .ne 7, 3) := by decide +kernel
theorem d_M_store_21 : decode c_M_store 21 = .ok (.iconst 2, 1) := by decide +kernel
theorem d_M_store_22 : decode c_M_store 22 = .ok (.goto 4, 3) := by decide +kernel
theorem d_M_store_25 : decode c_M_store 25 = .ok (.iconst 0, 1) := by decide +kernel
theorem d_M_store_26 : decode c_M_store 26 = .ok (.putfield 28, 3) := by decide +kernel
theorem d_M_store_29 : decode c_M_store 29 = .ok (.aload_n 0, 1) := by decide +kernel
theorem d_M_store_30 : decode c_M_store 30 = .ok (.getfield 28, 3) := by decide +kernel
theorem d_M_store_33 : decode c_M_store 33 = .ok (.ifCond .ne 11, 3) := by decide +kernel
theorem d_M_store_36 : decode c_M_store 36 = .ok (.aload_n 0, 1) := by decide +kernel
theorem d_M_store_37 : decode c_M_store 37 = .ok (.lload_n 1, 1) := by decide +kernel
theorem d_M_store_38 : decode c_M_store 38 = .ok (.iload_n 3, 1) := by decide +kernel
theorem d_M_store_39 : decode c_M_store 39 = .ok (.lload 4, 2) := by decide +kernel
theorem d_M_store_41 : decode c_M_store 41 = .ok (.invokevirtual 67, 3) := by decide +kernel
theorem d_M_store_44 : decode c_M_store 44 = .ok (.return_, 1) := by decide +kernel
theorem d_M_keep_0 : decode c_M_keep 0 = .ok (.iconst 0, 1) := by decide +kernel
theorem d_M_keep_1 : decode c_M_keep 1 = .ok (.istore 6, 2) := by decide +kernel
theorem d_M_keep_3 : decode c_M_keep 3 = .ok (.iload 6, 2) := by decide +kernel
theorem d_M_keep_5 : decode c_M_keep 5 = .ok (.iload_n 3, 1) := by decide +kernel
theorem d_M_keep_6 : decode c_M_keep 6 = .ok (.if_icmp .ge 133, 3) := by decide +kernel
theorem d_M_keep_9 : decode c_M_keep 9 = .ok (.lload_n 1, 1) := by decide +kernel
theorem d_M_keep_10 : decode c_M_keep 10 = .ok (.iload 6, 2) := by decide +kernel
theorem d_M_keep_12 : decode c_M_keep 12 = .ok (.i2l, 1) := by decide +kernel
theorem d_M_keep_13 : decode c_M_keep 13 = .ok (.ladd, 1) := by decide +kernel
theorem d_M_keep_14 : decode c_M_keep 14 = .ok (.lstore 7, 2) := by decide +kernel
theorem d_M_keep_16 : decode c_M_keep 16 = .ok (.aload_n 0, 1) := by decide +kernel
theorem d_M_keep_17 : decode c_M_keep 17 = .ok (.lload 7, 2) := by decide +kernel
theorem d_M_keep_19 : decode c_M_keep 19 = .ok (.lload 4, 2) := by decide +kernel
theorem d_M_keep_21 : decode c_M_keep 21 = .ok (.bipush 8, 2) := by decide +kernel
theorem d_M_keep_23 : decode c_M_keep 23 = .ok (.iload 6, 2) := by decide +kernel
theorem d_M_keep_25 : decode c_M_keep 25 = .ok (.imul, 1) := by decide +kernel
theorem d_M_keep_26 : decode c_M_keep 26 = .ok (.lushr, 1) := by decide +kernel
theorem d_M_keep_27 : decode c_M_keep 27 = .ok (.l2i, 1) := by decide +kernel
theorem d_M_keep_28 : decode c_M_keep 28 = .ok (.invokevirtual 49, 3) := by decide +kernel
theorem d_M_keep_31 : decode c_M_keep 31 = .ok (.iconst 0, 1) := by decide +kernel
theorem d_M_keep_32 : decode c_M_keep 32 = .ok (.istore 9, 2) := by decide +kernel
theorem d_M_keep_34 : decode c_M_keep 34 = .ok (.iload 9, 2) := by decide +kernel
theorem d_M_keep_36 : decode c_M_keep 36 = .ok (.iconst 4, 1) := by decide +kernel
theorem d_M_keep_37 : decode c_M_keep 37 = .ok (.if_icmp .ge 60, 3) := by decide +kernel
theorem d_M_keep_40 : decode c_M_keep 40 = .ok (.aload_n 0, 1) := by decide +kernel
theorem d_M_keep_41 : decode c_M_keep 41 = .ok (.getfield 17, 3) := by decide +kernel
theorem d_M_keep_44 : decode c_M_keep 44 = .ok (.iload 9, 2) := by decide +kernel
theorem d_M_keep_46 : decode c_M_keep 46 = .ok (.aload_n 0, 1) := by decide +kernel
theorem d_M_keep_47 : decode c_M_keep 47 = .ok (.getfield 17, 3) := by decide +kernel
theorem d_M_keep_50 : decode c_M_keep 50 = .ok (.iload 9, 2) := by decide +kernel
theorem d_M_keep_52 : decode c_M_keep 52 = .ok (.laload, 1) := by decide +kernel
theorem d_M_keep_53 : decode c_M_keep 53 = .ok (.lconst 0, 1) := by decide +kernel
theorem d_M_keep_54 : decode c_M_keep 54 = .ok (.lcmp, 1) := by decide +kernel
theorem d_M_keep_55 : decode c_M_keep 55 = .ok (.ifCond .le 28, 3) := by decide +kernel
theorem d_M_keep_58 : decode c_M_keep 58 = .ok (.aload_n 0, 1) := by decide +kernel
theorem d_M_keep_59 : decode c_M_keep 59 = .ok (.getfield 17, 3) := by decide +kernel
theorem d_M_keep_62 : decode c_M_keep 62 = .ok (.iload 9, 2) := by decide +kernel
theorem d_M_keep_64 : decode c_M_keep 64 = .ok (.laload, 1) := by decide +kernel
theorem d_M_keep_65 : decode c_M_keep 65 = .ok (.ldc2_w 53, 3) := by decide +kernel
theorem d_M_keep_68 : decode c_M_keep 68 = .ok (.ldiv, 1) := by decide +kernel
theorem d_M_keep_69 : decode c_M_keep 69 = .ok (.lload 7, 2) := by decide +kernel
theorem d_M_keep_71 : decode c_M_keep 71 = .ok (.ldc2_w 53, 3) := by decide +kernel
theorem d_M_keep_74 : decode c_M_keep 74 = .ok (.ldiv, 1) := by decide +kernel
theorem d_M_keep_75 : decode c_M_keep 75 = .ok (.lcmp, 1) := by decide +kernel
theorem d_M_keep_76 : decode c_M_keep 76 = .ok (.ifCond .ne 7, 3) := by decide +kernel
theorem d_M_keep_79 : decode c_M_keep 79 = .ok (.lconst 0, 1) := by decide +kernel
theorem d_M_keep_80 : decode c_M_keep 80 = .ok (.goto 10, 3) := by decide +kernel
theorem d_M_keep_83 : decode c_M_keep 83 = .ok (.aload_n 0, 1) := by decide +kernel
theorem d_M_keep_84 : decode c_M_keep 84 = .ok (.getfield 17, 3) := by decide +kernel
theorem d_M_keep_87 : decode c_M_keep 87 = .ok (.iload 9, 2) := by decide +kernel
theorem d_M_keep_89 : decode c_M_keep 89 = .ok (.laload, 1) := by decide +kernel
theorem d_M_keep_90 : decode c_M_keep 90 = .ok (.lastore, 1) := by decide +kernel
theorem d_M_keep_91 : decode c_M_keep 91 = .ok (.iinc 9 1, 3) := by decide +kernel
theorem d_M_keep_94 : decode c_M_keep 94 = .ok (.goto (-60), 3) := by decide +kernel
theorem d_M_keep_97 : decode c_M_keep 97 = .ok (.iload 6, 2) := by decide +kernel
theorem d_M_keep_99 : decode c_M_keep 99 = .ok (.ifCond .eq 14, 3) := by decide +kernel
theorem d_M_keep_102 : decode c_M_keep 102 = .ok (.lload 7, 2) := by decide +kernel
theorem d_M_keep_104 : decode c_M_keep 104 = .ok (.ldc2_w 33, 3) := by decide +kernel
theorem d_M_keep_107 : decode c_M_keep 107 = .ok (.lrem, 1) := by decide +kernel
theorem d_M_keep_108 : decode c_M_keep 108 = .ok (.lconst 0, 1) := by decide +kernel
theorem d_M_keep_109 : decode c_M_keep 109 = .ok (.lcmp, 1) := by decide +kernel
theorem d_M_keep_110 : decode c_M_keep 110 = .ok (.ifCond .ne 23, 3) := by decide +kernel
theorem d_M_keep_113 : decode c_M_keep 113 = .ok (.aload_n 0, 1) := by decide +kernel
theorem d_M_keep_114 : decode c_M_keep 114 = .ok (.getfield 14, 3) := by decide +kernel
theorem d_M_keep_117 : decode c_M_keep 117 = .ok (.lload 7, 2) := by decide +kernel
theorem d_M_keep_119 : decode c_M_keep 119 = .ok (.ldc2_w 31, 3) := by decide +kernel
theorem d_M_keep_122 : decode c_M_keep 122 = .ok (.lsub, 1) := by decide +kernel
theorem d_M_keep_123 : decode c_M_keep 123 = .ok (.ldc2_w 33, 3) := by decide +kernel
theorem d_M_keep_126 : decode c_M_keep 126 = .ok (.ldiv, 1) := by decide +kernel
theorem d_M_keep_127 : decode c_M_keep 127 = .ok (.l2i, 1) := by decide +kernel
theorem d_M_keep_128 : decode c_M_keep 128 = .ok (.dup2, 1) := by decide +kernel
theorem d_M_keep_129 : decode c_M_keep 129 = .ok (.laload, 1) := by decide +kernel
theorem d_M_keep_130 : decode c_M_keep 130 = .ok (.lconst 1, 1) := by decide +kernel
theorem d_M_keep_131 : decode c_M_keep 131 = .ok (.ladd, 1) := by decide +kernel
theorem d_M_keep_132 : decode c_M_keep 132 = .ok (.lastore, 1) := by decide +kernel
theorem d_M_keep_133 : decode c_M_keep 133 = .ok (.iinc 6 1, 3) := by decide +kernel
theorem d_M_keep_136 : decode c_M_keep 136 = .ok (.goto (-133), 3) := by decide +kernel
theorem d_M_keep_139 : decode c_M_keep 139 = .ok (.return_, 1) := by decide +kernel
theorem d_M_set_0 : decode c_M_set 0 = .ok (.lload_n 1, 1) := by decide +kernel
theorem d_M_set_1 : decode c_M_set 1 = .ok (.ldc2_w 31, 3) := by decide +kernel
theorem d_M_set_4 : decode c_M_set 4 = .ok (.lsub, 1) := by decide +kernel
theorem d_M_set_5 : decode c_M_set 5 = .ok (.l2i, 1) := by decide +kernel
theorem d_M_set_6 : decode c_M_set 6 = .ok (.istore 4, 2) := by decide +kernel
theorem d_M_set_8 : decode c_M_set 8 = .ok (.bipush 8, 2) := by decide +kernel
theorem d_M_set_10 : decode c_M_set 10 = .ok (.iload 4, 2) := by decide +kernel
theorem d_M_set_12 : decode c_M_set 12 = .ok (.bipush 8, 2) := by decide +kernel
theorem d_M_set_14 : decode c_M_set 14 = .ok (.irem, 1) := by decide +kernel
theorem d_M_set_15 : decode c_M_set 15 = .ok (.imul, 1) := by decide +kernel
theorem d_M_set_16 : decode c_M_set 16 = .ok (.istore 5, 2) := by decide +kernel
theorem d_M_set_18 : decode c_M_set 18 = .ok (.aload_n 0, 1) := by decide +kernel
theorem d_M_set_19 : decode c_M_set 19 = .ok (.getfield 8, 3) := by decide +kernel
theorem d_M_set_22 : decode c_M_set 22 = .ok (.iload 4, 2) := by decide +kernel
theorem d_M_set_24 : decode c_M_set 24 = .ok (.bipush 8, 2) := by decide +kernel
theorem d_M_set_26 : decode c_M_set 26 = .ok (.idiv, 1) := by decide +kernel
theorem d_M_set_27 : decode c_M_set 27 = .ok (.aload_n 0, 1) := by decide +kernel
theorem d_M_set_28 : decode c_M_set 28 = .ok (.getfield 8, 3) := by decide +kernel
theorem d_M_set_31 : decode c_M_set 31 = .ok (.iload 4, 2) := by decide +kernel
theorem d_M_set_33 : decode c_M_set 33 = .ok (.bipush 8, 2) := by decide +kernel
theorem d_M_set_35 : decode c_M_set 35 = .ok (.idiv, 1) := by decide +kernel
theorem d_M_set_36 : decode c_M_set 36 = .ok (.laload, 1) := by decide +kernel
theorem d_M_set_37 : decode c_M_set 37 = .ok (.ldc2_w 39, 3) := by decide +kernel
theorem d_M_set_40 : decode c_M_set 40 = .ok (.iload 5, 2) := by decide +kernel
theorem d_M_set_42 : decode c_M_set 42 = .ok (.lshl, 1) := by decide +kernel
theorem d_M_set_43 : decode c_M_set 43 = .ok (.ldc2_w 41, 3) := by decide +kernel
theorem d_M_set_46 : decode c_M_set 46 = .ok (.lxor, 1) := by decide +kernel
theorem d_M_set_47 : decode c_M_set 47 = .ok (.land, 1) := by decide +kernel
theorem d_M_set_48 : decode c_M_set 48 = .ok (.iload_n 3, 1) := by decide +kernel
theorem d_M_set_49 : decode c_M_set 49 = .ok (.i2l, 1) := by decide +kernel
theorem d_M_set_50 : decode c_M_set 50 = .ok (.ldc2_w 39, 3) := by decide +kernel
theorem d_M_set_53 : decode c_M_set 53 = .ok (.land, 1) := by decide +kernel
theorem d_M_set_54 : decode c_M_set 54 = .ok (.iload 5, 2) := by decide +kernel
theorem d_M_set_56 : decode c_M_set 56 = .ok (.lshl, 1) := by decide +kernel
theorem d_M_set_57 : decode c_M_set 57 = .ok (.lor, 1) := by decide +kernel
theorem d_M_set_58 : decode c_M_set 58 = .ok (.lastore, 1) := by decide +kernel
theorem d_M_set_59 : decode c_M_set 59 = .ok (.return_, 1) := by decide +kernel
theorem d_M_fill_0 : decode c_M_fill 0 = .ok (.aload_n 0, 1) := by decide +kernel
theorem d_M_fill_1 : decode c_M_fill 1 = .ok (.lload_n 3, 1) := by decide +kernel
theorem d_M_fill_2 : decode c_M_fill 2 = .ok (.lload_n 1, 1) := by decide +kernel
theorem d_M_fill_3 : decode c_M_fill 3 = .ok (.lcmp, 1) := by decide +kernel
theorem d_M_fill_4 : decode c_M_fill 4 = .ok (.ifCond .ge 7, 3) := by decide +kernel
theorem d_M_fill_7 : decode c_M_fill 7 = .ok (.iconst 1, 1) := by decide +kernel
theorem d_M_fill_8 : decode c_M_fill 8 = .ok (.goto 32, 3) := by decide +kernel
theorem d_M_fill_11 : decode c_M_fill 11 = .ok (.lload_n 3, 1) := by decide +kernel
theorem d_M_fill_12 : decode c_M_fill 12 = .ok (.lload_n 1, 1) := by decide +kernel
theorem d_M_fill_13 : decode c_M_fill 13 = .ok (.lcmp, 1) := by decide +kernel
theorem d_M_fill_14 : decode c_M_fill 14 = .ok (.ifCond .le 25, 3) := by decide +kernel
theorem d_M_fill_17 : decode c_M_fill 17 = .ok (.aload_n 0, 1) := by decide +kernel
theorem d_M_fill_18 : decode c_M_fill 18 = .ok (.lload_n 1, 1) := by decide +kernel
theorem d_M_fill_19 : decode c_M_fill 19 = .ok (.invokevirtual 35, 3) := by decide +kernel
theorem d_M_fill_22 : decode c_M_fill 22 = .ok (.ifCond .eq 13, 3) := by decide +kernel
theorem d_M_fill_25 : decode c_M_fill 25 = .ok (.aload_n 0, 1) := by decide +kernel
theorem d_M_fill_26 : decode c_M_fill 26 = .ok (.lload_n 3, 1) := by decide +kernel
theorem d_M_fill_27 : decode c_M_fill 27 = .ok (.lconst 1, 1) := by decide +kernel
theorem d_M_fill_28 : decode c_M_fill 28 = .ok (.lsub, 1) := by decide +kernel
theorem d_M_fill_29 : decode c_M_fill 29 = .ok (.invokevirtual 35, 3) := by decide +kernel
theorem d_M_fill_32 : decode c_M_fill 32 = .ok (.ifCond .ne 7, 3) := by decide +kernel
theorem d_M_fill_35 : decode c_M_fill 35 = .ok (.iconst 2, 1) := by decide +kernel
theorem d_M_fill_36 : decode c_M_fill 36 = .ok (.goto 4, 3) := by decide +kernel
theorem d_M_fill_39 : decode c_M_fill 39 = .ok (.iconst 0, 1) := by decide +kernel
theorem d_M_fill_40 : decode c_M_fill 40 = .ok (.putfield 28, 3) := by decide +kernel
theorem d_M_fill_43 : decode c_M_fill 43 = .ok (.aload_n 0, 1) := by decide +kernel
theorem d_M_fill_44 : decode c_M_fill 44 = .ok (.getfield 28, 3) := by decide +kernel
theorem d_M_fill_47 : decode c_M_fill 47 = .ok (.ifCond .le 4, 3) := by decide +kernel
theorem d_M_fill_50 : decode c_M_fill 50 = .ok (.return_, 1) := by decide +kernel
theorem d_M_fill_51 : decode c_M_fill 51 = .ok (.lload_n 1, 1) := by decide +kernel
theorem d_M_fill_52 : decode c_M_fill 52 = .ok (.lstore 6, 2) := by decide +kernel
theorem d_M_fill_54 : decode c_M_fill 54 = .ok (.lload 6, 2) := by decide +kernel
theorem d_M_fill_56 : decode c_M_fill 56 = .ok (.lload_n 3, 1) := by decide +kernel
theorem d_M_fill_57 : decode c_M_fill 57 = .ok (.lcmp, 1) := by decide +kernel
theorem d_M_fill_58 : decode c_M_fill 58 = .ok (.ifCond .ge 83, 3) := by decide +kernel
theorem d_M_fill_61 : decode c_M_fill 61 = .ok (.aload_n 0, 1) := by decide +kernel
theorem d_M_fill_62 : decode c_M_fill 62 = .ok (.getfield 14, 3) := by decide +kernel
theorem d_M_fill_65 : decode c_M_fill 65 = .ok (.lload 6, 2) := by decide +kernel
theorem d_M_fill_67 : decode c_M_fill 67 = .ok (.ldc2_w 31, 3) := by decide +kernel
theorem d_M_fill_70 : decode c_M_fill 70 = .ok (.lsub, 1) := by decide +kernel
theorem d_M_fill_71 : decode c_M_fill 71 = .ok (.ldc2_w 33, 3) := by decide +kernel
theorem d_M_fill_74 : decode c_M_fill 74 = .ok (.ldiv, 1) := by decide +kernel
theorem d_M_fill_75 : decode c_M_fill 75 = .ok (.l2i, 1) := by decide +kernel
theorem d_M_fill_76 : decode c_M_fill 76 = .ok (.laload, 1) := by decide +kernel
theorem d_M_fill_77 : decode c_M_fill 77 = .ok (.lstore 8, 2) := by decide +kernel
theorem d_M_fill_79 : decode c_M_fill 79 = .ok (.aload_n 0, 1) := by decide +kernel
theorem d_M_fill_80 : decode c_M_fill 80 = .ok (.lload 6, 2) := by decide +kernel
theorem d_M_fill_82 : decode c_M_fill 82 = .ok (.iconst 1, 1) := by decide +kernel
theorem d_M_fill_83 : decode c_M_fill 83 = .ok (.iload 5, 2) := by decide +kernel
theorem d_M_fill_85 : decode c_M_fill 85 = .ok (.i2l, 1) := by decide +kernel
theorem d_M_fill_86 : decode c_M_fill 86 = .ok (.invokevirtual 67, 3) := by decide +kernel
theorem d_M_fill_89 : decode c_M_fill 89 = .ok (.aload_n 0, 1) := by decide +kernel
theorem d_M_fill_90 : decode c_M_fill 90 = .ok (.getfield 14, 3) := by decide +kernel
theorem d_M_fill_93 : decode c_M_fill 93 = .ok (.lload 6, 2) := by decide +kernel
theorem d_M_fill_95 : decode c_M_fill 95 = .ok (.ldc2_w 31, 3) := by decide +kernel
theorem d_M_fill_98 : decode c_M_fill 98 = .ok (.lsub, 1) := by decide +kernel
theorem d_M_fill_99 : decode c_M_fill 99 = .ok (.ldc2_w 33, 3) := by decide +kernel
theorem d_M_fill_102 : decode c_M_fill 102 = .ok (.ldiv, 1) := by decide +kernel
theorem d_M_fill_103 : decode c_M_fill 103 = .ok (.l2i, 1) := by decide +kernel
theorem d_M_fill_104 : decode c_M_fill 104 = .ok (.lload 6, 2) := by decide +kernel
theorem d_M_fill_106 : decode c_M_fill 106 = .ok (.lload_n 1, 1) := by decide +kernel
theorem d_M_fill_107 : decode c_M_fill 107 = .ok (.lcmp, 1) := by decide +kernel
theorem d_M_fill_108 : decode c_M_fill 108 = .ok (.ifCond .eq 14, 3) := by decide +kernel
theorem d_M_fill_111 : decode c_M_fill 111 = .ok (.lload 6, 2) := by decide +kernel
theorem d_M_fill_113 : decode c_M_fill 113 = .ok (.ldc2_w 33, 3) := by decide +kernel
theorem d_M_fill_116 : decode c_M_fill 116 = .ok (.lrem, 1) := by decide +kernel
theorem d_M_fill_117 : decode c_M_fill 117 = .ok (.lconst 0, 1) := by decide +kernel
theorem d_M_fill_118 : decode c_M_fill 118 = .ok (.lcmp, 1) := by decide +kernel
theorem d_M_fill_119 : decode c_M_fill 119 = .ok (.ifCond .ne 10, 3) := by decide +kernel
theorem d_M_fill_122 : decode c_M_fill 122 = .ok (.lload 8, 2) := by decide +kernel
theorem d_M_fill_124 : decode c_M_fill 124 = .ok (.lconst 1, 1) := by decide +kernel
theorem d_M_fill_125 : decode c_M_fill 125 = .ok (.ladd, 1) := by decide +kernel
theorem d_M_fill_126 : decode c_M_fill 126 = .ok (.goto 5, 3) := by decide +kernel
theorem d_M_fill_129 : decode c_M_fill 129 = .ok (.lload 8, 2) := by decide +kernel
theorem d_M_fill_131 : decode c_M_fill 131 = .ok (.lastore, 1) := by decide +kernel
theorem d_M_fill_132 : decode c_M_fill 132 = .ok (.lload 6, 2) := by decide +kernel
theorem d_M_fill_134 : decode c_M_fill 134 = .ok (.lconst 1, 1) := by decide +kernel
theorem d_M_fill_135 : decode c_M_fill 135 = .ok (.ladd, 1) := by decide +kernel
theorem d_M_fill_136 : decode c_M_fill 136 = .ok (.lstore 6, 2) := by decide +kernel
theorem d_M_fill_138 : decode c_M_fill 138 = .ok (.goto (-84), 3) := by decide +kernel
theorem d_M_fill_141 : decode c_M_fill 141 = .ok (.return_, 1) := by decide +kernel
theorem d_M_atomic_0 : decode c_M_atomic 0 = .ok (.aload_n 0, 1) := by decide +kernel
theorem d_M_atomic_1 : decode c_M_atomic 1 = .ok (.iload 5, 2) := by decide +kernel
theorem d_M_atomic_3 : decode c_M_atomic 3 = .ok (.iconst 4, 1) := by decide +kernel
theorem d_M_atomic_4 : decode c_M_atomic 4 = .ok (.if_icmp .eq 10, 3) := by decide +kernel
theorem d_M_atomic_7 : decode c_M_atomic 7 = .ok (.iload 5, 2) := by decide +kernel
theorem d_M_atomic_9 : decode c_M_atomic 9 = .ok (.bipush 8, 2) := by decide +kernel
theorem d_M_atomic_11 : decode c_M_atomic 11 = .ok (.if_icmp .ne 10, 3) := by decide +kernel
theorem d_M_atomic_14 : decode c_M_atomic 14 = .ok (.iload_n 2, 1) := by decide +kernel
theorem d_M_atomic_15 : decode c_M_atomic 15 = .ok (.invokestatic 75, 3) := by decide +kernel
theorem d_M_atomic_18 : decode c_M_atomic 18 = .ok (.ifCond .ne 7, 3) := by decide +kernel
theorem d_M_atomic_21 : decode c_M_atomic 21 = .ok (.iconst 1, 1) := by decide +kernel
theorem d_M_atomic_22 : decode c_M_atomic 22 = .ok (.goto 41, 3) := by decide +kernel
theorem d_M_atomic_25 : decode c_M_atomic 25 = .ok (.iload_n 1, 1) := by decide +kernel
theorem d_M_atomic_26 : decode c_M_atomic 26 = .ok (.ifCond .lt 18, 3) := by decide +kernel
theorem d_M_atomic_29 : decode c_M_atomic 29 = .ok (.iload_n 1, 1) := by decide +kernel
theorem d_M_atomic_30 : decode c_M_atomic 30 = .ok (.iconst 3, 1) := by decide +kernel
theorem d_M_atomic_31 : decode c_M_atomic 31 = .ok (.if_icmp .gt 13, 3) := by decide +kernel
theorem d_M_atomic_34 : decode c_M_atomic 34 = .ok (.aload_n 0, 1) := by decide +kernel
theorem d_M_atomic_35 : decode c_M_atomic 35 = .ok (.lload_n 3, 1) := by decide +kernel
theorem d_M_atomic_36 : decode c_M_atomic 36 = .ok (.iload 5, 2) := by decide +kernel
theorem d_M_atomic_38 : decode c_M_atomic 38 = .ok (.invokevirtual 59, 3) := by decide +kernel
theorem d_M_atomic_41 : decode c_M_atomic 41 = .ok (.ifCond .ne 7, 3) := by decide +kernel
theorem d_M_atomic_44 : decode c_M_atomic 44 = .ok (.iconst 2, 1) := by decide +kernel
theorem d_M_atomic_45 : decode c_M_atomic 45 = .ok (.goto 18, 3) := by decide +kernel
theorem d_M_atomic_48 : decode c_M_atomic 48 = .ok (.lload_n 3, 1) := by decide +kernel
theorem d_M_atomic_49 : decode c_M_atomic 49 = .ok (.iload 5, 2) := by decide +kernel
theorem d_M_atomic_51 : decode c_M_atomic 51 = .ok (.i2l, 1) := by decide +kernel
theorem d_M_atomic_52 : decode c_M_atomic 52 = .ok (.lrem, 1) := by decide +kernel
theorem d_M_atomic_53 : decode c_M_atomic 53 = .ok (.lconst 0, 1) := by decide +kernel
theorem d_M_atomic_54 : decode c_M_atomic 54 = .ok (.lcmp, 1) := by decide +kernel
theorem d_M_atomic_55 : decode c_M_atomic 55 = .ok (.ifCond .eq 7, 3) := by decide +kernel
theorem d_M_atomic_58 : decode c_M_atomic 58 = .ok (.iconst 3, 1) := by decide +kernel
theorem d_M_atomic_59 : decode c_M_atomic 59 = .ok (.goto 4, 3) := by decide +kernel
theorem d_M_atomic_62 : decode c_M_atomic 62 = .ok (.iconst 0, 1) := by decide +kernel
theorem d_M_atomic_63 : decode c_M_atomic 63 = .ok (.putfield 28, 3) := by decide +kernel
theorem d_M_atomic_66 : decode c_M_atomic 66 = .ok (.aload_n 0, 1) := by decide +kernel
theorem d_M_atomic_67 : decode c_M_atomic 67 = .ok (.getfield 28, 3) := by decide +kernel
theorem d_M_atomic_70 : decode c_M_atomic 70 = .ok (.ifCond .le 5, 3) := by decide +kernel
theorem d_M_atomic_73 : decode c_M_atomic 73 = .ok (.lconst 0, 1) := by decide +kernel
theorem d_M_atomic_74 : decode c_M_atomic 74 = .ok (.lreturn, 1) := by decide +kernel
theorem d_M_atomic_75 : decode c_M_atomic 75 = .ok (.aload_n 0, 1) := by decide +kernel
theorem d_M_atomic_76 : decode c_M_atomic 76 = .ok (.lload_n 3, 1) := by decide +kernel
theorem d_M_atomic_77 : decode c_M_atomic 77 = .ok (.iload 5, 2) := by decide +kernel
theorem d_M_atomic_79 : decode c_M_atomic 79 = .ok (.invokevirtual 63, 3) := by decide +kernel
theorem d_M_atomic_82 : decode c_M_atomic 82 = .ok (.iload 5, 2) := by decide +kernel
theorem d_M_atomic_84 : decode c_M_atomic 84 = .ok (.invokestatic 78, 3) := by decide +kernel
theorem d_M_atomic_87 : decode c_M_atomic 87 = .ok (.lstore 8, 2) := by decide +kernel
theorem d_M_atomic_89 : decode c_M_atomic 89 = .ok (.iload_n 2, 1) := by decide +kernel
theorem d_M_atomic_90 : decode c_M_atomic 90 = .ok (.iconst 2, 1) := by decide +kernel
theorem d_M_atomic_91 : decode c_M_atomic 91 = .ok (.if_icmp .ne 21, 3) := by decide +kernel
theorem d_M_atomic_94 : decode c_M_atomic 94 = .ok (.aload_n 0, 1) := by decide +kernel
theorem d_M_atomic_95 : decode c_M_atomic 95 = .ok (.getfield 17, 3) := by decide +kernel
theorem d_M_atomic_98 : decode c_M_atomic 98 = .ok (.iload_n 1, 1) := by decide +kernel
theorem d_M_atomic_99 : decode c_M_atomic 99 = .ok (.lload_n 3, 1) := by decide +kernel
theorem d_M_atomic_100 : decode c_M_atomic 100 = .ok (.lastore, 1) := by decide +kernel
theorem d_M_atomic_101 : decode c_M_atomic 101 = .ok (.aload_n 0, 1) := by decide +kernel
theorem d_M_atomic_102 : decode c_M_atomic 102 = .ok (.getfield 20, 3) := by decide +kernel
theorem d_M_atomic_105 : decode c_M_atomic 105 = .ok (.iload_n 1, 1) := by decide +kernel
theorem d_M_atomic_106 : decode c_M_atomic 106 = .ok (.iload 5, 2) := by decide +kernel
theorem d_M_atomic_108 : decode c_M_atomic 108 = .ok (.iastore, 1) := by decide +kernel
theorem d_M_atomic_109 : decode c_M_atomic 109 = .ok (.lload 8, 2) := by decide +kernel
theorem d_M_atomic_111 : decode c_M_atomic 111 = .ok (.lreturn, 1) := by decide +kernel
theorem d_M_atomic_112 : decode c_M_atomic 112 = .ok (.iload_n 2, 1) := by decide +kernel
theorem d_M_atomic_113 : decode c_M_atomic 113 = .ok (.iconst 3, 1) := by decide +kernel
theorem d_M_atomic_114 : decode c_M_atomic 114 = .ok (.if_icmp .ne 64, 3) := by decide +kernel
theorem d_M_atomic_117 : decode c_M_atomic 117 = .ok (.aload_n 0, 1) := by decide +kernel
theorem d_M_atomic_118 : decode c_M_atomic 118 = .ok (.getfield 17, 3) := by decide +kernel
theorem d_M_atomic_121 : decode c_M_atomic 121 = .ok (.iload_n 1, 1) := by decide +kernel
theorem d_M_atomic_122 : decode c_M_atomic 122 = .ok (.laload, 1) := by decide +kernel
theorem d_M_atomic_123 : decode c_M_atomic 123 = .ok (.lload_n 3, 1) := by decide +kernel
theorem d_M_atomic_124 : decode c_M_atomic 124 = .ok (.lcmp, 1) := by decide +kernel
theorem d_M_atomic_125 : decode c_M_atomic 125 = .ok (.ifCond .ne 18, 3) := by decide +kernel
theorem d_M_atomic_128 : decode c_M_atomic 128 = .ok (.aload_n 0, 1) := by decide +kernel
theorem d_M_atomic_129 : decode c_M_atomic 129 = .ok (.getfield 20, 3) := by decide +kernel
theorem d_M_atomic_132 : decode c_M_atomic 132 = .ok (.iload_n 1, 1) := by decide +kernel
theorem d_M_atomic_133 : decode c_M_atomic 133 = .ok (.iaload, 1) := by decide +kernel
theorem d_M_atomic_134 : decode c_M_atomic 134 = .ok (.iload 5, 2) := by decide +kernel
theorem d_M_atomic_136 : decode c_M_atomic 136 = .ok (.if_icmp .ne 7, 3) := by decide +kernel
theorem d_M_atomic_139 : decode c_M_atomic 139 = .ok (.iconst 1, 1) := by decide +kernel
theorem d_M_atomic_140 : decode c_M_atomic 140 = .ok (.goto 4, 3) := by decide +kernel
theorem d_M_atomic_143 : decode c_M_atomic 143 = .ok (.iconst 0, 1) := by decide +kernel
theorem d_M_atomic_144 : decode c_M_atomic 144 = .ok (.istore 10, 2) := by decide +kernel
theorem d_M_atomic_146 : decode c_M_atomic 146 = .ok (.aload_n 0, 1) := by decide +kernel
theorem d_M_atomic_147 : decode c_M_atomic 147 = .ok (.getfield 17, 3) := by decide +kernel
theorem d_M_atomic_150 : decode c_M_atomic 150 = .ok (.iload_n 1, 1) := by decide +kernel
theorem d_M_atomic_151 : decode c_M_atomic 151 = .ok (.lconst 0, 1) := by decide +kernel
theorem d_M_atomic_152 : decode c_M_atomic 152 = .ok (.lastore, 1) := by decide +kernel
theorem d_M_atomic_153 : decode c_M_atomic 153 = .ok (.iload 10, 2) := by decide +kernel
theorem d_M_atomic_155 : decode c_M_atomic 155 = .ok (.ifCond .eq 12, 3) := by decide +kernel
theorem d_M_atomic_158 : decode c_M_atomic 158 = .ok (.aload_n 0, 1) := by decide +kernel
theorem d_M_atomic_159 : decode c_M_atomic 159 = .ok (.lload_n 3, 1) := by decide +kernel
theorem d_M_atomic_160 : decode c_M_atomic 160 = .ok (.iload 5, 2) := by decide +kernel
theorem d_M_atomic_162 : decode c_M_atomic 162 = .ok (.lload 6, 2) := by decide +kernel
theorem d_M_atomic_164 : decode c_M_atomic 164 = .ok (.invokevirtual 67, 3) := by decide +kernel
theorem d_M_atomic_167 : decode c_M_atomic 167 = .ok (.iload 10, 2) := by decide +kernel
theorem d_M_atomic_169 : decode c_M_atomic 169 = .ok (.ifCond .eq 7, 3) := by decide +kernel
theorem d_M_atomic_172 : decode c_M_atomic 172 = .ok (.lconst 0, 1) := by decide +kernel
theorem d_M_atomic_173 : decode c_M_atomic 173 = .ok (.goto 4, 3) := by decide +kernel
theorem d_M_atomic_176 : decode c_M_atomic 176 = .ok (.lconst 1, 1) := by decide +kernel
theorem d_M_atomic_177 : decode c_M_atomic 177 = .ok (.lreturn, 1) := by decide +kernel
theorem d_M_atomic_178 : decode c_M_atomic 178 = .ok (.aload_n 0, 1) := by decide +kernel
theorem d_M_atomic_179 : decode c_M_atomic 179 = .ok (.lload_n 3, 1) := by decide +kernel
theorem d_M_atomic_180 : decode c_M_atomic 180 = .ok (.iload 5, 2) := by decide +kernel
theorem d_M_atomic_182 : decode c_M_atomic 182 = .ok (.iload_n 2, 1) := by decide +kernel
theorem d_M_atomic_183 : decode c_M_atomic 183 = .ok (.lload 8, 2) := by decide +kernel
theorem d_M_atomic_185 : decode c_M_atomic 185 = .ok (.lload 6, 2) := by decide +kernel
theorem d_M_atomic_187 : decode c_M_atomic 187 = .ok (.iload 5, 2) := by decide +kernel
theorem d_M_atomic_189 : decode c_M_atomic 189 = .ok (.invokestatic 78, 3) := by decide +kernel
theorem d_M_atomic_192 : decode c_M_atomic 192 = .ok (.invokestatic 81, 3) := by decide +kernel
theorem d_M_atomic_195 : decode c_M_atomic 195 = .ok (.invokevirtual 67, 3) := by decide +kernel
theorem d_M_atomic_198 : decode c_M_atomic 198 = .ok (.lload 8, 2) := by decide +kernel
theorem d_M_atomic_200 : decode c_M_atomic 200 = .ok (.lreturn, 1) := by decide +kernel
theorem d_M_isKind_0 : decode c_M_isKind 0 = .ok (.iload_n 0, 1) := by decide +kernel
theorem d_M_isKind_1 : decode c_M_isKind 1 = .ok (.ifCond .lt 8, 3) := by decide +kernel
theorem d_M_isKind_4 : decode c_M_isKind 4 = .ok (.iload_n 0, 1) := by decide +kernel
theorem d_M_isKind_5 : decode c_M_isKind 5 = .ok (.iconst 4, 1) := by decide +kernel
theorem d_M_isKind_6 : decode c_M_isKind 6 = .ok (.if_icmp .lt 19, 3) := by decide +kernel
theorem d_M_isKind_9 : decode c_M_isKind 9 = .ok (.iload_n 0, 1) := by decide +kernel
theorem d_M_isKind_10 : decode c_M_isKind 10 = .ok (.ifCond .le 19, 3) := by decide +kernel
theorem d_M_isKind_13 : decode c_M_isKind 13 = .ok (.iload_n 0, 1) := by decide +kernel
theorem d_M_isKind_14 : decode c_M_isKind 14 = .ok (.bipush 28, 2) := by decide +kernel
theorem d_M_isKind_16 : decode c_M_isKind 16 = .ok (.if_icmp .gt 13, 3) := by decide +kernel
theorem d_M_isKind_19 : decode c_M_isKind 19 = .ok (.iload_n 0, 1) := by decide +kernel
theorem d_M_isKind_20 : decode c_M_isKind 20 = .ok (.iconst 4, 1) := by decide +kernel
theorem d_M_isKind_21 : decode c_M_isKind 21 = .ok (.irem, 1) := by decide +kernel
theorem d_M_isKind_22 : decode c_M_isKind 22 = .ok (.ifCond .ne 7, 3) := by decide +kernel
theorem d_M_isKind_25 : decode c_M_isKind 25 = .ok (.iconst 1, 1) := by decide +kernel
theorem d_M_isKind_26 : decode c_M_isKind 26 = .ok (.goto 4, 3) := by decide +kernel
theorem d_M_isKind_29 : decode c_M_isKind 29 = .ok (.iconst 0, 1) := by decide +kernel
theorem d_M_isKind_30 : decode c_M_isKind 30 = .ok (.ireturn, 1) := by decide +kernel
theorem d_M_signed_0 : decode c_M_signed 0 = .ok (.iload_n 2, 1) := by decide +kernel
theorem d_M_signed_1 : decode c_M_signed 1 = .ok (.iconst 4, 1) := by decide +kernel
theorem d_M_signed_2 : decode c_M_signed 2 = .ok (.if_icmp .ne 9, 3) := by decide +kernel
theorem d_M_signed_5 : decode c_M_signed 5 = .ok (.lload_n 0, 1) := by decide +kernel
theorem d_M_signed_6 : decode c_M_signed 6 = .ok (.l2i, 1) := by decide +kernel
theorem d_M_signed_7 : decode c_M_signed 7 = .ok (.i2l, 1) := by decide +kernel
theorem d_M_signed_8 : decode c_M_signed 8 = .ok (.goto 4, 3) := by decide +kernel
theorem d_M_signed_11 : decode c_M_signed 11 = .ok (.lload_n 0, 1) := by decide +kernel
theorem d_M_signed_12 : decode c_M_signed 12 = .ok (.lreturn, 1) := by decide +kernel
theorem d_M_changed_0 : decode c_M_changed 0 = .ok (.iload_n 0, 1) := by decide +kernel
theorem d_M_changed_1 : decode c_M_changed 1 = .ok (.tableswitch 178 0 24 #[115, 119, 178, 178, 121, 178, 178, 178, 125, 178, 178, 178, 129, 178, 178, 178, 133, 178, 178, 178, 148, 178, 178, 178, 163], 115) := by decide +kernel
theorem d_M_changed_116 : decode c_M_changed 116 = .ok (.lload_n 1, 1) := by decide +kernel
theorem d_M_changed_117 : decode c_M_changed 117 = .ok (.lload_n 3, 1) := by decide +kernel
theorem d_M_changed_118 : decode c_M_changed 118 = .ok (.ladd, 1) := by decide +kernel
theorem d_M_changed_119 : decode c_M_changed 119 = .ok (.lreturn, 1) := by decide +kernel
theorem d_M_changed_120 : decode c_M_changed 120 = .ok (.lload_n 3, 1) := by decide +kernel
theorem d_M_changed_121 : decode c_M_changed 121 = .ok (.lreturn, 1) := by decide +kernel
theorem d_M_changed_122 : decode c_M_changed 122 = .ok (.lload_n 1, 1) := by decide +kernel
theorem d_M_changed_123 : decode c_M_changed 123 = .ok (.lload_n 3, 1) := by decide +kernel
theorem d_M_changed_124 : decode c_M_changed 124 = .ok (.lxor, 1) := by decide +kernel
theorem d_M_changed_125 : decode c_M_changed 125 = .ok (.lreturn, 1) := by decide +kernel
theorem d_M_changed_126 : decode c_M_changed 126 = .ok (.lload_n 1, 1) := by decide +kernel
theorem d_M_changed_127 : decode c_M_changed 127 = .ok (.lload_n 3, 1) := by decide +kernel
theorem d_M_changed_128 : decode c_M_changed 128 = .ok (.lor, 1) := by decide +kernel
theorem d_M_changed_129 : decode c_M_changed 129 = .ok (.lreturn, 1) := by decide +kernel
theorem d_M_changed_130 : decode c_M_changed 130 = .ok (.lload_n 1, 1) := by decide +kernel
theorem d_M_changed_131 : decode c_M_changed 131 = .ok (.lload_n 3, 1) := by decide +kernel
theorem d_M_changed_132 : decode c_M_changed 132 = .ok (.land, 1) := by decide +kernel
theorem d_M_changed_133 : decode c_M_changed 133 = .ok (.lreturn, 1) := by decide +kernel
theorem d_M_changed_134 : decode c_M_changed 134 = .ok (.lload_n 1, 1) := by decide +kernel
theorem d_M_changed_135 : decode c_M_changed 135 = .ok (.lload_n 3, 1) := by decide +kernel
theorem d_M_changed_136 : decode c_M_changed 136 = .ok (.iconst 1, 1) := by decide +kernel
theorem d_M_changed_137 : decode c_M_changed 137 = .ok (.invokestatic 71, 3) := by decide +kernel
theorem d_M_changed_140 : decode c_M_changed 140 = .ok (.ifCond .eq 7, 3) := by decide +kernel
theorem d_M_changed_143 : decode c_M_changed 143 = .ok (.lload_n 1, 1) := by decide +kernel
theorem d_M_changed_144 : decode c_M_changed 144 = .ok (.goto 4, 3) := by decide +kernel
theorem d_M_changed_147 : decode c_M_changed 147 = .ok (.lload_n 3, 1) := by decide +kernel
theorem d_M_changed_148 : decode c_M_changed 148 = .ok (.lreturn, 1) := by decide +kernel
theorem d_M_changed_149 : decode c_M_changed 149 = .ok (.lload_n 1, 1) := by decide +kernel
theorem d_M_changed_150 : decode c_M_changed 150 = .ok (.lload_n 3, 1) := by decide +kernel
theorem d_M_changed_151 : decode c_M_changed 151 = .ok (.iconst 1, 1) := by decide +kernel
theorem d_M_changed_152 : decode c_M_changed 152 = .ok (.invokestatic 71, 3) := by decide +kernel
theorem d_M_changed_155 : decode c_M_changed 155 = .ok (.ifCond .eq 7, 3) := by decide +kernel
theorem d_M_changed_158 : decode c_M_changed 158 = .ok (.lload_n 3, 1) := by decide +kernel
theorem d_M_changed_159 : decode c_M_changed 159 = .ok (.goto 4, 3) := by decide +kernel
theorem d_M_changed_162 : decode c_M_changed 162 = .ok (.lload_n 1, 1) := by decide +kernel
theorem d_M_changed_163 : decode c_M_changed 163 = .ok (.lreturn, 1) := by decide +kernel
theorem d_M_changed_164 : decode c_M_changed 164 = .ok (.lload_n 1, 1) := by decide +kernel
theorem d_M_changed_165 : decode c_M_changed 165 = .ok (.lload_n 3, 1) := by decide +kernel
theorem d_M_changed_166 : decode c_M_changed 166 = .ok (.iconst 0, 1) := by decide +kernel
theorem d_M_changed_167 : decode c_M_changed 167 = .ok (.invokestatic 71, 3) := by decide +kernel
theorem d_M_changed_170 : decode c_M_changed 170 = .ok (.ifCond .eq 7, 3) := by decide +kernel
theorem d_M_changed_173 : decode c_M_changed 173 = .ok (.lload_n 1, 1) := by decide +kernel
theorem d_M_changed_174 : decode c_M_changed 174 = .ok (.goto 4, 3) := by decide +kernel
theorem d_M_changed_177 : decode c_M_changed 177 = .ok (.lload_n 3, 1) := by decide +kernel
theorem d_M_changed_178 : decode c_M_changed 178 = .ok (.lreturn, 1) := by decide +kernel
theorem d_M_changed_179 : decode c_M_changed 179 = .ok (.lload_n 1, 1) := by decide +kernel
theorem d_M_changed_180 : decode c_M_changed 180 = .ok (.lload_n 3, 1) := by decide +kernel
theorem d_M_changed_181 : decode c_M_changed 181 = .ok (.iconst 0, 1) := by decide +kernel
theorem d_M_changed_182 : decode c_M_changed 182 = .ok (.invokestatic 71, 3) := by decide +kernel
theorem d_M_changed_185 : decode c_M_changed 185 = .ok (.ifCond .eq 7, 3) := by decide +kernel
theorem d_M_changed_188 : decode c_M_changed 188 = .ok (.lload_n 3, 1) := by decide +kernel
theorem d_M_changed_189 : decode c_M_changed 189 = .ok (.goto 4, 3) := by decide +kernel
theorem d_M_changed_192 : decode c_M_changed 192 = .ok (.lload_n 1, 1) := by decide +kernel
theorem d_M_changed_193 : decode c_M_changed 193 = .ok (.lreturn, 1) := by decide +kernel
theorem d_M_isLess_0 : decode c_M_isLess 0 = .ok (.iload 4, 2) := by decide +kernel
theorem d_M_isLess_2 : decode c_M_isLess 2 = .ok (.ifCond .eq 17, 3) := by decide +kernel
theorem d_M_isLess_5 : decode c_M_isLess 5 = .ok (.lload_n 0, 1) := by decide +kernel
theorem d_M_isLess_6 : decode c_M_isLess 6 = .ok (.lload_n 2, 1) := by decide +kernel
theorem d_M_isLess_7 : decode c_M_isLess 7 = .ok (.lcmp, 1) := by decide +kernel
theorem d_M_isLess_8 : decode c_M_isLess 8 = .ok (.ifCond .ge 7, 3) := by decide +kernel
theorem d_M_isLess_11 : decode c_M_isLess 11 = .ok (.iconst 1, 1) := by decide +kernel
theorem d_M_isLess_12 : decode c_M_isLess 12 = .ok (.goto 57, 3) := by decide +kernel
theorem d_M_isLess_15 : decode c_M_isLess 15 = .ok (.iconst 0, 1) := by decide +kernel
theorem d_M_isLess_16 : decode c_M_isLess 16 = .ok (.goto 53, 3) := by decide +kernel
theorem d_M_isLess_19 : decode c_M_isLess 19 = .ok (.lload_n 0, 1) := by decide +kernel
theorem d_M_isLess_20 : decode c_M_isLess 20 = .ok (.lconst 0, 1) := by decide +kernel
theorem d_M_isLess_21 : decode c_M_isLess 21 = .ok (.lcmp, 1) := by decide +kernel
theorem d_M_isLess_22 : decode c_M_isLess 22 = .ok (.ifCond .lt 7, 3) := by decide +kernel
theorem d_M_isLess_25 : decode c_M_isLess 25 = .ok (.iconst 1, 1) := by decide +kernel
theorem d_M_isLess_26 : decode c_M_isLess 26 = .ok (.goto 4, 3) := by decide +kernel
theorem d_M_isLess_29 : decode c_M_isLess 29 = .ok (.iconst 0, 1) := by decide +kernel
theorem d_M_isLess_30 : decode c_M_isLess 30 = .ok (.lload_n 2, 1) := by decide +kernel
theorem d_M_isLess_31 : decode c_M_isLess 31 = .ok (.lconst 0, 1) := by decide +kernel
theorem d_M_isLess_32 : decode c_M_isLess 32 = .ok (.lcmp, 1) := by decide +kernel
theorem d_M_isLess_33 : decode c_M_isLess 33 = .ok (.ifCond .lt 7, 3) := by decide +kernel
theorem d_M_isLess_36 : decode c_M_isLess 36 = .ok (.iconst 1, 1) := by decide +kernel
theorem d_M_isLess_37 : decode c_M_isLess 37 = .ok (.goto 4, 3) := by decide +kernel
theorem d_M_isLess_40 : decode c_M_isLess 40 = .ok (.iconst 0, 1) := by decide +kernel
theorem d_M_isLess_41 : decode c_M_isLess 41 = .ok (.if_icmp .ne 17, 3) := by decide +kernel
theorem d_M_isLess_44 : decode c_M_isLess 44 = .ok (.lload_n 0, 1) := by decide +kernel
theorem d_M_isLess_45 : decode c_M_isLess 45 = .ok (.lload_n 2, 1) := by decide +kernel
theorem d_M_isLess_46 : decode c_M_isLess 46 = .ok (.lcmp, 1) := by decide +kernel
theorem d_M_isLess_47 : decode c_M_isLess 47 = .ok (.ifCond .ge 7, 3) := by decide +kernel
theorem d_M_isLess_50 : decode c_M_isLess 50 = .ok (.iconst 1, 1) := by decide +kernel
theorem d_M_isLess_51 : decode c_M_isLess 51 = .ok (.goto 18, 3) := by decide +kernel
theorem d_M_isLess_54 : decode c_M_isLess 54 = .ok (.iconst 0, 1) := by decide +kernel
theorem d_M_isLess_55 : decode c_M_isLess 55 = .ok (.goto 14, 3) := by decide +kernel
theorem d_M_isLess_58 : decode c_M_isLess 58 = .ok (.lload_n 0, 1) := by decide +kernel
theorem d_M_isLess_59 : decode c_M_isLess 59 = .ok (.lconst 0, 1) := by decide +kernel
theorem d_M_isLess_60 : decode c_M_isLess 60 = .ok (.lcmp, 1) := by decide +kernel
theorem d_M_isLess_61 : decode c_M_isLess 61 = .ok (.ifCond .lt 7, 3) := by decide +kernel
theorem d_M_isLess_64 : decode c_M_isLess 64 = .ok (.iconst 1, 1) := by decide +kernel
theorem d_M_isLess_65 : decode c_M_isLess 65 = .ok (.goto 4, 3) := by decide +kernel
theorem d_M_isLess_68 : decode c_M_isLess 68 = .ok (.iconst 0, 1) := by decide +kernel
theorem d_M_isLess_69 : decode c_M_isLess 69 = .ok (.ireturn, 1) := by decide +kernel
theorem d_M_drop_0 : decode c_M_drop 0 = .ok (.aload_n 0, 1) := by decide +kernel
theorem d_M_drop_1 : decode c_M_drop 1 = .ok (.iload_n 1, 1) := by decide +kernel
theorem d_M_drop_2 : decode c_M_drop 2 = .ok (.ifCond .lt 8, 3) := by decide +kernel
theorem d_M_drop_5 : decode c_M_drop 5 = .ok (.iload_n 1, 1) := by decide +kernel
theorem d_M_drop_6 : decode c_M_drop 6 = .ok (.iconst 3, 1) := by decide +kernel
theorem d_M_drop_7 : decode c_M_drop 7 = .ok (.if_icmp .le 7, 3) := by decide +kernel
theorem d_M_drop_10 : decode c_M_drop 10 = .ok (.iconst 1, 1) := by decide +kernel
theorem d_M_drop_11 : decode c_M_drop 11 = .ok (.goto 4, 3) := by decide +kernel
theorem d_M_drop_14 : decode c_M_drop 14 = .ok (.iconst 0, 1) := by decide +kernel
theorem d_M_drop_15 : decode c_M_drop 15 = .ok (.putfield 28, 3) := by decide +kernel
theorem d_M_drop_18 : decode c_M_drop 18 = .ok (.aload_n 0, 1) := by decide +kernel
theorem d_M_drop_19 : decode c_M_drop 19 = .ok (.getfield 28, 3) := by decide +kernel
theorem d_M_drop_22 : decode c_M_drop 22 = .ok (.ifCond .ne 18, 3) := by decide +kernel
theorem d_M_drop_25 : decode c_M_drop 25 = .ok (.aload_n 0, 1) := by decide +kernel
theorem d_M_drop_26 : decode c_M_drop 26 = .ok (.getfield 17, 3) := by decide +kernel
theorem d_M_drop_29 : decode c_M_drop 29 = .ok (.iload_n 1, 1) := by decide +kernel
theorem d_M_drop_30 : decode c_M_drop 30 = .ok (.laload, 1) := by decide +kernel
theorem d_M_drop_31 : decode c_M_drop 31 = .ok (.lconst 0, 1) := by decide +kernel
theorem d_M_drop_32 : decode c_M_drop 32 = .ok (.lcmp, 1) := by decide +kernel
theorem d_M_drop_33 : decode c_M_drop 33 = .ok (.ifCond .le 7, 3) := by decide +kernel
theorem d_M_drop_36 : decode c_M_drop 36 = .ok (.iconst 1, 1) := by decide +kernel
theorem d_M_drop_37 : decode c_M_drop 37 = .ok (.goto 4, 3) := by decide +kernel
theorem d_M_drop_40 : decode c_M_drop 40 = .ok (.iconst 0, 1) := by decide +kernel
theorem d_M_drop_41 : decode c_M_drop 41 = .ok (.istore_n 2, 1) := by decide +kernel
theorem d_M_drop_42 : decode c_M_drop 42 = .ok (.iload_n 2, 1) := by decide +kernel
theorem d_M_drop_43 : decode c_M_drop 43 = .ok (.ifCond .eq 10, 3) := by decide +kernel
theorem d_M_drop_46 : decode c_M_drop 46 = .ok (.aload_n 0, 1) := by decide +kernel
theorem d_M_drop_47 : decode c_M_drop 47 = .ok (.getfield 17, 3) := by decide +kernel
theorem d_M_drop_50 : decode c_M_drop 50 = .ok (.iload_n 1, 1) := by decide +kernel
theorem d_M_drop_51 : decode c_M_drop 51 = .ok (.lconst 0, 1) := by decide +kernel
theorem d_M_drop_52 : decode c_M_drop 52 = .ok (.lastore, 1) := by decide +kernel
theorem d_M_drop_53 : decode c_M_drop 53 = .ok (.iload_n 2, 1) := by decide +kernel
theorem d_M_drop_54 : decode c_M_drop 54 = .ok (.ireturn, 1) := by decide +kernel
theorem d_M_reserved_0 : decode c_M_reserved 0 = .ok (.aload_n 0, 1) := by decide +kernel
theorem d_M_reserved_1 : decode c_M_reserved 1 = .ok (.iload_n 1, 1) := by decide +kernel
theorem d_M_reserved_2 : decode c_M_reserved 2 = .ok (.ifCond .lt 8, 3) := by decide +kernel
theorem d_M_reserved_5 : decode c_M_reserved 5 = .ok (.iload_n 1, 1) := by decide +kernel
theorem d_M_reserved_6 : decode c_M_reserved 6 = .ok (.iconst 3, 1) := by decide +kernel
theorem d_M_reserved_7 : decode c_M_reserved 7 = .ok (.if_icmp .le 7, 3) := by decide +kernel
theorem d_M_reserved_10 : decode c_M_reserved 10 = .ok (.iconst 1, 1) := by decide +kernel
theorem d_M_reserved_11 : decode c_M_reserved 11 = .ok (.goto 4, 3) := by decide +kernel
theorem d_M_reserved_14 : decode c_M_reserved 14 = .ok (.iconst 0, 1) := by decide +kernel
theorem d_M_reserved_15 : decode c_M_reserved 15 = .ok (.putfield 28, 3) := by decide +kernel
theorem d_M_reserved_18 : decode c_M_reserved 18 = .ok (.aload_n 0, 1) := by decide +kernel
theorem d_M_reserved_19 : decode c_M_reserved 19 = .ok (.getfield 28, 3) := by decide +kernel
theorem d_M_reserved_22 : decode c_M_reserved 22 = .ok (.ifCond .le 7, 3) := by decide +kernel
theorem d_M_reserved_25 : decode c_M_reserved 25 = .ok (.lconst 0, 1) := by decide +kernel
theorem d_M_reserved_26 : decode c_M_reserved 26 = .ok (.goto 9, 3) := by decide +kernel
theorem d_M_reserved_29 : decode c_M_reserved 29 = .ok (.aload_n 0, 1) := by decide +kernel
theorem d_M_reserved_30 : decode c_M_reserved 30 = .ok (.getfield 17, 3) := by decide +kernel
theorem d_M_reserved_33 : decode c_M_reserved 33 = .ok (.iload_n 1, 1) := by decide +kernel
theorem d_M_reserved_34 : decode c_M_reserved 34 = .ok (.laload, 1) := by decide +kernel
theorem d_M_reserved_35 : decode c_M_reserved 35 = .ok (.lreturn, 1) := by decide +kernel
theorem d_M_writes_0 : decode c_M_writes 0 = .ok (.aload_n 0, 1) := by decide +kernel
theorem d_M_writes_1 : decode c_M_writes 1 = .ok (.iload_n 1, 1) := by decide +kernel
theorem d_M_writes_2 : decode c_M_writes 2 = .ok (.invokevirtual 85, 3) := by decide +kernel
theorem d_M_writes_5 : decode c_M_writes 5 = .ok (.ifCond .eq 7, 3) := by decide +kernel
theorem d_M_writes_8 : decode c_M_writes 8 = .ok (.lconst 0, 1) := by decide +kernel
theorem d_M_writes_9 : decode c_M_writes 9 = .ok (.goto 9, 3) := by decide +kernel
theorem d_M_writes_12 : decode c_M_writes 12 = .ok (.aload_n 0, 1) := by decide +kernel
theorem d_M_writes_13 : decode c_M_writes 13 = .ok (.getfield 14, 3) := by decide +kernel
theorem d_M_writes_16 : decode c_M_writes 16 = .ok (.iload_n 1, 1) := by decide +kernel
theorem d_M_writes_17 : decode c_M_writes 17 = .ok (.laload, 1) := by decide +kernel
theorem d_M_writes_18 : decode c_M_writes 18 = .ok (.lreturn, 1) := by decide +kernel
theorem d_M_noPage_0 : decode c_M_noPage 0 = .ok (.aload_n 0, 1) := by decide +kernel
theorem d_M_noPage_1 : decode c_M_noPage 1 = .ok (.iload_n 1, 1) := by decide +kernel
theorem d_M_noPage_2 : decode c_M_noPage 2 = .ok (.ifCond .lt 11, 3) := by decide +kernel
theorem d_M_noPage_5 : decode c_M_noPage 5 = .ok (.iload_n 1, 1) := by decide +kernel
theorem d_M_noPage_6 : decode c_M_noPage 6 = .ok (.aload_n 0, 1) := by decide +kernel
theorem d_M_noPage_7 : decode c_M_noPage 7 = .ok (.getfield 24, 3) := by decide +kernel
theorem d_M_noPage_10 : decode c_M_noPage 10 = .ok (.if_icmp .lt 7, 3) := by decide +kernel
theorem d_M_noPage_13 : decode c_M_noPage 13 = .ok (.iconst 1, 1) := by decide +kernel
theorem d_M_noPage_14 : decode c_M_noPage 14 = .ok (.goto 4, 3) := by decide +kernel
theorem d_M_noPage_17 : decode c_M_noPage 17 = .ok (.iconst 0, 1) := by decide +kernel
theorem d_M_noPage_18 : decode c_M_noPage 18 = .ok (.putfield 28, 3) := by decide +kernel
theorem d_M_noPage_21 : decode c_M_noPage 21 = .ok (.aload_n 0, 1) := by decide +kernel
theorem d_M_noPage_22 : decode c_M_noPage 22 = .ok (.getfield 28, 3) := by decide +kernel
theorem d_M_noPage_25 : decode c_M_noPage 25 = .ok (.ifCond .le 7, 3) := by decide +kernel
theorem d_M_noPage_28 : decode c_M_noPage 28 = .ok (.iconst 1, 1) := by decide +kernel
theorem d_M_noPage_29 : decode c_M_noPage 29 = .ok (.goto 4, 3) := by decide +kernel
theorem d_M_noPage_32 : decode c_M_noPage 32 = .ok (.iconst 0, 1) := by decide +kernel
theorem d_M_noPage_33 : decode c_M_noPage 33 = .ok (.ireturn, 1) := by decide +kernel
theorem d_M_sum_0 : decode c_M_sum 0 = .ok (.aload_n 0, 1) := by decide +kernel
theorem d_M_sum_1 : decode c_M_sum 1 = .ok (.iload_n 1, 1) := by decide +kernel
theorem d_M_sum_2 : decode c_M_sum 2 = .ok (.invokevirtual 85, 3) := by decide +kernel
theorem d_M_sum_5 : decode c_M_sum 5 = .ok (.ifCond .eq 5, 3) := by decide +kernel
theorem d_M_sum_8 : decode c_M_sum 8 = .ok (.lconst 0, 1) := by decide +kernel
theorem d_M_sum_9 : decode c_M_sum 9 = .ok (.lreturn, 1) := by decide +kernel
theorem d_M_sum_10 : decode c_M_sum 10 = .ok (.lconst 0, 1) := by decide +kernel
theorem d_M_sum_11 : decode c_M_sum 11 = .ok (.lstore_n 2, 1) := by decide +kernel
theorem d_M_sum_12 : decode c_M_sum 12 = .ok (.iconst 0, 1) := by decide +kernel
theorem d_M_sum_13 : decode c_M_sum 13 = .ok (.istore 4, 2) := by decide +kernel
theorem d_M_sum_15 : decode c_M_sum 15 = .ok (.iload 4, 2) := by decide +kernel
theorem d_M_sum_17 : decode c_M_sum 17 = .ok (.sipush 4096, 3) := by decide +kernel
theorem d_M_sum_20 : decode c_M_sum 20 = .ok (.if_icmp .ge 37, 3) := by decide +kernel
theorem d_M_sum_23 : decode c_M_sum 23 = .ok (.lload_n 2, 1) := by decide +kernel
theorem d_M_sum_24 : decode c_M_sum 24 = .ok (.iload 4, 2) := by decide +kernel
theorem d_M_sum_26 : decode c_M_sum 26 = .ok (.i2l, 1) := by decide +kernel
theorem d_M_sum_27 : decode c_M_sum 27 = .ok (.lconst 1, 1) := by decide +kernel
theorem d_M_sum_28 : decode c_M_sum 28 = .ok (.ladd, 1) := by decide +kernel
theorem d_M_sum_29 : decode c_M_sum 29 = .ok (.aload_n 0, 1) := by decide +kernel
theorem d_M_sum_30 : decode c_M_sum 30 = .ok (.ldc2_w 31, 3) := by decide +kernel
theorem d_M_sum_33 : decode c_M_sum 33 = .ok (.ldc2_w 33, 3) := by decide +kernel
theorem d_M_sum_36 : decode c_M_sum 36 = .ok (.iload_n 1, 1) := by decide +kernel
theorem d_M_sum_37 : decode c_M_sum 37 = .ok (.i2l, 1) := by decide +kernel
theorem d_M_sum_38 : decode c_M_sum 38 = .ok (.lmul, 1) := by decide +kernel
theorem d_M_sum_39 : decode c_M_sum 39 = .ok (.ladd, 1) := by decide +kernel
theorem d_M_sum_40 : decode c_M_sum 40 = .ok (.iload 4, 2) := by decide +kernel
theorem d_M_sum_42 : decode c_M_sum 42 = .ok (.i2l, 1) := by decide +kernel
theorem d_M_sum_43 : decode c_M_sum 43 = .ok (.ladd, 1) := by decide +kernel
theorem d_M_sum_44 : decode c_M_sum 44 = .ok (.invokevirtual 45, 3) := by decide +kernel
theorem d_M_sum_47 : decode c_M_sum 47 = .ok (.i2l, 1) := by decide +kernel
theorem d_M_sum_48 : decode c_M_sum 48 = .ok (.lmul, 1) := by decide +kernel
theorem d_M_sum_49 : decode c_M_sum 49 = .ok (.ladd, 1) := by decide +kernel
theorem d_M_sum_50 : decode c_M_sum 50 = .ok (.lstore_n 2, 1) := by decide +kernel
theorem d_M_sum_51 : decode c_M_sum 51 = .ok (.iinc 4 1, 3) := by decide +kernel
theorem d_M_sum_54 : decode c_M_sum 54 = .ok (.goto (-39), 3) := by decide +kernel
theorem d_M_sum_57 : decode c_M_sum 57 = .ok (.lload_n 2, 1) := by decide +kernel
theorem d_M_sum_58 : decode c_M_sum 58 = .ok (.lreturn, 1) := by decide +kernel
theorem d_M_used_0 : decode c_M_used 0 = .ok (.aload_n 0, 1) := by decide +kernel
theorem d_M_used_1 : decode c_M_used 1 = .ok (.iconst 0, 1) := by decide +kernel
theorem d_M_used_2 : decode c_M_used 2 = .ok (.putfield 28, 3) := by decide +kernel
theorem d_M_used_5 : decode c_M_used 5 = .ok (.iconst 0, 1) := by decide +kernel
theorem d_M_used_6 : decode c_M_used 6 = .ok (.istore_n 1, 1) := by decide +kernel
theorem d_M_used_7 : decode c_M_used 7 = .ok (.iconst 0, 1) := by decide +kernel
theorem d_M_used_8 : decode c_M_used 8 = .ok (.istore_n 2, 1) := by decide +kernel
theorem d_M_used_9 : decode c_M_used 9 = .ok (.iload_n 2, 1) := by decide +kernel
theorem d_M_used_10 : decode c_M_used 10 = .ok (.aload_n 0, 1) := by decide +kernel
theorem d_M_used_11 : decode c_M_used 11 = .ok (.getfield 24, 3) := by decide +kernel
theorem d_M_used_14 : decode c_M_used 14 = .ok (.if_icmp .ge 68, 3) := by decide +kernel
theorem d_M_used_17 : decode c_M_used 17 = .ok (.iconst 0, 1) := by decide +kernel
theorem d_M_used_18 : decode c_M_used 18 = .ok (.istore_n 3, 1) := by decide +kernel
theorem d_M_used_19 : decode c_M_used 19 = .ok (.iconst 0, 1) := by decide +kernel
theorem d_M_used_20 : decode c_M_used 20 = .ok (.istore 4, 2) := by decide +kernel
theorem d_M_used_22 : decode c_M_used 22 = .ok (.iload 4, 2) := by decide +kernel
theorem d_M_used_24 : decode c_M_used 24 = .ok (.sipush 512, 3) := by decide +kernel
theorem d_M_used_27 : decode c_M_used 27 = .ok (.if_icmp .ge 37, 3) := by decide +kernel
theorem d_M_used_30 : decode c_M_used 30 = .ok (.iload_n 3, 1) := by decide +kernel
theorem d_M_used_31 : decode c_M_used 31 = .ok (.ifCond .ne 21, 3) := by decide +kernel
theorem d_M_used_34 : decode c_M_used 34 = .ok (.aload_n 0, 1) := by decide +kernel
theorem d_M_used_35 : decode c_M_used 35 = .ok (.getfield 8, 3) := by decide +kernel
theorem d_M_used_38 : decode c_M_used 38 = .ok (.sipush 512, 3) := by decide +kernel
theorem d_M_used_41 : decode c_M_used 41 = .ok (.iload_n 2, 1) := by decide +kernel
theorem d_M_used_42 : decode c_M_used 42 = .ok (.imul, 1) := by decide +kernel
theorem d_M_used_43 : decode c_M_used 43 = .ok (.iload 4, 2) := by decide +kernel
theorem d_M_used_45 : decode c_M_used 45 = .ok (.iadd, 1) := by decide +kernel
theorem d_M_used_46 : decode c_M_used 46 = .ok (.laload, 1) := by decide +kernel
theorem d_M_used_47 : decode c_M_used 47 = .ok (.lconst 0, 1) := by decide +kernel
theorem d_M_used_48 : decode c_M_used 48 = .ok (.lcmp, 1) := by decide +kernel
theorem d_M_used_49 : decode c_M_used 49 = .ok (.ifCond .eq 7, 3) := by decide +kernel
theorem d_M_used_52 : decode c_M_used 52 = .ok (.iconst 1, 1) := by decide +kernel
theorem d_M_used_53 : decode c_M_used 53 = .ok (.goto 4, 3) := by decide +kernel
theorem d_M_used_56 : decode c_M_used 56 = .ok (.iconst 0, 1) := by decide +kernel
theorem d_M_used_57 : decode c_M_used 57 = .ok (.istore_n 3, 1) := by decide +kernel
theorem d_M_used_58 : decode c_M_used 58 = .ok (.iinc 4 1, 3) := by decide +kernel
theorem d_M_used_61 : decode c_M_used 61 = .ok (.goto (-39), 3) := by decide +kernel
theorem d_M_used_64 : decode c_M_used 64 = .ok (.iload_n 3, 1) := by decide +kernel
theorem d_M_used_65 : decode c_M_used 65 = .ok (.ifCond .eq 9, 3) := by decide +kernel
theorem d_M_used_68 : decode c_M_used 68 = .ok (.iload_n 1, 1) := by decide +kernel
theorem d_M_used_69 : decode c_M_used 69 = .ok (.iconst 1, 1) := by decide +kernel
theorem d_M_used_70 : decode c_M_used 70 = .ok (.iadd, 1) := by decide +kernel
theorem d_M_used_71 : decode c_M_used 71 = .ok (.goto 4, 3) := by decide +kernel
theorem d_M_used_74 : decode c_M_used 74 = .ok (.iload_n 1, 1) := by decide +kernel
theorem d_M_used_75 : decode c_M_used 75 = .ok (.istore_n 1, 1) := by decide +kernel
theorem d_M_used_76 : decode c_M_used 76 = .ok (.iinc 2 1, 3) := by decide +kernel
theorem d_M_used_79 : decode c_M_used 79 = .ok (.goto (-70), 3) := by decide +kernel
theorem d_M_used_82 : decode c_M_used 82 = .ok (.iload_n 1, 1) := by decide +kernel
theorem d_M_used_83 : decode c_M_used 83 = .ok (.ireturn, 1) := by decide +kernel
end
section
theorem d_L_law_0 : decode c_L_law 0 = .ok (.new 8, 3) := by decide +kernel
theorem d_L_law_3 : decode c_L_law 3 = .ok (.dup, 1) := by decide +kernel
theorem d_L_law_4 : decode c_L_law 4 = .ok (.aload_n 0, 1) := by decide +kernel
theorem d_L_law_5 : decode c_L_law 5 = .ok (.iconst 0, 1) := by decide +kernel
theorem d_L_law_6 : decode c_L_law 6 = .ok (.invokestatic 45, 3) := by decide +kernel
theorem d_L_law_9 : decode c_L_law 9 = .ok (.invokespecial 51, 3) := by decide +kernel
theorem d_L_law_12 : decode c_L_law 12 = .ok (.astore_n 1, 1) := by decide +kernel
theorem d_L_law_13 : decode c_L_law 13 = .ok (.new 54, 3) := by decide +kernel
theorem d_L_law_16 : decode c_L_law 16 = .ok (.dup, 1) := by decide +kernel
theorem d_L_law_17 : decode c_L_law 17 = .ok (.aload_n 0, 1) := by decide +kernel
theorem d_L_law_18 : decode c_L_law 18 = .ok (.iconst 0, 1) := by decide +kernel
theorem d_L_law_19 : decode c_L_law 19 = .ok (.invokestatic 45, 3) := by decide +kernel
theorem d_L_law_22 : decode c_L_law 22 = .ok (.invokespecial 56, 3) := by decide +kernel
theorem d_L_law_25 : decode c_L_law 25 = .ok (.astore_n 2, 1) := by decide +kernel
theorem d_L_law_26 : decode c_L_law 26 = .ok (.iconst 1, 1) := by decide +kernel
theorem d_L_law_27 : decode c_L_law 27 = .ok (.newarray .long, 2) := by decide +kernel
theorem d_L_law_29 : decode c_L_law 29 = .ok (.astore_n 3, 1) := by decide +kernel
theorem d_L_law_30 : decode c_L_law 30 = .ok (.iconst 1, 1) := by decide +kernel
theorem d_L_law_31 : decode c_L_law 31 = .ok (.istore 4, 2) := by decide +kernel
theorem d_L_law_33 : decode c_L_law 33 = .ok (.iload 4, 2) := by decide +kernel
theorem d_L_law_35 : decode c_L_law 35 = .ok (.aload_n 0, 1) := by decide +kernel
theorem d_L_law_36 : decode c_L_law 36 = .ok (.arraylength, 1) := by decide +kernel
theorem d_L_law_37 : decode c_L_law 37 = .ok (.bipush 8, 2) := by decide +kernel
theorem d_L_law_39 : decode c_L_law 39 = .ok (.isub, 1) := by decide +kernel
theorem d_L_law_40 : decode c_L_law 40 = .ok (.if_icmp .gt 842, 3) := by decide +kernel
theorem d_L_law_43 : decode c_L_law 43 = .ok (.aload_n 0, 1) := by decide +kernel
theorem d_L_law_44 : decode c_L_law 44 = .ok (.iload 4, 2) := by decide +kernel
theorem d_L_law_46 : decode c_L_law 46 = .ok (.iaload, 1) := by decide +kernel
theorem d_L_law_47 : decode c_L_law 47 = .ok (.bipush 15, 2) := by decide +kernel
theorem d_L_law_49 : decode c_L_law 49 = .ok (.iand, 1) := by decide +kernel
theorem d_L_law_50 : decode c_L_law 50 = .ok (.tableswitch 826 0 9 #[54, 67, 166, 290, 414, 585, 648, 703, 758, 813], 54) := by decide +kernel
theorem d_L_law_104 : decode c_L_law 104 = .ok (.aload_n 1, 1) := by decide +kernel
theorem d_L_law_105 : decode c_L_law 105 = .ok (.invokevirtual 57, 3) := by decide +kernel
theorem d_L_law_108 : decode c_L_law 108 = .ok (.aload_n 2, 1) := by decide +kernel
theorem d_L_law_109 : decode c_L_law 109 = .ok (.invokevirtual 61, 3) := by decide +kernel
theorem d_L_law_112 : decode c_L_law 112 = .ok (.if_icmp .eq 764, 3) := by decide +kernel
theorem d_L_law_115 : decode c_L_law 115 = .ok (.iconst 0, 1) := by decide +kernel
theorem d_L_law_116 : decode c_L_law 116 = .ok (.ireturn, 1) := by decide +kernel
theorem d_L_law_117 : decode c_L_law 117 = .ok (.aload_n 1, 1) := by decide +kernel
theorem d_L_law_118 : decode c_L_law 118 = .ok (.aload_n 0, 1) := by decide +kernel
theorem d_L_law_119 : decode c_L_law 119 = .ok (.iload 4, 2) := by decide +kernel
theorem d_L_law_121 : decode c_L_law 121 = .ok (.iconst 1, 1) := by decide +kernel
theorem d_L_law_122 : decode c_L_law 122 = .ok (.iadd, 1) := by decide +kernel
theorem d_L_law_123 : decode c_L_law 123 = .ok (.iaload, 1) := by decide +kernel
theorem d_L_law_124 : decode c_L_law 124 = .ok (.i2l, 1) := by decide +kernel
theorem d_L_law_125 : decode c_L_law 125 = .ok (.bipush 32, 2) := by decide +kernel
theorem d_L_law_127 : decode c_L_law 127 = .ok (.lshl, 1) := by decide +kernel
theorem d_L_law_128 : decode c_L_law 128 = .ok (.aload_n 0, 1) := by decide +kernel
theorem d_L_law_129 : decode c_L_law 129 = .ok (.iload 4, 2) := by decide +kernel
theorem d_L_law_131 : decode c_L_law 131 = .ok (.iconst 2, 1) := by decide +kernel
theorem d_L_law_132 : decode c_L_law 132 = .ok (.iadd, 1) := by decide +kernel
theorem d_L_law_133 : decode c_L_law 133 = .ok (.iaload, 1) := by decide +kernel
theorem d_L_law_134 : decode c_L_law 134 = .ok (.i2l, 1) := by decide +kernel
theorem d_L_law_135 : decode c_L_law 135 = .ok (.ldc2_w 62, 3) := by decide +kernel
theorem d_L_law_138 : decode c_L_law 138 = .ok (.land, 1) := by decide +kernel
theorem d_L_law_139 : decode c_L_law 139 = .ok (.lor, 1) := by decide +kernel
theorem d_L_law_140 : decode c_L_law 140 = .ok (.aload_n 0, 1) := by decide +kernel
theorem d_L_law_141 : decode c_L_law 141 = .ok (.iload 4, 2) := by decide +kernel
theorem d_L_law_143 : decode c_L_law 143 = .ok (.iconst 3, 1) := by decide +kernel
theorem d_L_law_144 : decode c_L_law 144 = .ok (.iadd, 1) := by decide +kernel
theorem d_L_law_145 : decode c_L_law 145 = .ok (.iaload, 1) := by decide +kernel
theorem d_L_law_146 : decode c_L_law 146 = .ok (.aload_n 3, 1) := by decide +kernel
theorem d_L_law_147 : decode c_L_law 147 = .ok (.invokestatic 64, 3) := by decide +kernel
theorem d_L_law_150 : decode c_L_law 150 = .ok (.istore 5, 2) := by decide +kernel
theorem d_L_law_152 : decode c_L_law 152 = .ok (.aload_n 2, 1) := by decide +kernel
theorem d_L_law_153 : decode c_L_law 153 = .ok (.aload_n 0, 1) := by decide +kernel
theorem d_L_law_154 : decode c_L_law 154 = .ok (.iload 4, 2) := by decide +kernel
theorem d_L_law_156 : decode c_L_law 156 = .ok (.iconst 1, 1) := by decide +kernel
theorem d_L_law_157 : decode c_L_law 157 = .ok (.iadd, 1) := by decide +kernel
theorem d_L_law_158 : decode c_L_law 158 = .ok (.iaload, 1) := by decide +kernel
theorem d_L_law_159 : decode c_L_law 159 = .ok (.i2l, 1) := by decide +kernel
theorem d_L_law_160 : decode c_L_law 160 = .ok (.bipush 32, 2) := by decide +kernel
theorem d_L_law_162 : decode c_L_law 162 = .ok (.lshl, 1) := by decide +kernel
theorem d_L_law_163 : decode c_L_law 163 = .ok (.aload_n 0, 1) := by decide +kernel
theorem d_L_law_164 : decode c_L_law 164 = .ok (.iload 4, 2) := by decide +kernel
theorem d_L_law_166 : decode c_L_law 166 = .ok (.iconst 2, 1) := by decide +kernel
theorem d_L_law_167 : decode c_L_law 167 = .ok (.iadd, 1) := by decide +kernel
theorem d_L_law_168 : decode c_L_law 168 = .ok (.iaload, 1) := by decide +kernel
theorem d_L_law_169 : decode c_L_law 169 = .ok (.i2l, 1) := by decide +kernel
theorem d_L_law_170 : decode c_L_law 170 = .ok (.ldc2_w 62, 3) := by decide +kernel
theorem d_L_law_173 : decode c_L_law 173 = .ok (.land, 1) := by decide +kernel
theorem d_L_law_174 : decode c_L_law 174 = .ok (.lor, 1) := by decide +kernel
theorem d_L_law_175 : decode c_L_law 175 = .ok (.aload_n 0, 1) := by decide +kernel
theorem d_L_law_176 : decode c_L_law 176 = .ok (.iload 4, 2) := by decide +kernel
theorem d_L_law_178 : decode c_L_law 178 = .ok (.iconst 3, 1) := by decide +kernel
theorem d_L_law_179 : decode c_L_law 179 = .ok (.iadd, 1) := by decide +kernel
theorem d_L_law_180 : decode c_L_law 180 = .ok (.iaload, 1) := by decide +kernel
theorem d_L_law_181 : decode c_L_law 181 = .ok (.invokevirtual 67, 3) := by decide +kernel
theorem d_L_law_184 : decode c_L_law 184 = .ok (.lstore 6, 2) := by decide +kernel
theorem d_L_law_186 : decode c_L_law 186 = .ok (.aload_n 2, 1) := by decide +kernel
theorem d_L_law_187 : decode c_L_law 187 = .ok (.invokevirtual 68, 3) := by decide +kernel
theorem d_L_law_190 : decode c_L_law 190 = .ok (.iload 5, 2) := by decide +kernel
theorem d_L_law_192 : decode c_L_law 192 = .ok (.if_icmp .eq 5, 3) := by decide +kernel
theorem d_L_law_195 : decode c_L_law 195 = .ok (.iconst 0, 1) := by decide +kernel
theorem d_L_law_196 : decode c_L_law 196 = .ok (.ireturn, 1) := by decide +kernel
theorem d_L_law_197 : decode c_L_law 197 = .ok (.iload 5, 2) := by decide +kernel
theorem d_L_law_199 : decode c_L_law 199 = .ok (.ifCond .ne 14, 3) := by decide +kernel
theorem d_L_law_202 : decode c_L_law 202 = .ok (.aload_n 3, 1) := by decide +kernel
theorem d_L_law_203 : decode c_L_law 203 = .ok (.iconst 0, 1) := by decide +kernel
theorem d_L_law_204 : decode c_L_law 204 = .ok (.laload, 1) := by decide +kernel
theorem d_L_law_205 : decode c_L_law 205 = .ok (.lload 6, 2) := by decide +kernel
theorem d_L_law_207 : decode c_L_law 207 = .ok (.lcmp, 1) := by decide +kernel
theorem d_L_law_208 : decode c_L_law 208 = .ok (.ifCond .eq 5, 3) := by decide +kernel
theorem d_L_law_211 : decode c_L_law 211 = .ok (.iconst 0, 1) := by decide +kernel
theorem d_L_law_212 : decode c_L_law 212 = .ok (.ireturn, 1) := by decide +kernel
theorem d_L_law_213 : decode c_L_law 213 = .ok (.goto 663, 3) := by decide +kernel
theorem d_L_law_216 : decode c_L_law 216 = .ok (.aload_n 1, 1) := by decide +kernel
theorem d_L_law_217 : decode c_L_law 217 = .ok (.aload_n 0, 1) := by decide +kernel
theorem d_L_law_218 : decode c_L_law 218 = .ok (.iload 4, 2) := by decide +kernel
theorem d_L_law_220 : decode c_L_law 220 = .ok (.iconst 1, 1) := by decide +kernel
theorem d_L_law_221 : decode c_L_law 221 = .ok (.iadd, 1) := by decide +kernel
theorem d_L_law_222 : decode c_L_law 222 = .ok (.iaload, 1) := by decide +kernel
theorem d_L_law_223 : decode c_L_law 223 = .ok (.i2l, 1) := by decide +kernel
theorem d_L_law_224 : decode c_L_law 224 = .ok (.bipush 32, 2) := by decide +kernel
theorem d_L_law_226 : decode c_L_law 226 = .ok (.lshl, 1) := by decide +kernel
theorem d_L_law_227 : decode c_L_law 227 = .ok (.aload_n 0, 1) := by decide +kernel
theorem d_L_law_228 : decode c_L_law 228 = .ok (.iload 4, 2) := by decide +kernel
theorem d_L_law_230 : decode c_L_law 230 = .ok (.iconst 2, 1) := by decide +kernel
theorem d_L_law_231 : decode c_L_law 231 = .ok (.iadd, 1) := by decide +kernel
theorem d_L_law_232 : decode c_L_law 232 = .ok (.iaload, 1) := by decide +kernel
theorem d_L_law_233 : decode c_L_law 233 = .ok (.i2l, 1) := by decide +kernel
theorem d_L_law_234 : decode c_L_law 234 = .ok (.ldc2_w 62, 3) := by decide +kernel
theorem d_L_law_237 : decode c_L_law 237 = .ok (.land, 1) := by decide +kernel
theorem d_L_law_238 : decode c_L_law 238 = .ok (.lor, 1) := by decide +kernel
theorem d_L_law_239 : decode c_L_law 239 = .ok (.aload_n 0, 1) := by decide +kernel
theorem d_L_law_240 : decode c_L_law 240 = .ok (.iload 4, 2) := by decide +kernel
theorem d_L_law_242 : decode c_L_law 242 = .ok (.iconst 3, 1) := by decide +kernel
theorem d_L_law_243 : decode c_L_law 243 = .ok (.iadd, 1) := by decide +kernel
theorem d_L_law_244 : decode c_L_law 244 = .ok (.iaload, 1) := by decide +kernel
theorem d_L_law_245 : decode c_L_law 245 = .ok (.aload_n 0, 1) := by decide +kernel
theorem d_L_law_246 : decode c_L_law 246 = .ok (.iload 4, 2) := by decide +kernel
theorem d_L_law_248 : decode c_L_law 248 = .ok (.iconst 4, 1) := by decide +kernel
theorem d_L_law_249 : decode c_L_law 249 = .ok (.iadd, 1) := by decide +kernel
theorem d_L_law_250 : decode c_L_law 250 = .ok (.iaload, 1) := by decide +kernel
theorem d_L_law_251 : decode c_L_law 251 = .ok (.i2l, 1) := by decide +kernel
theorem d_L_law_252 : decode c_L_law 252 = .ok (.bipush 32, 2) := by decide +kernel
theorem d_L_law_254 : decode c_L_law 254 = .ok (.lshl, 1) := by decide +kernel
theorem d_L_law_255 : decode c_L_law 255 = .ok (.aload_n 0, 1) := by decide +kernel
theorem d_L_law_256 : decode c_L_law 256 = .ok (.iload 4, 2) := by decide +kernel
theorem d_L_law_258 : decode c_L_law 258 = .ok (.iconst 5, 1) := by decide +kernel
theorem d_L_law_259 : decode c_L_law 259 = .ok (.iadd, 1) := by decide +kernel
theorem d_L_law_260 : decode c_L_law 260 = .ok (.iaload, 1) := by decide +kernel
theorem d_L_law_261 : decode c_L_law 261 = .ok (.i2l, 1) := by decide +kernel
theorem d_L_law_262 : decode c_L_law 262 = .ok (.ldc2_w 62, 3) := by decide +kernel
theorem d_L_law_265 : decode c_L_law 265 = .ok (.land, 1) := by decide +kernel
theorem d_L_law_266 : decode c_L_law 266 = .ok (.lor, 1) := by decide +kernel
theorem d_L_law_267 : decode c_L_law 267 = .ok (.invokestatic 71, 3) := by decide +kernel
theorem d_L_law_270 : decode c_L_law 270 = .ok (.istore 5, 2) := by decide +kernel
theorem d_L_law_272 : decode c_L_law 272 = .ok (.aload_n 2, 1) := by decide +kernel
theorem d_L_law_273 : decode c_L_law 273 = .ok (.aload_n 0, 1) := by decide +kernel
theorem d_L_law_274 : decode c_L_law 274 = .ok (.iload 4, 2) := by decide +kernel
theorem d_L_law_276 : decode c_L_law 276 = .ok (.iconst 1, 1) := by decide +kernel
theorem d_L_law_277 : decode c_L_law 277 = .ok (.iadd, 1) := by decide +kernel
theorem d_L_law_278 : decode c_L_law 278 = .ok (.iaload, 1) := by decide +kernel
theorem d_L_law_279 : decode c_L_law 279 = .ok (.i2l, 1) := by decide +kernel
theorem d_L_law_280 : decode c_L_law 280 = .ok (.bipush 32, 2) := by decide +kernel
theorem d_L_law_282 : decode c_L_law 282 = .ok (.lshl, 1) := by decide +kernel
theorem d_L_law_283 : decode c_L_law 283 = .ok (.aload_n 0, 1) := by decide +kernel
theorem d_L_law_284 : decode c_L_law 284 = .ok (.iload 4, 2) := by decide +kernel
theorem d_L_law_286 : decode c_L_law 286 = .ok (.iconst 2, 1) := by decide +kernel
theorem d_L_law_287 : decode c_L_law 287 = .ok (.iadd, 1) := by decide +kernel
theorem d_L_law_288 : decode c_L_law 288 = .ok (.iaload, 1) := by decide +kernel
theorem d_L_law_289 : decode c_L_law 289 = .ok (.i2l, 1) := by decide +kernel
theorem d_L_law_290 : decode c_L_law 290 = .ok (.ldc2_w 62, 3) := by decide +kernel
theorem d_L_law_293 : decode c_L_law 293 = .ok (.land, 1) := by decide +kernel
theorem d_L_law_294 : decode c_L_law 294 = .ok (.lor, 1) := by decide +kernel
theorem d_L_law_295 : decode c_L_law 295 = .ok (.aload_n 0, 1) := by decide +kernel
theorem d_L_law_296 : decode c_L_law 296 = .ok (.iload 4, 2) := by decide +kernel
theorem d_L_law_298 : decode c_L_law 298 = .ok (.iconst 3, 1) := by decide +kernel
theorem d_L_law_299 : decode c_L_law 299 = .ok (.iadd, 1) := by decide +kernel
theorem d_L_law_300 : decode c_L_law 300 = .ok (.iaload, 1) := by decide +kernel
theorem d_L_law_301 : decode c_L_law 301 = .ok (.aload_n 0, 1) := by decide +kernel
theorem d_L_law_302 : decode c_L_law 302 = .ok (.iload 4, 2) := by decide +kernel
theorem d_L_law_304 : decode c_L_law 304 = .ok (.iconst 4, 1) := by decide +kernel
theorem d_L_law_305 : decode c_L_law 305 = .ok (.iadd, 1) := by decide +kernel
theorem d_L_law_306 : decode c_L_law 306 = .ok (.iaload, 1) := by decide +kernel
theorem d_L_law_307 : decode c_L_law 307 = .ok (.i2l, 1) := by decide +kernel
theorem d_L_law_308 : decode c_L_law 308 = .ok (.bipush 32, 2) := by decide +kernel
theorem d_L_law_310 : decode c_L_law 310 = .ok (.lshl, 1) := by decide +kernel
theorem d_L_law_311 : decode c_L_law 311 = .ok (.aload_n 0, 1) := by decide +kernel
theorem d_L_law_312 : decode c_L_law 312 = .ok (.iload 4, 2) := by decide +kernel
theorem d_L_law_314 : decode c_L_law 314 = .ok (.iconst 5, 1) := by decide +kernel
theorem d_L_law_315 : decode c_L_law 315 = .ok (.iadd, 1) := by decide +kernel
theorem d_L_law_316 : decode c_L_law 316 = .ok (.iaload, 1) := by decide +kernel
theorem d_L_law_317 : decode c_L_law 317 = .ok (.i2l, 1) := by decide +kernel
theorem d_L_law_318 : decode c_L_law 318 = .ok (.ldc2_w 62, 3) := by decide +kernel
theorem d_L_law_321 : decode c_L_law 321 = .ok (.land, 1) := by decide +kernel
theorem d_L_law_322 : decode c_L_law 322 = .ok (.lor, 1) := by decide +kernel
theorem d_L_law_323 : decode c_L_law 323 = .ok (.invokevirtual 74, 3) := by decide +kernel
theorem d_L_law_326 : decode c_L_law 326 = .ok (.aload_n 2, 1) := by decide +kernel
theorem d_L_law_327 : decode c_L_law 327 = .ok (.invokevirtual 68, 3) := by decide +kernel
theorem d_L_law_330 : decode c_L_law 330 = .ok (.iload 5, 2) := by decide +kernel
theorem d_L_law_332 : decode c_L_law 332 = .ok (.if_icmp .eq 5, 3) := by decide +kernel
theorem d_L_law_335 : decode c_L_law 335 = .ok (.iconst 0, 1) := by decide +kernel
theorem d_L_law_336 : decode c_L_law 336 = .ok (.ireturn, 1) := by decide +kernel
theorem d_L_law_337 : decode c_L_law 337 = .ok (.goto 539, 3) := by decide +kernel
theorem d_L_law_340 : decode c_L_law 340 = .ok (.aload_n 1, 1) := by decide +kernel
theorem d_L_law_341 : decode c_L_law 341 = .ok (.aload_n 0, 1) := by decide +kernel
theorem d_L_law_342 : decode c_L_law 342 = .ok (.iload 4, 2) := by decide +kernel
theorem d_L_law_344 : decode c_L_law 344 = .ok (.iconst 1, 1) := by decide +kernel
theorem d_L_law_345 : decode c_L_law 345 = .ok (.iadd, 1) := by decide +kernel
theorem d_L_law_346 : decode c_L_law 346 = .ok (.iaload, 1) := by decide +kernel
theorem d_L_law_347 : decode c_L_law 347 = .ok (.i2l, 1) := by decide +kernel
theorem d_L_law_348 : decode c_L_law 348 = .ok (.bipush 32, 2) := by decide +kernel
theorem d_L_law_350 : decode c_L_law 350 = .ok (.lshl, 1) := by decide +kernel
theorem d_L_law_351 : decode c_L_law 351 = .ok (.aload_n 0, 1) := by decide +kernel
theorem d_L_law_352 : decode c_L_law 352 = .ok (.iload 4, 2) := by decide +kernel
theorem d_L_law_354 : decode c_L_law 354 = .ok (.iconst 2, 1) := by decide +kernel
theorem d_L_law_355 : decode c_L_law 355 = .ok (.iadd, 1) := by decide +kernel
theorem d_L_law_356 : decode c_L_law 356 = .ok (.iaload, 1) := by decide +kernel
theorem d_L_law_357 : decode c_L_law 357 = .ok (.i2l, 1) := by decide +kernel
theorem d_L_law_358 : decode c_L_law 358 = .ok (.ldc2_w 62, 3) := by decide +kernel
theorem d_L_law_361 : decode c_L_law 361 = .ok (.land, 1) := by decide +kernel
theorem d_L_law_362 : decode c_L_law 362 = .ok (.lor, 1) := by decide +kernel
theorem d_L_law_363 : decode c_L_law 363 = .ok (.aload_n 0, 1) := by decide +kernel
theorem d_L_law_364 : decode c_L_law 364 = .ok (.iload 4, 2) := by decide +kernel
theorem d_L_law_366 : decode c_L_law 366 = .ok (.iconst 3, 1) := by decide +kernel
theorem d_L_law_367 : decode c_L_law 367 = .ok (.iadd, 1) := by decide +kernel
theorem d_L_law_368 : decode c_L_law 368 = .ok (.iaload, 1) := by decide +kernel
theorem d_L_law_369 : decode c_L_law 369 = .ok (.i2l, 1) := by decide +kernel
theorem d_L_law_370 : decode c_L_law 370 = .ok (.bipush 32, 2) := by decide +kernel
theorem d_L_law_372 : decode c_L_law 372 = .ok (.lshl, 1) := by decide +kernel
theorem d_L_law_373 : decode c_L_law 373 = .ok (.aload_n 0, 1) := by decide +kernel
theorem d_L_law_374 : decode c_L_law 374 = .ok (.iload 4, 2) := by decide +kernel
theorem d_L_law_376 : decode c_L_law 376 = .ok (.iconst 4, 1) := by decide +kernel
theorem d_L_law_377 : decode c_L_law 377 = .ok (.iadd, 1) := by decide +kernel
theorem d_L_law_378 : decode c_L_law 378 = .ok (.iaload, 1) := by decide +kernel
theorem d_L_law_379 : decode c_L_law 379 = .ok (.i2l, 1) := by decide +kernel
theorem d_L_law_380 : decode c_L_law 380 = .ok (.ldc2_w 62, 3) := by decide +kernel
theorem d_L_law_383 : decode c_L_law 383 = .ok (.land, 1) := by decide +kernel
theorem d_L_law_384 : decode c_L_law 384 = .ok (.lor, 1) := by decide +kernel
theorem d_L_law_385 : decode c_L_law 385 = .ok (.aload_n 0, 1) := by decide +kernel
theorem d_L_law_386 : decode c_L_law 386 = .ok (.iload 4, 2) := by decide +kernel
theorem d_L_law_388 : decode c_L_law 388 = .ok (.iconst 5, 1) := by decide +kernel
theorem d_L_law_389 : decode c_L_law 389 = .ok (.iadd, 1) := by decide +kernel
theorem d_L_law_390 : decode c_L_law 390 = .ok (.iaload, 1) := by decide +kernel
theorem d_L_law_391 : decode c_L_law 391 = .ok (.invokestatic 75, 3) := by decide +kernel
theorem d_L_law_394 : decode c_L_law 394 = .ok (.istore 5, 2) := by decide +kernel
theorem d_L_law_396 : decode c_L_law 396 = .ok (.aload_n 2, 1) := by decide +kernel
theorem d_L_law_397 : decode c_L_law 397 = .ok (.aload_n 0, 1) := by decide +kernel
theorem d_L_law_398 : decode c_L_law 398 = .ok (.iload 4, 2) := by decide +kernel
theorem d_L_law_400 : decode c_L_law 400 = .ok (.iconst 1, 1) := by decide +kernel
theorem d_L_law_401 : decode c_L_law 401 = .ok (.iadd, 1) := by decide +kernel
theorem d_L_law_402 : decode c_L_law 402 = .ok (.iaload, 1) := by decide +kernel
theorem d_L_law_403 : decode c_L_law 403 = .ok (.i2l, 1) := by decide +kernel
theorem d_L_law_404 : decode c_L_law 404 = .ok (.bipush 32, 2) := by decide +kernel
theorem d_L_law_406 : decode c_L_law 406 = .ok (.lshl, 1) := by decide +kernel
theorem d_L_law_407 : decode c_L_law 407 = .ok (.aload_n 0, 1) := by decide +kernel
theorem d_L_law_408 : decode c_L_law 408 = .ok (.iload 4, 2) := by decide +kernel
theorem d_L_law_410 : decode c_L_law 410 = .ok (.iconst 2, 1) := by decide +kernel
theorem d_L_law_411 : decode c_L_law 411 = .ok (.iadd, 1) := by decide +kernel
theorem d_L_law_412 : decode c_L_law 412 = .ok (.iaload, 1) := by decide +kernel
theorem d_L_law_413 : decode c_L_law 413 = .ok (.i2l, 1) := by decide +kernel
theorem d_L_law_414 : decode c_L_law 414 = .ok (.ldc2_w 62, 3) := by decide +kernel
theorem d_L_law_417 : decode c_L_law 417 = .ok (.land, 1) := by decide +kernel
theorem d_L_law_418 : decode c_L_law 418 = .ok (.lor, 1) := by decide +kernel
theorem d_L_law_419 : decode c_L_law 419 = .ok (.aload_n 0, 1) := by decide +kernel
theorem d_L_law_420 : decode c_L_law 420 = .ok (.iload 4, 2) := by decide +kernel
theorem d_L_law_422 : decode c_L_law 422 = .ok (.iconst 3, 1) := by decide +kernel
theorem d_L_law_423 : decode c_L_law 423 = .ok (.iadd, 1) := by decide +kernel
theorem d_L_law_424 : decode c_L_law 424 = .ok (.iaload, 1) := by decide +kernel
theorem d_L_law_425 : decode c_L_law 425 = .ok (.i2l, 1) := by decide +kernel
theorem d_L_law_426 : decode c_L_law 426 = .ok (.bipush 32, 2) := by decide +kernel
theorem d_L_law_428 : decode c_L_law 428 = .ok (.lshl, 1) := by decide +kernel
theorem d_L_law_429 : decode c_L_law 429 = .ok (.aload_n 0, 1) := by decide +kernel
theorem d_L_law_430 : decode c_L_law 430 = .ok (.iload 4, 2) := by decide +kernel
theorem d_L_law_432 : decode c_L_law 432 = .ok (.iconst 4, 1) := by decide +kernel
theorem d_L_law_433 : decode c_L_law 433 = .ok (.iadd, 1) := by decide +kernel
theorem d_L_law_434 : decode c_L_law 434 = .ok (.iaload, 1) := by decide +kernel
theorem d_L_law_435 : decode c_L_law 435 = .ok (.i2l, 1) := by decide +kernel
theorem d_L_law_436 : decode c_L_law 436 = .ok (.ldc2_w 62, 3) := by decide +kernel
theorem d_L_law_439 : decode c_L_law 439 = .ok (.land, 1) := by decide +kernel
theorem d_L_law_440 : decode c_L_law 440 = .ok (.lor, 1) := by decide +kernel
theorem d_L_law_441 : decode c_L_law 441 = .ok (.aload_n 0, 1) := by decide +kernel
theorem d_L_law_442 : decode c_L_law 442 = .ok (.iload 4, 2) := by decide +kernel
theorem d_L_law_444 : decode c_L_law 444 = .ok (.iconst 5, 1) := by decide +kernel
theorem d_L_law_445 : decode c_L_law 445 = .ok (.iadd, 1) := by decide +kernel
theorem d_L_law_446 : decode c_L_law 446 = .ok (.iaload, 1) := by decide +kernel
theorem d_L_law_447 : decode c_L_law 447 = .ok (.invokevirtual 78, 3) := by decide +kernel
theorem d_L_law_450 : decode c_L_law 450 = .ok (.aload_n 2, 1) := by decide +kernel
theorem d_L_law_451 : decode c_L_law 451 = .ok (.invokevirtual 68, 3) := by decide +kernel
theorem d_L_law_454 : decode c_L_law 454 = .ok (.iload 5, 2) := by decide +kernel
theorem d_L_law_456 : decode c_L_law 456 = .ok (.if_icmp .eq 5, 3) := by decide +kernel
theorem d_L_law_459 : decode c_L_law 459 = .ok (.iconst 0, 1) := by decide +kernel
theorem d_L_law_460 : decode c_L_law 460 = .ok (.ireturn, 1) := by decide +kernel
theorem d_L_law_461 : decode c_L_law 461 = .ok (.goto 415, 3) := by decide +kernel
theorem d_L_law_464 : decode c_L_law 464 = .ok (.aload_n 1, 1) := by decide +kernel
theorem d_L_law_465 : decode c_L_law 465 = .ok (.aload_n 0, 1) := by decide +kernel
theorem d_L_law_466 : decode c_L_law 466 = .ok (.iload 4, 2) := by decide +kernel
theorem d_L_law_468 : decode c_L_law 468 = .ok (.iconst 1, 1) := by decide +kernel
theorem d_L_law_469 : decode c_L_law 469 = .ok (.iadd, 1) := by decide +kernel
theorem d_L_law_470 : decode c_L_law 470 = .ok (.iaload, 1) := by decide +kernel
theorem d_L_law_471 : decode c_L_law 471 = .ok (.aload_n 0, 1) := by decide +kernel
theorem d_L_law_472 : decode c_L_law 472 = .ok (.iload 4, 2) := by decide +kernel
theorem d_L_law_474 : decode c_L_law 474 = .ok (.iconst 2, 1) := by decide +kernel
theorem d_L_law_475 : decode c_L_law 475 = .ok (.iadd, 1) := by decide +kernel
theorem d_L_law_476 : decode c_L_law 476 = .ok (.iaload, 1) := by decide +kernel
theorem d_L_law_477 : decode c_L_law 477 = .ok (.aload_n 0, 1) := by decide +kernel
theorem d_L_law_478 : decode c_L_law 478 = .ok (.iload 4, 2) := by decide +kernel
theorem d_L_law_480 : decode c_L_law 480 = .ok (.iconst 3, 1) := by decide +kernel
theorem d_L_law_481 : decode c_L_law 481 = .ok (.iadd, 1) := by decide +kernel
theorem d_L_law_482 : decode c_L_law 482 = .ok (.iaload, 1) := by decide +kernel
theorem d_L_law_483 : decode c_L_law 483 = .ok (.i2l, 1) := by decide +kernel
theorem d_L_law_484 : decode c_L_law 484 = .ok (.bipush 32, 2) := by decide +kernel
theorem d_L_law_486 : decode c_L_law 486 = .ok (.lshl, 1) := by decide +kernel
theorem d_L_law_487 : decode c_L_law 487 = .ok (.aload_n 0, 1) := by decide +kernel
theorem d_L_law_488 : decode c_L_law 488 = .ok (.iload 4, 2) := by decide +kernel
theorem d_L_law_490 : decode c_L_law 490 = .ok (.iconst 4, 1) := by decide +kernel
theorem d_L_law_491 : decode c_L_law 491 = .ok (.iadd, 1) := by decide +kernel
theorem d_L_law_492 : decode c_L_law 492 = .ok (.iaload, 1) := by decide +kernel
theorem d_L_law_493 : decode c_L_law 493 = .ok (.i2l, 1) := by decide +kernel
theorem d_L_law_494 : decode c_L_law 494 = .ok (.ldc2_w 62, 3) := by decide +kernel
theorem d_L_law_497 : decode c_L_law 497 = .ok (.land, 1) := by decide +kernel
theorem d_L_law_498 : decode c_L_law 498 = .ok (.lor, 1) := by decide +kernel
theorem d_L_law_499 : decode c_L_law 499 = .ok (.aload_n 0, 1) := by decide +kernel
theorem d_L_law_500 : decode c_L_law 500 = .ok (.iload 4, 2) := by decide +kernel
theorem d_L_law_502 : decode c_L_law 502 = .ok (.iconst 5, 1) := by decide +kernel
theorem d_L_law_503 : decode c_L_law 503 = .ok (.iadd, 1) := by decide +kernel
theorem d_L_law_504 : decode c_L_law 504 = .ok (.iaload, 1) := by decide +kernel
theorem d_L_law_505 : decode c_L_law 505 = .ok (.aload_n 0, 1) := by decide +kernel
theorem d_L_law_506 : decode c_L_law 506 = .ok (.iload 4, 2) := by decide +kernel
theorem d_L_law_508 : decode c_L_law 508 = .ok (.bipush 6, 2) := by decide +kernel
theorem d_L_law_510 : decode c_L_law 510 = .ok (.iadd, 1) := by decide +kernel
theorem d_L_law_511 : decode c_L_law 511 = .ok (.iaload, 1) := by decide +kernel
theorem d_L_law_512 : decode c_L_law 512 = .ok (.i2l, 1) := by decide +kernel
theorem d_L_law_513 : decode c_L_law 513 = .ok (.bipush 32, 2) := by decide +kernel
theorem d_L_law_515 : decode c_L_law 515 = .ok (.lshl, 1) := by decide +kernel
theorem d_L_law_516 : decode c_L_law 516 = .ok (.aload_n 0, 1) := by decide +kernel
theorem d_L_law_517 : decode c_L_law 517 = .ok (.iload 4, 2) := by decide +kernel
theorem d_L_law_519 : decode c_L_law 519 = .ok (.bipush 7, 2) := by decide +kernel
theorem d_L_law_521 : decode c_L_law 521 = .ok (.iadd, 1) := by decide +kernel
theorem d_L_law_522 : decode c_L_law 522 = .ok (.iaload, 1) := by decide +kernel
theorem d_L_law_523 : decode c_L_law 523 = .ok (.i2l, 1) := by decide +kernel
theorem d_L_law_524 : decode c_L_law 524 = .ok (.ldc2_w 62, 3) := by decide +kernel
theorem d_L_law_527 : decode c_L_law 527 = .ok (.land, 1) := by decide +kernel
theorem d_L_law_528 : decode c_L_law 528 = .ok (.lor, 1) := by decide +kernel
theorem d_L_law_529 : decode c_L_law 529 = .ok (.aload_n 3, 1) := by decide +kernel
theorem d_L_law_530 : decode c_L_law 530 = .ok (.invokestatic 79, 3) := by decide +kernel
theorem d_L_law_533 : decode c_L_law 533 = .ok (.istore 5, 2) := by decide +kernel
theorem d_L_law_535 : decode c_L_law 535 = .ok (.aload_n 2, 1) := by decide +kernel
theorem d_L_law_536 : decode c_L_law 536 = .ok (.aload_n 0, 1) := by decide +kernel
theorem d_L_law_537 : decode c_L_law 537 = .ok (.iload 4, 2) := by decide +kernel
theorem d_L_law_539 : decode c_L_law 539 = .ok (.iconst 1, 1) := by decide +kernel
theorem d_L_law_540 : decode c_L_law 540 = .ok (.iadd, 1) := by decide +kernel
theorem d_L_law_541 : decode c_L_law 541 = .ok (.iaload, 1) := by decide +kernel
theorem d_L_law_542 : decode c_L_law 542 = .ok (.aload_n 0, 1) := by decide +kernel
theorem d_L_law_543 : decode c_L_law 543 = .ok (.iload 4, 2) := by decide +kernel
theorem d_L_law_545 : decode c_L_law 545 = .ok (.iconst 2, 1) := by decide +kernel
theorem d_L_law_546 : decode c_L_law 546 = .ok (.iadd, 1) := by decide +kernel
theorem d_L_law_547 : decode c_L_law 547 = .ok (.iaload, 1) := by decide +kernel
theorem d_L_law_548 : decode c_L_law 548 = .ok (.aload_n 0, 1) := by decide +kernel
theorem d_L_law_549 : decode c_L_law 549 = .ok (.iload 4, 2) := by decide +kernel
theorem d_L_law_551 : decode c_L_law 551 = .ok (.iconst 3, 1) := by decide +kernel
theorem d_L_law_552 : decode c_L_law 552 = .ok (.iadd, 1) := by decide +kernel
theorem d_L_law_553 : decode c_L_law 553 = .ok (.iaload, 1) := by decide +kernel
theorem d_L_law_554 : decode c_L_law 554 = .ok (.i2l, 1) := by decide +kernel
theorem d_L_law_555 : decode c_L_law 555 = .ok (.bipush 32, 2) := by decide +kernel
theorem d_L_law_557 : decode c_L_law 557 = .ok (.lshl, 1) := by decide +kernel
theorem d_L_law_558 : decode c_L_law 558 = .ok (.aload_n 0, 1) := by decide +kernel
theorem d_L_law_559 : decode c_L_law 559 = .ok (.iload 4, 2) := by decide +kernel
theorem d_L_law_561 : decode c_L_law 561 = .ok (.iconst 4, 1) := by decide +kernel
theorem d_L_law_562 : decode c_L_law 562 = .ok (.iadd, 1) := by decide +kernel
theorem d_L_law_563 : decode c_L_law 563 = .ok (.iaload, 1) := by decide +kernel
theorem d_L_law_564 : decode c_L_law 564 = .ok (.i2l, 1) := by decide +kernel
theorem d_L_law_565 : decode c_L_law 565 = .ok (.ldc2_w 62, 3) := by decide +kernel
theorem d_L_law_568 : decode c_L_law 568 = .ok (.land, 1) := by decide +kernel
theorem d_L_law_569 : decode c_L_law 569 = .ok (.lor, 1) := by decide +kernel
theorem d_L_law_570 : decode c_L_law 570 = .ok (.aload_n 0, 1) := by decide +kernel
theorem d_L_law_571 : decode c_L_law 571 = .ok (.iload 4, 2) := by decide +kernel
theorem d_L_law_573 : decode c_L_law 573 = .ok (.iconst 5, 1) := by decide +kernel
theorem d_L_law_574 : decode c_L_law 574 = .ok (.iadd, 1) := by decide +kernel
theorem d_L_law_575 : decode c_L_law 575 = .ok (.iaload, 1) := by decide +kernel
theorem d_L_law_576 : decode c_L_law 576 = .ok (.aload_n 0, 1) := by decide +kernel
theorem d_L_law_577 : decode c_L_law 577 = .ok (.iload 4, 2) := by decide +kernel
theorem d_L_law_579 : decode c_L_law 579 = .ok (.bipush 6, 2) := by decide +kernel
theorem d_L_law_581 : decode c_L_law 581 = .ok (.iadd, 1) := by decide +kernel
theorem d_L_law_582 : decode c_L_law 582 = .ok (.iaload, 1) := by decide +kernel
theorem d_L_law_583 : decode c_L_law 583 = .ok (.i2l, 1) := by decide +kernel
theorem d_L_law_584 : decode c_L_law 584 = .ok (.bipush 32, 2) := by decide +kernel
theorem d_L_law_586 : decode c_L_law 586 = .ok (.lshl, 1) := by decide +kernel
theorem d_L_law_587 : decode c_L_law 587 = .ok (.aload_n 0, 1) := by decide +kernel
theorem d_L_law_588 : decode c_L_law 588 = .ok (.iload 4, 2) := by decide +kernel
theorem d_L_law_590 : decode c_L_law 590 = .ok (.bipush 7, 2) := by decide +kernel
theorem d_L_law_592 : decode c_L_law 592 = .ok (.iadd, 1) := by decide +kernel
theorem d_L_law_593 : decode c_L_law 593 = .ok (.iaload, 1) := by decide +kernel
theorem d_L_law_594 : decode c_L_law 594 = .ok (.i2l, 1) := by decide +kernel
theorem d_L_law_595 : decode c_L_law 595 = .ok (.ldc2_w 62, 3) := by decide +kernel
theorem d_L_law_598 : decode c_L_law 598 = .ok (.land, 1) := by decide +kernel
theorem d_L_law_599 : decode c_L_law 599 = .ok (.lor, 1) := by decide +kernel
theorem d_L_law_600 : decode c_L_law 600 = .ok (.invokevirtual 82, 3) := by decide +kernel
theorem d_L_law_603 : decode c_L_law 603 = .ok (.lstore 6, 2) := by decide +kernel
theorem d_L_law_605 : decode c_L_law 605 = .ok (.aload_n 2, 1) := by decide +kernel
theorem d_L_law_606 : decode c_L_law 606 = .ok (.invokevirtual 68, 3) := by decide +kernel
theorem d_L_law_609 : decode c_L_law 609 = .ok (.iload 5, 2) := by decide +kernel
theorem d_L_law_611 : decode c_L_law 611 = .ok (.if_icmp .eq 5, 3) := by decide +kernel
theorem d_L_law_614 : decode c_L_law 614 = .ok (.iconst 0, 1) := by decide +kernel
theorem d_L_law_615 : decode c_L_law 615 = .ok (.ireturn, 1) := by decide +kernel
theorem d_L_law_616 : decode c_L_law 616 = .ok (.iload 5, 2) := by decide +kernel
theorem d_L_law_618 : decode c_L_law 618 = .ok (.ifCond .ne 14, 3) := by decide +kernel
theorem d_L_law_621 : decode c_L_law 621 = .ok (.aload_n 3, 1) := by decide +kernel
theorem d_L_law_622 : decode c_L_law 622 = .ok (.iconst 0, 1) := by decide +kernel
theorem d_L_law_623 : decode c_L_law 623 = .ok (.laload, 1) := by decide +kernel
theorem d_L_law_624 : decode c_L_law 624 = .ok (.lload 6, 2) := by decide +kernel
theorem d_L_law_626 : decode c_L_law 626 = .ok (.lcmp, 1) := by decide +kernel
theorem d_L_law_627 : decode c_L_law 627 = .ok (.ifCond .eq 5, 3) := by decide +kernel
theorem d_L_law_630 : decode c_L_law 630 = .ok (.iconst 0, 1) := by decide +kernel
theorem d_L_law_631 : decode c_L_law 631 = .ok (.ireturn, 1) := by decide +kernel
theorem d_L_law_632 : decode c_L_law 632 = .ok (.goto 244, 3) := by decide +kernel
theorem d_L_law_635 : decode c_L_law 635 = .ok (.aload_n 1, 1) := by decide +kernel
theorem d_L_law_636 : decode c_L_law 636 = .ok (.aload_n 0, 1) := by decide +kernel
theorem d_L_law_637 : decode c_L_law 637 = .ok (.iload 4, 2) := by decide +kernel
theorem d_L_law_639 : decode c_L_law 639 = .ok (.iconst 1, 1) := by decide +kernel
theorem d_L_law_640 : decode c_L_law 640 = .ok (.iadd, 1) := by decide +kernel
theorem d_L_law_641 : decode c_L_law 641 = .ok (.iaload, 1) := by decide +kernel
theorem d_L_law_642 : decode c_L_law 642 = .ok (.aload_n 3, 1) := by decide +kernel
theorem d_L_law_643 : decode c_L_law 643 = .ok (.invokestatic 83, 3) := by decide +kernel
theorem d_L_law_646 : decode c_L_law 646 = .ok (.istore 5, 2) := by decide +kernel
theorem d_L_law_648 : decode c_L_law 648 = .ok (.aload_n 2, 1) := by decide +kernel
theorem d_L_law_649 : decode c_L_law 649 = .ok (.aload_n 0, 1) := by decide +kernel
theorem d_L_law_650 : decode c_L_law 650 = .ok (.iload 4, 2) := by decide +kernel
theorem d_L_law_652 : decode c_L_law 652 = .ok (.iconst 1, 1) := by decide +kernel
theorem d_L_law_653 : decode c_L_law 653 = .ok (.iadd, 1) := by decide +kernel
theorem d_L_law_654 : decode c_L_law 654 = .ok (.iaload, 1) := by decide +kernel
theorem d_L_law_655 : decode c_L_law 655 = .ok (.invokevirtual 86, 3) := by decide +kernel
theorem d_L_law_658 : decode c_L_law 658 = .ok (.istore 6, 2) := by decide +kernel
theorem d_L_law_660 : decode c_L_law 660 = .ok (.aload_n 2, 1) := by decide +kernel
theorem d_L_law_661 : decode c_L_law 661 = .ok (.invokevirtual 68, 3) := by decide +kernel
theorem d_L_law_664 : decode c_L_law 664 = .ok (.iload 5, 2) := by decide +kernel
theorem d_L_law_666 : decode c_L_law 666 = .ok (.if_icmp .eq 5, 3) := by decide +kernel
theorem d_L_law_669 : decode c_L_law 669 = .ok (.iconst 0, 1) := by decide +kernel
theorem d_L_law_670 : decode c_L_law 670 = .ok (.ireturn, 1) := by decide +kernel
theorem d_L_law_671 : decode c_L_law 671 = .ok (.iload 5, 2) := by decide +kernel
theorem d_L_law_673 : decode c_L_law 673 = .ok (.ifCond .ne 22, 3) := by decide +kernel
theorem d_L_law_676 : decode c_L_law 676 = .ok (.aload_n 3, 1) := by decide +kernel
theorem d_L_law_677 : decode c_L_law 677 = .ok (.iconst 0, 1) := by decide +kernel
theorem d_L_law_678 : decode c_L_law 678 = .ok (.laload, 1) := by decide +kernel
theorem d_L_law_679 : decode c_L_law 679 = .ok (.iload 6, 2) := by decide +kernel
theorem d_L_law_681 : decode c_L_law 681 = .ok (.ifCond .eq 7, 3) := by decide +kernel
theorem d_L_law_684 : decode c_L_law 684 = .ok (.lconst 1, 1) := by decide +kernel
theorem d_L_law_685 : decode c_L_law 685 = .ok (.goto 4, 3) := by decide +kernel
theorem d_L_law_688 : decode c_L_law 688 = .ok (.lconst 0, 1) := by decide +kernel
theorem d_L_law_689 : decode c_L_law 689 = .ok (.lcmp, 1) := by decide +kernel
theorem d_L_law_690 : decode c_L_law 690 = .ok (.ifCond .eq 5, 3) := by decide +kernel
theorem d_L_law_693 : decode c_L_law 693 = .ok (.iconst 0, 1) := by decide +kernel
theorem d_L_law_694 : decode c_L_law 694 = .ok (.ireturn, 1) := by decide +kernel
theorem d_L_law_695 : decode c_L_law 695 = .ok (.goto 181, 3) := by decide +kernel
theorem d_L_law_698 : decode c_L_law 698 = .ok (.aload_n 1, 1) := by decide +kernel
theorem d_L_law_699 : decode c_L_law 699 = .ok (.aload_n 0, 1) := by decide +kernel
theorem d_L_law_700 : decode c_L_law 700 = .ok (.iload 4, 2) := by decide +kernel
theorem d_L_law_702 : decode c_L_law 702 = .ok (.iconst 1, 1) := by decide +kernel
theorem d_L_law_703 : decode c_L_law 703 = .ok (.iadd, 1) := by decide +kernel
theorem d_L_law_704 : decode c_L_law 704 = .ok (.iaload, 1) := by decide +kernel
theorem d_L_law_705 : decode c_L_law 705 = .ok (.aload_n 3, 1) := by decide +kernel
theorem d_L_law_706 : decode c_L_law 706 = .ok (.invokestatic 87, 3) := by decide +kernel
theorem d_L_law_709 : decode c_L_law 709 = .ok (.istore 5, 2) := by decide +kernel
theorem d_L_law_711 : decode c_L_law 711 = .ok (.aload_n 2, 1) := by decide +kernel
theorem d_L_law_712 : decode c_L_law 712 = .ok (.aload_n 0, 1) := by decide +kernel
theorem d_L_law_713 : decode c_L_law 713 = .ok (.iload 4, 2) := by decide +kernel
theorem d_L_law_715 : decode c_L_law 715 = .ok (.iconst 1, 1) := by decide +kernel
theorem d_L_law_716 : decode c_L_law 716 = .ok (.iadd, 1) := by decide +kernel
theorem d_L_law_717 : decode c_L_law 717 = .ok (.iaload, 1) := by decide +kernel
theorem d_L_law_718 : decode c_L_law 718 = .ok (.invokevirtual 89, 3) := by decide +kernel
theorem d_L_law_721 : decode c_L_law 721 = .ok (.lstore 6, 2) := by decide +kernel
theorem d_L_law_723 : decode c_L_law 723 = .ok (.aload_n 2, 1) := by decide +kernel
theorem d_L_law_724 : decode c_L_law 724 = .ok (.invokevirtual 68, 3) := by decide +kernel
theorem d_L_law_727 : decode c_L_law 727 = .ok (.iload 5, 2) := by decide +kernel
theorem d_L_law_729 : decode c_L_law 729 = .ok (.if_icmp .eq 5, 3) := by decide +kernel
theorem d_L_law_732 : decode c_L_law 732 = .ok (.iconst 0, 1) := by decide +kernel
theorem d_L_law_733 : decode c_L_law 733 = .ok (.ireturn, 1) := by decide +kernel
theorem d_L_law_734 : decode c_L_law 734 = .ok (.iload 5, 2) := by decide +kernel
theorem d_L_law_736 : decode c_L_law 736 = .ok (.ifCond .ne 14, 3) := by decide +kernel
theorem d_L_law_739 : decode c_L_law 739 = .ok (.aload_n 3, 1) := by decide +kernel
theorem d_L_law_740 : decode c_L_law 740 = .ok (.iconst 0, 1) := by decide +kernel
theorem d_L_law_741 : decode c_L_law 741 = .ok (.laload, 1) := by decide +kernel
theorem d_L_law_742 : decode c_L_law 742 = .ok (.lload 6, 2) := by decide +kernel
theorem d_L_law_744 : decode c_L_law 744 = .ok (.lcmp, 1) := by decide +kernel
theorem d_L_law_745 : decode c_L_law 745 = .ok (.ifCond .eq 5, 3) := by decide +kernel
theorem d_L_law_748 : decode c_L_law 748 = .ok (.iconst 0, 1) := by decide +kernel
theorem d_L_law_749 : decode c_L_law 749 = .ok (.ireturn, 1) := by decide +kernel
theorem d_L_law_750 : decode c_L_law 750 = .ok (.goto 126, 3) := by decide +kernel
theorem d_L_law_753 : decode c_L_law 753 = .ok (.aload_n 1, 1) := by decide +kernel
theorem d_L_law_754 : decode c_L_law 754 = .ok (.aload_n 0, 1) := by decide +kernel
theorem d_L_law_755 : decode c_L_law 755 = .ok (.iload 4, 2) := by decide +kernel
theorem d_L_law_757 : decode c_L_law 757 = .ok (.iconst 1, 1) := by decide +kernel
theorem d_L_law_758 : decode c_L_law 758 = .ok (.iadd, 1) := by decide +kernel
theorem d_L_law_759 : decode c_L_law 759 = .ok (.iaload, 1) := by decide +kernel
theorem d_L_law_760 : decode c_L_law 760 = .ok (.aload_n 3, 1) := by decide +kernel
theorem d_L_law_761 : decode c_L_law 761 = .ok (.invokestatic 90, 3) := by decide +kernel
theorem d_L_law_764 : decode c_L_law 764 = .ok (.istore 5, 2) := by decide +kernel
theorem d_L_law_766 : decode c_L_law 766 = .ok (.aload_n 2, 1) := by decide +kernel
theorem d_L_law_767 : decode c_L_law 767 = .ok (.aload_n 0, 1) := by decide +kernel
theorem d_L_law_768 : decode c_L_law 768 = .ok (.iload 4, 2) := by decide +kernel
theorem d_L_law_770 : decode c_L_law 770 = .ok (.iconst 1, 1) := by decide +kernel
theorem d_L_law_771 : decode c_L_law 771 = .ok (.iadd, 1) := by decide +kernel
theorem d_L_law_772 : decode c_L_law 772 = .ok (.iaload, 1) := by decide +kernel
theorem d_L_law_773 : decode c_L_law 773 = .ok (.invokevirtual 92, 3) := by decide +kernel
theorem d_L_law_776 : decode c_L_law 776 = .ok (.lstore 6, 2) := by decide +kernel
theorem d_L_law_778 : decode c_L_law 778 = .ok (.aload_n 2, 1) := by decide +kernel
theorem d_L_law_779 : decode c_L_law 779 = .ok (.invokevirtual 68, 3) := by decide +kernel
theorem d_L_law_782 : decode c_L_law 782 = .ok (.iload 5, 2) := by decide +kernel
theorem d_L_law_784 : decode c_L_law 784 = .ok (.if_icmp .eq 5, 3) := by decide +kernel
theorem d_L_law_787 : decode c_L_law 787 = .ok (.iconst 0, 1) := by decide +kernel
theorem d_L_law_788 : decode c_L_law 788 = .ok (.ireturn, 1) := by decide +kernel
theorem d_L_law_789 : decode c_L_law 789 = .ok (.iload 5, 2) := by decide +kernel
theorem d_L_law_791 : decode c_L_law 791 = .ok (.ifCond .ne 14, 3) := by decide +kernel
theorem d_L_law_794 : decode c_L_law 794 = .ok (.aload_n 3, 1) := by decide +kernel
theorem d_L_law_795 : decode c_L_law 795 = .ok (.iconst 0, 1) := by decide +kernel
theorem d_L_law_796 : decode c_L_law 796 = .ok (.laload, 1) := by decide +kernel
theorem d_L_law_797 : decode c_L_law 797 = .ok (.lload 6, 2) := by decide +kernel
theorem d_L_law_799 : decode c_L_law 799 = .ok (.lcmp, 1) := by decide +kernel
theorem d_L_law_800 : decode c_L_law 800 = .ok (.ifCond .eq 5, 3) := by decide +kernel
theorem d_L_law_803 : decode c_L_law 803 = .ok (.iconst 0, 1) := by decide +kernel
theorem d_L_law_804 : decode c_L_law 804 = .ok (.ireturn, 1) := by decide +kernel
theorem d_L_law_805 : decode c_L_law 805 = .ok (.goto 71, 3) := by decide +kernel
theorem d_L_law_808 : decode c_L_law 808 = .ok (.aload_n 1, 1) := by decide +kernel
theorem d_L_law_809 : decode c_L_law 809 = .ok (.aload_n 0, 1) := by decide +kernel
theorem d_L_law_810 : decode c_L_law 810 = .ok (.iload 4, 2) := by decide +kernel
theorem d_L_law_812 : decode c_L_law 812 = .ok (.iconst 1, 1) := by decide +kernel
theorem d_L_law_813 : decode c_L_law 813 = .ok (.iadd, 1) := by decide +kernel
theorem d_L_law_814 : decode c_L_law 814 = .ok (.iaload, 1) := by decide +kernel
theorem d_L_law_815 : decode c_L_law 815 = .ok (.aload_n 3, 1) := by decide +kernel
theorem d_L_law_816 : decode c_L_law 816 = .ok (.invokestatic 93, 3) := by decide +kernel
theorem d_L_law_819 : decode c_L_law 819 = .ok (.istore 5, 2) := by decide +kernel
theorem d_L_law_821 : decode c_L_law 821 = .ok (.aload_n 2, 1) := by decide +kernel
theorem d_L_law_822 : decode c_L_law 822 = .ok (.aload_n 0, 1) := by decide +kernel
theorem d_L_law_823 : decode c_L_law 823 = .ok (.iload 4, 2) := by decide +kernel
theorem d_L_law_825 : decode c_L_law 825 = .ok (.iconst 1, 1) := by decide +kernel
theorem d_L_law_826 : decode c_L_law 826 = .ok (.iadd, 1) := by decide +kernel
theorem d_L_law_827 : decode c_L_law 827 = .ok (.iaload, 1) := by decide +kernel
theorem d_L_law_828 : decode c_L_law 828 = .ok (.invokevirtual 95, 3) := by decide +kernel
theorem d_L_law_831 : decode c_L_law 831 = .ok (.lstore 6, 2) := by decide +kernel
theorem d_L_law_833 : decode c_L_law 833 = .ok (.aload_n 2, 1) := by decide +kernel
theorem d_L_law_834 : decode c_L_law 834 = .ok (.invokevirtual 68, 3) := by decide +kernel
theorem d_L_law_837 : decode c_L_law 837 = .ok (.iload 5, 2) := by decide +kernel
theorem d_L_law_839 : decode c_L_law 839 = .ok (.if_icmp .eq 5, 3) := by decide +kernel
theorem d_L_law_842 : decode c_L_law 842 = .ok (.iconst 0, 1) := by decide +kernel
theorem d_L_law_843 : decode c_L_law 843 = .ok (.ireturn, 1) := by decide +kernel
theorem d_L_law_844 : decode c_L_law 844 = .ok (.iload 5, 2) := by decide +kernel
theorem d_L_law_846 : decode c_L_law 846 = .ok (.ifCond .ne 14, 3) := by decide +kernel
theorem d_L_law_849 : decode c_L_law 849 = .ok (.aload_n 3, 1) := by decide +kernel
theorem d_L_law_850 : decode c_L_law 850 = .ok (.iconst 0, 1) := by decide +kernel
theorem d_L_law_851 : decode c_L_law 851 = .ok (.laload, 1) := by decide +kernel
theorem d_L_law_852 : decode c_L_law 852 = .ok (.lload 6, 2) := by decide +kernel
theorem d_L_law_854 : decode c_L_law 854 = .ok (.lcmp, 1) := by decide +kernel
theorem d_L_law_855 : decode c_L_law 855 = .ok (.ifCond .eq 5, 3) := by decide +kernel
theorem d_L_law_858 : decode c_L_law 858 = .ok (.iconst 0, 1) := by decide +kernel
theorem d_L_law_859 : decode c_L_law 859 = .ok (.ireturn, 1) := by decide +kernel
theorem d_L_law_860 : decode c_L_law 860 = .ok (.goto 16, 3) := by decide +kernel
theorem d_L_law_863 : decode c_L_law 863 = .ok (.aload_n 1, 1) := by decide +kernel
theorem d_L_law_864 : decode c_L_law 864 = .ok (.invokevirtual 96, 3) := by decide +kernel
theorem d_L_law_867 : decode c_L_law 867 = .ok (.aload_n 2, 1) := by decide +kernel
theorem d_L_law_868 : decode c_L_law 868 = .ok (.invokevirtual 99, 3) := by decide +kernel
theorem d_L_law_871 : decode c_L_law 871 = .ok (.if_icmp .eq 5, 3) := by decide +kernel
theorem d_L_law_874 : decode c_L_law 874 = .ok (.iconst 0, 1) := by decide +kernel
theorem d_L_law_875 : decode c_L_law 875 = .ok (.ireturn, 1) := by decide +kernel
theorem d_L_law_876 : decode c_L_law 876 = .ok (.iinc 4 8, 3) := by decide +kernel
theorem d_L_law_879 : decode c_L_law 879 = .ok (.goto (-846), 3) := by decide +kernel
theorem d_L_law_882 : decode c_L_law 882 = .ok (.iconst 1, 1) := by decide +kernel
theorem d_L_law_883 : decode c_L_law 883 = .ok (.ireturn, 1) := by decide +kernel
end
section
/-! WORDS OF A CALL, out of gt -/
abbrev mT (cJ cI cP : ClassId) : List (ClassId × FieldType) := [(cJ, .long), (cI, .int), (cP, .object R_P)]
theorem gt_good {w : Cond} (h : w ∈ gt) : (w.onTables && w.keeps) = true ∨ ∃ ty, w = .arrayClass ty := good_of_word (List.mem_filter.mp h).2
theorem gin0 {cd : Cond} (h : cd ∈ gt) : GoodIn gt (cd :: gt) := fun w hw => by
  have h1 : w ∈ gt := by
    rcases List.mem_cons.mp hw with e | h'
    · rw [e]; exact h
    · exact h'
  exact ⟨h1, gt_good h1⟩
theorem ginL {L : List Cond} {cd : Cond} (hL : ∀ w ∈ L, w ∈ gt) (h : cd ∈ gt) : GoodIn gt (L ++ (cd :: gt)) := fun w hw => by
  rcases List.mem_append.mp hw with g | g
  · exact ⟨hL w g, gt_good (hL w g)⟩
  · exact gin0 h w g
theorem gin_c {x : Cond} {L : List Cond} (h : x ∈ gt) (hL : ∀ w ∈ L, w ∈ gt) : ∀ w ∈ x :: L, w ∈ gt := fun w hw => by
  rcases List.mem_cons.mp hw with e | h'
  · rw [e]; exact h
  · exact hL w h'
theorem gin_n : ∀ w ∈ ([] : List Cond), w ∈ gt := fun _ h => absurd h List.not_mem_nil
theorem ginV {own C : String} {idx : Nat} {y : MethodName} {cd : Cond} (h1 : Cond.methodLink own idx y ∈ gt) (h2 : Cond.instanceMethod y ∈ gt) (h3 : Cond.selects C y y ∈ gt) (h4 : Cond.initialized C ∈ gt) (h : cd ∈ gt) : GoodIn gt (wsV own idx C y (cd :: gt)) := ginL (gin_c h1 (gin_c h2 (gin_c h3 (gin_c h4 gin_n)))) h
theorem ginS {own : String} {idx : Nat} {y : MethodName} {cd : Cond} (h1 : Cond.methodLink own idx y ∈ gt) (h2 : Cond.static y ∈ gt) (h4 : Cond.initialized own ∈ gt) (h : cd ∈ gt) : GoodIn gt (wsS own idx y (cd :: gt)) := ginL (gin_c h1 (gin_c h2 (gin_c h4 gin_n))) h
theorem ginT {own : String} {idx : Nat} {y : MethodName} {cd : Cond} (h1 : Cond.methodLink own idx y ∈ gt) (h2 : Cond.static y ∈ gt) (h4 : Cond.initialized y.cls ∈ gt) (h : cd ∈ gt) : GoodIn gt (va_wsS own idx y (cd :: gt)) := ginL (gin_c h1 (gin_c h2 (gin_c h4 gin_n))) h
/-! MAP WORLDS: what lies at each address, as a map; a contract speaks of the whole map, so no frame rule is wanted: a method's end says which map it is then -/
/-- the cells that a method may write: all from bs on -/
def mA (bs : Nat) : Nat → Prop := fun q => bs ≤ q
def mw (D : va_G) (cl : List vw_C) (bs : Nat) (w : Nat → Option va_E) (H : Heap) : Prop := ∀ (a : Nat) (e : va_E), w a = some e → bs ≤ a ∧ va_at D cl (a, e) H
theorem mw.one {D : va_G} {cl : List vw_C} {bs : Nat} {w : Nat → Option va_E} {H : Heap} (h : mw D cl bs w H) {a : Nat} {e : va_E} (ha : w a = some e) : va_P D cl [(a, e)] H := fun k q hk => by
  cases k with
  | zero =>
    have hq : (a, e) = q := Option.some.inj hk
    subst hq
    exact (h a e ha).2
  | succ k => simp at hk
theorem mw.lt {D : va_G} {cl : List vw_C} {bs : Nat} {w : Nat → Option va_E} {H : Heap} (h : mw D cl bs w H) {a : Nat} {e : va_E} (ha : w a = some e) : a < H.size := (h a e ha).2.lt
theorem mw.fresh {D : va_G} {cl : List vw_C} {bs : Nat} {w : Nat → Option va_E} {H : Heap} (h : mw D cl bs w H) {q : Nat} (hq : H.size ≤ q) : w q = none := by
  cases hw : w q with
  | none => rfl
  | some e => exact absurd (h.lt hw) (Nat.not_lt.mpr hq)
theorem mw.set {D : va_G} {cl : List vw_C} {bs : Nat} {w : Nat → Option va_E} {H H1 : Heap} (h : mw D cl bs w H) {a : Nat} {e0 e : va_E} (ha : w a = some e0) (hn : va_at D cl (a, e) H1) (oq : ∀ q : Nat, q ≠ a → H1[q]? = H[q]?) : mw D cl bs (va_up w a (some e)) H1 := by
  intro q x hq
  by_cases hqa : q = a
  · subst hqa
    rw [va_up_self] at hq
    cases hq
    exact ⟨(h q e0 ha).1, hn⟩
  · rw [va_up_ne _ _ hqa] at hq
    exact ⟨(h q x hq).1, (h q x hq).2.kept (oq q hqa)⟩
theorem mw.push {D : va_G} {cl : List vw_C} {bs : Nat} {w : Nat → Option va_E} {H H1 : Heap} (h : mw D cl bs w H) (hb : bs ≤ H.size) {e : va_E} (hn : va_at D cl (H.size, e) H1) (oq : ∀ q : Nat, q < H.size → H1[q]? = H[q]?) : mw D cl bs (va_up w H.size (some e)) H1 := by
  intro q x hq
  by_cases hqa : q = H.size
  · subst hqa
    rw [va_up_self] at hq
    cases hq
    exact ⟨hb, hn⟩
  · rw [va_up_ne _ _ hqa] at hq
    exact ⟨(h q x hq).1, (h q x hq).2.kept (oq q (h.lt hq))⟩
theorem mw.kept {D : va_G} {cl : List vw_C} {bs : Nat} {w : Nat → Option va_E} {H H1 : Heap} (h : mw D cl bs w H) (oq : ∀ q : Nat, q < H.size → H1[q]? = H[q]?) : mw D cl bs w H1 := fun a e ha => ⟨(h a e ha).1, (h a e ha).2.kept (oq a (h.lt ha))⟩
theorem mw.eq {D : va_G} {cl : List vw_C} {bs : Nat} {w w' : Nat → Option va_E} {H : Heap} (h : mw D cl bs w H) (e : w = w') : mw D cl bs w' H := e ▸ h
theorem mw.none {D : va_G} {cl : List vw_C} {bs : Nat} {H : Heap} : mw D cl bs (fun _ => none) H := fun a e h => by cases h
section MWL
variable {p : Program} {l : Launch} {e : Env} {R : Room} {s : State} {m : MethodId} {args : Array Value} {below : List Frame} {meth : Method} {c : Code} {H : Heap} {locs : List Loc} {cells slots : Nat} {Q : State → Prop}
variable {cc : ByteArray} {pc : Nat} {ls : Array Slot} {rest : List Value} {D : va_G} {cl : List vw_C} {bs : Nat} {a : Nat} {tys : List (ClassId × FieldType)} {w : Nat → Option va_E} {H0 : Heap}
theorem mw_get (hexec : p.tables.exec = Jvm.exec) (hb : c.code = cc) {own ref C : String} {T : u_T} {N ci index : Nat} {Ts : List Cond} (hts : ∀ w ∈ Ts, w.before args s = true) (hin : ∀ w ∈ u_ws C T N, w ∈ Ts) (hown : s.vm.findClass own = some m.cls) (hK : va_K D cl tys s) (hP : mw D cl bs w H) {fs : List Value} (he : w a = some (.inr (ci, fs))) (hc : cl[ci]? = some (C, T, N)) (k : Nat) (hk : k < N) (hlink : (Cond.fieldLink own index ref (T k).2.1 (T k).2.2.1).before args s = true) (hsame : ∀ x, s.fieldFound? (T k).1 (T k).2.1 (T k).2.2.1 = some x → s.fieldFound? ref (T k).2.1 (T k).2.2.1 = some x) {v : Value} (hv : fs[k]? = some v) (hdg : decode cc pc = .ok (.getfield index, 3))
    (kk : W p l e R s m args below meth c H locs cells slots Q (F0 m (pc + 3) ls (v :: rest))) : W p l e R s m args below meth c H locs cells slots Q (F0 m pc ls (.ref a :: rest)) :=
  va_get hexec hb hts hin hown hK (hP.one he) 0 rfl hc k hk hlink hsame hv hdg kk
theorem mw_put (hexec : p.tables.exec = Jvm.exec) (hb : c.code = cc) {own ref C : String} {T : u_T} {N ci index : Nat} {Ts : List Cond} (hts : ∀ w ∈ Ts, w.before args s = true) (hin : ∀ w ∈ u_ws C T N, w ∈ Ts) (ty0 : Nat → FieldType) (hty : ∀ k, k < N → parseFieldDescriptor (T k).2.2.1 = some (ty0 k)) (hnm : ∀ a, a < N → ∀ b, b < N → a ≠ b → (T a).2.1 ≠ (T b).2.1) (hown : s.vm.findClass own = some m.cls) (hK : va_K D cl tys s) (hP : mw D cl bs w H) (hS0 : va_S (mA bs) H0 H locs) {fs : List Value} (he : w a = some (.inr (ci, fs))) (hc : cl[ci]? = some (C, T, N)) (k : Nat) (hk : k < N) (hlink : (Cond.fieldLink own index ref (T k).2.1 (T k).2.2.1).before args s = true) (hsame : ∀ x, s.fieldFound? (T k).1 (T k).2.1 (T k).2.2.1 = some x → s.fieldFound? ref (T k).2.1 (T k).2.2.1 = some x) (hfin : (T k).2.2.2 = false) {ty : FieldType} {v : Value} (hd : parseFieldDescriptor (T k).2.2.1 = some ty) (hn : narrow ty v = v) (hfit : fits ty v = true) (hl : k < fs.length) {fs' : List Value} (hfs : fs.set k v = fs')
    (hdg : decode cc pc = .ok (.putfield index, 3)) (kk : ∀ (H1 : Heap) (locs1 : List Loc), mw D cl bs (va_up w a (some (.inr (ci, fs')))) H1 → va_S (mA bs) H0 H1 locs1 → H1.size = H.size → W p l e R s m args below meth c H1 locs1 cells slots Q (F0 m (pc + 3) ls rest)) : W p l e R s m args below meth c H locs cells slots Q (F0 m pc ls (v :: .ref a :: rest)) := by
  subst hfs
  have hap := va_apart (own := own) hts hin ty0 hty hnm hK hc
  obtain ⟨hba, r, h1, cell, q1, q2, q3, q4⟩ := hP a _ he
  have hr : r = (C, T, N) := Option.some.inj (h1.symm.trans hc)
  subst hr
  obtain ⟨hS, hfc, kC, hkC, hkind⟩ := hK.1 ci _ hc
  obtain ⟨cf, kf, fi, f, hi, hsl⟩ := hS k hk
  have hlay := hts _ (hin _ (u_in_lay hk))
  unfold u_lay at hlay
  rw [if_neg (by rw [hfin]; decide)] at hlay
  have hst := (u_facts hfc hkC (u_lays hts hin hk) hi).1
  have h6 := u_store hfc hkC hkind hlay hi hd hn hfit
  refine W.putK hexec hb (f := f) ⟨hown, hlink, ⟨_, _, _, hsame _ hi⟩, hst⟩ (by rw [q2]; exact h6) q1 q3 (by rw [hsl]; exact k2_hasslot (q4 k hk)) rfl rfl hdg fun H' e1 e2 e3 => ?_
  rw [hsl] at e1 ⊢
  exact kk H' _ (hP.set he ⟨_, hc, t_OB.to (V := updV (vp_V fs) k v) ⟨_, e1, q2, q3, t_set q4 hap hk v⟩ (fun j _ => vp_updV_set hl v j)⟩ e3) (hS0.put e2 e3 hba) e2
theorem mw_putF (hexec : p.tables.exec = Jvm.exec) (hb : c.code = cc) {own ref C : String} {T : u_T} {N ci index : Nat} {Ts : List Cond} (hts : ∀ w ∈ Ts, w.before args s = true) (hin : ∀ w ∈ u_ws C T N, w ∈ Ts) (ty0 : Nat → FieldType) (hty : ∀ k, k < N → parseFieldDescriptor (T k).2.2.1 = some (ty0 k)) (hnm : ∀ a, a < N → ∀ b, b < N → a ≠ b → (T a).2.1 ≠ (T b).2.1) (hown : s.vm.findClass own = some m.cls) (hK : va_K D cl tys s) (hP : mw D cl bs w H) (hS0 : va_S (mA bs) H0 H locs) {fs : List Value} (he : w a = some (.inr (ci, fs))) (hc : cl[ci]? = some (C, T, N)) (k : Nat) (hk : k < N) (hlink : (Cond.fieldLink own index ref (T k).2.1 (T k).2.2.1).before args s = true) (hsame : ∀ x, s.fieldFound? (T k).1 (T k).2.1 (T k).2.2.1 = some x → s.fieldFound? ref (T k).2.1 (T k).2.2.1 = some x) (hfin : (T k).2.2.2 = true) (hin2 : meth.name = "<init>") (hdecl : (T k).1 = own) {ty : FieldType} {v : Value} (hd : parseFieldDescriptor (T k).2.2.1 = some ty) (hn : narrow ty v = v) (hfit : fits ty v = true) (hl : k < fs.length) {fs' : List Value} (hfs : fs.set k v = fs')
    (hdg : decode cc pc = .ok (.putfield index, 3)) (kk : ∀ (H1 : Heap) (locs1 : List Loc), mw D cl bs (va_up w a (some (.inr (ci, fs')))) H1 → va_S (mA bs) H0 H1 locs1 → H1.size = H.size → W p l e R s m args below meth c H1 locs1 cells slots Q (F0 m (pc + 3) ls rest)) : W p l e R s m args below meth c H locs cells slots Q (F0 m pc ls (v :: .ref a :: rest)) := by
  subst hfs
  have hap := va_apart (own := own) hts hin ty0 hty hnm hK hc
  obtain ⟨hba, r, h1, cell, q1, q2, q3, q4⟩ := hP a _ he
  have hr : r = (C, T, N) := Option.some.inj (h1.symm.trans hc)
  subst hr
  obtain ⟨hS, hfc, kC, hkC, hkind⟩ := hK.1 ci _ hc
  obtain ⟨cf, kf, fi, f, hi, hsl⟩ := hS k hk
  have hlay := hts _ (hin _ (u_in_lay hk))
  unfold u_lay at hlay
  rw [if_pos hfin] at hlay
  have hst := (u_facts hfc hkC (u_lays hts hin hk) hi).1
  have hcf : m.cls = cf := by
    obtain ⟨_, _, c', _, _, _, -, -, hf', -, -, -, hown2, -⟩ := Cond.laysFinal_spec hlay
    have e1 : c' = cf := by have := hi.symm.trans hf'; simp at this; exact this.1.symm
    rw [hdecl] at hown2
    rw [← e1]; exact Option.some.inj (hown.symm.trans hown2)
  have h6 := u_fits hfc hkC hkind (Or.inr hlay) hi hd hn hfit
  refine W.putFinK hexec hb hown hlink (hsame _ hi) hst hcf hin2 (by rw [q2]; exact h6) q1 q3 (by rw [hsl]; exact k2_hasslot (q4 k hk)) rfl rfl hdg fun H' e1 e2 e3 => ?_
  rw [hsl] at e1 ⊢
  exact kk H' _ (hP.set he ⟨_, hc, t_OB.to (V := updV (vp_V fs) k v) ⟨_, e1, q2, q3, t_set q4 hap hk v⟩ (fun j _ => vp_updV_set hl v j)⟩ e3) (hS0.put e2 e3 hba) e2
theorem mw_lald (hexec : p.tables.exec = Jvm.exec) (hb : c.code = cc) (hK : va_K D cl tys s) (hP : mw D cl bs w H) (t0 : Nat) {cA : ClassId} {n : Nat} {f : Nat → Int64} (ha : w a = some (.inl (cA, n, .inr (.inl f)))) (ht : tys[t0]? = some (cA, .long)) {i : Int32} (hin : vp_in i n) (hdg : decode cc pc = .ok (.laload, 1))
    (kk : W p l e R s m args below meth c H locs cells slots Q (F0 m (pc + 1) ls (.long (f i.toNatClampNeg) :: rest))) : W p l e R s m args below meth c H locs cells slots Q (F0 m pc ls (.int i :: .ref a :: rest)) :=
  va_lald hexec hb hK (hP.one ha) 0 t0 rfl ht hin hdg kk
theorem mw_iald (hexec : p.tables.exec = Jvm.exec) (hb : c.code = cc) (hK : va_K D cl tys s) (hP : mw D cl bs w H) (t0 : Nat) {cA : ClassId} {n : Nat} {f : Nat → Int32} (ha : w a = some (.inl (cA, n, .inl f))) (ht : tys[t0]? = some (cA, .int)) {i : Int32} (hin : vp_in i n) (hdg : decode cc pc = .ok (.iaload, 1))
    (kk : W p l e R s m args below meth c H locs cells slots Q (F0 m (pc + 1) ls (.int (f i.toNatClampNeg) :: rest))) : W p l e R s m args below meth c H locs cells slots Q (F0 m pc ls (.int i :: .ref a :: rest)) :=
  va_iald hexec hb hK (hP.one ha) 0 t0 rfl ht hin hdg kk
theorem mw_bald (hexec : p.tables.exec = Jvm.exec) (hb : c.code = cc) (hK : va_K D cl tys s) (hP : mw D cl bs w H) (t0 : Nat) {cA : ClassId} {n : Nat} {f : Nat → Int32} (ha : w a = some (.inl (cA, n, .inl f))) (ht : tys[t0]? = some (cA, .byte)) {i : Int32} (hin : vp_in i n) (hdg : decode cc pc = .ok (.baload, 1))
    (kk : W p l e R s m args below meth c H locs cells slots Q (F0 m (pc + 1) ls (.int (f i.toNatClampNeg) :: rest))) : W p l e R s m args below meth c H locs cells slots Q (F0 m pc ls (.int i :: .ref a :: rest)) :=
  va_bald hexec hb hK (hP.one ha) 0 t0 rfl ht hin hdg kk
theorem mw_zald (hexec : p.tables.exec = Jvm.exec) (hb : c.code = cc) (hK : va_K D cl tys s) (hP : mw D cl bs w H) (t0 : Nat) {cA : ClassId} {n : Nat} {f : Nat → Int32} (ha : w a = some (.inl (cA, n, .inl f))) (ht : tys[t0]? = some (cA, .boolean)) {i : Int32} (hin : vp_in i n) (hdg : decode cc pc = .ok (.baload, 1))
    (kk : W p l e R s m args below meth c H locs cells slots Q (F0 m (pc + 1) ls (.int (f i.toNatClampNeg) :: rest))) : W p l e R s m args below meth c H locs cells slots Q (F0 m pc ls (.int i :: .ref a :: rest)) :=
  va_zald hexec hb hK (hP.one ha) 0 t0 rfl ht hin hdg kk
theorem mw_aldq (hexec : p.tables.exec = Jvm.exec) (hb : c.code = cc) (hK : va_K D cl tys s) (hP : mw D cl bs w H) (t0 : Nat) {cA : ClassId} {C : String} {n : Nat} {f : Nat → Option Nat} (ha : w a = some (.inl (cA, n, .inr (.inr (.inr (.inr f)))))) (ht : tys[t0]? = some (cA, .object C)) {i : Int32} (hin : vp_in i n) (hdg : decode cc pc = .ok (.aaload, 1))
    (kk : W p l e R s m args below meth c H locs cells slots Q (F0 m (pc + 1) ls (va_rf (f i.toNatClampNeg) :: rest))) : W p l e R s m args below meth c H locs cells slots Q (F0 m pc ls (.int i :: .ref a :: rest)) :=
  va_aldq hexec hb hK (hP.one ha) 0 t0 rfl ht hin hdg kk
theorem mw_alen (hexec : p.tables.exec = Jvm.exec) (hb : c.code = cc) (hK : va_K D cl tys s) (hP : mw D cl bs w H) (t0 : Nat) {cA : ClassId} {x : vp_A} (ha : w a = some (.inl (cA, x))) {ty : FieldType} (ht : tys[t0]? = some (cA, ty)) {v : Int32} (hv : Int32.ofNat x.1 = v) (hdg : decode cc pc = .ok (.arraylength, 1))
    (kk : W p l e R s m args below meth c H locs cells slots Q (F0 m (pc + 1) ls (.int v :: rest))) : W p l e R s m args below meth c H locs cells slots Q (F0 m pc ls (.ref a :: rest)) :=
  va_alen hexec hb hK (hP.one ha) 0 t0 rfl ht hv hdg kk
theorem mw_last (hexec : p.tables.exec = Jvm.exec) (hb : c.code = cc) (hK : va_K D cl tys s) (hP : mw D cl bs w H) (hS : va_S (mA bs) H0 H locs) (t0 : Nat) {cA : ClassId} {n : Nat} {f : Nat → Int64} (ha : w a = some (.inl (cA, n, .inr (.inl f)))) (ht : tys[t0]? = some (cA, .long)) {i : Int32} {x : Int64} (hin : vp_in i n) (hdg : decode cc pc = .ok (.lastore, 1))
    (kk : ∀ (H1 : Heap) (locs1 : List Loc), mw D cl bs (va_up w a (some (.inl (cA, n, .inr (.inl (vp_updL f i.toNatClampNeg x)))))) H1 → va_S (mA bs) H0 H1 locs1 → H1.size = H.size → W p l e R s m args below meth c H1 locs1 cells slots Q (F0 m (pc + 1) ls rest)) : W p l e R s m args below meth c H locs cells slots Q (F0 m pc ls (.long x :: .int i :: .ref a :: rest)) := by
  refine W.last hexec hb (hP a _ ha).2 ((hK.2 t0 _ ht).1 n (fun j => .long (f j))) (fun q => by cases q) (by show ¬ (i < 0 ∨ (arrV _ _ _).slots.size ≤ _); rw [arrV_size]; exact hin) rfl rfl hdg fun H1 e z oq => ?_
  refine kk H1 _ (hP.set ha ?_ oq) (hS.put z oq (hP a _ ha).1) z
  show H1[a]? = some (vp_cell _ _)
  rw [e]
  rw [vp_cell_l, vp_cell_l, arrV_store]
  congr 2
  funext q
  by_cases hq : q = i.toNatClampNeg
  · subst hq
    simp [updV, vp_updL]
  · simp [updV, vp_updL, hq]
theorem mw_iast (hexec : p.tables.exec = Jvm.exec) (hb : c.code = cc) (hK : va_K D cl tys s) (hP : mw D cl bs w H) (hS : va_S (mA bs) H0 H locs) (t0 : Nat) {cA : ClassId} {n : Nat} {f : Nat → Int32} (ha : w a = some (.inl (cA, n, .inl f))) (ht : tys[t0]? = some (cA, .int)) {i : Int32} {x : Int32} (hin : vp_in i n) (hdg : decode cc pc = .ok (.iastore, 1))
    (kk : ∀ (H1 : Heap) (locs1 : List Loc), mw D cl bs (va_up w a (some (.inl (cA, n, .inl (upd f i.toNatClampNeg x))))) H1 → va_S (mA bs) H0 H1 locs1 → H1.size = H.size → W p l e R s m args below meth c H1 locs1 cells slots Q (F0 m (pc + 1) ls rest)) : W p l e R s m args below meth c H locs cells slots Q (F0 m pc ls (.int x :: .int i :: .ref a :: rest)) := by
  refine W.iast hexec hb (hP a _ ha).2 ((hK.2 t0 _ ht).1 n (fun j => .int (f j))) (fun q => by cases q) (by show ¬ (i < 0 ∨ (arrV _ _ _).slots.size ≤ _); rw [arrV_size]; exact hin) rfl rfl hdg fun H1 e z oq => ?_
  refine kk H1 _ (hP.set ha ?_ oq) (hS.put z oq (hP a _ ha).1) z
  show H1[a]? = some (vp_cell _ _)
  rw [e]
  rw [vp_cell_i, vp_cell_i, arrV_store]
  congr 2
  funext q
  by_cases hq : q = i.toNatClampNeg
  · subst hq
    simp [updV, upd]
  · simp [updV, upd, hq]
theorem mw_astq (hexec : p.tables.exec = Jvm.exec) (hb : c.code = cc) (hK : va_K D cl tys s) (hP : mw D cl bs w H) (hS : va_S (mA bs) H0 H locs) (t0 ci : Nat) {cA : ClassId} {r : vw_C} {n v : Nat} {vs : List Value} {f : Nat → Option Nat} (ha : w a = some (.inl (cA, n, .inr (.inr (.inr (.inr f)))))) (ht : tys[t0]? = some (cA, .object r.1)) (hv : w v = some (.inr (ci, vs))) (hc : cl[ci]? = some r) {i : Int32} (hin : vp_in i n) (hdg : decode cc pc = .ok (.aastore, 1))
    (kk : ∀ (H1 : Heap) (locs1 : List Loc), mw D cl bs (va_up w a (some (.inl (cA, n, .inr (.inr (.inr (.inr (va_up f i.toNatClampNeg (some v))))))))) H1 → va_S (mA bs) H0 H1 locs1 → H1.size = H.size → W p l e R s m args below meth c H1 locs1 cells slots Q (F0 m (pc + 1) ls rest)) : W p l e R s m args below meth c H locs cells slots Q (F0 m pc ls (.ref v :: .int i :: .ref a :: rest)) := by
  have hlt : i.toNatClampNeg < n := Nat.not_le.mp fun q => hin (Or.inr q)
  have h0 : ¬ i < 0 := fun q => hin (Or.inl q)
  obtain ⟨-, r', hr', cellV, g1, g2, g3, -⟩ := hP v _ hv
  have hcls := (hK.1 ci r hc).2
  obtain ⟨kA, comp, k1, k2, k3, -⟩ := (hK.2 t0 _ ht).2
  have hcomp : comp = D.1 ci := Option.some.inj (k3.symm.trans hcls.1)
  subst hcomp
  obtain ⟨kC, hkC, -⟩ := hcls.2
  refine W.aast hexec hb (hP a _ ha).2 (fun q h => by cases h) (fun h => by cases h) k1 k2 rfl hkC ⟨h0, by show _ < (arrV _ _ _).slots.size; rw [arrV_size]; exact hlt⟩ g1 (fun q h => by rw [g3] at h; cases h) (by rw [g2]; exact hkC) (by rw [g2]; exact va_assign hcls) rfl rfl hdg fun H1 e z oq => ?_
  refine kk H1 _ (hP.set ha ?_ oq) (hS.put z oq (hP a _ ha).1) z
  show H1[a]? = some (vp_cell _ _)
  rw [e]
  rw [vp_cell_q, vp_cell_q, arrV_store]
  congr 2
  funext q
  by_cases hq : q = i.toNatClampNeg
  · subst hq
    simp [updV, va_up, va_rf]
  · simp [updV, va_up, hq]
theorem mw_new {c0 : Code} (hexec : p.tables.exec = Jvm.exec) (hb : c0.code = cc) {own C : String} {T : u_T} {N ci index : Nat} {Ts : List Cond} (hts : ∀ w ∈ Ts, w.before args s = true) (hin : ∀ w ∈ u_ws C T N, w ∈ Ts) (ty : Nat → FieldType) (hty : ∀ k, k < N → parseFieldDescriptor (T k).2.2.1 = some (ty k)) (hown : s.vm.findClass own = some m.cls) (hcl : (Cond.classLink own index C).before args s = true) (hinst : (Cond.instantiable C N).before args s = true) (hini : (Cond.initialized C).before args s = true)
    (hK : va_K D cl tys s) (hP : mw D cl bs w H) (hS : va_S (mA bs) H0 H locs) (hbs : bs ≤ H0.size) (hc : cl[ci]? = some (C, T, N)) {fs : List Value} (hfs : ∀ j, j < N → defaultValue (ty j) = vp_V fs j) (hcells : cells + 1 ≤ R.cells) (hslots : slots + N ≤ R.slots) (hdg : decode cc pc = .ok (.new index, 3))
    (kk : ∀ (q : Nat) (H1 : Heap), w q = none → q = H.size → mw D cl bs (va_up w q (some (.inr (ci, fs)))) H1 → va_S (mA bs) H0 H1 locs → H1.size = H.size + 1 →
      W p l e R s m args below meth c0 H1 locs (cells + 1) (slots + N) Q (F0 m (pc + 3) ls (.ref q :: rest))) : W p l e R s m args below meth c0 H locs cells slots Q (F0 m pc ls rest) := by
  have hKn := hK.1 ci _ hc
  refine W.newcK hexec hb hown hcl hinst hini rfl hdg hcells hslots hKn.2.1 rfl fun H1 kC hkC e1 z1 o1 => ?_
  refine kk H.size H1 (hP.fresh (Nat.le_refl _)) rfl (hP.push (Nat.le_trans hbs hS.1) ?_ o1) ⟨Nat.le_trans hS.1 (by omega), fun x h1 h2 => (o1 x (Nat.lt_of_lt_of_le h1 hS.1)).trans (hS.2.1 x h1 h2), hS.2.2⟩ z1
  exact ⟨_, hc, (u_born ty hts hin hKn hkC e1 hty).to hfs⟩
theorem mw_newa (hexec : p.tables.exec = Jvm.exec) (hb : c.code = cc) {atype : ArrayType} (harr : (Cond.arrayClass (newarray.typeOf atype)).before args s = true) {ty : FieldType} (hty : newarray.typeOf atype = ty) (hK : va_K D cl tys s) (hP : mw D cl bs w H) (hS : va_S (mA bs) H0 H locs) (hbs : bs ≤ H0.size) (t0 : Nat) {cA : ClassId} (ht : tys[t0]? = some (cA, ty)) (hpr : va_RA s cA ty = (s.vm.findClass ("[" ++ ty.toString) = some cA))
    {n : Int32} {N' : Nat} {a0 : vp_A} (ha : vp_cell cA a0 = arrV cA N' (fun _ => defaultValue ty)) (hn : ¬ n < 0) (hN : n.toNatClampNeg = N') (hbytes : N' * componentBytes ty ≤ 536870912) (hcells : cells + 1 ≤ R.cells) (hslots : slots + N' ≤ R.slots) (hdg : decode cc pc = .ok (.newarray atype, 2))
    (kk : ∀ (q : Nat) (H1 : Heap), w q = none → q = H.size → mw D cl bs (va_up w q (some (.inl (cA, a0)))) H1 → va_S (mA bs) H0 H1 locs → H1.size = H.size + 1 →
      W p l e R s m args below meth c H1 locs (cells + 1) (slots + N') Q (F0 m (pc + 2) ls (.ref q :: rest))) : W p l e R s m args below meth c H locs cells slots Q (F0 m pc ls (.int n :: rest)) := by
  subst hty
  refine va_newaK hexec hb harr rfl hdg rfl hn hN hbytes hcells hslots rfl fun H1 cA' e1 z1 o1 hAr hNm => ?_
  have h1 := (hK.2 t0 _ ht).2
  rw [hpr] at h1
  have hcA : cA' = cA := Option.some.inj (hNm.symm.trans h1)
  subst hcA
  refine kk H.size H1 (hP.fresh (Nat.le_refl _)) rfl (hP.push (Nat.le_trans hbs hS.1) ?_ o1) ⟨Nat.le_trans hS.1 (by omega), fun x h1 h2 => (o1 x (Nat.lt_of_lt_of_le h1 hS.1)).trans (hS.2.1 x h1 h2), hS.2.2⟩ z1
  show H1[H.size]? = some (vp_cell _ _)
  rw [ha]
  exact e1
theorem mw_newq (hexec : p.tables.exec = Jvm.exec) (hb : c.code = cc) {own C : String} {index : Nat} (hown : s.vm.findClass own = some m.cls) (hclink : (Cond.classLink own index C).before args s = true) (hover : (Cond.arrayOver (.object C)).before args s = true) (hK : va_K D cl tys s) (hP : mw D cl bs w H) (hS : va_S (mA bs) H0 H locs) (hbs : bs ≤ H0.size) (t0 : Nat) {cA : ClassId} (ht : tys[t0]? = some (cA, .object C))
    {n : Int32} {N' : Nat} (hn : ¬ n < 0) (hN : n.toNatClampNeg = N') (hbytes : N' * 4 ≤ 536870912) (hcells : cells + 1 ≤ R.cells) (hslots : slots + N' ≤ R.slots) (hdg : decode cc pc = .ok (.anewarray index, 3))
    (kk : ∀ (q : Nat) (H1 : Heap), w q = none → q = H.size → mw D cl bs (va_up w q (some (.inl (cA, N', .inr (.inr (.inr (.inr (fun _ => none)))))))) H1 → va_S (mA bs) H0 H1 locs → H1.size = H.size + 1 →
      W p l e R s m args below meth c H1 locs (cells + 1) (slots + N') Q (F0 m (pc + 3) ls (.ref q :: rest))) : W p l e R s m args below meth c H locs cells slots Q (F0 m pc ls (.int n :: rest)) := by
  subst hN
  refine W.anew hexec hb hown hclink hover rfl hdg rfl hn hbytes hcells hslots fun cA' kA comp f1 f2 f3 f4 => ?_
  generalize hH1 : H.push ({ cls := cA', slots := Array.replicate n.toNatClampNeg .null, vm := .none } : Cell) = H1
  have z1 : H1.size = H.size + 1 := by rw [← hH1, Array.size_push]
  have e1 : H1[H.size]? = some (arrV cA' n.toNatClampNeg (fun _ => .null)) := by rw [← hH1, Array.getElem?_push_size, ← arrV_new]
  have o1 : ∀ q : Nat, q < H.size → H1[q]? = H[q]? := fun q hq => by rw [← hH1, Array.getElem?_push, if_neg (Nat.ne_of_lt hq)]
  obtain ⟨kA', comp', k1, k2, k3, k4⟩ := (hK.2 t0 _ ht).2
  have hcA : cA' = cA := Option.some.inj (f1.symm.trans k4)
  subst hcA
  refine kk H.size H1 (hP.fresh (Nat.le_refl _)) rfl (hP.push (Nat.le_trans hbs hS.1) ?_ o1) ⟨Nat.le_trans hS.1 (by omega), fun x h1 h2 => (o1 x (Nat.lt_of_lt_of_le h1 hS.1)).trans (hS.2.1 x h1 h2), hS.2.2⟩ z1
  show H1[H.size]? = some (vp_cell _ _)
  rw [vp_cell_q]
  exact e1
end MWL
theorem mw_recv {s : State} {H : Heap} {D : va_G} {cl : List vw_C} {bs a ci : Nat} {q : vw_C} {fs : List Value} {w : Nat → Option va_E} {tys : List (ClassId × FieldType)} (hK : va_K D cl tys s) (hP : mw D cl bs w H) (hc : cl[ci]? = some q) (he : w a = some (.inr (ci, fs))) : ∃ cell : Cell, H[a]? = some cell ∧ cell.vm.isStatics = false ∧ s.vm.findClass q.1 = some cell.cls :=
  va_recv hK (hP.one he) hc (q0 := 0) rfl
/-! lcmp with the branch behind it -/
section LCB
variable {p : Program} {l : Launch} {e : Env} {R : Room} {s : State} {m : MethodId} {args : Array Value} {below : List Frame} {meth : Method} {c : Code} {H : Heap} {locs : List Loc} {cells slots : Nat} {Q : State → Prop}
variable {cc : ByteArray} {pc : Nat} {ls : Array Slot} {rest : List Value}
theorem lc_eq (hexec : p.tables.exec = Jvm.exec) (hb : c.code = cc) {x y : Int64} {off : Int} {tgt : Nat} (hd1 : decode cc pc = .ok (.lcmp, 1)) (hd2 : decode cc (pc + 1) = .ok (.ifCond .eq off, 3)) (ht : ((pc + 1 : Nat) : Int) + off = (tgt : Int))
    (kt : x = y → W p l e R s m args below meth c H locs cells slots Q (F0 m tgt ls rest)) (kf : ¬ x = y → W p l e R s m args below meth c H locs cells slots Q (F0 m (pc + 4) ls rest)) : W p l e R s m args below meth c H locs cells slots Q (F0 m pc ls (.long y :: .long x :: rest)) :=
  W.lcmp hexec hb hd1 (lv_if_eq hexec hb hd2 ht (fun h => kt ((lg_cmp_eq x y).mp h)) (fun h => kf (fun q => h ((lg_cmp_eq x y).mpr q))))
theorem lc_ne (hexec : p.tables.exec = Jvm.exec) (hb : c.code = cc) {x y : Int64} {off : Int} {tgt : Nat} (hd1 : decode cc pc = .ok (.lcmp, 1)) (hd2 : decode cc (pc + 1) = .ok (.ifCond .ne off, 3)) (ht : ((pc + 1 : Nat) : Int) + off = (tgt : Int))
    (kt : ¬ x = y → W p l e R s m args below meth c H locs cells slots Q (F0 m tgt ls rest)) (kf : x = y → W p l e R s m args below meth c H locs cells slots Q (F0 m (pc + 4) ls rest)) : W p l e R s m args below meth c H locs cells slots Q (F0 m pc ls (.long y :: .long x :: rest)) :=
  W.lcmp hexec hb hd1 (lv_if_ne hexec hb hd2 ht (fun h => kt (fun q => h ((lg_cmp_eq x y).mpr q))) (fun h => kf ((lg_cmp_eq x y).mp h)))
theorem lc_lt (hexec : p.tables.exec = Jvm.exec) (hb : c.code = cc) {x y : Int64} {off : Int} {tgt : Nat} (hd1 : decode cc pc = .ok (.lcmp, 1)) (hd2 : decode cc (pc + 1) = .ok (.ifCond .lt off, 3)) (ht : ((pc + 1 : Nat) : Int) + off = (tgt : Int))
    (kt : x < y → W p l e R s m args below meth c H locs cells slots Q (F0 m tgt ls rest)) (kf : ¬ x < y → W p l e R s m args below meth c H locs cells slots Q (F0 m (pc + 4) ls rest)) : W p l e R s m args below meth c H locs cells slots Q (F0 m pc ls (.long y :: .long x :: rest)) :=
  W.lcmp hexec hb hd1 (lv_if_lt hexec hb hd2 ht (fun h => kt ((lg_cmp_lt x y).mp h)) (fun h => kf (fun q => h ((lg_cmp_lt x y).mpr q))))
theorem lc_ge (hexec : p.tables.exec = Jvm.exec) (hb : c.code = cc) {x y : Int64} {off : Int} {tgt : Nat} (hd1 : decode cc pc = .ok (.lcmp, 1)) (hd2 : decode cc (pc + 1) = .ok (.ifCond .ge off, 3)) (ht : ((pc + 1 : Nat) : Int) + off = (tgt : Int))
    (kt : y ≤ x → W p l e R s m args below meth c H locs cells slots Q (F0 m tgt ls rest)) (kf : ¬ y ≤ x → W p l e R s m args below meth c H locs cells slots Q (F0 m (pc + 4) ls rest)) : W p l e R s m args below meth c H locs cells slots Q (F0 m pc ls (.long y :: .long x :: rest)) :=
  W.lcmp hexec hb hd1 (lv_if_ge hexec hb hd2 ht (fun h => kt ((lg_cmp_ge x y).mp h)) (fun h => kf (fun q => h ((lg_cmp_ge x y).mpr q))))
theorem lc_gt (hexec : p.tables.exec = Jvm.exec) (hb : c.code = cc) {x y : Int64} {off : Int} {tgt : Nat} (hd1 : decode cc pc = .ok (.lcmp, 1)) (hd2 : decode cc (pc + 1) = .ok (.ifCond .gt off, 3)) (ht : ((pc + 1 : Nat) : Int) + off = (tgt : Int))
    (kt : y < x → W p l e R s m args below meth c H locs cells slots Q (F0 m tgt ls rest)) (kf : ¬ y < x → W p l e R s m args below meth c H locs cells slots Q (F0 m (pc + 4) ls rest)) : W p l e R s m args below meth c H locs cells slots Q (F0 m pc ls (.long y :: .long x :: rest)) :=
  W.lcmp hexec hb hd1 (lv_if_gt hexec hb hd2 ht (fun h => kt ((lg_cmp_gt x y).mp h)) (fun h => kf (fun q => h ((lg_cmp_gt x y).mpr q))))
theorem lc_le (hexec : p.tables.exec = Jvm.exec) (hb : c.code = cc) {x y : Int64} {off : Int} {tgt : Nat} (hd1 : decode cc pc = .ok (.lcmp, 1)) (hd2 : decode cc (pc + 1) = .ok (.ifCond .le off, 3)) (ht : ((pc + 1 : Nat) : Int) + off = (tgt : Int))
    (kt : x ≤ y → W p l e R s m args below meth c H locs cells slots Q (F0 m tgt ls rest)) (kf : ¬ x ≤ y → W p l e R s m args below meth c H locs cells slots Q (F0 m (pc + 4) ls rest)) : W p l e R s m args below meth c H locs cells slots Q (F0 m pc ls (.long y :: .long x :: rest)) :=
  W.lcmp hexec hb hd1 (lv_if_le hexec hb hd2 ht (fun h => kt ((lg_cmp_le x y).mp h)) (fun h => kf (fun q => h ((lg_cmp_le x y).mpr q))))
end LCB
/-! CONTRACTS OVER MAP WORLDS -/
def mPc (D : va_G) (cl : List vw_C) (tys : List (ClassId × FieldType)) (bs : Nat) (w : Nat → Option va_E) (av : List Value) : Array Value → State → Prop := va_Pc av (fun U => bs ≤ U.heap.size ∧ mw D cl bs w U.heap ∧ va_K D cl tys U)
theorem mPc.blind {D : va_G} {cl : List vw_C} {tys : List (ClassId × FieldType)} {bs : Nat} {w : Nat → Option va_E} {av : List Value} : FrameBlind (mPc D cl tys bs w av) := fun a U g mk q => by
  obtain ⟨q0, q1, q2, q3⟩ := q
  exact ⟨q0, q1, q2, va_K.moved (u := U) (U := U.calling g mk a) (Vm.Alike.refl U.vm) q3⟩
theorem mPc.preS {D : va_G} {cl : List vw_C} {tys : List (ClassId × FieldType)} {bs : Nat} {w : Nat → Option va_E} {av : List Value} {s : State} {H H0 : Heap} {locs : List Loc} (hbs : bs ≤ H0.size) (hS : va_S (mA bs) H0 H locs) (hP : mw D cl bs w H) (hK : va_K D cl tys s) : PreS s H (mPc D cl tys bs w av) av :=
  ⟨mPc.blind, fun U hU hW => ⟨rfl, by rw [hU]; exact Nat.le_trans hbs hS.1, by rw [hU]; exact hP, va_K.moved hW.alike hK⟩⟩
theorem mPc.preV {D : va_G} {cl : List vw_C} {tys : List (ClassId × FieldType)} {bs : Nat} {w : Nat → Option va_E} {As : List Value} {s : State} {H H0 : Heap} {locs : List Loc} {b ci : Nat} {q : vw_C} {fs : List Value} (hbs : bs ≤ H0.size) (hS : va_S (mA bs) H0 H locs) (hP : mw D cl bs w H) (hK : va_K D cl tys s) (hc : cl[ci]? = some q) (he : w b = some (.inr (ci, fs))) : PreV s H q.1 b (mPc D cl tys bs w (.ref b :: As)) As :=
  ⟨mPc.blind, mw_recv hK hP hc he, fun U hU hW => ⟨rfl, by rw [hU]; exact Nat.le_trans hbs hS.1, by rw [hU]; exact hP, va_K.moved hW.alike hK⟩⟩
/-- what a method's end says of the world: it is the map w' then -/
abbrev mB {S : Type} (D : va_G) (cl : List vw_C) (bs : Nat) (w' : S → Nat → Option va_E) : S → State → Prop := fun u t => mw D cl bs (w' u) t.heap
section MWC
variable {p : Program} {l : Launch} {e : Env} {R : Room} {s : State} {m : MethodId} {args : Array Value} {below : List Frame} {meth : Method} {c : Code} {H : Heap} {locs : List Loc} {cells slots : Nat} {Q : State → Prop}
variable {cc : ByteArray} {pc : Nat} {ls : Array Slot} {rest st0 : List Value} {D : va_G} {cl : List vw_C} {bs : Nat} {a : Array Value} {H0 : Heap} {mc ms : Nat}
theorem mc_i {S : Type} {post : Int32 → S → Prop} {w' : S → Nat → Option va_E} (hr : va_Run p l e R s m args below meth c H locs cells slots mc ms (F0 m pc ls st0) rest (va_Qi post (mB D cl bs w') (mA bs) a) (mA bs)) (hS : va_S (mA bs) H0 H locs)
    (kk : ∀ (r : Int32) (u : S) (H1 : Heap) (locs1 : List Loc), post r u → mw D cl bs (w' u) H1 → H.size ≤ H1.size → va_S (mA bs) H0 H1 locs1 → W p l e R s m args below meth c H1 locs1 (cells + mc) (slots + ms) Q (F0 m (pc + 3) ls (.int r :: rest))) : W p l e R s m args below meth c H locs cells slots Q (F0 m pc ls st0) :=
  va_calli hr hS (fun _ _ h => h) (fun _ h => h) (fun r u t H1 locs1 ht _ hw hB hz _ hS1 => kk r u H1 locs1 hw (by have h : mw D cl bs (w' u) t.heap := hB; rw [ht] at h; exact h) hz hS1)
theorem mc_l {S : Type} {post : Int64 → S → Prop} {w' : S → Nat → Option va_E} (hr : va_Run p l e R s m args below meth c H locs cells slots mc ms (F0 m pc ls st0) rest (va_Ql post (mB D cl bs w') (mA bs) a) (mA bs)) (hS : va_S (mA bs) H0 H locs)
    (kk : ∀ (r : Int64) (u : S) (H1 : Heap) (locs1 : List Loc), post r u → mw D cl bs (w' u) H1 → H.size ≤ H1.size → va_S (mA bs) H0 H1 locs1 → W p l e R s m args below meth c H1 locs1 (cells + mc) (slots + ms) Q (F0 m (pc + 3) ls (.long r :: rest))) : W p l e R s m args below meth c H locs cells slots Q (F0 m pc ls st0) :=
  va_calll hr hS (fun _ _ h => h) (fun _ h => h) (fun r u t H1 locs1 ht _ hw hB hz _ hS1 => kk r u H1 locs1 hw (by have h : mw D cl bs (w' u) t.heap := hB; rw [ht] at h; exact h) hz hS1)
theorem mc_v {S : Type} {post : S → Prop} {w' : S → Nat → Option va_E} (hr : va_Run p l e R s m args below meth c H locs cells slots mc ms (F0 m pc ls st0) rest (va_Qv post (mB D cl bs w') (mA bs) a) (mA bs)) (hS : va_S (mA bs) H0 H locs)
    (kk : ∀ (u : S) (H1 : Heap) (locs1 : List Loc), post u → mw D cl bs (w' u) H1 → H.size ≤ H1.size → va_S (mA bs) H0 H1 locs1 → W p l e R s m args below meth c H1 locs1 (cells + mc) (slots + ms) Q (F0 m (pc + 3) ls rest)) : W p l e R s m args below meth c H locs cells slots Q (F0 m pc ls st0) :=
  va_callv hr hS (fun _ _ h => h) (fun _ h => h) (fun u t H1 locs1 ht _ hw hB hz _ hS1 => kk u H1 locs1 hw (by have h : mw D cl bs (w' u) t.heap := hB; rw [ht] at h; exact h) hz hS1)
theorem mc_r {S : Type} {post : S → Prop} {fa : S → Nat} {w' : S → Nat → Option va_E} (hr : va_Run p l e R s m args below meth c H locs cells slots mc ms (F0 m pc ls st0) rest (va_Qr post (fun u ra t => ra = fa u ∧ mw D cl bs (w' u) t.heap) (mA bs) a) (mA bs)) (hS : va_S (mA bs) H0 H locs)
    (kk : ∀ (u : S) (H1 : Heap) (locs1 : List Loc), post u → mw D cl bs (w' u) H1 → H.size ≤ H1.size → va_S (mA bs) H0 H1 locs1 → W p l e R s m args below meth c H1 locs1 (cells + mc) (slots + ms) Q (F0 m (pc + 3) ls (.ref (fa u) :: rest))) : W p l e R s m args below meth c H locs cells slots Q (F0 m pc ls st0) :=
  va_callr hr hS (fun _ _ h => h) (fun _ h => h) (fun u ra t H1 locs1 ht _ hw hB hz _ hS1 => by
    obtain ⟨h1, h2⟩ := hB
    subst h1
    rw [ht] at h2
    exact kk u H1 locs1 hw h2 hz hS1)
end MWC
theorem mw.at {D : va_G} {cl : List vw_C} {bs : Nat} {w : Nat → Option va_E} {H : Heap} {t : State} (h : mw D cl bs w H) (ht : t.heap = H) : mw D cl bs w t.heap := by rw [ht]; exact h
end
section
/-! A LONG BY ITS BITS; MEMORY AS WORDS, BY ITS BITS -/
def bi (x : Int64) (i : Nat) : Bool := x.toBitVec.getLsbD i
theorem bi_ext {x y : Int64} (h : ∀ i, i < 64 → bi x i = bi y i) : x = y := Int64.toBitVec_inj.mp (BitVec.eq_of_getLsbD_eq (fun i hi => h i hi))
theorem bi_or (x y : Int64) (i : Nat) : bi (x ||| y) i = (bi x i || bi y i) := by unfold bi; rw [Int64.toBitVec_or, BitVec.getLsbD_or]
theorem bi_and (x y : Int64) (i : Nat) : bi (x &&& y) i = (bi x i && bi y i) := by unfold bi; rw [Int64.toBitVec_and, BitVec.getLsbD_and]
theorem bi_xor (x y : Int64) (i : Nat) : bi (x ^^^ y) i = (bi x i ^^ bi y i) := by unfold bi; rw [Int64.toBitVec_xor, BitVec.getLsbD_xor]
theorem bi_big {x : Int64} {i : Nat} (h : 64 ≤ i) : bi x i = false := BitVec.getLsbD_of_ge _ _ h
theorem bi_0 (i : Nat) : bi 0 i = false := BitVec.getLsbD_zero
theorem bi_m1 : ∀ i, i < 64 → bi (-1) i = true := by decide +kernel
theorem bi_not (x : Int64) {i : Nat} (hi : i < 64) : bi (x ^^^ (-1)) i = !bi x i := by
  rw [bi_xor, bi_m1 i hi]
  cases bi x i <;> rfl
theorem bi_cs : ∀ k, k < 64 → ((nI k).toInt64 &&& 63).toBitVec.smod 64 = BitVec.ofNat 64 k := by decide +kernel
theorem bi_cu : ∀ k, k < 64 → (((nI k).toInt64.toUInt64 &&& Int64.toUInt64 63).toBitVec % 64).toNat = k := by decide +kernel
theorem bi_shl (x : Int64) {k i : Nat} (hk : k < 64) (hi : i < 64) : bi (x <<< ((nI k).toInt64 &&& 63)) i = (decide (k ≤ i) && bi x (i - k)) := by
  unfold bi
  rw [Int64.toBitVec_shiftLeft, bi_cs k hk, BitVec.shiftLeft_eq', BitVec.toNat_ofNat, Nat.mod_eq_of_lt (by omega), BitVec.getLsbD_shiftLeft]
  rcases Nat.lt_or_ge i k with h | h
  · simp [h, Nat.not_le.mpr h]
  · simp [hi, h, Nat.not_lt.mpr h]
theorem bi_ushr (x : Int64) {k : Nat} (hk : k < 64) (i : Nat) : bi ((x.toUInt64 >>> ((nI k).toInt64.toUInt64 &&& Int64.toUInt64 63)).toInt64) i = bi x (k + i) := by
  show (x.toUInt64 >>> ((nI k).toInt64.toUInt64 &&& Int64.toUInt64 63)).toBitVec.getLsbD i = x.toUInt64.toBitVec.getLsbD (k + i)
  rw [UInt64.toBitVec_shiftRight]
  show (x.toUInt64.toBitVec >>> (((nI k).toInt64.toUInt64 &&& Int64.toUInt64 63).toBitVec % 64).toNat).getLsbD i = _
  rw [bi_cu k hk, BitVec.getLsbD_ushiftRight]
/-- the words of a memory, by its bits -/
def mb (W : Nat → Int64) (b : Nat) : Bool := bi (W (b / 64)) (b % 64)
/-- the lowest bytes -/
def lowB (n : Nat) : Int64 := ((-1 : Int64).toUInt64 >>> ((nI (64 - 8 * n)).toInt64.toUInt64 &&& Int64.toUInt64 63)).toInt64
theorem bi_lowB {n i : Nat} (h1 : 1 ≤ n) (h8 : n ≤ 8) (hi : i < 64) : bi (lowB n) i = decide (i < 8 * n) := by
  unfold lowB
  rw [bi_ushr _ (by omega)]
  rcases Nat.lt_or_ge i (8 * n) with h | h
  · rw [bi_m1 _ (by omega)]; simp [h]
  · rw [bi_big (by omega)]; simp [Nat.not_lt.mpr h]
/-- what lies at a place: size bytes as a number without sign -/
def rdN (B : Nat → Bool) (place n : Nat) (i : Nat) : Bool := decide (i < 8 * n) && B (8 * place + i)
def wrN (B : Nat → Bool) (place n : Nat) (v : Int64) : Nat → Bool := fun b => if 8 * place ≤ b ∧ b < 8 * (place + n) then bi v (b - 8 * place) else B b
theorem mb_lo (W : Nat → Int64) (place : Nat) {j : Nat} (h : 8 * (place % 8) + j < 64) : mb W (8 * place + j) = bi (W (place / 8)) (8 * (place % 8) + j) := by
  unfold mb
  rw [show (8 * place + j) / 64 = place / 8 by omega, show (8 * place + j) % 64 = 8 * (place % 8) + j by omega]
theorem mb_hi (W : Nat → Int64) (place : Nat) {j : Nat} (h : 64 ≤ 8 * (place % 8) + j) (h2 : 8 * (place % 8) + j < 128) : mb W (8 * place + j) = bi (W (place / 8 + 1)) (8 * (place % 8) + j - 64) := by
  unfold mb
  rw [show (8 * place + j) / 64 = place / 8 + 1 by omega, show (8 * place + j) % 64 = 8 * (place % 8) + j - 64 by omega]
/-- a load that lies in one word -/
theorem ld_one (W : Nat → Int64) {place n : Nat} (h1 : 1 ≤ n) (h8 : n ≤ 8) (h : 8 * (place % 8) + 8 * n ≤ 64) : ∀ i, i < 64 → bi (((W (place / 8)).toUInt64 >>> ((nI (8 * (place % 8))).toInt64.toUInt64 &&& Int64.toUInt64 63)).toInt64 &&& lowB n) i = rdN (mb W) place n i := by
  intro i hi
  rw [bi_and, bi_lowB h1 h8 hi, bi_ushr _ (by omega)]
  unfold rdN
  rcases Nat.lt_or_ge i (8 * n) with g | g
  · rw [mb_lo W place (by omega)]; simp [g]
  · simp [Nat.not_lt.mpr g]
/-- a load that lies in two -/
theorem ld_two (W : Nat → Int64) {place n : Nat} (h1 : 1 ≤ n) (h8 : n ≤ 8) (h : 64 < 8 * (place % 8) + 8 * n) : ∀ i, i < 64 → bi ((((W (place / 8)).toUInt64 >>> ((nI (8 * (place % 8))).toInt64.toUInt64 &&& Int64.toUInt64 63)).toInt64 ||| (W (place / 8 + 1)) <<< ((nI (64 - 8 * (place % 8))).toInt64 &&& 63)) &&& lowB n) i = rdN (mb W) place n i := by
  intro i hi
  rw [bi_and, bi_or, bi_lowB h1 h8 hi, bi_ushr _ (by omega), bi_shl _ (by omega) hi]
  unfold rdN
  rcases Nat.lt_or_ge i (8 * n) with g | g
  · rcases Nat.lt_or_ge (8 * (place % 8) + i) 64 with k | k
    · rw [mb_lo W place k, decide_eq_false (by omega : ¬ 64 - 8 * (place % 8) ≤ i)]; simp [g]
    · rw [mb_hi W place k (by omega), bi_big (x := W (place / 8)) k, decide_eq_true (by omega : 64 - 8 * (place % 8) ≤ i), show i - (64 - 8 * (place % 8)) = 8 * (place % 8) + i - 64 by omega]; simp [g]
  · simp [Nat.not_lt.mpr g]
/-- a word with some bits taken from another -/
def mrg (old mask bits : Int64) : Int64 := (old &&& (mask ^^^ (-1))) ||| (bits &&& mask)
theorem bi_mrg (old mask bits : Int64) {i : Nat} (hi : i < 64) : bi (mrg old mask bits) i = if bi mask i = true then bi bits i else bi old i := by
  unfold mrg
  rw [bi_or, bi_and, bi_and, bi_not _ hi]
  cases bi mask i <;> simp
/-- a store that lies in one word -/
theorem st_one (W : Nat → Int64) {place n : Nat} (v : Int64) (h1 : 1 ≤ n) (h8 : n ≤ 8) (h : 8 * (place % 8) + 8 * n ≤ 64) :
    mb (va_up W (place / 8) (mrg (W (place / 8)) (lowB n <<< ((nI (8 * (place % 8))).toInt64 &&& 63)) (v <<< ((nI (8 * (place % 8))).toInt64 &&& 63)))) = wrN (mb W) place n v := by
  funext b
  unfold wrN
  unfold mb
  by_cases hb : b / 64 = place / 8
  · rw [hb, va_up_self, bi_mrg _ _ _ (by omega), bi_shl _ (by omega) (by omega), bi_shl _ (by omega) (by omega)]
    by_cases g : 8 * (place % 8) ≤ b % 64
    · rw [bi_lowB h1 h8 (by omega)]
      by_cases g2 : b % 64 - 8 * (place % 8) < 8 * n
      · rw [if_pos (by simp [g, g2]), if_pos (by omega), show b - 8 * place = b % 64 - 8 * (place % 8) by omega]; simp [g]
      · rw [if_neg (by simp [g2]), if_neg (by omega)]
    · rw [if_neg (by simp [g]), if_neg (by omega)]
  · rw [va_up_ne _ _ hb, if_neg (by omega)]
/-- a store that lies in two -/
theorem st_two (W : Nat → Int64) {place n : Nat} (v : Int64) (h1 : 1 ≤ n) (h8 : n ≤ 8) (h : 64 < 8 * (place % 8) + 8 * n) :
    mb (va_up (va_up W (place / 8) (mrg (W (place / 8)) (lowB n <<< ((nI (8 * (place % 8))).toInt64 &&& 63)) (v <<< ((nI (8 * (place % 8))).toInt64 &&& 63)))) (place / 8 + 1) (mrg (W (place / 8 + 1)) (((lowB n).toUInt64 >>> ((nI (64 - 8 * (place % 8))).toInt64.toUInt64 &&& Int64.toUInt64 63)).toInt64) ((v.toUInt64 >>> ((nI (64 - 8 * (place % 8))).toInt64.toUInt64 &&& Int64.toUInt64 63)).toInt64))) = wrN (mb W) place n v := by
  funext b
  unfold wrN
  unfold mb
  by_cases hb2 : b / 64 = place / 8 + 1
  · rw [hb2, va_up_self, bi_mrg _ _ _ (by omega), bi_ushr _ (by omega), bi_ushr _ (by omega)]
    by_cases g2 : 64 - 8 * (place % 8) + b % 64 < 8 * n
    · rw [bi_lowB h1 h8 (by omega), if_pos (by simp [g2]), if_pos (by omega), show b - 8 * place = 64 - 8 * (place % 8) + b % 64 by omega]
    · have hm : ¬ bi (lowB n) (64 - 8 * (place % 8) + b % 64) = true := by
        rcases Nat.lt_or_ge (64 - 8 * (place % 8) + b % 64) 64 with k | k
        · rw [bi_lowB h1 h8 k]; simp [g2]
        · rw [bi_big k]; simp
      rw [if_neg hm, if_neg (by omega)]
  · rw [va_up_ne _ _ hb2]
    by_cases hb : b / 64 = place / 8
    · rw [hb, va_up_self, bi_mrg _ _ _ (by omega), bi_shl _ (by omega) (by omega), bi_shl _ (by omega) (by omega)]
      by_cases g : 8 * (place % 8) ≤ b % 64
      · rw [bi_lowB h1 h8 (by omega), if_pos (by simp [g]; omega), if_pos (by omega), show b - 8 * place = b % 64 - 8 * (place % 8) by omega]; simp [g]
      · rw [if_neg (by simp [g]), if_neg (by omega)]
    · rw [va_up_ne _ _ hb, if_neg (by omega)]
end
section
/-! how many of the first n words are not 0 -/
def nz1 (x : Int64) : Nat := if x = 0 then 0 else 1
def nzc (W : Nat → Int64) : Nat → Nat
  | 0 => 0
  | n + 1 => nzc W n + nz1 (W n)
theorem nz1_0 : nz1 0 = 0 := by simp [nz1]
theorem nz1_le (x : Int64) : nz1 x ≤ 1 := by unfold nz1; split <;> omega
theorem nz1_ne {x : Int64} (h : ¬ x = 0) : nz1 x = 1 := by simp [nz1, h]
theorem nzc_le (W : Nat → Int64) : ∀ n, nzc W n ≤ n := by
  intro n
  induction n with
  | zero => exact Nat.le_refl _
  | succ n ih => have := nz1_le (W n); show nzc W n + nz1 (W n) ≤ n + 1; omega
theorem nzc_congr {W V : Nat → Int64} : ∀ n, (∀ i, i < n → W i = V i) → nzc W n = nzc V n := by
  intro n
  induction n with
  | zero => intro _; rfl
  | succ n ih =>
    intro h
    show nzc W n + nz1 (W n) = nzc V n + nz1 (V n)
    rw [ih (fun i hi => h i (by omega)), h n (by omega)]
theorem nzc_up (W : Nat → Int64) (i : Nat) (x : Int64) : ∀ n, i < n → nzc (va_up W i x) n + nz1 (W i) = nzc W n + nz1 x := by
  intro n
  induction n with
  | zero => intro h; omega
  | succ n ih =>
    intro h
    show nzc (va_up W i x) n + nz1 (va_up W i x n) + nz1 (W i) = nzc W n + nz1 (W n) + nz1 x
    by_cases hn : i = n
    · subst hn
      rw [va_up_self, nzc_congr (W := va_up W i x) (V := W) i (fun j hj => va_up_ne _ _ (by omega))]
      omega
    · have := ih (by omega)
      rw [va_up_ne _ _ (fun q => hn q.symm)]
      omega
theorem nzc_0 (W : Nat → Int64) : ∀ n, nzc W n = 0 ↔ ∀ i, i < n → W i = 0 := by
  intro n
  induction n with
  | zero => exact ⟨fun _ i h => by omega, fun _ => rfl⟩
  | succ n ih =>
    constructor
    · intro h i hi
      have h2 : nzc W n + nz1 (W n) = 0 := h
      by_cases hn : i = n
      · subst hn
        rcases Classical.em (W i = 0) with z | z
        · exact z
        · rw [nz1_ne z] at h2; omega
      · exact ih.mp (by omega) i (by omega)
    · intro h
      show nzc W n + nz1 (W n) = 0
      rw [ih.mpr (fun i hi => h i (by omega)), h n (by omega), nz1_0]
theorem nzc_const (x : Int64) : ∀ n, nzc (fun _ => x) n = if x = 0 then 0 else n := by
  intro n
  induction n with
  | zero => simp [nzc]
  | succ n ih =>
    show nzc (fun _ => x) n + nz1 x = _
    rw [ih]
    unfold nz1
    split <;> omega
/-! WHAT A STATE OF THE CLASS IS -/
/-- outside F nothing that was there has changed; the footprint is then in F, or new -/
def kp (w w' : Nat → Option va_E) (F F' : Nat → Prop) : Prop := (∀ q, ¬ w q = none → ¬ F q → w' q = w q) ∧ ∀ q, F' q → F q ∨ w q = none
theorem kp.rf {w : Nat → Option va_E} {F : Nat → Prop} : kp w w F F := ⟨fun _ _ _ => rfl, fun _ h => Or.inl h⟩
theorem kp.trans {w w1 w2 : Nat → Option va_E} {F F1 F2 : Nat → Prop} (h1 : kp w w1 F F1) (h2 : kp w1 w2 F1 F2) : kp w w2 F F2 := by
  have key : ∀ q, ¬ w q = none → ¬ F q → ¬ F1 q := fun q hq hF h => (h1.2 q h).elim hF hq
  refine ⟨fun q hq hF => ?_, fun q h => ?_⟩
  · have e1 := h1.1 q hq hF
    rw [h2.1 q (by rw [e1]; exact hq) (key q hq hF), e1]
  · rcases h2.2 q h with g | g
    · exact h1.2 q g
    · rcases Classical.em (w q = none) with z | z
      · exact Or.inr z
      · rcases Classical.em (F q) with y | y
        · exact Or.inl y
        · rw [h1.1 q z y] at g
          exact absurd g z
/-- a page's own array, if it has one -/
def pgw (w : Nat → Option va_E) (p : Nat) : Option Nat := match w p with
  | some (.inr (_, .ref a :: _)) => some a
  | _ => none
def pfp (w : Nat → Option va_E) (p q : Nat) : Prop := q = p ∨ pgw w p = some q
def pgE (wr : Option Nat) (ev : Int32) (ew : Int64) (nz : Int32) (tw : Int64) : va_E := .inr (ciP, [va_rf wr, .int ev, .long ew, .int nz, .long tw])
def pg (cJ : ClassId) (w : Nat → Option va_E) (p : Nat) (W : Nat → Int64) (tw : Int64) : Prop := ∃ (wr : Option Nat) (ev : Int32) (ew : Int64), w p = some (pgE wr ev ew (nI (nzc W 512)) tw) ∧ (ev = 0 ∨ ev = 1) ∧ (ev = 1 → ∀ i, i < 512 → W i = ew) ∧ (ev = 0 → ¬ wr = none) ∧ ∀ a, wr = some a → ∃ f : Nat → Int64, w a = some (.inl (cJ, 512, .inr (.inl f))) ∧ (ev = 0 → ∀ i, i < 512 → f i = W i)
theorem pgw_of {w : Nat → Option va_E} {p : Nat} {wr : Option Nat} {ev : Int32} {ew : Int64} {nz : Int32} {tw : Int64} (h : w p = some (pgE wr ev ew nz tw)) : pgw w p = wr := by
  unfold pgw
  rw [h]
  cases wr with
  | none => rfl
  | some a => rfl
theorem pgw_eq {w w' : Nat → Option va_E} {p : Nat} (h : w' p = w p) : pgw w' p = pgw w p := by unfold pgw; rw [h]
theorem pg.congr {cJ : ClassId} {w : Nat → Option va_E} {p : Nat} {W V : Nat → Int64} {tw : Int64} (h : pg cJ w p W tw) (e : ∀ i, i < 512 → W i = V i) : pg cJ w p V tw := by
  obtain ⟨wr, ev, ew, h1, h2, h3, h4, h5⟩ := h
  refine ⟨wr, ev, ew, by rw [← nzc_congr 512 e]; exact h1, h2, fun a i hi => (e i hi).symm.trans (h3 a i hi), h4, fun a ha => ?_⟩
  obtain ⟨f, g1, g2⟩ := h5 a ha
  exact ⟨f, g1, fun z i hi => (g2 z i hi).trans (e i hi)⟩
/-- what lies in a page's footprint -/
theorem pg.what {cJ : ClassId} {w : Nat → Option va_E} {p q : Nat} {W : Nat → Int64} {tw : Int64} (h : pg cJ w p W tw) (hq : pfp w p q) : (∃ vs : List Value, w q = some (.inr (ciP, vs))) ∨ ∃ f : Nat → Int64, w q = some (.inl (cJ, 512, .inr (.inl f))) := by
  obtain ⟨wr, ev, ew, h1, h2, h3, h4, h5⟩ := h
  rcases hq with rfl | hq
  · exact Or.inl ⟨_, h1⟩
  · rw [pgw_of h1] at hq
    obtain ⟨f, g1, g2⟩ := h5 q hq
    exact Or.inr ⟨f, g1⟩
theorem pg.here {cJ : ClassId} {w : Nat → Option va_E} {p q : Nat} {W : Nat → Int64} {tw : Int64} (h : pg cJ w p W tw) (hq : pfp w p q) : ¬ w q = none := by
  rcases h.what hq with ⟨_, e⟩ | ⟨_, e⟩ <;> rw [e] <;> exact fun z => by cases z
/-- a page whose cells are as before -/
theorem pg.kept {cJ : ClassId} {w w' : Nat → Option va_E} {p : Nat} {W : Nat → Int64} {tw : Int64} (h : pg cJ w p W tw) (hq : ∀ q, pfp w p q → w' q = w q) : pg cJ w' p W tw ∧ ∀ q, pfp w' p q ↔ pfp w p q := by
  have e0 := hq p (Or.inl rfl)
  refine ⟨?_, fun q => by unfold pfp; rw [pgw_eq e0]⟩
  obtain ⟨wr, ev, ew, h1, h2, h3, h4, h5⟩ := h
  refine ⟨wr, ev, ew, by rw [e0]; exact h1, h2, h3, h4, fun a ha => ?_⟩
  obtain ⟨f, g1, g2⟩ := h5 a ha
  exact ⟨f, by rw [hq a (Or.inr (by rw [pgw_of h1]; exact ha))]; exact g1, g2⟩
def smE (n aT aA aS : Nat) : va_E := .inr (ciS, [.int (nI n), .ref aT, .ref aA, .ref aS])
def sm (cJ cI cP : ClassId) (w : Nat → Option va_E) (h n : Nat) (M T : Nat → Int64) (ra : Nat → Int64) (rs : Nat → Int32) (aT aA aS : Nat) (pt : Nat → Option Nat) : Prop :=
  (1 ≤ n ∧ n ≤ 1024) ∧ w h = some (smE n aT aA aS) ∧ w aT = some (.inl (cP, n, .inr (.inr (.inr (.inr pt))))) ∧ w aA = some (.inl (cJ, 4, .inr (.inl ra))) ∧ w aS = some (.inl (cI, 4, .inl rs)) ∧ (∀ i, i < n → pt i = none → T i = 0 ∧ ∀ j, j < 512 → M (512 * i + j) = 0) ∧ (∀ i p, i < n → pt i = some p → pg cJ w p (fun j => M (512 * i + j)) (T i)) ∧ ∀ i j p p' q, i < n → j < n → pt i = some p → pt j = some p' → pfp w p q → pfp w p' q → i = j
/-- the footprint of the class's object -/
def sfp (w : Nat → Option va_E) (h q : Nat) : Prop := q = h ∨ ∃ (v : Value) (aT aA aS : Nat), w h = some (.inr (ciS, [v, .ref aT, .ref aA, .ref aS])) ∧ (q = aT ∨ q = aA ∨ q = aS ∨ ∃ (cA : ClassId) (n : Nat) (pt : Nat → Option Nat) (i p : Nat), w aT = some (.inl (cA, n, .inr (.inr (.inr (.inr pt))))) ∧ i < n ∧ pt i = some p ∧ pfp w p q)
theorem sfp_iff {cP : ClassId} {w : Nat → Option va_E} {h n aT aA aS : Nat} {pt : Nat → Option Nat} (h1 : w h = some (smE n aT aA aS)) (h2 : w aT = some (.inl (cP, n, .inr (.inr (.inr (.inr pt)))))) (q : Nat) : sfp w h q ↔ q = h ∨ q = aT ∨ q = aA ∨ q = aS ∨ ∃ i p, i < n ∧ pt i = some p ∧ pfp w p q := by
  unfold sfp
  constructor
  · rintro (g | ⟨v, a, b, c, e, g⟩)
    · exact Or.inl g
    · rw [h1] at e
      unfold smE at e
      simp only [Option.some.injEq, Sum.inr.injEq, Prod.mk.injEq, List.cons.injEq, Value.ref.injEq, and_true, true_and] at e
      obtain ⟨-, rfl, rfl, rfl⟩ := e
      rcases g with g | g | g | ⟨cA, m, pt', i, p, e2, g1, g2, g3⟩
      · exact Or.inr (Or.inl g)
      · exact Or.inr (Or.inr (Or.inl g))
      · exact Or.inr (Or.inr (Or.inr (Or.inl g)))
      · rw [h2] at e2
        simp only [Option.some.injEq, Sum.inl.injEq, Prod.mk.injEq, Sum.inr.injEq] at e2
        obtain ⟨-, rfl, rfl⟩ := e2
        exact Or.inr (Or.inr (Or.inr (Or.inr ⟨i, p, g1, g2, g3⟩)))
  · rintro (g | g | g | g | ⟨i, p, g1, g2, g3⟩)
    · exact Or.inl g
    · exact Or.inr ⟨_, aT, aA, aS, h1, Or.inl g⟩
    · exact Or.inr ⟨_, aT, aA, aS, h1, Or.inr (Or.inl g)⟩
    · exact Or.inr ⟨_, aT, aA, aS, h1, Or.inr (Or.inr (Or.inl g))⟩
    · exact Or.inr ⟨_, aT, aA, aS, h1, Or.inr (Or.inr (Or.inr ⟨_, _, pt, i, p, h2, g1, g2, g3⟩))⟩
/-- the words of page i become W -/
def pup (M : Nat → Int64) (i : Nat) (W : Nat → Int64) : Nat → Int64 := fun k => if k / 512 = i then W (k % 512) else M k
theorem pup_in (M : Nat → Int64) (i : Nat) (W : Nat → Int64) {j : Nat} (hj : j < 512) : pup M i W (512 * i + j) = W j := by
  unfold pup
  rw [if_pos (by omega), show (512 * i + j) % 512 = j by omega]
theorem pup_out (M : Nat → Int64) {i k : Nat} (W : Nat → Int64) {j : Nat} (hj : j < 512) (h : ¬ k = i) : pup M i W (512 * k + j) = M (512 * k + j) := by
  unfold pup
  rw [if_neg (by omega)]
theorem sm_page {cJ cI cP : ClassId} {w w' : Nat → Option va_E} {h n : Nat} {M T : Nat → Int64} {ra : Nat → Int64} {rs : Nat → Int32} {aT aA aS : Nat} {pt : Nat → Option Nat} (H : sm cJ cI cP w h n M T ra rs aT aA aS pt) {i p : Nat} (hi : i < n) (hp : pt i = some p) (hk : kp w w' (pfp w p) (pfp w' p)) {W : Nat → Int64} {t' : Int64} (hg : pg cJ w' p W t') : sm cJ cI cP w' h n (pup M i W) (va_up T i t') ra rs aT aA aS pt ∧ kp w w' (sfp w h) (sfp w' h) := by
  obtain ⟨hn, h1, h2, h3, h4, h5, h6, h7⟩ := H
  have hpg := h6 i p hi hp
  have n1 : ¬ pfp w p h := fun z => by rcases hpg.what z with ⟨_, e⟩ | ⟨_, e⟩ <;> rw [h1] at e <;> simp [smE, ciS, ciP] at e
  have n2 : ¬ pfp w p aT := fun z => by rcases hpg.what z with ⟨_, e⟩ | ⟨_, e⟩ <;> rw [h2] at e <;> simp at e
  have n3 : ¬ pfp w p aA := fun z => by rcases hpg.what z with ⟨_, e⟩ | ⟨_, e⟩ <;> rw [h3] at e <;> simp at e
  have n4 : ¬ pfp w p aS := fun z => by rcases hpg.what z with ⟨_, e⟩ | ⟨_, e⟩ <;> rw [h4] at e <;> simp at e
  have e1 : w' h = w h := hk.1 h (by rw [h1]; simp) n1
  have e2 : w' aT = w aT := hk.1 aT (by rw [h2]; simp) n2
  have e3 : w' aA = w aA := hk.1 aA (by rw [h3]; simp) n3
  have e4 : w' aS = w aS := hk.1 aS (by rw [h4]; simp) n4
  have other : ∀ k p', k < n → pt k = some p' → ¬ k = i → pg cJ w' p' (fun j => M (512 * k + j)) (T k) ∧ ∀ q, pfp w' p' q ↔ pfp w p' q := fun k p' hk2 hp2 hne =>
    (h6 k p' hk2 hp2).kept (fun q hq => hk.1 q ((h6 k p' hk2 hp2).here hq) (fun z => hne (h7 k i p' p q hk2 hi hp2 hp hq z)))
  refine ⟨⟨hn, by rw [e1]; exact h1, by rw [e2]; exact h2, by rw [e3]; exact h3, by rw [e4]; exact h4, fun k hk2 hz => ?_, fun k p' hk2 hp2 => ?_, fun k j p1 p2 q hk2 hj g1 g2 z1 z2 => ?_⟩, fun q hq hF => ?_, fun q hq => ?_⟩
  · have hne : ¬ k = i := fun z => by rw [z, hp] at hz; cases hz
    rw [va_up_ne _ _ hne]
    exact ⟨(h5 k hk2 hz).1, fun j hj => by rw [pup_out M W hj hne]; exact (h5 k hk2 hz).2 j hj⟩
  · by_cases hne : k = i
    · subst hne
      have : p' = p := Option.some.inj (hp2.symm.trans hp)
      subst this
      rw [va_up_self]
      exact hg.congr (fun j hj => (pup_in M k W hj).symm)
    · rw [va_up_ne _ _ hne]
      exact (other k p' hk2 hp2 hne).1.congr (fun j hj => (pup_out M W hj hne).symm)
  · by_cases a1 : k = i <;> by_cases a2 : j = i
    · rw [a1, a2]
    · exfalso
      have c1 : p1 = p := Option.some.inj (g1.symm.trans (by rw [a1]; exact hp))
      subst c1
      have z3 := ((other j p2 hj g2 a2).2 q).mp z2
      rcases hk.2 q z1 with z4 | z4
      · exact a2 (h7 j i p2 p1 q hj hi g2 hp z3 z4)
      · exact (h6 j p2 hj g2).here z3 z4
    · exfalso
      have c1 : p2 = p := Option.some.inj (g2.symm.trans (by rw [a2]; exact hp))
      subst c1
      have z3 := ((other k p1 hk2 g1 a1).2 q).mp z1
      rcases hk.2 q z2 with z4 | z4
      · exact a1 (h7 k i p1 p2 q hk2 hi g1 hp z3 z4)
      · exact (h6 k p1 hk2 g1).here z3 z4
    · exact h7 k j p1 p2 q hk2 hj g1 g2 (((other k p1 hk2 g1 a1).2 q).mp z1) (((other j p2 hj g2 a2).2 q).mp z2)
  · refine hk.1 q hq (fun z => hF ?_)
    rw [sfp_iff h1 h2]
    exact Or.inr (Or.inr (Or.inr (Or.inr ⟨i, p, hi, hp, z⟩)))
  · rw [sfp_iff (by rw [e1]; exact h1) (by rw [e2]; exact h2)] at hq
    rcases hq with g | g | g | g | ⟨k, p', g1, g2, g3⟩
    · exact Or.inl ((sfp_iff h1 h2 q).mpr (Or.inl g))
    · exact Or.inl ((sfp_iff h1 h2 q).mpr (Or.inr (Or.inl g)))
    · exact Or.inl ((sfp_iff h1 h2 q).mpr (Or.inr (Or.inr (Or.inl g))))
    · exact Or.inl ((sfp_iff h1 h2 q).mpr (Or.inr (Or.inr (Or.inr (Or.inl g)))))
    · by_cases a1 : k = i
      · have c1 : p' = p := Option.some.inj (g2.symm.trans (by rw [a1]; exact hp))
        subst c1
        rcases hk.2 q g3 with z4 | z4
        · exact Or.inl ((sfp_iff h1 h2 q).mpr (Or.inr (Or.inr (Or.inr (Or.inr ⟨k, p', g1, g2, z4⟩)))))
        · exact Or.inr z4
      · exact Or.inl ((sfp_iff h1 h2 q).mpr (Or.inr (Or.inr (Or.inr (Or.inr ⟨k, p', g1, g2, ((other k p' g1 g2 a1).2 q).mp g3⟩)))))
/-- a page is made for a place that had none -/
theorem sm_grow {cJ cI cP : ClassId} {w : Nat → Option va_E} {h n : Nat} {M T : Nat → Int64} {ra : Nat → Int64} {rs : Nat → Int32} {aT aA aS : Nat} {pt : Nat → Option Nat} (H : sm cJ cI cP w h n M T ra rs aT aA aS pt) {i q : Nat} (hi : i < n) (hp : pt i = none) (hq : w q = none) :
    sm cJ cI cP (va_up (va_up w q (some (pgE none 1 0 0 0))) aT (some (.inl (cP, n, .inr (.inr (.inr (.inr (va_up pt i (some q)))))))))  h n M T ra rs aT aA aS (va_up pt i (some q)) ∧ kp w (va_up (va_up w q (some (pgE none 1 0 0 0))) aT (some (.inl (cP, n, .inr (.inr (.inr (.inr (va_up pt i (some q))))))))) (sfp w h) (sfp (va_up (va_up w q (some (pgE none 1 0 0 0))) aT (some (.inl (cP, n, .inr (.inr (.inr (.inr (va_up pt i (some q))))))))) h) := by
  obtain ⟨hn, h1, h2, h3, h4, h5, h6, h7⟩ := H
  obtain ⟨w', ew⟩ : ∃ x, x = va_up (va_up w q (some (pgE none 1 0 0 0))) aT (some (.inl (cP, n, .inr (.inr (.inr (.inr (va_up pt i (some q))))))) : Option va_E) := ⟨_, rfl⟩
  rw [← ew]
  have qT : ¬ q = aT := fun z => by rw [z, h2] at hq; cases hq
  have hT : w' aT = some (.inl (cP, n, .inr (.inr (.inr (.inr (va_up pt i (some q))))))) := by rw [ew, va_up_self]
  have hQ : w' q = some (pgE none 1 0 0 0) := by rw [ew, va_up_ne _ _ qT, va_up_self]
  have oth : ∀ a, ¬ w a = none → ¬ a = aT → w' a = w a := fun a ha hne => by
    rw [ew, va_up_ne _ _ hne, va_up_ne _ _ (fun z => ha (by rw [z]; exact hq))]
  have nT : ∀ x : Nat, ∀ e : va_E, w x = some e → e ≠ .inl (cP, n, .inr (.inr (.inr (.inr pt)))) → ¬ x = aT := fun x e hx hne z => by
    rw [z, h2] at hx; exact hne (Option.some.inj hx).symm
  have e1 : w' h = w h := oth h (by rw [h1]; simp) (nT h _ h1 (by simp [smE]))
  have e3 : w' aA = w aA := oth aA (by rw [h3]; simp) (nT aA _ h3 (by simp))
  have e4 : w' aS = w aS := oth aS (by rw [h4]; simp) (nT aS _ h4 (by simp))
  have old : ∀ k p', k < n → pt k = some p' → pg cJ w' p' (fun j => M (512 * k + j)) (T k) ∧ ∀ z, pfp w' p' z ↔ pfp w p' z := fun k p' hk hp2 =>
    (h6 k p' hk hp2).kept (fun z hz => oth z ((h6 k p' hk hp2).here hz) (fun y => by
      subst y
      rcases (h6 k p' hk hp2).what hz with ⟨_, e⟩ | ⟨_, e⟩ <;> rw [h2] at e <;> simp at e))
  have newp : ∀ z, pfp w' q z ↔ z = q := fun z => by
    unfold pfp
    rw [pgw_of hQ]
    simp
  have hold : ∀ k p', k < n → va_up pt i (some q) k = some p' → (k = i ∧ p' = q) ∨ (¬ k = i ∧ pt k = some p') := fun k p' hk hp2 => by
    by_cases hki : k = i
    · rw [hki, va_up_self] at hp2
      exact Or.inl ⟨hki, (Option.some.inj hp2).symm⟩
    · rw [va_up_ne _ _ hki] at hp2
      exact Or.inr ⟨hki, hp2⟩
  have hz := h5 i hi hp
  have nzq : nzc (fun j => M (512 * i + j)) 512 = 0 := (nzc_0 _ 512).mpr (fun j hj => hz.2 j hj)
  refine ⟨⟨hn, by rw [e1]; exact h1, hT, by rw [e3]; exact h3, by rw [e4]; exact h4, fun k hk hz2 => ?_, fun k p' hk hp2 => ?_, fun k j p1 p2 z hk hj g1 g2 z1 z2 => ?_⟩, fun z hz1 hF => ?_, fun z hz1 => ?_⟩
  · have hki : ¬ k = i := fun y => by rw [y, va_up_self] at hz2; cases hz2
    rw [va_up_ne _ _ hki] at hz2
    exact h5 k hk hz2
  · rcases hold k p' hk hp2 with ⟨rfl, rfl⟩ | ⟨hki, hp3⟩
    · refine ⟨none, 1, 0, by rw [nzq, hz.1]; exact hQ, Or.inr rfl, fun _ j hj => hz.2 j hj, fun y => absurd y (by decide), fun a ha => absurd ha (by simp)⟩
    · exact (old k p' hk hp3).1
  · rcases hold k p1 hk g1 with ⟨a1, b1⟩ | ⟨a1, b1⟩ <;> rcases hold j p2 hj g2 with ⟨a2, b2⟩ | ⟨a2, b2⟩
    · rw [a1, a2]
    · exfalso
      subst b1
      rw [newp] at z1
      subst z1
      exact (h6 j p2 hj b2).here (((old j p2 hj b2).2 z).mp z2) hq
    · exfalso
      subst b2
      rw [newp] at z2
      subst z2
      exact (h6 k p1 hk b1).here (((old k p1 hk b1).2 z).mp z1) hq
    · exact h7 k j p1 p2 z hk hj b1 b2 (((old k p1 hk b1).2 z).mp z1) (((old j p2 hj b2).2 z).mp z2)
  · exact oth z hz1 (fun y => hF ((sfp_iff h1 h2 z).mpr (Or.inr (Or.inl y))))
  · rw [sfp_iff (by rw [e1]; exact h1) hT] at hz1
    rcases hz1 with g | g | g | g | ⟨k, p', g1, g2, g3⟩
    · exact Or.inl ((sfp_iff h1 h2 z).mpr (Or.inl g))
    · exact Or.inl ((sfp_iff h1 h2 z).mpr (Or.inr (Or.inl g)))
    · exact Or.inl ((sfp_iff h1 h2 z).mpr (Or.inr (Or.inr (Or.inl g))))
    · exact Or.inl ((sfp_iff h1 h2 z).mpr (Or.inr (Or.inr (Or.inr (Or.inl g)))))
    · rcases hold k p' g1 g2 with ⟨a1, b1⟩ | ⟨a1, b1⟩
      · subst b1
        rw [newp] at g3
        exact Or.inr (by rw [g3]; exact hq)
      · exact Or.inl ((sfp_iff h1 h2 z).mpr (Or.inr (Or.inr (Or.inr (Or.inr ⟨k, p', g1, b1, ((old k p' g1 b1).2 z).mp g3⟩)))))
/-- the two arrays of reservations are written -/
theorem sm_ra {cJ cI cP : ClassId} {w : Nat → Option va_E} {h n : Nat} {M T : Nat → Int64} {ra : Nat → Int64} {rs : Nat → Int32} {aT aA aS : Nat} {pt : Nat → Option Nat} (H : sm cJ cI cP w h n M T ra rs aT aA aS pt) (ra' : Nat → Int64) :
    sm cJ cI cP (va_up w aA (some (.inl (cJ, 4, .inr (.inl ra'))))) h n M T ra' rs aT aA aS pt ∧ kp w (va_up w aA (some (.inl (cJ, 4, .inr (.inl ra'))))) (sfp w h) (sfp (va_up w aA (some (.inl (cJ, 4, .inr (.inl ra'))))) h) := by
  obtain ⟨hn, h1, h2, h3, h4, h5, h6, h7⟩ := H
  obtain ⟨w', ew⟩ : ∃ x, x = va_up w aA (some (.inl (cJ, 4, .inr (.inl ra'))) : Option va_E) := ⟨_, rfl⟩
  rw [← ew]
  have oth : ∀ a, ¬ a = aA → w' a = w a := fun a hne => by rw [ew, va_up_ne _ _ hne]
  have e1 : w' h = w h := oth h (fun z => by rw [z, h3] at h1; simp [smE] at h1)
  have e2 : w' aT = w aT := oth aT (fun z => by rw [z, h3] at h2; simp at h2)
  have e4 : w' aS = w aS := oth aS (fun z => by rw [z, h3] at h4; simp at h4)
  have old : ∀ k p', k < n → pt k = some p' → pg cJ w' p' (fun j => M (512 * k + j)) (T k) ∧ ∀ z, pfp w' p' z ↔ pfp w p' z := fun k p' hk hp2 =>
    (h6 k p' hk hp2).kept (fun z hz => oth z (fun y => by
      subst y
      rcases (h6 k p' hk hp2).what hz with ⟨_, e⟩ | ⟨_, e⟩ <;> rw [h3] at e <;> simp at e))
  refine ⟨⟨hn, by rw [e1]; exact h1, by rw [e2]; exact h2, by rw [ew, va_up_self], by rw [e4]; exact h4, h5, fun k p' hk hp2 => (old k p' hk hp2).1, fun k j p1 p2 z hk hj g1 g2 z1 z2 => h7 k j p1 p2 z hk hj g1 g2 (((old k p1 hk g1).2 z).mp z1) (((old j p2 hj g2).2 z).mp z2)⟩, fun z hz1 hF => ?_, fun z hz1 => Or.inl ?_⟩
  · exact oth z (fun y => hF ((sfp_iff h1 h2 z).mpr (Or.inr (Or.inr (Or.inl y)))))
  · rw [sfp_iff (by rw [e1]; exact h1) (by rw [e2]; exact h2)] at hz1
    rw [sfp_iff h1 h2]
    rcases hz1 with g | g | g | g | ⟨k, p', g1, g2, g3⟩
    · exact Or.inl g
    · exact Or.inr (Or.inl g)
    · exact Or.inr (Or.inr (Or.inl g))
    · exact Or.inr (Or.inr (Or.inr (Or.inl g)))
    · exact Or.inr (Or.inr (Or.inr (Or.inr ⟨k, p', g1, g2, ((old k p' g1 g2).2 z).mp g3⟩)))
theorem sm_rs {cJ cI cP : ClassId} {w : Nat → Option va_E} {h n : Nat} {M T : Nat → Int64} {ra : Nat → Int64} {rs : Nat → Int32} {aT aA aS : Nat} {pt : Nat → Option Nat} (H : sm cJ cI cP w h n M T ra rs aT aA aS pt) (rs' : Nat → Int32) :
    sm cJ cI cP (va_up w aS (some (.inl (cI, 4, .inl rs')))) h n M T ra rs' aT aA aS pt ∧ kp w (va_up w aS (some (.inl (cI, 4, .inl rs')))) (sfp w h) (sfp (va_up w aS (some (.inl (cI, 4, .inl rs')))) h) := by
  obtain ⟨hn, h1, h2, h3, h4, h5, h6, h7⟩ := H
  obtain ⟨w', ew⟩ : ∃ x, x = va_up w aS (some (.inl (cI, 4, .inl rs')) : Option va_E) := ⟨_, rfl⟩
  rw [← ew]
  have oth : ∀ a, ¬ a = aS → w' a = w a := fun a hne => by rw [ew, va_up_ne _ _ hne]
  have e1 : w' h = w h := oth h (fun z => by rw [z, h4] at h1; simp [smE] at h1)
  have e2 : w' aT = w aT := oth aT (fun z => by rw [z, h4] at h2; simp at h2)
  have e3 : w' aA = w aA := oth aA (fun z => by rw [z, h4] at h3; simp at h3)
  have old : ∀ k p', k < n → pt k = some p' → pg cJ w' p' (fun j => M (512 * k + j)) (T k) ∧ ∀ z, pfp w' p' z ↔ pfp w p' z := fun k p' hk hp2 =>
    (h6 k p' hk hp2).kept (fun z hz => oth z (fun y => by
      subst y
      rcases (h6 k p' hk hp2).what hz with ⟨_, e⟩ | ⟨_, e⟩ <;> rw [h4] at e <;> simp at e))
  refine ⟨⟨hn, by rw [e1]; exact h1, by rw [e2]; exact h2, by rw [e3]; exact h3, by rw [ew, va_up_self], h5, fun k p' hk hp2 => (old k p' hk hp2).1, fun k j p1 p2 z hk hj g1 g2 z1 z2 => h7 k j p1 p2 z hk hj g1 g2 (((old k p1 hk g1).2 z).mp z1) (((old j p2 hj g2).2 z).mp z2)⟩, fun z hz1 hF => ?_, fun z hz1 => Or.inl ?_⟩
  · exact oth z (fun y => hF ((sfp_iff h1 h2 z).mpr (Or.inr (Or.inr (Or.inr (Or.inl y))))))
  · rw [sfp_iff (by rw [e1]; exact h1) (by rw [e2]; exact h2)] at hz1
    rw [sfp_iff h1 h2]
    rcases hz1 with g | g | g | g | ⟨k, p', g1, g2, g3⟩
    · exact Or.inl g
    · exact Or.inr (Or.inl g)
    · exact Or.inr (Or.inr (Or.inl g))
    · exact Or.inr (Or.inr (Or.inr (Or.inl g)))
    · exact Or.inr (Or.inr (Or.inr (Or.inr ⟨k, p', g1, g2, ((old k p' g1 g2).2 z).mp g3⟩)))
/-- other cells change: the class's object stays as it is -/
theorem sm_off {cJ cI cP : ClassId} {w w' : Nat → Option va_E} {h n : Nat} {M T : Nat → Int64} {ra : Nat → Int64} {rs : Nat → Int32} {aT aA aS : Nat} {pt : Nat → Option Nat} (H : sm cJ cI cP w h n M T ra rs aT aA aS pt) (hk : ∀ q, sfp w h q → w' q = w q) : sm cJ cI cP w' h n M T ra rs aT aA aS pt ∧ ∀ q, sfp w' h q ↔ sfp w h q := by
  obtain ⟨hn, h1, h2, h3, h4, h5, h6, h7⟩ := H
  have e1 : w' h = w h := hk h ((sfp_iff h1 h2 h).mpr (Or.inl rfl))
  have e2 : w' aT = w aT := hk aT ((sfp_iff h1 h2 aT).mpr (Or.inr (Or.inl rfl)))
  have e3 : w' aA = w aA := hk aA ((sfp_iff h1 h2 aA).mpr (Or.inr (Or.inr (Or.inl rfl))))
  have e4 : w' aS = w aS := hk aS ((sfp_iff h1 h2 aS).mpr (Or.inr (Or.inr (Or.inr (Or.inl rfl)))))
  have old : ∀ k p', k < n → pt k = some p' → pg cJ w' p' (fun j => M (512 * k + j)) (T k) ∧ ∀ z, pfp w' p' z ↔ pfp w p' z := fun k p' hk1 hp2 =>
    (h6 k p' hk1 hp2).kept (fun z hz => hk z ((sfp_iff h1 h2 z).mpr (Or.inr (Or.inr (Or.inr (Or.inr ⟨k, p', hk1, hp2, hz⟩))))))
  refine ⟨⟨hn, by rw [e1]; exact h1, by rw [e2]; exact h2, by rw [e3]; exact h3, by rw [e4]; exact h4, h5, fun k p' hk hp2 => (old k p' hk hp2).1, fun k j p1 p2 z hk hj g1 g2 z1 z2 => h7 k j p1 p2 z hk hj g1 g2 (((old k p1 hk g1).2 z).mp z1) (((old j p2 hj g2).2 z).mp z2)⟩, fun z => ?_⟩
  rw [sfp_iff (by rw [e1]; exact h1) (by rw [e2]; exact h2), sfp_iff h1 h2]
  constructor
  · rintro (g | g | g | g | ⟨k, p', g1, g2, g3⟩)
    · exact Or.inl g
    · exact Or.inr (Or.inl g)
    · exact Or.inr (Or.inr (Or.inl g))
    · exact Or.inr (Or.inr (Or.inr (Or.inl g)))
    · exact Or.inr (Or.inr (Or.inr (Or.inr ⟨k, p', g1, g2, ((old k p' g1 g2).2 z).mp g3⟩)))
  · rintro (g | g | g | g | ⟨k, p', g1, g2, g3⟩)
    · exact Or.inl g
    · exact Or.inr (Or.inl g)
    · exact Or.inr (Or.inr (Or.inl g))
    · exact Or.inr (Or.inr (Or.inr (Or.inl g)))
    · exact Or.inr (Or.inr (Or.inr (Or.inr ⟨k, p', g1, g2, ((old k p' g1 g2).2 z).mpr g3⟩)))
/-- a page behind some writes -/
theorem pg_fin {cJ : ClassId} {w w3 : Nat → Option va_E} {p : Nat} {wr0 wr : Option Nat} {ev0 ev : Int32} {ew0 ew : Int64} {nz0 nz : Int32} {tw0 tw : Int64} {W : Nat → Int64} (h0 : w p = some (pgE wr0 ev0 ew0 nz0 tw0)) (h3 : w3 p = some (pgE wr ev ew nz tw)) (hwr : ∀ a, wr = some a → wr0 = some a ∨ w a = none) (oth : ∀ q, ¬ q = p → ¬ wr = some q → w3 q = w q)
    (hz : nz = nI (nzc W 512)) (h2 : ev = 0 ∨ ev = 1) (he : ev = 1 → ∀ i, i < 512 → W i = ew) (hn : ev = 0 → ¬ wr = none) (ha : ∀ a, wr = some a → ∃ f : Nat → Int64, w3 a = some (.inl (cJ, 512, .inr (.inl f))) ∧ (ev = 0 → ∀ i, i < 512 → f i = W i)) : pg cJ w3 p W tw ∧ kp w w3 (pfp w p) (pfp w3 p) := by
  refine ⟨⟨wr, ev, ew, by rw [← hz]; exact h3, h2, he, hn, ha⟩, fun q hq hF => ?_, fun q hq => ?_⟩
  · unfold pfp at hF
    rw [pgw_of h0] at hF
    refine oth q (fun z => hF (Or.inl z)) (fun z => ?_)
    rcases hwr q z with g | g
    · exact hF (Or.inr g)
    · exact hq g
  · unfold pfp at hq ⊢
    rw [pgw_of h3] at hq
    rw [pgw_of h0]
    rcases hq with g | g
    · exact Or.inl (Or.inl g)
    · rcases hwr q g with y | y
      · exact Or.inl (Or.inr y)
      · exact Or.inr y
end
section
set_option maxHeartbeats 4000000 in
set_option maxRecDepth 100000 in
/-- Page(): even -/
theorem t_P_init (l : Launch) (D : va_G) (cJ cI cP : ClassId) (bs : Nat) (w : Nat → Option va_E) (h : Nat) (hh : w h = some (.inr (ciP, [.null, .int 0, .long 0, .int 0, .long 0]))) : Met l y_P_init ws_P_init ({ frames := 1, cells := 0, slots := 0, locals := 20 }) (mPc D vwCl (mT cJ cI cP) bs w [.ref h]) (va_Qv (S := Unit) (fun _ => True) (mB D vwCl bs (fun _ => va_up w h (some (pgE none 1 0 0 0)))) (mA bs)) 0 0 (mA bs) := by
  refine Met.ofW (cc := c_P_init) (maxL := 1) (ret := none) (by decide) rfl ?_
  intro p e s m args below meth c s₁ B hml hv
  obtain ⟨rfl, hbs, hP, hK⟩ := hv
  have hx := B.exec
  have hb := B.bytes
  have hr := B.returns
  have htg : ∀ w ∈ gt, w.before _ s = true := fun w h => atoms_spec (ws := ws_P_init) B.pre w (List.mem_cons_of_mem _ h)
  have hown : s.vm.findClass R_P = some m.cls := findClass_of_methodNamed B.named
  have hlocks := B.notSynchronized
  have hS : va_S (mA bs) s.heap s.heap [] := va_S.rf
  have hin : meth.name = "<init>" := (name_of_methodNamed B.named B.method).1
  have hl := lv_entry ([.ref h]) (n := 1) (Nat.le_of_ble_eq_true rfl)
  rw [lg_entry_eq]
  generalize (lg_sl ([.ref h]) ++ List.replicate (1 - (lg_sl ([.ref h])).length) Slot.unset).toArray = ls at hl ⊢
  have hl : lv_has ls 1 [(0, .ref h)] := hl
  refine lv_aload_n hx hb d_P_init_0 rfl (lv_at hl 0 rfl) ?_
  refine W.objInit hx hb hown (htg _ k_227) (htg _ k_42) (htg _ k_43) rfl (by rw [hml]; exact hl.1) rfl d_P_init_1 (Nat.le_of_ble_eq_true rfl) (Nat.le_of_ble_eq_true rfl) ?_
  refine W.eq (g2 := F0 m 4 ls []) rfl ?_
  refine lv_aload_n hx hb d_P_init_4 rfl (lv_at hl 0 rfl) ?_
  refine lv_iconst (v := 1) hx hb d_P_init_5 (by decide) ?_
  refine mw_put (C := R_P) (T := T_P) (N := 5) (ci := ciP) (v := .int 1) (ty := .boolean) (fs' := [.null, .int 1, .long 0, .int 0, .long 0]) hx hb htg i_P ty_P tk_P nm_P hown hK hP hS hh rfl 1 (by decide) (htg _ k_229) (fun _ h9 => h9) rfl (by decide +kernel) (by decide) (by decide) (Nat.le_of_ble_eq_true rfl) rfl d_P_init_6 (fun H locs hP hS hz6 => ?_)
  obtain ⟨w_1, ew_1⟩ : ∃ x, x = va_up w h (some (.inr (ciP, [.null, .int 1, .long 0, .int 0, .long 0])) : Option va_E) := ⟨_, rfl⟩
  rw [← ew_1] at hP
  have h_2 : w_1 h = some (.inr (ciP, [.null, .int 1, .long 0, .int 0, .long 0])) := by rw [ew_1, va_up_self]
  exact W.vret hx hb hr (fun t ht hW => ⟨⟨(), rfl, trivial, (hP.eq ew_1).at ht⟩, hS.F ht⟩) hS.2.2 d_P_init_9
set_option maxHeartbeats 4000000 in
set_option maxRecDepth 100000 in
/-- one write more -/
theorem t_P_countWrite (l : Launch) (D : va_G) (cJ cI cP : ClassId) (bs : Nat) (w : Nat → Option va_E) (pa : Nat) (Wd : Nat → Int64) (tw : Int64) (hp : pg cJ w pa Wd tw) : Met l y_P_countWrite ws_P_countWrite ({ frames := 0, cells := 0, slots := 0, locals := 0 }) (mPc D vwCl (mT cJ cI cP) bs w [.ref pa]) (va_Qv (S := (Nat → Option va_E)) (fun u => pg cJ u pa Wd (tw + 1) ∧ kp w u (pfp w pa) (pfp u pa)) (mB D vwCl bs (fun u => u)) (mA bs)) 0 0 (mA bs) := by
  refine Met.ofW (cc := c_P_countWrite) (maxL := 1) (ret := none) (by decide) rfl ?_
  intro p e s m args below meth c s₁ B hml hv
  obtain ⟨rfl, hbs, hP, hK⟩ := hv
  have hx := B.exec
  have hb := B.bytes
  have hr := B.returns
  have htg : ∀ w ∈ gt, w.before _ s = true := fun w h => atoms_spec (ws := ws_P_countWrite) B.pre w (List.mem_cons_of_mem _ h)
  have hown : s.vm.findClass R_P = some m.cls := findClass_of_methodNamed B.named
  have hlocks := B.notSynchronized
  have hS : va_S (mA bs) s.heap s.heap [] := va_S.rf
  have hl := lv_entry ([.ref pa]) (n := 1) (Nat.le_of_ble_eq_true rfl)
  rw [lg_entry_eq]
  generalize (lg_sl ([.ref pa]) ++ List.replicate (1 - (lg_sl ([.ref pa])).length) Slot.unset).toArray = ls at hl ⊢
  have hl : lv_has ls 1 [(0, .ref pa)] := hl
  obtain ⟨wr, ev, ew, g1, g2, g3, g4, g5⟩ := id hp
  obtain ⟨nz, enz⟩ : ∃ x, x = nI (nzc Wd 512) := ⟨_, rfl⟩
  rw [← enz] at g1
  have f1 : w pa = some (.inr (ciP, [va_rf wr, .int ev, .long ew, .int nz, .long tw])) := g1
  refine lv_aload_n hx hb d_P_countWrite_0 rfl (lv_at hl 0 rfl) ?_
  refine lv_dup hx hb d_P_countWrite_1 rfl ?_
  refine mw_get (C := R_P) (T := T_P) (N := 5) (ci := ciP) (v := .long tw) hx hb htg i_P hown hK hP f1 rfl 4 (by decide) (htg _ k_232) (fun _ h9 => h9) rfl d_P_countWrite_2 ?_
  refine lv_lconst (v := 1) hx hb d_P_countWrite_5 rfl ?_
  refine lv_ladd hx hb d_P_countWrite_6 ?_
  refine lv_topl (fun x_1 ex_1 => ?_)
  refine mw_put (C := R_P) (T := T_P) (N := 5) (ci := ciP) (v := .long x_1) (ty := .long) (fs' := [va_rf (wr), .int ev, .long ew, .int nz, .long x_1]) hx hb htg i_P ty_P tk_P nm_P hown hK hP hS f1 rfl 4 (by decide) (htg _ k_232) (fun _ h9 => h9) rfl (by decide +kernel) rfl rfl (Nat.le_of_ble_eq_true rfl) rfl d_P_countWrite_7 (fun H locs hP hS hz7 => ?_)
  obtain ⟨w_2, ew_2⟩ : ∃ x, x = va_up w pa (some (.inr (ciP, [va_rf (wr), .int ev, .long ew, .int nz, .long x_1])) : Option va_E) := ⟨_, rfl⟩
  rw [← ew_2] at hP
  have h_3 : w_2 pa = some (.inr (ciP, [va_rf (wr), .int ev, .long ew, .int nz, .long x_1])) := by rw [ew_2, va_up_self]
  have g5' : ∀ a, wr = some a → ∃ f : Nat → Int64, w_2 a = some (.inl (cJ, 512, .inr (.inl f))) ∧ (ev = 0 → ∀ i, i < 512 → f i = Wd i) := fun a ha => by
    obtain ⟨f, q1, q2⟩ := g5 a ha
    exact ⟨f, by rw [ew_2, va_up_ne _ _ (fun z => by rw [z, g1] at q1; simp [pgE] at q1)]; exact q1, q2⟩
  have fin := pg_fin (cJ := cJ) (wr := wr) (ev := ev) (ew := ew) (nz := nz) (tw := tw + 1) (W := Wd) g1 (w3 := w_2) (by rw [h_3, ex_1]; rfl) (fun a ha => Or.inl ha) (fun q hq _ => by rw [ew_2, va_up_ne _ _ hq]) enz g2 g3 g4 g5'
  exact W.vret hx hb hr (fun t ht hW => ⟨⟨w_2, rfl, fin, hP.at ht⟩, hS.F ht⟩) hS.2.2 d_P_countWrite_10
set_option maxHeartbeats 4000000 in
set_option maxRecDepth 100000 in
/-- how many writes -/
theorem t_P_writeCount (l : Launch) (D : va_G) (cJ cI cP : ClassId) (bs : Nat) (w : Nat → Option va_E) (pa : Nat) (Wd : Nat → Int64) (tw : Int64) (hp : pg cJ w pa Wd tw) : Met l y_P_writeCount ws_P_writeCount ({ frames := 0, cells := 0, slots := 0, locals := 0 }) (mPc D vwCl (mT cJ cI cP) bs w [.ref pa]) (va_Ql (S := Unit) (fun r _ => r = tw) (mB D vwCl bs (fun _ => w)) (mA bs)) 0 0 (mA bs) := by
  refine Met.ofW (cc := c_P_writeCount) (maxL := 1) (ret := (some .long)) (by decide) rfl ?_
  intro p e s m args below meth c s₁ B hml hv
  obtain ⟨rfl, hbs, hP, hK⟩ := hv
  have hx := B.exec
  have hb := B.bytes
  have hr := B.returns
  have htg : ∀ w ∈ gt, w.before _ s = true := fun w h => atoms_spec (ws := ws_P_writeCount) B.pre w (List.mem_cons_of_mem _ h)
  have hown : s.vm.findClass R_P = some m.cls := findClass_of_methodNamed B.named
  have hlocks := B.notSynchronized
  have hS : va_S (mA bs) s.heap s.heap [] := va_S.rf
  have hl := lv_entry ([.ref pa]) (n := 1) (Nat.le_of_ble_eq_true rfl)
  rw [lg_entry_eq]
  generalize (lg_sl ([.ref pa]) ++ List.replicate (1 - (lg_sl ([.ref pa])).length) Slot.unset).toArray = ls at hl ⊢
  have hl : lv_has ls 1 [(0, .ref pa)] := hl
  obtain ⟨wr, ev, ew, g1, g2, g3, g4, g5⟩ := id hp
  obtain ⟨nz, enz⟩ : ∃ x, x = nI (nzc Wd 512) := ⟨_, rfl⟩
  rw [← enz] at g1
  have f1 : w pa = some (.inr (ciP, [va_rf wr, .int ev, .long ew, .int nz, .long tw])) := g1
  refine lv_aload_n hx hb d_P_writeCount_0 rfl (lv_at hl 0 rfl) ?_
  refine mw_get (C := R_P) (T := T_P) (N := 5) (ci := ciP) (v := .long tw) hx hb htg i_P hown hK hP f1 rfl 4 (by decide) (htg _ k_232) (fun _ h9 => h9) rfl d_P_writeCount_1 ?_
  exact W.lret (v := tw) hx hb hr (fun t ht hW => ⟨⟨_, (), rfl, rfl, hP.at ht⟩, hS.F ht⟩) hS.2.2 d_P_writeCount_4
set_option maxHeartbeats 4000000 in
set_option maxRecDepth 100000 in
/-- whether all words are 0 -/
theorem t_P_isBlank (l : Launch) (D : va_G) (cJ cI cP : ClassId) (bs : Nat) (w : Nat → Option va_E) (pa : Nat) (Wd : Nat → Int64) (tw : Int64) (hp : pg cJ w pa Wd tw) : Met l y_P_isBlank ws_P_isBlank ({ frames := 0, cells := 0, slots := 0, locals := 0 }) (mPc D vwCl (mT cJ cI cP) bs w [.ref pa]) (va_Qi (S := Unit) (fun r _ => r = if nzc Wd 512 = 0 then 1 else 0) (mB D vwCl bs (fun _ => w)) (mA bs)) 0 0 (mA bs) := by
  refine Met.ofW (cc := c_P_isBlank) (maxL := 1) (ret := (some .boolean)) (by decide) rfl ?_
  intro p e s m args below meth c s₁ B hml hv
  obtain ⟨rfl, hbs, hP, hK⟩ := hv
  have hx := B.exec
  have hb := B.bytes
  have hr := B.returns
  have htg : ∀ w ∈ gt, w.before _ s = true := fun w h => atoms_spec (ws := ws_P_isBlank) B.pre w (List.mem_cons_of_mem _ h)
  have hown : s.vm.findClass R_P = some m.cls := findClass_of_methodNamed B.named
  have hlocks := B.notSynchronized
  have hS : va_S (mA bs) s.heap s.heap [] := va_S.rf
  have hl := lv_entry ([.ref pa]) (n := 1) (Nat.le_of_ble_eq_true rfl)
  rw [lg_entry_eq]
  generalize (lg_sl ([.ref pa]) ++ List.replicate (1 - (lg_sl ([.ref pa])).length) Slot.unset).toArray = ls at hl ⊢
  have hl : lv_has ls 1 [(0, .ref pa)] := hl
  obtain ⟨wr, ev, ew, g1, g2, g3, g4, g5⟩ := id hp
  obtain ⟨nz, enz⟩ : ∃ x, x = nI (nzc Wd 512) := ⟨_, rfl⟩
  rw [← enz] at g1
  have f1 : w pa = some (.inr (ciP, [va_rf wr, .int ev, .long ew, .int nz, .long tw])) := g1
  have hle := nzc_le Wd 512
  refine lv_aload_n hx hb d_P_isBlank_0 rfl (lv_at hl 0 rfl) ?_
  refine mw_get (C := R_P) (T := T_P) (N := 5) (ci := ciP) (v := .int nz) hx hb htg i_P hown hK hP f1 rfl 3 (by decide) (htg _ k_231) (fun _ h9 => h9) rfl d_P_isBlank_1 ?_
  refine lv_if_ne (tgt := 11) hx hb d_P_isBlank_4 (by decide) (fun c4 => ?_) (fun c4 => ?_)
  · refine lv_iconst (v := 0) hx hb d_P_isBlank_11 (by decide) ?_
    exact W.zret (v := 0) hx hb hr rfl (fun t ht hW => ⟨⟨_, (), rfl, by rw [if_neg]; exact fun z => c4 (by rw [enz, z, nI_0]), hP.at ht⟩, hS.F ht⟩) hS.2.2 d_P_isBlank_12
  · refine lv_iconst (v := 1) hx hb d_P_isBlank_7 (by decide) ?_
    refine lv_goto (tgt := 12) hx hb d_P_isBlank_8 (by decide) ?_
    exact W.zret (v := 1) hx hb hr rfl (fun t ht hW => ⟨⟨_, (), rfl, by rw [if_pos]; exact (nI_eq (by omega) (by omega)).mp (by rw [← enz, nI_0]; exact c4), hP.at ht⟩, hS.F ht⟩) hS.2.2 d_P_isBlank_12
set_option maxHeartbeats 4000000 in
set_option maxRecDepth 100000 in
/-- a word of the page -/
theorem t_P_wordAt (l : Launch) (D : va_G) (cJ cI cP : ClassId) (bs : Nat) (w : Nat → Option va_E) (pa : Nat) (Wd : Nat → Int64) (tw : Int64) (hp : pg cJ w pa Wd tw) (k : Nat) (hk : k < 512) : Met l y_P_wordAt ws_P_wordAt ({ frames := 0, cells := 0, slots := 0, locals := 0 }) (mPc D vwCl (mT cJ cI cP) bs w [.ref pa, .int (nI k)]) (va_Ql (S := Unit) (fun r _ => r = Wd k) (mB D vwCl bs (fun _ => w)) (mA bs)) 0 0 (mA bs) := by
  refine Met.ofW (cc := c_P_wordAt) (maxL := 2) (ret := (some .long)) (by decide) rfl ?_
  intro p e s m args below meth c s₁ B hml hv
  obtain ⟨rfl, hbs, hP, hK⟩ := hv
  have hx := B.exec
  have hb := B.bytes
  have hr := B.returns
  have htg : ∀ w ∈ gt, w.before _ s = true := fun w h => atoms_spec (ws := ws_P_wordAt) B.pre w (List.mem_cons_of_mem _ h)
  have hown : s.vm.findClass R_P = some m.cls := findClass_of_methodNamed B.named
  have hlocks := B.notSynchronized
  have hS : va_S (mA bs) s.heap s.heap [] := va_S.rf
  have hl := lv_entry ([.ref pa, .int (nI k)]) (n := 2) (Nat.le_of_ble_eq_true rfl)
  rw [lg_entry_eq]
  generalize (lg_sl ([.ref pa, .int (nI k)]) ++ List.replicate (2 - (lg_sl ([.ref pa, .int (nI k)])).length) Slot.unset).toArray = ls at hl ⊢
  have hl : lv_has ls 2 [(0, .ref pa), (1, .int (nI k))] := hl
  obtain ⟨wr, ev, ew, g1, g2, g3, g4, g5⟩ := id hp
  obtain ⟨nz, enz⟩ : ∃ x, x = nI (nzc Wd 512) := ⟨_, rfl⟩
  rw [← enz] at g1
  rcases wr with _ | wa
  · have f1 : w pa = some (.inr (ciP, [.null, .int ev, .long ew, .int nz, .long tw])) := g1
    refine lv_aload_n hx hb d_P_wordAt_0 rfl (lv_at hl 0 rfl) ?_
    refine mw_get (C := R_P) (T := T_P) (N := 5) (ci := ciP) (v := .int ev) hx hb htg i_P hown hK hP f1 rfl 1 (by decide) (htg _ k_229) (fun _ h9 => h9) rfl d_P_wordAt_1 ?_
    refine lv_if_ne (tgt := 14) hx hb d_P_wordAt_4 (by decide) (fun c4 => ?_) (fun c4 => ?_)
    · refine lv_aload_n hx hb d_P_wordAt_14 rfl (lv_at hl 0 rfl) ?_
      refine mw_get (C := R_P) (T := T_P) (N := 5) (ci := ciP) (v := .long ew) hx hb htg i_P hown hK hP f1 rfl 2 (by decide) (htg _ k_230) (fun _ h9 => h9) rfl d_P_wordAt_15 ?_
      refine lv_goto (tgt := 27) hx hb d_P_wordAt_18 (by decide) ?_
      have hpost : ew = Wd k := by
        rcases g2 with z | z
        · first | exact absurd z c4 | exact absurd rfl (g4 z)
        · exact (g3 z k hk).symm
      exact W.lret (v := ew) hx hb hr (fun t ht hW => ⟨⟨_, (), rfl, hpost, hP.at ht⟩, hS.F ht⟩) hS.2.2 d_P_wordAt_27
    · refine lv_aload_n hx hb d_P_wordAt_7 rfl (lv_at hl 0 rfl) ?_
      refine mw_get (C := R_P) (T := T_P) (N := 5) (ci := ciP) (v := .null) hx hb htg i_P hown hK hP f1 rfl 0 (by decide) (htg _ k_228) (fun _ h9 => h9) rfl d_P_wordAt_8 ?_
      refine lv_ifnonnullN hx hb d_P_wordAt_11 ?_
      refine lv_aload_n hx hb d_P_wordAt_14 rfl (lv_at hl 0 rfl) ?_
      refine mw_get (C := R_P) (T := T_P) (N := 5) (ci := ciP) (v := .long ew) hx hb htg i_P hown hK hP f1 rfl 2 (by decide) (htg _ k_230) (fun _ h9 => h9) rfl d_P_wordAt_15 ?_
      refine lv_goto (tgt := 27) hx hb d_P_wordAt_18 (by decide) ?_
      have hpost : ew = Wd k := by
        rcases g2 with z | z
        · first | exact absurd z c4 | exact absurd rfl (g4 z)
        · exact (g3 z k hk).symm
      exact W.lret (v := ew) hx hb hr (fun t ht hW => ⟨⟨_, (), rfl, hpost, hP.at ht⟩, hS.F ht⟩) hS.2.2 d_P_wordAt_27
  · have f1 : w pa = some (.inr (ciP, [.ref wa, .int ev, .long ew, .int nz, .long tw])) := g1
    obtain ⟨f, q1, q2⟩ := g5 wa rfl
    refine lv_aload_n hx hb d_P_wordAt_0 rfl (lv_at hl 0 rfl) ?_
    refine mw_get (C := R_P) (T := T_P) (N := 5) (ci := ciP) (v := .int ev) hx hb htg i_P hown hK hP f1 rfl 1 (by decide) (htg _ k_229) (fun _ h9 => h9) rfl d_P_wordAt_1 ?_
    refine lv_if_ne (tgt := 14) hx hb d_P_wordAt_4 (by decide) (fun c4 => ?_) (fun c4 => ?_)
    · refine lv_aload_n hx hb d_P_wordAt_14 rfl (lv_at hl 0 rfl) ?_
      refine mw_get (C := R_P) (T := T_P) (N := 5) (ci := ciP) (v := .long ew) hx hb htg i_P hown hK hP f1 rfl 2 (by decide) (htg _ k_230) (fun _ h9 => h9) rfl d_P_wordAt_15 ?_
      refine lv_goto (tgt := 27) hx hb d_P_wordAt_18 (by decide) ?_
      have hpost : ew = Wd k := by
        rcases g2 with z | z
        · first | exact absurd z c4 | exact absurd rfl (g4 z)
        · exact (g3 z k hk).symm
      exact W.lret (v := ew) hx hb hr (fun t ht hW => ⟨⟨_, (), rfl, hpost, hP.at ht⟩, hS.F ht⟩) hS.2.2 d_P_wordAt_27
    · refine lv_aload_n hx hb d_P_wordAt_7 rfl (lv_at hl 0 rfl) ?_
      refine mw_get (C := R_P) (T := T_P) (N := 5) (ci := ciP) (v := .ref wa) hx hb htg i_P hown hK hP f1 rfl 0 (by decide) (htg _ k_228) (fun _ h9 => h9) rfl d_P_wordAt_8 ?_
      refine lv_ifnonnull (tgt := 21) hx hb d_P_wordAt_11 (by decide) ?_
      refine lv_aload_n hx hb d_P_wordAt_21 rfl (lv_at hl 0 rfl) ?_
      refine mw_get (C := R_P) (T := T_P) (N := 5) (ci := ciP) (v := .ref wa) hx hb htg i_P hown hK hP f1 rfl 0 (by decide) (htg _ k_228) (fun _ h9 => h9) rfl d_P_wordAt_22 ?_
      refine lv_iload_n hx hb d_P_wordAt_25 rfl (lv_at hl 1 rfl) ?_
      refine mw_lald hx hb hK hP 0 q1 rfl (vp_in_nI hk (by omega)) d_P_wordAt_26 ?_
      rw [show (nI k).toNatClampNeg = k from nI_clamp (by omega)]
      have hpost : f k = Wd k := q2 c4 k hk
      exact W.lret (v := f k) hx hb hr (fun t ht hW => ⟨⟨_, (), rfl, hpost, hP.at ht⟩, hS.F ht⟩) hS.2.2 d_P_wordAt_27
end
section
set_option maxHeartbeats 4000000 in
set_option maxRecDepth 100000 in
/-- Arrays.fill: its loop -/
theorem lp_A_fill {p : Program} {l : Launch} {e : Env} {s : State} {m : MethodId} {args : Array Value} {below : List Frame} {meth : Method} {c : Code} {Q : State → Prop} {D : va_G} {cJ cI cP : ClassId} {bs : Nat} (hx : p.tables.exec = Jvm.exec) (hb : c.code = c_A_fill) (hml : c.maxLocals = 5) (hown : s.vm.findClass R_A = some m.cls) (htg : ∀ w ∈ gt, w.before args s = true) (hK : va_K D vwCl (mT cJ cI cP) s) (hbs : bs ≤ s.heap.size) (w : Nat → Option va_E) (a : Nat) (x : Int64) (kx : ∀ (w1 : Nat → Option va_E) (f : Nat → Int64) (ls : Array Slot) (H : Heap) (locs : List Loc), (∀ j, j < 512 → f j = x) → w1 a = some (.inl (cJ, 512, .inr (.inl f))) → (∀ q, ¬ q = a → w1 q = w q) → mw D vwCl bs w1 H → va_S (mA bs) s.heap H locs → W p l e ({ frames := 0, cells := 0, slots := 0, locals := 0 } : Room) s m args below meth c H locs 0 0 Q (F0 m 22 ls [])) :
    ∀ (k : Nat) (i : Nat) (w1 : Nat → Option va_E) (f : Nat → Int64) (ls : Array Slot) (H : Heap) (locs : List Loc), 512 - i < k → i ≤ 512 → (∀ j, j < i → f j = x) → w1 a = some (.inl (cJ, 512, .inr (.inl f))) → (∀ q, ¬ q = a → w1 q = w q) → mw D vwCl bs w1 H → va_S (mA bs) s.heap H locs → lv_has ls 5 [(4, .int (nI 512)), (3, .int (nI i)), (0, .ref a), (1, .long x)] → W p l e ({ frames := 0, cells := 0, slots := 0, locals := 0 } : Room) s m args below meth c H locs 0 0 Q (F0 m 6 ls []) := by
  intro k
  induction k with
  | zero => intro i w1 f ls H locs hk0; exact absurd hk0 (by omega)
  | succ k ih =>
    intro i w1 f ls H locs hk hi hf ha hq hP hS hl
    refine lv_iload_n hx hb d_A_fill_6 rfl (lv_at hl 1 rfl) ?_
    refine lv_iload hx hb d_A_fill_7 (lv_at hl 0 rfl) ?_
    refine lv_icmp_ge (tgt := 22) hx hb d_A_fill_9 (by decide) (fun c9 => ?_) (fun c9 => ?_)
    · have e5 : i = 512 := Nat.le_antisymm hi (Nat.le_of_not_lt (fun z => nI_ge z (by omega) c9))
      subst e5
      exact kx w1 f ls H locs hf ha hq hP hS
    · have hlt : i < 512 := Nat.lt_of_not_le (fun z => c9 (nI_le z (by omega)))
      refine lv_aload_n hx hb d_A_fill_12 rfl (lv_at hl 2 rfl) ?_
      refine lv_iload_n hx hb d_A_fill_13 rfl (lv_at hl 1 rfl) ?_
      refine lv_lload_n hx hb d_A_fill_14 rfl (lv_at hl 3 rfl) ?_
      refine mw_last hx hb hK hP hS 0 ha rfl (vp_in_nI hlt (by omega)) d_A_fill_15 (fun H locs hP hS hz15 => ?_)
      rw [show (nI i).toNatClampNeg = i from nI_clamp (by omega)] at hP
      obtain ⟨w_1, ew_1⟩ : ∃ z9, z9 = va_up w1 a (some (.inl (cJ, 512, .inr (.inl (vp_updL f i x)))) : Option va_E) := ⟨_, rfl⟩
      rw [← ew_1] at hP
      have h_2 : w_1 a = some (.inl (cJ, 512, .inr (.inl (vp_updL f i x)))) := by rw [ew_1, va_up_self]
      obtain ⟨i_3, ei_3⟩ : ∃ y : Int32, y = (nI i) + 1 := ⟨_, rfl⟩
      refine lv_iinc (v := i_3) (lv' := [(3, .int i_3), (4, .int (nI 512)), (0, .ref a), (1, .long x)]) hx hb d_A_fill_16 hl (k := 1) rfl (by rw [ei_3]; rfl) (by decide) rfl (fun ls hl => ?_)
      refine lv_goto (tgt := 6) hx hb d_A_fill_19 (by decide) ?_
      refine ih (i + 1) w_1 (vp_updL f i x) ls H locs (by omega) (by omega) (fun j hj => ?_) h_2 (fun q hq2 => by rw [ew_1, va_up_ne _ _ hq2]; exact hq q hq2) hP hS ?_
      · by_cases hji : j = i
        · subst hji; exact pk_uLs
        · rw [pk_uLn hji]; exact hf j (by omega)
      · rw [← nI_1 i, ← ei_3]; exact lv_sub hl [1, 0, 2, 3] rfl
set_option maxHeartbeats 4000000 in
set_option maxRecDepth 100000 in
/-- Arrays.fill(long[512], x) -/
theorem t_A_fill (l : Launch) (D : va_G) (cJ cI cP : ClassId) (bs : Nat) (w : Nat → Option va_E) (a : Nat) (x : Int64) (f0 : Nat → Int64) (ha : w a = some (.inl (cJ, 512, .inr (.inl f0)))) : Met l y_A_fill ws_A_fill ({ frames := 0, cells := 0, slots := 0, locals := 0 }) (mPc D vwCl (mT cJ cI cP) bs w [.ref a, .long x]) (va_Qv (S := (Nat → Option va_E)) (fun u => (∃ f : Nat → Int64, u a = some (.inl (cJ, 512, .inr (.inl f))) ∧ ∀ j, j < 512 → f j = x) ∧ ∀ q, ¬ q = a → u q = w q) (mB D vwCl bs (fun u => u)) (mA bs)) 0 0 (mA bs) := by
  refine Met.ofW (cc := c_A_fill) (maxL := 5) (ret := none) (by decide) rfl ?_
  intro p e s m args below meth c s₁ B hml hv
  obtain ⟨rfl, hbs, hP, hK⟩ := hv
  have hx := B.exec
  have hb := B.bytes
  have hr := B.returns
  have htg : ∀ w ∈ gt, w.before _ s = true := fun w h => atoms_spec (ws := ws_A_fill) B.pre w (List.mem_cons_of_mem _ h)
  have hown : s.vm.findClass R_A = some m.cls := findClass_of_methodNamed B.named
  have hlocks := B.notSynchronized
  have hS : va_S (mA bs) s.heap s.heap [] := va_S.rf
  have hl := lv_entry ([.ref a, .long x]) (n := 5) (Nat.le_of_ble_eq_true rfl)
  rw [lg_entry_eq]
  generalize (lg_sl ([.ref a, .long x]) ++ List.replicate (5 - (lg_sl ([.ref a, .long x])).length) Slot.unset).toArray = ls at hl ⊢
  have hl : lv_has ls 5 [(0, .ref a), (1, .long x)] := hl
  refine lv_iconst (v := 0) hx hb d_A_fill_0 (by decide) ?_
  refine lv_istore_n (lv' := [(3, .int 0), (0, .ref a), (1, .long x)]) hx hb d_A_fill_1 rfl hl (by decide) rfl (fun ls hl => ?_)
  refine lv_aload_n hx hb d_A_fill_2 rfl (lv_at hl 1 rfl) ?_
  refine mw_alen (v := nI 512) hx hb hK hP 0 ha rfl rfl d_A_fill_3 ?_
  refine lv_istore (lv' := [(4, .int (nI 512)), (3, .int 0), (0, .ref a), (1, .long x)]) hx hb d_A_fill_4 hl (by decide) rfl (fun ls hl => ?_)
  refine lp_A_fill (D := D) (cJ := cJ) (cI := cI) (cP := cP) (bs := bs) hx hb hml hown htg hK hbs w a x (fun w1 f ls H locs hf h1 h2 hP hS => ?_) 513 0 w f0 ls _ _ (by omega) (by omega) (fun j hj => absurd hj (by omega)) ha (fun _ _ => rfl) hP hS (lv_sub hl [0, 1, 2, 3] rfl)
  exact W.vret hx hb hr (fun t ht hW => ⟨⟨w1, rfl, ⟨⟨f, h1, hf⟩, h2⟩, hP.at ht⟩, hS.F ht⟩) hS.2.2 d_A_fill_22
set_option maxHeartbeats 4000000 in
set_option maxRecDepth 100000 in
/-- writtenOutWords: the page has an array of its own now, and is not even -/
theorem t_P_wow (l : Launch) (D : va_G) (cJ cI cP : ClassId) (bs : Nat) (w : Nat → Option va_E) (pa : Nat) (wr : Option Nat) (ev : Int32) (ew : Int64) (nz : Int32) (tw : Int64) (f1 : w pa = some (pgE wr ev ew nz tw)) (f2 : ∀ a, wr = some a → ∃ f : Nat → Int64, w a = some (.inl (cJ, 512, .inr (.inl f)))) (mc ms : Nat) (hm : wr = none → 1 ≤ mc ∧ 512 ≤ ms) : Met l y_P_writtenOutWords ws_P_writtenOutWords ({ frames := 1, cells := mc, slots := ms, locals := 24 }) (mPc D vwCl (mT cJ cI cP) bs w [.ref pa]) (va_Qr (S := ((Nat → Option va_E) × Nat × (Nat → Int64))) (fun u => u.1 pa = some (pgE (some u.2.1) 0 ew nz tw) ∧ u.1 u.2.1 = some (.inl (cJ, 512, .inr (.inl u.2.2))) ∧ (wr = some u.2.1 ∨ w u.2.1 = none) ∧ (∀ q, ¬ q = pa → ¬ q = u.2.1 → u.1 q = w q) ∧ (ev = 0 → ∀ f0 a, wr = some a → w a = some (.inl (cJ, 512, .inr (.inl f0))) → u.2.2 = f0) ∧ (¬ ev = 0 → ∀ j, j < 512 → u.2.2 j = ew)) (fun u ra t => ra = (fun u => u.2.1) u ∧ mw D vwCl bs ((fun u => u.1) u) t.heap) (mA bs)) mc ms (mA bs) := by
  refine Met.ofW (cc := c_P_writtenOutWords) (maxL := 1) (ret := (some (.array .long))) (by decide) rfl ?_
  intro p e s m args below meth c s₁ B hml hv
  obtain ⟨rfl, hbs, hP, hK⟩ := hv
  have hx := B.exec
  have hb := B.bytes
  have hr := B.returns
  have htg : ∀ w ∈ gt, w.before _ s = true := fun w h => atoms_spec (ws := ws_P_writtenOutWords) B.pre w (List.mem_cons_of_mem _ h)
  have hown : s.vm.findClass R_P = some m.cls := findClass_of_methodNamed B.named
  have hlocks := B.notSynchronized
  have hS : va_S (mA bs) s.heap s.heap [] := va_S.rf
  have hl := lv_entry ([.ref pa]) (n := 1) (Nat.le_of_ble_eq_true rfl)
  rw [lg_entry_eq]
  generalize (lg_sl ([.ref pa]) ++ List.replicate (1 - (lg_sl ([.ref pa])).length) Slot.unset).toArray = ls at hl ⊢
  have hl : lv_has ls 1 [(0, .ref pa)] := hl
  rcases wr with _ | wa
  · have f1 : w pa = some (.inr (ciP, [.null, .int ev, .long ew, .int nz, .long tw])) := f1
    refine lv_aload_n hx hb d_P_writtenOutWords_0 rfl (lv_at hl 0 rfl) ?_
    refine mw_get (C := R_P) (T := T_P) (N := 5) (ci := ciP) (v := .null) hx hb htg i_P hown hK hP f1 rfl 0 (by decide) (htg _ k_228) (fun _ h9 => h9) rfl d_P_writtenOutWords_1 ?_
    refine lv_ifnonnullN hx hb d_P_writtenOutWords_4 ?_
    refine lv_aload_n hx hb d_P_writtenOutWords_7 rfl (lv_at hl 0 rfl) ?_
    refine lv_sipush (v := 512) hx hb d_P_writtenOutWords_8 (by decide) ?_
    refine mw_newa (atype := .long) (ty := .long) (N' := 512) (a0 := (512, .inr (.inl (fun _ => 0)))) hx hb (htg _ k_59) rfl hK hP hS (hbs) 0 (cA := cJ) rfl rfl rfl (by decide) rfl (by decide) (hm rfl).1 (hm rfl).2 d_P_writtenOutWords_11 (fun q_1 H nq_1 eq_1 hP hS hz11 => ?_)
    obtain ⟨w_2, ew_2⟩ : ∃ z9, z9 = va_up w q_1 (some (.inl (cJ, 512, .inr (.inl (fun _ => 0)))) : Option va_E) := ⟨_, rfl⟩
    rw [← ew_2] at hP
    have h_3 : w_2 q_1 = some (.inl (cJ, 512, .inr (.inl (fun _ => 0)))) := by rw [ew_2, va_up_self]
    have h_4 : w_2 pa = some (.inr (ciP, [.null, .int ev, .long ew, .int nz, .long tw])) := by rw [ew_2, va_up_ne _ _ (fun z => by rw [z, nq_1] at f1; cases f1)]; exact f1
    refine mw_put (C := R_P) (T := T_P) (N := 5) (ci := ciP) (v := .ref q_1) (ty := .array .long) (fs' := [.ref q_1, .int ev, .long ew, .int nz, .long tw]) hx hb htg i_P ty_P tk_P nm_P hown hK hP hS h_4 rfl 0 (by decide) (htg _ k_228) (fun _ h9 => h9) rfl (by decide +kernel) rfl rfl (Nat.le_of_ble_eq_true rfl) rfl d_P_writtenOutWords_13 (fun H locs hP hS hz13 => ?_)
    obtain ⟨w_5, ew_5⟩ : ∃ z9, z9 = va_up w_2 pa (some (.inr (ciP, [.ref q_1, .int ev, .long ew, .int nz, .long tw])) : Option va_E) := ⟨_, rfl⟩
    rw [← ew_5] at hP
    have h_6 : w_5 pa = some (.inr (ciP, [.ref q_1, .int ev, .long ew, .int nz, .long tw])) := by rw [ew_5, va_up_self]
    have h_7 : w_5 q_1 = some (.inl (cJ, 512, .inr (.inl (fun _ => 0)))) := by rw [ew_5, va_up_ne _ _ (fun z => by rw [z, h_4] at h_3; cases h_3)]; exact h_3
    refine lv_aload_n hx hb d_P_writtenOutWords_16 rfl (lv_at hl 0 rfl) ?_
    refine mw_get (C := R_P) (T := T_P) (N := 5) (ci := ciP) (v := .int ev) hx hb htg i_P hown hK hP h_6 rfl 1 (by decide) (htg _ k_229) (fun _ h9 => h9) rfl d_P_writtenOutWords_17 ?_
    refine lv_if_eq (tgt := 39) hx hb d_P_writtenOutWords_20 (by decide) (fun c20 => ?_) (fun c20 => ?_)
    · refine lv_aload_n hx hb d_P_writtenOutWords_39 rfl (lv_at hl 0 rfl) ?_
      refine mw_get (C := R_P) (T := T_P) (N := 5) (ci := ciP) (v := .ref q_1) hx hb htg i_P hown hK hP h_6 rfl 0 (by decide) (htg _ k_228) (fun _ h9 => h9) rfl d_P_writtenOutWords_40 ?_
      refine W.widen (k := mc) (n := ms) (hm rfl).1 (hm rfl).2 ?_
      exact W.aret (v := .ref q_1) hx hb hr (Or.inr ⟨_, rfl⟩) (Or.inr ⟨_, rfl⟩) (fun t ht hW => ⟨⟨(w_5, q_1, (fun _ => 0)), q_1, rfl, ⟨(by show w_5 pa = _; rw [h_6]; first | rfl | (rw [c20]; rfl)), h_7, Or.inr nq_1, (fun q z1 z2 => by show w_5 q = w q; rw [ew_5, va_up_ne _ _ z1]; rw [ew_2, va_up_ne _ _ z2]), (fun _ f0 a ha => by cases ha), (fun z j hj => by first | exact absurd c20 z | exact b2 j hj)⟩, rfl, hP.at ht⟩, hS.F ht⟩) hS.2.2 d_P_writtenOutWords_43
    · refine lv_aload_n hx hb d_P_writtenOutWords_23 rfl (lv_at hl 0 rfl) ?_
      refine mw_get (C := R_P) (T := T_P) (N := 5) (ci := ciP) (v := .ref q_1) hx hb htg i_P hown hK hP h_6 rfl 0 (by decide) (htg _ k_228) (fun _ h9 => h9) rfl d_P_writtenOutWords_24 ?_
      refine lv_aload_n hx hb d_P_writtenOutWords_27 rfl (lv_at hl 0 rfl) ?_
      refine mw_get (C := R_P) (T := T_P) (N := 5) (ci := ciP) (v := .long ew) hx hb htg i_P hown hK hP h_6 rfl 2 (by decide) (htg _ k_230) (fun _ h9 => h9) rfl d_P_writtenOutWords_28 ?_
      refine mc_v (va_runS (As := [.ref q_1, .long ew]) (rest := []) ⟨hx, hb, hml, hown, htg⟩ (t_A_fill l D cJ cI cP bs w_5 q_1 ew (fun _ => 0) h_7) (va_cwS (own := R_P) 2 htg (ginT k_254 k_255 k_33 k_256) rfl rfl rfl (by decide +kernel) ⟨Nat.le_of_ble_eq_true rfl, Nat.le_of_ble_eq_true rfl⟩) (mPc.preS hbs hS hP hK) rfl rfl hl.1 rfl (lv_room (Nat.le_of_ble_eq_true rfl)) d_P_writtenOutWords_31 ⟨(hm rfl).1, (hm rfl).2⟩) hS (fun u9 H locs hw hP hz hS => ?_)
      obtain ⟨⟨f9, b1, b2⟩, b3⟩ := hw
      have f9p : u9 pa = some (.inr (ciP, [.ref q_1, .int ev, .long ew, .int nz, .long tw])) := by rw [b3 pa (fun z => by rw [z, h_7] at h_6; cases h_6)]; exact h_6
      refine lv_aload_n hx hb d_P_writtenOutWords_34 rfl (lv_at hl 0 rfl) ?_
      refine lv_iconst (v := 0) hx hb d_P_writtenOutWords_35 (by decide) ?_
      refine mw_put (C := R_P) (T := T_P) (N := 5) (ci := ciP) (v := .int 0) (ty := .boolean) (fs' := [.ref q_1, .int 0, .long ew, .int nz, .long tw]) hx hb htg i_P ty_P tk_P nm_P hown hK hP hS f9p rfl 1 (by decide) (htg _ k_229) (fun _ h9 => h9) rfl (by decide +kernel) (by decide) (by decide) (Nat.le_of_ble_eq_true rfl) rfl d_P_writtenOutWords_36 (fun H locs hP hS hz36 => ?_)
      obtain ⟨w_8, ew_8⟩ : ∃ z9, z9 = va_up u9 pa (some (.inr (ciP, [.ref q_1, .int 0, .long ew, .int nz, .long tw])) : Option va_E) := ⟨_, rfl⟩
      rw [← ew_8] at hP
      have h_9 : w_8 pa = some (.inr (ciP, [.ref q_1, .int 0, .long ew, .int nz, .long tw])) := by rw [ew_8, va_up_self]
      have h_10 : w_8 q_1 = some (.inl (cJ, 512, .inr (.inl f9))) := by rw [ew_8, va_up_ne _ _ (fun z => by rw [z, f9p] at b1; cases b1)]; exact b1
      refine lv_aload_n hx hb d_P_writtenOutWords_39 rfl (lv_at hl 0 rfl) ?_
      refine mw_get (C := R_P) (T := T_P) (N := 5) (ci := ciP) (v := .ref q_1) hx hb htg i_P hown hK hP h_9 rfl 0 (by decide) (htg _ k_228) (fun _ h9 => h9) rfl d_P_writtenOutWords_40 ?_
      refine W.widen (k := mc) (n := ms) (hm rfl).1 (hm rfl).2 ?_
      exact W.aret (v := .ref q_1) hx hb hr (Or.inr ⟨_, rfl⟩) (Or.inr ⟨_, rfl⟩) (fun t ht hW => ⟨⟨(w_8, q_1, f9), q_1, rfl, ⟨(by show w_8 pa = _; rw [h_9]; first | rfl | (rw [c20]; rfl)), h_10, Or.inr nq_1, (fun q z1 z2 => by show w_8 q = w q; rw [ew_8, va_up_ne _ _ z1]; rw [b3 q z2]; rw [ew_5, va_up_ne _ _ z1]; rw [ew_2, va_up_ne _ _ z2]), (fun _ f0 a ha => by cases ha), (fun z j hj => by first | exact absurd c20 z | exact b2 j hj)⟩, rfl, hP.at ht⟩, hS.F ht⟩) hS.2.2 d_P_writtenOutWords_43
  · have f1 : w pa = some (.inr (ciP, [.ref wa, .int ev, .long ew, .int nz, .long tw])) := f1
    obtain ⟨f0, q1⟩ := f2 wa rfl
    refine lv_aload_n hx hb d_P_writtenOutWords_0 rfl (lv_at hl 0 rfl) ?_
    refine mw_get (C := R_P) (T := T_P) (N := 5) (ci := ciP) (v := .ref wa) hx hb htg i_P hown hK hP f1 rfl 0 (by decide) (htg _ k_228) (fun _ h9 => h9) rfl d_P_writtenOutWords_1 ?_
    refine lv_ifnonnull (tgt := 16) hx hb d_P_writtenOutWords_4 (by decide) ?_
    refine lv_aload_n hx hb d_P_writtenOutWords_16 rfl (lv_at hl 0 rfl) ?_
    refine mw_get (C := R_P) (T := T_P) (N := 5) (ci := ciP) (v := .int ev) hx hb htg i_P hown hK hP f1 rfl 1 (by decide) (htg _ k_229) (fun _ h9 => h9) rfl d_P_writtenOutWords_17 ?_
    refine lv_if_eq (tgt := 39) hx hb d_P_writtenOutWords_20 (by decide) (fun c20 => ?_) (fun c20 => ?_)
    · refine lv_aload_n hx hb d_P_writtenOutWords_39 rfl (lv_at hl 0 rfl) ?_
      refine mw_get (C := R_P) (T := T_P) (N := 5) (ci := ciP) (v := .ref wa) hx hb htg i_P hown hK hP f1 rfl 0 (by decide) (htg _ k_228) (fun _ h9 => h9) rfl d_P_writtenOutWords_40 ?_
      refine W.widen (k := mc) (n := ms) (Nat.zero_le _) (Nat.zero_le _) ?_
      exact W.aret (v := .ref wa) hx hb hr (Or.inr ⟨_, rfl⟩) (Or.inr ⟨_, rfl⟩) (fun t ht hW => ⟨⟨(w, wa, f0), wa, rfl, ⟨(by show w pa = _; rw [f1]; first | rfl | (rw [c20]; rfl)), q1, Or.inl rfl, (fun q z1 z2 => by show w q = w q; rfl), (fun z f0 a ha h9 => by cases ha; first | exact absurd z c20 | (rw [q1] at h9; cases h9; rfl)), (fun z j hj => by first | exact absurd c20 z | exact b2 j hj)⟩, rfl, hP.at ht⟩, hS.F ht⟩) hS.2.2 d_P_writtenOutWords_43
    · refine lv_aload_n hx hb d_P_writtenOutWords_23 rfl (lv_at hl 0 rfl) ?_
      refine mw_get (C := R_P) (T := T_P) (N := 5) (ci := ciP) (v := .ref wa) hx hb htg i_P hown hK hP f1 rfl 0 (by decide) (htg _ k_228) (fun _ h9 => h9) rfl d_P_writtenOutWords_24 ?_
      refine lv_aload_n hx hb d_P_writtenOutWords_27 rfl (lv_at hl 0 rfl) ?_
      refine mw_get (C := R_P) (T := T_P) (N := 5) (ci := ciP) (v := .long ew) hx hb htg i_P hown hK hP f1 rfl 2 (by decide) (htg _ k_230) (fun _ h9 => h9) rfl d_P_writtenOutWords_28 ?_
      refine mc_v (va_runS (As := [.ref wa, .long ew]) (rest := []) ⟨hx, hb, hml, hown, htg⟩ (t_A_fill l D cJ cI cP bs w wa ew f0 q1) (va_cwS (own := R_P) 2 htg (ginT k_254 k_255 k_33 k_256) rfl rfl rfl (by decide +kernel) ⟨Nat.le_of_ble_eq_true rfl, Nat.le_of_ble_eq_true rfl⟩) (mPc.preS hbs hS hP hK) rfl rfl hl.1 rfl (lv_room (Nat.le_of_ble_eq_true rfl)) d_P_writtenOutWords_31 ⟨Nat.zero_le _, Nat.zero_le _⟩) hS (fun u9 H locs hw hP hz hS => ?_)
      obtain ⟨⟨f9, b1, b2⟩, b3⟩ := hw
      have f9p : u9 pa = some (.inr (ciP, [.ref wa, .int ev, .long ew, .int nz, .long tw])) := by rw [b3 pa (fun z => by rw [z, q1] at f1; cases f1)]; exact f1
      refine lv_aload_n hx hb d_P_writtenOutWords_34 rfl (lv_at hl 0 rfl) ?_
      refine lv_iconst (v := 0) hx hb d_P_writtenOutWords_35 (by decide) ?_
      refine mw_put (C := R_P) (T := T_P) (N := 5) (ci := ciP) (v := .int 0) (ty := .boolean) (fs' := [.ref wa, .int 0, .long ew, .int nz, .long tw]) hx hb htg i_P ty_P tk_P nm_P hown hK hP hS f9p rfl 1 (by decide) (htg _ k_229) (fun _ h9 => h9) rfl (by decide +kernel) (by decide) (by decide) (Nat.le_of_ble_eq_true rfl) rfl d_P_writtenOutWords_36 (fun H locs hP hS hz36 => ?_)
      obtain ⟨w_11, ew_11⟩ : ∃ z9, z9 = va_up u9 pa (some (.inr (ciP, [.ref wa, .int 0, .long ew, .int nz, .long tw])) : Option va_E) := ⟨_, rfl⟩
      rw [← ew_11] at hP
      have h_12 : w_11 pa = some (.inr (ciP, [.ref wa, .int 0, .long ew, .int nz, .long tw])) := by rw [ew_11, va_up_self]
      have h_13 : w_11 wa = some (.inl (cJ, 512, .inr (.inl f9))) := by rw [ew_11, va_up_ne _ _ (fun z => by rw [z, f9p] at b1; cases b1)]; exact b1
      refine lv_aload_n hx hb d_P_writtenOutWords_39 rfl (lv_at hl 0 rfl) ?_
      refine mw_get (C := R_P) (T := T_P) (N := 5) (ci := ciP) (v := .ref wa) hx hb htg i_P hown hK hP h_12 rfl 0 (by decide) (htg _ k_228) (fun _ h9 => h9) rfl d_P_writtenOutWords_40 ?_
      refine W.widen (k := mc) (n := ms) (Nat.zero_le _) (Nat.zero_le _) ?_
      exact W.aret (v := .ref wa) hx hb hr (Or.inr ⟨_, rfl⟩) (Or.inr ⟨_, rfl⟩) (fun t ht hW => ⟨⟨(w_11, wa, f9), wa, rfl, ⟨(by show w_11 pa = _; rw [h_12]; first | rfl | (rw [c20]; rfl)), h_13, Or.inl rfl, (fun q z1 z2 => by show w_11 q = w q; rw [ew_11, va_up_ne _ _ z1]; rw [b3 q z2]), (fun z f0 a ha h9 => by cases ha; first | exact absurd z c20 | (rw [q1] at h9; cases h9; rfl)), (fun z j hj => by first | exact absurd c20 z | exact b2 j hj)⟩, rfl, hP.at ht⟩, hS.F ht⟩) hS.2.2 d_P_writtenOutWords_43
end
section
set_option maxHeartbeats 4000000 in
set_option maxRecDepth 100000 in
/-- merge: the masked bits of a word are taken from others -/
theorem t_P_merge (l : Launch) (D : va_G) (cJ cI cP : ClassId) (bs : Nat) (w : Nat → Option va_E) (pa : Nat) (Wd : Nat → Int64) (tw : Int64) (hp : pg cJ w pa Wd tw) (k : Nat) (hk : k < 512) (mask bits : Int64) (mc ms : Nat) (hm : pgw w pa = none → ¬ mrg (Wd k) mask bits = Wd k → 1 ≤ mc ∧ 512 ≤ ms) : Met l y_P_merge ws_P_merge ({ frames := 2, cells := mc, slots := ms, locals := 44 }) (mPc D vwCl (mT cJ cI cP) bs w [.ref pa, .int (nI k), .long mask, .long bits]) (va_Qv (S := (Nat → Option va_E)) (fun u => pg cJ u pa (va_up Wd k (mrg (Wd k) mask bits)) tw ∧ kp w u (pfp w pa) (pfp u pa) ∧ (mrg (Wd k) mask bits = Wd k → u = w) ∧ (¬ mrg (Wd k) mask bits = Wd k → ¬ pgw u pa = none)) (mB D vwCl bs (fun u => u)) (mA bs)) mc ms (mA bs) := by
  refine Met.ofW (cc := c_P_merge) (maxL := 10) (ret := none) (by decide) rfl ?_
  intro p e s m args below meth c s₁ B hml hv
  obtain ⟨rfl, hbs, hP, hK⟩ := hv
  have hx := B.exec
  have hb := B.bytes
  have hr := B.returns
  have htg : ∀ w ∈ gt, w.before _ s = true := fun w h => atoms_spec (ws := ws_P_merge) B.pre w (List.mem_cons_of_mem _ h)
  have hown : s.vm.findClass R_P = some m.cls := findClass_of_methodNamed B.named
  have hlocks := B.notSynchronized
  have hS : va_S (mA bs) s.heap s.heap [] := va_S.rf
  have hl := lv_entry ([.ref pa, .int (nI k), .long mask, .long bits]) (n := 10) (Nat.le_of_ble_eq_true rfl)
  rw [lg_entry_eq]
  generalize (lg_sl ([.ref pa, .int (nI k), .long mask, .long bits]) ++ List.replicate (10 - (lg_sl ([.ref pa, .int (nI k), .long mask, .long bits])).length) Slot.unset).toArray = ls at hl ⊢
  have hl : lv_has ls 10 [(0, .ref pa), (1, .int (nI k)), (2, .long mask), (4, .long bits)] := hl
  obtain ⟨wr, ev, ew, g1, g2, g3, g4, g5⟩ := id hp
  obtain ⟨nz, enz⟩ : ∃ x, x = nI (nzc Wd 512) := ⟨_, rfl⟩
  rw [← enz] at g1
  have f1 : w pa = some (.inr (ciP, [va_rf wr, .int ev, .long ew, .int nz, .long tw])) := g1
  refine lv_aload_n hx hb d_P_merge_0 rfl (lv_at hl 0 rfl) ?_
  refine lv_iload_n hx hb d_P_merge_1 rfl (lv_at hl 1 rfl) ?_
  refine mc_l (va_runV (As := [.int (nI k)]) (rest := []) ⟨hx, hb, hml, hown, htg⟩ (t_P_wordAt l D cJ cI cP bs w pa Wd tw hp k hk) (cwV (own := R_P) (C := R_P) 1 htg (ginV k_248 k_197 k_198 k_32 k_199) rfl rfl rfl (by decide +kernel) ⟨Nat.le_of_ble_eq_true rfl, Nat.le_of_ble_eq_true rfl⟩) (mPc.preV (ci := ciP) (q := (R_P, T_P, 5)) hbs hS hP hK rfl f1) rfl rfl hl.1 rfl (lv_room (Nat.le_of_ble_eq_true rfl)) d_P_merge_2 ⟨Nat.zero_le _, Nat.zero_le _⟩) hS (fun r2 u2 H locs hw hP hz2 hS => ?_)
  subst hw
  refine lv_topl (fun x_1 ex_1 => ?_)
  refine lv_lstore (lv' := [(6, .long x_1), (0, .ref pa), (1, .int (nI k)), (2, .long mask), (4, .long bits)]) hx hb d_P_merge_5 hl (by decide) rfl (fun ls hl => ?_)
  refine lv_lload hx hb d_P_merge_7 (lv_at hl 0 rfl) ?_
  refine lv_lload_n hx hb d_P_merge_9 rfl (lv_at hl 3 rfl) ?_
  refine lv_ldc2 (own := R_P) (v := (-1)) hx hb hown (htg _ k_249) d_P_merge_10 ?_
  refine lv_lxor hx hb d_P_merge_13 ?_
  refine lv_land hx hb d_P_merge_14 ?_
  refine lv_lload hx hb d_P_merge_15 (lv_at hl 4 rfl) ?_
  refine lv_lload_n hx hb d_P_merge_17 rfl (lv_at hl 3 rfl) ?_
  refine lv_land hx hb d_P_merge_18 ?_
  refine lv_lor hx hb d_P_merge_19 ?_
  refine lv_topl (fun x_2 ex_2 => ?_)
  refine lv_lstore (lv' := [(8, .long x_2), (6, .long x_1), (0, .ref pa), (1, .int (nI k)), (2, .long mask), (4, .long bits)]) hx hb d_P_merge_20 hl (by decide) rfl (fun ls hl => ?_)
  have eY : x_2 = mrg (Wd k) mask bits := by rw [ex_2, ex_1]; rfl
  refine lv_lload hx hb d_P_merge_22 (lv_at hl 0 rfl) ?_
  refine lv_lload hx hb d_P_merge_24 (lv_at hl 1 rfl) ?_
  refine lc_ne (tgt := 31) hx hb d_P_merge_26 d_P_merge_27 (by decide) (fun c26 => ?_) (fun c26 => ?_)
  · have hch : ¬ mrg (Wd k) mask bits = Wd k := by rw [← eY, ← ex_1]; exact c26
    refine lv_aload_n hx hb d_P_merge_31 rfl (lv_at hl 2 rfl) ?_
    refine mc_r (va_runV (As := []) (rest := []) ⟨hx, hb, hml, hown, htg⟩ (t_P_wow l D cJ cI cP bs w pa wr ev ew nz tw g1 (fun a ha => ⟨_, (g5 a ha).choose_spec.1⟩) mc ms (fun z => hm (by rw [pgw_of g1]; exact z) hch)) (cwV (own := R_P) (C := R_P) 0 htg (ginV k_250 k_252 k_8 k_32 k_253) rfl rfl rfl (by decide +kernel) ⟨Nat.le_of_ble_eq_true rfl, Nat.le_of_ble_eq_true rfl⟩) (mPc.preV (ci := ciP) (q := (R_P, T_P, 5)) hbs hS hP hK rfl f1) rfl rfl hl.1 rfl (lv_room (Nat.le_of_ble_eq_true rfl)) d_P_merge_32 ⟨by rw [Nat.zero_add]; exact Nat.le_refl _, by rw [Nat.zero_add]; exact Nat.le_refl _⟩) hS (fun u H locs hw hP hz32 hS => ?_)
    obtain ⟨w2, aa, f⟩ := u
    obtain ⟨b1, b2, b3, b4, b5, b6⟩ := hw
    have b1 : w2 pa = some (.inr (ciP, [.ref aa, .int 0, .long ew, .int nz, .long tw])) := b1
    have b2 : w2 aa = some (.inl (cJ, 512, .inr (.inl f))) := b2
    have b3 : wr = some aa ∨ w aa = none := b3
    have b4 : ∀ q, ¬ q = pa → ¬ q = aa → w2 q = w q := b4
    have hP : mw D vwCl bs w2 H := hP
    dsimp only at b5 b6
    have hfW : ∀ i, i < 512 → f i = Wd i := by
      intro i hi
      rcases g2 with z | z
      · rcases hwr : wr with _ | a
        · exact absurd hwr (g4 z)
        · obtain ⟨f0, q1, q2⟩ := g5 a hwr
          rw [b5 z f0 a hwr q1]; exact q2 z i hi
      · rw [b6 (by rw [z]; decide) i hi]; exact (g3 z i hi).symm
    refine lv_iload_n hx hb d_P_merge_35 rfl (lv_at hl 3 rfl) ?_
    refine lv_lload hx hb d_P_merge_36 (lv_at hl 0 rfl) ?_
    refine mw_last hx hb hK hP hS 0 b2 rfl (vp_in_nI hk (by omega)) d_P_merge_38 (fun H locs hP hS hz38 => ?_)
    rw [show (nI k).toNatClampNeg = k from nI_clamp (by omega)] at hP
    obtain ⟨w_3, ew_3⟩ : ∃ z9, z9 = va_up w2 aa (some (.inl (cJ, 512, .inr (.inl (vp_updL f k x_2)))) : Option va_E) := ⟨_, rfl⟩
    rw [← ew_3] at hP
    have h_4 : w_3 aa = some (.inl (cJ, 512, .inr (.inl (vp_updL f k x_2)))) := by rw [ew_3, va_up_self]
    have h_5 : w_3 pa = some (.inr (ciP, [.ref aa, .int 0, .long ew, .int nz, .long tw])) := by rw [ew_3, va_up_ne _ _ (fun z => by rw [z, b2] at b1; cases b1)]; exact b1
    refine lv_lload hx hb d_P_merge_39 (lv_at hl 1 rfl) ?_
    refine lv_lconst (v := 0) hx hb d_P_merge_41 rfl ?_
    refine lc_ne (tgt := 56) hx hb d_P_merge_42 d_P_merge_43 (by decide) (fun c42 => ?_) (fun c42 => ?_)
    · refine lv_lload hx hb d_P_merge_56 (lv_at hl 0 rfl) ?_
      refine lv_lconst (v := 0) hx hb d_P_merge_58 rfl ?_
      refine lc_ne (tgt := 73) hx hb d_P_merge_59 d_P_merge_60 (by decide) (fun c59 => ?_) (fun c59 => ?_)
      · have hn := nzc_up Wd k x_2 512 hk
        have z1 : nz1 (Wd k) = 1 := nz1_ne (by rw [← ex_1]; exact c42)
        have z2 : nz1 x_2 = 1 := nz1_ne c59
        have hzF : nz = nI (nzc (va_up Wd k x_2) 512) := by rw [enz]; congr 1; omega
        have fin := pg_fin (cJ := cJ) (W := va_up Wd k x_2) (wr := some aa) (ev := 0) (ew := ew) (tw := tw) g1 (w3 := w_3) h_5 (fun a ha => by cases ha; exact b3) (fun q z1 z2 => by rw [ew_3, va_up_ne _ _ (fun z => z2 (by rw [z]))]; exact b4 q z1 (fun z => z2 (by rw [z]))) hzF (Or.inl rfl) (fun z => absurd z (by decide)) (fun _ => by simp) (fun a ha => by
          cases ha
          refine ⟨_, h_4, fun _ i hi => ?_⟩
          by_cases hik : i = k
          · rw [hik, va_up_self]; exact pk_uLs
          · rw [va_up_ne _ _ hik, pk_uLn hik]; exact hfW i hi)
        rw [eY] at fin
        have hpw : pgw w_3 pa = some aa := pgw_of (wr := some aa) (ev := 0) (ew := ew) (nz := nz) (tw := tw) h_5
        refine W.widen (k := mc) (n := ms) (by rw [Nat.zero_add]; exact Nat.le_refl _) (by rw [Nat.zero_add]; exact Nat.le_refl _) ?_
        exact W.vret hx hb hr (fun t ht hW => ⟨⟨w_3, rfl, ⟨fin.1, fin.2, fun z => absurd z hch, fun _ => by rw [hpw]; simp⟩, hP.at ht⟩, hS.F ht⟩) hS.2.2 d_P_merge_73
      · refine lv_aload_n hx hb d_P_merge_63 rfl (lv_at hl 2 rfl) ?_
        refine lv_dup hx hb d_P_merge_64 rfl ?_
        refine mw_get (C := R_P) (T := T_P) (N := 5) (ci := ciP) (v := .int nz) hx hb htg i_P hown hK hP h_5 rfl 3 (by decide) (htg _ k_231) (fun _ h9 => h9) rfl d_P_merge_65 ?_
        refine lv_iconst (v := 1) hx hb d_P_merge_68 (by decide) ?_
        refine lv_isub hx hb d_P_merge_69 ?_
        refine lv_topi (fun x_6 ex_6 => ?_)
        refine mw_put (C := R_P) (T := T_P) (N := 5) (ci := ciP) (v := .int x_6) (ty := .int) (fs' := [.ref aa, .int 0, .long ew, .int x_6, .long tw]) hx hb htg i_P ty_P tk_P nm_P hown hK hP hS h_5 rfl 3 (by decide) (htg _ k_231) (fun _ h9 => h9) rfl (by decide +kernel) rfl rfl (Nat.le_of_ble_eq_true rfl) rfl d_P_merge_70 (fun H locs hP hS hz70 => ?_)
        obtain ⟨w_7, ew_7⟩ : ∃ z9, z9 = va_up w_3 pa (some (.inr (ciP, [.ref aa, .int 0, .long ew, .int x_6, .long tw])) : Option va_E) := ⟨_, rfl⟩
        rw [← ew_7] at hP
        have h_8 : w_7 pa = some (.inr (ciP, [.ref aa, .int 0, .long ew, .int x_6, .long tw])) := by rw [ew_7, va_up_self]
        have h_9 : w_7 aa = some (.inl (cJ, 512, .inr (.inl (vp_updL f k x_2)))) := by rw [ew_7, va_up_ne _ _ (fun z => by rw [z, h_5] at h_4; cases h_4)]; exact h_4
        have hn := nzc_up Wd k x_2 512 hk
        have z1 : nz1 (Wd k) = 1 := nz1_ne (by rw [← ex_1]; exact c42)
        have z2 : nz1 x_2 = 0 := by rw [c59]; exact nz1_0
        have hzF : x_6 = nI (nzc (va_up Wd k x_2) 512) := by rw [ex_6, enz, show nzc Wd 512 = nzc (va_up Wd k x_2) 512 + 1 by omega]; exact nI_pred _
        have fin := pg_fin (cJ := cJ) (W := va_up Wd k x_2) (wr := some aa) (ev := 0) (ew := ew) (tw := tw) g1 (w3 := w_7) h_8 (fun a ha => by cases ha; exact b3) (fun q z1 z2 => by rw [ew_7, va_up_ne _ _ z1]; rw [ew_3, va_up_ne _ _ (fun z => z2 (by rw [z]))]; exact b4 q z1 (fun z => z2 (by rw [z]))) hzF (Or.inl rfl) (fun z => absurd z (by decide)) (fun _ => by simp) (fun a ha => by
          cases ha
          refine ⟨_, h_9, fun _ i hi => ?_⟩
          by_cases hik : i = k
          · rw [hik, va_up_self]; exact pk_uLs
          · rw [va_up_ne _ _ hik, pk_uLn hik]; exact hfW i hi)
        rw [eY] at fin
        have hpw : pgw w_7 pa = some aa := pgw_of (wr := some aa) (ev := 0) (ew := ew) (nz := x_6) (tw := tw) h_8
        refine W.widen (k := mc) (n := ms) (by rw [Nat.zero_add]; exact Nat.le_refl _) (by rw [Nat.zero_add]; exact Nat.le_refl _) ?_
        exact W.vret hx hb hr (fun t ht hW => ⟨⟨w_7, rfl, ⟨fin.1, fin.2, fun z => absurd z hch, fun _ => by rw [hpw]; simp⟩, hP.at ht⟩, hS.F ht⟩) hS.2.2 d_P_merge_73
    · refine lv_aload_n hx hb d_P_merge_46 rfl (lv_at hl 2 rfl) ?_
      refine lv_dup hx hb d_P_merge_47 rfl ?_
      refine mw_get (C := R_P) (T := T_P) (N := 5) (ci := ciP) (v := .int nz) hx hb htg i_P hown hK hP h_5 rfl 3 (by decide) (htg _ k_231) (fun _ h9 => h9) rfl d_P_merge_48 ?_
      refine lv_iconst (v := 1) hx hb d_P_merge_51 (by decide) ?_
      refine lv_iadd hx hb d_P_merge_52 ?_
      refine lv_topi (fun x_10 ex_10 => ?_)
      refine mw_put (C := R_P) (T := T_P) (N := 5) (ci := ciP) (v := .int x_10) (ty := .int) (fs' := [.ref aa, .int 0, .long ew, .int x_10, .long tw]) hx hb htg i_P ty_P tk_P nm_P hown hK hP hS h_5 rfl 3 (by decide) (htg _ k_231) (fun _ h9 => h9) rfl (by decide +kernel) rfl rfl (Nat.le_of_ble_eq_true rfl) rfl d_P_merge_53 (fun H locs hP hS hz53 => ?_)
      obtain ⟨w_11, ew_11⟩ : ∃ z9, z9 = va_up w_3 pa (some (.inr (ciP, [.ref aa, .int 0, .long ew, .int x_10, .long tw])) : Option va_E) := ⟨_, rfl⟩
      rw [← ew_11] at hP
      have h_12 : w_11 pa = some (.inr (ciP, [.ref aa, .int 0, .long ew, .int x_10, .long tw])) := by rw [ew_11, va_up_self]
      have h_13 : w_11 aa = some (.inl (cJ, 512, .inr (.inl (vp_updL f k x_2)))) := by rw [ew_11, va_up_ne _ _ (fun z => by rw [z, h_5] at h_4; cases h_4)]; exact h_4
      refine lv_lload hx hb d_P_merge_56 (lv_at hl 0 rfl) ?_
      refine lv_lconst (v := 0) hx hb d_P_merge_58 rfl ?_
      refine lc_ne (tgt := 73) hx hb d_P_merge_59 d_P_merge_60 (by decide) (fun c59 => ?_) (fun c59 => ?_)
      · have hn := nzc_up Wd k x_2 512 hk
        have z1 : nz1 (Wd k) = 0 := by rw [← ex_1, c42]; exact nz1_0
        have z2 : nz1 x_2 = 1 := nz1_ne c59
        have hzF : x_10 = nI (nzc (va_up Wd k x_2) 512) := by rw [ex_10, enz, nI_1]; congr 1; omega
        have fin := pg_fin (cJ := cJ) (W := va_up Wd k x_2) (wr := some aa) (ev := 0) (ew := ew) (tw := tw) g1 (w3 := w_11) h_12 (fun a ha => by cases ha; exact b3) (fun q z1 z2 => by rw [ew_11, va_up_ne _ _ z1]; rw [ew_3, va_up_ne _ _ (fun z => z2 (by rw [z]))]; exact b4 q z1 (fun z => z2 (by rw [z]))) hzF (Or.inl rfl) (fun z => absurd z (by decide)) (fun _ => by simp) (fun a ha => by
          cases ha
          refine ⟨_, h_13, fun _ i hi => ?_⟩
          by_cases hik : i = k
          · rw [hik, va_up_self]; exact pk_uLs
          · rw [va_up_ne _ _ hik, pk_uLn hik]; exact hfW i hi)
        rw [eY] at fin
        have hpw : pgw w_11 pa = some aa := pgw_of (wr := some aa) (ev := 0) (ew := ew) (nz := x_10) (tw := tw) h_12
        refine W.widen (k := mc) (n := ms) (by rw [Nat.zero_add]; exact Nat.le_refl _) (by rw [Nat.zero_add]; exact Nat.le_refl _) ?_
        exact W.vret hx hb hr (fun t ht hW => ⟨⟨w_11, rfl, ⟨fin.1, fin.2, fun z => absurd z hch, fun _ => by rw [hpw]; simp⟩, hP.at ht⟩, hS.F ht⟩) hS.2.2 d_P_merge_73
      · refine lv_aload_n hx hb d_P_merge_63 rfl (lv_at hl 2 rfl) ?_
        refine lv_dup hx hb d_P_merge_64 rfl ?_
        refine mw_get (C := R_P) (T := T_P) (N := 5) (ci := ciP) (v := .int x_10) hx hb htg i_P hown hK hP h_12 rfl 3 (by decide) (htg _ k_231) (fun _ h9 => h9) rfl d_P_merge_65 ?_
        refine lv_iconst (v := 1) hx hb d_P_merge_68 (by decide) ?_
        refine lv_isub hx hb d_P_merge_69 ?_
        refine lv_topi (fun x_14 ex_14 => ?_)
        refine mw_put (C := R_P) (T := T_P) (N := 5) (ci := ciP) (v := .int x_14) (ty := .int) (fs' := [.ref aa, .int 0, .long ew, .int x_14, .long tw]) hx hb htg i_P ty_P tk_P nm_P hown hK hP hS h_12 rfl 3 (by decide) (htg _ k_231) (fun _ h9 => h9) rfl (by decide +kernel) rfl rfl (Nat.le_of_ble_eq_true rfl) rfl d_P_merge_70 (fun H locs hP hS hz70 => ?_)
        obtain ⟨w_15, ew_15⟩ : ∃ z9, z9 = va_up w_11 pa (some (.inr (ciP, [.ref aa, .int 0, .long ew, .int x_14, .long tw])) : Option va_E) := ⟨_, rfl⟩
        rw [← ew_15] at hP
        have h_16 : w_15 pa = some (.inr (ciP, [.ref aa, .int 0, .long ew, .int x_14, .long tw])) := by rw [ew_15, va_up_self]
        have h_17 : w_15 aa = some (.inl (cJ, 512, .inr (.inl (vp_updL f k x_2)))) := by rw [ew_15, va_up_ne _ _ (fun z => by rw [z, h_12] at h_13; cases h_13)]; exact h_13
        exact absurd (c59.trans c42.symm) c26
  · have hsame : mrg (Wd k) mask bits = Wd k := by rw [← eY, ← ex_1]; exact c26
    have hup : va_up Wd k (mrg (Wd k) mask bits) = Wd := by
      funext i
      by_cases hi : i = k
      · rw [hi, va_up_self, hsame]
      · rw [va_up_ne _ _ hi]
    refine W.widen (k := mc) (n := ms) (Nat.zero_le _) (Nat.zero_le _) ?_
    exact W.vret hx hb hr (fun t ht hW => ⟨⟨w, rfl, ⟨by rw [hup]; exact hp, kp.rf, fun _ => rfl, fun z => absurd hsame z⟩, hP.at ht⟩, hS.F ht⟩) hS.2.2 d_P_merge_30
set_option maxHeartbeats 4000000 in
set_option maxRecDepth 100000 in
/-- all words become x -/
theorem t_P_makeEven (l : Launch) (D : va_G) (cJ cI cP : ClassId) (bs : Nat) (w : Nat → Option va_E) (pa : Nat) (Wd : Nat → Int64) (tw : Int64) (hp : pg cJ w pa Wd tw) (x : Int64) : Met l y_P_makeEven ws_P_makeEven ({ frames := 0, cells := 0, slots := 0, locals := 0 }) (mPc D vwCl (mT cJ cI cP) bs w [.ref pa, .long x]) (va_Qv (S := (Nat → Option va_E)) (fun u => pg cJ u pa (fun _ => x) tw ∧ kp w u (pfp w pa) (pfp u pa)) (mB D vwCl bs (fun u => u)) (mA bs)) 0 0 (mA bs) := by
  refine Met.ofW (cc := c_P_makeEven) (maxL := 3) (ret := none) (by decide) rfl ?_
  intro p e s m args below meth c s₁ B hml hv
  obtain ⟨rfl, hbs, hP, hK⟩ := hv
  have hx := B.exec
  have hb := B.bytes
  have hr := B.returns
  have htg : ∀ w ∈ gt, w.before _ s = true := fun w h => atoms_spec (ws := ws_P_makeEven) B.pre w (List.mem_cons_of_mem _ h)
  have hown : s.vm.findClass R_P = some m.cls := findClass_of_methodNamed B.named
  have hlocks := B.notSynchronized
  have hS : va_S (mA bs) s.heap s.heap [] := va_S.rf
  have hl := lv_entry ([.ref pa, .long x]) (n := 3) (Nat.le_of_ble_eq_true rfl)
  rw [lg_entry_eq]
  generalize (lg_sl ([.ref pa, .long x]) ++ List.replicate (3 - (lg_sl ([.ref pa, .long x])).length) Slot.unset).toArray = ls at hl ⊢
  have hl : lv_has ls 3 [(0, .ref pa), (1, .long x)] := hl
  obtain ⟨wr, ev, ew, g1, g2, g3, g4, g5⟩ := id hp
  obtain ⟨nz, enz⟩ : ∃ x, x = nI (nzc Wd 512) := ⟨_, rfl⟩
  rw [← enz] at g1
  have f1 : w pa = some (.inr (ciP, [va_rf wr, .int ev, .long ew, .int nz, .long tw])) := g1
  refine lv_aload_n hx hb d_P_makeEven_0 rfl (lv_at hl 0 rfl) ?_
  refine lv_iconst (v := 1) hx hb d_P_makeEven_1 (by decide) ?_
  refine mw_put (C := R_P) (T := T_P) (N := 5) (ci := ciP) (v := .int 1) (ty := .boolean) (fs' := [va_rf (wr), .int 1, .long ew, .int nz, .long tw]) hx hb htg i_P ty_P tk_P nm_P hown hK hP hS f1 rfl 1 (by decide) (htg _ k_229) (fun _ h9 => h9) rfl (by decide +kernel) (by decide) (by decide) (Nat.le_of_ble_eq_true rfl) rfl d_P_makeEven_2 (fun H locs hP hS hz2 => ?_)
  obtain ⟨w_1, ew_1⟩ : ∃ z9, z9 = va_up w pa (some (.inr (ciP, [va_rf (wr), .int 1, .long ew, .int nz, .long tw])) : Option va_E) := ⟨_, rfl⟩
  rw [← ew_1] at hP
  have h_2 : w_1 pa = some (.inr (ciP, [va_rf (wr), .int 1, .long ew, .int nz, .long tw])) := by rw [ew_1, va_up_self]
  refine lv_aload_n hx hb d_P_makeEven_5 rfl (lv_at hl 0 rfl) ?_
  refine lv_lload_n hx hb d_P_makeEven_6 rfl (lv_at hl 1 rfl) ?_
  refine mw_put (C := R_P) (T := T_P) (N := 5) (ci := ciP) (v := .long x) (ty := .long) (fs' := [va_rf (wr), .int 1, .long x, .int nz, .long tw]) hx hb htg i_P ty_P tk_P nm_P hown hK hP hS h_2 rfl 2 (by decide) (htg _ k_230) (fun _ h9 => h9) rfl (by decide +kernel) rfl rfl (Nat.le_of_ble_eq_true rfl) rfl d_P_makeEven_7 (fun H locs hP hS hz7 => ?_)
  obtain ⟨w_3, ew_3⟩ : ∃ z9, z9 = va_up w_1 pa (some (.inr (ciP, [va_rf (wr), .int 1, .long x, .int nz, .long tw])) : Option va_E) := ⟨_, rfl⟩
  rw [← ew_3] at hP
  have h_4 : w_3 pa = some (.inr (ciP, [va_rf (wr), .int 1, .long x, .int nz, .long tw])) := by rw [ew_3, va_up_self]
  refine lv_aload_n hx hb d_P_makeEven_10 rfl (lv_at hl 0 rfl) ?_
  refine lv_lload_n hx hb d_P_makeEven_11 rfl (lv_at hl 1 rfl) ?_
  refine lv_lconst (v := 0) hx hb d_P_makeEven_12 rfl ?_
  refine lc_ne (tgt := 21) hx hb d_P_makeEven_13 d_P_makeEven_14 (by decide) (fun c13 => ?_) (fun c13 => ?_)
  · refine lv_sipush (v := 512) hx hb d_P_makeEven_21 (by decide) ?_
    refine mw_put (C := R_P) (T := T_P) (N := 5) (ci := ciP) (v := .int 512) (ty := .int) (fs' := [va_rf (wr), .int 1, .long x, .int 512, .long tw]) hx hb htg i_P ty_P tk_P nm_P hown hK hP hS h_4 rfl 3 (by decide) (htg _ k_231) (fun _ h9 => h9) rfl (by decide +kernel) rfl rfl (Nat.le_of_ble_eq_true rfl) rfl d_P_makeEven_24 (fun H locs hP hS hz24 => ?_)
    obtain ⟨w_5, ew_5⟩ : ∃ z9, z9 = va_up w_3 pa (some (.inr (ciP, [va_rf (wr), .int 1, .long x, .int 512, .long tw])) : Option va_E) := ⟨_, rfl⟩
    rw [← ew_5] at hP
    have h_6 : w_5 pa = some (.inr (ciP, [va_rf (wr), .int 1, .long x, .int 512, .long tw])) := by rw [ew_5, va_up_self]
    have hzF : (512 : Int32) = nI (nzc (fun _ => x) 512) := by rw [nzc_const]; first | (rw [if_pos c13]; rfl) | (rw [if_neg c13]; rfl)
    have oth : ∀ q, ¬ q = pa → w_5 q = w q := fun q z1 => by rw [ew_5, va_up_ne _ _ z1]; rw [ew_3, va_up_ne _ _ z1]; rw [ew_1, va_up_ne _ _ z1]
    have g5' : ∀ a, wr = some a → ∃ f : Nat → Int64, w_5 a = some (.inl (cJ, 512, .inr (.inl f))) ∧ ((1 : Int32) = 0 → ∀ i, i < 512 → f i = (fun _ => x) i) := fun a ha => by
      obtain ⟨f, q1, q2⟩ := g5 a ha
      exact ⟨f, by rw [oth a (fun z => by rw [z, g1] at q1; simp [pgE] at q1)]; exact q1, fun z => absurd z (by decide)⟩
    have fin := pg_fin (cJ := cJ) (W := fun _ => x) (wr := wr) (ev := 1) (ew := x) (tw := tw) g1 (w3 := w_5) h_6 (fun a ha => Or.inl ha) (fun q z1 _ => oth q z1) hzF (Or.inr rfl) (fun _ _ _ => rfl) (fun z => absurd z (by decide)) g5'
    exact W.vret hx hb hr (fun t ht hW => ⟨⟨w_5, rfl, fin, hP.at ht⟩, hS.F ht⟩) hS.2.2 d_P_makeEven_27
  · refine lv_iconst (v := 0) hx hb d_P_makeEven_17 (by decide) ?_
    refine lv_goto (tgt := 24) hx hb d_P_makeEven_18 (by decide) ?_
    refine mw_put (C := R_P) (T := T_P) (N := 5) (ci := ciP) (v := .int 0) (ty := .int) (fs' := [va_rf (wr), .int 1, .long x, .int 0, .long tw]) hx hb htg i_P ty_P tk_P nm_P hown hK hP hS h_4 rfl 3 (by decide) (htg _ k_231) (fun _ h9 => h9) rfl (by decide +kernel) rfl rfl (Nat.le_of_ble_eq_true rfl) rfl d_P_makeEven_24 (fun H locs hP hS hz24 => ?_)
    obtain ⟨w_7, ew_7⟩ : ∃ z9, z9 = va_up w_3 pa (some (.inr (ciP, [va_rf (wr), .int 1, .long x, .int 0, .long tw])) : Option va_E) := ⟨_, rfl⟩
    rw [← ew_7] at hP
    have h_8 : w_7 pa = some (.inr (ciP, [va_rf (wr), .int 1, .long x, .int 0, .long tw])) := by rw [ew_7, va_up_self]
    have hzF : (0 : Int32) = nI (nzc (fun _ => x) 512) := by rw [nzc_const]; first | (rw [if_pos c13]; rfl) | (rw [if_neg c13]; rfl)
    have oth : ∀ q, ¬ q = pa → w_7 q = w q := fun q z1 => by rw [ew_7, va_up_ne _ _ z1]; rw [ew_3, va_up_ne _ _ z1]; rw [ew_1, va_up_ne _ _ z1]
    have g5' : ∀ a, wr = some a → ∃ f : Nat → Int64, w_7 a = some (.inl (cJ, 512, .inr (.inl f))) ∧ ((1 : Int32) = 0 → ∀ i, i < 512 → f i = (fun _ => x) i) := fun a ha => by
      obtain ⟨f, q1, q2⟩ := g5 a ha
      exact ⟨f, by rw [oth a (fun z => by rw [z, g1] at q1; simp [pgE] at q1)]; exact q1, fun z => absurd z (by decide)⟩
    have fin := pg_fin (cJ := cJ) (W := fun _ => x) (wr := wr) (ev := 1) (ew := x) (tw := tw) g1 (w3 := w_7) h_8 (fun a ha => Or.inl ha) (fun q z1 _ => oth q z1) hzF (Or.inr rfl) (fun _ _ _ => rfl) (fun z => absurd z (by decide)) g5'
    exact W.vret hx hb hr (fun t ht hW => ⟨⟨w_7, rfl, fin, hP.at ht⟩, hS.F ht⟩) hS.2.2 d_P_makeEven_27
end
section
theorem sh_w {a : Nat} (h : a < 2 ^ 31) : (nI a &&& 7) * 8 = nI (8 * (a % 8)) := by
  rw [pk_andN (show a < 2 ^ 32 by omega) 3 (by decide)]
  show nI (a % 2 ^ 3) * nI 8 = _
  rw [pk_mul, Nat.mul_comm]
theorem lw_w {n : Nat} (h8 : n ≤ 8) : (64 : Int32) - 8 * nI n = nI (64 - 8 * n) := by
  show nI 64 - nI 8 * nI n = _
  rw [pk_mul, pk_sub (by omega)]
theorem pl_w (a : Nat) : (lN (2147483648 + a) - 2147483648).toInt32 = nI a := by
  show (lN (2147483648 + a) - lN 2147483648).toInt32 = _
  rw [lN_sub (by omega), lN_i, Nat.add_sub_cancel_left]
set_option maxHeartbeats 4000000 in
set_option maxRecDepth 100000 in
theorem t_S_shiftInWord (l : Launch) (D : va_G) (cJ cI cP : ClassId) (bs : Nat) (w : Nat → Option va_E) (a : Nat) (ha : a < 2 ^ 31) : Met l y_S_shiftInWord ws_S_shiftInWord ({ frames := 0, cells := 0, slots := 0, locals := 0 }) (mPc D vwCl (mT cJ cI cP) bs w [.int (nI a)]) (va_Qi (S := Unit) (fun r _ => r = nI (8 * (a % 8))) (mB D vwCl bs (fun _ => w)) (mA bs)) 0 0 (mA bs) := by
  refine Met.ofW (cc := c_S_shiftInWord) (maxL := 1) (ret := (some .int)) (by decide) rfl ?_
  intro p e s m args below meth c s₁ B hml hv
  obtain ⟨rfl, hbs, hP, hK⟩ := hv
  have hx := B.exec
  have hb := B.bytes
  have hr := B.returns
  have htg : ∀ w ∈ gt, w.before _ s = true := fun w h => atoms_spec (ws := ws_S_shiftInWord) B.pre w (List.mem_cons_of_mem _ h)
  have hown : s.vm.findClass R_S = some m.cls := findClass_of_methodNamed B.named
  have hlocks := B.notSynchronized
  have hS : va_S (mA bs) s.heap s.heap [] := va_S.rf
  have hl := lv_entry ([.int (nI a)]) (n := 1) (Nat.le_of_ble_eq_true rfl)
  rw [lg_entry_eq]
  generalize (lg_sl ([.int (nI a)]) ++ List.replicate (1 - (lg_sl ([.int (nI a)])).length) Slot.unset).toArray = ls at hl ⊢
  have hl : lv_has ls 1 [(0, .int (nI a))] := hl
  refine lv_iload_n hx hb d_S_shiftInWord_0 rfl (lv_at hl 0 rfl) ?_
  refine lv_bipush (v := 7) hx hb d_S_shiftInWord_1 (by decide) ?_
  refine lv_iand hx hb d_S_shiftInWord_3 ?_
  refine lv_bipush (v := 8) hx hb d_S_shiftInWord_4 (by decide) ?_
  refine lv_imul hx hb d_S_shiftInWord_6 ?_
  exact W.iret (v := ((nI a) &&& 7) * 8) hx hb hr (fun t ht hW => ⟨⟨_, (), rfl, sh_w ha, hP.at ht⟩, hS.F ht⟩) hS.2.2 d_S_shiftInWord_7
set_option maxHeartbeats 4000000 in
set_option maxRecDepth 100000 in
theorem t_S_lowestBytes (l : Launch) (D : va_G) (cJ cI cP : ClassId) (bs : Nat) (w : Nat → Option va_E) (n : Nat) (h8 : n ≤ 8) : Met l y_S_lowestBytes ws_S_lowestBytes ({ frames := 0, cells := 0, slots := 0, locals := 0 }) (mPc D vwCl (mT cJ cI cP) bs w [.int (nI n)]) (va_Ql (S := Unit) (fun r _ => r = lowB n) (mB D vwCl bs (fun _ => w)) (mA bs)) 0 0 (mA bs) := by
  refine Met.ofW (cc := c_S_lowestBytes) (maxL := 1) (ret := (some .long)) (by decide) rfl ?_
  intro p e s m args below meth c s₁ B hml hv
  obtain ⟨rfl, hbs, hP, hK⟩ := hv
  have hx := B.exec
  have hb := B.bytes
  have hr := B.returns
  have htg : ∀ w ∈ gt, w.before _ s = true := fun w h => atoms_spec (ws := ws_S_lowestBytes) B.pre w (List.mem_cons_of_mem _ h)
  have hown : s.vm.findClass R_S = some m.cls := findClass_of_methodNamed B.named
  have hlocks := B.notSynchronized
  have hS : va_S (mA bs) s.heap s.heap [] := va_S.rf
  have hl := lv_entry ([.int (nI n)]) (n := 1) (Nat.le_of_ble_eq_true rfl)
  rw [lg_entry_eq]
  generalize (lg_sl ([.int (nI n)]) ++ List.replicate (1 - (lg_sl ([.int (nI n)])).length) Slot.unset).toArray = ls at hl ⊢
  have hl : lv_has ls 1 [(0, .int (nI n))] := hl
  refine lv_ldc2 (own := R_S) (v := (-1)) hx hb hown (htg _ k_203) d_S_lowestBytes_0 ?_
  refine lv_bipush (v := 64) hx hb d_S_lowestBytes_3 (by decide) ?_
  refine lv_bipush (v := 8) hx hb d_S_lowestBytes_5 (by decide) ?_
  refine lv_iload_n hx hb d_S_lowestBytes_7 rfl (lv_at hl 0 rfl) ?_
  refine lv_imul hx hb d_S_lowestBytes_8 ?_
  refine lv_isub hx hb d_S_lowestBytes_9 ?_
  refine lv_lushr hx hb d_S_lowestBytes_10 rfl ?_
  refine lv_topl (fun x_1 ex_1 => ?_)
  exact W.lret (v := x_1) hx hb hr (fun t ht hW => ⟨⟨_, (), rfl, by rw [ex_1, lw_w h8]; rfl, hP.at ht⟩, hS.F ht⟩) hS.2.2 d_S_lowestBytes_11
set_option maxHeartbeats 4000000 in
set_option maxRecDepth 100000 in
theorem t_S_placeOf (l : Launch) (D : va_G) (cJ cI cP : ClassId) (bs : Nat) (w : Nat → Option va_E) (a : Nat) : Met l y_S_placeOf ws_S_placeOf ({ frames := 0, cells := 0, slots := 0, locals := 0 }) (mPc D vwCl (mT cJ cI cP) bs w [.long (lN (2147483648 + a))]) (va_Qi (S := Unit) (fun r _ => r = nI a) (mB D vwCl bs (fun _ => w)) (mA bs)) 0 0 (mA bs) := by
  refine Met.ofW (cc := c_S_placeOf) (maxL := 2) (ret := (some .int)) (by decide) rfl ?_
  intro p e s m args below meth c s₁ B hml hv
  obtain ⟨rfl, hbs, hP, hK⟩ := hv
  have hx := B.exec
  have hb := B.bytes
  have hr := B.returns
  have htg : ∀ w ∈ gt, w.before _ s = true := fun w h => atoms_spec (ws := ws_S_placeOf) B.pre w (List.mem_cons_of_mem _ h)
  have hown : s.vm.findClass R_S = some m.cls := findClass_of_methodNamed B.named
  have hlocks := B.notSynchronized
  have hS : va_S (mA bs) s.heap s.heap [] := va_S.rf
  have hl := lv_entry ([.long (lN (2147483648 + a))]) (n := 2) (Nat.le_of_ble_eq_true rfl)
  rw [lg_entry_eq]
  generalize (lg_sl ([.long (lN (2147483648 + a))]) ++ List.replicate (2 - (lg_sl ([.long (lN (2147483648 + a))])).length) Slot.unset).toArray = ls at hl ⊢
  have hl : lv_has ls 2 [(0, .long (lN (2147483648 + a)))] := hl
  refine lv_lload_n hx hb d_S_placeOf_0 rfl (lv_at hl 0 rfl) ?_
  refine lv_ldc2 (own := R_S) (v := 2147483648) hx hb hown (htg _ k_160) d_S_placeOf_1 ?_
  refine lv_lsub hx hb d_S_placeOf_4 ?_
  refine lv_l2i hx hb d_S_placeOf_5 rfl ?_
  exact W.iret (v := ((lN (2147483648 + a)) - 2147483648).toInt32) hx hb hr (fun t ht hW => ⟨⟨_, (), rfl, pl_w a, hP.at ht⟩, hS.F ht⟩) hS.2.2 d_S_placeOf_6
set_option maxHeartbeats 4000000 in
set_option maxRecDepth 100000 in
theorem t_S_isSize (l : Launch) (D : va_G) (cJ cI cP : ClassId) (bs : Nat) (w : Nat → Option va_E) (x : Int32) : Met l y_S_isSize ws_S_isSize ({ frames := 0, cells := 0, slots := 0, locals := 0 }) (mPc D vwCl (mT cJ cI cP) bs w [.int x]) (va_Qi (S := Unit) (fun r _ => r = if x = 1 ∨ x = 2 ∨ x = 4 ∨ x = 8 then 1 else 0) (mB D vwCl bs (fun _ => w)) (mA bs)) 0 0 (mA bs) := by
  refine Met.ofW (cc := c_S_isSize) (maxL := 1) (ret := (some .boolean)) (by decide) rfl ?_
  intro p e s m args below meth c s₁ B hml hv
  obtain ⟨rfl, hbs, hP, hK⟩ := hv
  have hx := B.exec
  have hb := B.bytes
  have hr := B.returns
  have htg : ∀ w ∈ gt, w.before _ s = true := fun w h => atoms_spec (ws := ws_S_isSize) B.pre w (List.mem_cons_of_mem _ h)
  have hown : s.vm.findClass R_S = some m.cls := findClass_of_methodNamed B.named
  have hlocks := B.notSynchronized
  have hS : va_S (mA bs) s.heap s.heap [] := va_S.rf
  have hl := lv_entry ([.int x]) (n := 1) (Nat.le_of_ble_eq_true rfl)
  rw [lg_entry_eq]
  generalize (lg_sl ([.int x]) ++ List.replicate (1 - (lg_sl ([.int x])).length) Slot.unset).toArray = ls at hl ⊢
  have hl : lv_has ls 1 [(0, .int x)] := hl
  refine lv_iload_n hx hb d_S_isSize_0 rfl (lv_at hl 0 rfl) ?_
  refine lv_iconst (v := 1) hx hb d_S_isSize_1 (by decide) ?_
  refine lv_icmp_eq (tgt := 21) hx hb d_S_isSize_2 (by decide) (fun c2 => ?_) (fun c2 => ?_)
  · refine lv_iconst (v := 1) hx hb d_S_isSize_21 (by decide) ?_
    refine lv_goto (tgt := 26) hx hb d_S_isSize_22 (by decide) ?_
    exact W.zret (v := 1) hx hb hr rfl (fun t ht hW => ⟨⟨_, (), rfl, by simp [*], hP.at ht⟩, hS.F ht⟩) hS.2.2 d_S_isSize_26
  · refine lv_iload_n hx hb d_S_isSize_5 rfl (lv_at hl 0 rfl) ?_
    refine lv_iconst (v := 2) hx hb d_S_isSize_6 (by decide) ?_
    refine lv_icmp_eq (tgt := 21) hx hb d_S_isSize_7 (by decide) (fun c7 => ?_) (fun c7 => ?_)
    · refine lv_iconst (v := 1) hx hb d_S_isSize_21 (by decide) ?_
      refine lv_goto (tgt := 26) hx hb d_S_isSize_22 (by decide) ?_
      exact W.zret (v := 1) hx hb hr rfl (fun t ht hW => ⟨⟨_, (), rfl, by simp [*], hP.at ht⟩, hS.F ht⟩) hS.2.2 d_S_isSize_26
    · refine lv_iload_n hx hb d_S_isSize_10 rfl (lv_at hl 0 rfl) ?_
      refine lv_iconst (v := 4) hx hb d_S_isSize_11 (by decide) ?_
      refine lv_icmp_eq (tgt := 21) hx hb d_S_isSize_12 (by decide) (fun c12 => ?_) (fun c12 => ?_)
      · refine lv_iconst (v := 1) hx hb d_S_isSize_21 (by decide) ?_
        refine lv_goto (tgt := 26) hx hb d_S_isSize_22 (by decide) ?_
        exact W.zret (v := 1) hx hb hr rfl (fun t ht hW => ⟨⟨_, (), rfl, by simp [*], hP.at ht⟩, hS.F ht⟩) hS.2.2 d_S_isSize_26
      · refine lv_iload_n hx hb d_S_isSize_15 rfl (lv_at hl 0 rfl) ?_
        refine lv_bipush (v := 8) hx hb d_S_isSize_16 (by decide) ?_
        refine lv_icmp_ne (tgt := 25) hx hb d_S_isSize_18 (by decide) (fun c18 => ?_) (fun c18 => ?_)
        · refine lv_iconst (v := 0) hx hb d_S_isSize_25 (by decide) ?_
          exact W.zret (v := 0) hx hb hr rfl (fun t ht hW => ⟨⟨_, (), rfl, by simp [*], hP.at ht⟩, hS.F ht⟩) hS.2.2 d_S_isSize_26
        · refine lv_iconst (v := 1) hx hb d_S_isSize_21 (by decide) ?_
          refine lv_goto (tgt := 26) hx hb d_S_isSize_22 (by decide) ?_
          exact W.zret (v := 1) hx hb hr rfl (fun t ht hW => ⟨⟨_, (), rfl, by simp [*], hP.at ht⟩, hS.F ht⟩) hS.2.2 d_S_isSize_26
set_option maxHeartbeats 4000000 in
set_option maxRecDepth 100000 in
theorem t_S_isAtomicSize (l : Launch) (D : va_G) (cJ cI cP : ClassId) (bs : Nat) (w : Nat → Option va_E) (x : Int32) : Met l y_S_isAtomicSize ws_S_isAtomicSize ({ frames := 0, cells := 0, slots := 0, locals := 0 }) (mPc D vwCl (mT cJ cI cP) bs w [.int x]) (va_Qi (S := Unit) (fun r _ => r = if x = 4 ∨ x = 8 then 1 else 0) (mB D vwCl bs (fun _ => w)) (mA bs)) 0 0 (mA bs) := by
  refine Met.ofW (cc := c_S_isAtomicSize) (maxL := 1) (ret := (some .boolean)) (by decide) rfl ?_
  intro p e s m args below meth c s₁ B hml hv
  obtain ⟨rfl, hbs, hP, hK⟩ := hv
  have hx := B.exec
  have hb := B.bytes
  have hr := B.returns
  have htg : ∀ w ∈ gt, w.before _ s = true := fun w h => atoms_spec (ws := ws_S_isAtomicSize) B.pre w (List.mem_cons_of_mem _ h)
  have hown : s.vm.findClass R_S = some m.cls := findClass_of_methodNamed B.named
  have hlocks := B.notSynchronized
  have hS : va_S (mA bs) s.heap s.heap [] := va_S.rf
  have hl := lv_entry ([.int x]) (n := 1) (Nat.le_of_ble_eq_true rfl)
  rw [lg_entry_eq]
  generalize (lg_sl ([.int x]) ++ List.replicate (1 - (lg_sl ([.int x])).length) Slot.unset).toArray = ls at hl ⊢
  have hl : lv_has ls 1 [(0, .int x)] := hl
  refine lv_iload_n hx hb d_S_isAtomicSize_0 rfl (lv_at hl 0 rfl) ?_
  refine lv_iconst (v := 4) hx hb d_S_isAtomicSize_1 (by decide) ?_
  refine lv_icmp_eq (tgt := 11) hx hb d_S_isAtomicSize_2 (by decide) (fun c2 => ?_) (fun c2 => ?_)
  · refine lv_iconst (v := 1) hx hb d_S_isAtomicSize_11 (by decide) ?_
    refine lv_goto (tgt := 16) hx hb d_S_isAtomicSize_12 (by decide) ?_
    exact W.zret (v := 1) hx hb hr rfl (fun t ht hW => ⟨⟨_, (), rfl, by simp [*], hP.at ht⟩, hS.F ht⟩) hS.2.2 d_S_isAtomicSize_16
  · refine lv_iload_n hx hb d_S_isAtomicSize_5 rfl (lv_at hl 0 rfl) ?_
    refine lv_bipush (v := 8) hx hb d_S_isAtomicSize_6 (by decide) ?_
    refine lv_icmp_ne (tgt := 15) hx hb d_S_isAtomicSize_8 (by decide) (fun c8 => ?_) (fun c8 => ?_)
    · refine lv_iconst (v := 0) hx hb d_S_isAtomicSize_15 (by decide) ?_
      exact W.zret (v := 0) hx hb hr rfl (fun t ht hW => ⟨⟨_, (), rfl, by simp [*], hP.at ht⟩, hS.F ht⟩) hS.2.2 d_S_isAtomicSize_16
    · refine lv_iconst (v := 1) hx hb d_S_isAtomicSize_11 (by decide) ?_
      refine lv_goto (tgt := 16) hx hb d_S_isAtomicSize_12 (by decide) ?_
      exact W.zret (v := 1) hx hb hr rfl (fun t ht hW => ⟨⟨_, (), rfl, by simp [*], hP.at ht⟩, hS.F ht⟩) hS.2.2 d_S_isAtomicSize_16
set_option maxHeartbeats 4000000 in
set_option maxRecDepth 100000 in
theorem t_S_isProcessor (l : Launch) (D : va_G) (cJ cI cP : ClassId) (bs : Nat) (w : Nat → Option va_E) (x : Int32) : Met l y_S_isProcessor ws_S_isProcessor ({ frames := 0, cells := 0, slots := 0, locals := 0 }) (mPc D vwCl (mT cJ cI cP) bs w [.int x]) (va_Qi (S := Unit) (fun r _ => r = if 0 ≤ x ∧ x < 4 then 1 else 0) (mB D vwCl bs (fun _ => w)) (mA bs)) 0 0 (mA bs) := by
  refine Met.ofW (cc := c_S_isProcessor) (maxL := 1) (ret := (some .boolean)) (by decide) rfl ?_
  intro p e s m args below meth c s₁ B hml hv
  obtain ⟨rfl, hbs, hP, hK⟩ := hv
  have hx := B.exec
  have hb := B.bytes
  have hr := B.returns
  have htg : ∀ w ∈ gt, w.before _ s = true := fun w h => atoms_spec (ws := ws_S_isProcessor) B.pre w (List.mem_cons_of_mem _ h)
  have hown : s.vm.findClass R_S = some m.cls := findClass_of_methodNamed B.named
  have hlocks := B.notSynchronized
  have hS : va_S (mA bs) s.heap s.heap [] := va_S.rf
  have hl := lv_entry ([.int x]) (n := 1) (Nat.le_of_ble_eq_true rfl)
  rw [lg_entry_eq]
  generalize (lg_sl ([.int x]) ++ List.replicate (1 - (lg_sl ([.int x])).length) Slot.unset).toArray = ls at hl ⊢
  have hl : lv_has ls 1 [(0, .int x)] := hl
  refine lv_iload_n hx hb d_S_isProcessor_0 rfl (lv_at hl 0 rfl) ?_
  refine lv_if_lt (tgt := 13) hx hb d_S_isProcessor_1 (by decide) (fun c1 => ?_) (fun c1 => ?_)
  · refine lv_iconst (v := 0) hx hb d_S_isProcessor_13 (by decide) ?_
    exact W.zret (v := 0) hx hb hr rfl (fun t ht hW => ⟨⟨_, (), rfl, by rw [if_neg (fun z => by first | exact absurd z.1 (Int32.not_le.mpr (by assumption)) | exact absurd z.2 (Int32.not_lt.mpr (by assumption)) | exact absurd z.1 (by assumption) | exact absurd z.2 (by assumption))], hP.at ht⟩, hS.F ht⟩) hS.2.2 d_S_isProcessor_14
  · refine lv_iload_n hx hb d_S_isProcessor_4 rfl (lv_at hl 0 rfl) ?_
    refine lv_iconst (v := 4) hx hb d_S_isProcessor_5 (by decide) ?_
    refine lv_icmp_ge (tgt := 13) hx hb d_S_isProcessor_6 (by decide) (fun c6 => ?_) (fun c6 => ?_)
    · refine lv_iconst (v := 0) hx hb d_S_isProcessor_13 (by decide) ?_
      exact W.zret (v := 0) hx hb hr rfl (fun t ht hW => ⟨⟨_, (), rfl, by rw [if_neg (fun z => by first | exact absurd z.1 (Int32.not_le.mpr (by assumption)) | exact absurd z.2 (Int32.not_lt.mpr (by assumption)) | exact absurd z.1 (by assumption) | exact absurd z.2 (by assumption))], hP.at ht⟩, hS.F ht⟩) hS.2.2 d_S_isProcessor_14
    · refine lv_iconst (v := 1) hx hb d_S_isProcessor_9 (by decide) ?_
      refine lv_goto (tgt := 14) hx hb d_S_isProcessor_10 (by decide) ?_
      exact W.zret (v := 1) hx hb hr rfl (fun t ht hW => ⟨⟨_, (), rfl, by rw [if_pos (by first | exact ⟨by assumption, by assumption⟩ | exact ⟨Int32.not_lt.mp (by assumption), Int32.not_le.mp (by assumption)⟩)], hP.at ht⟩, hS.F ht⟩) hS.2.2 d_S_isProcessor_14
set_option maxHeartbeats 4000000 in
set_option maxRecDepth 100000 in
theorem t_S_withSign (l : Launch) (D : va_G) (cJ cI cP : ClassId) (bs : Nat) (w : Nat → Option va_E) (v : Int64) (x : Int32) : Met l y_S_withSign ws_S_withSign ({ frames := 0, cells := 0, slots := 0, locals := 0 }) (mPc D vwCl (mT cJ cI cP) bs w [.long v, .int x]) (va_Ql (S := Unit) (fun r _ => r = if x = 4 then v.toInt32.toInt64 else v) (mB D vwCl bs (fun _ => w)) (mA bs)) 0 0 (mA bs) := by
  refine Met.ofW (cc := c_S_withSign) (maxL := 3) (ret := (some .long)) (by decide) rfl ?_
  intro p e s m args below meth c s₁ B hml hv
  obtain ⟨rfl, hbs, hP, hK⟩ := hv
  have hx := B.exec
  have hb := B.bytes
  have hr := B.returns
  have htg : ∀ w ∈ gt, w.before _ s = true := fun w h => atoms_spec (ws := ws_S_withSign) B.pre w (List.mem_cons_of_mem _ h)
  have hown : s.vm.findClass R_S = some m.cls := findClass_of_methodNamed B.named
  have hlocks := B.notSynchronized
  have hS : va_S (mA bs) s.heap s.heap [] := va_S.rf
  have hl := lv_entry ([.long v, .int x]) (n := 3) (Nat.le_of_ble_eq_true rfl)
  rw [lg_entry_eq]
  generalize (lg_sl ([.long v, .int x]) ++ List.replicate (3 - (lg_sl ([.long v, .int x])).length) Slot.unset).toArray = ls at hl ⊢
  have hl : lv_has ls 3 [(0, .long v), (2, .int x)] := hl
  refine lv_iload_n hx hb d_S_withSign_0 rfl (lv_at hl 1 rfl) ?_
  refine lv_iconst (v := 4) hx hb d_S_withSign_1 (by decide) ?_
  refine lv_icmp_ne (tgt := 11) hx hb d_S_withSign_2 (by decide) (fun c2 => ?_) (fun c2 => ?_)
  · refine lv_lload_n hx hb d_S_withSign_11 rfl (lv_at hl 0 rfl) ?_
    exact W.lret (v := v) hx hb hr (fun t ht hW => ⟨⟨_, (), rfl, by first | rw [if_pos c2] | rw [if_neg c2], hP.at ht⟩, hS.F ht⟩) hS.2.2 d_S_withSign_12
  · refine lv_lload_n hx hb d_S_withSign_5 rfl (lv_at hl 0 rfl) ?_
    refine lv_l2i hx hb d_S_withSign_6 rfl ?_
    refine lv_i2l hx hb d_S_withSign_7 rfl ?_
    refine lv_goto (tgt := 12) hx hb d_S_withSign_8 (by decide) ?_
    exact W.lret (v := v.toInt32.toInt64) hx hb hr (fun t ht hW => ⟨⟨_, (), rfl, by first | rw [if_pos c2] | rw [if_neg c2], hP.at ht⟩, hS.F ht⟩) hS.2.2 d_S_withSign_12
set_option maxHeartbeats 4000000 in
set_option maxRecDepth 100000 in
theorem t_S_isLessUnsigned (l : Launch) (D : va_G) (cJ cI cP : ClassId) (bs : Nat) (w : Nat → Option va_E) (a b : Int64) : Met l y_S_isLessUnsigned ws_S_isLessUnsigned ({ frames := 0, cells := 0, slots := 0, locals := 0 }) (mPc D vwCl (mT cJ cI cP) bs w [.long a, .long b]) (va_Qi (S := Unit) (fun r _ => r = if a + (-9223372036854775808) < b + (-9223372036854775808) then 1 else 0) (mB D vwCl bs (fun _ => w)) (mA bs)) 0 0 (mA bs) := by
  refine Met.ofW (cc := c_S_isLessUnsigned) (maxL := 4) (ret := (some .boolean)) (by decide) rfl ?_
  intro p e s m args below meth c s₁ B hml hv
  obtain ⟨rfl, hbs, hP, hK⟩ := hv
  have hx := B.exec
  have hb := B.bytes
  have hr := B.returns
  have htg : ∀ w ∈ gt, w.before _ s = true := fun w h => atoms_spec (ws := ws_S_isLessUnsigned) B.pre w (List.mem_cons_of_mem _ h)
  have hown : s.vm.findClass R_S = some m.cls := findClass_of_methodNamed B.named
  have hlocks := B.notSynchronized
  have hS : va_S (mA bs) s.heap s.heap [] := va_S.rf
  have hl := lv_entry ([.long a, .long b]) (n := 4) (Nat.le_of_ble_eq_true rfl)
  rw [lg_entry_eq]
  generalize (lg_sl ([.long a, .long b]) ++ List.replicate (4 - (lg_sl ([.long a, .long b])).length) Slot.unset).toArray = ls at hl ⊢
  have hl : lv_has ls 4 [(0, .long a), (2, .long b)] := hl
  refine lv_lload_n hx hb d_S_isLessUnsigned_0 rfl (lv_at hl 0 rfl) ?_
  refine lv_ldc2 (own := R_S) (v := (-9223372036854775808)) hx hb hown (htg _ k_360) d_S_isLessUnsigned_1 ?_
  refine lv_ladd hx hb d_S_isLessUnsigned_4 ?_
  refine lv_lload_n hx hb d_S_isLessUnsigned_5 rfl (lv_at hl 1 rfl) ?_
  refine lv_ldc2 (own := R_S) (v := (-9223372036854775808)) hx hb hown (htg _ k_360) d_S_isLessUnsigned_6 ?_
  refine lv_ladd hx hb d_S_isLessUnsigned_9 ?_
  refine lc_ge (tgt := 18) hx hb d_S_isLessUnsigned_10 d_S_isLessUnsigned_11 (by decide) (fun c10 => ?_) (fun c10 => ?_)
  · refine lv_iconst (v := 0) hx hb d_S_isLessUnsigned_18 (by decide) ?_
    exact W.zret (v := 0) hx hb hr rfl (fun t ht hW => ⟨⟨_, (), rfl, by first | rw [if_pos (Int64.not_le.mp c10)] | rw [if_neg (Int64.not_lt.mpr c10)], hP.at ht⟩, hS.F ht⟩) hS.2.2 d_S_isLessUnsigned_19
  · refine lv_iconst (v := 1) hx hb d_S_isLessUnsigned_14 (by decide) ?_
    refine lv_goto (tgt := 19) hx hb d_S_isLessUnsigned_15 (by decide) ?_
    exact W.zret (v := 1) hx hb hr rfl (fun t ht hW => ⟨⟨_, (), rfl, by first | rw [if_pos (Int64.not_le.mp c10)] | rw [if_neg (Int64.not_lt.mpr c10)], hP.at ht⟩, hS.F ht⟩) hS.2.2 d_S_isLessUnsigned_19
end
section
abbrev isKd (x : Int32) : Prop := x = 0 ∨ x = 1 ∨ x = 2 ∨ x = 3 ∨ x = 4 ∨ x = 8 ∨ x = 12 ∨ x = 16 ∨ x = 20 ∨ x = 24 ∨ x = 28
def ult (a b : Int64) : Prop := a + (-9223372036854775808) < b + (-9223372036854775808)
def chg (x : Int32) (a b : Int64) : Int64 := if x = 0 then a + b else if x = 4 then a ^^^ b else if x = 8 then a ||| b else if x = 12 then a &&& b else if x = 16 then (if a < b then a else b) else if x = 20 then (if a < b then b else a) else if x = 24 then (if a + (-9223372036854775808) < b + (-9223372036854775808) then a else b) else if x = 28 then (if a + (-9223372036854775808) < b + (-9223372036854775808) then b else a) else b
theorem chg_0 (a b : Int64) : chg (nI 0) a b = a + b := by
  unfold chg
  rw [if_pos (by decide)]
theorem chg_4 (a b : Int64) : chg (nI 4) a b = a ^^^ b := by
  unfold chg
  rw [if_neg (by decide), if_pos (by decide)]
theorem chg_8 (a b : Int64) : chg (nI 8) a b = a ||| b := by
  unfold chg
  rw [if_neg (by decide), if_neg (by decide), if_pos (by decide)]
theorem chg_12 (a b : Int64) : chg (nI 12) a b = a &&& b := by
  unfold chg
  rw [if_neg (by decide), if_neg (by decide), if_neg (by decide), if_pos (by decide)]
theorem chg_16 (a b : Int64) : chg (nI 16) a b = (if a < b then a else b) := by
  unfold chg
  rw [if_neg (by decide), if_neg (by decide), if_neg (by decide), if_neg (by decide), if_pos (by decide)]
theorem chg_20 (a b : Int64) : chg (nI 20) a b = (if a < b then b else a) := by
  unfold chg
  rw [if_neg (by decide), if_neg (by decide), if_neg (by decide), if_neg (by decide), if_neg (by decide), if_pos (by decide)]
theorem chg_24 (a b : Int64) : chg (nI 24) a b = (if a + (-9223372036854775808) < b + (-9223372036854775808) then a else b) := by
  unfold chg
  rw [if_neg (by decide), if_neg (by decide), if_neg (by decide), if_neg (by decide), if_neg (by decide), if_neg (by decide), if_pos (by decide)]
theorem chg_28 (a b : Int64) : chg (nI 28) a b = (if a + (-9223372036854775808) < b + (-9223372036854775808) then b else a) := by
  unfold chg
  rw [if_neg (by decide), if_neg (by decide), if_neg (by decide), if_neg (by decide), if_neg (by decide), if_neg (by decide), if_neg (by decide), if_pos (by decide)]
set_option maxHeartbeats 4000000 in
set_option maxRecDepth 100000 in
theorem t_S_isKind (l : Launch) (D : va_G) (cJ cI cP : ClassId) (bs : Nat) (w : Nat → Option va_E) (x : Int32) : Met l y_S_isKind ws_S_isKind ({ frames := 0, cells := 0, slots := 0, locals := 0 }) (mPc D vwCl (mT cJ cI cP) bs w [.int x]) (va_Qi (S := Unit) (fun r _ => r = if isKd x then 1 else 0) (mB D vwCl bs (fun _ => w)) (mA bs)) 0 0 (mA bs) := by
  refine Met.ofW (cc := c_S_isKind) (maxL := 1) (ret := (some .boolean)) (by decide) rfl ?_
  intro p e s m args below meth c s₁ B hml hv
  obtain ⟨rfl, hbs, hP, hK⟩ := hv
  have hx := B.exec
  have hb := B.bytes
  have hr := B.returns
  have htg : ∀ w ∈ gt, w.before _ s = true := fun w h => atoms_spec (ws := ws_S_isKind) B.pre w (List.mem_cons_of_mem _ h)
  have hown : s.vm.findClass R_S = some m.cls := findClass_of_methodNamed B.named
  have hlocks := B.notSynchronized
  have hS : va_S (mA bs) s.heap s.heap [] := va_S.rf
  have hl := lv_entry ([.int x]) (n := 1) (Nat.le_of_ble_eq_true rfl)
  rw [lg_entry_eq]
  generalize (lg_sl ([.int x]) ++ List.replicate (1 - (lg_sl ([.int x])).length) Slot.unset).toArray = ls at hl ⊢
  have hl : lv_has ls 1 [(0, .int x)] := hl
  refine lv_iload_n hx hb d_S_isKind_0 rfl (lv_at hl 0 rfl) ?_
  rcases pk_ix x (n := 29) (by decide) with csw | csw | ⟨jsw, csw, esw⟩
  · refine lv_tableOut (tgt := 134) hx hb d_S_isKind_1 (Or.inl (by have h := (Int32.lt_iff_toInt_lt).mp csw; exact h)) (by decide) ?_
    refine lv_iconst (v := 0) hx hb d_S_isKind_134 (by decide) ?_
    exact W.zret (v := 0) hx hb hr rfl (fun t ht hW => ⟨⟨_, (), rfl, by rw [if_neg (fun z => by rcases z with rfl | rfl | rfl | rfl | rfl | rfl | rfl | rfl | rfl | rfl | rfl <;> exact absurd csw (by decide))], hP.at ht⟩, hS.F ht⟩) hS.2.2 d_S_isKind_135
  · refine lv_tableOut (tgt := 134) hx hb d_S_isKind_1 (Or.inr (by have h := (Int32.le_iff_toInt_le).mp csw; rw [nI_toInt (by decide)] at h; omega)) (by decide) ?_
    refine lv_iconst (v := 0) hx hb d_S_isKind_134 (by decide) ?_
    exact W.zret (v := 0) hx hb hr rfl (fun t ht hW => ⟨⟨_, (), rfl, by rw [if_neg (fun z => by rcases z with rfl | rfl | rfl | rfl | rfl | rfl | rfl | rfl | rfl | rfl | rfl <;> exact absurd csw (by decide))], hP.at ht⟩, hS.F ht⟩) hS.2.2 d_S_isKind_135
  · rcases (show jsw = 0 ∨ jsw = 1 ∨ jsw = 2 ∨ jsw = 3 ∨ jsw = 4 ∨ jsw = 5 ∨ jsw = 6 ∨ jsw = 7 ∨ jsw = 8 ∨ jsw = 9 ∨ jsw = 10 ∨ jsw = 11 ∨ jsw = 12 ∨ jsw = 13 ∨ jsw = 14 ∨ jsw = 15 ∨ jsw = 16 ∨ jsw = 17 ∨ jsw = 18 ∨ jsw = 19 ∨ jsw = 20 ∨ jsw = 21 ∨ jsw = 22 ∨ jsw = 23 ∨ jsw = 24 ∨ jsw = 25 ∨ jsw = 26 ∨ jsw = 27 ∨ jsw = 28 by omega) with rfl | rfl | rfl | rfl | rfl | rfl | rfl | rfl | rfl | rfl | rfl | rfl | rfl | rfl | rfl | rfl | rfl | rfl | rfl | rfl | rfl | rfl | rfl | rfl | rfl | rfl | rfl | rfl | rfl
    · subst esw
      have hl : lv_has ls 1 [(0, .int (nI 0))] := hl
      refine lv_tableIn (off := 131) (tgt := 132) hx hb d_S_isKind_1 (by decide) (by decide) (by decide) (by decide) ?_
      refine lv_iconst (v := 1) hx hb d_S_isKind_132 (by decide) ?_
      exact W.zret (v := 1) hx hb hr rfl (fun t ht hW => ⟨⟨_, (), rfl, by decide, hP.at ht⟩, hS.F ht⟩) hS.2.2 d_S_isKind_133
    · subst esw
      have hl : lv_has ls 1 [(0, .int (nI 1))] := hl
      refine lv_tableIn (off := 131) (tgt := 132) hx hb d_S_isKind_1 (by decide) (by decide) (by decide) (by decide) ?_
      refine lv_iconst (v := 1) hx hb d_S_isKind_132 (by decide) ?_
      exact W.zret (v := 1) hx hb hr rfl (fun t ht hW => ⟨⟨_, (), rfl, by decide, hP.at ht⟩, hS.F ht⟩) hS.2.2 d_S_isKind_133
    · subst esw
      have hl : lv_has ls 1 [(0, .int (nI 2))] := hl
      refine lv_tableIn (off := 131) (tgt := 132) hx hb d_S_isKind_1 (by decide) (by decide) (by decide) (by decide) ?_
      refine lv_iconst (v := 1) hx hb d_S_isKind_132 (by decide) ?_
      exact W.zret (v := 1) hx hb hr rfl (fun t ht hW => ⟨⟨_, (), rfl, by decide, hP.at ht⟩, hS.F ht⟩) hS.2.2 d_S_isKind_133
    · subst esw
      have hl : lv_has ls 1 [(0, .int (nI 3))] := hl
      refine lv_tableIn (off := 131) (tgt := 132) hx hb d_S_isKind_1 (by decide) (by decide) (by decide) (by decide) ?_
      refine lv_iconst (v := 1) hx hb d_S_isKind_132 (by decide) ?_
      exact W.zret (v := 1) hx hb hr rfl (fun t ht hW => ⟨⟨_, (), rfl, by decide, hP.at ht⟩, hS.F ht⟩) hS.2.2 d_S_isKind_133
    · subst esw
      have hl : lv_has ls 1 [(0, .int (nI 4))] := hl
      refine lv_tableIn (off := 131) (tgt := 132) hx hb d_S_isKind_1 (by decide) (by decide) (by decide) (by decide) ?_
      refine lv_iconst (v := 1) hx hb d_S_isKind_132 (by decide) ?_
      exact W.zret (v := 1) hx hb hr rfl (fun t ht hW => ⟨⟨_, (), rfl, by decide, hP.at ht⟩, hS.F ht⟩) hS.2.2 d_S_isKind_133
    · subst esw
      have hl : lv_has ls 1 [(0, .int (nI 5))] := hl
      refine lv_tableIn (off := 133) (tgt := 134) hx hb d_S_isKind_1 (by decide) (by decide) (by decide) (by decide) ?_
      refine lv_iconst (v := 0) hx hb d_S_isKind_134 (by decide) ?_
      exact W.zret (v := 0) hx hb hr rfl (fun t ht hW => ⟨⟨_, (), rfl, by decide, hP.at ht⟩, hS.F ht⟩) hS.2.2 d_S_isKind_135
    · subst esw
      have hl : lv_has ls 1 [(0, .int (nI 6))] := hl
      refine lv_tableIn (off := 133) (tgt := 134) hx hb d_S_isKind_1 (by decide) (by decide) (by decide) (by decide) ?_
      refine lv_iconst (v := 0) hx hb d_S_isKind_134 (by decide) ?_
      exact W.zret (v := 0) hx hb hr rfl (fun t ht hW => ⟨⟨_, (), rfl, by decide, hP.at ht⟩, hS.F ht⟩) hS.2.2 d_S_isKind_135
    · subst esw
      have hl : lv_has ls 1 [(0, .int (nI 7))] := hl
      refine lv_tableIn (off := 133) (tgt := 134) hx hb d_S_isKind_1 (by decide) (by decide) (by decide) (by decide) ?_
      refine lv_iconst (v := 0) hx hb d_S_isKind_134 (by decide) ?_
      exact W.zret (v := 0) hx hb hr rfl (fun t ht hW => ⟨⟨_, (), rfl, by decide, hP.at ht⟩, hS.F ht⟩) hS.2.2 d_S_isKind_135
    · subst esw
      have hl : lv_has ls 1 [(0, .int (nI 8))] := hl
      refine lv_tableIn (off := 131) (tgt := 132) hx hb d_S_isKind_1 (by decide) (by decide) (by decide) (by decide) ?_
      refine lv_iconst (v := 1) hx hb d_S_isKind_132 (by decide) ?_
      exact W.zret (v := 1) hx hb hr rfl (fun t ht hW => ⟨⟨_, (), rfl, by decide, hP.at ht⟩, hS.F ht⟩) hS.2.2 d_S_isKind_133
    · subst esw
      have hl : lv_has ls 1 [(0, .int (nI 9))] := hl
      refine lv_tableIn (off := 133) (tgt := 134) hx hb d_S_isKind_1 (by decide) (by decide) (by decide) (by decide) ?_
      refine lv_iconst (v := 0) hx hb d_S_isKind_134 (by decide) ?_
      exact W.zret (v := 0) hx hb hr rfl (fun t ht hW => ⟨⟨_, (), rfl, by decide, hP.at ht⟩, hS.F ht⟩) hS.2.2 d_S_isKind_135
    · subst esw
      have hl : lv_has ls 1 [(0, .int (nI 10))] := hl
      refine lv_tableIn (off := 133) (tgt := 134) hx hb d_S_isKind_1 (by decide) (by decide) (by decide) (by decide) ?_
      refine lv_iconst (v := 0) hx hb d_S_isKind_134 (by decide) ?_
      exact W.zret (v := 0) hx hb hr rfl (fun t ht hW => ⟨⟨_, (), rfl, by decide, hP.at ht⟩, hS.F ht⟩) hS.2.2 d_S_isKind_135
    · subst esw
      have hl : lv_has ls 1 [(0, .int (nI 11))] := hl
      refine lv_tableIn (off := 133) (tgt := 134) hx hb d_S_isKind_1 (by decide) (by decide) (by decide) (by decide) ?_
      refine lv_iconst (v := 0) hx hb d_S_isKind_134 (by decide) ?_
      exact W.zret (v := 0) hx hb hr rfl (fun t ht hW => ⟨⟨_, (), rfl, by decide, hP.at ht⟩, hS.F ht⟩) hS.2.2 d_S_isKind_135
    · subst esw
      have hl : lv_has ls 1 [(0, .int (nI 12))] := hl
      refine lv_tableIn (off := 131) (tgt := 132) hx hb d_S_isKind_1 (by decide) (by decide) (by decide) (by decide) ?_
      refine lv_iconst (v := 1) hx hb d_S_isKind_132 (by decide) ?_
      exact W.zret (v := 1) hx hb hr rfl (fun t ht hW => ⟨⟨_, (), rfl, by decide, hP.at ht⟩, hS.F ht⟩) hS.2.2 d_S_isKind_133
    · subst esw
      have hl : lv_has ls 1 [(0, .int (nI 13))] := hl
      refine lv_tableIn (off := 133) (tgt := 134) hx hb d_S_isKind_1 (by decide) (by decide) (by decide) (by decide) ?_
      refine lv_iconst (v := 0) hx hb d_S_isKind_134 (by decide) ?_
      exact W.zret (v := 0) hx hb hr rfl (fun t ht hW => ⟨⟨_, (), rfl, by decide, hP.at ht⟩, hS.F ht⟩) hS.2.2 d_S_isKind_135
    · subst esw
      have hl : lv_has ls 1 [(0, .int (nI 14))] := hl
      refine lv_tableIn (off := 133) (tgt := 134) hx hb d_S_isKind_1 (by decide) (by decide) (by decide) (by decide) ?_
      refine lv_iconst (v := 0) hx hb d_S_isKind_134 (by decide) ?_
      exact W.zret (v := 0) hx hb hr rfl (fun t ht hW => ⟨⟨_, (), rfl, by decide, hP.at ht⟩, hS.F ht⟩) hS.2.2 d_S_isKind_135
    · subst esw
      have hl : lv_has ls 1 [(0, .int (nI 15))] := hl
      refine lv_tableIn (off := 133) (tgt := 134) hx hb d_S_isKind_1 (by decide) (by decide) (by decide) (by decide) ?_
      refine lv_iconst (v := 0) hx hb d_S_isKind_134 (by decide) ?_
      exact W.zret (v := 0) hx hb hr rfl (fun t ht hW => ⟨⟨_, (), rfl, by decide, hP.at ht⟩, hS.F ht⟩) hS.2.2 d_S_isKind_135
    · subst esw
      have hl : lv_has ls 1 [(0, .int (nI 16))] := hl
      refine lv_tableIn (off := 131) (tgt := 132) hx hb d_S_isKind_1 (by decide) (by decide) (by decide) (by decide) ?_
      refine lv_iconst (v := 1) hx hb d_S_isKind_132 (by decide) ?_
      exact W.zret (v := 1) hx hb hr rfl (fun t ht hW => ⟨⟨_, (), rfl, by decide, hP.at ht⟩, hS.F ht⟩) hS.2.2 d_S_isKind_133
    · subst esw
      have hl : lv_has ls 1 [(0, .int (nI 17))] := hl
      refine lv_tableIn (off := 133) (tgt := 134) hx hb d_S_isKind_1 (by decide) (by decide) (by decide) (by decide) ?_
      refine lv_iconst (v := 0) hx hb d_S_isKind_134 (by decide) ?_
      exact W.zret (v := 0) hx hb hr rfl (fun t ht hW => ⟨⟨_, (), rfl, by decide, hP.at ht⟩, hS.F ht⟩) hS.2.2 d_S_isKind_135
    · subst esw
      have hl : lv_has ls 1 [(0, .int (nI 18))] := hl
      refine lv_tableIn (off := 133) (tgt := 134) hx hb d_S_isKind_1 (by decide) (by decide) (by decide) (by decide) ?_
      refine lv_iconst (v := 0) hx hb d_S_isKind_134 (by decide) ?_
      exact W.zret (v := 0) hx hb hr rfl (fun t ht hW => ⟨⟨_, (), rfl, by decide, hP.at ht⟩, hS.F ht⟩) hS.2.2 d_S_isKind_135
    · subst esw
      have hl : lv_has ls 1 [(0, .int (nI 19))] := hl
      refine lv_tableIn (off := 133) (tgt := 134) hx hb d_S_isKind_1 (by decide) (by decide) (by decide) (by decide) ?_
      refine lv_iconst (v := 0) hx hb d_S_isKind_134 (by decide) ?_
      exact W.zret (v := 0) hx hb hr rfl (fun t ht hW => ⟨⟨_, (), rfl, by decide, hP.at ht⟩, hS.F ht⟩) hS.2.2 d_S_isKind_135
    · subst esw
      have hl : lv_has ls 1 [(0, .int (nI 20))] := hl
      refine lv_tableIn (off := 131) (tgt := 132) hx hb d_S_isKind_1 (by decide) (by decide) (by decide) (by decide) ?_
      refine lv_iconst (v := 1) hx hb d_S_isKind_132 (by decide) ?_
      exact W.zret (v := 1) hx hb hr rfl (fun t ht hW => ⟨⟨_, (), rfl, by decide, hP.at ht⟩, hS.F ht⟩) hS.2.2 d_S_isKind_133
    · subst esw
      have hl : lv_has ls 1 [(0, .int (nI 21))] := hl
      refine lv_tableIn (off := 133) (tgt := 134) hx hb d_S_isKind_1 (by decide) (by decide) (by decide) (by decide) ?_
      refine lv_iconst (v := 0) hx hb d_S_isKind_134 (by decide) ?_
      exact W.zret (v := 0) hx hb hr rfl (fun t ht hW => ⟨⟨_, (), rfl, by decide, hP.at ht⟩, hS.F ht⟩) hS.2.2 d_S_isKind_135
    · subst esw
      have hl : lv_has ls 1 [(0, .int (nI 22))] := hl
      refine lv_tableIn (off := 133) (tgt := 134) hx hb d_S_isKind_1 (by decide) (by decide) (by decide) (by decide) ?_
      refine lv_iconst (v := 0) hx hb d_S_isKind_134 (by decide) ?_
      exact W.zret (v := 0) hx hb hr rfl (fun t ht hW => ⟨⟨_, (), rfl, by decide, hP.at ht⟩, hS.F ht⟩) hS.2.2 d_S_isKind_135
    · subst esw
      have hl : lv_has ls 1 [(0, .int (nI 23))] := hl
      refine lv_tableIn (off := 133) (tgt := 134) hx hb d_S_isKind_1 (by decide) (by decide) (by decide) (by decide) ?_
      refine lv_iconst (v := 0) hx hb d_S_isKind_134 (by decide) ?_
      exact W.zret (v := 0) hx hb hr rfl (fun t ht hW => ⟨⟨_, (), rfl, by decide, hP.at ht⟩, hS.F ht⟩) hS.2.2 d_S_isKind_135
    · subst esw
      have hl : lv_has ls 1 [(0, .int (nI 24))] := hl
      refine lv_tableIn (off := 131) (tgt := 132) hx hb d_S_isKind_1 (by decide) (by decide) (by decide) (by decide) ?_
      refine lv_iconst (v := 1) hx hb d_S_isKind_132 (by decide) ?_
      exact W.zret (v := 1) hx hb hr rfl (fun t ht hW => ⟨⟨_, (), rfl, by decide, hP.at ht⟩, hS.F ht⟩) hS.2.2 d_S_isKind_133
    · subst esw
      have hl : lv_has ls 1 [(0, .int (nI 25))] := hl
      refine lv_tableIn (off := 133) (tgt := 134) hx hb d_S_isKind_1 (by decide) (by decide) (by decide) (by decide) ?_
      refine lv_iconst (v := 0) hx hb d_S_isKind_134 (by decide) ?_
      exact W.zret (v := 0) hx hb hr rfl (fun t ht hW => ⟨⟨_, (), rfl, by decide, hP.at ht⟩, hS.F ht⟩) hS.2.2 d_S_isKind_135
    · subst esw
      have hl : lv_has ls 1 [(0, .int (nI 26))] := hl
      refine lv_tableIn (off := 133) (tgt := 134) hx hb d_S_isKind_1 (by decide) (by decide) (by decide) (by decide) ?_
      refine lv_iconst (v := 0) hx hb d_S_isKind_134 (by decide) ?_
      exact W.zret (v := 0) hx hb hr rfl (fun t ht hW => ⟨⟨_, (), rfl, by decide, hP.at ht⟩, hS.F ht⟩) hS.2.2 d_S_isKind_135
    · subst esw
      have hl : lv_has ls 1 [(0, .int (nI 27))] := hl
      refine lv_tableIn (off := 133) (tgt := 134) hx hb d_S_isKind_1 (by decide) (by decide) (by decide) (by decide) ?_
      refine lv_iconst (v := 0) hx hb d_S_isKind_134 (by decide) ?_
      exact W.zret (v := 0) hx hb hr rfl (fun t ht hW => ⟨⟨_, (), rfl, by decide, hP.at ht⟩, hS.F ht⟩) hS.2.2 d_S_isKind_135
    · subst esw
      have hl : lv_has ls 1 [(0, .int (nI 28))] := hl
      refine lv_tableIn (off := 131) (tgt := 132) hx hb d_S_isKind_1 (by decide) (by decide) (by decide) (by decide) ?_
      refine lv_iconst (v := 1) hx hb d_S_isKind_132 (by decide) ?_
      exact W.zret (v := 1) hx hb hr rfl (fun t ht hW => ⟨⟨_, (), rfl, by decide, hP.at ht⟩, hS.F ht⟩) hS.2.2 d_S_isKind_133
set_option maxHeartbeats 4000000 in
set_option maxRecDepth 100000 in
theorem t_S_changed (l : Launch) (D : va_G) (cJ cI cP : ClassId) (bs : Nat) (w : Nat → Option va_E) (x : Int32) (a b : Int64) : Met l y_S_changed ws_S_changed ({ frames := 1, cells := 0, slots := 0, locals := 30 }) (mPc D vwCl (mT cJ cI cP) bs w [.int x, .long a, .long b]) (va_Ql (S := Unit) (fun r _ => r = chg x a b) (mB D vwCl bs (fun _ => w)) (mA bs)) 0 0 (mA bs) := by
  refine Met.ofW (cc := c_S_changed) (maxL := 5) (ret := (some .long)) (by decide) rfl ?_
  intro p e s m args below meth c s₁ B hml hv
  obtain ⟨rfl, hbs, hP, hK⟩ := hv
  have hx := B.exec
  have hb := B.bytes
  have hr := B.returns
  have htg : ∀ w ∈ gt, w.before _ s = true := fun w h => atoms_spec (ws := ws_S_changed) B.pre w (List.mem_cons_of_mem _ h)
  have hown : s.vm.findClass R_S = some m.cls := findClass_of_methodNamed B.named
  have hlocks := B.notSynchronized
  have hS : va_S (mA bs) s.heap s.heap [] := va_S.rf
  have hl := lv_entry ([.int x, .long a, .long b]) (n := 5) (Nat.le_of_ble_eq_true rfl)
  rw [lg_entry_eq]
  generalize (lg_sl ([.int x, .long a, .long b]) ++ List.replicate (5 - (lg_sl ([.int x, .long a, .long b])).length) Slot.unset).toArray = ls at hl ⊢
  have hl : lv_has ls 5 [(0, .int x), (1, .long a), (3, .long b)] := hl
  refine lv_iload_n hx hb d_S_changed_0 rfl (lv_at hl 0 rfl) ?_
  rcases pk_ix x (n := 29) (by decide) with csw | csw | ⟨jsw, csw, esw⟩
  · refine lv_tableOut (tgt := 188) hx hb d_S_changed_1 (Or.inl (by have h := (Int32.lt_iff_toInt_lt).mp csw; exact h)) (by decide) ?_
    refine lv_lload_n hx hb d_S_changed_188 rfl (lv_at hl 2 rfl) ?_
    exact W.lret (v := b) hx hb hr (fun t ht hW => ⟨⟨_, (), rfl, by unfold chg; repeat rw [if_neg (fun z => by rw [z] at csw; exact absurd csw (by decide))], hP.at ht⟩, hS.F ht⟩) hS.2.2 d_S_changed_189
  · refine lv_tableOut (tgt := 188) hx hb d_S_changed_1 (Or.inr (by have h := (Int32.le_iff_toInt_le).mp csw; rw [nI_toInt (by decide)] at h; omega)) (by decide) ?_
    refine lv_lload_n hx hb d_S_changed_188 rfl (lv_at hl 2 rfl) ?_
    exact W.lret (v := b) hx hb hr (fun t ht hW => ⟨⟨_, (), rfl, by unfold chg; repeat rw [if_neg (fun z => by rw [z] at csw; exact absurd csw (by decide))], hP.at ht⟩, hS.F ht⟩) hS.2.2 d_S_changed_189
  · rcases (show jsw = 0 ∨ jsw = 1 ∨ jsw = 2 ∨ jsw = 3 ∨ jsw = 4 ∨ jsw = 5 ∨ jsw = 6 ∨ jsw = 7 ∨ jsw = 8 ∨ jsw = 9 ∨ jsw = 10 ∨ jsw = 11 ∨ jsw = 12 ∨ jsw = 13 ∨ jsw = 14 ∨ jsw = 15 ∨ jsw = 16 ∨ jsw = 17 ∨ jsw = 18 ∨ jsw = 19 ∨ jsw = 20 ∨ jsw = 21 ∨ jsw = 22 ∨ jsw = 23 ∨ jsw = 24 ∨ jsw = 25 ∨ jsw = 26 ∨ jsw = 27 ∨ jsw = 28 by omega) with rfl | rfl | rfl | rfl | rfl | rfl | rfl | rfl | rfl | rfl | rfl | rfl | rfl | rfl | rfl | rfl | rfl | rfl | rfl | rfl | rfl | rfl | rfl | rfl | rfl | rfl | rfl | rfl | rfl
    · subst esw
      have hl : lv_has ls 5 [(0, .int (nI 0)), (1, .long a), (3, .long b)] := hl
      refine lv_tableIn (off := 131) (tgt := 132) hx hb d_S_changed_1 (by decide) (by decide) (by decide) (by decide) ?_
      refine lv_lload_n hx hb d_S_changed_132 rfl (lv_at hl 1 rfl) ?_
      refine lv_lload_n hx hb d_S_changed_133 rfl (lv_at hl 2 rfl) ?_
      refine lv_ladd hx hb d_S_changed_134 ?_
      exact W.lret (v := a + b) hx hb hr (fun t ht hW => ⟨⟨_, (), rfl, by unfold chg; rfl, hP.at ht⟩, hS.F ht⟩) hS.2.2 d_S_changed_135
    · subst esw
      have hl : lv_has ls 5 [(0, .int (nI 1)), (1, .long a), (3, .long b)] := hl
      refine lv_tableIn (off := 187) (tgt := 188) hx hb d_S_changed_1 (by decide) (by decide) (by decide) (by decide) ?_
      refine lv_lload_n hx hb d_S_changed_188 rfl (lv_at hl 2 rfl) ?_
      exact W.lret (v := b) hx hb hr (fun t ht hW => ⟨⟨_, (), rfl, by unfold chg; rfl, hP.at ht⟩, hS.F ht⟩) hS.2.2 d_S_changed_189
    · subst esw
      have hl : lv_has ls 5 [(0, .int (nI 2)), (1, .long a), (3, .long b)] := hl
      refine lv_tableIn (off := 187) (tgt := 188) hx hb d_S_changed_1 (by decide) (by decide) (by decide) (by decide) ?_
      refine lv_lload_n hx hb d_S_changed_188 rfl (lv_at hl 2 rfl) ?_
      exact W.lret (v := b) hx hb hr (fun t ht hW => ⟨⟨_, (), rfl, by unfold chg; rfl, hP.at ht⟩, hS.F ht⟩) hS.2.2 d_S_changed_189
    · subst esw
      have hl : lv_has ls 5 [(0, .int (nI 3)), (1, .long a), (3, .long b)] := hl
      refine lv_tableIn (off := 187) (tgt := 188) hx hb d_S_changed_1 (by decide) (by decide) (by decide) (by decide) ?_
      refine lv_lload_n hx hb d_S_changed_188 rfl (lv_at hl 2 rfl) ?_
      exact W.lret (v := b) hx hb hr (fun t ht hW => ⟨⟨_, (), rfl, by unfold chg; rfl, hP.at ht⟩, hS.F ht⟩) hS.2.2 d_S_changed_189
    · subst esw
      have hl : lv_has ls 5 [(0, .int (nI 4)), (1, .long a), (3, .long b)] := hl
      refine lv_tableIn (off := 135) (tgt := 136) hx hb d_S_changed_1 (by decide) (by decide) (by decide) (by decide) ?_
      refine lv_lload_n hx hb d_S_changed_136 rfl (lv_at hl 1 rfl) ?_
      refine lv_lload_n hx hb d_S_changed_137 rfl (lv_at hl 2 rfl) ?_
      refine lv_lxor hx hb d_S_changed_138 ?_
      exact W.lret (v := a ^^^ b) hx hb hr (fun t ht hW => ⟨⟨_, (), rfl, by unfold chg; rfl, hP.at ht⟩, hS.F ht⟩) hS.2.2 d_S_changed_139
    · subst esw
      have hl : lv_has ls 5 [(0, .int (nI 5)), (1, .long a), (3, .long b)] := hl
      refine lv_tableIn (off := 187) (tgt := 188) hx hb d_S_changed_1 (by decide) (by decide) (by decide) (by decide) ?_
      refine lv_lload_n hx hb d_S_changed_188 rfl (lv_at hl 2 rfl) ?_
      exact W.lret (v := b) hx hb hr (fun t ht hW => ⟨⟨_, (), rfl, by unfold chg; rfl, hP.at ht⟩, hS.F ht⟩) hS.2.2 d_S_changed_189
    · subst esw
      have hl : lv_has ls 5 [(0, .int (nI 6)), (1, .long a), (3, .long b)] := hl
      refine lv_tableIn (off := 187) (tgt := 188) hx hb d_S_changed_1 (by decide) (by decide) (by decide) (by decide) ?_
      refine lv_lload_n hx hb d_S_changed_188 rfl (lv_at hl 2 rfl) ?_
      exact W.lret (v := b) hx hb hr (fun t ht hW => ⟨⟨_, (), rfl, by unfold chg; rfl, hP.at ht⟩, hS.F ht⟩) hS.2.2 d_S_changed_189
    · subst esw
      have hl : lv_has ls 5 [(0, .int (nI 7)), (1, .long a), (3, .long b)] := hl
      refine lv_tableIn (off := 187) (tgt := 188) hx hb d_S_changed_1 (by decide) (by decide) (by decide) (by decide) ?_
      refine lv_lload_n hx hb d_S_changed_188 rfl (lv_at hl 2 rfl) ?_
      exact W.lret (v := b) hx hb hr (fun t ht hW => ⟨⟨_, (), rfl, by unfold chg; rfl, hP.at ht⟩, hS.F ht⟩) hS.2.2 d_S_changed_189
    · subst esw
      have hl : lv_has ls 5 [(0, .int (nI 8)), (1, .long a), (3, .long b)] := hl
      refine lv_tableIn (off := 139) (tgt := 140) hx hb d_S_changed_1 (by decide) (by decide) (by decide) (by decide) ?_
      refine lv_lload_n hx hb d_S_changed_140 rfl (lv_at hl 1 rfl) ?_
      refine lv_lload_n hx hb d_S_changed_141 rfl (lv_at hl 2 rfl) ?_
      refine lv_lor hx hb d_S_changed_142 ?_
      exact W.lret (v := a ||| b) hx hb hr (fun t ht hW => ⟨⟨_, (), rfl, by unfold chg; rfl, hP.at ht⟩, hS.F ht⟩) hS.2.2 d_S_changed_143
    · subst esw
      have hl : lv_has ls 5 [(0, .int (nI 9)), (1, .long a), (3, .long b)] := hl
      refine lv_tableIn (off := 187) (tgt := 188) hx hb d_S_changed_1 (by decide) (by decide) (by decide) (by decide) ?_
      refine lv_lload_n hx hb d_S_changed_188 rfl (lv_at hl 2 rfl) ?_
      exact W.lret (v := b) hx hb hr (fun t ht hW => ⟨⟨_, (), rfl, by unfold chg; rfl, hP.at ht⟩, hS.F ht⟩) hS.2.2 d_S_changed_189
    · subst esw
      have hl : lv_has ls 5 [(0, .int (nI 10)), (1, .long a), (3, .long b)] := hl
      refine lv_tableIn (off := 187) (tgt := 188) hx hb d_S_changed_1 (by decide) (by decide) (by decide) (by decide) ?_
      refine lv_lload_n hx hb d_S_changed_188 rfl (lv_at hl 2 rfl) ?_
      exact W.lret (v := b) hx hb hr (fun t ht hW => ⟨⟨_, (), rfl, by unfold chg; rfl, hP.at ht⟩, hS.F ht⟩) hS.2.2 d_S_changed_189
    · subst esw
      have hl : lv_has ls 5 [(0, .int (nI 11)), (1, .long a), (3, .long b)] := hl
      refine lv_tableIn (off := 187) (tgt := 188) hx hb d_S_changed_1 (by decide) (by decide) (by decide) (by decide) ?_
      refine lv_lload_n hx hb d_S_changed_188 rfl (lv_at hl 2 rfl) ?_
      exact W.lret (v := b) hx hb hr (fun t ht hW => ⟨⟨_, (), rfl, by unfold chg; rfl, hP.at ht⟩, hS.F ht⟩) hS.2.2 d_S_changed_189
    · subst esw
      have hl : lv_has ls 5 [(0, .int (nI 12)), (1, .long a), (3, .long b)] := hl
      refine lv_tableIn (off := 143) (tgt := 144) hx hb d_S_changed_1 (by decide) (by decide) (by decide) (by decide) ?_
      refine lv_lload_n hx hb d_S_changed_144 rfl (lv_at hl 1 rfl) ?_
      refine lv_lload_n hx hb d_S_changed_145 rfl (lv_at hl 2 rfl) ?_
      refine lv_land hx hb d_S_changed_146 ?_
      exact W.lret (v := a &&& b) hx hb hr (fun t ht hW => ⟨⟨_, (), rfl, by unfold chg; rfl, hP.at ht⟩, hS.F ht⟩) hS.2.2 d_S_changed_147
    · subst esw
      have hl : lv_has ls 5 [(0, .int (nI 13)), (1, .long a), (3, .long b)] := hl
      refine lv_tableIn (off := 187) (tgt := 188) hx hb d_S_changed_1 (by decide) (by decide) (by decide) (by decide) ?_
      refine lv_lload_n hx hb d_S_changed_188 rfl (lv_at hl 2 rfl) ?_
      exact W.lret (v := b) hx hb hr (fun t ht hW => ⟨⟨_, (), rfl, by unfold chg; rfl, hP.at ht⟩, hS.F ht⟩) hS.2.2 d_S_changed_189
    · subst esw
      have hl : lv_has ls 5 [(0, .int (nI 14)), (1, .long a), (3, .long b)] := hl
      refine lv_tableIn (off := 187) (tgt := 188) hx hb d_S_changed_1 (by decide) (by decide) (by decide) (by decide) ?_
      refine lv_lload_n hx hb d_S_changed_188 rfl (lv_at hl 2 rfl) ?_
      exact W.lret (v := b) hx hb hr (fun t ht hW => ⟨⟨_, (), rfl, by unfold chg; rfl, hP.at ht⟩, hS.F ht⟩) hS.2.2 d_S_changed_189
    · subst esw
      have hl : lv_has ls 5 [(0, .int (nI 15)), (1, .long a), (3, .long b)] := hl
      refine lv_tableIn (off := 187) (tgt := 188) hx hb d_S_changed_1 (by decide) (by decide) (by decide) (by decide) ?_
      refine lv_lload_n hx hb d_S_changed_188 rfl (lv_at hl 2 rfl) ?_
      exact W.lret (v := b) hx hb hr (fun t ht hW => ⟨⟨_, (), rfl, by unfold chg; rfl, hP.at ht⟩, hS.F ht⟩) hS.2.2 d_S_changed_189
    · subst esw
      have hl : lv_has ls 5 [(0, .int (nI 16)), (1, .long a), (3, .long b)] := hl
      refine lv_tableIn (off := 147) (tgt := 148) hx hb d_S_changed_1 (by decide) (by decide) (by decide) (by decide) ?_
      refine lv_lload_n hx hb d_S_changed_148 rfl (lv_at hl 1 rfl) ?_
      refine lv_lload_n hx hb d_S_changed_149 rfl (lv_at hl 2 rfl) ?_
      refine va_mmin_long (own := R_S) hx hb (hml.trans hl.1.symm) hown (htg _ k_351) (htg _ k_352) (htg _ k_34) (htg _ k_353) (Nat.le_of_ble_eq_true rfl) (Nat.le_of_ble_eq_true rfl) (Nat.le_of_ble_eq_true rfl) (Nat.le_of_ble_eq_true rfl) d_S_changed_150 ?_
      have hmm : (if b < a then b else a) = chg (nI 16) a b := by
        rw [chg_16]
        by_cases h1 : b < a
        · rw [if_pos h1, if_neg (Int64.not_lt.mpr (Int64.le_of_lt h1))]
        · rw [if_neg h1]
          by_cases h2 : a < b
          · rw [if_pos h2]
          · rw [if_neg h2]; first | exact Int64.le_antisymm (Int64.not_lt.mp h1) (Int64.not_lt.mp h2) | exact Int64.le_antisymm (Int64.not_lt.mp h2) (Int64.not_lt.mp h1) | rfl
      exact W.lret (v := if b < a then b else a) hx hb hr (fun t ht hW => ⟨⟨_, (), rfl, hmm, hP.at ht⟩, hS.F ht⟩) hS.2.2 d_S_changed_153
    · subst esw
      have hl : lv_has ls 5 [(0, .int (nI 17)), (1, .long a), (3, .long b)] := hl
      refine lv_tableIn (off := 187) (tgt := 188) hx hb d_S_changed_1 (by decide) (by decide) (by decide) (by decide) ?_
      refine lv_lload_n hx hb d_S_changed_188 rfl (lv_at hl 2 rfl) ?_
      exact W.lret (v := b) hx hb hr (fun t ht hW => ⟨⟨_, (), rfl, by unfold chg; rfl, hP.at ht⟩, hS.F ht⟩) hS.2.2 d_S_changed_189
    · subst esw
      have hl : lv_has ls 5 [(0, .int (nI 18)), (1, .long a), (3, .long b)] := hl
      refine lv_tableIn (off := 187) (tgt := 188) hx hb d_S_changed_1 (by decide) (by decide) (by decide) (by decide) ?_
      refine lv_lload_n hx hb d_S_changed_188 rfl (lv_at hl 2 rfl) ?_
      exact W.lret (v := b) hx hb hr (fun t ht hW => ⟨⟨_, (), rfl, by unfold chg; rfl, hP.at ht⟩, hS.F ht⟩) hS.2.2 d_S_changed_189
    · subst esw
      have hl : lv_has ls 5 [(0, .int (nI 19)), (1, .long a), (3, .long b)] := hl
      refine lv_tableIn (off := 187) (tgt := 188) hx hb d_S_changed_1 (by decide) (by decide) (by decide) (by decide) ?_
      refine lv_lload_n hx hb d_S_changed_188 rfl (lv_at hl 2 rfl) ?_
      exact W.lret (v := b) hx hb hr (fun t ht hW => ⟨⟨_, (), rfl, by unfold chg; rfl, hP.at ht⟩, hS.F ht⟩) hS.2.2 d_S_changed_189
    · subst esw
      have hl : lv_has ls 5 [(0, .int (nI 20)), (1, .long a), (3, .long b)] := hl
      refine lv_tableIn (off := 153) (tgt := 154) hx hb d_S_changed_1 (by decide) (by decide) (by decide) (by decide) ?_
      refine lv_lload_n hx hb d_S_changed_154 rfl (lv_at hl 1 rfl) ?_
      refine lv_lload_n hx hb d_S_changed_155 rfl (lv_at hl 2 rfl) ?_
      refine va_mmax_long (own := R_S) hx hb (hml.trans hl.1.symm) hown (htg _ k_354) (htg _ k_355) (htg _ k_34) (htg _ k_356) (Nat.le_of_ble_eq_true rfl) (Nat.le_of_ble_eq_true rfl) (Nat.le_of_ble_eq_true rfl) (Nat.le_of_ble_eq_true rfl) d_S_changed_156 ?_
      have hmm : (if b < a then a else b) = chg (nI 20) a b := by
        rw [chg_20]
        by_cases h1 : b < a
        · rw [if_pos h1, if_neg (Int64.not_lt.mpr (Int64.le_of_lt h1))]
        · rw [if_neg h1]
          by_cases h2 : a < b
          · rw [if_pos h2]
          · rw [if_neg h2]; first | exact Int64.le_antisymm (Int64.not_lt.mp h1) (Int64.not_lt.mp h2) | exact Int64.le_antisymm (Int64.not_lt.mp h2) (Int64.not_lt.mp h1) | rfl
      exact W.lret (v := if b < a then a else b) hx hb hr (fun t ht hW => ⟨⟨_, (), rfl, hmm, hP.at ht⟩, hS.F ht⟩) hS.2.2 d_S_changed_159
    · subst esw
      have hl : lv_has ls 5 [(0, .int (nI 21)), (1, .long a), (3, .long b)] := hl
      refine lv_tableIn (off := 187) (tgt := 188) hx hb d_S_changed_1 (by decide) (by decide) (by decide) (by decide) ?_
      refine lv_lload_n hx hb d_S_changed_188 rfl (lv_at hl 2 rfl) ?_
      exact W.lret (v := b) hx hb hr (fun t ht hW => ⟨⟨_, (), rfl, by unfold chg; rfl, hP.at ht⟩, hS.F ht⟩) hS.2.2 d_S_changed_189
    · subst esw
      have hl : lv_has ls 5 [(0, .int (nI 22)), (1, .long a), (3, .long b)] := hl
      refine lv_tableIn (off := 187) (tgt := 188) hx hb d_S_changed_1 (by decide) (by decide) (by decide) (by decide) ?_
      refine lv_lload_n hx hb d_S_changed_188 rfl (lv_at hl 2 rfl) ?_
      exact W.lret (v := b) hx hb hr (fun t ht hW => ⟨⟨_, (), rfl, by unfold chg; rfl, hP.at ht⟩, hS.F ht⟩) hS.2.2 d_S_changed_189
    · subst esw
      have hl : lv_has ls 5 [(0, .int (nI 23)), (1, .long a), (3, .long b)] := hl
      refine lv_tableIn (off := 187) (tgt := 188) hx hb d_S_changed_1 (by decide) (by decide) (by decide) (by decide) ?_
      refine lv_lload_n hx hb d_S_changed_188 rfl (lv_at hl 2 rfl) ?_
      exact W.lret (v := b) hx hb hr (fun t ht hW => ⟨⟨_, (), rfl, by unfold chg; rfl, hP.at ht⟩, hS.F ht⟩) hS.2.2 d_S_changed_189
    · subst esw
      have hl : lv_has ls 5 [(0, .int (nI 24)), (1, .long a), (3, .long b)] := hl
      refine lv_tableIn (off := 159) (tgt := 160) hx hb d_S_changed_1 (by decide) (by decide) (by decide) (by decide) ?_
      refine lv_lload_n hx hb d_S_changed_160 rfl (lv_at hl 1 rfl) ?_
      refine lv_lload_n hx hb d_S_changed_161 rfl (lv_at hl 2 rfl) ?_
      refine mc_i (va_runS (As := [.long a, .long b]) (rest := []) ⟨hx, hb, hml, hown, htg⟩ (t_S_isLessUnsigned l D cJ cI cP bs w a b) (cwS (own := R_S) 2 htg (ginS k_357 k_358 k_25 k_359) rfl rfl rfl (by decide +kernel) ⟨Nat.le_of_ble_eq_true rfl, Nat.le_of_ble_eq_true rfl⟩) (mPc.preS hbs hS hP hK) rfl rfl hl.1 rfl (lv_room (Nat.le_of_ble_eq_true rfl)) d_S_changed_162 ⟨Nat.le_of_ble_eq_true rfl, Nat.le_of_ble_eq_true rfl⟩) hS (fun r162 u162 H locs hw hP hz162 hS => ?_)
      refine lv_if_eq (tgt := 172) hx hb d_S_changed_165 (by decide) (fun c165 => ?_) (fun c165 => ?_)
      · refine lv_lload_n hx hb d_S_changed_172 rfl (lv_at hl 2 rfl) ?_
        have hmm : b = chg (nI 24) a b := by
          rw [chg_24]
          by_cases h1 : a + (-9223372036854775808) < b + (-9223372036854775808)
          · first | (rw [if_pos h1]; done) | (rw [if_pos h1] at hw; exact absurd (hw.symm.trans c165) (by decide))
          · first | (rw [if_neg h1]; done) | (rw [if_neg h1] at hw; exact absurd hw c165)
        exact W.lret (v := b) hx hb hr (fun t ht hW => ⟨⟨_, (), rfl, hmm, hP.at ht⟩, hS.F ht⟩) hS.2.2 d_S_changed_173
      · refine lv_lload_n hx hb d_S_changed_168 rfl (lv_at hl 1 rfl) ?_
        refine lv_goto (tgt := 173) hx hb d_S_changed_169 (by decide) ?_
        have hmm : a = chg (nI 24) a b := by
          rw [chg_24]
          by_cases h1 : a + (-9223372036854775808) < b + (-9223372036854775808)
          · first | (rw [if_pos h1]; done) | (rw [if_pos h1] at hw; exact absurd (hw.symm.trans c165) (by decide))
          · first | (rw [if_neg h1]; done) | (rw [if_neg h1] at hw; exact absurd hw c165)
        exact W.lret (v := a) hx hb hr (fun t ht hW => ⟨⟨_, (), rfl, hmm, hP.at ht⟩, hS.F ht⟩) hS.2.2 d_S_changed_173
    · subst esw
      have hl : lv_has ls 5 [(0, .int (nI 25)), (1, .long a), (3, .long b)] := hl
      refine lv_tableIn (off := 187) (tgt := 188) hx hb d_S_changed_1 (by decide) (by decide) (by decide) (by decide) ?_
      refine lv_lload_n hx hb d_S_changed_188 rfl (lv_at hl 2 rfl) ?_
      exact W.lret (v := b) hx hb hr (fun t ht hW => ⟨⟨_, (), rfl, by unfold chg; rfl, hP.at ht⟩, hS.F ht⟩) hS.2.2 d_S_changed_189
    · subst esw
      have hl : lv_has ls 5 [(0, .int (nI 26)), (1, .long a), (3, .long b)] := hl
      refine lv_tableIn (off := 187) (tgt := 188) hx hb d_S_changed_1 (by decide) (by decide) (by decide) (by decide) ?_
      refine lv_lload_n hx hb d_S_changed_188 rfl (lv_at hl 2 rfl) ?_
      exact W.lret (v := b) hx hb hr (fun t ht hW => ⟨⟨_, (), rfl, by unfold chg; rfl, hP.at ht⟩, hS.F ht⟩) hS.2.2 d_S_changed_189
    · subst esw
      have hl : lv_has ls 5 [(0, .int (nI 27)), (1, .long a), (3, .long b)] := hl
      refine lv_tableIn (off := 187) (tgt := 188) hx hb d_S_changed_1 (by decide) (by decide) (by decide) (by decide) ?_
      refine lv_lload_n hx hb d_S_changed_188 rfl (lv_at hl 2 rfl) ?_
      exact W.lret (v := b) hx hb hr (fun t ht hW => ⟨⟨_, (), rfl, by unfold chg; rfl, hP.at ht⟩, hS.F ht⟩) hS.2.2 d_S_changed_189
    · subst esw
      have hl : lv_has ls 5 [(0, .int (nI 28)), (1, .long a), (3, .long b)] := hl
      refine lv_tableIn (off := 173) (tgt := 174) hx hb d_S_changed_1 (by decide) (by decide) (by decide) (by decide) ?_
      refine lv_lload_n hx hb d_S_changed_174 rfl (lv_at hl 1 rfl) ?_
      refine lv_lload_n hx hb d_S_changed_175 rfl (lv_at hl 2 rfl) ?_
      refine mc_i (va_runS (As := [.long a, .long b]) (rest := []) ⟨hx, hb, hml, hown, htg⟩ (t_S_isLessUnsigned l D cJ cI cP bs w a b) (cwS (own := R_S) 2 htg (ginS k_357 k_358 k_25 k_359) rfl rfl rfl (by decide +kernel) ⟨Nat.le_of_ble_eq_true rfl, Nat.le_of_ble_eq_true rfl⟩) (mPc.preS hbs hS hP hK) rfl rfl hl.1 rfl (lv_room (Nat.le_of_ble_eq_true rfl)) d_S_changed_176 ⟨Nat.le_of_ble_eq_true rfl, Nat.le_of_ble_eq_true rfl⟩) hS (fun r176 u176 H locs hw hP hz176 hS => ?_)
      refine lv_if_eq (tgt := 186) hx hb d_S_changed_179 (by decide) (fun c179 => ?_) (fun c179 => ?_)
      · refine lv_lload_n hx hb d_S_changed_186 rfl (lv_at hl 1 rfl) ?_
        have hmm : a = chg (nI 28) a b := by
          rw [chg_28]
          by_cases h1 : a + (-9223372036854775808) < b + (-9223372036854775808)
          · first | (rw [if_pos h1]; done) | (rw [if_pos h1] at hw; exact absurd (hw.symm.trans c179) (by decide))
          · first | (rw [if_neg h1]; done) | (rw [if_neg h1] at hw; exact absurd hw c179)
        exact W.lret (v := a) hx hb hr (fun t ht hW => ⟨⟨_, (), rfl, hmm, hP.at ht⟩, hS.F ht⟩) hS.2.2 d_S_changed_187
      · refine lv_lload_n hx hb d_S_changed_182 rfl (lv_at hl 2 rfl) ?_
        refine lv_goto (tgt := 187) hx hb d_S_changed_183 (by decide) ?_
        have hmm : b = chg (nI 28) a b := by
          rw [chg_28]
          by_cases h1 : a + (-9223372036854775808) < b + (-9223372036854775808)
          · first | (rw [if_pos h1]; done) | (rw [if_pos h1] at hw; exact absurd (hw.symm.trans c179) (by decide))
          · first | (rw [if_neg h1]; done) | (rw [if_neg h1] at hw; exact absurd hw c179)
        exact W.lret (v := b) hx hb hr (fun t ht hW => ⟨⟨_, (), rfl, hmm, hP.at ht⟩, hS.F ht⟩) hS.2.2 d_S_changed_187
end
section
theorem en_w {n : Nat} (h : n ≤ 1024) : (2147483648 : Int64) + (nI n).toInt64 * 4096 = lN (2147483648 + 4096 * n) := by
  rw [nI_l (by omega)]
  show lN 2147483648 + lN n * lN 4096 = _
  rw [lN_mul, lN_add, Nat.mul_comm]
/-- where size bytes at an address lie in a memory of n pages: the first one's place -/
abbrev inM (x : Int64) (n k a : Nat) : Prop := x = lN (2147483648 + a) ∧ a + k ≤ 4096 * n
theorem inM_of {x : Int64} {n k : Nat} (hn : n ≤ 1024) (hn1 : 1 ≤ n) (hk : k ≤ 8) (h1 : ¬ x < 2147483648) (h2 : ¬ lN (2147483648 + 4096 * n) - (nI k).toInt64 < x) : ∃ a, inM x n k a := by
  obtain ⟨m, hm, rfl⟩ := pk_lOf (fun z => h1 (Int64.lt_of_lt_of_le z (by decide)))
  rw [nI_l (by omega), lN_sub (by omega)] at h2
  have e1 : ¬ m < 2147483648 := fun z => h1 ((pk_lLT (b := 2147483648) hm (by omega)).mpr z)
  have e2 : ¬ 2147483648 + 4096 * n - k < m := fun z => h2 ((pk_lLT (by omega) hm).mpr z)
  exact ⟨m - 2147483648, by rw [show 2147483648 + (m - 2147483648) = m by omega], by omega⟩
theorem inM_lo {x : Int64} {n k a : Nat} (hn : n ≤ 1024) (h : inM x n k a) : ¬ x < 2147483648 := by
  obtain ⟨rfl, h⟩ := h
  exact fun z => by
    have := (pk_lLT (a := 2147483648 + a) (b := 2147483648) (by omega) (by omega)).mp z
    omega
theorem inM_hi {x : Int64} {n k a : Nat} (hn : n ≤ 1024) (hk : k ≤ 8) (hn1 : 1 ≤ n) (h : inM x n k a) : ¬ lN (2147483648 + 4096 * n) - (nI k).toInt64 < x := by
  obtain ⟨rfl, h⟩ := h
  rw [nI_l (by omega), lN_sub (by omega)]
  exact fun z => by
    have := (pk_lLT (by omega) (by omega)).mp z
    omega
theorem ish (k s : Nat) (hs : s < 32) (h : k < 2 ^ 31) : nI k >>> (nI s &&& 31) = nI (k / 2 ^ s) := pk_shrN h _ s ((by decide +kernel : ∀ s, s < 32 → ((nI s &&& 31).toBitVec.smod 32).toNat = s) s hs)
theorem pup_merge (M : Nat → Int64) (k : Nat) (x : Int64) : pup M (k / 512) (va_up (fun j => M (512 * (k / 512) + j)) (k % 512) x) = va_up M k x := by
  funext q
  unfold pup
  by_cases h : q / 512 = k / 512
  · rw [if_pos h]
    by_cases h2 : q = k
    · rw [h2, va_up_self, va_up_self]
    · rw [va_up_ne _ _ h2, va_up_ne _ _ (by omega)]
      show M (512 * (k / 512) + q % 512) = M q
      rw [show 512 * (k / 512) + q % 512 = q by omega]
  · rw [if_neg h, va_up_ne _ _ (fun z => h (by rw [z]))]
theorem va_up_id {α : Type} (f : Nat → α) (k : Nat) : va_up f k (f k) = f := by
  funext q
  by_cases h : q = k
  · rw [h, va_up_self]
  · rw [va_up_ne _ _ h]
set_option maxHeartbeats 4000000 in
set_option maxRecDepth 100000 in
theorem t_S_pages (l : Launch) (D : va_G) (cJ cI cP : ClassId) (bs : Nat) (w : Nat → Option va_E) (h n : Nat) (M T : Nat → Int64) (ra : Nat → Int64) (rs : Nat → Int32) (aT aA aS : Nat) (pt : Nat → Option Nat) (hs : sm cJ cI cP w h n M T ra rs aT aA aS pt) : Met l y_S_pages ws_S_pages ({ frames := 0, cells := 0, slots := 0, locals := 0 }) (mPc D vwCl (mT cJ cI cP) bs w [.ref h]) (va_Qi (S := Unit) (fun r _ => r = nI n) (mB D vwCl bs (fun _ => w)) (mA bs)) 0 0 (mA bs) := by
  refine Met.ofW (cc := c_S_pages) (maxL := 1) (ret := (some .int)) (by decide) rfl ?_
  intro p e s m args below meth c s₁ B hml hv
  obtain ⟨rfl, hbs, hP, hK⟩ := hv
  have hx := B.exec
  have hb := B.bytes
  have hr := B.returns
  have htg : ∀ w ∈ gt, w.before _ s = true := fun w h => atoms_spec (ws := ws_S_pages) B.pre w (List.mem_cons_of_mem _ h)
  have hown : s.vm.findClass R_S = some m.cls := findClass_of_methodNamed B.named
  have hlocks := B.notSynchronized
  have hS : va_S (mA bs) s.heap s.heap [] := va_S.rf
  have hl := lv_entry ([.ref h]) (n := 1) (Nat.le_of_ble_eq_true rfl)
  rw [lg_entry_eq]
  generalize (lg_sl ([.ref h]) ++ List.replicate (1 - (lg_sl ([.ref h])).length) Slot.unset).toArray = ls at hl ⊢
  have hl : lv_has ls 1 [(0, .ref h)] := hl
  obtain ⟨hn, s1, s2, s3, s4, s5, s6, s7⟩ := id hs
  have f1 : w h = some (.inr (ciS, [.int (nI n), .ref aT, .ref aA, .ref aS])) := s1
  refine lv_aload_n hx hb d_S_pages_0 rfl (lv_at hl 0 rfl) ?_
  refine mw_get (C := R_S) (T := T_S) (N := 4) (ci := ciS) (v := .int (nI n)) hx hb htg i_S hown hK hP f1 rfl 0 (by decide) (htg _ k_46) (fun _ h9 => h9) rfl d_S_pages_1 ?_
  exact W.iret (v := nI n) hx hb hr (fun t ht hW => ⟨⟨_, (), rfl, rfl, hP.at ht⟩, hS.F ht⟩) hS.2.2 d_S_pages_4
set_option maxHeartbeats 4000000 in
set_option maxRecDepth 100000 in
theorem t_S_endAddress (l : Launch) (D : va_G) (cJ cI cP : ClassId) (bs : Nat) (w : Nat → Option va_E) (h n : Nat) (M T : Nat → Int64) (ra : Nat → Int64) (rs : Nat → Int32) (aT aA aS : Nat) (pt : Nat → Option Nat) (hs : sm cJ cI cP w h n M T ra rs aT aA aS pt) : Met l y_S_endAddress ws_S_endAddress ({ frames := 0, cells := 0, slots := 0, locals := 0 }) (mPc D vwCl (mT cJ cI cP) bs w [.ref h]) (va_Ql (S := Unit) (fun r _ => r = lN (2147483648 + 4096 * n)) (mB D vwCl bs (fun _ => w)) (mA bs)) 0 0 (mA bs) := by
  refine Met.ofW (cc := c_S_endAddress) (maxL := 1) (ret := (some .long)) (by decide) rfl ?_
  intro p e s m args below meth c s₁ B hml hv
  obtain ⟨rfl, hbs, hP, hK⟩ := hv
  have hx := B.exec
  have hb := B.bytes
  have hr := B.returns
  have htg : ∀ w ∈ gt, w.before _ s = true := fun w h => atoms_spec (ws := ws_S_endAddress) B.pre w (List.mem_cons_of_mem _ h)
  have hown : s.vm.findClass R_S = some m.cls := findClass_of_methodNamed B.named
  have hlocks := B.notSynchronized
  have hS : va_S (mA bs) s.heap s.heap [] := va_S.rf
  have hl := lv_entry ([.ref h]) (n := 1) (Nat.le_of_ble_eq_true rfl)
  rw [lg_entry_eq]
  generalize (lg_sl ([.ref h]) ++ List.replicate (1 - (lg_sl ([.ref h])).length) Slot.unset).toArray = ls at hl ⊢
  have hl : lv_has ls 1 [(0, .ref h)] := hl
  obtain ⟨hn, s1, s2, s3, s4, s5, s6, s7⟩ := id hs
  have f1 : w h = some (.inr (ciS, [.int (nI n), .ref aT, .ref aA, .ref aS])) := s1
  refine lv_ldc2 (own := R_S) (v := 2147483648) hx hb hown (htg _ k_160) d_S_endAddress_0 ?_
  refine lv_aload_n hx hb d_S_endAddress_3 rfl (lv_at hl 0 rfl) ?_
  refine mw_get (C := R_S) (T := T_S) (N := 4) (ci := ciS) (v := .int (nI n)) hx hb htg i_S hown hK hP f1 rfl 0 (by decide) (htg _ k_46) (fun _ h9 => h9) rfl d_S_endAddress_4 ?_
  refine lv_i2l hx hb d_S_endAddress_7 rfl ?_
  refine lv_ldc2 (own := R_S) (v := 4096) hx hb hown (htg _ k_165) d_S_endAddress_8 ?_
  refine lv_lmul hx hb d_S_endAddress_11 ?_
  refine lv_ladd hx hb d_S_endAddress_12 ?_
  exact W.lret (v := 2147483648 + (((nI n).toInt64) * 4096)) hx hb hr (fun t ht hW => ⟨⟨_, (), rfl, en_w hn.2, hP.at ht⟩, hS.F ht⟩) hS.2.2 d_S_endAddress_13
set_option maxHeartbeats 4000000 in
set_option maxRecDepth 100000 in
theorem t_S_isInMemory (l : Launch) (D : va_G) (cJ cI cP : ClassId) (bs : Nat) (w : Nat → Option va_E) (h n : Nat) (M T : Nat → Int64) (ra : Nat → Int64) (rs : Nat → Int32) (aT aA aS : Nat) (pt : Nat → Option Nat) (hs : sm cJ cI cP w h n M T ra rs aT aA aS pt) (x : Int64) (k : Nat) (hk : k ≤ 8) : Met l y_S_isInMemory ws_S_isInMemory ({ frames := 1, cells := 0, slots := 0, locals := 20 }) (mPc D vwCl (mT cJ cI cP) bs w [.ref h, .long x, .int (nI k)]) (va_Qi (S := Unit) (fun r _ => (r = 1 ∧ ∃ a, inM x n k a) ∨ (r = 0 ∧ ¬ ∃ a, inM x n k a)) (mB D vwCl bs (fun _ => w)) (mA bs)) 0 0 (mA bs) := by
  refine Met.ofW (cc := c_S_isInMemory) (maxL := 4) (ret := (some .boolean)) (by decide) rfl ?_
  intro p e s m args below meth c s₁ B hml hv
  obtain ⟨rfl, hbs, hP, hK⟩ := hv
  have hx := B.exec
  have hb := B.bytes
  have hr := B.returns
  have htg : ∀ w ∈ gt, w.before _ s = true := fun w h => atoms_spec (ws := ws_S_isInMemory) B.pre w (List.mem_cons_of_mem _ h)
  have hown : s.vm.findClass R_S = some m.cls := findClass_of_methodNamed B.named
  have hlocks := B.notSynchronized
  have hS : va_S (mA bs) s.heap s.heap [] := va_S.rf
  have hl := lv_entry ([.ref h, .long x, .int (nI k)]) (n := 4) (Nat.le_of_ble_eq_true rfl)
  rw [lg_entry_eq]
  generalize (lg_sl ([.ref h, .long x, .int (nI k)]) ++ List.replicate (4 - (lg_sl ([.ref h, .long x, .int (nI k)])).length) Slot.unset).toArray = ls at hl ⊢
  have hl : lv_has ls 4 [(0, .ref h), (1, .long x), (3, .int (nI k))] := hl
  obtain ⟨hn, s1, s2, s3, s4, s5, s6, s7⟩ := id hs
  have f1 : w h = some (.inr (ciS, [.int (nI n), .ref aT, .ref aA, .ref aS])) := s1
  refine lv_lload_n hx hb d_S_isInMemory_0 rfl (lv_at hl 1 rfl) ?_
  refine lv_ldc2 (own := R_S) (v := 2147483648) hx hb hown (htg _ k_160) d_S_isInMemory_1 ?_
  refine lc_lt (tgt := 24) hx hb d_S_isInMemory_4 d_S_isInMemory_5 (by decide) (fun c4 => ?_) (fun c4 => ?_)
  · refine lv_iconst (v := 0) hx hb d_S_isInMemory_24 (by decide) ?_
    exact W.zret (v := 0) hx hb hr rfl (fun t ht hW => ⟨⟨_, (), rfl, Or.inr ⟨rfl, fun ⟨a, ha⟩ => by first | exact inM_hi hn.2 hk hn.1 ha c16 | exact inM_lo hn.2 ha c4⟩, hP.at ht⟩, hS.F ht⟩) hS.2.2 d_S_isInMemory_25
  · refine lv_lload_n hx hb d_S_isInMemory_8 rfl (lv_at hl 1 rfl) ?_
    refine lv_aload_n hx hb d_S_isInMemory_9 rfl (lv_at hl 0 rfl) ?_
    refine mc_l (va_runV (As := []) (rest := [.long x]) ⟨hx, hb, hml, hown, htg⟩ (t_S_endAddress l D cJ cI cP bs w h n M T ra rs aT aA aS pt hs) (cwV (own := R_S) (C := R_S) 0 htg (ginV k_161 k_163 k_2 k_25 k_164) rfl rfl rfl (by decide +kernel) ⟨Nat.le_of_ble_eq_true rfl, Nat.le_of_ble_eq_true rfl⟩) (mPc.preV (ci := ciS) (q := (R_S, T_S, 4)) hbs hS hP hK rfl f1) rfl rfl hl.1 rfl (lv_room (Nat.le_of_ble_eq_true rfl)) d_S_isInMemory_10 ⟨Nat.le_of_ble_eq_true rfl, Nat.le_of_ble_eq_true rfl⟩) hS (fun r10 u10 H locs hw hP hz10 hS => ?_)
    subst hw
    refine lv_iload_n hx hb d_S_isInMemory_13 rfl (lv_at hl 2 rfl) ?_
    refine lv_i2l hx hb d_S_isInMemory_14 rfl ?_
    refine lv_lsub hx hb d_S_isInMemory_15 ?_
    refine lc_gt (tgt := 24) hx hb d_S_isInMemory_16 d_S_isInMemory_17 (by decide) (fun c16 => ?_) (fun c16 => ?_)
    · refine lv_iconst (v := 0) hx hb d_S_isInMemory_24 (by decide) ?_
      exact W.zret (v := 0) hx hb hr rfl (fun t ht hW => ⟨⟨_, (), rfl, Or.inr ⟨rfl, fun ⟨a, ha⟩ => by first | exact inM_hi hn.2 hk hn.1 ha c16 | exact inM_lo hn.2 ha c4⟩, hP.at ht⟩, hS.F ht⟩) hS.2.2 d_S_isInMemory_25
    · refine lv_iconst (v := 1) hx hb d_S_isInMemory_20 (by decide) ?_
      refine lv_goto (tgt := 25) hx hb d_S_isInMemory_21 (by decide) ?_
      exact W.zret (v := 1) hx hb hr rfl (fun t ht hW => ⟨⟨_, (), rfl, Or.inl ⟨rfl, inM_of hn.2 hn.1 hk c4 c16⟩, hP.at ht⟩, hS.F ht⟩) hS.2.2 d_S_isInMemory_25
set_option maxHeartbeats 4000000 in
set_option maxRecDepth 100000 in
theorem t_S_isPage (l : Launch) (D : va_G) (cJ cI cP : ClassId) (bs : Nat) (w : Nat → Option va_E) (h n : Nat) (M T : Nat → Int64) (ra : Nat → Int64) (rs : Nat → Int32) (aT aA aS : Nat) (pt : Nat → Option Nat) (hs : sm cJ cI cP w h n M T ra rs aT aA aS pt) (x : Int32) : Met l y_S_isPage ws_S_isPage ({ frames := 0, cells := 0, slots := 0, locals := 0 }) (mPc D vwCl (mT cJ cI cP) bs w [.ref h, .int x]) (va_Qi (S := Unit) (fun r _ => (r = 1 ∧ ∃ i, i < n ∧ x = nI i) ∨ (r = 0 ∧ ¬ ∃ i, i < n ∧ x = nI i)) (mB D vwCl bs (fun _ => w)) (mA bs)) 0 0 (mA bs) := by
  refine Met.ofW (cc := c_S_isPage) (maxL := 2) (ret := (some .boolean)) (by decide) rfl ?_
  intro p e s m args below meth c s₁ B hml hv
  obtain ⟨rfl, hbs, hP, hK⟩ := hv
  have hx := B.exec
  have hb := B.bytes
  have hr := B.returns
  have htg : ∀ w ∈ gt, w.before _ s = true := fun w h => atoms_spec (ws := ws_S_isPage) B.pre w (List.mem_cons_of_mem _ h)
  have hown : s.vm.findClass R_S = some m.cls := findClass_of_methodNamed B.named
  have hlocks := B.notSynchronized
  have hS : va_S (mA bs) s.heap s.heap [] := va_S.rf
  have hl := lv_entry ([.ref h, .int x]) (n := 2) (Nat.le_of_ble_eq_true rfl)
  rw [lg_entry_eq]
  generalize (lg_sl ([.ref h, .int x]) ++ List.replicate (2 - (lg_sl ([.ref h, .int x])).length) Slot.unset).toArray = ls at hl ⊢
  have hl : lv_has ls 2 [(0, .ref h), (1, .int x)] := hl
  obtain ⟨hn, s1, s2, s3, s4, s5, s6, s7⟩ := id hs
  have f1 : w h = some (.inr (ciS, [.int (nI n), .ref aT, .ref aA, .ref aS])) := s1
  refine lv_iload_n hx hb d_S_isPage_0 rfl (lv_at hl 1 rfl) ?_
  refine lv_if_lt (tgt := 16) hx hb d_S_isPage_1 (by decide) (fun c1 => ?_) (fun c1 => ?_)
  · refine lv_iconst (v := 0) hx hb d_S_isPage_16 (by decide) ?_
    have hres : ¬ ∃ i, i < n ∧ x = nI i := by
      rintro ⟨i, hi, rfl⟩
      first | exact nI_pos (by omega) c1 | exact nI_ge hi (by omega) (by assumption)
    exact W.zret (v := 0) hx hb hr rfl (fun t ht hW => ⟨⟨_, (), rfl, Or.inr ⟨rfl, hres⟩, hP.at ht⟩, hS.F ht⟩) hS.2.2 d_S_isPage_17
  · refine lv_iload_n hx hb d_S_isPage_4 rfl (lv_at hl 1 rfl) ?_
    refine lv_aload_n hx hb d_S_isPage_5 rfl (lv_at hl 0 rfl) ?_
    refine mw_get (C := R_S) (T := T_S) (N := 4) (ci := ciS) (v := .int (nI n)) hx hb htg i_S hown hK hP f1 rfl 0 (by decide) (htg _ k_46) (fun _ h9 => h9) rfl d_S_isPage_6 ?_
    refine lv_icmp_ge (tgt := 16) hx hb d_S_isPage_9 (by decide) (fun c9 => ?_) (fun c9 => ?_)
    · refine lv_iconst (v := 0) hx hb d_S_isPage_16 (by decide) ?_
      have hres : ¬ ∃ i, i < n ∧ x = nI i := by
        rintro ⟨i, hi, rfl⟩
        first | exact nI_pos (by omega) c1 | exact nI_ge hi (by omega) (by assumption)
      exact W.zret (v := 0) hx hb hr rfl (fun t ht hW => ⟨⟨_, (), rfl, Or.inr ⟨rfl, hres⟩, hP.at ht⟩, hS.F ht⟩) hS.2.2 d_S_isPage_17
    · refine lv_iconst (v := 1) hx hb d_S_isPage_12 (by decide) ?_
      refine lv_goto (tgt := 17) hx hb d_S_isPage_13 (by decide) ?_
      have hres : ∃ i, i < n ∧ x = nI i := by
        rcases pk_ix x (n := n) (by omega) with z | z | z
        · exact absurd z c1
        · exact absurd z (by assumption)
        · exact z
      exact W.zret (v := 1) hx hb hr rfl (fun t ht hW => ⟨⟨_, (), rfl, Or.inl ⟨rfl, hres⟩, hP.at ht⟩, hS.F ht⟩) hS.2.2 d_S_isPage_17
set_option maxHeartbeats 4000000 in
set_option maxRecDepth 100000 in
theorem t_S_wordAt (l : Launch) (D : va_G) (cJ cI cP : ClassId) (bs : Nat) (w : Nat → Option va_E) (h n : Nat) (M T : Nat → Int64) (ra : Nat → Int64) (rs : Nat → Int32) (aT aA aS : Nat) (pt : Nat → Option Nat) (hs : sm cJ cI cP w h n M T ra rs aT aA aS pt) (k : Nat) (hk : k < 512 * n) : Met l y_S_wordAt ws_S_wordAt ({ frames := 1, cells := 0, slots := 0, locals := 21 }) (mPc D vwCl (mT cJ cI cP) bs w [.ref h, .int (nI k)]) (va_Ql (S := Unit) (fun r _ => r = M k) (mB D vwCl bs (fun _ => w)) (mA bs)) 0 0 (mA bs) := by
  refine Met.ofW (cc := c_S_wordAt) (maxL := 3) (ret := (some .long)) (by decide) rfl ?_
  intro p e s m args below meth c s₁ B hml hv
  obtain ⟨rfl, hbs, hP, hK⟩ := hv
  have hx := B.exec
  have hb := B.bytes
  have hr := B.returns
  have htg : ∀ w ∈ gt, w.before _ s = true := fun w h => atoms_spec (ws := ws_S_wordAt) B.pre w (List.mem_cons_of_mem _ h)
  have hown : s.vm.findClass R_S = some m.cls := findClass_of_methodNamed B.named
  have hlocks := B.notSynchronized
  have hS : va_S (mA bs) s.heap s.heap [] := va_S.rf
  have hl := lv_entry ([.ref h, .int (nI k)]) (n := 3) (Nat.le_of_ble_eq_true rfl)
  rw [lg_entry_eq]
  generalize (lg_sl ([.ref h, .int (nI k)]) ++ List.replicate (3 - (lg_sl ([.ref h, .int (nI k)])).length) Slot.unset).toArray = ls at hl ⊢
  have hl : lv_has ls 3 [(0, .ref h), (1, .int (nI k))] := hl
  obtain ⟨hn, s1, s2, s3, s4, s5, s6, s7⟩ := id hs
  have f1 : w h = some (.inr (ciS, [.int (nI n), .ref aT, .ref aA, .ref aS])) := s1
  have hi : k / 512 < n := by omega
  refine lv_aload_n hx hb d_S_wordAt_0 rfl (lv_at hl 0 rfl) ?_
  refine mw_get (C := R_S) (T := T_S) (N := 4) (ci := ciS) (v := .ref aT) hx hb htg i_S hown hK hP f1 rfl 1 (by decide) (htg _ k_47) (fun _ h9 => h9) rfl d_S_wordAt_1 ?_
  refine lv_iload_n hx hb d_S_wordAt_4 rfl (lv_at hl 1 rfl) ?_
  refine lv_bipush (v := 9) hx hb d_S_wordAt_5 (by decide) ?_
  refine lv_ishr hx hb d_S_wordAt_7 ?_
  rw [show (nI k) >>> (9 &&& 31) = nI (k / 512) from ish k 9 (by omega) (by omega)]
  refine mw_aldq hx hb hK hP 2 s2 rfl (vp_in_nI hi (by omega)) d_S_wordAt_8 ?_
  rw [show (nI (k / 512)).toNatClampNeg = k / 512 from nI_clamp (by omega)]
  rcases hpt : pt (k / 512) with _ | pz
  · refine lv_astore_nN (lv' := [(2, .null), (0, .ref h), (1, .int (nI k))]) hx hb d_S_wordAt_9 rfl hl (by decide) rfl (fun ls hl => ?_)
    refine lv_aload_nN hx hb d_S_wordAt_10 rfl (lv_at hl 0 rfl) ?_
    refine lv_ifnonnullN hx hb d_S_wordAt_11 ?_
    refine lv_lconst (v := 0) hx hb d_S_wordAt_14 rfl ?_
    refine lv_goto (tgt := 27) hx hb d_S_wordAt_15 (by decide) ?_
    exact W.lret (v := 0) hx hb hr (fun t ht hW => ⟨⟨_, (), rfl, ((s5 (k / 512) hi hpt).2 (k % 512) (Nat.mod_lt _ (by decide))).symm.trans (by rw [show 512 * (k / 512) + k % 512 = k by omega]), hP.at ht⟩, hS.F ht⟩) hS.2.2 d_S_wordAt_27
  · obtain ⟨wr, ev, ew, y1, y2⟩ := s6 (k / 512) pz hi hpt
    refine lv_astore_n (lv' := [(2, .ref pz), (0, .ref h), (1, .int (nI k))]) hx hb d_S_wordAt_9 rfl hl (by decide) rfl (fun ls hl => ?_)
    refine lv_aload_n hx hb d_S_wordAt_10 rfl (lv_at hl 0 rfl) ?_
    refine lv_ifnonnull (tgt := 18) hx hb d_S_wordAt_11 (by decide) ?_
    refine lv_aload_n hx hb d_S_wordAt_18 rfl (lv_at hl 0 rfl) ?_
    refine lv_iload_n hx hb d_S_wordAt_19 rfl (lv_at hl 2 rfl) ?_
    refine lv_sipush (v := 511) hx hb d_S_wordAt_20 (by decide) ?_
    refine lv_iand hx hb d_S_wordAt_23 ?_
    rw [show (nI k) &&& 511 = nI (k % 512) from pk_andN (show k < 2 ^ 32 by omega) 9 (by decide)]
    refine mc_l (va_runV (As := [.int (nI (k % 512))]) (rest := []) ⟨hx, hb, hml, hown, htg⟩ (t_P_wordAt l D cJ cI cP bs w pz (fun j => M (512 * (k / 512) + j)) (T (k / 512)) (s6 (k / 512) pz hi hpt) (k % 512) (Nat.mod_lt _ (by decide))) (cwV (own := R_S) (C := R_P) 1 htg (ginV k_196 k_197 k_198 k_32 k_199) rfl rfl rfl (by decide +kernel) ⟨Nat.le_of_ble_eq_true rfl, Nat.le_of_ble_eq_true rfl⟩) (mPc.preV (ci := ciP) (q := (R_P, T_P, 5)) hbs hS hP hK rfl y1) rfl rfl hl.1 rfl (lv_room (Nat.le_of_ble_eq_true rfl)) d_S_wordAt_24 ⟨Nat.le_of_ble_eq_true rfl, Nat.le_of_ble_eq_true rfl⟩) hS (fun r24 u24 H locs hw hP hz24 hS => ?_)
    exact W.lret (v := r24) hx hb hr (fun t ht hW => ⟨⟨_, (), rfl, by rw [hw]; show M (512 * (k / 512) + k % 512) = M k; rw [show 512 * (k / 512) + k % 512 = k by omega], hP.at ht⟩, hS.F ht⟩) hS.2.2 d_S_wordAt_27
end
section
set_option maxHeartbeats 4000000 in
set_option maxRecDepth 100000 in
/-- the number of k bytes at a place -/
theorem t_S_numberAt (l : Launch) (D : va_G) (cJ cI cP : ClassId) (bs : Nat) (w : Nat → Option va_E) (h n : Nat) (M T : Nat → Int64) (ra : Nat → Int64) (rs : Nat → Int32) (aT aA aS : Nat) (pt : Nat → Option Nat) (hs : sm cJ cI cP w h n M T ra rs aT aA aS pt) (a k : Nat) (h1 : 1 ≤ k) (h8 : k ≤ 8) (hak : a + k ≤ 4096 * n) : Met l y_S_numberAt ws_S_numberAt ({ frames := 2, cells := 0, slots := 0, locals := 43 }) (mPc D vwCl (mT cJ cI cP) bs w [.ref h, .int (nI a), .int (nI k)]) (va_Ql (S := Unit) (fun r _ => ∀ i, i < 64 → bi r i = rdN (mb M) a k i) (mB D vwCl bs (fun _ => w)) (mA bs)) 0 0 (mA bs) := by
  refine Met.ofW (cc := c_S_numberAt) (maxL := 7) (ret := (some .long)) (by decide) rfl ?_
  intro p e s m args below meth c s₁ B hml hv
  obtain ⟨rfl, hbs, hP, hK⟩ := hv
  have hx := B.exec
  have hb := B.bytes
  have hr := B.returns
  have htg : ∀ w ∈ gt, w.before _ s = true := fun w h => atoms_spec (ws := ws_S_numberAt) B.pre w (List.mem_cons_of_mem _ h)
  have hown : s.vm.findClass R_S = some m.cls := findClass_of_methodNamed B.named
  have hlocks := B.notSynchronized
  have hS : va_S (mA bs) s.heap s.heap [] := va_S.rf
  have hl := lv_entry ([.ref h, .int (nI a), .int (nI k)]) (n := 7) (Nat.le_of_ble_eq_true rfl)
  rw [lg_entry_eq]
  generalize (lg_sl ([.ref h, .int (nI a), .int (nI k)]) ++ List.replicate (7 - (lg_sl ([.ref h, .int (nI a), .int (nI k)])).length) Slot.unset).toArray = ls at hl ⊢
  have hl : lv_has ls 7 [(0, .ref h), (1, .int (nI a)), (2, .int (nI k))] := hl
  obtain ⟨hn, s1, s2, s3, s4, s5, s6, s7⟩ := id hs
  have f1 : w h = some (.inr (ciS, [.int (nI n), .ref aT, .ref aA, .ref aS])) := s1
  refine lv_iload_n hx hb d_S_numberAt_0 rfl (lv_at hl 1 rfl) ?_
  refine lv_iconst (v := 3) hx hb d_S_numberAt_1 (by decide) ?_
  refine lv_ishr hx hb d_S_numberAt_2 ?_
  rw [show (nI a) >>> (3 &&& 31) = nI (a / 8) from ish a 3 (by omega) (by omega)]
  refine lv_istore_n (lv' := [(3, .int (nI (a / 8))), (0, .ref h), (1, .int (nI a)), (2, .int (nI k))]) hx hb d_S_numberAt_3 rfl hl (by decide) rfl (fun ls hl => ?_)
  refine lv_iload_n hx hb d_S_numberAt_4 rfl (lv_at hl 2 rfl) ?_
  refine mc_i (va_runS (As := [.int (nI a)]) (rest := []) ⟨hx, hb, hml, hown, htg⟩ (t_S_shiftInWord l D cJ cI cP bs w a (by omega)) (cwS (own := R_S) 1 htg (ginS k_189 k_190 k_25 k_191) rfl rfl rfl (by decide +kernel) ⟨Nat.le_of_ble_eq_true rfl, Nat.le_of_ble_eq_true rfl⟩) (mPc.preS hbs hS hP hK) rfl rfl hl.1 rfl (lv_room (Nat.le_of_ble_eq_true rfl)) d_S_numberAt_5 ⟨Nat.le_of_ble_eq_true rfl, Nat.le_of_ble_eq_true rfl⟩) hS (fun r5 u5 H locs hw hP hz5 hS => ?_)
  subst hw
  refine lv_istore (lv' := [(4, .int (nI (8 * (a % 8)))), (3, .int (nI (a / 8))), (0, .ref h), (1, .int (nI a)), (2, .int (nI k))]) hx hb d_S_numberAt_8 hl (by decide) rfl (fun ls hl => ?_)
  refine lv_aload_n hx hb d_S_numberAt_10 rfl (lv_at hl 2 rfl) ?_
  refine lv_iload_n hx hb d_S_numberAt_11 rfl (lv_at hl 1 rfl) ?_
  refine mc_l (va_runV (As := [.int (nI (a / 8))]) (rest := []) ⟨hx, hb, hml, hown, htg⟩ (t_S_wordAt l D cJ cI cP bs w h n M T ra rs aT aA aS pt hs (a / 8) (by omega)) (cwV (own := R_S) (C := R_S) 1 htg (ginV k_192 k_194 k_4 k_25 k_195) rfl rfl rfl (by decide +kernel) ⟨Nat.le_of_ble_eq_true rfl, Nat.le_of_ble_eq_true rfl⟩) (mPc.preV (ci := ciS) (q := (R_S, T_S, 4)) hbs hS hP hK rfl f1) rfl rfl hl.1 rfl (lv_room (Nat.le_of_ble_eq_true rfl)) d_S_numberAt_12 ⟨Nat.le_of_ble_eq_true rfl, Nat.le_of_ble_eq_true rfl⟩) hS (fun r12 u12 H locs hw hP hz12 hS => ?_)
  subst hw
  refine lv_iload hx hb d_S_numberAt_15 (lv_at hl 0 rfl) ?_
  refine lv_lushr hx hb d_S_numberAt_17 rfl ?_
  refine lv_topl (fun x_1 ex_1 => ?_)
  refine lv_lstore (lv' := [(5, .long x_1), (4, .int (nI (8 * (a % 8)))), (3, .int (nI (a / 8))), (0, .ref h), (1, .int (nI a)), (2, .int (nI k))]) hx hb d_S_numberAt_18 hl (by decide) rfl (fun ls hl => ?_)
  refine lv_iload hx hb d_S_numberAt_20 (lv_at hl 1 rfl) ?_
  refine lv_bipush (v := 8) hx hb d_S_numberAt_22 (by decide) ?_
  refine lv_iload_n hx hb d_S_numberAt_24 rfl (lv_at hl 5 rfl) ?_
  refine lv_imul hx hb d_S_numberAt_25 ?_
  refine lv_iadd hx hb d_S_numberAt_26 ?_
  rw [show (nI (8 * (a % 8))) + (8 * (nI k)) = nI (8 * (a % 8) + 8 * k) from (by show nI _ + nI 8 * nI k = _; rw [pk_mul, nI_add])]
  refine lv_bipush (v := 64) hx hb d_S_numberAt_27 (by decide) ?_
  refine lv_icmp_le (tgt := 50) hx hb d_S_numberAt_29 (by decide) (fun c29 => ?_) (fun c29 => ?_)
  · refine lv_lload hx hb d_S_numberAt_50 (lv_at hl 0 rfl) ?_
    refine lv_iload_n hx hb d_S_numberAt_52 rfl (lv_at hl 5 rfl) ?_
    refine mc_l (va_runS (As := [.int (nI k)]) (rest := [.long x_1]) ⟨hx, hb, hml, hown, htg⟩ (t_S_lowestBytes l D cJ cI cP bs w k h8) (cwS (own := R_S) 1 htg (ginS k_200 k_201 k_25 k_202) rfl rfl rfl (by decide +kernel) ⟨Nat.le_of_ble_eq_true rfl, Nat.le_of_ble_eq_true rfl⟩) (mPc.preS hbs hS hP hK) rfl rfl hl.1 rfl (lv_room (Nat.le_of_ble_eq_true rfl)) d_S_numberAt_53 ⟨Nat.le_of_ble_eq_true rfl, Nat.le_of_ble_eq_true rfl⟩) hS (fun r53 u53 H locs hw hP hz53 hS => ?_)
    subst hw
    refine lv_land hx hb d_S_numberAt_56 ?_
    exact W.lret (v := x_1 &&& (lowB k)) hx hb hr (fun t ht hW => ⟨⟨_, (), rfl, fun i hi => by rw [ex_1]; exact ld_one M h1 h8 ((nI_leI (by omega) (by omega)).mp (show nI _ ≤ nI 64 from c29)) i hi, hP.at ht⟩, hS.F ht⟩) hS.2.2 d_S_numberAt_57
  · have hgt : 64 < 8 * (a % 8) + 8 * k := Nat.lt_of_not_le (fun z => c29 (show nI _ ≤ nI 64 from nI_le z (by omega)))
    refine lv_lload hx hb d_S_numberAt_32 (lv_at hl 0 rfl) ?_
    refine lv_aload_n hx hb d_S_numberAt_34 rfl (lv_at hl 3 rfl) ?_
    refine lv_iload_n hx hb d_S_numberAt_35 rfl (lv_at hl 2 rfl) ?_
    refine lv_iconst (v := 1) hx hb d_S_numberAt_36 (by decide) ?_
    refine lv_iadd hx hb d_S_numberAt_37 ?_
    rw [show (nI (a / 8)) + 1 = nI (a / 8 + 1) from nI_1 _]
    refine mc_l (va_runV (As := [.int (nI (a / 8 + 1))]) (rest := [.long x_1]) ⟨hx, hb, hml, hown, htg⟩ (t_S_wordAt l D cJ cI cP bs w h n M T ra rs aT aA aS pt hs (a / 8 + 1) (by omega)) (cwV (own := R_S) (C := R_S) 1 htg (ginV k_192 k_194 k_4 k_25 k_195) rfl rfl rfl (by decide +kernel) ⟨Nat.le_of_ble_eq_true rfl, Nat.le_of_ble_eq_true rfl⟩) (mPc.preV (ci := ciS) (q := (R_S, T_S, 4)) hbs hS hP hK rfl f1) rfl rfl hl.1 rfl (lv_room (Nat.le_of_ble_eq_true rfl)) d_S_numberAt_38 ⟨Nat.le_of_ble_eq_true rfl, Nat.le_of_ble_eq_true rfl⟩) hS (fun r38 u38 H locs hw hP hz38 hS => ?_)
    subst hw
    refine lv_bipush (v := 64) hx hb d_S_numberAt_41 (by decide) ?_
    refine lv_iload hx hb d_S_numberAt_43 (lv_at hl 1 rfl) ?_
    refine lv_isub hx hb d_S_numberAt_45 ?_
    rw [show 64 - (nI (8 * (a % 8))) = nI (64 - 8 * (a % 8)) from (by show nI 64 - nI _ = _; exact pk_sub (by omega))]
    refine lv_lshl hx hb d_S_numberAt_46 rfl ?_
    refine lv_lor hx hb d_S_numberAt_47 ?_
    refine lv_topl (fun x_2 ex_2 => ?_)
    refine lv_lstore (lv' := [(5, .long x_2), (4, .int (nI (8 * (a % 8)))), (3, .int (nI (a / 8))), (0, .ref h), (1, .int (nI a)), (2, .int (nI k))]) hx hb d_S_numberAt_48 hl (by decide) rfl (fun ls hl => ?_)
    refine lv_lload hx hb d_S_numberAt_50 (lv_at hl 0 rfl) ?_
    refine lv_iload_n hx hb d_S_numberAt_52 rfl (lv_at hl 5 rfl) ?_
    refine mc_l (va_runS (As := [.int (nI k)]) (rest := [.long x_2]) ⟨hx, hb, hml, hown, htg⟩ (t_S_lowestBytes l D cJ cI cP bs w k h8) (cwS (own := R_S) 1 htg (ginS k_200 k_201 k_25 k_202) rfl rfl rfl (by decide +kernel) ⟨Nat.le_of_ble_eq_true rfl, Nat.le_of_ble_eq_true rfl⟩) (mPc.preS hbs hS hP hK) rfl rfl hl.1 rfl (lv_room (Nat.le_of_ble_eq_true rfl)) d_S_numberAt_53 ⟨Nat.le_of_ble_eq_true rfl, Nat.le_of_ble_eq_true rfl⟩) hS (fun r53 u53 H locs hw hP hz53 hS => ?_)
    subst hw
    refine lv_land hx hb d_S_numberAt_56 ?_
    exact W.lret (v := x_2 &&& (lowB k)) hx hb hr (fun t ht hW => ⟨⟨_, (), rfl, fun i hi => by rw [ex_2, ex_1]; exact ld_two M h1 h8 hgt i hi, hP.at ht⟩, hS.F ht⟩) hS.2.2 d_S_numberAt_57
set_option maxHeartbeats 4000000 in
set_option maxRecDepth 100000 in
/-- pageToWrite: the page at i, made if there was none -/
theorem t_S_ptw (l : Launch) (D : va_G) (cJ cI cP : ClassId) (bs : Nat) (w : Nat → Option va_E) (h n : Nat) (M T : Nat → Int64) (ra : Nat → Int64) (rs : Nat → Int32) (aT aA aS : Nat) (pt : Nat → Option Nat) (hs : sm cJ cI cP w h n M T ra rs aT aA aS pt) (i : Nat) (hi : i < n) (mc ms : Nat) (hm : pt i = none → 1 ≤ mc ∧ 5 ≤ ms) : Met l y_S_pageToWrite ws_S_pageToWrite ({ frames := 2, cells := mc, slots := ms, locals := 40 }) (mPc D vwCl (mT cJ cI cP) bs w [.ref h, .int (nI i)]) (va_Qr (S := ((Nat → Option va_E) × Nat × (Nat → Option Nat))) (fun u => sm cJ cI cP u.1 h n M T ra rs aT aA aS u.2.2 ∧ u.2.2 i = some u.2.1 ∧ kp w u.1 (sfp w h) (sfp u.1 h) ∧ (∀ j, ¬ j = i → u.2.2 j = pt j) ∧ (¬ pt i = none → u.2.2 i = pt i)) (fun u ra t => ra = (fun u => u.2.1) u ∧ mw D vwCl bs ((fun u => u.1) u) t.heap) (mA bs)) mc ms (mA bs) := by
  refine Met.ofW (cc := c_S_pageToWrite) (maxL := 3) (ret := (some (.object "SharedMemory$Page"))) (by decide) rfl ?_
  intro p e s m args below meth c s₁ B hml hv
  obtain ⟨rfl, hbs, hP, hK⟩ := hv
  have hx := B.exec
  have hb := B.bytes
  have hr := B.returns
  have htg : ∀ w ∈ gt, w.before _ s = true := fun w h => atoms_spec (ws := ws_S_pageToWrite) B.pre w (List.mem_cons_of_mem _ h)
  have hown : s.vm.findClass R_S = some m.cls := findClass_of_methodNamed B.named
  have hlocks := B.notSynchronized
  have hS : va_S (mA bs) s.heap s.heap [] := va_S.rf
  have hl := lv_entry ([.ref h, .int (nI i)]) (n := 3) (Nat.le_of_ble_eq_true rfl)
  rw [lg_entry_eq]
  generalize (lg_sl ([.ref h, .int (nI i)]) ++ List.replicate (3 - (lg_sl ([.ref h, .int (nI i)])).length) Slot.unset).toArray = ls at hl ⊢
  have hl : lv_has ls 3 [(0, .ref h), (1, .int (nI i))] := hl
  obtain ⟨hn, s1, s2, s3, s4, s5, s6, s7⟩ := id hs
  have f1 : w h = some (.inr (ciS, [.int (nI n), .ref aT, .ref aA, .ref aS])) := s1
  refine lv_aload_n hx hb d_S_pageToWrite_0 rfl (lv_at hl 0 rfl) ?_
  refine mw_get (C := R_S) (T := T_S) (N := 4) (ci := ciS) (v := .ref aT) hx hb htg i_S hown hK hP f1 rfl 1 (by decide) (htg _ k_47) (fun _ h9 => h9) rfl d_S_pageToWrite_1 ?_
  refine lv_iload_n hx hb d_S_pageToWrite_4 rfl (lv_at hl 1 rfl) ?_
  refine mw_aldq hx hb hK hP 2 s2 rfl (vp_in_nI hi (by omega)) d_S_pageToWrite_5 ?_
  rw [show (nI i).toNatClampNeg = i from nI_clamp (by omega)]
  rcases hpt : pt i with _ | pz
  · refine lv_astore_nN (lv' := [(2, .null), (0, .ref h), (1, .int (nI i))]) hx hb d_S_pageToWrite_6 rfl hl (by decide) rfl (fun ls hl => ?_)
    refine lv_aload_nN hx hb d_S_pageToWrite_7 rfl (lv_at hl 0 rfl) ?_
    refine lv_ifnonnullN hx hb d_S_pageToWrite_8 ?_
    refine mw_new (C := R_P) (T := T_P) (N := 5) (ci := ciP) (fs := [.null, .int 0, .long 0, .int 0, .long 0]) hx hb htg i_P ty_P tk_P hown (htg _ k_44) (htg _ k_223) (htg _ k_32) hK hP hS (hbs) rfl (fun j hj => by rcases (show j = 0 ∨ j = 1 ∨ j = 2 ∨ j = 3 ∨ j = 4 by omega) with rfl | rfl | rfl | rfl | rfl <;> rfl) (hm hpt).1 (hm hpt).2 d_S_pageToWrite_11 (fun q_1 H nq_1 eq_1 hP hS hz11 => ?_)
    obtain ⟨w_2, ew_2⟩ : ∃ z9, z9 = va_up w q_1 (some (.inr (ciP, [.null, .int 0, .long 0, .int 0, .long 0])) : Option va_E) := ⟨_, rfl⟩
    rw [← ew_2] at hP
    have h_3 : w_2 q_1 = some (.inr (ciP, [.null, .int 0, .long 0, .int 0, .long 0])) := by rw [ew_2, va_up_self]
    have h_4 : w_2 h = some (.inr (ciS, [.int (nI n), .ref aT, .ref aA, .ref aS])) := by rw [ew_2, va_up_ne _ _ (fun z => by rw [z, nq_1] at f1; cases f1)]; exact f1
    have h_5 : w_2 aT = some (.inl (cP, n, .inr (.inr (.inr (.inr pt))))) := by rw [ew_2, va_up_ne _ _ (fun z => by rw [z, nq_1] at s2; cases s2)]; exact s2
    have h_6 : w_2 aA = some (.inl (cJ, 4, .inr (.inl ra))) := by rw [ew_2, va_up_ne _ _ (fun z => by rw [z, nq_1] at s3; cases s3)]; exact s3
    have h_7 : w_2 aS = some (.inl (cI, 4, .inl rs)) := by rw [ew_2, va_up_ne _ _ (fun z => by rw [z, nq_1] at s4; cases s4)]; exact s4
    refine lv_dup hx hb d_S_pageToWrite_14 rfl ?_
    refine mc_v (va_runI (As := []) (rest := [.ref q_1]) ⟨hx, hb, hml, hown, htg⟩ (t_P_init l D cJ cI cP bs w_2 q_1 h_3) (cwI 0 htg (gin0 k_226) rfl rfl rfl (htg _ k_32) (htg _ k_224) (htg _ k_225) rfl (by decide +kernel) ⟨Nat.le_of_ble_eq_true rfl, Nat.le_of_ble_eq_true rfl⟩) (mPc.preS hbs hS hP hK) rfl rfl hl.1 rfl (lv_room (Nat.le_of_ble_eq_true rfl)) d_S_pageToWrite_15 ⟨(hm hpt).1, (hm hpt).2⟩) hS (fun u15 H locs hw hP hz15 hS => ?_)
    have hP : mw D vwCl bs (va_up w_2 q_1 (some (pgE none 1 0 0 0))) H := hP
    rw [ew_2, bx_uu] at hP
    obtain ⟨w2, ew2⟩ : ∃ z9, z9 = va_up w q_1 (some (pgE none 1 0 0 0) : Option va_E) := ⟨_, rfl⟩
    rw [← ew2] at hP
    have y1 : w2 q_1 = some (.inr (ciP, [.null, .int 1, .long 0, .int 0, .long 0])) := by rw [ew2, va_up_self]; rfl
    have f12 : w2 h = some (.inr (ciS, [.int (nI n), .ref aT, .ref aA, .ref aS])) := by rw [ew2, va_up_ne _ _ (fun z => by rw [z, nq_1] at f1; cases f1)]; exact f1
    have s22 : w2 aT = some (.inl (cP, n, .inr (.inr (.inr (.inr pt))))) := by rw [ew2, va_up_ne _ _ (fun z => by rw [z, nq_1] at s2; cases s2)]; exact s2
    refine lv_astore_n (lv' := [(2, .ref q_1), (0, .ref h), (1, .int (nI i))]) hx hb d_S_pageToWrite_18 rfl hl (by decide) rfl (fun ls hl => ?_)
    refine lv_aload_n hx hb d_S_pageToWrite_19 rfl (lv_at hl 1 rfl) ?_
    refine mw_get (C := R_S) (T := T_S) (N := 4) (ci := ciS) (v := .ref aT) hx hb htg i_S hown hK hP f12 rfl 1 (by decide) (htg _ k_47) (fun _ h9 => h9) rfl d_S_pageToWrite_20 ?_
    refine lv_iload_n hx hb d_S_pageToWrite_23 rfl (lv_at hl 2 rfl) ?_
    refine lv_aload_n hx hb d_S_pageToWrite_24 rfl (lv_at hl 0 rfl) ?_
    refine mw_astq (r := (R_P, T_P, 5)) hx hb hK hP hS 2 ciP s22 rfl y1 rfl (vp_in_nI hi (by omega)) d_S_pageToWrite_25 (fun H locs hP hS hz25 => ?_)
    rw [show (nI i).toNatClampNeg = i from nI_clamp (by omega), ew2] at hP
    have hgrow := sm_grow hs hi hpt nq_1
    refine lv_aload_n hx hb d_S_pageToWrite_26 rfl (lv_at hl 0 rfl) ?_
    refine W.widen (k := mc) (n := ms) (hm hpt).1 (hm hpt).2 ?_
    exact W.aret (v := .ref q_1) hx hb hr (Or.inl ⟨_, rfl⟩) (Or.inr ⟨_, rfl⟩) (fun t ht hW => ⟨⟨(_, q_1, va_up pt i (some q_1)), q_1, rfl, ⟨hgrow.1, va_up_self _ _ _, hgrow.2, fun j hj => va_up_ne _ _ hj, fun z => absurd (by first | rfl | exact hpt) z⟩, rfl, hP.at ht⟩, hS.F ht⟩) hS.2.2 d_S_pageToWrite_27
  · refine lv_astore_n (lv' := [(2, .ref pz), (0, .ref h), (1, .int (nI i))]) hx hb d_S_pageToWrite_6 rfl hl (by decide) rfl (fun ls hl => ?_)
    refine lv_aload_n hx hb d_S_pageToWrite_7 rfl (lv_at hl 0 rfl) ?_
    refine lv_ifnonnull (tgt := 26) hx hb d_S_pageToWrite_8 (by decide) ?_
    refine lv_aload_n hx hb d_S_pageToWrite_26 rfl (lv_at hl 0 rfl) ?_
    refine W.widen (k := mc) (n := ms) (Nat.zero_le _) (Nat.zero_le _) ?_
    exact W.aret (v := .ref pz) hx hb hr (Or.inl ⟨_, rfl⟩) (Or.inr ⟨_, rfl⟩) (fun t ht hW => ⟨⟨(w, pz, pt), pz, rfl, ⟨hs, hpt, kp.rf, fun _ _ => rfl, fun _ => by first | rfl | exact hpt⟩, rfl, hP.at ht⟩, hS.F ht⟩) hS.2.2 d_S_pageToWrite_27
set_option maxHeartbeats 4000000 in
set_option maxRecDepth 100000 in
/-- mergeWord -/
theorem t_S_mergeWord (l : Launch) (D : va_G) (cJ cI cP : ClassId) (bs : Nat) (w : Nat → Option va_E) (h n : Nat) (M T : Nat → Int64) (ra : Nat → Int64) (rs : Nat → Int32) (aT aA aS : Nat) (pt : Nat → Option Nat) (hs : sm cJ cI cP w h n M T ra rs aT aA aS pt) (k : Nat) (hk : k < 512 * n) (mask bits : Int64) : Met l y_S_mergeWord ws_S_mergeWord ({ frames := 3, cells := 2, slots := 517, locals := 73 }) (mPc D vwCl (mT cJ cI cP) bs w [.ref h, .int (nI k), .long mask, .long bits]) (va_Qv (S := ((Nat → Option va_E) × (Nat → Option Nat))) (fun u => sm cJ cI cP u.1 h n (va_up M k (mrg (M k) mask bits)) T ra rs aT aA aS u.2 ∧ kp w u.1 (sfp w h) (sfp u.1 h) ∧ (∀ j, ¬ pt j = none → ¬ u.2 j = none) ∧ ¬ u.2 (k / 512) = none) (mB D vwCl bs (fun u => u.1)) (mA bs)) 2 517 (mA bs) := by
  refine Met.ofW (cc := c_S_mergeWord) (maxL := 6) (ret := none) (by decide) rfl ?_
  intro p e s m args below meth c s₁ B hml hv
  obtain ⟨rfl, hbs, hP, hK⟩ := hv
  have hx := B.exec
  have hb := B.bytes
  have hr := B.returns
  have htg : ∀ w ∈ gt, w.before _ s = true := fun w h => atoms_spec (ws := ws_S_mergeWord) B.pre w (List.mem_cons_of_mem _ h)
  have hown : s.vm.findClass R_S = some m.cls := findClass_of_methodNamed B.named
  have hlocks := B.notSynchronized
  have hS : va_S (mA bs) s.heap s.heap [] := va_S.rf
  have hl := lv_entry ([.ref h, .int (nI k), .long mask, .long bits]) (n := 6) (Nat.le_of_ble_eq_true rfl)
  rw [lg_entry_eq]
  generalize (lg_sl ([.ref h, .int (nI k), .long mask, .long bits]) ++ List.replicate (6 - (lg_sl ([.ref h, .int (nI k), .long mask, .long bits])).length) Slot.unset).toArray = ls at hl ⊢
  have hl : lv_has ls 6 [(0, .ref h), (1, .int (nI k)), (2, .long mask), (4, .long bits)] := hl
  obtain ⟨hn, s1, s2, s3, s4, s5, s6, s7⟩ := id hs
  have f1 : w h = some (.inr (ciS, [.int (nI n), .ref aT, .ref aA, .ref aS])) := s1
  have hi : k / 512 < n := by omega
  refine lv_aload_n hx hb d_S_mergeWord_0 rfl (lv_at hl 0 rfl) ?_
  refine lv_iload_n hx hb d_S_mergeWord_1 rfl (lv_at hl 1 rfl) ?_
  refine lv_bipush (v := 9) hx hb d_S_mergeWord_2 (by decide) ?_
  refine lv_ishr hx hb d_S_mergeWord_4 ?_
  rw [show (nI k) >>> (9 &&& 31) = nI (k / 512) from ish k 9 (by omega) (by omega)]
  refine mc_r (va_runV (As := [.int (nI (k / 512))]) (rest := []) ⟨hx, hb, hml, hown, htg⟩ (t_S_ptw l D cJ cI cP bs w h n M T ra rs aT aA aS pt hs (k / 512) hi 1 5 (fun _ => ⟨Nat.le_refl _, Nat.le_refl _⟩)) (cwV (own := R_S) (C := R_S) 1 htg (ginV k_219 k_221 k_7 k_25 k_222) rfl rfl rfl (by decide +kernel) ⟨Nat.le_of_ble_eq_true rfl, Nat.le_of_ble_eq_true rfl⟩) (mPc.preV (ci := ciS) (q := (R_S, T_S, 4)) hbs hS hP hK rfl f1) rfl rfl hl.1 rfl (lv_room (Nat.le_of_ble_eq_true rfl)) d_S_mergeWord_5 ⟨Nat.le_of_ble_eq_true rfl, Nat.le_of_ble_eq_true rfl⟩) hS (fun u5 H locs hw hP hz5 hS => ?_)
  obtain ⟨w2, pz, pt2⟩ := u5
  obtain ⟨m1, m2, m3, m4, m5⟩ := hw
  have m1 : sm cJ cI cP w2 h n M T ra rs aT aA aS pt2 := m1
  have m2 : pt2 (k / 512) = some pz := m2
  have m3 : kp w w2 (sfp w h) (sfp w2 h) := m3
  have m4 : ∀ j, ¬ j = (k / 512) → pt2 j = pt j := m4
  have hP : mw D vwCl bs w2 H := hP
  have m6 := m1.2.2.2.2.2.2.1 (k / 512) pz hi m2
  obtain ⟨wr, ev, ew, y1, y2⟩ := id m6
  refine lv_iload_n hx hb d_S_mergeWord_8 rfl (lv_at hl 1 rfl) ?_
  refine lv_sipush (v := 511) hx hb d_S_mergeWord_9 (by decide) ?_
  refine lv_iand hx hb d_S_mergeWord_12 ?_
  rw [show (nI k) &&& 511 = nI (k % 512) from pk_andN (show k < 2 ^ 32 by omega) 9 (by decide)]
  refine lv_lload_n hx hb d_S_mergeWord_13 rfl (lv_at hl 2 rfl) ?_
  refine lv_lload hx hb d_S_mergeWord_14 (lv_at hl 3 rfl) ?_
  refine mc_v (va_runV (As := [.int (nI (k % 512)), .long mask, .long bits]) (rest := []) ⟨hx, hb, hml, hown, htg⟩ (t_P_merge l D cJ cI cP bs w2 pz (fun j => M (512 * (k / 512) + j)) (T (k / 512)) m6 (k % 512) (Nat.mod_lt _ (by decide)) mask bits 1 512 (fun _ _ => ⟨Nat.le_refl _, Nat.le_refl _⟩)) (cwV (own := R_S) (C := R_P) 3 htg (ginV k_244 k_245 k_246 k_32 k_247) rfl rfl rfl (by decide +kernel) ⟨Nat.le_of_ble_eq_true rfl, Nat.le_of_ble_eq_true rfl⟩) (mPc.preV (ci := ciP) (q := (R_P, T_P, 5)) hbs hS hP hK rfl y1) rfl rfl hl.1 rfl (lv_room (Nat.le_of_ble_eq_true rfl)) d_S_mergeWord_16 ⟨Nat.le_of_ble_eq_true rfl, Nat.le_of_ble_eq_true rfl⟩) hS (fun w3 H locs hw hP hz16 hS => ?_)
  obtain ⟨v1, v2, -, -⟩ := hw
  have hpg := sm_page m1 hi m2 v2 v1
  rw [va_up_id, show M (512 * (k / 512) + k % 512) = M k by rw [show 512 * (k / 512) + k % 512 = k by omega], pup_merge] at hpg
  have hold : ∀ j, ¬ pt j = none → ¬ pt2 j = none := fun j hj => by
    by_cases hji : j = k / 512
    · rw [hji, m2]; simp
    · rw [m4 j hji]; exact hj
  exact W.vret hx hb hr (fun t ht hW => ⟨⟨(w3, pt2), rfl, ⟨hpg.1, m3.trans hpg.2, hold, by show ¬ pt2 (k / 512) = none; rw [m2]; simp⟩, hP.at ht⟩, hS.F ht⟩) hS.2.2 d_S_mergeWord_19
end
section
theorem lN_nat {m : Nat} (h : m < 2 ^ 64) : (lN m).toBitVec.toNat = m := by
  show (BitVec.ofNat 64 m).toNat = m
  rw [BitVec.toNat_ofNat, Nat.mod_eq_of_lt h]
/-- whether a reservation lies in the words from a to b -/
def lostB (x : Int64) (a b : Nat) : Bool := decide (¬ x = 0) && (decide (a ≤ (x.toBitVec.toNat - 2147483648) / 8) && decide ((x.toBitVec.toNat - 2147483648) / 8 ≤ b))
def lost (ra : Nat → Int64) (a b : Nat) : Nat → Int64 := fun j => if j < 4 ∧ lostB (ra j) a b = true then 0 else ra j
/-- the addresses that are reserved lie in memory -/
def rok (ra : Nat → Int64) (n : Nat) : Prop := ∀ j, j < 4 → ra j = 0 ∨ ∃ c, ra j = lN (2147483648 + c) ∧ c < 4096 * n
theorem lN_ne0 {c : Nat} (h : c < 2 ^ 31) : ¬ lN (2147483648 + c) = 0 := fun z => by
  have := (pk_lEQ (a := 2147483648 + c) (b := 0) (by omega) (by omega)).mp z
  omega
theorem lostB_at {c : Nat} (h : c < 2 ^ 31) (a b : Nat) : lostB (lN (2147483648 + c)) a b = (decide (a ≤ c / 8) && decide (c / 8 ≤ b)) := by
  unfold lostB
  rw [lN_nat (by omega), Nat.add_sub_cancel_left, decide_eq_true (lN_ne0 h), Bool.true_and]
theorem lostB_0 (a b : Nat) : lostB 0 a b = false := by
  unfold lostB
  simp
theorem rok_lost {ra : Nat → Int64} {n : Nat} (h : rok ra n) (a b : Nat) : rok (lost ra a b) n := fun j hj => by
  unfold lost
  by_cases c : j < 4 ∧ lostB (ra j) a b = true
  · rw [if_pos c]; exact Or.inl rfl
  · rw [if_neg c]; exact h j hj
def tinc (T : Nat → Int64) (a b : Nat) : Nat → Int64 := fun j => if a ≤ j ∧ j < b then T j + 1 else T j
theorem tinc_0 (T : Nat → Int64) (a : Nat) : tinc T a a = T := by
  funext j
  unfold tinc
  rw [if_neg (by omega)]
theorem tinc_s (T : Nat → Int64) {a i : Nat} (h : a ≤ i) : va_up (tinc T a i) i (tinc T a i i + 1) = tinc T a (i + 1) := by
  funext j
  by_cases hj : j = i
  · subst hj
    rw [va_up_self]
    unfold tinc
    rw [if_neg (by omega), if_pos (by omega)]
  · rw [va_up_ne _ _ hj]
    unfold tinc
    by_cases c : a ≤ j ∧ j < i
    · rw [if_pos c, if_pos (by omega)]
    · rw [if_neg c, if_neg (by omega)]
theorem pup_id (M : Nat → Int64) (i : Nat) : pup M i (fun j => M (512 * i + j)) = M := by
  funext q
  unfold pup
  by_cases h : q / 512 = i
  · rw [if_pos h]
    show M (512 * i + q % 512) = M q
    rw [show 512 * i + q % 512 = q by omega]
  · rw [if_neg h]
set_option maxHeartbeats 4000000 in
set_option maxRecDepth 100000 in
/-- loseReservations: its loop -/
theorem lp_S_lose {p : Program} {l : Launch} {e : Env} {s : State} {m : MethodId} {args : Array Value} {below : List Frame} {meth : Method} {c : Code} {Q : State → Prop} {D : va_G} {cJ cI cP : ClassId} {bs : Nat} (hx : p.tables.exec = Jvm.exec) (hb : c.code = c_S_loseReservations) (hml : c.maxLocals = 5) (hown : s.vm.findClass R_S = some m.cls) (htg : ∀ w ∈ gt, w.before args s = true) (hK : va_K D vwCl (mT cJ cI cP) s) (hbs : bs ≤ s.heap.size) (w : Nat → Option va_E) (h n : Nat) (M T : Nat → Int64) (ra : Nat → Int64) (rs : Nat → Int32) (aT aA aS : Nat) (pt : Nat → Option Nat) (a b : Nat) (ha : a < 2 ^ 30) (hb9 : b < 2 ^ 30) (hro : rok ra n) (kx : ∀ (w1 : Nat → Option va_E) (ls : Array Slot) (H : Heap) (locs : List Loc), sm cJ cI cP w1 h n M T (lost ra a b) rs aT aA aS pt → kp w w1 (sfp w h) (sfp w1 h) → mw D vwCl bs w1 H → va_S (mA bs) s.heap H locs → W p l e ({ frames := 1, cells := 0, slots := 0, locals := 21 } : Room) s m args below meth c H locs 0 0 Q (F0 m 56 ls [])) :
    ∀ (k : Nat) (i : Nat) (w1 : Nat → Option va_E) (rc : Nat → Int64) (ls : Array Slot) (H : Heap) (locs : List Loc), 4 - i < k → i ≤ 4 → (∀ j, j < i → rc j = lost ra a b j) → (∀ j, ¬ j < i → rc j = ra j) → sm cJ cI cP w1 h n M T rc rs aT aA aS pt → kp w w1 (sfp w h) (sfp w1 h) → mw D vwCl bs w1 H → va_S (mA bs) s.heap H locs → lv_has ls 5 [(3, .int (nI i)), (0, .ref h), (1, .int (nI a)), (2, .int (nI b))] → W p l e ({ frames := 1, cells := 0, slots := 0, locals := 21 } : Room) s m args below meth c H locs 0 0 Q (F0 m 2 ls []) := by
  intro k
  induction k with
  | zero => intro i w1 rc ls H locs hk0; exact absurd hk0 (by omega)
  | succ k ih =>
    intro i w1 rc ls H locs hk hi hlo hhi hs1 hkp hP hS hl
    obtain ⟨hn, s1, s2, s3, s4, s5, s6, s7⟩ := id hs1
    have f1 : w1 h = some (.inr (ciS, [.int (nI n), .ref aT, .ref aA, .ref aS])) := s1
    refine lv_iload_n hx hb d_S_loseReservations_2 rfl (lv_at hl 0 rfl) ?_
    refine lv_iconst (v := 4) hx hb d_S_loseReservations_3 (by decide) ?_
    refine lv_icmp_ge (tgt := 56) hx hb d_S_loseReservations_4 (by decide) (fun c4 => ?_) (fun c4 => ?_)
    · have e5 : i = 4 := Nat.le_antisymm hi (Nat.le_of_not_lt (fun z => nI_ge z (by omega) (show nI 4 ≤ nI i from c4)))
      subst e5
      have erc : rc = lost ra a b := by
        funext j
        by_cases hj : j < 4
        · exact hlo j hj
        · rw [hhi j hj]; unfold lost; rw [if_neg (fun z => hj z.1)]
      subst erc
      exact kx w1 ls H locs hs1 hkp hP hS
    · have hlt : i < 4 := Nat.lt_of_not_le (fun z => c4 (show nI 4 ≤ nI i from nI_le z (by omega)))
      have eri : rc i = ra i := hhi i (by omega)
      refine lv_aload_n hx hb d_S_loseReservations_7 rfl (lv_at hl 1 rfl) ?_
      refine mw_get (C := R_S) (T := T_S) (N := 4) (ci := ciS) (v := .ref aA) hx hb htg i_S hown hK hP f1 rfl 2 (by decide) (htg _ k_48) (fun _ h9 => h9) rfl d_S_loseReservations_8 ?_
      refine lv_iload_n hx hb d_S_loseReservations_11 rfl (lv_at hl 0 rfl) ?_
      refine mw_lald hx hb hK hP 0 s3 rfl (vp_in_nI hlt (by omega)) d_S_loseReservations_12 ?_
      rw [show (nI i).toNatClampNeg = i from nI_clamp (by omega)]
      refine lv_lconst (v := 0) hx hb d_S_loseReservations_13 rfl ?_
      refine lc_eq (tgt := 50) hx hb d_S_loseReservations_14 d_S_loseReservations_15 (by decide) (fun c14 => ?_) (fun c14 => ?_)
      · obtain ⟨i_1, ei_1⟩ : ∃ y : Int32, y = (nI i) + 1 := ⟨_, rfl⟩
        refine lv_iinc (v := i_1) (lv' := [(3, .int i_1), (0, .ref h), (1, .int (nI a)), (2, .int (nI b))]) hx hb d_S_loseReservations_50 hl (k := 0) rfl (by rw [ei_1]; rfl) (by decide) rfl (fun ls hl => ?_)
        refine lv_goto (tgt := 2) hx hb d_S_loseReservations_53 (by decide) ?_
        refine ih (i + 1) w1 rc ls H locs (by omega) (by omega) (fun j hj => ?_) (fun j hj => hhi j (by omega)) hs1 hkp hP hS (by rw [← nI_1 i, ← ei_1]; exact lv_sub hl [0, 1, 2, 3] rfl)
        by_cases hji : j = i
        · subst hji; unfold lost; rw [if_neg (fun z => ?_), eri]
          have z2 := z.2
          rw [← eri] at z2
          first
            | (rw [c14, lostB_0] at z2; cases z2)
            | (rw [hc9, lostB_at (by omega), Bool.and_eq_true, decide_eq_true_iff, decide_eq_true_iff] at z2; first | exact absurd z2.1 (Nat.not_le.mpr ((nI_ltI (by omega) (by omega)).mp c34)) | exact absurd z2.2 (Nat.not_le.mpr ((nI_ltI (by omega) (by omega)).mp c40)))
        · exact hlo j (by omega)
      · obtain ⟨c9, hc9, hcn⟩ : ∃ c, rc i = lN (2147483648 + c) ∧ c < 4096 * n := by
          rw [eri] at c14 ⊢
          rcases hro i hlt with z | z
          · exact absurd z c14
          · exact z
        refine lv_aload_n hx hb d_S_loseReservations_18 rfl (lv_at hl 1 rfl) ?_
        refine mw_get (C := R_S) (T := T_S) (N := 4) (ci := ciS) (v := .ref aA) hx hb htg i_S hown hK hP f1 rfl 2 (by decide) (htg _ k_48) (fun _ h9 => h9) rfl d_S_loseReservations_19 ?_
        refine lv_iload_n hx hb d_S_loseReservations_22 rfl (lv_at hl 0 rfl) ?_
        refine mw_lald hx hb hK hP 0 s3 rfl (vp_in_nI hlt (by omega)) d_S_loseReservations_23 ?_
        rw [show (nI i).toNatClampNeg = i from nI_clamp (by omega)]
        rw [show rc i = lN (2147483648 + c9) from hc9]
        refine mc_i (va_runS (As := [.long (lN (2147483648 + c9))]) (rest := []) ⟨hx, hb, hml, hown, htg⟩ (t_S_placeOf l D cJ cI cP bs w1 c9) (cwS (own := R_S) 1 htg (ginS k_182 k_183 k_25 k_184) rfl rfl rfl (by decide +kernel) ⟨Nat.le_of_ble_eq_true rfl, Nat.le_of_ble_eq_true rfl⟩) (mPc.preS hbs hS hP hK) rfl rfl hl.1 rfl (lv_room (Nat.le_of_ble_eq_true rfl)) d_S_loseReservations_24 ⟨Nat.le_of_ble_eq_true rfl, Nat.le_of_ble_eq_true rfl⟩) hS (fun r24 u24 H locs hw hP hz24 hS => ?_)
        subst hw
        refine lv_iconst (v := 3) hx hb d_S_loseReservations_27 (by decide) ?_
        refine lv_ishr hx hb d_S_loseReservations_28 ?_
        rw [show (nI c9) >>> (3 &&& 31) = nI (c9 / 8) from ish c9 3 (by omega) (by omega)]
        refine lv_istore (lv' := [(4, .int (nI (c9 / 8))), (3, .int (nI i)), (0, .ref h), (1, .int (nI a)), (2, .int (nI b))]) hx hb d_S_loseReservations_29 hl (by decide) rfl (fun ls hl => ?_)
        refine lv_iload hx hb d_S_loseReservations_31 (lv_at hl 0 rfl) ?_
        refine lv_iload_n hx hb d_S_loseReservations_33 rfl (lv_at hl 3 rfl) ?_
        refine lv_icmp_lt (tgt := 50) hx hb d_S_loseReservations_34 (by decide) (fun c34 => ?_) (fun c34 => ?_)
        · obtain ⟨i_2, ei_2⟩ : ∃ y : Int32, y = (nI i) + 1 := ⟨_, rfl⟩
          refine lv_iinc (v := i_2) (lv' := [(3, .int i_2), (4, .int (nI (c9 / 8))), (0, .ref h), (1, .int (nI a)), (2, .int (nI b))]) hx hb d_S_loseReservations_50 hl (k := 1) rfl (by rw [ei_2]; rfl) (by decide) rfl (fun ls hl => ?_)
          refine lv_goto (tgt := 2) hx hb d_S_loseReservations_53 (by decide) ?_
          refine ih (i + 1) w1 rc ls H locs (by omega) (by omega) (fun j hj => ?_) (fun j hj => hhi j (by omega)) hs1 hkp hP hS (by rw [← nI_1 i, ← ei_2]; exact lv_sub hl [0, 2, 3, 4] rfl)
          by_cases hji : j = i
          · subst hji; unfold lost; rw [if_neg (fun z => ?_), eri]
            have z2 := z.2
            rw [← eri] at z2
            first
              | (rw [c14, lostB_0] at z2; cases z2)
              | (rw [hc9, lostB_at (by omega), Bool.and_eq_true, decide_eq_true_iff, decide_eq_true_iff] at z2; first | exact absurd z2.1 (Nat.not_le.mpr ((nI_ltI (by omega) (by omega)).mp c34)) | exact absurd z2.2 (Nat.not_le.mpr ((nI_ltI (by omega) (by omega)).mp c40)))
          · exact hlo j (by omega)
        · refine lv_iload hx hb d_S_loseReservations_37 (lv_at hl 0 rfl) ?_
          refine lv_iload_n hx hb d_S_loseReservations_39 rfl (lv_at hl 4 rfl) ?_
          refine lv_icmp_gt (tgt := 50) hx hb d_S_loseReservations_40 (by decide) (fun c40 => ?_) (fun c40 => ?_)
          · obtain ⟨i_3, ei_3⟩ : ∃ y : Int32, y = (nI i) + 1 := ⟨_, rfl⟩
            refine lv_iinc (v := i_3) (lv' := [(3, .int i_3), (4, .int (nI (c9 / 8))), (0, .ref h), (1, .int (nI a)), (2, .int (nI b))]) hx hb d_S_loseReservations_50 hl (k := 1) rfl (by rw [ei_3]; rfl) (by decide) rfl (fun ls hl => ?_)
            refine lv_goto (tgt := 2) hx hb d_S_loseReservations_53 (by decide) ?_
            refine ih (i + 1) w1 rc ls H locs (by omega) (by omega) (fun j hj => ?_) (fun j hj => hhi j (by omega)) hs1 hkp hP hS (by rw [← nI_1 i, ← ei_3]; exact lv_sub hl [0, 2, 3, 4] rfl)
            by_cases hji : j = i
            · subst hji; unfold lost; rw [if_neg (fun z => ?_), eri]
              have z2 := z.2
              rw [← eri] at z2
              first
                | (rw [c14, lostB_0] at z2; cases z2)
                | (rw [hc9, lostB_at (by omega), Bool.and_eq_true, decide_eq_true_iff, decide_eq_true_iff] at z2; first | exact absurd z2.1 (Nat.not_le.mpr ((nI_ltI (by omega) (by omega)).mp c34)) | exact absurd z2.2 (Nat.not_le.mpr ((nI_ltI (by omega) (by omega)).mp c40)))
            · exact hlo j (by omega)
          · refine lv_aload_n hx hb d_S_loseReservations_43 rfl (lv_at hl 2 rfl) ?_
            refine mw_get (C := R_S) (T := T_S) (N := 4) (ci := ciS) (v := .ref aA) hx hb htg i_S hown hK hP f1 rfl 2 (by decide) (htg _ k_48) (fun _ h9 => h9) rfl d_S_loseReservations_44 ?_
            refine lv_iload_n hx hb d_S_loseReservations_47 rfl (lv_at hl 1 rfl) ?_
            refine lv_lconst (v := 0) hx hb d_S_loseReservations_48 rfl ?_
            refine mw_last hx hb hK hP hS 0 s3 rfl (vp_in_nI hlt (by omega)) d_S_loseReservations_49 (fun H locs hP hS hz49 => ?_)
            rw [show (nI i).toNatClampNeg = i from nI_clamp (by omega)] at hP
            obtain ⟨w_4, ew_4⟩ : ∃ z9, z9 = va_up w1 aA (some (.inl (cJ, 4, .inr (.inl (vp_updL rc i 0)))) : Option va_E) := ⟨_, rfl⟩
            rw [← ew_4] at hP
            have h_5 : w_4 aA = some (.inl (cJ, 4, .inr (.inl (vp_updL rc i 0)))) := by rw [ew_4, va_up_self]
            have h_6 : w_4 h = some (.inr (ciS, [.int (nI n), .ref aT, .ref aA, .ref aS])) := by rw [ew_4, va_up_ne _ _ (fun z => by rw [z, s3] at f1; cases f1)]; exact f1
            have h_7 : w_4 aT = some (.inl (cP, n, .inr (.inr (.inr (.inr pt))))) := by rw [ew_4, va_up_ne _ _ (fun z => by rw [z, s3] at s2; simp at s2)]; exact s2
            have h_8 : w_4 aS = some (.inl (cI, 4, .inl rs)) := by rw [ew_4, va_up_ne _ _ (fun z => by rw [z, s3] at s4; simp at s4)]; exact s4
            obtain ⟨i_9, ei_9⟩ : ∃ y : Int32, y = (nI i) + 1 := ⟨_, rfl⟩
            refine lv_iinc (v := i_9) (lv' := [(3, .int i_9), (4, .int (nI (c9 / 8))), (0, .ref h), (1, .int (nI a)), (2, .int (nI b))]) hx hb d_S_loseReservations_50 hl (k := 1) rfl (by rw [ei_9]; rfl) (by decide) rfl (fun ls hl => ?_)
            refine lv_goto (tgt := 2) hx hb d_S_loseReservations_53 (by decide) ?_
            have hra := sm_ra hs1 (vp_updL rc i 0)
            rw [← ew_4] at hra
            refine ih (i + 1) w_4 (vp_updL rc i 0) ls H locs (by omega) (by omega) (fun j hj => ?_) (fun j hj => ?_) hra.1 (hkp.trans hra.2) hP hS (by rw [← nI_1 i, ← ei_9]; exact lv_sub hl [0, 2, 3, 4] rfl)
            · by_cases hji : j = i
              · subst hji; rw [pk_uLs]; unfold lost; rw [if_pos ⟨hlt, by rw [← eri, hc9, lostB_at (by omega), decide_eq_true ((nI_leI (by omega) (by omega)).mp (Int32.not_lt.mp c34)), decide_eq_true ((nI_leI (by omega) (by omega)).mp (Int32.not_lt.mp c40))]; rfl⟩]
              · rw [pk_uLn hji]; exact hlo j (by omega)
            · rw [pk_uLn (by omega)]; exact hhi j (by omega)
set_option maxHeartbeats 4000000 in
set_option maxRecDepth 100000 in
/-- loseReservations: those in the words from a to b -/
theorem t_S_lose (l : Launch) (D : va_G) (cJ cI cP : ClassId) (bs : Nat) (w : Nat → Option va_E) (h n : Nat) (M T : Nat → Int64) (ra : Nat → Int64) (rs : Nat → Int32) (aT aA aS : Nat) (pt : Nat → Option Nat) (hs : sm cJ cI cP w h n M T ra rs aT aA aS pt) (a b : Nat) (ha : a < 2 ^ 30) (hb9 : b < 2 ^ 30) (hro : rok ra n) : Met l y_S_loseReservations ws_S_loseReservations ({ frames := 1, cells := 0, slots := 0, locals := 21 }) (mPc D vwCl (mT cJ cI cP) bs w [.ref h, .int (nI a), .int (nI b)]) (va_Qv (S := (Nat → Option va_E)) (fun u => sm cJ cI cP u h n M T (lost ra a b) rs aT aA aS pt ∧ kp w u (sfp w h) (sfp u h)) (mB D vwCl bs (fun u => u)) (mA bs)) 0 0 (mA bs) := by
  refine Met.ofW (cc := c_S_loseReservations) (maxL := 5) (ret := none) (by decide) rfl ?_
  intro p e s m args below meth c s₁ B hml hv
  obtain ⟨rfl, hbs, hP, hK⟩ := hv
  have hx := B.exec
  have hb := B.bytes
  have hr := B.returns
  have htg : ∀ w ∈ gt, w.before _ s = true := fun w h => atoms_spec (ws := ws_S_loseReservations) B.pre w (List.mem_cons_of_mem _ h)
  have hown : s.vm.findClass R_S = some m.cls := findClass_of_methodNamed B.named
  have hlocks := B.notSynchronized
  have hS : va_S (mA bs) s.heap s.heap [] := va_S.rf
  have hl := lv_entry ([.ref h, .int (nI a), .int (nI b)]) (n := 5) (Nat.le_of_ble_eq_true rfl)
  rw [lg_entry_eq]
  generalize (lg_sl ([.ref h, .int (nI a), .int (nI b)]) ++ List.replicate (5 - (lg_sl ([.ref h, .int (nI a), .int (nI b)])).length) Slot.unset).toArray = ls at hl ⊢
  have hl : lv_has ls 5 [(0, .ref h), (1, .int (nI a)), (2, .int (nI b))] := hl
  refine lv_iconst (v := 0) hx hb d_S_loseReservations_0 (by decide) ?_
  refine lv_istore_n (lv' := [(3, .int 0), (0, .ref h), (1, .int (nI a)), (2, .int (nI b))]) hx hb d_S_loseReservations_1 rfl hl (by decide) rfl (fun ls hl => ?_)
  refine lp_S_lose (D := D) (cJ := cJ) (cI := cI) (cP := cP) (bs := bs) hx hb hml hown htg hK hbs w h n M T ra rs aT aA aS pt a b ha hb9 hro (fun w1 ls H locs h1 h2 hP hS => ?_) 5 0 w ra ls _ _ (by omega) (by omega) (fun j hj => absurd hj (by omega)) (fun _ _ => rfl) hs kp.rf hP hS (lv_sub hl [0, 1, 2, 3] rfl)
  exact W.vret hx hb hr (fun t ht hW => ⟨⟨w1, rfl, ⟨h1, h2⟩, hP.at ht⟩, hS.F ht⟩) hS.2.2 d_S_loseReservations_56
set_option maxHeartbeats 4000000 in
set_option maxRecDepth 100000 in
/-- noteStored: its loop -/
theorem lp_S_note {p : Program} {l : Launch} {e : Env} {s : State} {m : MethodId} {args : Array Value} {below : List Frame} {meth : Method} {c : Code} {Q : State → Prop} {D : va_G} {cJ cI cP : ClassId} {bs : Nat} (hx : p.tables.exec = Jvm.exec) (hb : c.code = c_S_noteStored) (hml : c.maxLocals = 5) (hown : s.vm.findClass R_S = some m.cls) (htg : ∀ w ∈ gt, w.before args s = true) (hK : va_K D vwCl (mT cJ cI cP) s) (hbs : bs ≤ s.heap.size) (w : Nat → Option va_E) (h n : Nat) (M T : Nat → Int64) (ra : Nat → Int64) (rs : Nat → Int32) (aT aA aS : Nat) (pt : Nat → Option Nat) (a b : Nat) (hbn : b < 4096 * n) (hn9 : n ≤ 1024) (hall : ∀ i, a / 4096 ≤ i → i ≤ b / 4096 → ¬ pt i = none) (kx : ∀ (w1 : Nat → Option va_E) (ls : Array Slot) (H : Heap) (locs : List Loc), sm cJ cI cP w1 h n M (tinc T (a / 4096) (b / 4096 + 1)) ra rs aT aA aS pt → kp w w1 (sfp w h) (sfp w1 h) → mw D vwCl bs w1 H → va_S (mA bs) s.heap H locs → lv_has ls 5 [(0, .ref h), (1, .int (nI a)), (2, .int (nI b))] → W p l e ({ frames := 3, cells := 0, slots := 0, locals := 62 } : Room) s m args below meth c H locs 0 0 Q (F0 m 32 ls [])) :
    ∀ (k : Nat) (i : Nat) (w1 : Nat → Option va_E) (ls : Array Slot) (H : Heap) (locs : List Loc), b / 4096 + 1 - i < k → a / 4096 ≤ i → i ≤ b / 4096 + 1 → sm cJ cI cP w1 h n M (tinc T (a / 4096) i) ra rs aT aA aS pt → kp w w1 (sfp w h) (sfp w1 h) → mw D vwCl bs w1 H → va_S (mA bs) s.heap H locs → lv_has ls 5 [(4, .int (nI i)), (3, .int (nI (b / 4096))), (0, .ref h), (1, .int (nI a)), (2, .int (nI b))] → W p l e ({ frames := 3, cells := 0, slots := 0, locals := 62 } : Room) s m args below meth c H locs 0 0 Q (F0 m 11 ls []) := by
  intro k
  induction k with
  | zero => intro i w1 ls H locs hk0; exact absurd hk0 (by omega)
  | succ k ih =>
    intro i w1 ls H locs hk hai hi hs1 hkp hP hS hl
    obtain ⟨hn, s1, s2, s3, s4, s5, s6, s7⟩ := id hs1
    have f1 : w1 h = some (.inr (ciS, [.int (nI n), .ref aT, .ref aA, .ref aS])) := s1
    refine lv_iload hx hb d_S_noteStored_11 (lv_at hl 0 rfl) ?_
    refine lv_iload_n hx hb d_S_noteStored_13 rfl (lv_at hl 1 rfl) ?_
    refine lv_icmp_gt (tgt := 32) hx hb d_S_noteStored_14 (by decide) (fun c14 => ?_) (fun c14 => ?_)
    · have e5 : i = b / 4096 + 1 := Nat.le_antisymm hi ((nI_ltI (by omega) (by omega)).mp c14)
      subst e5
      exact kx w1 ls H locs hs1 hkp hP hS (lv_sub hl [2, 3, 4] rfl)
    · have hlt : i ≤ b / 4096 := Nat.le_of_not_lt (fun z => c14 (nI_lt z (by omega)))
      have hin : i < n := by omega
      have hex := hall i hai hlt
      refine lv_aload_n hx hb d_S_noteStored_17 rfl (lv_at hl 2 rfl) ?_
      refine lv_iload hx hb d_S_noteStored_18 (lv_at hl 0 rfl) ?_
      refine mc_r (va_runV (As := [.int (nI i)]) (rest := []) ⟨hx, hb, hml, hown, htg⟩ (t_S_ptw l D cJ cI cP bs w1 h n M (tinc T (a / 4096) i) ra rs aT aA aS pt hs1 i hin 0 0 (fun z => absurd z hex)) (cwV (own := R_S) (C := R_S) 1 htg (ginV k_219 k_221 k_7 k_25 k_222) rfl rfl rfl (by decide +kernel) ⟨Nat.le_of_ble_eq_true rfl, Nat.le_of_ble_eq_true rfl⟩) (mPc.preV (ci := ciS) (q := (R_S, T_S, 4)) hbs hS hP hK rfl f1) rfl rfl hl.1 rfl (lv_room (Nat.le_of_ble_eq_true rfl)) d_S_noteStored_20 ⟨Nat.le_of_ble_eq_true rfl, Nat.le_of_ble_eq_true rfl⟩) hS (fun u20 H locs hw hP hz20 hS => ?_)
      obtain ⟨w2, pz, pt2⟩ := u20
      obtain ⟨m1, m2, m3, m4, m5⟩ := hw
      have ept : pt2 = pt := by
        funext j
        by_cases hji : j = i
        · rw [hji]; exact m5 hex
        · exact m4 j hji
      subst ept
      have m1 : sm cJ cI cP w2 h n M (tinc T (a / 4096) i) ra rs aT aA aS pt2 := m1
      have m2 : pt2 i = some pz := m2
      have m3 : kp w1 w2 (sfp w1 h) (sfp w2 h) := m3
      have hP : mw D vwCl bs w2 H := hP
      have m6 := m1.2.2.2.2.2.2.1 i pz hin m2
      obtain ⟨wr, ev, ew, y1, y2⟩ := id m6
      refine mc_v (va_runV (As := []) (rest := []) ⟨hx, hb, hml, hown, htg⟩ (t_P_countWrite l D cJ cI cP bs w2 pz (fun j => M (512 * i + j)) (tinc T (a / 4096) i i) m6) (cwV (own := R_S) (C := R_P) 0 htg (ginV k_261 k_262 k_263 k_32 k_264) rfl rfl rfl (by decide +kernel) ⟨Nat.le_of_ble_eq_true rfl, Nat.le_of_ble_eq_true rfl⟩) (mPc.preV (ci := ciP) (q := (R_P, T_P, 5)) hbs hS hP hK rfl y1) rfl rfl hl.1 rfl (lv_room (Nat.le_of_ble_eq_true rfl)) d_S_noteStored_23 ⟨Nat.le_of_ble_eq_true rfl, Nat.le_of_ble_eq_true rfl⟩) hS (fun w3 H locs hw hP hz23 hS => ?_)
      have hpg := sm_page m1 hin m2 hw.2 hw.1
      rw [pup_id, tinc_s T hai] at hpg
      obtain ⟨i_1, ei_1⟩ : ∃ y : Int32, y = (nI i) + 1 := ⟨_, rfl⟩
      refine lv_iinc (v := i_1) (lv' := [(4, .int i_1), (3, .int (nI (b / 4096))), (0, .ref h), (1, .int (nI a)), (2, .int (nI b))]) hx hb d_S_noteStored_26 hl (k := 0) rfl (by rw [ei_1]; rfl) (by decide) rfl (fun ls hl => ?_)
      refine lv_goto (tgt := 11) hx hb d_S_noteStored_29 (by decide) ?_
      exact ih (i + 1) w3 ls H locs (by omega) (by omega) (by omega) hpg.1 ((hkp.trans m3).trans hpg.2) hP hS (by rw [← nI_1 i, ← ei_1]; exact lv_sub hl [0, 1, 2, 3, 4] rfl)
set_option maxHeartbeats 4000000 in
set_option maxRecDepth 100000 in
/-- noteStored: writes are counted, reservations lost -/
theorem t_S_note (l : Launch) (D : va_G) (cJ cI cP : ClassId) (bs : Nat) (w : Nat → Option va_E) (h n : Nat) (M T : Nat → Int64) (ra : Nat → Int64) (rs : Nat → Int32) (aT aA aS : Nat) (pt : Nat → Option Nat) (hs : sm cJ cI cP w h n M T ra rs aT aA aS pt) (a b : Nat) (hab : a ≤ b) (hbn : b < 4096 * n) (hro : rok ra n) (hall : ∀ i, a / 4096 ≤ i → i ≤ b / 4096 → ¬ pt i = none) : Met l y_S_noteStored ws_S_noteStored ({ frames := 3, cells := 0, slots := 0, locals := 62 }) (mPc D vwCl (mT cJ cI cP) bs w [.ref h, .int (nI a), .int (nI b)]) (va_Qv (S := (Nat → Option va_E)) (fun u => sm cJ cI cP u h n M (tinc T (a / 4096) (b / 4096 + 1)) (lost ra (a / 8) (b / 8)) rs aT aA aS pt ∧ kp w u (sfp w h) (sfp u h)) (mB D vwCl bs (fun u => u)) (mA bs)) 0 0 (mA bs) := by
  refine Met.ofW (cc := c_S_noteStored) (maxL := 5) (ret := none) (by decide) rfl ?_
  intro p e s m args below meth c s₁ B hml hv
  obtain ⟨rfl, hbs, hP, hK⟩ := hv
  have hx := B.exec
  have hb := B.bytes
  have hr := B.returns
  have htg : ∀ w ∈ gt, w.before _ s = true := fun w h => atoms_spec (ws := ws_S_noteStored) B.pre w (List.mem_cons_of_mem _ h)
  have hown : s.vm.findClass R_S = some m.cls := findClass_of_methodNamed B.named
  have hlocks := B.notSynchronized
  have hS : va_S (mA bs) s.heap s.heap [] := va_S.rf
  have hl := lv_entry ([.ref h, .int (nI a), .int (nI b)]) (n := 5) (Nat.le_of_ble_eq_true rfl)
  rw [lg_entry_eq]
  generalize (lg_sl ([.ref h, .int (nI a), .int (nI b)]) ++ List.replicate (5 - (lg_sl ([.ref h, .int (nI a), .int (nI b)])).length) Slot.unset).toArray = ls at hl ⊢
  have hl : lv_has ls 5 [(0, .ref h), (1, .int (nI a)), (2, .int (nI b))] := hl
  obtain ⟨hn, s1, s2, s3, s4, s5, s6, s7⟩ := id hs
  have f1 : w h = some (.inr (ciS, [.int (nI n), .ref aT, .ref aA, .ref aS])) := s1
  refine lv_iload_n hx hb d_S_noteStored_0 rfl (lv_at hl 2 rfl) ?_
  refine lv_bipush (v := 12) hx hb d_S_noteStored_1 (by decide) ?_
  refine lv_ishr hx hb d_S_noteStored_3 ?_
  rw [show (nI b) >>> (12 &&& 31) = nI (b / 4096) from ish b 12 (by omega) (by omega)]
  refine lv_istore_n (lv' := [(3, .int (nI (b / 4096))), (0, .ref h), (1, .int (nI a)), (2, .int (nI b))]) hx hb d_S_noteStored_4 rfl hl (by decide) rfl (fun ls hl => ?_)
  refine lv_iload_n hx hb d_S_noteStored_5 rfl (lv_at hl 2 rfl) ?_
  refine lv_bipush (v := 12) hx hb d_S_noteStored_6 (by decide) ?_
  refine lv_ishr hx hb d_S_noteStored_8 ?_
  rw [show (nI a) >>> (12 &&& 31) = nI (a / 4096) from ish a 12 (by omega) (by omega)]
  refine lv_istore (lv' := [(4, .int (nI (a / 4096))), (3, .int (nI (b / 4096))), (0, .ref h), (1, .int (nI a)), (2, .int (nI b))]) hx hb d_S_noteStored_9 hl (by decide) rfl (fun ls hl => ?_)
  refine lp_S_note (D := D) (cJ := cJ) (cI := cI) (cP := cP) (bs := bs) hx hb hml hown htg hK hbs w h n M T ra rs aT aA aS pt a b hbn hn.2 hall (fun w1 ls H locs h1 h2 hP hS hl => ?_) (b / 4096 + 2) (a / 4096) w ls _ _ (by omega) (Nat.le_refl _) (by omega) (by rw [tinc_0]; exact hs) kp.rf hP hS (lv_sub hl [0, 1, 2, 3, 4] rfl)
  obtain ⟨hn1, s1, s2, s3, s4, s5, s6, s7⟩ := id h1
  have f1 : w1 h = some (.inr (ciS, [.int (nI n), .ref aT, .ref aA, .ref aS])) := s1
  refine lv_aload_n hx hb d_S_noteStored_32 rfl (lv_at hl 0 rfl) ?_
  refine lv_iload_n hx hb d_S_noteStored_33 rfl (lv_at hl 1 rfl) ?_
  refine lv_iconst (v := 3) hx hb d_S_noteStored_34 (by decide) ?_
  refine lv_ishr hx hb d_S_noteStored_35 ?_
  rw [show (nI a) >>> (3 &&& 31) = nI (a / 8) from ish a 3 (by omega) (by omega)]
  refine lv_iload_n hx hb d_S_noteStored_36 rfl (lv_at hl 2 rfl) ?_
  refine lv_iconst (v := 3) hx hb d_S_noteStored_37 (by decide) ?_
  refine lv_ishr hx hb d_S_noteStored_38 ?_
  rw [show (nI b) >>> (3 &&& 31) = nI (b / 8) from ish b 3 (by omega) (by omega)]
  refine mc_v (va_runV (As := [.int (nI (a / 8)), .int (nI (b / 8))]) (rest := []) ⟨hx, hb, hml, hown, htg⟩ (t_S_lose l D cJ cI cP bs w1 h n M (tinc T (a / 4096) (b / 4096 + 1)) ra rs aT aA aS pt h1 (a / 8) (b / 8) (by omega) (by omega) hro) (cwV (own := R_S) (C := R_S) 2 htg (ginV k_265 k_267 k_10 k_25 k_268) rfl rfl rfl (by decide +kernel) ⟨Nat.le_of_ble_eq_true rfl, Nat.le_of_ble_eq_true rfl⟩) (mPc.preV (ci := ciS) (q := (R_S, T_S, 4)) hbs hS hP hK rfl f1) rfl rfl hl.1 rfl (lv_room (Nat.le_of_ble_eq_true rfl)) d_S_noteStored_39 ⟨Nat.le_of_ble_eq_true rfl, Nat.le_of_ble_eq_true rfl⟩) hS (fun w2 H locs hw hP hz39 hS => ?_)
  exact W.vret hx hb hr (fun t ht hW => ⟨⟨w2, rfl, ⟨hw.1, h2.trans hw.2⟩, hP.at ht⟩, hS.F ht⟩) hS.2.2 d_S_noteStored_42
end
section
set_option maxHeartbeats 4000000 in
set_option maxRecDepth 100000 in
/-- putNumber -/
theorem t_S_putNumber (l : Launch) (D : va_G) (cJ cI cP : ClassId) (bs : Nat) (w : Nat → Option va_E) (h n : Nat) (M T : Nat → Int64) (ra : Nat → Int64) (rs : Nat → Int32) (aT aA aS : Nat) (pt : Nat → Option Nat) (hs : sm cJ cI cP w h n M T ra rs aT aA aS pt) (a k : Nat) (h1 : 1 ≤ k) (h8 : k ≤ 8) (hak : a + k ≤ 4096 * n) (hro : rok ra n) (v : Int64) : Met l y_S_putNumber ws_S_putNumber ({ frames := 4, cells := 4, slots := 1034, locals := 98 }) (mPc D vwCl (mT cJ cI cP) bs w [.ref h, .int (nI a), .int (nI k), .long v]) (va_Qv (S := ((Nat → Option va_E) × (Nat → Int64) × (Nat → Option Nat))) (fun u => sm cJ cI cP u.1 h n u.2.1 (tinc T (a / 4096) ((a + k - 1) / 4096 + 1)) (lost ra (a / 8) ((a + k - 1) / 8)) rs aT aA aS u.2.2 ∧ mb u.2.1 = wrN (mb M) a k v ∧ kp w u.1 (sfp w h) (sfp u.1 h)) (mB D vwCl bs (fun u => u.1)) (mA bs)) 4 1034 (mA bs) := by
  refine Met.ofW (cc := c_S_putNumber) (maxL := 9) (ret := none) (by decide) rfl ?_
  intro p e s m args below meth c s₁ B hml hv
  obtain ⟨rfl, hbs, hP, hK⟩ := hv
  have hx := B.exec
  have hb := B.bytes
  have hr := B.returns
  have htg : ∀ w ∈ gt, w.before _ s = true := fun w h => atoms_spec (ws := ws_S_putNumber) B.pre w (List.mem_cons_of_mem _ h)
  have hown : s.vm.findClass R_S = some m.cls := findClass_of_methodNamed B.named
  have hlocks := B.notSynchronized
  have hS : va_S (mA bs) s.heap s.heap [] := va_S.rf
  have hl := lv_entry ([.ref h, .int (nI a), .int (nI k), .long v]) (n := 9) (Nat.le_of_ble_eq_true rfl)
  rw [lg_entry_eq]
  generalize (lg_sl ([.ref h, .int (nI a), .int (nI k), .long v]) ++ List.replicate (9 - (lg_sl ([.ref h, .int (nI a), .int (nI k), .long v])).length) Slot.unset).toArray = ls at hl ⊢
  have hl : lv_has ls 9 [(0, .ref h), (1, .int (nI a)), (2, .int (nI k)), (3, .long v)] := hl
  obtain ⟨hn, s1, s2, s3, s4, s5, s6, s7⟩ := id hs
  have f1 : w h = some (.inr (ciS, [.int (nI n), .ref aT, .ref aA, .ref aS])) := s1
  refine lv_iload_n hx hb d_S_putNumber_0 rfl (lv_at hl 1 rfl) ?_
  refine lv_iconst (v := 3) hx hb d_S_putNumber_1 (by decide) ?_
  refine lv_ishr hx hb d_S_putNumber_2 ?_
  rw [show (nI a) >>> (3 &&& 31) = nI (a / 8) from ish a 3 (by omega) (by omega)]
  refine lv_istore (lv' := [(5, .int (nI (a / 8))), (0, .ref h), (1, .int (nI a)), (2, .int (nI k)), (3, .long v)]) hx hb d_S_putNumber_3 hl (by decide) rfl (fun ls hl => ?_)
  refine lv_iload_n hx hb d_S_putNumber_5 rfl (lv_at hl 2 rfl) ?_
  refine mc_i (va_runS (As := [.int (nI a)]) (rest := []) ⟨hx, hb, hml, hown, htg⟩ (t_S_shiftInWord l D cJ cI cP bs w a (by omega)) (cwS (own := R_S) 1 htg (ginS k_189 k_190 k_25 k_191) rfl rfl rfl (by decide +kernel) ⟨Nat.le_of_ble_eq_true rfl, Nat.le_of_ble_eq_true rfl⟩) (mPc.preS hbs hS hP hK) rfl rfl hl.1 rfl (lv_room (Nat.le_of_ble_eq_true rfl)) d_S_putNumber_6 ⟨Nat.le_of_ble_eq_true rfl, Nat.le_of_ble_eq_true rfl⟩) hS (fun r6 u6 H locs hw hP hz6 hS => ?_)
  subst hw
  refine lv_istore (lv' := [(6, .int (nI (8 * (a % 8)))), (5, .int (nI (a / 8))), (0, .ref h), (1, .int (nI a)), (2, .int (nI k)), (3, .long v)]) hx hb d_S_putNumber_9 hl (by decide) rfl (fun ls hl => ?_)
  refine lv_iload_n hx hb d_S_putNumber_11 rfl (lv_at hl 4 rfl) ?_
  refine mc_l (va_runS (As := [.int (nI k)]) (rest := []) ⟨hx, hb, hml, hown, htg⟩ (t_S_lowestBytes l D cJ cI cP bs w k h8) (cwS (own := R_S) 1 htg (ginS k_200 k_201 k_25 k_202) rfl rfl rfl (by decide +kernel) ⟨Nat.le_of_ble_eq_true rfl, Nat.le_of_ble_eq_true rfl⟩) (mPc.preS hbs hS hP hK) rfl rfl hl.1 rfl (lv_room (Nat.le_of_ble_eq_true rfl)) d_S_putNumber_12 ⟨Nat.le_of_ble_eq_true rfl, Nat.le_of_ble_eq_true rfl⟩) hS (fun r12 u12 H locs hw hP hz12 hS => ?_)
  subst hw
  refine lv_lstore (lv' := [(7, .long (lowB k)), (6, .int (nI (8 * (a % 8)))), (5, .int (nI (a / 8))), (0, .ref h), (1, .int (nI a)), (2, .int (nI k)), (3, .long v)]) hx hb d_S_putNumber_15 hl (by decide) rfl (fun ls hl => ?_)
  refine lv_aload_n hx hb d_S_putNumber_17 rfl (lv_at hl 3 rfl) ?_
  refine lv_iload hx hb d_S_putNumber_18 (lv_at hl 2 rfl) ?_
  refine lv_lload hx hb d_S_putNumber_20 (lv_at hl 0 rfl) ?_
  refine lv_iload hx hb d_S_putNumber_22 (lv_at hl 1 rfl) ?_
  refine lv_lshl hx hb d_S_putNumber_24 rfl ?_
  refine lv_lload_n hx hb d_S_putNumber_25 rfl (lv_at hl 6 rfl) ?_
  refine lv_iload hx hb d_S_putNumber_26 (lv_at hl 1 rfl) ?_
  refine lv_lshl hx hb d_S_putNumber_28 rfl ?_
  refine mc_v (va_runV (As := [.int (nI (a / 8)), .long ((lowB k) <<< ((nI (8 * (a % 8))).toInt64 &&& 63)), .long (v <<< ((nI (8 * (a % 8))).toInt64 &&& 63))]) (rest := []) ⟨hx, hb, hml, hown, htg⟩ (t_S_mergeWord l D cJ cI cP bs w h n M T ra rs aT aA aS pt hs (a / 8) (by omega) ((lowB k) <<< ((nI (8 * (a % 8))).toInt64 &&& 63)) (v <<< ((nI (8 * (a % 8))).toInt64 &&& 63))) (cwV (own := R_S) (C := R_S) 3 htg (ginV k_215 k_217 k_6 k_25 k_218) rfl rfl rfl (by decide +kernel) ⟨Nat.le_of_ble_eq_true rfl, Nat.le_of_ble_eq_true rfl⟩) (mPc.preV (ci := ciS) (q := (R_S, T_S, 4)) hbs hS hP hK rfl f1) rfl rfl hl.1 rfl (lv_room (Nat.le_of_ble_eq_true rfl)) d_S_putNumber_29 ⟨Nat.le_of_ble_eq_true rfl, Nat.le_of_ble_eq_true rfl⟩) hS (fun u29 H locs hw hP hz29 hS => ?_)
  obtain ⟨w1, pt1⟩ := u29
  obtain ⟨a1, b1, c1, d1⟩ := hw
  have a1 : sm cJ cI cP w1 h n (va_up M (a / 8) (mrg (M (a / 8)) ((lowB k) <<< ((nI (8 * (a % 8))).toInt64 &&& 63)) (v <<< ((nI (8 * (a % 8))).toInt64 &&& 63)))) T ra rs aT aA aS pt1 := a1
  have b1 : kp w w1 (sfp w h) (sfp w1 h) := b1
  have c1 : ∀ j, ¬ pt j = none → ¬ pt1 j = none := c1
  have d1 : ¬ pt1 ((a / 8) / 512) = none := d1
  have hP : mw D vwCl bs w1 H := hP
  have f1 : w1 h = some (.inr (ciS, [.int (nI n), .ref aT, .ref aA, .ref aS])) := a1.2.1
  refine lv_iload hx hb d_S_putNumber_32 (lv_at hl 1 rfl) ?_
  refine lv_bipush (v := 8) hx hb d_S_putNumber_34 (by decide) ?_
  refine lv_iload_n hx hb d_S_putNumber_36 rfl (lv_at hl 5 rfl) ?_
  refine lv_imul hx hb d_S_putNumber_37 ?_
  refine lv_iadd hx hb d_S_putNumber_38 ?_
  rw [show (nI (8 * (a % 8))) + (8 * (nI k)) = nI (8 * (a % 8) + 8 * k) from (by show nI _ + nI 8 * nI k = _; rw [pk_mul, nI_add])]
  refine lv_bipush (v := 64) hx hb d_S_putNumber_39 (by decide) ?_
  refine lv_icmp_le (tgt := 67) hx hb d_S_putNumber_41 (by decide) (fun c41 => ?_) (fun c41 => ?_)
  · refine lv_aload_n hx hb d_S_putNumber_67 rfl (lv_at hl 3 rfl) ?_
    refine lv_iload_n hx hb d_S_putNumber_68 rfl (lv_at hl 4 rfl) ?_
    refine lv_iload_n hx hb d_S_putNumber_69 rfl (lv_at hl 4 rfl) ?_
    refine lv_iload_n hx hb d_S_putNumber_70 rfl (lv_at hl 5 rfl) ?_
    refine lv_iadd hx hb d_S_putNumber_71 ?_
    refine lv_iconst (v := 1) hx hb d_S_putNumber_72 (by decide) ?_
    refine lv_isub hx hb d_S_putNumber_73 ?_
    rw [show ((nI a) + (nI k)) - 1 = nI (a + k - 1) from (by rw [nI_add]; show nI _ - nI 1 = _; exact pk_sub (by omega))]
    have hle : 8 * (a % 8) + 8 * k ≤ 64 := (nI_leI (by omega) (by omega)).mp (show nI _ ≤ nI 64 from c41)
    have hall : ∀ i, a / 4096 ≤ i → i ≤ (a + k - 1) / 4096 → ¬ pt1 i = none := by
      intro i g1 g2
      rw [show i = a / 8 / 512 by omega]; exact d1
    obtain ⟨M2, eM2⟩ : ∃ z9, z9 = va_up M (a / 8) (mrg (M (a / 8)) ((lowB k) <<< ((nI (8 * (a % 8))).toInt64 &&& 63)) (v <<< ((nI (8 * (a % 8))).toInt64 &&& 63))) := ⟨_, rfl⟩
    rw [← eM2] at a1
    refine mc_v (va_runV (As := [.int (nI a), .int (nI (a + k - 1))]) (rest := []) ⟨hx, hb, hml, hown, htg⟩ (t_S_note l D cJ cI cP bs w1 h n M2 T ra rs aT aA aS pt1 a1 a (a + k - 1) (by omega) (by omega) hro hall) (cwV (own := R_S) (C := R_S) 2 htg (ginV k_257 k_259 k_9 k_25 k_260) rfl rfl rfl (by decide +kernel) ⟨Nat.le_of_ble_eq_true rfl, Nat.le_of_ble_eq_true rfl⟩) (mPc.preV (ci := ciS) (q := (R_S, T_S, 4)) hbs hS hP hK rfl f1) rfl rfl hl.1 rfl (lv_room (Nat.le_of_ble_eq_true rfl)) d_S_putNumber_74 ⟨Nat.le_of_ble_eq_true rfl, Nat.le_of_ble_eq_true rfl⟩) hS (fun w9 H locs hw hP hz74 hS => ?_)
    have hmb : mb M2 = wrN (mb M) a k v := by
      rw [eM2]
      exact st_one M v h1 h8 hle
    refine W.widen (k := 4) (n := 1034) (Nat.le_of_ble_eq_true rfl) (Nat.le_of_ble_eq_true rfl) ?_
    exact W.vret hx hb hr (fun t ht hW => ⟨⟨(w9, M2, pt1), rfl, ⟨hw.1, hmb, b1.trans hw.2⟩, hP.at ht⟩, hS.F ht⟩) hS.2.2 d_S_putNumber_77
  · have hgt : 64 < 8 * (a % 8) + 8 * k := Nat.lt_of_not_le (fun z => c41 (show nI _ ≤ nI 64 from nI_le z (by omega)))
    refine lv_aload_n hx hb d_S_putNumber_44 rfl (lv_at hl 3 rfl) ?_
    refine lv_iload hx hb d_S_putNumber_45 (lv_at hl 2 rfl) ?_
    refine lv_iconst (v := 1) hx hb d_S_putNumber_47 (by decide) ?_
    refine lv_iadd hx hb d_S_putNumber_48 ?_
    rw [show (nI (a / 8)) + 1 = nI (a / 8 + 1) from nI_1 _]
    refine lv_lload hx hb d_S_putNumber_49 (lv_at hl 0 rfl) ?_
    refine lv_bipush (v := 64) hx hb d_S_putNumber_51 (by decide) ?_
    refine lv_iload hx hb d_S_putNumber_53 (lv_at hl 1 rfl) ?_
    refine lv_isub hx hb d_S_putNumber_55 ?_
    rw [show 64 - (nI (8 * (a % 8))) = nI (64 - 8 * (a % 8)) from (by show nI 64 - nI _ = _; exact pk_sub (by omega))]
    refine lv_lushr hx hb d_S_putNumber_56 rfl ?_
    refine lv_lload_n hx hb d_S_putNumber_57 rfl (lv_at hl 6 rfl) ?_
    refine lv_bipush (v := 64) hx hb d_S_putNumber_58 (by decide) ?_
    refine lv_iload hx hb d_S_putNumber_60 (lv_at hl 1 rfl) ?_
    refine lv_isub hx hb d_S_putNumber_62 ?_
    rw [show 64 - (nI (8 * (a % 8))) = nI (64 - 8 * (a % 8)) from (by show nI 64 - nI _ = _; exact pk_sub (by omega))]
    refine lv_lushr hx hb d_S_putNumber_63 rfl ?_
    refine mc_v (va_runV (As := [.int (nI (a / 8 + 1)), .long (((lowB k).toUInt64 >>> ((nI (64 - 8 * (a % 8))).toInt64.toUInt64 &&& Int64.toUInt64 63)).toInt64), .long ((v.toUInt64 >>> ((nI (64 - 8 * (a % 8))).toInt64.toUInt64 &&& Int64.toUInt64 63)).toInt64)]) (rest := []) ⟨hx, hb, hml, hown, htg⟩ (t_S_mergeWord l D cJ cI cP bs w1 h n (va_up M (a / 8) (mrg (M (a / 8)) ((lowB k) <<< ((nI (8 * (a % 8))).toInt64 &&& 63)) (v <<< ((nI (8 * (a % 8))).toInt64 &&& 63)))) T ra rs aT aA aS pt1 a1 (a / 8 + 1) (by omega) (((lowB k).toUInt64 >>> ((nI (64 - 8 * (a % 8))).toInt64.toUInt64 &&& Int64.toUInt64 63)).toInt64) ((v.toUInt64 >>> ((nI (64 - 8 * (a % 8))).toInt64.toUInt64 &&& Int64.toUInt64 63)).toInt64)) (cwV (own := R_S) (C := R_S) 3 htg (ginV k_215 k_217 k_6 k_25 k_218) rfl rfl rfl (by decide +kernel) ⟨Nat.le_of_ble_eq_true rfl, Nat.le_of_ble_eq_true rfl⟩) (mPc.preV (ci := ciS) (q := (R_S, T_S, 4)) hbs hS hP hK rfl f1) rfl rfl hl.1 rfl (lv_room (Nat.le_of_ble_eq_true rfl)) d_S_putNumber_64 ⟨Nat.le_of_ble_eq_true rfl, Nat.le_of_ble_eq_true rfl⟩) hS (fun u64 H locs hw hP hz64 hS => ?_)
    obtain ⟨w2, pt2⟩ := u64
    obtain ⟨a2, b2, c2, d2⟩ := hw
    have a2 : sm cJ cI cP w2 h n (va_up (va_up M (a / 8) (mrg (M (a / 8)) ((lowB k) <<< ((nI (8 * (a % 8))).toInt64 &&& 63)) (v <<< ((nI (8 * (a % 8))).toInt64 &&& 63)))) (a / 8 + 1) (mrg ((va_up M (a / 8) (mrg (M (a / 8)) ((lowB k) <<< ((nI (8 * (a % 8))).toInt64 &&& 63)) (v <<< ((nI (8 * (a % 8))).toInt64 &&& 63)))) (a / 8 + 1)) (((lowB k).toUInt64 >>> ((nI (64 - 8 * (a % 8))).toInt64.toUInt64 &&& Int64.toUInt64 63)).toInt64) ((v.toUInt64 >>> ((nI (64 - 8 * (a % 8))).toInt64.toUInt64 &&& Int64.toUInt64 63)).toInt64))) T ra rs aT aA aS pt2 := a2
    have b2 : kp w1 w2 (sfp w1 h) (sfp w2 h) := b2
    have c2 : ∀ j, ¬ pt1 j = none → ¬ pt2 j = none := c2
    have d2 : ¬ pt2 ((a / 8 + 1) / 512) = none := d2
    have hP : mw D vwCl bs w2 H := hP
    have f1 : w2 h = some (.inr (ciS, [.int (nI n), .ref aT, .ref aA, .ref aS])) := a2.2.1
    refine lv_aload_n hx hb d_S_putNumber_67 rfl (lv_at hl 3 rfl) ?_
    refine lv_iload_n hx hb d_S_putNumber_68 rfl (lv_at hl 4 rfl) ?_
    refine lv_iload_n hx hb d_S_putNumber_69 rfl (lv_at hl 4 rfl) ?_
    refine lv_iload_n hx hb d_S_putNumber_70 rfl (lv_at hl 5 rfl) ?_
    refine lv_iadd hx hb d_S_putNumber_71 ?_
    refine lv_iconst (v := 1) hx hb d_S_putNumber_72 (by decide) ?_
    refine lv_isub hx hb d_S_putNumber_73 ?_
    rw [show ((nI a) + (nI k)) - 1 = nI (a + k - 1) from (by rw [nI_add]; show nI _ - nI 1 = _; exact pk_sub (by omega))]
    have hall : ∀ i, a / 4096 ≤ i → i ≤ (a + k - 1) / 4096 → ¬ pt2 i = none := by
      intro i g1 g2
      rcases (show i = a / 8 / 512 ∨ i = (a / 8 + 1) / 512 by omega) with e | e
      · rw [e]; exact c2 _ d1
      · rw [e]; exact d2
    obtain ⟨M2, eM2⟩ : ∃ z9, z9 = va_up (va_up M (a / 8) (mrg (M (a / 8)) ((lowB k) <<< ((nI (8 * (a % 8))).toInt64 &&& 63)) (v <<< ((nI (8 * (a % 8))).toInt64 &&& 63)))) (a / 8 + 1) (mrg ((va_up M (a / 8) (mrg (M (a / 8)) ((lowB k) <<< ((nI (8 * (a % 8))).toInt64 &&& 63)) (v <<< ((nI (8 * (a % 8))).toInt64 &&& 63)))) (a / 8 + 1)) (((lowB k).toUInt64 >>> ((nI (64 - 8 * (a % 8))).toInt64.toUInt64 &&& Int64.toUInt64 63)).toInt64) ((v.toUInt64 >>> ((nI (64 - 8 * (a % 8))).toInt64.toUInt64 &&& Int64.toUInt64 63)).toInt64)) := ⟨_, rfl⟩
    rw [← eM2] at a2
    refine mc_v (va_runV (As := [.int (nI a), .int (nI (a + k - 1))]) (rest := []) ⟨hx, hb, hml, hown, htg⟩ (t_S_note l D cJ cI cP bs w2 h n M2 T ra rs aT aA aS pt2 a2 a (a + k - 1) (by omega) (by omega) hro hall) (cwV (own := R_S) (C := R_S) 2 htg (ginV k_257 k_259 k_9 k_25 k_260) rfl rfl rfl (by decide +kernel) ⟨Nat.le_of_ble_eq_true rfl, Nat.le_of_ble_eq_true rfl⟩) (mPc.preV (ci := ciS) (q := (R_S, T_S, 4)) hbs hS hP hK rfl f1) rfl rfl hl.1 rfl (lv_room (Nat.le_of_ble_eq_true rfl)) d_S_putNumber_74 ⟨Nat.le_of_ble_eq_true rfl, Nat.le_of_ble_eq_true rfl⟩) hS (fun w9 H locs hw hP hz74 hS => ?_)
    have hmb : mb M2 = wrN (mb M) a k v := by
      rw [eM2, va_up_ne _ _ (show ¬ a / 8 + 1 = a / 8 by omega)]
      exact st_two M v h1 h8 hgt
    exact W.vret hx hb hr (fun t ht hW => ⟨⟨(w9, M2, pt2), rfl, ⟨hw.1, hmb, (b1.trans b2).trans hw.2⟩, hP.at ht⟩, hS.F ht⟩) hS.2.2 d_S_putNumber_77
def wsg (v : Int64) (k : Nat) : Int64 := if nI k = 4 then v.toInt32.toInt64 else v
set_option maxHeartbeats 4000000 in
set_option maxRecDepth 100000 in
/-- reserve -/
theorem t_S_reserve (l : Launch) (D : va_G) (cJ cI cP : ClassId) (bs : Nat) (w : Nat → Option va_E) (h n : Nat) (M T : Nat → Int64) (ra : Nat → Int64) (rs : Nat → Int32) (aT aA aS : Nat) (pt : Nat → Option Nat) (hs : sm cJ cI cP w h n M T ra rs aT aA aS pt) (pr : Nat) (hpr : pr < 4) (a k : Nat) (h1 : 1 ≤ k) (h8 : k ≤ 8) (hak : a + k ≤ 4096 * n) : Met l y_S_reserve ws_S_reserve ({ frames := 3, cells := 0, slots := 0, locals := 69 }) (mPc D vwCl (mT cJ cI cP) bs w [.ref h, .int (nI pr), .long (lN (2147483648 + a)), .int (nI k)]) (va_Ql (S := (Nat → Option va_E)) (fun r u => sm cJ cI cP u h n M T (vp_updL ra pr (lN (2147483648 + a))) (upd rs pr (nI k)) aT aA aS pt ∧ kp w u (sfp w h) (sfp u h) ∧ ∃ num, r = wsg num k ∧ ∀ i, i < 64 → bi num i = rdN (mb M) a k i) (mB D vwCl bs (fun u => u)) (mA bs)) 0 0 (mA bs) := by
  refine Met.ofW (cc := c_S_reserve) (maxL := 5) (ret := (some .long)) (by decide) rfl ?_
  intro p e s m args below meth c s₁ B hml hv
  obtain ⟨rfl, hbs, hP, hK⟩ := hv
  have hx := B.exec
  have hb := B.bytes
  have hr := B.returns
  have htg : ∀ w ∈ gt, w.before _ s = true := fun w h => atoms_spec (ws := ws_S_reserve) B.pre w (List.mem_cons_of_mem _ h)
  have hown : s.vm.findClass R_S = some m.cls := findClass_of_methodNamed B.named
  have hlocks := B.notSynchronized
  have hS : va_S (mA bs) s.heap s.heap [] := va_S.rf
  have hl := lv_entry ([.ref h, .int (nI pr), .long (lN (2147483648 + a)), .int (nI k)]) (n := 5) (Nat.le_of_ble_eq_true rfl)
  rw [lg_entry_eq]
  generalize (lg_sl ([.ref h, .int (nI pr), .long (lN (2147483648 + a)), .int (nI k)]) ++ List.replicate (5 - (lg_sl ([.ref h, .int (nI pr), .long (lN (2147483648 + a)), .int (nI k)])).length) Slot.unset).toArray = ls at hl ⊢
  have hl : lv_has ls 5 [(0, .ref h), (1, .int (nI pr)), (2, .long (lN (2147483648 + a))), (4, .int (nI k))] := hl
  obtain ⟨hn, s1, s2, s3, s4, s5, s6, s7⟩ := id hs
  have f1 : w h = some (.inr (ciS, [.int (nI n), .ref aT, .ref aA, .ref aS])) := s1
  refine lv_aload_n hx hb d_S_reserve_0 rfl (lv_at hl 0 rfl) ?_
  refine mw_get (C := R_S) (T := T_S) (N := 4) (ci := ciS) (v := .ref aA) hx hb htg i_S hown hK hP f1 rfl 2 (by decide) (htg _ k_48) (fun _ h9 => h9) rfl d_S_reserve_1 ?_
  refine lv_iload_n hx hb d_S_reserve_4 rfl (lv_at hl 1 rfl) ?_
  refine lv_lload_n hx hb d_S_reserve_5 rfl (lv_at hl 2 rfl) ?_
  refine mw_last hx hb hK hP hS 0 s3 rfl (vp_in_nI hpr (by omega)) d_S_reserve_6 (fun H locs hP hS hz6 => ?_)
  rw [show (nI pr).toNatClampNeg = pr from nI_clamp (by omega)] at hP
  obtain ⟨w_1, ew_1⟩ : ∃ z9, z9 = va_up w aA (some (.inl (cJ, 4, .inr (.inl (vp_updL ra pr (lN (2147483648 + a)))))) : Option va_E) := ⟨_, rfl⟩
  rw [← ew_1] at hP
  have h_2 : w_1 aA = some (.inl (cJ, 4, .inr (.inl (vp_updL ra pr (lN (2147483648 + a)))))) := by rw [ew_1, va_up_self]
  have h_3 : w_1 h = some (.inr (ciS, [.int (nI n), .ref aT, .ref aA, .ref aS])) := by rw [ew_1, va_up_ne _ _ (fun z => by rw [z, s3] at f1; cases f1)]; exact f1
  have h_4 : w_1 aT = some (.inl (cP, n, .inr (.inr (.inr (.inr pt))))) := by rw [ew_1, va_up_ne _ _ (fun z => by rw [z, s3] at s2; simp at s2)]; exact s2
  have h_5 : w_1 aS = some (.inl (cI, 4, .inl rs)) := by rw [ew_1, va_up_ne _ _ (fun z => by rw [z, s3] at s4; simp at s4)]; exact s4
  have q1 := sm_ra hs (vp_updL ra pr (lN (2147483648 + a)))
  rw [← ew_1] at q1
  refine lv_aload_n hx hb d_S_reserve_7 rfl (lv_at hl 0 rfl) ?_
  refine mw_get (C := R_S) (T := T_S) (N := 4) (ci := ciS) (v := .ref aS) hx hb htg i_S hown hK hP h_3 rfl 3 (by decide) (htg _ k_49) (fun _ h9 => h9) rfl d_S_reserve_8 ?_
  refine lv_iload_n hx hb d_S_reserve_11 rfl (lv_at hl 1 rfl) ?_
  refine lv_iload hx hb d_S_reserve_12 (lv_at hl 3 rfl) ?_
  refine mw_iast hx hb hK hP hS 1 h_5 rfl (vp_in_nI hpr (by omega)) d_S_reserve_14 (fun H locs hP hS hz14 => ?_)
  rw [show (nI pr).toNatClampNeg = pr from nI_clamp (by omega)] at hP
  obtain ⟨w_6, ew_6⟩ : ∃ z9, z9 = va_up w_1 aS (some (.inl (cI, 4, .inl (upd rs pr (nI k)))) : Option va_E) := ⟨_, rfl⟩
  rw [← ew_6] at hP
  have h_7 : w_6 aS = some (.inl (cI, 4, .inl (upd rs pr (nI k)))) := by rw [ew_6, va_up_self]
  have h_8 : w_6 aA = some (.inl (cJ, 4, .inr (.inl (vp_updL ra pr (lN (2147483648 + a)))))) := by rw [ew_6, va_up_ne _ _ (fun z => by rw [z, h_5] at h_2; simp at h_2)]; exact h_2
  have h_9 : w_6 h = some (.inr (ciS, [.int (nI n), .ref aT, .ref aA, .ref aS])) := by rw [ew_6, va_up_ne _ _ (fun z => by rw [z, h_5] at h_3; cases h_3)]; exact h_3
  have h_10 : w_6 aT = some (.inl (cP, n, .inr (.inr (.inr (.inr pt))))) := by rw [ew_6, va_up_ne _ _ (fun z => by rw [z, h_5] at h_4; simp at h_4)]; exact h_4
  have q2 := sm_rs q1.1 (upd rs pr (nI k))
  rw [← ew_6] at q2
  refine lv_aload_n hx hb d_S_reserve_15 rfl (lv_at hl 0 rfl) ?_
  refine lv_lload_n hx hb d_S_reserve_16 rfl (lv_at hl 2 rfl) ?_
  refine mc_i (va_runS (As := [.long (lN (2147483648 + a))]) (rest := [.ref h]) ⟨hx, hb, hml, hown, htg⟩ (t_S_placeOf l D cJ cI cP bs w_6 a) (cwS (own := R_S) 1 htg (ginS k_182 k_183 k_25 k_184) rfl rfl rfl (by decide +kernel) ⟨Nat.le_of_ble_eq_true rfl, Nat.le_of_ble_eq_true rfl⟩) (mPc.preS hbs hS hP hK) rfl rfl hl.1 rfl (lv_room (Nat.le_of_ble_eq_true rfl)) d_S_reserve_17 ⟨Nat.le_of_ble_eq_true rfl, Nat.le_of_ble_eq_true rfl⟩) hS (fun r17 u17 H locs hw hP hz17 hS => ?_)
  subst hw
  refine lv_iload hx hb d_S_reserve_20 (lv_at hl 3 rfl) ?_
  refine mc_l (va_runV (As := [.int (nI a), .int (nI k)]) (rest := []) ⟨hx, hb, hml, hown, htg⟩ (t_S_numberAt l D cJ cI cP bs w_6 h n M T (vp_updL ra pr (lN (2147483648 + a))) (upd rs pr (nI k)) aT aA aS pt q2.1 a k h1 h8 hak) (cwV (own := R_S) (C := R_S) 2 htg (ginV k_185 k_187 k_3 k_25 k_188) rfl rfl rfl (by decide +kernel) ⟨Nat.le_of_ble_eq_true rfl, Nat.le_of_ble_eq_true rfl⟩) (mPc.preV (ci := ciS) (q := (R_S, T_S, 4)) hbs hS hP hK rfl h_9) rfl rfl hl.1 rfl (lv_room (Nat.le_of_ble_eq_true rfl)) d_S_reserve_22 ⟨Nat.le_of_ble_eq_true rfl, Nat.le_of_ble_eq_true rfl⟩) hS (fun num u22 H locs hnum hP hz22 hS => ?_)
  refine lv_iload hx hb d_S_reserve_25 (lv_at hl 3 rfl) ?_
  refine mc_l (va_runS (As := [.long num, .int (nI k)]) (rest := []) ⟨hx, hb, hml, hown, htg⟩ (t_S_withSign l D cJ cI cP bs w_6 num (nI k)) (cwS (own := R_S) 2 htg (ginS k_337 k_338 k_25 k_339) rfl rfl rfl (by decide +kernel) ⟨Nat.le_of_ble_eq_true rfl, Nat.le_of_ble_eq_true rfl⟩) (mPc.preS hbs hS hP hK) rfl rfl hl.1 rfl (lv_room (Nat.le_of_ble_eq_true rfl)) d_S_reserve_27 ⟨Nat.le_of_ble_eq_true rfl, Nat.le_of_ble_eq_true rfl⟩) hS (fun r27 u27 H locs hw hP hz27 hS => ?_)
  subst hw
  change W _ _ _ _ _ _ _ _ _ _ _ _ _ _ _ (F0 m 30 ls [.long (wsg num k)])
  exact W.lret (v := wsg num k) hx hb hr (fun t ht hW => ⟨⟨_, w_6, rfl, ⟨q2.1, q1.2.trans q2.2, num, rfl, hnum⟩, hP.at ht⟩, hS.F ht⟩) hS.2.2 d_S_reserve_30
end
section
theorem rok_0 {ra : Nat → Int64} {n : Nat} (h : rok ra n) (pr : Nat) : rok (vp_updL ra pr 0) n := fun j hj => by
  by_cases c : j = pr
  · subst c; exact Or.inl pk_uLs
  · rw [pk_uLn c]; exact h j hj
theorem rok_s {ra : Nat → Int64} {n : Nat} (h : rok ra n) (pr : Nat) {a : Nat} (ha : a < 4096 * n) : rok (vp_updL ra pr (lN (2147483648 + a))) n := fun j hj => by
  by_cases c : j = pr
  · subst c; exact Or.inr ⟨a, pk_uLs, ha⟩
  · rw [pk_uLn c]; exact h j hj
set_option maxHeartbeats 4000000 in
set_option maxRecDepth 100000 in
/-- storeIfReserved -/
theorem t_S_sir (l : Launch) (D : va_G) (cJ cI cP : ClassId) (bs : Nat) (w : Nat → Option va_E) (h n : Nat) (M T : Nat → Int64) (ra : Nat → Int64) (rs : Nat → Int32) (aT aA aS : Nat) (pt : Nat → Option Nat) (hs : sm cJ cI cP w h n M T ra rs aT aA aS pt) (pr : Nat) (hpr : pr < 4) (a k : Nat) (h1 : 1 ≤ k) (h8 : k ≤ 8) (hak : a + k ≤ 4096 * n) (hro : rok ra n) (v : Int64) : Met l y_S_storeIfReserved ws_S_storeIfReserved ({ frames := 5, cells := 4, slots := 1034, locals := 126 }) (mPc D vwCl (mT cJ cI cP) bs w [.ref h, .int (nI pr), .long (lN (2147483648 + a)), .int (nI k), .long v]) (va_Ql (S := ((Nat → Option va_E) × (Nat → Int64) × (Nat → Option Nat))) (fun r u => (ra pr = lN (2147483648 + a) ∧ rs pr = nI k ∧ r = 0 ∧ sm cJ cI cP u.1 h n u.2.1 (tinc T (a / 4096) ((a + k - 1) / 4096 + 1)) (lost (vp_updL ra pr 0) (a / 8) ((a + k - 1) / 8)) rs aT aA aS u.2.2 ∧ mb u.2.1 = wrN (mb M) a k v ∧ kp w u.1 (sfp w h) (sfp u.1 h)) ∨ (¬ (ra pr = lN (2147483648 + a) ∧ rs pr = nI k) ∧ r = 1 ∧ sm cJ cI cP u.1 h n M T (vp_updL ra pr 0) rs aT aA aS pt ∧ kp w u.1 (sfp w h) (sfp u.1 h))) (mB D vwCl bs (fun u => u.1)) (mA bs)) 4 1034 (mA bs) := by
  refine Met.ofW (cc := c_S_storeIfReserved) (maxL := 8) (ret := (some .long)) (by decide) rfl ?_
  intro p e s m args below meth c s₁ B hml hv
  obtain ⟨rfl, hbs, hP, hK⟩ := hv
  have hx := B.exec
  have hb := B.bytes
  have hr := B.returns
  have htg : ∀ w ∈ gt, w.before _ s = true := fun w h => atoms_spec (ws := ws_S_storeIfReserved) B.pre w (List.mem_cons_of_mem _ h)
  have hown : s.vm.findClass R_S = some m.cls := findClass_of_methodNamed B.named
  have hlocks := B.notSynchronized
  have hS : va_S (mA bs) s.heap s.heap [] := va_S.rf
  have hl := lv_entry ([.ref h, .int (nI pr), .long (lN (2147483648 + a)), .int (nI k), .long v]) (n := 8) (Nat.le_of_ble_eq_true rfl)
  rw [lg_entry_eq]
  generalize (lg_sl ([.ref h, .int (nI pr), .long (lN (2147483648 + a)), .int (nI k), .long v]) ++ List.replicate (8 - (lg_sl ([.ref h, .int (nI pr), .long (lN (2147483648 + a)), .int (nI k), .long v])).length) Slot.unset).toArray = ls at hl ⊢
  have hl : lv_has ls 8 [(0, .ref h), (1, .int (nI pr)), (2, .long (lN (2147483648 + a))), (4, .int (nI k)), (5, .long v)] := hl
  obtain ⟨hn, s1, s2, s3, s4, s5, s6, s7⟩ := id hs
  have f1 : w h = some (.inr (ciS, [.int (nI n), .ref aT, .ref aA, .ref aS])) := s1
  refine lv_aload_n hx hb d_S_storeIfReserved_0 rfl (lv_at hl 0 rfl) ?_
  refine mw_get (C := R_S) (T := T_S) (N := 4) (ci := ciS) (v := .ref aA) hx hb htg i_S hown hK hP f1 rfl 2 (by decide) (htg _ k_48) (fun _ h9 => h9) rfl d_S_storeIfReserved_1 ?_
  refine lv_iload_n hx hb d_S_storeIfReserved_4 rfl (lv_at hl 1 rfl) ?_
  refine mw_lald hx hb hK hP 0 s3 rfl (vp_in_nI hpr (by omega)) d_S_storeIfReserved_5 ?_
  rw [show (nI pr).toNatClampNeg = pr from nI_clamp (by omega)]
  refine lv_lload_n hx hb d_S_storeIfReserved_6 rfl (lv_at hl 2 rfl) ?_
  refine lc_ne (tgt := 26) hx hb d_S_storeIfReserved_7 d_S_storeIfReserved_8 (by decide) (fun c7 => ?_) (fun c7 => ?_)
  · refine lv_iconst (v := 0) hx hb d_S_storeIfReserved_26 (by decide) ?_
    refine lv_istore (lv' := [(7, .int 0), (0, .ref h), (1, .int (nI pr)), (2, .long (lN (2147483648 + a))), (4, .int (nI k)), (5, .long v)]) hx hb d_S_storeIfReserved_27 hl (by decide) rfl (fun ls hl => ?_)
    refine lv_aload_n hx hb d_S_storeIfReserved_29 rfl (lv_at hl 1 rfl) ?_
    refine mw_get (C := R_S) (T := T_S) (N := 4) (ci := ciS) (v := .ref aA) hx hb htg i_S hown hK hP f1 rfl 2 (by decide) (htg _ k_48) (fun _ h9 => h9) rfl d_S_storeIfReserved_30 ?_
    refine lv_iload_n hx hb d_S_storeIfReserved_33 rfl (lv_at hl 2 rfl) ?_
    refine lv_lconst (v := 0) hx hb d_S_storeIfReserved_34 rfl ?_
    refine mw_last hx hb hK hP hS 0 s3 rfl (vp_in_nI hpr (by omega)) d_S_storeIfReserved_35 (fun H locs hP hS hz35 => ?_)
    rw [show (nI pr).toNatClampNeg = pr from nI_clamp (by omega)] at hP
    obtain ⟨w_1, ew_1⟩ : ∃ z9, z9 = va_up w aA (some (.inl (cJ, 4, .inr (.inl (vp_updL ra pr 0)))) : Option va_E) := ⟨_, rfl⟩
    rw [← ew_1] at hP
    have h_2 : w_1 aA = some (.inl (cJ, 4, .inr (.inl (vp_updL ra pr 0)))) := by rw [ew_1, va_up_self]
    have h_3 : w_1 h = some (.inr (ciS, [.int (nI n), .ref aT, .ref aA, .ref aS])) := by rw [ew_1, va_up_ne _ _ (fun z => by rw [z, s3] at f1; cases f1)]; exact f1
    have h_4 : w_1 aT = some (.inl (cP, n, .inr (.inr (.inr (.inr pt))))) := by rw [ew_1, va_up_ne _ _ (fun z => by rw [z, s3] at s2; simp at s2)]; exact s2
    have h_5 : w_1 aS = some (.inl (cI, 4, .inl rs)) := by rw [ew_1, va_up_ne _ _ (fun z => by rw [z, s3] at s4; simp at s4)]; exact s4
    have q1 := sm_ra hs (vp_updL ra pr 0)
    rw [← ew_1] at q1
    refine lv_iload hx hb d_S_storeIfReserved_36 (lv_at hl 0 rfl) ?_
    refine lv_if_ne (tgt := 43) hx hb d_S_storeIfReserved_38 (by decide) (fun z => absurd rfl z) (fun _ => ?_)
    refine lv_lconst (v := 1) hx hb d_S_storeIfReserved_41 rfl ?_
    refine W.widen (k := 4) (n := 1034) (Nat.le_of_ble_eq_true rfl) (Nat.le_of_ble_eq_true rfl) ?_
    exact W.lret (v := 1) hx hb hr (fun t ht hW => ⟨⟨_, (w_1, M, pt), rfl, Or.inr ⟨fun z => by first | exact c19 z.2 | exact c7 z.1, rfl, q1.1, q1.2⟩, hP.at ht⟩, hS.F ht⟩) hS.2.2 d_S_storeIfReserved_42
  · refine lv_aload_n hx hb d_S_storeIfReserved_11 rfl (lv_at hl 0 rfl) ?_
    refine mw_get (C := R_S) (T := T_S) (N := 4) (ci := ciS) (v := .ref aS) hx hb htg i_S hown hK hP f1 rfl 3 (by decide) (htg _ k_49) (fun _ h9 => h9) rfl d_S_storeIfReserved_12 ?_
    refine lv_iload_n hx hb d_S_storeIfReserved_15 rfl (lv_at hl 1 rfl) ?_
    refine mw_iald hx hb hK hP 1 s4 rfl (vp_in_nI hpr (by omega)) d_S_storeIfReserved_16 ?_
    rw [show (nI pr).toNatClampNeg = pr from nI_clamp (by omega)]
    refine lv_iload hx hb d_S_storeIfReserved_17 (lv_at hl 3 rfl) ?_
    refine lv_icmp_ne (tgt := 26) hx hb d_S_storeIfReserved_19 (by decide) (fun c19 => ?_) (fun c19 => ?_)
    · refine lv_iconst (v := 0) hx hb d_S_storeIfReserved_26 (by decide) ?_
      refine lv_istore (lv' := [(7, .int 0), (0, .ref h), (1, .int (nI pr)), (2, .long (lN (2147483648 + a))), (4, .int (nI k)), (5, .long v)]) hx hb d_S_storeIfReserved_27 hl (by decide) rfl (fun ls hl => ?_)
      refine lv_aload_n hx hb d_S_storeIfReserved_29 rfl (lv_at hl 1 rfl) ?_
      refine mw_get (C := R_S) (T := T_S) (N := 4) (ci := ciS) (v := .ref aA) hx hb htg i_S hown hK hP f1 rfl 2 (by decide) (htg _ k_48) (fun _ h9 => h9) rfl d_S_storeIfReserved_30 ?_
      refine lv_iload_n hx hb d_S_storeIfReserved_33 rfl (lv_at hl 2 rfl) ?_
      refine lv_lconst (v := 0) hx hb d_S_storeIfReserved_34 rfl ?_
      refine mw_last hx hb hK hP hS 0 s3 rfl (vp_in_nI hpr (by omega)) d_S_storeIfReserved_35 (fun H locs hP hS hz35 => ?_)
      rw [show (nI pr).toNatClampNeg = pr from nI_clamp (by omega)] at hP
      obtain ⟨w_6, ew_6⟩ : ∃ z9, z9 = va_up w aA (some (.inl (cJ, 4, .inr (.inl (vp_updL ra pr 0)))) : Option va_E) := ⟨_, rfl⟩
      rw [← ew_6] at hP
      have h_7 : w_6 aA = some (.inl (cJ, 4, .inr (.inl (vp_updL ra pr 0)))) := by rw [ew_6, va_up_self]
      have h_8 : w_6 h = some (.inr (ciS, [.int (nI n), .ref aT, .ref aA, .ref aS])) := by rw [ew_6, va_up_ne _ _ (fun z => by rw [z, s3] at f1; cases f1)]; exact f1
      have h_9 : w_6 aT = some (.inl (cP, n, .inr (.inr (.inr (.inr pt))))) := by rw [ew_6, va_up_ne _ _ (fun z => by rw [z, s3] at s2; simp at s2)]; exact s2
      have h_10 : w_6 aS = some (.inl (cI, 4, .inl rs)) := by rw [ew_6, va_up_ne _ _ (fun z => by rw [z, s3] at s4; simp at s4)]; exact s4
      have q1 := sm_ra hs (vp_updL ra pr 0)
      rw [← ew_6] at q1
      refine lv_iload hx hb d_S_storeIfReserved_36 (lv_at hl 0 rfl) ?_
      refine lv_if_ne (tgt := 43) hx hb d_S_storeIfReserved_38 (by decide) (fun z => absurd rfl z) (fun _ => ?_)
      refine lv_lconst (v := 1) hx hb d_S_storeIfReserved_41 rfl ?_
      refine W.widen (k := 4) (n := 1034) (Nat.le_of_ble_eq_true rfl) (Nat.le_of_ble_eq_true rfl) ?_
      exact W.lret (v := 1) hx hb hr (fun t ht hW => ⟨⟨_, (w_6, M, pt), rfl, Or.inr ⟨fun z => by first | exact c19 z.2 | exact c7 z.1, rfl, q1.1, q1.2⟩, hP.at ht⟩, hS.F ht⟩) hS.2.2 d_S_storeIfReserved_42
    · refine lv_iconst (v := 1) hx hb d_S_storeIfReserved_22 (by decide) ?_
      refine lv_goto (tgt := 27) hx hb d_S_storeIfReserved_23 (by decide) ?_
      refine lv_istore (lv' := [(7, .int 1), (0, .ref h), (1, .int (nI pr)), (2, .long (lN (2147483648 + a))), (4, .int (nI k)), (5, .long v)]) hx hb d_S_storeIfReserved_27 hl (by decide) rfl (fun ls hl => ?_)
      refine lv_aload_n hx hb d_S_storeIfReserved_29 rfl (lv_at hl 1 rfl) ?_
      refine mw_get (C := R_S) (T := T_S) (N := 4) (ci := ciS) (v := .ref aA) hx hb htg i_S hown hK hP f1 rfl 2 (by decide) (htg _ k_48) (fun _ h9 => h9) rfl d_S_storeIfReserved_30 ?_
      refine lv_iload_n hx hb d_S_storeIfReserved_33 rfl (lv_at hl 2 rfl) ?_
      refine lv_lconst (v := 0) hx hb d_S_storeIfReserved_34 rfl ?_
      refine mw_last hx hb hK hP hS 0 s3 rfl (vp_in_nI hpr (by omega)) d_S_storeIfReserved_35 (fun H locs hP hS hz35 => ?_)
      rw [show (nI pr).toNatClampNeg = pr from nI_clamp (by omega)] at hP
      obtain ⟨w_11, ew_11⟩ : ∃ z9, z9 = va_up w aA (some (.inl (cJ, 4, .inr (.inl (vp_updL ra pr 0)))) : Option va_E) := ⟨_, rfl⟩
      rw [← ew_11] at hP
      have h_12 : w_11 aA = some (.inl (cJ, 4, .inr (.inl (vp_updL ra pr 0)))) := by rw [ew_11, va_up_self]
      have h_13 : w_11 h = some (.inr (ciS, [.int (nI n), .ref aT, .ref aA, .ref aS])) := by rw [ew_11, va_up_ne _ _ (fun z => by rw [z, s3] at f1; cases f1)]; exact f1
      have h_14 : w_11 aT = some (.inl (cP, n, .inr (.inr (.inr (.inr pt))))) := by rw [ew_11, va_up_ne _ _ (fun z => by rw [z, s3] at s2; simp at s2)]; exact s2
      have h_15 : w_11 aS = some (.inl (cI, 4, .inl rs)) := by rw [ew_11, va_up_ne _ _ (fun z => by rw [z, s3] at s4; simp at s4)]; exact s4
      have q1 := sm_ra hs (vp_updL ra pr 0)
      rw [← ew_11] at q1
      refine lv_iload hx hb d_S_storeIfReserved_36 (lv_at hl 0 rfl) ?_
      refine lv_if_ne (tgt := 43) hx hb d_S_storeIfReserved_38 (by decide) (fun _ => ?_) (fun z => absurd z (by decide))
      refine lv_aload_n hx hb d_S_storeIfReserved_43 rfl (lv_at hl 1 rfl) ?_
      refine lv_lload_n hx hb d_S_storeIfReserved_44 rfl (lv_at hl 3 rfl) ?_
      refine mc_i (va_runS (As := [.long (lN (2147483648 + a))]) (rest := [.ref h]) ⟨hx, hb, hml, hown, htg⟩ (t_S_placeOf l D cJ cI cP bs w_11 a) (cwS (own := R_S) 1 htg (ginS k_182 k_183 k_25 k_184) rfl rfl rfl (by decide +kernel) ⟨Nat.le_of_ble_eq_true rfl, Nat.le_of_ble_eq_true rfl⟩) (mPc.preS hbs hS hP hK) rfl rfl hl.1 rfl (lv_room (Nat.le_of_ble_eq_true rfl)) d_S_storeIfReserved_45 ⟨Nat.le_of_ble_eq_true rfl, Nat.le_of_ble_eq_true rfl⟩) hS (fun r45 u45 H locs hw hP hz45 hS => ?_)
      subst hw
      refine lv_iload hx hb d_S_storeIfReserved_48 (lv_at hl 4 rfl) ?_
      refine lv_lload hx hb d_S_storeIfReserved_50 (lv_at hl 5 rfl) ?_
      refine mc_v (va_runV (As := [.int (nI a), .int (nI k), .long v]) (rest := []) ⟨hx, hb, hml, hown, htg⟩ (t_S_putNumber l D cJ cI cP bs w_11 h n M T (vp_updL ra pr 0) rs aT aA aS pt q1.1 a k h1 h8 hak (rok_0 hro pr) v) (cwV (own := R_S) (C := R_S) 3 htg (ginV k_211 k_213 k_5 k_25 k_214) rfl rfl rfl (by decide +kernel) ⟨Nat.le_of_ble_eq_true rfl, Nat.le_of_ble_eq_true rfl⟩) (mPc.preV (ci := ciS) (q := (R_S, T_S, 4)) hbs hS hP hK rfl h_13) rfl rfl hl.1 rfl (lv_room (Nat.le_of_ble_eq_true rfl)) d_S_storeIfReserved_52 ⟨Nat.le_of_ble_eq_true rfl, Nat.le_of_ble_eq_true rfl⟩) hS (fun u9 H locs hw hP hz52 hS => ?_)
      obtain ⟨w9, M9, pt9⟩ := u9
      obtain ⟨z1, z2, z3⟩ := hw
      refine lv_lconst (v := 0) hx hb d_S_storeIfReserved_55 rfl ?_
      exact W.lret (v := 0) hx hb hr (fun t ht hW => ⟨⟨_, (w9, M9, pt9), rfl, Or.inl ⟨c7, c19, rfl, z1, z2, q1.2.trans z3⟩, hP.at ht⟩, hS.F ht⟩) hS.2.2 d_S_storeIfReserved_56
set_option maxHeartbeats 4000000 in
set_option maxRecDepth 100000 in
/-- change -/
theorem t_S_change (l : Launch) (D : va_G) (cJ cI cP : ClassId) (bs : Nat) (w : Nat → Option va_E) (h n : Nat) (M T : Nat → Int64) (ra : Nat → Int64) (rs : Nat → Int32) (aT aA aS : Nat) (pt : Nat → Option Nat) (hs : sm cJ cI cP w h n M T ra rs aT aA aS pt) (x : Int32) (a k : Nat) (h1 : 1 ≤ k) (h8 : k ≤ 8) (hak : a + k ≤ 4096 * n) (hro : rok ra n) (v : Int64) : Met l y_S_change ws_S_change ({ frames := 5, cells := 4, slots := 1034, locals := 126 }) (mPc D vwCl (mT cJ cI cP) bs w [.ref h, .int x, .int (nI a), .int (nI k), .long v]) (va_Ql (S := ((Nat → Option va_E) × (Nat → Int64) × (Nat → Option Nat))) (fun r u => sm cJ cI cP u.1 h n u.2.1 (tinc T (a / 4096) ((a + k - 1) / 4096 + 1)) (lost ra (a / 8) ((a + k - 1) / 8)) rs aT aA aS u.2.2 ∧ mb u.2.1 = wrN (mb M) a k (chg x r (wsg v k)) ∧ kp w u.1 (sfp w h) (sfp u.1 h) ∧ ∃ num, r = wsg num k ∧ ∀ i, i < 64 → bi num i = rdN (mb M) a k i) (mB D vwCl bs (fun u => u.1)) (mA bs)) 4 1034 (mA bs) := by
  refine Met.ofW (cc := c_S_change) (maxL := 8) (ret := (some .long)) (by decide) rfl ?_
  intro p e s m args below meth c s₁ B hml hv
  obtain ⟨rfl, hbs, hP, hK⟩ := hv
  have hx := B.exec
  have hb := B.bytes
  have hr := B.returns
  have htg : ∀ w ∈ gt, w.before _ s = true := fun w h => atoms_spec (ws := ws_S_change) B.pre w (List.mem_cons_of_mem _ h)
  have hown : s.vm.findClass R_S = some m.cls := findClass_of_methodNamed B.named
  have hlocks := B.notSynchronized
  have hS : va_S (mA bs) s.heap s.heap [] := va_S.rf
  have hl := lv_entry ([.ref h, .int x, .int (nI a), .int (nI k), .long v]) (n := 8) (Nat.le_of_ble_eq_true rfl)
  rw [lg_entry_eq]
  generalize (lg_sl ([.ref h, .int x, .int (nI a), .int (nI k), .long v]) ++ List.replicate (8 - (lg_sl ([.ref h, .int x, .int (nI a), .int (nI k), .long v])).length) Slot.unset).toArray = ls at hl ⊢
  have hl : lv_has ls 8 [(0, .ref h), (1, .int x), (2, .int (nI a)), (3, .int (nI k)), (4, .long v)] := hl
  obtain ⟨hn, s1, s2, s3, s4, s5, s6, s7⟩ := id hs
  have f1 : w h = some (.inr (ciS, [.int (nI n), .ref aT, .ref aA, .ref aS])) := s1
  refine lv_aload_n hx hb d_S_change_0 rfl (lv_at hl 0 rfl) ?_
  refine lv_iload_n hx hb d_S_change_1 rfl (lv_at hl 2 rfl) ?_
  refine lv_iload_n hx hb d_S_change_2 rfl (lv_at hl 3 rfl) ?_
  refine mc_l (va_runV (As := [.int (nI a), .int (nI k)]) (rest := []) ⟨hx, hb, hml, hown, htg⟩ (t_S_numberAt l D cJ cI cP bs w h n M T ra rs aT aA aS pt hs a k h1 h8 hak) (cwV (own := R_S) (C := R_S) 2 htg (ginV k_185 k_187 k_3 k_25 k_188) rfl rfl rfl (by decide +kernel) ⟨Nat.le_of_ble_eq_true rfl, Nat.le_of_ble_eq_true rfl⟩) (mPc.preV (ci := ciS) (q := (R_S, T_S, 4)) hbs hS hP hK rfl f1) rfl rfl hl.1 rfl (lv_room (Nat.le_of_ble_eq_true rfl)) d_S_change_3 ⟨Nat.le_of_ble_eq_true rfl, Nat.le_of_ble_eq_true rfl⟩) hS (fun num u3 H locs hnum hP hz3 hS => ?_)
  refine lv_iload_n hx hb d_S_change_6 rfl (lv_at hl 3 rfl) ?_
  refine mc_l (va_runS (As := [.long num, .int (nI k)]) (rest := []) ⟨hx, hb, hml, hown, htg⟩ (t_S_withSign l D cJ cI cP bs w num (nI k)) (cwS (own := R_S) 2 htg (ginS k_337 k_338 k_25 k_339) rfl rfl rfl (by decide +kernel) ⟨Nat.le_of_ble_eq_true rfl, Nat.le_of_ble_eq_true rfl⟩) (mPc.preS hbs hS hP hK) rfl rfl hl.1 rfl (lv_room (Nat.le_of_ble_eq_true rfl)) d_S_change_7 ⟨Nat.le_of_ble_eq_true rfl, Nat.le_of_ble_eq_true rfl⟩) hS (fun r7 u7 H locs hw hP hz7 hS => ?_)
  subst hw
  change W _ _ _ _ _ _ _ _ _ _ _ _ _ _ _ (F0 m 10 ls [.long (wsg num k)])
  refine lv_topl (fun x_1 ex_1 => ?_)
  refine lv_lstore (lv' := [(6, .long x_1), (0, .ref h), (1, .int x), (2, .int (nI a)), (3, .int (nI k)), (4, .long v)]) hx hb d_S_change_10 hl (by decide) rfl (fun ls hl => ?_)
  refine lv_aload_n hx hb d_S_change_12 rfl (lv_at hl 1 rfl) ?_
  refine lv_iload_n hx hb d_S_change_13 rfl (lv_at hl 3 rfl) ?_
  refine lv_iload_n hx hb d_S_change_14 rfl (lv_at hl 4 rfl) ?_
  refine lv_iload_n hx hb d_S_change_15 rfl (lv_at hl 2 rfl) ?_
  refine lv_lload hx hb d_S_change_16 (lv_at hl 0 rfl) ?_
  refine lv_lload hx hb d_S_change_18 (lv_at hl 5 rfl) ?_
  refine lv_iload_n hx hb d_S_change_20 rfl (lv_at hl 4 rfl) ?_
  refine mc_l (va_runS (As := [.long v, .int (nI k)]) (rest := [.long x_1, .int x, .int (nI k), .int (nI a), .ref h]) ⟨hx, hb, hml, hown, htg⟩ (t_S_withSign l D cJ cI cP bs w v (nI k)) (cwS (own := R_S) 2 htg (ginS k_337 k_338 k_25 k_339) rfl rfl rfl (by decide +kernel) ⟨Nat.le_of_ble_eq_true rfl, Nat.le_of_ble_eq_true rfl⟩) (mPc.preS hbs hS hP hK) rfl rfl hl.1 rfl (lv_room (Nat.le_of_ble_eq_true rfl)) d_S_change_21 ⟨Nat.le_of_ble_eq_true rfl, Nat.le_of_ble_eq_true rfl⟩) hS (fun r21 u21 H locs hw hP hz21 hS => ?_)
  subst hw
  change W _ _ _ _ _ _ _ _ _ _ _ _ _ _ _ (F0 m 24 ls [.long (wsg v k), .long x_1, .int x, .int (nI k), .int (nI a), .ref h])
  refine mc_l (va_runS (As := [.int x, .long x_1, .long (wsg v k)]) (rest := [.int (nI k), .int (nI a), .ref h]) ⟨hx, hb, hml, hown, htg⟩ (t_S_changed l D cJ cI cP bs w x x_1 (wsg v k)) (cwS (own := R_S) 3 htg (ginS k_348 k_349 k_25 k_350) rfl rfl rfl (by decide +kernel) ⟨Nat.le_of_ble_eq_true rfl, Nat.le_of_ble_eq_true rfl⟩) (mPc.preS hbs hS hP hK) rfl rfl hl.1 rfl (lv_room (Nat.le_of_ble_eq_true rfl)) d_S_change_24 ⟨Nat.le_of_ble_eq_true rfl, Nat.le_of_ble_eq_true rfl⟩) hS (fun r24 u24 H locs hw hP hz24 hS => ?_)
  have hchg := hw
  refine mc_v (va_runV (As := [.int (nI a), .int (nI k), .long r24]) (rest := []) ⟨hx, hb, hml, hown, htg⟩ (t_S_putNumber l D cJ cI cP bs w h n M T ra rs aT aA aS pt hs a k h1 h8 hak hro r24) (cwV (own := R_S) (C := R_S) 3 htg (ginV k_211 k_213 k_5 k_25 k_214) rfl rfl rfl (by decide +kernel) ⟨Nat.le_of_ble_eq_true rfl, Nat.le_of_ble_eq_true rfl⟩) (mPc.preV (ci := ciS) (q := (R_S, T_S, 4)) hbs hS hP hK rfl f1) rfl rfl hl.1 rfl (lv_room (Nat.le_of_ble_eq_true rfl)) d_S_change_27 ⟨Nat.le_of_ble_eq_true rfl, Nat.le_of_ble_eq_true rfl⟩) hS (fun u9 H locs hw hP hz27 hS => ?_)
  obtain ⟨w9, M9, pt9⟩ := u9
  obtain ⟨z1, z2, z3⟩ := hw
  refine lv_lload hx hb d_S_change_30 (lv_at hl 0 rfl) ?_
  exact W.lret (v := x_1) hx hb hr (fun t ht hW => ⟨⟨_, (w9, M9, pt9), rfl, ⟨z1, by rw [← hchg]; exact z2, z3, num, ex_1, hnum⟩, hP.at ht⟩, hS.F ht⟩) hS.2.2 d_S_change_32
end
section
/-! WHAT A METHOD THAT THROWS STANDS ON, beside the words of gt -/
def eIA : String := "java/lang/IllegalArgumentException"
def eIO : String := "java/lang/IndexOutOfBoundsException"
def eIS : String := "java/lang/IllegalStateException"
abbrev eUp : List String := ["java/lang/RuntimeException", "java/lang/Exception"]
def dcl (C : String) : Cond := .declares ⟨C, "<init>", "(Ljava/lang/String;)V"⟩
abbrev ngL (E : String) : List Cond := [Cond.castable E E, dcl "java/lang/RuntimeException", dcl "java/lang/Exception", dcl "java/lang/Throwable"]
theorem ng_IA : ∀ w ∈ (vx_atS R_S 35 eIA eUp).filter (fun w => !goodWord w), w ∈ ngL eIA := by decide +kernel
theorem ng_IO : ∀ w ∈ (vx_atS R_S 46 eIO eUp).filter (fun w => !goodWord w), w ∈ ngL eIO := by decide +kernel
theorem ng_IS : ∀ w ∈ (vx_atS R_S 89 eIS eUp).filter (fun w => !goodWord w), w ∈ ngL eIS := by decide +kernel
theorem g_IA : ∀ w ∈ (vx_atS R_S 35 eIA eUp).filter goodWord, w ∈ gt := by decide +kernel
theorem g_IO : ∀ w ∈ (vx_atS R_S 46 eIO eUp).filter goodWord, w ∈ gt := by decide +kernel
theorem g_IS : ∀ w ∈ (vx_atS R_S 89 eIS eUp).filter goodWord, w ∈ gt := by decide +kernel
abbrev nwS : Cond := .methodLinkNest R_P 50 y_S_shiftInWord R_S
/-- what the tables and the start say beside the good words: a nest mate's link, what a throw and a catch ask for, the texts -/
def evX (bs : Nat) (U : State) : Prop :=
  (va_Nw nwS U ∧ va_AO R_P U) ∧ (vx_Zq Bundle.tN "UNASSIGNED_STACK" Bundle.steD (mA bs) U U.heap ∧ vx_Zq Bundle.tN "SUPPRESSED_SENTINEL" Bundle.listD (mA bs) U U.heap) ∧
  (va_Nw (.castable eIA eIA) U ∧ va_Nw (.castable eIO eIO) U ∧ va_Nw (.castable eIS eIS) U) ∧ (va_Nw (dcl "java/lang/RuntimeException") U ∧ va_Nw (dcl "java/lang/Exception") U ∧ va_Nw (dcl "java/lang/Throwable") U) ∧
  (va_Nc eIO eIA U ∧ va_Nc eIS eIA U ∧ va_Nc eIS eIO U) ∧
  ((∃ q, vk_R R_S 33 "no such size" q U) ∧ (∃ q, vk_R R_S 44 "a byte is not in memory" q U) ∧ (∃ q, vk_R R_S 59 "the end is before the start" q U) ∧ (∃ q, vk_R R_S 78 "no such size or kind" q U) ∧ (∃ q, vk_R R_S 83 "no such processor, or a byte is not in memory" q U) ∧ (∃ q, vk_R R_S 87 "the size does not divide the address" q U) ∧ (∃ q, vk_R R_S 102 "no such processor" q U) ∧ ∃ q, vk_R R_S 107 "no such page" q U)
theorem exR {own tx : String} {k : Nat} {s U : State} (hW : s.WarmedH U.vm) (h : ∃ q, vk_R own k tx q s) : ∃ q, vk_R own k tx q U := h.elim fun q h => ⟨q, vk_R.warm hW h⟩
theorem evX.warm {bs : Nat} {s U : State} (hW : s.WarmedH U.vm) (hk : ∀ a : Nat, a < s.heap.size → ¬ mA bs a → U.heap[a]? = s.heap[a]?) (h : evX bs s) : evX bs U := by
  obtain ⟨⟨a1, a2⟩, ⟨b1, b2⟩, ⟨c1, c2, c3⟩, ⟨d1, d2, d3⟩, ⟨e1, e2, e3⟩, f1, f2, f3, f4, f5, f6, f7, f8⟩ := h
  exact ⟨⟨va_Nw.warmM hW a1, va_AO.moved hW.alike a2⟩, ⟨(b1.moved hW.alike).kept hk, (b2.moved hW.alike).kept hk⟩, ⟨va_Nw.warmC hW c1, va_Nw.warmC hW c2, va_Nw.warmC hW c3⟩, ⟨va_Nw.warmD hW d1, va_Nw.warmD hW d2, va_Nw.warmD hW d3⟩, ⟨va_Nc.moved hW.alike e1, va_Nc.moved hW.alike e2, va_Nc.moved hW.alike e3⟩,
    exR hW f1, exR hW f2, exR hW f3, exR hW f4, exR hW f5, exR hW f6, exR hW f7, exR hW f8⟩
def mPx (D : va_G) (cl : List vw_C) (tys : List (ClassId × FieldType)) (bs : Nat) (w : Nat → Option va_E) (av : List Value) : Array Value → State → Prop := va_Pc av (fun U => bs ≤ U.heap.size ∧ mw D cl bs w U.heap ∧ va_K D cl tys U ∧ evX bs U)
theorem mPx.blind {D : va_G} {cl : List vw_C} {tys : List (ClassId × FieldType)} {bs : Nat} {w : Nat → Option va_E} {av : List Value} : FrameBlind (mPx D cl tys bs w av) := fun a U g mk q => by
  obtain ⟨q0, q1, q2, q3, q4⟩ := q
  exact ⟨q0, q1, q2, va_K.moved (u := U) (U := U.calling g mk a) (Vm.Alike.refl U.vm) q3, evX.warm (s := U) (U := U.calling g mk a) (State.WarmedH.refl U) (fun _ _ _ => rfl) q4⟩
theorem mPx.preS {D : va_G} {cl : List vw_C} {tys : List (ClassId × FieldType)} {bs : Nat} {w : Nat → Option va_E} {av : List Value} {s : State} {H : Heap} {locs : List Loc} (hbs : bs ≤ s.heap.size) (hS : va_S (mA bs) s.heap H locs) (hP : mw D cl bs w H) (hK : va_K D cl tys s) (hE : evX bs s) : PreS s H (mPx D cl tys bs w av) av :=
  ⟨mPx.blind, fun U hU hW => ⟨rfl, by rw [hU]; exact Nat.le_trans hbs hS.1, by rw [hU]; exact hP, va_K.moved hW.alike hK, evX.warm hW (fun a h1 h2 => by rw [hU]; exact hS.2.1 a h1 h2) hE⟩⟩
theorem mPx.preV {D : va_G} {cl : List vw_C} {tys : List (ClassId × FieldType)} {bs : Nat} {w : Nat → Option va_E} {As : List Value} {s : State} {H : Heap} {locs : List Loc} {b ci : Nat} {q : vw_C} {fs : List Value} (hbs : bs ≤ s.heap.size) (hS : va_S (mA bs) s.heap H locs) (hP : mw D cl bs w H) (hK : va_K D cl tys s) (hE : evX bs s) (hc : cl[ci]? = some q) (he : w b = some (.inr (ci, fs))) : PreV s H q.1 b (mPx D cl tys bs w (.ref b :: As)) As :=
  ⟨mPx.blind, mw_recv hK hP hc he, fun U hU hW => ⟨rfl, by rw [hU]; exact Nat.le_trans hbs hS.1, by rw [hU]; exact hP, va_K.moved hW.alike hK, evX.warm hW (fun a h1 h2 => by rw [hU]; exact hS.2.1 a h1 h2) hE⟩⟩
/-- what a throw says: the class by its name, why, and that the world is as before -/
abbrev xX (D : va_G) (cl : List vw_C) (bs : Nat) (w : Nat → Option va_E) (why : String → Prop) : String → State → State → Prop := vx_X (S := Unit) (fun _ => True) (fun E _ t => why E ∧ mw D cl bs w t.heap) (mA bs)
section THR
variable {p : Program} {l : Launch} {e : Env} {R : Room} {s : State} {m : MethodId} {args : Array Value} {below : List Frame} {meth : Method} {c : Code} {H : Heap} {locs : List Loc} {cells slots : Nat}
variable {cc : ByteArray} {pc : Nat} {ls : Array Slot} {rest : List Value} {D : va_G} {cl : List vw_C} {bs : Nat} {w : Nat → Option va_E} {Qc : Array Value → State → Outcome → State → Prop}
/-- 'throw new E("..")' of the class -/
theorem mw_throw (hx : p.tables.exec = Jvm.exec) (hb : c.code = cc) (hl0 : l.stackTraces = false) (hown : s.vm.findClass R_S = some m.cls) (htg : ∀ w ∈ gt, w.before args s = true) (hE : evX bs s) {E : String} {ik is ic mc ms : Nat} {text : String} {why : String → Prop} (hcls : Bundle.fit E = true)
    (hk : Cond.classLink R_S ik E ∈ gt) (hini : Cond.initialized E ∈ gt) (hstr : ∃ q, vk_R R_S is text q s) (hg : ∀ w ∈ (vx_atS R_S ic E eUp).filter goodWord, w ∈ gt) (hng : ∀ w ∈ (vx_atS R_S ic E eUp).filter (fun w => !goodWord w), w ∈ ngL E) (hcast : va_Nw (.castable E E) s) (hot : (vx_atS R_S ic E eUp).all vx_ot = true)
    (hP : mw D cl bs w H) (hS : va_S (mA bs) s.heap H locs) (hsize : ls.size = c.maxLocals)
    (d0 : decode cc pc = .ok (.new ik, 3)) (d3 : decode cc (pc + 3) = .ok (.dup, 1)) (d4 : decode cc (pc + 4) = .ok (.ldc is, 2)) (d6 : decode cc (pc + 6) = .ok (.invokespecial ic, 3)) (d9 : decode cc (pc + 9) = .ok (.athrow, 1))
    (hout : ∀ x ∈ c.exceptionTable.toList, False) (hRf : 5 < R.frames) (hRl : (rest.map fun v => v.category).sum + 82 ≤ R.locals) (hRc : cells + 1 ≤ R.cells) (hRs : slots + 6 ≤ R.slots) (hlocks : meth.locks = false) (hwhy : why E) (hc : cells + 1 ≤ mc) (hs : slots + 6 ≤ ms) :
    W p l e R s m args below meth c H locs cells slots (vx_MQ below Qc (xX D cl bs w why) args s mc ms (mA bs)) (F0 m pc ls rest) := by
  obtain ⟨sa, hsa⟩ := hstr
  obtain ⟨-, ⟨z1, z2⟩, -, ⟨n1, n2, n3⟩, -⟩ := hE
  have hall : ∀ w ∈ vx_atS R_S ic E eUp, w.before args s = true := vx_hat (B := ngL E) (fun w hw => htg w (hg w hw)) hng (vx_c (va_Nw.use rfl hcast) (vx_c (va_Nw.use rfl n1) (vx_c (va_Nw.use rfl n2) (vx_c (va_Nw.use rfl n3) vx_n))))
  refine vx_throwS hx hb hl0 (own := R_S) (cls := E) (text := text) (names := eUp) (A := mA bs) hown hcls (by decide +kernel) (htg _ hk) (htg _ hini) hsa hall ?_ z1 z2 hS hsize d0 d3 d4 d6 d9 (fun x hx => (hout x hx).elim) hRf hRl hRc hRs hlocks ?_ hS.2.2 hc hs
  · intro w hw
    rcases List.mem_cons.mp hw with e1 | hw
    · rw [e1]; rfl
    · rcases List.mem_cons.mp hw with e2 | hw
      · rw [e2]; rfl
      · exact List.all_eq_true.mp hot w hw
  · intro t _ hz hq
    exact ⟨(), trivial, ⟨hwhy, hP.kept hq⟩, Nat.le_trans hS.1 hz, fun q h1 h2 => (hq q (Nat.lt_of_lt_of_le h1 hS.1)).trans (hS.2.1 q h1 h2)⟩
end THR
theorem ot_IA : (vx_atS R_S 35 eIA eUp).all vx_ot = true := by decide +kernel
theorem ot_IO : (vx_atS R_S 46 eIO eUp).all vx_ot = true := by decide +kernel
theorem ot_IS : (vx_atS R_S 89 eIS eUp).all vx_ot = true := by decide +kernel
end
section
abbrev szK (x : Int32) : Prop := x = 1 ∨ x = 2 ∨ x = 4 ∨ x = 8
theorem szK_of {x : Int32} (h : szK x) : ∃ k, x = nI k ∧ 1 ≤ k ∧ k ≤ 8 := by
  rcases h with rfl | rfl | rfl | rfl
  · exact ⟨1, rfl, by omega, by omega⟩
  · exact ⟨2, rfl, by omega, by omega⟩
  · exact ⟨4, rfl, by omega, by omega⟩
  · exact ⟨8, rfl, by omega, by omega⟩
/-- why load and store throw -/
abbrev whyM (x : Int64) (sz : Int32) (n : Nat) (E : String) : Prop := (E = eIA ∧ ¬ szK sz) ∨ (E = eIO ∧ szK sz ∧ ∀ k, sz = nI k → ¬ ∃ a, inM x n k a)
theorem inM_u {x : Int64} {n k a b : Nat} (hn : n ≤ 1024) (h1 : inM x n k a) (h2 : inM x n k b) : a = b := by
  obtain ⟨rfl, h1⟩ := h1
  obtain ⟨e, h2⟩ := h2
  have := (pk_lEQ (by omega) (by omega)).mp e
  omega
theorem nI_inj {a b : Nat} (ha : a < 2 ^ 31) (hb : b < 2 ^ 31) (h : nI a = nI b) : a = b := (nI_eq ha hb).mp h
set_option maxHeartbeats 4000000 in
set_option maxRecDepth 100000 in
/-- load -/
theorem t_S_load (l : Launch) (hl0 : l.stackTraces = false) (D : va_G) (cJ cI cP : ClassId) (bs : Nat) (w : Nat → Option va_E) (h n : Nat) (M T : Nat → Int64) (ra : Nat → Int64) (rs : Nat → Int32) (aT aA aS : Nat) (pt : Nat → Option Nat) (hs : sm cJ cI cP w h n M T ra rs aT aA aS pt) (x : Int64) (sz : Int32) : vx_Met l y_S_load ws_S_load ({ frames := 6, cells := 1, slots := 6, locals := 90 }) (mPx D vwCl (mT cJ cI cP) bs w [.ref h, .long x, .int sz]) (va_Ql (S := Unit) (fun r _ => ∃ a k, sz = nI k ∧ szK sz ∧ 1 ≤ k ∧ k ≤ 8 ∧ inM x n k a ∧ ∀ i, i < 64 → bi r i = rdN (mb M) a k i) (mB D vwCl bs (fun _ => w)) (mA bs)) (xX D vwCl bs w (whyM x sz n)) 1 6 (mA bs) := by
  refine vx_ofW (cc := c_S_load) (maxL := 4) (ret := (some .long)) (by decide) rfl ?_
  intro p e s m args below meth c s₁ B hml hex hv
  obtain ⟨rfl, hbs, hP, hK, hE⟩ := hv
  have hx := B.exec
  have hb := B.bytes
  have hr := B.returns
  have htg : ∀ w ∈ gt, w.before _ s = true := fun w h => atoms_spec (ws := ws_S_load) B.pre w (List.mem_cons_of_mem _ h)
  have hown : s.vm.findClass R_S = some m.cls := findClass_of_methodNamed B.named
  have hlocks := B.notSynchronized
  have hS : va_S (mA bs) s.heap s.heap [] := va_S.rf
  have hl := lv_entry ([.ref h, .long x, .int sz]) (n := 4) (Nat.le_of_ble_eq_true rfl)
  rw [lg_entry_eq]
  generalize (lg_sl ([.ref h, .long x, .int sz]) ++ List.replicate (4 - (lg_sl ([.ref h, .long x, .int sz])).length) Slot.unset).toArray = ls at hl ⊢
  have hl : lv_has ls 4 [(0, .ref h), (1, .long x), (3, .int sz)] := hl
  obtain ⟨hn, s1, s2, s3, s4, s5, s6, s7⟩ := id hs
  have f1 : w h = some (.inr (ciS, [.int (nI n), .ref aT, .ref aA, .ref aS])) := s1
  refine lv_iload_n hx hb d_S_load_0 rfl (lv_at hl 2 rfl) ?_
  refine mc_i (va_runS (As := [.int sz]) (rest := []) ⟨hx, hb, hml, hown, htg⟩ (t_S_isSize l D cJ cI cP bs w sz) (cwS (own := R_S) 1 htg (ginS k_85 k_86 k_25 k_87) rfl rfl rfl (by decide +kernel) ⟨Nat.le_of_ble_eq_true rfl, Nat.le_of_ble_eq_true rfl⟩) (mPc.preS hbs hS hP hK) rfl rfl hl.1 rfl (lv_room (Nat.le_of_ble_eq_true rfl)) d_S_load_1 ⟨Nat.le_of_ble_eq_true rfl, Nat.le_of_ble_eq_true rfl⟩) hS (fun r1 u1 H locs hw hP hz1 hS => ?_)
  have hsz := hw
  refine lv_if_ne (tgt := 17) hx hb d_S_load_4 (by decide) (fun c4 => ?_) (fun c4 => ?_)
  · have hok : szK sz := Classical.byContradiction (fun z => by rw [if_neg z] at hsz; exact c4 hsz)
    obtain ⟨k, rfl, h1, h8⟩ := szK_of hok
    have hl : lv_has ls 4 [(0, .ref h), (1, .long x), (3, .int (nI k))] := hl
    refine lv_aload_n hx hb d_S_load_17 rfl (lv_at hl 0 rfl) ?_
    refine lv_lload_n hx hb d_S_load_18 rfl (lv_at hl 1 rfl) ?_
    refine lv_iload_n hx hb d_S_load_19 rfl (lv_at hl 2 rfl) ?_
    refine mc_i (va_runV (As := [.long x, .int (nI k)]) (rest := []) ⟨hx, hb, hml, hown, htg⟩ (t_S_isInMemory l D cJ cI cP bs w h n M T ra rs aT aA aS pt hs x k h8) (cwV (own := R_S) (C := R_S) 2 htg (ginV k_156 k_158 k_1 k_25 k_159) rfl rfl rfl (by decide +kernel) ⟨Nat.le_of_ble_eq_true rfl, Nat.le_of_ble_eq_true rfl⟩) (mPc.preV (ci := ciS) (q := (R_S, T_S, 4)) hbs hS hP hK rfl f1) rfl rfl hl.1 rfl (lv_room (Nat.le_of_ble_eq_true rfl)) d_S_load_20 ⟨Nat.le_of_ble_eq_true rfl, Nat.le_of_ble_eq_true rfl⟩) hS (fun r20 u20 H locs hw hP hz20 hS => ?_)
    have hin := hw
    refine lv_if_ne (tgt := 36) hx hb d_S_load_23 (by decide) (fun c23 => ?_) (fun c23 => ?_)
    · obtain ⟨a, ha⟩ : ∃ a, inM x n k a := by
        rcases hin with z | z
        · exact z.2
        · exact absurd z.1 c23
      obtain ⟨rfl, hak⟩ := id ha
      have hl : lv_has ls 4 [(0, .ref h), (1, .long (lN (2147483648 + a))), (3, .int (nI k))] := hl
      refine lv_aload_n hx hb d_S_load_36 rfl (lv_at hl 0 rfl) ?_
      refine lv_lload_n hx hb d_S_load_37 rfl (lv_at hl 1 rfl) ?_
      refine mc_i (va_runS (As := [.long (lN (2147483648 + a))]) (rest := [.ref h]) ⟨hx, hb, hml, hown, htg⟩ (t_S_placeOf l D cJ cI cP bs w a) (cwS (own := R_S) 1 htg (ginS k_182 k_183 k_25 k_184) rfl rfl rfl (by decide +kernel) ⟨Nat.le_of_ble_eq_true rfl, Nat.le_of_ble_eq_true rfl⟩) (mPc.preS hbs hS hP hK) rfl rfl hl.1 rfl (lv_room (Nat.le_of_ble_eq_true rfl)) d_S_load_38 ⟨Nat.le_of_ble_eq_true rfl, Nat.le_of_ble_eq_true rfl⟩) hS (fun r38 u38 H locs hw hP hz38 hS => ?_)
      subst hw
      refine lv_iload_n hx hb d_S_load_41 rfl (lv_at hl 2 rfl) ?_
      refine mc_l (va_runV (As := [.int (nI a), .int (nI k)]) (rest := []) ⟨hx, hb, hml, hown, htg⟩ (t_S_numberAt l D cJ cI cP bs w h n M T ra rs aT aA aS pt hs a k h1 h8 ha.2) (cwV (own := R_S) (C := R_S) 2 htg (ginV k_185 k_187 k_3 k_25 k_188) rfl rfl rfl (by decide +kernel) ⟨Nat.le_of_ble_eq_true rfl, Nat.le_of_ble_eq_true rfl⟩) (mPc.preV (ci := ciS) (q := (R_S, T_S, 4)) hbs hS hP hK rfl f1) rfl rfl hl.1 rfl (lv_room (Nat.le_of_ble_eq_true rfl)) d_S_load_42 ⟨Nat.le_of_ble_eq_true rfl, Nat.le_of_ble_eq_true rfl⟩) hS (fun num u42 H locs hnum hP hz42 hS => ?_)
      refine W.widen (k := 1) (n := 6) (Nat.zero_le _) (Nat.zero_le _) ?_
      refine vx_ret ?_
      exact W.lret (v := num) hx hb hr (fun t ht hW => ⟨⟨_, (), rfl, ⟨a, k, rfl, hok, h1, h8, ha, hnum⟩, hP.at ht⟩, hS.F ht⟩) hS.2.2 d_S_load_45
    · exact mw_throw (E := eIO) hx hb hl0 hown htg hE (by decide +kernel) k_166 k_31 hE.2.2.2.2.2.2.1 g_IO ng_IO hE.2.2.1.2.1 ot_IO hP hS (hl.1.trans hml.symm) d_S_load_26 d_S_load_29 d_S_load_30 d_S_load_32 d_S_load_35 hex (Nat.le_of_ble_eq_true rfl) (Nat.le_of_ble_eq_true rfl) (Nat.le_of_ble_eq_true rfl) (Nat.le_of_ble_eq_true rfl) hlocks (Or.inr ⟨rfl, hok, fun k2 e2 y => by
          rcases hin with z | z
          · rw [z.1] at c23; exact absurd c23 (by decide)
          · obtain ⟨a, ha⟩ := y
            have e4 : k2 % 2 ^ 32 = k := by
              have := congrArg (fun q : Int32 => q.toBitVec.toNat) e2
              have h3 : (nI k).toBitVec.toNat = (nI k2).toBitVec.toNat := this
              rw [pk_tn (by omega)] at h3
              rw [h3]
              show _ = (BitVec.ofNat 32 k2).toNat
              rw [BitVec.toNat_ofNat]
            have e5 : k2 = k := by have := ha.2; omega
            exact z.2 ⟨a, by rw [← e5]; exact ha⟩⟩) (Nat.le_of_ble_eq_true rfl) (Nat.le_of_ble_eq_true rfl)
  · exact mw_throw (E := eIA) hx hb hl0 hown htg hE (by decide +kernel) k_88 k_30 hE.2.2.2.2.2.1 g_IA ng_IA hE.2.2.1.1 ot_IA hP hS (hl.1.trans hml.symm) d_S_load_7 d_S_load_10 d_S_load_11 d_S_load_13 d_S_load_16 hex (Nat.le_of_ble_eq_true rfl) (Nat.le_of_ble_eq_true rfl) (Nat.le_of_ble_eq_true rfl) (Nat.le_of_ble_eq_true rfl) hlocks (Or.inl ⟨rfl, fun z => by rw [if_pos z] at hsz; rw [hsz] at c4; exact absurd c4 (by decide)⟩) (Nat.le_of_ble_eq_true rfl) (Nat.le_of_ble_eq_true rfl)
set_option maxHeartbeats 4000000 in
set_option maxRecDepth 100000 in
/-- store -/
theorem t_S_store (l : Launch) (hl0 : l.stackTraces = false) (D : va_G) (cJ cI cP : ClassId) (bs : Nat) (w : Nat → Option va_E) (h n : Nat) (M T : Nat → Int64) (ra : Nat → Int64) (rs : Nat → Int32) (aT aA aS : Nat) (pt : Nat → Option Nat) (hs : sm cJ cI cP w h n M T ra rs aT aA aS pt) (hro : rok ra n) (x : Int64) (sz : Int32) (v : Int64) : vx_Met l y_S_store ws_S_store ({ frames := 6, cells := 4, slots := 1034, locals := 126 }) (mPx D vwCl (mT cJ cI cP) bs w [.ref h, .long x, .int sz, .long v]) (va_Qv (S := ((Nat → Option va_E) × (Nat → Int64) × (Nat → Option Nat))) (fun u => ∃ a k, sz = nI k ∧ szK sz ∧ 1 ≤ k ∧ k ≤ 8 ∧ inM x n k a ∧ sm cJ cI cP u.1 h n u.2.1 (tinc T (a / 4096) ((a + k - 1) / 4096 + 1)) (lost ra (a / 8) ((a + k - 1) / 8)) rs aT aA aS u.2.2 ∧ mb u.2.1 = wrN (mb M) a k v ∧ kp w u.1 (sfp w h) (sfp u.1 h)) (mB D vwCl bs (fun u => u.1)) (mA bs)) (xX D vwCl bs w (whyM x sz n)) 4 1034 (mA bs) := by
  refine vx_ofW (cc := c_S_store) (maxL := 6) (ret := none) (by decide) rfl ?_
  intro p e s m args below meth c s₁ B hml hex hv
  obtain ⟨rfl, hbs, hP, hK, hE⟩ := hv
  have hx := B.exec
  have hb := B.bytes
  have hr := B.returns
  have htg : ∀ w ∈ gt, w.before _ s = true := fun w h => atoms_spec (ws := ws_S_store) B.pre w (List.mem_cons_of_mem _ h)
  have hown : s.vm.findClass R_S = some m.cls := findClass_of_methodNamed B.named
  have hlocks := B.notSynchronized
  have hS : va_S (mA bs) s.heap s.heap [] := va_S.rf
  have hl := lv_entry ([.ref h, .long x, .int sz, .long v]) (n := 6) (Nat.le_of_ble_eq_true rfl)
  rw [lg_entry_eq]
  generalize (lg_sl ([.ref h, .long x, .int sz, .long v]) ++ List.replicate (6 - (lg_sl ([.ref h, .long x, .int sz, .long v])).length) Slot.unset).toArray = ls at hl ⊢
  have hl : lv_has ls 6 [(0, .ref h), (1, .long x), (3, .int sz), (4, .long v)] := hl
  obtain ⟨hn, s1, s2, s3, s4, s5, s6, s7⟩ := id hs
  have f1 : w h = some (.inr (ciS, [.int (nI n), .ref aT, .ref aA, .ref aS])) := s1
  refine lv_iload_n hx hb d_S_store_0 rfl (lv_at hl 2 rfl) ?_
  refine mc_i (va_runS (As := [.int sz]) (rest := []) ⟨hx, hb, hml, hown, htg⟩ (t_S_isSize l D cJ cI cP bs w sz) (cwS (own := R_S) 1 htg (ginS k_85 k_86 k_25 k_87) rfl rfl rfl (by decide +kernel) ⟨Nat.le_of_ble_eq_true rfl, Nat.le_of_ble_eq_true rfl⟩) (mPc.preS hbs hS hP hK) rfl rfl hl.1 rfl (lv_room (Nat.le_of_ble_eq_true rfl)) d_S_store_1 ⟨Nat.le_of_ble_eq_true rfl, Nat.le_of_ble_eq_true rfl⟩) hS (fun r1 u1 H locs hw hP hz1 hS => ?_)
  have hsz := hw
  refine lv_if_ne (tgt := 17) hx hb d_S_store_4 (by decide) (fun c4 => ?_) (fun c4 => ?_)
  · have hok : szK sz := Classical.byContradiction (fun z => by rw [if_neg z] at hsz; exact c4 hsz)
    obtain ⟨k, rfl, h1, h8⟩ := szK_of hok
    have hl : lv_has ls 6 [(0, .ref h), (1, .long x), (3, .int (nI k)), (4, .long v)] := hl
    refine lv_aload_n hx hb d_S_store_17 rfl (lv_at hl 0 rfl) ?_
    refine lv_lload_n hx hb d_S_store_18 rfl (lv_at hl 1 rfl) ?_
    refine lv_iload_n hx hb d_S_store_19 rfl (lv_at hl 2 rfl) ?_
    refine mc_i (va_runV (As := [.long x, .int (nI k)]) (rest := []) ⟨hx, hb, hml, hown, htg⟩ (t_S_isInMemory l D cJ cI cP bs w h n M T ra rs aT aA aS pt hs x k h8) (cwV (own := R_S) (C := R_S) 2 htg (ginV k_156 k_158 k_1 k_25 k_159) rfl rfl rfl (by decide +kernel) ⟨Nat.le_of_ble_eq_true rfl, Nat.le_of_ble_eq_true rfl⟩) (mPc.preV (ci := ciS) (q := (R_S, T_S, 4)) hbs hS hP hK rfl f1) rfl rfl hl.1 rfl (lv_room (Nat.le_of_ble_eq_true rfl)) d_S_store_20 ⟨Nat.le_of_ble_eq_true rfl, Nat.le_of_ble_eq_true rfl⟩) hS (fun r20 u20 H locs hw hP hz20 hS => ?_)
    have hin := hw
    refine lv_if_ne (tgt := 36) hx hb d_S_store_23 (by decide) (fun c23 => ?_) (fun c23 => ?_)
    · obtain ⟨a, ha⟩ : ∃ a, inM x n k a := by
        rcases hin with z | z
        · exact z.2
        · exact absurd z.1 c23
      obtain ⟨rfl, hak⟩ := id ha
      have hl : lv_has ls 6 [(0, .ref h), (1, .long (lN (2147483648 + a))), (3, .int (nI k)), (4, .long v)] := hl
      refine lv_aload_n hx hb d_S_store_36 rfl (lv_at hl 0 rfl) ?_
      refine lv_lload_n hx hb d_S_store_37 rfl (lv_at hl 1 rfl) ?_
      refine mc_i (va_runS (As := [.long (lN (2147483648 + a))]) (rest := [.ref h]) ⟨hx, hb, hml, hown, htg⟩ (t_S_placeOf l D cJ cI cP bs w a) (cwS (own := R_S) 1 htg (ginS k_182 k_183 k_25 k_184) rfl rfl rfl (by decide +kernel) ⟨Nat.le_of_ble_eq_true rfl, Nat.le_of_ble_eq_true rfl⟩) (mPc.preS hbs hS hP hK) rfl rfl hl.1 rfl (lv_room (Nat.le_of_ble_eq_true rfl)) d_S_store_38 ⟨Nat.le_of_ble_eq_true rfl, Nat.le_of_ble_eq_true rfl⟩) hS (fun r38 u38 H locs hw hP hz38 hS => ?_)
      subst hw
      refine lv_iload_n hx hb d_S_store_41 rfl (lv_at hl 2 rfl) ?_
      refine lv_lload hx hb d_S_store_42 (lv_at hl 3 rfl) ?_
      refine mc_v (va_runV (As := [.int (nI a), .int (nI k), .long v]) (rest := []) ⟨hx, hb, hml, hown, htg⟩ (t_S_putNumber l D cJ cI cP bs w h n M T ra rs aT aA aS pt hs a k h1 h8 ha.2 hro v) (cwV (own := R_S) (C := R_S) 3 htg (ginV k_211 k_213 k_5 k_25 k_214) rfl rfl rfl (by decide +kernel) ⟨Nat.le_of_ble_eq_true rfl, Nat.le_of_ble_eq_true rfl⟩) (mPc.preV (ci := ciS) (q := (R_S, T_S, 4)) hbs hS hP hK rfl f1) rfl rfl hl.1 rfl (lv_room (Nat.le_of_ble_eq_true rfl)) d_S_store_44 ⟨Nat.le_of_ble_eq_true rfl, Nat.le_of_ble_eq_true rfl⟩) hS (fun u9 H locs hw hP hz44 hS => ?_)
      obtain ⟨w9, M9, pt9⟩ := u9
      refine vx_ret ?_
      exact W.vret hx hb hr (fun t ht hW => ⟨⟨(w9, M9, pt9), rfl, ⟨a, k, rfl, hok, h1, h8, ha, hw⟩, hP.at ht⟩, hS.F ht⟩) hS.2.2 d_S_store_47
    · exact mw_throw (E := eIO) hx hb hl0 hown htg hE (by decide +kernel) k_166 k_31 hE.2.2.2.2.2.2.1 g_IO ng_IO hE.2.2.1.2.1 ot_IO hP hS (hl.1.trans hml.symm) d_S_store_26 d_S_store_29 d_S_store_30 d_S_store_32 d_S_store_35 hex (Nat.le_of_ble_eq_true rfl) (Nat.le_of_ble_eq_true rfl) (Nat.le_of_ble_eq_true rfl) (Nat.le_of_ble_eq_true rfl) hlocks (Or.inr ⟨rfl, hok, fun k2 e2 y => by
          rcases hin with z | z
          · rw [z.1] at c23; exact absurd c23 (by decide)
          · obtain ⟨a, ha⟩ := y
            have e4 : k2 % 2 ^ 32 = k := by
              have := congrArg (fun q : Int32 => q.toBitVec.toNat) e2
              have h3 : (nI k).toBitVec.toNat = (nI k2).toBitVec.toNat := this
              rw [pk_tn (by omega)] at h3
              rw [h3]
              show _ = (BitVec.ofNat 32 k2).toNat
              rw [BitVec.toNat_ofNat]
            have e5 : k2 = k := by have := ha.2; omega
            exact z.2 ⟨a, by rw [← e5]; exact ha⟩⟩) (Nat.le_of_ble_eq_true rfl) (Nat.le_of_ble_eq_true rfl)
  · exact mw_throw (E := eIA) hx hb hl0 hown htg hE (by decide +kernel) k_88 k_30 hE.2.2.2.2.2.1 g_IA ng_IA hE.2.2.1.1 ot_IA hP hS (hl.1.trans hml.symm) d_S_store_7 d_S_store_10 d_S_store_11 d_S_store_13 d_S_store_16 hex (Nat.le_of_ble_eq_true rfl) (Nat.le_of_ble_eq_true rfl) (Nat.le_of_ble_eq_true rfl) (Nat.le_of_ble_eq_true rfl) hlocks (Or.inl ⟨rfl, fun z => by rw [if_pos z] at hsz; rw [hsz] at c4; exact absurd c4 (by decide)⟩) (Nat.le_of_ble_eq_true rfl) (Nat.le_of_ble_eq_true rfl)
theorem prc_of {x : Int32} (h : 0 ≤ x ∧ x < 4) : ∃ j, j < 4 ∧ x = nI j := by
  rcases pk_ix x (n := 4) (by decide) with z | z | z
  · exact absurd h.1 (Int32.not_le.mpr z)
  · exact absurd h.2 (Int32.not_lt.mpr z)
  · exact z
set_option maxHeartbeats 4000000 in
set_option maxRecDepth 100000 in
/-- reserved -/
theorem t_S_reserved (l : Launch) (hl0 : l.stackTraces = false) (D : va_G) (cJ cI cP : ClassId) (bs : Nat) (w : Nat → Option va_E) (h n : Nat) (M T : Nat → Int64) (ra : Nat → Int64) (rs : Nat → Int32) (aT aA aS : Nat) (pt : Nat → Option Nat) (hs : sm cJ cI cP w h n M T ra rs aT aA aS pt) (x : Int32) : vx_Met l y_S_reserved ws_S_reserved ({ frames := 6, cells := 1, slots := 6, locals := 90 }) (mPx D vwCl (mT cJ cI cP) bs w [.ref h, .int x]) (va_Ql (S := Unit) (fun r _ => ∃ j, j < 4 ∧ x = nI j ∧ r = ra j) (mB D vwCl bs (fun _ => w)) (mA bs)) (xX D vwCl bs w (fun E => E = eIO ∧ ¬ (0 ≤ x ∧ x < 4))) 1 6 (mA bs) := by
  refine vx_ofW (cc := c_S_reserved) (maxL := 2) (ret := (some .long)) (by decide) rfl ?_
  intro p e s m args below meth c s₁ B hml hex hv
  obtain ⟨rfl, hbs, hP, hK, hE⟩ := hv
  have hx := B.exec
  have hb := B.bytes
  have hr := B.returns
  have htg : ∀ w ∈ gt, w.before _ s = true := fun w h => atoms_spec (ws := ws_S_reserved) B.pre w (List.mem_cons_of_mem _ h)
  have hown : s.vm.findClass R_S = some m.cls := findClass_of_methodNamed B.named
  have hlocks := B.notSynchronized
  have hS : va_S (mA bs) s.heap s.heap [] := va_S.rf
  have hl := lv_entry ([.ref h, .int x]) (n := 2) (Nat.le_of_ble_eq_true rfl)
  rw [lg_entry_eq]
  generalize (lg_sl ([.ref h, .int x]) ++ List.replicate (2 - (lg_sl ([.ref h, .int x])).length) Slot.unset).toArray = ls at hl ⊢
  have hl : lv_has ls 2 [(0, .ref h), (1, .int x)] := hl
  obtain ⟨hn, s1, s2, s3, s4, s5, s6, s7⟩ := id hs
  have f1 : w h = some (.inr (ciS, [.int (nI n), .ref aT, .ref aA, .ref aS])) := s1
  refine lv_iload_n hx hb d_S_reserved_0 rfl (lv_at hl 1 rfl) ?_
  refine mc_i (va_runS (As := [.int x]) (rest := []) ⟨hx, hb, hml, hown, htg⟩ (t_S_isProcessor l D cJ cI cP bs w x) (cwS (own := R_S) 1 htg (ginS k_313 k_314 k_25 k_315) rfl rfl rfl (by decide +kernel) ⟨Nat.le_of_ble_eq_true rfl, Nat.le_of_ble_eq_true rfl⟩) (mPc.preS hbs hS hP hK) rfl rfl hl.1 rfl (lv_room (Nat.le_of_ble_eq_true rfl)) d_S_reserved_1 ⟨Nat.le_of_ble_eq_true rfl, Nat.le_of_ble_eq_true rfl⟩) hS (fun r1 u1 H locs hw hP hz1 hS => ?_)
  have hpr := hw
  refine lv_if_ne (tgt := 17) hx hb d_S_reserved_4 (by decide) (fun c4 => ?_) (fun c4 => ?_)
  · have hok : 0 ≤ x ∧ x < 4 := Classical.byContradiction (fun z => by rw [if_neg z] at hpr; exact c4 hpr)
    obtain ⟨j, hj, rfl⟩ := prc_of hok
    have hl : lv_has ls 2 [(0, .ref h), (1, .int (nI j))] := hl
    refine lv_aload_n hx hb d_S_reserved_17 rfl (lv_at hl 0 rfl) ?_
    refine mw_get (C := R_S) (T := T_S) (N := 4) (ci := ciS) (v := .ref aA) hx hb htg i_S hown hK hP f1 rfl 2 (by decide) (htg _ k_48) (fun _ h9 => h9) rfl d_S_reserved_18 ?_
    refine lv_iload_n hx hb d_S_reserved_21 rfl (lv_at hl 1 rfl) ?_
    refine mw_lald hx hb hK hP 0 s3 rfl (vp_in_nI hj (by omega)) d_S_reserved_22 ?_
    rw [show (nI j).toNatClampNeg = j from nI_clamp (by omega)]
    refine W.widen (k := 1) (n := 6) (Nat.zero_le _) (Nat.zero_le _) ?_
    refine vx_ret ?_
    exact W.lret (v := ra j) hx hb hr (fun t ht hW => ⟨⟨_, (), rfl, ⟨j, hj, rfl, rfl⟩, hP.at ht⟩, hS.F ht⟩) hS.2.2 d_S_reserved_23
  · exact mw_throw (E := eIO) hx hb hl0 hown htg hE (by decide +kernel) k_166 k_31 hE.2.2.2.2.2.2.2.2.2.2.2.1 g_IO ng_IO hE.2.2.1.2.1 ot_IO hP hS (hl.1.trans hml.symm) d_S_reserved_7 d_S_reserved_10 d_S_reserved_11 d_S_reserved_13 d_S_reserved_16 hex (Nat.le_of_ble_eq_true rfl) (Nat.le_of_ble_eq_true rfl) (Nat.le_of_ble_eq_true rfl) (Nat.le_of_ble_eq_true rfl) hlocks (⟨rfl, fun z => by rw [if_pos z] at hpr; rw [hpr] at c4; exact absurd c4 (by decide)⟩) (Nat.le_of_ble_eq_true rfl) (Nat.le_of_ble_eq_true rfl)
set_option maxHeartbeats 4000000 in
set_option maxRecDepth 100000 in
/-- drop -/
theorem t_S_drop (l : Launch) (hl0 : l.stackTraces = false) (D : va_G) (cJ cI cP : ClassId) (bs : Nat) (w : Nat → Option va_E) (h n : Nat) (M T : Nat → Int64) (ra : Nat → Int64) (rs : Nat → Int32) (aT aA aS : Nat) (pt : Nat → Option Nat) (hs : sm cJ cI cP w h n M T ra rs aT aA aS pt) (x : Int32) : vx_Met l y_S_drop ws_S_drop ({ frames := 6, cells := 1, slots := 6, locals := 90 }) (mPx D vwCl (mT cJ cI cP) bs w [.ref h, .int x]) (va_Qi (S := (Nat → Option va_E)) (fun r u => ∃ j, j < 4 ∧ x = nI j ∧ r = (if ra j = 0 then 0 else 1) ∧ sm cJ cI cP u h n M T (vp_updL ra j 0) rs aT aA aS pt ∧ kp w u (sfp w h) (sfp u h)) (mB D vwCl bs (fun u => u)) (mA bs)) (xX D vwCl bs w (fun E => E = eIO ∧ ¬ (0 ≤ x ∧ x < 4))) 1 6 (mA bs) := by
  refine vx_ofW (cc := c_S_drop) (maxL := 3) (ret := (some .boolean)) (by decide) rfl ?_
  intro p e s m args below meth c s₁ B hml hex hv
  obtain ⟨rfl, hbs, hP, hK, hE⟩ := hv
  have hx := B.exec
  have hb := B.bytes
  have hr := B.returns
  have htg : ∀ w ∈ gt, w.before _ s = true := fun w h => atoms_spec (ws := ws_S_drop) B.pre w (List.mem_cons_of_mem _ h)
  have hown : s.vm.findClass R_S = some m.cls := findClass_of_methodNamed B.named
  have hlocks := B.notSynchronized
  have hS : va_S (mA bs) s.heap s.heap [] := va_S.rf
  have hl := lv_entry ([.ref h, .int x]) (n := 3) (Nat.le_of_ble_eq_true rfl)
  rw [lg_entry_eq]
  generalize (lg_sl ([.ref h, .int x]) ++ List.replicate (3 - (lg_sl ([.ref h, .int x])).length) Slot.unset).toArray = ls at hl ⊢
  have hl : lv_has ls 3 [(0, .ref h), (1, .int x)] := hl
  obtain ⟨hn, s1, s2, s3, s4, s5, s6, s7⟩ := id hs
  have f1 : w h = some (.inr (ciS, [.int (nI n), .ref aT, .ref aA, .ref aS])) := s1
  refine lv_iload_n hx hb d_S_drop_0 rfl (lv_at hl 1 rfl) ?_
  refine mc_i (va_runS (As := [.int x]) (rest := []) ⟨hx, hb, hml, hown, htg⟩ (t_S_isProcessor l D cJ cI cP bs w x) (cwS (own := R_S) 1 htg (ginS k_313 k_314 k_25 k_315) rfl rfl rfl (by decide +kernel) ⟨Nat.le_of_ble_eq_true rfl, Nat.le_of_ble_eq_true rfl⟩) (mPc.preS hbs hS hP hK) rfl rfl hl.1 rfl (lv_room (Nat.le_of_ble_eq_true rfl)) d_S_drop_1 ⟨Nat.le_of_ble_eq_true rfl, Nat.le_of_ble_eq_true rfl⟩) hS (fun r1 u1 H locs hw hP hz1 hS => ?_)
  have hpr := hw
  refine lv_if_ne (tgt := 17) hx hb d_S_drop_4 (by decide) (fun c4 => ?_) (fun c4 => ?_)
  · have hok : 0 ≤ x ∧ x < 4 := Classical.byContradiction (fun z => by rw [if_neg z] at hpr; exact c4 hpr)
    obtain ⟨j, hj, rfl⟩ := prc_of hok
    have hl : lv_has ls 3 [(0, .ref h), (1, .int (nI j))] := hl
    refine lv_aload_n hx hb d_S_drop_17 rfl (lv_at hl 0 rfl) ?_
    refine mw_get (C := R_S) (T := T_S) (N := 4) (ci := ciS) (v := .ref aA) hx hb htg i_S hown hK hP f1 rfl 2 (by decide) (htg _ k_48) (fun _ h9 => h9) rfl d_S_drop_18 ?_
    refine lv_iload_n hx hb d_S_drop_21 rfl (lv_at hl 1 rfl) ?_
    refine mw_lald hx hb hK hP 0 s3 rfl (vp_in_nI hj (by omega)) d_S_drop_22 ?_
    rw [show (nI j).toNatClampNeg = j from nI_clamp (by omega)]
    refine lv_lconst (v := 0) hx hb d_S_drop_23 rfl ?_
    refine lc_eq (tgt := 32) hx hb d_S_drop_24 d_S_drop_25 (by decide) (fun c24 => ?_) (fun c24 => ?_)
    · refine lv_iconst (v := 0) hx hb d_S_drop_32 (by decide) ?_
      refine lv_istore_n (lv' := [(2, .int 0), (0, .ref h), (1, .int (nI j))]) hx hb d_S_drop_33 rfl hl (by decide) rfl (fun ls hl => ?_)
      refine lv_aload_n hx hb d_S_drop_34 rfl (lv_at hl 1 rfl) ?_
      refine mw_get (C := R_S) (T := T_S) (N := 4) (ci := ciS) (v := .ref aA) hx hb htg i_S hown hK hP f1 rfl 2 (by decide) (htg _ k_48) (fun _ h9 => h9) rfl d_S_drop_35 ?_
      refine lv_iload_n hx hb d_S_drop_38 rfl (lv_at hl 2 rfl) ?_
      refine lv_lconst (v := 0) hx hb d_S_drop_39 rfl ?_
      refine mw_last hx hb hK hP hS 0 s3 rfl (vp_in_nI hj (by omega)) d_S_drop_40 (fun H locs hP hS hz40 => ?_)
      rw [show (nI j).toNatClampNeg = j from nI_clamp (by omega)] at hP
      obtain ⟨w_1, ew_1⟩ : ∃ z9, z9 = va_up w aA (some (.inl (cJ, 4, .inr (.inl (vp_updL ra j 0)))) : Option va_E) := ⟨_, rfl⟩
      rw [← ew_1] at hP
      have h_2 : w_1 aA = some (.inl (cJ, 4, .inr (.inl (vp_updL ra j 0)))) := by rw [ew_1, va_up_self]
      have h_3 : w_1 h = some (.inr (ciS, [.int (nI n), .ref aT, .ref aA, .ref aS])) := by rw [ew_1, va_up_ne _ _ (fun z => by rw [z, s3] at f1; cases f1)]; exact f1
      have h_4 : w_1 aT = some (.inl (cP, n, .inr (.inr (.inr (.inr pt))))) := by rw [ew_1, va_up_ne _ _ (fun z => by rw [z, s3] at s2; simp at s2)]; exact s2
      have h_5 : w_1 aS = some (.inl (cI, 4, .inl rs)) := by rw [ew_1, va_up_ne _ _ (fun z => by rw [z, s3] at s4; simp at s4)]; exact s4
      refine lv_iload_n hx hb d_S_drop_41 rfl (lv_at hl 0 rfl) ?_
      have q1 := sm_ra hs (vp_updL ra j 0)
      rw [← ew_1] at q1
      refine W.widen (k := 1) (n := 6) (Nat.zero_le _) (Nat.zero_le _) ?_
      refine vx_ret ?_
      exact W.zret (v := 0) hx hb hr rfl (fun t ht hW => ⟨⟨_, w_1, rfl, ⟨j, hj, rfl, by first | rw [if_pos c24] | rw [if_neg c24], q1.1, q1.2⟩, hP.at ht⟩, hS.F ht⟩) hS.2.2 d_S_drop_42
    · refine lv_iconst (v := 1) hx hb d_S_drop_28 (by decide) ?_
      refine lv_goto (tgt := 33) hx hb d_S_drop_29 (by decide) ?_
      refine lv_istore_n (lv' := [(2, .int 1), (0, .ref h), (1, .int (nI j))]) hx hb d_S_drop_33 rfl hl (by decide) rfl (fun ls hl => ?_)
      refine lv_aload_n hx hb d_S_drop_34 rfl (lv_at hl 1 rfl) ?_
      refine mw_get (C := R_S) (T := T_S) (N := 4) (ci := ciS) (v := .ref aA) hx hb htg i_S hown hK hP f1 rfl 2 (by decide) (htg _ k_48) (fun _ h9 => h9) rfl d_S_drop_35 ?_
      refine lv_iload_n hx hb d_S_drop_38 rfl (lv_at hl 2 rfl) ?_
      refine lv_lconst (v := 0) hx hb d_S_drop_39 rfl ?_
      refine mw_last hx hb hK hP hS 0 s3 rfl (vp_in_nI hj (by omega)) d_S_drop_40 (fun H locs hP hS hz40 => ?_)
      rw [show (nI j).toNatClampNeg = j from nI_clamp (by omega)] at hP
      obtain ⟨w_6, ew_6⟩ : ∃ z9, z9 = va_up w aA (some (.inl (cJ, 4, .inr (.inl (vp_updL ra j 0)))) : Option va_E) := ⟨_, rfl⟩
      rw [← ew_6] at hP
      have h_7 : w_6 aA = some (.inl (cJ, 4, .inr (.inl (vp_updL ra j 0)))) := by rw [ew_6, va_up_self]
      have h_8 : w_6 h = some (.inr (ciS, [.int (nI n), .ref aT, .ref aA, .ref aS])) := by rw [ew_6, va_up_ne _ _ (fun z => by rw [z, s3] at f1; cases f1)]; exact f1
      have h_9 : w_6 aT = some (.inl (cP, n, .inr (.inr (.inr (.inr pt))))) := by rw [ew_6, va_up_ne _ _ (fun z => by rw [z, s3] at s2; simp at s2)]; exact s2
      have h_10 : w_6 aS = some (.inl (cI, 4, .inl rs)) := by rw [ew_6, va_up_ne _ _ (fun z => by rw [z, s3] at s4; simp at s4)]; exact s4
      refine lv_iload_n hx hb d_S_drop_41 rfl (lv_at hl 0 rfl) ?_
      have q1 := sm_ra hs (vp_updL ra j 0)
      rw [← ew_6] at q1
      refine W.widen (k := 1) (n := 6) (Nat.zero_le _) (Nat.zero_le _) ?_
      refine vx_ret ?_
      exact W.zret (v := 1) hx hb hr rfl (fun t ht hW => ⟨⟨_, w_6, rfl, ⟨j, hj, rfl, by first | rw [if_pos c24] | rw [if_neg c24], q1.1, q1.2⟩, hP.at ht⟩, hS.F ht⟩) hS.2.2 d_S_drop_42
  · exact mw_throw (E := eIO) hx hb hl0 hown htg hE (by decide +kernel) k_166 k_31 hE.2.2.2.2.2.2.2.2.2.2.2.1 g_IO ng_IO hE.2.2.1.2.1 ot_IO hP hS (hl.1.trans hml.symm) d_S_drop_7 d_S_drop_10 d_S_drop_11 d_S_drop_13 d_S_drop_16 hex (Nat.le_of_ble_eq_true rfl) (Nat.le_of_ble_eq_true rfl) (Nat.le_of_ble_eq_true rfl) (Nat.le_of_ble_eq_true rfl) hlocks (⟨rfl, fun z => by rw [if_pos z] at hpr; rw [hpr] at c4; exact absurd c4 (by decide)⟩) (Nat.le_of_ble_eq_true rfl) (Nat.le_of_ble_eq_true rfl)
set_option maxHeartbeats 4000000 in
set_option maxRecDepth 100000 in
/-- writes -/
theorem t_S_writes (l : Launch) (hl0 : l.stackTraces = false) (D : va_G) (cJ cI cP : ClassId) (bs : Nat) (w : Nat → Option va_E) (h n : Nat) (M T : Nat → Int64) (ra : Nat → Int64) (rs : Nat → Int32) (aT aA aS : Nat) (pt : Nat → Option Nat) (hs : sm cJ cI cP w h n M T ra rs aT aA aS pt) (x : Int32) : vx_Met l y_S_writes ws_S_writes ({ frames := 6, cells := 1, slots := 6, locals := 90 }) (mPx D vwCl (mT cJ cI cP) bs w [.ref h, .int x]) (va_Ql (S := Unit) (fun r _ => ∃ i, i < n ∧ x = nI i ∧ r = T i) (mB D vwCl bs (fun _ => w)) (mA bs)) (xX D vwCl bs w (fun E => E = eIO ∧ ¬ ∃ i, i < n ∧ x = nI i)) 1 6 (mA bs) := by
  refine vx_ofW (cc := c_S_writes) (maxL := 3) (ret := (some .long)) (by decide) rfl ?_
  intro p e s m args below meth c s₁ B hml hex hv
  obtain ⟨rfl, hbs, hP, hK, hE⟩ := hv
  have hx := B.exec
  have hb := B.bytes
  have hr := B.returns
  have htg : ∀ w ∈ gt, w.before _ s = true := fun w h => atoms_spec (ws := ws_S_writes) B.pre w (List.mem_cons_of_mem _ h)
  have hown : s.vm.findClass R_S = some m.cls := findClass_of_methodNamed B.named
  have hlocks := B.notSynchronized
  have hS : va_S (mA bs) s.heap s.heap [] := va_S.rf
  have hl := lv_entry ([.ref h, .int x]) (n := 3) (Nat.le_of_ble_eq_true rfl)
  rw [lg_entry_eq]
  generalize (lg_sl ([.ref h, .int x]) ++ List.replicate (3 - (lg_sl ([.ref h, .int x])).length) Slot.unset).toArray = ls at hl ⊢
  have hl : lv_has ls 3 [(0, .ref h), (1, .int x)] := hl
  obtain ⟨hn, s1, s2, s3, s4, s5, s6, s7⟩ := id hs
  have f1 : w h = some (.inr (ciS, [.int (nI n), .ref aT, .ref aA, .ref aS])) := s1
  refine lv_aload_n hx hb d_S_writes_0 rfl (lv_at hl 0 rfl) ?_
  refine lv_iload_n hx hb d_S_writes_1 rfl (lv_at hl 1 rfl) ?_
  refine mc_i (va_runV (As := [.int x]) (rest := []) ⟨hx, hb, hml, hown, htg⟩ (t_S_isPage l D cJ cI cP bs w h n M T ra rs aT aA aS pt hs x) (cwV (own := R_S) (C := R_S) 1 htg (ginV k_383 k_385 k_16 k_25 k_386) rfl rfl rfl (by decide +kernel) ⟨Nat.le_of_ble_eq_true rfl, Nat.le_of_ble_eq_true rfl⟩) (mPc.preV (ci := ciS) (q := (R_S, T_S, 4)) hbs hS hP hK rfl f1) rfl rfl hl.1 rfl (lv_room (Nat.le_of_ble_eq_true rfl)) d_S_writes_2 ⟨Nat.le_of_ble_eq_true rfl, Nat.le_of_ble_eq_true rfl⟩) hS (fun r2 u2 H locs hw hP hz2 hS => ?_)
  have hpg := hw
  refine lv_if_ne (tgt := 18) hx hb d_S_writes_5 (by decide) (fun c5 => ?_) (fun c5 => ?_)
  · obtain ⟨i, hi, rfl⟩ : ∃ i, i < n ∧ x = nI i := by
      rcases hpg with z | z
      · exact z.2
      · exact absurd z.1 c5
    have hl : lv_has ls 3 [(0, .ref h), (1, .int (nI i))] := hl
    refine lv_aload_n hx hb d_S_writes_18 rfl (lv_at hl 0 rfl) ?_
    refine mw_get (C := R_S) (T := T_S) (N := 4) (ci := ciS) (v := .ref aT) hx hb htg i_S hown hK hP f1 rfl 1 (by decide) (htg _ k_47) (fun _ h9 => h9) rfl d_S_writes_19 ?_
    refine lv_iload_n hx hb d_S_writes_22 rfl (lv_at hl 1 rfl) ?_
    refine mw_aldq hx hb hK hP 2 s2 rfl (vp_in_nI hi (by omega)) d_S_writes_23 ?_
    rw [show (nI i).toNatClampNeg = i from nI_clamp (by omega)]
    rcases hpt : pt i with _ | pz
    · refine lv_astore_nN (lv' := [(2, .null), (0, .ref h), (1, .int (nI i))]) hx hb d_S_writes_24 rfl hl (by decide) rfl (fun ls hl => ?_)
      refine lv_aload_nN hx hb d_S_writes_25 rfl (lv_at hl 0 rfl) ?_
      refine lv_ifnonnullN hx hb d_S_writes_26 ?_
      refine lv_lconst (v := 0) hx hb d_S_writes_29 rfl ?_
      refine lv_goto (tgt := 37) hx hb d_S_writes_30 (by decide) ?_
      refine W.widen (k := 1) (n := 6) (Nat.zero_le _) (Nat.zero_le _) ?_
      refine vx_ret ?_
      exact W.lret (v := 0) hx hb hr (fun t ht hW => ⟨⟨_, (), rfl, ⟨i, hi, rfl, (s5 i hi hpt).1.symm⟩, hP.at ht⟩, hS.F ht⟩) hS.2.2 d_S_writes_37
    · obtain ⟨wr, ev, ew, y1, y2⟩ := s6 i pz hi hpt
      refine lv_astore_n (lv' := [(2, .ref pz), (0, .ref h), (1, .int (nI i))]) hx hb d_S_writes_24 rfl hl (by decide) rfl (fun ls hl => ?_)
      refine lv_aload_n hx hb d_S_writes_25 rfl (lv_at hl 0 rfl) ?_
      refine lv_ifnonnull (tgt := 33) hx hb d_S_writes_26 (by decide) ?_
      refine lv_aload_n hx hb d_S_writes_33 rfl (lv_at hl 0 rfl) ?_
      refine mc_l (va_runV (As := []) (rest := []) ⟨hx, hb, hml, hown, htg⟩ (t_P_writeCount l D cJ cI cP bs w pz (fun j => M (512 * i + j)) (T i) (s6 i pz hi hpt)) (cwV (own := R_S) (C := R_P) 0 htg (ginV k_388 k_389 k_390 k_32 k_391) rfl rfl rfl (by decide +kernel) ⟨Nat.le_of_ble_eq_true rfl, Nat.le_of_ble_eq_true rfl⟩) (mPc.preV (ci := ciP) (q := (R_P, T_P, 5)) hbs hS hP hK rfl y1) rfl rfl hl.1 rfl (lv_room (Nat.le_of_ble_eq_true rfl)) d_S_writes_34 ⟨Nat.le_of_ble_eq_true rfl, Nat.le_of_ble_eq_true rfl⟩) hS (fun r34 u34 H locs hw hP hz34 hS => ?_)
      refine W.widen (k := 1) (n := 6) (Nat.zero_le _) (Nat.zero_le _) ?_
      refine vx_ret ?_
      exact W.lret (v := r34) hx hb hr (fun t ht hW => ⟨⟨_, (), rfl, ⟨i, hi, rfl, hw⟩, hP.at ht⟩, hS.F ht⟩) hS.2.2 d_S_writes_37
  · have hno : ¬ ∃ i, i < n ∧ x = nI i := by
      rcases hpg with z | z
      · rw [z.1] at c5; exact absurd c5 (by decide)
      · exact z.2
    exact mw_throw (E := eIO) hx hb hl0 hown htg hE (by decide +kernel) k_166 k_31 hE.2.2.2.2.2.2.2.2.2.2.2.2 g_IO ng_IO hE.2.2.1.2.1 ot_IO hP hS (hl.1.trans hml.symm) d_S_writes_8 d_S_writes_11 d_S_writes_12 d_S_writes_14 d_S_writes_17 hex (Nat.le_of_ble_eq_true rfl) (Nat.le_of_ble_eq_true rfl) (Nat.le_of_ble_eq_true rfl) (Nat.le_of_ble_eq_true rfl) hlocks (⟨rfl, hno⟩) (Nat.le_of_ble_eq_true rfl) (Nat.le_of_ble_eq_true rfl)
end
section
theorem land_lN {m s : Nat} (hm : m < 2 ^ 63) (hs : s ≤ 62) : lN m &&& lN (2 ^ s - 1) = lN (m % 2 ^ s) := by
  have h2 : 2 ^ s ≤ 2 ^ 62 := Nat.pow_le_pow_right (by decide) hs
  have h3 : 0 < 2 ^ s := Nat.pow_pos (by decide)
  apply Int64.toBitVec_inj.mp
  apply BitVec.eq_of_toNat_eq
  rw [Int64.toBitVec_and, BitVec.toNat_and, lN_nat (by omega), lN_nat (by omega), lN_nat (by have := Nat.mod_lt m h3; omega), Nat.and_two_pow_sub_one_eq_mod]
abbrev szA (x : Int32) : Prop := x = 4 ∨ x = 8
theorem szA_of {x : Int32} (h : szA x) : ∃ k, x = nI k ∧ (k = 4 ∨ k = 8) := by
  rcases h with rfl | rfl
  · exact ⟨4, rfl, Or.inl rfl⟩
  · exact ⟨8, rfl, Or.inr rfl⟩
theorem al_w {a k : Nat} (ha : a < 2 ^ 31) (hk : k = 4 ∨ k = 8) : (lN (2147483648 + a) &&& (nI k - 1).toInt64) = lN (a % k) := by
  have e : (nI k - 1).toInt64 = lN (k - 1) := by rcases hk with rfl | rfl <;> rfl
  rw [e]
  rcases hk with rfl | rfl
  · rw [show lN (4 - 1) = lN (2 ^ 2 - 1) from rfl, land_lN (by omega) (by omega)]
    congr 1
    omega
  · rw [show lN (8 - 1) = lN (2 ^ 3 - 1) from rfl, land_lN (by omega) (by omega)]
    congr 1
    omega
abbrev S3 : Type := (Nat → Option va_E) × (Nat → Int64) × (Nat → Option Nat)
/-- why atomic throws -/
abbrev whyA (x y : Int32) (z : Int64) (sz : Int32) (n : Nat) (E : String) : Prop := (E = eIA ∧ ¬ (szA sz ∧ isKd y)) ∨ (E = eIO ∧ isKd y ∧ ∃ k, sz = nI k ∧ (k = 4 ∨ k = 8) ∧ ¬ ((0 ≤ x ∧ x < 4) ∧ ∃ a, inM z n k a)) ∨ (E = eIS ∧ isKd y ∧ ∃ k a, sz = nI k ∧ (k = 4 ∨ k = 8) ∧ (0 ≤ x ∧ x < 4) ∧ inM z n k a ∧ ¬ a % k = 0)
/-- what atomic does: the processor j, the size k, the place a -/
abbrev doA (cJ cI cP : ClassId) (w : Nat → Option va_E) (h n : Nat) (M T : Nat → Int64) (ra : Nat → Int64) (rs : Nat → Int32) (aT aA aS : Nat) (pt : Nat → Option Nat) (y : Int32) (v : Int64) (j k a : Nat) (r : Int64) (u : S3) : Prop :=
  kp w u.1 (sfp w h) (sfp u.1 h) ∧ ((y = 2 ∧ sm cJ cI cP u.1 h n M T (vp_updL ra j (lN (2147483648 + a))) (upd rs j (nI k)) aT aA aS u.2.2 ∧ u.2.1 = M ∧ ∃ num, r = wsg num k ∧ ∀ i, i < 64 → bi num i = rdN (mb M) a k i) ∨
  (y = 3 ∧ ((ra j = lN (2147483648 + a) ∧ rs j = nI k ∧ r = 0 ∧ sm cJ cI cP u.1 h n u.2.1 (tinc T (a / 4096) ((a + k - 1) / 4096 + 1)) (lost (vp_updL ra j 0) (a / 8) ((a + k - 1) / 8)) rs aT aA aS u.2.2 ∧ mb u.2.1 = wrN (mb M) a k v) ∨ (¬ (ra j = lN (2147483648 + a) ∧ rs j = nI k) ∧ r = 1 ∧ u.2.1 = M ∧ sm cJ cI cP u.1 h n M T (vp_updL ra j 0) rs aT aA aS u.2.2))) ∨
  (¬ y = 2 ∧ ¬ y = 3 ∧ sm cJ cI cP u.1 h n u.2.1 (tinc T (a / 4096) ((a + k - 1) / 4096 + 1)) (lost ra (a / 8) ((a + k - 1) / 8)) rs aT aA aS u.2.2 ∧ mb u.2.1 = wrN (mb M) a k (chg y r (wsg v k)) ∧ ∃ num, r = wsg num k ∧ ∀ i, i < 64 → bi num i = rdN (mb M) a k i))
set_option maxHeartbeats 4000000 in
set_option maxRecDepth 100000 in
/-- atomic -/
theorem t_S_atomic (l : Launch) (hl0 : l.stackTraces = false) (D : va_G) (cJ cI cP : ClassId) (bs : Nat) (w : Nat → Option va_E) (h n : Nat) (M T : Nat → Int64) (ra : Nat → Int64) (rs : Nat → Int32) (aT aA aS : Nat) (pt : Nat → Option Nat) (hs : sm cJ cI cP w h n M T ra rs aT aA aS pt) (hro : rok ra n) (x y : Int32) (z : Int64) (sz : Int32) (v : Int64) : vx_Met l y_S_atomic ws_S_atomic ({ frames := 6, cells := 4, slots := 1034, locals := 153 }) (mPx D vwCl (mT cJ cI cP) bs w [.ref h, .int x, .int y, .long z, .int sz, .long v]) (va_Ql (S := S3) (fun r u => isKd y ∧ ∃ j k a, j < 4 ∧ x = nI j ∧ sz = nI k ∧ (k = 4 ∨ k = 8) ∧ inM z n k a ∧ a % k = 0 ∧ doA cJ cI cP w h n M T ra rs aT aA aS pt y v j k a r u) (mB D vwCl bs (fun u => u.1)) (mA bs)) (xX D vwCl bs w (whyA x y z sz n)) 4 1034 (mA bs) := by
  refine vx_ofW (cc := c_S_atomic) (maxL := 8) (ret := (some .long)) (by decide) rfl ?_
  intro p e s m args below meth c s₁ B hml hex hv
  obtain ⟨rfl, hbs, hP, hK, hE⟩ := hv
  have hx := B.exec
  have hb := B.bytes
  have hr := B.returns
  have htg : ∀ w ∈ gt, w.before _ s = true := fun w h => atoms_spec (ws := ws_S_atomic) B.pre w (List.mem_cons_of_mem _ h)
  have hown : s.vm.findClass R_S = some m.cls := findClass_of_methodNamed B.named
  have hlocks := B.notSynchronized
  have hS : va_S (mA bs) s.heap s.heap [] := va_S.rf
  have hl := lv_entry ([.ref h, .int x, .int y, .long z, .int sz, .long v]) (n := 8) (Nat.le_of_ble_eq_true rfl)
  rw [lg_entry_eq]
  generalize (lg_sl ([.ref h, .int x, .int y, .long z, .int sz, .long v]) ++ List.replicate (8 - (lg_sl ([.ref h, .int x, .int y, .long z, .int sz, .long v])).length) Slot.unset).toArray = ls at hl ⊢
  have hl : lv_has ls 8 [(0, .ref h), (1, .int x), (2, .int y), (3, .long z), (5, .int sz), (6, .long v)] := hl
  obtain ⟨hn, s1, s2, s3, s4, s5, s6, s7⟩ := id hs
  have f1 : w h = some (.inr (ciS, [.int (nI n), .ref aT, .ref aA, .ref aS])) := s1
  refine lv_iload hx hb d_S_atomic_0 (lv_at hl 4 rfl) ?_
  refine mc_i (va_runS (As := [.int sz]) (rest := []) ⟨hx, hb, hml, hown, htg⟩ (t_S_isAtomicSize l D cJ cI cP bs w sz) (cwS (own := R_S) 1 htg (ginS k_306 k_307 k_25 k_308) rfl rfl rfl (by decide +kernel) ⟨Nat.le_of_ble_eq_true rfl, Nat.le_of_ble_eq_true rfl⟩) (mPc.preS hbs hS hP hK) rfl rfl hl.1 rfl (lv_room (Nat.le_of_ble_eq_true rfl)) d_S_atomic_2 ⟨Nat.le_of_ble_eq_true rfl, Nat.le_of_ble_eq_true rfl⟩) hS (fun r2 u2 H locs hw hP hz2 hS => ?_)
  have hsz := hw
  refine lv_if_eq (tgt := 15) hx hb d_S_atomic_5 (by decide) (fun c5 => ?_) (fun c5 => ?_)
  · exact mw_throw (E := eIA) hx hb hl0 hown htg hE (by decide +kernel) k_88 k_30 hE.2.2.2.2.2.2.2.2.1 g_IA ng_IA hE.2.2.1.1 ot_IA hP hS (hl.1.trans hml.symm) d_S_atomic_15 d_S_atomic_18 d_S_atomic_19 d_S_atomic_21 d_S_atomic_24 hex (Nat.le_of_ble_eq_true rfl) (Nat.le_of_ble_eq_true rfl) (Nat.le_of_ble_eq_true rfl) (Nat.le_of_ble_eq_true rfl) hlocks (Or.inl ⟨rfl, fun q => by first | (rw [if_pos q.2] at hkd; rw [hkd] at c12; exact absurd c12 (by decide)) | (rw [if_pos q.1] at hsz; rw [hsz] at c5; exact absurd c5 (by decide))⟩) (Nat.le_of_ble_eq_true rfl) (Nat.le_of_ble_eq_true rfl)
  · refine lv_iload_n hx hb d_S_atomic_8 rfl (lv_at hl 2 rfl) ?_
    refine mc_i (va_runS (As := [.int y]) (rest := []) ⟨hx, hb, hml, hown, htg⟩ (t_S_isKind l D cJ cI cP bs w y) (cwS (own := R_S) 1 htg (ginS k_309 k_310 k_25 k_311) rfl rfl rfl (by decide +kernel) ⟨Nat.le_of_ble_eq_true rfl, Nat.le_of_ble_eq_true rfl⟩) (mPc.preS hbs hS hP hK) rfl rfl hl.1 rfl (lv_room (Nat.le_of_ble_eq_true rfl)) d_S_atomic_9 ⟨Nat.le_of_ble_eq_true rfl, Nat.le_of_ble_eq_true rfl⟩) hS (fun r9 u9 H locs hw hP hz9 hS => ?_)
    have hkd := hw
    refine lv_if_ne (tgt := 25) hx hb d_S_atomic_12 (by decide) (fun c12 => ?_) (fun c12 => ?_)
    · have hk1 : isKd y := Classical.byContradiction (fun q => by rw [if_neg q] at hkd; exact c12 hkd)
      have hs1 : szA sz := Classical.byContradiction (fun q => by rw [if_neg q] at hsz; exact c5 hsz)
      obtain ⟨k, rfl, hk48⟩ := szA_of hs1
      have h1k : 1 ≤ k := by rcases hk48 with e | e <;> rw [e] <;> decide
      have h8k : k ≤ 8 := by rcases hk48 with e | e <;> rw [e] <;> decide
      have hl : lv_has ls 8 [(0, .ref h), (1, .int x), (2, .int y), (3, .long z), (5, .int (nI k)), (6, .long v)] := hl
      refine lv_iload_n hx hb d_S_atomic_25 rfl (lv_at hl 1 rfl) ?_
      refine mc_i (va_runS (As := [.int x]) (rest := []) ⟨hx, hb, hml, hown, htg⟩ (t_S_isProcessor l D cJ cI cP bs w x) (cwS (own := R_S) 1 htg (ginS k_313 k_314 k_25 k_315) rfl rfl rfl (by decide +kernel) ⟨Nat.le_of_ble_eq_true rfl, Nat.le_of_ble_eq_true rfl⟩) (mPc.preS hbs hS hP hK) rfl rfl hl.1 rfl (lv_room (Nat.le_of_ble_eq_true rfl)) d_S_atomic_26 ⟨Nat.le_of_ble_eq_true rfl, Nat.le_of_ble_eq_true rfl⟩) hS (fun r26 u26 H locs hw hP hz26 hS => ?_)
      have hpr := hw
      refine lv_if_eq (tgt := 42) hx hb d_S_atomic_29 (by decide) (fun c29 => ?_) (fun c29 => ?_)
      · exact mw_throw (E := eIO) hx hb hl0 hown htg hE (by decide +kernel) k_166 k_31 hE.2.2.2.2.2.2.2.2.2.1 g_IO ng_IO hE.2.2.1.2.1 ot_IO hP hS (hl.1.trans hml.symm) d_S_atomic_42 d_S_atomic_45 d_S_atomic_46 d_S_atomic_48 d_S_atomic_51 hex (Nat.le_of_ble_eq_true rfl) (Nat.le_of_ble_eq_true rfl) (Nat.le_of_ble_eq_true rfl) (Nat.le_of_ble_eq_true rfl) hlocks (Or.inr (Or.inl ⟨rfl, hk1, k, rfl, hk48, fun q => by first | (rcases hin with i1 | i1; exact absurd (i1.1.symm.trans c39) (by decide); exact i1.2 q.2) | (rw [if_pos q.1] at hpr; rw [hpr] at c29; exact absurd c29 (by decide))⟩)) (Nat.le_of_ble_eq_true rfl) (Nat.le_of_ble_eq_true rfl)
      · refine lv_aload_n hx hb d_S_atomic_32 rfl (lv_at hl 0 rfl) ?_
        refine lv_lload_n hx hb d_S_atomic_33 rfl (lv_at hl 3 rfl) ?_
        refine lv_iload hx hb d_S_atomic_34 (lv_at hl 4 rfl) ?_
        refine mc_i (va_runV (As := [.long z, .int (nI k)]) (rest := []) ⟨hx, hb, hml, hown, htg⟩ (t_S_isInMemory l D cJ cI cP bs w h n M T ra rs aT aA aS pt hs z k h8k) (cwV (own := R_S) (C := R_S) 2 htg (ginV k_156 k_158 k_1 k_25 k_159) rfl rfl rfl (by decide +kernel) ⟨Nat.le_of_ble_eq_true rfl, Nat.le_of_ble_eq_true rfl⟩) (mPc.preV (ci := ciS) (q := (R_S, T_S, 4)) hbs hS hP hK rfl f1) rfl rfl hl.1 rfl (lv_room (Nat.le_of_ble_eq_true rfl)) d_S_atomic_36 ⟨Nat.le_of_ble_eq_true rfl, Nat.le_of_ble_eq_true rfl⟩) hS (fun r36 u36 H locs hw hP hz36 hS => ?_)
        have hin := hw
        refine lv_if_ne (tgt := 52) hx hb d_S_atomic_39 (by decide) (fun c39 => ?_) (fun c39 => ?_)
        · have hp1 : 0 ≤ x ∧ x < 4 := Classical.byContradiction (fun q => by rw [if_neg q] at hpr; exact c29 hpr)
          obtain ⟨a, ha⟩ : ∃ a, inM z n k a := by
            rcases hin with i1 | i1
            · exact i1.2
            · exact absurd i1.1 c39
          obtain ⟨rfl, hak⟩ := id ha
          have hl : lv_has ls 8 [(0, .ref h), (1, .int x), (2, .int y), (3, .long (lN (2147483648 + a))), (5, .int (nI k)), (6, .long v)] := hl
          refine lv_lload_n hx hb d_S_atomic_52 rfl (lv_at hl 3 rfl) ?_
          refine lv_iload hx hb d_S_atomic_53 (lv_at hl 4 rfl) ?_
          refine lv_iconst (v := 1) hx hb d_S_atomic_55 (by decide) ?_
          refine lv_isub hx hb d_S_atomic_56 ?_
          refine lv_i2l hx hb d_S_atomic_57 rfl ?_
          refine lv_land hx hb d_S_atomic_58 ?_
          rw [show (lN (2147483648 + a)) &&& (((nI k) - 1).toInt64) = lN (a % k) from al_w (by omega) hk48]
          refine lv_lconst (v := 0) hx hb d_S_atomic_59 rfl ?_
          refine lc_eq (tgt := 74) hx hb d_S_atomic_60 d_S_atomic_61 (by decide) (fun c60 => ?_) (fun c60 => ?_)
          · have hal : a % k = 0 := by
              have := (pk_lEQ (a := a % k) (b := 0) (by rcases hk48 with e | e <;> rw [e] <;> omega) (by omega)).mp c60
              exact this
            obtain ⟨j, hj, rfl⟩ := prc_of hp1
            have hl : lv_has ls 8 [(0, .ref h), (1, .int (nI j)), (2, .int y), (3, .long (lN (2147483648 + a))), (5, .int (nI k)), (6, .long v)] := hl
            refine lv_iload_n hx hb d_S_atomic_74 rfl (lv_at hl 2 rfl) ?_
            refine lv_iconst (v := 2) hx hb d_S_atomic_75 (by decide) ?_
            refine lv_icmp_ne (tgt := 88) hx hb d_S_atomic_76 (by decide) (fun c76 => ?_) (fun c76 => ?_)
            · refine lv_iload_n hx hb d_S_atomic_88 rfl (lv_at hl 2 rfl) ?_
              refine lv_iconst (v := 3) hx hb d_S_atomic_89 (by decide) ?_
              refine lv_icmp_ne (tgt := 104) hx hb d_S_atomic_90 (by decide) (fun c90 => ?_) (fun c90 => ?_)
              · refine lv_aload_n hx hb d_S_atomic_104 rfl (lv_at hl 0 rfl) ?_
                refine lv_iload_n hx hb d_S_atomic_105 rfl (lv_at hl 2 rfl) ?_
                refine lv_lload_n hx hb d_S_atomic_106 rfl (lv_at hl 3 rfl) ?_
                refine mc_i (va_runS (As := [.long (lN (2147483648 + a))]) (rest := [.int y, .ref h]) ⟨hx, hb, hml, hown, htg⟩ (t_S_placeOf l D cJ cI cP bs w a) (cwS (own := R_S) 1 htg (ginS k_182 k_183 k_25 k_184) rfl rfl rfl (by decide +kernel) ⟨Nat.le_of_ble_eq_true rfl, Nat.le_of_ble_eq_true rfl⟩) (mPc.preS hbs hS hP hK) rfl rfl hl.1 rfl (lv_room (Nat.le_of_ble_eq_true rfl)) d_S_atomic_107 ⟨Nat.le_of_ble_eq_true rfl, Nat.le_of_ble_eq_true rfl⟩) hS (fun r107 u107 H locs hw hP hz107 hS => ?_)
                subst hw
                refine lv_iload hx hb d_S_atomic_110 (lv_at hl 4 rfl) ?_
                refine lv_lload hx hb d_S_atomic_112 (lv_at hl 5 rfl) ?_
                refine mc_l (va_runV (As := [.int y, .int (nI a), .int (nI k), .long v]) (rest := []) ⟨hx, hb, hml, hown, htg⟩ (t_S_change l D cJ cI cP bs w h n M T ra rs aT aA aS pt hs y a k h1k h8k ha.2 hro v) (cwV (own := R_S) (C := R_S) 4 htg (ginV k_344 k_346 k_15 k_25 k_347) rfl rfl rfl (by decide +kernel) ⟨Nat.le_of_ble_eq_true rfl, Nat.le_of_ble_eq_true rfl⟩) (mPc.preV (ci := ciS) (q := (R_S, T_S, 4)) hbs hS hP hK rfl f1) rfl rfl hl.1 rfl (lv_room (Nat.le_of_ble_eq_true rfl)) d_S_atomic_114 ⟨Nat.le_of_ble_eq_true rfl, Nat.le_of_ble_eq_true rfl⟩) hS (fun rr uu H locs hw hP hz114 hS => ?_)
                refine vx_ret ?_
                exact W.lret (v := rr) hx hb hr (fun t ht hW => ⟨⟨_, uu, rfl, ⟨hk1, j, k, a, hj, rfl, rfl, hk48, ha, hal, ⟨hw.2.2.1, Or.inr (Or.inr ⟨c76, c90, hw.1, hw.2.1, hw.2.2.2⟩)⟩⟩, hP.at ht⟩, hS.F ht⟩) hS.2.2 d_S_atomic_117
              · refine lv_aload_n hx hb d_S_atomic_93 rfl (lv_at hl 0 rfl) ?_
                refine lv_iload_n hx hb d_S_atomic_94 rfl (lv_at hl 1 rfl) ?_
                refine lv_lload_n hx hb d_S_atomic_95 rfl (lv_at hl 3 rfl) ?_
                refine lv_iload hx hb d_S_atomic_96 (lv_at hl 4 rfl) ?_
                refine lv_lload hx hb d_S_atomic_98 (lv_at hl 5 rfl) ?_
                refine mc_l (va_runV (As := [.int (nI j), .long (lN (2147483648 + a)), .int (nI k), .long v]) (rest := []) ⟨hx, hb, hml, hown, htg⟩ (t_S_sir l D cJ cI cP bs w h n M T ra rs aT aA aS pt hs j hj a k h1k h8k ha.2 hro v) (cwV (own := R_S) (C := R_S) 4 htg (ginV k_340 k_342 k_14 k_25 k_343) rfl rfl rfl (by decide +kernel) ⟨Nat.le_of_ble_eq_true rfl, Nat.le_of_ble_eq_true rfl⟩) (mPc.preV (ci := ciS) (q := (R_S, T_S, 4)) hbs hS hP hK rfl f1) rfl rfl hl.1 rfl (lv_room (Nat.le_of_ble_eq_true rfl)) d_S_atomic_100 ⟨Nat.le_of_ble_eq_true rfl, Nat.le_of_ble_eq_true rfl⟩) hS (fun rr uu H locs hw hP hz100 hS => ?_)
                obtain ⟨u2, hu2, hdo⟩ : ∃ u2 : S3, u2.1 = uu.1 ∧ doA cJ cI cP w h n M T ra rs aT aA aS pt y v j k a rr u2 := by
                  rcases hw with ⟨e1, e2, e3, e4, e5, e6⟩ | ⟨e1, e2, e3, e4⟩
                  · exact ⟨uu, rfl, e6, Or.inr (Or.inl ⟨c90, Or.inl ⟨e1, e2, e3, e4, e5⟩⟩)⟩
                  · exact ⟨(uu.1, M, pt), rfl, e4, Or.inr (Or.inl ⟨c90, Or.inr ⟨e1, e2, rfl, e3⟩⟩)⟩
                rw [← hu2] at hP
                refine vx_ret ?_
                exact W.lret (v := rr) hx hb hr (fun t ht hW => ⟨⟨_, u2, rfl, ⟨hk1, j, k, a, hj, rfl, rfl, hk48, ha, hal, hdo⟩, hP.at ht⟩, hS.F ht⟩) hS.2.2 d_S_atomic_103
            · refine lv_aload_n hx hb d_S_atomic_79 rfl (lv_at hl 0 rfl) ?_
              refine lv_iload_n hx hb d_S_atomic_80 rfl (lv_at hl 1 rfl) ?_
              refine lv_lload_n hx hb d_S_atomic_81 rfl (lv_at hl 3 rfl) ?_
              refine lv_iload hx hb d_S_atomic_82 (lv_at hl 4 rfl) ?_
              refine mc_l (va_runV (As := [.int (nI j), .long (lN (2147483648 + a)), .int (nI k)]) (rest := []) ⟨hx, hb, hml, hown, htg⟩ (t_S_reserve l D cJ cI cP bs w h n M T ra rs aT aA aS pt hs j hj a k h1k h8k ha.2) (cwV (own := R_S) (C := R_S) 3 htg (ginV k_333 k_335 k_13 k_25 k_336) rfl rfl rfl (by decide +kernel) ⟨Nat.le_of_ble_eq_true rfl, Nat.le_of_ble_eq_true rfl⟩) (mPc.preV (ci := ciS) (q := (R_S, T_S, 4)) hbs hS hP hK rfl f1) rfl rfl hl.1 rfl (lv_room (Nat.le_of_ble_eq_true rfl)) d_S_atomic_84 ⟨Nat.le_of_ble_eq_true rfl, Nat.le_of_ble_eq_true rfl⟩) hS (fun rr uu H locs hw hP hz84 hS => ?_)
              obtain ⟨z1, z2, z3⟩ := hw
              refine W.widen (k := 4) (n := 1034) (Nat.zero_le _) (Nat.zero_le _) ?_
              refine vx_ret ?_
              exact W.lret (v := rr) hx hb hr (fun t ht hW => ⟨⟨_, (uu, M, pt), rfl, ⟨hk1, j, k, a, hj, rfl, rfl, hk48, ha, hal, ⟨z2, Or.inl ⟨c76, z1, rfl, z3⟩⟩⟩, hP.at ht⟩, hS.F ht⟩) hS.2.2 d_S_atomic_87
          · exact mw_throw (E := eIS) hx hb hl0 hown htg hE (by decide +kernel) k_317 k_35 hE.2.2.2.2.2.2.2.2.2.2.1 g_IS ng_IS hE.2.2.1.2.2 ot_IS hP hS (hl.1.trans hml.symm) d_S_atomic_64 d_S_atomic_67 d_S_atomic_68 d_S_atomic_70 d_S_atomic_73 hex (Nat.le_of_ble_eq_true rfl) (Nat.le_of_ble_eq_true rfl) (Nat.le_of_ble_eq_true rfl) (Nat.le_of_ble_eq_true rfl) hlocks (Or.inr (Or.inr ⟨rfl, hk1, k, a, rfl, hk48, hp1, ha, fun q => c60 (by rw [q]; rfl)⟩)) (Nat.le_of_ble_eq_true rfl) (Nat.le_of_ble_eq_true rfl)
        · exact mw_throw (E := eIO) hx hb hl0 hown htg hE (by decide +kernel) k_166 k_31 hE.2.2.2.2.2.2.2.2.2.1 g_IO ng_IO hE.2.2.1.2.1 ot_IO hP hS (hl.1.trans hml.symm) d_S_atomic_42 d_S_atomic_45 d_S_atomic_46 d_S_atomic_48 d_S_atomic_51 hex (Nat.le_of_ble_eq_true rfl) (Nat.le_of_ble_eq_true rfl) (Nat.le_of_ble_eq_true rfl) (Nat.le_of_ble_eq_true rfl) hlocks (Or.inr (Or.inl ⟨rfl, hk1, k, rfl, hk48, fun q => by first | (rcases hin with i1 | i1; exact absurd (i1.1.symm.trans c39) (by decide); exact i1.2 q.2) | (rw [if_pos q.1] at hpr; rw [hpr] at c29; exact absurd c29 (by decide))⟩)) (Nat.le_of_ble_eq_true rfl) (Nat.le_of_ble_eq_true rfl)
    · exact mw_throw (E := eIA) hx hb hl0 hown htg hE (by decide +kernel) k_88 k_30 hE.2.2.2.2.2.2.2.2.1 g_IA ng_IA hE.2.2.1.1 ot_IA hP hS (hl.1.trans hml.symm) d_S_atomic_15 d_S_atomic_18 d_S_atomic_19 d_S_atomic_21 d_S_atomic_24 hex (Nat.le_of_ble_eq_true rfl) (Nat.le_of_ble_eq_true rfl) (Nat.le_of_ble_eq_true rfl) (Nat.le_of_ble_eq_true rfl) hlocks (Or.inl ⟨rfl, fun q => by first | (rw [if_pos q.2] at hkd; rw [hkd] at c12; exact absurd c12 (by decide)) | (rw [if_pos q.1] at hsz; rw [hsz] at c5; exact absurd c5 (by decide))⟩) (Nat.le_of_ble_eq_true rfl) (Nat.le_of_ble_eq_true rfl)
end
section
theorem bi_m1' (i : Nat) : bi (-1) i = decide (i < 64) := by
  rcases Nat.lt_or_ge i 64 with h | h
  · rw [bi_m1 i h, decide_eq_true h]
  · rw [bi_big h, decide_eq_false (Nat.not_lt.mpr h)]
def need (w : Nat → Option va_E) (p : Nat) : Nat := if pgw w p = none then 1 else 0
theorem need_0 {w : Nat → Option va_E} {p : Nat} (h : ¬ pgw w p = none) : need w p = 0 := by simp [need, h]
theorem need_1 {w : Nat → Option va_E} {p : Nat} (h : pgw w p = none) : need w p = 1 := by simp [need, h]
/-- a page's bits behind spread -/
def spB (Wd : Nat → Int64) (f g : Nat) (x : Int64) (j b : Nat) : Bool := if 8 * f ≤ 64 * j + b ∧ 64 * j + b < 8 * (g + 1) then bi x b else bi (Wd j) b
theorem bud {w1 : Nat → Option va_E} {pa ce sl : Nat} {A B : Int64} (h1 : ce + need w1 pa ≤ 1) (h2 : sl + 512 * need w1 pa ≤ 512) : ∃ mq sq, (pgw w1 pa = none → ¬ A = B → 1 ≤ mq ∧ 512 ≤ sq) ∧ ce + mq ≤ 1 ∧ sl + sq ≤ 512 ∧ ∀ u : Nat → Option va_E, (A = B → u = w1) → (¬ A = B → ¬ pgw u pa = none) → ce + mq + need u pa ≤ 1 ∧ sl + sq + 512 * need u pa ≤ 512 := by
  by_cases q1 : A = B
  · exact ⟨0, 0, fun _ z => absurd q1 z, by omega, by omega, fun u e1 _ => by rw [e1 q1]; omega⟩
  · by_cases q2 : pgw w1 pa = none
    · have e0 := need_1 q2
      exact ⟨1, 512, fun _ _ => ⟨Nat.le_refl _, Nat.le_refl _⟩, by omega, by omega, fun u _ e2 => by have e3 := need_0 (e2 q1); omega⟩
    · exact ⟨0, 0, fun z => absurd z q2, by omega, by omega, fun u _ e2 => by have e3 := need_0 (e2 q1); omega⟩
set_option maxHeartbeats 4000000 in
set_option maxRecDepth 100000 in
/-- spread: its loop -/
theorem lp_P_spread {p : Program} {l : Launch} {e : Env} {s : State} {m : MethodId} {args : Array Value} {below : List Frame} {meth : Method} {c : Code} {Q : State → Prop} {D : va_G} {cJ cI cP : ClassId} {bs : Nat} (hx : p.tables.exec = Jvm.exec) (hb : c.code = c_P_spread) (hml : c.maxLocals = 10) (hown : s.vm.findClass R_P = some m.cls) (htg : ∀ w ∈ gt, w.before args s = true) (hK : va_K D vwCl (mT cJ cI cP) s) (hbs : bs ≤ s.heap.size) (hE : evX bs s) (w : Nat → Option va_E) (pa : Nat) (Wd : Nat → Int64) (tw : Int64) (x : Int64) (f g : Nat) (hfg : f ≤ g) (hg : g < 4096) (mc ms : Nat) (hmc : 1 ≤ mc) (hms : 512 ≤ ms) (kx : ∀ (w1 : Nat → Option va_E) (Wc : Nat → Int64) (ls : Array Slot) (H : Heap) (locs : List Loc), pg cJ w1 pa Wc tw → kp w w1 (pfp w pa) (pfp w1 pa) → (∀ j, j < 512 → ∀ b, b < 64 → bi (Wc j) b = spB Wd f g x j b) → mw D vwCl bs w1 H → va_S (mA bs) s.heap H locs → W p l e ({ frames := 3, cells := mc, slots := ms, locals := 73 } : Room) s m args below meth c H locs 1 512 Q (F0 m 97 ls [])) :
    ∀ (k : Nat) (i : Nat) (w1 : Nat → Option va_E) (Wc : Nat → Int64) (ce sl : Nat) (ls : Array Slot) (H : Heap) (locs : List Loc), g / 8 + 1 - i < k → f / 8 ≤ i → i ≤ g / 8 + 1 → (∀ j, f / 8 ≤ j → j < i → ∀ b, b < 64 → bi (Wc j) b = spB Wd f g x j b) → (∀ j, ¬ (f / 8 ≤ j ∧ j < i) → Wc j = Wd j) → pg cJ w1 pa Wc tw → kp w w1 (pfp w pa) (pfp w1 pa) → ce + need w1 pa ≤ 1 → sl + 512 * need w1 pa ≤ 512 → mw D vwCl bs w1 H → va_S (mA bs) s.heap H locs → lv_has ls 10 [(7, .int (nI i)), (6, .int (nI (g / 8))), (5, .int (nI (f / 8))), (0, .ref pa), (1, .int (nI f)), (2, .int (nI g)), (3, .long x)] → W p l e ({ frames := 3, cells := mc, slots := ms, locals := 73 } : Room) s m args below meth c H locs ce sl Q (F0 m 31 ls []) := by
  intro k
  induction k with
  | zero => intro i w1 Wc ce sl ls H locs hk0; exact absurd hk0 (by omega)
  | succ k ih =>
    intro i w1 Wc ce sl ls H locs hk hfi hi hlo hhi hp hkp hce hsl hP hS hl
    obtain ⟨wr, ev, ew, g1, g2⟩ := id hp
    refine lv_iload hx hb d_P_spread_31 (lv_at hl 0 rfl) ?_
    refine lv_iload hx hb d_P_spread_33 (lv_at hl 1 rfl) ?_
    refine lv_icmp_gt (tgt := 97) hx hb d_P_spread_35 (by decide) (fun c35 => ?_) (fun c35 => ?_)
    · have e5 : i = g / 8 + 1 := Nat.le_antisymm hi ((nI_ltI (by omega) (by omega)).mp c35)
      subst e5
      refine W.widen (k := 1) (n := 512) (Nat.le_of_add_right_le hce) (Nat.le_of_add_right_le hsl) ?_
      refine kx w1 Wc ls H locs hp hkp (fun j hj b hb => ?_) hP hS
      by_cases hj2 : f / 8 ≤ j ∧ j < g / 8 + 1
      · exact hlo j hj2.1 hj2.2 b hb
      · rw [hhi j hj2]; unfold spB; rw [if_neg (by omega)]
    · have hle : i ≤ g / 8 := Nat.le_of_not_lt (fun z => c35 (nI_lt z (by omega)))
      refine lv_ldc2 (own := R_P) (v := (-1)) hx hb hown (htg _ k_249) d_P_spread_38 ?_
      refine lv_lstore (lv' := [(8, .long (-1)), (7, .int (nI i)), (6, .int (nI (g / 8))), (5, .int (nI (f / 8))), (0, .ref pa), (1, .int (nI f)), (2, .int (nI g)), (3, .long x)]) hx hb d_P_spread_41 hl (by decide) rfl (fun ls hl => ?_)
      refine lv_iload hx hb d_P_spread_43 (lv_at hl 1 rfl) ?_
      refine lv_iload hx hb d_P_spread_45 (lv_at hl 3 rfl) ?_
      refine lv_icmp_ne (tgt := 59) hx hb d_P_spread_47 (by decide) (fun c47 => ?_) (fun c47 => ?_)
      · have hif : ¬ i = f / 8 := fun z => c47 (by rw [z])
        refine lv_iload hx hb d_P_spread_59 (lv_at hl 1 rfl) ?_
        refine lv_iload hx hb d_P_spread_61 (lv_at hl 2 rfl) ?_
        refine lv_icmp_ne (tgt := 82) hx hb d_P_spread_63 (by decide) (fun c63 => ?_) (fun c63 => ?_)
        · have hil : ¬ i = g / 8 := fun z => c63 (by rw [z])
          have hmask : ∀ b, b < 64 → bi (-1) b = decide (8 * f ≤ 64 * i + b ∧ 64 * i + b < 8 * (g + 1)) := by
            intro b hb
            rw [bi_m1', Bool.eq_iff_iff]
            simp only [Bool.and_eq_true, decide_eq_true_iff]
            constructor <;> (intro hq; omega)
          obtain ⟨mq, sq, hq1, hq2, hq3, hq4⟩ := bud (A := mrg (Wc i) (-1) x) (B := Wc i) hce hsl
          refine lv_aload_n hx hb d_P_spread_82 rfl (lv_at hl 4 rfl) ?_
          refine lv_iload hx hb d_P_spread_83 (lv_at hl 1 rfl) ?_
          refine lv_lload hx hb d_P_spread_85 (lv_at hl 0 rfl) ?_
          refine lv_lload_n hx hb d_P_spread_87 rfl (lv_at hl 7 rfl) ?_
          refine mc_v (va_runV (As := [.int (nI i), .long (-1), .long x]) (rest := []) ⟨hx, hb, hml, hown, htg⟩ (t_P_merge l D cJ cI cP bs w1 pa Wc tw hp i (by omega) (-1) x mq sq hq1) (cwV (own := R_P) (C := R_P) 3 htg (ginV k_297 k_245 k_246 k_32 k_247) rfl rfl rfl (by decide +kernel) ⟨Nat.le_of_ble_eq_true rfl, Nat.le_of_ble_eq_true rfl⟩) (mPc.preV (ci := ciP) (q := (R_P, T_P, 5)) hbs hS hP hK rfl g1) rfl rfl hl.1 rfl (lv_room (Nat.le_of_ble_eq_true rfl)) d_P_spread_88 ⟨Nat.le_trans hq2 hmc, Nat.le_trans hq3 hms⟩) hS (fun w3 H locs hw hP hz88 hS => ?_)
          obtain ⟨v1, v2, v3, v4⟩ := hw
          have v5 := hq4 w3 v3 v4
          obtain ⟨i_1, ei_1⟩ : ∃ y : Int32, y = (nI i) + 1 := ⟨_, rfl⟩
          refine lv_iinc (v := i_1) (lv' := [(7, .int i_1), (8, .long (-1)), (6, .int (nI (g / 8))), (5, .int (nI (f / 8))), (0, .ref pa), (1, .int (nI f)), (2, .int (nI g)), (3, .long x)]) hx hb d_P_spread_91 hl (k := 1) rfl (by rw [ei_1]; rfl) (by decide) rfl (fun ls hl => ?_)
          refine lv_goto (tgt := 31) hx hb d_P_spread_94 (by decide) ?_
          refine ih (i + 1) w3 (va_up Wc i (mrg (Wc i) (-1) x)) (ce + mq) (sl + sq) ls H locs (by omega) (by omega) (by omega) (fun j h1 h2 b hb => ?_) (fun j hj => ?_) v1 (hkp.trans v2) v5.1 v5.2 hP hS (by rw [← nI_1 i, ← ei_1]; exact lv_sub hl [0, 2, 3, 4, 5, 6, 7] rfl)
          · by_cases hji : j = i
            · subst hji
              rw [va_up_self, bi_mrg _ _ _ hb, hmask b hb, hhi j (by omega)]
              unfold spB
              by_cases hc : 8 * f ≤ 64 * j + b ∧ 64 * j + b < 8 * (g + 1)
              · rw [if_pos hc, if_pos (decide_eq_true hc)]
              · rw [if_neg hc, if_neg (by simp [hc])]
            · rw [va_up_ne _ _ hji]; exact hlo j h1 (by omega) b hb
          · rw [va_up_ne _ _ (by omega)]; exact hhi j (by omega)
        · have hil : i = g / 8 := nI_inj (by omega) (by omega) c63
          refine lv_lload hx hb d_P_spread_66 (lv_at hl 0 rfl) ?_
          refine lv_ldc2 (own := R_P) (v := (-1)) hx hb hown (htg _ k_249) d_P_spread_68 ?_
          refine lv_bipush (v := 56) hx hb d_P_spread_71 (by decide) ?_
          refine lv_iload_n hx hb d_P_spread_73 rfl (lv_at hl 6 rfl) ?_
          refine mc_i (va_runSN (host := R_S) (own := R_P) (As := [.int (nI g)]) (rest := [.int 56, .long (-1), .long (-1)]) ⟨hx, hb, hml, hown, htg⟩ (t_S_shiftInWord l D cJ cI cP bs w1 g (by omega)) ⟨va_cnB 1 htg (gin0 k_191) rfl rfl rfl hE.1.1 (htg _ k_25) (by decide +kernel) ⟨Nat.le_of_ble_eq_true rfl, Nat.le_of_ble_eq_true rfl⟩, htg _ k_190, trivial⟩ (mPc.preS hbs hS hP hK) rfl rfl hl.1 rfl (lv_room (Nat.le_of_ble_eq_true rfl)) d_P_spread_74 ⟨Nat.le_trans (Nat.le_of_add_right_le hce) hmc, Nat.le_trans (Nat.le_of_add_right_le hsl) hms⟩) hS (fun r74 u74 H locs hw hP hz74 hS => ?_)
          subst hw
          refine lv_isub hx hb d_P_spread_77 ?_
          rw [show 56 - (nI (8 * (g % 8))) = nI (56 - 8 * (g % 8)) from (by show nI 56 - nI _ = _; exact pk_sub (by omega))]
          refine lv_lushr hx hb d_P_spread_78 rfl ?_
          refine lv_land hx hb d_P_spread_79 ?_
          refine lv_topl (fun x_2 ex_2 => ?_)
          refine lv_lstore (lv' := [(8, .long x_2), (7, .int (nI i)), (6, .int (nI (g / 8))), (5, .int (nI (f / 8))), (0, .ref pa), (1, .int (nI f)), (2, .int (nI g)), (3, .long x)]) hx hb d_P_spread_80 hl (by decide) rfl (fun ls hl => ?_)
          have hmask : ∀ b, b < 64 → bi x_2 b = decide (8 * f ≤ 64 * i + b ∧ 64 * i + b < 8 * (g + 1)) := by
            intro b hb
            rw [ex_2, bi_and, bi_m1', bi_ushr _ (by omega), bi_m1', Bool.eq_iff_iff]
            simp only [Bool.and_eq_true, decide_eq_true_iff]
            constructor <;> (intro hq; omega)
          obtain ⟨mq, sq, hq1, hq2, hq3, hq4⟩ := bud (A := mrg (Wc i) x_2 x) (B := Wc i) hce hsl
          refine lv_aload_n hx hb d_P_spread_82 rfl (lv_at hl 4 rfl) ?_
          refine lv_iload hx hb d_P_spread_83 (lv_at hl 1 rfl) ?_
          refine lv_lload hx hb d_P_spread_85 (lv_at hl 0 rfl) ?_
          refine lv_lload_n hx hb d_P_spread_87 rfl (lv_at hl 7 rfl) ?_
          refine mc_v (va_runV (As := [.int (nI i), .long x_2, .long x]) (rest := []) ⟨hx, hb, hml, hown, htg⟩ (t_P_merge l D cJ cI cP bs w1 pa Wc tw hp i (by omega) x_2 x mq sq hq1) (cwV (own := R_P) (C := R_P) 3 htg (ginV k_297 k_245 k_246 k_32 k_247) rfl rfl rfl (by decide +kernel) ⟨Nat.le_of_ble_eq_true rfl, Nat.le_of_ble_eq_true rfl⟩) (mPc.preV (ci := ciP) (q := (R_P, T_P, 5)) hbs hS hP hK rfl g1) rfl rfl hl.1 rfl (lv_room (Nat.le_of_ble_eq_true rfl)) d_P_spread_88 ⟨Nat.le_trans hq2 hmc, Nat.le_trans hq3 hms⟩) hS (fun w3 H locs hw hP hz88 hS => ?_)
          obtain ⟨v1, v2, v3, v4⟩ := hw
          have v5 := hq4 w3 v3 v4
          obtain ⟨i_3, ei_3⟩ : ∃ y : Int32, y = (nI i) + 1 := ⟨_, rfl⟩
          refine lv_iinc (v := i_3) (lv' := [(7, .int i_3), (8, .long x_2), (6, .int (nI (g / 8))), (5, .int (nI (f / 8))), (0, .ref pa), (1, .int (nI f)), (2, .int (nI g)), (3, .long x)]) hx hb d_P_spread_91 hl (k := 1) rfl (by rw [ei_3]; rfl) (by decide) rfl (fun ls hl => ?_)
          refine lv_goto (tgt := 31) hx hb d_P_spread_94 (by decide) ?_
          refine ih (i + 1) w3 (va_up Wc i (mrg (Wc i) x_2 x)) (ce + mq) (sl + sq) ls H locs (by omega) (by omega) (by omega) (fun j h1 h2 b hb => ?_) (fun j hj => ?_) v1 (hkp.trans v2) v5.1 v5.2 hP hS (by rw [← nI_1 i, ← ei_3]; exact lv_sub hl [0, 2, 3, 4, 5, 6, 7] rfl)
          · by_cases hji : j = i
            · subst hji
              rw [va_up_self, bi_mrg _ _ _ hb, hmask b hb, hhi j (by omega)]
              unfold spB
              by_cases hc : 8 * f ≤ 64 * j + b ∧ 64 * j + b < 8 * (g + 1)
              · rw [if_pos hc, if_pos (decide_eq_true hc)]
              · rw [if_neg hc, if_neg (by simp [hc])]
            · rw [va_up_ne _ _ hji]; exact hlo j h1 (by omega) b hb
          · rw [va_up_ne _ _ (by omega)]; exact hhi j (by omega)
      · have hif : i = f / 8 := nI_inj (by omega) (by omega) c47
        refine lv_lload hx hb d_P_spread_50 (lv_at hl 0 rfl) ?_
        refine lv_iload_n hx hb d_P_spread_52 rfl (lv_at hl 5 rfl) ?_
        refine mc_i (va_runSN (host := R_S) (own := R_P) (As := [.int (nI f)]) (rest := [.long (-1)]) ⟨hx, hb, hml, hown, htg⟩ (t_S_shiftInWord l D cJ cI cP bs w1 f (by omega)) ⟨va_cnB 1 htg (gin0 k_191) rfl rfl rfl hE.1.1 (htg _ k_25) (by decide +kernel) ⟨Nat.le_of_ble_eq_true rfl, Nat.le_of_ble_eq_true rfl⟩, htg _ k_190, trivial⟩ (mPc.preS hbs hS hP hK) rfl rfl hl.1 rfl (lv_room (Nat.le_of_ble_eq_true rfl)) d_P_spread_53 ⟨Nat.le_trans (Nat.le_of_add_right_le hce) hmc, Nat.le_trans (Nat.le_of_add_right_le hsl) hms⟩) hS (fun r53 u53 H locs hw hP hz53 hS => ?_)
        subst hw
        refine lv_lshl hx hb d_P_spread_56 rfl ?_
        refine lv_topl (fun x_4 ex_4 => ?_)
        refine lv_lstore (lv' := [(8, .long x_4), (7, .int (nI i)), (6, .int (nI (g / 8))), (5, .int (nI (f / 8))), (0, .ref pa), (1, .int (nI f)), (2, .int (nI g)), (3, .long x)]) hx hb d_P_spread_57 hl (by decide) rfl (fun ls hl => ?_)
        refine lv_iload hx hb d_P_spread_59 (lv_at hl 1 rfl) ?_
        refine lv_iload hx hb d_P_spread_61 (lv_at hl 2 rfl) ?_
        refine lv_icmp_ne (tgt := 82) hx hb d_P_spread_63 (by decide) (fun c63 => ?_) (fun c63 => ?_)
        · have hil : ¬ i = g / 8 := fun z => c63 (by rw [z])
          have hmask : ∀ b, b < 64 → bi x_4 b = decide (8 * f ≤ 64 * i + b ∧ 64 * i + b < 8 * (g + 1)) := by
            intro b hb
            rw [ex_4, bi_shl _ (by omega) hb, bi_m1', Bool.eq_iff_iff]
            simp only [Bool.and_eq_true, decide_eq_true_iff]
            constructor <;> (intro hq; omega)
          obtain ⟨mq, sq, hq1, hq2, hq3, hq4⟩ := bud (A := mrg (Wc i) x_4 x) (B := Wc i) hce hsl
          refine lv_aload_n hx hb d_P_spread_82 rfl (lv_at hl 4 rfl) ?_
          refine lv_iload hx hb d_P_spread_83 (lv_at hl 1 rfl) ?_
          refine lv_lload hx hb d_P_spread_85 (lv_at hl 0 rfl) ?_
          refine lv_lload_n hx hb d_P_spread_87 rfl (lv_at hl 7 rfl) ?_
          refine mc_v (va_runV (As := [.int (nI i), .long x_4, .long x]) (rest := []) ⟨hx, hb, hml, hown, htg⟩ (t_P_merge l D cJ cI cP bs w1 pa Wc tw hp i (by omega) x_4 x mq sq hq1) (cwV (own := R_P) (C := R_P) 3 htg (ginV k_297 k_245 k_246 k_32 k_247) rfl rfl rfl (by decide +kernel) ⟨Nat.le_of_ble_eq_true rfl, Nat.le_of_ble_eq_true rfl⟩) (mPc.preV (ci := ciP) (q := (R_P, T_P, 5)) hbs hS hP hK rfl g1) rfl rfl hl.1 rfl (lv_room (Nat.le_of_ble_eq_true rfl)) d_P_spread_88 ⟨Nat.le_trans hq2 hmc, Nat.le_trans hq3 hms⟩) hS (fun w3 H locs hw hP hz88 hS => ?_)
          obtain ⟨v1, v2, v3, v4⟩ := hw
          have v5 := hq4 w3 v3 v4
          obtain ⟨i_5, ei_5⟩ : ∃ y : Int32, y = (nI i) + 1 := ⟨_, rfl⟩
          refine lv_iinc (v := i_5) (lv' := [(7, .int i_5), (8, .long x_4), (6, .int (nI (g / 8))), (5, .int (nI (f / 8))), (0, .ref pa), (1, .int (nI f)), (2, .int (nI g)), (3, .long x)]) hx hb d_P_spread_91 hl (k := 1) rfl (by rw [ei_5]; rfl) (by decide) rfl (fun ls hl => ?_)
          refine lv_goto (tgt := 31) hx hb d_P_spread_94 (by decide) ?_
          refine ih (i + 1) w3 (va_up Wc i (mrg (Wc i) x_4 x)) (ce + mq) (sl + sq) ls H locs (by omega) (by omega) (by omega) (fun j h1 h2 b hb => ?_) (fun j hj => ?_) v1 (hkp.trans v2) v5.1 v5.2 hP hS (by rw [← nI_1 i, ← ei_5]; exact lv_sub hl [0, 2, 3, 4, 5, 6, 7] rfl)
          · by_cases hji : j = i
            · subst hji
              rw [va_up_self, bi_mrg _ _ _ hb, hmask b hb, hhi j (by omega)]
              unfold spB
              by_cases hc : 8 * f ≤ 64 * j + b ∧ 64 * j + b < 8 * (g + 1)
              · rw [if_pos hc, if_pos (decide_eq_true hc)]
              · rw [if_neg hc, if_neg (by simp [hc])]
            · rw [va_up_ne _ _ hji]; exact hlo j h1 (by omega) b hb
          · rw [va_up_ne _ _ (by omega)]; exact hhi j (by omega)
        · have hil : i = g / 8 := nI_inj (by omega) (by omega) c63
          refine lv_lload hx hb d_P_spread_66 (lv_at hl 0 rfl) ?_
          refine lv_ldc2 (own := R_P) (v := (-1)) hx hb hown (htg _ k_249) d_P_spread_68 ?_
          refine lv_bipush (v := 56) hx hb d_P_spread_71 (by decide) ?_
          refine lv_iload_n hx hb d_P_spread_73 rfl (lv_at hl 6 rfl) ?_
          refine mc_i (va_runSN (host := R_S) (own := R_P) (As := [.int (nI g)]) (rest := [.int 56, .long (-1), .long x_4]) ⟨hx, hb, hml, hown, htg⟩ (t_S_shiftInWord l D cJ cI cP bs w1 g (by omega)) ⟨va_cnB 1 htg (gin0 k_191) rfl rfl rfl hE.1.1 (htg _ k_25) (by decide +kernel) ⟨Nat.le_of_ble_eq_true rfl, Nat.le_of_ble_eq_true rfl⟩, htg _ k_190, trivial⟩ (mPc.preS hbs hS hP hK) rfl rfl hl.1 rfl (lv_room (Nat.le_of_ble_eq_true rfl)) d_P_spread_74 ⟨Nat.le_trans (Nat.le_of_add_right_le hce) hmc, Nat.le_trans (Nat.le_of_add_right_le hsl) hms⟩) hS (fun r74 u74 H locs hw hP hz74 hS => ?_)
          subst hw
          refine lv_isub hx hb d_P_spread_77 ?_
          rw [show 56 - (nI (8 * (g % 8))) = nI (56 - 8 * (g % 8)) from (by show nI 56 - nI _ = _; exact pk_sub (by omega))]
          refine lv_lushr hx hb d_P_spread_78 rfl ?_
          refine lv_land hx hb d_P_spread_79 ?_
          refine lv_topl (fun x_6 ex_6 => ?_)
          refine lv_lstore (lv' := [(8, .long x_6), (7, .int (nI i)), (6, .int (nI (g / 8))), (5, .int (nI (f / 8))), (0, .ref pa), (1, .int (nI f)), (2, .int (nI g)), (3, .long x)]) hx hb d_P_spread_80 hl (by decide) rfl (fun ls hl => ?_)
          have hmask : ∀ b, b < 64 → bi x_6 b = decide (8 * f ≤ 64 * i + b ∧ 64 * i + b < 8 * (g + 1)) := by
            intro b hb
            rw [ex_6, ex_4, bi_and, bi_shl _ (by omega) hb, bi_m1', bi_ushr _ (by omega), bi_m1', Bool.eq_iff_iff]
            simp only [Bool.and_eq_true, decide_eq_true_iff]
            constructor <;> (intro hq; omega)
          obtain ⟨mq, sq, hq1, hq2, hq3, hq4⟩ := bud (A := mrg (Wc i) x_6 x) (B := Wc i) hce hsl
          refine lv_aload_n hx hb d_P_spread_82 rfl (lv_at hl 4 rfl) ?_
          refine lv_iload hx hb d_P_spread_83 (lv_at hl 1 rfl) ?_
          refine lv_lload hx hb d_P_spread_85 (lv_at hl 0 rfl) ?_
          refine lv_lload_n hx hb d_P_spread_87 rfl (lv_at hl 7 rfl) ?_
          refine mc_v (va_runV (As := [.int (nI i), .long x_6, .long x]) (rest := []) ⟨hx, hb, hml, hown, htg⟩ (t_P_merge l D cJ cI cP bs w1 pa Wc tw hp i (by omega) x_6 x mq sq hq1) (cwV (own := R_P) (C := R_P) 3 htg (ginV k_297 k_245 k_246 k_32 k_247) rfl rfl rfl (by decide +kernel) ⟨Nat.le_of_ble_eq_true rfl, Nat.le_of_ble_eq_true rfl⟩) (mPc.preV (ci := ciP) (q := (R_P, T_P, 5)) hbs hS hP hK rfl g1) rfl rfl hl.1 rfl (lv_room (Nat.le_of_ble_eq_true rfl)) d_P_spread_88 ⟨Nat.le_trans hq2 hmc, Nat.le_trans hq3 hms⟩) hS (fun w3 H locs hw hP hz88 hS => ?_)
          obtain ⟨v1, v2, v3, v4⟩ := hw
          have v5 := hq4 w3 v3 v4
          obtain ⟨i_7, ei_7⟩ : ∃ y : Int32, y = (nI i) + 1 := ⟨_, rfl⟩
          refine lv_iinc (v := i_7) (lv' := [(7, .int i_7), (8, .long x_6), (6, .int (nI (g / 8))), (5, .int (nI (f / 8))), (0, .ref pa), (1, .int (nI f)), (2, .int (nI g)), (3, .long x)]) hx hb d_P_spread_91 hl (k := 1) rfl (by rw [ei_7]; rfl) (by decide) rfl (fun ls hl => ?_)
          refine lv_goto (tgt := 31) hx hb d_P_spread_94 (by decide) ?_
          refine ih (i + 1) w3 (va_up Wc i (mrg (Wc i) x_6 x)) (ce + mq) (sl + sq) ls H locs (by omega) (by omega) (by omega) (fun j h1 h2 b hb => ?_) (fun j hj => ?_) v1 (hkp.trans v2) v5.1 v5.2 hP hS (by rw [← nI_1 i, ← ei_7]; exact lv_sub hl [0, 2, 3, 4, 5, 6, 7] rfl)
          · by_cases hji : j = i
            · subst hji
              rw [va_up_self, bi_mrg _ _ _ hb, hmask b hb, hhi j (by omega)]
              unfold spB
              by_cases hc : 8 * f ≤ 64 * j + b ∧ 64 * j + b < 8 * (g + 1)
              · rw [if_pos hc, if_pos (decide_eq_true hc)]
              · rw [if_neg hc, if_neg (by simp [hc])]
            · rw [va_up_ne _ _ hji]; exact hlo j h1 (by omega) b hb
          · rw [va_up_ne _ _ (by omega)]; exact hhi j (by omega)
set_option maxHeartbeats 4000000 in
set_option maxRecDepth 100000 in
/-- spread: the bytes from f to g become those of a pattern -/
theorem t_P_spread (l : Launch) (D : va_G) (cJ cI cP : ClassId) (bs : Nat) (w : Nat → Option va_E) (pa : Nat) (Wd : Nat → Int64) (tw : Int64) (hp : pg cJ w pa Wd tw) (f g : Nat) (hfg : f ≤ g) (hg : g < 4096) (x : Int64) (mc ms : Nat) (hm : ¬ (f = 0 ∧ g = 4095) → 1 ≤ mc ∧ 512 ≤ ms) : Met l y_P_spread ws_P_spread ({ frames := 3, cells := mc, slots := ms, locals := 73 }) (mPx D vwCl (mT cJ cI cP) bs w [.ref pa, .int (nI f), .int (nI g), .long x]) (va_Qv (S := ((Nat → Option va_E) × (Nat → Int64))) (fun u => pg cJ u.1 pa u.2 tw ∧ kp w u.1 (pfp w pa) (pfp u.1 pa) ∧ ∀ j, j < 512 → ∀ b, b < 64 → bi (u.2 j) b = spB Wd f g x j b) (mB D vwCl bs (fun u => u.1)) (mA bs)) mc ms (mA bs) := by
  refine Met.ofW (cc := c_P_spread) (maxL := 10) (ret := none) (by decide) rfl ?_
  intro p e s m args below meth c s₁ B hml hv
  obtain ⟨rfl, hbs, hP, hK, hE⟩ := hv
  have hx := B.exec
  have hb := B.bytes
  have hr := B.returns
  have htg : ∀ w ∈ gt, w.before _ s = true := fun w h => atoms_spec (ws := ws_P_spread) B.pre w (List.mem_cons_of_mem _ h)
  have hown : s.vm.findClass R_P = some m.cls := findClass_of_methodNamed B.named
  have hlocks := B.notSynchronized
  have hS : va_S (mA bs) s.heap s.heap [] := va_S.rf
  have hl := lv_entry ([.ref pa, .int (nI f), .int (nI g), .long x]) (n := 10) (Nat.le_of_ble_eq_true rfl)
  rw [lg_entry_eq]
  generalize (lg_sl ([.ref pa, .int (nI f), .int (nI g), .long x]) ++ List.replicate (10 - (lg_sl ([.ref pa, .int (nI f), .int (nI g), .long x])).length) Slot.unset).toArray = ls at hl ⊢
  have hl : lv_has ls 10 [(0, .ref pa), (1, .int (nI f)), (2, .int (nI g)), (3, .long x)] := hl
  obtain ⟨wr, ev, ew, g1, g2⟩ := id hp
  refine lv_iload_n hx hb d_P_spread_0 rfl (lv_at hl 1 rfl) ?_
  refine lv_if_ne (tgt := 17) hx hb d_P_spread_1 (by decide) (fun c1 => ?_) (fun c1 => ?_)
  · have hmm := hm (fun z => by first | exact c1 (by rw [z.1]; rfl) | exact c8 (by rw [z.2]; rfl))
    refine lv_iload_n hx hb d_P_spread_17 rfl (lv_at hl 1 rfl) ?_
    refine lv_iconst (v := 3) hx hb d_P_spread_18 (by decide) ?_
    refine lv_ishr hx hb d_P_spread_19 ?_
    rw [show (nI f) >>> (3 &&& 31) = nI (f / 8) from ish f 3 (by omega) (by omega)]
    refine lv_istore (lv' := [(5, .int (nI (f / 8))), (0, .ref pa), (1, .int (nI f)), (2, .int (nI g)), (3, .long x)]) hx hb d_P_spread_20 hl (by decide) rfl (fun ls hl => ?_)
    refine lv_iload_n hx hb d_P_spread_22 rfl (lv_at hl 3 rfl) ?_
    refine lv_iconst (v := 3) hx hb d_P_spread_23 (by decide) ?_
    refine lv_ishr hx hb d_P_spread_24 ?_
    rw [show (nI g) >>> (3 &&& 31) = nI (g / 8) from ish g 3 (by omega) (by omega)]
    refine lv_istore (lv' := [(6, .int (nI (g / 8))), (5, .int (nI (f / 8))), (0, .ref pa), (1, .int (nI f)), (2, .int (nI g)), (3, .long x)]) hx hb d_P_spread_25 hl (by decide) rfl (fun ls hl => ?_)
    refine lv_iload hx hb d_P_spread_27 (lv_at hl 1 rfl) ?_
    refine lv_istore (lv' := [(7, .int (nI (f / 8))), (6, .int (nI (g / 8))), (5, .int (nI (f / 8))), (0, .ref pa), (1, .int (nI f)), (2, .int (nI g)), (3, .long x)]) hx hb d_P_spread_29 hl (by decide) rfl (fun ls hl => ?_)
    refine lp_P_spread (D := D) (cJ := cJ) (cI := cI) (cP := cP) (bs := bs) hx hb hml hown htg hK hbs hE w pa Wd tw x f g hfg hg mc ms hmm.1 hmm.2 (fun w1 Wc ls H locs q1 q2 q3 hP hS => ?_) (g / 8 + 2) (f / 8) w Wd 0 0 ls _ _ (by omega) (Nat.le_refl _) (by omega) (fun j h1 h2 => absurd h2 (by omega)) (fun _ _ => rfl) hp kp.rf (by unfold need; split <;> omega) (by unfold need; split <;> omega) hP hS (lv_sub hl [0, 1, 2, 3, 4, 5, 6] rfl)
    refine W.widen (k := mc) (n := ms) hmm.1 hmm.2 ?_
    exact W.vret hx hb hr (fun t ht hW => ⟨⟨(w1, Wc), rfl, ⟨q1, q2, q3⟩, hP.at ht⟩, hS.F ht⟩) hS.2.2 d_P_spread_97
  · refine lv_iload_n hx hb d_P_spread_4 rfl (lv_at hl 2 rfl) ?_
    refine lv_sipush (v := 4095) hx hb d_P_spread_5 (by decide) ?_
    refine lv_icmp_ne (tgt := 17) hx hb d_P_spread_8 (by decide) (fun c8 => ?_) (fun c8 => ?_)
    · have hmm := hm (fun z => by first | exact c1 (by rw [z.1]; rfl) | exact c8 (by rw [z.2]; rfl))
      refine lv_iload_n hx hb d_P_spread_17 rfl (lv_at hl 1 rfl) ?_
      refine lv_iconst (v := 3) hx hb d_P_spread_18 (by decide) ?_
      refine lv_ishr hx hb d_P_spread_19 ?_
      rw [show (nI f) >>> (3 &&& 31) = nI (f / 8) from ish f 3 (by omega) (by omega)]
      refine lv_istore (lv' := [(5, .int (nI (f / 8))), (0, .ref pa), (1, .int (nI f)), (2, .int (nI g)), (3, .long x)]) hx hb d_P_spread_20 hl (by decide) rfl (fun ls hl => ?_)
      refine lv_iload_n hx hb d_P_spread_22 rfl (lv_at hl 3 rfl) ?_
      refine lv_iconst (v := 3) hx hb d_P_spread_23 (by decide) ?_
      refine lv_ishr hx hb d_P_spread_24 ?_
      rw [show (nI g) >>> (3 &&& 31) = nI (g / 8) from ish g 3 (by omega) (by omega)]
      refine lv_istore (lv' := [(6, .int (nI (g / 8))), (5, .int (nI (f / 8))), (0, .ref pa), (1, .int (nI f)), (2, .int (nI g)), (3, .long x)]) hx hb d_P_spread_25 hl (by decide) rfl (fun ls hl => ?_)
      refine lv_iload hx hb d_P_spread_27 (lv_at hl 1 rfl) ?_
      refine lv_istore (lv' := [(7, .int (nI (f / 8))), (6, .int (nI (g / 8))), (5, .int (nI (f / 8))), (0, .ref pa), (1, .int (nI f)), (2, .int (nI g)), (3, .long x)]) hx hb d_P_spread_29 hl (by decide) rfl (fun ls hl => ?_)
      refine lp_P_spread (D := D) (cJ := cJ) (cI := cI) (cP := cP) (bs := bs) hx hb hml hown htg hK hbs hE w pa Wd tw x f g hfg hg mc ms hmm.1 hmm.2 (fun w1 Wc ls H locs q1 q2 q3 hP hS => ?_) (g / 8 + 2) (f / 8) w Wd 0 0 ls _ _ (by omega) (Nat.le_refl _) (by omega) (fun j h1 h2 => absurd h2 (by omega)) (fun _ _ => rfl) hp kp.rf (by unfold need; split <;> omega) (by unfold need; split <;> omega) hP hS (lv_sub hl [0, 1, 2, 3, 4, 5, 6] rfl)
      refine W.widen (k := mc) (n := ms) hmm.1 hmm.2 ?_
      exact W.vret hx hb hr (fun t ht hW => ⟨⟨(w1, Wc), rfl, ⟨q1, q2, q3⟩, hP.at ht⟩, hS.F ht⟩) hS.2.2 d_P_spread_97
    · refine lv_aload_n hx hb d_P_spread_11 rfl (lv_at hl 0 rfl) ?_
      refine lv_lload_n hx hb d_P_spread_12 rfl (lv_at hl 3 rfl) ?_
      refine mc_v (va_runV (As := [.long x]) (rest := []) ⟨hx, hb, hml, hown, htg⟩ (t_P_makeEven l D cJ cI cP bs w pa Wd tw hp x) (cwV (own := R_P) (C := R_P) 1 htg (ginV k_292 k_294 k_12 k_32 k_295) rfl rfl rfl (by decide +kernel) ⟨Nat.le_of_ble_eq_true rfl, Nat.le_of_ble_eq_true rfl⟩) (mPc.preV (ci := ciP) (q := (R_P, T_P, 5)) hbs hS hP hK rfl g1) rfl rfl hl.1 rfl (lv_room (Nat.le_of_ble_eq_true rfl)) d_P_spread_13 ⟨Nat.zero_le _, Nat.zero_le _⟩) hS (fun w3 H locs hw hP hz13 hS => ?_)
      have ef : f = 0 := nI_inj (by omega) (by omega) (c1.trans nI_0.symm)
      have eg : g = 4095 := nI_inj (by omega) (by omega) (show nI g = nI 4095 from c8)
      refine W.widen (k := mc) (n := ms) (Nat.zero_le _) (Nat.zero_le _) ?_
      exact W.vret hx hb hr (fun t ht hW => ⟨⟨(w3, fun _ => x), rfl, ⟨hw.1, hw.2, fun j hj b hb => by unfold spB; rw [if_pos (by omega)]⟩, hP.at ht⟩, hS.F ht⟩) hS.2.2 d_P_spread_16
end
section
theorem mx_w {a c : Nat} (ha : a < 2 ^ 30) (hc : c < 2 ^ 30) : (if nI a - nI c < 0 then 0 else nI a - nI c) = nI (a - c) := by
  by_cases h : a < c
  · rw [if_pos (pk_sneg hc h), show a - c = 0 by omega, nI_0]
  · rw [pk_sub (by omega), if_neg (nI_pos (by omega))]
theorem mn_w {b c : Nat} (hb : b < 2 ^ 30) (hc : c ≤ b) : (if 4095 < nI b - nI c then 4095 else nI b - nI c) = nI (min (b - c) 4095) := by
  rw [pk_sub hc]
  show (if nI 4095 < nI (b - c) then nI 4095 else nI (b - c)) = _
  by_cases h : 4095 < b - c
  · rw [if_pos (nI_lt h (by omega)), Nat.min_eq_right (by omega)]
  · rw [if_neg (nI_nlt (by omega) (by omega)), Nat.min_eq_left (by omega)]
/-- the bits of memory behind a fill of the places from a to b -/
def flB (M : Nat → Int64) (a b : Nat) (x : Int64) (k i : Nat) : Bool := if 8 * a ≤ 64 * k + i ∧ 64 * k + i < 8 * (b + 1) then bi x i else bi (M k) i
/-- how many cells and slots are made at most, with the pages before i done -/
def cB (p0 p1 i : Nat) : Nat := (i - p0) + (if p0 < i then 1 else 0) + (if p1 < i then 1 else 0)
def sB (p0 p1 i : Nat) : Nat := 5 * (i - p0) + (if p0 < i then 512 else 0) + (if p1 < i then 512 else 0)
theorem cB_le {p0 p1 i : Nat} (h : i ≤ p1 + 1) (h2 : p1 < 1024) : cB p0 p1 i ≤ 1026 := by
  unfold cB
  split <;> split <;> omega
theorem sB_le {p0 p1 i : Nat} (h : i ≤ p1 + 1) (h2 : p1 < 1024) : sB p0 p1 i ≤ 6144 := by
  unfold sB
  split <;> split <;> omega
theorem cB_s {p0 p1 i : Nat} (F : Prop) (h : p0 ≤ i) (h1 : i ≤ p1) (hF : p0 < i → i < p1 → F) : ∃ mq sq, (¬ F → 1 ≤ mq ∧ 512 ≤ sq) ∧ cB p0 p1 i + 1 + mq ≤ cB p0 p1 (i + 1) ∧ sB p0 p1 i + 5 + sq ≤ sB p0 p1 (i + 1) := by
  by_cases q : p0 < i ∧ i < p1
  · refine ⟨0, 0, fun z => absurd (hF q.1 q.2) z, ?_, ?_⟩
    · unfold cB; rw [if_pos q.1, if_neg (by omega), if_pos (by omega), if_neg (by omega)]; omega
    · unfold sB; rw [if_pos q.1, if_neg (by omega), if_pos (by omega), if_neg (by omega)]; omega
  · refine ⟨1, 512, fun _ => ⟨Nat.le_refl _, Nat.le_refl _⟩, ?_, ?_⟩
    · unfold cB; rw [if_pos (show p0 < i + 1 by omega)]; split <;> split <;> split <;> omega
    · unfold sB; rw [if_pos (show p0 < i + 1 by omega)]; split <;> split <;> split <;> omega
set_option maxHeartbeats 4000000 in
set_option maxRecDepth 100000 in
/-- putSameBytes: its loop -/
theorem lp_S_psb {p : Program} {l : Launch} {e : Env} {s : State} {m : MethodId} {args : Array Value} {below : List Frame} {meth : Method} {c : Code} {Q : State → Prop} {D : va_G} {cJ cI cP : ClassId} {bs : Nat} (hx : p.tables.exec = Jvm.exec) (hb : c.code = c_S_putSameBytes) (hml : c.maxLocals = 10) (hown : s.vm.findClass R_S = some m.cls) (htg : ∀ w ∈ gt, w.before args s = true) (hK : va_K D vwCl (mT cJ cI cP) s) (hbs : bs ≤ s.heap.size) (hE : evX bs s) (w : Nat → Option va_E) (h n : Nat) (M T : Nat → Int64) (ra : Nat → Int64) (rs : Nat → Int32) (aT aA aS : Nat) (x : Int64) (a b : Nat) (hab : a ≤ b) (hbn : b < 4096 * n) (hn9 : n ≤ 1024) (kx : ∀ (w1 : Nat → Option va_E) (Mc : Nat → Int64) (pt : Nat → Option Nat) (ls : Array Slot) (H : Heap) (locs : List Loc), sm cJ cI cP w1 h n Mc T ra rs aT aA aS pt → kp w w1 (sfp w h) (sfp w1 h) → (∀ k z, z < 64 → bi (Mc k) z = flB M a b x k z) → (∀ j, a / 4096 ≤ j → j ≤ b / 4096 → ¬ pt j = none) → mw D vwCl bs w1 H → va_S (mA bs) s.heap H locs → lv_has ls 10 [(0, .ref h), (1, .int (nI a)), (2, .int (nI b)), (3, .long x)] → W p l e ({ frames := 4, cells := 1026, slots := 6144, locals := 102 } : Room) s m args below meth c H locs 1026 6144 Q (F0 m 68 ls [])) :
    ∀ (k : Nat) (i : Nat) (w1 : Nat → Option va_E) (Mc : Nat → Int64) (pt : Nat → Option Nat) (ls : Array Slot) (H : Heap) (locs : List Loc), b / 4096 + 1 - i < k → a / 4096 ≤ i → i ≤ b / 4096 + 1 → (∀ k, a / 4096 ≤ k / 512 → k / 512 < i → ∀ z, z < 64 → bi (Mc k) z = flB M a b x k z) → (∀ k, ¬ (a / 4096 ≤ k / 512 ∧ k / 512 < i) → Mc k = M k) → (∀ j, a / 4096 ≤ j → j < i → ¬ pt j = none) → sm cJ cI cP w1 h n Mc T ra rs aT aA aS pt → kp w w1 (sfp w h) (sfp w1 h) → mw D vwCl bs w1 H → va_S (mA bs) s.heap H locs → lv_has ls 10 [(6, .int (nI i)), (5, .int (nI (b / 4096))), (0, .ref h), (1, .int (nI a)), (2, .int (nI b)), (3, .long x)] → W p l e ({ frames := 4, cells := 1026, slots := 6144, locals := 102 } : Room) s m args below meth c H locs (cB (a / 4096) (b / 4096) i) (sB (a / 4096) (b / 4096) i) Q (F0 m 12 ls []) := by
  intro k
  induction k with
  | zero => intro i w1 Mc pt ls H locs hk0; exact absurd hk0 (by omega)
  | succ k ih =>
    intro i w1 Mc pt ls H locs hk hai hi hlo hhi hpt hs1 hkp hP hS hl
    obtain ⟨hn, s1, s2, s3, s4, s5, s6, s7⟩ := id hs1
    have f1 : w1 h = some (.inr (ciS, [.int (nI n), .ref aT, .ref aA, .ref aS])) := s1
    refine lv_iload hx hb d_S_putSameBytes_12 (lv_at hl 0 rfl) ?_
    refine lv_iload hx hb d_S_putSameBytes_14 (lv_at hl 1 rfl) ?_
    refine lv_icmp_gt (tgt := 68) hx hb d_S_putSameBytes_16 (by decide) (fun c16 => ?_) (fun c16 => ?_)
    · have e5 : i = b / 4096 + 1 := Nat.le_antisymm hi ((nI_ltI (by omega) (by omega)).mp c16)
      subst e5
      refine W.widen (k := 1026) (n := 6144) (cB_le hi (by omega)) (sB_le hi (by omega)) ?_
      refine kx w1 Mc pt ls H locs hs1 hkp (fun k z hz => ?_) (fun j h1 h2 => hpt j h1 (by omega)) hP hS (lv_sub hl [2, 3, 4, 5] rfl)
      by_cases hc : a / 4096 ≤ k / 512 ∧ k / 512 < b / 4096 + 1
      · exact hlo k hc.1 hc.2 z hz
      · rw [hhi k hc]; unfold flB; rw [if_neg (by omega)]
    · have hlt : i ≤ b / 4096 := Nat.le_of_not_lt (fun z => c16 (nI_lt z (by omega)))
      have hin : i < n := by omega
      refine lv_iload hx hb d_S_putSameBytes_19 (lv_at hl 0 rfl) ?_
      refine lv_bipush (v := 12) hx hb d_S_putSameBytes_21 (by decide) ?_
      refine lv_ishl hx hb d_S_putSameBytes_23 ?_
      rw [show (nI i) <<< (12 &&& 31) = nI (i * 4096) from pk_shlN 12 12 (by decide) (by omega)]
      refine lv_istore (lv' := [(7, .int (nI (i * 4096))), (6, .int (nI i)), (5, .int (nI (b / 4096))), (0, .ref h), (1, .int (nI a)), (2, .int (nI b)), (3, .long x)]) hx hb d_S_putSameBytes_24 hl (by decide) rfl (fun ls hl => ?_)
      refine lv_iload_n hx hb d_S_putSameBytes_26 rfl (lv_at hl 4 rfl) ?_
      refine lv_iload hx hb d_S_putSameBytes_27 (lv_at hl 0 rfl) ?_
      refine lv_isub hx hb d_S_putSameBytes_29 ?_
      refine lv_iconst (v := 0) hx hb d_S_putSameBytes_30 (by decide) ?_
      refine va_mmax (own := R_S) hx hb (hml.trans hl.1.symm) hown (htg _ k_282) (htg _ k_283) (htg _ k_34) (htg _ k_284) (Nat.le_of_ble_eq_true rfl) (Nat.le_of_ble_eq_true rfl) (cB_le hi (by omega)) (sB_le hi (by omega)) d_S_putSameBytes_31 ?_
      rw [show (if ((nI a) - (nI (i * 4096))) < 0 then 0 else ((nI a) - (nI (i * 4096)))) = nI (a - i * 4096) from mx_w (by omega) (by omega)]
      refine lv_istore (lv' := [(8, .int (nI (a - i * 4096))), (7, .int (nI (i * 4096))), (6, .int (nI i)), (5, .int (nI (b / 4096))), (0, .ref h), (1, .int (nI a)), (2, .int (nI b)), (3, .long x)]) hx hb d_S_putSameBytes_34 hl (by decide) rfl (fun ls hl => ?_)
      refine lv_iload_n hx hb d_S_putSameBytes_36 rfl (lv_at hl 6 rfl) ?_
      refine lv_iload hx hb d_S_putSameBytes_37 (lv_at hl 1 rfl) ?_
      refine lv_isub hx hb d_S_putSameBytes_39 ?_
      refine lv_sipush (v := 4095) hx hb d_S_putSameBytes_40 (by decide) ?_
      refine va_mmin (own := R_S) hx hb (hml.trans hl.1.symm) hown (htg _ k_285) (htg _ k_286) (htg _ k_34) (htg _ k_287) (Nat.le_of_ble_eq_true rfl) (Nat.le_of_ble_eq_true rfl) (cB_le hi (by omega)) (sB_le hi (by omega)) d_S_putSameBytes_43 ?_
      rw [show (if 4095 < ((nI b) - (nI (i * 4096))) then 4095 else ((nI b) - (nI (i * 4096)))) = nI (min (b - i * 4096) 4095) from mn_w (by omega) (by omega)]
      refine lv_istore (lv' := [(9, .int (nI (min (b - i * 4096) 4095))), (8, .int (nI (a - i * 4096))), (7, .int (nI (i * 4096))), (6, .int (nI i)), (5, .int (nI (b / 4096))), (0, .ref h), (1, .int (nI a)), (2, .int (nI b)), (3, .long x)]) hx hb d_S_putSameBytes_46 hl (by decide) rfl (fun ls hl => ?_)
      obtain ⟨mq, sq, hq1, hq2, hq3⟩ := cB_s (a - i * 4096 = 0 ∧ min (b - i * 4096) 4095 = 4095) hai hlt (fun q1 q2 => ⟨by omega, by rw [Nat.min_eq_right (by omega)]⟩)
      have hc9 := cB_le (p0 := a / 4096) (p1 := b / 4096) (i := i + 1) (by omega) (by omega)
      have hs9 := sB_le (p0 := a / 4096) (p1 := b / 4096) (i := i + 1) (by omega) (by omega)
      have fc1 : cB (a / 4096) (b / 4096) i + 1 ≤ 1026 := by omega
      have fs1 : sB (a / 4096) (b / 4096) i + 5 ≤ 6144 := by omega
      have fc2 : cB (a / 4096) (b / 4096) i + 1 + mq ≤ 1026 := by omega
      have fs2 : sB (a / 4096) (b / 4096) i + 5 + sq ≤ 6144 := by omega
      refine lv_aload_n hx hb d_S_putSameBytes_48 rfl (lv_at hl 5 rfl) ?_
      refine lv_iload hx hb d_S_putSameBytes_49 (lv_at hl 3 rfl) ?_
      refine mc_r (va_runV (As := [.int (nI i)]) (rest := []) ⟨hx, hb, hml, hown, htg⟩ (t_S_ptw l D cJ cI cP bs w1 h n Mc T ra rs aT aA aS pt hs1 i hin 1 5 (fun _ => ⟨Nat.le_refl _, Nat.le_refl _⟩)) (cwV (own := R_S) (C := R_S) 1 htg (ginV k_219 k_221 k_7 k_25 k_222) rfl rfl rfl (by decide +kernel) ⟨Nat.le_of_ble_eq_true rfl, Nat.le_of_ble_eq_true rfl⟩) (mPc.preV (ci := ciS) (q := (R_S, T_S, 4)) hbs hS hP hK rfl f1) rfl rfl hl.1 rfl (lv_room (Nat.le_of_ble_eq_true rfl)) d_S_putSameBytes_51 ⟨fc1, fs1⟩) hS (fun u51 H locs hw hP hz51 hS => ?_)
      obtain ⟨w2, pz, pt2⟩ := u51
      obtain ⟨m1, m2, m3, m4, m5⟩ := hw
      have m1 : sm cJ cI cP w2 h n Mc T ra rs aT aA aS pt2 := m1
      have m2 : pt2 i = some pz := m2
      have m3 : kp w1 w2 (sfp w1 h) (sfp w2 h) := m3
      have m4 : ∀ j, ¬ j = i → pt2 j = pt j := m4
      have hP : mw D vwCl bs w2 H := hP
      have m6 := m1.2.2.2.2.2.2.1 i pz hin m2
      obtain ⟨wr, ev, ew, y1, y2⟩ := id m6
      refine lv_iload hx hb d_S_putSameBytes_54 (lv_at hl 1 rfl) ?_
      refine lv_iload hx hb d_S_putSameBytes_56 (lv_at hl 0 rfl) ?_
      refine lv_lload_n hx hb d_S_putSameBytes_58 rfl (lv_at hl 8 rfl) ?_
      refine mc_v (va_runV (As := [.int (nI (a - i * 4096)), .int (nI (min (b - i * 4096) 4095)), .long x]) (rest := []) ⟨hx, hb, hml, hown, htg⟩ (t_P_spread l D cJ cI cP bs w2 pz (fun j => Mc (512 * i + j)) (T i) m6 (a - i * 4096) (min (b - i * 4096) 4095) (Nat.le_min.mpr ⟨by omega, by omega⟩) (Nat.lt_of_le_of_lt (Nat.min_le_right _ _) (by omega)) x mq sq hq1) (cwV (own := R_S) (C := R_P) 3 htg (ginV k_288 k_289 k_290 k_32 k_291) rfl rfl rfl (by decide +kernel) ⟨Nat.le_of_ble_eq_true rfl, Nat.le_of_ble_eq_true rfl⟩) (mPx.preV (ci := ciP) (q := (R_P, T_P, 5)) hbs hS hP hK hE rfl y1) rfl rfl hl.1 rfl (lv_room (Nat.le_of_ble_eq_true rfl)) d_S_putSameBytes_59 ⟨fc2, fs2⟩) hS (fun u59 H locs hw hP hz59 hS => ?_)
      obtain ⟨w3, W3⟩ := u59
      obtain ⟨v1, v2, v3⟩ := hw
      have v3 : ∀ j, j < 512 → ∀ z, z < 64 → bi (W3 j) z = spB (fun j => Mc (512 * i + j)) (a - i * 4096) (min (b - i * 4096) 4095) x j z := v3
      have hP : mw D vwCl bs w3 H := hP
      have hpg := sm_page m1 hin m2 v2 v1
      rw [va_up_id] at hpg
      obtain ⟨i_1, ei_1⟩ : ∃ y : Int32, y = (nI i) + 1 := ⟨_, rfl⟩
      refine lv_iinc (v := i_1) (lv' := [(6, .int i_1), (9, .int (nI (min (b - i * 4096) 4095))), (8, .int (nI (a - i * 4096))), (7, .int (nI (i * 4096))), (5, .int (nI (b / 4096))), (0, .ref h), (1, .int (nI a)), (2, .int (nI b)), (3, .long x)]) hx hb d_S_putSameBytes_62 hl (k := 3) rfl (by rw [ei_1]; rfl) (by decide) rfl (fun ls hl => ?_)
      refine lv_goto (tgt := 12) hx hb d_S_putSameBytes_65 (by decide) ?_
      refine W.widen (k := cB (a / 4096) (b / 4096) (i + 1)) (n := sB (a / 4096) (b / 4096) (i + 1)) hq2 hq3 ?_
      refine ih (i + 1) w3 (pup Mc i W3) pt2 ls H locs (by omega) (by omega) (by omega) (fun k h1 h2 z hz => ?_) (fun k hk2 => ?_) (fun j h1 h2 => ?_) hpg.1 ((hkp.trans m3).trans hpg.2) hP hS (by rw [← nI_1 i, ← ei_1]; exact lv_sub hl [0, 4, 5, 6, 7, 8] rfl)
      · by_cases hki : k / 512 = i
        · have e1 : pup Mc i W3 k = W3 (k % 512) := by unfold pup; rw [if_pos hki]
          have e2 : Mc (512 * i + k % 512) = M k := by rw [show 512 * i + k % 512 = k by omega]; exact hhi k (by omega)
          rw [e1, v3 (k % 512) (Nat.mod_lt _ (by decide)) z hz]
          unfold spB flB
          rw [show (fun j => Mc (512 * i + j)) (k % 512) = M k from e2]
          have hmn : min (b - i * 4096) 4095 = b - i * 4096 ∨ min (b - i * 4096) 4095 = 4095 := by omega
          by_cases hc : 8 * a ≤ 64 * k + z ∧ 64 * k + z < 8 * (b + 1)
          · rw [if_pos hc, if_pos (by omega)]
          · rw [if_neg hc, if_neg (by omega)]
        · have e1 : pup Mc i W3 k = Mc k := by unfold pup; rw [if_neg hki]
          rw [e1]; exact hlo k h1 (by omega) z hz
      · have e1 : pup Mc i W3 k = Mc k := by unfold pup; rw [if_neg (by omega)]
        rw [e1]; exact hhi k (by omega)
      · by_cases hji : j = i
        · rw [hji, m2]; simp
        · rw [m4 j hji]; exact hpt j h1 (by omega)
set_option maxHeartbeats 4000000 in
set_option maxRecDepth 100000 in
/-- putSameBytes -/
theorem t_S_psb (l : Launch) (D : va_G) (cJ cI cP : ClassId) (bs : Nat) (w : Nat → Option va_E) (h n : Nat) (M T : Nat → Int64) (ra : Nat → Int64) (rs : Nat → Int32) (aT aA aS : Nat) (pt : Nat → Option Nat) (hs : sm cJ cI cP w h n M T ra rs aT aA aS pt) (a b : Nat) (hab : a ≤ b) (hbn : b < 4096 * n) (hro : rok ra n) (x : Int64) : Met l y_S_putSameBytes ws_S_putSameBytes ({ frames := 4, cells := 1026, slots := 6144, locals := 102 }) (mPx D vwCl (mT cJ cI cP) bs w [.ref h, .int (nI a), .int (nI b), .long x]) (va_Qv (S := S3) (fun u => sm cJ cI cP u.1 h n u.2.1 (tinc T (a / 4096) (b / 4096 + 1)) (lost ra (a / 8) (b / 8)) rs aT aA aS u.2.2 ∧ (∀ k z, z < 64 → bi (u.2.1 k) z = flB M a b x k z) ∧ kp w u.1 (sfp w h) (sfp u.1 h)) (mB D vwCl bs (fun u => u.1)) (mA bs)) 1026 6144 (mA bs) := by
  refine Met.ofW (cc := c_S_putSameBytes) (maxL := 10) (ret := none) (by decide) rfl ?_
  intro p e s m args below meth c s₁ B hml hv
  obtain ⟨rfl, hbs, hP, hK, hE⟩ := hv
  have hx := B.exec
  have hb := B.bytes
  have hr := B.returns
  have htg : ∀ w ∈ gt, w.before _ s = true := fun w h => atoms_spec (ws := ws_S_putSameBytes) B.pre w (List.mem_cons_of_mem _ h)
  have hown : s.vm.findClass R_S = some m.cls := findClass_of_methodNamed B.named
  have hlocks := B.notSynchronized
  have hS : va_S (mA bs) s.heap s.heap [] := va_S.rf
  have hl := lv_entry ([.ref h, .int (nI a), .int (nI b), .long x]) (n := 10) (Nat.le_of_ble_eq_true rfl)
  rw [lg_entry_eq]
  generalize (lg_sl ([.ref h, .int (nI a), .int (nI b), .long x]) ++ List.replicate (10 - (lg_sl ([.ref h, .int (nI a), .int (nI b), .long x])).length) Slot.unset).toArray = ls at hl ⊢
  have hl : lv_has ls 10 [(0, .ref h), (1, .int (nI a)), (2, .int (nI b)), (3, .long x)] := hl
  obtain ⟨hn, s1, s2, s3, s4, s5, s6, s7⟩ := id hs
  have f1 : w h = some (.inr (ciS, [.int (nI n), .ref aT, .ref aA, .ref aS])) := s1
  refine lv_iload_n hx hb d_S_putSameBytes_0 rfl (lv_at hl 2 rfl) ?_
  refine lv_bipush (v := 12) hx hb d_S_putSameBytes_1 (by decide) ?_
  refine lv_ishr hx hb d_S_putSameBytes_3 ?_
  rw [show (nI b) >>> (12 &&& 31) = nI (b / 4096) from ish b 12 (by omega) (by omega)]
  refine lv_istore (lv' := [(5, .int (nI (b / 4096))), (0, .ref h), (1, .int (nI a)), (2, .int (nI b)), (3, .long x)]) hx hb d_S_putSameBytes_4 hl (by decide) rfl (fun ls hl => ?_)
  refine lv_iload_n hx hb d_S_putSameBytes_6 rfl (lv_at hl 2 rfl) ?_
  refine lv_bipush (v := 12) hx hb d_S_putSameBytes_7 (by decide) ?_
  refine lv_ishr hx hb d_S_putSameBytes_9 ?_
  rw [show (nI a) >>> (12 &&& 31) = nI (a / 4096) from ish a 12 (by omega) (by omega)]
  refine lv_istore (lv' := [(6, .int (nI (a / 4096))), (5, .int (nI (b / 4096))), (0, .ref h), (1, .int (nI a)), (2, .int (nI b)), (3, .long x)]) hx hb d_S_putSameBytes_10 hl (by decide) rfl (fun ls hl => ?_)
  refine W.widen (k := cB (a / 4096) (b / 4096) (a / 4096)) (n := sB (a / 4096) (b / 4096) (a / 4096)) (Nat.zero_le _) (Nat.zero_le _) ?_
  refine lp_S_psb (D := D) (cJ := cJ) (cI := cI) (cP := cP) (bs := bs) hx hb hml hown htg hK hbs hE w h n M T ra rs aT aA aS x a b hab hbn hn.2 (fun w1 Mc pt1 ls H locs h1 h2 h3 h4 hP hS hl => ?_) (b / 4096 + 2) (a / 4096) w M pt ls _ _ (by omega) (Nat.le_refl _) (by omega) (fun k q1 q2 => absurd q2 (by omega)) (fun _ _ => rfl) (fun j q1 q2 => absurd q2 (by omega)) hs kp.rf hP hS (lv_sub hl [0, 1, 2, 3, 4, 5] rfl)
  have f1 : w1 h = some (.inr (ciS, [.int (nI n), .ref aT, .ref aA, .ref aS])) := h1.2.1
  refine lv_aload_n hx hb d_S_putSameBytes_68 rfl (lv_at hl 0 rfl) ?_
  refine lv_iload_n hx hb d_S_putSameBytes_69 rfl (lv_at hl 1 rfl) ?_
  refine lv_iload_n hx hb d_S_putSameBytes_70 rfl (lv_at hl 2 rfl) ?_
  refine mc_v (va_runV (As := [.int (nI a), .int (nI b)]) (rest := []) ⟨hx, hb, hml, hown, htg⟩ (t_S_note l D cJ cI cP bs w1 h n Mc T ra rs aT aA aS pt1 h1 a b hab hbn hro h4) (cwV (own := R_S) (C := R_S) 2 htg (ginV k_257 k_259 k_9 k_25 k_260) rfl rfl rfl (by decide +kernel) ⟨Nat.le_of_ble_eq_true rfl, Nat.le_of_ble_eq_true rfl⟩) (mPc.preV (ci := ciS) (q := (R_S, T_S, 4)) hbs hS hP hK rfl f1) rfl rfl hl.1 rfl (lv_room (Nat.le_of_ble_eq_true rfl)) d_S_putSameBytes_71 ⟨Nat.le_of_ble_eq_true rfl, Nat.le_of_ble_eq_true rfl⟩) hS (fun w9 H locs hw hP hz71 hS => ?_)
  exact W.vret hx hb hr (fun t ht hW => ⟨⟨(w9, Mc, pt1), rfl, ⟨hw.1, h3, h2.trans hw.2⟩, hP.at ht⟩, hS.F ht⟩) hS.2.2 d_S_putSameBytes_74
end
section
/-- a byte in each of the eight places -/
def pat (v : Int32) : Int64 := (v &&& 255).toInt64 * 72340172838076673
abbrev inF (x y : Int64) (n a b : Nat) : Prop := x = lN (2147483648 + a) ∧ y = lN (2147483648 + b) ∧ a < b ∧ b ≤ 4096 * n
abbrev whyF (x y : Int64) (n : Nat) (E : String) : Prop := (E = eIA ∧ ¬ x ≤ y) ∨ (E = eIO ∧ x ≤ y ∧ ¬ y = x ∧ ¬ ∃ a b, inF x y n a b)
theorem inF_of {x y : Int64} {n : Nat} (hn : n ≤ 1024) (h0 : x ≤ y) (h1 : ¬ y = x) (h2 : ¬ x < 2147483648) (h3 : y ≤ lN (2147483648 + 4096 * n)) : ∃ a b, inF x y n a b := by
  obtain ⟨m, hm, rfl⟩ := pk_lOf (fun z => h2 (Int64.lt_of_lt_of_le z (by decide)))
  have e1 : ¬ m < 2147483648 := fun z => h2 ((pk_lLT (b := 2147483648) hm (by omega)).mpr z)
  obtain ⟨q, hq, rfl⟩ := pk_lOf (x := y) (fun z => h2 (Int64.lt_of_le_of_lt h0 (Int64.lt_of_lt_of_le z (by decide))))
  have e2 : m ≤ q := (pk_lLE hm hq).mp h0
  have e3 : ¬ q = m := fun z => h1 (by rw [z])
  have e4 : q ≤ 2147483648 + 4096 * n := (pk_lLE hq (by omega)).mp h3
  exact ⟨m - 2147483648, q - 2147483648, by rw [show 2147483648 + (m - 2147483648) = m by omega], by rw [show 2147483648 + (q - 2147483648) = q by omega], by omega, by omega⟩
theorem inF_lo {x y : Int64} {n a b : Nat} (hn : n ≤ 1024) (h : inF x y n a b) : ¬ x < 2147483648 := by
  obtain ⟨rfl, rfl, h1, h2⟩ := h
  exact fun z => by
    have := (pk_lLT (a := 2147483648 + a) (b := 2147483648) (by omega) (by omega)).mp z
    omega
theorem inF_hi {x y : Int64} {n a b : Nat} (hn : n ≤ 1024) (h : inF x y n a b) : y ≤ lN (2147483648 + 4096 * n) := by
  obtain ⟨rfl, rfl, h1, h2⟩ := h
  exact (pk_lLE (by omega) (by omega)).mpr (by omega)
set_option maxHeartbeats 4000000 in
set_option maxRecDepth 100000 in
/-- fill -/
theorem t_S_fill (l : Launch) (hl0 : l.stackTraces = false) (D : va_G) (cJ cI cP : ClassId) (bs : Nat) (w : Nat → Option va_E) (h n : Nat) (M T : Nat → Int64) (ra : Nat → Int64) (rs : Nat → Int32) (aT aA aS : Nat) (pt : Nat → Option Nat) (hs : sm cJ cI cP w h n M T ra rs aT aA aS pt) (hro : rok ra n) (x y : Int64) (v : Int32) : vx_Met l y_S_fill ws_S_fill ({ frames := 6, cells := 1026, slots := 6144, locals := 131 }) (mPx D vwCl (mT cJ cI cP) bs w [.ref h, .long x, .long y, .int v]) (va_Qv (S := S3) (fun u => (y = x ∧ u = (w, M, pt)) ∨ (x ≤ y ∧ ¬ y = x ∧ ∃ a b, inF x y n a b ∧ sm cJ cI cP u.1 h n u.2.1 (tinc T (a / 4096) ((b - 1) / 4096 + 1)) (lost ra (a / 8) ((b - 1) / 8)) rs aT aA aS u.2.2 ∧ (∀ k z, z < 64 → bi (u.2.1 k) z = flB M a (b - 1) (pat v) k z) ∧ kp w u.1 (sfp w h) (sfp u.1 h))) (mB D vwCl bs (fun u => u.1)) (mA bs)) (xX D vwCl bs w (whyF x y n)) 1026 6144 (mA bs) := by
  refine vx_ofW (cc := c_S_fill) (maxL := 6) (ret := none) (by decide) rfl ?_
  intro p e s m args below meth c s₁ B hml hex hv
  obtain ⟨rfl, hbs, hP, hK, hE⟩ := hv
  have hx := B.exec
  have hb := B.bytes
  have hr := B.returns
  have htg : ∀ w ∈ gt, w.before _ s = true := fun w h => atoms_spec (ws := ws_S_fill) B.pre w (List.mem_cons_of_mem _ h)
  have hown : s.vm.findClass R_S = some m.cls := findClass_of_methodNamed B.named
  have hlocks := B.notSynchronized
  have hS : va_S (mA bs) s.heap s.heap [] := va_S.rf
  have hl := lv_entry ([.ref h, .long x, .long y, .int v]) (n := 6) (Nat.le_of_ble_eq_true rfl)
  rw [lg_entry_eq]
  generalize (lg_sl ([.ref h, .long x, .long y, .int v]) ++ List.replicate (6 - (lg_sl ([.ref h, .long x, .long y, .int v])).length) Slot.unset).toArray = ls at hl ⊢
  have hl : lv_has ls 6 [(0, .ref h), (1, .long x), (3, .long y), (5, .int v)] := hl
  obtain ⟨hn, s1, s2, s3, s4, s5, s6, s7⟩ := id hs
  have f1 : w h = some (.inr (ciS, [.int (nI n), .ref aT, .ref aA, .ref aS])) := s1
  refine lv_lload_n hx hb d_S_fill_0 rfl (lv_at hl 2 rfl) ?_
  refine lv_lload_n hx hb d_S_fill_1 rfl (lv_at hl 1 rfl) ?_
  refine lc_ge (tgt := 16) hx hb d_S_fill_2 d_S_fill_3 (by decide) (fun c2 => ?_) (fun c2 => ?_)
  · refine lv_lload_n hx hb d_S_fill_16 rfl (lv_at hl 2 rfl) ?_
    refine lv_lload_n hx hb d_S_fill_17 rfl (lv_at hl 1 rfl) ?_
    refine lc_ne (tgt := 23) hx hb d_S_fill_18 d_S_fill_19 (by decide) (fun c18 => ?_) (fun c18 => ?_)
    · refine lv_lload_n hx hb d_S_fill_23 rfl (lv_at hl 1 rfl) ?_
      refine lv_ldc2 (own := R_S) (v := 2147483648) hx hb hown (htg _ k_160) d_S_fill_24 ?_
      refine lc_lt (tgt := 40) hx hb d_S_fill_27 d_S_fill_28 (by decide) (fun c27 => ?_) (fun c27 => ?_)
      · exact mw_throw (E := eIO) hx hb hl0 hown htg hE (by decide +kernel) k_166 k_31 hE.2.2.2.2.2.2.1 g_IO ng_IO hE.2.2.1.2.1 ot_IO hP hS (hl.1.trans hml.symm) d_S_fill_40 d_S_fill_43 d_S_fill_44 d_S_fill_46 d_S_fill_49 hex (Nat.le_of_ble_eq_true rfl) (Nat.le_of_ble_eq_true rfl) (Nat.le_of_ble_eq_true rfl) (Nat.le_of_ble_eq_true rfl) hlocks (Or.inr ⟨rfl, c2, c18, fun ⟨a, b, q⟩ => by first | exact c36 (inF_hi hn.2 q) | exact inF_lo hn.2 q c27⟩) (Nat.le_of_ble_eq_true rfl) (Nat.le_of_ble_eq_true rfl)
      · refine lv_lload_n hx hb d_S_fill_31 rfl (lv_at hl 2 rfl) ?_
        refine lv_aload_n hx hb d_S_fill_32 rfl (lv_at hl 0 rfl) ?_
        refine mc_l (va_runV (As := []) (rest := [.long y]) ⟨hx, hb, hml, hown, htg⟩ (t_S_endAddress l D cJ cI cP bs w h n M T ra rs aT aA aS pt hs) (cwV (own := R_S) (C := R_S) 0 htg (ginV k_161 k_163 k_2 k_25 k_164) rfl rfl rfl (by decide +kernel) ⟨Nat.le_of_ble_eq_true rfl, Nat.le_of_ble_eq_true rfl⟩) (mPc.preV (ci := ciS) (q := (R_S, T_S, 4)) hbs hS hP hK rfl f1) rfl rfl hl.1 rfl (lv_room (Nat.le_of_ble_eq_true rfl)) d_S_fill_33 ⟨Nat.le_of_ble_eq_true rfl, Nat.le_of_ble_eq_true rfl⟩) hS (fun r33 u33 H locs hw hP hz33 hS => ?_)
        subst hw
        refine lc_le (tgt := 50) hx hb d_S_fill_36 d_S_fill_37 (by decide) (fun c36 => ?_) (fun c36 => ?_)
        · obtain ⟨a, b, hab⟩ := inF_of hn.2 c2 c18 c27 c36
          obtain ⟨rfl, rfl, hlt, hbn⟩ := id hab
          have hl : lv_has ls 6 [(0, .ref h), (1, .long (lN (2147483648 + a))), (3, .long (lN (2147483648 + b))), (5, .int v)] := hl
          refine lv_aload_n hx hb d_S_fill_50 rfl (lv_at hl 0 rfl) ?_
          refine lv_lload_n hx hb d_S_fill_51 rfl (lv_at hl 1 rfl) ?_
          refine mc_i (va_runS (As := [.long (lN (2147483648 + a))]) (rest := [.ref h]) ⟨hx, hb, hml, hown, htg⟩ (t_S_placeOf l D cJ cI cP bs w a) (cwS (own := R_S) 1 htg (ginS k_182 k_183 k_25 k_184) rfl rfl rfl (by decide +kernel) ⟨Nat.le_of_ble_eq_true rfl, Nat.le_of_ble_eq_true rfl⟩) (mPc.preS hbs hS hP hK) rfl rfl hl.1 rfl (lv_room (Nat.le_of_ble_eq_true rfl)) d_S_fill_52 ⟨Nat.le_of_ble_eq_true rfl, Nat.le_of_ble_eq_true rfl⟩) hS (fun r52 u52 H locs hw hP hz52 hS => ?_)
          subst hw
          refine lv_lload_n hx hb d_S_fill_55 rfl (lv_at hl 2 rfl) ?_
          refine lv_lconst (v := 1) hx hb d_S_fill_56 rfl ?_
          refine lv_lsub hx hb d_S_fill_57 ?_
          rw [show (lN (2147483648 + b)) - 1 = lN (2147483648 + (b - 1)) from (by show lN _ - lN 1 = _; rw [lN_sub (by omega)]; congr 1; omega)]
          refine mc_i (va_runS (As := [.long (lN (2147483648 + (b - 1)))]) (rest := [.int (nI a), .ref h]) ⟨hx, hb, hml, hown, htg⟩ (t_S_placeOf l D cJ cI cP bs w (b - 1)) (cwS (own := R_S) 1 htg (ginS k_182 k_183 k_25 k_184) rfl rfl rfl (by decide +kernel) ⟨Nat.le_of_ble_eq_true rfl, Nat.le_of_ble_eq_true rfl⟩) (mPc.preS hbs hS hP hK) rfl rfl hl.1 rfl (lv_room (Nat.le_of_ble_eq_true rfl)) d_S_fill_58 ⟨Nat.le_of_ble_eq_true rfl, Nat.le_of_ble_eq_true rfl⟩) hS (fun r58 u58 H locs hw hP hz58 hS => ?_)
          subst hw
          refine lv_iload hx hb d_S_fill_61 (lv_at hl 3 rfl) ?_
          refine lv_sipush (v := 255) hx hb d_S_fill_63 (by decide) ?_
          refine lv_iand hx hb d_S_fill_66 ?_
          refine lv_i2l hx hb d_S_fill_67 rfl ?_
          refine lv_ldc2 (own := R_S) (v := 72340172838076673) hx hb hown (htg _ k_277) d_S_fill_68 ?_
          refine lv_lmul hx hb d_S_fill_71 ?_
          change W _ _ _ _ _ _ _ _ _ _ _ _ _ _ _ (F0 m 72 ls (.long (pat v) :: [.int (nI (b - 1)), .int (nI a), .ref h]))
          refine mc_v (va_runV (As := [.int (nI a), .int (nI (b - 1)), .long (pat v)]) (rest := []) ⟨hx, hb, hml, hown, htg⟩ (t_S_psb l D cJ cI cP bs w h n M T ra rs aT aA aS pt hs a (b - 1) (by omega) (by omega) hro (pat v)) (cwV (own := R_S) (C := R_S) 3 htg (ginV k_278 k_280 k_11 k_25 k_281) rfl rfl rfl (by decide +kernel) ⟨Nat.le_of_ble_eq_true rfl, Nat.le_of_ble_eq_true rfl⟩) (mPx.preV (ci := ciS) (q := (R_S, T_S, 4)) hbs hS hP hK hE rfl f1) rfl rfl hl.1 rfl (lv_room (Nat.le_of_ble_eq_true rfl)) d_S_fill_72 ⟨Nat.le_of_ble_eq_true rfl, Nat.le_of_ble_eq_true rfl⟩) hS (fun uu H locs hw hP hz72 hS => ?_)
          refine vx_ret ?_
          exact W.vret hx hb hr (fun t ht hW => ⟨⟨uu, rfl, Or.inr ⟨c2, c18, a, b, hab, hw⟩, hP.at ht⟩, hS.F ht⟩) hS.2.2 d_S_fill_75
        · exact mw_throw (E := eIO) hx hb hl0 hown htg hE (by decide +kernel) k_166 k_31 hE.2.2.2.2.2.2.1 g_IO ng_IO hE.2.2.1.2.1 ot_IO hP hS (hl.1.trans hml.symm) d_S_fill_40 d_S_fill_43 d_S_fill_44 d_S_fill_46 d_S_fill_49 hex (Nat.le_of_ble_eq_true rfl) (Nat.le_of_ble_eq_true rfl) (Nat.le_of_ble_eq_true rfl) (Nat.le_of_ble_eq_true rfl) hlocks (Or.inr ⟨rfl, c2, c18, fun ⟨a, b, q⟩ => by first | exact c36 (inF_hi hn.2 q) | exact inF_lo hn.2 q c27⟩) (Nat.le_of_ble_eq_true rfl) (Nat.le_of_ble_eq_true rfl)
    · refine W.widen (k := 1026) (n := 6144) (Nat.zero_le _) (Nat.zero_le _) ?_
      refine vx_ret ?_
      exact W.vret hx hb hr (fun t ht hW => ⟨⟨(w, M, pt), rfl, Or.inl ⟨c18, rfl⟩, hP.at ht⟩, hS.F ht⟩) hS.2.2 d_S_fill_22
  · exact mw_throw (E := eIA) hx hb hl0 hown htg hE (by decide +kernel) k_88 k_30 hE.2.2.2.2.2.2.2.1 g_IA ng_IA hE.2.2.1.1 ot_IA hP hS (hl.1.trans hml.symm) d_S_fill_6 d_S_fill_9 d_S_fill_10 d_S_fill_12 d_S_fill_15 hex (Nat.le_of_ble_eq_true rfl) (Nat.le_of_ble_eq_true rfl) (Nat.le_of_ble_eq_true rfl) (Nat.le_of_ble_eq_true rfl) hlocks (Or.inl ⟨rfl, c2⟩) (Nat.le_of_ble_eq_true rfl) (Nat.le_of_ble_eq_true rfl)
/-- a word, byte by byte from the lowest -/
def swd (x : Int64) : Nat → Int64
  | 0 => x
  | q + 1 => ((swd x q).toUInt64 >>> ((8 : Int32).toInt64.toUInt64 &&& Int64.toUInt64 63)).toInt64
theorem swd_b (x : Int64) : ∀ q i, bi (swd x q) i = bi x (8 * q + i) := by
  intro q
  induction q with
  | zero => intro i; show bi x i = _; congr 1; omega
  | succ q ih =>
    intro i
    show bi (((swd x q).toUInt64 >>> ((nI 8).toInt64.toUInt64 &&& Int64.toUInt64 63)).toInt64) i = _
    rw [bi_ushr _ (by omega), ih]
    congr 1
    omega
theorem swd_z {x : Int64} {q : Nat} (h : swd x q = 0) : ∀ d, swd x (q + d) = 0 := by
  intro d
  apply bi_ext
  intro i hi
  rw [swd_b, bi_0, show 8 * (q + d) + i = 8 * q + (8 * d + i) by omega, ← swd_b, h, bi_0]
theorem swd_8 (x : Int64) : swd x 8 = 0 := by
  apply bi_ext
  intro i hi
  rw [swd_b, bi_0, bi_big (by omega)]
/-- what a byte adds to the sum -/
def wtk (Wd : Nat → Int64) (k : Nat) : Int64 := (swd (Wd (k / 8)) (k % 8) &&& 255) * lN (k + 1)
def tot (Wd : Nat → Int64) : Nat → Int64
  | 0 => 0
  | k + 1 => tot Wd k + wtk Wd k
theorem wtk_0 {Wd : Nat → Int64} {k : Nat} (h : swd (Wd (k / 8)) (k % 8) = 0) : wtk Wd k = 0 := by
  unfold wtk
  rw [h]
  show (0 &&& 255) * lN (k + 1) = (0 : Int64)
  rw [show (0 &&& 255 : Int64) = 0 from rfl, Int64.zero_mul]
theorem tot_z {Wd : Nat → Int64} {i q : Nat} (hq : q ≤ 8) (h : swd (Wd i) q = 0) : ∀ d, q + d ≤ 8 → tot Wd (8 * i + (q + d)) = tot Wd (8 * i + q) := by
  intro d
  induction d with
  | zero => intro _; rfl
  | succ d ih =>
    intro hd
    show tot Wd (8 * i + (q + d)) + wtk Wd (8 * i + (q + d)) = _
    rw [ih (by omega), wtk_0 (by rw [show (8 * i + (q + d)) / 8 = i by omega, show (8 * i + (q + d)) % 8 = q + d by omega]; exact swd_z h d), Int64.add_zero]
set_option maxHeartbeats 4000000 in
set_option maxRecDepth 100000 in
/-- weightedSum: the bytes of a word -/
theorem lp_P_ws1 {p : Program} {l : Launch} {e : Env} {s : State} {m : MethodId} {args : Array Value} {below : List Frame} {meth : Method} {c : Code} {Q : State → Prop} {D : va_G} {cJ cI cP : ClassId} {bs : Nat} (hx : p.tables.exec = Jvm.exec) (hb : c.code = c_P_weightedSum) (hml : c.maxLocals = 7) (hown : s.vm.findClass R_P = some m.cls) (htg : ∀ w ∈ gt, w.before args s = true) (hK : va_K D vwCl (mT cJ cI cP) s) (hbs : bs ≤ s.heap.size) (w : Nat → Option va_E) (pa : Nat) (Wd : Nat → Int64) (i : Nat) (hi : i < 512) (kx : ∀ (ls : Array Slot) (H : Heap) (locs : List Loc), mw D vwCl bs w H → va_S (mA bs) s.heap H locs → lv_has ls 7 [(1, .long (tot Wd (8 * i + 8))), (3, .int (nI i)), (0, .ref pa)] → W p l e ({ frames := 1, cells := 0, slots := 0, locals := 21 } : Room) s m args below meth c H locs 0 0 Q (F0 m 71 ls [])) :
    ∀ (k : Nat) (q : Nat) (ls : Array Slot) (H : Heap) (locs : List Loc), 8 - q < k → q ≤ 8 → mw D vwCl bs w H → va_S (mA bs) s.heap H locs → lv_has ls 7 [(6, .int (nI (8 * i + 1 + q))), (4, .long (swd (Wd i) q)), (1, .long (tot Wd (8 * i + q))), (3, .int (nI i)), (0, .ref pa)] → W p l e ({ frames := 1, cells := 0, slots := 0, locals := 21 } : Room) s m args below meth c H locs 0 0 Q (F0 m 26 ls []) := by
  intro k
  induction k with
  | zero => intro q ls H locs hk0; exact absurd hk0 (by omega)
  | succ k ih =>
    intro q ls H locs hk hq hP hS hl
    refine lv_lload hx hb d_P_weightedSum_26 (lv_at hl 1 rfl) ?_
    refine lv_lconst (v := 0) hx hb d_P_weightedSum_28 rfl ?_
    refine lc_eq (tgt := 71) hx hb d_P_weightedSum_29 d_P_weightedSum_30 (by decide) (fun c29 => ?_) (fun c29 => ?_)
    · have et := tot_z hq c29 (8 - q) (by omega)
      rw [show q + (8 - q) = 8 by omega] at et
      exact kx ls H locs hP hS (by rw [et]; exact lv_sub hl [2, 3, 4] rfl)
    · refine lv_iload hx hb d_P_weightedSum_33 (lv_at hl 0 rfl) ?_
      refine lv_bipush (v := 8) hx hb d_P_weightedSum_35 (by decide) ?_
      refine lv_iload_n hx hb d_P_weightedSum_37 rfl (lv_at hl 3 rfl) ?_
      refine lv_imul hx hb d_P_weightedSum_38 ?_
      refine lv_bipush (v := 8) hx hb d_P_weightedSum_39 (by decide) ?_
      refine lv_iadd hx hb d_P_weightedSum_41 ?_
      rw [show (8 * (nI i)) + 8 = nI (8 * i + 8) from (by show nI 8 * nI i + nI 8 = _; rw [pk_mul, nI_add])]
      refine lv_icmp_gt (tgt := 71) hx hb d_P_weightedSum_42 (by decide) (fun c42 => ?_) (fun c42 => ?_)
      · have e8 : q = 8 := by
          have := (nI_ltI (by omega) (by omega)).mp c42
          omega
        subst e8
        exact kx ls H locs hP hS (lv_sub hl [2, 3, 4] rfl)
      · have hq8 : q < 8 := by
          rcases Nat.lt_or_ge q 8 with z | z
          · exact z
          · exact absurd (nI_lt (show 8 * i + 8 < 8 * i + 1 + q by omega) (by omega)) c42
        refine lv_lload_n hx hb d_P_weightedSum_45 rfl (lv_at hl 2 rfl) ?_
        refine lv_lload hx hb d_P_weightedSum_46 (lv_at hl 1 rfl) ?_
        refine lv_ldc2 (own := R_P) (v := 255) hx hb hown (htg _ k_403) d_P_weightedSum_48 ?_
        refine lv_land hx hb d_P_weightedSum_51 ?_
        refine lv_iload hx hb d_P_weightedSum_52 (lv_at hl 0 rfl) ?_
        refine lv_i2l hx hb d_P_weightedSum_54 rfl ?_
        refine lv_lmul hx hb d_P_weightedSum_55 ?_
        refine lv_ladd hx hb d_P_weightedSum_56 ?_
        refine lv_topl (fun x_1 ex_1 => ?_)
        refine lv_lstore_n (lv' := [(1, .long x_1), (6, .int (nI (8 * i + 1 + q))), (4, .long (swd (Wd i) q)), (3, .int (nI i)), (0, .ref pa)]) hx hb d_P_weightedSum_57 rfl hl (by decide) rfl (fun ls hl => ?_)
        refine lv_lload hx hb d_P_weightedSum_58 (lv_at hl 2 rfl) ?_
        refine lv_bipush (v := 8) hx hb d_P_weightedSum_60 (by decide) ?_
        refine lv_lushr hx hb d_P_weightedSum_62 rfl ?_
        refine lv_topl (fun x_2 ex_2 => ?_)
        refine lv_lstore (lv' := [(4, .long x_2), (1, .long x_1), (6, .int (nI (8 * i + 1 + q))), (3, .int (nI i)), (0, .ref pa)]) hx hb d_P_weightedSum_63 hl (by decide) rfl (fun ls hl => ?_)
        obtain ⟨i_3, ei_3⟩ : ∃ y : Int32, y = (nI (8 * i + 1 + q)) + 1 := ⟨_, rfl⟩
        refine lv_iinc (v := i_3) (lv' := [(6, .int i_3), (4, .long x_2), (1, .long x_1), (3, .int (nI i)), (0, .ref pa)]) hx hb d_P_weightedSum_65 hl (k := 2) rfl (by rw [ei_3]; rfl) (by decide) rfl (fun ls hl => ?_)
        refine lv_goto (tgt := 26) hx hb d_P_weightedSum_68 (by decide) ?_
        have h6 : i_3 = nI (8 * i + 1 + (q + 1)) := by rw [ei_3, nI_1]; rfl
        have h4 : x_2 = swd (Wd i) (q + 1) := by rw [ex_2]; rfl
        have h1 : x_1 = tot Wd (8 * i + (q + 1)) := by
          rw [ex_1]
          show _ = tot Wd (8 * i + q) + wtk Wd (8 * i + q)
          unfold wtk
          rw [show (8 * i + q) / 8 = i by omega, show (8 * i + q) % 8 = q by omega, nI_l (by omega), show 8 * i + 1 + q = 8 * i + q + 1 by omega]
        rw [h6, h4, h1] at hl
        exact ih (q + 1) ls H locs (by omega) (by omega) hP hS (lv_sub hl [0, 1, 2, 3, 4] rfl)
set_option maxHeartbeats 4000000 in
set_option maxRecDepth 100000 in
/-- weightedSum: the words -/
theorem lp_P_ws2 {p : Program} {l : Launch} {e : Env} {s : State} {m : MethodId} {args : Array Value} {below : List Frame} {meth : Method} {c : Code} {Q : State → Prop} {D : va_G} {cJ cI cP : ClassId} {bs : Nat} (hx : p.tables.exec = Jvm.exec) (hb : c.code = c_P_weightedSum) (hml : c.maxLocals = 7) (hown : s.vm.findClass R_P = some m.cls) (htg : ∀ w ∈ gt, w.before args s = true) (hK : va_K D vwCl (mT cJ cI cP) s) (hbs : bs ≤ s.heap.size) (w : Nat → Option va_E) (pa : Nat) (Wd : Nat → Int64) (tw : Int64) (hp : pg cJ w pa Wd tw) (kx : ∀ (ls : Array Slot) (H : Heap) (locs : List Loc), mw D vwCl bs w H → va_S (mA bs) s.heap H locs → lv_has ls 7 [(1, .long (tot Wd 4096))] → W p l e ({ frames := 1, cells := 0, slots := 0, locals := 21 } : Room) s m args below meth c H locs 0 0 Q (F0 m 77 ls [])) :
    ∀ (k : Nat) (i : Nat) (ls : Array Slot) (H : Heap) (locs : List Loc), 512 - i < k → i ≤ 512 → mw D vwCl bs w H → va_S (mA bs) s.heap H locs → lv_has ls 7 [(1, .long (tot Wd (8 * i))), (3, .int (nI i)), (0, .ref pa)] → W p l e ({ frames := 1, cells := 0, slots := 0, locals := 21 } : Room) s m args below meth c H locs 0 0 Q (F0 m 4 ls []) := by
  intro k
  induction k with
  | zero => intro i ls H locs hk0; exact absurd hk0 (by omega)
  | succ k ih =>
    intro i ls H locs hk hi hP hS hl
    obtain ⟨wr, ev, ew, g1, g2⟩ := id hp
    refine lv_iload_n hx hb d_P_weightedSum_4 rfl (lv_at hl 1 rfl) ?_
    refine lv_sipush (v := 512) hx hb d_P_weightedSum_5 (by decide) ?_
    refine lv_icmp_ge (tgt := 77) hx hb d_P_weightedSum_8 (by decide) (fun c8 => ?_) (fun c8 => ?_)
    · have e5 : i = 512 := Nat.le_antisymm hi (Nat.le_of_not_lt (fun z => nI_ge z (by omega) (show nI 512 ≤ nI i from c8)))
      subst e5
      exact kx ls H locs hP hS (lv_sub hl [0] rfl)
    · have hlt : i < 512 := Nat.lt_of_not_le (fun z => c8 (show nI 512 ≤ nI i from nI_le z (by omega)))
      refine lv_aload_n hx hb d_P_weightedSum_11 rfl (lv_at hl 2 rfl) ?_
      refine lv_iload_n hx hb d_P_weightedSum_12 rfl (lv_at hl 1 rfl) ?_
      refine mc_l (va_runV (As := [.int (nI i)]) (rest := []) ⟨hx, hb, hml, hown, htg⟩ (t_P_wordAt l D cJ cI cP bs w pa Wd tw hp i hlt) (cwV (own := R_P) (C := R_P) 1 htg (ginV k_248 k_197 k_198 k_32 k_199) rfl rfl rfl (by decide +kernel) ⟨Nat.le_of_ble_eq_true rfl, Nat.le_of_ble_eq_true rfl⟩) (mPc.preV (ci := ciP) (q := (R_P, T_P, 5)) hbs hS hP hK rfl g1) rfl rfl hl.1 rfl (lv_room (Nat.le_of_ble_eq_true rfl)) d_P_weightedSum_13 ⟨Nat.le_of_ble_eq_true rfl, Nat.le_of_ble_eq_true rfl⟩) hS (fun r13 u13 H locs hw hP hz13 hS => ?_)
      subst hw
      refine lv_topl (fun x_1 ex_1 => ?_)
      refine lv_lstore (lv' := [(4, .long x_1), (1, .long (tot Wd (8 * i))), (3, .int (nI i)), (0, .ref pa)]) hx hb d_P_weightedSum_16 hl (by decide) rfl (fun ls hl => ?_)
      refine lv_bipush (v := 8) hx hb d_P_weightedSum_18 (by decide) ?_
      refine lv_iload_n hx hb d_P_weightedSum_20 rfl (lv_at hl 2 rfl) ?_
      refine lv_imul hx hb d_P_weightedSum_21 ?_
      refine lv_iconst (v := 1) hx hb d_P_weightedSum_22 (by decide) ?_
      refine lv_iadd hx hb d_P_weightedSum_23 ?_
      rw [show (8 * (nI i)) + 1 = nI (8 * i + 1 + 0) from (by show nI 8 * nI i + nI 1 = _; rw [pk_mul, nI_add])]
      refine lv_istore (lv' := [(6, .int (nI (8 * i + 1 + 0))), (4, .long x_1), (1, .long (tot Wd (8 * i))), (3, .int (nI i)), (0, .ref pa)]) hx hb d_P_weightedSum_24 hl (by decide) rfl (fun ls hl => ?_)
      rw [ex_1] at hl
      refine lp_P_ws1 (D := D) (cJ := cJ) (cI := cI) (cP := cP) (bs := bs) hx hb hml hown htg hK hbs w pa Wd i hlt (fun ls H locs hP hS hl => ?_) 9 0 ls H locs (by omega) (by omega) hP hS (lv_sub hl [0, 1, 2, 3, 4] rfl)
      obtain ⟨i_2, ei_2⟩ : ∃ y : Int32, y = (nI i) + 1 := ⟨_, rfl⟩
      refine lv_iinc (v := i_2) (lv' := [(3, .int i_2), (1, .long (tot Wd (8 * i + 8))), (0, .ref pa)]) hx hb d_P_weightedSum_71 hl (k := 1) rfl (by rw [ei_2]; rfl) (by decide) rfl (fun ls hl => ?_)
      refine lv_goto (tgt := 4) hx hb d_P_weightedSum_74 (by decide) ?_
      exact ih (i + 1) ls H locs (by omega) (by omega) hP hS (by rw [← nI_1 i, ← ei_2]; exact lv_sub hl [1, 0, 2] rfl)
set_option maxHeartbeats 4000000 in
set_option maxRecDepth 100000 in
/-- weightedSum -/
theorem t_P_ws (l : Launch) (D : va_G) (cJ cI cP : ClassId) (bs : Nat) (w : Nat → Option va_E) (pa : Nat) (Wd : Nat → Int64) (tw : Int64) (hp : pg cJ w pa Wd tw) : Met l y_P_weightedSum ws_P_weightedSum ({ frames := 1, cells := 0, slots := 0, locals := 21 }) (mPc D vwCl (mT cJ cI cP) bs w [.ref pa]) (va_Ql (S := Unit) (fun r _ => r = tot Wd 4096) (mB D vwCl bs (fun _ => w)) (mA bs)) 0 0 (mA bs) := by
  refine Met.ofW (cc := c_P_weightedSum) (maxL := 7) (ret := (some .long)) (by decide) rfl ?_
  intro p e s m args below meth c s₁ B hml hv
  obtain ⟨rfl, hbs, hP, hK⟩ := hv
  have hx := B.exec
  have hb := B.bytes
  have hr := B.returns
  have htg : ∀ w ∈ gt, w.before _ s = true := fun w h => atoms_spec (ws := ws_P_weightedSum) B.pre w (List.mem_cons_of_mem _ h)
  have hown : s.vm.findClass R_P = some m.cls := findClass_of_methodNamed B.named
  have hlocks := B.notSynchronized
  have hS : va_S (mA bs) s.heap s.heap [] := va_S.rf
  have hl := lv_entry ([.ref pa]) (n := 7) (Nat.le_of_ble_eq_true rfl)
  rw [lg_entry_eq]
  generalize (lg_sl ([.ref pa]) ++ List.replicate (7 - (lg_sl ([.ref pa])).length) Slot.unset).toArray = ls at hl ⊢
  have hl : lv_has ls 7 [(0, .ref pa)] := hl
  refine lv_lconst (v := 0) hx hb d_P_weightedSum_0 rfl ?_
  refine lv_lstore_n (lv' := [(1, .long 0), (0, .ref pa)]) hx hb d_P_weightedSum_1 rfl hl (by decide) rfl (fun ls hl => ?_)
  refine lv_iconst (v := 0) hx hb d_P_weightedSum_2 (by decide) ?_
  refine lv_istore_n (lv' := [(3, .int 0), (1, .long 0), (0, .ref pa)]) hx hb d_P_weightedSum_3 rfl hl (by decide) rfl (fun ls hl => ?_)
  refine lp_P_ws2 (D := D) (cJ := cJ) (cI := cI) (cP := cP) (bs := bs) hx hb hml hown htg hK hbs w pa Wd tw hp (fun ls H locs hP hS hl => ?_) 513 0 ls _ _ (by omega) (by omega) hP hS (lv_sub hl [1, 0, 2] rfl)
  refine lv_lload_n hx hb d_P_weightedSum_77 rfl (lv_at hl 0 rfl) ?_
  exact W.lret (v := tot Wd 4096) hx hb hr (fun t ht hW => ⟨⟨_, (), rfl, rfl, hP.at ht⟩, hS.F ht⟩) hS.2.2 d_P_weightedSum_78
end
section
theorem tot_0 {Wd : Nat → Int64} (h : ∀ j, j < 512 → Wd j = 0) : ∀ k, k ≤ 4096 → tot Wd k = 0 := by
  intro k
  induction k with
  | zero => intro _; rfl
  | succ k ih =>
    intro hk
    show tot Wd k + wtk Wd k = 0
    rw [ih (by omega), wtk_0 (by rw [h _ (by omega)]; exact Nat.zero_add (k % 8) ▸ swd_z (show swd 0 0 = 0 from rfl) (k % 8)), Int64.add_zero]
set_option maxHeartbeats 4000000 in
set_option maxRecDepth 100000 in
/-- sum -/
theorem t_S_sum (l : Launch) (hl0 : l.stackTraces = false) (D : va_G) (cJ cI cP : ClassId) (bs : Nat) (w : Nat → Option va_E) (h n : Nat) (M T : Nat → Int64) (ra : Nat → Int64) (rs : Nat → Int32) (aT aA aS : Nat) (pt : Nat → Option Nat) (hs : sm cJ cI cP w h n M T ra rs aT aA aS pt) (x : Int32) : vx_Met l y_S_sum ws_S_sum ({ frames := 6, cells := 1, slots := 6, locals := 90 }) (mPx D vwCl (mT cJ cI cP) bs w [.ref h, .int x]) (va_Ql (S := Unit) (fun r _ => ∃ i, i < n ∧ x = nI i ∧ r = tot (fun j => M (512 * i + j)) 4096) (mB D vwCl bs (fun _ => w)) (mA bs)) (xX D vwCl bs w (fun E => E = eIO ∧ ¬ ∃ i, i < n ∧ x = nI i)) 1 6 (mA bs) := by
  refine vx_ofW (cc := c_S_sum) (maxL := 3) (ret := (some .long)) (by decide) rfl ?_
  intro p e s m args below meth c s₁ B hml hex hv
  obtain ⟨rfl, hbs, hP, hK, hE⟩ := hv
  have hx := B.exec
  have hb := B.bytes
  have hr := B.returns
  have htg : ∀ w ∈ gt, w.before _ s = true := fun w h => atoms_spec (ws := ws_S_sum) B.pre w (List.mem_cons_of_mem _ h)
  have hown : s.vm.findClass R_S = some m.cls := findClass_of_methodNamed B.named
  have hlocks := B.notSynchronized
  have hS : va_S (mA bs) s.heap s.heap [] := va_S.rf
  have hl := lv_entry ([.ref h, .int x]) (n := 3) (Nat.le_of_ble_eq_true rfl)
  rw [lg_entry_eq]
  generalize (lg_sl ([.ref h, .int x]) ++ List.replicate (3 - (lg_sl ([.ref h, .int x])).length) Slot.unset).toArray = ls at hl ⊢
  have hl : lv_has ls 3 [(0, .ref h), (1, .int x)] := hl
  obtain ⟨hn, s1, s2, s3, s4, s5, s6, s7⟩ := id hs
  have f1 : w h = some (.inr (ciS, [.int (nI n), .ref aT, .ref aA, .ref aS])) := s1
  refine lv_aload_n hx hb d_S_sum_0 rfl (lv_at hl 0 rfl) ?_
  refine lv_iload_n hx hb d_S_sum_1 rfl (lv_at hl 1 rfl) ?_
  refine mc_i (va_runV (As := [.int x]) (rest := []) ⟨hx, hb, hml, hown, htg⟩ (t_S_isPage l D cJ cI cP bs w h n M T ra rs aT aA aS pt hs x) (cwV (own := R_S) (C := R_S) 1 htg (ginV k_383 k_385 k_16 k_25 k_386) rfl rfl rfl (by decide +kernel) ⟨Nat.le_of_ble_eq_true rfl, Nat.le_of_ble_eq_true rfl⟩) (mPc.preV (ci := ciS) (q := (R_S, T_S, 4)) hbs hS hP hK rfl f1) rfl rfl hl.1 rfl (lv_room (Nat.le_of_ble_eq_true rfl)) d_S_sum_2 ⟨Nat.le_of_ble_eq_true rfl, Nat.le_of_ble_eq_true rfl⟩) hS (fun r2 u2 H locs hw hP hz2 hS => ?_)
  have hpg := hw
  refine lv_if_ne (tgt := 18) hx hb d_S_sum_5 (by decide) (fun c5 => ?_) (fun c5 => ?_)
  · obtain ⟨i, hi, rfl⟩ : ∃ i, i < n ∧ x = nI i := by
      rcases hpg with z | z
      · exact z.2
      · exact absurd z.1 c5
    have hl : lv_has ls 3 [(0, .ref h), (1, .int (nI i))] := hl
    refine lv_aload_n hx hb d_S_sum_18 rfl (lv_at hl 0 rfl) ?_
    refine mw_get (C := R_S) (T := T_S) (N := 4) (ci := ciS) (v := .ref aT) hx hb htg i_S hown hK hP f1 rfl 1 (by decide) (htg _ k_47) (fun _ h9 => h9) rfl d_S_sum_19 ?_
    refine lv_iload_n hx hb d_S_sum_22 rfl (lv_at hl 1 rfl) ?_
    refine mw_aldq hx hb hK hP 2 s2 rfl (vp_in_nI hi (by omega)) d_S_sum_23 ?_
    rw [show (nI i).toNatClampNeg = i from nI_clamp (by omega)]
    rcases hpt : pt i with _ | pz
    · refine lv_astore_nN (lv' := [(2, .null), (0, .ref h), (1, .int (nI i))]) hx hb d_S_sum_24 rfl hl (by decide) rfl (fun ls hl => ?_)
      refine lv_aload_nN hx hb d_S_sum_25 rfl (lv_at hl 0 rfl) ?_
      refine lv_ifnonnullN hx hb d_S_sum_26 ?_
      refine lv_lconst (v := 0) hx hb d_S_sum_29 rfl ?_
      refine lv_goto (tgt := 37) hx hb d_S_sum_30 (by decide) ?_
      refine W.widen (k := 1) (n := 6) (Nat.zero_le _) (Nat.zero_le _) ?_
      refine vx_ret ?_
      exact W.lret (v := 0) hx hb hr (fun t ht hW => ⟨⟨_, (), rfl, ⟨i, hi, rfl, (tot_0 (fun j hj => (s5 i hi hpt).2 j hj) 4096 (Nat.le_refl _)).symm⟩, hP.at ht⟩, hS.F ht⟩) hS.2.2 d_S_sum_37
    · obtain ⟨wr, ev, ew, y1, y2⟩ := s6 i pz hi hpt
      refine lv_astore_n (lv' := [(2, .ref pz), (0, .ref h), (1, .int (nI i))]) hx hb d_S_sum_24 rfl hl (by decide) rfl (fun ls hl => ?_)
      refine lv_aload_n hx hb d_S_sum_25 rfl (lv_at hl 0 rfl) ?_
      refine lv_ifnonnull (tgt := 33) hx hb d_S_sum_26 (by decide) ?_
      refine lv_aload_n hx hb d_S_sum_33 rfl (lv_at hl 0 rfl) ?_
      refine mc_l (va_runV (As := []) (rest := []) ⟨hx, hb, hml, hown, htg⟩ (t_P_ws l D cJ cI cP bs w pz (fun j => M (512 * i + j)) (T i) (s6 i pz hi hpt)) (cwV (own := R_S) (C := R_P) 0 htg (ginV k_399 k_400 k_401 k_32 k_402) rfl rfl rfl (by decide +kernel) ⟨Nat.le_of_ble_eq_true rfl, Nat.le_of_ble_eq_true rfl⟩) (mPc.preV (ci := ciP) (q := (R_P, T_P, 5)) hbs hS hP hK rfl y1) rfl rfl hl.1 rfl (lv_room (Nat.le_of_ble_eq_true rfl)) d_S_sum_34 ⟨Nat.le_of_ble_eq_true rfl, Nat.le_of_ble_eq_true rfl⟩) hS (fun r34 u34 H locs hw hP hz34 hS => ?_)
      refine W.widen (k := 1) (n := 6) (Nat.zero_le _) (Nat.zero_le _) ?_
      refine vx_ret ?_
      exact W.lret (v := r34) hx hb hr (fun t ht hW => ⟨⟨_, (), rfl, ⟨i, hi, rfl, hw⟩, hP.at ht⟩, hS.F ht⟩) hS.2.2 d_S_sum_37
  · have hno : ¬ ∃ i, i < n ∧ x = nI i := by
      rcases hpg with z | z
      · rw [z.1] at c5; exact absurd c5 (by decide)
      · exact z.2
    exact mw_throw (E := eIO) hx hb hl0 hown htg hE (by decide +kernel) k_166 k_31 hE.2.2.2.2.2.2.2.2.2.2.2.2 g_IO ng_IO hE.2.2.1.2.1 ot_IO hP hS (hl.1.trans hml.symm) d_S_sum_8 d_S_sum_11 d_S_sum_12 d_S_sum_14 d_S_sum_17 hex (Nat.le_of_ble_eq_true rfl) (Nat.le_of_ble_eq_true rfl) (Nat.le_of_ble_eq_true rfl) (Nat.le_of_ble_eq_true rfl) hlocks (⟨rfl, hno⟩) (Nat.le_of_ble_eq_true rfl) (Nat.le_of_ble_eq_true rfl)
/-- how many of the first pages have a word that is not 0 -/
def usd (M : Nat → Int64) : Nat → Nat
  | 0 => 0
  | i + 1 => usd M i + (if nzc (fun j => M (512 * i + j)) 512 = 0 then 0 else 1)
theorem usd_le (M : Nat → Int64) : ∀ i, usd M i ≤ i := by
  intro i
  induction i with
  | zero => exact Nat.le_refl _
  | succ i ih =>
    show usd M i + (if nzc (fun j => M (512 * i + j)) 512 = 0 then 0 else 1) ≤ i + 1
    split <;> omega
set_option maxHeartbeats 4000000 in
set_option maxRecDepth 100000 in
/-- used: its loop -/
theorem lp_S_used {p : Program} {l : Launch} {e : Env} {s : State} {m : MethodId} {args : Array Value} {below : List Frame} {meth : Method} {c : Code} {Q : State → Prop} {D : va_G} {cJ cI cP : ClassId} {bs : Nat} (hx : p.tables.exec = Jvm.exec) (hb : c.code = c_S_used) (hml : c.maxLocals = 4) (hown : s.vm.findClass R_S = some m.cls) (htg : ∀ w ∈ gt, w.before args s = true) (hK : va_K D vwCl (mT cJ cI cP) s) (hbs : bs ≤ s.heap.size) (w : Nat → Option va_E) (h n : Nat) (M T : Nat → Int64) (ra : Nat → Int64) (rs : Nat → Int32) (aT aA aS : Nat) (pt : Nat → Option Nat) (hs : sm cJ cI cP w h n M T ra rs aT aA aS pt) (kx : ∀ (ls : Array Slot) (H : Heap) (locs : List Loc), mw D vwCl bs w H → va_S (mA bs) s.heap H locs → lv_has ls 4 [(1, .int (nI (usd M n)))] → W p l e ({ frames := 1, cells := 0, slots := 0, locals := 20 } : Room) s m args below meth c H locs 0 0 Q (F0 m 39 ls [])) :
    ∀ (k : Nat) (i : Nat) (ls : Array Slot) (H : Heap) (locs : List Loc), n - i < k → i ≤ n → mw D vwCl bs w H → va_S (mA bs) s.heap H locs → lv_has ls 4 [(1, .int (nI (usd M i))), (2, .int (nI i)), (0, .ref h)] → W p l e ({ frames := 1, cells := 0, slots := 0, locals := 20 } : Room) s m args below meth c H locs 0 0 Q (F0 m 4 ls []) := by
  intro k
  induction k with
  | zero => intro i ls H locs hk0; exact absurd hk0 (by omega)
  | succ k ih =>
    intro i ls H locs hk hin hP hS hl
    obtain ⟨hn, s1, s2, s3, s4, s5, s6, s7⟩ := id hs
    have f1 : w h = some (.inr (ciS, [.int (nI n), .ref aT, .ref aA, .ref aS])) := s1
    refine lv_iload_n hx hb d_S_used_4 rfl (lv_at hl 1 rfl) ?_
    refine lv_aload_n hx hb d_S_used_5 rfl (lv_at hl 2 rfl) ?_
    refine mw_get (C := R_S) (T := T_S) (N := 4) (ci := ciS) (v := .int (nI n)) hx hb htg i_S hown hK hP f1 rfl 0 (by decide) (htg _ k_46) (fun _ h9 => h9) rfl d_S_used_6 ?_
    refine lv_icmp_ge (tgt := 39) hx hb d_S_used_9 (by decide) (fun c9 => ?_) (fun c9 => ?_)
    · have e5 : i = n := Nat.le_antisymm hin (Nat.le_of_not_lt (fun z => nI_ge z (by omega) c9))
      subst e5
      exact kx ls H locs hP hS (lv_sub hl [0] rfl)
    · have hi : i < n := Nat.lt_of_not_le (fun z => c9 (nI_le z (by omega)))
      refine lv_aload_n hx hb d_S_used_12 rfl (lv_at hl 2 rfl) ?_
      refine mw_get (C := R_S) (T := T_S) (N := 4) (ci := ciS) (v := .ref aT) hx hb htg i_S hown hK hP f1 rfl 1 (by decide) (htg _ k_47) (fun _ h9 => h9) rfl d_S_used_13 ?_
      refine lv_iload_n hx hb d_S_used_16 rfl (lv_at hl 1 rfl) ?_
      refine mw_aldq hx hb hK hP 2 s2 rfl (vp_in_nI hi (by omega)) d_S_used_17 ?_
      rw [show (nI i).toNatClampNeg = i from nI_clamp (by omega)]
      rcases hpt : pt i with _ | pz
      · refine lv_astore_nN (lv' := [(3, .null), (1, .int (nI (usd M i))), (2, .int (nI i)), (0, .ref h)]) hx hb d_S_used_18 rfl hl (by decide) rfl (fun ls hl => ?_)
        refine lv_aload_nN hx hb d_S_used_19 rfl (lv_at hl 0 rfl) ?_
        refine lv_ifnullN (tgt := 33) hx hb d_S_used_20 (by decide) ?_
        obtain ⟨i_1, ei_1⟩ : ∃ y : Int32, y = (nI i) + 1 := ⟨_, rfl⟩
        refine lv_iinc (v := i_1) (lv' := [(2, .int i_1), (3, .null), (1, .int (nI (usd M i))), (0, .ref h)]) hx hb d_S_used_33 hl (k := 2) rfl (by rw [ei_1]; rfl) (by decide) rfl (fun ls hl => ?_)
        refine lv_goto (tgt := 4) hx hb d_S_used_36 (by decide) ?_
        have hu : nI (usd M i) = nI (usd M (i + 1)) := by
          show nI (usd M i) = nI (usd M i + (if nzc (fun j => M (512 * i + j)) 512 = 0 then 0 else 1))
          rw [if_pos ((nzc_0 _ 512).mpr (fun j hj => (s5 i hi hpt).2 j hj))]
          rfl
        exact ih (i + 1) ls H locs (by omega) (by omega) hP hS (by rw [← nI_1 i, ← ei_1, ← hu]; exact lv_sub hl [2, 0, 3] rfl)
      · obtain ⟨wr, ev, ew, y1, y2⟩ := s6 i pz hi hpt
        refine lv_astore_n (lv' := [(3, .ref pz), (1, .int (nI (usd M i))), (2, .int (nI i)), (0, .ref h)]) hx hb d_S_used_18 rfl hl (by decide) rfl (fun ls hl => ?_)
        refine lv_aload_n hx hb d_S_used_19 rfl (lv_at hl 0 rfl) ?_
        refine lv_ifnull hx hb d_S_used_20 ?_
        refine lv_aload_n hx hb d_S_used_23 rfl (lv_at hl 0 rfl) ?_
        refine mc_i (va_runV (As := []) (rest := []) ⟨hx, hb, hml, hown, htg⟩ (t_P_isBlank l D cJ cI cP bs w pz (fun j => M (512 * i + j)) (T i) (s6 i pz hi hpt)) (cwV (own := R_S) (C := R_P) 0 htg (ginV k_69 k_70 k_71 k_32 k_72) rfl rfl rfl (by decide +kernel) ⟨Nat.le_of_ble_eq_true rfl, Nat.le_of_ble_eq_true rfl⟩) (mPc.preV (ci := ciP) (q := (R_P, T_P, 5)) hbs hS hP hK rfl y1) rfl rfl hl.1 rfl (lv_room (Nat.le_of_ble_eq_true rfl)) d_S_used_24 ⟨Nat.le_of_ble_eq_true rfl, Nat.le_of_ble_eq_true rfl⟩) hS (fun r24 u24 H locs hw hP hz24 hS => ?_)
        refine lv_if_ne (tgt := 33) hx hb d_S_used_27 (by decide) (fun c27 => ?_) (fun c27 => ?_)
        · obtain ⟨i_2, ei_2⟩ : ∃ y : Int32, y = (nI i) + 1 := ⟨_, rfl⟩
          refine lv_iinc (v := i_2) (lv' := [(2, .int i_2), (3, .ref pz), (1, .int (nI (usd M i))), (0, .ref h)]) hx hb d_S_used_33 hl (k := 2) rfl (by rw [ei_2]; rfl) (by decide) rfl (fun ls hl => ?_)
          refine lv_goto (tgt := 4) hx hb d_S_used_36 (by decide) ?_
          have hu : nI (usd M i) = nI (usd M (i + 1)) := by
            show nI (usd M i) = nI (usd M i + (if nzc (fun j => M (512 * i + j)) 512 = 0 then 0 else 1))
            rw [if_pos (Classical.byContradiction (fun z => by rw [if_neg z] at hw; exact c27 hw))]
            rfl
          exact ih (i + 1) ls H locs (by omega) (by omega) hP hS (by rw [← nI_1 i, ← ei_2, ← hu]; exact lv_sub hl [2, 0, 3] rfl)
        · obtain ⟨i_3, ei_3⟩ : ∃ y : Int32, y = (nI (usd M i)) + 1 := ⟨_, rfl⟩
          refine lv_iinc (v := i_3) (lv' := [(1, .int i_3), (3, .ref pz), (2, .int (nI i)), (0, .ref h)]) hx hb d_S_used_30 hl (k := 1) rfl (by rw [ei_3]; rfl) (by decide) rfl (fun ls hl => ?_)
          obtain ⟨i_4, ei_4⟩ : ∃ y : Int32, y = (nI i) + 1 := ⟨_, rfl⟩
          refine lv_iinc (v := i_4) (lv' := [(2, .int i_4), (1, .int i_3), (3, .ref pz), (0, .ref h)]) hx hb d_S_used_33 hl (k := 2) rfl (by rw [ei_4]; rfl) (by decide) rfl (fun ls hl => ?_)
          refine lv_goto (tgt := 4) hx hb d_S_used_36 (by decide) ?_
          have hu : i_3 = nI (usd M (i + 1)) := by
            rw [ei_3, nI_1]
            show nI (usd M i + 1) = nI (usd M i + (if nzc (fun j => M (512 * i + j)) 512 = 0 then 0 else 1))
            rw [if_neg (fun z => by rw [if_pos z] at hw; rw [hw] at c27; exact absurd c27 (by decide))]
          exact ih (i + 1) ls H locs (by omega) (by omega) hP hS (by rw [← nI_1 i, ← ei_4, ← hu]; exact lv_sub hl [1, 0, 3] rfl)
set_option maxHeartbeats 4000000 in
set_option maxRecDepth 100000 in
/-- used -/
theorem t_S_used (l : Launch) (D : va_G) (cJ cI cP : ClassId) (bs : Nat) (w : Nat → Option va_E) (h n : Nat) (M T : Nat → Int64) (ra : Nat → Int64) (rs : Nat → Int32) (aT aA aS : Nat) (pt : Nat → Option Nat) (hs : sm cJ cI cP w h n M T ra rs aT aA aS pt) : Met l y_S_used ws_S_used ({ frames := 1, cells := 0, slots := 0, locals := 20 }) (mPc D vwCl (mT cJ cI cP) bs w [.ref h]) (va_Qi (S := Unit) (fun r _ => r = nI (usd M n)) (mB D vwCl bs (fun _ => w)) (mA bs)) 0 0 (mA bs) := by
  refine Met.ofW (cc := c_S_used) (maxL := 4) (ret := (some .int)) (by decide) rfl ?_
  intro p e s m args below meth c s₁ B hml hv
  obtain ⟨rfl, hbs, hP, hK⟩ := hv
  have hx := B.exec
  have hb := B.bytes
  have hr := B.returns
  have htg : ∀ w ∈ gt, w.before _ s = true := fun w h => atoms_spec (ws := ws_S_used) B.pre w (List.mem_cons_of_mem _ h)
  have hown : s.vm.findClass R_S = some m.cls := findClass_of_methodNamed B.named
  have hlocks := B.notSynchronized
  have hS : va_S (mA bs) s.heap s.heap [] := va_S.rf
  have hl := lv_entry ([.ref h]) (n := 4) (Nat.le_of_ble_eq_true rfl)
  rw [lg_entry_eq]
  generalize (lg_sl ([.ref h]) ++ List.replicate (4 - (lg_sl ([.ref h])).length) Slot.unset).toArray = ls at hl ⊢
  have hl : lv_has ls 4 [(0, .ref h)] := hl
  obtain ⟨hn, s1, s2, s3, s4, s5, s6, s7⟩ := id hs
  have f1 : w h = some (.inr (ciS, [.int (nI n), .ref aT, .ref aA, .ref aS])) := s1
  refine lv_iconst (v := 0) hx hb d_S_used_0 (by decide) ?_
  refine lv_istore_n (lv' := [(1, .int 0), (0, .ref h)]) hx hb d_S_used_1 rfl hl (by decide) rfl (fun ls hl => ?_)
  refine lv_iconst (v := 0) hx hb d_S_used_2 (by decide) ?_
  refine lv_istore_n (lv' := [(2, .int 0), (1, .int 0), (0, .ref h)]) hx hb d_S_used_3 rfl hl (by decide) rfl (fun ls hl => ?_)
  refine lp_S_used (D := D) (cJ := cJ) (cI := cI) (cP := cP) (bs := bs) hx hb hml hown htg hK hbs w h n M T ra rs aT aA aS pt hs (fun ls H locs hP hS hl => ?_) (n + 1) 0 ls _ _ (by omega) (by omega) hP hS (lv_sub hl [1, 0, 2] rfl)
  refine lv_iload_n hx hb d_S_used_39 rfl (lv_at hl 0 rfl) ?_
  exact W.iret (v := nI (usd M n)) hx hb hr (fun t ht hW => ⟨⟨_, (), rfl, rfl, hP.at ht⟩, hS.F ht⟩) hS.2.2 d_S_used_40
def pgs (x : Int32) : Nat := if x < 1 ∨ 1024 < x then 1024 else x.toNatClampNeg
theorem pgs_in (x : Int32) : 1 ≤ pgs x ∧ pgs x ≤ 1024 := by
  unfold pgs
  by_cases h : x < 1 ∨ 1024 < x
  · rw [if_pos h]; omega
  · rw [if_neg h]
    obtain ⟨j, hj, rfl⟩ := nI_of (x := x) (fun z => h (Or.inl (Int32.lt_of_lt_of_le z (by decide))))
    rw [nI_clamp hj]
    have a1 : ¬ j < 1 := fun z => h (Or.inl (show nI j < nI 1 from nI_lt z (by omega)))
    have a2 : ¬ 1024 < j := fun z => h (Or.inr (show nI 1024 < nI j from nI_lt z hj))
    omega
theorem pgs_ok {x : Int32} (h1 : ¬ x < 1) (h2 : ¬ 1024 < x) : x = nI (pgs x) := by
  unfold pgs
  rw [if_neg (fun z => z.elim h1 h2)]
  obtain ⟨j, hj, rfl⟩ := nI_of (x := x) (fun z => h1 (Int32.lt_of_lt_of_le z (by decide)))
  rw [nI_clamp hj]
theorem pgs_no {x : Int32} (h : x < 1 ∨ 1024 < x) : (1024 : Int32) = nI (pgs x) := by
  unfold pgs
  rw [if_pos h]
  rfl
set_option maxHeartbeats 4000000 in
set_option maxRecDepth 100000 in
/-- the constructor -/
theorem t_S_init (l : Launch) (D : va_G) (cJ cI cP : ClassId) (bs : Nat) (w : Nat → Option va_E) (h : Nat) (hh : w h = some (.inr (ciS, [.int 0, .null, .null, .null]))) (x : Int32) : Met l y_S_init ws_S_init ({ frames := 1, cells := 3, slots := 1032, locals := 20 }) (mPx D vwCl (mT cJ cI cP) bs w [.ref h, .int x]) (va_Qv (S := (Nat → Option va_E)) (fun u => ∃ aT aA aS, sm cJ cI cP u h (pgs x) (fun _ => 0) (fun _ => 0) (fun _ => 0) (fun _ => 0) aT aA aS (fun _ => none) ∧ (∀ q, ¬ w q = none → ¬ q = h → u q = w q) ∧ (∀ q, sfp u h q → q = h ∨ w q = none)) (mB D vwCl bs (fun u => u)) (mA bs)) 3 1032 (mA bs) := by
  refine Met.ofW (cc := c_S_init) (maxL := 2) (ret := none) (by decide) rfl ?_
  intro p e s m args below meth c s₁ B hml hv
  obtain ⟨rfl, hbs, hP, hK, hE⟩ := hv
  have hx := B.exec
  have hb := B.bytes
  have hr := B.returns
  have htg : ∀ w ∈ gt, w.before _ s = true := fun w h => atoms_spec (ws := ws_S_init) B.pre w (List.mem_cons_of_mem _ h)
  have hown : s.vm.findClass R_S = some m.cls := findClass_of_methodNamed B.named
  have hlocks := B.notSynchronized
  have hS : va_S (mA bs) s.heap s.heap [] := va_S.rf
  have hin : meth.name = "<init>" := (name_of_methodNamed B.named B.method).1
  have hl := lv_entry ([.ref h, .int x]) (n := 2) (Nat.le_of_ble_eq_true rfl)
  rw [lg_entry_eq]
  generalize (lg_sl ([.ref h, .int x]) ++ List.replicate (2 - (lg_sl ([.ref h, .int x])).length) Slot.unset).toArray = ls at hl ⊢
  have hl : lv_has ls 2 [(0, .ref h), (1, .int x)] := hl
  have hpi := pgs_in x
  obtain ⟨n, en⟩ : ∃ z9, z9 = pgs x := ⟨_, rfl⟩
  rw [← en] at hpi
  have hP0 := hP
  refine lv_aload_n hx hb d_S_init_0 rfl (lv_at hl 0 rfl) ?_
  refine W.objInit hx hb hown (htg _ k_41) (htg _ k_42) (htg _ k_43) rfl (by rw [hml]; exact hl.1) rfl d_S_init_1 (Nat.le_of_ble_eq_true rfl) (Nat.le_of_ble_eq_true rfl) ?_
  refine W.eq (g2 := F0 m 4 ls []) rfl ?_
  refine lv_aload_n hx hb d_S_init_4 rfl (lv_at hl 0 rfl) ?_
  refine lv_iload_n hx hb d_S_init_5 rfl (lv_at hl 1 rfl) ?_
  refine lv_iconst (v := 1) hx hb d_S_init_6 (by decide) ?_
  refine lv_icmp_lt (tgt := 21) hx hb d_S_init_7 (by decide) (fun c7 => ?_) (fun c7 => ?_)
  · refine lv_sipush (v := 1024) hx hb d_S_init_21 (by decide) ?_
    rw [show 1024 = nI n from (by rw [en]; exact pgs_no (by first | exact Or.inr c14 | exact Or.inl c7))]
    refine mw_putF (C := R_S) (T := T_S) (N := 4) (ci := ciS) (v := .int (nI n)) (ty := .int) (fs' := [.int (nI n), .null, .null, .null]) hx hb htg i_S ty_S tk_S nm_S hown hK hP hS hh rfl 0 (by decide) (htg _ k_46) (fun _ h9 => h9) rfl hin rfl (by decide +kernel) rfl rfl (Nat.le_of_ble_eq_true rfl) rfl d_S_init_24 (fun H locs hP hS hz24 => ?_)
    obtain ⟨w_1, ew_1⟩ : ∃ z9, z9 = va_up w h (some (.inr (ciS, [.int (nI n), .null, .null, .null])) : Option va_E) := ⟨_, rfl⟩
    rw [← ew_1] at hP
    have h_2 : w_1 h = some (.inr (ciS, [.int (nI n), .null, .null, .null])) := by rw [ew_1, va_up_self]
    refine lv_aload_n hx hb d_S_init_27 rfl (lv_at hl 0 rfl) ?_
    refine lv_aload_n hx hb d_S_init_28 rfl (lv_at hl 0 rfl) ?_
    refine mw_get (C := R_S) (T := T_S) (N := 4) (ci := ciS) (v := .int (nI n)) hx hb htg i_S hown hK hP h_2 rfl 0 (by decide) (htg _ k_46) (fun _ h9 => h9) rfl d_S_init_29 ?_
    have hS01 := hS
    refine mw_newq (C := R_P) (N' := n) hx hb hown (htg _ k_44) (va_AO.use hE.1.2) hK hP hS hbs 2 (cA := cP) rfl (nI_pos (by omega)) (nI_clamp (by omega)) (by omega) (by show 0 + 1 ≤ 3; omega) (by show 0 + n ≤ 1032; omega) d_S_init_32 (fun q_t H nq_t eq_t hP hS hz32 => ?_)
    obtain ⟨w_3, ew_3⟩ : ∃ z9, z9 = va_up w_1 q_t (some (.inl (cP, n, .inr (.inr (.inr (.inr (fun _ => none)))))) : Option va_E) := ⟨_, rfl⟩
    rw [← ew_3] at hP
    have h_4 : w_3 q_t = some (.inl (cP, n, .inr (.inr (.inr (.inr (fun _ => none)))))) := by rw [ew_3, va_up_self]
    have h_5 : w_3 h = some (.inr (ciS, [.int (nI n), .null, .null, .null])) := by rw [ew_3, va_up_ne _ _ (fun z => by rw [z, nq_t] at h_2; cases h_2)]; exact h_2
    have mq_t : w q_t = none := hP0.fresh (by rw [eq_t]; exact hS01.1)
    refine mw_putF (C := R_S) (T := T_S) (N := 4) (ci := ciS) (v := .ref q_t) (ty := .array (.object "SharedMemory$Page")) (fs' := [.int (nI n), .ref q_t, .null, .null]) hx hb htg i_S ty_S tk_S nm_S hown hK hP hS h_5 rfl 1 (by decide) (htg _ k_47) (fun _ h9 => h9) rfl hin rfl (by decide +kernel) rfl rfl (Nat.le_of_ble_eq_true rfl) rfl d_S_init_35 (fun H locs hP hS hz35 => ?_)
    obtain ⟨w_6, ew_6⟩ : ∃ z9, z9 = va_up w_3 h (some (.inr (ciS, [.int (nI n), .ref q_t, .null, .null])) : Option va_E) := ⟨_, rfl⟩
    rw [← ew_6] at hP
    have h_7 : w_6 h = some (.inr (ciS, [.int (nI n), .ref q_t, .null, .null])) := by rw [ew_6, va_up_self]
    have h_8 : w_6 q_t = some (.inl (cP, n, .inr (.inr (.inr (.inr (fun _ => none)))))) := by rw [ew_6, va_up_ne _ _ (fun z => by rw [z, h_5] at h_4; cases h_4)]; exact h_4
    refine lv_aload_n hx hb d_S_init_38 rfl (lv_at hl 0 rfl) ?_
    refine lv_iconst (v := 4) hx hb d_S_init_39 (by decide) ?_
    have hS02 := hS
    refine mw_newa (atype := .long) (ty := .long) (N' := 4) (a0 := (4, .inr (.inl (fun _ => 0)))) hx hb (htg _ k_59) rfl hK hP hS (hbs) 0 (cA := cJ) rfl rfl rfl (by decide) rfl (by decide) (Nat.le_of_ble_eq_true rfl) (by show 0 + n + 4 ≤ 1032; omega) d_S_init_40 (fun q_9 H nq_9 eq_9 hP hS hz40 => ?_)
    obtain ⟨w_10, ew_10⟩ : ∃ z9, z9 = va_up w_6 q_9 (some (.inl (cJ, 4, .inr (.inl (fun _ => 0)))) : Option va_E) := ⟨_, rfl⟩
    rw [← ew_10] at hP
    have h_11 : w_10 q_9 = some (.inl (cJ, 4, .inr (.inl (fun _ => 0)))) := by rw [ew_10, va_up_self]
    have h_12 : w_10 h = some (.inr (ciS, [.int (nI n), .ref q_t, .null, .null])) := by rw [ew_10, va_up_ne _ _ (fun z => by rw [z, nq_9] at h_7; cases h_7)]; exact h_7
    have h_13 : w_10 q_t = some (.inl (cP, n, .inr (.inr (.inr (.inr (fun _ => none)))))) := by rw [ew_10, va_up_ne _ _ (fun z => by rw [z, nq_9] at h_8; cases h_8)]; exact h_8
    have mq_9 : w q_9 = none := hP0.fresh (by rw [eq_9]; exact hS02.1)
    refine mw_putF (C := R_S) (T := T_S) (N := 4) (ci := ciS) (v := .ref q_9) (ty := .array .long) (fs' := [.int (nI n), .ref q_t, .ref q_9, .null]) hx hb htg i_S ty_S tk_S nm_S hown hK hP hS h_12 rfl 2 (by decide) (htg _ k_48) (fun _ h9 => h9) rfl hin rfl (by decide +kernel) rfl rfl (Nat.le_of_ble_eq_true rfl) rfl d_S_init_42 (fun H locs hP hS hz42 => ?_)
    obtain ⟨w_14, ew_14⟩ : ∃ z9, z9 = va_up w_10 h (some (.inr (ciS, [.int (nI n), .ref q_t, .ref q_9, .null])) : Option va_E) := ⟨_, rfl⟩
    rw [← ew_14] at hP
    have h_15 : w_14 h = some (.inr (ciS, [.int (nI n), .ref q_t, .ref q_9, .null])) := by rw [ew_14, va_up_self]
    have h_16 : w_14 q_9 = some (.inl (cJ, 4, .inr (.inl (fun _ => 0)))) := by rw [ew_14, va_up_ne _ _ (fun z => by rw [z, h_12] at h_11; cases h_11)]; exact h_11
    have h_17 : w_14 q_t = some (.inl (cP, n, .inr (.inr (.inr (.inr (fun _ => none)))))) := by rw [ew_14, va_up_ne _ _ (fun z => by rw [z, h_12] at h_13; cases h_13)]; exact h_13
    refine lv_aload_n hx hb d_S_init_45 rfl (lv_at hl 0 rfl) ?_
    refine lv_iconst (v := 4) hx hb d_S_init_46 (by decide) ?_
    have hS03 := hS
    refine mw_newa (atype := .int) (ty := .int) (N' := 4) (a0 := (4, .inl (fun _ => 0))) hx hb (htg _ k_60) rfl hK hP hS (hbs) 1 (cA := cI) rfl rfl rfl (by decide) rfl (by decide) (Nat.le_of_ble_eq_true rfl) (by show 0 + n + 4 + 4 ≤ 1032; omega) d_S_init_47 (fun q_18 H nq_18 eq_18 hP hS hz47 => ?_)
    obtain ⟨w_19, ew_19⟩ : ∃ z9, z9 = va_up w_14 q_18 (some (.inl (cI, 4, .inl (fun _ => 0))) : Option va_E) := ⟨_, rfl⟩
    rw [← ew_19] at hP
    have h_20 : w_19 q_18 = some (.inl (cI, 4, .inl (fun _ => 0))) := by rw [ew_19, va_up_self]
    have h_21 : w_19 h = some (.inr (ciS, [.int (nI n), .ref q_t, .ref q_9, .null])) := by rw [ew_19, va_up_ne _ _ (fun z => by rw [z, nq_18] at h_15; cases h_15)]; exact h_15
    have h_22 : w_19 q_9 = some (.inl (cJ, 4, .inr (.inl (fun _ => 0)))) := by rw [ew_19, va_up_ne _ _ (fun z => by rw [z, nq_18] at h_16; cases h_16)]; exact h_16
    have h_23 : w_19 q_t = some (.inl (cP, n, .inr (.inr (.inr (.inr (fun _ => none)))))) := by rw [ew_19, va_up_ne _ _ (fun z => by rw [z, nq_18] at h_17; cases h_17)]; exact h_17
    have mq_18 : w q_18 = none := hP0.fresh (by rw [eq_18]; exact hS03.1)
    refine mw_putF (C := R_S) (T := T_S) (N := 4) (ci := ciS) (v := .ref q_18) (ty := .array .int) (fs' := [.int (nI n), .ref q_t, .ref q_9, .ref q_18]) hx hb htg i_S ty_S tk_S nm_S hown hK hP hS h_21 rfl 3 (by decide) (htg _ k_49) (fun _ h9 => h9) rfl hin rfl (by decide +kernel) rfl rfl (Nat.le_of_ble_eq_true rfl) rfl d_S_init_49 (fun H locs hP hS hz49 => ?_)
    obtain ⟨w_24, ew_24⟩ : ∃ z9, z9 = va_up w_19 h (some (.inr (ciS, [.int (nI n), .ref q_t, .ref q_9, .ref q_18])) : Option va_E) := ⟨_, rfl⟩
    rw [← ew_24] at hP
    have h_25 : w_24 h = some (.inr (ciS, [.int (nI n), .ref q_t, .ref q_9, .ref q_18])) := by rw [ew_24, va_up_self]
    have h_26 : w_24 q_18 = some (.inl (cI, 4, .inl (fun _ => 0))) := by rw [ew_24, va_up_ne _ _ (fun z => by rw [z, h_21] at h_20; cases h_20)]; exact h_20
    have h_27 : w_24 q_9 = some (.inl (cJ, 4, .inr (.inl (fun _ => 0)))) := by rw [ew_24, va_up_ne _ _ (fun z => by rw [z, h_21] at h_22; cases h_22)]; exact h_22
    have h_28 : w_24 q_t = some (.inl (cP, n, .inr (.inr (.inr (.inr (fun _ => none)))))) := by rw [ew_24, va_up_ne _ _ (fun z => by rw [z, h_21] at h_23; cases h_23)]; exact h_23
    refine W.widen (k := 3) (n := 1032) (Nat.le_of_ble_eq_true rfl) (by show 0 + n + 4 + 4 ≤ 1032; omega) ?_
    have oth : ∀ q, ¬ w q = none → ¬ q = h → w_24 q = w q := fun q z1 z2 => by rw [ew_24, va_up_ne _ _ z2]; rw [ew_19, va_up_ne _ _ (fun z => z1 (by rw [z]; exact mq_18))]; rw [ew_14, va_up_ne _ _ z2]; rw [ew_10, va_up_ne _ _ (fun z => z1 (by rw [z]; exact mq_9))]; rw [ew_6, va_up_ne _ _ z2]; rw [ew_3, va_up_ne _ _ (fun z => z1 (by rw [z]; exact mq_t))]; rw [ew_1, va_up_ne _ _ z2]
    have hsm : sm cJ cI cP w_24 h n (fun _ => 0) (fun _ => 0) (fun _ => 0) (fun _ => 0) q_t q_9 q_18 (fun _ => none) := ⟨hpi, h_25, h_28, h_27, h_26, fun i _ _ => ⟨rfl, fun _ _ => rfl⟩, fun i p _ z => (by cases z), fun i j p p2 q _ _ z => (by cases z)⟩
    have hfp : ∀ q, sfp w_24 h q → q = h ∨ w q = none := fun q z => by
      rw [sfp_iff hsm.2.1 hsm.2.2.1] at z
      rcases z with z | z | z | z | ⟨i, p2, _, z, _⟩
      · exact Or.inl z
      · exact Or.inr (by rw [z]; exact mq_t)
      · exact Or.inr (by rw [z]; exact mq_9)
      · exact Or.inr (by rw [z]; exact mq_18)
      · cases z
    exact W.vret hx hb hr (fun t ht hW => ⟨⟨w_24, rfl, ⟨q_t, q_9, q_18, by rw [← en]; exact hsm, oth, hfp⟩, hP.at ht⟩, hS.F ht⟩) hS.2.2 d_S_init_52
  · refine lv_iload_n hx hb d_S_init_10 rfl (lv_at hl 1 rfl) ?_
    refine lv_sipush (v := 1024) hx hb d_S_init_11 (by decide) ?_
    refine lv_icmp_gt (tgt := 21) hx hb d_S_init_14 (by decide) (fun c14 => ?_) (fun c14 => ?_)
    · refine lv_sipush (v := 1024) hx hb d_S_init_21 (by decide) ?_
      rw [show 1024 = nI n from (by rw [en]; exact pgs_no (by first | exact Or.inr c14 | exact Or.inl c7))]
      refine mw_putF (C := R_S) (T := T_S) (N := 4) (ci := ciS) (v := .int (nI n)) (ty := .int) (fs' := [.int (nI n), .null, .null, .null]) hx hb htg i_S ty_S tk_S nm_S hown hK hP hS hh rfl 0 (by decide) (htg _ k_46) (fun _ h9 => h9) rfl hin rfl (by decide +kernel) rfl rfl (Nat.le_of_ble_eq_true rfl) rfl d_S_init_24 (fun H locs hP hS hz24 => ?_)
      obtain ⟨w_29, ew_29⟩ : ∃ z9, z9 = va_up w h (some (.inr (ciS, [.int (nI n), .null, .null, .null])) : Option va_E) := ⟨_, rfl⟩
      rw [← ew_29] at hP
      have h_30 : w_29 h = some (.inr (ciS, [.int (nI n), .null, .null, .null])) := by rw [ew_29, va_up_self]
      refine lv_aload_n hx hb d_S_init_27 rfl (lv_at hl 0 rfl) ?_
      refine lv_aload_n hx hb d_S_init_28 rfl (lv_at hl 0 rfl) ?_
      refine mw_get (C := R_S) (T := T_S) (N := 4) (ci := ciS) (v := .int (nI n)) hx hb htg i_S hown hK hP h_30 rfl 0 (by decide) (htg _ k_46) (fun _ h9 => h9) rfl d_S_init_29 ?_
      have hS01 := hS
      refine mw_newq (C := R_P) (N' := n) hx hb hown (htg _ k_44) (va_AO.use hE.1.2) hK hP hS hbs 2 (cA := cP) rfl (nI_pos (by omega)) (nI_clamp (by omega)) (by omega) (by show 0 + 1 ≤ 3; omega) (by show 0 + n ≤ 1032; omega) d_S_init_32 (fun q_t H nq_t eq_t hP hS hz32 => ?_)
      obtain ⟨w_31, ew_31⟩ : ∃ z9, z9 = va_up w_29 q_t (some (.inl (cP, n, .inr (.inr (.inr (.inr (fun _ => none)))))) : Option va_E) := ⟨_, rfl⟩
      rw [← ew_31] at hP
      have h_32 : w_31 q_t = some (.inl (cP, n, .inr (.inr (.inr (.inr (fun _ => none)))))) := by rw [ew_31, va_up_self]
      have h_33 : w_31 h = some (.inr (ciS, [.int (nI n), .null, .null, .null])) := by rw [ew_31, va_up_ne _ _ (fun z => by rw [z, nq_t] at h_30; cases h_30)]; exact h_30
      have mq_t : w q_t = none := hP0.fresh (by rw [eq_t]; exact hS01.1)
      refine mw_putF (C := R_S) (T := T_S) (N := 4) (ci := ciS) (v := .ref q_t) (ty := .array (.object "SharedMemory$Page")) (fs' := [.int (nI n), .ref q_t, .null, .null]) hx hb htg i_S ty_S tk_S nm_S hown hK hP hS h_33 rfl 1 (by decide) (htg _ k_47) (fun _ h9 => h9) rfl hin rfl (by decide +kernel) rfl rfl (Nat.le_of_ble_eq_true rfl) rfl d_S_init_35 (fun H locs hP hS hz35 => ?_)
      obtain ⟨w_34, ew_34⟩ : ∃ z9, z9 = va_up w_31 h (some (.inr (ciS, [.int (nI n), .ref q_t, .null, .null])) : Option va_E) := ⟨_, rfl⟩
      rw [← ew_34] at hP
      have h_35 : w_34 h = some (.inr (ciS, [.int (nI n), .ref q_t, .null, .null])) := by rw [ew_34, va_up_self]
      have h_36 : w_34 q_t = some (.inl (cP, n, .inr (.inr (.inr (.inr (fun _ => none)))))) := by rw [ew_34, va_up_ne _ _ (fun z => by rw [z, h_33] at h_32; cases h_32)]; exact h_32
      refine lv_aload_n hx hb d_S_init_38 rfl (lv_at hl 0 rfl) ?_
      refine lv_iconst (v := 4) hx hb d_S_init_39 (by decide) ?_
      have hS02 := hS
      refine mw_newa (atype := .long) (ty := .long) (N' := 4) (a0 := (4, .inr (.inl (fun _ => 0)))) hx hb (htg _ k_59) rfl hK hP hS (hbs) 0 (cA := cJ) rfl rfl rfl (by decide) rfl (by decide) (Nat.le_of_ble_eq_true rfl) (by show 0 + n + 4 ≤ 1032; omega) d_S_init_40 (fun q_37 H nq_37 eq_37 hP hS hz40 => ?_)
      obtain ⟨w_38, ew_38⟩ : ∃ z9, z9 = va_up w_34 q_37 (some (.inl (cJ, 4, .inr (.inl (fun _ => 0)))) : Option va_E) := ⟨_, rfl⟩
      rw [← ew_38] at hP
      have h_39 : w_38 q_37 = some (.inl (cJ, 4, .inr (.inl (fun _ => 0)))) := by rw [ew_38, va_up_self]
      have h_40 : w_38 h = some (.inr (ciS, [.int (nI n), .ref q_t, .null, .null])) := by rw [ew_38, va_up_ne _ _ (fun z => by rw [z, nq_37] at h_35; cases h_35)]; exact h_35
      have h_41 : w_38 q_t = some (.inl (cP, n, .inr (.inr (.inr (.inr (fun _ => none)))))) := by rw [ew_38, va_up_ne _ _ (fun z => by rw [z, nq_37] at h_36; cases h_36)]; exact h_36
      have mq_37 : w q_37 = none := hP0.fresh (by rw [eq_37]; exact hS02.1)
      refine mw_putF (C := R_S) (T := T_S) (N := 4) (ci := ciS) (v := .ref q_37) (ty := .array .long) (fs' := [.int (nI n), .ref q_t, .ref q_37, .null]) hx hb htg i_S ty_S tk_S nm_S hown hK hP hS h_40 rfl 2 (by decide) (htg _ k_48) (fun _ h9 => h9) rfl hin rfl (by decide +kernel) rfl rfl (Nat.le_of_ble_eq_true rfl) rfl d_S_init_42 (fun H locs hP hS hz42 => ?_)
      obtain ⟨w_42, ew_42⟩ : ∃ z9, z9 = va_up w_38 h (some (.inr (ciS, [.int (nI n), .ref q_t, .ref q_37, .null])) : Option va_E) := ⟨_, rfl⟩
      rw [← ew_42] at hP
      have h_43 : w_42 h = some (.inr (ciS, [.int (nI n), .ref q_t, .ref q_37, .null])) := by rw [ew_42, va_up_self]
      have h_44 : w_42 q_37 = some (.inl (cJ, 4, .inr (.inl (fun _ => 0)))) := by rw [ew_42, va_up_ne _ _ (fun z => by rw [z, h_40] at h_39; cases h_39)]; exact h_39
      have h_45 : w_42 q_t = some (.inl (cP, n, .inr (.inr (.inr (.inr (fun _ => none)))))) := by rw [ew_42, va_up_ne _ _ (fun z => by rw [z, h_40] at h_41; cases h_41)]; exact h_41
      refine lv_aload_n hx hb d_S_init_45 rfl (lv_at hl 0 rfl) ?_
      refine lv_iconst (v := 4) hx hb d_S_init_46 (by decide) ?_
      have hS03 := hS
      refine mw_newa (atype := .int) (ty := .int) (N' := 4) (a0 := (4, .inl (fun _ => 0))) hx hb (htg _ k_60) rfl hK hP hS (hbs) 1 (cA := cI) rfl rfl rfl (by decide) rfl (by decide) (Nat.le_of_ble_eq_true rfl) (by show 0 + n + 4 + 4 ≤ 1032; omega) d_S_init_47 (fun q_46 H nq_46 eq_46 hP hS hz47 => ?_)
      obtain ⟨w_47, ew_47⟩ : ∃ z9, z9 = va_up w_42 q_46 (some (.inl (cI, 4, .inl (fun _ => 0))) : Option va_E) := ⟨_, rfl⟩
      rw [← ew_47] at hP
      have h_48 : w_47 q_46 = some (.inl (cI, 4, .inl (fun _ => 0))) := by rw [ew_47, va_up_self]
      have h_49 : w_47 h = some (.inr (ciS, [.int (nI n), .ref q_t, .ref q_37, .null])) := by rw [ew_47, va_up_ne _ _ (fun z => by rw [z, nq_46] at h_43; cases h_43)]; exact h_43
      have h_50 : w_47 q_37 = some (.inl (cJ, 4, .inr (.inl (fun _ => 0)))) := by rw [ew_47, va_up_ne _ _ (fun z => by rw [z, nq_46] at h_44; cases h_44)]; exact h_44
      have h_51 : w_47 q_t = some (.inl (cP, n, .inr (.inr (.inr (.inr (fun _ => none)))))) := by rw [ew_47, va_up_ne _ _ (fun z => by rw [z, nq_46] at h_45; cases h_45)]; exact h_45
      have mq_46 : w q_46 = none := hP0.fresh (by rw [eq_46]; exact hS03.1)
      refine mw_putF (C := R_S) (T := T_S) (N := 4) (ci := ciS) (v := .ref q_46) (ty := .array .int) (fs' := [.int (nI n), .ref q_t, .ref q_37, .ref q_46]) hx hb htg i_S ty_S tk_S nm_S hown hK hP hS h_49 rfl 3 (by decide) (htg _ k_49) (fun _ h9 => h9) rfl hin rfl (by decide +kernel) rfl rfl (Nat.le_of_ble_eq_true rfl) rfl d_S_init_49 (fun H locs hP hS hz49 => ?_)
      obtain ⟨w_52, ew_52⟩ : ∃ z9, z9 = va_up w_47 h (some (.inr (ciS, [.int (nI n), .ref q_t, .ref q_37, .ref q_46])) : Option va_E) := ⟨_, rfl⟩
      rw [← ew_52] at hP
      have h_53 : w_52 h = some (.inr (ciS, [.int (nI n), .ref q_t, .ref q_37, .ref q_46])) := by rw [ew_52, va_up_self]
      have h_54 : w_52 q_46 = some (.inl (cI, 4, .inl (fun _ => 0))) := by rw [ew_52, va_up_ne _ _ (fun z => by rw [z, h_49] at h_48; cases h_48)]; exact h_48
      have h_55 : w_52 q_37 = some (.inl (cJ, 4, .inr (.inl (fun _ => 0)))) := by rw [ew_52, va_up_ne _ _ (fun z => by rw [z, h_49] at h_50; cases h_50)]; exact h_50
      have h_56 : w_52 q_t = some (.inl (cP, n, .inr (.inr (.inr (.inr (fun _ => none)))))) := by rw [ew_52, va_up_ne _ _ (fun z => by rw [z, h_49] at h_51; cases h_51)]; exact h_51
      refine W.widen (k := 3) (n := 1032) (Nat.le_of_ble_eq_true rfl) (by show 0 + n + 4 + 4 ≤ 1032; omega) ?_
      have oth : ∀ q, ¬ w q = none → ¬ q = h → w_52 q = w q := fun q z1 z2 => by rw [ew_52, va_up_ne _ _ z2]; rw [ew_47, va_up_ne _ _ (fun z => z1 (by rw [z]; exact mq_46))]; rw [ew_42, va_up_ne _ _ z2]; rw [ew_38, va_up_ne _ _ (fun z => z1 (by rw [z]; exact mq_37))]; rw [ew_34, va_up_ne _ _ z2]; rw [ew_31, va_up_ne _ _ (fun z => z1 (by rw [z]; exact mq_t))]; rw [ew_29, va_up_ne _ _ z2]
      have hsm : sm cJ cI cP w_52 h n (fun _ => 0) (fun _ => 0) (fun _ => 0) (fun _ => 0) q_t q_37 q_46 (fun _ => none) := ⟨hpi, h_53, h_56, h_55, h_54, fun i _ _ => ⟨rfl, fun _ _ => rfl⟩, fun i p _ z => (by cases z), fun i j p p2 q _ _ z => (by cases z)⟩
      have hfp : ∀ q, sfp w_52 h q → q = h ∨ w q = none := fun q z => by
        rw [sfp_iff hsm.2.1 hsm.2.2.1] at z
        rcases z with z | z | z | z | ⟨i, p2, _, z, _⟩
        · exact Or.inl z
        · exact Or.inr (by rw [z]; exact mq_t)
        · exact Or.inr (by rw [z]; exact mq_37)
        · exact Or.inr (by rw [z]; exact mq_46)
        · cases z
      exact W.vret hx hb hr (fun t ht hW => ⟨⟨w_52, rfl, ⟨q_t, q_37, q_46, by rw [← en]; exact hsm, oth, hfp⟩, hP.at ht⟩, hS.F ht⟩) hS.2.2 d_S_init_52
    · refine lv_iload_n hx hb d_S_init_17 rfl (lv_at hl 1 rfl) ?_
      refine lv_goto (tgt := 24) hx hb d_S_init_18 (by decide) ?_
      refine lv_topi (fun y9 ey9 => ?_)
      have ey8 : y9 = nI n := by rw [ey9, en]; exact pgs_ok c7 c14
      clear ey9
      subst ey8
      refine mw_putF (C := R_S) (T := T_S) (N := 4) (ci := ciS) (v := .int (nI n)) (ty := .int) (fs' := [.int (nI n), .null, .null, .null]) hx hb htg i_S ty_S tk_S nm_S hown hK hP hS hh rfl 0 (by decide) (htg _ k_46) (fun _ h9 => h9) rfl hin rfl (by decide +kernel) rfl rfl (Nat.le_of_ble_eq_true rfl) rfl d_S_init_24 (fun H locs hP hS hz24 => ?_)
      obtain ⟨w_57, ew_57⟩ : ∃ z9, z9 = va_up w h (some (.inr (ciS, [.int (nI n), .null, .null, .null])) : Option va_E) := ⟨_, rfl⟩
      rw [← ew_57] at hP
      have h_58 : w_57 h = some (.inr (ciS, [.int (nI n), .null, .null, .null])) := by rw [ew_57, va_up_self]
      refine lv_aload_n hx hb d_S_init_27 rfl (lv_at hl 0 rfl) ?_
      refine lv_aload_n hx hb d_S_init_28 rfl (lv_at hl 0 rfl) ?_
      refine mw_get (C := R_S) (T := T_S) (N := 4) (ci := ciS) (v := .int (nI n)) hx hb htg i_S hown hK hP h_58 rfl 0 (by decide) (htg _ k_46) (fun _ h9 => h9) rfl d_S_init_29 ?_
      have hS01 := hS
      refine mw_newq (C := R_P) (N' := n) hx hb hown (htg _ k_44) (va_AO.use hE.1.2) hK hP hS hbs 2 (cA := cP) rfl (nI_pos (by omega)) (nI_clamp (by omega)) (by omega) (by show 0 + 1 ≤ 3; omega) (by show 0 + n ≤ 1032; omega) d_S_init_32 (fun q_t H nq_t eq_t hP hS hz32 => ?_)
      obtain ⟨w_59, ew_59⟩ : ∃ z9, z9 = va_up w_57 q_t (some (.inl (cP, n, .inr (.inr (.inr (.inr (fun _ => none)))))) : Option va_E) := ⟨_, rfl⟩
      rw [← ew_59] at hP
      have h_60 : w_59 q_t = some (.inl (cP, n, .inr (.inr (.inr (.inr (fun _ => none)))))) := by rw [ew_59, va_up_self]
      have h_61 : w_59 h = some (.inr (ciS, [.int (nI n), .null, .null, .null])) := by rw [ew_59, va_up_ne _ _ (fun z => by rw [z, nq_t] at h_58; cases h_58)]; exact h_58
      have mq_t : w q_t = none := hP0.fresh (by rw [eq_t]; exact hS01.1)
      refine mw_putF (C := R_S) (T := T_S) (N := 4) (ci := ciS) (v := .ref q_t) (ty := .array (.object "SharedMemory$Page")) (fs' := [.int (nI n), .ref q_t, .null, .null]) hx hb htg i_S ty_S tk_S nm_S hown hK hP hS h_61 rfl 1 (by decide) (htg _ k_47) (fun _ h9 => h9) rfl hin rfl (by decide +kernel) rfl rfl (Nat.le_of_ble_eq_true rfl) rfl d_S_init_35 (fun H locs hP hS hz35 => ?_)
      obtain ⟨w_62, ew_62⟩ : ∃ z9, z9 = va_up w_59 h (some (.inr (ciS, [.int (nI n), .ref q_t, .null, .null])) : Option va_E) := ⟨_, rfl⟩
      rw [← ew_62] at hP
      have h_63 : w_62 h = some (.inr (ciS, [.int (nI n), .ref q_t, .null, .null])) := by rw [ew_62, va_up_self]
      have h_64 : w_62 q_t = some (.inl (cP, n, .inr (.inr (.inr (.inr (fun _ => none)))))) := by rw [ew_62, va_up_ne _ _ (fun z => by rw [z, h_61] at h_60; cases h_60)]; exact h_60
      refine lv_aload_n hx hb d_S_init_38 rfl (lv_at hl 0 rfl) ?_
      refine lv_iconst (v := 4) hx hb d_S_init_39 (by decide) ?_
      have hS02 := hS
      refine mw_newa (atype := .long) (ty := .long) (N' := 4) (a0 := (4, .inr (.inl (fun _ => 0)))) hx hb (htg _ k_59) rfl hK hP hS (hbs) 0 (cA := cJ) rfl rfl rfl (by decide) rfl (by decide) (Nat.le_of_ble_eq_true rfl) (by show 0 + n + 4 ≤ 1032; omega) d_S_init_40 (fun q_65 H nq_65 eq_65 hP hS hz40 => ?_)
      obtain ⟨w_66, ew_66⟩ : ∃ z9, z9 = va_up w_62 q_65 (some (.inl (cJ, 4, .inr (.inl (fun _ => 0)))) : Option va_E) := ⟨_, rfl⟩
      rw [← ew_66] at hP
      have h_67 : w_66 q_65 = some (.inl (cJ, 4, .inr (.inl (fun _ => 0)))) := by rw [ew_66, va_up_self]
      have h_68 : w_66 h = some (.inr (ciS, [.int (nI n), .ref q_t, .null, .null])) := by rw [ew_66, va_up_ne _ _ (fun z => by rw [z, nq_65] at h_63; cases h_63)]; exact h_63
      have h_69 : w_66 q_t = some (.inl (cP, n, .inr (.inr (.inr (.inr (fun _ => none)))))) := by rw [ew_66, va_up_ne _ _ (fun z => by rw [z, nq_65] at h_64; cases h_64)]; exact h_64
      have mq_65 : w q_65 = none := hP0.fresh (by rw [eq_65]; exact hS02.1)
      refine mw_putF (C := R_S) (T := T_S) (N := 4) (ci := ciS) (v := .ref q_65) (ty := .array .long) (fs' := [.int (nI n), .ref q_t, .ref q_65, .null]) hx hb htg i_S ty_S tk_S nm_S hown hK hP hS h_68 rfl 2 (by decide) (htg _ k_48) (fun _ h9 => h9) rfl hin rfl (by decide +kernel) rfl rfl (Nat.le_of_ble_eq_true rfl) rfl d_S_init_42 (fun H locs hP hS hz42 => ?_)
      obtain ⟨w_70, ew_70⟩ : ∃ z9, z9 = va_up w_66 h (some (.inr (ciS, [.int (nI n), .ref q_t, .ref q_65, .null])) : Option va_E) := ⟨_, rfl⟩
      rw [← ew_70] at hP
      have h_71 : w_70 h = some (.inr (ciS, [.int (nI n), .ref q_t, .ref q_65, .null])) := by rw [ew_70, va_up_self]
      have h_72 : w_70 q_65 = some (.inl (cJ, 4, .inr (.inl (fun _ => 0)))) := by rw [ew_70, va_up_ne _ _ (fun z => by rw [z, h_68] at h_67; cases h_67)]; exact h_67
      have h_73 : w_70 q_t = some (.inl (cP, n, .inr (.inr (.inr (.inr (fun _ => none)))))) := by rw [ew_70, va_up_ne _ _ (fun z => by rw [z, h_68] at h_69; cases h_69)]; exact h_69
      refine lv_aload_n hx hb d_S_init_45 rfl (lv_at hl 0 rfl) ?_
      refine lv_iconst (v := 4) hx hb d_S_init_46 (by decide) ?_
      have hS03 := hS
      refine mw_newa (atype := .int) (ty := .int) (N' := 4) (a0 := (4, .inl (fun _ => 0))) hx hb (htg _ k_60) rfl hK hP hS (hbs) 1 (cA := cI) rfl rfl rfl (by decide) rfl (by decide) (Nat.le_of_ble_eq_true rfl) (by show 0 + n + 4 + 4 ≤ 1032; omega) d_S_init_47 (fun q_74 H nq_74 eq_74 hP hS hz47 => ?_)
      obtain ⟨w_75, ew_75⟩ : ∃ z9, z9 = va_up w_70 q_74 (some (.inl (cI, 4, .inl (fun _ => 0))) : Option va_E) := ⟨_, rfl⟩
      rw [← ew_75] at hP
      have h_76 : w_75 q_74 = some (.inl (cI, 4, .inl (fun _ => 0))) := by rw [ew_75, va_up_self]
      have h_77 : w_75 h = some (.inr (ciS, [.int (nI n), .ref q_t, .ref q_65, .null])) := by rw [ew_75, va_up_ne _ _ (fun z => by rw [z, nq_74] at h_71; cases h_71)]; exact h_71
      have h_78 : w_75 q_65 = some (.inl (cJ, 4, .inr (.inl (fun _ => 0)))) := by rw [ew_75, va_up_ne _ _ (fun z => by rw [z, nq_74] at h_72; cases h_72)]; exact h_72
      have h_79 : w_75 q_t = some (.inl (cP, n, .inr (.inr (.inr (.inr (fun _ => none)))))) := by rw [ew_75, va_up_ne _ _ (fun z => by rw [z, nq_74] at h_73; cases h_73)]; exact h_73
      have mq_74 : w q_74 = none := hP0.fresh (by rw [eq_74]; exact hS03.1)
      refine mw_putF (C := R_S) (T := T_S) (N := 4) (ci := ciS) (v := .ref q_74) (ty := .array .int) (fs' := [.int (nI n), .ref q_t, .ref q_65, .ref q_74]) hx hb htg i_S ty_S tk_S nm_S hown hK hP hS h_77 rfl 3 (by decide) (htg _ k_49) (fun _ h9 => h9) rfl hin rfl (by decide +kernel) rfl rfl (Nat.le_of_ble_eq_true rfl) rfl d_S_init_49 (fun H locs hP hS hz49 => ?_)
      obtain ⟨w_80, ew_80⟩ : ∃ z9, z9 = va_up w_75 h (some (.inr (ciS, [.int (nI n), .ref q_t, .ref q_65, .ref q_74])) : Option va_E) := ⟨_, rfl⟩
      rw [← ew_80] at hP
      have h_81 : w_80 h = some (.inr (ciS, [.int (nI n), .ref q_t, .ref q_65, .ref q_74])) := by rw [ew_80, va_up_self]
      have h_82 : w_80 q_74 = some (.inl (cI, 4, .inl (fun _ => 0))) := by rw [ew_80, va_up_ne _ _ (fun z => by rw [z, h_77] at h_76; cases h_76)]; exact h_76
      have h_83 : w_80 q_65 = some (.inl (cJ, 4, .inr (.inl (fun _ => 0)))) := by rw [ew_80, va_up_ne _ _ (fun z => by rw [z, h_77] at h_78; cases h_78)]; exact h_78
      have h_84 : w_80 q_t = some (.inl (cP, n, .inr (.inr (.inr (.inr (fun _ => none)))))) := by rw [ew_80, va_up_ne _ _ (fun z => by rw [z, h_77] at h_79; cases h_79)]; exact h_79
      refine W.widen (k := 3) (n := 1032) (Nat.le_of_ble_eq_true rfl) (by show 0 + n + 4 + 4 ≤ 1032; omega) ?_
      have oth : ∀ q, ¬ w q = none → ¬ q = h → w_80 q = w q := fun q z1 z2 => by rw [ew_80, va_up_ne _ _ z2]; rw [ew_75, va_up_ne _ _ (fun z => z1 (by rw [z]; exact mq_74))]; rw [ew_70, va_up_ne _ _ z2]; rw [ew_66, va_up_ne _ _ (fun z => z1 (by rw [z]; exact mq_65))]; rw [ew_62, va_up_ne _ _ z2]; rw [ew_59, va_up_ne _ _ (fun z => z1 (by rw [z]; exact mq_t))]; rw [ew_57, va_up_ne _ _ z2]
      have hsm : sm cJ cI cP w_80 h n (fun _ => 0) (fun _ => 0) (fun _ => 0) (fun _ => 0) q_t q_65 q_74 (fun _ => none) := ⟨hpi, h_81, h_84, h_83, h_82, fun i _ _ => ⟨rfl, fun _ _ => rfl⟩, fun i p _ z => (by cases z), fun i j p p2 q _ _ z => (by cases z)⟩
      have hfp : ∀ q, sfp w_80 h q → q = h ∨ w q = none := fun q z => by
        rw [sfp_iff hsm.2.1 hsm.2.2.1] at z
        rcases z with z | z | z | z | ⟨i, p2, _, z, _⟩
        · exact Or.inl z
        · exact Or.inr (by rw [z]; exact mq_t)
        · exact Or.inr (by rw [z]; exact mq_65)
        · exact Or.inr (by rw [z]; exact mq_74)
        · cases z
      exact W.vret hx hb hr (fun t ht hW => ⟨⟨w_80, rfl, ⟨q_t, q_65, q_74, by rw [← en]; exact hsm, oth, hfp⟩, hP.at ht⟩, hS.F ht⟩) hS.2.2 d_S_init_52
end
section
/-! THE REFERENCE -/
def mo (cJ cI : ClassId) (w : Nat → Option va_E) (hm n : Nat) (cd : Int32) (M T pl : Nat → Int64) (sz : Nat → Int32) (aW aU aP aZ : Nat) : Prop :=
  (1 ≤ n ∧ n ≤ 1024) ∧ w hm = some (.inr (ciM, [.int cd, .int (nI n), .ref aW, .ref aU, .ref aP, .ref aZ])) ∧ w aW = some (.inl (cJ, 524288, .inr (.inl M))) ∧ w aU = some (.inl (cJ, 1024, .inr (.inl T))) ∧ w aP = some (.inl (cJ, 4, .inr (.inl pl))) ∧ w aZ = some (.inl (cI, 4, .inl sz))
/-- nothing but the reference's cells has changed -/
def kM (w u : Nat → Option va_E) (hm aW aU aP aZ : Nat) : Prop := ∀ q, ¬ q = hm → ¬ q = aW → ¬ q = aU → ¬ q = aP → ¬ q = aZ → u q = w q
theorem kM.trans {w u v : Nat → Option va_E} {hm aW aU aP aZ : Nat} (h1 : kM w u hm aW aU aP aZ) (h2 : kM u v hm aW aU aP aZ) : kM w v hm aW aU aP aZ := fun q a b c d e => (h2 q a b c d e).trans (h1 q a b c d e)
theorem kM.rf {w : Nat → Option va_E} {hm aW aU aP aZ : Nat} : kM w w hm aW aU aP aZ := fun _ _ _ _ _ _ => rfl
theorem bi_255 (i : Nat) : bi 255 i = decide (i < 8) := by
  rcases Nat.lt_or_ge i 64 with h | h
  · exact (by decide +kernel : ∀ i, i < 64 → bi 255 i = decide (i < 8)) i h
  · rw [bi_big h, decide_eq_false (by omega)]
theorem swd_s (x : Int64) {q : Nat} (h : q < 8) : (x.toUInt64 >>> ((nI (8 * q)).toInt64.toUInt64 &&& Int64.toUInt64 63)).toInt64 = swd x q := by
  apply bi_ext
  intro i hi
  rw [bi_ushr _ (by omega), swd_b]
/-- a byte of memory -/
def byt (M : Nat → Int64) (a : Nat) : Int64 := swd (M (a / 8)) (a % 8) &&& 255
theorem byt_b (M : Nat → Int64) (a i : Nat) : bi (byt M a) i = (decide (i < 8) && mb M (8 * a + i)) := by
  unfold byt
  rw [bi_and, swd_b, bi_255]
  by_cases h : i < 8
  · rw [mb_lo M a (show 8 * (a % 8) + i < 64 by omega)]; simp [h]
  · simp [h]
theorem i255 (y : Int64) : (y.toInt32 &&& 255).toInt64 = y &&& 255 := by
  have e1 : y.toInt32 &&& 255 = nI (y.toBitVec.toNat % 256) := by
    rw [pk_and _ 8 (by decide)]
    congr 1
    have h : y.toInt32.toBitVec.toNat = y.toBitVec.toNat % 2 ^ 32 := by
      show (y.toBitVec.signExtend 32).toNat = _
      rw [BitVec.signExtend_eq_setWidth_of_le _ (by decide), BitVec.toNat_setWidth]
    rw [h]
    omega
  rw [e1, nI_l (by omega)]
  apply Int64.toBitVec_inj.mp
  apply BitVec.eq_of_toNat_eq
  rw [lN_nat (by omega), Int64.toBitVec_and, BitVec.toNat_and]
  exact (Nat.and_two_pow_sub_one_eq_mod _ 8).symm
theorem bi_i (v : Int32) {i : Nat} (h : i < 32) : bi v.toInt64 i = v.toBitVec.getLsbD i := by
  show (v.toBitVec.signExtend 64).getLsbD i = _
  rw [BitVec.getLsbD_signExtend]
  simp [h]
  omega
theorem nIdiv {a : Nat} (h : a < 2 ^ 31) : nI a / 8 = nI (a / 8) := show nI a / nI 8 = _ from pk_div h (by omega) (by omega)
theorem nIrem {a : Nat} (h : a < 2 ^ 31) : nI a - nI a / 8 * 8 = nI (a % 8) := show nI a - nI a / nI 8 * nI 8 = _ from pk_rem h (by omega) (by omega)
set_option maxHeartbeats 4000000 in
set_option maxRecDepth 100000 in
theorem t_M_thrown (l : Launch) (D : va_G) (cJ cI cP : ClassId) (bs : Nat) (w : Nat → Option va_E) (hm n : Nat) (cd : Int32) (M T pl : Nat → Int64) (sz : Nat → Int32) (aW aU aP aZ : Nat) (hs : mo cJ cI w hm n cd M T pl sz aW aU aP aZ) : Met l y_M_thrown ws_M_thrown ({ frames := 0, cells := 0, slots := 0, locals := 0 }) (mPc D vwCl (mT cJ cI cP) bs w [.ref hm]) (va_Qi (S := Unit) (fun r _ => r = cd) (mB D vwCl bs (fun _ => w)) (mA bs)) 0 0 (mA bs) := by
  refine Met.ofW (cc := c_M_thrown) (maxL := 1) (ret := (some .int)) (by decide) rfl ?_
  intro p e s m args below meth c s₁ B hml hv
  obtain ⟨rfl, hbs, hP, hK⟩ := hv
  have hx := B.exec
  have hb := B.bytes
  have hr := B.returns
  have htg : ∀ w ∈ gt, w.before _ s = true := fun w h => atoms_spec (ws := ws_M_thrown) B.pre w (List.mem_cons_of_mem _ h)
  have hown : s.vm.findClass R_M = some m.cls := findClass_of_methodNamed B.named
  have hlocks := B.notSynchronized
  have hS : va_S (mA bs) s.heap s.heap [] := va_S.rf
  have hl := lv_entry ([.ref hm]) (n := 1) (Nat.le_of_ble_eq_true rfl)
  rw [lg_entry_eq]
  generalize (lg_sl ([.ref hm]) ++ List.replicate (1 - (lg_sl ([.ref hm])).length) Slot.unset).toArray = ls at hl ⊢
  have hl : lv_has ls 1 [(0, .ref hm)] := hl
  obtain ⟨hn, s1, s2, s3, s4, s5⟩ := id hs
  refine lv_aload_n hx hb d_M_thrown_0 rfl (lv_at hl 0 rfl) ?_
  refine mw_get (C := R_M) (T := T_M) (N := 6) (ci := ciM) (v := .int cd) hx hb htg i_M hown hK hP s1 rfl 0 (by decide) (htg _ k_411) (fun _ h9 => h9) rfl d_M_thrown_1 ?_
  exact W.iret (v := cd) hx hb hr (fun t ht hW => ⟨⟨_, (), rfl, rfl, hP.at ht⟩, hS.F ht⟩) hS.2.2 d_M_thrown_4
set_option maxHeartbeats 4000000 in
set_option maxRecDepth 100000 in
theorem t_M_pages (l : Launch) (D : va_G) (cJ cI cP : ClassId) (bs : Nat) (w : Nat → Option va_E) (hm n : Nat) (cd : Int32) (M T pl : Nat → Int64) (sz : Nat → Int32) (aW aU aP aZ : Nat) (hs : mo cJ cI w hm n cd M T pl sz aW aU aP aZ) : Met l y_M_pages ws_M_pages ({ frames := 0, cells := 0, slots := 0, locals := 0 }) (mPc D vwCl (mT cJ cI cP) bs w [.ref hm]) (va_Qi (S := (Nat → Option va_E)) (fun r u => r = nI n ∧ mo cJ cI u hm n 0 M T pl sz aW aU aP aZ ∧ kM w u hm aW aU aP aZ) (mB D vwCl bs (fun u => u)) (mA bs)) 0 0 (mA bs) := by
  refine Met.ofW (cc := c_M_pages) (maxL := 1) (ret := (some .int)) (by decide) rfl ?_
  intro p e s m args below meth c s₁ B hml hv
  obtain ⟨rfl, hbs, hP, hK⟩ := hv
  have hx := B.exec
  have hb := B.bytes
  have hr := B.returns
  have htg : ∀ w ∈ gt, w.before _ s = true := fun w h => atoms_spec (ws := ws_M_pages) B.pre w (List.mem_cons_of_mem _ h)
  have hown : s.vm.findClass R_M = some m.cls := findClass_of_methodNamed B.named
  have hlocks := B.notSynchronized
  have hS : va_S (mA bs) s.heap s.heap [] := va_S.rf
  have hl := lv_entry ([.ref hm]) (n := 1) (Nat.le_of_ble_eq_true rfl)
  rw [lg_entry_eq]
  generalize (lg_sl ([.ref hm]) ++ List.replicate (1 - (lg_sl ([.ref hm])).length) Slot.unset).toArray = ls at hl ⊢
  have hl : lv_has ls 1 [(0, .ref hm)] := hl
  obtain ⟨hn, s1, s2, s3, s4, s5⟩ := id hs
  refine lv_aload_n hx hb d_M_pages_0 rfl (lv_at hl 0 rfl) ?_
  refine lv_iconst (v := 0) hx hb d_M_pages_1 (by decide) ?_
  refine mw_put (C := R_M) (T := T_M) (N := 6) (ci := ciM) (v := .int 0) (ty := .int) (fs' := [.int 0, .int (nI n), .ref aW, .ref aU, .ref aP, .ref aZ]) hx hb htg i_M ty_M tk_M nm_M hown hK hP hS s1 rfl 0 (by decide) (htg _ k_411) (fun _ h9 => h9) rfl (by decide +kernel) rfl rfl (Nat.le_of_ble_eq_true rfl) rfl d_M_pages_2 (fun H locs hP hS hz2 => ?_)
  obtain ⟨w_1, ew_1⟩ : ∃ z9, z9 = va_up w hm (some (.inr (ciM, [.int 0, .int (nI n), .ref aW, .ref aU, .ref aP, .ref aZ])) : Option va_E) := ⟨_, rfl⟩
  rw [← ew_1] at hP
  have h_2 : w_1 hm = some (.inr (ciM, [.int 0, .int (nI n), .ref aW, .ref aU, .ref aP, .ref aZ])) := by rw [ew_1, va_up_self]
  have h_3 : w_1 aW = some (.inl (cJ, 524288, .inr (.inl M))) := by rw [ew_1, va_up_ne _ _ (fun z => by rw [z, s1] at s2; cases s2)]; exact s2
  have h_4 : w_1 aU = some (.inl (cJ, 1024, .inr (.inl T))) := by rw [ew_1, va_up_ne _ _ (fun z => by rw [z, s1] at s3; cases s3)]; exact s3
  have h_5 : w_1 aP = some (.inl (cJ, 4, .inr (.inl pl))) := by rw [ew_1, va_up_ne _ _ (fun z => by rw [z, s1] at s4; cases s4)]; exact s4
  have h_6 : w_1 aZ = some (.inl (cI, 4, .inl sz)) := by rw [ew_1, va_up_ne _ _ (fun z => by rw [z, s1] at s5; cases s5)]; exact s5
  refine lv_aload_n hx hb d_M_pages_5 rfl (lv_at hl 0 rfl) ?_
  refine mw_get (C := R_M) (T := T_M) (N := 6) (ci := ciM) (v := .int (nI n)) hx hb htg i_M hown hK hP h_2 rfl 1 (by decide) (htg _ k_412) (fun _ h9 => h9) rfl d_M_pages_6 ?_
  have hmo : mo cJ cI w_1 hm n 0 M T pl sz aW aU aP aZ := ⟨hn, h_2, h_3, h_4, h_5, h_6⟩
  have hkm : kM w w_1 hm aW aU aP aZ := fun q z1 z2 z3 z4 z5 => by rw [ew_1, va_up_ne _ _ z1]
  exact W.iret (v := nI n) hx hb hr (fun t ht hW => ⟨⟨_, w_1, rfl, ⟨rfl, hmo, hkm⟩, hP.at ht⟩, hS.F ht⟩) hS.2.2 d_M_pages_9
set_option maxHeartbeats 4000000 in
set_option maxRecDepth 100000 in
theorem t_M_isSize (l : Launch) (D : va_G) (cJ cI cP : ClassId) (bs : Nat) (w : Nat → Option va_E) (x : Int32) : Met l y_M_isSize ws_M_isSize ({ frames := 0, cells := 0, slots := 0, locals := 0 }) (mPc D vwCl (mT cJ cI cP) bs w [.int x]) (va_Qi (S := Unit) (fun r _ => r = if szK x then 1 else 0) (mB D vwCl bs (fun _ => w)) (mA bs)) 0 0 (mA bs) := by
  refine Met.ofW (cc := c_M_isSize) (maxL := 1) (ret := (some .boolean)) (by decide) rfl ?_
  intro p e s m args below meth c s₁ B hml hv
  obtain ⟨rfl, hbs, hP, hK⟩ := hv
  have hx := B.exec
  have hb := B.bytes
  have hr := B.returns
  have htg : ∀ w ∈ gt, w.before _ s = true := fun w h => atoms_spec (ws := ws_M_isSize) B.pre w (List.mem_cons_of_mem _ h)
  have hown : s.vm.findClass R_M = some m.cls := findClass_of_methodNamed B.named
  have hlocks := B.notSynchronized
  have hS : va_S (mA bs) s.heap s.heap [] := va_S.rf
  have hl := lv_entry ([.int x]) (n := 1) (Nat.le_of_ble_eq_true rfl)
  rw [lg_entry_eq]
  generalize (lg_sl ([.int x]) ++ List.replicate (1 - (lg_sl ([.int x])).length) Slot.unset).toArray = ls at hl ⊢
  have hl : lv_has ls 1 [(0, .int x)] := hl
  refine lv_iload_n hx hb d_M_isSize_0 rfl (lv_at hl 0 rfl) ?_
  refine lv_iconst (v := 1) hx hb d_M_isSize_1 (by decide) ?_
  refine lv_icmp_eq (tgt := 21) hx hb d_M_isSize_2 (by decide) (fun c2 => ?_) (fun c2 => ?_)
  · refine lv_iconst (v := 1) hx hb d_M_isSize_21 (by decide) ?_
    refine lv_goto (tgt := 26) hx hb d_M_isSize_22 (by decide) ?_
    exact W.zret (v := 1) hx hb hr rfl (fun t ht hW => ⟨⟨_, (), rfl, by simp [szK, *], hP.at ht⟩, hS.F ht⟩) hS.2.2 d_M_isSize_26
  · refine lv_iload_n hx hb d_M_isSize_5 rfl (lv_at hl 0 rfl) ?_
    refine lv_iconst (v := 2) hx hb d_M_isSize_6 (by decide) ?_
    refine lv_icmp_eq (tgt := 21) hx hb d_M_isSize_7 (by decide) (fun c7 => ?_) (fun c7 => ?_)
    · refine lv_iconst (v := 1) hx hb d_M_isSize_21 (by decide) ?_
      refine lv_goto (tgt := 26) hx hb d_M_isSize_22 (by decide) ?_
      exact W.zret (v := 1) hx hb hr rfl (fun t ht hW => ⟨⟨_, (), rfl, by simp [szK, *], hP.at ht⟩, hS.F ht⟩) hS.2.2 d_M_isSize_26
    · refine lv_iload_n hx hb d_M_isSize_10 rfl (lv_at hl 0 rfl) ?_
      refine lv_iconst (v := 4) hx hb d_M_isSize_11 (by decide) ?_
      refine lv_icmp_eq (tgt := 21) hx hb d_M_isSize_12 (by decide) (fun c12 => ?_) (fun c12 => ?_)
      · refine lv_iconst (v := 1) hx hb d_M_isSize_21 (by decide) ?_
        refine lv_goto (tgt := 26) hx hb d_M_isSize_22 (by decide) ?_
        exact W.zret (v := 1) hx hb hr rfl (fun t ht hW => ⟨⟨_, (), rfl, by simp [szK, *], hP.at ht⟩, hS.F ht⟩) hS.2.2 d_M_isSize_26
      · refine lv_iload_n hx hb d_M_isSize_15 rfl (lv_at hl 0 rfl) ?_
        refine lv_bipush (v := 8) hx hb d_M_isSize_16 (by decide) ?_
        refine lv_icmp_ne (tgt := 25) hx hb d_M_isSize_18 (by decide) (fun c18 => ?_) (fun c18 => ?_)
        · refine lv_iconst (v := 0) hx hb d_M_isSize_25 (by decide) ?_
          exact W.zret (v := 0) hx hb hr rfl (fun t ht hW => ⟨⟨_, (), rfl, by simp [szK, *], hP.at ht⟩, hS.F ht⟩) hS.2.2 d_M_isSize_26
        · refine lv_iconst (v := 1) hx hb d_M_isSize_21 (by decide) ?_
          refine lv_goto (tgt := 26) hx hb d_M_isSize_22 (by decide) ?_
          exact W.zret (v := 1) hx hb hr rfl (fun t ht hW => ⟨⟨_, (), rfl, by simp [szK, *], hP.at ht⟩, hS.F ht⟩) hS.2.2 d_M_isSize_26
set_option maxHeartbeats 4000000 in
set_option maxRecDepth 100000 in
theorem t_M_signed (l : Launch) (D : va_G) (cJ cI cP : ClassId) (bs : Nat) (w : Nat → Option va_E) (v : Int64) (k : Nat) : Met l y_M_signed ws_M_signed ({ frames := 0, cells := 0, slots := 0, locals := 0 }) (mPc D vwCl (mT cJ cI cP) bs w [.long v, .int (nI k)]) (va_Ql (S := Unit) (fun r _ => r = wsg v k) (mB D vwCl bs (fun _ => w)) (mA bs)) 0 0 (mA bs) := by
  refine Met.ofW (cc := c_M_signed) (maxL := 3) (ret := (some .long)) (by decide) rfl ?_
  intro p e s m args below meth c s₁ B hml hv
  obtain ⟨rfl, hbs, hP, hK⟩ := hv
  have hx := B.exec
  have hb := B.bytes
  have hr := B.returns
  have htg : ∀ w ∈ gt, w.before _ s = true := fun w h => atoms_spec (ws := ws_M_signed) B.pre w (List.mem_cons_of_mem _ h)
  have hown : s.vm.findClass R_M = some m.cls := findClass_of_methodNamed B.named
  have hlocks := B.notSynchronized
  have hS : va_S (mA bs) s.heap s.heap [] := va_S.rf
  have hl := lv_entry ([.long v, .int (nI k)]) (n := 3) (Nat.le_of_ble_eq_true rfl)
  rw [lg_entry_eq]
  generalize (lg_sl ([.long v, .int (nI k)]) ++ List.replicate (3 - (lg_sl ([.long v, .int (nI k)])).length) Slot.unset).toArray = ls at hl ⊢
  have hl : lv_has ls 3 [(0, .long v), (2, .int (nI k))] := hl
  refine lv_iload_n hx hb d_M_signed_0 rfl (lv_at hl 1 rfl) ?_
  refine lv_iconst (v := 4) hx hb d_M_signed_1 (by decide) ?_
  refine lv_icmp_ne (tgt := 11) hx hb d_M_signed_2 (by decide) (fun c2 => ?_) (fun c2 => ?_)
  · refine lv_lload_n hx hb d_M_signed_11 rfl (lv_at hl 0 rfl) ?_
    exact W.lret (v := v) hx hb hr (fun t ht hW => ⟨⟨_, (), rfl, by unfold wsg; first | rw [if_pos c2] | rw [if_neg c2], hP.at ht⟩, hS.F ht⟩) hS.2.2 d_M_signed_12
  · refine lv_lload_n hx hb d_M_signed_5 rfl (lv_at hl 0 rfl) ?_
    refine lv_l2i hx hb d_M_signed_6 rfl ?_
    refine lv_i2l hx hb d_M_signed_7 rfl ?_
    refine lv_goto (tgt := 12) hx hb d_M_signed_8 (by decide) ?_
    exact W.lret (v := v.toInt32.toInt64) hx hb hr (fun t ht hW => ⟨⟨_, (), rfl, by unfold wsg; first | rw [if_pos c2] | rw [if_neg c2], hP.at ht⟩, hS.F ht⟩) hS.2.2 d_M_signed_12
theorem eb_w {n : Nat} (h : n ≤ 1024) : (2147483648 : Int64) + 4096 * (nI n).toInt64 = lN (2147483648 + 4096 * n) := by
  rw [nI_l (by omega)]
  show lN 2147483648 + lN 4096 * lN n = _
  rw [lN_mul, lN_add]
theorem isB_of {x : Int64} {n : Nat} (hn : n ≤ 1024) (h1 : ¬ x < 2147483648) (h2 : ¬ lN (2147483648 + 4096 * n) ≤ x) : ∃ a, inM x n 1 a := by
  obtain ⟨m, hm, rfl⟩ := pk_lOf (fun z => h1 (Int64.lt_of_lt_of_le z (by decide)))
  have e1 : ¬ m < 2147483648 := fun z => h1 ((pk_lLT (b := 2147483648) hm (by omega)).mpr z)
  have e2 : ¬ 2147483648 + 4096 * n ≤ m := fun z => h2 ((pk_lLE (by omega) hm).mpr z)
  exact ⟨m - 2147483648, by rw [show 2147483648 + (m - 2147483648) = m by omega], by omega⟩
theorem isB_hi {x : Int64} {n a : Nat} (hn : n ≤ 1024) (h : inM x n 1 a) : ¬ lN (2147483648 + 4096 * n) ≤ x := by
  obtain ⟨rfl, h⟩ := h
  exact fun z => by
    have := (pk_lLE (by omega) (by omega)).mp z
    omega
set_option maxHeartbeats 4000000 in
set_option maxRecDepth 100000 in
theorem t_M_isByte (l : Launch) (D : va_G) (cJ cI cP : ClassId) (bs : Nat) (w : Nat → Option va_E) (hm n : Nat) (cd : Int32) (M T pl : Nat → Int64) (sz : Nat → Int32) (aW aU aP aZ : Nat) (hs : mo cJ cI w hm n cd M T pl sz aW aU aP aZ) (x : Int64) : Met l y_M_isByte ws_M_isByte ({ frames := 0, cells := 0, slots := 0, locals := 0 }) (mPc D vwCl (mT cJ cI cP) bs w [.ref hm, .long x]) (va_Qi (S := Unit) (fun r _ => (r = 1 ∧ ∃ a, inM x n 1 a) ∨ (r = 0 ∧ ¬ ∃ a, inM x n 1 a)) (mB D vwCl bs (fun _ => w)) (mA bs)) 0 0 (mA bs) := by
  refine Met.ofW (cc := c_M_isByte) (maxL := 3) (ret := (some .boolean)) (by decide) rfl ?_
  intro p e s m args below meth c s₁ B hml hv
  obtain ⟨rfl, hbs, hP, hK⟩ := hv
  have hx := B.exec
  have hb := B.bytes
  have hr := B.returns
  have htg : ∀ w ∈ gt, w.before _ s = true := fun w h => atoms_spec (ws := ws_M_isByte) B.pre w (List.mem_cons_of_mem _ h)
  have hown : s.vm.findClass R_M = some m.cls := findClass_of_methodNamed B.named
  have hlocks := B.notSynchronized
  have hS : va_S (mA bs) s.heap s.heap [] := va_S.rf
  have hl := lv_entry ([.ref hm, .long x]) (n := 3) (Nat.le_of_ble_eq_true rfl)
  rw [lg_entry_eq]
  generalize (lg_sl ([.ref hm, .long x]) ++ List.replicate (3 - (lg_sl ([.ref hm, .long x])).length) Slot.unset).toArray = ls at hl ⊢
  have hl : lv_has ls 3 [(0, .ref hm), (1, .long x)] := hl
  obtain ⟨hn, s1, s2, s3, s4, s5⟩ := id hs
  refine lv_lload_n hx hb d_M_isByte_0 rfl (lv_at hl 1 rfl) ?_
  refine lv_ldc2 (own := R_M) (v := 2147483648) hx hb hown (htg _ k_453) d_M_isByte_1 ?_
  refine lc_lt (tgt := 30) hx hb d_M_isByte_4 d_M_isByte_5 (by decide) (fun c4 => ?_) (fun c4 => ?_)
  · refine lv_iconst (v := 0) hx hb d_M_isByte_30 (by decide) ?_
    exact W.zret (v := 0) hx hb hr rfl (fun t ht hW => ⟨⟨_, (), rfl, Or.inr ⟨rfl, fun ⟨a, ha⟩ => by first | exact isB_hi hn.2 ha c22 | exact inM_lo hn.2 ha c4⟩, hP.at ht⟩, hS.F ht⟩) hS.2.2 d_M_isByte_31
  · refine lv_lload_n hx hb d_M_isByte_8 rfl (lv_at hl 1 rfl) ?_
    refine lv_ldc2 (own := R_M) (v := 2147483648) hx hb hown (htg _ k_453) d_M_isByte_9 ?_
    refine lv_ldc2 (own := R_M) (v := 4096) hx hb hown (htg _ k_454) d_M_isByte_12 ?_
    refine lv_aload_n hx hb d_M_isByte_15 rfl (lv_at hl 0 rfl) ?_
    refine mw_get (C := R_M) (T := T_M) (N := 6) (ci := ciM) (v := .int (nI n)) hx hb htg i_M hown hK hP s1 rfl 1 (by decide) (htg _ k_412) (fun _ h9 => h9) rfl d_M_isByte_16 ?_
    refine lv_i2l hx hb d_M_isByte_19 rfl ?_
    refine lv_lmul hx hb d_M_isByte_20 ?_
    refine lv_ladd hx hb d_M_isByte_21 ?_
    rw [show 2147483648 + (4096 * ((nI n).toInt64)) = lN (2147483648 + 4096 * n) from eb_w hn.2]
    refine lc_ge (tgt := 30) hx hb d_M_isByte_22 d_M_isByte_23 (by decide) (fun c22 => ?_) (fun c22 => ?_)
    · refine lv_iconst (v := 0) hx hb d_M_isByte_30 (by decide) ?_
      exact W.zret (v := 0) hx hb hr rfl (fun t ht hW => ⟨⟨_, (), rfl, Or.inr ⟨rfl, fun ⟨a, ha⟩ => by first | exact isB_hi hn.2 ha c22 | exact inM_lo hn.2 ha c4⟩, hP.at ht⟩, hS.F ht⟩) hS.2.2 d_M_isByte_31
    · refine lv_iconst (v := 1) hx hb d_M_isByte_26 (by decide) ?_
      refine lv_goto (tgt := 31) hx hb d_M_isByte_27 (by decide) ?_
      exact W.zret (v := 1) hx hb hr rfl (fun t ht hW => ⟨⟨_, (), rfl, Or.inl ⟨rfl, isB_of hn.2 c4 c22⟩, hP.at ht⟩, hS.F ht⟩) hS.2.2 d_M_isByte_31
set_option maxHeartbeats 4000000 in
set_option maxRecDepth 100000 in
theorem t_M_areBytes (l : Launch) (D : va_G) (cJ cI cP : ClassId) (bs : Nat) (w : Nat → Option va_E) (hm n : Nat) (cd : Int32) (M T pl : Nat → Int64) (sz : Nat → Int32) (aW aU aP aZ : Nat) (hs : mo cJ cI w hm n cd M T pl sz aW aU aP aZ) (x : Int64) (k : Nat) (h1 : 1 ≤ k) (h8 : k ≤ 8) : Met l y_M_areBytes ws_M_areBytes ({ frames := 1, cells := 0, slots := 0, locals := 22 }) (mPc D vwCl (mT cJ cI cP) bs w [.ref hm, .long x, .int (nI k)]) (va_Qi (S := Unit) (fun r _ => (r = 1 ∧ ∃ a, inM x n k a) ∨ (r = 0 ∧ ¬ ∃ a, inM x n k a)) (mB D vwCl bs (fun _ => w)) (mA bs)) 0 0 (mA bs) := by
  refine Met.ofW (cc := c_M_areBytes) (maxL := 4) (ret := (some .boolean)) (by decide) rfl ?_
  intro p e s m args below meth c s₁ B hml hv
  obtain ⟨rfl, hbs, hP, hK⟩ := hv
  have hx := B.exec
  have hb := B.bytes
  have hr := B.returns
  have htg : ∀ w ∈ gt, w.before _ s = true := fun w h => atoms_spec (ws := ws_M_areBytes) B.pre w (List.mem_cons_of_mem _ h)
  have hown : s.vm.findClass R_M = some m.cls := findClass_of_methodNamed B.named
  have hlocks := B.notSynchronized
  have hS : va_S (mA bs) s.heap s.heap [] := va_S.rf
  have hl := lv_entry ([.ref hm, .long x, .int (nI k)]) (n := 4) (Nat.le_of_ble_eq_true rfl)
  rw [lg_entry_eq]
  generalize (lg_sl ([.ref hm, .long x, .int (nI k)]) ++ List.replicate (4 - (lg_sl ([.ref hm, .long x, .int (nI k)])).length) Slot.unset).toArray = ls at hl ⊢
  have hl : lv_has ls 4 [(0, .ref hm), (1, .long x), (3, .int (nI k))] := hl
  obtain ⟨hn, s1, s2, s3, s4, s5⟩ := id hs
  refine lv_aload_n hx hb d_M_areBytes_0 rfl (lv_at hl 0 rfl) ?_
  refine lv_lload_n hx hb d_M_areBytes_1 rfl (lv_at hl 1 rfl) ?_
  refine mc_i (va_runV (As := [.long x]) (rest := []) ⟨hx, hb, hml, hown, htg⟩ (t_M_isByte l D cJ cI cP bs w hm n cd M T pl sz aW aU aP aZ hs x) (cwV (own := R_M) (C := R_M) 1 htg (ginV k_449 k_451 k_18 k_26 k_452) rfl rfl rfl (by decide +kernel) ⟨Nat.le_of_ble_eq_true rfl, Nat.le_of_ble_eq_true rfl⟩) (mPc.preV (ci := ciM) (q := (R_M, T_M, 6)) hbs hS hP hK rfl s1) rfl rfl hl.1 rfl (lv_room (Nat.le_of_ble_eq_true rfl)) d_M_areBytes_2 ⟨Nat.le_of_ble_eq_true rfl, Nat.le_of_ble_eq_true rfl⟩) hS (fun r2 u2 H locs hb2 hP hz2 hS => ?_)
  refine lv_if_eq (tgt := 25) hx hb d_M_areBytes_5 (by decide) (fun c5 => ?_) (fun c5 => ?_)
  · refine lv_iconst (v := 0) hx hb d_M_areBytes_25 (by decide) ?_
    have hres : ¬ ∃ a, inM x n k a := by
      rintro ⟨a, rfl, ha⟩
      rcases hb2 with z | z
      · first
          | (rw [z.1] at c5; exact absurd c5 (by decide))
          | (rcases hb15 with y | y
             · rw [y.1] at c18; exact absurd c18 (by decide)
             · refine y.2 ⟨a + k - 1, ?_, by omega⟩
               rw [nI_l (by omega), lN_add]
               show lN _ - lN 1 = _
               rw [lN_sub (by omega)]
               congr 1
               omega)
      · exact z.2 ⟨a, rfl, by omega⟩
    exact W.zret (v := 0) hx hb hr rfl (fun t ht hW => ⟨⟨_, (), rfl, Or.inr ⟨rfl, hres⟩, hP.at ht⟩, hS.F ht⟩) hS.2.2 d_M_areBytes_26
  · refine lv_aload_n hx hb d_M_areBytes_8 rfl (lv_at hl 0 rfl) ?_
    refine lv_lload_n hx hb d_M_areBytes_9 rfl (lv_at hl 1 rfl) ?_
    refine lv_iload_n hx hb d_M_areBytes_10 rfl (lv_at hl 2 rfl) ?_
    refine lv_i2l hx hb d_M_areBytes_11 rfl ?_
    refine lv_ladd hx hb d_M_areBytes_12 ?_
    refine lv_lconst (v := 1) hx hb d_M_areBytes_13 rfl ?_
    refine lv_lsub hx hb d_M_areBytes_14 ?_
    refine mc_i (va_runV (As := [.long ((x + ((nI k).toInt64)) - 1)]) (rest := []) ⟨hx, hb, hml, hown, htg⟩ (t_M_isByte l D cJ cI cP bs w hm n cd M T pl sz aW aU aP aZ hs ((x + ((nI k).toInt64)) - 1)) (cwV (own := R_M) (C := R_M) 1 htg (ginV k_449 k_451 k_18 k_26 k_452) rfl rfl rfl (by decide +kernel) ⟨Nat.le_of_ble_eq_true rfl, Nat.le_of_ble_eq_true rfl⟩) (mPc.preV (ci := ciM) (q := (R_M, T_M, 6)) hbs hS hP hK rfl s1) rfl rfl hl.1 rfl (lv_room (Nat.le_of_ble_eq_true rfl)) d_M_areBytes_15 ⟨Nat.le_of_ble_eq_true rfl, Nat.le_of_ble_eq_true rfl⟩) hS (fun r15 u15 H locs hb15 hP hz15 hS => ?_)
    refine lv_if_eq (tgt := 25) hx hb d_M_areBytes_18 (by decide) (fun c18 => ?_) (fun c18 => ?_)
    · refine lv_iconst (v := 0) hx hb d_M_areBytes_25 (by decide) ?_
      have hres : ¬ ∃ a, inM x n k a := by
        rintro ⟨a, rfl, ha⟩
        rcases hb2 with z | z
        · first
            | (rw [z.1] at c5; exact absurd c5 (by decide))
            | (rcases hb15 with y | y
               · rw [y.1] at c18; exact absurd c18 (by decide)
               · refine y.2 ⟨a + k - 1, ?_, by omega⟩
                 rw [nI_l (by omega), lN_add]
                 show lN _ - lN 1 = _
                 rw [lN_sub (by omega)]
                 congr 1
                 omega)
        · exact z.2 ⟨a, rfl, by omega⟩
      exact W.zret (v := 0) hx hb hr rfl (fun t ht hW => ⟨⟨_, (), rfl, Or.inr ⟨rfl, hres⟩, hP.at ht⟩, hS.F ht⟩) hS.2.2 d_M_areBytes_26
    · refine lv_iconst (v := 1) hx hb d_M_areBytes_21 (by decide) ?_
      refine lv_goto (tgt := 26) hx hb d_M_areBytes_22 (by decide) ?_
      have hres : ∃ a, inM x n k a := by
        rcases hb2 with z | z
        · obtain ⟨a, ha⟩ := z.2
          rcases hb15 with y | y
          · obtain ⟨b, hb9⟩ := y.2
            obtain ⟨rfl, ha2⟩ := ha
            refine ⟨a, rfl, ?_⟩
            have e := hb9.1
            rw [nI_l (by omega), lN_add] at e
            have e2 : lN (2147483648 + a + k) - lN 1 = lN (2147483648 + b) := e
            rw [lN_sub (by omega)] at e2
            have e3 := (pk_lEQ (by omega) (by have := hb9.2; omega)).mp e2
            have := hb9.2
            omega
          · exact absurd y.1 c18
        · exact absurd z.1 c5
      exact W.zret (v := 1) hx hb hr rfl (fun t ht hW => ⟨⟨_, (), rfl, Or.inl ⟨rfl, hres⟩, hP.at ht⟩, hS.F ht⟩) hS.2.2 d_M_areBytes_26
set_option maxHeartbeats 4000000 in
set_option maxRecDepth 100000 in
theorem t_M_get (l : Launch) (D : va_G) (cJ cI cP : ClassId) (bs : Nat) (w : Nat → Option va_E) (hm n : Nat) (cd : Int32) (M T pl : Nat → Int64) (sz : Nat → Int32) (aW aU aP aZ : Nat) (hs : mo cJ cI w hm n cd M T pl sz aW aU aP aZ) (a : Nat) (ha : a < 4096 * n) : Met l y_M_get ws_M_get ({ frames := 0, cells := 0, slots := 0, locals := 0 }) (mPc D vwCl (mT cJ cI cP) bs w [.ref hm, .long (lN (2147483648 + a))]) (va_Qi (S := Unit) (fun r _ => r.toInt64 = byt M a) (mB D vwCl bs (fun _ => w)) (mA bs)) 0 0 (mA bs) := by
  refine Met.ofW (cc := c_M_get) (maxL := 4) (ret := (some .int)) (by decide) rfl ?_
  intro p e s m args below meth c s₁ B hml hv
  obtain ⟨rfl, hbs, hP, hK⟩ := hv
  have hx := B.exec
  have hb := B.bytes
  have hr := B.returns
  have htg : ∀ w ∈ gt, w.before _ s = true := fun w h => atoms_spec (ws := ws_M_get) B.pre w (List.mem_cons_of_mem _ h)
  have hown : s.vm.findClass R_M = some m.cls := findClass_of_methodNamed B.named
  have hlocks := B.notSynchronized
  have hS : va_S (mA bs) s.heap s.heap [] := va_S.rf
  have hl := lv_entry ([.ref hm, .long (lN (2147483648 + a))]) (n := 4) (Nat.le_of_ble_eq_true rfl)
  rw [lg_entry_eq]
  generalize (lg_sl ([.ref hm, .long (lN (2147483648 + a))]) ++ List.replicate (4 - (lg_sl ([.ref hm, .long (lN (2147483648 + a))])).length) Slot.unset).toArray = ls at hl ⊢
  have hl : lv_has ls 4 [(0, .ref hm), (1, .long (lN (2147483648 + a)))] := hl
  obtain ⟨hn, s1, s2, s3, s4, s5⟩ := id hs
  refine lv_lload_n hx hb d_M_get_0 rfl (lv_at hl 1 rfl) ?_
  refine lv_ldc2 (own := R_M) (v := 2147483648) hx hb hown (htg _ k_453) d_M_get_1 ?_
  refine lv_lsub hx hb d_M_get_4 ?_
  refine lv_l2i hx hb d_M_get_5 rfl ?_
  rw [show ((lN (2147483648 + a)) - 2147483648).toInt32 = nI a from pl_w a]
  refine lv_istore_n (lv' := [(3, .int (nI a)), (0, .ref hm), (1, .long (lN (2147483648 + a)))]) hx hb d_M_get_6 rfl hl (by decide) rfl (fun ls hl => ?_)
  refine lv_aload_n hx hb d_M_get_7 rfl (lv_at hl 1 rfl) ?_
  refine mw_get (C := R_M) (T := T_M) (N := 6) (ci := ciM) (v := .ref aW) hx hb htg i_M hown hK hP s1 rfl 2 (by decide) (htg _ k_413) (fun _ h9 => h9) rfl d_M_get_8 ?_
  refine lv_iload_n hx hb d_M_get_11 rfl (lv_at hl 0 rfl) ?_
  refine lv_bipush (v := 8) hx hb d_M_get_12 (by decide) ?_
  refine lv_idiv hx hb d_M_get_14 (by decide) ?_
  rw [show (nI a) / 8 = nI (a / 8) from nIdiv (by omega)]
  refine mw_lald hx hb hK hP 0 s2 rfl (vp_in_nI (show a / 8 < 524288 by omega) (by omega)) d_M_get_15 ?_
  rw [show (nI (a / 8)).toNatClampNeg = a / 8 from nI_clamp (by omega)]
  refine lv_bipush (v := 8) hx hb d_M_get_16 (by decide) ?_
  refine lv_iload_n hx hb d_M_get_18 rfl (lv_at hl 0 rfl) ?_
  refine lv_bipush (v := 8) hx hb d_M_get_19 (by decide) ?_
  refine lv_irem hx hb d_M_get_21 (by decide) ?_
  rw [show (nI a) - (nI a) / 8 * 8 = nI (a % 8) from nIrem (by omega)]
  refine lv_imul hx hb d_M_get_22 ?_
  rw [show 8 * (nI (a % 8)) = nI (8 * (a % 8)) from (by show nI 8 * nI _ = _; exact pk_mul _ _)]
  refine lv_lushr hx hb d_M_get_23 rfl ?_
  refine lv_l2i hx hb d_M_get_24 rfl ?_
  refine lv_sipush (v := 255) hx hb d_M_get_25 (by decide) ?_
  refine lv_iand hx hb d_M_get_28 ?_
  exact W.iret (v := ((((M (a / 8)).toUInt64 >>> ((nI (8 * (a % 8))).toInt64.toUInt64 &&& Int64.toUInt64 63)).toInt64).toInt32) &&& 255) hx hb hr (fun t ht hW => ⟨⟨_, (), rfl, by show Int32.toInt64 _ = _; rw [i255, swd_s _ (Nat.mod_lt _ (by decide))]; rfl, hP.at ht⟩, hS.F ht⟩) hS.2.2 d_M_get_29
theorem set_b (M : Nat → Int64) (a : Nat) (v : Int32) : mb (vp_updL M (a / 8) ((M (a / 8) &&& ((255 <<< ((nI (8 * (a % 8))).toInt64 &&& 63)) ^^^ (-1))) ||| ((v.toInt64 &&& 255) <<< ((nI (8 * (a % 8))).toInt64 &&& 63)))) = wrN (mb M) a 1 v.toInt64 := by
  funext b
  unfold wrN mb
  by_cases hb : b / 64 = a / 8
  · rw [hb, pk_uLs, bi_or, bi_and, bi_not _ (by omega), bi_shl _ (by omega) (by omega), bi_shl _ (by omega) (by omega), bi_and, bi_255]
    by_cases g : 8 * (a % 8) ≤ b % 64
    · by_cases g2 : b % 64 - 8 * (a % 8) < 8
      · rw [if_pos (by omega), show b - 8 * a = b % 64 - 8 * (a % 8) by omega]; simp [g, g2]
      · rw [if_neg (by omega)]; simp [g2]
    · rw [if_neg (by omega)]; simp [g]
  · rw [pk_uLn hb, if_neg (by omega)]
set_option maxHeartbeats 4000000 in
set_option maxRecDepth 100000 in
theorem t_M_set (l : Launch) (D : va_G) (cJ cI cP : ClassId) (bs : Nat) (w : Nat → Option va_E) (hm n : Nat) (cd : Int32) (M T pl : Nat → Int64) (sz : Nat → Int32) (aW aU aP aZ : Nat) (hs : mo cJ cI w hm n cd M T pl sz aW aU aP aZ) (a : Nat) (ha : a < 4096 * n) (v : Int32) : Met l y_M_set ws_M_set ({ frames := 0, cells := 0, slots := 0, locals := 0 }) (mPc D vwCl (mT cJ cI cP) bs w [.ref hm, .long (lN (2147483648 + a)), .int v]) (va_Qv (S := ((Nat → Option va_E) × (Nat → Int64))) (fun u => mo cJ cI u.1 hm n cd u.2 T pl sz aW aU aP aZ ∧ mb u.2 = wrN (mb M) a 1 v.toInt64 ∧ kM w u.1 hm aW aU aP aZ) (mB D vwCl bs (fun u => u.1)) (mA bs)) 0 0 (mA bs) := by
  refine Met.ofW (cc := c_M_set) (maxL := 6) (ret := none) (by decide) rfl ?_
  intro p e s m args below meth c s₁ B hml hv
  obtain ⟨rfl, hbs, hP, hK⟩ := hv
  have hx := B.exec
  have hb := B.bytes
  have hr := B.returns
  have htg : ∀ w ∈ gt, w.before _ s = true := fun w h => atoms_spec (ws := ws_M_set) B.pre w (List.mem_cons_of_mem _ h)
  have hown : s.vm.findClass R_M = some m.cls := findClass_of_methodNamed B.named
  have hlocks := B.notSynchronized
  have hS : va_S (mA bs) s.heap s.heap [] := va_S.rf
  have hl := lv_entry ([.ref hm, .long (lN (2147483648 + a)), .int v]) (n := 6) (Nat.le_of_ble_eq_true rfl)
  rw [lg_entry_eq]
  generalize (lg_sl ([.ref hm, .long (lN (2147483648 + a)), .int v]) ++ List.replicate (6 - (lg_sl ([.ref hm, .long (lN (2147483648 + a)), .int v])).length) Slot.unset).toArray = ls at hl ⊢
  have hl : lv_has ls 6 [(0, .ref hm), (1, .long (lN (2147483648 + a))), (3, .int v)] := hl
  obtain ⟨hn, s1, s2, s3, s4, s5⟩ := id hs
  refine lv_lload_n hx hb d_M_set_0 rfl (lv_at hl 1 rfl) ?_
  refine lv_ldc2 (own := R_M) (v := 2147483648) hx hb hown (htg _ k_453) d_M_set_1 ?_
  refine lv_lsub hx hb d_M_set_4 ?_
  refine lv_l2i hx hb d_M_set_5 rfl ?_
  rw [show ((lN (2147483648 + a)) - 2147483648).toInt32 = nI a from pl_w a]
  refine lv_istore (lv' := [(4, .int (nI a)), (0, .ref hm), (1, .long (lN (2147483648 + a))), (3, .int v)]) hx hb d_M_set_6 hl (by decide) rfl (fun ls hl => ?_)
  refine lv_bipush (v := 8) hx hb d_M_set_8 (by decide) ?_
  refine lv_iload hx hb d_M_set_10 (lv_at hl 0 rfl) ?_
  refine lv_bipush (v := 8) hx hb d_M_set_12 (by decide) ?_
  refine lv_irem hx hb d_M_set_14 (by decide) ?_
  rw [show (nI a) - (nI a) / 8 * 8 = nI (a % 8) from nIrem (by omega)]
  refine lv_imul hx hb d_M_set_15 ?_
  rw [show 8 * (nI (a % 8)) = nI (8 * (a % 8)) from (by show nI 8 * nI _ = _; exact pk_mul _ _)]
  refine lv_istore (lv' := [(5, .int (nI (8 * (a % 8)))), (4, .int (nI a)), (0, .ref hm), (1, .long (lN (2147483648 + a))), (3, .int v)]) hx hb d_M_set_16 hl (by decide) rfl (fun ls hl => ?_)
  refine lv_aload_n hx hb d_M_set_18 rfl (lv_at hl 2 rfl) ?_
  refine mw_get (C := R_M) (T := T_M) (N := 6) (ci := ciM) (v := .ref aW) hx hb htg i_M hown hK hP s1 rfl 2 (by decide) (htg _ k_413) (fun _ h9 => h9) rfl d_M_set_19 ?_
  refine lv_iload hx hb d_M_set_22 (lv_at hl 1 rfl) ?_
  refine lv_bipush (v := 8) hx hb d_M_set_24 (by decide) ?_
  refine lv_idiv hx hb d_M_set_26 (by decide) ?_
  rw [show (nI a) / 8 = nI (a / 8) from nIdiv (by omega)]
  refine lv_aload_n hx hb d_M_set_27 rfl (lv_at hl 2 rfl) ?_
  refine mw_get (C := R_M) (T := T_M) (N := 6) (ci := ciM) (v := .ref aW) hx hb htg i_M hown hK hP s1 rfl 2 (by decide) (htg _ k_413) (fun _ h9 => h9) rfl d_M_set_28 ?_
  refine lv_iload hx hb d_M_set_31 (lv_at hl 1 rfl) ?_
  refine lv_bipush (v := 8) hx hb d_M_set_33 (by decide) ?_
  refine lv_idiv hx hb d_M_set_35 (by decide) ?_
  rw [show (nI a) / 8 = nI (a / 8) from nIdiv (by omega)]
  refine mw_lald hx hb hK hP 0 s2 rfl (vp_in_nI (show a / 8 < 524288 by omega) (by omega)) d_M_set_36 ?_
  rw [show (nI (a / 8)).toNatClampNeg = a / 8 from nI_clamp (by omega)]
  refine lv_ldc2 (own := R_M) (v := 255) hx hb hown (htg _ k_476) d_M_set_37 ?_
  refine lv_iload hx hb d_M_set_40 (lv_at hl 0 rfl) ?_
  refine lv_lshl hx hb d_M_set_42 rfl ?_
  refine lv_ldc2 (own := R_M) (v := (-1)) hx hb hown (htg _ k_477) d_M_set_43 ?_
  refine lv_lxor hx hb d_M_set_46 ?_
  refine lv_land hx hb d_M_set_47 ?_
  refine lv_iload_n hx hb d_M_set_48 rfl (lv_at hl 4 rfl) ?_
  refine lv_i2l hx hb d_M_set_49 rfl ?_
  refine lv_ldc2 (own := R_M) (v := 255) hx hb hown (htg _ k_476) d_M_set_50 ?_
  refine lv_land hx hb d_M_set_53 ?_
  refine lv_iload hx hb d_M_set_54 (lv_at hl 0 rfl) ?_
  refine lv_lshl hx hb d_M_set_56 rfl ?_
  refine lv_lor hx hb d_M_set_57 ?_
  refine lv_topl (fun x_1 ex_1 => ?_)
  refine mw_last hx hb hK hP hS 0 s2 rfl (vp_in_nI (show a / 8 < 524288 by omega) (by omega)) d_M_set_58 (fun H locs hP hS hz58 => ?_)
  rw [show (nI (a / 8)).toNatClampNeg = a / 8 from nI_clamp (by omega)] at hP
  obtain ⟨w_2, ew_2⟩ : ∃ z9, z9 = va_up w aW (some (.inl (cJ, 524288, .inr (.inl (vp_updL M (a / 8) x_1)))) : Option va_E) := ⟨_, rfl⟩
  rw [← ew_2] at hP
  have h_3 : w_2 aW = some (.inl (cJ, 524288, .inr (.inl (vp_updL M (a / 8) x_1)))) := by rw [ew_2, va_up_self]
  have h_4 : w_2 hm = some (.inr (ciM, [.int cd, .int (nI n), .ref aW, .ref aU, .ref aP, .ref aZ])) := by rw [ew_2, va_up_ne _ _ (fun z => by rw [z, s2] at s1; cases s1)]; exact s1
  have h_5 : w_2 aU = some (.inl (cJ, 1024, .inr (.inl T))) := by rw [ew_2, va_up_ne _ _ (fun z => by rw [z, s2] at s3; simp at s3)]; exact s3
  have h_6 : w_2 aP = some (.inl (cJ, 4, .inr (.inl pl))) := by rw [ew_2, va_up_ne _ _ (fun z => by rw [z, s2] at s4; simp at s4)]; exact s4
  have h_7 : w_2 aZ = some (.inl (cI, 4, .inl sz)) := by rw [ew_2, va_up_ne _ _ (fun z => by rw [z, s2] at s5; simp at s5)]; exact s5
  have hmo : mo cJ cI w_2 hm n cd (vp_updL M (a / 8) x_1) T pl sz aW aU aP aZ := ⟨hn, h_4, h_3, h_5, h_6, h_7⟩
  have hkm : kM w w_2 hm aW aU aP aZ := fun q z1 z2 z3 z4 z5 => by rw [ew_2, va_up_ne _ _ z2]
  exact W.vret hx hb hr (fun t ht hW => ⟨⟨(w_2, (vp_updL M (a / 8) x_1)), rfl, ⟨hmo, by show mb (vp_updL M (a / 8) x_1) = _; rw [ex_1]; exact set_b M a v, hkm⟩, hP.at ht⟩, hS.F ht⟩) hS.2.2 d_M_set_59
end
section
theorem mul256 (v y : Int64) (hy : ∀ i, 8 ≤ i → bi y i = false) {b : Nat} (hb : b < 64) : bi (256 * v + y) b = if b < 8 then bi y b else bi v (b - 8) := by
  have e : (256 * v + y).toBitVec = (v.toBitVec <<< 8) ||| y.toBitVec := by
    rw [Int64.toBitVec_add, Int64.toBitVec_mul, show (256 : Int64).toBitVec = BitVec.twoPow 64 8 from by decide, BitVec.mul_comm, ← BitVec.shiftLeft_eq_mul_twoPow]
    apply BitVec.add_eq_or_of_and_eq_zero
    apply BitVec.eq_of_getLsbD_eq
    intro i hi
    rw [BitVec.getLsbD_and, BitVec.getLsbD_shiftLeft]
    by_cases h : i < 8
    · simp [h]
    · have := hy i (by omega)
      unfold bi at this
      simp [this]
  unfold bi
  rw [e, BitVec.getLsbD_or, BitVec.getLsbD_shiftLeft]
  by_cases h : b < 8
  · rw [if_pos h]; simp [h]
  · rw [if_neg h]
    have := hy b (by omega)
    unfold bi at this
    rw [this]
    simp [h, hb]
theorem bi_l2i (x : Int64) {q : Nat} (h : q < 32) : bi x.toInt32.toInt64 q = bi x q := by
  rw [bi_i _ h]
  show (x.toBitVec.signExtend 32).getLsbD q = _
  rw [BitVec.signExtend_eq_setWidth_of_le _ (by decide), BitVec.getLsbD_setWidth]
  simp [h, bi]
def tK (T : Nat → Int64) (a i : Nat) : Nat → Int64 := if i = 0 then T else tinc T (a / 4096) ((a + i - 1) / 4096 + 1)
def pK (pl : Nat → Int64) (a i : Nat) : Nat → Int64 := if i = 0 then pl else lost pl (a / 8) ((a + i - 1) / 8)
theorem rok_pK {pl : Nat → Int64} {n : Nat} (h : rok pl n) (a i : Nat) : rok (pK pl a i) n := by
  unfold pK
  split
  · exact h
  · exact rok_lost h _ _
theorem lostB_iff (x : Int64) (a b : Nat) : lostB x a b = true ↔ ¬ x = 0 ∧ a ≤ (x.toBitVec.toNat - 2147483648) / 8 ∧ (x.toBitVec.toNat - 2147483648) / 8 ≤ b := by
  unfold lostB
  simp only [Bool.and_eq_true, decide_eq_true_iff]
theorem pK_s (pl : Nat → Int64) (a i : Nat) : lost (pK pl a i) ((a + i) / 8) ((a + i) / 8) = pK pl a (i + 1) := by
  funext j
  by_cases hi : i = 0
  · subst hi
    unfold pK
    rw [if_pos rfl, if_neg (by omega)]
    rfl
  · unfold pK
    rw [if_neg hi, if_neg (by omega)]
    have e : (a + (i + 1) - 1) / 8 = (a + i) / 8 := by rw [show a + (i + 1) - 1 = a + i by omega]
    rw [e]
    by_cases h1 : j < 4 ∧ lostB (pl j) (a / 8) ((a + i - 1) / 8) = true
    · have e1 : lost pl (a / 8) ((a + i - 1) / 8) j = 0 := by unfold lost; rw [if_pos h1]
      have e2 : lost pl (a / 8) ((a + i) / 8) j = 0 := by
        unfold lost
        rw [if_pos ⟨h1.1, (lostB_iff _ _ _).mpr (by have := (lostB_iff _ _ _).mp h1.2; exact ⟨this.1, this.2.1, by have := this.2.2; omega⟩)⟩]
      rw [e2]
      unfold lost
      rw [if_neg (fun z => by rw [show (if j < 4 ∧ lostB (pl j) (a / 8) ((a + i - 1) / 8) = true then 0 else pl j) = 0 from if_pos h1] at z; rw [lostB_0] at z; cases z.2), if_pos h1]
    · have e1 : lost pl (a / 8) ((a + i - 1) / 8) j = pl j := by unfold lost; rw [if_neg h1]
      unfold lost at e1 ⊢
      rw [e1]
      by_cases h2 : j < 4 ∧ lostB (pl j) ((a + i) / 8) ((a + i) / 8) = true
      · rw [if_pos h2, if_pos ⟨h2.1, (lostB_iff _ _ _).mpr (by have := (lostB_iff _ _ _).mp h2.2; exact ⟨this.1, by have := this.2.1; omega, this.2.2⟩)⟩]
      · rw [if_neg h2, if_neg (fun z => ?_)]
        have y := (lostB_iff _ _ _).mp z.2
        by_cases h3 : (BitVec.toNat (pl j).toBitVec - 2147483648) / 8 ≤ (a + i - 1) / 8
        · exact h1 ⟨z.1, (lostB_iff _ _ _).mpr ⟨y.1, y.2.1, h3⟩⟩
        · exact h2 ⟨z.1, (lostB_iff _ _ _).mpr ⟨y.1, by have := y.2.2; omega, y.2.2⟩⟩
theorem tK_inc (T : Nat → Int64) (a i : Nat) (h : i = 0 ∨ (a + i) % 4096 = 0) : vp_updL (tK T a i) ((a + i) / 4096) (tK T a i ((a + i) / 4096) + 1) = tK T a (i + 1) := by
  have e9 : vp_updL (tK T a i) ((a + i) / 4096) (tK T a i ((a + i) / 4096) + 1) = va_up (tK T a i) ((a + i) / 4096) (tK T a i ((a + i) / 4096) + 1) := rfl
  rw [e9]
  unfold tK
  rw [if_neg (show ¬ i + 1 = 0 by omega), show a + (i + 1) - 1 = a + i by omega]
  by_cases hi : i = 0
  · subst hi
    rw [if_pos rfl, Nat.add_zero]
    have := tinc_s T (a := a / 4096) (i := a / 4096) (Nat.le_refl _)
    rw [tinc_0] at this
    exact this
  · rw [if_neg hi]
    have e : (a + i) / 4096 = (a + i - 1) / 4096 + 1 := by omega
    rw [e]
    exact tinc_s T (by omega)
theorem tK_same (T : Nat → Int64) (a i : Nat) (h : ¬ i = 0) (h2 : ¬ (a + i) % 4096 = 0) : tK T a i = tK T a (i + 1) := by
  unfold tK
  rw [if_neg h, if_neg (show ¬ i + 1 = 0 by omega), show (a + (i + 1) - 1) / 4096 = (a + i - 1) / 4096 by omega]
theorem wrN_s (B : Nat → Bool) (a i : Nat) (v y : Int64) (hy : ∀ q, q < 8 → bi y q = bi v (8 * i + q)) : wrN (wrN B a i v) (a + i) 1 y = wrN B a (i + 1) v := by
  funext b
  unfold wrN
  by_cases h : 8 * (a + i) ≤ b ∧ b < 8 * (a + i + 1)
  · rw [if_pos h, if_pos (by omega), hy _ (by omega)]
    congr 1
    omega
  · rw [if_neg h]
    by_cases h2 : 8 * a ≤ b ∧ b < 8 * (a + i)
    · rw [if_pos h2, if_pos (by omega)]
    · rw [if_neg h2, if_neg (by omega)]
theorem wrN_0 (B : Nat → Bool) (a : Nat) (v : Int64) : wrN B a 0 v = B := by
  funext b
  unfold wrN
  rw [if_neg (by omega)]
theorem lN_m (m : Nat) (h : m < 2 ^ 62) (d : Nat) (hd : 0 < d) (hd2 : d < 2 ^ 62) : lN m / lN d = lN (m / d) := pk_lDiv (by omega) hd (by omega)
set_option maxHeartbeats 4000000 in
set_option maxRecDepth 100000 in
/-- number: its loop -/
theorem lp_M_number {p : Program} {l : Launch} {e : Env} {s : State} {m : MethodId} {args : Array Value} {below : List Frame} {meth : Method} {c : Code} {Q : State → Prop} {D : va_G} {cJ cI cP : ClassId} {bs : Nat} (hx : p.tables.exec = Jvm.exec) (hb : c.code = c_M_number) (hml : c.maxLocals = 7) (hown : s.vm.findClass R_M = some m.cls) (htg : ∀ w ∈ gt, w.before args s = true) (hK : va_K D vwCl (mT cJ cI cP) s) (hbs : bs ≤ s.heap.size) (w : Nat → Option va_E) (hm n : Nat) (cd : Int32) (M T pl : Nat → Int64) (sz : Nat → Int32) (aW aU aP aZ : Nat) (hs : mo cJ cI w hm n cd M T pl sz aW aU aP aZ) (a k9 : Nat) (h8 : k9 ≤ 8) (hak : a + k9 ≤ 4096 * n) (kx : ∀ (v : Int64) (ls : Array Slot) (H : Heap) (locs : List Loc), (∀ b, b < 64 → bi v b = rdN (mb M) a k9 b) → mw D vwCl bs w H → va_S (mA bs) s.heap H locs → lv_has ls 7 [(4, .long v)] → W p l e ({ frames := 1, cells := 0, slots := 0, locals := 23 } : Room) s m args below meth c H locs 0 0 Q (F0 m 38 ls [])) :
    ∀ (k : Nat) (j : Nat) (v : Int64) (ls : Array Slot) (H : Heap) (locs : List Loc), j < k → j ≤ k9 → (∀ b, b < 64 → bi v b = (decide (b < 8 * (k9 - j)) && mb M (8 * (a + j) + b))) → mw D vwCl bs w H → va_S (mA bs) s.heap H locs → lv_has ls 7 [(6, .int (nI j - 1)), (4, .long v), (0, .ref hm), (1, .long (lN (2147483648 + a)))] → W p l e ({ frames := 1, cells := 0, slots := 0, locals := 23 } : Room) s m args below meth c H locs 0 0 Q (F0 m 8 ls []) := by
  intro k
  induction k with
  | zero => intro j v ls H locs hk0; exact absurd hk0 (by omega)
  | succ k ih =>
    intro j v ls H locs hk hj hv hP hS hl
    obtain ⟨hn, s1, s2, s3, s4, s5⟩ := id hs
    refine lv_iload hx hb d_M_number_8 (lv_at hl 0 rfl) ?_
    refine lv_if_lt (tgt := 38) hx hb d_M_number_10 (by decide) (fun c10 => ?_) (fun c10 => ?_)
    · have e0 : j = 0 := by
        rcases Nat.eq_zero_or_pos j with z | z
        · exact z
        · exfalso
          have e1 : nI j - 1 = nI (j - 1) := by show nI j - nI 1 = _; exact pk_sub z
          rw [e1] at c10
          exact nI_pos (by omega) c10
      subst e0
      exact kx v ls H locs (fun b hb => by rw [hv b hb]; rfl) hP hS (lv_sub hl [1] rfl)
    · have hj0 : 0 < j := by
        rcases Nat.eq_zero_or_pos j with z | z
        · exfalso; rw [z] at c10; exact c10 (by decide)
        · exact z
      have ej : nI j - 1 = nI (j - 1) := by show nI j - nI 1 = _; exact pk_sub hj0
      rw [ej] at hl
      refine lv_ldc2 (own := R_M) (v := 256) hx hb hown (htg _ k_459) d_M_number_13 ?_
      refine lv_lload hx hb d_M_number_16 (lv_at hl 1 rfl) ?_
      refine lv_lmul hx hb d_M_number_18 ?_
      refine lv_aload_n hx hb d_M_number_19 rfl (lv_at hl 2 rfl) ?_
      refine lv_lload_n hx hb d_M_number_20 rfl (lv_at hl 3 rfl) ?_
      refine lv_iload hx hb d_M_number_21 (lv_at hl 0 rfl) ?_
      refine lv_i2l hx hb d_M_number_23 rfl ?_
      refine lv_ladd hx hb d_M_number_24 ?_
      rw [show (lN (2147483648 + a)) + ((nI (j - 1)).toInt64) = lN (2147483648 + (a + (j - 1))) from (by rw [nI_l (by omega), lN_add]; congr 1; omega)]
      refine mc_i (va_runV (As := [.long (lN (2147483648 + (a + (j - 1))))]) (rest := [.long (256 * v)]) ⟨hx, hb, hml, hown, htg⟩ (t_M_get l D cJ cI cP bs w hm n cd M T pl sz aW aU aP aZ hs (a + (j - 1)) (by omega)) (cwV (own := R_M) (C := R_M) 1 htg (ginV k_460 k_462 k_20 k_26 k_463) rfl rfl rfl (by decide +kernel) ⟨Nat.le_of_ble_eq_true rfl, Nat.le_of_ble_eq_true rfl⟩) (mPc.preV (ci := ciM) (q := (R_M, T_M, 6)) hbs hS hP hK rfl s1) rfl rfl hl.1 rfl (lv_room (Nat.le_of_ble_eq_true rfl)) d_M_number_25 ⟨Nat.le_of_ble_eq_true rfl, Nat.le_of_ble_eq_true rfl⟩) hS (fun r25 u25 H locs hw25 hP hz25 hS => ?_)
      refine lv_i2l hx hb d_M_number_28 rfl ?_
      refine lv_ladd hx hb d_M_number_29 ?_
      refine lv_topl (fun x_1 ex_1 => ?_)
      refine lv_lstore (lv' := [(4, .long x_1), (6, .int (nI (j - 1))), (0, .ref hm), (1, .long (lN (2147483648 + a)))]) hx hb d_M_number_30 hl (by decide) rfl (fun ls hl => ?_)
      obtain ⟨i_2, ei_2⟩ : ∃ y : Int32, y = (nI (j - 1)) + (-1) := ⟨_, rfl⟩
      refine lv_iinc (v := i_2) (lv' := [(6, .int i_2), (4, .long x_1), (0, .ref hm), (1, .long (lN (2147483648 + a)))]) hx hb d_M_number_32 hl (k := 1) rfl (by rw [ei_2]; rfl) (by decide) rfl (fun ls hl => ?_)
      refine lv_goto (tgt := 8) hx hb d_M_number_35 (by decide) ?_
      refine ih (j - 1) x_1 ls H locs (by omega) (by omega) (fun b hb => ?_) hP hS (by rw [show nI (j - 1) - 1 = i_2 from by rw [ei_2]; exact Int32.sub_eq_add_neg _ _]; exact lv_sub hl [0, 1, 2, 3] rfl)
      rw [ex_1, hw25, mul256 _ _ (fun i hi => by rw [byt_b]; simp [Nat.not_lt.mpr hi]) hb]
      by_cases h9 : b < 8
      · rw [if_pos h9, byt_b, decide_eq_true h9, decide_eq_true (show b < 8 * (k9 - (j - 1)) by omega)]
      · rw [if_neg h9, hv (b - 8) (by omega), show 8 * (a + j) + (b - 8) = 8 * (a + (j - 1)) + b by omega]
        congr 1
        exact decide_eq_decide.mpr (by omega)
set_option maxHeartbeats 4000000 in
set_option maxRecDepth 100000 in
/-- number -/
theorem t_M_number (l : Launch) (D : va_G) (cJ cI cP : ClassId) (bs : Nat) (w : Nat → Option va_E) (hm n : Nat) (cd : Int32) (M T pl : Nat → Int64) (sz : Nat → Int32) (aW aU aP aZ : Nat) (hs : mo cJ cI w hm n cd M T pl sz aW aU aP aZ) (a k : Nat) (h8 : k ≤ 8) (hak : a + k ≤ 4096 * n) : Met l y_M_number ws_M_number ({ frames := 1, cells := 0, slots := 0, locals := 23 }) (mPc D vwCl (mT cJ cI cP) bs w [.ref hm, .long (lN (2147483648 + a)), .int (nI k)]) (va_Ql (S := Unit) (fun r _ => ∀ b, b < 64 → bi r b = rdN (mb M) a k b) (mB D vwCl bs (fun _ => w)) (mA bs)) 0 0 (mA bs) := by
  refine Met.ofW (cc := c_M_number) (maxL := 7) (ret := (some .long)) (by decide) rfl ?_
  intro p e s m args below meth c s₁ B hml hv
  obtain ⟨rfl, hbs, hP, hK⟩ := hv
  have hx := B.exec
  have hb := B.bytes
  have hr := B.returns
  have htg : ∀ w ∈ gt, w.before _ s = true := fun w h => atoms_spec (ws := ws_M_number) B.pre w (List.mem_cons_of_mem _ h)
  have hown : s.vm.findClass R_M = some m.cls := findClass_of_methodNamed B.named
  have hlocks := B.notSynchronized
  have hS : va_S (mA bs) s.heap s.heap [] := va_S.rf
  have hl := lv_entry ([.ref hm, .long (lN (2147483648 + a)), .int (nI k)]) (n := 7) (Nat.le_of_ble_eq_true rfl)
  rw [lg_entry_eq]
  generalize (lg_sl ([.ref hm, .long (lN (2147483648 + a)), .int (nI k)]) ++ List.replicate (7 - (lg_sl ([.ref hm, .long (lN (2147483648 + a)), .int (nI k)])).length) Slot.unset).toArray = ls at hl ⊢
  have hl : lv_has ls 7 [(0, .ref hm), (1, .long (lN (2147483648 + a))), (3, .int (nI k))] := hl
  obtain ⟨hn, s1, s2, s3, s4, s5⟩ := id hs
  refine lv_lconst (v := 0) hx hb d_M_number_0 rfl ?_
  refine lv_lstore (lv' := [(4, .long 0), (0, .ref hm), (1, .long (lN (2147483648 + a))), (3, .int (nI k))]) hx hb d_M_number_1 hl (by decide) rfl (fun ls hl => ?_)
  refine lv_iload_n hx hb d_M_number_3 rfl (lv_at hl 3 rfl) ?_
  refine lv_iconst (v := 1) hx hb d_M_number_4 (by decide) ?_
  refine lv_isub hx hb d_M_number_5 ?_
  refine lv_topi (fun x_1 ex_1 => ?_)
  refine lv_istore (lv' := [(6, .int x_1), (4, .long 0), (0, .ref hm), (1, .long (lN (2147483648 + a))), (3, .int (nI k))]) hx hb d_M_number_6 hl (by decide) rfl (fun ls hl => ?_)
  rw [ex_1] at hl
  refine lp_M_number (D := D) (cJ := cJ) (cI := cI) (cP := cP) (bs := bs) hx hb hml hown htg hK hbs w hm n cd M T pl sz aW aU aP aZ hs a k h8 hak (fun v ls H locs hv hP hS hl => ?_) (k + 1) k 0 ls _ _ (by omega) (Nat.le_refl _) (fun b hb => by rw [bi_0, Nat.sub_self, decide_eq_false (by omega)]; rfl) hP hS (lv_sub hl [0, 1, 2, 3] rfl)
  refine lv_lload hx hb d_M_number_38 (lv_at hl 0 rfl) ?_
  exact W.lret (v := v) hx hb hr (fun t ht hW => ⟨⟨_, (), rfl, hv, hP.at ht⟩, hS.F ht⟩) hS.2.2 d_M_number_40
end
section
theorem rok_pos {pl : Nat → Int64} {n j : Nat} (hn : n ≤ 1024) (h : rok pl n) (hj : j < 4) (hp : pl j ≤ 0) : pl j = 0 := by
  rcases h j hj with z | ⟨c, z, hc⟩
  · exact z
  · exfalso
    rw [z] at hp
    have := (pk_lLE (a := 2147483648 + c) (b := 0) (by omega) (by omega)).mp hp
    omega
theorem sub_st (c : Nat) : lN (2147483648 + c) - 2147483648 = lN c := by
  show lN (2147483648 + c) - lN 2147483648 = _
  rw [lN_sub (Nat.le_add_right _ _), Nat.add_sub_cancel_left]
theorem rok_at {pl : Nat → Int64} {n j : Nat} (h : rok pl n) (hj : j < 4) (hp : ¬ pl j ≤ 0) : ∃ c, pl j = lN (2147483648 + c) ∧ c < 4096 * n := by
  rcases h j hj with z | z
  · rw [z] at hp; exact absurd (Int64.le_refl 0) hp
  · exact z
set_option maxHeartbeats 4000000 in
set_option maxRecDepth 100000 in
/-- keep: the reservations -/
theorem lp_M_keep1 {p : Program} {l : Launch} {e : Env} {s : State} {m : MethodId} {args : Array Value} {below : List Frame} {meth : Method} {c : Code} {Q : State → Prop} {D : va_G} {cJ cI cP : ClassId} {bs : Nat} (hx : p.tables.exec = Jvm.exec) (hb : c.code = c_M_keep) (hml : c.maxLocals = 10) (hown : s.vm.findClass R_M = some m.cls) (htg : ∀ w ∈ gt, w.before args s = true) (hK : va_K D vwCl (mT cJ cI cP) s) (hbs : bs ≤ s.heap.size) (w : Nat → Option va_E) (hm n : Nat) (cd : Int32) (M T pl : Nat → Int64) (sz : Nat → Int32) (aW aU aP aZ : Nat) (hro : rok pl n) (a i k9 : Nat) (v : Int64) (hai : a + i < 4096 * n) (kx : ∀ (w1 : Nat → Option va_E) (ls : Array Slot) (H : Heap) (locs : List Loc), mo cJ cI w1 hm n cd M T (lost pl ((a + i) / 8) ((a + i) / 8)) sz aW aU aP aZ → kM w w1 hm aW aU aP aZ → mw D vwCl bs w1 H → va_S (mA bs) s.heap H locs → lv_has ls 10 [(6, .int (nI i)), (7, .long (lN (2147483648 + (a + i)))), (0, .ref hm), (1, .long (lN (2147483648 + a))), (3, .int (nI k9)), (4, .long v)] → W p l e ({ frames := 1, cells := 0, slots := 0, locals := 25 } : Room) s m args below meth c H locs 0 0 Q (F0 m 97 ls [])) :
    ∀ (k : Nat) (j : Nat) (w1 : Nat → Option va_E) (pc9 : Nat → Int64) (ls : Array Slot) (H : Heap) (locs : List Loc), 4 - j < k → j ≤ 4 → (∀ q, q < j → pc9 q = lost pl ((a + i) / 8) ((a + i) / 8) q) → (∀ q, ¬ q < j → pc9 q = pl q) → mo cJ cI w1 hm n cd M T pc9 sz aW aU aP aZ → kM w w1 hm aW aU aP aZ → mw D vwCl bs w1 H → va_S (mA bs) s.heap H locs → lv_has ls 10 [(9, .int (nI j)), (6, .int (nI i)), (7, .long (lN (2147483648 + (a + i)))), (0, .ref hm), (1, .long (lN (2147483648 + a))), (3, .int (nI k9)), (4, .long v)] → W p l e ({ frames := 1, cells := 0, slots := 0, locals := 25 } : Room) s m args below meth c H locs 0 0 Q (F0 m 34 ls []) := by
  intro k
  induction k with
  | zero => intro j w1 pc9 ls H locs hk0; exact absurd hk0 (by omega)
  | succ k ih =>
    intro j w1 pc9 ls H locs hk hj hlo hhi hs1 hkm0 hP hS hl
    obtain ⟨hn, s1, s2, s3, s4, s5⟩ := id hs1
    refine lv_iload hx hb d_M_keep_34 (lv_at hl 0 rfl) ?_
    refine lv_iconst (v := 4) hx hb d_M_keep_36 (by decide) ?_
    refine lv_icmp_ge (tgt := 97) hx hb d_M_keep_37 (by decide) (fun c37 => ?_) (fun c37 => ?_)
    · have e5 : j = 4 := Nat.le_antisymm hj (Nat.le_of_not_lt (fun z => nI_ge z (by omega) (show nI 4 ≤ nI j from c37)))
      subst e5
      have erc : pc9 = lost pl ((a + i) / 8) ((a + i) / 8) := by
        funext q
        by_cases hq : q < 4
        · exact hlo q hq
        · rw [hhi q hq]; unfold lost; rw [if_neg (fun z => hq z.1)]
      subst erc
      exact kx w1 ls H locs hs1 hkm0 hP hS (lv_sub hl [1, 2, 3, 4, 5, 6] rfl)
    · have hlt : j < 4 := Nat.lt_of_not_le (fun z => c37 (show nI 4 ≤ nI j from nI_le z (by omega)))
      have epj : pc9 j = pl j := hhi j (by omega)
      refine lv_aload_n hx hb d_M_keep_40 rfl (lv_at hl 3 rfl) ?_
      refine mw_get (C := R_M) (T := T_M) (N := 6) (ci := ciM) (v := .ref aP) hx hb htg i_M hown hK hP s1 rfl 4 (by decide) (htg _ k_415) (fun _ h9 => h9) rfl d_M_keep_41 ?_
      refine lv_iload hx hb d_M_keep_44 (lv_at hl 0 rfl) ?_
      refine lv_aload_n hx hb d_M_keep_46 rfl (lv_at hl 3 rfl) ?_
      refine mw_get (C := R_M) (T := T_M) (N := 6) (ci := ciM) (v := .ref aP) hx hb htg i_M hown hK hP s1 rfl 4 (by decide) (htg _ k_415) (fun _ h9 => h9) rfl d_M_keep_47 ?_
      refine lv_iload hx hb d_M_keep_50 (lv_at hl 0 rfl) ?_
      refine mw_lald hx hb hK hP 0 s4 rfl (vp_in_nI hlt (by omega)) d_M_keep_52 ?_
      rw [show (nI j).toNatClampNeg = j from nI_clamp (by omega)]
      refine lv_lconst (v := 0) hx hb d_M_keep_53 rfl ?_
      refine lc_le (tgt := 83) hx hb d_M_keep_54 d_M_keep_55 (by decide) (fun c54 => ?_) (fun c54 => ?_)
      · refine lv_aload_n hx hb d_M_keep_83 rfl (lv_at hl 3 rfl) ?_
        refine mw_get (C := R_M) (T := T_M) (N := 6) (ci := ciM) (v := .ref aP) hx hb htg i_M hown hK hP s1 rfl 4 (by decide) (htg _ k_415) (fun _ h9 => h9) rfl d_M_keep_84 ?_
        refine lv_iload hx hb d_M_keep_87 (lv_at hl 0 rfl) ?_
        refine mw_lald hx hb hK hP 0 s4 rfl (vp_in_nI hlt (by omega)) d_M_keep_89 ?_
        rw [show (nI j).toNatClampNeg = j from nI_clamp (by omega)]
        refine lv_topl (fun x_1 ex_1 => ?_)
        refine mw_last hx hb hK hP hS 0 s4 rfl (vp_in_nI hlt (by omega)) d_M_keep_90 (fun H locs hP hS hz90 => ?_)
        rw [show (nI j).toNatClampNeg = j from nI_clamp (by omega)] at hP
        obtain ⟨w_2, ew_2⟩ : ∃ z9, z9 = va_up w1 aP (some (.inl (cJ, 4, .inr (.inl (vp_updL pc9 j x_1)))) : Option va_E) := ⟨_, rfl⟩
        rw [← ew_2] at hP
        have h_3 : w_2 aP = some (.inl (cJ, 4, .inr (.inl (vp_updL pc9 j x_1)))) := by rw [ew_2, va_up_self]
        have h_4 : w_2 hm = some (.inr (ciM, [.int cd, .int (nI n), .ref aW, .ref aU, .ref aP, .ref aZ])) := by rw [ew_2, va_up_ne _ _ (fun z => by rw [z, s4] at s1; cases s1)]; exact s1
        have h_5 : w_2 aW = some (.inl (cJ, 524288, .inr (.inl M))) := by rw [ew_2, va_up_ne _ _ (fun z => by rw [z, s4] at s2; simp at s2)]; exact s2
        have h_6 : w_2 aU = some (.inl (cJ, 1024, .inr (.inl T))) := by rw [ew_2, va_up_ne _ _ (fun z => by rw [z, s4] at s3; simp at s3)]; exact s3
        have h_7 : w_2 aZ = some (.inl (cI, 4, .inl sz)) := by rw [ew_2, va_up_ne _ _ (fun z => by rw [z, s4] at s5; simp at s5)]; exact s5
        obtain ⟨i_8, ei_8⟩ : ∃ y : Int32, y = (nI j) + 1 := ⟨_, rfl⟩
        refine lv_iinc (v := i_8) (lv' := [(9, .int i_8), (6, .int (nI i)), (7, .long (lN (2147483648 + (a + i)))), (0, .ref hm), (1, .long (lN (2147483648 + a))), (3, .int (nI k9)), (4, .long v)]) hx hb d_M_keep_91 hl (k := 0) rfl (by rw [ei_8]; rfl) (by decide) rfl (fun ls hl => ?_)
        refine lv_goto (tgt := 34) hx hb d_M_keep_94 (by decide) ?_
        have hmo : mo cJ cI w_2 hm n cd M T (vp_updL pc9 j x_1) sz aW aU aP aZ := ⟨hn, h_4, h_5, h_6, h_3, h_7⟩
        have hkm : kM w1 w_2 hm aW aU aP aZ := fun q z1 z2 z3 z4 z5 => by rw [ew_2, va_up_ne _ _ z4]
        refine ih (j + 1) w_2 (vp_updL pc9 j x_1) ls H locs (by omega) (by omega) (fun q hq => ?_) (fun q hq => ?_) hmo (hkm0.trans hkm) hP hS (by rw [← nI_1 j, ← ei_8]; exact lv_sub hl [0, 1, 2, 3, 4, 5, 6] rfl)
        · by_cases hqj : q = j
          · subst hqj; rw [pk_uLs, ex_1, epj]; unfold lost; rw [if_neg (fun z => ?_)]
            have z2 := z.2
            rw [← epj] at z2
            first
              | (rw [hc9, lostB_at (by omega), Bool.and_eq_true, decide_eq_true_iff, decide_eq_true_iff] at z2; exact c75 (by rw [show (2147483648 + c9) / 8 = (2147483648 + (a + i)) / 8 by omega]))
              | (rw [epj, rok_pos hn.2 hro hlt (by rw [← epj]; exact c54), lostB_0] at z2; cases z2)
          · rw [pk_uLn hqj]; exact hlo q (by omega)
        · rw [pk_uLn (by omega)]; exact hhi q (by omega)
      · obtain ⟨c9, hc9, hcn⟩ := rok_at hro hlt (by rw [← epj]; exact c54)
        rw [← epj] at hc9
        refine lv_aload_n hx hb d_M_keep_58 rfl (lv_at hl 3 rfl) ?_
        refine mw_get (C := R_M) (T := T_M) (N := 6) (ci := ciM) (v := .ref aP) hx hb htg i_M hown hK hP s1 rfl 4 (by decide) (htg _ k_415) (fun _ h9 => h9) rfl d_M_keep_59 ?_
        refine lv_iload hx hb d_M_keep_62 (lv_at hl 0 rfl) ?_
        refine mw_lald hx hb hK hP 0 s4 rfl (vp_in_nI hlt (by omega)) d_M_keep_64 ?_
        rw [show (nI j).toNatClampNeg = j from nI_clamp (by omega)]
        rw [show pc9 j = lN (2147483648 + c9) from hc9]
        refine lv_ldc2 (own := R_M) (v := 8) hx hb hown (htg _ k_478) d_M_keep_65 ?_
        refine lv_ldiv hx hb d_M_keep_68 (by decide) ?_
        rw [show (lN (2147483648 + c9)) / 8 = lN ((2147483648 + c9) / 8) from (show lN _ / lN 8 = _ from pk_lDiv (by omega) (by omega) (by omega))]
        refine lv_lload hx hb d_M_keep_69 (lv_at hl 2 rfl) ?_
        refine lv_ldc2 (own := R_M) (v := 8) hx hb hown (htg _ k_478) d_M_keep_71 ?_
        refine lv_ldiv hx hb d_M_keep_74 (by decide) ?_
        rw [show (lN (2147483648 + (a + i))) / 8 = lN ((2147483648 + (a + i)) / 8) from (show lN _ / lN 8 = _ from pk_lDiv (by omega) (by omega) (by omega))]
        refine lc_ne (tgt := 83) hx hb d_M_keep_75 d_M_keep_76 (by decide) (fun c75 => ?_) (fun c75 => ?_)
        · refine lv_aload_n hx hb d_M_keep_83 rfl (lv_at hl 3 rfl) ?_
          refine mw_get (C := R_M) (T := T_M) (N := 6) (ci := ciM) (v := .ref aP) hx hb htg i_M hown hK hP s1 rfl 4 (by decide) (htg _ k_415) (fun _ h9 => h9) rfl d_M_keep_84 ?_
          refine lv_iload hx hb d_M_keep_87 (lv_at hl 0 rfl) ?_
          refine mw_lald hx hb hK hP 0 s4 rfl (vp_in_nI hlt (by omega)) d_M_keep_89 ?_
          rw [show (nI j).toNatClampNeg = j from nI_clamp (by omega)]
          refine lv_topl (fun x_9 ex_9 => ?_)
          refine mw_last hx hb hK hP hS 0 s4 rfl (vp_in_nI hlt (by omega)) d_M_keep_90 (fun H locs hP hS hz90 => ?_)
          rw [show (nI j).toNatClampNeg = j from nI_clamp (by omega)] at hP
          obtain ⟨w_10, ew_10⟩ : ∃ z9, z9 = va_up w1 aP (some (.inl (cJ, 4, .inr (.inl (vp_updL pc9 j x_9)))) : Option va_E) := ⟨_, rfl⟩
          rw [← ew_10] at hP
          have h_11 : w_10 aP = some (.inl (cJ, 4, .inr (.inl (vp_updL pc9 j x_9)))) := by rw [ew_10, va_up_self]
          have h_12 : w_10 hm = some (.inr (ciM, [.int cd, .int (nI n), .ref aW, .ref aU, .ref aP, .ref aZ])) := by rw [ew_10, va_up_ne _ _ (fun z => by rw [z, s4] at s1; cases s1)]; exact s1
          have h_13 : w_10 aW = some (.inl (cJ, 524288, .inr (.inl M))) := by rw [ew_10, va_up_ne _ _ (fun z => by rw [z, s4] at s2; simp at s2)]; exact s2
          have h_14 : w_10 aU = some (.inl (cJ, 1024, .inr (.inl T))) := by rw [ew_10, va_up_ne _ _ (fun z => by rw [z, s4] at s3; simp at s3)]; exact s3
          have h_15 : w_10 aZ = some (.inl (cI, 4, .inl sz)) := by rw [ew_10, va_up_ne _ _ (fun z => by rw [z, s4] at s5; simp at s5)]; exact s5
          obtain ⟨i_16, ei_16⟩ : ∃ y : Int32, y = (nI j) + 1 := ⟨_, rfl⟩
          refine lv_iinc (v := i_16) (lv' := [(9, .int i_16), (6, .int (nI i)), (7, .long (lN (2147483648 + (a + i)))), (0, .ref hm), (1, .long (lN (2147483648 + a))), (3, .int (nI k9)), (4, .long v)]) hx hb d_M_keep_91 hl (k := 0) rfl (by rw [ei_16]; rfl) (by decide) rfl (fun ls hl => ?_)
          refine lv_goto (tgt := 34) hx hb d_M_keep_94 (by decide) ?_
          have hmo : mo cJ cI w_10 hm n cd M T (vp_updL pc9 j x_9) sz aW aU aP aZ := ⟨hn, h_12, h_13, h_14, h_11, h_15⟩
          have hkm : kM w1 w_10 hm aW aU aP aZ := fun q z1 z2 z3 z4 z5 => by rw [ew_10, va_up_ne _ _ z4]
          refine ih (j + 1) w_10 (vp_updL pc9 j x_9) ls H locs (by omega) (by omega) (fun q hq => ?_) (fun q hq => ?_) hmo (hkm0.trans hkm) hP hS (by rw [← nI_1 j, ← ei_16]; exact lv_sub hl [0, 1, 2, 3, 4, 5, 6] rfl)
          · by_cases hqj : q = j
            · subst hqj; rw [pk_uLs, ex_9, epj]; unfold lost; rw [if_neg (fun z => ?_)]
              have z2 := z.2
              rw [← epj] at z2
              first
                | (rw [hc9, lostB_at (by omega), Bool.and_eq_true, decide_eq_true_iff, decide_eq_true_iff] at z2; exact c75 (by rw [show (2147483648 + c9) / 8 = (2147483648 + (a + i)) / 8 by omega]))
                | (rw [epj, rok_pos hn.2 hro hlt (by rw [← epj]; exact c54), lostB_0] at z2; cases z2)
            · rw [pk_uLn hqj]; exact hlo q (by omega)
          · rw [pk_uLn (by omega)]; exact hhi q (by omega)
        · refine lv_lconst (v := 0) hx hb d_M_keep_79 rfl ?_
          refine lv_goto (tgt := 90) hx hb d_M_keep_80 (by decide) ?_
          refine mw_last hx hb hK hP hS 0 s4 rfl (vp_in_nI hlt (by omega)) d_M_keep_90 (fun H locs hP hS hz90 => ?_)
          rw [show (nI j).toNatClampNeg = j from nI_clamp (by omega)] at hP
          obtain ⟨w_17, ew_17⟩ : ∃ z9, z9 = va_up w1 aP (some (.inl (cJ, 4, .inr (.inl (vp_updL pc9 j 0)))) : Option va_E) := ⟨_, rfl⟩
          rw [← ew_17] at hP
          have h_18 : w_17 aP = some (.inl (cJ, 4, .inr (.inl (vp_updL pc9 j 0)))) := by rw [ew_17, va_up_self]
          have h_19 : w_17 hm = some (.inr (ciM, [.int cd, .int (nI n), .ref aW, .ref aU, .ref aP, .ref aZ])) := by rw [ew_17, va_up_ne _ _ (fun z => by rw [z, s4] at s1; cases s1)]; exact s1
          have h_20 : w_17 aW = some (.inl (cJ, 524288, .inr (.inl M))) := by rw [ew_17, va_up_ne _ _ (fun z => by rw [z, s4] at s2; simp at s2)]; exact s2
          have h_21 : w_17 aU = some (.inl (cJ, 1024, .inr (.inl T))) := by rw [ew_17, va_up_ne _ _ (fun z => by rw [z, s4] at s3; simp at s3)]; exact s3
          have h_22 : w_17 aZ = some (.inl (cI, 4, .inl sz)) := by rw [ew_17, va_up_ne _ _ (fun z => by rw [z, s4] at s5; simp at s5)]; exact s5
          obtain ⟨i_23, ei_23⟩ : ∃ y : Int32, y = (nI j) + 1 := ⟨_, rfl⟩
          refine lv_iinc (v := i_23) (lv' := [(9, .int i_23), (6, .int (nI i)), (7, .long (lN (2147483648 + (a + i)))), (0, .ref hm), (1, .long (lN (2147483648 + a))), (3, .int (nI k9)), (4, .long v)]) hx hb d_M_keep_91 hl (k := 0) rfl (by rw [ei_23]; rfl) (by decide) rfl (fun ls hl => ?_)
          refine lv_goto (tgt := 34) hx hb d_M_keep_94 (by decide) ?_
          have hmo : mo cJ cI w_17 hm n cd M T (vp_updL pc9 j 0) sz aW aU aP aZ := ⟨hn, h_19, h_20, h_21, h_18, h_22⟩
          have hkm : kM w1 w_17 hm aW aU aP aZ := fun q z1 z2 z3 z4 z5 => by rw [ew_17, va_up_ne _ _ z4]
          refine ih (j + 1) w_17 (vp_updL pc9 j 0) ls H locs (by omega) (by omega) (fun q hq => ?_) (fun q hq => ?_) hmo (hkm0.trans hkm) hP hS (by rw [← nI_1 j, ← ei_23]; exact lv_sub hl [0, 1, 2, 3, 4, 5, 6] rfl)
          · by_cases hqj : q = j
            · subst hqj; rw [pk_uLs]; unfold lost; rw [if_pos ⟨hlt, by rw [← epj, hc9, lostB_at (by omega)]; have e7 := (pk_lEQ (by omega) (by omega)).mp c75; rw [decide_eq_true (by omega), decide_eq_true (by omega)]; rfl⟩]
            · rw [pk_uLn hqj]; exact hlo q (by omega)
          · rw [pk_uLn (by omega)]; exact hhi q (by omega)
set_option maxHeartbeats 4000000 in
set_option maxRecDepth 100000 in
/-- keep: the bytes -/
theorem lp_M_keep2 {p : Program} {l : Launch} {e : Env} {s : State} {m : MethodId} {args : Array Value} {below : List Frame} {meth : Method} {c : Code} {Q : State → Prop} {D : va_G} {cJ cI cP : ClassId} {bs : Nat} (hx : p.tables.exec = Jvm.exec) (hb : c.code = c_M_keep) (hml : c.maxLocals = 10) (hown : s.vm.findClass R_M = some m.cls) (htg : ∀ w ∈ gt, w.before args s = true) (hK : va_K D vwCl (mT cJ cI cP) s) (hbs : bs ≤ s.heap.size) (w : Nat → Option va_E) (hm n : Nat) (cd : Int32) (M T pl : Nat → Int64) (sz : Nat → Int32) (aW aU aP aZ : Nat) (hro : rok pl n) (a k9 : Nat) (v : Int64) (h8 : k9 ≤ 8) (hak : a + k9 ≤ 4096 * n) (kx : ∀ (w1 : Nat → Option va_E) (Mc : Nat → Int64) (ls : Array Slot) (H : Heap) (locs : List Loc), mb Mc = wrN (mb M) a k9 v → mo cJ cI w1 hm n cd Mc (tK T a k9) (pK pl a k9) sz aW aU aP aZ → kM w w1 hm aW aU aP aZ → mw D vwCl bs w1 H → va_S (mA bs) s.heap H locs → W p l e ({ frames := 1, cells := 0, slots := 0, locals := 25 } : Room) s m args below meth c H locs 0 0 Q (F0 m 139 ls [])) :
    ∀ (k : Nat) (i : Nat) (w1 : Nat → Option va_E) (Mc : Nat → Int64) (ls : Array Slot) (H : Heap) (locs : List Loc), k9 - i < k → i ≤ k9 → mb Mc = wrN (mb M) a i v → mo cJ cI w1 hm n cd Mc (tK T a i) (pK pl a i) sz aW aU aP aZ → kM w w1 hm aW aU aP aZ → mw D vwCl bs w1 H → va_S (mA bs) s.heap H locs → lv_has ls 10 [(6, .int (nI i)), (0, .ref hm), (1, .long (lN (2147483648 + a))), (3, .int (nI k9)), (4, .long v)] → W p l e ({ frames := 1, cells := 0, slots := 0, locals := 25 } : Room) s m args below meth c H locs 0 0 Q (F0 m 3 ls []) := by
  intro k
  induction k with
  | zero => intro i w1 Mc ls H locs hk0; exact absurd hk0 (by omega)
  | succ k ih =>
    intro i w1 Mc ls H locs hk hi hMc hs1 hkm0 hP hS hl
    obtain ⟨hn, s1, s2, s3, s4, s5⟩ := id hs1
    refine lv_iload hx hb d_M_keep_3 (lv_at hl 0 rfl) ?_
    refine lv_iload_n hx hb d_M_keep_5 rfl (lv_at hl 3 rfl) ?_
    refine lv_icmp_ge (tgt := 139) hx hb d_M_keep_6 (by decide) (fun c6 => ?_) (fun c6 => ?_)
    · have e5 : i = k9 := Nat.le_antisymm hi (Nat.le_of_not_lt (fun z => nI_ge z (by omega) c6))
      subst e5
      exact kx w1 Mc ls H locs hMc hs1 hkm0 hP hS
    · have hlt : i < k9 := Nat.lt_of_not_le (fun z => c6 (nI_le z (by omega)))
      refine lv_lload_n hx hb d_M_keep_9 rfl (lv_at hl 2 rfl) ?_
      refine lv_iload hx hb d_M_keep_10 (lv_at hl 0 rfl) ?_
      refine lv_i2l hx hb d_M_keep_12 rfl ?_
      refine lv_ladd hx hb d_M_keep_13 ?_
      rw [show (lN (2147483648 + a)) + ((nI i).toInt64) = lN (2147483648 + (a + i)) from (by rw [nI_l (by omega), lN_add]; congr 1; omega)]
      refine lv_lstore (lv' := [(7, .long (lN (2147483648 + (a + i)))), (6, .int (nI i)), (0, .ref hm), (1, .long (lN (2147483648 + a))), (3, .int (nI k9)), (4, .long v)]) hx hb d_M_keep_14 hl (by decide) rfl (fun ls hl => ?_)
      refine lv_aload_n hx hb d_M_keep_16 rfl (lv_at hl 2 rfl) ?_
      refine lv_lload hx hb d_M_keep_17 (lv_at hl 0 rfl) ?_
      refine lv_lload hx hb d_M_keep_19 (lv_at hl 5 rfl) ?_
      refine lv_bipush (v := 8) hx hb d_M_keep_21 (by decide) ?_
      refine lv_iload hx hb d_M_keep_23 (lv_at hl 1 rfl) ?_
      refine lv_imul hx hb d_M_keep_25 ?_
      rw [show 8 * (nI i) = nI (8 * i) from (by show nI 8 * nI i = _; exact pk_mul _ _)]
      refine lv_lushr hx hb d_M_keep_26 rfl ?_
      refine lv_l2i hx hb d_M_keep_27 rfl ?_
      refine mc_v (va_runV (As := [.long (lN (2147483648 + (a + i))), .int (((v.toUInt64 >>> ((nI (8 * i)).toInt64.toUInt64 &&& Int64.toUInt64 63)).toInt64).toInt32)]) (rest := []) ⟨hx, hb, hml, hown, htg⟩ (t_M_set l D cJ cI cP bs w1 hm n cd Mc (tK T a i) (pK pl a i) sz aW aU aP aZ hs1 (a + i) (by omega) (((v.toUInt64 >>> ((nI (8 * i)).toInt64.toUInt64 &&& Int64.toUInt64 63)).toInt64).toInt32)) (cwV (own := R_M) (C := R_M) 2 htg (ginV k_472 k_474 k_22 k_26 k_475) rfl rfl rfl (by decide +kernel) ⟨Nat.le_of_ble_eq_true rfl, Nat.le_of_ble_eq_true rfl⟩) (mPc.preV (ci := ciM) (q := (R_M, T_M, 6)) hbs hS hP hK rfl s1) rfl rfl hl.1 rfl (lv_room (Nat.le_of_ble_eq_true rfl)) d_M_keep_28 ⟨Nat.le_of_ble_eq_true rfl, Nat.le_of_ble_eq_true rfl⟩) hS (fun u28 H locs hw hP hz28 hS => ?_)
      obtain ⟨w2, M2⟩ := u28
      obtain ⟨b1, b2, b3⟩ := hw
      have b1 : mo cJ cI w2 hm n cd M2 (tK T a i) (pK pl a i) sz aW aU aP aZ := b1
      have b2 : mb M2 = wrN (mb Mc) (a + i) 1 _ := b2
      have b3 : kM w1 w2 hm aW aU aP aZ := b3
      have hP : mw D vwCl bs w2 H := hP
      rw [hMc, wrN_s _ _ _ v _ (fun q hq => by rw [bi_l2i _ (by omega), bi_ushr _ (by omega)])] at b2
      refine lv_iconst (v := 0) hx hb d_M_keep_31 (by decide) ?_
      refine lv_istore (lv' := [(9, .int 0), (7, .long (lN (2147483648 + (a + i)))), (6, .int (nI i)), (0, .ref hm), (1, .long (lN (2147483648 + a))), (3, .int (nI k9)), (4, .long v)]) hx hb d_M_keep_32 hl (by decide) rfl (fun ls hl => ?_)
      refine lp_M_keep1 (D := D) (cJ := cJ) (cI := cI) (cP := cP) (bs := bs) hx hb hml hown htg hK hbs w2 hm n cd M2 (tK T a i) (pK pl a i) sz aW aU aP aZ (rok_pK hro a i) a i k9 v (by omega) (fun w3 ls H locs q1 q2 hP hS hl => ?_) 5 0 w2 (pK pl a i) ls H locs (by omega) (by omega) (fun q hq => absurd hq (by omega)) (fun _ _ => rfl) b1 kM.rf hP hS (lv_sub hl [0, 2, 1, 3, 4, 5, 6] rfl)
      rw [pK_s] at q1
      obtain ⟨hn', s1', s2', s3', s4', s5'⟩ := id q1
      refine lv_iload hx hb d_M_keep_97 (lv_at hl 0 rfl) ?_
      refine lv_if_eq (tgt := 113) hx hb d_M_keep_99 (by decide) (fun c99 => ?_) (fun c99 => ?_)
      · have hcase : i = 0 ∨ (a + i) % 4096 = 0 := by
          first
            | exact Or.inl (nI_inj (by omega) (by omega) (show nI i = nI 0 from c99))
            | exact Or.inr (by have e7 := (pk_lEQ (b := 0) (by omega) (by omega)).mp c109; omega)
        refine lv_aload_n hx hb d_M_keep_113 rfl (lv_at hl 2 rfl) ?_
        refine mw_get (C := R_M) (T := T_M) (N := 6) (ci := ciM) (v := .ref aU) hx hb htg i_M hown hK hP s1' rfl 3 (by decide) (htg _ k_414) (fun _ h9 => h9) rfl d_M_keep_114 ?_
        refine lv_lload hx hb d_M_keep_117 (lv_at hl 1 rfl) ?_
        refine lv_ldc2 (own := R_M) (v := 2147483648) hx hb hown (htg _ k_453) d_M_keep_119 ?_
        refine lv_lsub hx hb d_M_keep_122 ?_
        rw [show (lN (2147483648 + (a + i))) - 2147483648 = lN (a + i) from sub_st _]
        refine lv_ldc2 (own := R_M) (v := 4096) hx hb hown (htg _ k_454) d_M_keep_123 ?_
        refine lv_ldiv hx hb d_M_keep_126 (by decide) ?_
        rw [show (lN (a + i)) / 4096 = lN ((a + i) / 4096) from (show lN _ / lN 4096 = _ from pk_lDiv (by omega) (by omega) (by omega))]
        refine lv_l2i hx hb d_M_keep_127 rfl ?_
        rw [show (lN ((a + i) / 4096)).toInt32 = nI ((a + i) / 4096) from lN_i _]
        refine lv_dup2_11 hx hb d_M_keep_128 rfl rfl ?_
        refine mw_lald hx hb hK hP 0 s3' rfl (vp_in_nI (show (a + i) / 4096 < 1024 by omega) (by omega)) d_M_keep_129 ?_
        rw [show (nI ((a + i) / 4096)).toNatClampNeg = (a + i) / 4096 from nI_clamp (by omega)]
        refine lv_lconst (v := 1) hx hb d_M_keep_130 rfl ?_
        refine lv_ladd hx hb d_M_keep_131 ?_
        refine lv_topl (fun x_1 ex_1 => ?_)
        refine mw_last hx hb hK hP hS 0 s3' rfl (vp_in_nI (show (a + i) / 4096 < 1024 by omega) (by omega)) d_M_keep_132 (fun H locs hP hS hz132 => ?_)
        rw [show (nI ((a + i) / 4096)).toNatClampNeg = (a + i) / 4096 from nI_clamp (by omega)] at hP
        obtain ⟨w_2, ew_2⟩ : ∃ z9, z9 = va_up w3 aU (some (.inl (cJ, 1024, .inr (.inl (vp_updL (tK T a i) ((a + i) / 4096) x_1)))) : Option va_E) := ⟨_, rfl⟩
        rw [← ew_2] at hP
        have h_3 : w_2 aU = some (.inl (cJ, 1024, .inr (.inl (vp_updL (tK T a i) ((a + i) / 4096) x_1)))) := by rw [ew_2, va_up_self]
        have h_4 : w_2 hm = some (.inr (ciM, [.int cd, .int (nI n), .ref aW, .ref aU, .ref aP, .ref aZ])) := by rw [ew_2, va_up_ne _ _ (fun z => by rw [z, s3'] at s1'; cases s1')]; exact s1'
        have h_5 : w_2 aW = some (.inl (cJ, 524288, .inr (.inl M2))) := by rw [ew_2, va_up_ne _ _ (fun z => by rw [z, s3'] at s2'; simp at s2')]; exact s2'
        have h_6 : w_2 aP = some (.inl (cJ, 4, .inr (.inl (pK pl a (i + 1))))) := by rw [ew_2, va_up_ne _ _ (fun z => by rw [z, s3'] at s4'; simp at s4')]; exact s4'
        have h_7 : w_2 aZ = some (.inl (cI, 4, .inl sz)) := by rw [ew_2, va_up_ne _ _ (fun z => by rw [z, s3'] at s5'; simp at s5')]; exact s5'
        obtain ⟨i_8, ei_8⟩ : ∃ y : Int32, y = (nI i) + 1 := ⟨_, rfl⟩
        refine lv_iinc (v := i_8) (lv' := [(6, .int i_8), (7, .long (lN (2147483648 + (a + i)))), (0, .ref hm), (1, .long (lN (2147483648 + a))), (3, .int (nI k9)), (4, .long v)]) hx hb d_M_keep_133 hl (k := 0) rfl (by rw [ei_8]; rfl) (by decide) rfl (fun ls hl => ?_)
        refine lv_goto (tgt := 3) hx hb d_M_keep_136 (by decide) ?_
        have hmo : mo cJ cI w_2 hm n cd M2 (tK T a (i + 1)) (pK pl a (i + 1)) sz aW aU aP aZ := ⟨hn, h_4, h_5, by rw [h_3]; rw [← tK_inc T a i hcase]; rw [ex_1], h_6, h_7⟩
        have hkm : kM w3 w_2 hm aW aU aP aZ := fun q z1 z2 z3 z4 z5 => by rw [ew_2, va_up_ne _ _ z3]
        exact ih (i + 1) w_2 M2 ls H locs (by omega) (by omega) b2 hmo (((hkm0.trans b3).trans q2).trans hkm) hP hS (by rw [← nI_1 i, ← ei_8]; exact lv_sub hl [0, 2, 3, 4, 5] rfl)
      · refine lv_lload hx hb d_M_keep_102 (lv_at hl 1 rfl) ?_
        refine lv_ldc2 (own := R_M) (v := 4096) hx hb hown (htg _ k_454) d_M_keep_104 ?_
        refine lv_lrem hx hb d_M_keep_107 (by decide) ?_
        rw [show (lN (2147483648 + (a + i))) - (lN (2147483648 + (a + i))) / 4096 * 4096 = lN ((2147483648 + (a + i)) % 4096) from (show lN _ - lN _ / lN 4096 * lN 4096 = _ from pk_lRem (by omega) (by omega) (by omega))]
        refine lv_lconst (v := 0) hx hb d_M_keep_108 rfl ?_
        refine lc_ne (tgt := 133) hx hb d_M_keep_109 d_M_keep_110 (by decide) (fun c109 => ?_) (fun c109 => ?_)
        · obtain ⟨i_9, ei_9⟩ : ∃ y : Int32, y = (nI i) + 1 := ⟨_, rfl⟩
          refine lv_iinc (v := i_9) (lv' := [(6, .int i_9), (7, .long (lN (2147483648 + (a + i)))), (0, .ref hm), (1, .long (lN (2147483648 + a))), (3, .int (nI k9)), (4, .long v)]) hx hb d_M_keep_133 hl (k := 0) rfl (by rw [ei_9]; rfl) (by decide) rfl (fun ls hl => ?_)
          refine lv_goto (tgt := 3) hx hb d_M_keep_136 (by decide) ?_
          have hi0 : ¬ i = 0 := fun z => c99 (by rw [z]; rfl)
          have hm9 : ¬ (a + i) % 4096 = 0 := fun z => c109 (by rw [show (2147483648 + (a + i)) % 4096 = 0 by omega]; rfl)
          have hmo : mo cJ cI w3 hm n cd M2 (tK T a (i + 1)) (pK pl a (i + 1)) sz aW aU aP aZ := by rw [← tK_same T a i hi0 hm9]; exact q1
          have hkm : kM w3 w3 hm aW aU aP aZ := fun q z1 z2 z3 z4 z5 => by rfl
          exact ih (i + 1) w3 M2 ls H locs (by omega) (by omega) b2 hmo (((hkm0.trans b3).trans q2).trans hkm) hP hS (by rw [← nI_1 i, ← ei_9]; exact lv_sub hl [0, 2, 3, 4, 5] rfl)
        · have hcase : i = 0 ∨ (a + i) % 4096 = 0 := by
            first
              | exact Or.inl (nI_inj (by omega) (by omega) (show nI i = nI 0 from c99))
              | exact Or.inr (by have e7 := (pk_lEQ (b := 0) (by omega) (by omega)).mp c109; omega)
          refine lv_aload_n hx hb d_M_keep_113 rfl (lv_at hl 2 rfl) ?_
          refine mw_get (C := R_M) (T := T_M) (N := 6) (ci := ciM) (v := .ref aU) hx hb htg i_M hown hK hP s1' rfl 3 (by decide) (htg _ k_414) (fun _ h9 => h9) rfl d_M_keep_114 ?_
          refine lv_lload hx hb d_M_keep_117 (lv_at hl 1 rfl) ?_
          refine lv_ldc2 (own := R_M) (v := 2147483648) hx hb hown (htg _ k_453) d_M_keep_119 ?_
          refine lv_lsub hx hb d_M_keep_122 ?_
          rw [show (lN (2147483648 + (a + i))) - 2147483648 = lN (a + i) from sub_st _]
          refine lv_ldc2 (own := R_M) (v := 4096) hx hb hown (htg _ k_454) d_M_keep_123 ?_
          refine lv_ldiv hx hb d_M_keep_126 (by decide) ?_
          rw [show (lN (a + i)) / 4096 = lN ((a + i) / 4096) from (show lN _ / lN 4096 = _ from pk_lDiv (by omega) (by omega) (by omega))]
          refine lv_l2i hx hb d_M_keep_127 rfl ?_
          rw [show (lN ((a + i) / 4096)).toInt32 = nI ((a + i) / 4096) from lN_i _]
          refine lv_dup2_11 hx hb d_M_keep_128 rfl rfl ?_
          refine mw_lald hx hb hK hP 0 s3' rfl (vp_in_nI (show (a + i) / 4096 < 1024 by omega) (by omega)) d_M_keep_129 ?_
          rw [show (nI ((a + i) / 4096)).toNatClampNeg = (a + i) / 4096 from nI_clamp (by omega)]
          refine lv_lconst (v := 1) hx hb d_M_keep_130 rfl ?_
          refine lv_ladd hx hb d_M_keep_131 ?_
          refine lv_topl (fun x_10 ex_10 => ?_)
          refine mw_last hx hb hK hP hS 0 s3' rfl (vp_in_nI (show (a + i) / 4096 < 1024 by omega) (by omega)) d_M_keep_132 (fun H locs hP hS hz132 => ?_)
          rw [show (nI ((a + i) / 4096)).toNatClampNeg = (a + i) / 4096 from nI_clamp (by omega)] at hP
          obtain ⟨w_11, ew_11⟩ : ∃ z9, z9 = va_up w3 aU (some (.inl (cJ, 1024, .inr (.inl (vp_updL (tK T a i) ((a + i) / 4096) x_10)))) : Option va_E) := ⟨_, rfl⟩
          rw [← ew_11] at hP
          have h_12 : w_11 aU = some (.inl (cJ, 1024, .inr (.inl (vp_updL (tK T a i) ((a + i) / 4096) x_10)))) := by rw [ew_11, va_up_self]
          have h_13 : w_11 hm = some (.inr (ciM, [.int cd, .int (nI n), .ref aW, .ref aU, .ref aP, .ref aZ])) := by rw [ew_11, va_up_ne _ _ (fun z => by rw [z, s3'] at s1'; cases s1')]; exact s1'
          have h_14 : w_11 aW = some (.inl (cJ, 524288, .inr (.inl M2))) := by rw [ew_11, va_up_ne _ _ (fun z => by rw [z, s3'] at s2'; simp at s2')]; exact s2'
          have h_15 : w_11 aP = some (.inl (cJ, 4, .inr (.inl (pK pl a (i + 1))))) := by rw [ew_11, va_up_ne _ _ (fun z => by rw [z, s3'] at s4'; simp at s4')]; exact s4'
          have h_16 : w_11 aZ = some (.inl (cI, 4, .inl sz)) := by rw [ew_11, va_up_ne _ _ (fun z => by rw [z, s3'] at s5'; simp at s5')]; exact s5'
          obtain ⟨i_17, ei_17⟩ : ∃ y : Int32, y = (nI i) + 1 := ⟨_, rfl⟩
          refine lv_iinc (v := i_17) (lv' := [(6, .int i_17), (7, .long (lN (2147483648 + (a + i)))), (0, .ref hm), (1, .long (lN (2147483648 + a))), (3, .int (nI k9)), (4, .long v)]) hx hb d_M_keep_133 hl (k := 0) rfl (by rw [ei_17]; rfl) (by decide) rfl (fun ls hl => ?_)
          refine lv_goto (tgt := 3) hx hb d_M_keep_136 (by decide) ?_
          have hmo : mo cJ cI w_11 hm n cd M2 (tK T a (i + 1)) (pK pl a (i + 1)) sz aW aU aP aZ := ⟨hn, h_13, h_14, by rw [h_12]; rw [← tK_inc T a i hcase]; rw [ex_10], h_15, h_16⟩
          have hkm : kM w3 w_11 hm aW aU aP aZ := fun q z1 z2 z3 z4 z5 => by rw [ew_11, va_up_ne _ _ z3]
          exact ih (i + 1) w_11 M2 ls H locs (by omega) (by omega) b2 hmo (((hkm0.trans b3).trans q2).trans hkm) hP hS (by rw [← nI_1 i, ← ei_17]; exact lv_sub hl [0, 2, 3, 4, 5] rfl)
set_option maxHeartbeats 4000000 in
set_option maxRecDepth 100000 in
/-- keep -/
theorem t_M_keep (l : Launch) (D : va_G) (cJ cI cP : ClassId) (bs : Nat) (w : Nat → Option va_E) (hm n : Nat) (cd : Int32) (M T pl : Nat → Int64) (sz : Nat → Int32) (aW aU aP aZ : Nat) (hs : mo cJ cI w hm n cd M T pl sz aW aU aP aZ) (hro : rok pl n) (a k : Nat) (h8 : k ≤ 8) (hak : a + k ≤ 4096 * n) (v : Int64) : Met l y_M_keep ws_M_keep ({ frames := 1, cells := 0, slots := 0, locals := 25 }) (mPc D vwCl (mT cJ cI cP) bs w [.ref hm, .long (lN (2147483648 + a)), .int (nI k), .long v]) (va_Qv (S := ((Nat → Option va_E) × (Nat → Int64))) (fun u => mo cJ cI u.1 hm n cd u.2 (tK T a k) (pK pl a k) sz aW aU aP aZ ∧ mb u.2 = wrN (mb M) a k v ∧ kM w u.1 hm aW aU aP aZ) (mB D vwCl bs (fun u => u.1)) (mA bs)) 0 0 (mA bs) := by
  refine Met.ofW (cc := c_M_keep) (maxL := 10) (ret := none) (by decide) rfl ?_
  intro p e s m args below meth c s₁ B hml hv
  obtain ⟨rfl, hbs, hP, hK⟩ := hv
  have hx := B.exec
  have hb := B.bytes
  have hr := B.returns
  have htg : ∀ w ∈ gt, w.before _ s = true := fun w h => atoms_spec (ws := ws_M_keep) B.pre w (List.mem_cons_of_mem _ h)
  have hown : s.vm.findClass R_M = some m.cls := findClass_of_methodNamed B.named
  have hlocks := B.notSynchronized
  have hS : va_S (mA bs) s.heap s.heap [] := va_S.rf
  have hl := lv_entry ([.ref hm, .long (lN (2147483648 + a)), .int (nI k), .long v]) (n := 10) (Nat.le_of_ble_eq_true rfl)
  rw [lg_entry_eq]
  generalize (lg_sl ([.ref hm, .long (lN (2147483648 + a)), .int (nI k), .long v]) ++ List.replicate (10 - (lg_sl ([.ref hm, .long (lN (2147483648 + a)), .int (nI k), .long v])).length) Slot.unset).toArray = ls at hl ⊢
  have hl : lv_has ls 10 [(0, .ref hm), (1, .long (lN (2147483648 + a))), (3, .int (nI k)), (4, .long v)] := hl
  obtain ⟨hn, s1, s2, s3, s4, s5⟩ := id hs
  refine lv_iconst (v := 0) hx hb d_M_keep_0 (by decide) ?_
  refine lv_istore (lv' := [(6, .int 0), (0, .ref hm), (1, .long (lN (2147483648 + a))), (3, .int (nI k)), (4, .long v)]) hx hb d_M_keep_1 hl (by decide) rfl (fun ls hl => ?_)
  refine lp_M_keep2 (D := D) (cJ := cJ) (cI := cI) (cP := cP) (bs := bs) hx hb hml hown htg hK hbs w hm n cd M T pl sz aW aU aP aZ hro a k v h8 hak (fun w1 Mc ls H locs q1 q2 q3 hP hS => ?_) (k + 1) 0 w M ls _ _ (by omega) (by omega) (wrN_0 _ _ _).symm hs kM.rf hP hS (lv_sub hl [0, 1, 2, 3, 4] rfl)
  exact W.vret hx hb hr (fun t ht hW => ⟨⟨(w1, Mc), rfl, ⟨q2, q1, q3⟩, hP.at ht⟩, hS.F ht⟩) hS.2.2 d_M_keep_139
end
section
theorem bi_lN {m z : Nat} (hz : z < 64) : bi (lN m) z = m.testBit z := by
  show (BitVec.ofNat 64 m).getLsbD z = _
  rw [BitVec.getLsbD_ofNat, decide_eq_true hz, Bool.true_and]
theorem pat_t : ∀ c, c < 256 → ∀ z, z < 64 → (c * 72340172838076673).testBit z = c.testBit (z % 8) := by decide +kernel
theorem pat_b (v : Int32) {z : Nat} (hz : z < 64) : bi (pat v) z = bi v.toInt64 (z % 8) := by
  have hc : v.toBitVec.toNat % 2 ^ 8 < 256 := Nat.mod_lt _ (by decide)
  unfold pat
  rw [pk_and v 8 (by decide), nI_l (by omega)]
  show bi (lN (v.toBitVec.toNat % 2 ^ 8) * lN 72340172838076673) z = _
  rw [lN_mul, bi_lN hz, pat_t _ hc z hz, Nat.testBit_mod_two_pow, decide_eq_true (show z % 8 < 8 by omega), Bool.true_and, bi_i _ (by omega), BitVec.testBit_toNat]
theorem upd_tinc (T : Nat → Int64) (p : Nat) (y : Int64) : vp_updL (tinc T p (p + 1)) p y = vp_updL T p y := by
  funext j
  by_cases h : j = p
  · rw [h, pk_uLs, pk_uLs]
  · rw [pk_uLn h, pk_uLn h]
    unfold tinc
    rw [if_neg (by omega)]
theorem upd_self (T : Nat → Int64) (p : Nat) : vp_updL T p (T p) = T := by
  funext j
  by_cases h : j = p
  · rw [h, pk_uLs]
  · rw [pk_uLn h]
theorem tK_1 (T : Nat → Int64) (c : Nat) : tK T c 1 = tinc T (c / 4096) (c / 4096 + 1) := by
  unfold tK
  rw [if_neg (by omega), Nat.add_sub_cancel]
theorem pK_1 (pl : Nat → Int64) (a i : Nat) : pK (pK pl a i) (a + i) 1 = pK pl a (i + 1) := by
  rw [← pK_s pl a i]
  generalize pK pl a i = P
  unfold pK
  rw [if_neg (by omega), Nat.add_sub_cancel]
def flK (B : Nat → Bool) (a c : Nat) (v : Int32) : Nat → Bool := fun b => if 8 * a ≤ b ∧ b < 8 * c then bi v.toInt64 (b % 8) else B b
theorem flK_s (B : Nat → Bool) (a i : Nat) (v : Int32) : wrN (flK B a (a + i) v) (a + i) 1 v.toInt64 = flK B a (a + (i + 1)) v := by
  funext b
  unfold wrN flK
  by_cases h : 8 * (a + i) ≤ b ∧ b < 8 * (a + i + 1)
  · rw [if_pos h, if_pos (by omega)]
    congr 1
    omega
  · rw [if_neg h]
    by_cases h2 : 8 * a ≤ b ∧ b < 8 * (a + i)
    · rw [if_pos h2, if_pos (by omega)]
    · rw [if_neg h2, if_neg (by omega)]
theorem flK_0 (B : Nat → Bool) (a : Nat) (v : Int32) : flK B a (a + 0) v = B := by
  funext b
  unfold flK
  rw [if_neg (by omega)]
theorem flK_B {Mc M : Nat → Int64} {a b : Nat} {v : Int32} (hab : a < b) (h : mb Mc = flK (mb M) a b v) (k z : Nat) (hz : z < 64) : bi (Mc k) z = flB M a (b - 1) (pat v) k z := by
  have e1 : mb Mc (64 * k + z) = bi (Mc k) z := by unfold mb; rw [show (64 * k + z) / 64 = k by omega, show (64 * k + z) % 64 = z by omega]
  have e2 : mb M (64 * k + z) = bi (M k) z := by unfold mb; rw [show (64 * k + z) / 64 = k by omega, show (64 * k + z) % 64 = z by omega]
  rw [← e1, h]
  unfold flK flB
  by_cases c : 8 * a ≤ 64 * k + z ∧ 64 * k + z < 8 * b
  · rw [if_pos c, if_pos (by omega), pat_b v hz]
    congr 1
    omega
  · rw [if_neg c, if_neg (by omega), e2]
set_option maxHeartbeats 4000000 in
set_option maxRecDepth 100000 in
/-- fill: its loop -/
theorem lp_M_fill {p : Program} {l : Launch} {e : Env} {s : State} {m : MethodId} {args : Array Value} {below : List Frame} {meth : Method} {c : Code} {Q : State → Prop} {D : va_G} {cJ cI cP : ClassId} {bs : Nat} (hx : p.tables.exec = Jvm.exec) (hb : c.code = c_M_fill) (hml : c.maxLocals = 10) (hown : s.vm.findClass R_M = some m.cls) (htg : ∀ w ∈ gt, w.before args s = true) (hK : va_K D vwCl (mT cJ cI cP) s) (hbs : bs ≤ s.heap.size) (w : Nat → Option va_E) (hm n : Nat) (cd : Int32) (M T pl : Nat → Int64) (sz : Nat → Int32) (aW aU aP aZ : Nat) (hro : rok pl n) (a b : Nat) (v : Int32) (hab : a < b) (hbn : b ≤ 4096 * n) (hn9 : n ≤ 1024) (kx : ∀ (w1 : Nat → Option va_E) (Mc : Nat → Int64) (ls : Array Slot) (H : Heap) (locs : List Loc), mb Mc = flK (mb M) a b v → mo cJ cI w1 hm n cd Mc (tK T a (b - a)) (pK pl a (b - a)) sz aW aU aP aZ → kM w w1 hm aW aU aP aZ → mw D vwCl bs w1 H → va_S (mA bs) s.heap H locs → W p l e ({ frames := 2, cells := 0, slots := 0, locals := 54 } : Room) s m args below meth c H locs 0 0 Q (F0 m 141 ls [])) :
    ∀ (k : Nat) (i : Nat) (w1 : Nat → Option va_E) (Mc : Nat → Int64) (ls : Array Slot) (H : Heap) (locs : List Loc), b - (a + i) < k → a + i ≤ b → mb Mc = flK (mb M) a (a + i) v → mo cJ cI w1 hm n cd Mc (tK T a i) (pK pl a i) sz aW aU aP aZ → kM w w1 hm aW aU aP aZ → mw D vwCl bs w1 H → va_S (mA bs) s.heap H locs → lv_has ls 10 [(6, .long (lN (2147483648 + (a + i)))), (0, .ref hm), (1, .long (lN (2147483648 + a))), (3, .long (lN (2147483648 + b))), (5, .int v)] → W p l e ({ frames := 2, cells := 0, slots := 0, locals := 54 } : Room) s m args below meth c H locs 0 0 Q (F0 m 54 ls []) := by
  intro k
  induction k with
  | zero => intro i w1 Mc ls H locs hk0; exact absurd hk0 (by omega)
  | succ k ih =>
    intro i w1 Mc ls H locs hk hi hMc hs1 hkm0 hP hS hl
    obtain ⟨hn, s1, s2, s3, s4, s5⟩ := id hs1
    refine lv_lload hx hb d_M_fill_54 (lv_at hl 0 rfl) ?_
    refine lv_lload_n hx hb d_M_fill_56 rfl (lv_at hl 3 rfl) ?_
    refine lc_ge (tgt := 141) hx hb d_M_fill_57 d_M_fill_58 (by decide) (fun c57 => ?_) (fun c57 => ?_)
    · have e5 : a + i = b := Nat.le_antisymm hi ((pk_lLE (by omega) (by omega)).mp c57 |> fun z => by omega)
      have e6 : i = b - a := by omega
      subst e6
      rw [show a + (b - a) = b by omega] at hMc
      exact kx w1 Mc ls H locs hMc hs1 hkm0 hP hS
    · have hlt : a + i < b := by
        rcases Nat.lt_or_ge (a + i) b with z | z
        · exact z
        · exact absurd ((pk_lLE (by omega) (by omega)).mpr (by omega)) c57
      refine lv_aload_n hx hb d_M_fill_61 rfl (lv_at hl 1 rfl) ?_
      refine mw_get (C := R_M) (T := T_M) (N := 6) (ci := ciM) (v := .ref aU) hx hb htg i_M hown hK hP s1 rfl 3 (by decide) (htg _ k_414) (fun _ h9 => h9) rfl d_M_fill_62 ?_
      refine lv_lload hx hb d_M_fill_65 (lv_at hl 0 rfl) ?_
      refine lv_ldc2 (own := R_M) (v := 2147483648) hx hb hown (htg _ k_453) d_M_fill_67 ?_
      refine lv_lsub hx hb d_M_fill_70 ?_
      rw [show (lN (2147483648 + (a + i))) - 2147483648 = lN (a + i) from sub_st _]
      refine lv_ldc2 (own := R_M) (v := 4096) hx hb hown (htg _ k_454) d_M_fill_71 ?_
      refine lv_ldiv hx hb d_M_fill_74 (by decide) ?_
      rw [show (lN (a + i)) / 4096 = lN ((a + i) / 4096) from (show lN _ / lN 4096 = _ from pk_lDiv (by omega) (by omega) (by omega))]
      refine lv_l2i hx hb d_M_fill_75 rfl ?_
      rw [show (lN ((a + i) / 4096)).toInt32 = nI ((a + i) / 4096) from lN_i _]
      refine mw_lald hx hb hK hP 0 s3 rfl (vp_in_nI (show (a + i) / 4096 < 1024 by omega) (by omega)) d_M_fill_76 ?_
      rw [show (nI ((a + i) / 4096)).toNatClampNeg = (a + i) / 4096 from nI_clamp (by omega)]
      refine lv_topl (fun x_1 ex_1 => ?_)
      refine lv_lstore (lv' := [(8, .long x_1), (6, .long (lN (2147483648 + (a + i)))), (0, .ref hm), (1, .long (lN (2147483648 + a))), (3, .long (lN (2147483648 + b))), (5, .int v)]) hx hb d_M_fill_77 hl (by decide) rfl (fun ls hl => ?_)
      refine lv_aload_n hx hb d_M_fill_79 rfl (lv_at hl 2 rfl) ?_
      refine lv_lload hx hb d_M_fill_80 (lv_at hl 1 rfl) ?_
      refine lv_iconst (v := 1) hx hb d_M_fill_82 (by decide) ?_
      refine lv_iload hx hb d_M_fill_83 (lv_at hl 5 rfl) ?_
      refine lv_i2l hx hb d_M_fill_85 rfl ?_
      refine mc_v (va_runV (As := [.long (lN (2147483648 + (a + i))), .int 1, .long v.toInt64]) (rest := []) ⟨hx, hb, hml, hown, htg⟩ (t_M_keep l D cJ cI cP bs w1 hm n cd Mc (tK T a i) (pK pl a i) sz aW aU aP aZ hs1 (rok_pK hro a i) (a + i) 1 (by omega) (by omega) v.toInt64) (cwV (own := R_M) (C := R_M) 3 htg (ginV k_468 k_470 k_21 k_26 k_471) rfl rfl rfl (by decide +kernel) ⟨Nat.le_of_ble_eq_true rfl, Nat.le_of_ble_eq_true rfl⟩) (mPc.preV (ci := ciM) (q := (R_M, T_M, 6)) hbs hS hP hK rfl s1) rfl rfl hl.1 rfl (lv_room (Nat.le_of_ble_eq_true rfl)) d_M_fill_86 ⟨Nat.le_of_ble_eq_true rfl, Nat.le_of_ble_eq_true rfl⟩) hS (fun u86 H locs hw hP hz86 hS => ?_)
      obtain ⟨w2, M2⟩ := u86
      obtain ⟨b1, b2, b3⟩ := hw
      have b1 : mo cJ cI w2 hm n cd M2 (tK (tK T a i) (a + i) 1) (pK (pK pl a i) (a + i) 1) sz aW aU aP aZ := b1
      have b2 : mb M2 = wrN (mb Mc) (a + i) 1 v.toInt64 := b2
      have b3 : kM w1 w2 hm aW aU aP aZ := b3
      have hP : mw D vwCl bs w2 H := hP
      rw [hMc, flK_s] at b2
      rw [pK_1, tK_1] at b1
      obtain ⟨hn', s1', s2', s3', s4', s5'⟩ := id b1
      refine lv_aload_n hx hb d_M_fill_89 rfl (lv_at hl 2 rfl) ?_
      refine mw_get (C := R_M) (T := T_M) (N := 6) (ci := ciM) (v := .ref aU) hx hb htg i_M hown hK hP s1' rfl 3 (by decide) (htg _ k_414) (fun _ h9 => h9) rfl d_M_fill_90 ?_
      refine lv_lload hx hb d_M_fill_93 (lv_at hl 1 rfl) ?_
      refine lv_ldc2 (own := R_M) (v := 2147483648) hx hb hown (htg _ k_453) d_M_fill_95 ?_
      refine lv_lsub hx hb d_M_fill_98 ?_
      rw [show (lN (2147483648 + (a + i))) - 2147483648 = lN (a + i) from sub_st _]
      refine lv_ldc2 (own := R_M) (v := 4096) hx hb hown (htg _ k_454) d_M_fill_99 ?_
      refine lv_ldiv hx hb d_M_fill_102 (by decide) ?_
      rw [show (lN (a + i)) / 4096 = lN ((a + i) / 4096) from (show lN _ / lN 4096 = _ from pk_lDiv (by omega) (by omega) (by omega))]
      refine lv_l2i hx hb d_M_fill_103 rfl ?_
      rw [show (lN ((a + i) / 4096)).toInt32 = nI ((a + i) / 4096) from lN_i _]
      refine lv_lload hx hb d_M_fill_104 (lv_at hl 1 rfl) ?_
      refine lv_lload_n hx hb d_M_fill_106 rfl (lv_at hl 3 rfl) ?_
      refine lc_eq (tgt := 122) hx hb d_M_fill_107 d_M_fill_108 (by decide) (fun c107 => ?_) (fun c107 => ?_)
      · have hcase : i = 0 ∨ (a + i) % 4096 = 0 := by
          first
            | exact Or.inl (by have e7 := (pk_lEQ (by omega) (by omega)).mp c107; omega)
            | exact Or.inr (by have e7 := (pk_lEQ (b := 0) (by omega) (by omega)).mp c118; omega)
        refine lv_lload hx hb d_M_fill_122 (lv_at hl 0 rfl) ?_
        refine lv_lconst (v := 1) hx hb d_M_fill_124 rfl ?_
        refine lv_ladd hx hb d_M_fill_125 ?_
        refine lv_goto (tgt := 131) hx hb d_M_fill_126 (by decide) ?_
        refine lv_topl (fun x_2 ex_2 => ?_)
        refine mw_last hx hb hK hP hS 0 s3' rfl (vp_in_nI (show (a + i) / 4096 < 1024 by omega) (by omega)) d_M_fill_131 (fun H locs hP hS hz131 => ?_)
        rw [show (nI ((a + i) / 4096)).toNatClampNeg = (a + i) / 4096 from nI_clamp (by omega)] at hP
        obtain ⟨w_3, ew_3⟩ : ∃ z9, z9 = va_up w2 aU (some (.inl (cJ, 1024, .inr (.inl (vp_updL (tinc (tK T a i) ((a + i) / 4096) ((a + i) / 4096 + 1)) ((a + i) / 4096) x_2)))) : Option va_E) := ⟨_, rfl⟩
        rw [← ew_3] at hP
        have h_4 : w_3 aU = some (.inl (cJ, 1024, .inr (.inl (vp_updL (tinc (tK T a i) ((a + i) / 4096) ((a + i) / 4096 + 1)) ((a + i) / 4096) x_2)))) := by rw [ew_3, va_up_self]
        have h_5 : w_3 hm = some (.inr (ciM, [.int cd, .int (nI n), .ref aW, .ref aU, .ref aP, .ref aZ])) := by rw [ew_3, va_up_ne _ _ (fun z => by rw [z, s3'] at s1'; cases s1')]; exact s1'
        have h_6 : w_3 aW = some (.inl (cJ, 524288, .inr (.inl M2))) := by rw [ew_3, va_up_ne _ _ (fun z => by rw [z, s3'] at s2'; simp at s2')]; exact s2'
        have h_7 : w_3 aP = some (.inl (cJ, 4, .inr (.inl (pK pl a (i + 1))))) := by rw [ew_3, va_up_ne _ _ (fun z => by rw [z, s3'] at s4'; simp at s4')]; exact s4'
        have h_8 : w_3 aZ = some (.inl (cI, 4, .inl sz)) := by rw [ew_3, va_up_ne _ _ (fun z => by rw [z, s3'] at s5'; simp at s5')]; exact s5'
        refine lv_lload hx hb d_M_fill_132 (lv_at hl 1 rfl) ?_
        refine lv_lconst (v := 1) hx hb d_M_fill_134 rfl ?_
        refine lv_ladd hx hb d_M_fill_135 ?_
        rw [show (lN (2147483648 + (a + i))) + 1 = lN (2147483648 + (a + (i + 1))) from lN_1 _]
        refine lv_lstore (lv' := [(6, .long (lN (2147483648 + (a + (i + 1))))), (8, .long x_1), (0, .ref hm), (1, .long (lN (2147483648 + a))), (3, .long (lN (2147483648 + b))), (5, .int v)]) hx hb d_M_fill_136 hl (by decide) rfl (fun ls hl => ?_)
        refine lv_goto (tgt := 54) hx hb d_M_fill_138 (by decide) ?_
        have eT : vp_updL (tinc (tK T a i) ((a + i) / 4096) ((a + i) / 4096 + 1)) ((a + i) / 4096) x_2 = tK T a (i + 1) := by rw [upd_tinc, ex_2, ex_1]; exact tK_inc T a i hcase
        have hmo : mo cJ cI w_3 hm n cd M2 (tK T a (i + 1)) (pK pl a (i + 1)) sz aW aU aP aZ := ⟨hn, h_5, h_6, by rw [h_4, eT], h_7, h_8⟩
        have hkm : kM w2 w_3 hm aW aU aP aZ := fun q z1 z2 z3 z4 z5 => by rw [ew_3, va_up_ne _ _ z3]
        exact ih (i + 1) w_3 M2 ls H locs (by omega) (by omega) b2 hmo ((hkm0.trans b3).trans hkm) hP hS (lv_sub hl [0, 2, 3, 4, 5] rfl)
      · refine lv_lload hx hb d_M_fill_111 (lv_at hl 1 rfl) ?_
        refine lv_ldc2 (own := R_M) (v := 4096) hx hb hown (htg _ k_454) d_M_fill_113 ?_
        refine lv_lrem hx hb d_M_fill_116 (by decide) ?_
        rw [show (lN (2147483648 + (a + i))) - (lN (2147483648 + (a + i))) / 4096 * 4096 = lN ((2147483648 + (a + i)) % 4096) from (show lN _ - lN _ / lN 4096 * lN 4096 = _ from pk_lRem (by omega) (by omega) (by omega))]
        refine lv_lconst (v := 0) hx hb d_M_fill_117 rfl ?_
        refine lc_ne (tgt := 129) hx hb d_M_fill_118 d_M_fill_119 (by decide) (fun c118 => ?_) (fun c118 => ?_)
        · have hi0 : ¬ i = 0 := fun z => c107 (by rw [z]; rfl)
          have hm9 : ¬ (a + i) % 4096 = 0 := fun z => c118 (by rw [show (2147483648 + (a + i)) % 4096 = 0 by omega]; rfl)
          refine lv_lload hx hb d_M_fill_129 (lv_at hl 0 rfl) ?_
          refine mw_last hx hb hK hP hS 0 s3' rfl (vp_in_nI (show (a + i) / 4096 < 1024 by omega) (by omega)) d_M_fill_131 (fun H locs hP hS hz131 => ?_)
          rw [show (nI ((a + i) / 4096)).toNatClampNeg = (a + i) / 4096 from nI_clamp (by omega)] at hP
          obtain ⟨w_9, ew_9⟩ : ∃ z9, z9 = va_up w2 aU (some (.inl (cJ, 1024, .inr (.inl (vp_updL (tinc (tK T a i) ((a + i) / 4096) ((a + i) / 4096 + 1)) ((a + i) / 4096) x_1)))) : Option va_E) := ⟨_, rfl⟩
          rw [← ew_9] at hP
          have h_10 : w_9 aU = some (.inl (cJ, 1024, .inr (.inl (vp_updL (tinc (tK T a i) ((a + i) / 4096) ((a + i) / 4096 + 1)) ((a + i) / 4096) x_1)))) := by rw [ew_9, va_up_self]
          have h_11 : w_9 hm = some (.inr (ciM, [.int cd, .int (nI n), .ref aW, .ref aU, .ref aP, .ref aZ])) := by rw [ew_9, va_up_ne _ _ (fun z => by rw [z, s3'] at s1'; cases s1')]; exact s1'
          have h_12 : w_9 aW = some (.inl (cJ, 524288, .inr (.inl M2))) := by rw [ew_9, va_up_ne _ _ (fun z => by rw [z, s3'] at s2'; simp at s2')]; exact s2'
          have h_13 : w_9 aP = some (.inl (cJ, 4, .inr (.inl (pK pl a (i + 1))))) := by rw [ew_9, va_up_ne _ _ (fun z => by rw [z, s3'] at s4'; simp at s4')]; exact s4'
          have h_14 : w_9 aZ = some (.inl (cI, 4, .inl sz)) := by rw [ew_9, va_up_ne _ _ (fun z => by rw [z, s3'] at s5'; simp at s5')]; exact s5'
          refine lv_lload hx hb d_M_fill_132 (lv_at hl 1 rfl) ?_
          refine lv_lconst (v := 1) hx hb d_M_fill_134 rfl ?_
          refine lv_ladd hx hb d_M_fill_135 ?_
          rw [show (lN (2147483648 + (a + i))) + 1 = lN (2147483648 + (a + (i + 1))) from lN_1 _]
          refine lv_lstore (lv' := [(6, .long (lN (2147483648 + (a + (i + 1))))), (8, .long x_1), (0, .ref hm), (1, .long (lN (2147483648 + a))), (3, .long (lN (2147483648 + b))), (5, .int v)]) hx hb d_M_fill_136 hl (by decide) rfl (fun ls hl => ?_)
          refine lv_goto (tgt := 54) hx hb d_M_fill_138 (by decide) ?_
          have eT : vp_updL (tinc (tK T a i) ((a + i) / 4096) ((a + i) / 4096 + 1)) ((a + i) / 4096) x_1 = tK T a (i + 1) := by rw [upd_tinc, ex_1, upd_self]; exact tK_same T a i hi0 hm9
          have hmo : mo cJ cI w_9 hm n cd M2 (tK T a (i + 1)) (pK pl a (i + 1)) sz aW aU aP aZ := ⟨hn, h_11, h_12, by rw [h_10, eT], h_13, h_14⟩
          have hkm : kM w2 w_9 hm aW aU aP aZ := fun q z1 z2 z3 z4 z5 => by rw [ew_9, va_up_ne _ _ z3]
          exact ih (i + 1) w_9 M2 ls H locs (by omega) (by omega) b2 hmo ((hkm0.trans b3).trans hkm) hP hS (lv_sub hl [0, 2, 3, 4, 5] rfl)
        · have hcase : i = 0 ∨ (a + i) % 4096 = 0 := by
            first
              | exact Or.inl (by have e7 := (pk_lEQ (by omega) (by omega)).mp c107; omega)
              | exact Or.inr (by have e7 := (pk_lEQ (b := 0) (by omega) (by omega)).mp c118; omega)
          refine lv_lload hx hb d_M_fill_122 (lv_at hl 0 rfl) ?_
          refine lv_lconst (v := 1) hx hb d_M_fill_124 rfl ?_
          refine lv_ladd hx hb d_M_fill_125 ?_
          refine lv_goto (tgt := 131) hx hb d_M_fill_126 (by decide) ?_
          refine lv_topl (fun x_15 ex_15 => ?_)
          refine mw_last hx hb hK hP hS 0 s3' rfl (vp_in_nI (show (a + i) / 4096 < 1024 by omega) (by omega)) d_M_fill_131 (fun H locs hP hS hz131 => ?_)
          rw [show (nI ((a + i) / 4096)).toNatClampNeg = (a + i) / 4096 from nI_clamp (by omega)] at hP
          obtain ⟨w_16, ew_16⟩ : ∃ z9, z9 = va_up w2 aU (some (.inl (cJ, 1024, .inr (.inl (vp_updL (tinc (tK T a i) ((a + i) / 4096) ((a + i) / 4096 + 1)) ((a + i) / 4096) x_15)))) : Option va_E) := ⟨_, rfl⟩
          rw [← ew_16] at hP
          have h_17 : w_16 aU = some (.inl (cJ, 1024, .inr (.inl (vp_updL (tinc (tK T a i) ((a + i) / 4096) ((a + i) / 4096 + 1)) ((a + i) / 4096) x_15)))) := by rw [ew_16, va_up_self]
          have h_18 : w_16 hm = some (.inr (ciM, [.int cd, .int (nI n), .ref aW, .ref aU, .ref aP, .ref aZ])) := by rw [ew_16, va_up_ne _ _ (fun z => by rw [z, s3'] at s1'; cases s1')]; exact s1'
          have h_19 : w_16 aW = some (.inl (cJ, 524288, .inr (.inl M2))) := by rw [ew_16, va_up_ne _ _ (fun z => by rw [z, s3'] at s2'; simp at s2')]; exact s2'
          have h_20 : w_16 aP = some (.inl (cJ, 4, .inr (.inl (pK pl a (i + 1))))) := by rw [ew_16, va_up_ne _ _ (fun z => by rw [z, s3'] at s4'; simp at s4')]; exact s4'
          have h_21 : w_16 aZ = some (.inl (cI, 4, .inl sz)) := by rw [ew_16, va_up_ne _ _ (fun z => by rw [z, s3'] at s5'; simp at s5')]; exact s5'
          refine lv_lload hx hb d_M_fill_132 (lv_at hl 1 rfl) ?_
          refine lv_lconst (v := 1) hx hb d_M_fill_134 rfl ?_
          refine lv_ladd hx hb d_M_fill_135 ?_
          rw [show (lN (2147483648 + (a + i))) + 1 = lN (2147483648 + (a + (i + 1))) from lN_1 _]
          refine lv_lstore (lv' := [(6, .long (lN (2147483648 + (a + (i + 1))))), (8, .long x_1), (0, .ref hm), (1, .long (lN (2147483648 + a))), (3, .long (lN (2147483648 + b))), (5, .int v)]) hx hb d_M_fill_136 hl (by decide) rfl (fun ls hl => ?_)
          refine lv_goto (tgt := 54) hx hb d_M_fill_138 (by decide) ?_
          have eT : vp_updL (tinc (tK T a i) ((a + i) / 4096) ((a + i) / 4096 + 1)) ((a + i) / 4096) x_15 = tK T a (i + 1) := by rw [upd_tinc, ex_15, ex_1]; exact tK_inc T a i hcase
          have hmo : mo cJ cI w_16 hm n cd M2 (tK T a (i + 1)) (pK pl a (i + 1)) sz aW aU aP aZ := ⟨hn, h_18, h_19, by rw [h_17, eT], h_20, h_21⟩
          have hkm : kM w2 w_16 hm aW aU aP aZ := fun q z1 z2 z3 z4 z5 => by rw [ew_16, va_up_ne _ _ z3]
          exact ih (i + 1) w_16 M2 ls H locs (by omega) (by omega) b2 hmo ((hkm0.trans b3).trans hkm) hP hS (lv_sub hl [0, 2, 3, 4, 5] rfl)
theorem inF_B {x y : Int64} {n : Nat} (hn : n ≤ 1024) (h0 : ¬ y ≤ x) (h1 : ∃ a, inM x n 1 a) (h2 : ∃ a, inM (y - 1) n 1 a) : ∃ a b, inF x y n a b := by
  obtain ⟨a, rfl, ha⟩ := h1
  obtain ⟨b, hb, hb2⟩ := h2
  have ey : y = lN (2147483648 + (b + 1)) := by
    have : y = (y - 1) + 1 := (Int64.sub_add_cancel y 1).symm
    rw [this, hb, lN_1]
    rfl
  subst ey
  refine ⟨a, b + 1, rfl, rfl, ?_, by omega⟩
  rcases Nat.lt_or_ge a (b + 1) with z | z
  · exact z
  · exact absurd ((pk_lLE (by omega) (by omega)).mpr (by omega)) h0
theorem inF_B1 {x y : Int64} {n a b : Nat} (h : inF x y n a b) : inM x n 1 a ∧ inM (y - 1) n 1 (b - 1) := by
  obtain ⟨rfl, rfl, h1, h2⟩ := h
  refine ⟨⟨rfl, by omega⟩, ?_, by omega⟩
  show lN _ - lN 1 = _
  rw [lN_sub (by omega), show 2147483648 + b - 1 = 2147483648 + (b - 1) by omega]
set_option maxHeartbeats 4000000 in
set_option maxRecDepth 100000 in
/-- fill -/
theorem t_M_fill (l : Launch) (D : va_G) (cJ cI cP : ClassId) (bs : Nat) (w : Nat → Option va_E) (hm n : Nat) (cd : Int32) (M T pl : Nat → Int64) (sz : Nat → Int32) (aW aU aP aZ : Nat) (hs : mo cJ cI w hm n cd M T pl sz aW aU aP aZ) (hro : rok pl n) (x y : Int64) (v : Int32) : Met l y_M_fill ws_M_fill ({ frames := 2, cells := 0, slots := 0, locals := 54 }) (mPc D vwCl (mT cJ cI cP) bs w [.ref hm, .long x, .long y, .int v]) (va_Qv (S := ((Nat → Option va_E) × (Nat → Int64))) (fun u => (¬ x ≤ y ∧ mo cJ cI u.1 hm n 1 M T pl sz aW aU aP aZ ∧ kM w u.1 hm aW aU aP aZ) ∨ (x ≤ y ∧ ¬ y = x ∧ (¬ ∃ a b, inF x y n a b) ∧ mo cJ cI u.1 hm n 2 M T pl sz aW aU aP aZ ∧ kM w u.1 hm aW aU aP aZ) ∨ (y = x ∧ mo cJ cI u.1 hm n 0 M T pl sz aW aU aP aZ ∧ kM w u.1 hm aW aU aP aZ) ∨ (x ≤ y ∧ ¬ y = x ∧ ∃ a b, inF x y n a b ∧ mo cJ cI u.1 hm n 0 u.2 (tinc T (a / 4096) ((b - 1) / 4096 + 1)) (lost pl (a / 8) ((b - 1) / 8)) sz aW aU aP aZ ∧ (∀ k z, z < 64 → bi (u.2 k) z = flB M a (b - 1) (pat v) k z) ∧ kM w u.1 hm aW aU aP aZ)) (mB D vwCl bs (fun u => u.1)) (mA bs)) 0 0 (mA bs) := by
  refine Met.ofW (cc := c_M_fill) (maxL := 10) (ret := none) (by decide) rfl ?_
  intro p e s m args below meth c s₁ B hml hv
  obtain ⟨rfl, hbs, hP, hK⟩ := hv
  have hx := B.exec
  have hb := B.bytes
  have hr := B.returns
  have htg : ∀ w ∈ gt, w.before _ s = true := fun w h => atoms_spec (ws := ws_M_fill) B.pre w (List.mem_cons_of_mem _ h)
  have hown : s.vm.findClass R_M = some m.cls := findClass_of_methodNamed B.named
  have hlocks := B.notSynchronized
  have hS : va_S (mA bs) s.heap s.heap [] := va_S.rf
  have hl := lv_entry ([.ref hm, .long x, .long y, .int v]) (n := 10) (Nat.le_of_ble_eq_true rfl)
  rw [lg_entry_eq]
  generalize (lg_sl ([.ref hm, .long x, .long y, .int v]) ++ List.replicate (10 - (lg_sl ([.ref hm, .long x, .long y, .int v])).length) Slot.unset).toArray = ls at hl ⊢
  have hl : lv_has ls 10 [(0, .ref hm), (1, .long x), (3, .long y), (5, .int v)] := hl
  obtain ⟨hn, s1, s2, s3, s4, s5⟩ := id hs
  refine lv_aload_n hx hb d_M_fill_0 rfl (lv_at hl 0 rfl) ?_
  refine lv_lload_n hx hb d_M_fill_1 rfl (lv_at hl 2 rfl) ?_
  refine lv_lload_n hx hb d_M_fill_2 rfl (lv_at hl 1 rfl) ?_
  refine lc_ge (tgt := 11) hx hb d_M_fill_3 d_M_fill_4 (by decide) (fun c3 => ?_) (fun c3 => ?_)
  · refine lv_lload_n hx hb d_M_fill_11 rfl (lv_at hl 2 rfl) ?_
    refine lv_lload_n hx hb d_M_fill_12 rfl (lv_at hl 1 rfl) ?_
    refine lc_le (tgt := 39) hx hb d_M_fill_13 d_M_fill_14 (by decide) (fun c13 => ?_) (fun c13 => ?_)
    · refine lv_iconst (v := 0) hx hb d_M_fill_39 (by decide) ?_
      refine mw_put (C := R_M) (T := T_M) (N := 6) (ci := ciM) (v := .int 0) (ty := .int) (fs' := [.int 0, .int (nI n), .ref aW, .ref aU, .ref aP, .ref aZ]) hx hb htg i_M ty_M tk_M nm_M hown hK hP hS s1 rfl 0 (by decide) (htg _ k_411) (fun _ h9 => h9) rfl (by decide +kernel) rfl rfl (Nat.le_of_ble_eq_true rfl) rfl d_M_fill_40 (fun H locs hP hS hz40 => ?_)
      obtain ⟨w_1, ew_1⟩ : ∃ z9, z9 = va_up w hm (some (.inr (ciM, [.int 0, .int (nI n), .ref aW, .ref aU, .ref aP, .ref aZ])) : Option va_E) := ⟨_, rfl⟩
      rw [← ew_1] at hP
      have h_2 : w_1 hm = some (.inr (ciM, [.int 0, .int (nI n), .ref aW, .ref aU, .ref aP, .ref aZ])) := by rw [ew_1, va_up_self]
      have h_3 : w_1 aW = some (.inl (cJ, 524288, .inr (.inl M))) := by rw [ew_1, va_up_ne _ _ (fun z => by rw [z, s1] at s2; cases s2)]; exact s2
      have h_4 : w_1 aU = some (.inl (cJ, 1024, .inr (.inl T))) := by rw [ew_1, va_up_ne _ _ (fun z => by rw [z, s1] at s3; cases s3)]; exact s3
      have h_5 : w_1 aP = some (.inl (cJ, 4, .inr (.inl pl))) := by rw [ew_1, va_up_ne _ _ (fun z => by rw [z, s1] at s4; cases s4)]; exact s4
      have h_6 : w_1 aZ = some (.inl (cI, 4, .inl sz)) := by rw [ew_1, va_up_ne _ _ (fun z => by rw [z, s1] at s5; cases s5)]; exact s5
      refine lv_aload_n hx hb d_M_fill_43 rfl (lv_at hl 0 rfl) ?_
      refine mw_get (C := R_M) (T := T_M) (N := 6) (ci := ciM) (v := .int 0) hx hb htg i_M hown hK hP h_2 rfl 0 (by decide) (htg _ k_411) (fun _ h9 => h9) rfl d_M_fill_44 ?_
      refine lv_if_le (tgt := 51) hx hb d_M_fill_47 (by decide) (fun _ => ?_) (fun z => absurd z (by decide))
      refine lv_lload_n hx hb d_M_fill_51 rfl (lv_at hl 1 rfl) ?_
      refine lv_lstore (lv' := [(6, .long x), (0, .ref hm), (1, .long x), (3, .long y), (5, .int v)]) hx hb d_M_fill_52 hl (by decide) rfl (fun ls hl => ?_)
      have hmo : mo cJ cI w_1 hm n 0 M T pl sz aW aU aP aZ := ⟨hn, h_2, h_3, h_4, h_5, h_6⟩
      have hkm : kM w w_1 hm aW aU aP aZ := fun q z1 z2 z3 z4 z5 => by rw [ew_1, va_up_ne _ _ z1]
      have exy : y = x := Int64.le_antisymm c13 c3
      refine lv_lload hx hb d_M_fill_54 (lv_at hl 0 rfl) ?_
      refine lv_lload_n hx hb d_M_fill_56 rfl (lv_at hl 3 rfl) ?_
      refine lc_ge (tgt := 141) hx hb d_M_fill_57 d_M_fill_58 (by decide) (fun c57 => ?_) (fun c57 => absurd c13 c57)
      exact W.vret hx hb hr (fun t ht hW => ⟨⟨(w_1, M), rfl, Or.inr (Or.inr (Or.inl ⟨exy, hmo, hkm⟩)), hP.at ht⟩, hS.F ht⟩) hS.2.2 d_M_fill_141
    · refine lv_aload_n hx hb d_M_fill_17 rfl (lv_at hl 0 rfl) ?_
      refine lv_lload_n hx hb d_M_fill_18 rfl (lv_at hl 1 rfl) ?_
      refine mc_i (va_runV (As := [.long x]) (rest := [.ref hm]) ⟨hx, hb, hml, hown, htg⟩ (t_M_isByte l D cJ cI cP bs w hm n cd M T pl sz aW aU aP aZ hs x) (cwV (own := R_M) (C := R_M) 1 htg (ginV k_449 k_451 k_18 k_26 k_452) rfl rfl rfl (by decide +kernel) ⟨Nat.le_of_ble_eq_true rfl, Nat.le_of_ble_eq_true rfl⟩) (mPc.preV (ci := ciM) (q := (R_M, T_M, 6)) hbs hS hP hK rfl s1) rfl rfl hl.1 rfl (lv_room (Nat.le_of_ble_eq_true rfl)) d_M_fill_19 ⟨Nat.le_of_ble_eq_true rfl, Nat.le_of_ble_eq_true rfl⟩) hS (fun r19 u19 H locs hb19 hP hz19 hS => ?_)
      refine lv_if_eq (tgt := 35) hx hb d_M_fill_22 (by decide) (fun c22 => ?_) (fun c22 => ?_)
      · have hno : ¬ ∃ a b, inF x y n a b := by
          rintro ⟨a, b, q⟩
          have q2 := inF_B1 q
          first
            | (rcases hb29 with z | z
               · rw [z.1] at c32; exact absurd c32 (by decide)
               · exact z.2 ⟨_, q2.2⟩)
            | (rcases hb19 with z | z
               · rw [z.1] at c22; exact absurd c22 (by decide)
               · exact z.2 ⟨_, q2.1⟩)
        refine lv_iconst (v := 2) hx hb d_M_fill_35 (by decide) ?_
        refine lv_goto (tgt := 40) hx hb d_M_fill_36 (by decide) ?_
        refine mw_put (C := R_M) (T := T_M) (N := 6) (ci := ciM) (v := .int 2) (ty := .int) (fs' := [.int 2, .int (nI n), .ref aW, .ref aU, .ref aP, .ref aZ]) hx hb htg i_M ty_M tk_M nm_M hown hK hP hS s1 rfl 0 (by decide) (htg _ k_411) (fun _ h9 => h9) rfl (by decide +kernel) rfl rfl (Nat.le_of_ble_eq_true rfl) rfl d_M_fill_40 (fun H locs hP hS hz40 => ?_)
        obtain ⟨w_7, ew_7⟩ : ∃ z9, z9 = va_up w hm (some (.inr (ciM, [.int 2, .int (nI n), .ref aW, .ref aU, .ref aP, .ref aZ])) : Option va_E) := ⟨_, rfl⟩
        rw [← ew_7] at hP
        have h_8 : w_7 hm = some (.inr (ciM, [.int 2, .int (nI n), .ref aW, .ref aU, .ref aP, .ref aZ])) := by rw [ew_7, va_up_self]
        have h_9 : w_7 aW = some (.inl (cJ, 524288, .inr (.inl M))) := by rw [ew_7, va_up_ne _ _ (fun z => by rw [z, s1] at s2; cases s2)]; exact s2
        have h_10 : w_7 aU = some (.inl (cJ, 1024, .inr (.inl T))) := by rw [ew_7, va_up_ne _ _ (fun z => by rw [z, s1] at s3; cases s3)]; exact s3
        have h_11 : w_7 aP = some (.inl (cJ, 4, .inr (.inl pl))) := by rw [ew_7, va_up_ne _ _ (fun z => by rw [z, s1] at s4; cases s4)]; exact s4
        have h_12 : w_7 aZ = some (.inl (cI, 4, .inl sz)) := by rw [ew_7, va_up_ne _ _ (fun z => by rw [z, s1] at s5; cases s5)]; exact s5
        refine lv_aload_n hx hb d_M_fill_43 rfl (lv_at hl 0 rfl) ?_
        refine mw_get (C := R_M) (T := T_M) (N := 6) (ci := ciM) (v := .int 2) hx hb htg i_M hown hK hP h_8 rfl 0 (by decide) (htg _ k_411) (fun _ h9 => h9) rfl d_M_fill_44 ?_
        refine lv_if_le (tgt := 51) hx hb d_M_fill_47 (by decide) (fun z => absurd z (by decide)) (fun _ => ?_)
        have hmo : mo cJ cI w_7 hm n 2 M T pl sz aW aU aP aZ := ⟨hn, h_8, h_9, h_10, h_11, h_12⟩
        have hkm : kM w w_7 hm aW aU aP aZ := fun q z1 z2 z3 z4 z5 => by rw [ew_7, va_up_ne _ _ z1]
        exact W.vret hx hb hr (fun t ht hW => ⟨⟨(w_7, M), rfl, Or.inr (Or.inl ⟨c3, fun z => c13 (by rw [z]; exact Int64.le_refl _), hno, hmo, hkm⟩), hP.at ht⟩, hS.F ht⟩) hS.2.2 d_M_fill_50
      · refine lv_aload_n hx hb d_M_fill_25 rfl (lv_at hl 0 rfl) ?_
        refine lv_lload_n hx hb d_M_fill_26 rfl (lv_at hl 2 rfl) ?_
        refine lv_lconst (v := 1) hx hb d_M_fill_27 rfl ?_
        refine lv_lsub hx hb d_M_fill_28 ?_
        refine mc_i (va_runV (As := [.long (y - 1)]) (rest := [.ref hm]) ⟨hx, hb, hml, hown, htg⟩ (t_M_isByte l D cJ cI cP bs w hm n cd M T pl sz aW aU aP aZ hs (y - 1)) (cwV (own := R_M) (C := R_M) 1 htg (ginV k_449 k_451 k_18 k_26 k_452) rfl rfl rfl (by decide +kernel) ⟨Nat.le_of_ble_eq_true rfl, Nat.le_of_ble_eq_true rfl⟩) (mPc.preV (ci := ciM) (q := (R_M, T_M, 6)) hbs hS hP hK rfl s1) rfl rfl hl.1 rfl (lv_room (Nat.le_of_ble_eq_true rfl)) d_M_fill_29 ⟨Nat.le_of_ble_eq_true rfl, Nat.le_of_ble_eq_true rfl⟩) hS (fun r29 u29 H locs hb29 hP hz29 hS => ?_)
        refine lv_if_ne (tgt := 39) hx hb d_M_fill_32 (by decide) (fun c32 => ?_) (fun c32 => ?_)
        · refine lv_iconst (v := 0) hx hb d_M_fill_39 (by decide) ?_
          refine mw_put (C := R_M) (T := T_M) (N := 6) (ci := ciM) (v := .int 0) (ty := .int) (fs' := [.int 0, .int (nI n), .ref aW, .ref aU, .ref aP, .ref aZ]) hx hb htg i_M ty_M tk_M nm_M hown hK hP hS s1 rfl 0 (by decide) (htg _ k_411) (fun _ h9 => h9) rfl (by decide +kernel) rfl rfl (Nat.le_of_ble_eq_true rfl) rfl d_M_fill_40 (fun H locs hP hS hz40 => ?_)
          obtain ⟨w_13, ew_13⟩ : ∃ z9, z9 = va_up w hm (some (.inr (ciM, [.int 0, .int (nI n), .ref aW, .ref aU, .ref aP, .ref aZ])) : Option va_E) := ⟨_, rfl⟩
          rw [← ew_13] at hP
          have h_14 : w_13 hm = some (.inr (ciM, [.int 0, .int (nI n), .ref aW, .ref aU, .ref aP, .ref aZ])) := by rw [ew_13, va_up_self]
          have h_15 : w_13 aW = some (.inl (cJ, 524288, .inr (.inl M))) := by rw [ew_13, va_up_ne _ _ (fun z => by rw [z, s1] at s2; cases s2)]; exact s2
          have h_16 : w_13 aU = some (.inl (cJ, 1024, .inr (.inl T))) := by rw [ew_13, va_up_ne _ _ (fun z => by rw [z, s1] at s3; cases s3)]; exact s3
          have h_17 : w_13 aP = some (.inl (cJ, 4, .inr (.inl pl))) := by rw [ew_13, va_up_ne _ _ (fun z => by rw [z, s1] at s4; cases s4)]; exact s4
          have h_18 : w_13 aZ = some (.inl (cI, 4, .inl sz)) := by rw [ew_13, va_up_ne _ _ (fun z => by rw [z, s1] at s5; cases s5)]; exact s5
          refine lv_aload_n hx hb d_M_fill_43 rfl (lv_at hl 0 rfl) ?_
          refine mw_get (C := R_M) (T := T_M) (N := 6) (ci := ciM) (v := .int 0) hx hb htg i_M hown hK hP h_14 rfl 0 (by decide) (htg _ k_411) (fun _ h9 => h9) rfl d_M_fill_44 ?_
          refine lv_if_le (tgt := 51) hx hb d_M_fill_47 (by decide) (fun _ => ?_) (fun z => absurd z (by decide))
          refine lv_lload_n hx hb d_M_fill_51 rfl (lv_at hl 1 rfl) ?_
          refine lv_lstore (lv' := [(6, .long x), (0, .ref hm), (1, .long x), (3, .long y), (5, .int v)]) hx hb d_M_fill_52 hl (by decide) rfl (fun ls hl => ?_)
          have hmo : mo cJ cI w_13 hm n 0 M T pl sz aW aU aP aZ := ⟨hn, h_14, h_15, h_16, h_17, h_18⟩
          have hkm : kM w w_13 hm aW aU aP aZ := fun q z1 z2 z3 z4 z5 => by rw [ew_13, va_up_ne _ _ z1]
          obtain ⟨a, b, hab⟩ : ∃ a b, inF x y n a b := by
            refine inF_B hn.2 c13 ?_ ?_
            · rcases hb19 with z | z
              · exact z.2
              · exact absurd z.1 c22
            · rcases hb29 with z | z
              · exact z.2
              · exact absurd z.1 c32
          obtain ⟨rfl, rfl, hlt, hbn⟩ := id hab
          have hl : lv_has ls 10 [(6, .long (lN (2147483648 + a))), (0, .ref hm), (1, .long (lN (2147483648 + a))), (3, .long (lN (2147483648 + b))), (5, .int v)] := hl
          refine lp_M_fill (D := D) (cJ := cJ) (cI := cI) (cP := cP) (bs := bs) hx hb hml hown htg hK hbs w_13 hm n 0 M T pl sz aW aU aP aZ hro a b v hlt hbn hn.2 (fun w1 Mc ls H locs q1 q2 q3 hP hS => ?_) (b + 1) 0 w_13 M ls _ _ (by omega) (by omega) (flK_0 _ _ _).symm hmo kM.rf hP hS (lv_sub hl [0, 1, 2, 3, 4] rfl)
          have eT : tK T a (b - a) = tinc T (a / 4096) ((b - 1) / 4096 + 1) := by unfold tK; rw [if_neg (by omega), show a + (b - a) - 1 = b - 1 by omega]
          have eP : pK pl a (b - a) = lost pl (a / 8) ((b - 1) / 8) := by unfold pK; rw [if_neg (by omega), show a + (b - a) - 1 = b - 1 by omega]
          rw [eT, eP] at q2
          exact W.vret hx hb hr (fun t ht hW => ⟨⟨(w1, Mc), rfl, Or.inr (Or.inr (Or.inr ⟨c3, fun z => c13 (by rw [z]; exact Int64.le_refl _), a, b, hab, q2, fun k z hz => flK_B hlt q1 k z hz, hkm.trans q3⟩)), hP.at ht⟩, hS.F ht⟩) hS.2.2 d_M_fill_141
        · have hno : ¬ ∃ a b, inF x y n a b := by
            rintro ⟨a, b, q⟩
            have q2 := inF_B1 q
            first
              | (rcases hb29 with z | z
                 · rw [z.1] at c32; exact absurd c32 (by decide)
                 · exact z.2 ⟨_, q2.2⟩)
              | (rcases hb19 with z | z
                 · rw [z.1] at c22; exact absurd c22 (by decide)
                 · exact z.2 ⟨_, q2.1⟩)
          refine lv_iconst (v := 2) hx hb d_M_fill_35 (by decide) ?_
          refine lv_goto (tgt := 40) hx hb d_M_fill_36 (by decide) ?_
          refine mw_put (C := R_M) (T := T_M) (N := 6) (ci := ciM) (v := .int 2) (ty := .int) (fs' := [.int 2, .int (nI n), .ref aW, .ref aU, .ref aP, .ref aZ]) hx hb htg i_M ty_M tk_M nm_M hown hK hP hS s1 rfl 0 (by decide) (htg _ k_411) (fun _ h9 => h9) rfl (by decide +kernel) rfl rfl (Nat.le_of_ble_eq_true rfl) rfl d_M_fill_40 (fun H locs hP hS hz40 => ?_)
          obtain ⟨w_19, ew_19⟩ : ∃ z9, z9 = va_up w hm (some (.inr (ciM, [.int 2, .int (nI n), .ref aW, .ref aU, .ref aP, .ref aZ])) : Option va_E) := ⟨_, rfl⟩
          rw [← ew_19] at hP
          have h_20 : w_19 hm = some (.inr (ciM, [.int 2, .int (nI n), .ref aW, .ref aU, .ref aP, .ref aZ])) := by rw [ew_19, va_up_self]
          have h_21 : w_19 aW = some (.inl (cJ, 524288, .inr (.inl M))) := by rw [ew_19, va_up_ne _ _ (fun z => by rw [z, s1] at s2; cases s2)]; exact s2
          have h_22 : w_19 aU = some (.inl (cJ, 1024, .inr (.inl T))) := by rw [ew_19, va_up_ne _ _ (fun z => by rw [z, s1] at s3; cases s3)]; exact s3
          have h_23 : w_19 aP = some (.inl (cJ, 4, .inr (.inl pl))) := by rw [ew_19, va_up_ne _ _ (fun z => by rw [z, s1] at s4; cases s4)]; exact s4
          have h_24 : w_19 aZ = some (.inl (cI, 4, .inl sz)) := by rw [ew_19, va_up_ne _ _ (fun z => by rw [z, s1] at s5; cases s5)]; exact s5
          refine lv_aload_n hx hb d_M_fill_43 rfl (lv_at hl 0 rfl) ?_
          refine mw_get (C := R_M) (T := T_M) (N := 6) (ci := ciM) (v := .int 2) hx hb htg i_M hown hK hP h_20 rfl 0 (by decide) (htg _ k_411) (fun _ h9 => h9) rfl d_M_fill_44 ?_
          refine lv_if_le (tgt := 51) hx hb d_M_fill_47 (by decide) (fun z => absurd z (by decide)) (fun _ => ?_)
          have hmo : mo cJ cI w_19 hm n 2 M T pl sz aW aU aP aZ := ⟨hn, h_20, h_21, h_22, h_23, h_24⟩
          have hkm : kM w w_19 hm aW aU aP aZ := fun q z1 z2 z3 z4 z5 => by rw [ew_19, va_up_ne _ _ z1]
          exact W.vret hx hb hr (fun t ht hW => ⟨⟨(w_19, M), rfl, Or.inr (Or.inl ⟨c3, fun z => c13 (by rw [z]; exact Int64.le_refl _), hno, hmo, hkm⟩), hP.at ht⟩, hS.F ht⟩) hS.2.2 d_M_fill_50
  · refine lv_iconst (v := 1) hx hb d_M_fill_7 (by decide) ?_
    refine lv_goto (tgt := 40) hx hb d_M_fill_8 (by decide) ?_
    refine mw_put (C := R_M) (T := T_M) (N := 6) (ci := ciM) (v := .int 1) (ty := .int) (fs' := [.int 1, .int (nI n), .ref aW, .ref aU, .ref aP, .ref aZ]) hx hb htg i_M ty_M tk_M nm_M hown hK hP hS s1 rfl 0 (by decide) (htg _ k_411) (fun _ h9 => h9) rfl (by decide +kernel) rfl rfl (Nat.le_of_ble_eq_true rfl) rfl d_M_fill_40 (fun H locs hP hS hz40 => ?_)
    obtain ⟨w_25, ew_25⟩ : ∃ z9, z9 = va_up w hm (some (.inr (ciM, [.int 1, .int (nI n), .ref aW, .ref aU, .ref aP, .ref aZ])) : Option va_E) := ⟨_, rfl⟩
    rw [← ew_25] at hP
    have h_26 : w_25 hm = some (.inr (ciM, [.int 1, .int (nI n), .ref aW, .ref aU, .ref aP, .ref aZ])) := by rw [ew_25, va_up_self]
    have h_27 : w_25 aW = some (.inl (cJ, 524288, .inr (.inl M))) := by rw [ew_25, va_up_ne _ _ (fun z => by rw [z, s1] at s2; cases s2)]; exact s2
    have h_28 : w_25 aU = some (.inl (cJ, 1024, .inr (.inl T))) := by rw [ew_25, va_up_ne _ _ (fun z => by rw [z, s1] at s3; cases s3)]; exact s3
    have h_29 : w_25 aP = some (.inl (cJ, 4, .inr (.inl pl))) := by rw [ew_25, va_up_ne _ _ (fun z => by rw [z, s1] at s4; cases s4)]; exact s4
    have h_30 : w_25 aZ = some (.inl (cI, 4, .inl sz)) := by rw [ew_25, va_up_ne _ _ (fun z => by rw [z, s1] at s5; cases s5)]; exact s5
    refine lv_aload_n hx hb d_M_fill_43 rfl (lv_at hl 0 rfl) ?_
    refine mw_get (C := R_M) (T := T_M) (N := 6) (ci := ciM) (v := .int 1) hx hb htg i_M hown hK hP h_26 rfl 0 (by decide) (htg _ k_411) (fun _ h9 => h9) rfl d_M_fill_44 ?_
    refine lv_if_le (tgt := 51) hx hb d_M_fill_47 (by decide) (fun z => absurd z (by decide)) (fun _ => ?_)
    have hmo : mo cJ cI w_25 hm n 1 M T pl sz aW aU aP aZ := ⟨hn, h_26, h_27, h_28, h_29, h_30⟩
    have hkm : kM w w_25 hm aW aU aP aZ := fun q z1 z2 z3 z4 z5 => by rw [ew_25, va_up_ne _ _ z1]
    exact W.vret hx hb hr (fun t ht hW => ⟨⟨(w_25, M), rfl, Or.inl ⟨c3, hmo, hkm⟩, hP.at ht⟩, hS.F ht⟩) hS.2.2 d_M_fill_50
end
