section
-- ===== PART A: goes FIRST, ahead of the names: the tables' words, and 'selects' of the private methods out of them =====
/-- a private method of a class that the tables say can be made, by its rows of tables_1 -/
def lw_okq (q : MethodName × Nat) : Prop := (q.1.cls ≠ "java/lang/invoke/MethodHandle" ∧ q.1.cls ≠ "java/lang/invoke/VarHandle") ∧ Cond.instantiable q.1.cls q.2 ∈ tables_1 ∧ Cond.privateMethod q.1 ∈ tables_1 ∧ Cond.instanceMethod q.1 ∈ tables_1
theorem lw_p0 : lw_okq (⟨"java/lang/Throwable", "fillInStackTrace", "(I)Ljava/lang/Throwable;"⟩, 6) := ⟨⟨by decide +kernel, by decide +kernel⟩, List.mem_of_getElem? (i := 193) (by decide +kernel), List.mem_of_getElem? (i := 191) (by decide +kernel), List.mem_of_getElem? (i := 192) (by decide +kernel)⟩
theorem lw_p1 : lw_okq (⟨"Coppinghouse", "beginDeeds", "()V"⟩, 6) := ⟨⟨by decide +kernel, by decide +kernel⟩, List.mem_of_getElem? (i := 17) (by decide +kernel), List.mem_of_getElem? (i := 241) (by decide +kernel), List.mem_of_getElem? (i := 242) (by decide +kernel)⟩
theorem lw_p2 : lw_okq (⟨"Coppinghouse", "needRoom", "(I)V"⟩, 6) := ⟨⟨by decide +kernel, by decide +kernel⟩, List.mem_of_getElem? (i := 17) (by decide +kernel), List.mem_of_getElem? (i := 253) (by decide +kernel), List.mem_of_getElem? (i := 254) (by decide +kernel)⟩
theorem lw_p3 : lw_okq (⟨"Coppinghouse", "needPlaceForDeed", "()V"⟩, 6) := ⟨⟨by decide +kernel, by decide +kernel⟩, List.mem_of_getElem? (i := 17) (by decide +kernel), List.mem_of_getElem? (i := 290) (by decide +kernel), List.mem_of_getElem? (i := 291) (by decide +kernel)⟩
theorem lw_p4 : lw_okq (⟨"Coppinghouse", "needBeginning", "(III)V"⟩, 6) := ⟨⟨by decide +kernel, by decide +kernel⟩, List.mem_of_getElem? (i := 17) (by decide +kernel), List.mem_of_getElem? (i := 366) (by decide +kernel), List.mem_of_getElem? (i := 367) (by decide +kernel)⟩
theorem lw_p5 : lw_okq (⟨"Coppinghouse$Chase", "beginTable", "(LCoppinghouse$Graph;)V"⟩, 5) := ⟨⟨by decide +kernel, by decide +kernel⟩, List.mem_of_getElem? (i := 73) (by decide +kernel), List.mem_of_getElem? (i := 378) (by decide +kernel), List.mem_of_getElem? (i := 379) (by decide +kernel)⟩
theorem lw_p6 : lw_okq (⟨"Coppinghouse$Chase", "addCaught", "(LCoppinghouse$Graph;IIII)Z"⟩, 5) := ⟨⟨by decide +kernel, by decide +kernel⟩, List.mem_of_getElem? (i := 73) (by decide +kernel), List.mem_of_getElem? (i := 389) (by decide +kernel), List.mem_of_getElem? (i := 390) (by decide +kernel)⟩
theorem lw_p7 : lw_okq (⟨"Coppinghouse$Chase", "letRobberMove", "(LCoppinghouse$Graph;)V"⟩, 5) := ⟨⟨by decide +kernel, by decide +kernel⟩, List.mem_of_getElem? (i := 73) (by decide +kernel), List.mem_of_getElem? (i := 402) (by decide +kernel), List.mem_of_getElem? (i := 403) (by decide +kernel)⟩
theorem lw_p8 : lw_okq (⟨"Coppinghouse$Chase", "letFirstCopMove", "(LCoppinghouse$Graph;)V"⟩, 5) := ⟨⟨by decide +kernel, by decide +kernel⟩, List.mem_of_getElem? (i := 73) (by decide +kernel), List.mem_of_getElem? (i := 413) (by decide +kernel), List.mem_of_getElem? (i := 414) (by decide +kernel)⟩
theorem lw_p9 : lw_okq (⟨"Coppinghouse$Chase", "letSecondCopMove", "(LCoppinghouse$Graph;I)Z"⟩, 5) := ⟨⟨by decide +kernel, by decide +kernel⟩, List.mem_of_getElem? (i := 73) (by decide +kernel), List.mem_of_getElem? (i := 421) (by decide +kernel), List.mem_of_getElem? (i := 422) (by decide +kernel)⟩
theorem lw_p10 : lw_okq (⟨"Coppinghouse$Chase", "robberFirst", "(LCoppinghouse$Graph;III)I"⟩, 5) := ⟨⟨by decide +kernel, by decide +kernel⟩, List.mem_of_getElem? (i := 73) (by decide +kernel), List.mem_of_getElem? (i := 441) (by decide +kernel), List.mem_of_getElem? (i := 442) (by decide +kernel)⟩
theorem lw_p11 : lw_okq (⟨"Coppinghouse$Chase", "catchesFrom", "(LCoppinghouse$Graph;I)Z"⟩, 5) := ⟨⟨by decide +kernel, by decide +kernel⟩, List.mem_of_getElem? (i := 73) (by decide +kernel), List.mem_of_getElem? (i := 468) (by decide +kernel), List.mem_of_getElem? (i := 469) (by decide +kernel)⟩
theorem lw_p12 : lw_okq (⟨"Coppinghouse$Graph", "lowestCorner", "(I)I"⟩, 3) := ⟨⟨by decide +kernel, by decide +kernel⟩, List.mem_of_getElem? (i := 25) (by decide +kernel), List.mem_of_getElem? (i := 485) (by decide +kernel), List.mem_of_getElem? (i := 486) (by decide +kernel)⟩
theorem lw_p13 : lw_okq (⟨"Coppinghouse$Graph", "isCorner", "(II)Z"⟩, 3) := ⟨⟨by decide +kernel, by decide +kernel⟩, List.mem_of_getElem? (i := 25) (by decide +kernel), List.mem_of_getElem? (i := 489) (by decide +kernel), List.mem_of_getElem? (i := 490) (by decide +kernel)⟩
theorem lw_p14 : lw_okq (⟨"Coppinghouse$Burrow", "findSets", "(LCoppinghouse$Graph;I)Z"⟩, 3) := ⟨⟨by decide +kernel, by decide +kernel⟩, List.mem_of_getElem? (i := 97) (by decide +kernel), List.mem_of_getElem? (i := 511) (by decide +kernel), List.mem_of_getElem? (i := 512) (by decide +kernel)⟩
theorem lw_p15 : lw_okq (⟨"Coppinghouse$Burrow", "addSets", "(LCoppinghouse$Graph;II)Z"⟩, 3) := ⟨⟨by decide +kernel, by decide +kernel⟩, List.mem_of_getElem? (i := 97) (by decide +kernel), List.mem_of_getElem? (i := 516) (by decide +kernel), List.mem_of_getElem? (i := 517) (by decide +kernel)⟩
def lw_privs_1 : List (MethodName × Nat) := [(⟨"java/lang/Throwable", "fillInStackTrace", "(I)Ljava/lang/Throwable;"⟩, 6), (⟨"Coppinghouse", "beginDeeds", "()V"⟩, 6), (⟨"Coppinghouse", "needRoom", "(I)V"⟩, 6), (⟨"Coppinghouse", "needPlaceForDeed", "()V"⟩, 6), (⟨"Coppinghouse", "needBeginning", "(III)V"⟩, 6), (⟨"Coppinghouse$Chase", "beginTable", "(LCoppinghouse$Graph;)V"⟩, 5), (⟨"Coppinghouse$Chase", "addCaught", "(LCoppinghouse$Graph;IIII)Z"⟩, 5), (⟨"Coppinghouse$Chase", "letRobberMove", "(LCoppinghouse$Graph;)V"⟩, 5), (⟨"Coppinghouse$Chase", "letFirstCopMove", "(LCoppinghouse$Graph;)V"⟩, 5), (⟨"Coppinghouse$Chase", "letSecondCopMove", "(LCoppinghouse$Graph;I)Z"⟩, 5), (⟨"Coppinghouse$Chase", "robberFirst", "(LCoppinghouse$Graph;III)I"⟩, 5), (⟨"Coppinghouse$Chase", "catchesFrom", "(LCoppinghouse$Graph;I)Z"⟩, 5), (⟨"Coppinghouse$Graph", "lowestCorner", "(I)I"⟩, 3), (⟨"Coppinghouse$Graph", "isCorner", "(II)Z"⟩, 3), (⟨"Coppinghouse$Burrow", "findSets", "(LCoppinghouse$Graph;I)Z"⟩, 3), (⟨"Coppinghouse$Burrow", "addSets", "(LCoppinghouse$Graph;II)Z"⟩, 3)]
theorem lw_r1 : ∀ q ∈ lw_privs_1, lw_okq q := List.forall_mem_cons.mpr ⟨lw_p0, List.forall_mem_cons.mpr ⟨lw_p1, List.forall_mem_cons.mpr ⟨lw_p2, List.forall_mem_cons.mpr ⟨lw_p3, List.forall_mem_cons.mpr ⟨lw_p4, List.forall_mem_cons.mpr ⟨lw_p5, List.forall_mem_cons.mpr ⟨lw_p6, List.forall_mem_cons.mpr ⟨lw_p7, List.forall_mem_cons.mpr ⟨lw_p8, List.forall_mem_cons.mpr ⟨lw_p9, List.forall_mem_cons.mpr ⟨lw_p10, List.forall_mem_cons.mpr ⟨lw_p11, List.forall_mem_cons.mpr ⟨lw_p12, List.forall_mem_cons.mpr ⟨lw_p13, List.forall_mem_cons.mpr ⟨lw_p14, List.forall_mem_cons.mpr ⟨lw_p15, fun _ h => absurd h List.not_mem_nil⟩⟩⟩⟩⟩⟩⟩⟩⟩⟩⟩⟩⟩⟩⟩⟩
theorem lw_p16 : lw_okq (⟨"Coppinghouse", "needSet", "(I)V"⟩, 6) := ⟨⟨by decide +kernel, by decide +kernel⟩, List.mem_of_getElem? (i := 17) (by decide +kernel), List.mem_of_getElem? (i := 538) (by decide +kernel), List.mem_of_getElem? (i := 539) (by decide +kernel)⟩
def lw_privs_2 : List (MethodName × Nat) := [(⟨"Coppinghouse", "needSet", "(I)V"⟩, 6)]
theorem lw_r2 : ∀ q ∈ lw_privs_2, lw_okq q := List.forall_mem_cons.mpr ⟨lw_p16, fun _ h => absurd h List.not_mem_nil⟩
def lw_privs : List (MethodName × Nat) := lw_privs_1 ++ (lw_privs_2)
def lw_tbl : List Cond := k2_sels lw_privs ++ tables_1
theorem lw_privs_ok : ∀ q ∈ lw_privs, lw_okq q := by
  show ∀ q ∈ lw_privs_1 ++ (lw_privs_2), lw_okq q
  exact List.forall_mem_append.mpr ⟨lw_r1, lw_r2⟩
-- ===== end of PART A; then your names; then what follows =====
/-! THE CLAIM OUT OF ONE WALK OF THE LAW'S BODY. Your part is whole_start (and what it stands on); all else here is the same for every law, but numbers. -/
def R_law : String := "CoppinghouseLaw"
def lw_P (b : Addr) (xs : List Int32) (args : Array Value) (s : State) : Prop := args = #[.ref b] ∧ s.IntsAt b xs ∧ xs.length ≤ 260 ∧ (Jvm.Cond.and given_1 narrow_1).before args s = true
def lw_Q (_ : Array Value) (s : State) (o : Outcome) (t : State) : Prop := o = .returned (some (.int 1)) ∧ Framed s o t [] 600104 7301314
def lw_Z (below : List Frame) (a : Array Value) (s : State) : State → Prop := fun t => ∃ o, t.status = .running ∧ Ended t below o ∧ lw_Q a s o t
/-- the law's own end, with 1 on the stack, nothing written that was there before, its room as the claim has it -/
theorem lw_ret {p : Program} {l : Launch} {e : Env} {s : State} {m : MethodId} {below : List Frame} {meth : Method} {c : Code} {b : Nat} (hx : p.tables.exec = Jvm.exec) (hb : c.code = code) (hr : meth.sig.returnType = ret) (hlocks : meth.locks = false) {pc : Nat} {H : Heap} {ls : Array Slot} (hdg : decode code pc = .ok (.ireturn, 1)) : W p l e room_1 s m #[Value.ref b] below meth c H [] 600104 7301314 (lw_Z below #[Value.ref b] s) (F0 m pc ls [.int 1]) := by
  intro T hT X
  obtain ⟨fs, hret, hrun, hended, hW, hframe⟩ := X.leave (v := some (.int 1)) (hlocks := hlocks) (fun h => by rw [hr] at h; cases h)
  have hmeth' : T.vm.method? m = some meth := X.method'
  refine ⟨T.setFrames fs, ?_, .returned (some (.int 1)), hrun, hended, rfl, ⟨_, rfl⟩, hW, hframe⟩
  jvm_step X.here [X.here.top, hx, hb, hdg, hmeth', hr, ret, narrow_b1]
  (try refine ⟨rfl, ?_⟩); (try refine ⟨rfl, ?_⟩)
  first | (intro acts; rw [hret _ acts rfl rfl rfl]) | rw [hret _ _ rfl rfl rfl]
  exact Steps.refl _
/-- what holds at the law's entry: the machine, the code, the tables' words (any of lw_tbl by 'hts w (by decide +kernel)'), the script of L ints xs at the cell b, what the Statement gives of the start (any of its parts by flat_of_before) -/
def lw_At (p : Program) (s : State) (m : MethodId) (meth : Method) (c : Code) (b L : Nat) (xs : Nat → Int32) : Prop :=
  p.tables.exec = Jvm.exec ∧ c.code = code ∧ meth.sig.returnType = ret ∧ c.maxLocals = 20 ∧ s.vm.findClass R_law = some m.cls ∧ (∀ w ∈ lw_tbl, w.before #[Value.ref b] s = true) ∧ va_X b L xs s s.heap ∧ b < s.heap.size ∧ meth.locks = false ∧ (Jvm.Cond.and given_1 narrow_1).before #[Value.ref b] s = true
/-! ===== BEGIN words of one list among another's, by their places ===== -/
theorem goodIn_r {big : List Cond} (ws : List Cond) (ps : List Nat) (hp : ws = ps.filterMap (fun i => big[i]?)) (h : ws.all goodWord = true) : GoodIn big ws := by
  intro w hw
  have h1 := List.all_eq_true.mp h w hw
  rw [hp] at hw
  obtain ⟨i, -, hi⟩ := List.mem_filterMap.mp hw
  have hm : w ∈ big := by first | exact List.mem_of_getElem? hi | exact List.getElem?_mem hi
  exact ⟨hm, good_of_word h1⟩
theorem goodIn_app {big a b : List Cond} (ha : GoodIn big a) (hb : GoodIn big b) : GoodIn big (a ++ b) := fun w h => (List.mem_append.mp h).elim (ha w) (hb w)
theorem goodIn_ca {big a b : List Cond} {c : Cond} (ha : GoodIn big (c :: a)) (hb : GoodIn big b) : GoodIn big (c :: (a ++ b)) := fun w h => (List.mem_cons.mp h).elim (fun e => ha w (List.mem_cons.mpr (Or.inl e))) (fun h => (List.mem_append.mp h).elim (fun h => ha w (List.mem_cons.mpr (Or.inr h))) (hb w))
theorem goodIn_sub {big ws : List Cond} (hm : ∀ w ∈ ws, w ∈ big) (h : ws.all goodWord = true) : GoodIn big ws := fun w hw => ⟨hm w hw, good_of_word (List.all_eq_true.mp h w hw)⟩
/-! ===== END ===== -/

/-! ===== BEGIN exceptions that leave a method, and their catching by the caller (launches without stack traces) ===== -/
section VXA
/-! The laws vx_back, vx_callV, vx_callS, vx_callSW, vx_throw0, vx_throwS follow proofs of the library, with one case more: JvmDerived/Free/Laws.lean (Back.of_free), Shelf42/LK1.lean (callV, callS), Shelf/KitTraced.lean (throwNew0V, throwNewS). -/
/-- where a method has thrown q: the class by its name, the cell, what was written, the world -/
def vx_T (XC : String → State → State → Prop) (st : State) (q : Addr) (t : State) (mc ms : Nat) (free : Addr → Prop) : Prop :=
  ∃ (E : String) (ce : Cell) (L : List Loc), XC E st t ∧ t.heap[q]? = some ce ∧ ce.vm = .none ∧ st.vm.findClass E = some ce.cls ∧ st.WarmedH t.vm ∧ st.sameButNew ({ t with vm := st.vm } : State) L mc ms ∧ ∀ z ∈ L, free z.base
def vx_Q (Qc : Array Value → State → Outcome → State → Prop) (XC : String → State → State → Prop) (mc ms : Nat) (free : Addr → Prop) : Array Value → State → Outcome → State → Prop := fun a st o t =>
  (Qc a st o t ∧ ∃ L, FrameEnd st o t L mc ms ∧ ∀ q ∈ L, free q.base) ∨ ∃ q, o = .threw q ∧ vx_T XC st q t mc ms free
/-- a callee that returns or throws -/
def vx_Met (l : Launch) (y : MethodName) (ws : List Cond) (rm : Room) (Pc : Array Value → State → Prop) (Qc : Array Value → State → Outcome → State → Prop) (XC : String → State → State → Prop) (mc ms : Nat) (free : Addr → Prop) : Prop :=
  MetFree l y (headSpec ws rm) Pc (fun _ _ _ _ _ => True) (vx_Q Qc XC mc ms free)
def vx_Post (XC : String → State → State → Prop) (mc ms : Nat) (free : Addr → Prop) : Pt → Array Value → Addr → Pt → Prop := fun A a q B =>
  ∃ (g : JFrame) (mk : MethodId) (t : State) (L : List Loc) (E : String) (ce : Cell), B.U.heap = t.heap ∧ B.U.vm = t.vm ∧ XC E (A.U.calling g mk a) t ∧ t.heap[q]? = some ce ∧ ce.vm = .none ∧ A.U.vm.findClass E = some ce.cls ∧ B.locs = A.locs ++ L ∧ (∀ z ∈ L, free z.base) ∧ B.cells = A.cells + mc ∧ B.slots = A.slots + ms
def vx_Back (l : Launch) (R : Room) (p : Program) (e : Env) (below : List Frame) (s : State) (sargs : Array Value) (y : MethodName) (len W9 : Nat)
    (Pre : Pt → Array Value → Prop) (Post : Pt → Array Value → Option Value → Pt → Prop) (PostX : Pt → Array Value → Addr → Pt → Prop) : Prop :=
  ∀ (m : MethodId) (meth : Method) (c : Code) (A : Pt) (g : JFrame) (ig : Instr) (mk : MethodId) (a : Array Value),
    Stand p l e R s m sargs below meth c A.U A.locs A.cells A.slots → g.method = m → g.locals.size = c.maxLocals → decode c.code g.pc = .ok (ig, len) →
    2 * g.monitorRoom + (g.stack.map fun v => v.category).sum ≤ W9 → A.U.methodNamed? y = some mk → Pre A a →
    (∃ (v : Option Value) (B : Pt), Stand p l e R s m sargs below meth c B.U B.locs B.cells B.slots ∧ Post A a v B ∧
      Steps p.tables e below (doInvoke e (A.U.setTop g) [] mk a).1 (B.U.setTop { g with pc := g.pc + len, stack := v.toList ++ g.stack })) ∨
    (∃ (q : Addr) (B : Pt), Stand p l e R s m sargs below meth c B.U B.locs B.cells B.slots ∧ PostX A a q B ∧
      Steps p.tables e below (doInvoke e (A.U.setTop g) [] mk a).1 ((B.U.setTop g).pushFrame (.throwing q)))
section Payer
variable {l : Launch} {R : Room} {p : Program} {e : Env} {below : List Frame} {s : State} {sargs : Array Value} {y : MethodName} {len W9 : Nat}
theorem vx_back {ws : List Cond} {rm : Room} {Pc : Array Value → State → Prop} {Qc : Array Value → State → Outcome → State → Prop} {XC : String → State → State → Prop} {mc ms : Nat} {free : Addr → Prop} {bytes : ByteArray} {maxL : Nat} {ret : Option FieldType}
    (hM : vx_Met l y ws rm Pc Qc XC mc ms free) (hblind : FrameBlind Pc) (hrc : rm.cells = mc) (hrs : rm.slots = ms)
    (hframes : rm.frames + 1 ≤ R.frames) (hlocals : W9 + (maxL + 11) + rm.locals ≤ R.locals)
    (hws : ∀ w ∈ ws, ∀ a' U, s.WarmedH U.vm → w.before a' U = true) (hcode : Cond.code y bytes maxL ret ∈ ws) (hinit : ∀ a' U, s.WarmedH U.vm → (Cond.initialized y.cls).before a' U = true) :
    vx_Back l R p e below s sargs y len W9 (PreOf R mc ms Pc) (PostOf Qc mc ms free) (vx_Post XC mc ms free) := by
  intro m meth c A g ig mk a X hg hsize hdg hW hn hp
  have h1 : (headSpec ws rm).pre.before a A.U = true := atoms_intro fun w hw => hws w hw _ _ X.warmed
  have h2 : (Cond.code y bytes maxL ret).before a A.U = true := hws _ hcode _ _ X.warmed
  have h3 : (Cond.initialized y.cls).before a A.U = true := hinit _ _ X.warmed
  have h4 : A.cells + (headSpec ws rm).room.cells ≤ R.cells := by rw [show (headSpec ws rm).room.cells = mc from hrc]; exact hp.1
  have h5 : A.slots + (headSpec ws rm).room.slots ≤ R.slots := by rw [show (headSpec ws rm).room.slots = ms from hrs]; exact hp.2.1
  have hPc : Pc a (A.U.calling g mk a) := hblind _ _ _ _ hp.2.2
  obtain ⟨U, Ls, c0, s0⟩ := A
  dsimp only [Pt.U, Pt.locs, Pt.cells, Pt.slots] at h1 h2 h3 h4 h5 X hn hPc ⊢
  obtain ⟨methY, cY, hmY, hcY, -, hlY, -, -, -, -⟩ := Cond.code_spec hn h2
  obtain ⟨kY, hkY, -⟩ := className_of_methodNamed hn
  have hinitY : kY.init = .initialized := Cond.initialized_spec (findClass_of_methodNamed hn) hkY h3
  have h : At U g.method c below := by rw [hg]; exact X.here
  have hlocals9 : W9 + (maxL + 11) + (headSpec ws rm).room.locals ≤ R.locals := hlocals
  have happ : (headSpec ws rm).appliesLoose y e.platform (U.calling g mk a) = true :=
    Spec.appliesLoose_calling (g := g) h hdg hn hkY hinitY
      (X.room_calling (g := g) (R' := (headSpec ws rm).room) hsize hmY hcY hframes (by rw [hlY]; omega) h4 h5) h1
  obtain ⟨mid, hmid⟩ := h.above
  have hfr : (U.setTop g).frames = (.java g :: mid) ++ below := by rw [State.frames_setTop' g h.top, hmid]; rfl
  obtain ⟨o, s₂, hsteps, -, hend, hq⟩ := Steps.callFree hM p X.admits X.cas X.clock (acts := []) hfr happ hPc trivial
  have hq' : vx_Q Qc XC mc ms free a (U.calling g mk a) o s₂ := hq
  rw [State.frames_setTop' g h.top] at hend
  obtain ⟨g₀, hg0⟩ := Option.isSome_iff_exists.mp h.top
  obtain ⟨r, hr⟩ := State.topJava?_eq_some.mp hg0
  have hr' : (({ U with heap := s₂.heap, slotsUsed := s₂.slotsUsed } : State).setVm s₂.vm).frames = .java g₀ :: r := hr
  rcases hq' with ⟨hqc, L, hfe, hL⟩ | ⟨q, rfl, E, ce, L, hx, hce, hcv, hcl, hW₂, hsm, hL⟩
  · obtain ⟨⟨v, rfl⟩, hW₂, e2, q2, q3, q4, q5, q6⟩ := id hfe
    have e3 : s₂ = ({ (U.calling g mk a).setFrames s₂.frames with heap := s₂.heap, slotsUsed := s₂.slotsUsed } : State).setVm s₂.vm := by
      have : s₂ = ({ s₂ with vm := (U.calling g mk a).vm } : State).setVm s₂.vm := rfl
      rw [e2] at this
      exact this
    obtain ⟨c₂, i₂, len₂, hc₂, hd₂, hf₂⟩ := hend
    have hW' : U.WarmedH s₂.vm := hW₂
    have hcc : c₂ = c := by
      have h1 : s₂.code? g.method = U.code? g.method := by
        rw [State.code?_eq, State.code?_eq, hW'.alike.method?]
      exact Option.some.inj (hc₂.symm.trans (h1.trans h.code))
    subst hcc
    have hlen : len₂ = len := by rw [hdg] at hd₂; cases hd₂; rfl
    subst hlen
    have hs₂ : s₂ = (({ U with heap := s₂.heap, slotsUsed := s₂.slotsUsed } : State).setVm s₂.vm).setTop { g with pc := g.pc + len₂, stack := v.toList ++ g.stack } := by
      refine e3.trans ?_
      rw [hf₂, State.calling_eq h.top, State.setFrames_setFrames, State.setTop_of_frames _ hr', hr]
      rfl
    have hsame : U.sameButNew ({ U with heap := s₂.heap, slotsUsed := s₂.slotsUsed } : State) L mc ms := by
      refine ⟨?_, q2, q3, q4, q5, q6⟩
      obtain ⟨t, ht, -⟩ := State.frames_cons hr
      show ({ U with heap := s₂.heap, slotsUsed := s₂.slotsUsed } : State) = { U.setFrames U.frames with heap := s₂.heap, slotsUsed := s₂.slotsUsed }
      rw [State.setFrames_self ht]
    subst hg
    refine Or.inl ⟨v, ⟨(({ U with heap := s₂.heap, slotsUsed := s₂.slotsUsed } : State).setVm s₂.vm), Ls ++ L, c0 + mc, s0 + ms⟩,
      ⟨X.admits, X.cas, X.clock, X.frames, X.room, X.hears, X.method, X.code, (X.here.setHeapUsed s₂.heap s₂.slotsUsed).setVm hW'.alike, X.tail, State.WarmedH.trans X.warmed hW', X.limits, X.bytes, X.same.trans (hsame.setVm s.vm)⟩,
      ⟨g, mk, s₂, L, rfl, rfl, hqc, rfl, hL, rfl, rfl⟩, ?_⟩
    show Steps p.tables e below _ ((({ U with heap := s₂.heap, slotsUsed := s₂.slotsUsed } : State).setVm s₂.vm).setTop { g with pc := g.pc + len₂, stack := v.toList ++ g.stack })
    rw [← hs₂]
    exact hsteps
  · obtain ⟨e2, q2, q3, q4, q5, q6⟩ := id hsm
    have e3 : s₂ = ({ (U.calling g mk a).setFrames s₂.frames with heap := s₂.heap, slotsUsed := s₂.slotsUsed } : State).setVm s₂.vm := by
      have : s₂ = ({ s₂ with vm := (U.calling g mk a).vm } : State).setVm s₂.vm := rfl
      rw [e2] at this
      exact this
    have hf₂ : s₂.frames = .throwing q :: .java g :: U.frames.tail := hend
    have hW' : U.WarmedH s₂.vm := hW₂
    have hs₂ : s₂ = ((({ U with heap := s₂.heap, slotsUsed := s₂.slotsUsed } : State).setVm s₂.vm).setTop g).pushFrame (.throwing q) := by
      refine e3.trans ?_
      rw [hf₂, State.calling_eq h.top, State.setFrames_setFrames, State.pushFrame, State.frames_setTop _ hr', State.setTop_of_frames _ hr', State.setFrames_setFrames, hr]
      rfl
    have hsame : U.sameButNew ({ U with heap := s₂.heap, slotsUsed := s₂.slotsUsed } : State) L mc ms := by
      refine ⟨?_, q2, q3, q4, q5, q6⟩
      obtain ⟨t, ht, -⟩ := State.frames_cons hr
      show ({ U with heap := s₂.heap, slotsUsed := s₂.slotsUsed } : State) = { U.setFrames U.frames with heap := s₂.heap, slotsUsed := s₂.slotsUsed }
      rw [State.setFrames_self ht]
    subst hg
    refine Or.inr ⟨q, ⟨(({ U with heap := s₂.heap, slotsUsed := s₂.slotsUsed } : State).setVm s₂.vm), Ls ++ L, c0 + mc, s0 + ms⟩,
      ⟨X.admits, X.cas, X.clock, X.frames, X.room, X.hears, X.method, X.code, (X.here.setHeapUsed s₂.heap s₂.slotsUsed).setVm hW'.alike, X.tail, State.WarmedH.trans X.warmed hW', X.limits, X.bytes, X.same.trans (hsame.setVm s.vm)⟩,
      ⟨g, mk, s₂, L, E, ce, rfl, rfl, hx, hce, hcv, hcl, rfl, hL, rfl, rfl⟩, ?_⟩
    show Steps p.tables e below _ (((({ U with heap := s₂.heap, slotsUsed := s₂.slotsUsed } : State).setVm s₂.vm).setTop g).pushFrame (.throwing q))
    rw [← hs₂]
    exact hsteps
end Payer
section Calls
variable {p : Program} {l : Launch} {e : Env} {R : Room} {s : State} {m : MethodId} {args : Array Value} {below : List Frame} {meth : Method} {c : Code} {T : State} {locs : List Loc} {cells slots : Nat}
theorem vx_callV (X : Stand p l e R s m args below meth c T locs cells slots) (hexec : p.tables.exec = Jvm.exec) {own C : String} {index : Nat} {y : MethodName} {bytes : ByteArray} {maxL : Nat} {ret : Option FieldType}
    (hown : s.vm.findClass own = some m.cls) (hlink : (Cond.methodLink own index y).before args s = true) (hinst : (Cond.instanceMethod y).before args s = true) (hsel : (Cond.selects C y y).before args s = true)
    (hcode : (Cond.code y bytes maxL ret).before args s = true) (hy : y.cls ≠ "java/lang/invoke/MethodHandle" ∧ y.cls ≠ "java/lang/invoke/VarHandle")
    {W9 : Nat} {Pre : Pt → Array Value → Prop} {Post : Pt → Array Value → Option Value → Pt → Prop} {PostX : Pt → Array Value → Addr → Pt → Prop} (hK : vx_Back l R p e below s args y 3 W9 Pre Post PostX)
    {b : Addr} {cellB : Cell} (hcell : T.heap[b]? = some cellB) (hobj : cellB.vm.isStatics = false) (hcls : s.vm.findClass C = some cellB.cls)
    {g : JFrame} (hg : g.method = m) (hsize : g.locals.size = c.maxLocals) {argsL rest : List Value} (hlen : ∀ sig, parseMethodDescriptor y.desc = some sig → argsL.length = sig.parameters.length)
    (hstack : g.stack = argsL.reverse ++ .ref b :: rest) (hW : 2 * g.monitorRoom + (rest.map fun v => v.category).sum ≤ W9) (hdg : decode c.code g.pc = .ok (.invokevirtual index, 3))
    (hpre : ∀ vm₁, s.WarmedH vm₁ → Pre ⟨T.setVm vm₁, locs, cells, slots⟩ (Value.ref b :: argsL).toArray) :
    (∃ (v : Option Value) (vm₁ : Vm) (B : Pt), s.WarmedH vm₁ ∧ Stand p l e R s m args below meth c B.U B.locs B.cells B.slots ∧ Post ⟨T.setVm vm₁, locs, cells, slots⟩ (Value.ref b :: argsL).toArray v B ∧
      ∀ target, Steps p.tables e below (B.U.setTop { g with pc := g.pc + 3, stack := v.toList ++ rest }) target → Steps p.tables e below (T.setTop g) target) ∨
    (∃ (q : Addr) (vm₁ : Vm) (B : Pt), s.WarmedH vm₁ ∧ Stand p l e R s m args below meth c B.U B.locs B.cells B.slots ∧ PostX ⟨T.setVm vm₁, locs, cells, slots⟩ (Value.ref b :: argsL).toArray q B ∧
      Steps p.tables e below (T.setTop g) ((B.U.setTop { g with stack := rest }).pushFrame (.throwing q))) := by
  obtain ⟨mk, methM, hnamed, hmethM, hstM, habM⟩ := Cond.instanceMethod_spec hinst
  obtain ⟨methM', cM, hmethM', -, -, -, -, -, -, hsigM⟩ := Cond.code_spec hnamed hcode
  cases hmethM.symm.trans hmethM'
  obtain ⟨c2, r2, m2, q1, q2, q3, q4, kP, hkP, hkPi⟩ := Cond.selects_spec hsel
  cases hcls.symm.trans q1
  cases (State.methodFound?_of_named hnamed hy).symm.trans q2
  cases hnamed.symm.trans q3
  have hselP : selectMethod e.platform s.vm cellB.cls mk = .method mk := by rw [Launch.admits_selectMethod X.admits]; exact q4
  obtain ⟨vm₁, X₁, hstep₁⟩ := X.invokevirtual hexec hown hlink hnamed hmethM hstM hkP hkPi hy (a := b) (cell := cellB) hcell
    (fun z h => by rw [h] at hobj; cases hobj) hselP hmethM habM hkP hkPi (g := g) hg (argsL := argsL) (rest := rest) (hlen _ hsigM) hstack hdg
  rcases hK m meth c ⟨T.setVm vm₁, locs, cells, slots⟩ { g with stack := rest } (.invokevirtual index) mk (Value.ref b :: argsL).toArray X₁ hg hsize hdg hW (X₁.named hnamed) (hpre vm₁ X₁.warmed) with ⟨v, B, X', hpost, hsteps⟩ | ⟨q, B, X', hpost, hsteps⟩
  · exact Or.inl ⟨v, vm₁, B, X₁.warmed, X', hpost, fun target h => hstep₁ _ fun acts => by rw [doInvoke_state]; exact hsteps.trans h⟩
  · exact Or.inr ⟨q, vm₁, B, X₁.warmed, X', hpost, hstep₁ _ fun acts => by rw [doInvoke_state]; exact hsteps⟩
theorem vx_callS (X : Stand p l e R s m args below meth c T locs cells slots) (hexec : p.tables.exec = Jvm.exec) {own : String} {index : Nat} {y : MethodName} {bytes : ByteArray} {maxL : Nat} {ret : Option FieldType}
    (hown : s.vm.findClass own = some m.cls) (hlink : (Cond.methodLink own index y).before args s = true) (hstat : (Cond.static y).before args s = true) (hinit : (Cond.initialized y.cls).before args s = true)
    (hcode : (Cond.code y bytes maxL ret).before args s = true) (hy : y.cls ≠ "java/lang/invoke/MethodHandle" ∧ y.cls ≠ "java/lang/invoke/VarHandle")
    {W9 : Nat} {Pre : Pt → Array Value → Prop} {Post : Pt → Array Value → Option Value → Pt → Prop} {PostX : Pt → Array Value → Addr → Pt → Prop} (hK : vx_Back l R p e below s args y 3 W9 Pre Post PostX)
    {g : JFrame} (hg : g.method = m) (hsize : g.locals.size = c.maxLocals) {argsL rest : List Value} (hlen : ∀ sig, parseMethodDescriptor y.desc = some sig → argsL.length = sig.parameters.length)
    (hstack : g.stack = argsL.reverse ++ rest) (hW : 2 * g.monitorRoom + (rest.map fun v => v.category).sum ≤ W9) (hdg : decode c.code g.pc = .ok (.invokestatic index, 3))
    (hpre : ∀ vm₁, s.WarmedH vm₁ → Pre ⟨T.setVm vm₁, locs, cells, slots⟩ argsL.toArray) :
    (∃ (v : Option Value) (vm₁ : Vm) (B : Pt), s.WarmedH vm₁ ∧ Stand p l e R s m args below meth c B.U B.locs B.cells B.slots ∧ Post ⟨T.setVm vm₁, locs, cells, slots⟩ argsL.toArray v B ∧
      ∀ target, Steps p.tables e below (B.U.setTop { g with pc := g.pc + 3, stack := v.toList ++ rest }) target → Steps p.tables e below (T.setTop g) target) ∨
    (∃ (q : Addr) (vm₁ : Vm) (B : Pt), s.WarmedH vm₁ ∧ Stand p l e R s m args below meth c B.U B.locs B.cells B.slots ∧ PostX ⟨T.setVm vm₁, locs, cells, slots⟩ argsL.toArray q B ∧
      Steps p.tables e below (T.setTop g) ((B.U.setTop { g with stack := rest }).pushFrame (.throwing q))) := by
  obtain ⟨mk, hnamed⟩ := Cond.code_named hcode
  obtain ⟨methM, cM, hmethM, -, -, -, -, -, -, hsigM⟩ := Cond.code_spec hnamed hcode
  have hstatic : methM.isStatic = true := Cond.static_spec hnamed hmethM hstat
  obtain ⟨kP, hkP, -⟩ := className_of_methodNamed hnamed
  have hinitP : kP.init = .initialized := Cond.initialized_spec (findClass_of_methodNamed hnamed) hkP hinit
  obtain ⟨vm₁, X₁, hstep₁⟩ := X.invokestatic hexec hown hlink hnamed hmethM hstatic hkP hinitP hy (g := g) hg (argsL := argsL) (rest := rest) (hlen _ hsigM) hstack hdg
  rcases hK m meth c ⟨T.setVm vm₁, locs, cells, slots⟩ { g with stack := rest } (.invokestatic index) mk argsL.toArray X₁ hg hsize hdg hW (X₁.named hnamed) (hpre vm₁ X₁.warmed) with ⟨v, B, X', hpost, hsteps⟩ | ⟨q, B, X', hpost, hsteps⟩
  · exact Or.inl ⟨v, vm₁, B, X₁.warmed, X', hpost, fun target h => hstep₁ _ fun acts => by rw [doInvoke_state]; exact hsteps.trans h⟩
  · exact Or.inr ⟨q, vm₁, B, X₁.warmed, X', hpost, hstep₁ _ fun acts => by rw [doInvoke_state]; exact hsteps⟩
end Calls
theorem vx_cls {s : State} {T : State} {vm₁ : Vm} {E : String} {k : ClassId} (hW : s.WarmedH vm₁) (h : (T.setVm vm₁).vm.findClass E = some k) : s.vm.findClass E = some k := by
  have h1 : vm₁.findClass E = some k := h
  rw [hW.alike.findClass] at h1
  exact h1
/-- the method's frame g, with q thrown over it -/
def vx_W (p : Program) (l : Launch) (e : Env) (R : Room) (s : State) (m : MethodId) (args : Array Value) (below : List Frame) (meth : Method) (c : Code) (H : Heap) (locs : List Loc) (cells slots : Nat) (Q : State → Prop) (g : JFrame) (q : Addr) : Prop :=
  ∀ T : State, T.heap = H → Stand p l e R s m args below meth c T locs cells slots → ∃ t, Steps p.tables e below ((T.setTop g).pushFrame (.throwing q)) t ∧ Q t
def vx_Run (p : Program) (l : Launch) (e : Env) (R : Room) (s : State) (m : MethodId) (args : Array Value) (below : List Frame) (meth : Method) (c : Code) (H : Heap) (locs : List Loc) (cells slots mc ms : Nat) (g : JFrame) (rest : List Value) (Qa : State → Outcome → State → Prop) (XC : String → State → State → Prop) (free : Addr → Prop) : Prop :=
  ∀ T : State, T.heap = H → Stand p l e R s m args below meth c T locs cells slots →
    (∃ (v : Option Value) (st₀ t T' : State) (L : List Loc), st₀.heap = H ∧ Stand p l e R s m args below meth c T' (locs ++ L) (cells + mc) (slots + ms) ∧ (∀ q ∈ L, free q.base) ∧ T'.heap = t.heap ∧ T'.vm = t.vm ∧ Qa st₀ (.returned v) t ∧
      Goes p e below T g T' { g with pc := g.pc + 3, stack := v.toList ++ rest }) ∨
    (∃ (q : Addr) (st₀ t T' : State) (L : List Loc) (E : String) (ce : Cell), st₀.heap = H ∧ Stand p l e R s m args below meth c T' (locs ++ L) (cells + mc) (slots + ms) ∧ (∀ z ∈ L, free z.base) ∧ T'.heap = t.heap ∧ T'.vm = t.vm ∧ XC E st₀ t ∧ t.heap[q]? = some ce ∧ ce.vm = .none ∧ s.vm.findClass E = some ce.cls ∧
      Steps p.tables e below (T.setTop g) ((T'.setTop { g with stack := rest }).pushFrame (.throwing q)))
def vx_X {S : Type} (px : S → Prop) (B : String → S → State → Prop) (A : Nat → Prop) : String → State → State → Prop := fun E st t => ∃ u : S, px u ∧ B E u t ∧ va_F A st t
section Runs
variable {p : Program} {l : Launch} {e : Env} {R : Room} {s : State} {m : MethodId} {args : Array Value} {below : List Frame} {meth : Method} {c : Code} {H : Heap} {locs : List Loc} {cells slots : Nat}
variable {y : MethodName} {bytes cc : ByteArray} {maxL nL mc ms n index : Nat} {ret : Option FieldType} {ws : List Cond} {rm : Room} {Pc : Array Value → State → Prop} {Qc : Array Value → State → Outcome → State → Prop} {XC : String → State → State → Prop} {free : Addr → Prop} {Ts : List Cond} {own C : String} {b : Addr} {As rest : List Value} {g : JFrame}
theorem vx_callBack (cb : CallB R s args own index y bytes maxL ret ws rm mc ms n) (hM : vx_Met l y ws rm Pc Qc XC mc ms free) (hbl : FrameBlind Pc) : vx_Back l R p e below s args y 3 8 (PreOf R mc ms Pc) (PostOf Qc mc ms free) (vx_Post XC mc ms free) := by
  obtain ⟨hrc, hrs, hfr, hlo, hws, hcw, -, hini, -⟩ := cb
  exact vx_back (bytes := bytes) (maxL := maxL) (ret := ret) hM hbl hrc hrs hfr hlo hws hcw (fun a' U hW => word_at hW (Or.inl (by first | rfl | simp [Cond.onTables, Cond.keeps, Cond.steady])) hini)
theorem vx_runV (S : CallFix p m c cc nL s args Ts own) (hM : vx_Met l y ws rm Pc Qc XC mc ms free) (cw : CallW R s args own C index y bytes maxL ret ws rm mc ms n) (hp : PreV s H C b Pc As)
    (hg : g.method = m) (hn : As.length = n) (hsize : g.locals.size = nL) (hstack : g.stack = As.reverse ++ .ref b :: rest) (hW : 2 * g.monitorRoom + (rest.map fun v => v.category).sum ≤ 8) (hdg : decode cc g.pc = .ok (.invokevirtual index, 3)) (hf : cells + mc ≤ R.cells ∧ slots + ms ≤ R.slots) :
    vx_Run p l e R s m args below meth c H locs cells slots mc ms g rest (Qc (Value.ref b :: As).toArray) XC free := by
  have hK : vx_Back l R p e below s args y 3 8 (PreOf R mc ms Pc) (PostOf Qc mc ms free) (vx_Post XC mc ms free) := vx_callBack cw.1 hM hp.1
  obtain ⟨⟨-, -, -, -, -, -, hcode, -, hy, hlen, hl⟩, hin, hse⟩ := cw
  obtain ⟨hx, hb, hml, ho, -⟩ := S
  obtain ⟨-, ⟨cellB, hcB, hoB, hclB⟩, hPc⟩ := hp
  intro T hT X
  rcases vx_callV X hx (C := C) (bytes := bytes) (maxL := maxL) (ret := ret) ho hl hin hse hcode hy hK (by rw [hT]; exact hcB) hoB hclB hg (hsize.trans hml.symm) (argsL := As) (rest := rest) (fun sig h => hn.trans (hlen sig h)) hstack hW (by rw [hb]; exact hdg)
    (fun vm₁ hW₁ => ⟨hf.1, hf.2, hPc (T.setVm vm₁) hT hW₁⟩) with ⟨v, vm₁, ⟨U', l2, c2, s2⟩, hW₁, X', ⟨g', mk, t, L, e1, e2, hq, h1, hL, h2, h3⟩, st⟩ | ⟨q, vm₁, ⟨U', l2, c2, s2⟩, hW₁, X', ⟨g', mk, t, L, E, ce, e1, e2, hq, hce, hcv, hcl, h1, hL, h2, h3⟩, st⟩
  · dsimp only [Pt.U, Pt.locs, Pt.cells, Pt.slots] at X' e1 e2 h1 h2 h3 st
    subst h1; subst h2; subst h3
    exact Or.inl ⟨v, (T.setVm vm₁).calling g' mk (Value.ref b :: As).toArray, t, U', L, hT, X', hL, e1, e2, hq, st⟩
  · dsimp only [Pt.U, Pt.locs, Pt.cells, Pt.slots] at X' e1 e2 h1 h2 h3 st hcl
    subst h1; subst h2; subst h3
    exact Or.inr ⟨q, (T.setVm vm₁).calling g' mk (Value.ref b :: As).toArray, t, U', L, E, ce, hT, X', hL, e1, e2, hq, hce, hcv, vx_cls hW₁ hcl, st⟩
theorem vx_runS (S : CallFix p m c cc nL s args Ts own) (hM : vx_Met l y ws rm Pc Qc XC mc ms free) (cw : CallB R s args own index y bytes maxL ret ws rm mc ms n ∧ (Cond.static y).before args s = true) (hp : PreS s H Pc As)
    (hg : g.method = m) (hn : As.length = n) (hsize : g.locals.size = nL) (hstack : g.stack = As.reverse ++ rest) (hW : 2 * g.monitorRoom + (rest.map fun v => v.category).sum ≤ 8) (hdg : decode cc g.pc = .ok (.invokestatic index, 3)) (hf : cells + mc ≤ R.cells ∧ slots + ms ≤ R.slots) :
    vx_Run p l e R s m args below meth c H locs cells slots mc ms g rest (Qc As.toArray) XC free := by
  have hK : vx_Back l R p e below s args y 3 8 (PreOf R mc ms Pc) (PostOf Qc mc ms free) (vx_Post XC mc ms free) := vx_callBack cw.1 hM hp.1
  obtain ⟨⟨-, -, -, -, -, -, hcode, hini, hy, hlen, hl⟩, hstt⟩ := cw
  obtain ⟨hx, hb, hml, ho, -⟩ := S
  intro T hT X
  rcases vx_callS X hx (bytes := bytes) (maxL := maxL) (ret := ret) ho hl hstt hini hcode hy hK hg (hsize.trans hml.symm) (argsL := As) (rest := rest) (fun sig h => hn.trans (hlen sig h)) hstack hW (by rw [hb]; exact hdg)
    (fun vm₁ hW₁ => ⟨hf.1, hf.2, hp.2 (T.setVm vm₁) hT hW₁⟩) with ⟨v, vm₁, ⟨U', l2, c2, s2⟩, hW₁, X', ⟨g', mk, t, L, e1, e2, hq, h1, hL, h2, h3⟩, st⟩ | ⟨q, vm₁, ⟨U', l2, c2, s2⟩, hW₁, X', ⟨g', mk, t, L, E, ce, e1, e2, hq, hce, hcv, hcl, h1, hL, h2, h3⟩, st⟩
  · dsimp only [Pt.U, Pt.locs, Pt.cells, Pt.slots] at X' e1 e2 h1 h2 h3 st
    subst h1; subst h2; subst h3
    exact Or.inl ⟨v, (T.setVm vm₁).calling g' mk As.toArray, t, U', L, hT, X', hL, e1, e2, hq, st⟩
  · dsimp only [Pt.U, Pt.locs, Pt.cells, Pt.slots] at X' e1 e2 h1 h2 h3 st hcl
    subst h1; subst h2; subst h3
    exact Or.inr ⟨q, (T.setVm vm₁).calling g' mk As.toArray, t, U', L, E, ce, hT, X', hL, e1, e2, hq, hce, hcv, vx_cls hW₁ hcl, st⟩
end Runs
section Rows
variable {p : Program} {l : Launch} {e : Env} {R : Room} {s : State} {m : MethodId} {args : Array Value} {below : List Frame} {meth : Method} {c : Code} {H : Heap} {locs : List Loc} {cells slots : Nat} {Q : State → Prop}
variable {mc ms : Nat} {free : Addr → Prop} {A0 A1 : Nat → Prop} {H0 : Heap} {a : Array Value} {pc : Nat} {ls : Array Slot} {st0 rest : List Value}
theorem vx_keep {st₀ t T' : State} {L : List Loc} (h0 : st₀.heap = H) (e1 : T'.heap = t.heap) (hS : va_S A0 H0 H locs) (hA : ∀ q, q < H.size → A1 q → A0 q) (hf : ∀ q, free q → A0 q) (hL : ∀ q ∈ L, free q.base) (hF : va_F A1 st₀ t) :
    H.size ≤ T'.heap.size ∧ (∀ q : Nat, q < H.size → ¬ A1 q → T'.heap[q]? = H[q]?) ∧ va_S A0 H0 T'.heap (locs ++ L) := by
  obtain ⟨hz, hk⟩ := hF
  rw [h0] at hz hk
  exact ⟨by rw [e1]; exact hz, fun q h1 h2 => by rw [e1]; exact hk q h1 h2,
    ⟨Nat.le_trans hS.1 (by rw [e1]; exact hz), fun q h1 h2 => by rw [e1, hk q (Nat.lt_of_lt_of_le h1 hS.1) (fun z => h2 (hA q (Nat.lt_of_lt_of_le h1 hS.1) z))]; exact hS.2.1 q h1 h2, fun q hq => by
      rcases List.mem_append.mp hq with h | h
      · exact hS.2.2 q h
      · exact hf _ (hL q h)⟩⟩
theorem vx_calli {S SX : Type} {post : Int32 → S → Prop} {px : SX → Prop} {B : S → State → Prop} {BX : String → SX → State → Prop} {AX : Nat → Prop} (hr : vx_Run p l e R s m args below meth c H locs cells slots mc ms (F0 m pc ls st0) rest (va_Qi post B A1 a) (vx_X px BX AX) free) (hS : va_S A0 H0 H locs) (hA : ∀ q, q < H.size → A1 q → A0 q) (hf : ∀ q, free q → A0 q) (hAX : ∀ q, q < H.size → AX q → A0 q)
    (kx : ∀ (E : String) (ce : Cell) (q9 : Addr) (u : SX) (t : State) (H1 : Heap) (locs1 : List Loc), t.heap = H1 → s.vm.Alike t.vm → px u → BX E u t → H.size ≤ H1.size → (∀ q : Nat, q < H.size → ¬ AX q → H1[q]? = H[q]?) → va_S A0 H0 H1 locs1 → H1[q9]? = some ce → ce.vm = .none → s.vm.findClass E = some ce.cls → vx_W p l e R s m args below meth c H1 locs1 (cells + mc) (slots + ms) Q (F0 m pc ls rest) q9)
    (kk : ∀ (r : Int32) (u : S) (t : State) (H1 : Heap) (locs1 : List Loc), t.heap = H1 → s.vm.Alike t.vm → post r u → B u t → H.size ≤ H1.size → (∀ q : Nat, q < H.size → ¬ A1 q → H1[q]? = H[q]?) → va_S A0 H0 H1 locs1 → W p l e R s m args below meth c H1 locs1 (cells + mc) (slots + ms) Q (F0 m (pc + 3) ls (.int r :: rest))) : W p l e R s m args below meth c H locs cells slots Q (F0 m pc ls st0) := by
  intro T hT X
  rcases hr T hT X with ⟨v, st₀, t, T', L, h0, X', hL, e1, e2, ⟨⟨r, u, hv, hp, hb⟩, hF⟩, st⟩ | ⟨q, st₀, t, T', L, E, ce, h0, X', hL, e1, e2, ⟨u, hp, hb, hF⟩, hce, hcv, hcl, st⟩
  · cases hv
    obtain ⟨k1, k2, k3⟩ := vx_keep h0 e1 hS hA hf hL hF
    obtain ⟨t2, a1, b1⟩ := kk r u t T'.heap (locs ++ L) e1.symm (by rw [← e2]; exact X'.warmed.alike) hp hb k1 k2 k3 T' rfl X'
    exact ⟨t2, st t2 a1, b1⟩
  · obtain ⟨k1, k2, k3⟩ := vx_keep h0 e1 hS hAX hf hL hF
    obtain ⟨t2, a1, b1⟩ := kx E ce q u t T'.heap (locs ++ L) e1.symm (by rw [← e2]; exact X'.warmed.alike) hp hb k1 k2 k3 (by rw [e1]; exact hce) hcv hcl T' rfl X'
    exact ⟨t2, st.trans a1, b1⟩
theorem vx_calll {S SX : Type} {post : Int64 → S → Prop} {px : SX → Prop} {B : S → State → Prop} {BX : String → SX → State → Prop} {AX : Nat → Prop} (hr : vx_Run p l e R s m args below meth c H locs cells slots mc ms (F0 m pc ls st0) rest (va_Ql post B A1 a) (vx_X px BX AX) free) (hS : va_S A0 H0 H locs) (hA : ∀ q, q < H.size → A1 q → A0 q) (hf : ∀ q, free q → A0 q) (hAX : ∀ q, q < H.size → AX q → A0 q)
    (kx : ∀ (E : String) (ce : Cell) (q9 : Addr) (u : SX) (t : State) (H1 : Heap) (locs1 : List Loc), t.heap = H1 → s.vm.Alike t.vm → px u → BX E u t → H.size ≤ H1.size → (∀ q : Nat, q < H.size → ¬ AX q → H1[q]? = H[q]?) → va_S A0 H0 H1 locs1 → H1[q9]? = some ce → ce.vm = .none → s.vm.findClass E = some ce.cls → vx_W p l e R s m args below meth c H1 locs1 (cells + mc) (slots + ms) Q (F0 m pc ls rest) q9)
    (kk : ∀ (r : Int64) (u : S) (t : State) (H1 : Heap) (locs1 : List Loc), t.heap = H1 → s.vm.Alike t.vm → post r u → B u t → H.size ≤ H1.size → (∀ q : Nat, q < H.size → ¬ A1 q → H1[q]? = H[q]?) → va_S A0 H0 H1 locs1 → W p l e R s m args below meth c H1 locs1 (cells + mc) (slots + ms) Q (F0 m (pc + 3) ls (.long r :: rest))) : W p l e R s m args below meth c H locs cells slots Q (F0 m pc ls st0) := by
  intro T hT X
  rcases hr T hT X with ⟨v, st₀, t, T', L, h0, X', hL, e1, e2, ⟨⟨r, u, hv, hp, hb⟩, hF⟩, st⟩ | ⟨q, st₀, t, T', L, E, ce, h0, X', hL, e1, e2, ⟨u, hp, hb, hF⟩, hce, hcv, hcl, st⟩
  · cases hv
    obtain ⟨k1, k2, k3⟩ := vx_keep h0 e1 hS hA hf hL hF
    obtain ⟨t2, a1, b1⟩ := kk r u t T'.heap (locs ++ L) e1.symm (by rw [← e2]; exact X'.warmed.alike) hp hb k1 k2 k3 T' rfl X'
    exact ⟨t2, st t2 a1, b1⟩
  · obtain ⟨k1, k2, k3⟩ := vx_keep h0 e1 hS hAX hf hL hF
    obtain ⟨t2, a1, b1⟩ := kx E ce q u t T'.heap (locs ++ L) e1.symm (by rw [← e2]; exact X'.warmed.alike) hp hb k1 k2 k3 (by rw [e1]; exact hce) hcv hcl T' rfl X'
    exact ⟨t2, st.trans a1, b1⟩
theorem vx_callf {S SX : Type} {post : UInt32 → S → Prop} {px : SX → Prop} {B : S → State → Prop} {BX : String → SX → State → Prop} {AX : Nat → Prop} (hr : vx_Run p l e R s m args below meth c H locs cells slots mc ms (F0 m pc ls st0) rest (va_Qf post B A1 a) (vx_X px BX AX) free) (hS : va_S A0 H0 H locs) (hA : ∀ q, q < H.size → A1 q → A0 q) (hf : ∀ q, free q → A0 q) (hAX : ∀ q, q < H.size → AX q → A0 q)
    (kx : ∀ (E : String) (ce : Cell) (q9 : Addr) (u : SX) (t : State) (H1 : Heap) (locs1 : List Loc), t.heap = H1 → s.vm.Alike t.vm → px u → BX E u t → H.size ≤ H1.size → (∀ q : Nat, q < H.size → ¬ AX q → H1[q]? = H[q]?) → va_S A0 H0 H1 locs1 → H1[q9]? = some ce → ce.vm = .none → s.vm.findClass E = some ce.cls → vx_W p l e R s m args below meth c H1 locs1 (cells + mc) (slots + ms) Q (F0 m pc ls rest) q9)
    (kk : ∀ (r : UInt32) (u : S) (t : State) (H1 : Heap) (locs1 : List Loc), t.heap = H1 → s.vm.Alike t.vm → post r u → B u t → H.size ≤ H1.size → (∀ q : Nat, q < H.size → ¬ A1 q → H1[q]? = H[q]?) → va_S A0 H0 H1 locs1 → W p l e R s m args below meth c H1 locs1 (cells + mc) (slots + ms) Q (F0 m (pc + 3) ls (.float r :: rest))) : W p l e R s m args below meth c H locs cells slots Q (F0 m pc ls st0) := by
  intro T hT X
  rcases hr T hT X with ⟨v, st₀, t, T', L, h0, X', hL, e1, e2, ⟨⟨r, u, hv, hp, hb⟩, hF⟩, st⟩ | ⟨q, st₀, t, T', L, E, ce, h0, X', hL, e1, e2, ⟨u, hp, hb, hF⟩, hce, hcv, hcl, st⟩
  · cases hv
    obtain ⟨k1, k2, k3⟩ := vx_keep h0 e1 hS hA hf hL hF
    obtain ⟨t2, a1, b1⟩ := kk r u t T'.heap (locs ++ L) e1.symm (by rw [← e2]; exact X'.warmed.alike) hp hb k1 k2 k3 T' rfl X'
    exact ⟨t2, st t2 a1, b1⟩
  · obtain ⟨k1, k2, k3⟩ := vx_keep h0 e1 hS hAX hf hL hF
    obtain ⟨t2, a1, b1⟩ := kx E ce q u t T'.heap (locs ++ L) e1.symm (by rw [← e2]; exact X'.warmed.alike) hp hb k1 k2 k3 (by rw [e1]; exact hce) hcv hcl T' rfl X'
    exact ⟨t2, st.trans a1, b1⟩
theorem vx_calld {S SX : Type} {post : UInt64 → S → Prop} {px : SX → Prop} {B : S → State → Prop} {BX : String → SX → State → Prop} {AX : Nat → Prop} (hr : vx_Run p l e R s m args below meth c H locs cells slots mc ms (F0 m pc ls st0) rest (va_Qd post B A1 a) (vx_X px BX AX) free) (hS : va_S A0 H0 H locs) (hA : ∀ q, q < H.size → A1 q → A0 q) (hf : ∀ q, free q → A0 q) (hAX : ∀ q, q < H.size → AX q → A0 q)
    (kx : ∀ (E : String) (ce : Cell) (q9 : Addr) (u : SX) (t : State) (H1 : Heap) (locs1 : List Loc), t.heap = H1 → s.vm.Alike t.vm → px u → BX E u t → H.size ≤ H1.size → (∀ q : Nat, q < H.size → ¬ AX q → H1[q]? = H[q]?) → va_S A0 H0 H1 locs1 → H1[q9]? = some ce → ce.vm = .none → s.vm.findClass E = some ce.cls → vx_W p l e R s m args below meth c H1 locs1 (cells + mc) (slots + ms) Q (F0 m pc ls rest) q9)
    (kk : ∀ (r : UInt64) (u : S) (t : State) (H1 : Heap) (locs1 : List Loc), t.heap = H1 → s.vm.Alike t.vm → post r u → B u t → H.size ≤ H1.size → (∀ q : Nat, q < H.size → ¬ A1 q → H1[q]? = H[q]?) → va_S A0 H0 H1 locs1 → W p l e R s m args below meth c H1 locs1 (cells + mc) (slots + ms) Q (F0 m (pc + 3) ls (.double r :: rest))) : W p l e R s m args below meth c H locs cells slots Q (F0 m pc ls st0) := by
  intro T hT X
  rcases hr T hT X with ⟨v, st₀, t, T', L, h0, X', hL, e1, e2, ⟨⟨r, u, hv, hp, hb⟩, hF⟩, st⟩ | ⟨q, st₀, t, T', L, E, ce, h0, X', hL, e1, e2, ⟨u, hp, hb, hF⟩, hce, hcv, hcl, st⟩
  · cases hv
    obtain ⟨k1, k2, k3⟩ := vx_keep h0 e1 hS hA hf hL hF
    obtain ⟨t2, a1, b1⟩ := kk r u t T'.heap (locs ++ L) e1.symm (by rw [← e2]; exact X'.warmed.alike) hp hb k1 k2 k3 T' rfl X'
    exact ⟨t2, st t2 a1, b1⟩
  · obtain ⟨k1, k2, k3⟩ := vx_keep h0 e1 hS hAX hf hL hF
    obtain ⟨t2, a1, b1⟩ := kx E ce q u t T'.heap (locs ++ L) e1.symm (by rw [← e2]; exact X'.warmed.alike) hp hb k1 k2 k3 (by rw [e1]; exact hce) hcv hcl T' rfl X'
    exact ⟨t2, st.trans a1, b1⟩
theorem vx_callv {S SX : Type} {post : S → Prop} {px : SX → Prop} {B : S → State → Prop} {BX : String → SX → State → Prop} {AX : Nat → Prop} (hr : vx_Run p l e R s m args below meth c H locs cells slots mc ms (F0 m pc ls st0) rest (va_Qv post B A1 a) (vx_X px BX AX) free) (hS : va_S A0 H0 H locs) (hA : ∀ q, q < H.size → A1 q → A0 q) (hf : ∀ q, free q → A0 q) (hAX : ∀ q, q < H.size → AX q → A0 q)
    (kx : ∀ (E : String) (ce : Cell) (q9 : Addr) (u : SX) (t : State) (H1 : Heap) (locs1 : List Loc), t.heap = H1 → s.vm.Alike t.vm → px u → BX E u t → H.size ≤ H1.size → (∀ q : Nat, q < H.size → ¬ AX q → H1[q]? = H[q]?) → va_S A0 H0 H1 locs1 → H1[q9]? = some ce → ce.vm = .none → s.vm.findClass E = some ce.cls → vx_W p l e R s m args below meth c H1 locs1 (cells + mc) (slots + ms) Q (F0 m pc ls rest) q9)
    (kk : ∀ (u : S) (t : State) (H1 : Heap) (locs1 : List Loc), t.heap = H1 → s.vm.Alike t.vm → post u → B u t → H.size ≤ H1.size → (∀ q : Nat, q < H.size → ¬ A1 q → H1[q]? = H[q]?) → va_S A0 H0 H1 locs1 → W p l e R s m args below meth c H1 locs1 (cells + mc) (slots + ms) Q (F0 m (pc + 3) ls (rest))) : W p l e R s m args below meth c H locs cells slots Q (F0 m pc ls st0) := by
  intro T hT X
  rcases hr T hT X with ⟨v, st₀, t, T', L, h0, X', hL, e1, e2, ⟨⟨u, hv, hp, hb⟩, hF⟩, st⟩ | ⟨q, st₀, t, T', L, E, ce, h0, X', hL, e1, e2, ⟨u, hp, hb, hF⟩, hce, hcv, hcl, st⟩
  · cases hv
    obtain ⟨k1, k2, k3⟩ := vx_keep h0 e1 hS hA hf hL hF
    obtain ⟨t2, a1, b1⟩ := kk u t T'.heap (locs ++ L) e1.symm (by rw [← e2]; exact X'.warmed.alike) hp hb k1 k2 k3 T' rfl X'
    exact ⟨t2, st t2 a1, b1⟩
  · obtain ⟨k1, k2, k3⟩ := vx_keep h0 e1 hS hAX hf hL hF
    obtain ⟨t2, a1, b1⟩ := kx E ce q u t T'.heap (locs ++ L) e1.symm (by rw [← e2]; exact X'.warmed.alike) hp hb k1 k2 k3 (by rw [e1]; exact hce) hcv hcl T' rfl X'
    exact ⟨t2, st.trans a1, b1⟩
/-- caught by the row x of this method's table; the rows ahead don't take it -/
theorem vx_catch {own name : String} {E : String} {ce : Cell} {q : Addr} (hown : s.vm.findClass own = some m.cls) (pre : List ExceptionTableEntry) (x : ExceptionTableEntry) (suf : List ExceptionTableEntry) (hsplit : c.exceptionTable.toList = pre ++ x :: suf)
    (hpass : ∀ z ∈ pre, covers z pc = false ∨ (z.catchType ≠ 0 ∧ ∃ nm : String, (Cond.classLink own z.catchType nm).before args s = true ∧ va_Nc E nm s)) (hx : covers x pc = true) (h0 : x.catchType ≠ 0)
    (hlink : (Cond.classLink own x.catchType name).before args s = true) (hcast : (Cond.castable E name).before args s = true) (hcell : H[q]? = some ce) (hv : ce.vm = .none) (hcl : s.vm.findClass E = some ce.cls)
    (kk : W p l e R s m args below meth c H locs cells slots Q (F0 m x.handlerPc ls [.ref q])) : vx_W p l e R s m args below meth c H locs cells slots Q (F0 m pc ls rest) q := by
  intro T hT X
  have hpl : e.platform.magicAccessors = ({} : Platform).magicAccessors := by rw [X.admits.platform]
  obtain ⟨c3, c4, hc3, hc4, hasg⟩ := Cond.castable_spec hcast
  cases Option.some.inj (hc3.symm.trans hcl)
  obtain ⟨c5, hc5, hcl5⟩ := Cond.classLink_spec hown hlink e.platform hpl
  cases Option.some.inj (hc4.symm.trans hc5)
  obtain ⟨vm', X', st⟩ := X.thenCaughtThrough q (g := F0 m pc ls rest) rfl (Steps.refl _) (by rw [hT]; exact hcell) (by rw [hv]; rfl) (by obtain ⟨k9, h9, -⟩ := Vm.findClass_spec hcl; exact ⟨k9, h9⟩) pre x suf hsplit
    (fun z hz => by
      rcases hpass z hz with h | ⟨hz0, nm, hl1, hn1⟩
      · exact Or.inl h
      · obtain ⟨c6, hc6, hcl6⟩ := Cond.classLink_spec hown hl1 e.platform hpl
        obtain ⟨a8, b8, h1, h2, h3⟩ := hn1
        cases Option.some.inj (h1.symm.trans hcl)
        cases Option.some.inj (h2.symm.trans hc6)
        exact Or.inr ⟨hz0, _, hcl6, h3⟩) hx (Or.inr ⟨h0, c4, hcl5, hasg⟩)
  obtain ⟨t, a1, b1⟩ := kk (T.setVm vm') hT X'
  exact ⟨t, st.trans a1, b1⟩
end Rows
section Ends
variable {p : Program} {l : Launch} {e : Env} {R : Room} {s : State} {m : MethodId} {args : Array Value} {below : List Frame} {meth : Method} {c : Code} {H : Heap} {locs : List Loc} {cells slots : Nat} {Q : State → Prop}
variable {mc ms : Nat} {free : Addr → Prop} {A0 A1 : Nat → Prop} {H0 : Heap} {a : Array Value} {ls : Array Slot} {st0 rest : List Value}
variable {Qc : Array Value → State → Outcome → State → Prop} {XC : String → State → State → Prop}
/-- what a body that may throw owes at its end -/
def vx_MQ (below : List Frame) (Qc : Array Value → State → Outcome → State → Prop) (XC : String → State → State → Prop) (a : Array Value) (s : State) (mc ms : Nat) (free : Addr → Prop) : State → Prop := fun t =>
  ∃ o, t.status = .running ∧ Ended t below o ∧ vx_Q Qc XC mc ms free a s o t
theorem vx_ret {g : JFrame} {mc ms : Nat} (k : W p l e R s m args below meth c H locs cells slots (MQ below Qc args s mc ms free) g) : W p l e R s m args below meth c H locs cells slots (vx_MQ below Qc XC args s mc ms free) g := by
  intro T hT X
  obtain ⟨t, a1, o, b1, b2, b3, b4⟩ := k T hT X
  exact ⟨t, a1, o, b1, b2, Or.inl ⟨b3, b4⟩⟩
/-- not caught here: it goes on to the caller -/
theorem vx_widen {g : JFrame} {q : Addr} {k n : Nat} (h1 : cells ≤ k) (h2 : slots ≤ n) (kk : vx_W p l e R s m args below meth c H locs k n Q g q) : vx_W p l e R s m args below meth c H locs cells slots Q g q := fun T hT X => kk T hT (stand_widen X h1 h2)
theorem vx_out {pc : Nat} {E : String} {ce : Cell} {q : Addr} {mc ms : Nat} (hout : ∀ x ∈ c.exceptionTable.toList, covers x pc = false) (hlocks : meth.locks = false) (hcell : H[q]? = some ce) (hv : ce.vm = .none) (hcl : s.vm.findClass E = some ce.cls)
    (hx : ∀ t : State, t.heap = H → s.vm.Alike t.vm → XC E s t) (hf : ∀ z ∈ locs, free z.base) (hc : cells ≤ mc) (hs : slots ≤ ms) :
    vx_W p l e R s m args below meth c H locs cells slots (vx_MQ below Qc XC args s mc ms free) (F0 m pc ls rest) q := by
  intro T hT X
  obtain ⟨st1, hrun, hend, hW, hsm⟩ := X.leaveThrown q (g := F0 m pc ls rest) rfl rfl rfl hout hlocks
  have hcell9 : (T.setFrames (.throwing q :: below)).heap[q]? = some ce := by
    show T.heap[q]? = some ce
    rw [hT]; exact hcell
  exact ⟨_, st1, .threw q, hrun, hend, Or.inr ⟨q, rfl, E, ce, locs, hx _ hT hW.alike, hcell9, hv, hcl, hW, hsm.mono hc hs, hf⟩⟩
theorem vx_frame {U : State} {k n : Nat} (h : s.sameButNew ({ U with vm := s.vm } : State) locs k n) : s.heap.size ≤ U.heap.size ∧ ∀ q : Nat, q < s.heap.size → (∀ z ∈ locs, z.base ≠ q) → U.heap[q]? = s.heap[q]? := by
  obtain ⟨-, h2, -, -, -, h6⟩ := h
  refine ⟨h2, fun q hq hz => ?_⟩
  obtain ⟨c9, e1, e2, e3, e4⟩ := h6 q _ (Array.getElem?_eq_getElem hq)
  have hs : c9.slots = (s.heap[q]).slots := Array.ext_getElem? fun i => e4 i fun hm => hz _ hm rfl
  have h9 : c9 = s.heap[q] := by
    rw [hs] at e2
    exact e2
  have e5 : U.heap[q]? = some c9 := e1
  rw [e5, h9, Array.getElem?_eq_getElem hq]
/-- the words of a throw but the four that speak of the heap -/
def vx_no (w : Cond) : Bool := decide (w ≠ .isRef (.static Bundle.tN "UNASSIGNED_STACK" Bundle.steD)) && decide (w ≠ .isRef (.static Bundle.tN "SUPPRESSED_SENTINEL" Bundle.listD)) && decide (w ≠ .laysStatic Bundle.tN "UNASSIGNED_STACK" Bundle.steD) && decide (w ≠ .laysStatic Bundle.tN "SUPPRESSED_SENTINEL" Bundle.listD)
def vx_at0 (own : String) (ic : Nat) (X : String) (names : List String) : List Cond := (Bundle.ownAtoms0 own ic X names).filter vx_no
def vx_atS (own : String) (ic : Nat) (X : String) (names : List String) : List Cond := (Bundle.ownAtoms own ic X names).filter vx_no
/-- a word that the tables alone decide, or a good one -/
def vx_ot (w : Cond) : Bool := w.onTables || goodWord w
theorem vx_ot_at {args a' : Array Value} {s U : State} {w : Cond} (hW : s.WarmedH U.vm) (hvm : s.vm = U.vm) (hg : vx_ot w = true) (h : w.before args s = true) : w.before a' U = true := by
  simp only [vx_ot, Bool.or_eq_true] at hg
  rcases hg with hg | hg
  · exact va_tabs hg hvm h
  · exact word_at hW (good_of_word hg) h
/-- a list's words: the good ones out of the method's own list, the others by premises of their own -/
theorem vx_hat {args : Array Value} {s : State} {L B : List Cond} (h1 : ∀ w ∈ L.filter goodWord, w.before args s = true) (h2 : ∀ w ∈ L.filter (fun w => !goodWord w), w ∈ B) (h3 : ∀ w ∈ B, w.before args s = true) : ∀ w ∈ L, w.before args s = true := by
  intro w hw
  by_cases g : goodWord w = true
  · exact h1 w (List.mem_filter.mpr ⟨hw, g⟩)
  · refine h3 w (h2 w (List.mem_filter.mpr ⟨hw, ?_⟩))
    show (!goodWord w) = true
    cases hgw : goodWord w
    · rfl
    · exact absurd hgw g
theorem vx_c {args : Array Value} {s : State} {w : Cond} {B : List Cond} (h : w.before args s = true) (t : ∀ w ∈ B, w.before args s = true) : ∀ w' ∈ w :: B, w'.before args s = true := fun w' h' => (List.mem_cons.mp h').elim (fun e => by rw [e]; exact h) (t w')
theorem vx_n {args : Array Value} {s : State} : ∀ w ∈ ([] : List Cond), w.before args s = true := fun _ h => nomatch h
theorem vx_own {args : Array Value} {s : State} {L : List Cond} (h1 : ∀ w ∈ L.filter vx_no, w.before args s = true)
    (hU : (Cond.isRef (.static Bundle.tN "UNASSIGNED_STACK" Bundle.steD)).before args s = true) (hN : (Cond.isRef (.static Bundle.tN "SUPPRESSED_SENTINEL" Bundle.listD)).before args s = true)
    (lU : (Cond.laysStatic Bundle.tN "UNASSIGNED_STACK" Bundle.steD).before args s = true) (lN : (Cond.laysStatic Bundle.tN "SUPPRESSED_SENTINEL" Bundle.listD).before args s = true) : ∀ w ∈ L, w.before args s = true := by
  intro w hw
  by_cases e1 : w = .isRef (.static Bundle.tN "UNASSIGNED_STACK" Bundle.steD)
  · rw [e1]; exact hU
  · by_cases e2 : w = .isRef (.static Bundle.tN "SUPPRESSED_SENTINEL" Bundle.listD)
    · rw [e2]; exact hN
    · by_cases e3 : w = .laysStatic Bundle.tN "UNASSIGNED_STACK" Bundle.steD
      · rw [e3]; exact lU
      · by_cases e4 : w = .laysStatic Bundle.tN "SUPPRESSED_SENTINEL" Bundle.listD
        · rw [e4]; exact lN
        · exact h1 w (List.mem_filter.mpr ⟨hw, by unfold vx_no; rw [decide_eq_true e1, decide_eq_true e2, decide_eq_true e3, decide_eq_true e4]; rfl⟩)
/-- where a static field lies, its class's statics cell in H -/
def vx_L (C n d : String) (A : Nat → Prop) (U : State) (H : Heap) : Prop := ∃ (c : ClassId) (k : Class) (i : Nat) (f : Field) (a : Nat) (cell : Cell), U.vm.findClass C = some c ∧ U.fieldFound? C n d = some (c, k, i, f) ∧ f.isStatic = true ∧ k.statics = some a ∧ H[a]? = some cell ∧ cell.vm.isStatics = true ∧ cell.cls = c ∧ f.slot < cell.slots.size ∧ k.staticTypes[f.slot]? = some f.type ∧ ¬ A a
theorem vx_L.moved {C n d : String} {A : Nat → Prop} {u U : State} {H : Heap} (hvm : u.vm.Alike U.vm) (h : vx_L C n d A u H) : vx_L C n d A U H := by
  obtain ⟨c, k, i, f, a, cell, h1, h2, h3, h4, h5, h6, h7, h8, h9, h10⟩ := h
  obtain ⟨k', hi', he⟩ := State.fieldFound?_setVm hvm h2
  exact ⟨c, k', i, f, a, cell, by rw [hvm.findClass]; exact h1, hi', h3, by rw [he]; exact h4, h5, h6, h7, h8, by rw [he]; exact h9, h10⟩
theorem vx_L.kept {C n d : String} {A : Nat → Prop} {U : State} {H H1 : Heap} (h : vx_L C n d A U H) (hq : ∀ a : Nat, a < H.size → ¬ A a → H1[a]? = H[a]?) : vx_L C n d A U H1 := by
  obtain ⟨c, k, i, f, a, cell, h1, h2, h3, h4, h5, h6, h7, h8, h9, h10⟩ := h
  exact ⟨c, k, i, f, a, cell, h1, h2, h3, h4, by rw [hq a (Array.getElem?_eq_some_iff.mp h5).1 h10]; exact h5, h6, h7, h8, h9, h10⟩
theorem vx_L.narrow {C n d : String} {A B : Nat → Prop} {U : State} {H : Heap} (h : vx_L C n d A U H) (hAB : ∀ q, B q → A q) : vx_L C n d B U H := by
  obtain ⟨c, k, i, f, a, cell, h1, h2, h3, h4, h5, h6, h7, h8, h9, h10⟩ := h
  exact ⟨c, k, i, f, a, cell, h1, h2, h3, h4, h5, h6, h7, h8, h9, fun z => h10 (hAB _ z)⟩
theorem vx_L.word {C n d : String} {A : Nat → Prop} {s : State} {args : Array Value} (h : vx_L C n d A s s.heap) : (Cond.laysStatic C n d).before args s = true := by
  obtain ⟨c, k, i, f, a, cell, h1, h2, h3, h4, h5, h6, h7, h8, h9, -⟩ := h
  show (Cond.laysStatic C n d).holds args s none s [] = true
  exact Cond.laysStatic_of h1 h2 h3 h4 h5 h6 h7 h8 h9
/-- .. and what it holds: null or some reference -/
def vx_Zq (C n d : String) (A : Nat → Prop) (U : State) (H : Heap) : Prop := va_Zq C n d A U H ∧ vx_L C n d A U H
theorem vx_Zq.moved {C n d : String} {A : Nat → Prop} {u U : State} {H : Heap} (hvm : u.vm.Alike U.vm) (h : vx_Zq C n d A u H) : vx_Zq C n d A U H := ⟨va_Zq.moved hvm h.1, vx_L.moved hvm h.2⟩
theorem vx_Zq.kept {C n d : String} {A : Nat → Prop} {U : State} {H H1 : Heap} (h : vx_Zq C n d A U H) (hq : ∀ a : Nat, a < H.size → ¬ A a → H1[a]? = H[a]?) : vx_Zq C n d A U H1 := ⟨va_Zq.kept h.1 hq, vx_L.kept h.2 hq⟩
theorem vx_Zq.narrow {C n d : String} {A B : Nat → Prop} {U : State} {H : Heap} (h : vx_Zq C n d A U H) (hAB : ∀ q, B q → A q) : vx_Zq C n d B U H := ⟨va_Zq.narrow h.1 hAB, vx_L.narrow h.2 hAB⟩
theorem vx_Zqof {args : Array Value} {s : State} {C n d : String} {A : Nat → Prop} (hl : (Cond.laysStatic C n d).before args s = true) (hini : (Cond.initialized C).before args s = true) (h : (Cond.isRef (.static C n d)).before args s = true) (hA : ∀ a : Nat, a < s.heap.size → ¬ A a) : vx_Zq C n d A s s.heap := by
  refine ⟨va_Zqof hl hini h hA, ?_⟩
  obtain ⟨c, k, i, f, a, cell, h1, h2, h3, h4, h5, h6, h7, h8, h9⟩ := Cond.laysStatic_spec hl
  exact ⟨c, k, i, f, a, cell, h1, h2, h3, h4, h5, h6, h7, h8, h9, hA a (Array.getElem?_eq_some_iff.mp h5).1⟩
theorem vx_isRef {C n d : String} {v : Value} {A : Nat → Prop} {s : State} {args : Array Value} (h : va_Z C n d v A s s.heap) (hv : v.isRef = true) : (Cond.isRef (.static C n d)).before args s = true := by
  obtain ⟨cf, kf, fi, f, a, cell, h1, h2, h3, h4, h5, h6, h7, -⟩ := h
  have he : (Term.static C n d).eval args s none [] s = some v := by
    simp [Term.eval, State.fieldNamed?, h1, h2, h4, h5, h6, h7]
  simp only [Cond.before, Cond.holds, Cond.value, he]
  cases v <;> simp_all [Value.isRef]
theorem vx_isRefq {C n d : String} {A : Nat → Prop} {s : State} {args : Array Value} (h : va_Zq C n d A s s.heap) : (Cond.isRef (.static C n d)).before args s = true := by
  rcases h with h | ⟨t, h⟩
  · exact vx_isRef h rfl
  · exact vx_isRef h rfl
/-- the same frame, seen from here: as if the method were called anew in this heap -/
theorem vx_rebase {T : State} (X : Stand p l e R s m args below meth c T locs cells slots) {R' : Room} (hf : R'.frames ≤ R.frames) (hl : R'.locals ≤ R.locals) (hc : cells + R'.cells ≤ R.cells) (hs : slots + R'.slots ≤ R.slots) :
    Stand p l e R' ((T.setVm s.vm).setFrames (.invoking m args :: below)) m args below meth c T [] 0 0 := by
  have htop : (T.setVm s.vm).topJava?.isSome := X.here.top
  have hF : ((T.setVm s.vm).setFrames (.invoking m args :: below)).frames = .invoking m args :: below := State.frames_setFrames _ (State.cur_lt_of_top htop)
  obtain ⟨g₀, hg0⟩ := Option.isSome_iff_exists.mp htop
  obtain ⟨r, hr⟩ := State.topJava?_eq_some.mp hg0
  have hl9 : e.platform.stackLimits (T.setVm s.vm).me = e.platform.stackLimits s.me := X.limits
  have hb9 : (T.setVm s.vm).me.stackBytes = s.me.stackBytes := X.bytes
  refine ⟨X.admits, X.cas, X.clock, hF, ?_, X.hears, X.method, X.code, X.here, X.tail, X.warmed, ?_, ?_, ?_⟩
  · have h := X.room
    have hU : ((T.setVm s.vm).setFrames (.invoking m args :: below)).localsInUse = s.localsInUse := by
      rw [State.localsInUse_invoking hF (meth := meth) (c := c) X.method X.code, State.localsInUse_invoking X.frames X.method X.code]
    simp only [State.hasRoom, Bool.and_eq_true, decide_eq_true_eq] at h ⊢
    obtain ⟨⟨⟨⟨h1, h2, h3, h4, h5, h6⟩, h7⟩, h8⟩, h9⟩ := h
    rw [X.frames, List.length_cons] at h2 h3
    have q1 := X.heapSize
    have q2 := X.used
    simp only [hF, hU, List.length_cons, State.stackLimits_setFrames, State.stackBytes_setFrames, hl9, hb9]
    refine ⟨⟨⟨⟨by omega, by omega, by omega, by omega, by omega, h6⟩, ?_⟩, ?_⟩, X.book⟩
    · show T.heap.size + R'.cells ≤ e.platform.maxCells
      omega
    · show T.slotsUsed + R'.slots ≤ e.platform.maxSlots
      omega
  · rw [State.stackLimits_setFrames]; rfl
  · rw [State.stackBytes_setFrames]; rfl
  · refine ⟨?_, Nat.le_refl _, Nat.le_refl _, ?_, ?_, fun a c9 h9 => ⟨c9, h9, rfl, rfl, fun _ _ => rfl⟩⟩
    · obtain ⟨t, ht, -⟩ := State.frames_cons hr
      show T.setVm s.vm = { ((T.setVm s.vm).setFrames (.invoking m args :: below)).setFrames (T.setVm s.vm).frames with heap := T.heap, slotsUsed := T.slotsUsed }
      rw [State.setFrames_setFrames, State.setFrames_self ht]
      rfl
    · show T.slotsUsed = T.slotsUsed + ((T.heap.toList.drop T.heap.size).map (·.slots.size)).sum
      rw [List.drop_eq_nil_of_le (Nat.le_of_eq Array.length_toList)]
      rfl
    · show ((T.heap.toList.drop T.heap.size).map (·.slots.size)).sum ≤ 0
      rw [List.drop_eq_nil_of_le (Nat.le_of_eq Array.length_toList)]
      exact Nat.le_refl _
/-- 'throw new E()': new; dup; invokespecial; athrow -/
theorem vx_throw0 {cc : ByteArray} {pc : Nat} (hexec : p.tables.exec = Jvm.exec) (hb : c.code = cc) (hl : l.stackTraces = false) {own cls : String} {names : List String} {ik ic mc ms : Nat} {A : Nat → Prop}
    (hown : s.vm.findClass own = some m.cls) (hcls : Bundle.fit cls = true) (hnames : ∀ n ∈ names, Bundle.fit n = true)
    (hk : (Cond.classLink own ik cls).before args s = true) (hini : (Cond.initialized cls).before args s = true) (hat : ∀ w ∈ vx_at0 own ic cls names, w.before args s = true)
    (hgood : ∀ w ∈ Cond.classLink own ik cls :: Cond.initialized cls :: vx_at0 own ic cls names, vx_ot w = true)
    (hU : vx_Zq Bundle.tN "UNASSIGNED_STACK" Bundle.steD A s s.heap) (hN : vx_Zq Bundle.tN "SUPPRESSED_SENTINEL" Bundle.listD A s s.heap) (hS : va_S A s.heap H locs) (hsize : ls.size = c.maxLocals)
    (d0 : decode cc pc = .ok (.new ik, 3)) (d3 : decode cc (pc + 3) = .ok (.dup, 1)) (d4 : decode cc (pc + 4) = .ok (.invokespecial ic, 3)) (d7 : decode cc (pc + 7) = .ok (.athrow, 1))
    (hout : ∀ x ∈ c.exceptionTable.toList, covers x (pc + 7) = false)
    (hRframes : names.length + 3 < R.frames) (hRlocals : (rest.map fun v => v.category).sum + (13 * (names.length + 1) + 42) ≤ R.locals) (hRcells : cells + 1 ≤ R.cells) (hRslots : slots + 6 ≤ R.slots) (hlocks : meth.locks = false)
    (hx : ∀ t : State, s.vm.Alike t.vm → H.size ≤ t.heap.size → (∀ q : Nat, q < H.size → t.heap[q]? = H[q]?) → XC cls s t)
    (hf : ∀ z ∈ locs, free z.base) (hc : cells + 1 ≤ mc) (hs : slots + 6 ≤ ms) :
    W p l e R s m args below meth c H locs cells slots (vx_MQ below Qc XC args s mc ms free) (F0 m pc ls rest) := by
  intro T hT X
  have htr : e.platform.stackTraces = false := (show e.platform.stackTraces = l.stackTraces by rw [X.admits.platform]).trans hl
  have Y := vx_rebase X (R' := { frames := R.frames, locals := R.locals, cells := 1, slots := 6 }) (Nat.le_refl _) (Nat.le_refl _) hRcells hRslots
  obtain ⟨s', hA⟩ : ∃ z, z = (T.setVm s.vm).setFrames (.invoking m args :: below) := ⟨_, rfl⟩
  rw [← hA] at Y
  have hvm : s'.vm = s.vm := by rw [hA]; rfl
  have hhp : s'.heap = H := by rw [hA]; exact hT
  have hW0 : s.WarmedH s'.vm := by rw [hvm]; exact State.WarmedH.refl s
  have hat' : ∀ w ∈ vx_at0 own ic cls names, w.before args s' = true := fun w hw => vx_ot_at hW0 hvm.symm (hgood w (List.mem_cons_of_mem _ (List.mem_cons_of_mem _ hw))) (hat w hw)
  have hk' : (Cond.classLink own ik cls).before args s' = true := vx_ot_at hW0 hvm.symm (hgood _ List.mem_cons_self) hk
  have hini' : (Cond.initialized cls).before args s' = true := vx_ot_at hW0 hvm.symm (hgood _ (List.mem_cons_of_mem _ List.mem_cons_self)) hini
  have hU' : vx_Zq Bundle.tN "UNASSIGNED_STACK" Bundle.steD A s' s'.heap := by rw [hhp]; exact vx_Zq.moved hW0.alike (hU.kept hS.2.1)
  have hN' : vx_Zq Bundle.tN "SUPPRESSED_SENTINEL" Bundle.listD A s' s'.heap := by rw [hhp]; exact vx_Zq.moved hW0.alike (hN.kept hS.2.1)
  have h : ∀ w ∈ Bundle.ownAtoms0 own ic cls names, w.before args s' = true := vx_own hat' (vx_isRefq hU'.1) (vx_isRefq hN'.1) hU'.2.word hN'.2.word
  have hown' : s'.vm.findClass own = some m.cls := by rw [hvm]; exact hown
  have hins : (Cond.instantiable cls 6).before args s' = true := h _ (by simp [Bundle.ownAtoms0])
  obtain ⟨vm₁, cX, kX, hfX, hkX, -, -, X₁, st1⟩ := Y.newCold hexec (own := own) (C := cls) (index := ik) (n := 6) hown' hk' hins hini'
    (g := F0 m pc ls rest) rfl (by rw [hb]; exact d0) (Nat.le_refl _) (Nat.le_refl _)
  generalize hT1 : (T.setVm vm₁).pushCell { cls := cX, slots := kX.instanceTypes.map defaultValue, vm := .none } = T1 at X₁ st1
  have hcat : (Value.ref T.heap.size).category = 1 := rfl
  have hcellA : T1.heap[T.heap.size]? = some (freshCell cX kX) := by rw [← hT1]; exact State.heap_pushCell_size _ _
  have d3' : decode c.code (pc + 3) = .ok (.dup, 1) := by rw [hb]; exact d3
  obtain ⟨U, hsteps, hrun, hend, hW, hsame, ce, hce, hO⟩ := X₁.ctorThrow0 hexec htr (own := own) (cls := cls) (names := names) (ic := ic) hown' hcls hnames h (fun x hx => nomatch hx) hfX hkX hcellA (by rw [hhp, hT]; exact Nat.le_refl _)
    (g := { method := m, pc := pc + 4, locals := ls, stack := .ref T.heap.size :: .ref T.heap.size :: rest, locked := none }) rfl hsize rfl rfl (rest := rest) rfl
    (by rw [hb]; exact d4) (by rw [hb]; exact d7) hout hRframes (by simp only [List.map_cons, List.sum_cons, hcat]; omega) hlocks
  obtain ⟨f1, f2⟩ := vx_frame hsame
  rw [hhp] at f1 f2
  have hWs : s.WarmedH U.vm := State.WarmedH.trans hW0 hW
  have hcl : s.vm.findClass cls = some ce.cls := by
    have h9 := hO.cls
    rw [hvm] at h9
    exact h9
  have hall : s.sameButNew ({ U with vm := s.vm } : State) locs mc ms := by
    subst hA
    obtain ⟨e1, e2⟩ := hsame
    rw [State.setFrames_setFrames] at e1
    have h2 : (T.setVm s.vm).sameButNew ({ U with vm := s.vm } : State) [] (0 + 1) (0 + 6) := ⟨e1, e2⟩
    have h3 := X.same.trans h2
    rw [List.append_nil] at h3
    exact h3.mono hc hs
  refine ⟨U, ?_, .threw T.heap.size, hrun, hend, Or.inr ⟨T.heap.size, rfl, cls, ce, locs, hx U hWs.alike f1 (fun q hq => f2 q hq (fun z hz => nomatch hz)), hce, hO.vm, hcl, hWs, hall, hf⟩⟩
  refine st1 _ ?_
  show Steps p.tables e below (T1.setTop { method := m, pc := pc + 3, locals := ls, stack := .ref T.heap.size :: rest, locked := none }) _
  jvm_step X₁.here [X₁.here.top, hexec, d3', Value.category]
  exact hsteps
/-- 'throw new E("text")': new; dup; ldc; invokespecial; athrow -/
theorem vx_throwS {cc : ByteArray} {pc : Nat} (hexec : p.tables.exec = Jvm.exec) (hb : c.code = cc) (hl : l.stackTraces = false) {own cls text : String} {names : List String} {ik is ic mc ms sa : Nat} {A : Nat → Prop}
    (hown : s.vm.findClass own = some m.cls) (hcls : Bundle.fit cls = true) (hnames : ∀ n ∈ names, Bundle.fit n = true)
    (hk : (Cond.classLink own ik cls).before args s = true) (hini : (Cond.initialized cls).before args s = true) (hstr : vk_R own is text sa s) (hat : ∀ w ∈ vx_atS own ic cls names, w.before args s = true)
    (hgood : ∀ w ∈ Cond.classLink own ik cls :: Cond.initialized cls :: vx_atS own ic cls names, vx_ot w = true)
    (hU : vx_Zq Bundle.tN "UNASSIGNED_STACK" Bundle.steD A s s.heap) (hN : vx_Zq Bundle.tN "SUPPRESSED_SENTINEL" Bundle.listD A s s.heap) (hS : va_S A s.heap H locs) (hsize : ls.size = c.maxLocals)
    (d0 : decode cc pc = .ok (.new ik, 3)) (d3 : decode cc (pc + 3) = .ok (.dup, 1)) (d4 : decode cc (pc + 4) = .ok (.ldc is, 2)) (d6 : decode cc (pc + 6) = .ok (.invokespecial ic, 3)) (d9 : decode cc (pc + 9) = .ok (.athrow, 1))
    (hout : ∀ x ∈ c.exceptionTable.toList, covers x (pc + 9) = false)
    (hRframes : names.length + 3 < R.frames) (hRlocals : (rest.map fun v => v.category).sum + (13 * (names.length + 1) + 43) ≤ R.locals) (hRcells : cells + 1 ≤ R.cells) (hRslots : slots + 6 ≤ R.slots) (hlocks : meth.locks = false)
    (hx : ∀ t : State, s.vm.Alike t.vm → H.size ≤ t.heap.size → (∀ q : Nat, q < H.size → t.heap[q]? = H[q]?) → XC cls s t)
    (hf : ∀ z ∈ locs, free z.base) (hc : cells + 1 ≤ mc) (hs : slots + 6 ≤ ms) :
    W p l e R s m args below meth c H locs cells slots (vx_MQ below Qc XC args s mc ms free) (F0 m pc ls rest) := by
  intro T hT X
  have htr : e.platform.stackTraces = false := (show e.platform.stackTraces = l.stackTraces by rw [X.admits.platform]).trans hl
  have Y := vx_rebase X (R' := { frames := R.frames, locals := R.locals, cells := 1, slots := 6 }) (Nat.le_refl _) (Nat.le_refl _) hRcells hRslots
  obtain ⟨s', hA⟩ : ∃ z, z = (T.setVm s.vm).setFrames (.invoking m args :: below) := ⟨_, rfl⟩
  rw [← hA] at Y
  have hvm : s'.vm = s.vm := by rw [hA]; rfl
  have hhp : s'.heap = H := by rw [hA]; exact hT
  have hW0 : s.WarmedH s'.vm := by rw [hvm]; exact State.WarmedH.refl s
  have hat' : ∀ w ∈ vx_atS own ic cls names, w.before args s' = true := fun w hw => vx_ot_at hW0 hvm.symm (hgood w (List.mem_cons_of_mem _ (List.mem_cons_of_mem _ hw))) (hat w hw)
  have hk' : (Cond.classLink own ik cls).before args s' = true := vx_ot_at hW0 hvm.symm (hgood _ List.mem_cons_self) hk
  have hini' : (Cond.initialized cls).before args s' = true := vx_ot_at hW0 hvm.symm (hgood _ (List.mem_cons_of_mem _ List.mem_cons_self)) hini
  have hU' : vx_Zq Bundle.tN "UNASSIGNED_STACK" Bundle.steD A s' s'.heap := by rw [hhp]; exact vx_Zq.moved hW0.alike (hU.kept hS.2.1)
  have hN' : vx_Zq Bundle.tN "SUPPRESSED_SENTINEL" Bundle.listD A s' s'.heap := by rw [hhp]; exact vx_Zq.moved hW0.alike (hN.kept hS.2.1)
  have h : ∀ w ∈ Bundle.ownAtoms own ic cls names, w.before args s' = true := vx_own hat' (vx_isRefq hU'.1) (vx_isRefq hN'.1) hU'.2.word hN'.2.word
  have hown' : s'.vm.findClass own = some m.cls := by rw [hvm]; exact hown
  have hins : (Cond.instantiable cls 6).before args s' = true := h _ (by simp [Bundle.ownAtoms])
  obtain ⟨vm₁, cX, kX, hfX, hkX, -, -, X₁, st1⟩ := Y.newCold hexec (own := own) (C := cls) (index := ik) (n := 6) hown' hk' hins hini'
    (g := F0 m pc ls rest) rfl (by rw [hb]; exact d0) (Nat.le_refl _) (Nat.le_refl _)
  generalize hT1 : (T.setVm vm₁).pushCell { cls := cX, slots := kX.instanceTypes.map defaultValue, vm := .none } = T1 at X₁ st1
  have hcat : (Value.ref T.heap.size).category = 1 := rfl
  have hcellA : T1.heap[T.heap.size]? = some (freshCell cX kX) := by rw [← hT1]; exact State.heap_pushCell_size _ _
  have d3' : decode c.code (pc + 3) = .ok (.dup, 1) := by rw [hb]; exact d3
  have d4' : decode c.code (pc + 4) = .ok (.ldc is, 2) := by rw [hb]; exact d4
  have hstr' : vk_R own is text sa s' := vk_R.warm hW0 hstr
  obtain ⟨U, hsteps, hrun, hend, hW, hsame, ce, hce, hO⟩ := X₁.ctorThrowS hexec htr (own := own) (cls := cls) (names := names) (ic := ic) hown' hcls hnames h (fun x hx => nomatch hx) hfX hkX hcellA (by rw [hhp, hT]; exact Nat.le_refl _) (msg := .ref sa) rfl
    (g := { method := m, pc := pc + 6, locals := ls, stack := .ref sa :: .ref T.heap.size :: .ref T.heap.size :: rest, locked := none }) rfl hsize rfl rfl (rest := rest) rfl
    (by rw [hb]; exact d6) (by rw [hb]; exact d9) hout hRframes (by simp only [List.map_cons, List.sum_cons, hcat]; omega) hlocks
  obtain ⟨f1, f2⟩ := vx_frame hsame
  rw [hhp] at f1 f2
  have hWs : s.WarmedH U.vm := State.WarmedH.trans hW0 hW
  have hcl : s.vm.findClass cls = some ce.cls := by
    have h9 := hO.cls
    rw [hvm] at h9
    exact h9
  have hall : s.sameButNew ({ U with vm := s.vm } : State) locs mc ms := by
    subst hA
    obtain ⟨e1, e2⟩ := hsame
    rw [State.setFrames_setFrames] at e1
    have h2 : (T.setVm s.vm).sameButNew ({ U with vm := s.vm } : State) [] (0 + 1) (0 + 6) := ⟨e1, e2⟩
    have h3 := X.same.trans h2
    rw [List.append_nil] at h3
    exact h3.mono hc hs
  refine ⟨U, ?_, .threw T.heap.size, hrun, hend, Or.inr ⟨T.heap.size, rfl, cls, ce, locs, hx U hWs.alike f1 (fun q hq => f2 q hq (fun z hz => nomatch hz)), hce, hO.vm, hcl, hWs, hall, hf⟩⟩
  refine st1 _ ?_
  show Steps p.tables e below (T1.setTop { method := m, pc := pc + 3, locals := ls, stack := .ref T.heap.size :: rest, locked := none }) _
  jvm_step X₁.here [X₁.here.top, hexec, d3', Value.category]
  exact X₁.ldcString hexec (own := own) (text := text) (index := is) (a := sa) hown' hstr'.1 hstr'.2
    (g := { method := m, pc := pc + 4, locals := ls, stack := .ref T.heap.size :: .ref T.heap.size :: rest, locked := none }) rfl d4' _ hsteps
/-- 'throw new E("text")', the text by a wide index -/
theorem vx_throwSW {cc : ByteArray} {pc : Nat} (hexec : p.tables.exec = Jvm.exec) (hb : c.code = cc) (hl : l.stackTraces = false) {own cls text : String} {names : List String} {ik is ic mc ms sa : Nat} {A : Nat → Prop}
    (hown : s.vm.findClass own = some m.cls) (hcls : Bundle.fit cls = true) (hnames : ∀ n ∈ names, Bundle.fit n = true)
    (hk : (Cond.classLink own ik cls).before args s = true) (hini : (Cond.initialized cls).before args s = true) (hstr : vk_R own is text sa s) (hat : ∀ w ∈ vx_atS own ic cls names, w.before args s = true)
    (hgood : ∀ w ∈ Cond.classLink own ik cls :: Cond.initialized cls :: vx_atS own ic cls names, vx_ot w = true)
    (hU : vx_Zq Bundle.tN "UNASSIGNED_STACK" Bundle.steD A s s.heap) (hN : vx_Zq Bundle.tN "SUPPRESSED_SENTINEL" Bundle.listD A s s.heap) (hS : va_S A s.heap H locs) (hsize : ls.size = c.maxLocals)
    (d0 : decode cc pc = .ok (.new ik, 3)) (d3 : decode cc (pc + 3) = .ok (.dup, 1)) (d4 : decode cc (pc + 4) = .ok (.ldc_w is, 3)) (d7 : decode cc (pc + 7) = .ok (.invokespecial ic, 3)) (d10 : decode cc (pc + 10) = .ok (.athrow, 1))
    (hout : ∀ x ∈ c.exceptionTable.toList, covers x (pc + 10) = false)
    (hRframes : names.length + 3 < R.frames) (hRlocals : (rest.map fun v => v.category).sum + (13 * (names.length + 1) + 43) ≤ R.locals) (hRcells : cells + 1 ≤ R.cells) (hRslots : slots + 6 ≤ R.slots) (hlocks : meth.locks = false)
    (hx : ∀ t : State, s.vm.Alike t.vm → H.size ≤ t.heap.size → (∀ q : Nat, q < H.size → t.heap[q]? = H[q]?) → XC cls s t)
    (hf : ∀ z ∈ locs, free z.base) (hc : cells + 1 ≤ mc) (hs : slots + 6 ≤ ms) :
    W p l e R s m args below meth c H locs cells slots (vx_MQ below Qc XC args s mc ms free) (F0 m pc ls rest) := by
  intro T hT X
  have htr : e.platform.stackTraces = false := (show e.platform.stackTraces = l.stackTraces by rw [X.admits.platform]).trans hl
  have Y := vx_rebase X (R' := { frames := R.frames, locals := R.locals, cells := 1, slots := 6 }) (Nat.le_refl _) (Nat.le_refl _) hRcells hRslots
  obtain ⟨s', hA⟩ : ∃ z, z = (T.setVm s.vm).setFrames (.invoking m args :: below) := ⟨_, rfl⟩
  rw [← hA] at Y
  have hvm : s'.vm = s.vm := by rw [hA]; rfl
  have hhp : s'.heap = H := by rw [hA]; exact hT
  have hW0 : s.WarmedH s'.vm := by rw [hvm]; exact State.WarmedH.refl s
  have hat' : ∀ w ∈ vx_atS own ic cls names, w.before args s' = true := fun w hw => vx_ot_at hW0 hvm.symm (hgood w (List.mem_cons_of_mem _ (List.mem_cons_of_mem _ hw))) (hat w hw)
  have hk' : (Cond.classLink own ik cls).before args s' = true := vx_ot_at hW0 hvm.symm (hgood _ List.mem_cons_self) hk
  have hini' : (Cond.initialized cls).before args s' = true := vx_ot_at hW0 hvm.symm (hgood _ (List.mem_cons_of_mem _ List.mem_cons_self)) hini
  have hU' : vx_Zq Bundle.tN "UNASSIGNED_STACK" Bundle.steD A s' s'.heap := by rw [hhp]; exact vx_Zq.moved hW0.alike (hU.kept hS.2.1)
  have hN' : vx_Zq Bundle.tN "SUPPRESSED_SENTINEL" Bundle.listD A s' s'.heap := by rw [hhp]; exact vx_Zq.moved hW0.alike (hN.kept hS.2.1)
  have h : ∀ w ∈ Bundle.ownAtoms own ic cls names, w.before args s' = true := vx_own hat' (vx_isRefq hU'.1) (vx_isRefq hN'.1) hU'.2.word hN'.2.word
  have hown' : s'.vm.findClass own = some m.cls := by rw [hvm]; exact hown
  have hins : (Cond.instantiable cls 6).before args s' = true := h _ (by simp [Bundle.ownAtoms])
  obtain ⟨vm₁, cX, kX, hfX, hkX, -, -, X₁, st1⟩ := Y.newCold hexec (own := own) (C := cls) (index := ik) (n := 6) hown' hk' hins hini'
    (g := F0 m pc ls rest) rfl (by rw [hb]; exact d0) (Nat.le_refl _) (Nat.le_refl _)
  generalize hT1 : (T.setVm vm₁).pushCell { cls := cX, slots := kX.instanceTypes.map defaultValue, vm := .none } = T1 at X₁ st1
  have hcat : (Value.ref T.heap.size).category = 1 := rfl
  have hcellA : T1.heap[T.heap.size]? = some (freshCell cX kX) := by rw [← hT1]; exact State.heap_pushCell_size _ _
  have d3' : decode c.code (pc + 3) = .ok (.dup, 1) := by rw [hb]; exact d3
  have d4' : decode c.code (pc + 4) = .ok (.ldc_w is, 3) := by rw [hb]; exact d4
  have hstr' : vk_R own is text sa s' := vk_R.warm hW0 hstr
  obtain ⟨U, hsteps, hrun, hend, hW, hsame, ce, hce, hO⟩ := X₁.ctorThrowS hexec htr (own := own) (cls := cls) (names := names) (ic := ic) hown' hcls hnames h (fun x hx => nomatch hx) hfX hkX hcellA (by rw [hhp, hT]; exact Nat.le_refl _) (msg := .ref sa) rfl
    (g := { method := m, pc := pc + 7, locals := ls, stack := .ref sa :: .ref T.heap.size :: .ref T.heap.size :: rest, locked := none }) rfl hsize rfl rfl (rest := rest) rfl
    (by rw [hb]; exact d7) (by rw [hb]; exact d10) hout hRframes (by simp only [List.map_cons, List.sum_cons, hcat]; omega) hlocks
  obtain ⟨f1, f2⟩ := vx_frame hsame
  rw [hhp] at f1 f2
  have hWs : s.WarmedH U.vm := State.WarmedH.trans hW0 hW
  have hcl : s.vm.findClass cls = some ce.cls := by
    have h9 := hO.cls
    rw [hvm] at h9
    exact h9
  have hall : s.sameButNew ({ U with vm := s.vm } : State) locs mc ms := by
    subst hA
    obtain ⟨e1, e2⟩ := hsame
    rw [State.setFrames_setFrames] at e1
    have h2 : (T.setVm s.vm).sameButNew ({ U with vm := s.vm } : State) [] (0 + 1) (0 + 6) := ⟨e1, e2⟩
    have h3 := X.same.trans h2
    rw [List.append_nil] at h3
    exact h3.mono hc hs
  refine ⟨U, ?_, .threw T.heap.size, hrun, hend, Or.inr ⟨T.heap.size, rfl, cls, ce, locs, hx U hWs.alike f1 (fun q hq => f2 q hq (fun z hz => nomatch hz)), hce, hO.vm, hcl, hWs, hall, hf⟩⟩
  refine st1 _ ?_
  show Steps p.tables e below (T1.setTop { method := m, pc := pc + 3, locals := ls, stack := .ref T.heap.size :: rest, locked := none }) _
  jvm_step X₁.here [X₁.here.top, hexec, d3', Value.category]
  exact X₁.ldcStringW hexec (own := own) (text := text) (index := is) (a := sa) hown' hstr'.1 hstr'.2
    (g := { method := m, pc := pc + 4, locals := ls, stack := .ref T.heap.size :: .ref T.heap.size :: rest, locked := none }) rfl d4' _ hsteps
end Ends
section Bodies
variable {l : Launch}
theorem vx_ofW {y : MethodName} {ws ws' : List Cond} {rm : Room} {Pc : Array Value → State → Prop} {Qc : Array Value → State → Outcome → State → Prop} {XC : String → State → State → Prop} {mc ms : Nat} {free : Addr → Prop} {cc : ByteArray} {maxL : Nat} {ret : Option FieldType}
    (hy : plainName y.cls = true) (hw : ws = Cond.code y cc maxL ret :: ws')
    (body : ∀ p e s m args below meth c s₁, BodyLoose p l y (headSpec ws rm) cc maxL ret e s m args below meth c s₁ → c.maxLocals = maxL → (∀ x ∈ c.exceptionTable.toList, False) → Pc args s →
      W p l e (headSpec ws rm).room s m args below meth c s.heap [] 0 0 (vx_MQ below Qc XC args s mc ms free) (entryFrame m args maxL)) : vx_Met l y ws rm Pc Qc XC mc ms free := by
  refine MetFree.of_bodyS (code := cc) (maxLocals := maxL) (ret := ret) hy ?_ ?_
  · intro args s m h hn
    obtain ⟨meth, c, h1, h2, h3, h4, h5, h6, -, -⟩ := Cond.code_spec hn (atoms_spec (ws := ws) h _ (by rw [hw]; exact List.mem_cons_self))
    exact ⟨meth, c, h1, h2, h3, h4, h5, h6⟩
  · intro p e s m args below meth c s₁ B hml hP _
    have hh0 : s₁.heap = s.heap := by rw [B.state]; rfl
    have ht : ∀ x ∈ c.exceptionTable.toList, False := by
      obtain ⟨meth9, c9, h1, h2, -, -, -, -, h7, -⟩ := Cond.code_spec B.named (atoms_spec (ws := ws) B.pre _ (by rw [hw]; exact List.mem_cons_self))
      cases Option.some.inj (h1.symm.trans B.method)
      cases Option.some.inj (h2.symm.trans (Stand.of_body B).code)
      intro x hx
      rw [Array.isEmpty_iff.mp h7] at hx
      cases hx
    obtain ⟨t, a1, o, b1, b2, b3⟩ := body p e s m args below meth c s₁ B hml ht hP s₁ hh0 (Stand.of_body B)
    exact ⟨t, o, a1, b1, b2, b3⟩
/-- the table of a body with handlers -/
theorem vx_table {p : Program} {x y : MethodName} {S : Spec} {cc bytes : ByteArray} {maxL maxL' : Nat} {ret ret' : Option FieldType} {e : Env} {s s₁ : State} {m : MethodId} {args : Array Value} {below : List Frame} {meth : Method} {c : Code} {hh : List (Nat × Nat × Nat × Nat)}
    (B : BodyLoose p l y S cc maxL ret e s m args below meth c s₁) (h : (Cond.codeWith y bytes maxL' ret' hh).before args s = true) : c.exceptionTable.toList = tableOf hh := by
  obtain ⟨m9, meth9, c9, hn9, h1, h2, -, -, h6, -⟩ := Cond.codeWith_spec h
  cases Option.some.inj (hn9.symm.trans B.named)
  cases Option.some.inj (h1.symm.trans B.method)
  cases Option.some.inj (h2.symm.trans (Stand.of_body B).code)
  rw [← h6, table_eq]
end Bodies
end VXA
/-! ===== END ===== -/
/-! ===== BEGIN a static call of a method with an exception table ===== -/
section VXS
variable {p : Program} {l : Launch} {e : Env} {R : Room} {s : State} {m : MethodId} {args : Array Value} {below : List Frame} {meth : Method} {c : Code} {T : State} {H : Heap} {locs : List Loc} {cells slots : Nat}
abbrev vx_CSW (R : Room) (s : State) (args : Array Value) (own : String) (index : Nat) (y : MethodName) (bytes : ByteArray) (maxL : Nat) (ret : Option FieldType) (hh : List (Nat × Nat × Nat × Nat)) (ws : List Cond) (rm : Room) (mc ms n : Nat) : Prop :=
  (rm.cells = mc ∧ rm.slots = ms ∧ rm.frames + 1 ≤ R.frames ∧ 8 + (maxL + 11) + rm.locals ≤ R.locals ∧ (∀ w ∈ ws, ∀ (a' : Array Value) (U : State), s.WarmedH U.vm → w.before a' U = true) ∧ Cond.codeWith y bytes maxL ret hh ∈ ws) ∧
  (Cond.codeWith y bytes maxL ret hh).before args s = true ∧ (Cond.initialized y.cls).before args s = true ∧ (y.cls ≠ "java/lang/invoke/MethodHandle" ∧ y.cls ≠ "java/lang/invoke/VarHandle") ∧
  (∀ sig, parseMethodDescriptor y.desc = some sig → n = sig.parameters.length) ∧ (Cond.methodLink own index y).before args s = true ∧ (Cond.static y).before args s = true
theorem vx_cwSW {own : String} {index maxL mc ms : Nat} {y : MethodName} {bytes : ByteArray} {ret : Option FieldType} {hh : List (Nat × Nat × Nat × Nat)} {Ts ws ws' : List Cond} {rm : Room} (n : Nat) (ht : ∀ w ∈ Ts, w.before args s = true) (hT : GoodIn Ts (va_wsS own index y ws)) (hw : ws = Cond.codeWith y bytes maxL ret hh :: ws') (hrc : rm.cells = mc) (hrs : rm.slots = ms)
    (hd : y.cls ≠ "java/lang/invoke/MethodHandle" ∧ y.cls ≠ "java/lang/invoke/VarHandle" ∧ (parseMethodDescriptor y.desc).map (fun d => d.parameters.length) = some n) (hR : rm.frames + 1 ≤ R.frames ∧ 8 + (maxL + 11) + rm.locals ≤ R.locals) :
    vx_CSW R s args own index y bytes maxL ret hh ws rm mc ms n := by
  have ok : ∀ w ∈ va_wsS own index y ws, w.before args s = true := fun w h => ht w (hT w h).1
  have hG : GoodIn Ts ws := fun w h => hT w (by unfold va_wsS; exact List.mem_append_right _ h)
  have hc : Cond.codeWith y bytes maxL ret hh ∈ ws := by rw [hw]; exact List.mem_cons_self
  refine ⟨⟨hrc, hrs, hR.1, hR.2, pay_in ht hG, hc⟩, ht _ (hG _ hc).1, ok _ (by simp [va_wsS]), ⟨hd.1, hd.2.1⟩, fun sig h => ?_, ok _ (by simp [va_wsS]), ok _ (by simp [va_wsS])⟩
  have h2 := hd.2.2
  rw [h] at h2
  exact (Option.some.inj h2).symm
theorem vx_callSW (X : Stand p l e R s m args below meth c T locs cells slots) (hexec : p.tables.exec = Jvm.exec) {own : String} {index : Nat} {y : MethodName} {bytes : ByteArray} {maxL : Nat} {ret : Option FieldType} {hh : List (Nat × Nat × Nat × Nat)}
    (hown : s.vm.findClass own = some m.cls) (hlink : (Cond.methodLink own index y).before args s = true) (hstat : (Cond.static y).before args s = true) (hinit : (Cond.initialized y.cls).before args s = true)
    (hcode : (Cond.codeWith y bytes maxL ret hh).before args s = true) (hy : y.cls ≠ "java/lang/invoke/MethodHandle" ∧ y.cls ≠ "java/lang/invoke/VarHandle")
    {W9 : Nat} {Pre : Pt → Array Value → Prop} {Post : Pt → Array Value → Option Value → Pt → Prop} (hK : Back l R p e below s args y 3 W9 Pre Post)
    {g : JFrame} (hg : g.method = m) (hsize : g.locals.size = c.maxLocals) {argsL rest : List Value} (hlen : ∀ sig, parseMethodDescriptor y.desc = some sig → argsL.length = sig.parameters.length)
    (hstack : g.stack = argsL.reverse ++ rest) (hW : 2 * g.monitorRoom + (rest.map fun v => v.category).sum ≤ W9) (hdg : decode c.code g.pc = .ok (.invokestatic index, 3))
    (hpre : ∀ vm₁, s.WarmedH vm₁ → Pre ⟨T.setVm vm₁, locs, cells, slots⟩ argsL.toArray) :
    ∃ (v : Option Value) (vm₁ : Vm) (B : Pt), s.WarmedH vm₁ ∧ Stand p l e R s m args below meth c B.U B.locs B.cells B.slots ∧ Post ⟨T.setVm vm₁, locs, cells, slots⟩ argsL.toArray v B ∧
      ∀ target, Steps p.tables e below (B.U.setTop { g with pc := g.pc + 3, stack := v.toList ++ rest }) target → Steps p.tables e below (T.setTop g) target := by
  obtain ⟨mk, methM, cM, hnamed, hmethM, -, -, -, -, -, -, hsigM⟩ := Cond.codeWith_spec hcode
  have hstatic : methM.isStatic = true := Cond.static_spec hnamed hmethM hstat
  obtain ⟨kP, hkP, -⟩ := className_of_methodNamed hnamed
  have hinitP : kP.init = .initialized := Cond.initialized_spec (findClass_of_methodNamed hnamed) hkP hinit
  obtain ⟨vm₁, X₁, hstep₁⟩ := X.invokestatic hexec hown hlink hnamed hmethM hstatic hkP hinitP hy (g := g) hg (argsL := argsL) (rest := rest) (hlen _ hsigM) hstack hdg
  obtain ⟨v, B, X', hpost, hsteps⟩ := hK m meth c ⟨T.setVm vm₁, locs, cells, slots⟩ { g with stack := rest } (.invokestatic index) mk argsL.toArray X₁ hg hsize hdg hW (X₁.named hnamed) (hpre vm₁ X₁.warmed)
  exact ⟨v, vm₁, B, X₁.warmed, X', hpost, fun target h => hstep₁ _ fun acts => by rw [doInvoke_state]; exact hsteps.trans h⟩
theorem vx_runSW {y : MethodName} {bytes cc : ByteArray} {maxL nL mc ms n index : Nat} {ret : Option FieldType} {hh : List (Nat × Nat × Nat × Nat)} {ws : List Cond} {rm : Room} {Pc : Array Value → State → Prop} {Qc : Array Value → State → Outcome → State → Prop} {free : Addr → Prop} {Ts : List Cond} {own : String} {As rest : List Value} {g : JFrame}
    (S : CallFix p m c cc nL s args Ts own) (hM : Met l y ws rm Pc Qc mc ms free) (cw : vx_CSW R s args own index y bytes maxL ret hh ws rm mc ms n) (hp : PreS s H Pc As)
    (hg : g.method = m) (hn : As.length = n) (hsize : g.locals.size = nL) (hstack : g.stack = As.reverse ++ rest) (hW : 2 * g.monitorRoom + (rest.map fun v => v.category).sum ≤ 8) (hdg : decode cc g.pc = .ok (.invokestatic index, 3)) (hf : cells + mc ≤ R.cells ∧ slots + ms ≤ R.slots) :
    va_Run p l e R s m args below meth c H locs cells slots mc ms g rest (Qc As.toArray) (free) := by
  obtain ⟨⟨hrc, hrs, hfr, hlo, hws, hcw⟩, hcode, hini, hy, hlen, hl, hstt⟩ := cw
  have hK : Back l R p e below s args y 3 8 (PreOf R mc ms Pc) (PostOf Qc mc ms free) := va_backW (hh := hh) (bytes := bytes) (maxL := maxL) (ret := ret) hM hp.1 hrc hrs hfr hlo hws hcw (fun a' U hW => word_at hW (Or.inl (by first | rfl | simp [Cond.onTables, Cond.keeps, Cond.steady])) hini)
  obtain ⟨hx, hb, hml, ho, -⟩ := S
  intro T hT X
  obtain ⟨v, vm₁, ⟨U', l2, c2, s2⟩, hW₁, X', ⟨g', mk, t, L, e1, e2, hq, h1, hL, h2, h3⟩, st⟩ := vx_callSW X hx (hh := hh) (bytes := bytes) (maxL := maxL) (ret := ret) ho hl hstt hini hcode hy hK hg (hsize.trans hml.symm) (argsL := As) (rest := rest) (fun sig h => hn.trans (hlen sig h)) hstack hW (by rw [hb]; exact hdg)
    (fun vm₁ hW₁ => ⟨hf.1, hf.2, hp.2 (T.setVm vm₁) hT hW₁⟩)
  dsimp only [Pt.U, Pt.locs, Pt.cells, Pt.slots] at X' e1 e2 h1 h2 h3 st
  subst h1; subst h2; subst h3
  exact ⟨v, (T.setVm vm₁).calling g' mk As.toArray, t, U', L, hT, X', hL, e1, e2, hq, st⟩
/-- not caught here, past rows that name other classes: it goes on to the caller -/
theorem vx_outP {p : Program} {l : Launch} {e : Env} {R : Room} {s : State} {m : MethodId} {args : Array Value} {below : List Frame} {meth : Method} {c : Code} {H : Heap} {locs : List Loc} {cells slots : Nat} {free : Addr → Prop} {ls : Array Slot} {rest : List Value} {Qc : Array Value → State → Outcome → State → Prop} {XC : String → State → State → Prop}
    {pc : Nat} {own E : String} {ce : Cell} {q : Addr} {mc ms : Nat} (hown : s.vm.findClass own = some m.cls) (hlocks : meth.locks = false)
    (hpass : ∀ z ∈ c.exceptionTable.toList, covers z pc = false ∨ (z.catchType ≠ 0 ∧ ∃ nm : String, (Cond.classLink own z.catchType nm).before args s = true ∧ va_Nc E nm s)) (hcell : H[q]? = some ce) (hv : ce.vm = .none) (hcl : s.vm.findClass E = some ce.cls)
    (hx : ∀ t : State, t.heap = H → s.vm.Alike t.vm → XC E s t) (hf : ∀ z ∈ locs, free z.base) (hc : cells ≤ mc) (hs : slots ≤ ms) :
    vx_W p l e R s m args below meth c H locs cells slots (vx_MQ below Qc XC args s mc ms free) (F0 m pc ls rest) q := by
  intro T hT X
  have hpl : e.platform.magicAccessors = ({} : Platform).magicAccessors := by rw [X.admits.platform]
  obtain ⟨vm', hW', X', st⟩ := X.outThrough hlocks q (g := F0 m pc ls rest) rfl rfl rfl (cell := ce) (by rw [hT]; exact hcell) (by rw [hv]; rfl)
    (by obtain ⟨k9, h9, -⟩ := Vm.findClass_spec hcl; exact ⟨k9, h9⟩) (fun z hz => by
      rcases hpass z hz with h | ⟨hz0, nm, hl1, hn1⟩
      · exact Or.inl h
      · obtain ⟨c6, hc6, hcl6⟩ := Cond.classLink_spec hown hl1 e.platform hpl
        obtain ⟨a8, b8, h1, h2, h3⟩ := hn1
        cases Option.some.inj (h1.symm.trans hcl)
        cases Option.some.inj (h2.symm.trans hc6)
        exact Or.inr ⟨hz0, _, hcl6, h3⟩)
  obtain ⟨g₀, hfr⟩ := X'.frames_eq
  have hcell9 : ((T.setVm vm').setFrames (.throwing q :: below)).heap[q]? = some ce := by
    show T.heap[q]? = some ce
    rw [hT]; exact hcell
  have hend : Ended ((T.setVm vm').setFrames (.throwing q :: below)) below (.threw q) := State.frames_setFrames _ (State.cur_lt_of_frames hfr)
  refine ⟨(T.setVm vm').setFrames (.throwing q :: below), ?_, .threw q, X'.here.running, hend, Or.inr ⟨q, rfl, E, ce, locs, hx _ hT (X'.ends _).1.alike, hcell9, hv, hcl, (X'.ends _).1, (X'.ends _).2.mono hc hs, hf⟩⟩
  rw [X.pushThrowing_eq]
  exact st
/-- a thing of a world lies in the heap -/
theorem vx_lt {D : va_G} {cl : List vw_C} {ws : va_W} {H1 : Heap} (h : va_P D cl ws H1) {k : Nat} {q : Nat × va_E} (hk : ws[k]? = some q) : q.1 < H1.size := (h k q hk).lt
end VXS
/-! ===== END ===== -/
/-! ===== BEGIN methods with a table of their own: called by a name, returning or throwing ===== -/
section VXH
/-! vx_backW, vx_callVX, vx_callSX, vx_callVW, vx_runVW, vx_runVX, vx_runSX, vx_ofWH follow the same proofs as their sisters above (Free/Laws.lean, Shelf42/LK1.lean); vx_outP calls Shelf42/NT130.lean (outThrough). -/
section
variable {l : Launch} {R : Room} {p : Program} {e : Env} {below : List Frame} {s : State} {sargs : Array Value} {y : MethodName} {len W9 : Nat}
theorem vx_backW {ws : List Cond} {rm : Room} {Pc : Array Value → State → Prop} {Qc : Array Value → State → Outcome → State → Prop} {XC : String → State → State → Prop} {mc ms : Nat} {free : Addr → Prop} {bytes : ByteArray} {maxL : Nat} {ret : Option FieldType} {hh : List (Nat × Nat × Nat × Nat)}
    (hM : vx_Met l y ws rm Pc Qc XC mc ms free) (hblind : FrameBlind Pc) (hrc : rm.cells = mc) (hrs : rm.slots = ms)
    (hframes : rm.frames + 1 ≤ R.frames) (hlocals : W9 + (maxL + 11) + rm.locals ≤ R.locals)
    (hws : ∀ w ∈ ws, ∀ a' U, s.WarmedH U.vm → w.before a' U = true) (hcode : Cond.codeWith y bytes maxL ret hh ∈ ws) (hinit : ∀ a' U, s.WarmedH U.vm → (Cond.initialized y.cls).before a' U = true) :
    vx_Back l R p e below s sargs y len W9 (PreOf R mc ms Pc) (PostOf Qc mc ms free) (vx_Post XC mc ms free) := by
  intro m meth c A g ig mk a X hg hsize hdg hW hn hp
  have h1 : (headSpec ws rm).pre.before a A.U = true := atoms_intro fun w hw => hws w hw _ _ X.warmed
  have h2 : (Cond.codeWith y bytes maxL ret hh).before a A.U = true := hws _ hcode _ _ X.warmed
  have h3 : (Cond.initialized y.cls).before a A.U = true := hinit _ _ X.warmed
  have h4 : A.cells + (headSpec ws rm).room.cells ≤ R.cells := by rw [show (headSpec ws rm).room.cells = mc from hrc]; exact hp.1
  have h5 : A.slots + (headSpec ws rm).room.slots ≤ R.slots := by rw [show (headSpec ws rm).room.slots = ms from hrs]; exact hp.2.1
  have hPc : Pc a (A.U.calling g mk a) := hblind _ _ _ _ hp.2.2
  obtain ⟨U, Ls, c0, s0⟩ := A
  dsimp only [Pt.U, Pt.locs, Pt.cells, Pt.slots] at h1 h2 h3 h4 h5 X hn hPc ⊢
  obtain ⟨m9, methY, cY, hn9, hmY, hcY, -, hlY, -⟩ := Cond.codeWith_spec h2
  cases Option.some.inj (hn9.symm.trans hn)
  obtain ⟨kY, hkY, -⟩ := className_of_methodNamed hn
  have hinitY : kY.init = .initialized := Cond.initialized_spec (findClass_of_methodNamed hn) hkY h3
  have h : At U g.method c below := by rw [hg]; exact X.here
  have hlocals9 : W9 + (maxL + 11) + (headSpec ws rm).room.locals ≤ R.locals := hlocals
  have happ : (headSpec ws rm).appliesLoose y e.platform (U.calling g mk a) = true :=
    Spec.appliesLoose_calling (g := g) h hdg hn hkY hinitY
      (X.room_calling (g := g) (R' := (headSpec ws rm).room) hsize hmY hcY hframes (by rw [hlY]; omega) h4 h5) h1
  obtain ⟨mid, hmid⟩ := h.above
  have hfr : (U.setTop g).frames = (.java g :: mid) ++ below := by rw [State.frames_setTop' g h.top, hmid]; rfl
  obtain ⟨o, s₂, hsteps, -, hend, hq⟩ := Steps.callFree hM p X.admits X.cas X.clock (acts := []) hfr happ hPc trivial
  have hq' : vx_Q Qc XC mc ms free a (U.calling g mk a) o s₂ := hq
  rw [State.frames_setTop' g h.top] at hend
  obtain ⟨g₀, hg0⟩ := Option.isSome_iff_exists.mp h.top
  obtain ⟨r, hr⟩ := State.topJava?_eq_some.mp hg0
  have hr' : (({ U with heap := s₂.heap, slotsUsed := s₂.slotsUsed } : State).setVm s₂.vm).frames = .java g₀ :: r := hr
  rcases hq' with ⟨hqc, L, hfe, hL⟩ | ⟨q, rfl, E, ce, L, hx, hce, hcv, hcl, hW₂, hsm, hL⟩
  · obtain ⟨⟨v, rfl⟩, hW₂, e2, q2, q3, q4, q5, q6⟩ := id hfe
    have e3 : s₂ = ({ (U.calling g mk a).setFrames s₂.frames with heap := s₂.heap, slotsUsed := s₂.slotsUsed } : State).setVm s₂.vm := by
      have : s₂ = ({ s₂ with vm := (U.calling g mk a).vm } : State).setVm s₂.vm := rfl
      rw [e2] at this
      exact this
    obtain ⟨c₂, i₂, len₂, hc₂, hd₂, hf₂⟩ := hend
    have hW' : U.WarmedH s₂.vm := hW₂
    have hcc : c₂ = c := by
      have h1 : s₂.code? g.method = U.code? g.method := by
        rw [State.code?_eq, State.code?_eq, hW'.alike.method?]
      exact Option.some.inj (hc₂.symm.trans (h1.trans h.code))
    subst hcc
    have hlen : len₂ = len := by rw [hdg] at hd₂; cases hd₂; rfl
    subst hlen
    have hs₂ : s₂ = (({ U with heap := s₂.heap, slotsUsed := s₂.slotsUsed } : State).setVm s₂.vm).setTop { g with pc := g.pc + len₂, stack := v.toList ++ g.stack } := by
      refine e3.trans ?_
      rw [hf₂, State.calling_eq h.top, State.setFrames_setFrames, State.setTop_of_frames _ hr', hr]
      rfl
    have hsame : U.sameButNew ({ U with heap := s₂.heap, slotsUsed := s₂.slotsUsed } : State) L mc ms := by
      refine ⟨?_, q2, q3, q4, q5, q6⟩
      obtain ⟨t, ht, -⟩ := State.frames_cons hr
      show ({ U with heap := s₂.heap, slotsUsed := s₂.slotsUsed } : State) = { U.setFrames U.frames with heap := s₂.heap, slotsUsed := s₂.slotsUsed }
      rw [State.setFrames_self ht]
    subst hg
    refine Or.inl ⟨v, ⟨(({ U with heap := s₂.heap, slotsUsed := s₂.slotsUsed } : State).setVm s₂.vm), Ls ++ L, c0 + mc, s0 + ms⟩,
      ⟨X.admits, X.cas, X.clock, X.frames, X.room, X.hears, X.method, X.code, (X.here.setHeapUsed s₂.heap s₂.slotsUsed).setVm hW'.alike, X.tail, State.WarmedH.trans X.warmed hW', X.limits, X.bytes, X.same.trans (hsame.setVm s.vm)⟩,
      ⟨g, mk, s₂, L, rfl, rfl, hqc, rfl, hL, rfl, rfl⟩, ?_⟩
    show Steps p.tables e below _ ((({ U with heap := s₂.heap, slotsUsed := s₂.slotsUsed } : State).setVm s₂.vm).setTop { g with pc := g.pc + len₂, stack := v.toList ++ g.stack })
    rw [← hs₂]
    exact hsteps
  · obtain ⟨e2, q2, q3, q4, q5, q6⟩ := id hsm
    have e3 : s₂ = ({ (U.calling g mk a).setFrames s₂.frames with heap := s₂.heap, slotsUsed := s₂.slotsUsed } : State).setVm s₂.vm := by
      have : s₂ = ({ s₂ with vm := (U.calling g mk a).vm } : State).setVm s₂.vm := rfl
      rw [e2] at this
      exact this
    have hf₂ : s₂.frames = .throwing q :: .java g :: U.frames.tail := hend
    have hW' : U.WarmedH s₂.vm := hW₂
    have hs₂ : s₂ = ((({ U with heap := s₂.heap, slotsUsed := s₂.slotsUsed } : State).setVm s₂.vm).setTop g).pushFrame (.throwing q) := by
      refine e3.trans ?_
      rw [hf₂, State.calling_eq h.top, State.setFrames_setFrames, State.pushFrame, State.frames_setTop _ hr', State.setTop_of_frames _ hr', State.setFrames_setFrames, hr]
      rfl
    have hsame : U.sameButNew ({ U with heap := s₂.heap, slotsUsed := s₂.slotsUsed } : State) L mc ms := by
      refine ⟨?_, q2, q3, q4, q5, q6⟩
      obtain ⟨t, ht, -⟩ := State.frames_cons hr
      show ({ U with heap := s₂.heap, slotsUsed := s₂.slotsUsed } : State) = { U.setFrames U.frames with heap := s₂.heap, slotsUsed := s₂.slotsUsed }
      rw [State.setFrames_self ht]
    subst hg
    refine Or.inr ⟨q, ⟨(({ U with heap := s₂.heap, slotsUsed := s₂.slotsUsed } : State).setVm s₂.vm), Ls ++ L, c0 + mc, s0 + ms⟩,
      ⟨X.admits, X.cas, X.clock, X.frames, X.room, X.hears, X.method, X.code, (X.here.setHeapUsed s₂.heap s₂.slotsUsed).setVm hW'.alike, X.tail, State.WarmedH.trans X.warmed hW', X.limits, X.bytes, X.same.trans (hsame.setVm s.vm)⟩,
      ⟨g, mk, s₂, L, E, ce, rfl, rfl, hx, hce, hcv, hcl, rfl, hL, rfl, rfl⟩, ?_⟩
    show Steps p.tables e below _ (((({ U with heap := s₂.heap, slotsUsed := s₂.slotsUsed } : State).setVm s₂.vm).setTop g).pushFrame (.throwing q))
    rw [← hs₂]
    exact hsteps
end
variable {p : Program} {l : Launch} {e : Env} {R : Room} {s : State} {m : MethodId} {args : Array Value} {below : List Frame} {meth : Method} {c : Code} {T : State} {H : Heap} {locs : List Loc} {cells slots : Nat}
theorem vx_callVX (X : Stand p l e R s m args below meth c T locs cells slots) (hexec : p.tables.exec = Jvm.exec) {own C : String} {index : Nat} {y : MethodName} {bytes : ByteArray} {maxL : Nat} {ret : Option FieldType} {hh : List (Nat × Nat × Nat × Nat)}
    (hown : s.vm.findClass own = some m.cls) (hlink : (Cond.methodLink own index y).before args s = true) (hinst : (Cond.instanceMethod y).before args s = true) (hsel : (Cond.selects C y y).before args s = true)
    (hcode : (Cond.codeWith y bytes maxL ret hh).before args s = true) (hy : y.cls ≠ "java/lang/invoke/MethodHandle" ∧ y.cls ≠ "java/lang/invoke/VarHandle")
    {W9 : Nat} {Pre : Pt → Array Value → Prop} {Post : Pt → Array Value → Option Value → Pt → Prop} {PostX : Pt → Array Value → Addr → Pt → Prop} (hK : vx_Back l R p e below s args y 3 W9 Pre Post PostX)
    {b : Addr} {cellB : Cell} (hcell : T.heap[b]? = some cellB) (hobj : cellB.vm.isStatics = false) (hcls : s.vm.findClass C = some cellB.cls)
    {g : JFrame} (hg : g.method = m) (hsize : g.locals.size = c.maxLocals) {argsL rest : List Value} (hlen : ∀ sig, parseMethodDescriptor y.desc = some sig → argsL.length = sig.parameters.length)
    (hstack : g.stack = argsL.reverse ++ .ref b :: rest) (hW : 2 * g.monitorRoom + (rest.map fun v => v.category).sum ≤ W9) (hdg : decode c.code g.pc = .ok (.invokevirtual index, 3))
    (hpre : ∀ vm₁, s.WarmedH vm₁ → Pre ⟨T.setVm vm₁, locs, cells, slots⟩ (Value.ref b :: argsL).toArray) :
    (∃ (v : Option Value) (vm₁ : Vm) (B : Pt), s.WarmedH vm₁ ∧ Stand p l e R s m args below meth c B.U B.locs B.cells B.slots ∧ Post ⟨T.setVm vm₁, locs, cells, slots⟩ (Value.ref b :: argsL).toArray v B ∧
      ∀ target, Steps p.tables e below (B.U.setTop { g with pc := g.pc + 3, stack := v.toList ++ rest }) target → Steps p.tables e below (T.setTop g) target) ∨
    (∃ (q : Addr) (vm₁ : Vm) (B : Pt), s.WarmedH vm₁ ∧ Stand p l e R s m args below meth c B.U B.locs B.cells B.slots ∧ PostX ⟨T.setVm vm₁, locs, cells, slots⟩ (Value.ref b :: argsL).toArray q B ∧
      Steps p.tables e below (T.setTop g) ((B.U.setTop { g with stack := rest }).pushFrame (.throwing q))) := by
  obtain ⟨mk, methM, hnamed, hmethM, hstM, habM⟩ := Cond.instanceMethod_spec hinst
  obtain ⟨m8, methM', cM, hn8, hmethM', -, -, -, -, -, -, hsigM⟩ := Cond.codeWith_spec hcode
  cases Option.some.inj (hn8.symm.trans hnamed)
  cases hmethM.symm.trans hmethM'
  obtain ⟨c2, r2, m2, q1, q2, q3, q4, kP, hkP, hkPi⟩ := Cond.selects_spec hsel
  cases hcls.symm.trans q1
  cases (State.methodFound?_of_named hnamed hy).symm.trans q2
  cases hnamed.symm.trans q3
  have hselP : selectMethod e.platform s.vm cellB.cls mk = .method mk := by rw [Launch.admits_selectMethod X.admits]; exact q4
  obtain ⟨vm₁, X₁, hstep₁⟩ := X.invokevirtual hexec hown hlink hnamed hmethM hstM hkP hkPi hy (a := b) (cell := cellB) hcell
    (fun z h => by rw [h] at hobj; cases hobj) hselP hmethM habM hkP hkPi (g := g) hg (argsL := argsL) (rest := rest) (hlen _ hsigM) hstack hdg
  rcases hK m meth c ⟨T.setVm vm₁, locs, cells, slots⟩ { g with stack := rest } (.invokevirtual index) mk (Value.ref b :: argsL).toArray X₁ hg hsize hdg hW (X₁.named hnamed) (hpre vm₁ X₁.warmed) with ⟨v, B, X', hpost, hsteps⟩ | ⟨q, B, X', hpost, hsteps⟩
  · exact Or.inl ⟨v, vm₁, B, X₁.warmed, X', hpost, fun target h => hstep₁ _ fun acts => by rw [doInvoke_state]; exact hsteps.trans h⟩
  · exact Or.inr ⟨q, vm₁, B, X₁.warmed, X', hpost, hstep₁ _ fun acts => by rw [doInvoke_state]; exact hsteps⟩
theorem vx_callSX (X : Stand p l e R s m args below meth c T locs cells slots) (hexec : p.tables.exec = Jvm.exec) {own : String} {index : Nat} {y : MethodName} {bytes : ByteArray} {maxL : Nat} {ret : Option FieldType} {hh : List (Nat × Nat × Nat × Nat)}
    (hown : s.vm.findClass own = some m.cls) (hlink : (Cond.methodLink own index y).before args s = true) (hstat : (Cond.static y).before args s = true) (hinit : (Cond.initialized y.cls).before args s = true)
    (hcode : (Cond.codeWith y bytes maxL ret hh).before args s = true) (hy : y.cls ≠ "java/lang/invoke/MethodHandle" ∧ y.cls ≠ "java/lang/invoke/VarHandle")
    {W9 : Nat} {Pre : Pt → Array Value → Prop} {Post : Pt → Array Value → Option Value → Pt → Prop} {PostX : Pt → Array Value → Addr → Pt → Prop} (hK : vx_Back l R p e below s args y 3 W9 Pre Post PostX)
    {g : JFrame} (hg : g.method = m) (hsize : g.locals.size = c.maxLocals) {argsL rest : List Value} (hlen : ∀ sig, parseMethodDescriptor y.desc = some sig → argsL.length = sig.parameters.length)
    (hstack : g.stack = argsL.reverse ++ rest) (hW : 2 * g.monitorRoom + (rest.map fun v => v.category).sum ≤ W9) (hdg : decode c.code g.pc = .ok (.invokestatic index, 3))
    (hpre : ∀ vm₁, s.WarmedH vm₁ → Pre ⟨T.setVm vm₁, locs, cells, slots⟩ argsL.toArray) :
    (∃ (v : Option Value) (vm₁ : Vm) (B : Pt), s.WarmedH vm₁ ∧ Stand p l e R s m args below meth c B.U B.locs B.cells B.slots ∧ Post ⟨T.setVm vm₁, locs, cells, slots⟩ argsL.toArray v B ∧
      ∀ target, Steps p.tables e below (B.U.setTop { g with pc := g.pc + 3, stack := v.toList ++ rest }) target → Steps p.tables e below (T.setTop g) target) ∨
    (∃ (q : Addr) (vm₁ : Vm) (B : Pt), s.WarmedH vm₁ ∧ Stand p l e R s m args below meth c B.U B.locs B.cells B.slots ∧ PostX ⟨T.setVm vm₁, locs, cells, slots⟩ argsL.toArray q B ∧
      Steps p.tables e below (T.setTop g) ((B.U.setTop { g with stack := rest }).pushFrame (.throwing q))) := by
  obtain ⟨mk, methM, cM, hnamed, hmethM, -, -, -, -, -, -, hsigM⟩ := Cond.codeWith_spec hcode
  have hstatic : methM.isStatic = true := Cond.static_spec hnamed hmethM hstat
  obtain ⟨kP, hkP, -⟩ := className_of_methodNamed hnamed
  have hinitP : kP.init = .initialized := Cond.initialized_spec (findClass_of_methodNamed hnamed) hkP hinit
  obtain ⟨vm₁, X₁, hstep₁⟩ := X.invokestatic hexec hown hlink hnamed hmethM hstatic hkP hinitP hy (g := g) hg (argsL := argsL) (rest := rest) (hlen _ hsigM) hstack hdg
  rcases hK m meth c ⟨T.setVm vm₁, locs, cells, slots⟩ { g with stack := rest } (.invokestatic index) mk argsL.toArray X₁ hg hsize hdg hW (X₁.named hnamed) (hpre vm₁ X₁.warmed) with ⟨v, B, X', hpost, hsteps⟩ | ⟨q, B, X', hpost, hsteps⟩
  · exact Or.inl ⟨v, vm₁, B, X₁.warmed, X', hpost, fun target h => hstep₁ _ fun acts => by rw [doInvoke_state]; exact hsteps.trans h⟩
  · exact Or.inr ⟨q, vm₁, B, X₁.warmed, X', hpost, hstep₁ _ fun acts => by rw [doInvoke_state]; exact hsteps⟩
theorem vx_callVW (X : Stand p l e R s m args below meth c T locs cells slots) (hexec : p.tables.exec = Jvm.exec) {own C : String} {index : Nat} {y : MethodName} {bytes : ByteArray} {maxL : Nat} {ret : Option FieldType} {hh : List (Nat × Nat × Nat × Nat)}
    (hown : s.vm.findClass own = some m.cls) (hlink : (Cond.methodLink own index y).before args s = true) (hinst : (Cond.instanceMethod y).before args s = true) (hsel : (Cond.selects C y y).before args s = true)
    (hcode : (Cond.codeWith y bytes maxL ret hh).before args s = true) (hy : y.cls ≠ "java/lang/invoke/MethodHandle" ∧ y.cls ≠ "java/lang/invoke/VarHandle")
    {W9 : Nat} {Pre : Pt → Array Value → Prop} {Post : Pt → Array Value → Option Value → Pt → Prop} (hK : Back l R p e below s args y 3 W9 Pre Post)
    {b : Addr} {cellB : Cell} (hcell : T.heap[b]? = some cellB) (hobj : cellB.vm.isStatics = false) (hcls : s.vm.findClass C = some cellB.cls)
    {g : JFrame} (hg : g.method = m) (hsize : g.locals.size = c.maxLocals) {argsL rest : List Value} (hlen : ∀ sig, parseMethodDescriptor y.desc = some sig → argsL.length = sig.parameters.length)
    (hstack : g.stack = argsL.reverse ++ .ref b :: rest) (hW : 2 * g.monitorRoom + (rest.map fun v => v.category).sum ≤ W9) (hdg : decode c.code g.pc = .ok (.invokevirtual index, 3))
    (hpre : ∀ vm₁, s.WarmedH vm₁ → Pre ⟨T.setVm vm₁, locs, cells, slots⟩ (Value.ref b :: argsL).toArray) :
    ∃ (v : Option Value) (vm₁ : Vm) (B : Pt), s.WarmedH vm₁ ∧ Stand p l e R s m args below meth c B.U B.locs B.cells B.slots ∧ Post ⟨T.setVm vm₁, locs, cells, slots⟩ (Value.ref b :: argsL).toArray v B ∧
      ∀ target, Steps p.tables e below (B.U.setTop { g with pc := g.pc + 3, stack := v.toList ++ rest }) target → Steps p.tables e below (T.setTop g) target := by
  obtain ⟨mk, methM, hnamed, hmethM, hstM, habM⟩ := Cond.instanceMethod_spec hinst
  obtain ⟨m8, methM', cM, hn8, hmethM', -, -, -, -, -, -, hsigM⟩ := Cond.codeWith_spec hcode
  cases Option.some.inj (hn8.symm.trans hnamed)
  cases hmethM.symm.trans hmethM'
  obtain ⟨c2, r2, m2, q1, q2, q3, q4, kP, hkP, hkPi⟩ := Cond.selects_spec hsel
  cases hcls.symm.trans q1
  cases (State.methodFound?_of_named hnamed hy).symm.trans q2
  cases hnamed.symm.trans q3
  have hselP : selectMethod e.platform s.vm cellB.cls mk = .method mk := by rw [Launch.admits_selectMethod X.admits]; exact q4
  obtain ⟨vm₁, X₁, hstep₁⟩ := X.invokevirtual hexec hown hlink hnamed hmethM hstM hkP hkPi hy (a := b) (cell := cellB) hcell
    (fun z h => by rw [h] at hobj; cases hobj) hselP hmethM habM hkP hkPi (g := g) hg (argsL := argsL) (rest := rest) (hlen _ hsigM) hstack hdg
  obtain ⟨v, B, X', hpost, hsteps⟩ := hK m meth c ⟨T.setVm vm₁, locs, cells, slots⟩ { g with stack := rest } (.invokevirtual index) mk (Value.ref b :: argsL).toArray X₁ hg hsize hdg hW (X₁.named hnamed) (hpre vm₁ X₁.warmed)
  exact ⟨v, vm₁, B, X₁.warmed, X', hpost, fun target h => hstep₁ _ fun acts => by rw [doInvoke_state]; exact hsteps.trans h⟩
abbrev vx_CVW (R : Room) (s : State) (args : Array Value) (own C : String) (index : Nat) (y : MethodName) (bytes : ByteArray) (maxL : Nat) (ret : Option FieldType) (hh : List (Nat × Nat × Nat × Nat)) (ws : List Cond) (rm : Room) (mc ms n : Nat) : Prop :=
  (rm.cells = mc ∧ rm.slots = ms ∧ rm.frames + 1 ≤ R.frames ∧ 8 + (maxL + 11) + rm.locals ≤ R.locals ∧ (∀ w ∈ ws, ∀ (a' : Array Value) (U : State), s.WarmedH U.vm → w.before a' U = true) ∧ Cond.codeWith y bytes maxL ret hh ∈ ws) ∧
  (Cond.codeWith y bytes maxL ret hh).before args s = true ∧ (Cond.initialized y.cls).before args s = true ∧ (y.cls ≠ "java/lang/invoke/MethodHandle" ∧ y.cls ≠ "java/lang/invoke/VarHandle") ∧
  (∀ sig, parseMethodDescriptor y.desc = some sig → n = sig.parameters.length) ∧ (Cond.methodLink own index y).before args s = true ∧ (Cond.instanceMethod y).before args s = true ∧ (Cond.selects C y y).before args s = true
theorem vx_cwVW {own C : String} {index maxL mc ms : Nat} {y : MethodName} {bytes : ByteArray} {ret : Option FieldType} {hh : List (Nat × Nat × Nat × Nat)} {Ts ws ws' : List Cond} {rm : Room} (n : Nat) (ht : ∀ w ∈ Ts, w.before args s = true) (hT : GoodIn Ts (wsV own index C y ws)) (hw : ws = Cond.codeWith y bytes maxL ret hh :: ws') (hrc : rm.cells = mc) (hrs : rm.slots = ms)
    (hd : y.cls = C ∧ y.cls ≠ "java/lang/invoke/MethodHandle" ∧ y.cls ≠ "java/lang/invoke/VarHandle" ∧ (parseMethodDescriptor y.desc).map (fun d => d.parameters.length) = some n) (hR : rm.frames + 1 ≤ R.frames ∧ 8 + (maxL + 11) + rm.locals ≤ R.locals) :
    vx_CVW R s args own C index y bytes maxL ret hh ws rm mc ms n := by
  obtain ⟨hC, hd⟩ := hd
  subst hC
  have ok : ∀ w ∈ wsV own index y.cls y ws, w.before args s = true := fun w h => ht w (hT w h).1
  have hG : GoodIn Ts ws := fun w h => hT w (by unfold wsV; exact List.mem_append_right _ h)
  have hc : Cond.codeWith y bytes maxL ret hh ∈ ws := by rw [hw]; exact List.mem_cons_self
  refine ⟨⟨hrc, hrs, hR.1, hR.2, pay_in ht hG, hc⟩, ht _ (hG _ hc).1, ok _ (by simp [wsV]), ⟨hd.1, hd.2.1⟩, fun sig h => ?_, ok _ (by simp [wsV]), ok _ (by simp [wsV]), ok _ (by simp [wsV])⟩
  have h2 := hd.2.2
  rw [h] at h2
  exact (Option.some.inj h2).symm
theorem vx_runVW {y : MethodName} {bytes cc : ByteArray} {maxL nL mc ms n index : Nat} {ret : Option FieldType} {hh : List (Nat × Nat × Nat × Nat)} {ws : List Cond} {rm : Room} {Pc : Array Value → State → Prop} {Qc : Array Value → State → Outcome → State → Prop} {free : Addr → Prop} {Ts : List Cond} {own C : String} {b : Addr} {As rest : List Value} {g : JFrame}
    (S : CallFix p m c cc nL s args Ts own) (hM : Met l y ws rm Pc Qc mc ms free) (cw : vx_CVW R s args own C index y bytes maxL ret hh ws rm mc ms n) (hp : PreV s H C b Pc As)
    (hg : g.method = m) (hn : As.length = n) (hsize : g.locals.size = nL) (hstack : g.stack = As.reverse ++ .ref b :: rest) (hW : 2 * g.monitorRoom + (rest.map fun v => v.category).sum ≤ 8) (hdg : decode cc g.pc = .ok (.invokevirtual index, 3)) (hf : cells + mc ≤ R.cells ∧ slots + ms ≤ R.slots) :
    va_Run p l e R s m args below meth c H locs cells slots mc ms g rest (Qc (Value.ref b :: As).toArray) free := by
  obtain ⟨⟨hrc, hrs, hfr, hlo, hws, hcw⟩, hcode, hini, hy, hlen, hl, hin, hse⟩ := cw
  have hK : Back l R p e below s args y 3 8 (PreOf R mc ms Pc) (PostOf Qc mc ms free) := va_backW (hh := hh) (bytes := bytes) (maxL := maxL) (ret := ret) hM hp.1 hrc hrs hfr hlo hws hcw (fun a' U hW => word_at hW (Or.inl (by first | rfl | simp [Cond.onTables, Cond.keeps, Cond.steady])) hini)
  obtain ⟨hx, hb, hml, ho, -⟩ := S
  obtain ⟨-, ⟨cellB, hcB, hoB, hclB⟩, hPc⟩ := hp
  intro T hT X
  obtain ⟨v, vm₁, ⟨U', l2, c2, s2⟩, hW₁, X', ⟨g', mk, t, L, e1, e2, hq, h1, hL, h2, h3⟩, st⟩ := vx_callVW X hx (C := C) (hh := hh) (bytes := bytes) (maxL := maxL) (ret := ret) ho hl hin hse hcode hy hK (by rw [hT]; exact hcB) hoB hclB hg (hsize.trans hml.symm) (argsL := As) (rest := rest) (fun sig h => hn.trans (hlen sig h)) hstack hW (by rw [hb]; exact hdg)
    (fun vm₁ hW₁ => ⟨hf.1, hf.2, hPc (T.setVm vm₁) hT hW₁⟩)
  dsimp only [Pt.U, Pt.locs, Pt.cells, Pt.slots] at X' e1 e2 h1 h2 h3 st
  subst h1; subst h2; subst h3
  exact ⟨v, (T.setVm vm₁).calling g' mk (Value.ref b :: As).toArray, t, U', L, hT, X', hL, e1, e2, hq, st⟩
section
variable {y : MethodName} {bytes cc : ByteArray} {maxL nL mc ms n index : Nat} {ret : Option FieldType} {ws : List Cond} {rm : Room} {Pc : Array Value → State → Prop} {Qc : Array Value → State → Outcome → State → Prop} {XC : String → State → State → Prop} {free : Addr → Prop} {Ts : List Cond} {own C : String} {b : Addr} {As rest : List Value} {g : JFrame}
theorem vx_runVX {hh : List (Nat × Nat × Nat × Nat)} (S : CallFix p m c cc nL s args Ts own) (hM : vx_Met l y ws rm Pc Qc XC mc ms free) (cw : vx_CVW R s args own C index y bytes maxL ret hh ws rm mc ms n) (hp : PreV s H C b Pc As)
    (hg : g.method = m) (hn : As.length = n) (hsize : g.locals.size = nL) (hstack : g.stack = As.reverse ++ .ref b :: rest) (hW : 2 * g.monitorRoom + (rest.map fun v => v.category).sum ≤ 8) (hdg : decode cc g.pc = .ok (.invokevirtual index, 3)) (hf : cells + mc ≤ R.cells ∧ slots + ms ≤ R.slots) :
    vx_Run p l e R s m args below meth c H locs cells slots mc ms g rest (Qc (Value.ref b :: As).toArray) XC free := by
  obtain ⟨⟨hrc, hrs, hfr, hlo, hws, hcw⟩, hcode, hini, hy, hlen, hl, hin, hse⟩ := cw
  have hK : vx_Back l R p e below s args y 3 8 (PreOf R mc ms Pc) (PostOf Qc mc ms free) (vx_Post XC mc ms free) := vx_backW (hh := hh) (bytes := bytes) (maxL := maxL) (ret := ret) hM hp.1 hrc hrs hfr hlo hws hcw (fun a' U hW => word_at hW (Or.inl (by first | rfl | simp [Cond.onTables, Cond.keeps, Cond.steady])) hini)
  obtain ⟨hx, hb, hml, ho, -⟩ := S
  obtain ⟨-, ⟨cellB, hcB, hoB, hclB⟩, hPc⟩ := hp
  intro T hT X
  rcases vx_callVX X hx (C := C) (hh := hh) (bytes := bytes) (maxL := maxL) (ret := ret) ho hl hin hse hcode hy hK (by rw [hT]; exact hcB) hoB hclB hg (hsize.trans hml.symm) (argsL := As) (rest := rest) (fun sig h => hn.trans (hlen sig h)) hstack hW (by rw [hb]; exact hdg)
    (fun vm₁ hW₁ => ⟨hf.1, hf.2, hPc (T.setVm vm₁) hT hW₁⟩) with ⟨v, vm₁, ⟨U', l2, c2, s2⟩, hW₁, X', ⟨g', mk, t, L, e1, e2, hq, h1, hL, h2, h3⟩, st⟩ | ⟨q, vm₁, ⟨U', l2, c2, s2⟩, hW₁, X', ⟨g', mk, t, L, E, ce, e1, e2, hq, hce, hcv, hcl, h1, hL, h2, h3⟩, st⟩
  · dsimp only [Pt.U, Pt.locs, Pt.cells, Pt.slots] at X' e1 e2 h1 h2 h3 st
    subst h1; subst h2; subst h3
    exact Or.inl ⟨v, (T.setVm vm₁).calling g' mk (Value.ref b :: As).toArray, t, U', L, hT, X', hL, e1, e2, hq, st⟩
  · dsimp only [Pt.U, Pt.locs, Pt.cells, Pt.slots] at X' e1 e2 h1 h2 h3 st hcl
    subst h1; subst h2; subst h3
    exact Or.inr ⟨q, (T.setVm vm₁).calling g' mk (Value.ref b :: As).toArray, t, U', L, E, ce, hT, X', hL, e1, e2, hq, hce, hcv, vx_cls hW₁ hcl, st⟩
theorem vx_runSX {hh : List (Nat × Nat × Nat × Nat)} (S : CallFix p m c cc nL s args Ts own) (hM : vx_Met l y ws rm Pc Qc XC mc ms free) (cw : vx_CSW R s args own index y bytes maxL ret hh ws rm mc ms n) (hp : PreS s H Pc As)
    (hg : g.method = m) (hn : As.length = n) (hsize : g.locals.size = nL) (hstack : g.stack = As.reverse ++ rest) (hW : 2 * g.monitorRoom + (rest.map fun v => v.category).sum ≤ 8) (hdg : decode cc g.pc = .ok (.invokestatic index, 3)) (hf : cells + mc ≤ R.cells ∧ slots + ms ≤ R.slots) :
    vx_Run p l e R s m args below meth c H locs cells slots mc ms g rest (Qc As.toArray) XC free := by
  obtain ⟨⟨hrc, hrs, hfr, hlo, hws, hcw⟩, hcode, hini, hy, hlen, hl, hstt⟩ := cw
  have hK : vx_Back l R p e below s args y 3 8 (PreOf R mc ms Pc) (PostOf Qc mc ms free) (vx_Post XC mc ms free) := vx_backW (hh := hh) (bytes := bytes) (maxL := maxL) (ret := ret) hM hp.1 hrc hrs hfr hlo hws hcw (fun a' U hW => word_at hW (Or.inl (by first | rfl | simp [Cond.onTables, Cond.keeps, Cond.steady])) hini)
  obtain ⟨hx, hb, hml, ho, -⟩ := S
  intro T hT X
  rcases vx_callSX X hx (hh := hh) (bytes := bytes) (maxL := maxL) (ret := ret) ho hl hstt hini hcode hy hK hg (hsize.trans hml.symm) (argsL := As) (rest := rest) (fun sig h => hn.trans (hlen sig h)) hstack hW (by rw [hb]; exact hdg)
    (fun vm₁ hW₁ => ⟨hf.1, hf.2, hp.2 (T.setVm vm₁) hT hW₁⟩) with ⟨v, vm₁, ⟨U', l2, c2, s2⟩, hW₁, X', ⟨g', mk, t, L, e1, e2, hq, h1, hL, h2, h3⟩, st⟩ | ⟨q, vm₁, ⟨U', l2, c2, s2⟩, hW₁, X', ⟨g', mk, t, L, E, ce, e1, e2, hq, hce, hcv, hcl, h1, hL, h2, h3⟩, st⟩
  · dsimp only [Pt.U, Pt.locs, Pt.cells, Pt.slots] at X' e1 e2 h1 h2 h3 st
    subst h1; subst h2; subst h3
    exact Or.inl ⟨v, (T.setVm vm₁).calling g' mk As.toArray, t, U', L, hT, X', hL, e1, e2, hq, st⟩
  · dsimp only [Pt.U, Pt.locs, Pt.cells, Pt.slots] at X' e1 e2 h1 h2 h3 st hcl
    subst h1; subst h2; subst h3
    exact Or.inr ⟨q, (T.setVm vm₁).calling g' mk As.toArray, t, U', L, E, ce, hT, X', hL, e1, e2, hq, hce, hcv, vx_cls hW₁ hcl, st⟩
end
end VXH
theorem vx_ofWH {l : Launch} {y : MethodName} {ws ws' : List Cond} {rm : Room} {Pc : Array Value → State → Prop} {Qc : Array Value → State → Outcome → State → Prop} {XC : String → State → State → Prop} {mc ms : Nat} {free : Addr → Prop} {cc : ByteArray} {maxL : Nat} {ret : Option FieldType} {hh : List (Nat × Nat × Nat × Nat)}
    (hy : plainName y.cls = true) (hw : ws = Cond.codeWith y cc maxL ret hh :: ws')
    (body : ∀ p e s m args below meth c s₁, BodyLoose p l y (headSpec ws rm) cc maxL ret e s m args below meth c s₁ → c.maxLocals = maxL → Pc args s →
      W p l e (headSpec ws rm).room s m args below meth c s.heap [] 0 0 (vx_MQ below Qc XC args s mc ms free) (entryFrame m args maxL)) : vx_Met l y ws rm Pc Qc XC mc ms free := by
  refine MetFree.of_bodyS (code := cc) (maxLocals := maxL) (ret := ret) hy ?_ ?_
  · intro args s m h hn
    obtain ⟨m9, meth, c, hn9, h1, h2, h3, h4, -, h5, h6, -⟩ := Cond.codeWith_spec (atoms_spec (ws := ws) h _ (by rw [hw]; exact List.mem_cons_self))
    cases hn.symm.trans hn9
    exact ⟨meth, c, h1, h2, h3, h4, h5, h6⟩
  · intro p e s m args below meth c s₁ B hml hP _
    have hh0 : s₁.heap = s.heap := by rw [B.state]; rfl
    obtain ⟨t, a1, o, b1, b2, b3⟩ := body p e s m args below meth c s₁ B hml hP s₁ hh0 (Stand.of_body B)
    exact ⟨t, o, a1, b1, b2, b3⟩
/-! ===== END ===== -/

def RX0 : String := "Coppinghouse$Burrow"
def TX0 : u_T := fun k => match k with
  | 0 => ("Coppinghouse$Burrow", "moved", "LCoppinghouse$Row;", true)
  | 1 => ("Coppinghouse$Burrow", "shots", "LCoppinghouse$Row;", true)
  | _ => ("Coppinghouse$Burrow", "filledFor", "I", false)
def tyX0 : Nat → FieldType := fun k => match k with
  | 0 => .object "Coppinghouse$Row"
  | 1 => .object "Coppinghouse$Row"
  | _ => .int
abbrev wsX00 : List Cond := u_ws RX0 TX0 3
theorem nmX0 : ∀ a, a < 3 → ∀ b, b < 3 → a ≠ b → (TX0 a).2.1 ≠ (TX0 b).2.1 := by decide +kernel
theorem tyX0_ok : ∀ k, k < 3 → parseFieldDescriptor (TX0 k).2.2.1 = some (tyX0 k) := by decide +kernel
abbrev cX0_init : ByteArray := prog_2_method_1_code
def yX0_init : MethodName := ⟨RX0, "<init>", "()V"⟩
abbrev cX0_prepare : ByteArray := prog_2_method_2_code
def yX0_prepare : MethodName := ⟨RX0, "prepare", "(LCoppinghouse$Graph;)V"⟩
abbrev cX0_findSets : ByteArray := prog_2_method_3_code
def yX0_findSets : MethodName := ⟨RX0, "findSets", "(LCoppinghouse$Graph;I)Z"⟩
abbrev cX0_addSets : ByteArray := prog_2_method_4_code
def yX0_addSets : MethodName := ⟨RX0, "addSets", "(LCoppinghouse$Graph;II)Z"⟩
abbrev cX0_fewestShots : ByteArray := prog_2_method_5_code
def yX0_fewestShots : MethodName := ⟨RX0, "fewestShots", "(I)I"⟩
abbrev cX0_bestShot : ByteArray := prog_2_method_6_code
def yX0_bestShot : MethodName := ⟨RX0, "bestShot", "(LCoppinghouse$Graph;I)I"⟩
def RX1 : String := "Coppinghouse$Chase"
def TX1 : u_T := fun k => match k with
  | 0 => ("Coppinghouse$Chase", "times", "LCoppinghouse$Row;", true)
  | 1 => ("Coppinghouse$Chase", "caughtCopsFirst", "LCoppinghouse$Row;", true)
  | 2 => ("Coppinghouse$Chase", "caughtRobberFirst", "LCoppinghouse$Row;", true)
  | 3 => ("Coppinghouse$Chase", "caughtOneMoved", "LCoppinghouse$Row;", true)
  | _ => ("Coppinghouse$Chase", "filledFor", "I", false)
def tyX1 : Nat → FieldType := fun k => match k with
  | 0 => .object "Coppinghouse$Row"
  | 1 => .object "Coppinghouse$Row"
  | 2 => .object "Coppinghouse$Row"
  | 3 => .object "Coppinghouse$Row"
  | _ => .int
abbrev wsX10 : List Cond := u_ws RX1 TX1 5
theorem nmX1 : ∀ a, a < 5 → ∀ b, b < 5 → a ≠ b → (TX1 a).2.1 ≠ (TX1 b).2.1 := by decide +kernel
theorem tyX1_ok : ∀ k, k < 5 → parseFieldDescriptor (TX1 k).2.2.1 = some (tyX1 k) := by decide +kernel
abbrev cX1_init : ByteArray := prog_3_method_1_code
def yX1_init : MethodName := ⟨RX1, "<init>", "()V"⟩
abbrev cX1_prepare : ByteArray := prog_3_method_2_code
def yX1_prepare : MethodName := ⟨RX1, "prepare", "(LCoppinghouse$Graph;)V"⟩
abbrev cX1_pair : ByteArray := prog_3_method_3_code
def yX1_pair : MethodName := ⟨RX1, "pair", "(II)I"⟩
abbrev cX1_cell : ByteArray := prog_3_method_4_code
def yX1_cell : MethodName := ⟨RX1, "cell", "(III)I"⟩
abbrev cX1_beginTable : ByteArray := prog_3_method_5_code
def yX1_beginTable : MethodName := ⟨RX1, "beginTable", "(LCoppinghouse$Graph;)V"⟩
abbrev cX1_addCaught : ByteArray := prog_3_method_6_code
def yX1_addCaught : MethodName := ⟨RX1, "addCaught", "(LCoppinghouse$Graph;IIII)Z"⟩
abbrev cX1_letRobberMove : ByteArray := prog_3_method_7_code
def yX1_letRobberMove : MethodName := ⟨RX1, "letRobberMove", "(LCoppinghouse$Graph;)V"⟩
abbrev cX1_withoutEscape : ByteArray := prog_3_method_8_code
def yX1_withoutEscape : MethodName := ⟨RX1, "withoutEscape", "(LCoppinghouse$Graph;I)I"⟩
abbrev cX1_letFirstCopMove : ByteArray := prog_3_method_9_code
def yX1_letFirstCopMove : MethodName := ⟨RX1, "letFirstCopMove", "(LCoppinghouse$Graph;)V"⟩
abbrev cX1_letSecondCopMove : ByteArray := prog_3_method_10_code
def yX1_letSecondCopMove : MethodName := ⟨RX1, "letSecondCopMove", "(LCoppinghouse$Graph;I)Z"⟩
abbrev cX1_copsFirst : ByteArray := prog_3_method_11_code
def yX1_copsFirst : MethodName := ⟨RX1, "copsFirst", "(III)I"⟩
abbrev cX1_robberFirst : ByteArray := prog_3_method_12_code
def yX1_robberFirst : MethodName := ⟨RX1, "robberFirst", "(LCoppinghouse$Graph;III)I"⟩
abbrev cX1_bestCopMove : ByteArray := prog_3_method_13_code
def yX1_bestCopMove : MethodName := ⟨RX1, "bestCopMove", "(LCoppinghouse$Graph;III)I"⟩
abbrev cX1_moveNumber : ByteArray := prog_3_method_14_code
def yX1_moveNumber : MethodName := ⟨RX1, "moveNumber", "(II)I"⟩
abbrev cX1_bestFlight : ByteArray := prog_3_method_15_code
def yX1_bestFlight : MethodName := ⟨RX1, "bestFlight", "(LCoppinghouse$Graph;III)I"⟩
abbrev cX1_oneCatches : ByteArray := prog_3_method_16_code
def yX1_oneCatches : MethodName := ⟨RX1, "oneCatches", "(LCoppinghouse$Graph;)Z"⟩
abbrev cX1_twoCatch : ByteArray := prog_3_method_17_code
def yX1_twoCatch : MethodName := ⟨RX1, "twoCatch", "(LCoppinghouse$Graph;)Z"⟩
abbrev cX1_catchesFrom : ByteArray := prog_3_method_18_code
def yX1_catchesFrom : MethodName := ⟨RX1, "catchesFrom", "(LCoppinghouse$Graph;I)Z"⟩
def RX2 : String := "Coppinghouse$Colours"
def TX2 : u_T := fun k => match k with
  | 0 => ("Coppinghouse$Colours", "least", "I", false)
  | _ => ("Coppinghouse$Colours", "filledFor", "I", false)
def tyX2 : Nat → FieldType := fun k => match k with
  | 0 => .int
  | _ => .int
abbrev wsX20 : List Cond := u_ws RX2 TX2 2
theorem nmX2 : ∀ a, a < 2 → ∀ b, b < 2 → a ≠ b → (TX2 a).2.1 ≠ (TX2 b).2.1 := by decide +kernel
theorem tyX2_ok : ∀ k, k < 2 → parseFieldDescriptor (TX2 k).2.2.1 = some (tyX2 k) := by decide +kernel
abbrev cX2_init : ByteArray := prog_4_method_1_code
def yX2_init : MethodName := ⟨RX2, "<init>", "()V"⟩
abbrev cX2_prepare : ByteArray := prog_4_method_2_code
def yX2_prepare : MethodName := ⟨RX2, "prepare", "(LCoppinghouse$Graph;)V"⟩
abbrev cX2_least : ByteArray := prog_4_method_3_code
def yX2_least : MethodName := ⟨RX2, "least", "()I"⟩
abbrev cX2_spread : ByteArray := prog_4_method_4_code
def yX2_spread : MethodName := ⟨RX2, "spread", "(LCoppinghouse$Graph;I)I"⟩
abbrev cX2_afterRound : ByteArray := prog_4_method_6_code
def yX2_afterRound : MethodName := ⟨RX2, "afterRound", "(LCoppinghouse$Graph;I)I"⟩
def RX3 : String := "Coppinghouse$Deeds"
def TX3 : u_T := fun k => match k with
  | 0 => ("Coppinghouse$Deeds", "rooms", "LCoppinghouse$Row;", true)
  | 1 => ("Coppinghouse$Deeds", "others", "LCoppinghouse$Row;", true)
  | 2 => ("Coppinghouse$Deeds", "sets", "LCoppinghouse$Row;", true)
  | _ => ("Coppinghouse$Deeds", "count", "I", false)
def tyX3 : Nat → FieldType := fun k => match k with
  | 0 => .object "Coppinghouse$Row"
  | 1 => .object "Coppinghouse$Row"
  | 2 => .object "Coppinghouse$Row"
  | _ => .int
abbrev wsX30 : List Cond := u_ws RX3 TX3 4
theorem nmX3 : ∀ a, a < 4 → ∀ b, b < 4 → a ≠ b → (TX3 a).2.1 ≠ (TX3 b).2.1 := by decide +kernel
theorem tyX3_ok : ∀ k, k < 4 → parseFieldDescriptor (TX3 k).2.2.1 = some (tyX3 k) := by decide +kernel
abbrev cX3_init : ByteArray := prog_5_method_1_code
def yX3_init : MethodName := ⟨RX3, "<init>", "()V"⟩
abbrev cX3_count : ByteArray := prog_5_method_2_code
def yX3_count : MethodName := ⟨RX3, "count", "()I"⟩
abbrev cX3_forget : ByteArray := prog_5_method_3_code
def yX3_forget : MethodName := ⟨RX3, "forget", "()V"⟩
abbrev cX3_add : ByteArray := prog_5_method_4_code
def yX3_add : MethodName := ⟨RX3, "add", "(III)V"⟩
abbrev cX3_latestRoom : ByteArray := prog_5_method_5_code
def yX3_latestRoom : MethodName := ⟨RX3, "latestRoom", "()I"⟩
abbrev cX3_latestOther : ByteArray := prog_5_method_6_code
def yX3_latestOther : MethodName := ⟨RX3, "latestOther", "()I"⟩
abbrev cX3_latestSet : ByteArray := prog_5_method_7_code
def yX3_latestSet : MethodName := ⟨RX3, "latestSet", "()I"⟩
abbrev cX3_dropLatest : ByteArray := prog_5_method_8_code
def yX3_dropLatest : MethodName := ⟨RX3, "dropLatest", "()V"⟩
def RX4 : String := "Coppinghouse$Graph"
def TX4 : u_T := fun k => match k with
  | 0 => ("Coppinghouse$Graph", "nextSets", "LCoppinghouse$Row;", true)
  | 1 => ("Coppinghouse$Graph", "size", "I", false)
  | _ => ("Coppinghouse$Graph", "version", "I", false)
def tyX4 : Nat → FieldType := fun k => match k with
  | 0 => .object "Coppinghouse$Row"
  | 1 => .int
  | _ => .int
abbrev wsX40 : List Cond := u_ws RX4 TX4 3
theorem nmX4 : ∀ a, a < 3 → ∀ b, b < 3 → a ≠ b → (TX4 a).2.1 ≠ (TX4 b).2.1 := by decide +kernel
theorem tyX4_ok : ∀ k, k < 3 → parseFieldDescriptor (TX4 k).2.2.1 = some (tyX4 k) := by decide +kernel
abbrev cX4_init : ByteArray := prog_6_method_1_code
def yX4_init : MethodName := ⟨RX4, "<init>", "()V"⟩
abbrev cX4_begin : ByteArray := prog_6_method_2_code
def yX4_begin : MethodName := ⟨RX4, "begin", "(I)V"⟩
abbrev cX4_size : ByteArray := prog_6_method_5_code
def yX4_size : MethodName := ⟨RX4, "size", "()I"⟩
abbrev cX4_version : ByteArray := prog_6_method_6_code
def yX4_version : MethodName := ⟨RX4, "version", "()I"⟩
abbrev cX4_has : ByteArray := prog_6_method_7_code
def yX4_has : MethodName := ⟨RX4, "has", "(I)Z"⟩
abbrev cX4_all : ByteArray := prog_6_method_8_code
def yX4_all : MethodName := ⟨RX4, "all", "()I"⟩
abbrev cX4_nextTo : ByteArray := prog_6_method_9_code
def yX4_nextTo : MethodName := ⟨RX4, "nextTo", "(I)I"⟩
abbrev cX4_hasDoor : ByteArray := prog_6_method_10_code
def yX4_hasDoor : MethodName := ⟨RX4, "hasDoor", "(II)Z"⟩
abbrev cX4_turnDoor : ByteArray := prog_6_method_11_code
def yX4_turnDoor : MethodName := ⟨RX4, "turnDoor", "(II)V"⟩
abbrev cX4_isPlace : ByteArray := prog_6_method_13_code
def yX4_isPlace : MethodName := ⟨RX4, "isPlace", "(I)Z"⟩
abbrev cX4_nearTo : ByteArray := prog_6_method_14_code
def yX4_nearTo : MethodName := ⟨RX4, "nearTo", "(I)I"⟩
abbrev cX4_areNear : ByteArray := prog_6_method_15_code
def yX4_areNear : MethodName := ⟨RX4, "areNear", "(II)Z"⟩
abbrev cX4_nextToSome : ByteArray := prog_6_method_16_code
def yX4_nextToSome : MethodName := ⟨RX4, "nextToSome", "(I)I"⟩
abbrev cX4_afterShot : ByteArray := prog_6_method_17_code
def yX4_afterShot : MethodName := ⟨RX4, "afterShot", "(II)I"⟩
abbrev cX4_losesAllCorners : ByteArray := prog_6_method_18_code
def yX4_losesAllCorners : MethodName := ⟨RX4, "losesAllCorners", "()Z"⟩
abbrev cX4_lowestCorner : ByteArray := prog_6_method_19_code
def yX4_lowestCorner : MethodName := ⟨RX4, "lowestCorner", "(I)I"⟩
abbrev cX4_isCorner : ByteArray := prog_6_method_20_code
def yX4_isCorner : MethodName := ⟨RX4, "isCorner", "(II)Z"⟩
def RX5 : String := "Coppinghouse$Playing"
def TX5 : u_T := fun k => match k with
  | _ => ("", "", "", false)
def tyX5 : Nat → FieldType := fun k => match k with
  | _ => .int
abbrev wsX50 : List Cond := u_ws RX5 TX5 0
theorem nmX5 : ∀ a, a < 0 → ∀ b, b < 0 → a ≠ b → (TX5 a).2.1 ≠ (TX5 b).2.1 := by decide +kernel
theorem tyX5_ok : ∀ k, k < 0 → parseFieldDescriptor (TX5 k).2.2.1 = some (tyX5 k) := by decide +kernel
def RX6 : String := "Coppinghouse$Row"
def TX6 : u_T := fun k => match k with
  | _ => ("Coppinghouse$Row", "cells", "[I", true)
def tyX6 : Nat → FieldType := fun k => match k with
  | _ => .array .int
abbrev wsX60 : List Cond := u_ws RX6 TX6 1
theorem nmX6 : ∀ a, a < 1 → ∀ b, b < 1 → a ≠ b → (TX6 a).2.1 ≠ (TX6 b).2.1 := by decide +kernel
theorem tyX6_ok : ∀ k, k < 1 → parseFieldDescriptor (TX6 k).2.2.1 = some (tyX6 k) := by decide +kernel
abbrev cX6_init : ByteArray := prog_8_method_1_code
def yX6_init : MethodName := ⟨RX6, "<init>", "(I)V"⟩
abbrev cX6_at : ByteArray := prog_8_method_2_code
def yX6_at : MethodName := ⟨RX6, "at", "(I)I"⟩
abbrev cX6_put : ByteArray := prog_8_method_3_code
def yX6_put : MethodName := ⟨RX6, "put", "(II)V"⟩
abbrev cX6_putAll : ByteArray := prog_8_method_4_code
def yX6_putAll : MethodName := ⟨RX6, "putAll", "(I)V"⟩
def RX7 : String := "Coppinghouse"
def TX7 : u_T := fun k => match k with
  | 0 => ("Coppinghouse", "graph", "LCoppinghouse$Graph;", true)
  | 1 => ("Coppinghouse", "deeds", "LCoppinghouse$Deeds;", true)
  | 2 => ("Coppinghouse", "chase", "LCoppinghouse$Chase;", true)
  | 3 => ("Coppinghouse", "burrow", "LCoppinghouse$Burrow;", true)
  | 4 => ("Coppinghouse", "colours", "LCoppinghouse$Colours;", true)
  | _ => ("Coppinghouse", "rabbitSet", "I", false)
def tyX7 : Nat → FieldType := fun k => match k with
  | 0 => .object "Coppinghouse$Graph"
  | 1 => .object "Coppinghouse$Deeds"
  | 2 => .object "Coppinghouse$Chase"
  | 3 => .object "Coppinghouse$Burrow"
  | 4 => .object "Coppinghouse$Colours"
  | _ => .int
abbrev wsX70 : List Cond := u_ws RX7 TX7 6
theorem nmX7 : ∀ a, a < 6 → ∀ b, b < 6 → a ≠ b → (TX7 a).2.1 ≠ (TX7 b).2.1 := by decide +kernel
theorem tyX7_ok : ∀ k, k < 6 → parseFieldDescriptor (TX7 k).2.2.1 = some (tyX7 k) := by decide +kernel
abbrev cX7_init : ByteArray := prog_1_method_1_code
def yX7_init : MethodName := ⟨RX7, "<init>", "()V"⟩
abbrev cX7_rooms : ByteArray := prog_1_method_2_code
def yX7_rooms : MethodName := ⟨RX7, "rooms", "(I)I"⟩
abbrev cX7_door : ByteArray := prog_1_method_4_code
def yX7_door : MethodName := ⟨RX7, "door", "(IIZ)Z"⟩
abbrev cX7_shoot : ByteArray := prog_1_method_5_code
def yX7_shoot : MethodName := ⟨RX7, "shoot", "(I)I"⟩
abbrev cX7_back : ByteArray := prog_1_method_6_code
def yX7_back : MethodName := ⟨RX7, "back", "()I"⟩
abbrev cX7_time : ByteArray := prog_1_method_9_code
def yX7_time : MethodName := ⟨RX7, "time", "(III)I"⟩
abbrev cX7_step : ByteArray := prog_1_method_11_code
def yX7_step : MethodName := ⟨RX7, "step", "(III)I"⟩
abbrev cX7_away : ByteArray := prog_1_method_12_code
def yX7_away : MethodName := ⟨RX7, "away", "(III)I"⟩
abbrev cX7_catches : ByteArray := prog_1_method_13_code
def yX7_catches : MethodName := ⟨RX7, "catches", "(I)Z"⟩
abbrev cX7_fallsApart : ByteArray := prog_1_method_14_code
def yX7_fallsApart : MethodName := ⟨RX7, "fallsApart", "()Z"⟩
abbrev cX7_rabbit : ByteArray := prog_1_method_15_code
def yX7_rabbit : MethodName := ⟨RX7, "rabbit", "()I"⟩
abbrev cX7_hunt : ByteArray := prog_1_method_16_code
def yX7_hunt : MethodName := ⟨RX7, "hunt", "()I"⟩
abbrev cX7_aim : ByteArray := prog_1_method_18_code
def yX7_aim : MethodName := ⟨RX7, "aim", "()I"⟩
abbrev cX7_forced : ByteArray := prog_1_method_19_code
def yX7_forced : MethodName := ⟨RX7, "forced", "(I)I"⟩
abbrev cX7_leastBlue : ByteArray := prog_1_method_21_code
def yX7_leastBlue : MethodName := ⟨RX7, "leastBlue", "()I"⟩
abbrev cX7_beginDeeds : ByteArray := prog_1_method_22_code
def yX7_beginDeeds : MethodName := ⟨RX7, "beginDeeds", "()V"⟩
abbrev cX7_needRoom : ByteArray := prog_1_method_23_code
def yX7_needRoom : MethodName := ⟨RX7, "needRoom", "(I)V"⟩
abbrev cX7_needBeginning : ByteArray := prog_1_method_24_code
def yX7_needBeginning : MethodName := ⟨RX7, "needBeginning", "(III)V"⟩
abbrev cX7_needSet : ByteArray := prog_1_method_25_code
def yX7_needSet : MethodName := ⟨RX7, "needSet", "(I)V"⟩
abbrev cX7_needPlaceForDeed : ByteArray := prog_1_method_26_code
def yX7_needPlaceForDeed : MethodName := ⟨RX7, "needPlaceForDeed", "()V"⟩
abbrev cX7_placeOf : ByteArray := prog_1_method_27_code
def yX7_placeOf : MethodName := ⟨RX7, "placeOf", "(I)I"⟩
def RX8 : String := "CoppinghouseModel"
def TX8 : u_T := fun k => match k with
  | _ => ("", "", "", false)
def tyX8 : Nat → FieldType := fun k => match k with
  | _ => .int
abbrev wsX80 : List Cond := u_ws RX8 TX8 0
theorem nmX8 : ∀ a, a < 0 → ∀ b, b < 0 → a ≠ b → (TX8 a).2.1 ≠ (TX8 b).2.1 := by decide +kernel
theorem tyX8_ok : ∀ k, k < 0 → parseFieldDescriptor (TX8 k).2.2.1 = some (tyX8 k) := by decide +kernel
def RJ6 : String := "java/lang/Integer"
def TJ6 : u_T := fun k => match k with
  | _ => ("", "", "", false)
def tyJ6 : Nat → FieldType := fun k => match k with
  | _ => .int
abbrev wsJ60 : List Cond := u_ws RJ6 TJ6 0
theorem nmJ6 : ∀ a, a < 0 → ∀ b, b < 0 → a ≠ b → (TJ6 a).2.1 ≠ (TJ6 b).2.1 := by decide +kernel
theorem tyJ6_ok : ∀ k, k < 0 → parseFieldDescriptor (TJ6 k).2.2.1 = some (tyJ6 k) := by decide +kernel
abbrev cJ6_bitCount_0f7a4 : ByteArray := prog_15_method_49_code
def yJ6_bitCount_0f7a4 : MethodName := ⟨RJ6, "bitCount", "(I)I"⟩
def RJ9 : String := "java/lang/Math"
def TJ9 : u_T := fun k => match k with
  | _ => ("", "", "", false)
def tyJ9 : Nat → FieldType := fun k => match k with
  | _ => .int
abbrev wsJ90 : List Cond := u_ws RJ9 TJ9 0
theorem nmJ9 : ∀ a, a < 0 → ∀ b, b < 0 → a ≠ b → (TJ9 a).2.1 ≠ (TJ9 b).2.1 := by decide +kernel
theorem tyJ9_ok : ∀ k, k < 0 → parseFieldDescriptor (TJ9 k).2.2.1 = some (tyJ9 k) := by decide +kernel
abbrev cJ9_max_7cf53 : ByteArray := prog_16_method_65_code
def yJ9_max_7cf53 : MethodName := ⟨RJ9, "max", "(II)I"⟩
abbrev cJ9_min_7cf53 : ByteArray := prog_16_method_69_code
def yJ9_min_7cf53 : MethodName := ⟨RJ9, "min", "(II)I"⟩
def RJ0 : String := "java/lang/String"
def TJ0 : u_T := fun k => match k with
  | _ => ("", "", "", false)
def tyJ0 : Nat → FieldType := fun k => match k with
  | _ => .int
abbrev wsJ00 : List Cond := u_ws RJ0 TJ0 0
theorem nmJ0 : ∀ a, a < 0 → ∀ b, b < 0 → a ≠ b → (TJ0 a).2.1 ≠ (TJ0 b).2.1 := by decide +kernel
theorem tyJ0_ok : ∀ k, k < 0 → parseFieldDescriptor (TJ0 k).2.2.1 = some (tyJ0 k) := by decide +kernel
def RL : String := "CoppinghouseLaw"
abbrev cL_cell : ByteArray := method_2_code
def yL_cell : MethodName := ⟨RL, "cell", "([II)I"⟩
abbrev cL_at : ByteArray := method_3_code
def yL_at : MethodName := ⟨RL, "at", "(II)I"⟩
abbrev cL_size : ByteArray := method_4_code
def yL_size : MethodName := ⟨RL, "size", "(I)I"⟩
abbrev cL_law : ByteArray := code
def yL_law : MethodName := ⟨RL, "law", "([I)Z"⟩
abbrev vwCl : List vw_C := [(RX0, TX0, 3), (RX1, TX1, 5), (RX2, TX2, 2), (RX3, TX3, 4), (RX4, TX4, 3), (RX6, TX6, 1), (RX7, TX7, 6)]
theorem in_X0 : ∀ w ∈ wsX00, w ∈ lw_tbl := by decide +kernel
theorem in_X1 : ∀ w ∈ wsX10, w ∈ lw_tbl := by decide +kernel
theorem in_X2 : ∀ w ∈ wsX20, w ∈ lw_tbl := by decide +kernel
theorem in_X3 : ∀ w ∈ wsX30, w ∈ lw_tbl := by decide +kernel
theorem in_X4 : ∀ w ∈ wsX40, w ∈ lw_tbl := by decide +kernel
theorem in_X6 : ∀ w ∈ wsX60, w ∈ lw_tbl := by decide +kernel
theorem in_X7 : ∀ w ∈ wsX70, w ∈ lw_tbl := by decide +kernel
end
section
abbrev Rw : Type := Instr × Nat × Nat × Nat × Nat
abbrev Cd : Type := List (List (Nat × Rw))
def kc_X0_init : Cd := [[(0, .aload_n 0, 1, 0, 0, 0), (1, .invokespecial 3, 3, 9999, 0, 0), (4, .aload_n 0, 1, 0, 0, 0), (5, .new 9, 3, 5, 1, 0), (8, .dup, 1, 0, 0, 0), (9, .sipush 512, 3, 0, 0, 0), (12, .invokespecial 11, 3, 54, 1, 5), (15, .putfield 14, 3, 0, 0, 1)], [(18, .aload_n 0, 1, 0, 0, 0), (19, .new 9, 3, 5, 1, 0), (22, .dup, 1, 0, 0, 0), (23, .sipush 512, 3, 0, 0, 0), (26, .invokespecial 11, 3, 54, 1, 5), (29, .putfield 20, 3, 0, 1, 1)], [(32, .aload_n 0, 1, 0, 0, 0), (33, .iconst (-1), 1, 0, 0, 0), (34, .putfield 23, 3, 0, 2, 2), (37, .return_, 1, 0, 0, 0)]]
def kc_X0_prepare : Cd := [[(0, .aload_n 0, 1, 0, 0, 0), (1, .getfield 23, 3, 0, 2, 2), (4, .aload_n 1, 1, 0, 0, 0), (5, .invokevirtual 27, 3, 40, 0, 4), (8, .if_icmp .ne 4, 3, 12, 0, 0), (11, .return_, 1, 0, 0, 0), (12, .iconst 0, 1, 0, 0, 0), (13, .istore_n 2, 1, 0, 0, 0), (14, .iload_n 2, 1, 0, 0, 0), (15, .aload_n 1, 1, 0, 0, 0)], [(16, .invokevirtual 33, 3, 42, 0, 4), (19, .if_icmp .gt 22, 3, 41, 0, 0), (22, .aload_n 0, 1, 0, 0, 0), (23, .getfield 14, 3, 0, 0, 1), (26, .iload_n 2, 1, 0, 0, 0), (27, .aload_n 1, 1, 0, 0, 0), (28, .iload_n 2, 1, 0, 0, 0), (29, .invokevirtual 36, 3, 49, 1, 4)], [(32, .invokevirtual 40, 3, 56, 2, 5), (35, .iinc 2 1, 3, 0, 0, 0), (38, .goto (-24), 3, 14, 0, 0), (41, .aload_n 0, 1, 0, 0, 0), (42, .getfield 20, 3, 0, 1, 1), (45, .iconst (-1), 1, 0, 0, 0), (46, .invokevirtual 44, 3, 57, 1, 5)], [(49, .aload_n 0, 1, 0, 0, 0), (50, .getfield 20, 3, 0, 1, 1), (53, .iconst 0, 1, 0, 0, 0), (54, .iconst 0, 1, 0, 0, 0), (55, .invokevirtual 40, 3, 56, 2, 5), (58, .iconst 1, 1, 0, 0, 0), (59, .istore_n 2, 1, 0, 0, 0), (60, .iconst 1, 1, 0, 0, 0), (61, .istore_n 3, 1, 0, 0, 0), (62, .iload_n 2, 1, 0, 0, 0), (63, .ifCond .eq 23, 3, 86, 0, 0)], [(66, .iload_n 3, 1, 0, 0, 0), (67, .sipush 512, 3, 0, 0, 0), (70, .if_icmp .gt 16, 3, 86, 0, 0), (73, .aload_n 0, 1, 0, 0, 0), (74, .aload_n 1, 1, 0, 0, 0), (75, .iload_n 3, 1, 0, 0, 0), (76, .invokevirtual 47, 3, 2, 2, 0), (79, .istore_n 2, 1, 0, 0, 0)], [(80, .iinc 3 1, 3, 0, 0, 0), (83, .goto (-21), 3, 62, 0, 0), (86, .aload_n 0, 1, 0, 0, 0), (87, .aload_n 1, 1, 0, 0, 0), (88, .invokevirtual 27, 3, 40, 0, 4), (91, .putfield 23, 3, 0, 2, 2), (94, .return_, 1, 0, 0, 0)]]
def kc_X0_findSets : Cd := [[(0, .iconst 0, 1, 0, 0, 0), (1, .istore_n 3, 1, 0, 0, 0), (2, .iconst 0, 1, 0, 0, 0), (3, .istore 4, 2, 0, 0, 0), (5, .iload 4, 2, 0, 0, 0), (7, .aload_n 1, 1, 0, 0, 0), (8, .invokevirtual 33, 3, 42, 0, 4), (11, .if_icmp .gt 42, 3, 53, 0, 0), (14, .aload_n 0, 1, 0, 0, 0), (15, .getfield 20, 3, 0, 1, 1)], [(18, .aload_n 0, 1, 0, 0, 0), (19, .getfield 14, 3, 0, 0, 1), (22, .iload 4, 2, 0, 0, 0), (24, .invokevirtual 51, 3, 55, 1, 5), (27, .invokevirtual 51, 3, 55, 1, 5), (30, .iload_n 2, 1, 0, 0, 0), (31, .iconst 1, 1, 0, 0, 0)], [(32, .isub, 1, 0, 0, 0), (33, .if_icmp .ne 14, 3, 47, 0, 0), (36, .iload_n 3, 1, 0, 0, 0), (37, .aload_n 0, 1, 0, 0, 0), (38, .aload_n 1, 1, 0, 0, 0), (39, .iload 4, 2, 0, 0, 0), (41, .iload_n 2, 1, 0, 0, 0), (42, .invokevirtual 54, 3, 3, 3, 0), (45, .ior, 1, 0, 0, 0), (46, .istore_n 3, 1, 0, 0, 0), (47, .iinc 4 1, 3, 0, 0, 0)], [(50, .goto (-45), 3, 5, 0, 0), (53, .iload_n 3, 1, 0, 0, 0), (54, .ireturn, 1, 0, 0, 0)]]
def kc_X0_addSets : Cd := [[(0, .iconst 0, 1, 0, 0, 0), (1, .istore 4, 2, 0, 0, 0), (3, .iconst 0, 1, 0, 0, 0), (4, .istore 5, 2, 0, 0, 0), (6, .iload 5, 2, 0, 0, 0), (8, .aload_n 1, 1, 0, 0, 0), (9, .invokevirtual 58, 3, 39, 0, 4), (12, .if_icmp .ge 43, 3, 55, 0, 0), (15, .iload_n 2, 1, 0, 0, 0)], [(16, .iconst 1, 1, 0, 0, 0), (17, .iload 5, 2, 0, 0, 0), (19, .ishl, 1, 0, 0, 0), (20, .ior, 1, 0, 0, 0), (21, .istore 6, 2, 0, 0, 0), (23, .aload_n 0, 1, 0, 0, 0), (24, .getfield 20, 3, 0, 1, 1), (27, .iload 6, 2, 0, 0, 0), (29, .invokevirtual 51, 3, 55, 1, 5)], [(32, .iconst (-1), 1, 0, 0, 0), (33, .if_icmp .ne 16, 3, 49, 0, 0), (36, .aload_n 0, 1, 0, 0, 0), (37, .getfield 20, 3, 0, 1, 1), (40, .iload 6, 2, 0, 0, 0), (42, .iload_n 3, 1, 0, 0, 0), (43, .invokevirtual 40, 3, 56, 2, 5), (46, .iconst 1, 1, 0, 0, 0), (47, .istore 4, 2, 0, 0, 0)], [(49, .iinc 5 1, 3, 0, 0, 0), (52, .goto (-46), 3, 6, 0, 0), (55, .iload 4, 2, 0, 0, 0), (57, .ireturn, 1, 0, 0, 0)]]
def kc_X0_fewestShots : Cd := [[(0, .aload_n 0, 1, 0, 0, 0), (1, .getfield 20, 3, 0, 1, 1), (4, .iload_n 1, 1, 0, 0, 0), (5, .invokevirtual 51, 3, 55, 1, 5), (8, .ireturn, 1, 0, 0, 0)]]
def kc_X0_bestShot : Cd := [[(0, .aload_n 0, 1, 0, 0, 0), (1, .iload_n 2, 1, 0, 0, 0), (2, .invokevirtual 61, 3, 4, 1, 0), (5, .istore_n 3, 1, 0, 0, 0), (6, .iload_n 3, 1, 0, 0, 0), (7, .ifCond .gt 5, 3, 12, 0, 0), (10, .iconst (-1), 1, 0, 0, 0), (11, .ireturn, 1, 0, 0, 0), (12, .iconst 0, 1, 0, 0, 0), (13, .istore 4, 2, 0, 0, 0), (15, .iload 4, 2, 0, 0, 0)], [(17, .aload_n 1, 1, 0, 0, 0), (18, .invokevirtual 58, 3, 39, 0, 4), (21, .if_icmp .ge 37, 3, 58, 0, 0), (24, .aload_n 0, 1, 0, 0, 0), (25, .aload_n 0, 1, 0, 0, 0), (26, .getfield 14, 3, 0, 0, 1), (29, .iload_n 2, 1, 0, 0, 0), (30, .iconst 1, 1, 0, 0, 0), (31, .iload 4, 2, 0, 0, 0)], [(33, .ishl, 1, 0, 0, 0), (34, .iconst (-1), 1, 0, 0, 0), (35, .ixor, 1, 0, 0, 0), (36, .iand, 1, 0, 0, 0), (37, .invokevirtual 51, 3, 55, 1, 5), (40, .invokevirtual 61, 3, 4, 1, 0), (43, .iload_n 3, 1, 0, 0, 0), (44, .iconst 1, 1, 0, 0, 0), (45, .isub, 1, 0, 0, 0), (46, .if_icmp .ne 6, 3, 52, 0, 0)], [(49, .iload 4, 2, 0, 0, 0), (51, .ireturn, 1, 0, 0, 0), (52, .iinc 4 1, 3, 0, 0, 0), (55, .goto (-40), 3, 15, 0, 0), (58, .iconst (-1), 1, 0, 0, 0), (59, .ireturn, 1, 0, 0, 0)]]
def kc_X1_init : Cd := [[(0, .aload_n 0, 1, 0, 0, 0), (1, .invokespecial 3, 3, 9999, 0, 0), (4, .aload_n 0, 1, 0, 0, 0), (5, .new 9, 3, 5, 1, 0), (8, .dup, 1, 0, 0, 0), (9, .sipush 810, 3, 0, 0, 0), (12, .invokespecial 11, 3, 54, 1, 5), (15, .putfield 14, 3, 1, 0, 1)], [(18, .aload_n 0, 1, 0, 0, 0), (19, .new 9, 3, 5, 1, 0), (22, .dup, 1, 0, 0, 0), (23, .bipush 90, 2, 0, 0, 0), (25, .invokespecial 11, 3, 54, 1, 5), (28, .putfield 20, 3, 1, 1, 1), (31, .aload_n 0, 1, 0, 0, 0)], [(32, .new 9, 3, 5, 1, 0), (35, .dup, 1, 0, 0, 0), (36, .bipush 90, 2, 0, 0, 0), (38, .invokespecial 11, 3, 54, 1, 5), (41, .putfield 23, 3, 1, 2, 1), (44, .aload_n 0, 1, 0, 0, 0), (45, .new 9, 3, 5, 1, 0)], [(48, .dup, 1, 0, 0, 0), (49, .bipush 90, 2, 0, 0, 0), (51, .invokespecial 11, 3, 54, 1, 5), (54, .putfield 26, 3, 1, 3, 1), (57, .aload_n 0, 1, 0, 0, 0), (58, .iconst (-1), 1, 0, 0, 0), (59, .putfield 29, 3, 1, 4, 2), (62, .return_, 1, 0, 0, 0)]]
def kc_X1_prepare : Cd := [[(0, .aload_n 0, 1, 0, 0, 0), (1, .getfield 29, 3, 1, 4, 2), (4, .aload_n 1, 1, 0, 0, 0), (5, .invokevirtual 33, 3, 40, 0, 4), (8, .if_icmp .ne 4, 3, 12, 0, 0), (11, .return_, 1, 0, 0, 0), (12, .aload_n 0, 1, 0, 0, 0), (13, .aload_n 1, 1, 0, 0, 0), (14, .invokevirtual 39, 3, 10, 1, 1)], [(17, .iconst 1, 1, 0, 0, 0), (18, .istore_n 2, 1, 0, 0, 0), (19, .iconst 1, 1, 0, 0, 0), (20, .istore_n 3, 1, 0, 0, 0), (21, .iload_n 2, 1, 0, 0, 0), (22, .ifCond .eq 33, 3, 55, 0, 0), (25, .iload_n 3, 1, 0, 0, 0), (26, .sipush 810, 3, 0, 0, 0), (29, .if_icmp .gt 26, 3, 55, 0, 0)], [(32, .aload_n 0, 1, 0, 0, 0), (33, .aload_n 1, 1, 0, 0, 0), (34, .invokevirtual 43, 3, 12, 1, 1), (37, .aload_n 0, 1, 0, 0, 0), (38, .aload_n 1, 1, 0, 0, 0), (39, .invokevirtual 46, 3, 14, 1, 1), (42, .aload_n 0, 1, 0, 0, 0), (43, .aload_n 1, 1, 0, 0, 0), (44, .iload_n 3, 1, 0, 0, 0), (45, .invokevirtual 49, 3, 15, 2, 1)], [(48, .istore_n 2, 1, 0, 0, 0), (49, .iinc 3 1, 3, 0, 0, 0), (52, .goto (-31), 3, 21, 0, 0), (55, .aload_n 0, 1, 0, 0, 0), (56, .aload_n 1, 1, 0, 0, 0), (57, .invokevirtual 33, 3, 40, 0, 4), (60, .putfield 29, 3, 1, 4, 2), (63, .return_, 1, 0, 0, 0)]]
def kc_X1_pair : Cd := [[(0, .iload_n 0, 1, 0, 0, 0), (1, .bipush 10, 2, 0, 0, 0), (3, .imul, 1, 0, 0, 0), (4, .iload_n 1, 1, 0, 0, 0), (5, .iadd, 1, 0, 0, 0), (6, .ireturn, 1, 0, 0, 0)]]
def kc_X1_cell : Cd := [[(0, .iload_n 0, 1, 0, 0, 0), (1, .iload_n 1, 1, 0, 0, 0), (2, .invokestatic 53, 3, 8, 2, 1), (5, .bipush 9, 2, 0, 0, 0), (7, .imul, 1, 0, 0, 0), (8, .iload_n 2, 1, 0, 0, 0), (9, .iadd, 1, 0, 0, 0), (10, .ireturn, 1, 0, 0, 0)]]
def kc_X1_beginTable : Cd := [[(0, .aload_n 0, 1, 0, 0, 0), (1, .getfield 14, 3, 1, 0, 1), (4, .iconst (-1), 1, 0, 0, 0), (5, .invokevirtual 57, 3, 57, 1, 5), (8, .aload_n 0, 1, 0, 0, 0), (9, .getfield 20, 3, 1, 1, 1), (12, .iconst 0, 1, 0, 0, 0), (13, .invokevirtual 57, 3, 57, 1, 5)], [(16, .iconst 0, 1, 0, 0, 0), (17, .istore_n 2, 1, 0, 0, 0), (18, .iload_n 2, 1, 0, 0, 0), (19, .aload_n 1, 1, 0, 0, 0), (20, .invokevirtual 60, 3, 39, 0, 4), (23, .if_icmp .ge 47, 3, 70, 0, 0), (26, .iconst 0, 1, 0, 0, 0), (27, .istore_n 3, 1, 0, 0, 0), (28, .iload_n 3, 1, 0, 0, 0), (29, .bipush 10, 2, 0, 0, 0), (31, .if_icmp .ge 33, 3, 64, 0, 0)], [(34, .aload_n 1, 1, 0, 0, 0), (35, .iload_n 3, 1, 0, 0, 0), (36, .invokevirtual 63, 3, 46, 1, 4), (39, .ifCond .eq 19, 3, 58, 0, 0), (42, .aload_n 0, 1, 0, 0, 0), (43, .aload_n 1, 1, 0, 0, 0), (44, .iload_n 2, 1, 0, 0, 0), (45, .iload_n 3, 1, 0, 0, 0), (46, .iconst 1, 1, 0, 0, 0), (47, .iload_n 2, 1, 0, 0, 0)], [(48, .ishl, 1, 0, 0, 0), (49, .iconst 1, 1, 0, 0, 0), (50, .iload_n 3, 1, 0, 0, 0), (51, .ishl, 1, 0, 0, 0), (52, .ior, 1, 0, 0, 0), (53, .iconst 0, 1, 0, 0, 0), (54, .invokevirtual 67, 3, 11, 5, 1), (57, .pop, 1, 0, 0, 0), (58, .iinc 3 1, 3, 0, 0, 0), (61, .goto (-33), 3, 28, 0, 0)], [(64, .iinc 2 1, 3, 0, 0, 0), (67, .goto (-49), 3, 18, 0, 0), (70, .return_, 1, 0, 0, 0)]]
def kc_X1_addCaught : Cd := [[(0, .aload_n 0, 1, 0, 0, 0), (1, .getfield 20, 3, 1, 1, 1), (4, .iload_n 2, 1, 0, 0, 0), (5, .iload_n 3, 1, 0, 0, 0), (6, .invokestatic 53, 3, 8, 2, 1), (9, .invokevirtual 71, 3, 55, 1, 5), (12, .istore 6, 2, 0, 0, 0), (14, .iload 4, 2, 0, 0, 0)], [(16, .iload 6, 2, 0, 0, 0), (18, .iconst (-1), 1, 0, 0, 0), (19, .ixor, 1, 0, 0, 0), (20, .iand, 1, 0, 0, 0), (21, .aload_n 1, 1, 0, 0, 0), (22, .invokevirtual 75, 3, 42, 0, 4), (25, .iand, 1, 0, 0, 0), (26, .istore 7, 2, 0, 0, 0), (28, .iconst 0, 1, 0, 0, 0), (29, .istore 8, 2, 0, 0, 0), (31, .iload 8, 2, 0, 0, 0)], [(33, .aload_n 1, 1, 0, 0, 0), (34, .invokevirtual 60, 3, 39, 0, 4), (37, .if_icmp .ge 35, 3, 72, 0, 0), (40, .iload 7, 2, 0, 0, 0), (42, .iconst 1, 1, 0, 0, 0), (43, .iload 8, 2, 0, 0, 0), (45, .ishl, 1, 0, 0, 0), (46, .iand, 1, 0, 0, 0), (47, .ifCond .eq 19, 3, 66, 0, 0)], [(50, .aload_n 0, 1, 0, 0, 0), (51, .getfield 14, 3, 1, 0, 1), (54, .iload_n 2, 1, 0, 0, 0), (55, .iload_n 3, 1, 0, 0, 0), (56, .iload 8, 2, 0, 0, 0), (58, .invokestatic 78, 3, 9, 3, 1), (61, .iload 5, 2, 0, 0, 0), (63, .invokevirtual 82, 3, 56, 2, 5)], [(66, .iinc 8 1, 3, 0, 0, 0), (69, .goto (-38), 3, 31, 0, 0), (72, .aload_n 0, 1, 0, 0, 0), (73, .getfield 20, 3, 1, 1, 1), (76, .iload_n 2, 1, 0, 0, 0), (77, .iload_n 3, 1, 0, 0, 0), (78, .invokestatic 53, 3, 8, 2, 1)], [(81, .iload 6, 2, 0, 0, 0), (83, .iload 7, 2, 0, 0, 0), (85, .ior, 1, 0, 0, 0), (86, .invokevirtual 82, 3, 56, 2, 5), (89, .iload 7, 2, 0, 0, 0), (91, .ifCond .eq 7, 3, 98, 0, 0), (94, .iconst 1, 1, 0, 0, 0), (95, .goto 4, 3, 99, 0, 0)], [(98, .iconst 0, 1, 0, 0, 0), (99, .ireturn, 1, 0, 0, 0)]]
def kc_X1_letRobberMove : Cd := [[(0, .iconst 0, 1, 0, 0, 0), (1, .istore_n 2, 1, 0, 0, 0), (2, .iload_n 2, 1, 0, 0, 0), (3, .aload_n 1, 1, 0, 0, 0), (4, .invokevirtual 60, 3, 39, 0, 4), (7, .if_icmp .ge 71, 3, 78, 0, 0), (10, .iconst 0, 1, 0, 0, 0), (11, .istore_n 3, 1, 0, 0, 0), (12, .iload_n 3, 1, 0, 0, 0), (13, .bipush 10, 2, 0, 0, 0), (15, .if_icmp .ge 57, 3, 72, 0, 0)], [(18, .aload_n 1, 1, 0, 0, 0), (19, .iload_n 3, 1, 0, 0, 0), (20, .invokevirtual 63, 3, 46, 1, 4), (23, .ifCond .eq 43, 3, 66, 0, 0), (26, .iconst 1, 1, 0, 0, 0), (27, .iload_n 2, 1, 0, 0, 0), (28, .ishl, 1, 0, 0, 0), (29, .iconst 1, 1, 0, 0, 0), (30, .iload_n 3, 1, 0, 0, 0), (31, .ishl, 1, 0, 0, 0)], [(32, .ior, 1, 0, 0, 0), (33, .aload_n 1, 1, 0, 0, 0), (34, .aload_n 0, 1, 0, 0, 0), (35, .getfield 20, 3, 1, 1, 1), (38, .iload_n 2, 1, 0, 0, 0), (39, .iload_n 3, 1, 0, 0, 0), (40, .invokestatic 53, 3, 8, 2, 1), (43, .invokevirtual 71, 3, 55, 1, 5), (46, .invokestatic 86, 3, 13, 2, 1)], [(49, .ior, 1, 0, 0, 0), (50, .istore 4, 2, 0, 0, 0), (52, .aload_n 0, 1, 0, 0, 0), (53, .getfield 23, 3, 1, 2, 1), (56, .iload_n 2, 1, 0, 0, 0), (57, .iload_n 3, 1, 0, 0, 0), (58, .invokestatic 53, 3, 8, 2, 1), (61, .iload 4, 2, 0, 0, 0), (63, .invokevirtual 82, 3, 56, 2, 5)], [(66, .iinc 3 1, 3, 0, 0, 0), (69, .goto (-57), 3, 12, 0, 0), (72, .iinc 2 1, 3, 0, 0, 0), (75, .goto (-73), 3, 2, 0, 0), (78, .return_, 1, 0, 0, 0)]]
def kc_X1_withoutEscape : Cd := [[(0, .iconst 0, 1, 0, 0, 0), (1, .istore_n 2, 1, 0, 0, 0), (2, .iconst 0, 1, 0, 0, 0), (3, .istore_n 3, 1, 0, 0, 0), (4, .iload_n 3, 1, 0, 0, 0), (5, .aload_n 0, 1, 0, 0, 0), (6, .invokevirtual 60, 3, 39, 0, 4), (9, .if_icmp .ge 27, 3, 36, 0, 0), (12, .aload_n 0, 1, 0, 0, 0), (13, .iload_n 3, 1, 0, 0, 0), (14, .invokevirtual 90, 3, 47, 1, 4)], [(17, .iload_n 1, 1, 0, 0, 0), (18, .iconst (-1), 1, 0, 0, 0), (19, .ixor, 1, 0, 0, 0), (20, .iand, 1, 0, 0, 0), (21, .ifCond .ne 9, 3, 30, 0, 0), (24, .iload_n 2, 1, 0, 0, 0), (25, .iconst 1, 1, 0, 0, 0), (26, .iload_n 3, 1, 0, 0, 0), (27, .ishl, 1, 0, 0, 0), (28, .ior, 1, 0, 0, 0), (29, .istore_n 2, 1, 0, 0, 0), (30, .iinc 3 1, 3, 0, 0, 0)], [(33, .goto (-29), 3, 4, 0, 0), (36, .iload_n 2, 1, 0, 0, 0), (37, .ireturn, 1, 0, 0, 0)]]
def kc_X1_letFirstCopMove : Cd := [[(0, .iconst 0, 1, 0, 0, 0), (1, .istore_n 2, 1, 0, 0, 0), (2, .iload_n 2, 1, 0, 0, 0), (3, .aload_n 1, 1, 0, 0, 0), (4, .invokevirtual 60, 3, 39, 0, 4), (7, .if_icmp .ge 94, 3, 101, 0, 0), (10, .iconst 0, 1, 0, 0, 0), (11, .istore_n 3, 1, 0, 0, 0), (12, .iload_n 3, 1, 0, 0, 0), (13, .bipush 10, 2, 0, 0, 0), (15, .if_icmp .ge 80, 3, 95, 0, 0)], [(18, .aload_n 1, 1, 0, 0, 0), (19, .iload_n 3, 1, 0, 0, 0), (20, .invokevirtual 63, 3, 46, 1, 4), (23, .ifCond .eq 66, 3, 89, 0, 0), (26, .iconst 0, 1, 0, 0, 0), (27, .istore 4, 2, 0, 0, 0), (29, .iconst 0, 1, 0, 0, 0), (30, .istore 5, 2, 0, 0, 0)], [(32, .iload 5, 2, 0, 0, 0), (34, .aload_n 1, 1, 0, 0, 0), (35, .invokevirtual 60, 3, 39, 0, 4), (38, .if_icmp .ge 37, 3, 75, 0, 0), (41, .aload_n 1, 1, 0, 0, 0), (42, .iload_n 2, 1, 0, 0, 0), (43, .iload 5, 2, 0, 0, 0), (45, .invokevirtual 93, 3, 48, 2, 4)], [(48, .ifCond .eq 21, 3, 69, 0, 0), (51, .iload 4, 2, 0, 0, 0), (53, .aload_n 0, 1, 0, 0, 0), (54, .getfield 23, 3, 1, 2, 1), (57, .iload 5, 2, 0, 0, 0), (59, .iload_n 3, 1, 0, 0, 0), (60, .invokestatic 53, 3, 8, 2, 1), (63, .invokevirtual 71, 3, 55, 1, 5)], [(66, .ior, 1, 0, 0, 0), (67, .istore 4, 2, 0, 0, 0), (69, .iinc 5 1, 3, 0, 0, 0), (72, .goto (-40), 3, 32, 0, 0), (75, .aload_n 0, 1, 0, 0, 0), (76, .getfield 26, 3, 1, 3, 1), (79, .iload_n 2, 1, 0, 0, 0)], [(80, .iload_n 3, 1, 0, 0, 0), (81, .invokestatic 53, 3, 8, 2, 1), (84, .iload 4, 2, 0, 0, 0), (86, .invokevirtual 82, 3, 56, 2, 5), (89, .iinc 3 1, 3, 0, 0, 0), (92, .goto (-80), 3, 12, 0, 0), (95, .iinc 2 1, 3, 0, 0, 0)], [(98, .goto (-96), 3, 2, 0, 0), (101, .return_, 1, 0, 0, 0)]]
def kc_X1_letSecondCopMove : Cd := [[(0, .iconst 0, 1, 0, 0, 0), (1, .istore_n 3, 1, 0, 0, 0), (2, .iconst 0, 1, 0, 0, 0), (3, .istore 4, 2, 0, 0, 0), (5, .iload 4, 2, 0, 0, 0), (7, .aload_n 1, 1, 0, 0, 0), (8, .invokevirtual 60, 3, 39, 0, 4), (11, .if_icmp .ge 98, 3, 109, 0, 0), (14, .iconst 0, 1, 0, 0, 0), (15, .istore 5, 2, 0, 0, 0)], [(17, .iload 5, 2, 0, 0, 0), (19, .bipush 10, 2, 0, 0, 0), (21, .if_icmp .ge 82, 3, 103, 0, 0), (24, .aload_n 1, 1, 0, 0, 0), (25, .iload 5, 2, 0, 0, 0), (27, .invokevirtual 63, 3, 46, 1, 4), (30, .ifCond .eq 67, 3, 97, 0, 0)], [(33, .iconst 0, 1, 0, 0, 0), (34, .istore 6, 2, 0, 0, 0), (36, .iconst 0, 1, 0, 0, 0), (37, .istore 7, 2, 0, 0, 0), (39, .iload 7, 2, 0, 0, 0), (41, .bipush 10, 2, 0, 0, 0), (43, .if_icmp .ge 39, 3, 82, 0, 0), (46, .aload_n 1, 1, 0, 0, 0), (47, .iload 5, 2, 0, 0, 0)], [(49, .iload 7, 2, 0, 0, 0), (51, .invokevirtual 93, 3, 48, 2, 4), (54, .ifCond .eq 22, 3, 76, 0, 0), (57, .iload 6, 2, 0, 0, 0), (59, .aload_n 0, 1, 0, 0, 0), (60, .getfield 26, 3, 1, 3, 1), (63, .iload 4, 2, 0, 0, 0)], [(65, .iload 7, 2, 0, 0, 0), (67, .invokestatic 53, 3, 8, 2, 1), (70, .invokevirtual 71, 3, 55, 1, 5), (73, .ior, 1, 0, 0, 0), (74, .istore 6, 2, 0, 0, 0), (76, .iinc 7 1, 3, 0, 0, 0), (79, .goto (-40), 3, 39, 0, 0)], [(82, .iload_n 3, 1, 0, 0, 0), (83, .aload_n 0, 1, 0, 0, 0), (84, .aload_n 1, 1, 0, 0, 0), (85, .iload 4, 2, 0, 0, 0), (87, .iload 5, 2, 0, 0, 0), (89, .iload 6, 2, 0, 0, 0), (91, .iload_n 2, 1, 0, 0, 0), (92, .invokevirtual 67, 3, 11, 5, 1), (95, .ior, 1, 0, 0, 0)], [(96, .istore_n 3, 1, 0, 0, 0), (97, .iinc 5 1, 3, 0, 0, 0), (100, .goto (-83), 3, 17, 0, 0), (103, .iinc 4 1, 3, 0, 0, 0), (106, .goto (-101), 3, 5, 0, 0), (109, .iload_n 3, 1, 0, 0, 0), (110, .ireturn, 1, 0, 0, 0)]]
def kc_X1_copsFirst : Cd := [[(0, .aload_n 0, 1, 0, 0, 0), (1, .getfield 14, 3, 1, 0, 1), (4, .iload_n 1, 1, 0, 0, 0), (5, .iload_n 2, 1, 0, 0, 0), (6, .iload_n 3, 1, 0, 0, 0), (7, .invokestatic 78, 3, 9, 3, 1), (10, .invokevirtual 71, 3, 55, 1, 5), (13, .ireturn, 1, 0, 0, 0)]]
def kc_X1_robberFirst : Cd := [[(0, .iload 4, 2, 0, 0, 0), (2, .iload_n 2, 1, 0, 0, 0), (3, .if_icmp .eq 9, 3, 12, 0, 0), (6, .iload 4, 2, 0, 0, 0), (8, .iload_n 3, 1, 0, 0, 0), (9, .if_icmp .ne 5, 3, 14, 0, 0), (12, .iconst 0, 1, 0, 0, 0), (13, .ireturn, 1, 0, 0, 0), (14, .iconst 0, 1, 0, 0, 0), (15, .istore 5, 2, 0, 0, 0)], [(17, .iconst 0, 1, 0, 0, 0), (18, .istore 6, 2, 0, 0, 0), (20, .iload 6, 2, 0, 0, 0), (22, .aload_n 1, 1, 0, 0, 0), (23, .invokevirtual 60, 3, 39, 0, 4), (26, .if_icmp .ge 47, 3, 73, 0, 0), (29, .aload_n 1, 1, 0, 0, 0), (30, .iload 4, 2, 0, 0, 0)], [(32, .iload 6, 2, 0, 0, 0), (34, .invokevirtual 93, 3, 48, 2, 4), (37, .ifCond .eq 30, 3, 67, 0, 0), (40, .aload_n 0, 1, 0, 0, 0), (41, .iload_n 2, 1, 0, 0, 0), (42, .iload_n 3, 1, 0, 0, 0), (43, .iload 6, 2, 0, 0, 0), (45, .invokevirtual 97, 3, 16, 3, 1)], [(48, .istore 7, 2, 0, 0, 0), (50, .iload 7, 2, 0, 0, 0), (52, .iconst (-1), 1, 0, 0, 0), (53, .if_icmp .ne 5, 3, 58, 0, 0), (56, .iconst (-1), 1, 0, 0, 0), (57, .ireturn, 1, 0, 0, 0), (58, .iload 5, 2, 0, 0, 0), (60, .iload 7, 2, 0, 0, 0), (62, .invokestatic 100, 3, 7001, 2, 0)], [(65, .istore 5, 2, 0, 0, 0), (67, .iinc 6 1, 3, 0, 0, 0), (70, .goto (-50), 3, 20, 0, 0), (73, .iload 5, 2, 0, 0, 0), (75, .ireturn, 1, 0, 0, 0)]]
def kq_X1_bestCopMove_0 : List (Nat × Rw) := [(0, .iconst (-1), 1, 0, 0, 0), (1, .istore 5, 2, 0, 0, 0), (3, .aload_n 0, 1, 0, 0, 0), (4, .iload_n 2, 1, 0, 0, 0), (5, .iload_n 3, 1, 0, 0, 0), (6, .iload 4, 2, 0, 0, 0), (8, .invokevirtual 97, 3, 16, 3, 1), (11, .istore 6, 2, 0, 0, 0), (13, .iload 6, 2, 0, 0, 0), (15, .ifCond .gt 5, 3, 20, 0, 0)]
def kq_X1_bestCopMove_1 : List (Nat × Rw) := [(18, .iconst (-1), 1, 0, 0, 0), (19, .ireturn, 1, 0, 0, 0), (20, .iconst 0, 1, 0, 0, 0), (21, .istore 7, 2, 0, 0, 0), (23, .iload 7, 2, 0, 0, 0), (25, .aload_n 1, 1, 0, 0, 0), (26, .invokevirtual 60, 3, 39, 0, 4), (29, .if_icmp .ge 102, 3, 131, 0, 0)]
def kq_X1_bestCopMove_2 : List (Nat × Rw) := [(32, .iconst 0, 1, 0, 0, 0), (33, .istore 8, 2, 0, 0, 0), (35, .iload 8, 2, 0, 0, 0), (37, .bipush 10, 2, 0, 0, 0), (39, .if_icmp .ge 86, 3, 125, 0, 0), (42, .aload_n 1, 1, 0, 0, 0), (43, .iload_n 2, 1, 0, 0, 0), (44, .iload 7, 2, 0, 0, 0), (46, .invokevirtual 93, 3, 48, 2, 4)]
def kq_X1_bestCopMove_3 : List (Nat × Rw) := [(49, .ifCond .eq 70, 3, 119, 0, 0), (52, .aload_n 1, 1, 0, 0, 0), (53, .iload_n 3, 1, 0, 0, 0), (54, .iload 8, 2, 0, 0, 0), (56, .invokevirtual 93, 3, 48, 2, 4), (59, .ifCond .eq 60, 3, 119, 0, 0), (62, .aload_n 0, 1, 0, 0, 0), (63, .aload_n 1, 1, 0, 0, 0)]
def kq_X1_bestCopMove_4 : List (Nat × Rw) := [(64, .iload 7, 2, 0, 0, 0), (66, .iload 8, 2, 0, 0, 0), (68, .iload 4, 2, 0, 0, 0), (70, .invokevirtual 105, 3, 17, 4, 1), (73, .istore 9, 2, 0, 0, 0), (75, .iload 7, 2, 0, 0, 0), (77, .iload 8, 2, 0, 0, 0), (79, .invokestatic 109, 3, 19, 2, 1)]
def kq_X1_bestCopMove_5 : List (Nat × Rw) := [(82, .istore 10, 2, 0, 0, 0), (84, .iload 9, 2, 0, 0, 0), (86, .iconst (-1), 1, 0, 0, 0), (87, .if_icmp .eq 32, 3, 119, 0, 0), (90, .iload 9, 2, 0, 0, 0), (92, .iload 6, 2, 0, 0, 0), (94, .if_icmp .lt 17, 3, 111, 0, 0)]
def kq_X1_bestCopMove_6 : List (Nat × Rw) := [(97, .iload 9, 2, 0, 0, 0), (99, .iload 6, 2, 0, 0, 0), (101, .if_icmp .ne 18, 3, 119, 0, 0), (104, .iload 10, 2, 0, 0, 0), (106, .iload 5, 2, 0, 0, 0), (108, .if_icmp .ge 11, 3, 119, 0, 0), (111, .iload 9, 2, 0, 0, 0)]
def kq_X1_bestCopMove_7 : List (Nat × Rw) := [(113, .istore 6, 2, 0, 0, 0), (115, .iload 10, 2, 0, 0, 0), (117, .istore 5, 2, 0, 0, 0), (119, .iinc 8 1, 3, 0, 0, 0), (122, .goto (-87), 3, 35, 0, 0), (125, .iinc 7 1, 3, 0, 0, 0)]
def kq_X1_bestCopMove_8 : List (Nat × Rw) := [(128, .goto (-105), 3, 23, 0, 0), (131, .iload 5, 2, 0, 0, 0), (133, .ireturn, 1, 0, 0, 0)]
def kc_X1_bestCopMove : Cd := [kq_X1_bestCopMove_0, kq_X1_bestCopMove_1, kq_X1_bestCopMove_2, kq_X1_bestCopMove_3, kq_X1_bestCopMove_4, kq_X1_bestCopMove_5, kq_X1_bestCopMove_6, kq_X1_bestCopMove_7, kq_X1_bestCopMove_8]
def kc_X1_moveNumber : Cd := [[(0, .iload_n 1, 1, 0, 0, 0), (1, .bipush 9, 2, 0, 0, 0), (3, .if_icmp .ne 7, 3, 10, 0, 0), (6, .iload_n 0, 1, 0, 0, 0), (7, .goto 17, 3, 24, 0, 0), (10, .bipush 10, 2, 0, 0, 0), (12, .iload_n 0, 1, 0, 0, 0), (13, .iload_n 1, 1, 0, 0, 0), (14, .invokestatic 112, 3, 7002, 2, 0)], [(17, .imul, 1, 0, 0, 0), (18, .iload_n 0, 1, 0, 0, 0), (19, .iload_n 1, 1, 0, 0, 0), (20, .invokestatic 100, 3, 7001, 2, 0), (23, .iadd, 1, 0, 0, 0), (24, .ireturn, 1, 0, 0, 0)]]
def kc_X1_bestFlight : Cd := [[(0, .iconst (-1), 1, 0, 0, 0), (1, .istore 5, 2, 0, 0, 0), (3, .iconst (-1), 1, 0, 0, 0), (4, .istore 6, 2, 0, 0, 0), (6, .iload 4, 2, 0, 0, 0), (8, .iload_n 2, 1, 0, 0, 0), (9, .if_icmp .eq 9, 3, 18, 0, 0), (12, .iload 4, 2, 0, 0, 0), (14, .iload_n 3, 1, 0, 0, 0), (15, .if_icmp .ne 5, 3, 20, 0, 0)], [(18, .iconst (-1), 1, 0, 0, 0), (19, .ireturn, 1, 0, 0, 0), (20, .iconst 0, 1, 0, 0, 0), (21, .istore 7, 2, 0, 0, 0), (23, .iload 7, 2, 0, 0, 0), (25, .aload_n 1, 1, 0, 0, 0), (26, .invokevirtual 60, 3, 39, 0, 4), (29, .if_icmp .ge 60, 3, 89, 0, 0)], [(32, .aload_n 1, 1, 0, 0, 0), (33, .iload 4, 2, 0, 0, 0), (35, .iload 7, 2, 0, 0, 0), (37, .invokevirtual 93, 3, 48, 2, 4), (40, .ifCond .eq 43, 3, 83, 0, 0), (43, .aload_n 0, 1, 0, 0, 0), (44, .iload_n 2, 1, 0, 0, 0), (45, .iload_n 3, 1, 0, 0, 0), (46, .iload 7, 2, 0, 0, 0)], [(48, .invokevirtual 97, 3, 16, 3, 1), (51, .istore 8, 2, 0, 0, 0), (53, .iload 8, 2, 0, 0, 0), (55, .iconst (-1), 1, 0, 0, 0), (56, .if_icmp .ne 8, 3, 64, 0, 0), (59, .ldc 115, 2, 1073741824, 0, 0), (61, .goto 5, 3, 66, 0, 0)], [(64, .iload 8, 2, 0, 0, 0), (66, .istore 9, 2, 0, 0, 0), (68, .iload 9, 2, 0, 0, 0), (70, .iload 6, 2, 0, 0, 0), (72, .if_icmp .le 11, 3, 83, 0, 0), (75, .iload 9, 2, 0, 0, 0), (77, .istore 6, 2, 0, 0, 0), (79, .iload 7, 2, 0, 0, 0)], [(81, .istore 5, 2, 0, 0, 0), (83, .iinc 7 1, 3, 0, 0, 0), (86, .goto (-63), 3, 23, 0, 0), (89, .iload 5, 2, 0, 0, 0), (91, .ireturn, 1, 0, 0, 0)]]
def kc_X1_oneCatches : Cd := [[(0, .aload_n 0, 1, 0, 0, 0), (1, .aload_n 1, 1, 0, 0, 0), (2, .bipush 9, 2, 0, 0, 0), (4, .invokevirtual 116, 3, 23, 2, 1), (7, .ireturn, 1, 0, 0, 0)]]
def kc_X1_twoCatch : Cd := [[(0, .iconst 0, 1, 0, 0, 0), (1, .istore_n 2, 1, 0, 0, 0), (2, .iload_n 2, 1, 0, 0, 0), (3, .aload_n 1, 1, 0, 0, 0), (4, .invokevirtual 60, 3, 39, 0, 4), (7, .if_icmp .ge 20, 3, 27, 0, 0), (10, .aload_n 0, 1, 0, 0, 0), (11, .aload_n 1, 1, 0, 0, 0), (12, .iload_n 2, 1, 0, 0, 0), (13, .invokevirtual 116, 3, 23, 2, 1)], [(16, .ifCond .eq 5, 3, 21, 0, 0), (19, .iconst 1, 1, 0, 0, 0), (20, .ireturn, 1, 0, 0, 0), (21, .iinc 2 1, 3, 0, 0, 0), (24, .goto (-22), 3, 2, 0, 0), (27, .iconst 0, 1, 0, 0, 0), (28, .ireturn, 1, 0, 0, 0)]]
def kc_X1_catchesFrom : Cd := [[(0, .iconst 0, 1, 0, 0, 0), (1, .istore_n 3, 1, 0, 0, 0), (2, .iload_n 3, 1, 0, 0, 0), (3, .aload_n 1, 1, 0, 0, 0), (4, .invokevirtual 60, 3, 39, 0, 4), (7, .if_icmp .ge 30, 3, 37, 0, 0), (10, .aload_n 0, 1, 0, 0, 0), (11, .getfield 20, 3, 1, 1, 1), (14, .iload_n 3, 1, 0, 0, 0), (15, .iload_n 2, 1, 0, 0, 0)], [(16, .invokestatic 53, 3, 8, 2, 1), (19, .invokevirtual 71, 3, 55, 1, 5), (22, .aload_n 1, 1, 0, 0, 0), (23, .invokevirtual 75, 3, 42, 0, 4), (26, .if_icmp .ne 5, 3, 31, 0, 0), (29, .iconst 1, 1, 0, 0, 0), (30, .ireturn, 1, 0, 0, 0), (31, .iinc 3 1, 3, 0, 0, 0)], [(34, .goto (-32), 3, 2, 0, 0), (37, .iconst 0, 1, 0, 0, 0), (38, .ireturn, 1, 0, 0, 0)]]
def kc_X2_init : Cd := [[(0, .aload_n 0, 1, 0, 0, 0), (1, .invokespecial 3, 3, 9999, 0, 0), (4, .aload_n 0, 1, 0, 0, 0), (5, .iconst 0, 1, 0, 0, 0), (6, .putfield 9, 3, 2, 0, 2), (9, .aload_n 0, 1, 0, 0, 0), (10, .iconst (-1), 1, 0, 0, 0), (11, .putfield 15, 3, 2, 1, 2), (14, .return_, 1, 0, 0, 0)]]
def kc_X2_prepare : Cd := [[(0, .aload_n 0, 1, 0, 0, 0), (1, .getfield 15, 3, 2, 1, 2), (4, .aload_n 1, 1, 0, 0, 0), (5, .invokevirtual 18, 3, 40, 0, 4), (8, .if_icmp .ne 4, 3, 12, 0, 0), (11, .return_, 1, 0, 0, 0), (12, .aload_n 0, 1, 0, 0, 0), (13, .aload_n 1, 1, 0, 0, 0), (14, .invokevirtual 24, 3, 42, 0, 4)], [(17, .putfield 9, 3, 2, 0, 2), (20, .iconst 0, 1, 0, 0, 0), (21, .istore_n 2, 1, 0, 0, 0), (22, .iload_n 2, 1, 0, 0, 0), (23, .aload_n 1, 1, 0, 0, 0), (24, .invokevirtual 24, 3, 42, 0, 4), (27, .if_icmp .gt 50, 3, 77, 0, 0), (30, .iload_n 2, 1, 0, 0, 0), (31, .invokestatic 27, 3, 79, 1, 0)], [(34, .aload_n 0, 1, 0, 0, 0), (35, .getfield 9, 3, 2, 0, 2), (38, .invokestatic 27, 3, 79, 1, 0), (41, .if_icmp .ge 7, 3, 48, 0, 0), (44, .iconst 1, 1, 0, 0, 0), (45, .goto 4, 3, 49, 0, 0)], [(48, .iconst 0, 1, 0, 0, 0), (49, .istore_n 3, 1, 0, 0, 0), (50, .iload_n 3, 1, 0, 0, 0), (51, .ifCond .eq 20, 3, 71, 0, 0), (54, .aload_n 1, 1, 0, 0, 0), (55, .iload_n 2, 1, 0, 0, 0), (56, .invokestatic 33, 3, 27, 2, 2), (59, .aload_n 1, 1, 0, 0, 0), (60, .invokevirtual 24, 3, 42, 0, 4), (63, .if_icmp .ne 8, 3, 71, 0, 0)], [(66, .aload_n 0, 1, 0, 0, 0), (67, .iload_n 2, 1, 0, 0, 0), (68, .putfield 9, 3, 2, 0, 2), (71, .iinc 2 1, 3, 0, 0, 0), (74, .goto (-52), 3, 22, 0, 0), (77, .aload_n 0, 1, 0, 0, 0), (78, .aload_n 1, 1, 0, 0, 0), (79, .invokevirtual 18, 3, 40, 0, 4)], [(82, .putfield 15, 3, 2, 1, 2), (85, .return_, 1, 0, 0, 0)]]
def kc_X2_least : Cd := [[(0, .aload_n 0, 1, 0, 0, 0), (1, .getfield 9, 3, 2, 0, 2), (4, .ireturn, 1, 0, 0, 0)]]
def kc_X2_spread : Cd := [[(0, .iload_n 1, 1, 0, 0, 0), (1, .istore_n 2, 1, 0, 0, 0), (2, .iconst 0, 1, 0, 0, 0), (3, .istore_n 3, 1, 0, 0, 0), (4, .iload_n 3, 1, 0, 0, 0), (5, .bipush 9, 2, 0, 0, 0), (7, .if_icmp .ge 27, 3, 34, 0, 0), (10, .aload_n 0, 1, 0, 0, 0), (11, .iload_n 2, 1, 0, 0, 0), (12, .invokestatic 37, 3, 28, 2, 2), (15, .istore 4, 2, 0, 0, 0)], [(17, .iload 4, 2, 0, 0, 0), (19, .iload_n 2, 1, 0, 0, 0), (20, .if_icmp .ne 5, 3, 25, 0, 0), (23, .iload_n 2, 1, 0, 0, 0), (24, .ireturn, 1, 0, 0, 0), (25, .iload 4, 2, 0, 0, 0), (27, .istore_n 2, 1, 0, 0, 0), (28, .iinc 3 1, 3, 0, 0, 0), (31, .goto (-27), 3, 4, 0, 0)], [(34, .iload_n 2, 1, 0, 0, 0), (35, .ireturn, 1, 0, 0, 0)]]
def kc_X2_afterRound : Cd := [[(0, .iconst 0, 1, 0, 0, 0), (1, .istore_n 2, 1, 0, 0, 0), (2, .iconst 0, 1, 0, 0, 0), (3, .istore_n 3, 1, 0, 0, 0), (4, .iload_n 3, 1, 0, 0, 0), (5, .aload_n 0, 1, 0, 0, 0), (6, .invokevirtual 40, 3, 39, 0, 4), (9, .if_icmp .ge 42, 3, 51, 0, 0), (12, .aload_n 0, 1, 0, 0, 0), (13, .iload_n 3, 1, 0, 0, 0), (14, .invokevirtual 43, 3, 43, 1, 4)], [(17, .iload_n 1, 1, 0, 0, 0), (18, .iconst (-1), 1, 0, 0, 0), (19, .ixor, 1, 0, 0, 0), (20, .iand, 1, 0, 0, 0), (21, .istore 4, 2, 0, 0, 0), (23, .iload_n 1, 1, 0, 0, 0), (24, .iconst 1, 1, 0, 0, 0), (25, .iload_n 3, 1, 0, 0, 0), (26, .ishl, 1, 0, 0, 0), (27, .iand, 1, 0, 0, 0), (28, .ifCond .eq 17, 3, 45, 0, 0), (31, .iload 4, 2, 0, 0, 0)], [(33, .invokestatic 27, 3, 79, 1, 0), (36, .iconst 1, 1, 0, 0, 0), (37, .if_icmp .ne 8, 3, 45, 0, 0), (40, .iload_n 2, 1, 0, 0, 0), (41, .iload 4, 2, 0, 0, 0), (43, .ior, 1, 0, 0, 0), (44, .istore_n 2, 1, 0, 0, 0), (45, .iinc 3 1, 3, 0, 0, 0)], [(48, .goto (-44), 3, 4, 0, 0), (51, .iload_n 1, 1, 0, 0, 0), (52, .iload_n 2, 1, 0, 0, 0), (53, .ior, 1, 0, 0, 0), (54, .ireturn, 1, 0, 0, 0)]]
def kc_X3_init : Cd := [[(0, .aload_n 0, 1, 0, 0, 0), (1, .invokespecial 3, 3, 9999, 0, 0), (4, .aload_n 0, 1, 0, 0, 0), (5, .new 9, 3, 5, 1, 0), (8, .dup, 1, 0, 0, 0), (9, .sipush 200, 3, 0, 0, 0), (12, .invokespecial 11, 3, 54, 1, 5), (15, .putfield 14, 3, 3, 0, 1)], [(18, .aload_n 0, 1, 0, 0, 0), (19, .new 9, 3, 5, 1, 0), (22, .dup, 1, 0, 0, 0), (23, .sipush 200, 3, 0, 0, 0), (26, .invokespecial 11, 3, 54, 1, 5), (29, .putfield 20, 3, 3, 1, 1)], [(32, .aload_n 0, 1, 0, 0, 0), (33, .new 9, 3, 5, 1, 0), (36, .dup, 1, 0, 0, 0), (37, .sipush 200, 3, 0, 0, 0), (40, .invokespecial 11, 3, 54, 1, 5), (43, .putfield 23, 3, 3, 2, 1), (46, .aload_n 0, 1, 0, 0, 0), (47, .iconst 0, 1, 0, 0, 0)], [(48, .putfield 26, 3, 3, 3, 2), (51, .return_, 1, 0, 0, 0)]]
def kc_X3_count : Cd := [[(0, .aload_n 0, 1, 0, 0, 0), (1, .getfield 26, 3, 3, 3, 2), (4, .ireturn, 1, 0, 0, 0)]]
def kc_X3_forget : Cd := [[(0, .aload_n 0, 1, 0, 0, 0), (1, .iconst 0, 1, 0, 0, 0), (2, .putfield 26, 3, 3, 3, 2), (5, .return_, 1, 0, 0, 0)]]
def kc_X3_add : Cd := [[(0, .aload_n 0, 1, 0, 0, 0), (1, .getfield 26, 3, 3, 3, 2), (4, .sipush 200, 3, 0, 0, 0), (7, .if_icmp .ge 49, 3, 56, 0, 0), (10, .aload_n 0, 1, 0, 0, 0), (11, .getfield 14, 3, 3, 0, 1), (14, .aload_n 0, 1, 0, 0, 0), (15, .getfield 26, 3, 3, 3, 2)], [(18, .iload_n 1, 1, 0, 0, 0), (19, .invokevirtual 30, 3, 56, 2, 5), (22, .aload_n 0, 1, 0, 0, 0), (23, .getfield 20, 3, 3, 1, 1), (26, .aload_n 0, 1, 0, 0, 0), (27, .getfield 26, 3, 3, 3, 2), (30, .iload_n 2, 1, 0, 0, 0), (31, .invokevirtual 30, 3, 56, 2, 5)], [(34, .aload_n 0, 1, 0, 0, 0), (35, .getfield 23, 3, 3, 2, 1), (38, .aload_n 0, 1, 0, 0, 0), (39, .getfield 26, 3, 3, 3, 2), (42, .iload_n 3, 1, 0, 0, 0), (43, .invokevirtual 30, 3, 56, 2, 5), (46, .aload_n 0, 1, 0, 0, 0), (47, .dup, 1, 0, 0, 0)], [(48, .getfield 26, 3, 3, 3, 2), (51, .iconst 1, 1, 0, 0, 0), (52, .iadd, 1, 0, 0, 0), (53, .putfield 26, 3, 3, 3, 2), (56, .return_, 1, 0, 0, 0)]]
def kc_X3_latestRoom : Cd := [[(0, .aload_n 0, 1, 0, 0, 0), (1, .getfield 14, 3, 3, 0, 1), (4, .aload_n 0, 1, 0, 0, 0), (5, .getfield 26, 3, 3, 3, 2), (8, .iconst 1, 1, 0, 0, 0), (9, .isub, 1, 0, 0, 0), (10, .invokevirtual 34, 3, 55, 1, 5), (13, .ireturn, 1, 0, 0, 0)]]
def kc_X3_latestOther : Cd := [[(0, .aload_n 0, 1, 0, 0, 0), (1, .getfield 20, 3, 3, 1, 1), (4, .aload_n 0, 1, 0, 0, 0), (5, .getfield 26, 3, 3, 3, 2), (8, .iconst 1, 1, 0, 0, 0), (9, .isub, 1, 0, 0, 0), (10, .invokevirtual 34, 3, 55, 1, 5), (13, .ireturn, 1, 0, 0, 0)]]
def kc_X3_latestSet : Cd := [[(0, .aload_n 0, 1, 0, 0, 0), (1, .getfield 23, 3, 3, 2, 1), (4, .aload_n 0, 1, 0, 0, 0), (5, .getfield 26, 3, 3, 3, 2), (8, .iconst 1, 1, 0, 0, 0), (9, .isub, 1, 0, 0, 0), (10, .invokevirtual 34, 3, 55, 1, 5), (13, .ireturn, 1, 0, 0, 0)]]
def kc_X3_dropLatest : Cd := [[(0, .aload_n 0, 1, 0, 0, 0), (1, .getfield 26, 3, 3, 3, 2), (4, .ifCond .le 13, 3, 17, 0, 0), (7, .aload_n 0, 1, 0, 0, 0), (8, .dup, 1, 0, 0, 0), (9, .getfield 26, 3, 3, 3, 2), (12, .iconst 1, 1, 0, 0, 0), (13, .isub, 1, 0, 0, 0), (14, .putfield 26, 3, 3, 3, 2)], [(17, .return_, 1, 0, 0, 0)]]
def kc_X4_init : Cd := [[(0, .aload_n 0, 1, 0, 0, 0), (1, .invokespecial 3, 3, 9999, 0, 0), (4, .aload_n 0, 1, 0, 0, 0), (5, .new 9, 3, 5, 1, 0), (8, .dup, 1, 0, 0, 0), (9, .bipush 9, 2, 0, 0, 0), (11, .invokespecial 11, 3, 54, 1, 5), (14, .putfield 14, 3, 4, 0, 1)], [(17, .aload_n 0, 1, 0, 0, 0), (18, .iconst 1, 1, 0, 0, 0), (19, .putfield 20, 3, 4, 1, 2), (22, .aload_n 0, 1, 0, 0, 0), (23, .iconst 0, 1, 0, 0, 0), (24, .putfield 24, 3, 4, 2, 2), (27, .return_, 1, 0, 0, 0)]]
def kc_X4_begin : Cd := [[(0, .aload_n 0, 1, 0, 0, 0), (1, .iconst 1, 1, 0, 0, 0), (2, .iload_n 1, 1, 0, 0, 0), (3, .bipush 9, 2, 0, 0, 0), (5, .invokestatic 27, 3, 7002, 2, 0), (8, .invokestatic 33, 3, 7001, 2, 0), (11, .putfield 20, 3, 4, 1, 2), (14, .aload_n 0, 1, 0, 0, 0), (15, .getfield 14, 3, 4, 0, 1)], [(18, .iconst 0, 1, 0, 0, 0), (19, .invokevirtual 36, 3, 57, 1, 5), (22, .aload_n 0, 1, 0, 0, 0), (23, .dup, 1, 0, 0, 0), (24, .getfield 24, 3, 4, 2, 2), (27, .iconst 1, 1, 0, 0, 0), (28, .iadd, 1, 0, 0, 0), (29, .putfield 24, 3, 4, 2, 2)], [(32, .return_, 1, 0, 0, 0)]]
def kc_X4_size : Cd := [[(0, .aload_n 0, 1, 0, 0, 0), (1, .getfield 20, 3, 4, 1, 2), (4, .ireturn, 1, 0, 0, 0)]]
def kc_X4_version : Cd := [[(0, .aload_n 0, 1, 0, 0, 0), (1, .getfield 24, 3, 4, 2, 2), (4, .ireturn, 1, 0, 0, 0)]]
def kc_X4_has : Cd := [[(0, .iload_n 1, 1, 0, 0, 0), (1, .ifCond .lt 15, 3, 16, 0, 0), (4, .iload_n 1, 1, 0, 0, 0), (5, .aload_n 0, 1, 0, 0, 0), (6, .getfield 20, 3, 4, 1, 2), (9, .if_icmp .ge 7, 3, 16, 0, 0), (12, .iconst 1, 1, 0, 0, 0), (13, .goto 4, 3, 17, 0, 0)], [(16, .iconst 0, 1, 0, 0, 0), (17, .ireturn, 1, 0, 0, 0)]]
def kc_X4_all : Cd := [[(0, .iconst 1, 1, 0, 0, 0), (1, .aload_n 0, 1, 0, 0, 0), (2, .getfield 20, 3, 4, 1, 2), (5, .ishl, 1, 0, 0, 0), (6, .iconst 1, 1, 0, 0, 0), (7, .isub, 1, 0, 0, 0), (8, .ireturn, 1, 0, 0, 0)]]
def kc_X4_nextTo : Cd := [[(0, .aload_n 0, 1, 0, 0, 0), (1, .getfield 14, 3, 4, 0, 1), (4, .iload_n 1, 1, 0, 0, 0), (5, .invokevirtual 50, 3, 55, 1, 5), (8, .ireturn, 1, 0, 0, 0)]]
def kc_X4_hasDoor : Cd := [[(0, .aload_n 0, 1, 0, 0, 0), (1, .iload_n 1, 1, 0, 0, 0), (2, .invokevirtual 54, 3, 43, 1, 4), (5, .iconst 1, 1, 0, 0, 0), (6, .iload_n 2, 1, 0, 0, 0), (7, .ishl, 1, 0, 0, 0), (8, .iand, 1, 0, 0, 0), (9, .ifCond .eq 7, 3, 16, 0, 0), (12, .iconst 1, 1, 0, 0, 0), (13, .goto 4, 3, 17, 0, 0)], [(16, .iconst 0, 1, 0, 0, 0), (17, .ireturn, 1, 0, 0, 0)]]
def kc_X4_turnDoor : Cd := [[(0, .aload_n 0, 1, 0, 0, 0), (1, .getfield 14, 3, 4, 0, 1), (4, .iload_n 1, 1, 0, 0, 0), (5, .aload_n 0, 1, 0, 0, 0), (6, .iload_n 1, 1, 0, 0, 0), (7, .invokevirtual 54, 3, 43, 1, 4), (10, .iconst 1, 1, 0, 0, 0), (11, .iload_n 2, 1, 0, 0, 0), (12, .ishl, 1, 0, 0, 0), (13, .ixor, 1, 0, 0, 0), (14, .invokevirtual 57, 3, 56, 2, 5)], [(17, .aload_n 0, 1, 0, 0, 0), (18, .getfield 14, 3, 4, 0, 1), (21, .iload_n 2, 1, 0, 0, 0), (22, .aload_n 0, 1, 0, 0, 0), (23, .iload_n 2, 1, 0, 0, 0), (24, .invokevirtual 54, 3, 43, 1, 4), (27, .iconst 1, 1, 0, 0, 0), (28, .iload_n 1, 1, 0, 0, 0), (29, .ishl, 1, 0, 0, 0), (30, .ixor, 1, 0, 0, 0), (31, .invokevirtual 57, 3, 56, 2, 5)], [(34, .aload_n 0, 1, 0, 0, 0), (35, .dup, 1, 0, 0, 0), (36, .getfield 24, 3, 4, 2, 2), (39, .iconst 1, 1, 0, 0, 0), (40, .iadd, 1, 0, 0, 0), (41, .putfield 24, 3, 4, 2, 2), (44, .return_, 1, 0, 0, 0)]]
def kc_X4_isPlace : Cd := [[(0, .aload_n 0, 1, 0, 0, 0), (1, .iload_n 1, 1, 0, 0, 0), (2, .invokevirtual 65, 3, 41, 1, 4), (5, .ifCond .ne 9, 3, 14, 0, 0), (8, .iload_n 1, 1, 0, 0, 0), (9, .bipush 9, 2, 0, 0, 0), (11, .if_icmp .ne 7, 3, 18, 0, 0), (14, .iconst 1, 1, 0, 0, 0), (15, .goto 4, 3, 19, 0, 0)], [(18, .iconst 0, 1, 0, 0, 0), (19, .ireturn, 1, 0, 0, 0)]]
def kc_X4_nearTo : Cd := [[(0, .aload_n 0, 1, 0, 0, 0), (1, .getfield 14, 3, 4, 0, 1), (4, .iload_n 1, 1, 0, 0, 0), (5, .invokevirtual 50, 3, 55, 1, 5), (8, .iconst 1, 1, 0, 0, 0), (9, .iload_n 1, 1, 0, 0, 0), (10, .ishl, 1, 0, 0, 0), (11, .ior, 1, 0, 0, 0), (12, .ireturn, 1, 0, 0, 0)]]
def kc_X4_areNear : Cd := [[(0, .iload_n 1, 1, 0, 0, 0), (1, .iload_n 2, 1, 0, 0, 0), (2, .if_icmp .eq 18, 3, 20, 0, 0), (5, .aload_n 0, 1, 0, 0, 0), (6, .getfield 14, 3, 4, 0, 1), (9, .iload_n 1, 1, 0, 0, 0), (10, .invokevirtual 50, 3, 55, 1, 5), (13, .iconst 1, 1, 0, 0, 0), (14, .iload_n 2, 1, 0, 0, 0), (15, .ishl, 1, 0, 0, 0)], [(16, .iand, 1, 0, 0, 0), (17, .ifCond .eq 7, 3, 24, 0, 0), (20, .iconst 1, 1, 0, 0, 0), (21, .goto 4, 3, 25, 0, 0), (24, .iconst 0, 1, 0, 0, 0), (25, .ireturn, 1, 0, 0, 0)]]
def kc_X4_nextToSome : Cd := [[(0, .iconst 0, 1, 0, 0, 0), (1, .istore_n 2, 1, 0, 0, 0), (2, .iconst 0, 1, 0, 0, 0), (3, .istore_n 3, 1, 0, 0, 0), (4, .iload_n 3, 1, 0, 0, 0), (5, .aload_n 0, 1, 0, 0, 0), (6, .getfield 20, 3, 4, 1, 2), (9, .if_icmp .ge 25, 3, 34, 0, 0), (12, .iload_n 1, 1, 0, 0, 0), (13, .iconst 1, 1, 0, 0, 0), (14, .iload_n 3, 1, 0, 0, 0), (15, .ishl, 1, 0, 0, 0)], [(16, .iand, 1, 0, 0, 0), (17, .ifCond .eq 11, 3, 28, 0, 0), (20, .iload_n 2, 1, 0, 0, 0), (21, .aload_n 0, 1, 0, 0, 0), (22, .iload_n 3, 1, 0, 0, 0), (23, .invokevirtual 54, 3, 43, 1, 4), (26, .ior, 1, 0, 0, 0), (27, .istore_n 2, 1, 0, 0, 0), (28, .iinc 3 1, 3, 0, 0, 0), (31, .goto (-27), 3, 4, 0, 0)], [(34, .iload_n 2, 1, 0, 0, 0), (35, .ireturn, 1, 0, 0, 0)]]
def kc_X4_afterShot : Cd := [[(0, .aload_n 0, 1, 0, 0, 0), (1, .iload_n 1, 1, 0, 0, 0), (2, .iconst 1, 1, 0, 0, 0), (3, .iload_n 2, 1, 0, 0, 0), (4, .ishl, 1, 0, 0, 0), (5, .iconst (-1), 1, 0, 0, 0), (6, .ixor, 1, 0, 0, 0), (7, .iand, 1, 0, 0, 0), (8, .invokevirtual 69, 3, 49, 1, 4), (11, .ireturn, 1, 0, 0, 0)]]
def kc_X4_losesAllCorners : Cd := [[(0, .aload_n 0, 1, 0, 0, 0), (1, .invokevirtual 72, 3, 42, 0, 4), (4, .istore_n 1, 1, 0, 0, 0), (5, .iconst 1, 1, 0, 0, 0), (6, .istore_n 2, 1, 0, 0, 0), (7, .iload_n 2, 1, 0, 0, 0), (8, .aload_n 0, 1, 0, 0, 0), (9, .getfield 20, 3, 4, 1, 2), (12, .if_icmp .ge 30, 3, 42, 0, 0), (15, .aload_n 0, 1, 0, 0, 0)], [(16, .iload_n 1, 1, 0, 0, 0), (17, .invokevirtual 76, 3, 52, 1, 4), (20, .istore_n 3, 1, 0, 0, 0), (21, .iload_n 3, 1, 0, 0, 0), (22, .iconst (-1), 1, 0, 0, 0), (23, .if_icmp .ne 5, 3, 28, 0, 0), (26, .iconst 0, 1, 0, 0, 0), (27, .ireturn, 1, 0, 0, 0), (28, .iload_n 1, 1, 0, 0, 0), (29, .iconst 1, 1, 0, 0, 0), (30, .iload_n 3, 1, 0, 0, 0), (31, .ishl, 1, 0, 0, 0)], [(32, .iconst (-1), 1, 0, 0, 0), (33, .ixor, 1, 0, 0, 0), (34, .iand, 1, 0, 0, 0), (35, .istore_n 1, 1, 0, 0, 0), (36, .iinc 2 1, 3, 0, 0, 0), (39, .goto (-32), 3, 7, 0, 0), (42, .iconst 1, 1, 0, 0, 0), (43, .ireturn, 1, 0, 0, 0)]]
def kc_X4_lowestCorner : Cd := [[(0, .iconst 0, 1, 0, 0, 0), (1, .istore_n 2, 1, 0, 0, 0), (2, .iload_n 2, 1, 0, 0, 0), (3, .aload_n 0, 1, 0, 0, 0), (4, .getfield 20, 3, 4, 1, 2), (7, .if_icmp .ge 28, 3, 35, 0, 0), (10, .iload_n 1, 1, 0, 0, 0), (11, .iconst 1, 1, 0, 0, 0), (12, .iload_n 2, 1, 0, 0, 0), (13, .ishl, 1, 0, 0, 0), (14, .iand, 1, 0, 0, 0), (15, .ifCond .eq 14, 3, 29, 0, 0)], [(18, .aload_n 0, 1, 0, 0, 0), (19, .iload_n 2, 1, 0, 0, 0), (20, .iload_n 1, 1, 0, 0, 0), (21, .invokevirtual 79, 3, 53, 2, 4), (24, .ifCond .eq 5, 3, 29, 0, 0), (27, .iload_n 2, 1, 0, 0, 0), (28, .ireturn, 1, 0, 0, 0), (29, .iinc 2 1, 3, 0, 0, 0)], [(32, .goto (-30), 3, 2, 0, 0), (35, .iconst (-1), 1, 0, 0, 0), (36, .ireturn, 1, 0, 0, 0)]]
def kc_X4_isCorner : Cd := [[(0, .aload_n 0, 1, 0, 0, 0), (1, .iload_n 1, 1, 0, 0, 0), (2, .invokevirtual 83, 3, 47, 1, 4), (5, .iload_n 2, 1, 0, 0, 0), (6, .iand, 1, 0, 0, 0), (7, .istore_n 3, 1, 0, 0, 0), (8, .iconst 0, 1, 0, 0, 0), (9, .istore 4, 2, 0, 0, 0), (11, .iload 4, 2, 0, 0, 0), (13, .aload_n 0, 1, 0, 0, 0), (14, .getfield 20, 3, 4, 1, 2)], [(17, .if_icmp .ge 51, 3, 68, 0, 0), (20, .iload 4, 2, 0, 0, 0), (22, .iload_n 1, 1, 0, 0, 0), (23, .if_icmp .eq 16, 3, 39, 0, 0), (26, .iload_n 2, 1, 0, 0, 0), (27, .iconst 1, 1, 0, 0, 0), (28, .iload 4, 2, 0, 0, 0), (30, .ishl, 1, 0, 0, 0), (31, .iand, 1, 0, 0, 0)], [(32, .ifCond .eq 7, 3, 39, 0, 0), (35, .iconst 1, 1, 0, 0, 0), (36, .goto 4, 3, 40, 0, 0), (39, .iconst 0, 1, 0, 0, 0), (40, .istore 5, 2, 0, 0, 0), (42, .iload 5, 2, 0, 0, 0), (44, .ifCond .eq 18, 3, 62, 0, 0), (47, .iload_n 3, 1, 0, 0, 0)], [(48, .aload_n 0, 1, 0, 0, 0), (49, .iload 4, 2, 0, 0, 0), (51, .invokevirtual 83, 3, 47, 1, 4), (54, .iconst (-1), 1, 0, 0, 0), (55, .ixor, 1, 0, 0, 0), (56, .iand, 1, 0, 0, 0), (57, .ifCond .ne 5, 3, 62, 0, 0), (60, .iconst 1, 1, 0, 0, 0), (61, .ireturn, 1, 0, 0, 0), (62, .iinc 4 1, 3, 0, 0, 0)], [(65, .goto (-54), 3, 11, 0, 0), (68, .iconst 0, 1, 0, 0, 0), (69, .ireturn, 1, 0, 0, 0)]]
def kc_X6_init : Cd := [[(0, .aload_n 0, 1, 0, 0, 0), (1, .invokespecial 1, 3, 9999, 0, 0), (4, .aload_n 0, 1, 0, 0, 0), (5, .iload_n 1, 1, 0, 0, 0), (6, .ifCond .ge 7, 3, 13, 0, 0), (9, .iconst 0, 1, 0, 0, 0), (10, .goto 4, 3, 14, 0, 0), (13, .iload_n 1, 1, 0, 0, 0), (14, .newarray .int, 2, 0, 0, 0)], [(16, .putfield 7, 3, 5, 0, 1), (19, .return_, 1, 0, 0, 0)]]
def kc_X6_at : Cd := [[(0, .iload_n 1, 1, 0, 0, 0), (1, .ifCond .lt 21, 3, 22, 0, 0), (4, .iload_n 1, 1, 0, 0, 0), (5, .aload_n 0, 1, 0, 0, 0), (6, .getfield 7, 3, 5, 0, 1), (9, .arraylength, 1, 0, 0, 0), (10, .if_icmp .ge 12, 3, 22, 0, 0), (13, .aload_n 0, 1, 0, 0, 0), (14, .getfield 7, 3, 5, 0, 1)], [(17, .iload_n 1, 1, 0, 0, 0), (18, .iaload, 1, 0, 0, 0), (19, .goto 4, 3, 23, 0, 0), (22, .iconst 0, 1, 0, 0, 0), (23, .ireturn, 1, 0, 0, 0)]]
def kc_X6_put : Cd := [[(0, .iload_n 1, 1, 0, 0, 0), (1, .ifCond .lt 19, 3, 20, 0, 0), (4, .iload_n 1, 1, 0, 0, 0), (5, .aload_n 0, 1, 0, 0, 0), (6, .getfield 7, 3, 5, 0, 1), (9, .arraylength, 1, 0, 0, 0), (10, .if_icmp .ge 10, 3, 20, 0, 0), (13, .aload_n 0, 1, 0, 0, 0), (14, .getfield 7, 3, 5, 0, 1)], [(17, .iload_n 1, 1, 0, 0, 0), (18, .iload_n 2, 1, 0, 0, 0), (19, .iastore, 1, 0, 0, 0), (20, .return_, 1, 0, 0, 0)]]
def kc_X6_putAll : Cd := [[(0, .iconst 0, 1, 0, 0, 0), (1, .istore_n 2, 1, 0, 0, 0), (2, .iload_n 2, 1, 0, 0, 0), (3, .aload_n 0, 1, 0, 0, 0), (4, .getfield 7, 3, 5, 0, 1), (7, .arraylength, 1, 0, 0, 0), (8, .if_icmp .ge 16, 3, 24, 0, 0), (11, .aload_n 0, 1, 0, 0, 0), (12, .getfield 7, 3, 5, 0, 1), (15, .iload_n 2, 1, 0, 0, 0)], [(16, .iload_n 1, 1, 0, 0, 0), (17, .iastore, 1, 0, 0, 0), (18, .iinc 2 1, 3, 0, 0, 0), (21, .goto (-19), 3, 2, 0, 0), (24, .return_, 1, 0, 0, 0)]]
def kc_X7_init : Cd := [[(0, .aload_n 0, 1, 0, 0, 0), (1, .invokespecial 3, 3, 9999, 0, 0), (4, .aload_n 0, 1, 0, 0, 0), (5, .new 9, 3, 4, 3, 0), (8, .dup, 1, 0, 0, 0), (9, .invokespecial 11, 3, 37, 0, 4), (12, .putfield 12, 3, 6, 0, 1), (15, .aload_n 0, 1, 0, 0, 0)], [(16, .new 16, 3, 3, 4, 0), (19, .dup, 1, 0, 0, 0), (20, .invokespecial 18, 3, 29, 0, 3), (23, .putfield 19, 3, 6, 1, 1), (26, .aload_n 0, 1, 0, 0, 0), (27, .new 23, 3, 1, 5, 0), (30, .dup, 1, 0, 0, 0), (31, .invokespecial 25, 3, 6, 0, 1)], [(34, .putfield 26, 3, 6, 2, 1), (37, .aload_n 0, 1, 0, 0, 0), (38, .new 30, 3, 0, 3, 0), (41, .dup, 1, 0, 0, 0), (42, .invokespecial 32, 3, 0, 0, 0), (45, .putfield 33, 3, 6, 3, 1)], [(48, .aload_n 0, 1, 0, 0, 0), (49, .new 37, 3, 2, 2, 0), (52, .dup, 1, 0, 0, 0), (53, .invokespecial 39, 3, 24, 0, 2), (56, .putfield 40, 3, 6, 4, 1), (59, .aload_n 0, 1, 0, 0, 0), (60, .aload_n 0, 1, 0, 0, 0), (61, .getfield 12, 3, 6, 0, 1)], [(64, .invokevirtual 44, 3, 42, 0, 4), (67, .putfield 48, 3, 6, 5, 2), (70, .return_, 1, 0, 0, 0)]]
def kc_X7_rooms : Cd := [[(0, .iload_n 1, 1, 0, 0, 0), (1, .iconst 1, 1, 0, 0, 0), (2, .if_icmp .lt 9, 3, 11, 0, 0), (5, .iload_n 1, 1, 0, 0, 0), (6, .bipush 9, 2, 0, 0, 0), (8, .if_icmp .le 13, 3, 21, 0, 0), (11, .new 52, 3, 1000, 54, 56), (14, .dup, 1, 0, 0, 0), (15, .ldc 54, 2, 0, 0, 0)], [(17, .invokespecial 56, 3, 8888, 0, 0), (20, .athrow, 1, 0, 0, 0), (21, .aload_n 0, 1, 0, 0, 0), (22, .getfield 12, 3, 6, 0, 1), (25, .invokevirtual 59, 3, 39, 0, 4), (28, .istore_n 2, 1, 0, 0, 0), (29, .aload_n 0, 1, 0, 0, 0), (30, .getfield 12, 3, 6, 0, 1)], [(33, .iload_n 1, 1, 0, 0, 0), (34, .invokevirtual 62, 3, 38, 1, 4), (37, .aload_n 0, 1, 0, 0, 0), (38, .invokevirtual 66, 3, 73, 0, 6), (41, .iload_n 2, 1, 0, 0, 0), (42, .ireturn, 1, 0, 0, 0)]]
def kc_X7_door : Cd := [[(0, .aload_n 0, 1, 0, 0, 0), (1, .iload_n 1, 1, 0, 0, 0), (2, .invokevirtual 82, 3, 74, 1, 6), (5, .aload_n 0, 1, 0, 0, 0), (6, .iload_n 2, 1, 0, 0, 0), (7, .invokevirtual 82, 3, 74, 1, 6), (10, .iload_n 1, 1, 0, 0, 0), (11, .iload_n 2, 1, 0, 0, 0), (12, .if_icmp .ne 13, 3, 25, 0, 0), (15, .new 52, 3, 1000, 85, 56)], [(18, .dup, 1, 0, 0, 0), (19, .ldc 85, 2, 0, 0, 0), (21, .invokespecial 56, 3, 8888, 0, 0), (24, .athrow, 1, 0, 0, 0), (25, .aload_n 0, 1, 0, 0, 0), (26, .getfield 12, 3, 6, 0, 1), (29, .iload_n 1, 1, 0, 0, 0), (30, .iload_n 2, 1, 0, 0, 0), (31, .invokevirtual 87, 3, 44, 2, 4)], [(34, .istore 4, 2, 0, 0, 0), (36, .iload 4, 2, 0, 0, 0), (38, .iload_n 3, 1, 0, 0, 0), (39, .if_icmp .eq 40, 3, 79, 0, 0), (42, .aload_n 0, 1, 0, 0, 0), (43, .invokevirtual 91, 3, 77, 0, 6), (46, .aload_n 0, 1, 0, 0, 0), (47, .getfield 19, 3, 6, 1, 1)], [(50, .iload_n 1, 1, 0, 0, 0), (51, .iload_n 2, 1, 0, 0, 0), (52, .aload_n 0, 1, 0, 0, 0), (53, .getfield 48, 3, 6, 5, 2), (56, .invokevirtual 94, 3, 32, 3, 3), (59, .aload_n 0, 1, 0, 0, 0), (60, .getfield 12, 3, 6, 0, 1), (63, .iload_n 1, 1, 0, 0, 0)], [(64, .iload_n 2, 1, 0, 0, 0), (65, .invokevirtual 98, 3, 45, 2, 4), (68, .aload_n 0, 1, 0, 0, 0), (69, .aload_n 0, 1, 0, 0, 0), (70, .getfield 12, 3, 6, 0, 1), (73, .invokevirtual 44, 3, 42, 0, 4), (76, .putfield 48, 3, 6, 5, 2), (79, .iload 4, 2, 0, 0, 0)], [(81, .ireturn, 1, 0, 0, 0)]]
def kc_X7_shoot : Cd := [[(0, .aload_n 0, 1, 0, 0, 0), (1, .iload_n 1, 1, 0, 0, 0), (2, .invokevirtual 82, 3, 74, 1, 6), (5, .aload_n 0, 1, 0, 0, 0), (6, .getfield 48, 3, 6, 5, 2), (9, .ifCond .ne 13, 3, 22, 0, 0), (12, .new 71, 3, 1001, 102, 75), (15, .dup, 1, 0, 0, 0)], [(16, .ldc 102, 2, 0, 0, 0), (18, .invokespecial 75, 3, 8888, 0, 0), (21, .athrow, 1, 0, 0, 0), (22, .aload_n 0, 1, 0, 0, 0), (23, .invokevirtual 91, 3, 77, 0, 6), (26, .aload_n 0, 1, 0, 0, 0), (27, .getfield 19, 3, 6, 1, 1), (30, .iload_n 1, 1, 0, 0, 0), (31, .iconst (-1), 1, 0, 0, 0)], [(32, .aload_n 0, 1, 0, 0, 0), (33, .getfield 48, 3, 6, 5, 2), (36, .invokevirtual 94, 3, 32, 3, 3), (39, .aload_n 0, 1, 0, 0, 0), (40, .aload_n 0, 1, 0, 0, 0), (41, .getfield 12, 3, 6, 0, 1), (44, .aload_n 0, 1, 0, 0, 0), (45, .getfield 48, 3, 6, 5, 2)], [(48, .iload_n 1, 1, 0, 0, 0), (49, .invokevirtual 104, 3, 50, 2, 4), (52, .putfield 48, 3, 6, 5, 2), (55, .aload_n 0, 1, 0, 0, 0), (56, .getfield 48, 3, 6, 5, 2), (59, .ireturn, 1, 0, 0, 0)]]
def kc_X7_back : Cd := [[(0, .aload_n 0, 1, 0, 0, 0), (1, .getfield 19, 3, 6, 1, 1), (4, .invokevirtual 108, 3, 30, 0, 3), (7, .ifCond .ne 13, 3, 20, 0, 0), (10, .new 71, 3, 1001, 111, 75), (13, .dup, 1, 0, 0, 0), (14, .ldc 111, 2, 0, 0, 0)], [(16, .invokespecial 75, 3, 8888, 0, 0), (19, .athrow, 1, 0, 0, 0), (20, .aload_n 0, 1, 0, 0, 0), (21, .getfield 19, 3, 6, 1, 1), (24, .invokevirtual 113, 3, 34, 0, 3), (27, .istore_n 1, 1, 0, 0, 0), (28, .iload_n 1, 1, 0, 0, 0), (29, .iconst (-1), 1, 0, 0, 0), (30, .if_icmp .eq 18, 3, 48, 0, 0)], [(33, .aload_n 0, 1, 0, 0, 0), (34, .getfield 12, 3, 6, 0, 1), (37, .aload_n 0, 1, 0, 0, 0), (38, .getfield 19, 3, 6, 1, 1), (41, .invokevirtual 116, 3, 33, 0, 3), (44, .iload_n 1, 1, 0, 0, 0), (45, .invokevirtual 98, 3, 45, 2, 4)], [(48, .aload_n 0, 1, 0, 0, 0), (49, .aload_n 0, 1, 0, 0, 0), (50, .getfield 19, 3, 6, 1, 1), (53, .invokevirtual 119, 3, 35, 0, 3), (56, .putfield 48, 3, 6, 5, 2), (59, .aload_n 0, 1, 0, 0, 0), (60, .getfield 19, 3, 6, 1, 1), (63, .invokevirtual 122, 3, 36, 0, 3)], [(66, .aload_n 0, 1, 0, 0, 0), (67, .getfield 19, 3, 6, 1, 1), (70, .invokevirtual 108, 3, 30, 0, 3), (73, .ireturn, 1, 0, 0, 0)]]
def kc_X7_time : Cd := [[(0, .aload_n 0, 1, 0, 0, 0), (1, .iload_n 1, 1, 0, 0, 0), (2, .iload_n 2, 1, 0, 0, 0), (3, .iload_n 3, 1, 0, 0, 0), (4, .invokevirtual 129, 3, 75, 3, 6), (7, .aload_n 0, 1, 0, 0, 0), (8, .getfield 26, 3, 6, 2, 1), (11, .aload_n 0, 1, 0, 0, 0), (12, .getfield 12, 3, 6, 0, 1), (15, .invokevirtual 132, 3, 7, 1, 1)], [(18, .aload_n 0, 1, 0, 0, 0), (19, .getfield 26, 3, 6, 2, 1), (22, .iload_n 1, 1, 0, 0, 0), (23, .iload_n 2, 1, 0, 0, 0), (24, .invokestatic 136, 3, 78, 1, 6), (27, .iload_n 3, 1, 0, 0, 0), (28, .invokevirtual 139, 3, 16, 3, 1), (31, .ireturn, 1, 0, 0, 0)]]
def kc_X7_step : Cd := [[(0, .aload_n 0, 1, 0, 0, 0), (1, .iload_n 1, 1, 0, 0, 0), (2, .iload_n 2, 1, 0, 0, 0), (3, .iload_n 3, 1, 0, 0, 0), (4, .invokevirtual 129, 3, 75, 3, 6), (7, .aload_n 0, 1, 0, 0, 0), (8, .getfield 26, 3, 6, 2, 1), (11, .aload_n 0, 1, 0, 0, 0), (12, .getfield 12, 3, 6, 0, 1), (15, .invokevirtual 132, 3, 7, 1, 1)], [(18, .aload_n 0, 1, 0, 0, 0), (19, .getfield 26, 3, 6, 2, 1), (22, .aload_n 0, 1, 0, 0, 0), (23, .getfield 12, 3, 6, 0, 1), (26, .iload_n 1, 1, 0, 0, 0), (27, .iload_n 2, 1, 0, 0, 0), (28, .invokestatic 136, 3, 78, 1, 6), (31, .iload_n 3, 1, 0, 0, 0)], [(32, .invokevirtual 151, 3, 18, 4, 1), (35, .ireturn, 1, 0, 0, 0)]]
def kc_X7_away : Cd := [[(0, .aload_n 0, 1, 0, 0, 0), (1, .iload_n 1, 1, 0, 0, 0), (2, .iload_n 2, 1, 0, 0, 0), (3, .iload_n 3, 1, 0, 0, 0), (4, .invokevirtual 129, 3, 75, 3, 6), (7, .aload_n 0, 1, 0, 0, 0), (8, .getfield 26, 3, 6, 2, 1), (11, .aload_n 0, 1, 0, 0, 0), (12, .getfield 12, 3, 6, 0, 1), (15, .invokevirtual 132, 3, 7, 1, 1)], [(18, .aload_n 0, 1, 0, 0, 0), (19, .getfield 26, 3, 6, 2, 1), (22, .aload_n 0, 1, 0, 0, 0), (23, .getfield 12, 3, 6, 0, 1), (26, .iload_n 1, 1, 0, 0, 0), (27, .iload_n 2, 1, 0, 0, 0), (28, .invokestatic 136, 3, 78, 1, 6), (31, .iload_n 3, 1, 0, 0, 0)], [(32, .invokevirtual 155, 3, 20, 4, 1), (35, .ireturn, 1, 0, 0, 0)]]
def kc_X7_catches : Cd := [[(0, .iload_n 1, 1, 0, 0, 0), (1, .iconst 1, 1, 0, 0, 0), (2, .if_icmp .lt 8, 3, 10, 0, 0), (5, .iload_n 1, 1, 0, 0, 0), (6, .iconst 2, 1, 0, 0, 0), (7, .if_icmp .le 13, 3, 20, 0, 0), (10, .new 52, 3, 1000, 158, 56), (13, .dup, 1, 0, 0, 0), (14, .ldc 158, 2, 0, 0, 0)], [(16, .invokespecial 56, 3, 8888, 0, 0), (19, .athrow, 1, 0, 0, 0), (20, .aload_n 0, 1, 0, 0, 0), (21, .getfield 26, 3, 6, 2, 1), (24, .aload_n 0, 1, 0, 0, 0), (25, .getfield 12, 3, 6, 0, 1), (28, .invokevirtual 132, 3, 7, 1, 1), (31, .iload_n 1, 1, 0, 0, 0)], [(32, .iconst 1, 1, 0, 0, 0), (33, .if_icmp .ne 17, 3, 50, 0, 0), (36, .aload_n 0, 1, 0, 0, 0), (37, .getfield 26, 3, 6, 2, 1), (40, .aload_n 0, 1, 0, 0, 0), (41, .getfield 12, 3, 6, 0, 1), (44, .invokevirtual 160, 3, 21, 1, 1), (47, .goto 14, 3, 61, 0, 0)], [(50, .aload_n 0, 1, 0, 0, 0), (51, .getfield 26, 3, 6, 2, 1), (54, .aload_n 0, 1, 0, 0, 0), (55, .getfield 12, 3, 6, 0, 1), (58, .invokevirtual 164, 3, 22, 1, 1), (61, .ireturn, 1, 0, 0, 0)]]
def kc_X7_fallsApart : Cd := [[(0, .aload_n 0, 1, 0, 0, 0), (1, .getfield 12, 3, 6, 0, 1), (4, .invokevirtual 167, 3, 51, 0, 4), (7, .ireturn, 1, 0, 0, 0)]]
def kc_X7_rabbit : Cd := [[(0, .aload_n 0, 1, 0, 0, 0), (1, .getfield 48, 3, 6, 5, 2), (4, .ireturn, 1, 0, 0, 0)]]
def kc_X7_hunt : Cd := [[(0, .aload_n 0, 1, 0, 0, 0), (1, .getfield 33, 3, 6, 3, 1), (4, .aload_n 0, 1, 0, 0, 0), (5, .getfield 12, 3, 6, 0, 1), (8, .invokevirtual 171, 3, 1, 1, 0), (11, .aload_n 0, 1, 0, 0, 0), (12, .getfield 33, 3, 6, 3, 1), (15, .aload_n 0, 1, 0, 0, 0)], [(16, .getfield 48, 3, 6, 5, 2), (19, .invokevirtual 172, 3, 4, 1, 0), (22, .ireturn, 1, 0, 0, 0)]]
def kc_X7_aim : Cd := [[(0, .aload_n 0, 1, 0, 0, 0), (1, .getfield 33, 3, 6, 3, 1), (4, .aload_n 0, 1, 0, 0, 0), (5, .getfield 12, 3, 6, 0, 1), (8, .invokevirtual 171, 3, 1, 1, 0), (11, .aload_n 0, 1, 0, 0, 0), (12, .getfield 33, 3, 6, 3, 1), (15, .aload_n 0, 1, 0, 0, 0)], [(16, .getfield 12, 3, 6, 0, 1), (19, .aload_n 0, 1, 0, 0, 0), (20, .getfield 48, 3, 6, 5, 2), (23, .invokevirtual 180, 3, 5, 2, 0), (26, .ireturn, 1, 0, 0, 0)]]
def kc_X7_forced : Cd := [[(0, .aload_n 0, 1, 0, 0, 0), (1, .iload_n 1, 1, 0, 0, 0), (2, .invokevirtual 184, 3, 76, 1, 6), (5, .aload_n 0, 1, 0, 0, 0), (6, .getfield 12, 3, 6, 0, 1), (9, .iload_n 1, 1, 0, 0, 0), (10, .invokestatic 187, 3, 27, 2, 2), (13, .ireturn, 1, 0, 0, 0)]]
def kc_X7_leastBlue : Cd := [[(0, .aload_n 0, 1, 0, 0, 0), (1, .getfield 40, 3, 6, 4, 1), (4, .aload_n 0, 1, 0, 0, 0), (5, .getfield 12, 3, 6, 0, 1), (8, .invokevirtual 193, 3, 25, 1, 2), (11, .aload_n 0, 1, 0, 0, 0), (12, .getfield 40, 3, 6, 4, 1), (15, .invokevirtual 194, 3, 26, 0, 2)], [(18, .ireturn, 1, 0, 0, 0)]]
def kc_X7_beginDeeds : Cd := [[(0, .aload_n 0, 1, 0, 0, 0), (1, .getfield 19, 3, 6, 1, 1), (4, .invokevirtual 197, 3, 31, 0, 3), (7, .aload_n 0, 1, 0, 0, 0), (8, .aload_n 0, 1, 0, 0, 0), (9, .getfield 12, 3, 6, 0, 1), (12, .invokevirtual 44, 3, 42, 0, 4), (15, .putfield 48, 3, 6, 5, 2)], [(18, .return_, 1, 0, 0, 0)]]
def kc_X7_needRoom : Cd := [[(0, .aload_n 0, 1, 0, 0, 0), (1, .getfield 12, 3, 6, 0, 1), (4, .iload_n 1, 1, 0, 0, 0), (5, .invokevirtual 200, 3, 41, 1, 4), (8, .ifCond .ne 13, 3, 21, 0, 0), (11, .new 204, 3, 1002, 206, 208), (14, .dup, 1, 0, 0, 0), (15, .ldc 206, 2, 0, 0, 0)], [(17, .invokespecial 208, 3, 8888, 0, 0), (20, .athrow, 1, 0, 0, 0), (21, .return_, 1, 0, 0, 0)]]
def kc_X7_needBeginning : Cd := [[(0, .aload_n 0, 1, 0, 0, 0), (1, .iload_n 1, 1, 0, 0, 0), (2, .invokevirtual 82, 3, 74, 1, 6), (5, .iload_n 2, 1, 0, 0, 0), (6, .iconst (-1), 1, 0, 0, 0), (7, .if_icmp .eq 8, 3, 15, 0, 0), (10, .aload_n 0, 1, 0, 0, 0), (11, .iload_n 2, 1, 0, 0, 0), (12, .invokevirtual 82, 3, 74, 1, 6), (15, .aload_n 0, 1, 0, 0, 0)], [(16, .iload_n 3, 1, 0, 0, 0), (17, .invokevirtual 82, 3, 74, 1, 6), (20, .return_, 1, 0, 0, 0)]]
def kc_X7_needSet : Cd := [[(0, .iload_n 1, 1, 0, 0, 0), (1, .ifCond .lt 14, 3, 15, 0, 0), (4, .iload_n 1, 1, 0, 0, 0), (5, .aload_n 0, 1, 0, 0, 0), (6, .getfield 12, 3, 6, 0, 1), (9, .invokevirtual 44, 3, 42, 0, 4), (12, .if_icmp .le 13, 3, 25, 0, 0), (15, .new 52, 3, 1000, 209, 56)], [(18, .dup, 1, 0, 0, 0), (19, .ldc 209, 2, 0, 0, 0), (21, .invokespecial 56, 3, 8888, 0, 0), (24, .athrow, 1, 0, 0, 0), (25, .return_, 1, 0, 0, 0)]]
def kc_X7_needPlaceForDeed : Cd := [[(0, .aload_n 0, 1, 0, 0, 0), (1, .getfield 19, 3, 6, 1, 1), (4, .invokevirtual 108, 3, 30, 0, 3), (7, .sipush 200, 3, 0, 0, 0), (10, .if_icmp .lt 13, 3, 23, 0, 0), (13, .new 71, 3, 1001, 211, 75)], [(16, .dup, 1, 0, 0, 0), (17, .ldc 211, 2, 0, 0, 0), (19, .invokespecial 75, 3, 8888, 0, 0), (22, .athrow, 1, 0, 0, 0), (23, .return_, 1, 0, 0, 0)]]
def kc_X7_placeOf : Cd := [[(0, .iload_n 0, 1, 0, 0, 0), (1, .iconst (-1), 1, 0, 0, 0), (2, .if_icmp .ne 8, 3, 10, 0, 0), (5, .bipush 9, 2, 0, 0, 0), (7, .goto 4, 3, 11, 0, 0), (10, .iload_n 0, 1, 0, 0, 0), (11, .ireturn, 1, 0, 0, 0)]]
def kc_J6_bitCount_0f7a4 : Cd := [[(0, .iload_n 0, 1, 0, 0, 0), (1, .iload_n 0, 1, 0, 0, 0), (2, .iconst 1, 1, 0, 0, 0), (3, .iushr, 1, 0, 0, 0), (4, .ldc_w 265, 3, 1431655765, 0, 0), (7, .iand, 1, 0, 0, 0), (8, .isub, 1, 0, 0, 0), (9, .istore_n 0, 1, 0, 0, 0), (10, .iload_n 0, 1, 0, 0, 0), (11, .ldc_w 266, 3, 858993459, 0, 0), (14, .iand, 1, 0, 0, 0), (15, .iload_n 0, 1, 0, 0, 0)], [(16, .iconst 2, 1, 0, 0, 0), (17, .iushr, 1, 0, 0, 0), (18, .ldc_w 266, 3, 858993459, 0, 0), (21, .iand, 1, 0, 0, 0), (22, .iadd, 1, 0, 0, 0), (23, .istore_n 0, 1, 0, 0, 0), (24, .iload_n 0, 1, 0, 0, 0), (25, .iload_n 0, 1, 0, 0, 0), (26, .iconst 4, 1, 0, 0, 0), (27, .iushr, 1, 0, 0, 0), (28, .iadd, 1, 0, 0, 0), (29, .ldc_w 267, 3, 252645135, 0, 0)], [(32, .iand, 1, 0, 0, 0), (33, .istore_n 0, 1, 0, 0, 0), (34, .iload_n 0, 1, 0, 0, 0), (35, .iload_n 0, 1, 0, 0, 0), (36, .bipush 8, 2, 0, 0, 0), (38, .iushr, 1, 0, 0, 0), (39, .iadd, 1, 0, 0, 0), (40, .istore_n 0, 1, 0, 0, 0), (41, .iload_n 0, 1, 0, 0, 0), (42, .iload_n 0, 1, 0, 0, 0), (43, .bipush 16, 2, 0, 0, 0), (45, .iushr, 1, 0, 0, 0), (46, .iadd, 1, 0, 0, 0), (47, .istore_n 0, 1, 0, 0, 0)], [(48, .iload_n 0, 1, 0, 0, 0), (49, .bipush 63, 2, 0, 0, 0), (51, .iand, 1, 0, 0, 0), (52, .ireturn, 1, 0, 0, 0)]]
def kc_L_cell : Cd := [[(0, .iload_n 1, 1, 0, 0, 0), (1, .aload_n 0, 1, 0, 0, 0), (2, .arraylength, 1, 0, 0, 0), (3, .if_icmp .ge 9, 3, 12, 0, 0), (6, .aload_n 0, 1, 0, 0, 0), (7, .iload_n 1, 1, 0, 0, 0), (8, .iaload, 1, 0, 0, 0), (9, .goto 9, 3, 18, 0, 0), (12, .ldc 7, 2, 748021431, 0, 0), (14, .iload_n 1, 1, 0, 0, 0), (15, .iconst 1, 1, 0, 0, 0)], [(16, .iadd, 1, 0, 0, 0), (17, .imul, 1, 0, 0, 0), (18, .ireturn, 1, 0, 0, 0)]]
def kc_L_at : Cd := [[(0, .iload_n 0, 1, 0, 0, 0), (1, .iconst 1, 1, 0, 0, 0), (2, .iushr, 1, 0, 0, 0), (3, .iload_n 1, 1, 0, 0, 0), (4, .irem, 1, 0, 0, 0), (5, .ireturn, 1, 0, 0, 0)]]
def kc_L_size : Cd := [[(0, .iconst 0, 1, 0, 0, 0), (1, .istore_n 1, 1, 0, 0, 0), (2, .iconst 0, 1, 0, 0, 0), (3, .istore_n 2, 1, 0, 0, 0), (4, .iload_n 2, 1, 0, 0, 0), (5, .bipush 9, 2, 0, 0, 0), (7, .if_icmp .ge 17, 3, 24, 0, 0), (10, .iload_n 1, 1, 0, 0, 0), (11, .iload_n 0, 1, 0, 0, 0), (12, .iload_n 2, 1, 0, 0, 0), (13, .ishr, 1, 0, 0, 0), (14, .iconst 1, 1, 0, 0, 0), (15, .iand, 1, 0, 0, 0)], [(16, .iadd, 1, 0, 0, 0), (17, .istore_n 1, 1, 0, 0, 0), (18, .iinc 2 1, 3, 0, 0, 0), (21, .goto (-17), 3, 4, 0, 0), (24, .iload_n 1, 1, 0, 0, 0), (25, .ireturn, 1, 0, 0, 0)]]
def kq_L_law_0 : List (Nat × Rw) := [(0, .new 8, 3, 6, 6, 0), (3, .dup, 1, 0, 0, 0), (4, .invokespecial 10, 3, 58, 0, 6), (7, .astore_n 1, 1, 0, 0, 0), (8, .iconst 1, 1, 0, 0, 0), (9, .aload_n 0, 1, 0, 0, 0), (10, .iconst 0, 1, 0, 0, 0), (11, .invokestatic 11, 3, 80, 2, 0), (14, .ldc 17, 2, 2147483647, 0, 0)]
def kq_L_law_1 : List (Nat × Rw) := [(16, .iand, 1, 0, 0, 0), (17, .bipush 8, 2, 0, 0, 0), (19, .invokestatic 18, 3, 81, 2, 0), (22, .iadd, 1, 0, 0, 0), (23, .istore_n 2, 1, 0, 0, 0), (24, .aload_n 1, 1, 0, 0, 0), (25, .iload_n 2, 1, 0, 0, 0), (26, .invokevirtual 22, 3, 59, 1, 6), (29, .pop, 1, 0, 0, 0), (30, .iconst 0, 1, 0, 0, 0), (31, .istore_n 3, 1, 0, 0, 0)]
def kq_L_law_2 : List (Nat × Rw) := [(32, .iload_n 3, 1, 0, 0, 0), (33, .bipush 24, 2, 0, 0, 0), (35, .if_icmp .ge 455, 3, 490, 0, 0), (38, .aload_n 0, 1, 0, 0, 0), (39, .iconst 1, 1, 0, 0, 0), (40, .iload_n 3, 1, 0, 0, 0), (41, .iadd, 1, 0, 0, 0), (42, .invokestatic 11, 3, 80, 2, 0), (45, .ldc 17, 2, 2147483647, 0, 0), (47, .iand, 1, 0, 0, 0)]
def kq_L_law_3 : List (Nat × Rw) := [(48, .istore 4, 2, 0, 0, 0), (50, .iload 4, 2, 0, 0, 0), (52, .iload_n 2, 1, 0, 0, 0), (53, .invokestatic 18, 3, 81, 2, 0), (56, .istore 5, 2, 0, 0, 0), (58, .iload 4, 2, 0, 0, 0), (60, .iconst 5, 1, 0, 0, 0), (61, .ishr, 1, 0, 0, 0), (62, .iload_n 2, 1, 0, 0, 0), (63, .invokestatic 18, 3, 81, 2, 0)]
def kq_L_law_4 : List (Nat × Rw) := [(66, .istore 6, 2, 0, 0, 0), (68, .iload 5, 2, 0, 0, 0), (70, .iload 6, 2, 0, 0, 0), (72, .if_icmp .eq 29, 3, 101, 0, 0), (75, .aload_n 1, 1, 0, 0, 0), (76, .iload 5, 2, 0, 0, 0), (78, .iload 6, 2, 0, 0, 0)]
def kq_L_law_5 : List (Nat × Rw) := [(80, .iload 4, 2, 0, 0, 0), (82, .bipush 10, 2, 0, 0, 0), (84, .ishr, 1, 0, 0, 0), (85, .iconst 5, 1, 0, 0, 0), (86, .invokestatic 18, 3, 81, 2, 0), (89, .ifCond .le 7, 3, 96, 0, 0), (92, .iconst 1, 1, 0, 0, 0), (93, .goto 4, 3, 97, 0, 0)]
def kq_L_law_6 : List (Nat × Rw) := [(96, .iconst 0, 1, 0, 0, 0), (97, .invokevirtual 26, 3, 60, 3, 6), (100, .pop, 1, 0, 0, 0), (101, .iload_n 3, 1, 0, 0, 0), (102, .bipush 6, 2, 0, 0, 0), (104, .irem, 1, 0, 0, 0), (105, .iconst 5, 1, 0, 0, 0), (106, .if_icmp .ne 378, 3, 484, 0, 0), (109, .iload 4, 2, 0, 0, 0), (111, .iconst 3, 1, 0, 0, 0)]
def kq_L_law_7 : List (Nat × Rw) := [(112, .ishr, 1, 0, 0, 0), (113, .iload_n 2, 1, 0, 0, 0), (114, .invokestatic 18, 3, 81, 2, 0), (117, .istore 7, 2, 0, 0, 0), (119, .iload 4, 2, 0, 0, 0), (121, .bipush 8, 2, 0, 0, 0), (123, .ishr, 1, 0, 0, 0), (124, .iload_n 2, 1, 0, 0, 0), (125, .invokestatic 18, 3, 81, 2, 0)]
def kq_L_law_8 : List (Nat × Rw) := [(128, .istore 8, 2, 0, 0, 0), (130, .iload 4, 2, 0, 0, 0), (132, .bipush 13, 2, 0, 0, 0), (134, .ishr, 1, 0, 0, 0), (135, .iload_n 2, 1, 0, 0, 0), (136, .invokestatic 18, 3, 81, 2, 0), (139, .istore 9, 2, 0, 0, 0), (141, .aload_n 1, 1, 0, 0, 0), (142, .iload 7, 2, 0, 0, 0)]
def kq_L_law_9 : List (Nat × Rw) := [(144, .iconst (-1), 1, 0, 0, 0), (145, .iload 9, 2, 0, 0, 0), (147, .invokevirtual 30, 3, 63, 3, 6), (150, .istore 10, 2, 0, 0, 0), (152, .aload_n 1, 1, 0, 0, 0), (153, .iload 7, 2, 0, 0, 0), (155, .iload 8, 2, 0, 0, 0), (157, .iload 9, 2, 0, 0, 0), (159, .invokevirtual 30, 3, 63, 3, 6)]
def kq_L_law_10 : List (Nat × Rw) := [(162, .istore 11, 2, 0, 0, 0), (164, .aload_n 1, 1, 0, 0, 0), (165, .iload 8, 2, 0, 0, 0), (167, .iload 7, 2, 0, 0, 0), (169, .iload 9, 2, 0, 0, 0), (171, .invokevirtual 30, 3, 63, 3, 6), (174, .iload 11, 2, 0, 0, 0)]
def kq_L_law_11 : List (Nat × Rw) := [(176, .if_icmp .eq 5, 3, 181, 0, 0), (179, .iconst 0, 1, 0, 0, 0), (180, .ireturn, 1, 0, 0, 0), (181, .iload 10, 2, 0, 0, 0), (183, .ifCond .lt 17, 3, 200, 0, 0), (186, .iload 11, 2, 0, 0, 0), (188, .ifCond .lt 10, 3, 198, 0, 0), (191, .iload 11, 2, 0, 0, 0)]
def kq_L_law_12 : List (Nat × Rw) := [(193, .iload 10, 2, 0, 0, 0), (195, .if_icmp .le 5, 3, 200, 0, 0), (198, .iconst 0, 1, 0, 0, 0), (199, .ireturn, 1, 0, 0, 0), (200, .iload 10, 2, 0, 0, 0), (202, .istore 12, 2, 0, 0, 0), (204, .iload 7, 2, 0, 0, 0), (206, .istore 13, 2, 0, 0, 0)]
def kq_L_law_13 : List (Nat × Rw) := [(208, .iload 9, 2, 0, 0, 0), (210, .istore 14, 2, 0, 0, 0), (212, .iload 12, 2, 0, 0, 0), (214, .ifCond .le 70, 3, 284, 0, 0), (217, .aload_n 1, 1, 0, 0, 0), (218, .iload 13, 2, 0, 0, 0), (220, .iconst (-1), 1, 0, 0, 0), (221, .iload 14, 2, 0, 0, 0), (223, .invokevirtual 34, 3, 64, 3, 6)]
def kq_L_law_14 : List (Nat × Rw) := [(226, .istore 13, 2, 0, 0, 0), (228, .iload 13, 2, 0, 0, 0), (230, .ifCond .ge 5, 3, 235, 0, 0), (233, .iconst 0, 1, 0, 0, 0), (234, .ireturn, 1, 0, 0, 0), (235, .iinc 12 (-1), 3, 0, 0, 0), (238, .iload 13, 2, 0, 0, 0)]
def kq_L_law_15 : List (Nat × Rw) := [(240, .iload 14, 2, 0, 0, 0), (242, .if_icmp .eq 35, 3, 277, 0, 0), (245, .aload_n 1, 1, 0, 0, 0), (246, .iload 13, 2, 0, 0, 0), (248, .iconst (-1), 1, 0, 0, 0), (249, .iload 14, 2, 0, 0, 0), (251, .invokevirtual 37, 3, 65, 3, 6), (254, .istore 14, 2, 0, 0, 0)]
def kq_L_law_16 : List (Nat × Rw) := [(256, .iload 14, 2, 0, 0, 0), (258, .ifCond .lt 17, 3, 275, 0, 0), (261, .aload_n 1, 1, 0, 0, 0), (262, .iload 13, 2, 0, 0, 0), (264, .iconst (-1), 1, 0, 0, 0), (265, .iload 14, 2, 0, 0, 0), (267, .invokevirtual 30, 3, 63, 3, 6), (270, .iload 12, 2, 0, 0, 0)]
def kq_L_law_17 : List (Nat × Rw) := [(272, .if_icmp .eq (-60), 3, 212, 0, 0), (275, .iconst 0, 1, 0, 0, 0), (276, .ireturn, 1, 0, 0, 0), (277, .iload 12, 2, 0, 0, 0), (279, .ifCond .eq (-67), 3, 212, 0, 0), (282, .iconst 0, 1, 0, 0, 0), (283, .ireturn, 1, 0, 0, 0), (284, .iload 10, 2, 0, 0, 0), (286, .ifCond .lt 12, 3, 298, 0, 0)]
def kq_L_law_18 : List (Nat × Rw) := [(289, .iload 13, 2, 0, 0, 0), (291, .iload 14, 2, 0, 0, 0), (293, .if_icmp .eq 5, 3, 298, 0, 0), (296, .iconst 0, 1, 0, 0, 0), (297, .ireturn, 1, 0, 0, 0), (298, .iload 10, 2, 0, 0, 0), (300, .ifCond .ge 18, 3, 318, 0, 0), (303, .aload_n 1, 1, 0, 0, 0)]
def kq_L_law_19 : List (Nat × Rw) := [(304, .iload 7, 2, 0, 0, 0), (306, .iconst (-1), 1, 0, 0, 0), (307, .iload 9, 2, 0, 0, 0), (309, .invokevirtual 34, 3, 64, 3, 6), (312, .iconst (-1), 1, 0, 0, 0), (313, .if_icmp .eq 5, 3, 318, 0, 0), (316, .iconst 0, 1, 0, 0, 0), (317, .ireturn, 1, 0, 0, 0), (318, .aload_n 1, 1, 0, 0, 0), (319, .iload 7, 2, 0, 0, 0)]
def kq_L_law_20 : List (Nat × Rw) := [(321, .iload 8, 2, 0, 0, 0), (323, .iload 9, 2, 0, 0, 0), (325, .invokevirtual 34, 3, 64, 3, 6), (328, .istore 15, 2, 0, 0, 0), (330, .iload 15, 2, 0, 0, 0), (332, .iconst (-1), 1, 0, 0, 0), (333, .if_icmp .ne 7, 3, 340, 0, 0)]
def kq_L_law_21 : List (Nat × Rw) := [(336, .iconst 1, 1, 0, 0, 0), (337, .goto 4, 3, 341, 0, 0), (340, .iconst 0, 1, 0, 0, 0), (341, .iload 11, 2, 0, 0, 0), (343, .iconst 1, 1, 0, 0, 0), (344, .if_icmp .ge 7, 3, 351, 0, 0), (347, .iconst 1, 1, 0, 0, 0), (348, .goto 4, 3, 352, 0, 0), (351, .iconst 0, 1, 0, 0, 0)]
def kq_L_law_22 : List (Nat × Rw) := [(352, .if_icmp .eq 5, 3, 357, 0, 0), (355, .iconst 0, 1, 0, 0, 0), (356, .ireturn, 1, 0, 0, 0), (357, .iload 15, 2, 0, 0, 0), (359, .ifCond .lt 93, 3, 452, 0, 0), (362, .iload 15, 2, 0, 0, 0), (364, .bipush 10, 2, 0, 0, 0), (366, .idiv, 1, 0, 0, 0), (367, .istore 16, 2, 0, 0, 0)]
def kq_L_law_23 : List (Nat × Rw) := [(369, .iload 15, 2, 0, 0, 0), (371, .bipush 10, 2, 0, 0, 0), (373, .irem, 1, 0, 0, 0), (374, .istore 17, 2, 0, 0, 0), (376, .iload 16, 2, 0, 0, 0), (378, .iload 9, 2, 0, 0, 0), (380, .if_icmp .eq 10, 3, 390, 0, 0), (383, .iload 17, 2, 0, 0, 0)]
def kq_L_law_24 : List (Nat × Rw) := [(385, .iload 9, 2, 0, 0, 0), (387, .if_icmp .ne 7, 3, 394, 0, 0), (390, .iconst 1, 1, 0, 0, 0), (391, .goto 4, 3, 395, 0, 0), (394, .iconst 0, 1, 0, 0, 0), (395, .istore 18, 2, 0, 0, 0), (397, .iload 18, 2, 0, 0, 0), (399, .ifCond .eq 8, 3, 407, 0, 0)]
def kq_L_law_25 : List (Nat × Rw) := [(402, .iload 9, 2, 0, 0, 0), (404, .goto 13, 3, 417, 0, 0), (407, .aload_n 1, 1, 0, 0, 0), (408, .iload 16, 2, 0, 0, 0), (410, .iload 17, 2, 0, 0, 0), (412, .iload 9, 2, 0, 0, 0), (414, .invokevirtual 37, 3, 65, 3, 6)]
def kq_L_law_26 : List (Nat × Rw) := [(417, .istore 19, 2, 0, 0, 0), (419, .iload 18, 2, 0, 0, 0), (421, .ifCond .eq 12, 3, 433, 0, 0), (424, .iload 11, 2, 0, 0, 0), (426, .iconst 1, 1, 0, 0, 0), (427, .if_icmp .eq 25, 3, 452, 0, 0), (430, .goto 20, 3, 450, 0, 0)]
def kq_L_law_27 : List (Nat × Rw) := [(433, .aload_n 1, 1, 0, 0, 0), (434, .iload 16, 2, 0, 0, 0), (436, .iload 17, 2, 0, 0, 0), (438, .iload 19, 2, 0, 0, 0), (440, .invokevirtual 30, 3, 63, 3, 6), (443, .iload 11, 2, 0, 0, 0), (445, .iconst 1, 1, 0, 0, 0), (446, .isub, 1, 0, 0, 0), (447, .if_icmp .eq 5, 3, 452, 0, 0)]
def kq_L_law_28 : List (Nat × Rw) := [(450, .iconst 0, 1, 0, 0, 0), (451, .ireturn, 1, 0, 0, 0), (452, .aload_n 1, 1, 0, 0, 0), (453, .iconst 1, 1, 0, 0, 0), (454, .invokevirtual 40, 3, 66, 1, 6), (457, .aload_n 1, 1, 0, 0, 0), (458, .invokevirtual 44, 3, 67, 0, 6), (461, .if_icmp .eq 5, 3, 466, 0, 0)]
def kq_L_law_29 : List (Nat × Rw) := [(464, .iconst 0, 1, 0, 0, 0), (465, .ireturn, 1, 0, 0, 0), (466, .aload_n 1, 1, 0, 0, 0), (467, .iconst 1, 1, 0, 0, 0), (468, .invokevirtual 40, 3, 66, 1, 6), (471, .ifCond .eq 13, 3, 484, 0, 0), (474, .aload_n 1, 1, 0, 0, 0), (475, .iconst 2, 1, 0, 0, 0), (476, .invokevirtual 40, 3, 66, 1, 6), (479, .ifCond .ne 5, 3, 484, 0, 0)]
def kq_L_law_30 : List (Nat × Rw) := [(482, .iconst 0, 1, 0, 0, 0), (483, .ireturn, 1, 0, 0, 0), (484, .iinc 3 1, 3, 0, 0, 0), (487, .goto (-455), 3, 32, 0, 0), (490, .aload_n 1, 1, 0, 0, 0), (491, .invokevirtual 48, 3, 69, 0, 6), (494, .istore_n 3, 1, 0, 0, 0), (495, .iconst 0, 1, 0, 0, 0)]
def kq_L_law_31 : List (Nat × Rw) := [(496, .istore 4, 2, 0, 0, 0), (498, .aload_n 1, 1, 0, 0, 0), (499, .invokevirtual 52, 3, 68, 0, 6), (502, .ifCond .eq 48, 3, 550, 0, 0), (505, .iload 4, 2, 0, 0, 0), (507, .iload_n 3, 1, 0, 0, 0), (508, .if_icmp .ge 42, 3, 550, 0, 0), (511, .aload_n 1, 1, 0, 0, 0)]
def kq_L_law_32 : List (Nat × Rw) := [(512, .invokevirtual 55, 3, 70, 0, 6), (515, .istore 5, 2, 0, 0, 0), (517, .iload 5, 2, 0, 0, 0), (519, .ifCond .ge 5, 3, 524, 0, 0), (522, .iconst 0, 1, 0, 0, 0), (523, .ireturn, 1, 0, 0, 0), (524, .aload_n 1, 1, 0, 0, 0), (525, .iload 5, 2, 0, 0, 0), (527, .invokevirtual 58, 3, 61, 1, 6)]
def kq_L_law_33 : List (Nat × Rw) := [(530, .pop, 1, 0, 0, 0), (531, .iinc 4 1, 3, 0, 0, 0), (534, .aload_n 1, 1, 0, 0, 0), (535, .invokevirtual 48, 3, 69, 0, 6), (538, .iload_n 3, 1, 0, 0, 0), (539, .iload 4, 2, 0, 0, 0), (541, .isub, 1, 0, 0, 0), (542, .if_icmp .eq 5, 3, 547, 0, 0)]
def kq_L_law_34 : List (Nat × Rw) := [(545, .iconst 0, 1, 0, 0, 0), (546, .ireturn, 1, 0, 0, 0), (547, .goto (-49), 3, 498, 0, 0), (550, .iload_n 3, 1, 0, 0, 0), (551, .ifCond .lt 12, 3, 563, 0, 0), (554, .aload_n 1, 1, 0, 0, 0), (555, .invokevirtual 52, 3, 68, 0, 6), (558, .ifCond .eq 5, 3, 563, 0, 0)]
def kq_L_law_35 : List (Nat × Rw) := [(561, .iconst 0, 1, 0, 0, 0), (562, .ireturn, 1, 0, 0, 0), (563, .iload_n 3, 1, 0, 0, 0), (564, .ifCond .ge 13, 3, 577, 0, 0), (567, .aload_n 1, 1, 0, 0, 0), (568, .invokevirtual 55, 3, 70, 0, 6), (571, .iconst (-1), 1, 0, 0, 0), (572, .if_icmp .eq 5, 3, 577, 0, 0), (575, .iconst 0, 1, 0, 0, 0)]
def kq_L_law_36 : List (Nat × Rw) := [(576, .ireturn, 1, 0, 0, 0), (577, .iconst 0, 1, 0, 0, 0), (578, .istore 5, 2, 0, 0, 0), (580, .iload 5, 2, 0, 0, 0), (582, .iload 4, 2, 0, 0, 0), (584, .if_icmp .ge 14, 3, 598, 0, 0), (587, .aload_n 1, 1, 0, 0, 0), (588, .invokevirtual 61, 3, 62, 0, 6), (591, .pop, 1, 0, 0, 0)]
def kq_L_law_37 : List (Nat × Rw) := [(592, .iinc 5 1, 3, 0, 0, 0), (595, .goto (-15), 3, 580, 0, 0), (598, .aload_n 1, 1, 0, 0, 0), (599, .invokevirtual 48, 3, 69, 0, 6), (602, .iload_n 3, 1, 0, 0, 0), (603, .if_icmp .eq 5, 3, 608, 0, 0), (606, .iconst 0, 1, 0, 0, 0), (607, .ireturn, 1, 0, 0, 0)]
def kq_L_law_38 : List (Nat × Rw) := [(608, .aload_n 1, 1, 0, 0, 0), (609, .invokevirtual 64, 3, 72, 0, 6), (612, .istore 5, 2, 0, 0, 0), (614, .iconst 1, 1, 0, 0, 0), (615, .iload_n 2, 1, 0, 0, 0), (616, .ishl, 1, 0, 0, 0), (617, .iconst 1, 1, 0, 0, 0), (618, .isub, 1, 0, 0, 0), (619, .istore 6, 2, 0, 0, 0), (621, .aload_n 1, 1, 0, 0, 0), (622, .iload 5, 2, 0, 0, 0)]
def kq_L_law_39 : List (Nat × Rw) := [(624, .invokevirtual 67, 3, 71, 1, 6), (627, .iload 6, 2, 0, 0, 0), (629, .if_icmp .eq 5, 3, 634, 0, 0), (632, .iconst 0, 1, 0, 0, 0), (633, .ireturn, 1, 0, 0, 0), (634, .iconst 0, 1, 0, 0, 0), (635, .istore 7, 2, 0, 0, 0), (637, .iload 7, 2, 0, 0, 0), (639, .iconst 1, 1, 0, 0, 0)]
def kq_L_law_40 : List (Nat × Rw) := [(640, .iload_n 2, 1, 0, 0, 0), (641, .ishl, 1, 0, 0, 0), (642, .if_icmp .ge 75, 3, 717, 0, 0), (645, .iload 7, 2, 0, 0, 0), (647, .invokestatic 70, 3, 82, 1, 0), (650, .istore 8, 2, 0, 0, 0), (652, .iload 8, 2, 0, 0, 0), (654, .iload 5, 2, 0, 0, 0)]
def kq_L_law_41 : List (Nat × Rw) := [(656, .invokestatic 70, 3, 82, 1, 0), (659, .if_icmp .lt 20, 3, 679, 0, 0), (662, .iload 8, 2, 0, 0, 0), (664, .iload 5, 2, 0, 0, 0), (666, .invokestatic 70, 3, 82, 1, 0), (669, .if_icmp .ne 42, 3, 711, 0, 0)]
def kq_L_law_42 : List (Nat × Rw) := [(672, .iload 7, 2, 0, 0, 0), (674, .iload 5, 2, 0, 0, 0), (676, .if_icmp .ge 35, 3, 711, 0, 0), (679, .aload_n 0, 1, 0, 0, 0), (680, .bipush 30, 2, 0, 0, 0), (682, .iload 7, 2, 0, 0, 0), (684, .iadd, 1, 0, 0, 0), (685, .invokestatic 11, 3, 80, 2, 0)]
def kq_L_law_43 : List (Nat × Rw) := [(688, .ldc 17, 2, 2147483647, 0, 0), (690, .iand, 1, 0, 0, 0), (691, .iconst 3, 1, 0, 0, 0), (692, .invokestatic 18, 3, 81, 2, 0), (695, .ifCond .ne 16, 3, 711, 0, 0), (698, .aload_n 1, 1, 0, 0, 0), (699, .iload 7, 2, 0, 0, 0), (701, .invokevirtual 67, 3, 71, 1, 6)]
def kq_L_law_44 : List (Nat × Rw) := [(704, .iload 6, 2, 0, 0, 0), (706, .if_icmp .ne 5, 3, 711, 0, 0), (709, .iconst 0, 1, 0, 0, 0), (710, .ireturn, 1, 0, 0, 0), (711, .iinc 7 1, 3, 0, 0, 0), (714, .goto (-77), 3, 637, 0, 0), (717, .iconst 1, 1, 0, 0, 0), (718, .ireturn, 1, 0, 0, 0)]
def kc_L_law : Cd := [kq_L_law_0, kq_L_law_1, kq_L_law_2, kq_L_law_3, kq_L_law_4, kq_L_law_5, kq_L_law_6, kq_L_law_7, kq_L_law_8, kq_L_law_9, kq_L_law_10, kq_L_law_11, kq_L_law_12, kq_L_law_13, kq_L_law_14, kq_L_law_15, kq_L_law_16, kq_L_law_17, kq_L_law_18, kq_L_law_19, kq_L_law_20, kq_L_law_21, kq_L_law_22, kq_L_law_23, kq_L_law_24, kq_L_law_25, kq_L_law_26, kq_L_law_27, kq_L_law_28, kq_L_law_29, kq_L_law_30, kq_L_law_31, kq_L_law_32, kq_L_law_33, kq_L_law_34, kq_L_law_35, kq_L_law_36, kq_L_law_37, kq_L_law_38, kq_L_law_39, kq_L_law_40, kq_L_law_41, kq_L_law_42, kq_L_law_43, kq_L_law_44]
/-- a method: its name, its bytes, its locals, what it returns, its handlers (from, to, at, kind of throw, class entry), is it an <init>, its class by name, its code -/
abbrev Mt : Type := MethodName × ByteArray × Nat × Option FieldType × List (Nat × Nat × Nat × Nat) × String × Cd
def km_X0_init : Mt := (yX0_init, cX0_init, 1, none, [], RX0, kc_X0_init)
def km_X0_prepare : Mt := (yX0_prepare, cX0_prepare, 4, none, [], RX0, kc_X0_prepare)
def km_X0_findSets : Mt := (yX0_findSets, cX0_findSets, 5, (some .boolean), [], RX0, kc_X0_findSets)
def km_X0_addSets : Mt := (yX0_addSets, cX0_addSets, 7, (some .boolean), [], RX0, kc_X0_addSets)
def km_X0_fewestShots : Mt := (yX0_fewestShots, cX0_fewestShots, 2, (some .int), [], RX0, kc_X0_fewestShots)
def km_X0_bestShot : Mt := (yX0_bestShot, cX0_bestShot, 5, (some .int), [], RX0, kc_X0_bestShot)
def km_X1_init : Mt := (yX1_init, cX1_init, 1, none, [], RX1, kc_X1_init)
def km_X1_prepare : Mt := (yX1_prepare, cX1_prepare, 4, none, [], RX1, kc_X1_prepare)
def km_X1_pair : Mt := (yX1_pair, cX1_pair, 2, (some .int), [], RX1, kc_X1_pair)
def km_X1_cell : Mt := (yX1_cell, cX1_cell, 3, (some .int), [], RX1, kc_X1_cell)
def km_X1_beginTable : Mt := (yX1_beginTable, cX1_beginTable, 4, none, [], RX1, kc_X1_beginTable)
def km_X1_addCaught : Mt := (yX1_addCaught, cX1_addCaught, 9, (some .boolean), [], RX1, kc_X1_addCaught)
def km_X1_letRobberMove : Mt := (yX1_letRobberMove, cX1_letRobberMove, 5, none, [], RX1, kc_X1_letRobberMove)
def km_X1_withoutEscape : Mt := (yX1_withoutEscape, cX1_withoutEscape, 4, (some .int), [], RX1, kc_X1_withoutEscape)
def km_X1_letFirstCopMove : Mt := (yX1_letFirstCopMove, cX1_letFirstCopMove, 6, none, [], RX1, kc_X1_letFirstCopMove)
def km_X1_letSecondCopMove : Mt := (yX1_letSecondCopMove, cX1_letSecondCopMove, 8, (some .boolean), [], RX1, kc_X1_letSecondCopMove)
def km_X1_copsFirst : Mt := (yX1_copsFirst, cX1_copsFirst, 4, (some .int), [], RX1, kc_X1_copsFirst)
def km_X1_robberFirst : Mt := (yX1_robberFirst, cX1_robberFirst, 8, (some .int), [], RX1, kc_X1_robberFirst)
def km_X1_bestCopMove : Mt := (yX1_bestCopMove, cX1_bestCopMove, 11, (some .int), [], RX1, kc_X1_bestCopMove)
def km_X1_moveNumber : Mt := (yX1_moveNumber, cX1_moveNumber, 2, (some .int), [], RX1, kc_X1_moveNumber)
def km_X1_bestFlight : Mt := (yX1_bestFlight, cX1_bestFlight, 10, (some .int), [], RX1, kc_X1_bestFlight)
def km_X1_oneCatches : Mt := (yX1_oneCatches, cX1_oneCatches, 2, (some .boolean), [], RX1, kc_X1_oneCatches)
def km_X1_twoCatch : Mt := (yX1_twoCatch, cX1_twoCatch, 3, (some .boolean), [], RX1, kc_X1_twoCatch)
def km_X1_catchesFrom : Mt := (yX1_catchesFrom, cX1_catchesFrom, 4, (some .boolean), [], RX1, kc_X1_catchesFrom)
def km_X2_init : Mt := (yX2_init, cX2_init, 1, none, [], RX2, kc_X2_init)
def km_X2_prepare : Mt := (yX2_prepare, cX2_prepare, 4, none, [], RX2, kc_X2_prepare)
def km_X2_least : Mt := (yX2_least, cX2_least, 1, (some .int), [], RX2, kc_X2_least)
def km_X2_spread : Mt := (yX2_spread, cX2_spread, 5, (some .int), [], RX2, kc_X2_spread)
def km_X2_afterRound : Mt := (yX2_afterRound, cX2_afterRound, 5, (some .int), [], RX2, kc_X2_afterRound)
def km_X3_init : Mt := (yX3_init, cX3_init, 1, none, [], RX3, kc_X3_init)
def km_X3_count : Mt := (yX3_count, cX3_count, 1, (some .int), [], RX3, kc_X3_count)
def km_X3_forget : Mt := (yX3_forget, cX3_forget, 1, none, [], RX3, kc_X3_forget)
def km_X3_add : Mt := (yX3_add, cX3_add, 4, none, [], RX3, kc_X3_add)
def km_X3_latestRoom : Mt := (yX3_latestRoom, cX3_latestRoom, 1, (some .int), [], RX3, kc_X3_latestRoom)
def km_X3_latestOther : Mt := (yX3_latestOther, cX3_latestOther, 1, (some .int), [], RX3, kc_X3_latestOther)
def km_X3_latestSet : Mt := (yX3_latestSet, cX3_latestSet, 1, (some .int), [], RX3, kc_X3_latestSet)
def km_X3_dropLatest : Mt := (yX3_dropLatest, cX3_dropLatest, 1, none, [], RX3, kc_X3_dropLatest)
def km_X4_init : Mt := (yX4_init, cX4_init, 1, none, [], RX4, kc_X4_init)
def km_X4_begin : Mt := (yX4_begin, cX4_begin, 2, none, [], RX4, kc_X4_begin)
def km_X4_size : Mt := (yX4_size, cX4_size, 1, (some .int), [], RX4, kc_X4_size)
def km_X4_version : Mt := (yX4_version, cX4_version, 1, (some .int), [], RX4, kc_X4_version)
def km_X4_has : Mt := (yX4_has, cX4_has, 2, (some .boolean), [], RX4, kc_X4_has)
def km_X4_all : Mt := (yX4_all, cX4_all, 1, (some .int), [], RX4, kc_X4_all)
def km_X4_nextTo : Mt := (yX4_nextTo, cX4_nextTo, 2, (some .int), [], RX4, kc_X4_nextTo)
def km_X4_hasDoor : Mt := (yX4_hasDoor, cX4_hasDoor, 3, (some .boolean), [], RX4, kc_X4_hasDoor)
def km_X4_turnDoor : Mt := (yX4_turnDoor, cX4_turnDoor, 3, none, [], RX4, kc_X4_turnDoor)
def km_X4_isPlace : Mt := (yX4_isPlace, cX4_isPlace, 2, (some .boolean), [], RX4, kc_X4_isPlace)
def km_X4_nearTo : Mt := (yX4_nearTo, cX4_nearTo, 2, (some .int), [], RX4, kc_X4_nearTo)
def km_X4_areNear : Mt := (yX4_areNear, cX4_areNear, 3, (some .boolean), [], RX4, kc_X4_areNear)
def km_X4_nextToSome : Mt := (yX4_nextToSome, cX4_nextToSome, 4, (some .int), [], RX4, kc_X4_nextToSome)
def km_X4_afterShot : Mt := (yX4_afterShot, cX4_afterShot, 3, (some .int), [], RX4, kc_X4_afterShot)
def km_X4_losesAllCorners : Mt := (yX4_losesAllCorners, cX4_losesAllCorners, 4, (some .boolean), [], RX4, kc_X4_losesAllCorners)
def km_X4_lowestCorner : Mt := (yX4_lowestCorner, cX4_lowestCorner, 3, (some .int), [], RX4, kc_X4_lowestCorner)
def km_X4_isCorner : Mt := (yX4_isCorner, cX4_isCorner, 6, (some .boolean), [], RX4, kc_X4_isCorner)
def km_X6_init : Mt := (yX6_init, cX6_init, 2, none, [], RX6, kc_X6_init)
def km_X6_at : Mt := (yX6_at, cX6_at, 2, (some .int), [], RX6, kc_X6_at)
def km_X6_put : Mt := (yX6_put, cX6_put, 3, none, [], RX6, kc_X6_put)
def km_X6_putAll : Mt := (yX6_putAll, cX6_putAll, 3, none, [], RX6, kc_X6_putAll)
def km_X7_init : Mt := (yX7_init, cX7_init, 1, none, [], RX7, kc_X7_init)
def km_X7_rooms : Mt := (yX7_rooms, cX7_rooms, 3, (some .int), [], RX7, kc_X7_rooms)
def km_X7_door : Mt := (yX7_door, cX7_door, 5, (some .boolean), [], RX7, kc_X7_door)
def km_X7_shoot : Mt := (yX7_shoot, cX7_shoot, 2, (some .int), [], RX7, kc_X7_shoot)
def km_X7_back : Mt := (yX7_back, cX7_back, 2, (some .int), [], RX7, kc_X7_back)
def km_X7_time : Mt := (yX7_time, cX7_time, 4, (some .int), [], RX7, kc_X7_time)
def km_X7_step : Mt := (yX7_step, cX7_step, 4, (some .int), [], RX7, kc_X7_step)
def km_X7_away : Mt := (yX7_away, cX7_away, 4, (some .int), [], RX7, kc_X7_away)
def km_X7_catches : Mt := (yX7_catches, cX7_catches, 2, (some .boolean), [], RX7, kc_X7_catches)
def km_X7_fallsApart : Mt := (yX7_fallsApart, cX7_fallsApart, 1, (some .boolean), [], RX7, kc_X7_fallsApart)
def km_X7_rabbit : Mt := (yX7_rabbit, cX7_rabbit, 1, (some .int), [], RX7, kc_X7_rabbit)
def km_X7_hunt : Mt := (yX7_hunt, cX7_hunt, 1, (some .int), [], RX7, kc_X7_hunt)
def km_X7_aim : Mt := (yX7_aim, cX7_aim, 1, (some .int), [], RX7, kc_X7_aim)
def km_X7_forced : Mt := (yX7_forced, cX7_forced, 2, (some .int), [], RX7, kc_X7_forced)
def km_X7_leastBlue : Mt := (yX7_leastBlue, cX7_leastBlue, 1, (some .int), [], RX7, kc_X7_leastBlue)
def km_X7_beginDeeds : Mt := (yX7_beginDeeds, cX7_beginDeeds, 1, none, [], RX7, kc_X7_beginDeeds)
def km_X7_needRoom : Mt := (yX7_needRoom, cX7_needRoom, 2, none, [], RX7, kc_X7_needRoom)
def km_X7_needBeginning : Mt := (yX7_needBeginning, cX7_needBeginning, 4, none, [], RX7, kc_X7_needBeginning)
def km_X7_needSet : Mt := (yX7_needSet, cX7_needSet, 2, none, [], RX7, kc_X7_needSet)
def km_X7_needPlaceForDeed : Mt := (yX7_needPlaceForDeed, cX7_needPlaceForDeed, 1, none, [], RX7, kc_X7_needPlaceForDeed)
def km_X7_placeOf : Mt := (yX7_placeOf, cX7_placeOf, 1, (some .int), [], RX7, kc_X7_placeOf)
def km_J6_bitCount_0f7a4 : Mt := (yJ6_bitCount_0f7a4, cJ6_bitCount_0f7a4, 1, (some .int), [], RJ6, kc_J6_bitCount_0f7a4)
def km_L_cell : Mt := (yL_cell, cL_cell, 2, (some .int), [], RL, kc_L_cell)
def km_L_at : Mt := (yL_at, cL_at, 2, (some .int), [], RL, kc_L_at)
def km_L_size : Mt := (yL_size, cL_size, 3, (some .int), [], RL, kc_L_size)
def km_L_law : Mt := (x, code, 20, (some .boolean), [], RL, kc_L_law)
def txts : List (Nat × String) := [(54, "there are 1 to 9 rooms"), (85, "a door is between two unlike rooms"), (102, "the rabbit is hit for sure"), (111, "there is no deed"), (158, "there are 1 or 2 cops"), (206, "there is no such room"), (209, "the set has others than rooms"), (211, "there are 200 deeds")]
def mtabs : List (List Mt) := [[km_X0_init, km_X0_prepare, km_X0_findSets, km_X0_addSets, km_X0_fewestShots, km_X0_bestShot, km_X1_init, km_X1_prepare, km_X1_pair, km_X1_cell, km_X1_beginTable, km_X1_addCaught, km_X1_letRobberMove, km_X1_withoutEscape, km_X1_letFirstCopMove, km_X1_letSecondCopMove], [km_X1_copsFirst, km_X1_robberFirst, km_X1_bestCopMove, km_X1_moveNumber, km_X1_bestFlight, km_X1_oneCatches, km_X1_twoCatch, km_X1_catchesFrom, km_X2_init, km_X2_prepare, km_X2_least, km_X2_spread, km_X2_afterRound, km_X3_init, km_X3_count, km_X3_forget], [km_X3_add, km_X3_latestRoom, km_X3_latestOther, km_X3_latestSet, km_X3_dropLatest, km_X4_init, km_X4_begin, km_X4_size, km_X4_version, km_X4_has, km_X4_all, km_X4_nextTo, km_X4_hasDoor, km_X4_turnDoor, km_X4_isPlace, km_X4_nearTo], [km_X4_areNear, km_X4_nextToSome, km_X4_afterShot, km_X4_losesAllCorners, km_X4_lowestCorner, km_X4_isCorner, km_X6_init, km_X6_at, km_X6_put, km_X6_putAll, km_X7_init, km_X7_rooms, km_X7_door, km_X7_shoot, km_X7_back, km_X7_time], [km_X7_step, km_X7_away, km_X7_catches, km_X7_fallsApart, km_X7_rabbit, km_X7_hunt, km_X7_aim, km_X7_forced, km_X7_leastBlue, km_X7_beginDeeds, km_X7_needRoom, km_X7_needBeginning, km_X7_needSet, km_X7_needPlaceForDeed, km_X7_placeOf, km_J6_bitCount_0f7a4], [km_L_cell, km_L_at, km_L_size, km_L_law]]
end
section
/-! THE ABSTRACT MACHINE: values are the machine's, but a reference is a PLACE (0 the script, j+1 the j-th thing made). -/
section
abbrev AO : Type := vp_A ⊕ (Nat × List Value)
abbrev AH : Type := Nat × List AO
abbrev Cf : Type := Nat × List Value × List Value × AH
abbrev Ou : Type := (Option Value ⊕ Nat) × AH
def jk : Value := .retAddr 0
def mAt (k : Nat) : Option Mt := match mtabs[k / 16]? with
  | some g => g[k % 16]?
  | none => none
def lkp : List (Nat × Rw) → Nat → Option Rw
  | [], _ => none
  | q :: l, pc => match Nat.beq q.1 pc with
    | true => some q.2
    | false => lkp l pc
def rAtM (M : Mt) (pc : Nat) : Option Rw := match M.2.2.2.2.2.2[pc / 16]? with
  | some l => lkp l pc
  | none => none
def rAt (k pc : Nat) : Option Rw := match mAt k with
  | some M => rAtM M pc
  | none => none
def cmpI (c : Jvm.ClassFile.Cond) (x y : Int32) : Bool := match c with
  | .eq => decide (x = y)
  | .ne => decide (¬ x = y)
  | .lt => decide (x < y)
  | .ge => decide (y ≤ x)
  | .gt => decide (y < x)
  | .le => decide (x ≤ y)
def inb (i : Int32) (n : Nat) : Bool := decide (¬ (i < 0 ∨ n ≤ i.toNatClampNeg))
def dfl (ci : Nat) : List Value := match ci with
  | 0 => [.null, .null, .int 0]
  | 1 => [.null, .null, .null, .null, .int 0]
  | 2 => [.int 0, .int 0]
  | 3 => [.null, .null, .null, .int 0]
  | 4 => [.null, .int 0, .int 0]
  | 5 => [.null]
  | 6 => [.null, .null, .null, .null, .null, .int 0]
  | _ => []
def okv (x3 : Nat) (v : Value) : Bool := match v with
  | .int _ => x3 / 2 == 1
  | .ref _ => x3 / 2 == 0
  | _ => false
def ldi (L : List Value) (k : Nat) : Option Value := match L[k]? with
  | some (.int a) => some (.int a)
  | _ => none
def lda (L : List Value) (k : Nat) : Option Value := match L[k]? with
  | some (.ref a) => some (.ref a)
  | _ => none
def psh (pc : Nat) (L S : List Value) (h : AH) (v : Option Value) : Option Cf := match v with
  | some w => some (pc, L, w :: S, h)
  | none => none
def bin (pc : Nat) (L S : List Value) (h : AH) (f : Int32 → Int32 → Int32) : Option Cf := match S with
  | .int y :: .int x :: S' => some (pc, L, .int (f x y) :: S', h)
  | _ => none
def sti (pc k : Nat) (L S : List Value) (h : AH) : Option Cf := match S with
  | .int x :: S' => bif Nat.blt k L.length then some (pc, L.set k (.int x), S', h) else none
  | _ => none
def sta (pc k : Nat) (L S : List Value) (h : AH) : Option Cf := match S with
  | .ref x :: S' => bif Nat.blt k L.length then some (pc, L.set k (.ref x), S', h) else none
  | _ => none
def nwa (pc : Nat) (t : ArrayType) (L : List Value) (n : Int32) (S : List Value) (h : AH) : Option Cf := match t with
  | .int => some (pc, L, .ref h.2.length :: S, (h.1, h.2 ++ [.inl (n.toNatClampNeg, .inl fun _ => 0)]))
  | _ => none
/-- one instruction that is no call, no return, no throw -/
def stp (pc : Nat) (r : Rw) (L S : List Value) (h : AH) : Option Cf :=
  match r.1 with
  | .aload_n k => psh (pc + 1) L S h (lda L k.val)
  | .aload k => psh (pc + 2) L S h (lda L k)
  | .iload_n k => psh (pc + 1) L S h (ldi L k.val)
  | .iload k => psh (pc + 2) L S h (ldi L k)
  | .istore_n k => sti (pc + 1) k.val L S h
  | .istore k => sti (pc + 2) k L S h
  | .astore_n k => sta (pc + 1) k.val L S h
  | .astore k => sta (pc + 2) k L S h
  | .iconst n => some (pc + 1, L, .int (Int32.ofInt n) :: S, h)
  | .bipush n => some (pc + 2, L, .int (Int8.ofInt n).toInt32 :: S, h)
  | .sipush n => some (pc + 3, L, .int (Int16.ofInt n).toInt32 :: S, h)
  | .lconst n => some (pc + 1, L, .long (Int64.ofNat n.val) :: S, h)
  | .ldc _ => match r.2.2.1 with
    | 0 => none
    | n => some (pc + 2, L, .int (Int32.ofNat n) :: S, h)
  | .ldc_w _ => match r.2.2.1 with
    | 0 => none
    | n => some (pc + 3, L, .int (Int32.ofNat n) :: S, h)
  | .iinc i n => match L[i]? with
    | some (.int x) => some (pc + 3, L.set i (.int (x + Int32.ofInt n)), S, h)
    | _ => none
  | .iadd => bin (pc + 1) L S h (fun x y => x + y)
  | .isub => bin (pc + 1) L S h (fun x y => x - y)
  | .imul => bin (pc + 1) L S h (fun x y => x * y)
  | .iand => bin (pc + 1) L S h (fun x y => x &&& y)
  | .ior => bin (pc + 1) L S h (fun x y => x ||| y)
  | .ixor => bin (pc + 1) L S h (fun x y => x ^^^ y)
  | .ishl => bin (pc + 1) L S h (fun x y => x <<< (y &&& 31))
  | .ishr => bin (pc + 1) L S h (fun x y => x >>> (y &&& 31))
  | .iushr => bin (pc + 1) L S h (fun x y => (x.toUInt32 >>> (y.toUInt32 &&& Int32.toUInt32 31)).toInt32)
  | .idiv => match S with
    | .int y :: .int x :: S' => bif decide (y = 0) then none else some (pc + 1, L, .int (x / y) :: S', h)
    | _ => none
  | .irem => match S with
    | .int y :: .int x :: S' => bif decide (y = 0) then none else some (pc + 1, L, .int (x - x / y * y) :: S', h)
    | _ => none
  | .i2l => match S with
    | .int x :: S' => some (pc + 1, L, .long x.toInt64 :: S', h)
    | _ => none
  | .lcmp => match S with
    | .long y :: .long x :: S' => some (pc + 1, L, .int (lg_cmp x y) :: S', h)
    | _ => none
  | .dup => match S with
    | .ref a :: S' => some (pc + 1, L, .ref a :: .ref a :: S', h)
    | .int a :: S' => some (pc + 1, L, .int a :: .int a :: S', h)
    | _ => none
  | .pop => match S with
    | .ref _ :: S' => some (pc + 1, L, S', h)
    | .int _ :: S' => some (pc + 1, L, S', h)
    | _ => none
  | .goto _ => some (r.2.2.1, L, S, h)
  | .ifCond c _ => match S with
    | .int x :: S' => some (bif cmpI c x 0 then r.2.2.1 else pc + 3, L, S', h)
    | _ => none
  | .if_icmp c _ => match S with
    | .int y :: .int x :: S' => some (bif cmpI c x y then r.2.2.1 else pc + 3, L, S', h)
    | _ => none
  | .getfield _ => match S with
    | .ref a :: S' => match h.2[a]? with
      | some (.inr (ci, fs)) => match Nat.beq ci r.2.2.1 with
        | true => psh (pc + 3) L S' h fs[r.2.2.2.1]?
        | false => none
      | _ => none
    | _ => none
  | .putfield _ => match S with
    | v :: .ref a :: S' => match h.2[a]? with
      | some (.inr (ci, fs)) => match Nat.beq ci r.2.2.1 && (Nat.blt r.2.2.2.1 fs.length && okv r.2.2.2.2 v) with
        | true => some (pc + 3, L, S', (h.1, h.2.set a (.inr (ci, fs.set r.2.2.2.1 v))))
        | false => none
      | _ => none
    | _ => none
  | .arraylength => match S with
    | .ref a :: S' => match h.2[a]? with
      | some (.inl (n, .inl _)) => some (pc + 1, L, .int (Int32.ofNat n) :: S', h)
      | _ => none
    | _ => none
  | .iaload => match S with
    | .int i :: .ref a :: S' => match h.2[a]? with
      | some (.inl (n, .inl f)) => match inb i n with
        | true => some (pc + 1, L, .int (f i.toNatClampNeg) :: S', h)
        | false => none
      | _ => none
    | _ => none
  | .iastore => match S with
    | .int x :: .int i :: .ref (a + 1) :: S' => match h.2[a + 1]? with
      | some (.inl (n, .inl f)) => match inb i n with
        | true => some (pc + 1, L, S', (h.1, h.2.set (a + 1) (.inl (n, .inl (upd f i.toNatClampNeg x)))))
        | false => none
      | _ => none
    | _ => none
  | .new _ => match Nat.blt r.2.2.1 7 && Nat.beq h.1 0 with
    | true => some (pc + 3, L, .ref h.2.length :: S, (h.1, h.2 ++ [.inr (r.2.2.1, dfl r.2.2.1)]))
    | false => none
  | .newarray t => match S with
    | .int n :: S' => match Nat.beq h.1 0 && (decide (¬ n < 0) && Nat.ble n.toNatClampNeg 5000) with
      | true => nwa (pc + 2) t L n S' h
      | false => none
    | _ => none
  | .invokespecial _ => match Nat.beq r.2.2.1 9999 with
    | true => match S with
      | .ref _ :: S' => match Nat.ble S'.length 8 with
        | true => some (pc + 3, L, S', h)
        | false => none
      | _ => none
    | false => none
  | .invokestatic _ => match r.2.2.1, S with
    | 7001, .int y :: .int x :: S' => match Nat.ble S'.length 8 with
      | true => some (pc + 3, L, .int (if x < y then y else x) :: S', h)
      | false => none
    | 7002, .int y :: .int x :: S' => match Nat.ble S'.length 8 with
      | true => some (pc + 3, L, .int (if y < x then y else x) :: S', h)
      | false => none
    | _, _ => none
  | .tableswitch d lo hi offs => match S with
    | .int x :: S' => match decide (x.toInt < lo ∨ hi < x.toInt) with
      | true => some (((pc : Int) + d).toNat, L, S', h)
      | false => match offs[(x.toInt - lo).toNat]? with
        | some off => some (((pc : Int) + off).toNat, L, S', h)
        | none => none
    | _ => none
  | _ => none
def cat1 (v : Value) : Bool := match v with
  | .int _ => true
  | .ref _ => true
  | _ => false
/-- a call: the method, its arguments (its receiver first), what stays on the stack -/
def cll (r : Rw) (S : List Value) (h : AH) : Option (Nat × List Value × List Value) :=
  match r.1 with
  | .invokestatic _ => match Nat.blt r.2.2.1 7000 && (Nat.ble r.2.2.2.1 S.length && (S.take r.2.2.2.1).all cat1) with
    | true => some (r.2.2.1, (S.take r.2.2.2.1).reverse, S.drop r.2.2.2.1)
    | false => none
  | .invokevirtual _ => match S.drop r.2.2.2.1 with
    | .ref a :: rest => match h.2[a]? with
      | some (.inr (ci, _)) => match Nat.beq ci r.2.2.2.2 && (S.take r.2.2.2.1).all cat1 with
        | true => some (r.2.2.1, .ref a :: (S.take r.2.2.2.1).reverse, rest)
        | false => none
      | _ => none
    | _ => none
  | .invokespecial _ => match Nat.blt r.2.2.1 8000 with
    | true => match S.drop r.2.2.2.1 with
      | .ref a :: rest => match (S.take r.2.2.2.1).all cat1 with
        | true => some (r.2.2.1, .ref a :: (S.take r.2.2.2.1).reverse, rest)
        | false => none
      | _ => none
    | false => none
  | _ => none
/-- no call of an <init> -/
def nsp (r : Rw) : Bool := match r.1 with
  | .invokespecial _ => false
  | _ => true
def maxLOf (k : Nat) : Nat := match mAt k with
  | some M => M.2.2.1
  | none => 0
/-- a method's entry -/
def ent0 (y : Nat) (as : List Value) (h : AH) : Cf := (0, as ++ List.replicate (maxLOf y - as.length) jk, [], h)
def exn (E : Nat) : String := match E with
  | 0 => "java/lang/IllegalArgumentException"
  | 1 => "java/lang/IllegalStateException"
  | _ => "java/lang/IndexOutOfBoundsException"
/-- where a method takes up a throw that comes at pc: the handler's row -/
def hnd (M : Mt) (hs : List (Nat × Nat × Nat × Nat)) (pc : Nat) (E : Nat) : Option Nat := match hs with
  | [] => none
  | q :: l => match decide (q.1 ≤ pc ∧ pc < q.2.1) && hcl M q.2.2.2 E with
    | true => some q.2.2.1
    | false => hnd M l pc E
where hcl (_ : Mt) (ct E : Nat) : Bool := match ct, E with
  | 13, 0 => true
  | 18, 1 => true
  | 24, 2 => true
  | _, _ => false
/-- what a handler begins with: it keeps what was thrown -/
def hst (M : Mt) (hp : Nat) : Option (Nat × Nat) := match rAtM M hp with
  | some (.astore_n j, _) => some (hp + 1, j.val)
  | some (.astore j, _) => some (hp + 2, j)
  | _ => none
def rtok (ret : Option FieldType) (v : Int32) : Bool := match ret with
  | some .int => true
  | some .boolean => decide (v &&& 1 = v)
  | _ => false
/-- a way out: a return, or a throw -/
def fin (M : Mt) (r : Rw) (S : List Value) (h : AH) : Option Ou := match r.1 with
  | .ireturn => match S with
    | [.int v] => match rtok M.2.2.2.1 v with
      | true => some (.inl (some (.int v)), h)
      | false => none
    | _ => none
  | .return_ => match S, M.2.2.2.1 with
    | [], none => some (.inl none, h)
    | _, _ => none
  | _ => none
/-- closed under what the machine does -/
def Clo (P : Nat → Nat → Cf → Ou → Prop) : Prop :=
  (∀ d k M pc r L S h o, mAt k = some M → rAtM M pc = some r → fin M r S h = some o → P d k (pc, L, S, h) o) ∧
  (∀ d k M pc r L S h c' o, mAt k = some M → rAtM M pc = some r → stp pc r L S h = some c' → P d k c' o → P d k (pc, L, S, h) o) ∧
  (∀ d k M pc r L S h y as rest v h1 o, mAt k = some M → rAtM M pc = some r → cll r S h = some (y, as, rest) → rest.length ≤ 4 → P d y (ent0 y as h) (.inl v, h1) → P (d + 1) k (pc + 3, L, v.toList ++ rest, h1) o → P (d + 1) k (pc, L, S, h) o) ∧
  (∀ d k M pc r L S h y as rest E h1, mAt k = some M → rAtM M pc = some r → cll r S h = some (y, as, rest) → rest.length ≤ 4 → nsp r = true → M.2.2.2.2.1 = [] → P d y (ent0 y as h) (.inr E, h1) → P (d + 1) k (pc, L, S, h) (.inr E, h1)) ∧
  (∀ d k M pc r L S h y as rest E h1 hp q o, mAt k = some M → rAtM M pc = some r → cll r S h = some (y, as, rest) → rest.length ≤ 4 → nsp r = true → hnd M M.2.2.2.2.1 pc E = some hp → hst M hp = some q → q.2 < L.length → P d y (ent0 y as h) (.inr E, h1) → P (d + 1) k (q.1, L.set q.2 jk, [], h1) o → P (d + 1) k (pc, L, S, h) o)
/-- method k, from a frame on, with calls d deep at most, comes out so -/
def Ev (d k : Nat) (c : Cf) (o : Ou) : Prop := ∀ P : Nat → Nat → Cf → Ou → Prop, Clo P → P d k c o
theorem Ev.fin {d k M pc r L S h o} (hM : mAt k = some M) (hr : rAtM M pc = some r) (hf : fin M r S h = some o) : Ev d k (pc, L, S, h) o := fun P H => H.1 d k M pc r L S h o hM hr hf
theorem Ev.step {d k M pc r L S h c' o} (hM : mAt k = some M) (hr : rAtM M pc = some r) (hs : stp pc r L S h = some c') (e : Ev d k c' o) : Ev d k (pc, L, S, h) o := fun P H => H.2.1 d k M pc r L S h c' o hM hr hs (e P H)
theorem Ev.call {d k M pc r L S h y as rest v h1 o} (hM : mAt k = some M) (hr : rAtM M pc = some r) (hs : cll r S h = some (y, as, rest)) (hl : rest.length ≤ 4) (e1 : Ev d y (ent0 y as h) (.inl v, h1)) (e : Ev (d + 1) k (pc + 3, L, v.toList ++ rest, h1) o) : Ev (d + 1) k (pc, L, S, h) o := fun P H => H.2.2.1 d k M pc r L S h y as rest v h1 o hM hr hs hl (e1 P H) (e P H)
theorem Ev.pass {d k M pc r L S h y as rest E h1} (hM : mAt k = some M) (hr : rAtM M pc = some r) (hs : cll r S h = some (y, as, rest)) (hl : rest.length ≤ 4) (hn : nsp r = true) (hh : M.2.2.2.2.1 = []) (e1 : Ev d y (ent0 y as h) (.inr E, h1)) : Ev (d + 1) k (pc, L, S, h) (.inr E, h1) := fun P H => H.2.2.2.1 d k M pc r L S h y as rest E h1 hM hr hs hl hn hh (e1 P H)
theorem Ev.catch {d k M pc r L S h y as rest E h1 hp q o} (hM : mAt k = some M) (hr : rAtM M pc = some r) (hs : cll r S h = some (y, as, rest)) (hl : rest.length ≤ 4) (hn : nsp r = true) (hh : hnd M M.2.2.2.2.1 pc E = some hp) (hq : hst M hp = some q) (hj : q.2 < L.length) (e1 : Ev d y (ent0 y as h) (.inr E, h1)) (e : Ev (d + 1) k (q.1, L.set q.2 jk, [], h1) o) : Ev (d + 1) k (pc, L, S, h) o := fun P H => H.2.2.2.2 d k M pc r L S h y as rest E h1 hp q o hM hr hs hl hn hh hq hj (e1 P H) (e P H)
end
end
section
/-! WHAT A ROW OF THE TABLES RESTS ON: its bytes, and the words that link it. -/
section
def TG : List Jvm.Cond := lw_tbl.filter goodWord
theorem TG_good : GoodIn lw_tbl TG := fun w h => ⟨(List.mem_filter.mp h).1, good_of_word (List.mem_filter.mp h).2⟩
/-- the words of the faces: castable ones -/
def NG : List Jvm.Cond := lw_tbl.filter (fun w => w.faceAtom && w.onTables)
def fT (ci k : Nat) : String × String × String × Bool := match vwCl[ci]? with
  | some q => q.2.1 k
  | none => ("", "", "", false)
def fN (ci : Nat) : Nat := match vwCl[ci]? with
  | some q => q.2.2
  | none => 0
def fC (ci : Nat) : String := match vwCl[ci]? with
  | some q => q.1
  | none => ""
def tyT (ci : Nat) : Nat → FieldType := match ci with
  | 0 => tyX0
  | 1 => tyX1
  | 2 => tyX2
  | 3 => tyX3
  | 4 => tyX4
  | 5 => tyX6
  | _ => tyX7
def ilen (i : Instr) (n : Nat) : Nat := match i with
  | .aload _ | .iload _ | .istore _ | .astore _ | .bipush _ | .ldc _ | .newarray _ => 2
  | .sipush _ | .ldc_w _ | .iinc _ _ | .goto _ | .ifCond _ _ | .if_icmp _ _ | .getfield _ | .putfield _ | .new _ | .invokevirtual _ | .invokestatic _ | .invokespecial _ => 3
  | .tableswitch _ _ _ _ => n
  | _ => 1
def cdW (M : Mt) : Jvm.Cond := match M.2.2.2.2.1 with
  | [] => .code M.1 M.2.1 M.2.2.1 M.2.2.2.1
  | q :: l => .codeWith M.1 M.2.1 M.2.2.1 M.2.2.2.1 (q :: l)
def xnames : List String := ["java/lang/RuntimeException", "java/lang/Exception"]
def clee (Y : Mt) (n nn : Nat) : Bool := decide (Y.1.cls ≠ "java/lang/invoke/MethodHandle") && decide (Y.1.cls ≠ "java/lang/invoke/VarHandle") && plainName Y.1.cls && decide ((parseMethodDescriptor Y.1.desc).map (fun d => d.parameters.length) = some n) && Nat.ble Y.2.2.1 20 && Nat.ble nn Y.2.2.1 && decide (Y.1.cls = Y.2.2.2.2.2.1)
/-- the words of a throw: those that the tables hold, by (kind, entry) -/
def thw (E ic : Nat) : Bool := decide ((E = 0 ∧ ic = 56) ∨ (E = 1 ∧ ic = 75) ∨ (E = 2 ∧ ic = 208))
/-- the words that a row needs -/
def rwd (M : Mt) (r : Rw) : List Jvm.Cond := match r.1 with
  | .getfield idx => [.fieldLink M.2.2.2.2.2.1 idx (fT r.2.2.1 r.2.2.2.1).1 (fT r.2.2.1 r.2.2.2.1).2.1 (fT r.2.2.1 r.2.2.2.1).2.2.1]
  | .putfield idx => [.fieldLink M.2.2.2.2.2.1 idx (fT r.2.2.1 r.2.2.2.1).1 (fT r.2.2.1 r.2.2.2.1).2.1 (fT r.2.2.1 r.2.2.2.1).2.2.1]
  | .invokestatic idx => if r.2.2.1 = 7001 then [.methodLink M.2.2.2.2.2.1 idx Lib.Math.max.name, .static Lib.Math.max.name, .code Lib.Math.max.name Lib.Math.max.code 2 (some .int), .initialized "java/lang/Math"]
      else if r.2.2.1 = 7002 then [.methodLink M.2.2.2.2.2.1 idx Lib.Math.min.name, .static Lib.Math.min.name, .code Lib.Math.min.name Lib.Math.min.code 2 (some .int), .initialized "java/lang/Math"]
      else match mAt r.2.2.1 with
      | some Y => [.methodLink M.2.2.2.2.2.1 idx Y.1, .static Y.1, cdW Y, .initialized Y.1.cls]
      | none => []
  | .invokevirtual idx => (match mAt r.2.2.1 with
      | some Y => [.methodLink M.2.2.2.2.2.1 idx Y.1, .instanceMethod Y.1, .selects Y.1.cls Y.1 Y.1, cdW Y, .initialized Y.1.cls]
      | none => [])
  | .invokespecial idx => if r.2.2.1 = 9999 then [.methodLink M.2.2.2.2.2.1 idx objectInit, .instanceMethod objectInit, .code objectInit ⟨#[0xb1]⟩ 1 none] else if r.2.2.1 = 8888 then [] else (match mAt r.2.2.1 with
      | some Y => [.methodLink M.2.2.2.2.2.1 idx Y.1, .instanceMethod Y.1, cdW Y, .initialized Y.1.cls]
      | none => [])
  | .new idx => if r.2.2.1 < 7 then [.classLink M.2.2.2.2.2.1 idx (fC r.2.2.1), .instantiable (fC r.2.2.1) (fN r.2.2.1), .initialized (fC r.2.2.1)] else [.classLink "Coppinghouse" idx (exn (r.2.2.1 - 1000)), .initialized (exn (r.2.2.1 - 1000))]
  | .newarray t => [.arrayClass (newarray.typeOf t)]
  | .ldc idx => if r.2.2.1 = 0 then [] else [.constant M.2.2.2.2.2.1 idx (Int32.ofNat r.2.2.1)]
  | .ldc_w idx => if r.2.2.1 = 0 then [] else [.constant M.2.2.2.2.2.1 idx (Int32.ofNat r.2.2.1)]
  | _ => []
def hwd (q : Nat × Nat × Nat × Nat) (own : String) : List Jvm.Cond := match q.2.2.2 with
  | 13 => [.classLink own 13 (exn 0)]
  | 18 => [.classLink own 18 (exn 1)]
  | 24 => [.classLink own 24 (exn 2)]
  | _ => []
def thr (M : Mt) (pc : Nat) (idx E is ic : Nat) : Bool :=
  Nat.blt E 3 && decide (M.2.2.2.2.2.1 = "Coppinghouse") && decide (decode M.2.1 (pc + 3) = .ok (.dup, 1)) && decide (decode M.2.1 (pc + 4) = .ok (.ldc is, 2)) && decide (decode M.2.1 (pc + 6) = .ok (.invokespecial ic, 3)) && decide (decode M.2.1 (pc + 9) = .ok (.athrow, 1)) && decide (M.2.2.2.2.1 = []) && thw E ic && (txts.map (·.1)).contains is
def rok (M : Mt) (pc : Nat) (r : Rw) : Bool :=
  decide (decode M.2.1 pc = .ok (r.1, ilen r.1 r.2.1)) && (match r.1 with
  | .getfield idx => Nat.blt r.2.2.1 7 && Nat.blt r.2.2.2.1 (fN r.2.2.1)
  | .putfield idx => Nat.blt r.2.2.1 7 && Nat.blt r.2.2.2.1 (fN r.2.2.1) &&
      (match (fT r.2.2.1 r.2.2.2.1).2.2.2 with
        | true => decide (M.1.name = "<init>") && decide ((fT r.2.2.1 r.2.2.2.1).1 = M.2.2.2.2.2.1)
        | false => true) &&
      (match tyT r.2.2.1 r.2.2.2.1 with
        | .int => r.2.2.2.2 / 2 == 1
        | .object _ => r.2.2.2.2 / 2 == 0
        | .array _ => r.2.2.2.2 / 2 == 0
        | _ => false)
  | .invokestatic idx => if r.2.2.1 = 7001 then true else if r.2.2.1 = 7002 then true else (match mAt r.2.2.1 with
      | some Y => clee Y r.2.2.2.1 r.2.2.2.1
      | none => false)
  | .invokevirtual idx => (match mAt r.2.2.1 with
      | some Y => clee Y r.2.2.2.1 (r.2.2.2.1 + 1) && decide (Y.2.2.2.2.1 = []) && Nat.blt r.2.2.2.2 7 && decide (fC r.2.2.2.2 = Y.1.cls)
      | none => false)
  | .invokespecial idx => if r.2.2.1 = 9999 then true else if r.2.2.1 = 8888 then true else (match mAt r.2.2.1 with
      | some Y => clee Y r.2.2.2.1 (r.2.2.2.1 + 1) && decide (Y.2.2.2.2.1 = []) && decide (Y.2.2.2.1 = none) && decide (Y.1.name = "<init>")
      | none => false)
  | .new idx => if r.2.2.1 < 7 then true else Nat.ble 1000 r.2.2.1 && thr M pc idx (r.2.2.1 - 1000) r.2.2.2.1 r.2.2.2.2
  | .goto off => decide ((pc : Int) + off = (r.2.2.1 : Int))
  | .ifCond _ off => decide ((pc : Int) + off = (r.2.2.1 : Int))
  | .if_icmp _ off => decide ((pc : Int) + off = (r.2.2.1 : Int))
  | .tableswitch d _ _ offs => decide (0 ≤ (pc : Int) + d) && offs.all (fun o => decide (0 ≤ (pc : Int) + o))
  | _ => true)
/-- every row of a method, and its handlers -/
def mok (M : Mt) : Bool := M.2.2.2.2.2.2.all (fun l => l.all fun q => rok M q.1 q.2) && M.2.2.2.2.1.all (fun q => Nat.beq q.2.2.2 13 || Nat.beq q.2.2.2 18 || Nat.beq q.2.2.2 24)
def mwd (M : Mt) : List Jvm.Cond := (M.2.2.2.2.2.2.flatMap fun l => l.flatMap fun q => rwd M q.2) ++ (M.2.2.2.2.1.flatMap fun q => hwd q M.2.2.2.2.2.1)
theorem mok_of {M : Mt} (h : ∀ l ∈ M.2.2.2.2.2.2, ∀ q ∈ l, rok M q.1 q.2 = true) (h2 : M.2.2.2.2.1.all (fun q => Nat.beq q.2.2.2 13 || Nat.beq q.2.2.2 18 || Nat.beq q.2.2.2 24) = true) : mok M = true := by
  unfold mok
  rw [h2, Bool.and_true]
  exact List.all_eq_true.mpr fun l hl => List.all_eq_true.mpr fun q hq => h l hl q hq
theorem thw_ok {E ic : Nat} (h : thw E ic = true) : ∀ w ∈ vx_atS "Coppinghouse" ic (exn E) xnames, (w ∈ TG ∨ w ∈ NG) := by
  rcases of_decide_eq_true h with ⟨rfl, rfl⟩ | ⟨rfl, rfl⟩ | ⟨rfl, rfl⟩
  · decide +kernel
  · decide +kernel
  · decide +kernel
theorem thw_ot {E ic : Nat} (h : thw E ic = true) : ∀ w ∈ vx_atS "Coppinghouse" ic (exn E) xnames, vx_ot w = true := by
  rcases of_decide_eq_true h with ⟨rfl, rfl⟩ | ⟨rfl, rfl⟩ | ⟨rfl, rfl⟩
  · decide +kernel
  · decide +kernel
  · decide +kernel
end
end
section
section
set_option maxRecDepth 100000 in
theorem mk_X0_init : mok km_X0_init = true := by decide +kernel
set_option maxRecDepth 100000 in
theorem mw_X0_init : GoodIn lw_tbl (mwd km_X0_init) := goodIn_r _ [118, 39, 40, 119, 48, 20, 120, 50, 51, 20, 121, 119, 48, 20, 120, 50, 51, 20, 122, 123] (by decide +kernel) (by decide +kernel)
set_option maxRecDepth 100000 in
theorem mk_X0_prepare : mok km_X0_prepare = true := by decide +kernel
set_option maxRecDepth 100000 in
theorem mw_X0_prepare : GoodIn lw_tbl (mwd km_X0_prepare) := goodIn_r _ [123, 522, 391, 392, 393, 19, 523, 145, 146, 147, 19, 121, 524, 353, 354, 355, 19, 525, 335, 336, 337, 20, 122, 526, 254, 255, 256, 20, 122, 525, 335, 336, 337, 20, 527, 529, 14, 530, 23, 522, 391, 392, 393, 19, 123] (by decide +kernel) (by decide +kernel)
set_option maxRecDepth 100000 in
theorem mk_X0_findSets : mok km_X0_findSets = true := by decide +kernel
set_option maxRecDepth 100000 in
theorem mw_X0_findSets : GoodIn lw_tbl (mwd km_X0_findSets) := goodIn_r _ [523, 145, 146, 147, 19, 122, 121, 531, 303, 304, 305, 20, 531, 303, 304, 305, 20, 532, 534, 15, 535, 23] (by decide +kernel) (by decide +kernel)
set_option maxRecDepth 100000 in
theorem mk_X0_addSets : mok km_X0_addSets = true := by decide +kernel
set_option maxRecDepth 100000 in
theorem mw_X0_addSets : GoodIn lw_tbl (mwd km_X0_addSets) := goodIn_r _ [536, 240, 241, 242, 19, 122, 531, 303, 304, 305, 20, 122, 525, 335, 336, 337, 20] (by decide +kernel) (by decide +kernel)
set_option maxRecDepth 100000 in
theorem mk_X0_fewestShots : mok km_X0_fewestShots = true := by decide +kernel
set_option maxRecDepth 100000 in
theorem mw_X0_fewestShots : GoodIn lw_tbl (mwd km_X0_fewestShots) := goodIn_r _ [122, 531, 303, 304, 305, 20] (by decide +kernel) (by decide +kernel)
set_option maxRecDepth 100000 in
theorem mk_X0_bestShot : mok km_X0_bestShot = true := by decide +kernel
set_option maxRecDepth 100000 in
theorem mw_X0_bestShot : GoodIn lw_tbl (mwd km_X0_bestShot) := goodIn_r _ [549, 538, 539, 540, 23, 536, 240, 241, 242, 19, 121, 531, 303, 304, 305, 20, 549, 538, 539, 540, 23] (by decide +kernel) (by decide +kernel)
set_option maxRecDepth 100000 in
theorem mk_X1_init : mok km_X1_init = true := by decide +kernel
set_option maxRecDepth 100000 in
theorem mw_X1_init : GoodIn lw_tbl (mwd km_X1_init) := goodIn_r _ [94, 39, 40, 95, 48, 20, 96, 50, 51, 20, 97, 95, 48, 20, 96, 50, 51, 20, 98, 95, 48, 20, 96, 50, 51, 20, 99, 95, 48, 20, 96, 50, 51, 20, 100, 101] (by decide +kernel) (by decide +kernel)
set_option maxRecDepth 100000 in
theorem mk_X1_prepare : mok km_X1_prepare = true := by decide +kernel
set_option maxRecDepth 100000 in
theorem mw_X1_prepare : GoodIn lw_tbl (mwd km_X1_prepare) := goodIn_r _ [101, 390, 391, 392, 393, 19, 394, 396, 5, 397, 22, 418, 420, 7, 421, 22, 429, 431, 8, 432, 22, 437, 439, 9, 440, 22, 390, 391, 392, 393, 19, 101] (by decide +kernel) (by decide +kernel)
set_option maxRecDepth 100000 in
theorem mk_X1_pair : mok km_X1_pair = true := by decide +kernel
set_option maxRecDepth 100000 in
theorem mw_X1_pair : GoodIn lw_tbl (mwd km_X1_pair) := goodIn_r _ [] (by decide +kernel) (by decide +kernel)
set_option maxRecDepth 100000 in
theorem mk_X1_cell : mok km_X1_cell = true := by decide +kernel
set_option maxRecDepth 100000 in
theorem mw_X1_cell : GoodIn lw_tbl (mwd km_X1_cell) := goodIn_r _ [409, 410, 411, 22] (by decide +kernel) (by decide +kernel)
set_option maxRecDepth 100000 in
theorem mk_X1_beginTable : mok km_X1_beginTable = true := by decide +kernel
set_option maxRecDepth 100000 in
theorem mw_X1_beginTable : GoodIn lw_tbl (mwd km_X1_beginTable) := goodIn_r _ [97, 398, 254, 255, 256, 20, 98, 398, 254, 255, 256, 20, 399, 240, 241, 242, 19, 400, 401, 402, 403, 19, 405, 407, 6, 408, 22] (by decide +kernel) (by decide +kernel)
set_option maxRecDepth 100000 in
theorem mk_X1_addCaught : mok km_X1_addCaught = true := by decide +kernel
set_option maxRecDepth 100000 in
theorem mw_X1_addCaught : GoodIn lw_tbl (mwd km_X1_addCaught) := goodIn_r _ [98, 409, 410, 411, 22, 412, 303, 304, 305, 20, 413, 145, 146, 147, 19, 399, 240, 241, 242, 19, 97, 414, 415, 416, 22, 417, 335, 336, 337, 20, 98, 409, 410, 411, 22, 417, 335, 336, 337, 20] (by decide +kernel) (by decide +kernel)
set_option maxRecDepth 100000 in
theorem mk_X1_letRobberMove : mok km_X1_letRobberMove = true := by decide +kernel
set_option maxRecDepth 100000 in
theorem mw_X1_letRobberMove : GoodIn lw_tbl (mwd km_X1_letRobberMove) := goodIn_r _ [399, 240, 241, 242, 19, 400, 401, 402, 403, 19, 98, 409, 410, 411, 22, 412, 303, 304, 305, 20, 422, 423, 424, 22, 99, 409, 410, 411, 22, 417, 335, 336, 337, 20] (by decide +kernel) (by decide +kernel)
set_option maxRecDepth 100000 in
theorem mk_X1_withoutEscape : mok km_X1_withoutEscape = true := by decide +kernel
set_option maxRecDepth 100000 in
theorem mw_X1_withoutEscape : GoodIn lw_tbl (mwd km_X1_withoutEscape) := goodIn_r _ [399, 240, 241, 242, 19, 425, 426, 427, 428, 19] (by decide +kernel) (by decide +kernel)
set_option maxRecDepth 100000 in
theorem mk_X1_letFirstCopMove : mok km_X1_letFirstCopMove = true := by decide +kernel
set_option maxRecDepth 100000 in
theorem mw_X1_letFirstCopMove : GoodIn lw_tbl (mwd km_X1_letFirstCopMove) := goodIn_r _ [399, 240, 241, 242, 19, 400, 401, 402, 403, 19, 399, 240, 241, 242, 19, 433, 434, 435, 436, 19, 99, 409, 410, 411, 22, 412, 303, 304, 305, 20, 100, 409, 410, 411, 22, 417, 335, 336, 337, 20] (by decide +kernel) (by decide +kernel)
set_option maxRecDepth 100000 in
theorem mk_X1_letSecondCopMove : mok km_X1_letSecondCopMove = true := by decide +kernel
set_option maxRecDepth 100000 in
theorem mw_X1_letSecondCopMove : GoodIn lw_tbl (mwd km_X1_letSecondCopMove) := goodIn_r _ [399, 240, 241, 242, 19, 400, 401, 402, 403, 19, 433, 434, 435, 436, 19, 100, 409, 410, 411, 22, 412, 303, 304, 305, 20, 405, 407, 6, 408, 22] (by decide +kernel) (by decide +kernel)
set_option maxRecDepth 100000 in
theorem mk_X1_copsFirst : mok km_X1_copsFirst = true := by decide +kernel
set_option maxRecDepth 100000 in
theorem mw_X1_copsFirst : GoodIn lw_tbl (mwd km_X1_copsFirst) := goodIn_r _ [97, 414, 415, 416, 22, 412, 303, 304, 305, 20] (by decide +kernel) (by decide +kernel)
set_option maxRecDepth 100000 in
theorem mk_X1_robberFirst : mok km_X1_robberFirst = true := by decide +kernel
set_option maxRecDepth 100000 in
theorem mw_X1_robberFirst : GoodIn lw_tbl (mwd km_X1_robberFirst) := goodIn_r _ [399, 240, 241, 242, 19, 433, 434, 435, 436, 19, 456, 445, 446, 447, 22, 461, 251, 252, 29] (by decide +kernel) (by decide +kernel)
set_option maxRecDepth 100000 in
theorem mk_X1_bestCopMove_0 : ∀ q ∈ kq_X1_bestCopMove_0, rok km_X1_bestCopMove q.1 q.2 = true := by decide +kernel
set_option maxRecDepth 100000 in
theorem mk_X1_bestCopMove_1 : ∀ q ∈ kq_X1_bestCopMove_1, rok km_X1_bestCopMove q.1 q.2 = true := by decide +kernel
set_option maxRecDepth 100000 in
theorem mk_X1_bestCopMove_2 : ∀ q ∈ kq_X1_bestCopMove_2, rok km_X1_bestCopMove q.1 q.2 = true := by decide +kernel
set_option maxRecDepth 100000 in
theorem mk_X1_bestCopMove_3 : ∀ q ∈ kq_X1_bestCopMove_3, rok km_X1_bestCopMove q.1 q.2 = true := by decide +kernel
set_option maxRecDepth 100000 in
theorem mk_X1_bestCopMove_4 : ∀ q ∈ kq_X1_bestCopMove_4, rok km_X1_bestCopMove q.1 q.2 = true := by decide +kernel
set_option maxRecDepth 100000 in
theorem mk_X1_bestCopMove_5 : ∀ q ∈ kq_X1_bestCopMove_5, rok km_X1_bestCopMove q.1 q.2 = true := by decide +kernel
set_option maxRecDepth 100000 in
theorem mk_X1_bestCopMove_6 : ∀ q ∈ kq_X1_bestCopMove_6, rok km_X1_bestCopMove q.1 q.2 = true := by decide +kernel
set_option maxRecDepth 100000 in
theorem mk_X1_bestCopMove_7 : ∀ q ∈ kq_X1_bestCopMove_7, rok km_X1_bestCopMove q.1 q.2 = true := by decide +kernel
set_option maxRecDepth 100000 in
theorem mk_X1_bestCopMove_8 : ∀ q ∈ kq_X1_bestCopMove_8, rok km_X1_bestCopMove q.1 q.2 = true := by decide +kernel
theorem mkr_X1_bestCopMove : ∀ l ∈ kc_X1_bestCopMove, ∀ q ∈ l, rok km_X1_bestCopMove q.1 q.2 = true := (List.forall_mem_cons.mpr ⟨mk_X1_bestCopMove_0, (List.forall_mem_cons.mpr ⟨mk_X1_bestCopMove_1, (List.forall_mem_cons.mpr ⟨mk_X1_bestCopMove_2, (List.forall_mem_cons.mpr ⟨mk_X1_bestCopMove_3, (List.forall_mem_cons.mpr ⟨mk_X1_bestCopMove_4, (List.forall_mem_cons.mpr ⟨mk_X1_bestCopMove_5, (List.forall_mem_cons.mpr ⟨mk_X1_bestCopMove_6, (List.forall_mem_cons.mpr ⟨mk_X1_bestCopMove_7, (List.forall_mem_cons.mpr ⟨mk_X1_bestCopMove_8, (fun _ h => absurd h List.not_mem_nil)⟩)⟩)⟩)⟩)⟩)⟩)⟩)⟩)⟩)
theorem mk_X1_bestCopMove : mok km_X1_bestCopMove = true := mok_of mkr_X1_bestCopMove (by decide +kernel)
set_option maxRecDepth 100000 in
theorem mw_X1_bestCopMove : GoodIn lw_tbl (mwd km_X1_bestCopMove) := goodIn_r _ [456, 445, 446, 447, 22, 399, 240, 241, 242, 19, 433, 434, 435, 436, 19, 433, 434, 435, 436, 19, 457, 459, 10, 460, 22, 462, 463, 464, 22] (by decide +kernel) (by decide +kernel)
set_option maxRecDepth 100000 in
theorem mk_X1_moveNumber : mok km_X1_moveNumber = true := by decide +kernel
set_option maxRecDepth 100000 in
theorem mw_X1_moveNumber : GoodIn lw_tbl (mwd km_X1_moveNumber) := goodIn_r _ [465, 248, 249, 29, 461, 251, 252, 29] (by decide +kernel) (by decide +kernel)
set_option maxRecDepth 100000 in
theorem mk_X1_bestFlight : mok km_X1_bestFlight = true := by decide +kernel
set_option maxRecDepth 100000 in
theorem mw_X1_bestFlight : GoodIn lw_tbl (mwd km_X1_bestFlight) := goodIn_r _ [399, 240, 241, 242, 19, 433, 434, 435, 436, 19, 456, 445, 446, 447, 22, 474] (by decide +kernel) (by decide +kernel)
set_option maxRecDepth 100000 in
theorem mk_X1_oneCatches : mok km_X1_oneCatches = true := by decide +kernel
set_option maxRecDepth 100000 in
theorem mw_X1_oneCatches : GoodIn lw_tbl (mwd km_X1_oneCatches) := goodIn_r _ [484, 486, 11, 487, 22] (by decide +kernel) (by decide +kernel)
set_option maxRecDepth 100000 in
theorem mk_X1_twoCatch : mok km_X1_twoCatch = true := by decide +kernel
set_option maxRecDepth 100000 in
theorem mw_X1_twoCatch : GoodIn lw_tbl (mwd km_X1_twoCatch) := goodIn_r _ [399, 240, 241, 242, 19, 484, 486, 11, 487, 22] (by decide +kernel) (by decide +kernel)
set_option maxRecDepth 100000 in
theorem mk_X1_catchesFrom : mok km_X1_catchesFrom = true := by decide +kernel
set_option maxRecDepth 100000 in
theorem mw_X1_catchesFrom : GoodIn lw_tbl (mwd km_X1_catchesFrom) := goodIn_r _ [399, 240, 241, 242, 19, 98, 409, 410, 411, 22, 412, 303, 304, 305, 20, 413, 145, 146, 147, 19] (by decide +kernel) (by decide +kernel)
set_option maxRecDepth 100000 in
theorem mk_X2_init : mok km_X2_init = true := by decide +kernel
set_option maxRecDepth 100000 in
theorem mw_X2_init : GoodIn lw_tbl (mwd km_X2_init) := goodIn_r _ [136, 39, 40, 137, 138] (by decide +kernel) (by decide +kernel)
set_option maxRecDepth 100000 in
theorem mk_X2_prepare : mok km_X2_prepare = true := by decide +kernel
set_option maxRecDepth 100000 in
theorem mw_X2_prepare : GoodIn lw_tbl (mwd km_X2_prepare) := goodIn_r _ [138, 581, 391, 392, 393, 19, 582, 145, 146, 147, 19, 137, 582, 145, 146, 147, 19, 567, 568, 569, 32, 137, 567, 568, 569, 32, 583, 560, 561, 24, 582, 145, 146, 147, 19, 137, 581, 391, 392, 393, 19, 138] (by decide +kernel) (by decide +kernel)
set_option maxRecDepth 100000 in
theorem mk_X2_least : mok km_X2_least = true := by decide +kernel
set_option maxRecDepth 100000 in
theorem mw_X2_least : GoodIn lw_tbl (mwd km_X2_least) := goodIn_r _ [137] (by decide +kernel) (by decide +kernel)
set_option maxRecDepth 100000 in
theorem mk_X2_spread : mok km_X2_spread = true := by decide +kernel
set_option maxRecDepth 100000 in
theorem mw_X2_spread : GoodIn lw_tbl (mwd km_X2_spread) := goodIn_r _ [562, 563, 564, 24] (by decide +kernel) (by decide +kernel)
set_option maxRecDepth 100000 in
theorem mk_X2_afterRound : mok km_X2_afterRound = true := by decide +kernel
set_option maxRecDepth 100000 in
theorem mw_X2_afterRound : GoodIn lw_tbl (mwd km_X2_afterRound) := goodIn_r _ [565, 240, 241, 242, 19, 566, 299, 300, 301, 19, 567, 568, 569, 32] (by decide +kernel) (by decide +kernel)
set_option maxRecDepth 100000 in
theorem mk_X3_init : mok km_X3_init = true := by decide +kernel
set_option maxRecDepth 100000 in
theorem mw_X3_init : GoodIn lw_tbl (mwd km_X3_init) := goodIn_r _ [73, 39, 40, 74, 48, 20, 75, 50, 51, 20, 76, 74, 48, 20, 75, 50, 51, 20, 77, 74, 48, 20, 75, 50, 51, 20, 78, 79] (by decide +kernel) (by decide +kernel)
set_option maxRecDepth 100000 in
theorem mk_X3_count : mok km_X3_count = true := by decide +kernel
set_option maxRecDepth 100000 in
theorem mw_X3_count : GoodIn lw_tbl (mwd km_X3_count) := goodIn_r _ [79] (by decide +kernel) (by decide +kernel)
set_option maxRecDepth 100000 in
theorem mk_X3_forget : mok km_X3_forget = true := by decide +kernel
set_option maxRecDepth 100000 in
theorem mw_X3_forget : GoodIn lw_tbl (mwd km_X3_forget) := goodIn_r _ [79] (by decide +kernel) (by decide +kernel)
set_option maxRecDepth 100000 in
theorem mk_X3_add : mok km_X3_add = true := by decide +kernel
set_option maxRecDepth 100000 in
theorem mw_X3_add : GoodIn lw_tbl (mwd km_X3_add) := goodIn_r _ [79, 76, 79, 334, 335, 336, 337, 20, 77, 79, 334, 335, 336, 337, 20, 78, 79, 334, 335, 336, 337, 20, 79, 79] (by decide +kernel) (by decide +kernel)
end
end
section
section
set_option maxRecDepth 100000 in
theorem mk_X3_latestRoom : mok km_X3_latestRoom = true := by decide +kernel
set_option maxRecDepth 100000 in
theorem mw_X3_latestRoom : GoodIn lw_tbl (mwd km_X3_latestRoom) := goodIn_r _ [76, 79, 365, 303, 304, 305, 20] (by decide +kernel) (by decide +kernel)
set_option maxRecDepth 100000 in
theorem mk_X3_latestOther : mok km_X3_latestOther = true := by decide +kernel
set_option maxRecDepth 100000 in
theorem mw_X3_latestOther : GoodIn lw_tbl (mwd km_X3_latestOther) := goodIn_r _ [77, 79, 365, 303, 304, 305, 20] (by decide +kernel) (by decide +kernel)
set_option maxRecDepth 100000 in
theorem mk_X3_latestSet : mok km_X3_latestSet = true := by decide +kernel
set_option maxRecDepth 100000 in
theorem mw_X3_latestSet : GoodIn lw_tbl (mwd km_X3_latestSet) := goodIn_r _ [78, 79, 365, 303, 304, 305, 20] (by decide +kernel) (by decide +kernel)
set_option maxRecDepth 100000 in
theorem mk_X3_dropLatest : mok km_X3_dropLatest = true := by decide +kernel
set_option maxRecDepth 100000 in
theorem mw_X3_dropLatest : GoodIn lw_tbl (mwd km_X3_dropLatest) := goodIn_r _ [79, 79, 79] (by decide +kernel) (by decide +kernel)
set_option maxRecDepth 100000 in
theorem mk_X4_init : mok km_X4_init = true := by decide +kernel
set_option maxRecDepth 100000 in
theorem mw_X4_init : GoodIn lw_tbl (mwd km_X4_init) := goodIn_r _ [46, 39, 40, 47, 48, 20, 49, 50, 51, 20, 58, 59, 60] (by decide +kernel) (by decide +kernel)
set_option maxRecDepth 100000 in
theorem mk_X4_begin : mok km_X4_begin = true := by decide +kernel
set_option maxRecDepth 100000 in
theorem mw_X4_begin : GoodIn lw_tbl (mwd km_X4_begin) := goodIn_r _ [247, 248, 249, 29, 250, 251, 252, 29, 59, 58, 253, 254, 255, 256, 20, 60, 60] (by decide +kernel) (by decide +kernel)
set_option maxRecDepth 100000 in
theorem mk_X4_size : mok km_X4_size = true := by decide +kernel
set_option maxRecDepth 100000 in
theorem mw_X4_size : GoodIn lw_tbl (mwd km_X4_size) := goodIn_r _ [59] (by decide +kernel) (by decide +kernel)
set_option maxRecDepth 100000 in
theorem mk_X4_version : mok km_X4_version = true := by decide +kernel
set_option maxRecDepth 100000 in
theorem mw_X4_version : GoodIn lw_tbl (mwd km_X4_version) := goodIn_r _ [60] (by decide +kernel) (by decide +kernel)
set_option maxRecDepth 100000 in
theorem mk_X4_has : mok km_X4_has = true := by decide +kernel
set_option maxRecDepth 100000 in
theorem mw_X4_has : GoodIn lw_tbl (mwd km_X4_has) := goodIn_r _ [59] (by decide +kernel) (by decide +kernel)
set_option maxRecDepth 100000 in
theorem mk_X4_all : mok km_X4_all = true := by decide +kernel
set_option maxRecDepth 100000 in
theorem mw_X4_all : GoodIn lw_tbl (mwd km_X4_all) := goodIn_r _ [59] (by decide +kernel) (by decide +kernel)
set_option maxRecDepth 100000 in
theorem mk_X4_nextTo : mok km_X4_nextTo = true := by decide +kernel
set_option maxRecDepth 100000 in
theorem mw_X4_nextTo : GoodIn lw_tbl (mwd km_X4_nextTo) := goodIn_r _ [58, 302, 303, 304, 305, 20] (by decide +kernel) (by decide +kernel)
set_option maxRecDepth 100000 in
theorem mk_X4_hasDoor : mok km_X4_hasDoor = true := by decide +kernel
set_option maxRecDepth 100000 in
theorem mw_X4_hasDoor : GoodIn lw_tbl (mwd km_X4_hasDoor) := goodIn_r _ [298, 299, 300, 301, 19] (by decide +kernel) (by decide +kernel)
set_option maxRecDepth 100000 in
theorem mk_X4_turnDoor : mok km_X4_turnDoor = true := by decide +kernel
set_option maxRecDepth 100000 in
theorem mw_X4_turnDoor : GoodIn lw_tbl (mwd km_X4_turnDoor) := goodIn_r _ [58, 298, 299, 300, 301, 19, 342, 335, 336, 337, 20, 58, 298, 299, 300, 301, 19, 342, 335, 336, 337, 20, 60, 60] (by decide +kernel) (by decide +kernel)
set_option maxRecDepth 100000 in
theorem mk_X4_isPlace : mok km_X4_isPlace = true := by decide +kernel
set_option maxRecDepth 100000 in
theorem mw_X4_isPlace : GoodIn lw_tbl (mwd km_X4_isPlace) := goodIn_r _ [404, 274, 275, 276, 19] (by decide +kernel) (by decide +kernel)
set_option maxRecDepth 100000 in
theorem mk_X4_nearTo : mok km_X4_nearTo = true := by decide +kernel
set_option maxRecDepth 100000 in
theorem mw_X4_nearTo : GoodIn lw_tbl (mwd km_X4_nearTo) := goodIn_r _ [58, 302, 303, 304, 305, 20] (by decide +kernel) (by decide +kernel)
set_option maxRecDepth 100000 in
theorem mk_X4_areNear : mok km_X4_areNear = true := by decide +kernel
set_option maxRecDepth 100000 in
theorem mw_X4_areNear : GoodIn lw_tbl (mwd km_X4_areNear) := goodIn_r _ [58, 302, 303, 304, 305, 20] (by decide +kernel) (by decide +kernel)
set_option maxRecDepth 100000 in
theorem mk_X4_nextToSome : mok km_X4_nextToSome = true := by decide +kernel
set_option maxRecDepth 100000 in
theorem mw_X4_nextToSome : GoodIn lw_tbl (mwd km_X4_nextToSome) := goodIn_r _ [59, 298, 299, 300, 301, 19] (by decide +kernel) (by decide +kernel)
set_option maxRecDepth 100000 in
theorem mk_X4_afterShot : mok km_X4_afterShot = true := by decide +kernel
set_option maxRecDepth 100000 in
theorem mw_X4_afterShot : GoodIn lw_tbl (mwd km_X4_afterShot) := goodIn_r _ [352, 353, 354, 355, 19] (by decide +kernel) (by decide +kernel)
set_option maxRecDepth 100000 in
theorem mk_X4_losesAllCorners : mok km_X4_losesAllCorners = true := by decide +kernel
set_option maxRecDepth 100000 in
theorem mw_X4_losesAllCorners : GoodIn lw_tbl (mwd km_X4_losesAllCorners) := goodIn_r _ [500, 145, 146, 147, 19, 59, 501, 503, 12, 504, 19] (by decide +kernel) (by decide +kernel)
set_option maxRecDepth 100000 in
theorem mk_X4_lowestCorner : mok km_X4_lowestCorner = true := by decide +kernel
set_option maxRecDepth 100000 in
theorem mw_X4_lowestCorner : GoodIn lw_tbl (mwd km_X4_lowestCorner) := goodIn_r _ [59, 505, 507, 13, 508, 19] (by decide +kernel) (by decide +kernel)
set_option maxRecDepth 100000 in
theorem mk_X4_isCorner : mok km_X4_isCorner = true := by decide +kernel
set_option maxRecDepth 100000 in
theorem mw_X4_isCorner : GoodIn lw_tbl (mwd km_X4_isCorner) := goodIn_r _ [509, 426, 427, 428, 19, 59, 509, 426, 427, 428, 19] (by decide +kernel) (by decide +kernel)
set_option maxRecDepth 100000 in
theorem mk_X6_init : mok km_X6_init = true := by decide +kernel
set_option maxRecDepth 100000 in
theorem mw_X6_init : GoodIn lw_tbl (mwd km_X6_init) := goodIn_r _ [52, 39, 40, 57, 53] (by decide +kernel) (by decide +kernel)
set_option maxRecDepth 100000 in
theorem mk_X6_at : mok km_X6_at = true := by decide +kernel
set_option maxRecDepth 100000 in
theorem mw_X6_at : GoodIn lw_tbl (mwd km_X6_at) := goodIn_r _ [53, 53] (by decide +kernel) (by decide +kernel)
set_option maxRecDepth 100000 in
theorem mk_X6_put : mok km_X6_put = true := by decide +kernel
set_option maxRecDepth 100000 in
theorem mw_X6_put : GoodIn lw_tbl (mwd km_X6_put) := goodIn_r _ [53, 53] (by decide +kernel) (by decide +kernel)
set_option maxRecDepth 100000 in
theorem mk_X6_putAll : mok km_X6_putAll = true := by decide +kernel
set_option maxRecDepth 100000 in
theorem mw_X6_putAll : GoodIn lw_tbl (mwd km_X6_putAll) := goodIn_r _ [53, 53] (by decide +kernel) (by decide +kernel)
set_option maxRecDepth 100000 in
theorem mk_X7_init : mok km_X7_init = true := by decide +kernel
set_option maxRecDepth 100000 in
theorem mw_X7_init : GoodIn lw_tbl (mwd km_X7_init) := goodIn_r _ [38, 39, 40, 41, 42, 19, 43, 44, 45, 19, 148, 68, 69, 21, 70, 71, 72, 21, 149, 89, 90, 22, 91, 92, 93, 22, 150, 113, 114, 23, 115, 116, 117, 23, 151, 131, 132, 24, 133, 134, 135, 24, 152, 148, 144, 145, 146, 147, 19, 153] (by decide +kernel) (by decide +kernel)
set_option maxRecDepth 100000 in
theorem mk_X7_rooms : mok km_X7_rooms = true := by decide +kernel
set_option maxRecDepth 100000 in
theorem mw_X7_rooms : GoodIn lw_tbl (mwd km_X7_rooms) := goodIn_r _ [171, 28, 148, 239, 240, 241, 242, 19, 148, 243, 244, 245, 246, 19, 257, 259, 1, 260, 18] (by decide +kernel) (by decide +kernel)
set_option maxRecDepth 100000 in
theorem mk_X7_door : mok km_X7_door = true := by decide +kernel
set_option maxRecDepth 100000 in
theorem mw_X7_door : GoodIn lw_tbl (mwd km_X7_door) := goodIn_r _ [269, 271, 2, 272, 18, 269, 271, 2, 272, 18, 171, 28, 148, 294, 295, 296, 297, 19, 306, 308, 3, 309, 18, 149, 153, 330, 331, 332, 333, 21, 148, 338, 339, 340, 341, 19, 148, 144, 145, 146, 147, 19, 153] (by decide +kernel) (by decide +kernel)
set_option maxRecDepth 100000 in
theorem mk_X7_shoot : mok km_X7_shoot = true := by decide +kernel
set_option maxRecDepth 100000 in
theorem mw_X7_shoot : GoodIn lw_tbl (mwd km_X7_shoot) := goodIn_r _ [269, 271, 2, 272, 18, 153, 314, 31, 306, 308, 3, 309, 18, 149, 153, 330, 331, 332, 333, 21, 148, 153, 348, 349, 350, 351, 19, 153, 153] (by decide +kernel) (by decide +kernel)
set_option maxRecDepth 100000 in
theorem mk_X7_back : mok km_X7_back = true := by decide +kernel
set_option maxRecDepth 100000 in
theorem mw_X7_back : GoodIn lw_tbl (mwd km_X7_back) := goodIn_r _ [149, 310, 311, 312, 313, 21, 314, 31, 149, 361, 362, 363, 364, 21, 148, 149, 366, 367, 368, 369, 21, 338, 339, 340, 341, 19, 149, 370, 371, 372, 373, 21, 153, 149, 374, 375, 376, 377, 21, 149, 310, 311, 312, 313, 21] (by decide +kernel) (by decide +kernel)
set_option maxRecDepth 100000 in
theorem mk_X7_time : mok km_X7_time = true := by decide +kernel
set_option maxRecDepth 100000 in
theorem mw_X7_time : GoodIn lw_tbl (mwd km_X7_time) := goodIn_r _ [382, 384, 4, 385, 18, 150, 148, 386, 387, 388, 389, 22, 150, 441, 442, 443, 18, 444, 445, 446, 447, 22] (by decide +kernel) (by decide +kernel)
set_option maxRecDepth 100000 in
theorem mk_X7_step : mok km_X7_step = true := by decide +kernel
set_option maxRecDepth 100000 in
theorem mw_X7_step : GoodIn lw_tbl (mwd km_X7_step) := goodIn_r _ [382, 384, 4, 385, 18, 150, 148, 386, 387, 388, 389, 22, 150, 148, 441, 442, 443, 18, 452, 453, 454, 455, 22] (by decide +kernel) (by decide +kernel)
set_option maxRecDepth 100000 in
theorem mk_X7_away : mok km_X7_away = true := by decide +kernel
set_option maxRecDepth 100000 in
theorem mw_X7_away : GoodIn lw_tbl (mwd km_X7_away) := goodIn_r _ [382, 384, 4, 385, 18, 150, 148, 386, 387, 388, 389, 22, 150, 148, 441, 442, 443, 18, 470, 471, 472, 473, 22] (by decide +kernel) (by decide +kernel)
set_option maxRecDepth 100000 in
theorem mk_X7_catches : mok km_X7_catches = true := by decide +kernel
set_option maxRecDepth 100000 in
theorem mw_X7_catches : GoodIn lw_tbl (mwd km_X7_catches) := goodIn_r _ [171, 28, 150, 148, 386, 387, 388, 389, 22, 150, 148, 480, 481, 482, 483, 22, 150, 148, 488, 489, 490, 491, 22] (by decide +kernel) (by decide +kernel)
set_option maxRecDepth 100000 in
theorem mk_X7_fallsApart : mok km_X7_fallsApart = true := by decide +kernel
set_option maxRecDepth 100000 in
theorem mw_X7_fallsApart : GoodIn lw_tbl (mwd km_X7_fallsApart) := goodIn_r _ [148, 496, 497, 498, 499, 19] (by decide +kernel) (by decide +kernel)
set_option maxRecDepth 100000 in
theorem mk_X7_rabbit : mok km_X7_rabbit = true := by decide +kernel
set_option maxRecDepth 100000 in
theorem mw_X7_rabbit : GoodIn lw_tbl (mwd km_X7_rabbit) := goodIn_r _ [153] (by decide +kernel) (by decide +kernel)
set_option maxRecDepth 100000 in
theorem mk_X7_hunt : mok km_X7_hunt = true := by decide +kernel
set_option maxRecDepth 100000 in
theorem mw_X7_hunt : GoodIn lw_tbl (mwd km_X7_hunt) := goodIn_r _ [151, 148, 518, 519, 520, 521, 23, 151, 153, 537, 538, 539, 540, 23] (by decide +kernel) (by decide +kernel)
set_option maxRecDepth 100000 in
theorem mk_X7_aim : mok km_X7_aim = true := by decide +kernel
set_option maxRecDepth 100000 in
theorem mw_X7_aim : GoodIn lw_tbl (mwd km_X7_aim) := goodIn_r _ [151, 148, 518, 519, 520, 521, 23, 151, 148, 153, 545, 546, 547, 548, 23] (by decide +kernel) (by decide +kernel)
set_option maxRecDepth 100000 in
theorem mk_X7_forced : mok km_X7_forced = true := by decide +kernel
set_option maxRecDepth 100000 in
theorem mw_X7_forced : GoodIn lw_tbl (mwd km_X7_forced) := goodIn_r _ [554, 556, 16, 557, 18, 148, 559, 560, 561, 24] (by decide +kernel) (by decide +kernel)
set_option maxRecDepth 100000 in
theorem mk_X7_leastBlue : mok km_X7_leastBlue = true := by decide +kernel
set_option maxRecDepth 100000 in
theorem mw_X7_leastBlue : GoodIn lw_tbl (mwd km_X7_leastBlue) := goodIn_r _ [152, 148, 577, 578, 579, 580, 24, 152, 584, 585, 586, 587, 24] (by decide +kernel) (by decide +kernel)
set_option maxRecDepth 100000 in
theorem mk_X7_beginDeeds : mok km_X7_beginDeeds = true := by decide +kernel
set_option maxRecDepth 100000 in
theorem mw_X7_beginDeeds : GoodIn lw_tbl (mwd km_X7_beginDeeds) := goodIn_r _ [149, 261, 262, 263, 264, 21, 148, 144, 145, 146, 147, 19, 153] (by decide +kernel) (by decide +kernel)
set_option maxRecDepth 100000 in
theorem mk_X7_needRoom : mok km_X7_needRoom = true := by decide +kernel
set_option maxRecDepth 100000 in
theorem mw_X7_needRoom : GoodIn lw_tbl (mwd km_X7_needRoom) := goodIn_r _ [148, 273, 274, 275, 276, 19, 277, 30] (by decide +kernel) (by decide +kernel)
set_option maxRecDepth 100000 in
theorem mk_X7_needBeginning : mok km_X7_needBeginning = true := by decide +kernel
set_option maxRecDepth 100000 in
theorem mw_X7_needBeginning : GoodIn lw_tbl (mwd km_X7_needBeginning) := goodIn_r _ [269, 271, 2, 272, 18, 269, 271, 2, 272, 18, 269, 271, 2, 272, 18] (by decide +kernel) (by decide +kernel)
set_option maxRecDepth 100000 in
theorem mk_X7_needSet : mok km_X7_needSet = true := by decide +kernel
set_option maxRecDepth 100000 in
theorem mw_X7_needSet : GoodIn lw_tbl (mwd km_X7_needSet) := goodIn_r _ [148, 144, 145, 146, 147, 19, 171, 28] (by decide +kernel) (by decide +kernel)
set_option maxRecDepth 100000 in
theorem mk_X7_needPlaceForDeed : mok km_X7_needPlaceForDeed = true := by decide +kernel
set_option maxRecDepth 100000 in
theorem mw_X7_needPlaceForDeed : GoodIn lw_tbl (mwd km_X7_needPlaceForDeed) := goodIn_r _ [149, 310, 311, 312, 313, 21, 314, 31] (by decide +kernel) (by decide +kernel)
set_option maxRecDepth 100000 in
theorem mk_X7_placeOf : mok km_X7_placeOf = true := by decide +kernel
set_option maxRecDepth 100000 in
theorem mw_X7_placeOf : GoodIn lw_tbl (mwd km_X7_placeOf) := goodIn_r _ [] (by decide +kernel) (by decide +kernel)
set_option maxRecDepth 100000 in
theorem mk_J6_bitCount_0f7a4 : mok km_J6_bitCount_0f7a4 = true := by decide +kernel
set_option maxRecDepth 100000 in
theorem mw_J6_bitCount_0f7a4 : GoodIn lw_tbl (mwd km_J6_bitCount_0f7a4) := goodIn_r _ [570, 571, 571, 572] (by decide +kernel) (by decide +kernel)
set_option maxRecDepth 100000 in
theorem mk_L_cell : mok km_L_cell = true := by decide +kernel
set_option maxRecDepth 100000 in
theorem mw_L_cell : GoodIn lw_tbl (mwd km_L_cell) := goodIn_r _ [591] (by decide +kernel) (by decide +kernel)
set_option maxRecDepth 100000 in
theorem mk_L_at : mok km_L_at = true := by decide +kernel
set_option maxRecDepth 100000 in
theorem mw_L_at : GoodIn lw_tbl (mwd km_L_at) := goodIn_r _ [] (by decide +kernel) (by decide +kernel)
set_option maxRecDepth 100000 in
theorem mk_L_size : mok km_L_size = true := by decide +kernel
set_option maxRecDepth 100000 in
theorem mw_L_size : GoodIn lw_tbl (mwd km_L_size) := goodIn_r _ [] (by decide +kernel) (by decide +kernel)
set_option maxRecDepth 100000 in
theorem mk_L_law_0 : ∀ q ∈ kq_L_law_0, rok km_L_law q.1 q.2 = true := by decide +kernel
set_option maxRecDepth 100000 in
theorem mk_L_law_1 : ∀ q ∈ kq_L_law_1, rok km_L_law q.1 q.2 = true := by decide +kernel
set_option maxRecDepth 100000 in
theorem mk_L_law_2 : ∀ q ∈ kq_L_law_2, rok km_L_law q.1 q.2 = true := by decide +kernel
set_option maxRecDepth 100000 in
theorem mk_L_law_3 : ∀ q ∈ kq_L_law_3, rok km_L_law q.1 q.2 = true := by decide +kernel
set_option maxRecDepth 100000 in
theorem mk_L_law_4 : ∀ q ∈ kq_L_law_4, rok km_L_law q.1 q.2 = true := by decide +kernel
set_option maxRecDepth 100000 in
theorem mk_L_law_5 : ∀ q ∈ kq_L_law_5, rok km_L_law q.1 q.2 = true := by decide +kernel
set_option maxRecDepth 100000 in
theorem mk_L_law_6 : ∀ q ∈ kq_L_law_6, rok km_L_law q.1 q.2 = true := by decide +kernel
set_option maxRecDepth 100000 in
theorem mk_L_law_7 : ∀ q ∈ kq_L_law_7, rok km_L_law q.1 q.2 = true := by decide +kernel
set_option maxRecDepth 100000 in
theorem mk_L_law_8 : ∀ q ∈ kq_L_law_8, rok km_L_law q.1 q.2 = true := by decide +kernel
set_option maxRecDepth 100000 in
theorem mk_L_law_9 : ∀ q ∈ kq_L_law_9, rok km_L_law q.1 q.2 = true := by decide +kernel
set_option maxRecDepth 100000 in
theorem mk_L_law_10 : ∀ q ∈ kq_L_law_10, rok km_L_law q.1 q.2 = true := by decide +kernel
set_option maxRecDepth 100000 in
theorem mk_L_law_11 : ∀ q ∈ kq_L_law_11, rok km_L_law q.1 q.2 = true := by decide +kernel
set_option maxRecDepth 100000 in
theorem mk_L_law_12 : ∀ q ∈ kq_L_law_12, rok km_L_law q.1 q.2 = true := by decide +kernel
set_option maxRecDepth 100000 in
theorem mk_L_law_13 : ∀ q ∈ kq_L_law_13, rok km_L_law q.1 q.2 = true := by decide +kernel
set_option maxRecDepth 100000 in
theorem mk_L_law_14 : ∀ q ∈ kq_L_law_14, rok km_L_law q.1 q.2 = true := by decide +kernel
set_option maxRecDepth 100000 in
theorem mk_L_law_15 : ∀ q ∈ kq_L_law_15, rok km_L_law q.1 q.2 = true := by decide +kernel
set_option maxRecDepth 100000 in
theorem mk_L_law_16 : ∀ q ∈ kq_L_law_16, rok km_L_law q.1 q.2 = true := by decide +kernel
set_option maxRecDepth 100000 in
theorem mk_L_law_17 : ∀ q ∈ kq_L_law_17, rok km_L_law q.1 q.2 = true := by decide +kernel
set_option maxRecDepth 100000 in
theorem mk_L_law_18 : ∀ q ∈ kq_L_law_18, rok km_L_law q.1 q.2 = true := by decide +kernel
set_option maxRecDepth 100000 in
theorem mk_L_law_19 : ∀ q ∈ kq_L_law_19, rok km_L_law q.1 q.2 = true := by decide +kernel
set_option maxRecDepth 100000 in
theorem mk_L_law_20 : ∀ q ∈ kq_L_law_20, rok km_L_law q.1 q.2 = true := by decide +kernel
set_option maxRecDepth 100000 in
theorem mk_L_law_21 : ∀ q ∈ kq_L_law_21, rok km_L_law q.1 q.2 = true := by decide +kernel
set_option maxRecDepth 100000 in
theorem mk_L_law_22 : ∀ q ∈ kq_L_law_22, rok km_L_law q.1 q.2 = true := by decide +kernel
set_option maxRecDepth 100000 in
theorem mk_L_law_23 : ∀ q ∈ kq_L_law_23, rok km_L_law q.1 q.2 = true := by decide +kernel
set_option maxRecDepth 100000 in
theorem mk_L_law_24 : ∀ q ∈ kq_L_law_24, rok km_L_law q.1 q.2 = true := by decide +kernel
set_option maxRecDepth 100000 in
theorem mk_L_law_25 : ∀ q ∈ kq_L_law_25, rok km_L_law q.1 q.2 = true := by decide +kernel
set_option maxRecDepth 100000 in
theorem mk_L_law_26 : ∀ q ∈ kq_L_law_26, rok km_L_law q.1 q.2 = true := by decide +kernel
set_option maxRecDepth 100000 in
theorem mk_L_law_27 : ∀ q ∈ kq_L_law_27, rok km_L_law q.1 q.2 = true := by decide +kernel
set_option maxRecDepth 100000 in
theorem mk_L_law_28 : ∀ q ∈ kq_L_law_28, rok km_L_law q.1 q.2 = true := by decide +kernel
set_option maxRecDepth 100000 in
theorem mk_L_law_29 : ∀ q ∈ kq_L_law_29, rok km_L_law q.1 q.2 = true := by decide +kernel
set_option maxRecDepth 100000 in
theorem mk_L_law_30 : ∀ q ∈ kq_L_law_30, rok km_L_law q.1 q.2 = true := by decide +kernel
set_option maxRecDepth 100000 in
theorem mk_L_law_31 : ∀ q ∈ kq_L_law_31, rok km_L_law q.1 q.2 = true := by decide +kernel
set_option maxRecDepth 100000 in
theorem mk_L_law_32 : ∀ q ∈ kq_L_law_32, rok km_L_law q.1 q.2 = true := by decide +kernel
set_option maxRecDepth 100000 in
theorem mk_L_law_33 : ∀ q ∈ kq_L_law_33, rok km_L_law q.1 q.2 = true := by decide +kernel
set_option maxRecDepth 100000 in
theorem mk_L_law_34 : ∀ q ∈ kq_L_law_34, rok km_L_law q.1 q.2 = true := by decide +kernel
set_option maxRecDepth 100000 in
theorem mk_L_law_35 : ∀ q ∈ kq_L_law_35, rok km_L_law q.1 q.2 = true := by decide +kernel
set_option maxRecDepth 100000 in
theorem mk_L_law_36 : ∀ q ∈ kq_L_law_36, rok km_L_law q.1 q.2 = true := by decide +kernel
set_option maxRecDepth 100000 in
theorem mk_L_law_37 : ∀ q ∈ kq_L_law_37, rok km_L_law q.1 q.2 = true := by decide +kernel
set_option maxRecDepth 100000 in
theorem mk_L_law_38 : ∀ q ∈ kq_L_law_38, rok km_L_law q.1 q.2 = true := by decide +kernel
set_option maxRecDepth 100000 in
theorem mk_L_law_39 : ∀ q ∈ kq_L_law_39, rok km_L_law q.1 q.2 = true := by decide +kernel
set_option maxRecDepth 100000 in
theorem mk_L_law_40 : ∀ q ∈ kq_L_law_40, rok km_L_law q.1 q.2 = true := by decide +kernel
set_option maxRecDepth 100000 in
theorem mk_L_law_41 : ∀ q ∈ kq_L_law_41, rok km_L_law q.1 q.2 = true := by decide +kernel
set_option maxRecDepth 100000 in
theorem mk_L_law_42 : ∀ q ∈ kq_L_law_42, rok km_L_law q.1 q.2 = true := by decide +kernel
set_option maxRecDepth 100000 in
theorem mk_L_law_43 : ∀ q ∈ kq_L_law_43, rok km_L_law q.1 q.2 = true := by decide +kernel
set_option maxRecDepth 100000 in
theorem mk_L_law_44 : ∀ q ∈ kq_L_law_44, rok km_L_law q.1 q.2 = true := by decide +kernel
theorem mkr_L_law : ∀ l ∈ kc_L_law, ∀ q ∈ l, rok km_L_law q.1 q.2 = true := (List.forall_mem_cons.mpr ⟨mk_L_law_0, (List.forall_mem_cons.mpr ⟨mk_L_law_1, (List.forall_mem_cons.mpr ⟨mk_L_law_2, (List.forall_mem_cons.mpr ⟨mk_L_law_3, (List.forall_mem_cons.mpr ⟨mk_L_law_4, (List.forall_mem_cons.mpr ⟨mk_L_law_5, (List.forall_mem_cons.mpr ⟨mk_L_law_6, (List.forall_mem_cons.mpr ⟨mk_L_law_7, (List.forall_mem_cons.mpr ⟨mk_L_law_8, (List.forall_mem_cons.mpr ⟨mk_L_law_9, (List.forall_mem_cons.mpr ⟨mk_L_law_10, (List.forall_mem_cons.mpr ⟨mk_L_law_11, (List.forall_mem_cons.mpr ⟨mk_L_law_12, (List.forall_mem_cons.mpr ⟨mk_L_law_13, (List.forall_mem_cons.mpr ⟨mk_L_law_14, (List.forall_mem_cons.mpr ⟨mk_L_law_15, (List.forall_mem_cons.mpr ⟨mk_L_law_16, (List.forall_mem_cons.mpr ⟨mk_L_law_17, (List.forall_mem_cons.mpr ⟨mk_L_law_18, (List.forall_mem_cons.mpr ⟨mk_L_law_19, (List.forall_mem_cons.mpr ⟨mk_L_law_20, (List.forall_mem_cons.mpr ⟨mk_L_law_21, (List.forall_mem_cons.mpr ⟨mk_L_law_22, (List.forall_mem_cons.mpr ⟨mk_L_law_23, (List.forall_mem_cons.mpr ⟨mk_L_law_24, (List.forall_mem_cons.mpr ⟨mk_L_law_25, (List.forall_mem_cons.mpr ⟨mk_L_law_26, (List.forall_mem_cons.mpr ⟨mk_L_law_27, (List.forall_mem_cons.mpr ⟨mk_L_law_28, (List.forall_mem_cons.mpr ⟨mk_L_law_29, (List.forall_mem_cons.mpr ⟨mk_L_law_30, (List.forall_mem_cons.mpr ⟨mk_L_law_31, (List.forall_mem_cons.mpr ⟨mk_L_law_32, (List.forall_mem_cons.mpr ⟨mk_L_law_33, (List.forall_mem_cons.mpr ⟨mk_L_law_34, (List.forall_mem_cons.mpr ⟨mk_L_law_35, (List.forall_mem_cons.mpr ⟨mk_L_law_36, (List.forall_mem_cons.mpr ⟨mk_L_law_37, (List.forall_mem_cons.mpr ⟨mk_L_law_38, (List.forall_mem_cons.mpr ⟨mk_L_law_39, (List.forall_mem_cons.mpr ⟨mk_L_law_40, (List.forall_mem_cons.mpr ⟨mk_L_law_41, (List.forall_mem_cons.mpr ⟨mk_L_law_42, (List.forall_mem_cons.mpr ⟨mk_L_law_43, (List.forall_mem_cons.mpr ⟨mk_L_law_44, (fun _ h => absurd h List.not_mem_nil)⟩)⟩)⟩)⟩)⟩)⟩)⟩)⟩)⟩)⟩)⟩)⟩)⟩)⟩)⟩)⟩)⟩)⟩)⟩)⟩)⟩)⟩)⟩)⟩)⟩)⟩)⟩)⟩)⟩)⟩)⟩)⟩)⟩)⟩)⟩)⟩)⟩)⟩)⟩)⟩)⟩)⟩)⟩)⟩)⟩)
theorem mk_L_law : mok km_L_law = true := mok_of mkr_L_law (by decide +kernel)
set_option maxRecDepth 100000 in
theorem mw_L_law : GoodIn lw_tbl (mwd km_L_law) := goodIn_r _ [33, 34, 18, 35, 36, 37, 18, 588, 589, 590, 17, 598, 592, 593, 594, 17, 167, 168, 169, 170, 18, 588, 589, 590, 17, 598, 592, 593, 594, 17, 592, 593, 594, 17, 592, 593, 594, 17, 265, 266, 267, 268, 18, 592, 593, 594, 17, 592, 593, 594, 17, 592, 593, 594, 17, 378, 379, 380, 381, 18, 378, 379, 380, 381, 18, 378, 379, 380, 381, 18, 448, 449, 450, 451, 18, 466, 467, 468, 469, 18, 378, 379, 380, 381, 18, 448, 449, 450, 451, 18, 448, 449, 450, 451, 18, 466, 467, 468, 469, 18, 378, 379, 380, 381, 18, 475, 476, 477, 478, 18, 492, 493, 494, 495, 18, 475, 476, 477, 478, 18, 475, 476, 477, 478, 18, 514, 515, 516, 517, 18, 510, 511, 512, 513, 18, 541, 542, 543, 544, 18, 343, 344, 345, 346, 18, 514, 515, 516, 517, 18, 510, 511, 512, 513, 18, 541, 542, 543, 544, 18, 356, 357, 358, 359, 18, 514, 515, 516, 517, 18, 573, 574, 575, 576, 18, 550, 551, 552, 553, 18, 595, 596, 597, 17, 595, 596, 597, 17, 595, 596, 597, 17, 588, 589, 590, 17, 598, 592, 593, 594, 17, 550, 551, 552, 553, 18] (by decide +kernel) (by decide +kernel)
end
end
section
section
end
end
section
section
theorem mg_0 : ∀ M ∈ [km_X0_init, km_X0_prepare, km_X0_findSets, km_X0_addSets, km_X0_fewestShots, km_X0_bestShot, km_X1_init, km_X1_prepare, km_X1_pair, km_X1_cell, km_X1_beginTable, km_X1_addCaught, km_X1_letRobberMove, km_X1_withoutEscape, km_X1_letFirstCopMove, km_X1_letSecondCopMove], mok M = true ∧ GoodIn lw_tbl (mwd M) := (List.forall_mem_cons.mpr ⟨⟨mk_X0_init, mw_X0_init⟩, (List.forall_mem_cons.mpr ⟨⟨mk_X0_prepare, mw_X0_prepare⟩, (List.forall_mem_cons.mpr ⟨⟨mk_X0_findSets, mw_X0_findSets⟩, (List.forall_mem_cons.mpr ⟨⟨mk_X0_addSets, mw_X0_addSets⟩, (List.forall_mem_cons.mpr ⟨⟨mk_X0_fewestShots, mw_X0_fewestShots⟩, (List.forall_mem_cons.mpr ⟨⟨mk_X0_bestShot, mw_X0_bestShot⟩, (List.forall_mem_cons.mpr ⟨⟨mk_X1_init, mw_X1_init⟩, (List.forall_mem_cons.mpr ⟨⟨mk_X1_prepare, mw_X1_prepare⟩, (List.forall_mem_cons.mpr ⟨⟨mk_X1_pair, mw_X1_pair⟩, (List.forall_mem_cons.mpr ⟨⟨mk_X1_cell, mw_X1_cell⟩, (List.forall_mem_cons.mpr ⟨⟨mk_X1_beginTable, mw_X1_beginTable⟩, (List.forall_mem_cons.mpr ⟨⟨mk_X1_addCaught, mw_X1_addCaught⟩, (List.forall_mem_cons.mpr ⟨⟨mk_X1_letRobberMove, mw_X1_letRobberMove⟩, (List.forall_mem_cons.mpr ⟨⟨mk_X1_withoutEscape, mw_X1_withoutEscape⟩, (List.forall_mem_cons.mpr ⟨⟨mk_X1_letFirstCopMove, mw_X1_letFirstCopMove⟩, (List.forall_mem_cons.mpr ⟨⟨mk_X1_letSecondCopMove, mw_X1_letSecondCopMove⟩, (fun _ h => absurd h List.not_mem_nil)⟩)⟩)⟩)⟩)⟩)⟩)⟩)⟩)⟩)⟩)⟩)⟩)⟩)⟩)⟩)⟩)
theorem mg_1 : ∀ M ∈ [km_X1_copsFirst, km_X1_robberFirst, km_X1_bestCopMove, km_X1_moveNumber, km_X1_bestFlight, km_X1_oneCatches, km_X1_twoCatch, km_X1_catchesFrom, km_X2_init, km_X2_prepare, km_X2_least, km_X2_spread, km_X2_afterRound, km_X3_init, km_X3_count, km_X3_forget], mok M = true ∧ GoodIn lw_tbl (mwd M) := (List.forall_mem_cons.mpr ⟨⟨mk_X1_copsFirst, mw_X1_copsFirst⟩, (List.forall_mem_cons.mpr ⟨⟨mk_X1_robberFirst, mw_X1_robberFirst⟩, (List.forall_mem_cons.mpr ⟨⟨mk_X1_bestCopMove, mw_X1_bestCopMove⟩, (List.forall_mem_cons.mpr ⟨⟨mk_X1_moveNumber, mw_X1_moveNumber⟩, (List.forall_mem_cons.mpr ⟨⟨mk_X1_bestFlight, mw_X1_bestFlight⟩, (List.forall_mem_cons.mpr ⟨⟨mk_X1_oneCatches, mw_X1_oneCatches⟩, (List.forall_mem_cons.mpr ⟨⟨mk_X1_twoCatch, mw_X1_twoCatch⟩, (List.forall_mem_cons.mpr ⟨⟨mk_X1_catchesFrom, mw_X1_catchesFrom⟩, (List.forall_mem_cons.mpr ⟨⟨mk_X2_init, mw_X2_init⟩, (List.forall_mem_cons.mpr ⟨⟨mk_X2_prepare, mw_X2_prepare⟩, (List.forall_mem_cons.mpr ⟨⟨mk_X2_least, mw_X2_least⟩, (List.forall_mem_cons.mpr ⟨⟨mk_X2_spread, mw_X2_spread⟩, (List.forall_mem_cons.mpr ⟨⟨mk_X2_afterRound, mw_X2_afterRound⟩, (List.forall_mem_cons.mpr ⟨⟨mk_X3_init, mw_X3_init⟩, (List.forall_mem_cons.mpr ⟨⟨mk_X3_count, mw_X3_count⟩, (List.forall_mem_cons.mpr ⟨⟨mk_X3_forget, mw_X3_forget⟩, (fun _ h => absurd h List.not_mem_nil)⟩)⟩)⟩)⟩)⟩)⟩)⟩)⟩)⟩)⟩)⟩)⟩)⟩)⟩)⟩)⟩)
theorem mg_2 : ∀ M ∈ [km_X3_add, km_X3_latestRoom, km_X3_latestOther, km_X3_latestSet, km_X3_dropLatest, km_X4_init, km_X4_begin, km_X4_size, km_X4_version, km_X4_has, km_X4_all, km_X4_nextTo, km_X4_hasDoor, km_X4_turnDoor, km_X4_isPlace, km_X4_nearTo], mok M = true ∧ GoodIn lw_tbl (mwd M) := (List.forall_mem_cons.mpr ⟨⟨mk_X3_add, mw_X3_add⟩, (List.forall_mem_cons.mpr ⟨⟨mk_X3_latestRoom, mw_X3_latestRoom⟩, (List.forall_mem_cons.mpr ⟨⟨mk_X3_latestOther, mw_X3_latestOther⟩, (List.forall_mem_cons.mpr ⟨⟨mk_X3_latestSet, mw_X3_latestSet⟩, (List.forall_mem_cons.mpr ⟨⟨mk_X3_dropLatest, mw_X3_dropLatest⟩, (List.forall_mem_cons.mpr ⟨⟨mk_X4_init, mw_X4_init⟩, (List.forall_mem_cons.mpr ⟨⟨mk_X4_begin, mw_X4_begin⟩, (List.forall_mem_cons.mpr ⟨⟨mk_X4_size, mw_X4_size⟩, (List.forall_mem_cons.mpr ⟨⟨mk_X4_version, mw_X4_version⟩, (List.forall_mem_cons.mpr ⟨⟨mk_X4_has, mw_X4_has⟩, (List.forall_mem_cons.mpr ⟨⟨mk_X4_all, mw_X4_all⟩, (List.forall_mem_cons.mpr ⟨⟨mk_X4_nextTo, mw_X4_nextTo⟩, (List.forall_mem_cons.mpr ⟨⟨mk_X4_hasDoor, mw_X4_hasDoor⟩, (List.forall_mem_cons.mpr ⟨⟨mk_X4_turnDoor, mw_X4_turnDoor⟩, (List.forall_mem_cons.mpr ⟨⟨mk_X4_isPlace, mw_X4_isPlace⟩, (List.forall_mem_cons.mpr ⟨⟨mk_X4_nearTo, mw_X4_nearTo⟩, (fun _ h => absurd h List.not_mem_nil)⟩)⟩)⟩)⟩)⟩)⟩)⟩)⟩)⟩)⟩)⟩)⟩)⟩)⟩)⟩)⟩)
theorem mg_3 : ∀ M ∈ [km_X4_areNear, km_X4_nextToSome, km_X4_afterShot, km_X4_losesAllCorners, km_X4_lowestCorner, km_X4_isCorner, km_X6_init, km_X6_at, km_X6_put, km_X6_putAll, km_X7_init, km_X7_rooms, km_X7_door, km_X7_shoot, km_X7_back, km_X7_time], mok M = true ∧ GoodIn lw_tbl (mwd M) := (List.forall_mem_cons.mpr ⟨⟨mk_X4_areNear, mw_X4_areNear⟩, (List.forall_mem_cons.mpr ⟨⟨mk_X4_nextToSome, mw_X4_nextToSome⟩, (List.forall_mem_cons.mpr ⟨⟨mk_X4_afterShot, mw_X4_afterShot⟩, (List.forall_mem_cons.mpr ⟨⟨mk_X4_losesAllCorners, mw_X4_losesAllCorners⟩, (List.forall_mem_cons.mpr ⟨⟨mk_X4_lowestCorner, mw_X4_lowestCorner⟩, (List.forall_mem_cons.mpr ⟨⟨mk_X4_isCorner, mw_X4_isCorner⟩, (List.forall_mem_cons.mpr ⟨⟨mk_X6_init, mw_X6_init⟩, (List.forall_mem_cons.mpr ⟨⟨mk_X6_at, mw_X6_at⟩, (List.forall_mem_cons.mpr ⟨⟨mk_X6_put, mw_X6_put⟩, (List.forall_mem_cons.mpr ⟨⟨mk_X6_putAll, mw_X6_putAll⟩, (List.forall_mem_cons.mpr ⟨⟨mk_X7_init, mw_X7_init⟩, (List.forall_mem_cons.mpr ⟨⟨mk_X7_rooms, mw_X7_rooms⟩, (List.forall_mem_cons.mpr ⟨⟨mk_X7_door, mw_X7_door⟩, (List.forall_mem_cons.mpr ⟨⟨mk_X7_shoot, mw_X7_shoot⟩, (List.forall_mem_cons.mpr ⟨⟨mk_X7_back, mw_X7_back⟩, (List.forall_mem_cons.mpr ⟨⟨mk_X7_time, mw_X7_time⟩, (fun _ h => absurd h List.not_mem_nil)⟩)⟩)⟩)⟩)⟩)⟩)⟩)⟩)⟩)⟩)⟩)⟩)⟩)⟩)⟩)⟩)
theorem mg_4 : ∀ M ∈ [km_X7_step, km_X7_away, km_X7_catches, km_X7_fallsApart, km_X7_rabbit, km_X7_hunt, km_X7_aim, km_X7_forced, km_X7_leastBlue, km_X7_beginDeeds, km_X7_needRoom, km_X7_needBeginning, km_X7_needSet, km_X7_needPlaceForDeed, km_X7_placeOf, km_J6_bitCount_0f7a4], mok M = true ∧ GoodIn lw_tbl (mwd M) := (List.forall_mem_cons.mpr ⟨⟨mk_X7_step, mw_X7_step⟩, (List.forall_mem_cons.mpr ⟨⟨mk_X7_away, mw_X7_away⟩, (List.forall_mem_cons.mpr ⟨⟨mk_X7_catches, mw_X7_catches⟩, (List.forall_mem_cons.mpr ⟨⟨mk_X7_fallsApart, mw_X7_fallsApart⟩, (List.forall_mem_cons.mpr ⟨⟨mk_X7_rabbit, mw_X7_rabbit⟩, (List.forall_mem_cons.mpr ⟨⟨mk_X7_hunt, mw_X7_hunt⟩, (List.forall_mem_cons.mpr ⟨⟨mk_X7_aim, mw_X7_aim⟩, (List.forall_mem_cons.mpr ⟨⟨mk_X7_forced, mw_X7_forced⟩, (List.forall_mem_cons.mpr ⟨⟨mk_X7_leastBlue, mw_X7_leastBlue⟩, (List.forall_mem_cons.mpr ⟨⟨mk_X7_beginDeeds, mw_X7_beginDeeds⟩, (List.forall_mem_cons.mpr ⟨⟨mk_X7_needRoom, mw_X7_needRoom⟩, (List.forall_mem_cons.mpr ⟨⟨mk_X7_needBeginning, mw_X7_needBeginning⟩, (List.forall_mem_cons.mpr ⟨⟨mk_X7_needSet, mw_X7_needSet⟩, (List.forall_mem_cons.mpr ⟨⟨mk_X7_needPlaceForDeed, mw_X7_needPlaceForDeed⟩, (List.forall_mem_cons.mpr ⟨⟨mk_X7_placeOf, mw_X7_placeOf⟩, (List.forall_mem_cons.mpr ⟨⟨mk_J6_bitCount_0f7a4, mw_J6_bitCount_0f7a4⟩, (fun _ h => absurd h List.not_mem_nil)⟩)⟩)⟩)⟩)⟩)⟩)⟩)⟩)⟩)⟩)⟩)⟩)⟩)⟩)⟩)⟩)
theorem mg_5 : ∀ M ∈ [km_L_cell, km_L_at, km_L_size, km_L_law], mok M = true ∧ GoodIn lw_tbl (mwd M) := (List.forall_mem_cons.mpr ⟨⟨mk_L_cell, mw_L_cell⟩, (List.forall_mem_cons.mpr ⟨⟨mk_L_at, mw_L_at⟩, (List.forall_mem_cons.mpr ⟨⟨mk_L_size, mw_L_size⟩, (List.forall_mem_cons.mpr ⟨⟨mk_L_law, mw_L_law⟩, (fun _ h => absurd h List.not_mem_nil)⟩)⟩)⟩)⟩)
theorem mtabs_ok : ∀ g ∈ mtabs, ∀ M ∈ g, mok M = true ∧ GoodIn lw_tbl (mwd M) := (List.forall_mem_cons.mpr ⟨mg_0, (List.forall_mem_cons.mpr ⟨mg_1, (List.forall_mem_cons.mpr ⟨mg_2, (List.forall_mem_cons.mpr ⟨mg_3, (List.forall_mem_cons.mpr ⟨mg_4, (List.forall_mem_cons.mpr ⟨mg_5, (fun _ h => absurd h List.not_mem_nil)⟩)⟩)⟩)⟩)⟩)⟩)
end
end
section
/-! SOUNDNESS: what the abstract machine does, the machine does. -/
section
def adr (bs ba : Nat) (a : Nat) : Nat := match a with
  | 0 => bs
  | j + 1 => ba + j
def vmp (bs ba : Nat) (v : Value) : Value := match v with
  | .ref a => .ref (adr bs ba a)
  | v => v
def ent (cI cJ : ClassId) (bs ba : Nat) (o : AO) : va_E := match o with
  | .inl (n, .inl f) => .inl (cI, n, .inl f)
  | .inl a => .inl (cJ, a)
  | .inr (ci, fs) => .inr (ci, fs.map (vmp bs ba))
def wsF (cI cJ : ClassId) (bs ba : Nat) : Nat → List AO → va_W
  | _, [] => []
  | a, o :: t => (a, ent cI cJ bs ba o) :: wsF cI cJ bs ba (a + 1) t
theorem wsF_get (cI cJ : ClassId) (bs ba : Nat) : ∀ (t : List AO) (a k : Nat), (wsF cI cJ bs ba a t)[k]? = (t[k]?).map (fun o => (a + k, ent cI cJ bs ba o))
  | [], a, k => by simp [wsF]
  | o :: t, a, 0 => by simp [wsF]
  | o :: t, a, k + 1 => by
    simp only [wsF, List.getElem?_cons_succ]
    rw [wsF_get cI cJ bs ba t (a + 1) k]
    congr 1
    funext o
    rw [show a + 1 + k = a + (k + 1) by omega]
theorem wsF_len (cI cJ : ClassId) (bs ba : Nat) : ∀ (t : List AO) (a : Nat), (wsF cI cJ bs ba a t).length = t.length
  | [], a => rfl
  | o :: t, a => by simp [wsF, wsF_len cI cJ bs ba t]
theorem wsF_set (cI cJ : ClassId) (bs ba : Nat) (t : List AO) (a k : Nat) (o : AO) : wsF cI cJ bs ba a (t.set k o) = (wsF cI cJ bs ba a t).set k (a + k, ent cI cJ bs ba o) := by
  apply List.ext_getElem?
  intro j
  rw [wsF_get, List.getElem?_set, List.getElem?_set, wsF_len, wsF_get]
  by_cases hj : k = j
  · subst hj
    by_cases hk : k < t.length
    · simp [hk]
    · simp [hk]
  · simp [hj]
theorem wsF_app (cI cJ : ClassId) (bs ba : Nat) (t : List AO) (a : Nat) (o : AO) : wsF cI cJ bs ba a (t ++ [o]) = wsF cI cJ bs ba a t ++ [(a + t.length, ent cI cJ bs ba o)] := by
  apply List.ext_getElem?
  intro j
  rw [wsF_get, List.getElem?_append, List.getElem?_append, wsF_len]
  by_cases hj : j < t.length
  · rw [if_pos hj, if_pos hj, wsF_get]
  · rw [if_neg hj, if_neg hj]
    by_cases h0 : j - t.length = 0
    · have : j = t.length := by omega
      subst this
      simp
    · obtain ⟨n, hn⟩ := Nat.exists_eq_succ_of_ne_zero h0
      rw [hn]
      simp
theorem wsF_D (cI cJ : ClassId) (bs ba : Nat) (t : List AO) : va_D (fun q => ba ≤ q) (wsF cI cJ bs ba ba t) := by
  refine ⟨fun i j p q hp hq e => ?_, fun k q hq => ?_⟩
  · rw [wsF_get] at hp hq
    obtain ⟨_, -, rfl⟩ := Option.map_eq_some_iff.mp hp
    obtain ⟨_, -, rfl⟩ := Option.map_eq_some_iff.mp hq
    have e' : ba + i = ba + j := e
    omega
  · rw [wsF_get] at hq
    obtain ⟨_, -, rfl⟩ := Option.map_eq_some_iff.mp hq
    exact Nat.le_add_right _ _
def osz (o : AO) : Nat := match o with
  | .inl a => a.1
  | .inr q => q.2.length
def cnt (h : AH) : Nat := h.1 + h.2.length
def slt (h : AH) : Nat := 6 * h.1 + (h.2.map osz).sum
def CorH (dC : Nat → ClassId) (dI : Nat → Nat → Nat) (cI cJ : ClassId) (bs ba Ls : Nat) (xs : Nat → Int32) (h : AH) (H : Heap) : Prop :=
  ∃ t, h.2 = .inl (Ls, .inl xs) :: t ∧ va_P (dC, dI) vwCl (wsF cI cJ bs ba ba t) H ∧ ba + t.length ≤ H.size
def prsF (bs ba : Nat) : Nat → List Value → List (Nat × Value)
  | _, [] => []
  | i, .retAddr _ :: t => prsF bs ba (i + 1) t
  | i, v :: t => (i, vmp bs ba v) :: prsF bs ba (i + 1) t
theorem prsF_cons (bs ba i : Nat) (v : Value) (t : List Value) (hv : ∀ p, v ≠ .retAddr p) : prsF bs ba i (v :: t) = (i, vmp bs ba v) :: prsF bs ba (i + 1) t := by
  cases v <;> first | rfl | exact absurd rfl (hv _)
theorem prsF_mem (bs ba : Nat) : ∀ (L : List Value) (i n : Nat) (w : Value), (n, w) ∈ prsF bs ba i L ↔ ∃ (j : Nat) (v : Value), L[j]? = some v ∧ (∀ p, v ≠ .retAddr p) ∧ n = i + j ∧ w = vmp bs ba v
  | [], i, n, w => by simp [prsF]
  | v :: t, i, n, w => by
    have ih := prsF_mem bs ba t (i + 1) n w
    by_cases hv : ∀ p, v ≠ .retAddr p
    · rw [prsF_cons bs ba i v t hv, List.mem_cons]
      constructor
      · rintro (e | h)
        · cases e
          exact ⟨0, v, rfl, hv, rfl, rfl⟩
        · obtain ⟨j, v', h1, h2, h3, h4⟩ := ih.mp h
          exact ⟨j + 1, v', h1, h2, by omega, h4⟩
      · rintro ⟨j, v', h1, h2, h3, h4⟩
        cases j with
        | zero =>
          cases h1
          left
          rw [h3, h4]
          rfl
        | succ j => exact Or.inr (ih.mpr ⟨j, v', h1, h2, by omega, h4⟩)
    · have : ∃ p, v = .retAddr p := by
        cases v with
        | retAddr p => exact ⟨p, rfl⟩
        | _ => exact absurd (fun p h => by cases h) hv
      obtain ⟨p, rfl⟩ := this
      show (n, w) ∈ prsF bs ba (i + 1) t ↔ _
      rw [ih]
      constructor
      · rintro ⟨j, v', h1, h2, h3, h4⟩
        exact ⟨j + 1, v', h1, h2, by omega, h4⟩
      · rintro ⟨j, v', h1, h2, h3, h4⟩
        cases j with
        | zero => cases h1; exact absurd rfl (h2 p)
        | succ j => exact ⟨j, v', h1, h2, by omega, h4⟩
def lcs (bs ba : Nat) (L : List Value) (ls : Array Slot) (nL : Nat) : Prop := L.length = nL ∧ lv_has ls nL (prsF bs ba 0 L) ∧ ∀ v ∈ L, v.category = 1
theorem vmp_cat (bs ba : Nat) (v : Value) : (vmp bs ba v).category = v.category := by cases v <;> rfl
theorem lcs.get {bs ba : Nat} {L : List Value} {ls : Array Slot} {nL n : Nat} {v : Value} (h : lcs bs ba L ls nL) (hv : L[n]? = some v) (hj : ∀ p, v ≠ .retAddr p) : ls[n]? = some (.val (vmp bs ba v)) :=
  h.2.1.2.2 (n, vmp bs ba v) ((prsF_mem bs ba L 0 n _).mpr ⟨n, v, hv, hj, by omega, rfl⟩)
theorem lcs.put {bs ba : Nat} {L : List Value} {ls ls' : Array Slot} {nL i : Nat} {v w : Value} (h : lcs bs ba L ls nL) (hv : v.category = 1) (hw : w = vmp bs ba v ∨ ∃ p, v = .retAddr p)
    (h' : lv_has ls' nL ((i, w) :: (prsF bs ba 0 L).filter (fun q => !(q.1 == i) && !(q.1 + 1 == i && q.2.category == 2)))) : lcs bs ba (L.set i v) ls' nL := by
  refine ⟨by rw [List.length_set]; exact h.1, ⟨h'.1, h'.2.1, fun q hq => ?_⟩, fun u hu => ?_⟩
  · obtain ⟨n, u⟩ := q
    obtain ⟨j, v', h1, h2, h3, h4⟩ := (prsF_mem bs ba _ 0 n u).mp hq
    have hjn : n = j := by omega
    subst hjn
    subst h4
    rw [List.getElem?_set] at h1
    by_cases hij : i = n
    · subst hij
      rw [if_pos rfl] at h1
      split at h1
      · cases h1
        rcases hw with rfl | ⟨p, rfl⟩
        · exact h'.2.2 _ List.mem_cons_self
        · exact absurd rfl (h2 p)
      · cases h1
    · rw [if_neg hij] at h1
      refine h'.2.2 _ (List.mem_cons_of_mem _ (List.mem_filter.mpr ⟨(prsF_mem bs ba L 0 n _).mpr ⟨n, v', h1, h2, by omega, rfl⟩, ?_⟩))
      have hc : (vmp bs ba v').category = 1 := by rw [vmp_cat]; exact h.2.2 v' (List.mem_of_getElem? h1)
      have hne : (n == i) = false := by simp; omega
      simp [hne, hc]
  · rcases List.mem_or_eq_of_mem_set hu with h1 | h1
    · exact h.2.2 u h1
    · rw [h1]; exact hv
end
end
section
/-! ONE STEP: the abstract machine's, and the machine's. -/
section
theorem inTG {ws : List Jvm.Cond} (h1 : ∀ w ∈ ws, w ∈ lw_tbl) (h2 : ws.all goodWord = true) : ∀ w ∈ ws, w ∈ TG := fun w h => List.mem_filter.mpr ⟨h1 w h, List.all_eq_true.mp h2 w h⟩
theorem cls_ok (ci : Nat) (h : ci < 7) : ∃ (C : String) (T : u_T) (N : Nat), vwCl[ci]? = some (C, T, N) ∧ (∀ w ∈ u_ws C T N, w ∈ TG) ∧ (∀ k, k < N → parseFieldDescriptor (T k).2.2.1 = some (tyT ci k)) ∧ (∀ a, a < N → ∀ b, b < N → a ≠ b → (T a).2.1 ≠ (T b).2.1) ∧ (dfl ci).length = N ∧ ∀ j, j < N → defaultValue (tyT ci j) = vp_V (dfl ci) j := by
  match ci, h with
  | 0, _ => exact ⟨_, _, _, rfl, inTG in_X0 (by decide +kernel), tyX0_ok, nmX0, rfl, by decide⟩
  | 1, _ => exact ⟨_, _, _, rfl, inTG in_X1 (by decide +kernel), tyX1_ok, nmX1, rfl, by decide⟩
  | 2, _ => exact ⟨_, _, _, rfl, inTG in_X2 (by decide +kernel), tyX2_ok, nmX2, rfl, by decide⟩
  | 3, _ => exact ⟨_, _, _, rfl, inTG in_X3 (by decide +kernel), tyX3_ok, nmX3, rfl, by decide⟩
  | 4, _ => exact ⟨_, _, _, rfl, inTG in_X4 (by decide +kernel), tyX4_ok, nmX4, rfl, by decide⟩
  | 5, _ => exact ⟨_, _, _, rfl, inTG in_X6 (by decide +kernel), tyX6_ok, nmX6, rfl, by decide⟩
  | 6, _ => exact ⟨_, _, _, rfl, inTG in_X7 (by decide +kernel), tyX7_ok, nmX7, rfl, by decide⟩
/-- what a frame's start gives: classes, strings, statics, the script -/
def EnvS (dC : Nat → ClassId) (dI : Nat → Nat → Nat) (cI cJ : ClassId) (bs ba Ls : Nat) (xs : Nat → Int32) (sa : Nat → Nat) (U : State) : Prop :=
  va_K (dC, dI) vwCl [(cI, .int)] U ∧ va_X bs Ls xs U U.heap ∧ bs < ba ∧ ba ≤ U.heap.size ∧
  vx_Zq Bundle.tN "UNASSIGNED_STACK" Bundle.steD (fun q => ba ≤ q) U U.heap ∧ vx_Zq Bundle.tN "SUPPRESSED_SENTINEL" Bundle.listD (fun q => ba ≤ q) U U.heap ∧
  (∀ q ∈ txts, vk_R "Coppinghouse" q.1 q.2 (sa q.1) U) ∧ (∀ w ∈ NG, w.before #[] U = true) ∧ (∀ i j, i < 3 → j < 3 → i ≠ j → va_Nc (exn i) (exn j) U)
theorem ng_moved {w : Jvm.Cond} (hw : w ∈ NG) {s U : State} (hvm : s.vm.Alike U.vm) {A A' : Array Value} (h : w.before A s = true) : w.before A' U = true := by
  have h1 := (List.mem_filter.mp hw).2
  simp only [Bool.and_eq_true] at h1
  have h2 := Cond.faceAtom_setVm (args := A) hvm w h1.1 h
  exact va_tabs (A := A) (u := s.setVm U.vm) h1.2 rfl h2
theorem EnvS.moved {dC : Nat → ClassId} {dI : Nat → Nat → Nat} {cI cJ : ClassId} {bs ba Ls : Nat} {xs : Nat → Int32} {sa : Nat → Nat} {s U : State} (h : EnvS dC dI cI cJ bs ba Ls xs sa s) (hW : s.WarmedH U.vm) (h1 : s.heap.size ≤ U.heap.size) (h2 : ∀ q : Nat, q < s.heap.size → ¬ (ba ≤ q) → U.heap[q]? = s.heap[q]?) : EnvS dC dI cI cJ bs ba Ls xs sa U := by
  obtain ⟨a1, a2, a3, a4, a5, a6, a7, a8, a9⟩ := h
  have hal := hW.alike
  refine ⟨va_K.moved hal a1, (a2.moved hal).kept (h2 bs (by omega) (by omega)), a3, Nat.le_trans a4 h1, (vx_Zq.moved hal a5).kept h2, (vx_Zq.moved hal a6).kept h2, fun q hq => vk_R.warm hW (a7 q hq), fun w hw => ng_moved hw hal (a8 w hw), fun i j hi hj hij => va_Nc.moved hal (a9 i j hi hj hij)⟩
/-- what stands still in a frame of method M -/
def SndC (dC : Nat → ClassId) (dI : Nat → Nat → Nat) (cI cJ : ClassId) (bs ba Ls : Nat) (xs : Nat → Int32) (sa : Nat → Nat) (dd : Nat) (p : Program) (R : Room) (s : State) (m : MethodId) (args : Array Value) (meth : Method) (c : Code) (M : Mt) : Prop :=
  p.tables.exec = Jvm.exec ∧ c.code = M.2.1 ∧ c.maxLocals = M.2.2.1 ∧ meth.sig.returnType = M.2.2.2.1 ∧ s.vm.findClass M.2.2.2.2.2.1 = some m.cls ∧ meth.locks = false ∧ meth.name = M.1.name ∧ c.exceptionTable.toList = tableOf M.2.2.2.2.1 ∧ (∀ w ∈ TG, w.before args s = true) ∧ EnvS dC dI cI cJ bs ba Ls xs sa s ∧ dd + 2 ≤ R.frames ∧ 39 * dd + 33 ≤ R.locals
/-- what moves -/
def SndS (dC : Nat → ClassId) (dI : Nat → Nat → Nat) (cI cJ : ClassId) (bs ba Ls : Nat) (xs : Nat → Int32) (s : State) (nL n0 z0 : Nat) (h : AH) (L : List Value) (H : Heap) (locs : List Loc) (cells slots : Nat) (ls : Array Slot) : Prop :=
  CorH dC dI cI cJ bs ba Ls xs h H ∧ va_S (fun q => ba ≤ q) s.heap H locs ∧ lcs bs ba L ls nL ∧ cells + n0 = cnt h ∧ slots + z0 = slt h ∧ (h.1 = 0 → s.heap.size + cells + 1 = ba + h.2.length)
theorem bin_inv {pc : Nat} {L S : List Value} {h : AH} {f : Int32 → Int32 → Int32} {c' : Cf} (hs : bin pc L S h f = some c') : ∃ x y S', S = .int y :: .int x :: S' ∧ c' = (pc, L, .int (f x y) :: S', h) := by
  unfold bin at hs
  split at hs
  · rename_i y x S'
    exact ⟨x, y, S', rfl, (Option.some.inj hs).symm⟩
  · cases hs
theorem ldi_inv {pc k : Nat} {L S : List Value} {h : AH} {c' : Cf} (hs : psh pc L S h (ldi L k) = some c') : ∃ x, L[k]? = some (.int x) ∧ c' = (pc, L, .int x :: S, h) := by
  unfold ldi at hs
  split at hs
  · rename_i a e
    exact ⟨a, e, (Option.some.inj hs).symm⟩
  · cases hs
theorem lda_inv {pc k : Nat} {L S : List Value} {h : AH} {c' : Cf} (hs : psh pc L S h (lda L k) = some c') : ∃ x, L[k]? = some (.ref x) ∧ c' = (pc, L, .ref x :: S, h) := by
  unfold lda at hs
  split at hs
  · rename_i a e
    exact ⟨a, e, (Option.some.inj hs).symm⟩
  · cases hs
theorem sti_inv {pc k : Nat} {L S : List Value} {h : AH} {c' : Cf} (hs : sti pc k L S h = some c') : ∃ x S', S = .int x :: S' ∧ k < L.length ∧ c' = (pc, L.set k (.int x), S', h) := by
  unfold sti at hs
  split at hs
  · rename_i x S'
    cases hb : Nat.blt k L.length with
    | true =>
      rw [hb] at hs
      exact ⟨x, S', rfl, Nat.blt_eq.mp hb, (Option.some.inj hs).symm⟩
    | false => rw [hb] at hs; cases hs
  · cases hs
theorem sta_inv {pc k : Nat} {L S : List Value} {h : AH} {c' : Cf} (hs : sta pc k L S h = some c') : ∃ x S', S = .ref x :: S' ∧ k < L.length ∧ c' = (pc, L.set k (.ref x), S', h) := by
  unfold sta at hs
  split at hs
  · rename_i x S'
    cases hb : Nat.blt k L.length with
    | true =>
      rw [hb] at hs
      exact ⟨x, S', rfl, Nat.blt_eq.mp hb, (Option.some.inj hs).symm⟩
    | false => rw [hb] at hs; cases hs
  · cases hs
theorem noJ_i {x : Int32} : ∀ p, Value.int x ≠ .retAddr p := fun _ h => by cases h
theorem noJ_r {x : Nat} : ∀ p, Value.ref x ≠ .retAddr p := fun _ h => by cases h
theorem SndS.put {dC : Nat → ClassId} {dI : Nat → Nat → Nat} {cI cJ : ClassId} {bs ba Ls : Nat} {xs : Nat → Int32} {s : State} {nL n0 z0 : Nat} {h : AH} {L : List Value} {H : Heap} {locs : List Loc} {cells slots : Nat} {ls ls' : Array Slot} {i : Nat} {v : Value}
    (X : SndS dC dI cI cJ bs ba Ls xs s nL n0 z0 h L H locs cells slots ls) (hv : v.category = 1)
    (h' : lv_has ls' nL ((i, vmp bs ba v) :: (prsF bs ba 0 L).filter (fun q => !(q.1 == i) && !(q.1 + 1 == i && q.2.category == 2)))) : SndS dC dI cI cJ bs ba Ls xs s nL n0 z0 h (L.set i v) H locs cells slots ls' := by
  obtain ⟨x1, x2, x3, x4, x5, x6⟩ := X
  exact ⟨x1, x2, x3.put hv (Or.inl rfl) h', x4, x5, x6⟩
section
variable {dC : Nat → ClassId} {dI : Nat → Nat → Nat} {cI cJ : ClassId} {bs ba Ls : Nat} {xs : Nat → Int32} {sa : Nat → Nat} {dd : Nat} {p : Program} {l : Launch} {e : Env} {R : Room} {s : State} {m : MethodId} {args : Array Value} {below : List Frame} {meth : Method} {c : Code}
variable {H : Heap} {locs : List Loc} {cells slots n0 z0 : Nat} {ls : Array Slot} {Q : State → Prop} {h : AH} {L S : List Value} {M : Mt} {pc : Nat}
theorem CorH.of {h : AH} {H : Heap} {t : List AO} (h1 : h.2 = .inl (Ls, .inl xs) :: t) (h2 : va_P (dC, dI) vwCl (wsF cI cJ bs ba ba t) H) (h3 : ba ≤ H.size) : CorH dC dI cI cJ bs ba Ls xs h H := by
  refine ⟨t, h1, h2, ?_⟩
  cases ht : t.length with
  | zero => exact h3
  | succ n =>
    have hn : n < t.length := by omega
    have := (h2 n (ba + n, ent cI cJ bs ba t[n]) (by rw [wsF_get, List.getElem?_eq_getElem hn]; rfl)).lt
    have h9 : ba + n < H.size := this
    omega
/-- a place that is no script -/
theorem CorH.at {a : Nat} {o : AO} (hC : CorH dC dI cI cJ bs ba Ls xs h H) (ha : h.2[a]? = some o) : (a = 0 ∧ o = .inl (Ls, .inl xs)) ∨ ∃ t j, a = j + 1 ∧ h.2 = .inl (Ls, .inl xs) :: t ∧ t[j]? = some o ∧ va_P (dC, dI) vwCl (wsF cI cJ bs ba ba t) H ∧ (wsF cI cJ bs ba ba t)[j]? = some (ba + j, ent cI cJ bs ba o) := by
  obtain ⟨t, h1, h2, -⟩ := hC
  cases a with
  | zero =>
    rw [h1] at ha
    cases ha
    exact Or.inl ⟨rfl, rfl⟩
  | succ j =>
    rw [h1] at ha
    have ha' : t[j]? = some o := ha
    exact Or.inr ⟨t, j, rfl, h1, ha', h2, by rw [wsF_get, ha']; rfl⟩
/-- one thing changed, its size as before -/
theorem SndS.set {o o1 : AO} {t : List AO} {j : Nat} {H1 : Heap} {locs1 : List Loc} {nL : Nat} (X : SndS dC dI cI cJ bs ba Ls xs s nL n0 z0 h L H locs cells slots ls) (hbs : ba ≤ s.heap.size) (h1 : h.2 = .inl (Ls, .inl xs) :: t) (hj : t[j]? = some o) (hz : osz o = osz o1)
    (hP : va_P (dC, dI) vwCl ((wsF cI cJ bs ba ba t).set j (ba + j, ent cI cJ bs ba o1)) H1) (hS : va_S (fun q => ba ≤ q) s.heap H1 locs1) : SndS dC dI cI cJ bs ba Ls xs s nL n0 z0 (h.1, h.2.set (j + 1) o1) L H1 locs1 cells slots ls := by
  obtain ⟨x1, x2, x3, x4, x5, x6⟩ := X
  have e : h.2.set (j + 1) o1 = .inl (Ls, .inl xs) :: t.set j o1 := by rw [h1]; rfl
  refine ⟨CorH.of (t := t.set j o1) e (by rw [wsF_set]; exact hP) (Nat.le_trans hbs hS.1), hS, x3, ?_, ?_, ?_⟩
  · rw [x4]; simp [cnt]
  · rw [x5]
    have hm : (t.set j o1).map osz = t.map osz := by
      rw [List.map_set, ← hz]
      apply List.ext_getElem?
      intro k
      rw [List.getElem?_set]
      by_cases hk : j = k
      · subst hk
        have hlt : j < t.length := (List.getElem?_eq_some_iff.mp hj).1
        obtain ⟨_, e9⟩ := List.getElem?_eq_some_iff.mp hj
        simp [hlt, e9]
      · simp [hk]
    simp only [slt]
    rw [e, h1, List.map_cons, List.map_cons, hm]
  · intro h0
    have := x6 h0
    simpa using this
def AO_o (x1 : Nat) : AO := .inr (x1, dfl x1)
theorem dfl_map (ci : Nat) : (dfl ci).map (vmp bs ba) = dfl ci := by
  unfold dfl
  split <;> rfl
theorem cat_sum (bs ba : Nat) : ∀ S' : List Value, ((S'.map (vmp bs ba)).map fun v => v.category).sum ≤ 2 * S'.length
  | [] => by simp
  | v :: t => by
    have ih := cat_sum bs ba t
    have : (vmp bs ba v).category ≤ 2 := by cases v <;> simp [vmp, Value.category]
    simp only [List.map_cons, List.sum_cons, List.length_cons]
    omega
theorem inb_in {i : Int32} {n : Nat} (h : inb i n = true) : vp_in i n := by
  unfold inb at h
  have h2 := of_decide_eq_true h
  exact h2
theorem nat_and {a b : Bool} (h : (a && b) = true) : a = true ∧ b = true := by simpa using h
theorem wnew {c' : Cf} {x1 x2 x3 n : Nat} {idx : Nat} (hx : p.tables.exec = Jvm.exec) (hb : c.code = M.2.1) (hown : s.vm.findClass M.2.2.2.2.2.1 = some m.cls) (hts : ∀ w ∈ TG, w.before args s = true) (hE : EnvS dC dI cI cJ bs ba Ls xs sa s) (hd : decode M.2.1 pc = .ok (.new idx, 3)) (hwt : ∀ w ∈ rwd M (.new idx, n, x1, x2, x3), w.before args s = true) (hs : stp pc (.new idx, n, x1, x2, x3) L S h = some c') (X : SndS dC dI cI cJ bs ba Ls xs s M.2.2.1 n0 z0 h L H locs cells slots ls)
    (hc : cnt c'.2.2.2 ≤ R.cells + n0) (hz : slt c'.2.2.2 ≤ R.slots + z0)
    (kk : ∀ H' locs' cells' slots' ls', SndS dC dI cI cJ bs ba Ls xs s M.2.2.1 n0 z0 c'.2.2.2 c'.2.1 H' locs' cells' slots' ls' → W p l e R s m args below meth c H' locs' cells' slots' Q (F0 m c'.1 ls' (c'.2.2.1.map (vmp bs ba)))) :
    W p l e R s m args below meth c H locs cells slots Q (F0 m pc ls (S.map (vmp bs ba))) := by
  have hE' := hE
  obtain ⟨hK, hX, hbs, hba, -⟩ := hE'
  have X' := X
  obtain ⟨hC, hS, hL, hcc, hsl, hex0⟩ := X'
  simp only [stp] at hs
  split at hs
  · rename_i hcond
    cases hs
    obtain ⟨h8, h0⟩ := nat_and hcond
    have h8' : x1 < 7 := Nat.blt_eq.mp h8
    have h00 : h.1 = 0 := Nat.eq_of_beq_eq_true h0
    obtain ⟨C, T, N, hcl, hin, hty, hnmm, hdl, hdf⟩ := cls_ok x1 h8'
    have hCe : fC x1 = C := by simp [fC, hcl]
    have hNe : fN x1 = N := by simp [fN, hcl]
    have w1 := hwt (.classLink M.2.2.2.2.2.1 idx (fC x1)) (by simp [rwd, h8'])
    have w2 := hwt (.instantiable (fC x1) (fN x1)) (by simp [rwd, h8'])
    have w3 := hwt (.initialized (fC x1)) (by simp [rwd, h8'])
    rw [hCe] at w1 w2 w3
    rw [hNe] at w2
    obtain ⟨t, h1, h2, h3⟩ := hC
    have hlen : h.2.length = t.length + 1 := by rw [h1]; rfl
    have hKn := hK.1 x1 _ hcl
    simp only [cnt, List.length_append, List.length_singleton] at hc hcc
    have hsz : ((h.2 ++ [AO_o x1]).map osz).sum = (h.2.map osz).sum + N := by
      rw [List.map_append, List.sum_append]
      simp [AO_o, osz, hdl]
    have hz' : 6 * h.1 + ((h.2.map osz).sum + N) ≤ R.slots + z0 := by rw [← hsz]; exact hz
    have hsl' : slots + z0 = 6 * h.1 + (h.2.map osz).sum := hsl
    intro T0 hT0 X0
    have hq := X0.heapSize
    rw [hT0] at hq
    have hq2 := hex0 h00
    have hH : H.size = ba + t.length := by omega
    refine W.newcK (g := F0 m pc ls (S.map (vmp bs ba))) (cC := dC x1) hx hb hown w1 w2 w3 rfl hd (by omega) (by omega) hKn.2.1 hH (fun H1 kC hkC e1 z1 o1 => ?_) T0 hT0 X0
    have hk9 : ∀ (k : Nat) (x : Nat × va_E), (wsF cI cJ bs ba ba t)[k]? = some x → H1[x.1]? = H[x.1]? := fun k x hx => o1 x.1 (by rw [← hH]; exact (h2 k x hx).lt)
    have hP1 : va_P (dC, dI) vwCl (wsF cI cJ bs ba ba (t ++ [AO_o x1])) H1 := by
      rw [wsF_app]
      refine (h2.kept hk9).app (fun k x hx => ?_)
      have hz : k < 1 := (List.getElem?_eq_some_iff.mp hx).1
      rw [show k = 0 by omega] at hx
      cases hx
      refine ⟨_, hcl, (u_born (tyT x1) hts hin hKn hkC e1 hty).to (fun j hj => (hdf j hj).trans ?_)⟩
      show vp_V (dfl x1) j = vp_V ((dfl x1).map (vmp bs ba)) j
      rw [dfl_map]
    have hsn : SndS dC dI cI cJ bs ba Ls xs s M.2.2.1 n0 z0 (h.1, h.2 ++ [AO_o x1]) L H1 locs (cells + 1) (slots + N) ls := by
      refine ⟨CorH.of (t := t ++ [AO_o x1]) (by rw [h1]; rfl) hP1 (by omega), ⟨by have := hS.1; omega, fun q h5 h6 => (o1 q (by have := hS.1; omega)).trans (hS.2.1 q h5 h6), hS.2.2⟩, hL, ?_, ?_, ?_⟩
      · simp only [cnt, List.length_append, List.length_singleton]; omega
      · show slots + N + z0 = 6 * h.1 + ((h.2 ++ [AO_o x1]).map osz).sum
        rw [hsz]; omega
      · intro _
        simp only [List.length_append, List.length_singleton]; omega
    have hk := kk H1 locs (cells + 1) (slots + N) ls hsn
    show W p l e R s m args below meth c H1 locs (cells + 1) (slots + N) Q (F0 m (pc + 3) ls (.ref (ba + t.length) :: S.map (vmp bs ba)))
    have he : (vmp bs ba (.ref h.2.length)) = .ref (ba + t.length) := by rw [hlen]; rfl
    rw [← he]
    exact hk
  · cases hs
theorem wnewa {c' : Cf} {x1 x2 x3 n : Nat} {ty : ArrayType} (hx : p.tables.exec = Jvm.exec) (hb : c.code = M.2.1) (hown : s.vm.findClass M.2.2.2.2.2.1 = some m.cls) (hts : ∀ w ∈ TG, w.before args s = true) (hE : EnvS dC dI cI cJ bs ba Ls xs sa s) (hd : decode M.2.1 pc = .ok (.newarray ty, 2)) (hwt : ∀ w ∈ rwd M (.newarray ty, n, x1, x2, x3), w.before args s = true) (hs : stp pc (.newarray ty, n, x1, x2, x3) L S h = some c') (X : SndS dC dI cI cJ bs ba Ls xs s M.2.2.1 n0 z0 h L H locs cells slots ls)
    (hc : cnt c'.2.2.2 ≤ R.cells + n0) (hz : slt c'.2.2.2 ≤ R.slots + z0)
    (kk : ∀ H' locs' cells' slots' ls', SndS dC dI cI cJ bs ba Ls xs s M.2.2.1 n0 z0 c'.2.2.2 c'.2.1 H' locs' cells' slots' ls' → W p l e R s m args below meth c H' locs' cells' slots' Q (F0 m c'.1 ls' (c'.2.2.1.map (vmp bs ba)))) :
    W p l e R s m args below meth c H locs cells slots Q (F0 m pc ls (S.map (vmp bs ba))) := by
  have hE' := hE
  obtain ⟨hK, hX, hbs, hba, -⟩ := hE'
  have X' := X
  obtain ⟨hC, hS, hL, hcc, hsl, hex0⟩ := X'
  simp only [stp] at hs
  split at hs
  · rename_i n1 S'
    split at hs
    · rename_i hcond
      obtain ⟨h0, hcond⟩ := nat_and hcond
      obtain ⟨hn0, hn5⟩ := nat_and hcond
      have h00 : h.1 = 0 := Nat.eq_of_beq_eq_true h0
      have hneg : ¬ n1 < 0 := of_decide_eq_true hn0
      have hle : n1.toNatClampNeg ≤ 5000 := Nat.le_of_ble_eq_true hn5
      have w1 := hwt (.arrayClass (newarray.typeOf ty)) (by simp [rwd])
      obtain ⟨t, h1, h2, h3⟩ := hC
      have hlen : h.2.length = t.length + 1 := by rw [h1]; rfl
      have hsl' : slots + z0 = 6 * h.1 + (h.2.map osz).sum := hsl
      have key : ∀ (o : AO) (cA : ClassId) (fty : FieldType), (cA, fty) = (cI, .int) → newarray.typeOf ty = fty → osz o = n1.toNatClampNeg →
          (∀ H1 : Heap, H1[ba + t.length]? = some (arrV cA n1.toNatClampNeg (fun _ => defaultValue fty)) → va_at (dC, dI) vwCl (ba + t.length, ent cI cJ bs ba o) H1) → s.vm.findClass ("[" ++ fty.toString) = some cA → n1.toNatClampNeg * componentBytes fty ≤ 536870912 →
          c' = (pc + 2, L, .ref h.2.length :: S', (h.1, h.2 ++ [o])) → W p l e R s m args below meth c H locs cells slots Q (F0 m pc ls (.int n1 :: S'.map (vmp bs ba))) := by
        intro o cA fty hcA hfty hosz hat hnmA hby hc'
        subst hc'
        subst hfty
        simp only [cnt, List.length_append, List.length_singleton] at hc hcc
        have hsz : ((h.2 ++ [o]).map osz).sum = (h.2.map osz).sum + n1.toNatClampNeg := by
          rw [List.map_append, List.sum_append]
          simp [hosz]
        have hz' : 6 * h.1 + ((h.2.map osz).sum + n1.toNatClampNeg) ≤ R.slots + z0 := by rw [← hsz]; exact hz
        intro T0 hT0 X0
        have hq := X0.heapSize
        rw [hT0] at hq
        have hq2 := hex0 h00
        have hH : H.size = ba + t.length := by omega
        refine va_newaK hx hb w1 (g := F0 m pc ls (.int n1 :: S'.map (vmp bs ba))) rfl hd rfl hneg rfl hby (by omega) (by omega) hH (fun H1 cB e1 z1 o1 hAr hNm => ?_) T0 hT0 X0
        have hcB : cB = cA := Option.some.inj (hNm.symm.trans hnmA)
        subst hcB
        have hk9 : ∀ (k : Nat) (x : Nat × va_E), (wsF cI cJ bs ba ba t)[k]? = some x → H1[x.1]? = H[x.1]? := fun k x hx => o1 x.1 (by rw [← hH]; exact (h2 k x hx).lt)
        have hP1 : va_P (dC, dI) vwCl (wsF cI cJ bs ba ba (t ++ [o])) H1 := by
          rw [wsF_app]
          refine (h2.kept hk9).app (fun k x hx => ?_)
          have hz : k < 1 := (List.getElem?_eq_some_iff.mp hx).1
          rw [show k = 0 by omega] at hx
          cases hx
          exact hat H1 e1
        have hsn : SndS dC dI cI cJ bs ba Ls xs s M.2.2.1 n0 z0 (h.1, h.2 ++ [o]) L H1 locs (cells + 1) (slots + n1.toNatClampNeg) ls := by
          refine ⟨CorH.of (t := t ++ [o]) (by rw [h1]; rfl) hP1 (by omega), ⟨by have := hS.1; omega, fun q h5 h6 => (o1 q (by have := hS.1; omega)).trans (hS.2.1 q h5 h6), hS.2.2⟩, hL, ?_, ?_, ?_⟩
          · simp only [cnt, List.length_append, List.length_singleton]; omega
          · show slots + n1.toNatClampNeg + z0 = 6 * h.1 + ((h.2 ++ [o]).map osz).sum
            rw [hsz]; omega
          · intro _
            simp only [List.length_append, List.length_singleton]; omega
        have hk := kk H1 locs (cells + 1) (slots + n1.toNatClampNeg) ls hsn
        show W p l e R s m args below meth c H1 locs (cells + 1) (slots + n1.toNatClampNeg) Q (F0 m (pc + 2) ls (.ref (ba + t.length) :: S'.map (vmp bs ba)))
        have he : (vmp bs ba (.ref h.2.length)) = .ref (ba + t.length) := by rw [hlen]; rfl
        rw [← he]
        exact hk
      have kI := hK.2 0 (cI, .int) rfl
      cases ty <;> first | (cases hs; done) | skip
      · cases hs
        exact key (.inl (n1.toNatClampNeg, .inl fun _ => 0)) cI .int rfl rfl rfl (fun H1 e1 => e1) kI.2 (by show n1.toNatClampNeg * 4 ≤ _; omega) rfl
    · cases hs
  · cases hs
/-- ONE STEP -/
theorem wstep {r : Rw} {c' : Cf} (F : SndC dC dI cI cJ bs ba Ls xs sa dd p R s m args meth c M) (hr9 : rok M pc r = true) (hw : ∀ w ∈ rwd M r, w ∈ TG) (hs : stp pc r L S h = some c') (X : SndS dC dI cI cJ bs ba Ls xs s M.2.2.1 n0 z0 h L H locs cells slots ls)
    (hc : cnt c'.2.2.2 ≤ R.cells + n0) (hz : slt c'.2.2.2 ≤ R.slots + z0)
    (kk : ∀ H' locs' cells' slots' ls', SndS dC dI cI cJ bs ba Ls xs s M.2.2.1 n0 z0 c'.2.2.2 c'.2.1 H' locs' cells' slots' ls' → W p l e R s m args below meth c H' locs' cells' slots' Q (F0 m c'.1 ls' (c'.2.2.1.map (vmp bs ba)))) :
    W p l e R s m args below meth c H locs cells slots Q (F0 m pc ls (S.map (vmp bs ba))) := by
  obtain ⟨hx, hb, hml, hret, hown, hlk, hnm, hex, hts, hE, hfr, hlo⟩ := F
  have hE' := hE
  obtain ⟨hK, hX, hbs, hba, -⟩ := hE'
  have X' := X
  obtain ⟨hC, hS, hL, hcc, hsl, hex0⟩ := X'
  obtain ⟨i, n, x1, x2, x3⟩ := r
  unfold rok at hr9
  obtain ⟨hd0, hr⟩ := nat_and hr9
  clear hr9
  have hd : decode M.2.1 pc = .ok (i, ilen i n) := of_decide_eq_true hd0
  have hwt : ∀ w ∈ rwd M (i, n, x1, x2, x3), w.before args s = true := fun w hh => hts w (hw w hh)
  have hLl : L.length = M.2.2.1 := hL.1
  cases i
  case aload_n k =>
    obtain ⟨x, e1, rfl⟩ := lda_inv hs
    exact lv_aload_n hx hb hd rfl (hL.get e1 noJ_r) (kk _ _ _ _ _ X)
  case aload k =>
    obtain ⟨x, e1, rfl⟩ := lda_inv hs
    exact lv_aload hx hb hd (hL.get e1 noJ_r) (kk _ _ _ _ _ X)
  case iload_n k =>
    obtain ⟨x, e1, rfl⟩ := ldi_inv hs
    exact lv_iload_n hx hb hd rfl (hL.get e1 noJ_i) (kk _ _ _ _ _ X)
  case iload k =>
    obtain ⟨x, e1, rfl⟩ := ldi_inv hs
    exact lv_iload hx hb hd (hL.get e1 noJ_i) (kk _ _ _ _ _ X)
  case istore_n k =>
    obtain ⟨x, S', rfl, hk, rfl⟩ := sti_inv hs
    exact lv_istore_n hx hb hd rfl hL.2.1 (hLl ▸ hk) rfl (fun ls' hl' => kk _ _ _ _ _ (X.put rfl hl'))
  case istore k =>
    obtain ⟨x, S', rfl, hk, rfl⟩ := sti_inv hs
    exact lv_istore hx hb hd hL.2.1 (hLl ▸ hk) rfl (fun ls' hl' => kk _ _ _ _ _ (X.put rfl hl'))
  case astore_n k =>
    obtain ⟨x, S', rfl, hk, rfl⟩ := sta_inv hs
    exact lv_astore_n hx hb hd rfl hL.2.1 (hLl ▸ hk) rfl (fun ls' hl' => kk _ _ _ _ _ (X.put rfl hl'))
  case astore k =>
    obtain ⟨x, S', rfl, hk, rfl⟩ := sta_inv hs
    exact lv_astore hx hb hd hL.2.1 (hLl ▸ hk) rfl (fun ls' hl' => kk _ _ _ _ _ (X.put rfl hl'))
  case iconst k =>
    cases hs
    exact lv_iconst hx hb hd rfl (kk _ _ _ _ _ X)
  case bipush k =>
    cases hs
    exact lv_bipush hx hb hd rfl (kk _ _ _ _ _ X)
  case sipush k =>
    cases hs
    exact lv_sipush hx hb hd rfl (kk _ _ _ _ _ X)
  case lconst k =>
    cases hs
    exact lv_lconst hx hb hd rfl (kk _ _ _ _ _ X)
  case ldc idx =>
    cases x1 with
    | zero => cases hs
    | succ j =>
      cases hs
      exact lv_ldc hx hb hown (hwt _ (by simp [rwd])) hd (kk _ _ _ _ _ X)
  case ldc_w idx =>
    cases x1 with
    | zero => cases hs
    | succ j =>
      cases hs
      exact lv_ldcw hx hb hown (hwt _ (by simp [rwd])) hd (kk _ _ _ _ _ X)
  case iinc k n1 =>
    simp only [stp] at hs
    split at hs
    · rename_i x e1
      cases hs
      obtain ⟨q, hq⟩ := List.getElem?_of_mem ((prsF_mem bs ba L 0 k (.int x)).mpr ⟨k, .int x, e1, noJ_i, by omega, rfl⟩)
      exact lv_iinc hx hb hd hL.2.1 hq rfl (hLl ▸ (List.getElem?_eq_some_iff.mp e1).1) rfl (fun ls' hl' => kk _ _ _ _ _ (X.put rfl hl'))
    · cases hs
  case iadd =>
    obtain ⟨x, y, S', rfl, rfl⟩ := bin_inv hs
    exact lv_iadd hx hb hd (kk _ _ _ _ _ X)
  case isub =>
    obtain ⟨x, y, S', rfl, rfl⟩ := bin_inv hs
    exact lv_isub hx hb hd (kk _ _ _ _ _ X)
  case imul =>
    obtain ⟨x, y, S', rfl, rfl⟩ := bin_inv hs
    exact lv_imul hx hb hd (kk _ _ _ _ _ X)
  case iand =>
    obtain ⟨x, y, S', rfl, rfl⟩ := bin_inv hs
    exact lv_iand hx hb hd (kk _ _ _ _ _ X)
  case ior =>
    obtain ⟨x, y, S', rfl, rfl⟩ := bin_inv hs
    exact lv_ior hx hb hd (kk _ _ _ _ _ X)
  case ixor =>
    obtain ⟨x, y, S', rfl, rfl⟩ := bin_inv hs
    exact lv_ixor hx hb hd (kk _ _ _ _ _ X)
  case ishl =>
    obtain ⟨x, y, S', rfl, rfl⟩ := bin_inv hs
    exact lv_ishl hx hb hd (kk _ _ _ _ _ X)
  case ishr =>
    obtain ⟨x, y, S', rfl, rfl⟩ := bin_inv hs
    exact lv_ishr hx hb hd (kk _ _ _ _ _ X)
  case iushr =>
    obtain ⟨x, y, S', rfl, rfl⟩ := bin_inv hs
    exact lv_iushr hx hb hd rfl (kk _ _ _ _ _ X)
  case idiv =>
    simp only [stp] at hs
    split at hs
    · rename_i y x S'
      cases hy : decide (y = 0) with
      | true => rw [hy] at hs; cases hs
      | false =>
        rw [hy] at hs
        cases hs
        exact lv_idiv hx hb hd (of_decide_eq_false hy) (kk _ _ _ _ _ X)
    · cases hs
  case irem =>
    simp only [stp] at hs
    split at hs
    · rename_i y x S'
      cases hy : decide (y = 0) with
      | true => rw [hy] at hs; cases hs
      | false =>
        rw [hy] at hs
        cases hs
        exact lv_irem hx hb hd (of_decide_eq_false hy) (kk _ _ _ _ _ X)
    · cases hs
  case i2l =>
    simp only [stp] at hs
    split at hs
    · cases hs
      exact lv_i2l hx hb hd rfl (kk _ _ _ _ _ X)
    · cases hs
  case lcmp =>
    simp only [stp] at hs
    split at hs
    · cases hs
      exact W.lcmp hx hb hd (kk _ _ _ _ _ X)
    · cases hs
  case dup =>
    simp only [stp] at hs
    split at hs
    · cases hs
      exact lv_dup hx hb hd rfl (kk _ _ _ _ _ X)
    · cases hs
      exact lv_dup hx hb hd rfl (kk _ _ _ _ _ X)
    · cases hs
  case pop =>
    simp only [stp] at hs
    split at hs
    · cases hs
      exact lv_pop hx hb hd rfl (kk _ _ _ _ _ X)
    · cases hs
      exact lv_pop hx hb hd rfl (kk _ _ _ _ _ X)
    · cases hs
  case goto off =>
    cases hs
    exact lv_goto hx hb hd (of_decide_eq_true hr) (kk _ _ _ _ _ X)
  case ifCond cd off =>
    simp only [stp] at hs
    split at hs
    · rename_i x S'
      cases hs
      have ht : (pc : Int) + off = (x1 : Int) := of_decide_eq_true hr
      have kT : cmpI cd x 0 = true → W p l e R s m args below meth c H locs cells slots Q (F0 m x1 ls (S'.map (vmp bs ba))) := fun hh => by
        have := kk _ _ _ _ _ X
        dsimp only at this
        rw [hh] at this
        exact this
      have kF : cmpI cd x 0 = false → W p l e R s m args below meth c H locs cells slots Q (F0 m (pc + 3) ls (S'.map (vmp bs ba))) := fun hh => by
        have := kk _ _ _ _ _ X
        dsimp only at this
        rw [hh] at this
        exact this
      cases cd
      · exact lv_if_eq hx hb hd ht (fun hh => kT (decide_eq_true hh)) (fun hh => kF (decide_eq_false hh))
      · exact lv_if_ne hx hb hd ht (fun hh => kT (decide_eq_true hh)) (fun hh => kF (decide_eq_false (fun q => q hh)))
      · exact lv_if_lt hx hb hd ht (fun hh => kT (decide_eq_true hh)) (fun hh => kF (decide_eq_false hh))
      · exact lv_if_ge hx hb hd ht (fun hh => kT (decide_eq_true hh)) (fun hh => kF (decide_eq_false hh))
      · exact lv_if_gt hx hb hd ht (fun hh => kT (decide_eq_true hh)) (fun hh => kF (decide_eq_false hh))
      · exact lv_if_le hx hb hd ht (fun hh => kT (decide_eq_true hh)) (fun hh => kF (decide_eq_false hh))
    · cases hs
  case if_icmp cd off =>
    simp only [stp] at hs
    split at hs
    · rename_i y x S'
      cases hs
      have ht : (pc : Int) + off = (x1 : Int) := of_decide_eq_true hr
      have kT : cmpI cd x y = true → W p l e R s m args below meth c H locs cells slots Q (F0 m x1 ls (S'.map (vmp bs ba))) := fun hh => by
        have := kk _ _ _ _ _ X
        dsimp only at this
        rw [hh] at this
        exact this
      have kF : cmpI cd x y = false → W p l e R s m args below meth c H locs cells slots Q (F0 m (pc + 3) ls (S'.map (vmp bs ba))) := fun hh => by
        have := kk _ _ _ _ _ X
        dsimp only at this
        rw [hh] at this
        exact this
      cases cd
      · exact lv_icmp_eq hx hb hd ht (fun hh => kT (decide_eq_true hh)) (fun hh => kF (decide_eq_false hh))
      · exact lv_icmp_ne hx hb hd ht (fun hh => kT (decide_eq_true hh)) (fun hh => kF (decide_eq_false (fun q => q hh)))
      · exact lv_icmp_lt hx hb hd ht (fun hh => kT (decide_eq_true hh)) (fun hh => kF (decide_eq_false hh))
      · exact lv_icmp_ge hx hb hd ht (fun hh => kT (decide_eq_true hh)) (fun hh => kF (decide_eq_false hh))
      · exact lv_icmp_gt hx hb hd ht (fun hh => kT (decide_eq_true hh)) (fun hh => kF (decide_eq_false hh))
      · exact lv_icmp_le hx hb hd ht (fun hh => kT (decide_eq_true hh)) (fun hh => kF (decide_eq_false hh))
    · cases hs
  case getfield idx =>
    simp only [stp] at hs
    split at hs
    · rename_i a S'
      split at hs
      · rename_i ci fs ha
        split at hs
        · rename_i hci
          cases hv : fs[x2]? with
          | none => rw [hv] at hs; cases hs
          | some v =>
            rw [hv] at hs
            cases hs
            have hci' : ci = x1 := Nat.eq_of_beq_eq_true hci
            subst hci'
            obtain ⟨hr1, hr2⟩ := nat_and hr
            obtain ⟨C, T, N, hcl, hin, -⟩ := cls_ok ci (Nat.blt_eq.mp hr1)
            have hTe : fT ci x2 = T x2 := by simp [fT, hcl]
            have hNe : fN ci = N := by simp [fN, hcl]
            have hk : x2 < N := by rw [← hNe]; exact Nat.blt_eq.mp hr2
            have hlink := hwt (.fieldLink M.2.2.2.2.2.1 idx (fT ci x2).1 (fT ci x2).2.1 (fT ci x2).2.2.1) (by simp [rwd])
            rw [hTe] at hlink
            rcases hC.at ha with ⟨-, ho⟩ | ⟨t, j, rfl, h1, h2, hP, h3⟩
            · cases ho
            · exact va_get (D := (dC, dI)) hx hb hts hin hown hK hP j h3 hcl x2 hk hlink (fun _ h9 => h9) (by simp [hv]) hd (kk _ _ _ _ _ X)
        · cases hs
      · cases hs
    · cases hs
  case putfield idx =>
    simp only [stp] at hs
    split at hs
    · rename_i v a S'
      split at hs
      · rename_i ci fs ha
        split at hs
        · rename_i hci
          cases hs
          obtain ⟨hci, hfv⟩ := nat_and hci
          obtain ⟨hfl, hov⟩ := nat_and hfv
          have hci' : ci = x1 := Nat.eq_of_beq_eq_true hci
          subst hci'
          obtain ⟨hr0, hrt⟩ := nat_and hr
          obtain ⟨hr0, hrf⟩ := nat_and hr0
          obtain ⟨hr1, hr2⟩ := nat_and hr0
          obtain ⟨C, T, N, hcl, hin, hty, hnmm, -⟩ := cls_ok ci (Nat.blt_eq.mp hr1)
          have hTe : fT ci x2 = T x2 := by simp [fT, hcl]
          have hNe : fN ci = N := by simp [fN, hcl]
          have hk : x2 < N := by rw [← hNe]; exact Nat.blt_eq.mp hr2
          have hlink := hwt (.fieldLink M.2.2.2.2.2.1 idx (fT ci x2).1 (fT ci x2).2.1 (fT ci x2).2.2.1) (by simp [rwd])
          rw [hTe] at hlink
          have hll : x2 < fs.length := Nat.blt_eq.mp hfl
          have hnf : narrow (tyT ci x2) (vmp bs ba v) = vmp bs ba v ∧ fits (tyT ci x2) (vmp bs ba v) = true := by
            dsimp only at hrt
            cases v with
            | int w =>
              have h7 : (x3 / 2 == 1) = true := hov
              cases ht : tyT ci x2 <;> rw [ht] at hrt <;> first | exact ⟨rfl, rfl⟩ | (exfalso; have h8 : (x3 / 2 == 0) = true := hrt; simp only [beq_iff_eq] at h7 h8; omega) | cases hrt
            | ref w =>
              have h7 : (x3 / 2 == 0) = true := hov
              cases ht : tyT ci x2 <;> rw [ht] at hrt <;> first | exact ⟨rfl, rfl⟩ | (exfalso; have h8 : (x3 / 2 == 1) = true := hrt; simp only [beq_iff_eq] at h7 h8; omega) | cases hrt
            | _ => cases hov
          rcases hC.at ha with ⟨-, ho⟩ | ⟨t, j, rfl, h1, h2, hP, h3⟩
          · cases ho
          · have hfin : ∀ (H1 : Heap) (locs1 : List Loc), va_P (dC, dI) vwCl ((wsF cI cJ bs ba ba t).set j (ba + j, .inr (ci, (fs.map (vmp bs ba)).set x2 (vmp bs ba v)))) H1 → va_D (fun q => ba ≤ q) ((wsF cI cJ bs ba ba t).set j (ba + j, .inr (ci, (fs.map (vmp bs ba)).set x2 (vmp bs ba v)))) → va_S (fun q => ba ≤ q) s.heap H1 locs1 → W p l e R s m args below meth c H1 locs1 cells slots Q (F0 m (pc + 3) ls (S'.map (vmp bs ba))) := by
              intro H1 locs1 hP1 _ hS1
              refine kk _ _ _ _ _ (X.set hba h1 h2 (by simp [osz]) ?_ hS1)
              show va_P (dC, dI) vwCl ((wsF cI cJ bs ba ba t).set j (ba + j, .inr (ci, (fs.set x2 v).map (vmp bs ba)))) H1
              rw [List.map_set]
              exact hP1
            cases hff : (T x2).2.2.2 with
            | false => exact va_put (D := (dC, dI)) hx hb hts hin (tyT ci) hty hnmm hown hK hP (wsF_D cI cJ bs ba t) hS j h3 hcl x2 hk hlink (fun _ h9 => h9) hff (hty x2 hk) hnf.1 hnf.2 (by simpa using hll) hd hfin
            | true =>
              dsimp only at hrf
              rw [hTe, hff] at hrf
              obtain ⟨hr7, hr8⟩ := nat_and hrf
              exact va_putF (D := (dC, dI)) hx hb hts hin (tyT ci) hty hnmm hown hK hP (wsF_D cI cJ bs ba t) hS j h3 hcl x2 hk hlink (fun _ h9 => h9) hff (hnm.trans (of_decide_eq_true hr7)) (of_decide_eq_true hr8) (hty x2 hk) hnf.1 hnf.2 (by simpa using hll) hd hfin
        · cases hs
      · cases hs
    · cases hs
  case arraylength =>
    simp only [stp] at hs
    split at hs
    · rename_i a S'
      split at hs
      · rename_i n1 f1 ha
        cases hs
        rcases hC.at ha with ⟨rfl, ho⟩ | ⟨t, j, rfl, h1, h2, hP, h3⟩
        · cases ho
          exact va_slen hx hb hX (show bs < s.heap.size by omega) (show ¬ ba ≤ bs by omega) hS hd (kk _ _ _ _ _ X)
        · exact va_alen (D := (dC, dI)) hx hb hK hP j 0 h3 rfl rfl hd (kk _ _ _ _ _ X)
      · cases hs
    · cases hs
  case iaload =>
    simp only [stp] at hs
    split at hs
    · rename_i i1 a S'
      split at hs
      · rename_i n1 f1 ha
        split at hs
        · rename_i hin
          cases hs
          have hin' : vp_in i1 n1 := inb_in hin
          rcases hC.at ha with ⟨rfl, ho⟩ | ⟨t, j, rfl, h1, h2, hP, h3⟩
          · cases ho
            exact va_sld hx hb hX (show bs < s.heap.size by omega) (show ¬ ba ≤ bs by omega) hS hin' hd (kk _ _ _ _ _ X)
          · exact va_iald (D := (dC, dI)) hx hb hK hP j 0 h3 rfl hin' hd (kk _ _ _ _ _ X)
        · cases hs
      · cases hs
    · cases hs
  case iastore =>
    simp only [stp] at hs
    split at hs
    · rename_i x i1 a S'
      split at hs
      · rename_i n1 f1 ha
        split at hs
        · rename_i hin
          cases hs
          have hin' : vp_in i1 n1 := inb_in hin
          rcases hC.at ha with ⟨ho, -⟩ | ⟨t, j, hj, h1, h2, hP, h3⟩
          · cases ho
          · cases hj
            exact va_iast (D := (dC, dI)) hx hb hK hP (wsF_D cI cJ bs ba t) hS a 0 h3 rfl hin' hd (fun H1 locs1 hP1 _ hS1 => kk _ _ _ _ _ (X.set hba h1 h2 rfl hP1 hS1))
        · cases hs
      · cases hs
    · cases hs
  case new idx => exact wnew (x1 := x1) (x2 := x2) (x3 := x3) (n := n) hx hb hown hts hE hd hwt hs X hc hz kk
  case newarray ty => exact wnewa (x1 := x1) (x2 := x2) (x3 := x3) (n := n) hx hb hown hts hE hd hwt hs X hc hz kk
  case invokespecial idx =>
    simp only [stp] at hs
    split at hs
    · rename_i h9
      split at hs
      · rename_i a S'
        split at hs
        rotate_left
        · cases hs
        rename_i h88
        cases hs
        have h99 : x1 = 9999 := Nat.eq_of_beq_eq_true h9
        subst h99
        have h888 := Nat.le_of_ble_eq_true h88
        have h77 := cat_sum bs ba S'
        exact W.objInit hx hb hown (hwt _ (by simp [rwd])) (hwt _ (by simp [rwd])) (hwt _ (by simp [rwd])) rfl (by rw [hml]; exact hL.2.1.1) rfl hd (by omega) (by show 2 * 0 + _ + 12 ≤ _; omega) (kk _ _ _ _ _ X)
      · cases hs
    · cases hs
  case invokestatic idx =>
    simp only [stp] at hs
    have hsum : ∀ S' : List Value, S'.length ≤ 8 → ((S'.map (vmp bs ba)).map fun v => v.category).sum + 13 ≤ R.locals := by
      intro S' h8
      have := cat_sum bs ba S'
      omega
    split at hs
    · rename_i y x S'
      split at hs
      · rename_i h8
        cases hs
        have hc0 : cells ≤ R.cells := by
          have : cnt h ≤ R.cells + n0 := hc
          omega
        have hz0 : slots ≤ R.slots := by
          have : slt h ≤ R.slots + z0 := hz
          omega
        exact va_mmax hx hb (hml.trans hL.2.1.1.symm) hown (hwt _ (by simp [rwd])) (hwt _ (by simp [rwd])) (hwt _ (by simp [rwd])) (hwt _ (by simp [rwd])) (by omega) (hsum S' (Nat.le_of_ble_eq_true h8)) hc0 hz0 hd (kk _ _ _ _ _ X)
      · cases hs
    · rename_i y x S'
      split at hs
      · rename_i h8
        cases hs
        have hc0 : cells ≤ R.cells := by
          have : cnt h ≤ R.cells + n0 := hc
          omega
        have hz0 : slots ≤ R.slots := by
          have : slt h ≤ R.slots + z0 := hz
          omega
        exact va_mmin hx hb (hml.trans hL.2.1.1.symm) hown (hwt _ (by simp [rwd])) (hwt _ (by simp [rwd])) (hwt _ (by simp [rwd])) (hwt _ (by simp [rwd])) (by omega) (hsum S' (Nat.le_of_ble_eq_true h8)) hc0 hz0 hd (kk _ _ _ _ _ X)
      · cases hs
    · cases hs
  case tableswitch d lo hi offs =>
    obtain ⟨hr1, hr2⟩ := nat_and hr
    simp only [stp] at hs
    split at hs
    · rename_i x S'
      split at hs
      · rename_i hcond
        cases hs
        exact lv_tableOut hx hb hd (of_decide_eq_true hcond) (Int.toNat_of_nonneg (of_decide_eq_true hr1)).symm (kk _ _ _ _ _ X)
      · rename_i hcond
        have hno := of_decide_eq_false hcond
        split at hs
        · rename_i off ho
          cases hs
          have hoff : 0 ≤ (pc : Int) + off := by
            obtain ⟨hlt, he⟩ := Array.getElem?_eq_some_iff.mp ho
            have := Array.all_eq_true.mp hr2 _ hlt
            rw [he] at this
            exact of_decide_eq_true this
          exact lv_tableIn hx hb hd (fun q => hno (Or.inl q)) (fun q => hno (Or.inr q)) ho (Int.toNat_of_nonneg hoff).symm (kk _ _ _ _ _ X)
        · cases hs
    · cases hs
  all_goals cases hs
end
end
end
section
/-! SOUNDNESS: calls, returns, throws. -/
section
theorem lkp_mem : ∀ {l : List (Nat × Rw)} {pc : Nat} {r : Rw}, lkp l pc = some r → (pc, r) ∈ l
  | [], _, _, h => by cases h
  | q :: l, pc, r, h => by
    unfold lkp at h
    cases hb : Nat.beq q.1 pc with
    | true =>
      rw [hb] at h
      have e1 := Nat.eq_of_beq_eq_true hb
      have e2 : q.2 = r := Option.some.inj h
      have : q = (pc, r) := by rw [← e1, ← e2]
      rw [this]; exact List.mem_cons_self
    | false =>
      rw [hb] at h
      exact List.mem_cons_of_mem _ (lkp_mem h)
theorem rAtM_mem {M : Mt} {pc : Nat} {r : Rw} (h : rAtM M pc = some r) : ∃ l ∈ M.2.2.2.2.2.2, (pc, r) ∈ l := by
  unfold rAtM at h
  split at h
  · rename_i l hl
    exact ⟨l, List.mem_of_getElem? hl, lkp_mem h⟩
  · cases h
theorem mAt_mem {k : Nat} {M : Mt} (h : mAt k = some M) : ∃ g ∈ mtabs, M ∈ g := by
  unfold mAt at h
  split at h
  · rename_i g hg
    exact ⟨g, List.mem_of_getElem? hg, List.mem_of_getElem? h⟩
  · cases h
def Tab : Prop := ∀ g ∈ mtabs, ∀ M ∈ g, mok M = true ∧ GoodIn lw_tbl (mwd M)
theorem good_word {w : Jvm.Cond} (h : (w.onTables && w.keeps) = true ∨ ∃ ty, w = .arrayClass ty) : goodWord w = true := by
  rcases h with h | ⟨ty, rfl⟩
  · unfold goodWord
    split
    · rfl
    · exact h
  · rfl
theorem row_ok (hT : Tab) {k : Nat} {M : Mt} {pc : Nat} {r : Rw} (hM : mAt k = some M) (hr : rAtM M pc = some r) : rok M pc r = true ∧ ∀ w ∈ rwd M r, w ∈ TG := by
  obtain ⟨g, hg, hMg⟩ := mAt_mem hM
  obtain ⟨h1, h2⟩ := hT g hg M hMg
  obtain ⟨l, hl, hq⟩ := rAtM_mem hr
  refine ⟨?_, fun w hw => ?_⟩
  · unfold mok at h1
    have h3 := (nat_and h1).1
    rw [List.all_eq_true] at h3
    have h4 := h3 l hl
    rw [List.all_eq_true] at h4
    have h5 : rok M (pc, r).1 (pc, r).2 = true := h4 (pc, r) hq
    clear h1 h2 h3 h4
    exact h5
  · have hm : w ∈ mwd M := List.mem_append_left _ (List.mem_flatMap.mpr ⟨l, hl, List.mem_flatMap.mpr ⟨_, hq, hw⟩⟩)
    obtain ⟨a1, a2⟩ := h2 w hm
    exact List.mem_filter.mpr ⟨a1, good_word a2⟩
theorem hnd_words (hT : Tab) {k : Nat} {M : Mt} (hM : mAt k = some M) : ∀ q ∈ M.2.2.2.2.1, (q.2.2.2 = 13 ∨ q.2.2.2 = 18 ∨ q.2.2.2 = 24) ∧ ∀ w ∈ hwd q M.2.2.2.2.2.1, w ∈ TG := by
  obtain ⟨g, hg, hMg⟩ := mAt_mem hM
  obtain ⟨h1, h2⟩ := hT g hg M hMg
  intro q hq
  refine ⟨?_, fun w hw => ?_⟩
  · unfold mok at h1
    have := List.all_eq_true.mp (nat_and h1).2 q hq
    simp only [Bool.or_eq_true] at this
    rcases this with (h | h) | h
    · exact Or.inl (Nat.eq_of_beq_eq_true h)
    · exact Or.inr (Or.inl (Nat.eq_of_beq_eq_true h))
    · exact Or.inr (Or.inr (Nat.eq_of_beq_eq_true h))
  · have hm : w ∈ mwd M := List.mem_append_right _ (List.mem_flatMap.mpr ⟨q, hq, hw⟩)
    obtain ⟨a1, a2⟩ := h2 w hm
    exact List.mem_filter.mpr ⟨a1, good_word a2⟩
theorem TG_at {w : Jvm.Cond} (h : w ∈ TG) : (w.onTables && w.keeps) = true ∨ ∃ ty, w = .arrayClass ty := good_of_word (List.mem_filter.mp h).2
/-! what a step does to the counts -/
theorem slt_set {h : AH} {a : Nat} {o o1 : AO} (ha : h.2[a]? = some o) (hz : osz o = osz o1) : slt (h.1, h.2.set a o1) = slt h := by
  have hm : (h.2.set a o1).map osz = h.2.map osz := by
    rw [List.map_set, ← hz]
    apply List.ext_getElem?
    intro k
    rw [List.getElem?_set]
    by_cases hk : a = k
    · subst hk
      obtain ⟨hlt, e9⟩ := List.getElem?_eq_some_iff.mp ha
      simp [hlt, e9]
    · simp [hk]
  simp only [slt, hm]
def mono (h h' : AH) : Prop := h.1 ≤ h'.1 ∧ cnt h ≤ cnt h' ∧ slt h ≤ slt h'
theorem mono.rf {h : AH} : mono h h := ⟨Nat.le_refl _, Nat.le_refl _, Nat.le_refl _⟩
theorem mono.trans {a b c : AH} (h1 : mono a b) (h2 : mono b c) : mono a c := ⟨Nat.le_trans h1.1 h2.1, Nat.le_trans h1.2.1 h2.2.1, Nat.le_trans h1.2.2 h2.2.2⟩
theorem mono.set {h : AH} {a : Nat} {o o1 : AO} (ha : h.2[a]? = some o) (hz : osz o = osz o1) : mono h (h.1, h.2.set a o1) := ⟨Nat.le_refl _, by simp [cnt], by rw [slt_set ha hz]; exact Nat.le_refl _⟩
theorem mono.app {h : AH} {o : AO} : mono h (h.1, h.2 ++ [o]) := ⟨Nat.le_refl _, by simp [cnt], by simp [slt, List.sum_append]⟩
theorem stp_mono {pc : Nat} {r : Rw} {L S : List Value} {h : AH} {c' : Cf} (hs : stp pc r L S h = some c') : mono h c'.2.2.2 := by
  obtain ⟨i, n, x1, x2, x3⟩ := r
  cases i
  case aload_n k => obtain ⟨x, e1, rfl⟩ := lda_inv hs; exact mono.rf
  case aload k => obtain ⟨x, e1, rfl⟩ := lda_inv hs; exact mono.rf
  case iload_n k => obtain ⟨x, e1, rfl⟩ := ldi_inv hs; exact mono.rf
  case iload k => obtain ⟨x, e1, rfl⟩ := ldi_inv hs; exact mono.rf
  case istore_n k => obtain ⟨x, S', rfl, hk, rfl⟩ := sti_inv hs; exact mono.rf
  case istore k => obtain ⟨x, S', rfl, hk, rfl⟩ := sti_inv hs; exact mono.rf
  case astore_n k => obtain ⟨x, S', rfl, hk, rfl⟩ := sta_inv hs; exact mono.rf
  case astore k => obtain ⟨x, S', rfl, hk, rfl⟩ := sta_inv hs; exact mono.rf
  case iadd => obtain ⟨x, y, S', rfl, rfl⟩ := bin_inv hs; exact mono.rf
  case isub => obtain ⟨x, y, S', rfl, rfl⟩ := bin_inv hs; exact mono.rf
  case imul => obtain ⟨x, y, S', rfl, rfl⟩ := bin_inv hs; exact mono.rf
  case iand => obtain ⟨x, y, S', rfl, rfl⟩ := bin_inv hs; exact mono.rf
  case ior => obtain ⟨x, y, S', rfl, rfl⟩ := bin_inv hs; exact mono.rf
  case ixor => obtain ⟨x, y, S', rfl, rfl⟩ := bin_inv hs; exact mono.rf
  case ishl => obtain ⟨x, y, S', rfl, rfl⟩ := bin_inv hs; exact mono.rf
  case ishr => obtain ⟨x, y, S', rfl, rfl⟩ := bin_inv hs; exact mono.rf
  case iushr => obtain ⟨x, y, S', rfl, rfl⟩ := bin_inv hs; exact mono.rf
  case iconst k => cases hs; exact mono.rf
  case bipush k => cases hs; exact mono.rf
  case sipush k => cases hs; exact mono.rf
  case lconst k => cases hs; exact mono.rf
  case goto k => cases hs; exact mono.rf
  case ldc k => cases x1 <;> cases hs; exact mono.rf
  case ldc_w k => cases x1 <;> cases hs; exact mono.rf
  case idiv =>
    simp only [stp] at hs
    split at hs
    · rename_i y x S'
      cases hy : decide (y = 0) <;> rw [hy] at hs <;> cases hs
      exact mono.rf
    · cases hs
  case irem =>
    simp only [stp] at hs
    split at hs
    · rename_i y x S'
      cases hy : decide (y = 0) <;> rw [hy] at hs <;> cases hs
      exact mono.rf
    · cases hs
  case newarray t =>
    simp only [stp] at hs
    split at hs
    · split at hs
      · unfold nwa at hs
        split at hs <;> cases hs <;> exact mono.app
      · cases hs
    · cases hs
  case new t =>
    simp only [stp] at hs
    split at hs
    · cases hs; exact mono.app
    · cases hs
  case getfield k =>
    simp only [stp] at hs
    split at hs
    · split at hs
      · rename_i ci fs ha
        split at hs
        · cases hv : fs[x2]? <;> rw [hv] at hs <;> cases hs
          exact mono.rf
        · cases hs
      · cases hs
    · cases hs
  case putfield k =>
    simp only [stp] at hs
    split at hs
    · split at hs
      · rename_i ha
        split at hs
        · cases hs
          exact mono.set ha (by simp [osz])
        · cases hs
      · cases hs
    · cases hs
  case iastore =>
    simp only [stp] at hs
    split at hs
    · split at hs
      · rename_i ha
        split at hs
        · cases hs
          exact mono.set ha rfl
        · cases hs
      · cases hs
    · cases hs
  all_goals first
    | (cases hs; done)
    | (simp only [stp] at hs; (repeat' split at hs) <;> cases hs <;> exact mono.rf)
end
end
section
/-! SOUNDNESS: the whole. -/
section
variable (dC : Nat → ClassId) (dI : Nat → Nat → Nat) (cI cJ : ClassId) (bs ba Ls : Nat) (xs : Nat → Int32) (sa : Nat → Nat) (l : Launch)
def rAt1 (M : Mt) (pc' : Nat) (v : Option Value) : Prop := match v with
  | some (.int r) => decode M.2.1 pc' = .ok (.ireturn, 1) ∧ rtok M.2.2.2.1 r = true
  | none => decode M.2.1 pc' = .ok (.return_, 1) ∧ M.2.2.2.1 = none
  | _ => False
/-- the end Q is met by an outcome -/
def Gl (p : Program) (e : Env) (R : Room) (s : State) (m : MethodId) (args : Array Value) (below : List Frame) (meth : Method) (c : Code) (M : Mt) (n0 z0 : Nat) (o : Ou) (Q : State → Prop) : Prop := match o.1 with
  | .inl v => ∀ pc' ls' H' locs' cells' slots', rAt1 M pc' v → CorH dC dI cI cJ bs ba Ls xs o.2 H' → va_S (fun q => ba ≤ q) s.heap H' locs' → cells' + n0 = cnt o.2 → slots' + z0 = slt o.2 → W p l e R s m args below meth c H' locs' cells' slots' Q (F0 m pc' ls' v.toList)
  | .inr E => ∃ Qc XC mc ms, Q = vx_MQ below Qc XC args s mc ms (fun q => ba ≤ q) ∧ (∀ t : State, s.vm.Alike t.vm → CorH dC dI cI cJ bs ba Ls xs o.2 t.heap → va_F (fun q => ba ≤ q) s t → XC (exn E) s t) ∧ cnt o.2 ≤ mc + n0 ∧ slt o.2 ≤ ms + z0
def Snd (d k : Nat) (cf : Cf) (o : Ou) : Prop :=
  mono cf.2.2.2 o.2 ∧ (∀ E, o.1 = .inr E → E < 3) ∧
  ∀ p e R s m args below meth c M H locs cells slots ls n0 z0 Q, mAt k = some M → SndC dC dI cI cJ bs ba Ls xs sa d p R s m args meth c M → SndS dC dI cI cJ bs ba Ls xs s M.2.2.1 n0 z0 cf.2.2.2 cf.2.1 H locs cells slots ls → cnt o.2 ≤ R.cells + n0 → slt o.2 ≤ R.slots + z0 →
    Gl dC dI cI cJ bs ba Ls xs l p e R s m args below meth c M n0 z0 o Q → W p l e R s m args below meth c H locs cells slots Q (F0 m cf.1 ls (cf.2.2.1.map (vmp bs ba)))
variable {dC dI cI cJ bs ba Ls xs sa l}
theorem mono_thr {h : AH} : mono h (h.1 + 1, h.2) := ⟨Nat.le_succ _, by show h.1 + h.2.length ≤ h.1 + 1 + h.2.length; omega, by show 6 * h.1 + (h.2.map osz).sum ≤ 6 * (h.1 + 1) + (h.2.map osz).sum; omega⟩
theorem fin_ret {k : Nat} (hT : Tab) (hl : l.stackTraces = false) {d : Nat} {M : Mt} {pc : Nat} {r : Rw} {L S : List Value} {h : AH} {o : Ou} (hM : mAt k = some M) (hr : rAtM M pc = some r) (hf : fin M r S h = some o) : Snd dC dI cI cJ bs ba Ls xs sa l d k (pc, L, S, h) o := by
  obtain ⟨hok, hwd⟩ := row_ok hT hM hr
  obtain ⟨i, n, x1, x2, x3⟩ := r
  unfold rok at hok
  obtain ⟨hd0, hrk⟩ := nat_and hok
  clear hok
  have hd : decode M.2.1 pc = .ok (i, ilen i n) := of_decide_eq_true hd0
  cases i
  case ireturn =>
    simp only [fin] at hf
    split at hf
    · rename_i v
      split at hf
      · rename_i hv
        cases hf
        refine ⟨mono.rf, fun E hE => (by cases hE), ?_⟩
        intro p e R s m args below meth c M' H locs cells slots ls n0 z0 Q hM' F X hc hz hG
        cases hM.symm.trans hM'
        exact hG pc ls H locs cells slots ⟨hd, hv⟩ X.1 X.2.1 X.2.2.2.1 X.2.2.2.2.1
      · cases hf
    · cases hf
  case return_ =>
    simp only [fin] at hf
    split at hf
    · rename_i hrt
      cases hf
      refine ⟨mono.rf, fun E hE => (by cases hE), ?_⟩
      intro p e R s m args below meth c M' H locs cells slots ls n0 z0 Q hM' F X hc hz hG
      cases hM.symm.trans hM'
      exact hG pc ls H locs cells slots ⟨hd, hrt⟩ X.1 X.2.1 X.2.2.2.1 X.2.2.2.2.1
    · cases hf
  all_goals cases hf
end
end
section
/-! SOUNDNESS: a callee's contract, and its calls. -/
section
variable {dC : Nat → ClassId} {dI : Nat → Nat → Nat} {cI cJ : ClassId} {bs ba Ls : Nat} {xs : Nat → Int32} {sa : Nat → Nat} {l : Launch}
/-- what a callee begins with -/
def Prc (dC : Nat → ClassId) (dI : Nat → Nat → Nat) (cI cJ : ClassId) (bs ba Ls : Nat) (xs : Nat → Int32) (sa : Nat → Nat) (h : AH) (U : State) : Prop :=
  EnvS dC dI cI cJ bs ba Ls xs sa U ∧ CorH dC dI cI cJ bs ba Ls xs h U.heap ∧ (h.1 = 0 → U.heap.size + 1 = ba + h.2.length)
theorem entry_lcs {m0 : MethodId} {as : List Value} {nL : Nat} (hc : as.all cat1 = true) (hn : as.length ≤ nL) : ∃ ls : Array Slot, entryFrame m0 (as.map (vmp bs ba)).toArray nL = F0 m0 0 ls [] ∧ lcs bs ba (as ++ List.replicate (nL - as.length) jk) ls nL := by
  have hcat : ∀ v ∈ as.map (vmp bs ba), v.category = 1 := by
    intro v hv
    obtain ⟨u, hu, rfl⟩ := List.mem_map.mp hv
    have := List.all_eq_true.mp hc u hu
    rw [vmp_cat]
    cases u <;> first | rfl | cases this
  refine ⟨_, entry_eq m0 _ hcat nL, ?_⟩
  have hsz : ((as.map (vmp bs ba)).map Slot.val ++ List.replicate (nL - (as.map (vmp bs ba)).length) Slot.unset).length = nL := by simp; omega
  have hget : ∀ (i : Nat) (x : Slot), ((as.map (vmp bs ba)).map Slot.val ++ List.replicate (nL - (as.map (vmp bs ba)).length) Slot.unset).toArray[i]? = some x → x = .unset ∨ ∃ v, as[i]? = some v ∧ x = .val (vmp bs ba v) := by
    intro i x hx
    rw [List.getElem?_toArray, List.getElem?_append] at hx
    split at hx
    · rw [List.getElem?_map, List.getElem?_map] at hx
      cases hv : as[i]? with
      | none => rw [hv] at hx; cases hx
      | some v =>
        rw [hv] at hx
        exact Or.inr ⟨v, rfl, (Option.some.inj hx).symm⟩
    · left
      have := List.mem_of_getElem? hx
      exact (List.mem_replicate.mp this).2
  refine ⟨by simp; omega, ⟨by rw [List.size_toArray]; exact hsz, ⟨fun i v hv hcv => ?_, fun i hi => ?_⟩, fun q hq => ?_⟩, fun v hv => ?_⟩
  · rcases hget i _ hv with h | ⟨u, hu, hx⟩
    · cases h
    · have e : v = vmp bs ba u := by injection hx
      rw [hcat v (by rw [e]; exact List.mem_map_of_mem (List.mem_of_getElem? hu))] at hcv
      cases hcv
  · rcases hget i _ hi with h | ⟨u, hu, hx⟩
    · cases h
    · cases hx
  · obtain ⟨n, w⟩ := q
    obtain ⟨j, v, h1, h2, h3, h4⟩ := (prsF_mem bs ba _ 0 n w).mp hq
    have hnj : n = j := by omega
    subst hnj
    subst h4
    rw [List.getElem?_append] at h1
    split at h1
    · rename_i hlt
      show _ = some (Slot.val (vmp bs ba v))
      obtain ⟨_, e9⟩ := List.getElem?_eq_some_iff.mp h1
      rw [List.getElem?_toArray, List.getElem?_append]
      simp [hlt, e9]
    · have := List.mem_of_getElem? h1
      exact absurd (List.mem_replicate.mp this).2 (h2 0)
  · rcases List.mem_append.mp hv with h | h
    · have := List.all_eq_true.mp hc v h
      cases v <;> first | rfl | cases this
    · rw [(List.mem_replicate.mp h).2]; rfl
def rmC (d mc ms : Nat) : Room := { frames := d + 2, cells := mc, slots := ms, locals := 39 * d + 33 }
def QcI (dC : Nat → ClassId) (dI : Nat → Nat → Nat) (cI cJ : ClassId) (bs ba Ls : Nat) (xs : Nat → Int32) (o : Ou) (r : Int32) : Array Value → State → Outcome → State → Prop :=
  va_Qi (fun r' (_ : Unit) => o.1 = .inl (some (.int r)) ∧ r' = r) (fun _ t => CorH dC dI cI cJ bs ba Ls xs o.2 t.heap) (fun q => ba ≤ q)
def QcV (dC : Nat → ClassId) (dI : Nat → Nat → Nat) (cI cJ : ClassId) (bs ba Ls : Nat) (xs : Nat → Int32) (o : Ou) : Array Value → State → Outcome → State → Prop :=
  va_Qv (fun (_ : Unit) => o.1 = .inl none) (fun _ t => CorH dC dI cI cJ bs ba Ls xs o.2 t.heap) (fun q => ba ≤ q)
def XcE (dC : Nat → ClassId) (dI : Nat → Nat → Nat) (cI cJ : ClassId) (bs ba Ls : Nat) (xs : Nat → Int32) (o : Ou) : String → State → State → Prop :=
  vx_X (fun (_ : Unit) => True) (fun E' _ t => ∃ E, o.1 = .inr E ∧ E' = exn E ∧ CorH dC dI cI cJ bs ba Ls xs o.2 t.heap) (fun q => ba ≤ q)
/-- the end of a callee that gives an int or nothing -/
theorem gl_ret {p : Program} {e : Env} {R : Room} {s : State} {m : MethodId} {args : Array Value} {below : List Frame} {meth : Method} {c : Code} {M : Mt} {n0 z0 : Nat} {o : Ou} {Qc : Array Value → State → Outcome → State → Prop} {XC : String → State → State → Prop} {mc ms : Nat}
    (hx : p.tables.exec = Jvm.exec) (hb : c.code = M.2.1) (hret : meth.sig.returnType = M.2.2.2.1) (hlk : meth.locks = false) (hmc : mc + n0 = cnt o.2) (hms : ms + z0 = slt o.2)
    (hI : ∀ r, o.1 = .inl (some (.int r)) → ∀ t : State, CorH dC dI cI cJ bs ba Ls xs o.2 t.heap → va_F (fun q => ba ≤ q) s t → Qc args s (.returned (some (.int r))) t)
    (hV : o.1 = .inl none → ∀ t : State, CorH dC dI cI cJ bs ba Ls xs o.2 t.heap → va_F (fun q => ba ≤ q) s t → Qc args s (.returned none) t)
    (hX : ∀ E, o.1 = .inr E → ∀ t : State, s.vm.Alike t.vm → CorH dC dI cI cJ bs ba Ls xs o.2 t.heap → va_F (fun q => ba ≤ q) s t → XC (exn E) s t) :
    Gl dC dI cI cJ bs ba Ls xs l p e R s m args below meth c M n0 z0 o (vx_MQ below Qc XC args s mc ms (fun q => ba ≤ q)) := by
  obtain ⟨o1, h1⟩ := o
  cases o1 with
  | inr E => exact ⟨Qc, XC, mc, ms, rfl, hX E rfl, by omega, by omega⟩
  | inl v =>
    intro pc' ls' H' locs' cells' slots' hr hC hS hc hz
    dsimp only at hC hS hc hz hmc hms hI hV
    have e1 : cells' = mc := by omega
    have e2 : slots' = ms := by omega
    subst e1
    subst e2
    cases v with
    | none =>
      obtain ⟨hd, hrt⟩ := hr
      exact vx_ret (W.vret hx hb (hret.trans hrt) (fun t ht _ => hV rfl t (by rw [ht]; exact hC) (hS.F ht)) hS.2.2 hd hlk)
    | some w =>
      cases w with
      | int r =>
        obtain ⟨hd, hrt⟩ := hr
        cases hm : M.2.2.2.1 with
        | none => rw [hm] at hrt; cases hrt
        | some ty =>
          rw [hm] at hrt hret
          have hn : narrow ty (.int r) = .int r := by
            cases ty <;> first | rfl | (cases hrt; done) | skip
            have h9 : r &&& 1 = r := of_decide_eq_true hrt
            show Value.int (r &&& 1) = .int r
            rw [h9]
          exact vx_ret (W.zret hx hb hret hn (fun t ht _ => hI r rfl t (by rw [ht]; exact hC) (hS.F ht)) hS.2.2 hd hlk)
      | _ => exact hr.elim
/-- a callee's contract -/
theorem met_of {d y : Nat} {Y : Mt} {as : List Value} {h : AH} {o : Ou} {Qc : Array Value → State → Outcome → State → Prop} {XC : String → State → State → Prop} (hY : mAt y = some Y) (hcl : plainName Y.1.cls = true) (hown : Y.1.cls = Y.2.2.2.2.2.1) (hc1 : as.all cat1 = true) (hal : as.length ≤ Y.2.2.1)
    (hs : Snd dC dI cI cJ bs ba Ls xs sa l d y (ent0 y as h) o)
    (hI : ∀ (a : Array Value) (s t : State) r, o.1 = .inl (some (.int r)) → CorH dC dI cI cJ bs ba Ls xs o.2 t.heap → va_F (fun q => ba ≤ q) s t → Qc a s (.returned (some (.int r))) t)
    (hV : ∀ (a : Array Value) (s t : State), o.1 = .inl none → CorH dC dI cI cJ bs ba Ls xs o.2 t.heap → va_F (fun q => ba ≤ q) s t → Qc a s (.returned none) t)
    (hX : ∀ (s t : State) E, o.1 = .inr E → s.vm.Alike t.vm → CorH dC dI cI cJ bs ba Ls xs o.2 t.heap → va_F (fun q => ba ≤ q) s t → XC (exn E) s t) :
    vx_Met l Y.1 (cdW Y :: TG) (rmC d (cnt o.2 - cnt h) (slt o.2 - slt h)) (va_Pc (as.map (vmp bs ba)) (Prc dC dI cI cJ bs ba Ls xs sa h)) Qc XC (cnt o.2 - cnt h) (slt o.2 - slt h) (fun q => ba ≤ q) := by
  have body : ∀ p e s m args below meth c s₁, BodyLoose p l Y.1 (headSpec (cdW Y :: TG) (rmC d (cnt o.2 - cnt h) (slt o.2 - slt h))) Y.2.1 Y.2.2.1 Y.2.2.2.1 e s m args below meth c s₁ → c.maxLocals = Y.2.2.1 → c.exceptionTable.toList = tableOf Y.2.2.2.2.1 → va_Pc (as.map (vmp bs ba)) (Prc dC dI cI cJ bs ba Ls xs sa h) args s →
      W p l e (rmC d (cnt o.2 - cnt h) (slt o.2 - slt h)) s m args below meth c s.heap [] 0 0 (vx_MQ below Qc XC args s (cnt o.2 - cnt h) (slt o.2 - slt h) (fun q => ba ≤ q)) (entryFrame m args Y.2.2.1) := by
    intro p e s m args below meth c s₁ B hml hex hv
    obtain ⟨rfl, hE, hC, hsz⟩ := hv
    obtain ⟨hm, -, hk⟩ := hs
    have hts := atoms_spec (ws := cdW Y :: TG) B.pre
    obtain ⟨ls, hen, hl⟩ := entry_lcs (m0 := m) (bs := bs) (ba := ba) hc1 hal
    rw [hen]
    have hm1 : cnt h ≤ cnt o.2 := hm.2.1
    have hm2 : slt h ≤ slt o.2 := hm.2.2
    have hmx : maxLOf y = Y.2.2.1 := by unfold maxLOf; rw [hY]
    refine hk p e (rmC d (cnt o.2 - cnt h) (slt o.2 - slt h)) s m _ below meth c Y s.heap [] 0 0 ls (cnt h) (slt h) _ hY ?_ ?_ ?_ ?_ ?_
    · refine ⟨B.exec, B.bytes, hml, B.returns, ?_, B.notSynchronized, (name_of_methodNamed B.named B.method).1, hex, fun w hw => hts w (List.mem_cons_of_mem _ hw), hE, Nat.le_refl _, Nat.le_refl _⟩
      rw [← hown]
      exact findClass_of_methodNamed B.named
    · refine ⟨hC, va_S.rf, ?_, Nat.zero_add _, Nat.zero_add _, fun h0 => (by have h9 : s.heap.size + 1 = ba + h.2.length := hsz h0; show s.heap.size + 0 + 1 = ba + h.2.length; omega)⟩
      show lcs bs ba (as ++ List.replicate (maxLOf y - as.length) jk) ls Y.2.2.1
      rw [hmx]
      exact hl
    · show cnt o.2 ≤ cnt o.2 - cnt h + cnt h
      omega
    · show slt o.2 ≤ slt o.2 - slt h + slt h
      omega
    · exact gl_ret B.exec B.bytes B.returns B.notSynchronized (by omega) (by omega) (fun r hr t => hI _ s t r hr) (fun hr t => hV _ s t hr) (fun E hE t => hX s t E hE)
  cases hh : Y.2.2.2.2.1 with
  | nil =>
    have hcd : cdW Y = .code Y.1 Y.2.1 Y.2.2.1 Y.2.2.2.1 := by unfold cdW; rw [hh]
    rw [hcd] at body ⊢
    exact vx_ofW hcl rfl (fun p e s m args below meth c s₁ B hml ht hv => body p e s m args below meth c s₁ B hml (by
      rw [hh]
      cases hx : c.exceptionTable.toList with
      | nil => rfl
      | cons a b => exact absurd (ht a (by rw [hx]; exact List.mem_cons_self)) id) hv)
  | cons q hl9 =>
    have hcd : cdW Y = .codeWith Y.1 Y.2.1 Y.2.2.1 Y.2.2.2.1 (q :: hl9) := by unfold cdW; rw [hh]
    rw [hcd] at body ⊢
    refine vx_ofWH hcl rfl (fun p e s m args below meth c s₁ B hml hv => ?_)
    have htab : c.exceptionTable.toList = tableOf (q :: hl9) := vx_table (x := Y.1) B (atoms_spec (ws := .codeWith Y.1 Y.2.1 Y.2.2.1 Y.2.2.2.1 (q :: hl9) :: TG) B.pre _ List.mem_cons_self)
    refine body p e s m args below meth c s₁ B hml ?_ hv
    rw [hh]
    exact htab
theorem Prc.blind {h : AH} {as : List Value} : FrameBlind (va_Pc as (Prc dC dI cI cJ bs ba Ls xs sa h)) := by
  intro a U g mk q
  obtain ⟨q0, q1, q2, q3⟩ := q
  exact ⟨q0, EnvS.moved (U := U.calling g mk a) q1 (State.WarmedH.refl U) (Nat.le_refl _) (fun _ _ _ => rfl), q2, q3⟩
end
end
section
/-! SOUNDNESS: closed. -/
section
variable {dC : Nat → ClassId} {dI : Nat → Nat → Nat} {cI cJ : ClassId} {bs ba Ls : Nat} {xs : Nat → Int32} {sa : Nat → Nat} {l : Launch}
variable {p : Program} {e : Env} {R : Room} {s : State} {m : MethodId} {args : Array Value} {below : List Frame} {meth : Method} {c : Code} {H : Heap} {locs : List Loc} {cells slots n0 z0 : Nat} {ls : Array Slot} {Q : State → Prop} {h : AH} {L S : List Value} {M : Mt} {pc : Nat}
theorem W_sz {g : JFrame} (k : H.size ≤ s.heap.size + cells → W p l e R s m args below meth c H locs cells slots Q g) : W p l e R s m args below meth c H locs cells slots Q g := fun T hT X => k (by rw [← hT]; exact X.heapSize) T hT X
theorem met_plain {y : MethodName} {ws : List Jvm.Cond} {rm : Room} {Pc : Array Value → State → Prop} {Qc : Array Value → State → Outcome → State → Prop} {mc ms : Nat} {free : Addr → Prop} (hM : vx_Met l y ws rm Pc Qc (fun _ _ _ => False) mc ms free) : Met l y ws rm Pc Qc mc ms free := by
  intro p e h1 h2 h3 s m args below h4 h5 h6 h7
  obtain ⟨n, o, a1, a2, a3, a4⟩ := hM p e h1 h2 h3 s m args below h4 h5 h6 h7
  refine ⟨n, o, a1, a2, a3, ?_⟩
  rcases a4 with h | ⟨q, -, E, ce, L, hx, -⟩
  · exact h
  · exact hx.elim
theorem take_stack {n : Nat} {rest : List Value} {a : Nat} (hd : S.drop n = .ref a :: rest) : S.map (vmp bs ba) = (((S.take n).reverse.map (vmp bs ba))).reverse ++ .ref (adr bs ba a) :: rest.map (vmp bs ba) := by
  conv => lhs; rw [← List.take_append_drop n S]
  rw [hd, List.map_append, ← List.map_reverse, List.reverse_reverse]
  rfl
theorem take_len {n : Nat} {x : Value} {rest : List Value} (hd : S.drop n = x :: rest) : (S.take n).length = n := by
  have : n < S.length := by
    rcases Nat.lt_or_ge n S.length with h | h
    · exact h
    · rw [List.drop_eq_nil_of_le h] at hd; cases hd
  rw [List.length_take]
  omega
theorem inTG1 {ws : List Jvm.Cond} (h : ∀ w ∈ ws, w ∈ TG) : GoodIn TG ws := fun w hw => ⟨h w hw, TG_at (h w hw)⟩
set_option maxRecDepth 8000 in
theorem rm_aux {d mx x : Nat} (h : 39 * (d + 1) + 33 ≤ x) (hm : mx ≤ 20) : 8 + (mx + 11) + (39 * d + 33) ≤ x := by
  rw [Nat.mul_succ] at h
  generalize 39 * d = y at *
  omega
/-- ONE CALL -/
theorem call_run {k : Nat} (hT : Tab) {d : Nat} {r : Rw} {y : Nat} {as rest : List Value} {o1 : Ou} {Qc : Array Value → State → Outcome → State → Prop} {XC : String → State → State → Prop} (hM : mAt k = some M) (hr : rAtM M pc = some r) (hs : cll r S h = some (y, as, rest)) (hlen : rest.length ≤ 4)
    (F : SndC dC dI cI cJ bs ba Ls xs sa (d + 1) p R s m args meth c M) (X : SndS dC dI cI cJ bs ba Ls xs s M.2.2.1 n0 z0 h L H locs cells slots ls)
    (e1 : Snd dC dI cI cJ bs ba Ls xs sa l d y (ent0 y as h) o1) (hsp : nsp r = true ∨ ∃ v, o1.1 = .inl v) (hc : cnt o1.2 ≤ R.cells + n0) (hz : slt o1.2 ≤ R.slots + z0) (hH : h.1 = 0 → H.size + 1 = ba + h.2.length)
    (hI : ∀ (a : Array Value) (s t : State) r, o1.1 = .inl (some (.int r)) → CorH dC dI cI cJ bs ba Ls xs o1.2 t.heap → va_F (fun q => ba ≤ q) s t → Qc a s (.returned (some (.int r))) t)
    (hV : ∀ (a : Array Value) (s t : State), o1.1 = .inl none → CorH dC dI cI cJ bs ba Ls xs o1.2 t.heap → va_F (fun q => ba ≤ q) s t → Qc a s (.returned none) t)
    (hX : ∀ (s t : State) E, o1.1 = .inr E → s.vm.Alike t.vm → CorH dC dI cI cJ bs ba Ls xs o1.2 t.heap → va_F (fun q => ba ≤ q) s t → XC (exn E) s t) :
    ∃ aa, vx_Run p l e R s m args below meth c H locs cells slots (cnt o1.2 - cnt h) (slt o1.2 - slt h) (F0 m pc ls (S.map (vmp bs ba))) (rest.map (vmp bs ba)) (Qc aa) XC (fun q => ba ≤ q) := by
  obtain ⟨hx, hb, hml, hret, hown, hlk, hnm, hex, hts, hE, hfr, hlo⟩ := F
  obtain ⟨hC, hS, hL, hcc, hsl, hex0⟩ := X
  obtain ⟨hok, hwd⟩ := row_ok hT hM hr
  obtain ⟨i, n, x1, x2, x3⟩ := r
  unfold rok at hok
  obtain ⟨hd0, hrk⟩ := nat_and hok
  clear hok
  have hd : decode M.2.1 pc = .ok (i, ilen i n) := of_decide_eq_true hd0
  have hmo := e1.1
  have hm1 : cnt h ≤ cnt o1.2 := hmo.2.1
  have hm2 : slt h ≤ slt o1.2 := hmo.2.2
  have hfit : cells + (cnt o1.2 - cnt h) ≤ R.cells ∧ slots + (slt o1.2 - slt h) ≤ R.slots := ⟨by omega, by omega⟩
  have hfx : CallFix p m c M.2.1 M.2.2.1 s args TG M.2.2.2.2.2.1 := ⟨hx, hb, hml, hown, hts⟩
  have hrm : 2 * (F0 m pc ls (S.map (vmp bs ba))).monitorRoom + ((rest.map (vmp bs ba)).map fun v => v.category).sum ≤ 8 := lv_room (by have := cat_sum bs ba rest; omega)
  have hpre : ∀ U : State, U.heap = H → s.WarmedH U.vm → Prc dC dI cI cJ bs ba Ls xs sa h U := fun U hU hW => ⟨EnvS.moved hE hW (by rw [hU]; exact hS.1) (by rw [hU]; exact hS.2.1), by rw [hU]; exact hC, fun h0 => (congrArg (fun z : Heap => z.size + 1) hU).trans (hH h0)⟩
  have hrA : d + 2 + 1 ≤ R.frames := by have := hfr; omega
  have hrB : ∀ mx, mx ≤ 20 → 8 + (mx + 11) + (39 * d + 33) ≤ R.locals := fun mx hmx => rm_aux hlo hmx
  have hroom : ∀ mx, mx ≤ 20 → (rmC d (cnt o1.2 - cnt h) (slt o1.2 - slt h)).frames + 1 ≤ R.frames ∧ 8 + (mx + 11) + (rmC d (cnt o1.2 - cnt h) (slt o1.2 - slt h)).locals ≤ R.locals := fun mx hmx => ⟨hrA, hrB mx hmx⟩
  cases i
  case invokevirtual idx =>
    simp only [cll] at hs
    split at hs
    · rename_i a rest' hdr
      split at hs
      · rename_i ci fs ha
        split at hs
        · rename_i hcd
          obtain ⟨hci, hca⟩ := nat_and hcd
          cases hs
          have hci' : ci = x3 := Nat.eq_of_beq_eq_true hci
          subst hci'
          dsimp only at hrk
          split at hrk
          · rename_i Y hY
            obtain ⟨hrk, t4⟩ := nat_and hrk
            obtain ⟨hrk, t3⟩ := nat_and hrk
            obtain ⟨hrk, t2⟩ := nat_and hrk
            unfold clee at hrk
            obtain ⟨hrk, u7⟩ := nat_and hrk
            obtain ⟨hrk, u6⟩ := nat_and hrk
            obtain ⟨hrk, u5⟩ := nat_and hrk
            obtain ⟨hrk, u4⟩ := nat_and hrk
            obtain ⟨hrk, u3⟩ := nat_and hrk
            obtain ⟨u1, u2⟩ := nat_and hrk
            have hwd' : ∀ w ∈ ([.methodLink M.2.2.2.2.2.1 idx Y.1, .instanceMethod Y.1, .selects Y.1.cls Y.1 Y.1, cdW Y, .initialized Y.1.cls] : List Jvm.Cond), w ∈ TG := fun w hw => hwd w (by simp only [rwd]; rw [hY]; exact hw)
            have hhh : Y.2.2.2.2.1 = [] := of_decide_eq_true t2
            have hcdw : cdW Y = .code Y.1 Y.2.1 Y.2.2.1 Y.2.2.2.1 := by unfold cdW; rw [hhh]
            have hca' : (Value.ref a :: (S.take x2).reverse).all cat1 = true := by
              rw [List.all_cons, List.all_reverse, hca]
              rfl
            have hM2 := met_of (Qc := Qc) (XC := XC) (l := l) hY u3 (of_decide_eq_true u7) hca' (by rw [List.length_cons, List.length_reverse, take_len hdr]; exact Nat.le_of_ble_eq_true u6) e1 hI hV hX
            rw [hcdw] at hM2 hwd'
            have hgi : GoodIn TG (wsV M.2.2.2.2.2.1 idx Y.1.cls Y.1 (.code Y.1 Y.2.1 Y.2.2.1 Y.2.2.2.1 :: TG)) := inTG1 (fun w hw => by
              unfold wsV at hw
              rcases List.mem_append.mp hw with hw | hw
              · simp only [List.mem_cons, List.not_mem_nil, or_false] at hw
                rcases hw with rfl | rfl | rfl | rfl <;> exact hwd' _ (by simp)
              · rcases List.mem_cons.mp hw with rfl | hw
                · exact hwd' _ (by simp)
                · exact hw)
            have hcw := cwV (R := R) (mc := cnt o1.2 - cnt h) (ms := slt o1.2 - slt h) (rm := rmC d (cnt o1.2 - cnt h) (slt o1.2 - slt h)) x2 hts hgi rfl rfl rfl ⟨rfl, of_decide_eq_true u1, of_decide_eq_true u2, of_decide_eq_true u4⟩ (hroom _ (Nat.le_of_ble_eq_true u5))
            refine ⟨_, vx_runV (As := (S.take x2).reverse.map (vmp bs ba)) (b := adr bs ba a) hfx hM2 hcw ⟨Prc.blind, ?_, fun U hU hW => ⟨rfl, hpre U hU hW⟩⟩ rfl (by rw [List.length_map, List.length_reverse, take_len hdr]) hL.2.1.1 (take_stack hdr) hrm hd hfit⟩
            rcases hC.at ha with ⟨-, ho⟩ | ⟨t, j, rfl, h1, h2, hP, h3⟩
            · cases ho
            · obtain ⟨C, T, N, hcl, -⟩ := cls_ok ci (Nat.blt_eq.mp t3)
              have hCe : fC ci = C := by simp [fC, hcl]
              have hYC : C = Y.1.cls := by rw [← hCe]; exact of_decide_eq_true t4
              have := va_recv hE.1 hP hcl h3
              rw [← hYC]
              exact this
          · cases hrk
        · cases hs
      · cases hs
    · cases hs
  case invokespecial idx =>
    simp only [cll] at hs
    split at hs
    · rename_i hlt
      split at hs
      · rename_i a rest' hdr
        split at hs
        · rename_i hca
          cases hs
          have hx8 : y < 8000 := Nat.blt_eq.mp hlt
          have n1 : ¬ y = 9999 := by omega
          have n2 : ¬ y = 8888 := by omega
          dsimp only at hrk
          rw [if_neg n1, if_neg n2] at hrk
          split at hrk
          · rename_i Y hY
            obtain ⟨hrk, t4⟩ := nat_and hrk
            obtain ⟨hrk, t3⟩ := nat_and hrk
            obtain ⟨hrk, t2⟩ := nat_and hrk
            unfold clee at hrk
            obtain ⟨hrk, u7⟩ := nat_and hrk
            obtain ⟨hrk, u6⟩ := nat_and hrk
            obtain ⟨hrk, u5⟩ := nat_and hrk
            obtain ⟨hrk, u4⟩ := nat_and hrk
            obtain ⟨hrk, u3⟩ := nat_and hrk
            obtain ⟨u1, u2⟩ := nat_and hrk
            have hwd' : ∀ w ∈ ([.methodLink M.2.2.2.2.2.1 idx Y.1, .instanceMethod Y.1, cdW Y, .initialized Y.1.cls] : List Jvm.Cond), w ∈ TG := fun w hw => hwd w (by simp only [rwd]; rw [if_neg n1, if_neg n2, hY]; exact hw)
            have hhh : Y.2.2.2.2.1 = [] := of_decide_eq_true t2
            have hrn : Y.2.2.2.1 = none := of_decide_eq_true t3
            have hcdw : cdW Y = .code Y.1 Y.2.1 Y.2.2.1 none := by unfold cdW; rw [hhh, hrn]
            have hca' : (Value.ref a :: (S.take x2).reverse).all cat1 = true := by
              rw [List.all_cons, List.all_reverse, hca]
              rfl
            have hinl : ∃ v, o1.1 = .inl v := by
              rcases hsp with h9 | h9
              · cases h9
              · exact h9
            have hM2 := met_plain (met_of (Qc := Qc) (XC := fun _ _ _ => False) (l := l) hY u3 (of_decide_eq_true u7) hca' (by rw [List.length_cons, List.length_reverse, take_len hdr]; exact Nat.le_of_ble_eq_true u6) e1 hI hV (fun s t E hE => by
              obtain ⟨v, hv⟩ := hinl
              rw [hv] at hE
              cases hE))
            rw [hcdw] at hM2 hwd'
            have hgi : GoodIn TG (.code Y.1 Y.2.1 Y.2.2.1 none :: TG) := inTG1 (fun w hw => by
              rcases List.mem_cons.mp hw with rfl | hw
              · exact hwd' _ (by simp)
              · exact hw)
            have hcw := cwI (R := R) (index := idx) (own := M.2.2.2.2.2.1) (mc := cnt o1.2 - cnt h) (ms := slt o1.2 - slt h) (rm := rmC d (cnt o1.2 - cnt h) (slt o1.2 - slt h)) x2 hts hgi rfl rfl rfl (hts _ (hwd' (.initialized Y.1.cls) (by simp))) (hts _ (hwd' (.methodLink M.2.2.2.2.2.1 idx Y.1) (by simp))) (hts _ (hwd' (.instanceMethod Y.1) (by simp))) (of_decide_eq_true t4) ⟨of_decide_eq_true u1, of_decide_eq_true u2, of_decide_eq_true u4⟩ (hroom _ (Nat.le_of_ble_eq_true u5))
            have hrun := va_runI (e := e) (below := below) (meth := meth) (locs := locs) (As := (S.take x2).reverse.map (vmp bs ba)) (b := adr bs ba a) (g := F0 m pc ls (S.map (vmp bs ba))) (rest := rest.map (vmp bs ba)) hfx hM2 hcw ⟨Prc.blind, fun U hU hW => ⟨rfl, hpre U hU hW⟩⟩ rfl (by rw [List.length_map, List.length_reverse, take_len hdr]) hL.2.1.1 (take_stack hdr) hrm hd hfit
            exact ⟨_, fun T hT9 X9 => Or.inl (hrun T hT9 X9)⟩
          · cases hrk
        · cases hs
      · cases hs
    · cases hs
  case invokestatic idx =>
    simp only [cll] at hs
    split at hs
    · rename_i hcd
      obtain ⟨hlt, hcd⟩ := nat_and hcd
      obtain ⟨hle, hca⟩ := nat_and hcd
      cases hs
      have hx8 : y < 7000 := Nat.blt_eq.mp hlt
      have n1 : ¬ y = 7001 := by omega
      have n2 : ¬ y = 7002 := by omega
      have hle' : x2 ≤ S.length := Nat.le_of_ble_eq_true hle
      have htl : (S.take x2).length = x2 := by rw [List.length_take]; omega
      dsimp only at hrk
      rw [if_neg n1, if_neg n2] at hrk
      split at hrk
      · rename_i Y hY
        unfold clee at hrk
        obtain ⟨hrk, u7⟩ := nat_and hrk
        obtain ⟨hrk, u6⟩ := nat_and hrk
        obtain ⟨hrk, u5⟩ := nat_and hrk
        obtain ⟨hrk, u4⟩ := nat_and hrk
        obtain ⟨hrk, u3⟩ := nat_and hrk
        obtain ⟨u1, u2⟩ := nat_and hrk
        have hwd' : ∀ w ∈ ([.methodLink M.2.2.2.2.2.1 idx Y.1, .static Y.1, cdW Y, .initialized Y.1.cls] : List Jvm.Cond), w ∈ TG := fun w hw => hwd w (by simp only [rwd]; rw [if_neg n1, if_neg n2, hY]; exact hw)
        have hca' : ((S.take x2).reverse).all cat1 = true := by rw [List.all_reverse, hca]
        have hM2 := met_of (Qc := Qc) (XC := XC) (l := l) hY u3 (of_decide_eq_true u7) hca' (by rw [List.length_reverse, htl]; exact Nat.le_of_ble_eq_true u6) e1 hI hV hX
        have hgi : GoodIn TG (va_wsS M.2.2.2.2.2.1 idx Y.1 (cdW Y :: TG)) := inTG1 (fun w hw => by
          unfold va_wsS at hw
          rcases List.mem_append.mp hw with hw | hw
          · simp only [List.mem_cons, List.not_mem_nil, or_false] at hw
            rcases hw with rfl | rfl | rfl <;> exact hwd' _ (by simp)
          · rcases List.mem_cons.mp hw with rfl | hw
            · exact hwd' _ (by simp)
            · exact hw)
        have hst : S.map (vmp bs ba) = (((S.take x2).reverse.map (vmp bs ba))).reverse ++ (S.drop x2).map (vmp bs ba) := by
          conv => lhs; rw [← List.take_append_drop x2 S]
          rw [List.map_append, ← List.map_reverse, List.reverse_reverse]
        have hpS : PreS s H (va_Pc ((S.take x2).reverse.map (vmp bs ba)) (Prc dC dI cI cJ bs ba Ls xs sa h)) ((S.take x2).reverse.map (vmp bs ba)) := ⟨Prc.blind, fun U hU hW => ⟨rfl, hpre U hU hW⟩⟩
        cases hhh : Y.2.2.2.2.1 with
        | nil =>
          have hcdw : cdW Y = .code Y.1 Y.2.1 Y.2.2.1 Y.2.2.2.1 := by unfold cdW; rw [hhh]
          rw [hcdw] at hM2 hgi
          have hcw := va_cwS (R := R) (mc := cnt o1.2 - cnt h) (ms := slt o1.2 - slt h) (rm := rmC d (cnt o1.2 - cnt h) (slt o1.2 - slt h)) x2 hts hgi rfl rfl rfl ⟨of_decide_eq_true u1, of_decide_eq_true u2, of_decide_eq_true u4⟩ (hroom _ (Nat.le_of_ble_eq_true u5))
          exact ⟨_, vx_runS (As := (S.take x2).reverse.map (vmp bs ba)) hfx hM2 hcw hpS rfl (by rw [List.length_map, List.length_reverse, htl]) hL.2.1.1 hst hrm hd hfit⟩
        | cons q hl9 =>
          have hcdw : cdW Y = .codeWith Y.1 Y.2.1 Y.2.2.1 Y.2.2.2.1 (q :: hl9) := by unfold cdW; rw [hhh]
          rw [hcdw] at hM2 hgi
          have hcw := vx_cwSW (R := R) (mc := cnt o1.2 - cnt h) (ms := slt o1.2 - slt h) (rm := rmC d (cnt o1.2 - cnt h) (slt o1.2 - slt h)) x2 hts hgi rfl rfl rfl ⟨of_decide_eq_true u1, of_decide_eq_true u2, of_decide_eq_true u4⟩ (hroom _ (Nat.le_of_ble_eq_true u5))
          exact ⟨_, vx_runSX (As := (S.take x2).reverse.map (vmp bs ba)) hfx hM2 hcw hpS rfl (by rw [List.length_map, List.length_reverse, htl]) hL.2.1.1 hst hrm hd hfit⟩
      · cases hrk
    · cases hs
  all_goals cases hs
end
end
section
/-! SOUNDNESS: what the abstract machine comes to, the machine comes to. -/
section
variable {dC : Nat → ClassId} {dI : Nat → Nat → Nat} {cI cJ : ClassId} {bs ba Ls : Nat} {xs : Nat → Int32} {sa : Nat → Nat} {l : Launch}
theorem cal_eq {s : State} {cells n0 : Nat} {h : AH} {H : Heap} (hC : CorH dC dI cI cJ bs ba Ls xs h H) (h1 : H.size ≤ s.heap.size + cells) (h2 : h.1 = 0 → s.heap.size + cells + 1 = ba + h.2.length) : h.1 = 0 → H.size + 1 = ba + h.2.length := by
  intro h0
  obtain ⟨t, e1, e2, e3⟩ := hC
  have := h2 h0
  have e4 : h.2.length = t.length + 1 := by rw [e1]; rfl
  omega
theorem cal_snds {s : State} {nL n0 z0 cells slots : Nat} {h h1 : AH} {L : List Value} {H H1 : Heap} {locs locs1 : List Loc} {ls : Array Slot} (X : SndS dC dI cI cJ bs ba Ls xs s nL n0 z0 h L H locs cells slots ls) (hm : mono h h1) (hC : CorH dC dI cI cJ bs ba Ls xs h1 H1) (hS : va_S (fun q => ba ≤ q) s.heap H1 locs1) : SndS dC dI cI cJ bs ba Ls xs s nL n0 z0 h1 L H1 locs1 (cells + (cnt h1 - cnt h)) (slots + (slt h1 - slt h)) ls := by
  obtain ⟨x1, x2, x3, x4, x5, x6⟩ := X
  obtain ⟨m1, m2, m3⟩ := hm
  refine ⟨hC, hS, x3, by omega, by omega, fun h0 => ?_⟩
  have h00 : h.1 = 0 := by omega
  have := x6 h00
  simp only [cnt] at m2 ⊢
  omega
theorem snd_step (hT : Tab) {d k : Nat} {M : Mt} {pc : Nat} {r : Rw} {L S : List Value} {h : AH} {c' : Cf} {o : Ou} (hM : mAt k = some M) (hr : rAtM M pc = some r) (hs : stp pc r L S h = some c') (e2 : Snd dC dI cI cJ bs ba Ls xs sa l d k c' o) : Snd dC dI cI cJ bs ba Ls xs sa l d k (pc, L, S, h) o := by
  obtain ⟨hok, hwd⟩ := row_ok hT hM hr
  refine ⟨(stp_mono hs).trans e2.1, e2.2.1, ?_⟩
  intro p e R s m args below meth c M' H locs cells slots ls n0 z0 Q hM' F X hc hz hG
  cases hM.symm.trans hM'
  have hm := e2.1
  exact wstep F hok hwd hs X (Nat.le_trans hm.2.1 hc) (Nat.le_trans hm.2.2 hz) (fun H' locs' cells' slots' ls' X' => e2.2.2 p e R s m args below meth c M H' locs' cells' slots' ls' n0 z0 Q hM F X' hc hz hG)
theorem snd_call (hT : Tab) {d k : Nat} {M : Mt} {pc : Nat} {r : Rw} {L S : List Value} {h h1 : AH} {y : Nat} {as rest : List Value} {v : Option Value} {o : Ou} (hM : mAt k = some M) (hr : rAtM M pc = some r) (hs : cll r S h = some (y, as, rest)) (hl : rest.length ≤ 4)
    (e1 : Snd dC dI cI cJ bs ba Ls xs sa l d y (ent0 y as h) (.inl v, h1)) (e2 : Snd dC dI cI cJ bs ba Ls xs sa l (d + 1) k (pc + 3, L, v.toList ++ rest, h1) o) : Snd dC dI cI cJ bs ba Ls xs sa l (d + 1) k (pc, L, S, h) o := by
  have hm1 : mono h h1 := e1.1
  have hm2 : mono h1 o.2 := e2.1
  refine ⟨hm1.trans hm2, e2.2.1, ?_⟩
  intro p e R s m args below meth c M' H locs cells slots ls n0 z0 Q hM' F X hc hz hG
  cases hM.symm.trans hM'
  refine W_sz fun hsz => ?_
  have hH := cal_eq (n0 := n0) X.1 hsz X.2.2.2.2.2
  have hc1 : cnt h1 ≤ R.cells + n0 := Nat.le_trans hm2.2.1 hc
  have hz1 : slt h1 ≤ R.slots + z0 := Nat.le_trans hm2.2.2 hz
  have hS := X.2.1
  have fin' : ∀ (H1 : Heap) (locs1 : List Loc), CorH dC dI cI cJ bs ba Ls xs h1 H1 → va_S (fun q => ba ≤ q) s.heap H1 locs1 → W p l e R s m args below meth c H1 locs1 (cells + (cnt h1 - cnt h)) (slots + (slt h1 - slt h)) Q (F0 m (pc + 3) ls ((v.toList ++ rest).map (vmp bs ba))) := fun H1 locs1 hC1 hS1 =>
    e2.2.2 p e R s m args below meth c M H1 locs1 _ _ ls n0 z0 Q hM F (cal_snds X hm1 hC1 hS1) hc hz hG
  cases v with
  | none =>
    obtain ⟨aa, hrun⟩ := call_run (Qc := va_Qv (fun _ : Unit => True) (fun _ t => CorH dC dI cI cJ bs ba Ls xs h1 t.heap) (fun q => ba ≤ q)) (XC := vx_X (fun _ : Unit => False) (fun _ _ _ => False) (fun q => ba ≤ q)) hT hM hr hs hl F X e1 (Or.inr ⟨_, rfl⟩) hc1 hz1 hH (fun a s t r hr => by cases hr) (fun a s t _ h2 h3 => ⟨⟨(), rfl, trivial, h2⟩, h3⟩) (fun s t E hE => by cases hE)
    exact vx_callv hrun hS (fun q _ z => z) (fun q z => z) (fun q _ z => z) (fun E ce q9 u t H1 locs1 _ _ hf => hf.elim) (fun u t H1 locs1 ht _ _ hB _ _ hS1 => fin' H1 locs1 (ht ▸ hB) hS1)
  | some w =>
    cases w with
    | int x =>
      obtain ⟨aa, hrun⟩ := call_run (Qc := va_Qi (fun (z : Int32) (_ : Unit) => z = x) (fun _ t => CorH dC dI cI cJ bs ba Ls xs h1 t.heap) (fun q => ba ≤ q)) (XC := vx_X (fun _ : Unit => False) (fun _ _ _ => False) (fun q => ba ≤ q)) hT hM hr hs hl F X e1 (Or.inr ⟨_, rfl⟩) hc1 hz1 hH (fun a s t r hr h2 h3 => by cases hr; exact ⟨⟨x, (), rfl, rfl, h2⟩, h3⟩) (fun a s t hr => by cases hr) (fun s t E hE => by cases hE)
      exact vx_calli hrun hS (fun q _ z => z) (fun q z => z) (fun q _ z => z) (fun E ce q9 u t H1 locs1 _ _ hf => hf.elim) (fun r u t H1 locs1 ht _ hp hB _ _ hS1 => by
        cases hp
        exact fin' H1 locs1 (ht ▸ hB) hS1)
    | _ =>
      obtain ⟨aa, hrun⟩ := call_run (Qc := va_Qv (fun _ : Unit => False) (fun _ _ => False) (fun q => ba ≤ q)) (XC := vx_X (fun _ : Unit => False) (fun _ _ _ => False) (fun q => ba ≤ q)) hT hM hr hs hl F X e1 (Or.inr ⟨_, rfl⟩) hc1 hz1 hH (fun a s t r hr => by cases hr) (fun a s t hr => by cases hr) (fun s t E hE => by cases hE)
      exact vx_callv hrun hS (fun q _ z => z) (fun q z => z) (fun q _ z => z) (fun E ce q9 u t H1 locs1 _ _ hf => hf.elim) (fun u t H1 locs1 _ _ hp => hp.elim)
theorem snd_pass (hT : Tab) {d k : Nat} {M : Mt} {pc : Nat} {r : Rw} {L S : List Value} {h h1 : AH} {y E0 : Nat} {as rest : List Value} (hM : mAt k = some M) (hr : rAtM M pc = some r) (hs : cll r S h = some (y, as, rest)) (hl : rest.length ≤ 4) (hn : nsp r = true) (hh : M.2.2.2.2.1 = [])
    (e1 : Snd dC dI cI cJ bs ba Ls xs sa l d y (ent0 y as h) (.inr E0, h1)) : Snd dC dI cI cJ bs ba Ls xs sa l (d + 1) k (pc, L, S, h) (.inr E0, h1) := by
  have hm1 : mono h h1 := e1.1
  refine ⟨hm1, e1.2.1, ?_⟩
  intro p e R s m args below meth c M' H locs cells slots ls n0 z0 Q hM' F X hc hz hG
  cases hM.symm.trans hM'
  refine W_sz fun hsz => ?_
  have hH := cal_eq (n0 := n0) X.1 hsz X.2.2.2.2.2
  obtain ⟨Qc, XC, mc, ms, rfl, hXC, hmc, hms⟩ := hG
  obtain ⟨aa, hrun⟩ := call_run (Qc := va_Qv (fun _ : Unit => False) (fun _ _ => False) (fun q => ba ≤ q)) (XC := vx_X (fun _ : Unit => True) (fun E' _ t => E' = exn E0 ∧ CorH dC dI cI cJ bs ba Ls xs h1 t.heap) (fun q => ba ≤ q)) hT hM hr hs hl F X e1 (Or.inl hn) hc hz hH (fun a s t r hr => by cases hr) (fun a s t hr => by cases hr) (fun s t E hE _ h2 h3 => by cases hE; exact ⟨(), trivial, ⟨rfl, h2⟩, h3⟩)
  have hex : c.exceptionTable.toList = tableOf M.2.2.2.2.1 := F.2.2.2.2.2.2.2.1
  have x4 : cells + n0 = cnt h := X.2.2.2.1
  have x5 : slots + z0 = slt h := X.2.2.2.2.1
  have m2 : cnt h ≤ cnt h1 := hm1.2.1
  have m3 : slt h ≤ slt h1 := hm1.2.2
  refine vx_callv hrun X.2.1 (fun q _ z => z) (fun q z => z) (fun q _ z => z) (fun E ce q9 u t H1 locs1 ht hal _ hB _ _ hS1 hce hcv hcl => ?_) (fun u t H1 locs1 _ _ hp => hp.elim)
  obtain ⟨rfl, hC1⟩ := hB
  refine vx_out (E := exn E0) (by
    rw [hex, hh]
    intro x hx
    cases hx) F.2.2.2.2.2.1 hce hcv hcl (fun t2 ht2 hal2 => hXC t2 hal2 (by rw [ht2, ← ht]; exact hC1) (hS1.F ht2)) hS1.2.2 ?_ ?_
  · show cells + (cnt h1 - cnt h) ≤ mc
    have : cnt h1 ≤ mc + n0 := hmc
    omega
  · show slots + (slt h1 - slt h) ≤ ms
    have : slt h1 ≤ ms + z0 := hms
    omega
theorem hnd_split {M : Mt} {pc E hp : Nat} : ∀ {hs : List (Nat × Nat × Nat × Nat)}, hnd M hs pc E = some hp → ∃ pre q suf, hs = pre ++ q :: suf ∧ (q.1 ≤ pc ∧ pc < q.2.1) ∧ hnd.hcl M q.2.2.2 E = true ∧ hp = q.2.2.1 ∧ ∀ z ∈ pre, ¬ (z.1 ≤ pc ∧ pc < z.2.1) ∨ hnd.hcl M z.2.2.2 E = false
  | [], h => by cases h
  | q :: hs, h => by
    unfold hnd at h
    cases hb : (decide (q.1 ≤ pc ∧ pc < q.2.1) && hnd.hcl M q.2.2.2 E) with
    | true =>
      rw [hb] at h
      obtain ⟨b1, b2⟩ := nat_and hb
      exact ⟨[], q, hs, rfl, of_decide_eq_true b1, b2, (Option.some.inj h).symm, fun z hz => by cases hz⟩
    | false =>
      rw [hb] at h
      obtain ⟨pre, q2, suf, a1, a2, a3, a4, a5⟩ := hnd_split h
      refine ⟨q :: pre, q2, suf, by rw [a1]; rfl, a2, a3, a4, fun z hz => ?_⟩
      rcases List.mem_cons.mp hz with rfl | hz
      · by_cases hc : z.1 ≤ pc ∧ pc < z.2.1
        · right
          rw [decide_eq_true hc, Bool.true_and] at hb
          exact hb
        · exact Or.inl hc
      · exact a5 z hz
theorem hcl_cases {M : Mt} {ct E : Nat} (h : hnd.hcl M ct E = true) : (ct = 13 ∧ E = 0) ∨ (ct = 18 ∧ E = 1) ∨ (ct = 24 ∧ E = 2) := by
  unfold hnd.hcl at h
  split at h
  · exact Or.inl ⟨rfl, rfl⟩
  · exact Or.inr (Or.inl ⟨rfl, rfl⟩)
  · exact Or.inr (Or.inr ⟨rfl, rfl⟩)
  · cases h
theorem hst_inv {M : Mt} {hp : Nat} {q : Nat × Nat} (h : hst M hp = some q) : (∃ j n x, rAtM M hp = some (.astore_n j, n, x) ∧ q = (hp + 1, j.val)) ∨ (∃ j n x, rAtM M hp = some (.astore j, n, x) ∧ q = (hp + 2, j)) := by
  unfold hst at h
  split at h
  · rename_i j r2 e
    obtain ⟨n, x⟩ := r2
    exact Or.inl ⟨j, n, x, e, (Option.some.inj h).symm⟩
  · rename_i j r2 e
    obtain ⟨n, x⟩ := r2
    exact Or.inr ⟨j, n, x, e, (Option.some.inj h).symm⟩
  · cases h
theorem cast_NG : ∀ E, E < 3 → Cond.castable (exn E) (exn E) ∈ NG := by
  intro E hE
  have : E = 0 ∨ E = 1 ∨ E = 2 := by omega
  rcases this with rfl | rfl | rfl <;> decide +kernel
theorem snd_catch (hT : Tab) {d k : Nat} {M : Mt} {pc : Nat} {r : Rw} {L S : List Value} {h h1 : AH} {y E0 hp : Nat} {as rest : List Value} {q : Nat × Nat} {o : Ou} (hM : mAt k = some M) (hr : rAtM M pc = some r) (hs : cll r S h = some (y, as, rest)) (hl : rest.length ≤ 4) (hn : nsp r = true) (hh : hnd M M.2.2.2.2.1 pc E0 = some hp) (hq : hst M hp = some q) (hj : q.2 < L.length)
    (e1 : Snd dC dI cI cJ bs ba Ls xs sa l d y (ent0 y as h) (.inr E0, h1)) (e2 : Snd dC dI cI cJ bs ba Ls xs sa l (d + 1) k (q.1, L.set q.2 jk, [], h1) o) : Snd dC dI cI cJ bs ba Ls xs sa l (d + 1) k (pc, L, S, h) o := by
  have hm1 : mono h h1 := e1.1
  have hm2 : mono h1 o.2 := e2.1
  have hE3 : E0 < 3 := e1.2.1 E0 rfl
  refine ⟨hm1.trans hm2, e2.2.1, ?_⟩
  intro p e R s m args below meth c M' H locs cells slots ls n0 z0 Q hM' F X hc hz hG
  cases hM.symm.trans hM'
  refine W_sz fun hsz => ?_
  have hH := cal_eq (n0 := n0) X.1 hsz X.2.2.2.2.2
  have hc1 : cnt h1 ≤ R.cells + n0 := Nat.le_trans hm2.2.1 hc
  have hz1 : slt h1 ≤ R.slots + z0 := Nat.le_trans hm2.2.2 hz
  obtain ⟨aa, hrun⟩ := call_run (Qc := va_Qv (fun _ : Unit => False) (fun _ _ => False) (fun q => ba ≤ q)) (XC := vx_X (fun _ : Unit => True) (fun E' _ t => E' = exn E0 ∧ CorH dC dI cI cJ bs ba Ls xs h1 t.heap) (fun q => ba ≤ q)) hT hM hr hs hl F X e1 (Or.inl hn) hc1 hz1 hH (fun a s t r hr => by cases hr) (fun a s t hr => by cases hr) (fun s t E hE _ h2 h3 => by cases hE; exact ⟨(), trivial, ⟨rfl, h2⟩, h3⟩)
  have F' := F
  obtain ⟨hx, hb, hml, hret, hown, hlk, hnm, hex, hts, hEn, hfr, hlo⟩ := F'
  obtain ⟨a1, a2, a3, a4, a5, a6, a7, a8, a9⟩ := hEn
  refine vx_callv hrun X.2.1 (fun q _ z => z) (fun q z => z) (fun q _ z => z) (fun E ce q9 u t H1 locs1 ht hal _ hB _ _ hS1 hce hcv hcl => ?_) (fun u t H1 locs1 _ _ hp => hp.elim)
  obtain ⟨rfl, hC1⟩ := hB
  obtain ⟨pre, q0, suf, b1, b2, b3, rfl, b5⟩ := hnd_split hh
  have hhw := hnd_words hT hM
  have hct := hcl_cases b3
  have hown' : s.vm.findClass M.2.2.2.2.2.1 = some m.cls := hown
  have hq0 : q0 ∈ M.2.2.2.2.1 := by rw [b1]; simp
  have hlink : (Cond.classLink M.2.2.2.2.2.1 q0.2.2.2 (exn E0)).before args s = true := hts _ ((hhw q0 hq0).2 _ (by
    unfold hwd
    rcases hct with ⟨c1, c2⟩ | ⟨c1, c2⟩ | ⟨c1, c2⟩ <;> rw [c1, c2] <;> exact List.mem_cons_self))
  have h00 : q0.2.2.2 ≠ 0 := by rcases hct with ⟨c1, c2⟩ | ⟨c1, c2⟩ | ⟨c1, c2⟩ <;> rw [c1] <;> decide
  refine vx_catch (own := M.2.2.2.2.2.1) (name := exn E0) (E := exn E0) hown (pre.map fun q => ⟨q.1, q.2.1, q.2.2.1, q.2.2.2⟩) ⟨q0.1, q0.2.1, q0.2.2.1, q0.2.2.2⟩ (suf.map fun q => ⟨q.1, q.2.1, q.2.2.1, q.2.2.2⟩) (by rw [hex, b1]; simp [tableOf]) (fun z hz => ?_) (by simp only [covers]; simpa using b2) h00 hlink (ng_moved (cast_NG E0 hE3) (Vm.Alike.refl s.vm) (a8 _ (cast_NG E0 hE3))) hce hcv hcl ?_
  · obtain ⟨z0', hz0, rfl⟩ := List.mem_map.mp hz
    rcases b5 z0' hz0 with c1 | c1
    · left
      simp only [covers]
      simpa using c1
    · right
      have hz9 : z0' ∈ M.2.2.2.2.1 := by rw [b1]; exact List.mem_append_left _ hz0
      obtain ⟨d1, d2⟩ := hhw z0' hz9
      have hne : ∀ i, i < 3 → hnd.hcl M z0'.2.2.2 i = true → (Cond.classLink M.2.2.2.2.2.1 z0'.2.2.2 (exn i)).before args s = true → z0'.2.2.2 ≠ 0 ∧ ∃ nm : String, (Cond.classLink M.2.2.2.2.2.1 z0'.2.2.2 nm).before args s = true ∧ va_Nc (exn E0) nm s := fun i hi hc9 hl9 => by
        refine ⟨by rcases d1 with c | c | c <;> rw [c] <;> decide, exn i, hl9, a9 E0 i hE3 hi (fun e9 => ?_)⟩
        rw [← e9, c1] at hc9
        cases hc9
      rcases d1 with c | c | c
      · exact hne 0 (by decide) (by rw [c]; rfl) (hts _ (d2 _ (by unfold hwd; rw [c]; exact List.mem_cons_self)))
      · exact hne 1 (by decide) (by rw [c]; rfl) (hts _ (d2 _ (by unfold hwd; rw [c]; exact List.mem_cons_self)))
      · exact hne 2 (by decide) (by rw [c]; rfl) (hts _ (d2 _ (by unfold hwd; rw [c]; exact List.mem_cons_self)))
  · have hLl : L.length = M.2.2.1 := X.2.2.1.1
    have X1 : SndS dC dI cI cJ bs ba Ls xs s M.2.2.1 n0 z0 h1 L H1 locs1 (cells + (cnt h1 - cnt h)) (slots + (slt h1 - slt h)) ls := cal_snds X hm1 (ht ▸ hC1) hS1
    have go : ∀ (j pc' : Nat) (ls' : Array Slot), q = (pc', j) → lv_has ls' M.2.2.1 ((j, .ref q9) :: (prsF bs ba 0 L).filter (fun q => !(q.1 == j) && !(q.1 + 1 == j && q.2.category == 2))) → W p l e R s m args below meth c H1 locs1 (cells + (cnt h1 - cnt h)) (slots + (slt h1 - slt h)) Q (F0 m pc' ls' []) := fun j pc' ls' hqe hl' => by
      subst hqe
      obtain ⟨y1, y2, y3, y4, y5, y6⟩ := X1
      exact e2.2.2 p e R s m args below meth c M H1 locs1 _ _ ls' n0 z0 Q hM F ⟨y1, y2, y3.put (v := jk) rfl (Or.inr ⟨0, rfl⟩) hl', y4, y5, y6⟩ hc hz hG
    rcases hst_inv hq with ⟨j, n, x, c1, c2⟩ | ⟨j, n, x, c1, c2⟩
    · obtain ⟨hok, -⟩ := row_ok hT hM c1
      unfold rok at hok
      have hd : decode M.2.1 q0.2.2.1 = .ok (.astore_n j, 1) := of_decide_eq_true (nat_and hok).1
      have hjl : j.val < M.2.2.1 := by rw [c2] at hj; rw [← hLl]; exact hj
      exact lv_astore_n hx hb hd rfl X.2.2.1.2.1 hjl rfl (fun ls' hl' => go j.val _ ls' c2 hl')
    · obtain ⟨hok, -⟩ := row_ok hT hM c1
      unfold rok at hok
      have hd : decode M.2.1 q0.2.2.1 = .ok (.astore j, 2) := of_decide_eq_true (nat_and hok).1
      have hjl : j < M.2.2.1 := by rw [c2] at hj; rw [← hLl]; exact hj
      exact lv_astore hx hb hd X.2.2.1.2.1 hjl rfl (fun ls' hl' => go j _ ls' c2 hl')
/-- SOUND -/
theorem snd_all (hT : Tab) (hl : l.stackTraces = false) {d k : Nat} {c : Cf} {o : Ou} (h : Ev d k c o) : Snd dC dI cI cJ bs ba Ls xs sa l d k c o :=
  h _ ⟨fun _ _ _ _ _ _ _ _ _ hM hr hf => fin_ret hT hl hM hr hf, fun _ _ _ _ _ _ _ _ _ _ hM hr hs e => snd_step hT hM hr hs e, fun _ _ _ _ _ _ _ _ _ _ _ _ _ _ hM hr hs hl e1 e2 => snd_call hT hM hr hs hl e1 e2, fun _ _ _ _ _ _ _ _ _ _ _ _ _ hM hr hs hl hn hh e1 => snd_pass hT hM hr hs hl hn hh e1, fun _ _ _ _ _ _ _ _ _ _ _ _ _ _ _ _ hM hr hs hl hn hh hq hj e1 e2 => snd_catch hT hM hr hs hl hn hh hq hj e1 e2⟩
end
end
section
/-! THE CLAIM OUT OF A RUN OF THE ABSTRACT MACHINE. -/
section
def kLaw : Nat := 83
def h00 (Ls : Nat) (xs : Nat → Int32) : AH := (0, [.inl (Ls, .inl xs)])
/-- what is wanted of the abstract machine -/
def LawOK : Prop := ∀ (Ls : Nat) (xs : Nat → Int32), Ls ≤ 260 → ∃ h : AH, Ev 9 kLaw (ent0 kLaw [.ref 0] (h00 Ls xs)) (.inl (some (.int 1)), h) ∧ cnt h ≤ 600104 ∧ slt h ≤ 7301314
theorem cls_known {s : State} {args : Array Value} (hts : ∀ w ∈ lw_tbl, w.before args s = true) (k : Nat) : ∃ (c : ClassId) (i : Nat → Nat), ∀ q : vw_C, vwCl[k]? = some q → u_Kn s q.1 q.2.1 q.2.2 c i := by
  match k with
  | 0 => obtain ⟨c, i, h⟩ := u_known (n := 3) hts in_X0 (hts (.instantiable RX0 3) (by decide +kernel)); exact ⟨c, i, fun q hq => by cases hq; exact h⟩
  | 1 => obtain ⟨c, i, h⟩ := u_known (n := 5) hts in_X1 (hts (.instantiable RX1 5) (by decide +kernel)); exact ⟨c, i, fun q hq => by cases hq; exact h⟩
  | 2 => obtain ⟨c, i, h⟩ := u_known (n := 2) hts in_X2 (hts (.instantiable RX2 2) (by decide +kernel)); exact ⟨c, i, fun q hq => by cases hq; exact h⟩
  | 3 => obtain ⟨c, i, h⟩ := u_known (n := 4) hts in_X3 (hts (.instantiable RX3 4) (by decide +kernel)); exact ⟨c, i, fun q hq => by cases hq; exact h⟩
  | 4 => obtain ⟨c, i, h⟩ := u_known (n := 3) hts in_X4 (hts (.instantiable RX4 3) (by decide +kernel)); exact ⟨c, i, fun q hq => by cases hq; exact h⟩
  | 5 => obtain ⟨c, i, h⟩ := u_known (n := 1) hts in_X6 (hts (.instantiable RX6 1) (by decide +kernel)); exact ⟨c, i, fun q hq => by cases hq; exact h⟩
  | 6 => obtain ⟨c, i, h⟩ := u_known (n := 6) hts in_X7 (hts (.instantiable RX7 6) (by decide +kernel)); exact ⟨c, i, fun q hq => by cases hq; exact h⟩
  | k + 7 => exact ⟨0, fun _ => 0, fun q hq => by cases hq⟩
def saOf (s : State) (k : Nat) : Nat := match (Term.string "Coppinghouse" k).eval #[] s none [] s with
  | some (.ref a) => a
  | _ => 0
theorem str_known {s : State} {args : Array Value} (h1 : ∀ q ∈ txts, (Cond.stringRef "Coppinghouse" q.1 q.2).before args s = true) (h2 : ∀ q ∈ txts, (Cond.exactly (.string "Coppinghouse" q.1) "java/lang/String").before args s = true) : ∀ q ∈ txts, vk_R "Coppinghouse" q.1 q.2 (saOf s q.1) s := by
  intro q hq
  obtain ⟨a, c, cell, k, ha, -⟩ := Cond.exactly_spec (h2 q hq)
  have h3 : vk_R "Coppinghouse" q.1 q.2 a s := vk_R.of (h1 q hq) ha
  have h4 := h3.2
  have h5 : saOf s q.1 = a := by
    unfold saOf
    rw [h4]
  rw [h5]
  exact h3
theorem env_start {s : State} {b L : Nat} {xs : Nat → Int32} (hts : ∀ w ∈ lw_tbl, w.before #[Value.ref b] s = true) (hX : va_X b L xs s s.heap) (hbl : b < s.heap.size) (hgv : (Jvm.Cond.and given_1 narrow_1).before #[Value.ref b] s = true) : ∃ dC dI cI cJ, EnvS dC dI cI cJ b s.heap.size L xs (saOf s) s := by
  have hfl := flat_of_before _ hgv
  obtain ⟨cI, kI, pI, i1, i2, i3⟩ := Cond.arrayClass_spec (hts (.arrayClass .int) (by decide +kernel))
  refine ⟨fun k => Classical.choose (cls_known hts k), fun k => Classical.choose (Classical.choose_spec (cls_known hts k)), cI, cI, ⟨fun k q hq => Classical.choose_spec (Classical.choose_spec (cls_known hts k)) q hq, fun k q hq => ?_⟩, hX, hbl, Nat.le_refl _, ?_, ?_, ?_, ?_, ?_⟩
  · match k, hq with
    | 0, hq => cases hq; exact ⟨fun n z => ⟨(fun k h => by cases h), kI, i2, pI, i3⟩, i1⟩
    | k + 1, hq => cases hq
  · exact vx_Zqof (hts _ (by decide +kernel)) (hts _ (by decide +kernel)) (hfl _ (by decide +kernel)) (fun a h1 h2 => Nat.lt_irrefl _ (Nat.lt_of_lt_of_le h1 h2))
  · exact vx_Zqof (hts _ (by decide +kernel)) (hts _ (by decide +kernel)) (hfl _ (by decide +kernel)) (fun a h1 h2 => Nat.lt_irrefl _ (Nat.lt_of_lt_of_le h1 h2))
  · refine str_known (args := #[Value.ref b]) (fun q hq => hts _ ?_) (fun q hq => hfl _ ?_)
    · have : ∀ q ∈ txts, Cond.stringRef "Coppinghouse" q.1 q.2 ∈ lw_tbl := by decide +kernel
      exact this q hq
    · have : ∀ q ∈ txts, Cond.exactly (.string "Coppinghouse" q.1) "java/lang/String" ∈ flatC (Jvm.Cond.and given_1 narrow_1) := by decide +kernel
      exact this q hq
  · intro w hw
    exact ng_moved hw (Vm.Alike.refl s.vm) (hts w (List.mem_filter.mp hw).1)
  · intro i j hi hj hij
    have hall : ∀ i, i < 3 → ∀ j, j < 3 → i ≠ j → Cond.not (.castable (exn i) (exn j)) ∈ flatC (Jvm.Cond.and given_1 narrow_1) := by decide +kernel
    exact va_Nc.of (hfl _ (hall i hi j hj hij))
theorem no_traces {l : Launch} (h : l.flags = flags0) : l.stackTraces = false := by
  unfold Launch.stackTraces
  rw [h]
  decide +kernel
theorem whole_start (hT : Tab) (hOK : LawOK) {p : Program} {e : Env} {s : State} {m : MethodId} {below : List Frame} {meth : Method} {c : Code} (l : Launch) (hflags : l.flags = flags0) {b L : Nat} {xs : Nat → Int32} (hL : L ≤ 260) (hnm : meth.name = x.name) (hex : c.exceptionTable.toList = []) (C0 : lw_At p s m meth c b L xs) : W p l e room_1 s m #[Value.ref b] below meth c s.heap [] 0 0 (lw_Z below #[Value.ref b] s) (entryFrame m ([Value.ref b] : List Value).toArray 20) := by
  obtain ⟨hx, hb, hr, hml, hown, hts, hX, hbl, hlocks, hgv⟩ := C0
  obtain ⟨dC, dI, cI, cJ, hE⟩ := env_start hts hX hbl hgv
  obtain ⟨h, hev, hc, hz⟩ := hOK L xs hL
  have hs := snd_all (dC := dC) (dI := dI) (cI := cI) (cJ := cJ) (bs := b) (ba := s.heap.size) (Ls := L) (xs := xs) (sa := saOf s) hT (no_traces hflags) hev
  obtain ⟨ls, hen, hl⟩ := entry_lcs (m0 := m) (bs := b) (ba := s.heap.size) (as := [.ref 0]) (nL := 20) rfl (by decide)
  have hen' : entryFrame m ([Value.ref b] : List Value).toArray 20 = F0 m 0 ls [] := hen
  rw [hen']
  refine hs.2.2 p e room_1 s m #[Value.ref b] below meth c km_L_law s.heap [] 0 0 ls 1 L (lw_Z below #[Value.ref b] s) rfl ?_ ?_ ?_ ?_ ?_
  · refine ⟨hx, hb, hml, hr, hown, hlocks, hnm, hex, fun w hw => hts w (List.mem_filter.mp hw).1, hE, ?_, ?_⟩
    · exact Nat.le_of_ble_eq_true rfl
    · exact Nat.le_of_ble_eq_true rfl
  · refine ⟨⟨[], rfl, fun k q hq => (by cases hq), Nat.le_refl _⟩, va_S.rf, hl, rfl, ?_, fun _ => rfl⟩
    show 0 + L = 6 * 0 + (L + 0)
    omega
  · exact Nat.le_trans hc (Nat.le_of_ble_eq_true rfl)
  · exact Nat.le_trans hz (Nat.le_trans (Nat.le_of_ble_eq_true rfl : 7301314 ≤ 7301314 + 0) (Nat.add_le_add_left (Nat.zero_le L) _))
  · intro pc' ls' H' locs' cells' slots' hr1 hC hS hcc hzz
    refine va_forget hS.2.2 ?_
    refine W.widen (k := 600104) (n := 7301314) ?_ ?_ ?_
    · have hcc' : cells' + 1 = cnt h := hcc
      exact Nat.le_trans (Nat.le_succ _) (Nat.le_trans (Nat.le_of_eq hcc') hc)
    · have hzz' : slots' + L = slt h := hzz
      exact Nat.le_trans (Nat.le_add_right _ _) (Nat.le_trans (Nat.le_of_eq hzz') hz)
    · exact lw_ret hx hb hr hlocks hr1.1
end
end
section
section
set_option maxHeartbeats 4000000 in
theorem lw_walk (hT : Tab) (hOK : LawOK) (l : Launch) (hflags : l.flags = flags0) (b : Addr) (xs : List Int32) : MetFree l x (headSpec (Jvm.Cond.code x code maxLocals ret :: tables_1) room_1) (lw_P b xs) (fun _ _ _ _ _ => True) lw_Q := by
  refine MetFree.of_bodyS (code := code) (maxLocals := maxLocals) (ret := ret) (by decide) ?_ ?_
  · intro args s m h hn
    obtain ⟨meth, c, h1, h2, h3, h4, h5, h6, -, -⟩ := Cond.code_spec hn (atoms_spec (ws := Jvm.Cond.code x code maxLocals ret :: tables_1) h _ List.mem_cons_self)
    exact ⟨meth, c, h1, h2, h3, h4, h5, h6⟩
  · intro p e s m args below meth c s₁ B hml0 hP _
    obtain ⟨rfl, hx, hbd, hgv⟩ := hP
    obtain ⟨scr, harrAt, hlist, hof, hsmall⟩ := hx
    obtain ⟨hcb, hkn, -, -⟩ := State.arrayAt?_spec harrAt
    have hown : s.vm.findClass R_law = some m.cls := findClass_of_methodNamed B.named
    have hts0 : ∀ c ∈ (Jvm.Cond.code x code maxLocals ret :: tables_1), c.before #[Value.ref b] s = true := atoms_spec (ws := Jvm.Cond.code x code maxLocals ret :: tables_1) B.pre
    have hts : ∀ w ∈ lw_tbl, w.before #[Value.ref b] s = true := k2_hts_sels lw_privs (fun w hw => hts0 w (List.mem_cons_of_mem _ hw)) lw_privs_ok
    have hexT : c.exceptionTable.toList = [] := by
      obtain ⟨meth9, c9, h1, h2, -, -, -, -, h7, -⟩ := Cond.code_spec B.named (hts0 _ List.mem_cons_self)
      cases Option.some.inj (h1.symm.trans B.method)
      cases Option.some.inj (h2.symm.trans (Stand.of_body B).code)
      rw [Array.isEmpty_iff.mp h7]
    have hml : c.maxLocals = 20 := B.maxLocals_eq (hts0 _ List.mem_cons_self)
    have X₀ : Stand p l e room_1 s m #[Value.ref b] below meth c s₁ [] 0 0 := Stand.of_body B
    have hh0 : s₁.heap = s.heap := by rw [B.state]; rfl
    have hsz : scr.slots.size = xs.length := by rw [← Array.length_toList, hlist, List.length_map]
    have hval : ∀ j : Nat, j < xs.length → scr.slots[j]? = some (.int (xs.getD j 0)) := fun j hj => by
      rw [← Array.getElem?_toList, hlist]
      simp [hj]
    have hbl : b < s.heap.size := (Array.getElem?_eq_some_iff.mp hcb).1
    have hX : va_X b xs.length (fun j => xs.getD j 0) s s.heap := ⟨scr, hcb, hof, hkn, hsz, hval⟩
    have K : W p l e room_1 s m #[Value.ref b] below meth c s₁.heap [] 0 0 (lw_Z below #[Value.ref b] s) (entryFrame m ([Value.ref b] : List Value).toArray 20) := by
      rw [hh0]
      exact whole_start hT hOK l hflags hbd (name_of_methodNamed B.named B.method).1 (hexT) ⟨B.exec, B.bytes, B.returns, hml, hown, hts, hX, hbl, B.notSynchronized, hgv⟩
    obtain ⟨t, a1, o, b1, b2, b3⟩ := K s₁ rfl X₀
    exact ⟨t, o, a1, b1, b2, b3⟩
theorem lw_pre_spec {args : Array Value} {s : State} (h : (Jvm.Cond.and given_1 narrow_1).before args s = true) (hr : rest_1_c.before args s = true) : ∃ (b : Addr) (xs : List Int32), lw_P b xs args s := by
  have hs := flat_of_before _ h
  have hq := flat_of_before _ hr
  have hc : (Cond.count 1).before args s = true := hs _ (by decide +kernel)
  have harr : (Cond.arrayOf (.arg 0) .int).before args s = true := hs _ (by decide +kernel)
  have hle : (Cond.le (.length (.arg 0)) (.int 260)).before args s = true := hs _ (by decide +kernel)
  have hlen : (Cond.isInt (.length (.arg 0))).before args s = true := hq _ (by decide +kernel)
  have hall : (Cond.all (.arg 0) (.isInt (.elem (.arg 0) (.index 0)))).before args s = true := hq _ (by decide +kernel)
  obtain ⟨b, xs, hb, hx⟩ := State.ints_of_pre rfl harr hlen hall
  have hsm : xs.length < 2 ^ 31 := hx.choose_spec.2.2.2
  have hev : (Term.length (.arg 0)).eval args s none [] s = some (.int xs.length.toInt32) := hx.length_eval hb
  have hv := Cond.le_ints hev (show (Term.int 260).eval args s none [] s = some (.int 260) from rfl)
  have hd : xs.length.toInt32 ≤ 260 := by
    simpa [Cond.before, Cond.holds, hv] using hle
  have hN : xs.length ≤ 260 := (Int32.ofNat_le_ofNat hsm (by decide)).mp (show Int32.ofNat xs.length ≤ Int32.ofNat 260 from hd)
  exact ⟨b, xs, Cond.one_arg hc (show args[0]? = some (.ref b) from hb), hx, hN, h⟩
theorem lw_comes (hT : Tab) (hOK : LawOK) (l : Launch) (hflags : l.flags = flags0) : Comes l x (Jvm.Cond.code x code maxLocals ret :: tables_1) room_1 (fun tb e args s => Calls_1 tb e args s ∧ rest_1 tb e args s ∧ Pre_1 tb e args s)
    (fun _ _ args s o t => lw_Q args s o t) := by
  intro p e ha hc hk s m args below hf hfit hheap happ hpre
  obtain ⟨b, xs, hP⟩ := lw_pre_spec hpre.2.2 hpre.2.1
  obtain ⟨k, o, h1, h2, h3, hQ⟩ := lw_walk hT hOK l hflags b xs p e ha hc hk s m args below hf ((Spec.applies_iff_loose hf).mp happ).1 hP trivial
  exact ⟨k, o, h1, h2, h3, hQ⟩
theorem lw_frame {s t : State} {o : Outcome} {args : Array Value} (h : Framed s o t [] 600104 7301314) :
    Framed s o t (fieldLocs frame_1_writes args s ++ arrayLocs frame_1_arrays args s ++ staticLocs frame_1_statics s) 600104 7301314 := h
theorem lw_limb (hT : Tab) (hOK : LawOK) (L : Cond) (hL : ∀ (args : Array Value) (s t : State), L.after args s (.returned (some (.int 1))) t = true) :
    ArmFor flags0 classFile x code maxLocals ret World_1 tables_1 room_1 Calls_1 rest_1 Pre_1
      (fun tb e a s o t => postC L tb e a s o t ∧ Framed s o t (fieldLocs frame_1_writes a s ++ arrayLocs frame_1_arrays a s ++ staticLocs frame_1_statics s) 600104 7301314) := by
  intro l hflags _ _ p e ha hc hk s m args below hf hfit hheap happ hpre
  obtain ⟨k, o, h1, h2, h3, rfl, hF⟩ := lw_comes hT hOK l hflags p e ha hc hk s m args below hf hfit hheap happ hpre
  exact ⟨k, _, h1, h2, h3, hL args s _, lw_frame hF⟩
theorem claim_of (hT : Tab) (hOK : LawOK) : Claimed_1_1 ∧ Claimed_1_2 := ⟨lw_limb hT hOK limb_1_1 (fun args s t => by simp [limb_1_1, Cond.after, Cond.holds, Cond.value]), lw_limb hT hOK limb_1_2 (fun args s t => Cond.after_iff.mpr (by
  first | (rw [show limb_1_2 = Cond.eq .result (.int 1) from rfl, Cond.eq_ints (x := 1) (y := 1) rfl rfl]; simp; done) | (simp [limb_1_2, Cond.value, Term.eval]; done)))⟩

end
end
section
theorem i_vc : Claimed_1_1 ∧ Claimed_1_2 := sorry
end
