section
-- ===== PART A: goes FIRST, ahead of the names: the tables' words, and 'selects' of the private methods out of them =====
/-- a private method of a class that the tables say can be made, by its rows of tables_1 -/
def lw_okq (q : MethodName × Nat) : Prop := (q.1.cls ≠ "java/lang/invoke/MethodHandle" ∧ q.1.cls ≠ "java/lang/invoke/VarHandle") ∧ Cond.instantiable q.1.cls q.2 ∈ tables_1 ∧ Cond.privateMethod q.1 ∈ tables_1 ∧ Cond.instanceMethod q.1 ∈ tables_1
theorem lw_p0 : lw_okq (⟨"java/lang/Throwable", "fillInStackTrace", "(I)Ljava/lang/Throwable;"⟩, 6) := ⟨⟨by decide +kernel, by decide +kernel⟩, List.mem_of_getElem? (i := 140) (by decide +kernel), List.mem_of_getElem? (i := 138) (by decide +kernel), List.mem_of_getElem? (i := 139) (by decide +kernel)⟩
theorem lw_p1 : lw_okq (⟨"SmokeZones", "needPlace", "(I)V"⟩, 17) := ⟨⟨by decide +kernel, by decide +kernel⟩, List.mem_of_getElem? (i := 16) (by decide +kernel), List.mem_of_getElem? (i := 241) (by decide +kernel), List.mem_of_getElem? (i := 242) (by decide +kernel)⟩
theorem lw_p2 : lw_okq (⟨"SmokeZones", "isRoom", "(I)Z"⟩, 17) := ⟨⟨by decide +kernel, by decide +kernel⟩, List.mem_of_getElem? (i := 16) (by decide +kernel), List.mem_of_getElem? (i := 245) (by decide +kernel), List.mem_of_getElem? (i := 246) (by decide +kernel)⟩
theorem lw_p3 : lw_okq (⟨"SmokeZones", "passSecond", "()V"⟩, 17) := ⟨⟨by decide +kernel, by decide +kernel⟩, List.mem_of_getElem? (i := 16) (by decide +kernel), List.mem_of_getElem? (i := 435) (by decide +kernel), List.mem_of_getElem? (i := 436) (by decide +kernel)⟩
theorem lw_p4 : lw_okq (⟨"SmokeZones", "burnFires", "()V"⟩, 17) := ⟨⟨by decide +kernel, by decide +kernel⟩, List.mem_of_getElem? (i := 16) (by decide +kernel), List.mem_of_getElem? (i := 439) (by decide +kernel), List.mem_of_getElem? (i := 440) (by decide +kernel)⟩
theorem lw_p5 : lw_okq (⟨"SmokeZones", "flowThroughOpenings", "()V"⟩, 17) := ⟨⟨by decide +kernel, by decide +kernel⟩, List.mem_of_getElem? (i := 16) (by decide +kernel), List.mem_of_getElem? (i := 455) (by decide +kernel), List.mem_of_getElem? (i := 456) (by decide +kernel)⟩
theorem lw_p6 : lw_okq (⟨"SmokeZones", "blowFans", "()V"⟩, 17) := ⟨⟨by decide +kernel, by decide +kernel⟩, List.mem_of_getElem? (i := 16) (by decide +kernel), List.mem_of_getElem? (i := 500) (by decide +kernel), List.mem_of_getElem? (i := 501) (by decide +kernel)⟩
theorem lw_p7 : lw_okq (⟨"SmokeZones", "pressOutOfRooms", "()V"⟩, 17) := ⟨⟨by decide +kernel, by decide +kernel⟩, List.mem_of_getElem? (i := 16) (by decide +kernel), List.mem_of_getElem? (i := 511) (by decide +kernel), List.mem_of_getElem? (i := 512) (by decide +kernel)⟩
theorem lw_p8 : lw_okq (⟨"SmokeZones", "warmThings", "()V"⟩, 17) := ⟨⟨by decide +kernel, by decide +kernel⟩, List.mem_of_getElem? (i := 16) (by decide +kernel), List.mem_of_getElem? (i := 520) (by decide +kernel), List.mem_of_getElem? (i := 521) (by decide +kernel)⟩
theorem lw_p9 : lw_okq (⟨"SmokeZones", "movePersons", "()V"⟩, 17) := ⟨⟨by decide +kernel, by decide +kernel⟩, List.mem_of_getElem? (i := 16) (by decide +kernel), List.mem_of_getElem? (i := 546) (by decide +kernel), List.mem_of_getElem? (i := 547) (by decide +kernel)⟩
theorem lw_p10 : lw_okq (⟨"SmokeZones", "noteLowRooms", "()V"⟩, 17) := ⟨⟨by decide +kernel, by decide +kernel⟩, List.mem_of_getElem? (i := 16) (by decide +kernel), List.mem_of_getElem? (i := 564) (by decide +kernel), List.mem_of_getElem? (i := 565) (by decide +kernel)⟩
theorem lw_p11 : lw_okq (⟨"SmokeZones", "smokeInRooms", "()J"⟩, 17) := ⟨⟨by decide +kernel, by decide +kernel⟩, List.mem_of_getElem? (i := 16) (by decide +kernel), List.mem_of_getElem? (i := 612) (by decide +kernel), List.mem_of_getElem? (i := 613) (by decide +kernel)⟩
theorem lw_p12 : lw_okq (⟨"SmokeZonesModel", "isRoom", "(I)Z"⟩, 47) := ⟨⟨by decide +kernel, by decide +kernel⟩, List.mem_of_getElem? (i := 616) (by decide +kernel), List.mem_of_getElem? (i := 781) (by decide +kernel), List.mem_of_getElem? (i := 782) (by decide +kernel)⟩
theorem lw_p13 : lw_okq (⟨"SmokeZonesModel", "isRoomOrOut", "(I)Z"⟩, 47) := ⟨⟨by decide +kernel, by decide +kernel⟩, List.mem_of_getElem? (i := 616) (by decide +kernel), List.mem_of_getElem? (i := 785) (by decide +kernel), List.mem_of_getElem? (i := 786) (by decide +kernel)⟩
theorem lw_p14 : lw_okq (⟨"SmokeZonesModel", "burn", "()V"⟩, 47) := ⟨⟨by decide +kernel, by decide +kernel⟩, List.mem_of_getElem? (i := 616) (by decide +kernel), List.mem_of_getElem? (i := 822) (by decide +kernel), List.mem_of_getElem? (i := 823) (by decide +kernel)⟩
theorem lw_p15 : lw_okq (⟨"SmokeZonesModel", "flow", "()V"⟩, 47) := ⟨⟨by decide +kernel, by decide +kernel⟩, List.mem_of_getElem? (i := 616) (by decide +kernel), List.mem_of_getElem? (i := 827) (by decide +kernel), List.mem_of_getElem? (i := 828) (by decide +kernel)⟩
def lw_privs_1 : List (MethodName × Nat) := [(⟨"java/lang/Throwable", "fillInStackTrace", "(I)Ljava/lang/Throwable;"⟩, 6), (⟨"SmokeZones", "needPlace", "(I)V"⟩, 17), (⟨"SmokeZones", "isRoom", "(I)Z"⟩, 17), (⟨"SmokeZones", "passSecond", "()V"⟩, 17), (⟨"SmokeZones", "burnFires", "()V"⟩, 17), (⟨"SmokeZones", "flowThroughOpenings", "()V"⟩, 17), (⟨"SmokeZones", "blowFans", "()V"⟩, 17), (⟨"SmokeZones", "pressOutOfRooms", "()V"⟩, 17), (⟨"SmokeZones", "warmThings", "()V"⟩, 17), (⟨"SmokeZones", "movePersons", "()V"⟩, 17), (⟨"SmokeZones", "noteLowRooms", "()V"⟩, 17), (⟨"SmokeZones", "smokeInRooms", "()J"⟩, 17), (⟨"SmokeZonesModel", "isRoom", "(I)Z"⟩, 47), (⟨"SmokeZonesModel", "isRoomOrOut", "(I)Z"⟩, 47), (⟨"SmokeZonesModel", "burn", "()V"⟩, 47), (⟨"SmokeZonesModel", "flow", "()V"⟩, 47)]
theorem lw_r1 : ∀ q ∈ lw_privs_1, lw_okq q := List.forall_mem_cons.mpr ⟨lw_p0, List.forall_mem_cons.mpr ⟨lw_p1, List.forall_mem_cons.mpr ⟨lw_p2, List.forall_mem_cons.mpr ⟨lw_p3, List.forall_mem_cons.mpr ⟨lw_p4, List.forall_mem_cons.mpr ⟨lw_p5, List.forall_mem_cons.mpr ⟨lw_p6, List.forall_mem_cons.mpr ⟨lw_p7, List.forall_mem_cons.mpr ⟨lw_p8, List.forall_mem_cons.mpr ⟨lw_p9, List.forall_mem_cons.mpr ⟨lw_p10, List.forall_mem_cons.mpr ⟨lw_p11, List.forall_mem_cons.mpr ⟨lw_p12, List.forall_mem_cons.mpr ⟨lw_p13, List.forall_mem_cons.mpr ⟨lw_p14, List.forall_mem_cons.mpr ⟨lw_p15, fun _ h => absurd h List.not_mem_nil⟩⟩⟩⟩⟩⟩⟩⟩⟩⟩⟩⟩⟩⟩⟩⟩
theorem lw_p16 : lw_okq (⟨"SmokeZonesModel", "covered", "(II)J"⟩, 47) := ⟨⟨by decide +kernel, by decide +kernel⟩, List.mem_of_getElem? (i := 616) (by decide +kernel), List.mem_of_getElem? (i := 831) (by decide +kernel), List.mem_of_getElem? (i := 832) (by decide +kernel)⟩
theorem lw_p17 : lw_okq (⟨"SmokeZonesModel", "clearTo", "(I)J"⟩, 47) := ⟨⟨by decide +kernel, by decide +kernel⟩, List.mem_of_getElem? (i := 616) (by decide +kernel), List.mem_of_getElem? (i := 835) (by decide +kernel), List.mem_of_getElem? (i := 836) (by decide +kernel)⟩
theorem lw_p18 : lw_okq (⟨"SmokeZonesModel", "blow", "()V"⟩, 47) := ⟨⟨by decide +kernel, by decide +kernel⟩, List.mem_of_getElem? (i := 616) (by decide +kernel), List.mem_of_getElem? (i := 841) (by decide +kernel), List.mem_of_getElem? (i := 842) (by decide +kernel)⟩
theorem lw_p19 : lw_okq (⟨"SmokeZonesModel", "press", "()V"⟩, 47) := ⟨⟨by decide +kernel, by decide +kernel⟩, List.mem_of_getElem? (i := 616) (by decide +kernel), List.mem_of_getElem? (i := 845) (by decide +kernel), List.mem_of_getElem? (i := 846) (by decide +kernel)⟩
theorem lw_p20 : lw_okq (⟨"SmokeZonesModel", "act", "()V"⟩, 47) := ⟨⟨by decide +kernel, by decide +kernel⟩, List.mem_of_getElem? (i := 616) (by decide +kernel), List.mem_of_getElem? (i := 849) (by decide +kernel), List.mem_of_getElem? (i := 850) (by decide +kernel)⟩
theorem lw_p21 : lw_okq (⟨"SmokeZonesModel", "isHot", "(II)Z"⟩, 47) := ⟨⟨by decide +kernel, by decide +kernel⟩, List.mem_of_getElem? (i := 616) (by decide +kernel), List.mem_of_getElem? (i := 853) (by decide +kernel), List.mem_of_getElem? (i := 854) (by decide +kernel)⟩
theorem lw_p22 : lw_okq (⟨"SmokeZonesModel", "warmth", "(I)J"⟩, 47) := ⟨⟨by decide +kernel, by decide +kernel⟩, List.mem_of_getElem? (i := 616) (by decide +kernel), List.mem_of_getElem? (i := 857) (by decide +kernel), List.mem_of_getElem? (i := 858) (by decide +kernel)⟩
theorem lw_p23 : lw_okq (⟨"SmokeZonesModel", "breathe", "()V"⟩, 47) := ⟨⟨by decide +kernel, by decide +kernel⟩, List.mem_of_getElem? (i := 616) (by decide +kernel), List.mem_of_getElem? (i := 862) (by decide +kernel), List.mem_of_getElem? (i := 863) (by decide +kernel)⟩
def lw_privs_2 : List (MethodName × Nat) := [(⟨"SmokeZonesModel", "covered", "(II)J"⟩, 47), (⟨"SmokeZonesModel", "clearTo", "(I)J"⟩, 47), (⟨"SmokeZonesModel", "blow", "()V"⟩, 47), (⟨"SmokeZonesModel", "press", "()V"⟩, 47), (⟨"SmokeZonesModel", "act", "()V"⟩, 47), (⟨"SmokeZonesModel", "isHot", "(II)Z"⟩, 47), (⟨"SmokeZonesModel", "warmth", "(I)J"⟩, 47), (⟨"SmokeZonesModel", "breathe", "()V"⟩, 47)]
theorem lw_r2 : ∀ q ∈ lw_privs_2, lw_okq q := List.forall_mem_cons.mpr ⟨lw_p16, List.forall_mem_cons.mpr ⟨lw_p17, List.forall_mem_cons.mpr ⟨lw_p18, List.forall_mem_cons.mpr ⟨lw_p19, List.forall_mem_cons.mpr ⟨lw_p20, List.forall_mem_cons.mpr ⟨lw_p21, List.forall_mem_cons.mpr ⟨lw_p22, List.forall_mem_cons.mpr ⟨lw_p23, fun _ h => absurd h List.not_mem_nil⟩⟩⟩⟩⟩⟩⟩⟩
def lw_privs : List (MethodName × Nat) := lw_privs_1 ++ (lw_privs_2)
def lw_tbl : List Cond := k2_sels lw_privs ++ tables_1
theorem lw_privs_ok : ∀ q ∈ lw_privs, lw_okq q := by
  show ∀ q ∈ lw_privs_1 ++ (lw_privs_2), lw_okq q
  exact List.forall_mem_append.mpr ⟨lw_r1, lw_r2⟩

/-! ===== BEGIN words of one list among another's, by their places ===== -/
theorem goodIn_r {big : List Cond} (ws : List Cond) (ps : List Nat) (hp : ws = ps.filterMap (fun i => big[i]?)) (h : ws.all goodWord = true) : GoodIn big ws := by
  intro w hw
  have h1 := List.all_eq_true.mp h w hw
  rw [hp] at hw
  obtain ⟨i, -, hi⟩ := List.mem_filterMap.mp hw
  have hm : w ∈ big := by first | exact List.mem_of_getElem? hi | exact List.getElem?_mem hi
  exact ⟨hm, good_of_word h1⟩
theorem goodIn_app {big a b : List Cond} (ha : GoodIn big a) (hb : GoodIn big b) : GoodIn big (a ++ b) := fun w h => (List.mem_append.mp h).elim (ha w) (hb w)
theorem goodIn_ca {big a b : List Cond} {c : Cond} (ha : GoodIn big (c :: a)) (hb : GoodIn big b) : GoodIn big (c :: (a ++ b)) := fun w h => (List.mem_cons.mp h).elim (fun e => ha w (List.mem_cons.mpr (Or.inl e))) (fun h => (List.mem_append.mp h).elim (fun h => ha w (List.mem_cons.mpr (Or.inr h))) (hb w))
theorem goodIn_sub {big ws : List Cond} (hm : ∀ w ∈ ws, w ∈ big) (h : ws.all goodWord = true) : GoodIn big ws := fun w hw => ⟨hm w hw, good_of_word (List.all_eq_true.mp h w hw)⟩
/-! ===== END ===== -/

/-! ===== BEGIN exceptions that leave a method, and their catching by the caller (launches without stack traces) ===== -/
section VXA
/-! The laws vx_back, vx_callV, vx_callS, vx_callSW, vx_throw0, vx_throwS follow proofs of the library, with one case more: JvmDerived/Free/Laws.lean (Back.of_free), Shelf42/LK1.lean (callV, callS), Shelf/KitTraced.lean (throwNew0V, throwNewS). -/
/-- where a method has thrown q: the class by its name, the cell, what was written, the world -/
def vx_T (XC : String → State → State → Prop) (st : State) (q : Addr) (t : State) (mc ms : Nat) (free : Addr → Prop) : Prop :=
  ∃ (E : String) (ce : Cell) (L : List Loc), XC E st t ∧ t.heap[q]? = some ce ∧ ce.vm = .none ∧ st.vm.findClass E = some ce.cls ∧ st.WarmedH t.vm ∧ st.sameButNew ({ t with vm := st.vm } : State) L mc ms ∧ ∀ z ∈ L, free z.base
def vx_Q (Qc : Array Value → State → Outcome → State → Prop) (XC : String → State → State → Prop) (mc ms : Nat) (free : Addr → Prop) : Array Value → State → Outcome → State → Prop := fun a st o t =>
  (Qc a st o t ∧ ∃ L, FrameEnd st o t L mc ms ∧ ∀ q ∈ L, free q.base) ∨ ∃ q, o = .threw q ∧ vx_T XC st q t mc ms free
/-- a callee that returns or throws -/
def vx_Met (l : Launch) (y : MethodName) (ws : List Cond) (rm : Room) (Pc : Array Value → State → Prop) (Qc : Array Value → State → Outcome → State → Prop) (XC : String → State → State → Prop) (mc ms : Nat) (free : Addr → Prop) : Prop :=
  MetFree l y (headSpec ws rm) Pc (fun _ _ _ _ _ => True) (vx_Q Qc XC mc ms free)
def vx_Post (XC : String → State → State → Prop) (mc ms : Nat) (free : Addr → Prop) : Pt → Array Value → Addr → Pt → Prop := fun A a q B =>
  ∃ (g : JFrame) (mk : MethodId) (t : State) (L : List Loc) (E : String) (ce : Cell), B.U.heap = t.heap ∧ B.U.vm = t.vm ∧ XC E (A.U.calling g mk a) t ∧ t.heap[q]? = some ce ∧ ce.vm = .none ∧ A.U.vm.findClass E = some ce.cls ∧ B.locs = A.locs ++ L ∧ (∀ z ∈ L, free z.base) ∧ B.cells = A.cells + mc ∧ B.slots = A.slots + ms
def vx_Back (l : Launch) (R : Room) (p : Program) (e : Env) (below : List Frame) (s : State) (sargs : Array Value) (y : MethodName) (len W9 : Nat)
    (Pre : Pt → Array Value → Prop) (Post : Pt → Array Value → Option Value → Pt → Prop) (PostX : Pt → Array Value → Addr → Pt → Prop) : Prop :=
  ∀ (m : MethodId) (meth : Method) (c : Code) (A : Pt) (g : JFrame) (ig : Instr) (mk : MethodId) (a : Array Value),
    Stand p l e R s m sargs below meth c A.U A.locs A.cells A.slots → g.method = m → g.locals.size = c.maxLocals → decode c.code g.pc = .ok (ig, len) →
    2 * g.monitorRoom + (g.stack.map fun v => v.category).sum ≤ W9 → A.U.methodNamed? y = some mk → Pre A a →
    (∃ (v : Option Value) (B : Pt), Stand p l e R s m sargs below meth c B.U B.locs B.cells B.slots ∧ Post A a v B ∧
      Steps p.tables e below (doInvoke e (A.U.setTop g) [] mk a).1 (B.U.setTop { g with pc := g.pc + len, stack := v.toList ++ g.stack })) ∨
    (∃ (q : Addr) (B : Pt), Stand p l e R s m sargs below meth c B.U B.locs B.cells B.slots ∧ PostX A a q B ∧
      Steps p.tables e below (doInvoke e (A.U.setTop g) [] mk a).1 ((B.U.setTop g).pushFrame (.throwing q)))
section Payer
variable {l : Launch} {R : Room} {p : Program} {e : Env} {below : List Frame} {s : State} {sargs : Array Value} {y : MethodName} {len W9 : Nat}
theorem vx_back {ws : List Cond} {rm : Room} {Pc : Array Value → State → Prop} {Qc : Array Value → State → Outcome → State → Prop} {XC : String → State → State → Prop} {mc ms : Nat} {free : Addr → Prop} {bytes : ByteArray} {maxL : Nat} {ret : Option FieldType}
    (hM : vx_Met l y ws rm Pc Qc XC mc ms free) (hblind : FrameBlind Pc) (hrc : rm.cells = mc) (hrs : rm.slots = ms)
    (hframes : rm.frames + 1 ≤ R.frames) (hlocals : W9 + (maxL + 11) + rm.locals ≤ R.locals)
    (hws : ∀ w ∈ ws, ∀ a' U, s.WarmedH U.vm → w.before a' U = true) (hcode : Cond.code y bytes maxL ret ∈ ws) (hinit : ∀ a' U, s.WarmedH U.vm → (Cond.initialized y.cls).before a' U = true) :
    vx_Back l R p e below s sargs y len W9 (PreOf R mc ms Pc) (PostOf Qc mc ms free) (vx_Post XC mc ms free) := by
  intro m meth c A g ig mk a X hg hsize hdg hW hn hp
  have h1 : (headSpec ws rm).pre.before a A.U = true := atoms_intro fun w hw => hws w hw _ _ X.warmed
  have h2 : (Cond.code y bytes maxL ret).before a A.U = true := hws _ hcode _ _ X.warmed
  have h3 : (Cond.initialized y.cls).before a A.U = true := hinit _ _ X.warmed
  have h4 : A.cells + (headSpec ws rm).room.cells ≤ R.cells := by rw [show (headSpec ws rm).room.cells = mc from hrc]; exact hp.1
  have h5 : A.slots + (headSpec ws rm).room.slots ≤ R.slots := by rw [show (headSpec ws rm).room.slots = ms from hrs]; exact hp.2.1
  have hPc : Pc a (A.U.calling g mk a) := hblind _ _ _ _ hp.2.2
  obtain ⟨U, Ls, c0, s0⟩ := A
  dsimp only [Pt.U, Pt.locs, Pt.cells, Pt.slots] at h1 h2 h3 h4 h5 X hn hPc ⊢
  obtain ⟨methY, cY, hmY, hcY, -, hlY, -, -, -, -⟩ := Cond.code_spec hn h2
  obtain ⟨kY, hkY, -⟩ := className_of_methodNamed hn
  have hinitY : kY.init = .initialized := Cond.initialized_spec (findClass_of_methodNamed hn) hkY h3
  have h : At U g.method c below := by rw [hg]; exact X.here
  have hlocals9 : W9 + (maxL + 11) + (headSpec ws rm).room.locals ≤ R.locals := hlocals
  have happ : (headSpec ws rm).appliesLoose y e.platform (U.calling g mk a) = true :=
    Spec.appliesLoose_calling (g := g) h hdg hn hkY hinitY
      (X.room_calling (g := g) (R' := (headSpec ws rm).room) hsize hmY hcY hframes (by rw [hlY]; omega) h4 h5) h1
  obtain ⟨mid, hmid⟩ := h.above
  have hfr : (U.setTop g).frames = (.java g :: mid) ++ below := by rw [State.frames_setTop' g h.top, hmid]; rfl
  obtain ⟨o, s₂, hsteps, -, hend, hq⟩ := Steps.callFree hM p X.admits X.cas X.clock (acts := []) hfr happ hPc trivial
  have hq' : vx_Q Qc XC mc ms free a (U.calling g mk a) o s₂ := hq
  rw [State.frames_setTop' g h.top] at hend
  obtain ⟨g₀, hg0⟩ := Option.isSome_iff_exists.mp h.top
  obtain ⟨r, hr⟩ := State.topJava?_eq_some.mp hg0
  have hr' : (({ U with heap := s₂.heap, slotsUsed := s₂.slotsUsed } : State).setVm s₂.vm).frames = .java g₀ :: r := hr
  rcases hq' with ⟨hqc, L, hfe, hL⟩ | ⟨q, rfl, E, ce, L, hx, hce, hcv, hcl, hW₂, hsm, hL⟩
  · obtain ⟨⟨v, rfl⟩, hW₂, e2, q2, q3, q4, q5, q6⟩ := id hfe
    have e3 : s₂ = ({ (U.calling g mk a).setFrames s₂.frames with heap := s₂.heap, slotsUsed := s₂.slotsUsed } : State).setVm s₂.vm := by
      have : s₂ = ({ s₂ with vm := (U.calling g mk a).vm } : State).setVm s₂.vm := rfl
      rw [e2] at this
      exact this
    obtain ⟨c₂, i₂, len₂, hc₂, hd₂, hf₂⟩ := hend
    have hW' : U.WarmedH s₂.vm := hW₂
    have hcc : c₂ = c := by
      have h1 : s₂.code? g.method = U.code? g.method := by
        rw [State.code?_eq, State.code?_eq, hW'.alike.method?]
      exact Option.some.inj (hc₂.symm.trans (h1.trans h.code))
    subst hcc
    have hlen : len₂ = len := by rw [hdg] at hd₂; cases hd₂; rfl
    subst hlen
    have hs₂ : s₂ = (({ U with heap := s₂.heap, slotsUsed := s₂.slotsUsed } : State).setVm s₂.vm).setTop { g with pc := g.pc + len₂, stack := v.toList ++ g.stack } := by
      refine e3.trans ?_
      rw [hf₂, State.calling_eq h.top, State.setFrames_setFrames, State.setTop_of_frames _ hr', hr]
      rfl
    have hsame : U.sameButNew ({ U with heap := s₂.heap, slotsUsed := s₂.slotsUsed } : State) L mc ms := by
      refine ⟨?_, q2, q3, q4, q5, q6⟩
      obtain ⟨t, ht, -⟩ := State.frames_cons hr
      show ({ U with heap := s₂.heap, slotsUsed := s₂.slotsUsed } : State) = { U.setFrames U.frames with heap := s₂.heap, slotsUsed := s₂.slotsUsed }
      rw [State.setFrames_self ht]
    subst hg
    refine Or.inl ⟨v, ⟨(({ U with heap := s₂.heap, slotsUsed := s₂.slotsUsed } : State).setVm s₂.vm), Ls ++ L, c0 + mc, s0 + ms⟩,
      ⟨X.admits, X.cas, X.clock, X.frames, X.room, X.hears, X.method, X.code, (X.here.setHeapUsed s₂.heap s₂.slotsUsed).setVm hW'.alike, X.tail, State.WarmedH.trans X.warmed hW', X.limits, X.bytes, X.same.trans (hsame.setVm s.vm)⟩,
      ⟨g, mk, s₂, L, rfl, rfl, hqc, rfl, hL, rfl, rfl⟩, ?_⟩
    show Steps p.tables e below _ ((({ U with heap := s₂.heap, slotsUsed := s₂.slotsUsed } : State).setVm s₂.vm).setTop { g with pc := g.pc + len₂, stack := v.toList ++ g.stack })
    rw [← hs₂]
    exact hsteps
  · obtain ⟨e2, q2, q3, q4, q5, q6⟩ := id hsm
    have e3 : s₂ = ({ (U.calling g mk a).setFrames s₂.frames with heap := s₂.heap, slotsUsed := s₂.slotsUsed } : State).setVm s₂.vm := by
      have : s₂ = ({ s₂ with vm := (U.calling g mk a).vm } : State).setVm s₂.vm := rfl
      rw [e2] at this
      exact this
    have hf₂ : s₂.frames = .throwing q :: .java g :: U.frames.tail := hend
    have hW' : U.WarmedH s₂.vm := hW₂
    have hs₂ : s₂ = ((({ U with heap := s₂.heap, slotsUsed := s₂.slotsUsed } : State).setVm s₂.vm).setTop g).pushFrame (.throwing q) := by
      refine e3.trans ?_
      rw [hf₂, State.calling_eq h.top, State.setFrames_setFrames, State.pushFrame, State.frames_setTop _ hr', State.setTop_of_frames _ hr', State.setFrames_setFrames, hr]
      rfl
    have hsame : U.sameButNew ({ U with heap := s₂.heap, slotsUsed := s₂.slotsUsed } : State) L mc ms := by
      refine ⟨?_, q2, q3, q4, q5, q6⟩
      obtain ⟨t, ht, -⟩ := State.frames_cons hr
      show ({ U with heap := s₂.heap, slotsUsed := s₂.slotsUsed } : State) = { U.setFrames U.frames with heap := s₂.heap, slotsUsed := s₂.slotsUsed }
      rw [State.setFrames_self ht]
    subst hg
    refine Or.inr ⟨q, ⟨(({ U with heap := s₂.heap, slotsUsed := s₂.slotsUsed } : State).setVm s₂.vm), Ls ++ L, c0 + mc, s0 + ms⟩,
      ⟨X.admits, X.cas, X.clock, X.frames, X.room, X.hears, X.method, X.code, (X.here.setHeapUsed s₂.heap s₂.slotsUsed).setVm hW'.alike, X.tail, State.WarmedH.trans X.warmed hW', X.limits, X.bytes, X.same.trans (hsame.setVm s.vm)⟩,
      ⟨g, mk, s₂, L, E, ce, rfl, rfl, hx, hce, hcv, hcl, rfl, hL, rfl, rfl⟩, ?_⟩
    show Steps p.tables e below _ (((({ U with heap := s₂.heap, slotsUsed := s₂.slotsUsed } : State).setVm s₂.vm).setTop g).pushFrame (.throwing q))
    rw [← hs₂]
    exact hsteps
end Payer
section Calls
variable {p : Program} {l : Launch} {e : Env} {R : Room} {s : State} {m : MethodId} {args : Array Value} {below : List Frame} {meth : Method} {c : Code} {T : State} {locs : List Loc} {cells slots : Nat}
theorem vx_callV (X : Stand p l e R s m args below meth c T locs cells slots) (hexec : p.tables.exec = Jvm.exec) {own C : String} {index : Nat} {y : MethodName} {bytes : ByteArray} {maxL : Nat} {ret : Option FieldType}
    (hown : s.vm.findClass own = some m.cls) (hlink : (Cond.methodLink own index y).before args s = true) (hinst : (Cond.instanceMethod y).before args s = true) (hsel : (Cond.selects C y y).before args s = true)
    (hcode : (Cond.code y bytes maxL ret).before args s = true) (hy : y.cls ≠ "java/lang/invoke/MethodHandle" ∧ y.cls ≠ "java/lang/invoke/VarHandle")
    {W9 : Nat} {Pre : Pt → Array Value → Prop} {Post : Pt → Array Value → Option Value → Pt → Prop} {PostX : Pt → Array Value → Addr → Pt → Prop} (hK : vx_Back l R p e below s args y 3 W9 Pre Post PostX)
    {b : Addr} {cellB : Cell} (hcell : T.heap[b]? = some cellB) (hobj : cellB.vm.isStatics = false) (hcls : s.vm.findClass C = some cellB.cls)
    {g : JFrame} (hg : g.method = m) (hsize : g.locals.size = c.maxLocals) {argsL rest : List Value} (hlen : ∀ sig, parseMethodDescriptor y.desc = some sig → argsL.length = sig.parameters.length)
    (hstack : g.stack = argsL.reverse ++ .ref b :: rest) (hW : 2 * g.monitorRoom + (rest.map fun v => v.category).sum ≤ W9) (hdg : decode c.code g.pc = .ok (.invokevirtual index, 3))
    (hpre : ∀ vm₁, s.WarmedH vm₁ → Pre ⟨T.setVm vm₁, locs, cells, slots⟩ (Value.ref b :: argsL).toArray) :
    (∃ (v : Option Value) (vm₁ : Vm) (B : Pt), s.WarmedH vm₁ ∧ Stand p l e R s m args below meth c B.U B.locs B.cells B.slots ∧ Post ⟨T.setVm vm₁, locs, cells, slots⟩ (Value.ref b :: argsL).toArray v B ∧
      ∀ target, Steps p.tables e below (B.U.setTop { g with pc := g.pc + 3, stack := v.toList ++ rest }) target → Steps p.tables e below (T.setTop g) target) ∨
    (∃ (q : Addr) (vm₁ : Vm) (B : Pt), s.WarmedH vm₁ ∧ Stand p l e R s m args below meth c B.U B.locs B.cells B.slots ∧ PostX ⟨T.setVm vm₁, locs, cells, slots⟩ (Value.ref b :: argsL).toArray q B ∧
      Steps p.tables e below (T.setTop g) ((B.U.setTop { g with stack := rest }).pushFrame (.throwing q))) := by
  obtain ⟨mk, methM, hnamed, hmethM, hstM, habM⟩ := Cond.instanceMethod_spec hinst
  obtain ⟨methM', cM, hmethM', -, -, -, -, -, -, hsigM⟩ := Cond.code_spec hnamed hcode
  cases hmethM.symm.trans hmethM'
  obtain ⟨c2, r2, m2, q1, q2, q3, q4, kP, hkP, hkPi⟩ := Cond.selects_spec hsel
  cases hcls.symm.trans q1
  cases (State.methodFound?_of_named hnamed hy).symm.trans q2
  cases hnamed.symm.trans q3
  have hselP : selectMethod e.platform s.vm cellB.cls mk = .method mk := by rw [Launch.admits_selectMethod X.admits]; exact q4
  obtain ⟨vm₁, X₁, hstep₁⟩ := X.invokevirtual hexec hown hlink hnamed hmethM hstM hkP hkPi hy (a := b) (cell := cellB) hcell
    (fun z h => by rw [h] at hobj; cases hobj) hselP hmethM habM hkP hkPi (g := g) hg (argsL := argsL) (rest := rest) (hlen _ hsigM) hstack hdg
  rcases hK m meth c ⟨T.setVm vm₁, locs, cells, slots⟩ { g with stack := rest } (.invokevirtual index) mk (Value.ref b :: argsL).toArray X₁ hg hsize hdg hW (X₁.named hnamed) (hpre vm₁ X₁.warmed) with ⟨v, B, X', hpost, hsteps⟩ | ⟨q, B, X', hpost, hsteps⟩
  · exact Or.inl ⟨v, vm₁, B, X₁.warmed, X', hpost, fun target h => hstep₁ _ fun acts => by rw [doInvoke_state]; exact hsteps.trans h⟩
  · exact Or.inr ⟨q, vm₁, B, X₁.warmed, X', hpost, hstep₁ _ fun acts => by rw [doInvoke_state]; exact hsteps⟩
theorem vx_callS (X : Stand p l e R s m args below meth c T locs cells slots) (hexec : p.tables.exec = Jvm.exec) {own : String} {index : Nat} {y : MethodName} {bytes : ByteArray} {maxL : Nat} {ret : Option FieldType}
    (hown : s.vm.findClass own = some m.cls) (hlink : (Cond.methodLink own index y).before args s = true) (hstat : (Cond.static y).before args s = true) (hinit : (Cond.initialized y.cls).before args s = true)
    (hcode : (Cond.code y bytes maxL ret).before args s = true) (hy : y.cls ≠ "java/lang/invoke/MethodHandle" ∧ y.cls ≠ "java/lang/invoke/VarHandle")
    {W9 : Nat} {Pre : Pt → Array Value → Prop} {Post : Pt → Array Value → Option Value → Pt → Prop} {PostX : Pt → Array Value → Addr → Pt → Prop} (hK : vx_Back l R p e below s args y 3 W9 Pre Post PostX)
    {g : JFrame} (hg : g.method = m) (hsize : g.locals.size = c.maxLocals) {argsL rest : List Value} (hlen : ∀ sig, parseMethodDescriptor y.desc = some sig → argsL.length = sig.parameters.length)
    (hstack : g.stack = argsL.reverse ++ rest) (hW : 2 * g.monitorRoom + (rest.map fun v => v.category).sum ≤ W9) (hdg : decode c.code g.pc = .ok (.invokestatic index, 3))
    (hpre : ∀ vm₁, s.WarmedH vm₁ → Pre ⟨T.setVm vm₁, locs, cells, slots⟩ argsL.toArray) :
    (∃ (v : Option Value) (vm₁ : Vm) (B : Pt), s.WarmedH vm₁ ∧ Stand p l e R s m args below meth c B.U B.locs B.cells B.slots ∧ Post ⟨T.setVm vm₁, locs, cells, slots⟩ argsL.toArray v B ∧
      ∀ target, Steps p.tables e below (B.U.setTop { g with pc := g.pc + 3, stack := v.toList ++ rest }) target → Steps p.tables e below (T.setTop g) target) ∨
    (∃ (q : Addr) (vm₁ : Vm) (B : Pt), s.WarmedH vm₁ ∧ Stand p l e R s m args below meth c B.U B.locs B.cells B.slots ∧ PostX ⟨T.setVm vm₁, locs, cells, slots⟩ argsL.toArray q B ∧
      Steps p.tables e below (T.setTop g) ((B.U.setTop { g with stack := rest }).pushFrame (.throwing q))) := by
  obtain ⟨mk, hnamed⟩ := Cond.code_named hcode
  obtain ⟨methM, cM, hmethM, -, -, -, -, -, -, hsigM⟩ := Cond.code_spec hnamed hcode
  have hstatic : methM.isStatic = true := Cond.static_spec hnamed hmethM hstat
  obtain ⟨kP, hkP, -⟩ := className_of_methodNamed hnamed
  have hinitP : kP.init = .initialized := Cond.initialized_spec (findClass_of_methodNamed hnamed) hkP hinit
  obtain ⟨vm₁, X₁, hstep₁⟩ := X.invokestatic hexec hown hlink hnamed hmethM hstatic hkP hinitP hy (g := g) hg (argsL := argsL) (rest := rest) (hlen _ hsigM) hstack hdg
  rcases hK m meth c ⟨T.setVm vm₁, locs, cells, slots⟩ { g with stack := rest } (.invokestatic index) mk argsL.toArray X₁ hg hsize hdg hW (X₁.named hnamed) (hpre vm₁ X₁.warmed) with ⟨v, B, X', hpost, hsteps⟩ | ⟨q, B, X', hpost, hsteps⟩
  · exact Or.inl ⟨v, vm₁, B, X₁.warmed, X', hpost, fun target h => hstep₁ _ fun acts => by rw [doInvoke_state]; exact hsteps.trans h⟩
  · exact Or.inr ⟨q, vm₁, B, X₁.warmed, X', hpost, hstep₁ _ fun acts => by rw [doInvoke_state]; exact hsteps⟩
end Calls
theorem vx_cls {s : State} {T : State} {vm₁ : Vm} {E : String} {k : ClassId} (hW : s.WarmedH vm₁) (h : (T.setVm vm₁).vm.findClass E = some k) : s.vm.findClass E = some k := by
  have h1 : vm₁.findClass E = some k := h
  rw [hW.alike.findClass] at h1
  exact h1
/-- the method's frame g, with q thrown over it -/
def vx_W (p : Program) (l : Launch) (e : Env) (R : Room) (s : State) (m : MethodId) (args : Array Value) (below : List Frame) (meth : Method) (c : Code) (H : Heap) (locs : List Loc) (cells slots : Nat) (Q : State → Prop) (g : JFrame) (q : Addr) : Prop :=
  ∀ T : State, T.heap = H → Stand p l e R s m args below meth c T locs cells slots → ∃ t, Steps p.tables e below ((T.setTop g).pushFrame (.throwing q)) t ∧ Q t
def vx_Run (p : Program) (l : Launch) (e : Env) (R : Room) (s : State) (m : MethodId) (args : Array Value) (below : List Frame) (meth : Method) (c : Code) (H : Heap) (locs : List Loc) (cells slots mc ms : Nat) (g : JFrame) (rest : List Value) (Qa : State → Outcome → State → Prop) (XC : String → State → State → Prop) (free : Addr → Prop) : Prop :=
  ∀ T : State, T.heap = H → Stand p l e R s m args below meth c T locs cells slots →
    (∃ (v : Option Value) (st₀ t T' : State) (L : List Loc), st₀.heap = H ∧ Stand p l e R s m args below meth c T' (locs ++ L) (cells + mc) (slots + ms) ∧ (∀ q ∈ L, free q.base) ∧ T'.heap = t.heap ∧ T'.vm = t.vm ∧ Qa st₀ (.returned v) t ∧
      Goes p e below T g T' { g with pc := g.pc + 3, stack := v.toList ++ rest }) ∨
    (∃ (q : Addr) (st₀ t T' : State) (L : List Loc) (E : String) (ce : Cell), st₀.heap = H ∧ Stand p l e R s m args below meth c T' (locs ++ L) (cells + mc) (slots + ms) ∧ (∀ z ∈ L, free z.base) ∧ T'.heap = t.heap ∧ T'.vm = t.vm ∧ XC E st₀ t ∧ t.heap[q]? = some ce ∧ ce.vm = .none ∧ s.vm.findClass E = some ce.cls ∧
      Steps p.tables e below (T.setTop g) ((T'.setTop { g with stack := rest }).pushFrame (.throwing q)))
def vx_X {S : Type} (px : S → Prop) (B : String → S → State → Prop) (A : Nat → Prop) : String → State → State → Prop := fun E st t => ∃ u : S, px u ∧ B E u t ∧ va_F A st t
section Runs
variable {p : Program} {l : Launch} {e : Env} {R : Room} {s : State} {m : MethodId} {args : Array Value} {below : List Frame} {meth : Method} {c : Code} {H : Heap} {locs : List Loc} {cells slots : Nat}
variable {y : MethodName} {bytes cc : ByteArray} {maxL nL mc ms n index : Nat} {ret : Option FieldType} {ws : List Cond} {rm : Room} {Pc : Array Value → State → Prop} {Qc : Array Value → State → Outcome → State → Prop} {XC : String → State → State → Prop} {free : Addr → Prop} {Ts : List Cond} {own C : String} {b : Addr} {As rest : List Value} {g : JFrame}
theorem vx_callBack (cb : CallB R s args own index y bytes maxL ret ws rm mc ms n) (hM : vx_Met l y ws rm Pc Qc XC mc ms free) (hbl : FrameBlind Pc) : vx_Back l R p e below s args y 3 8 (PreOf R mc ms Pc) (PostOf Qc mc ms free) (vx_Post XC mc ms free) := by
  obtain ⟨hrc, hrs, hfr, hlo, hws, hcw, -, hini, -⟩ := cb
  exact vx_back (bytes := bytes) (maxL := maxL) (ret := ret) hM hbl hrc hrs hfr hlo hws hcw (fun a' U hW => word_at hW (Or.inl (by first | rfl | simp [Cond.onTables, Cond.keeps, Cond.steady])) hini)
theorem vx_runV (S : CallFix p m c cc nL s args Ts own) (hM : vx_Met l y ws rm Pc Qc XC mc ms free) (cw : CallW R s args own C index y bytes maxL ret ws rm mc ms n) (hp : PreV s H C b Pc As)
    (hg : g.method = m) (hn : As.length = n) (hsize : g.locals.size = nL) (hstack : g.stack = As.reverse ++ .ref b :: rest) (hW : 2 * g.monitorRoom + (rest.map fun v => v.category).sum ≤ 8) (hdg : decode cc g.pc = .ok (.invokevirtual index, 3)) (hf : cells + mc ≤ R.cells ∧ slots + ms ≤ R.slots) :
    vx_Run p l e R s m args below meth c H locs cells slots mc ms g rest (Qc (Value.ref b :: As).toArray) XC free := by
  have hK : vx_Back l R p e below s args y 3 8 (PreOf R mc ms Pc) (PostOf Qc mc ms free) (vx_Post XC mc ms free) := vx_callBack cw.1 hM hp.1
  obtain ⟨⟨-, -, -, -, -, -, hcode, -, hy, hlen, hl⟩, hin, hse⟩ := cw
  obtain ⟨hx, hb, hml, ho, -⟩ := S
  obtain ⟨-, ⟨cellB, hcB, hoB, hclB⟩, hPc⟩ := hp
  intro T hT X
  rcases vx_callV X hx (C := C) (bytes := bytes) (maxL := maxL) (ret := ret) ho hl hin hse hcode hy hK (by rw [hT]; exact hcB) hoB hclB hg (hsize.trans hml.symm) (argsL := As) (rest := rest) (fun sig h => hn.trans (hlen sig h)) hstack hW (by rw [hb]; exact hdg)
    (fun vm₁ hW₁ => ⟨hf.1, hf.2, hPc (T.setVm vm₁) hT hW₁⟩) with ⟨v, vm₁, ⟨U', l2, c2, s2⟩, hW₁, X', ⟨g', mk, t, L, e1, e2, hq, h1, hL, h2, h3⟩, st⟩ | ⟨q, vm₁, ⟨U', l2, c2, s2⟩, hW₁, X', ⟨g', mk, t, L, E, ce, e1, e2, hq, hce, hcv, hcl, h1, hL, h2, h3⟩, st⟩
  · dsimp only [Pt.U, Pt.locs, Pt.cells, Pt.slots] at X' e1 e2 h1 h2 h3 st
    subst h1; subst h2; subst h3
    exact Or.inl ⟨v, (T.setVm vm₁).calling g' mk (Value.ref b :: As).toArray, t, U', L, hT, X', hL, e1, e2, hq, st⟩
  · dsimp only [Pt.U, Pt.locs, Pt.cells, Pt.slots] at X' e1 e2 h1 h2 h3 st hcl
    subst h1; subst h2; subst h3
    exact Or.inr ⟨q, (T.setVm vm₁).calling g' mk (Value.ref b :: As).toArray, t, U', L, E, ce, hT, X', hL, e1, e2, hq, hce, hcv, vx_cls hW₁ hcl, st⟩
theorem vx_runS (S : CallFix p m c cc nL s args Ts own) (hM : vx_Met l y ws rm Pc Qc XC mc ms free) (cw : CallB R s args own index y bytes maxL ret ws rm mc ms n ∧ (Cond.static y).before args s = true) (hp : PreS s H Pc As)
    (hg : g.method = m) (hn : As.length = n) (hsize : g.locals.size = nL) (hstack : g.stack = As.reverse ++ rest) (hW : 2 * g.monitorRoom + (rest.map fun v => v.category).sum ≤ 8) (hdg : decode cc g.pc = .ok (.invokestatic index, 3)) (hf : cells + mc ≤ R.cells ∧ slots + ms ≤ R.slots) :
    vx_Run p l e R s m args below meth c H locs cells slots mc ms g rest (Qc As.toArray) XC free := by
  have hK : vx_Back l R p e below s args y 3 8 (PreOf R mc ms Pc) (PostOf Qc mc ms free) (vx_Post XC mc ms free) := vx_callBack cw.1 hM hp.1
  obtain ⟨⟨-, -, -, -, -, -, hcode, hini, hy, hlen, hl⟩, hstt⟩ := cw
  obtain ⟨hx, hb, hml, ho, -⟩ := S
  intro T hT X
  rcases vx_callS X hx (bytes := bytes) (maxL := maxL) (ret := ret) ho hl hstt hini hcode hy hK hg (hsize.trans hml.symm) (argsL := As) (rest := rest) (fun sig h => hn.trans (hlen sig h)) hstack hW (by rw [hb]; exact hdg)
    (fun vm₁ hW₁ => ⟨hf.1, hf.2, hp.2 (T.setVm vm₁) hT hW₁⟩) with ⟨v, vm₁, ⟨U', l2, c2, s2⟩, hW₁, X', ⟨g', mk, t, L, e1, e2, hq, h1, hL, h2, h3⟩, st⟩ | ⟨q, vm₁, ⟨U', l2, c2, s2⟩, hW₁, X', ⟨g', mk, t, L, E, ce, e1, e2, hq, hce, hcv, hcl, h1, hL, h2, h3⟩, st⟩
  · dsimp only [Pt.U, Pt.locs, Pt.cells, Pt.slots] at X' e1 e2 h1 h2 h3 st
    subst h1; subst h2; subst h3
    exact Or.inl ⟨v, (T.setVm vm₁).calling g' mk As.toArray, t, U', L, hT, X', hL, e1, e2, hq, st⟩
  · dsimp only [Pt.U, Pt.locs, Pt.cells, Pt.slots] at X' e1 e2 h1 h2 h3 st hcl
    subst h1; subst h2; subst h3
    exact Or.inr ⟨q, (T.setVm vm₁).calling g' mk As.toArray, t, U', L, E, ce, hT, X', hL, e1, e2, hq, hce, hcv, vx_cls hW₁ hcl, st⟩
end Runs
section Rows
variable {p : Program} {l : Launch} {e : Env} {R : Room} {s : State} {m : MethodId} {args : Array Value} {below : List Frame} {meth : Method} {c : Code} {H : Heap} {locs : List Loc} {cells slots : Nat} {Q : State → Prop}
variable {mc ms : Nat} {free : Addr → Prop} {A0 A1 : Nat → Prop} {H0 : Heap} {a : Array Value} {pc : Nat} {ls : Array Slot} {st0 rest : List Value}
theorem vx_keep {st₀ t T' : State} {L : List Loc} (h0 : st₀.heap = H) (e1 : T'.heap = t.heap) (hS : va_S A0 H0 H locs) (hA : ∀ q, q < H.size → A1 q → A0 q) (hf : ∀ q, free q → A0 q) (hL : ∀ q ∈ L, free q.base) (hF : va_F A1 st₀ t) :
    H.size ≤ T'.heap.size ∧ (∀ q : Nat, q < H.size → ¬ A1 q → T'.heap[q]? = H[q]?) ∧ va_S A0 H0 T'.heap (locs ++ L) := by
  obtain ⟨hz, hk⟩ := hF
  rw [h0] at hz hk
  exact ⟨by rw [e1]; exact hz, fun q h1 h2 => by rw [e1]; exact hk q h1 h2,
    ⟨Nat.le_trans hS.1 (by rw [e1]; exact hz), fun q h1 h2 => by rw [e1, hk q (Nat.lt_of_lt_of_le h1 hS.1) (fun z => h2 (hA q (Nat.lt_of_lt_of_le h1 hS.1) z))]; exact hS.2.1 q h1 h2, fun q hq => by
      rcases List.mem_append.mp hq with h | h
      · exact hS.2.2 q h
      · exact hf _ (hL q h)⟩⟩
theorem vx_calli {S SX : Type} {post : Int32 → S → Prop} {px : SX → Prop} {B : S → State → Prop} {BX : String → SX → State → Prop} {AX : Nat → Prop} (hr : vx_Run p l e R s m args below meth c H locs cells slots mc ms (F0 m pc ls st0) rest (va_Qi post B A1 a) (vx_X px BX AX) free) (hS : va_S A0 H0 H locs) (hA : ∀ q, q < H.size → A1 q → A0 q) (hf : ∀ q, free q → A0 q) (hAX : ∀ q, q < H.size → AX q → A0 q)
    (kx : ∀ (E : String) (ce : Cell) (q9 : Addr) (u : SX) (t : State) (H1 : Heap) (locs1 : List Loc), t.heap = H1 → s.vm.Alike t.vm → px u → BX E u t → H.size ≤ H1.size → (∀ q : Nat, q < H.size → ¬ AX q → H1[q]? = H[q]?) → va_S A0 H0 H1 locs1 → H1[q9]? = some ce → ce.vm = .none → s.vm.findClass E = some ce.cls → vx_W p l e R s m args below meth c H1 locs1 (cells + mc) (slots + ms) Q (F0 m pc ls rest) q9)
    (kk : ∀ (r : Int32) (u : S) (t : State) (H1 : Heap) (locs1 : List Loc), t.heap = H1 → s.vm.Alike t.vm → post r u → B u t → H.size ≤ H1.size → (∀ q : Nat, q < H.size → ¬ A1 q → H1[q]? = H[q]?) → va_S A0 H0 H1 locs1 → W p l e R s m args below meth c H1 locs1 (cells + mc) (slots + ms) Q (F0 m (pc + 3) ls (.int r :: rest))) : W p l e R s m args below meth c H locs cells slots Q (F0 m pc ls st0) := by
  intro T hT X
  rcases hr T hT X with ⟨v, st₀, t, T', L, h0, X', hL, e1, e2, ⟨⟨r, u, hv, hp, hb⟩, hF⟩, st⟩ | ⟨q, st₀, t, T', L, E, ce, h0, X', hL, e1, e2, ⟨u, hp, hb, hF⟩, hce, hcv, hcl, st⟩
  · cases hv
    obtain ⟨k1, k2, k3⟩ := vx_keep h0 e1 hS hA hf hL hF
    obtain ⟨t2, a1, b1⟩ := kk r u t T'.heap (locs ++ L) e1.symm (by rw [← e2]; exact X'.warmed.alike) hp hb k1 k2 k3 T' rfl X'
    exact ⟨t2, st t2 a1, b1⟩
  · obtain ⟨k1, k2, k3⟩ := vx_keep h0 e1 hS hAX hf hL hF
    obtain ⟨t2, a1, b1⟩ := kx E ce q u t T'.heap (locs ++ L) e1.symm (by rw [← e2]; exact X'.warmed.alike) hp hb k1 k2 k3 (by rw [e1]; exact hce) hcv hcl T' rfl X'
    exact ⟨t2, st.trans a1, b1⟩
theorem vx_calll {S SX : Type} {post : Int64 → S → Prop} {px : SX → Prop} {B : S → State → Prop} {BX : String → SX → State → Prop} {AX : Nat → Prop} (hr : vx_Run p l e R s m args below meth c H locs cells slots mc ms (F0 m pc ls st0) rest (va_Ql post B A1 a) (vx_X px BX AX) free) (hS : va_S A0 H0 H locs) (hA : ∀ q, q < H.size → A1 q → A0 q) (hf : ∀ q, free q → A0 q) (hAX : ∀ q, q < H.size → AX q → A0 q)
    (kx : ∀ (E : String) (ce : Cell) (q9 : Addr) (u : SX) (t : State) (H1 : Heap) (locs1 : List Loc), t.heap = H1 → s.vm.Alike t.vm → px u → BX E u t → H.size ≤ H1.size → (∀ q : Nat, q < H.size → ¬ AX q → H1[q]? = H[q]?) → va_S A0 H0 H1 locs1 → H1[q9]? = some ce → ce.vm = .none → s.vm.findClass E = some ce.cls → vx_W p l e R s m args below meth c H1 locs1 (cells + mc) (slots + ms) Q (F0 m pc ls rest) q9)
    (kk : ∀ (r : Int64) (u : S) (t : State) (H1 : Heap) (locs1 : List Loc), t.heap = H1 → s.vm.Alike t.vm → post r u → B u t → H.size ≤ H1.size → (∀ q : Nat, q < H.size → ¬ A1 q → H1[q]? = H[q]?) → va_S A0 H0 H1 locs1 → W p l e R s m args below meth c H1 locs1 (cells + mc) (slots + ms) Q (F0 m (pc + 3) ls (.long r :: rest))) : W p l e R s m args below meth c H locs cells slots Q (F0 m pc ls st0) := by
  intro T hT X
  rcases hr T hT X with ⟨v, st₀, t, T', L, h0, X', hL, e1, e2, ⟨⟨r, u, hv, hp, hb⟩, hF⟩, st⟩ | ⟨q, st₀, t, T', L, E, ce, h0, X', hL, e1, e2, ⟨u, hp, hb, hF⟩, hce, hcv, hcl, st⟩
  · cases hv
    obtain ⟨k1, k2, k3⟩ := vx_keep h0 e1 hS hA hf hL hF
    obtain ⟨t2, a1, b1⟩ := kk r u t T'.heap (locs ++ L) e1.symm (by rw [← e2]; exact X'.warmed.alike) hp hb k1 k2 k3 T' rfl X'
    exact ⟨t2, st t2 a1, b1⟩
  · obtain ⟨k1, k2, k3⟩ := vx_keep h0 e1 hS hAX hf hL hF
    obtain ⟨t2, a1, b1⟩ := kx E ce q u t T'.heap (locs ++ L) e1.symm (by rw [← e2]; exact X'.warmed.alike) hp hb k1 k2 k3 (by rw [e1]; exact hce) hcv hcl T' rfl X'
    exact ⟨t2, st.trans a1, b1⟩
theorem vx_callf {S SX : Type} {post : UInt32 → S → Prop} {px : SX → Prop} {B : S → State → Prop} {BX : String → SX → State → Prop} {AX : Nat → Prop} (hr : vx_Run p l e R s m args below meth c H locs cells slots mc ms (F0 m pc ls st0) rest (va_Qf post B A1 a) (vx_X px BX AX) free) (hS : va_S A0 H0 H locs) (hA : ∀ q, q < H.size → A1 q → A0 q) (hf : ∀ q, free q → A0 q) (hAX : ∀ q, q < H.size → AX q → A0 q)
    (kx : ∀ (E : String) (ce : Cell) (q9 : Addr) (u : SX) (t : State) (H1 : Heap) (locs1 : List Loc), t.heap = H1 → s.vm.Alike t.vm → px u → BX E u t → H.size ≤ H1.size → (∀ q : Nat, q < H.size → ¬ AX q → H1[q]? = H[q]?) → va_S A0 H0 H1 locs1 → H1[q9]? = some ce → ce.vm = .none → s.vm.findClass E = some ce.cls → vx_W p l e R s m args below meth c H1 locs1 (cells + mc) (slots + ms) Q (F0 m pc ls rest) q9)
    (kk : ∀ (r : UInt32) (u : S) (t : State) (H1 : Heap) (locs1 : List Loc), t.heap = H1 → s.vm.Alike t.vm → post r u → B u t → H.size ≤ H1.size → (∀ q : Nat, q < H.size → ¬ A1 q → H1[q]? = H[q]?) → va_S A0 H0 H1 locs1 → W p l e R s m args below meth c H1 locs1 (cells + mc) (slots + ms) Q (F0 m (pc + 3) ls (.float r :: rest))) : W p l e R s m args below meth c H locs cells slots Q (F0 m pc ls st0) := by
  intro T hT X
  rcases hr T hT X with ⟨v, st₀, t, T', L, h0, X', hL, e1, e2, ⟨⟨r, u, hv, hp, hb⟩, hF⟩, st⟩ | ⟨q, st₀, t, T', L, E, ce, h0, X', hL, e1, e2, ⟨u, hp, hb, hF⟩, hce, hcv, hcl, st⟩
  · cases hv
    obtain ⟨k1, k2, k3⟩ := vx_keep h0 e1 hS hA hf hL hF
    obtain ⟨t2, a1, b1⟩ := kk r u t T'.heap (locs ++ L) e1.symm (by rw [← e2]; exact X'.warmed.alike) hp hb k1 k2 k3 T' rfl X'
    exact ⟨t2, st t2 a1, b1⟩
  · obtain ⟨k1, k2, k3⟩ := vx_keep h0 e1 hS hAX hf hL hF
    obtain ⟨t2, a1, b1⟩ := kx E ce q u t T'.heap (locs ++ L) e1.symm (by rw [← e2]; exact X'.warmed.alike) hp hb k1 k2 k3 (by rw [e1]; exact hce) hcv hcl T' rfl X'
    exact ⟨t2, st.trans a1, b1⟩
theorem vx_calld {S SX : Type} {post : UInt64 → S → Prop} {px : SX → Prop} {B : S → State → Prop} {BX : String → SX → State → Prop} {AX : Nat → Prop} (hr : vx_Run p l e R s m args below meth c H locs cells slots mc ms (F0 m pc ls st0) rest (va_Qd post B A1 a) (vx_X px BX AX) free) (hS : va_S A0 H0 H locs) (hA : ∀ q, q < H.size → A1 q → A0 q) (hf : ∀ q, free q → A0 q) (hAX : ∀ q, q < H.size → AX q → A0 q)
    (kx : ∀ (E : String) (ce : Cell) (q9 : Addr) (u : SX) (t : State) (H1 : Heap) (locs1 : List Loc), t.heap = H1 → s.vm.Alike t.vm → px u → BX E u t → H.size ≤ H1.size → (∀ q : Nat, q < H.size → ¬ AX q → H1[q]? = H[q]?) → va_S A0 H0 H1 locs1 → H1[q9]? = some ce → ce.vm = .none → s.vm.findClass E = some ce.cls → vx_W p l e R s m args below meth c H1 locs1 (cells + mc) (slots + ms) Q (F0 m pc ls rest) q9)
    (kk : ∀ (r : UInt64) (u : S) (t : State) (H1 : Heap) (locs1 : List Loc), t.heap = H1 → s.vm.Alike t.vm → post r u → B u t → H.size ≤ H1.size → (∀ q : Nat, q < H.size → ¬ A1 q → H1[q]? = H[q]?) → va_S A0 H0 H1 locs1 → W p l e R s m args below meth c H1 locs1 (cells + mc) (slots + ms) Q (F0 m (pc + 3) ls (.double r :: rest))) : W p l e R s m args below meth c H locs cells slots Q (F0 m pc ls st0) := by
  intro T hT X
  rcases hr T hT X with ⟨v, st₀, t, T', L, h0, X', hL, e1, e2, ⟨⟨r, u, hv, hp, hb⟩, hF⟩, st⟩ | ⟨q, st₀, t, T', L, E, ce, h0, X', hL, e1, e2, ⟨u, hp, hb, hF⟩, hce, hcv, hcl, st⟩
  · cases hv
    obtain ⟨k1, k2, k3⟩ := vx_keep h0 e1 hS hA hf hL hF
    obtain ⟨t2, a1, b1⟩ := kk r u t T'.heap (locs ++ L) e1.symm (by rw [← e2]; exact X'.warmed.alike) hp hb k1 k2 k3 T' rfl X'
    exact ⟨t2, st t2 a1, b1⟩
  · obtain ⟨k1, k2, k3⟩ := vx_keep h0 e1 hS hAX hf hL hF
    obtain ⟨t2, a1, b1⟩ := kx E ce q u t T'.heap (locs ++ L) e1.symm (by rw [← e2]; exact X'.warmed.alike) hp hb k1 k2 k3 (by rw [e1]; exact hce) hcv hcl T' rfl X'
    exact ⟨t2, st.trans a1, b1⟩
theorem vx_callv {S SX : Type} {post : S → Prop} {px : SX → Prop} {B : S → State → Prop} {BX : String → SX → State → Prop} {AX : Nat → Prop} (hr : vx_Run p l e R s m args below meth c H locs cells slots mc ms (F0 m pc ls st0) rest (va_Qv post B A1 a) (vx_X px BX AX) free) (hS : va_S A0 H0 H locs) (hA : ∀ q, q < H.size → A1 q → A0 q) (hf : ∀ q, free q → A0 q) (hAX : ∀ q, q < H.size → AX q → A0 q)
    (kx : ∀ (E : String) (ce : Cell) (q9 : Addr) (u : SX) (t : State) (H1 : Heap) (locs1 : List Loc), t.heap = H1 → s.vm.Alike t.vm → px u → BX E u t → H.size ≤ H1.size → (∀ q : Nat, q < H.size → ¬ AX q → H1[q]? = H[q]?) → va_S A0 H0 H1 locs1 → H1[q9]? = some ce → ce.vm = .none → s.vm.findClass E = some ce.cls → vx_W p l e R s m args below meth c H1 locs1 (cells + mc) (slots + ms) Q (F0 m pc ls rest) q9)
    (kk : ∀ (u : S) (t : State) (H1 : Heap) (locs1 : List Loc), t.heap = H1 → s.vm.Alike t.vm → post u → B u t → H.size ≤ H1.size → (∀ q : Nat, q < H.size → ¬ A1 q → H1[q]? = H[q]?) → va_S A0 H0 H1 locs1 → W p l e R s m args below meth c H1 locs1 (cells + mc) (slots + ms) Q (F0 m (pc + 3) ls (rest))) : W p l e R s m args below meth c H locs cells slots Q (F0 m pc ls st0) := by
  intro T hT X
  rcases hr T hT X with ⟨v, st₀, t, T', L, h0, X', hL, e1, e2, ⟨⟨u, hv, hp, hb⟩, hF⟩, st⟩ | ⟨q, st₀, t, T', L, E, ce, h0, X', hL, e1, e2, ⟨u, hp, hb, hF⟩, hce, hcv, hcl, st⟩
  · cases hv
    obtain ⟨k1, k2, k3⟩ := vx_keep h0 e1 hS hA hf hL hF
    obtain ⟨t2, a1, b1⟩ := kk u t T'.heap (locs ++ L) e1.symm (by rw [← e2]; exact X'.warmed.alike) hp hb k1 k2 k3 T' rfl X'
    exact ⟨t2, st t2 a1, b1⟩
  · obtain ⟨k1, k2, k3⟩ := vx_keep h0 e1 hS hAX hf hL hF
    obtain ⟨t2, a1, b1⟩ := kx E ce q u t T'.heap (locs ++ L) e1.symm (by rw [← e2]; exact X'.warmed.alike) hp hb k1 k2 k3 (by rw [e1]; exact hce) hcv hcl T' rfl X'
    exact ⟨t2, st.trans a1, b1⟩
/-- caught by the row x of this method's table; the rows ahead don't take it -/
theorem vx_catch {own name : String} {E : String} {ce : Cell} {q : Addr} (hown : s.vm.findClass own = some m.cls) (pre : List ExceptionTableEntry) (x : ExceptionTableEntry) (suf : List ExceptionTableEntry) (hsplit : c.exceptionTable.toList = pre ++ x :: suf)
    (hpass : ∀ z ∈ pre, covers z pc = false ∨ (z.catchType ≠ 0 ∧ ∃ nm : String, (Cond.classLink own z.catchType nm).before args s = true ∧ va_Nc E nm s)) (hx : covers x pc = true) (h0 : x.catchType ≠ 0)
    (hlink : (Cond.classLink own x.catchType name).before args s = true) (hcast : (Cond.castable E name).before args s = true) (hcell : H[q]? = some ce) (hv : ce.vm = .none) (hcl : s.vm.findClass E = some ce.cls)
    (kk : W p l e R s m args below meth c H locs cells slots Q (F0 m x.handlerPc ls [.ref q])) : vx_W p l e R s m args below meth c H locs cells slots Q (F0 m pc ls rest) q := by
  intro T hT X
  have hpl : e.platform.magicAccessors = ({} : Platform).magicAccessors := by rw [X.admits.platform]
  obtain ⟨c3, c4, hc3, hc4, hasg⟩ := Cond.castable_spec hcast
  cases Option.some.inj (hc3.symm.trans hcl)
  obtain ⟨c5, hc5, hcl5⟩ := Cond.classLink_spec hown hlink e.platform hpl
  cases Option.some.inj (hc4.symm.trans hc5)
  obtain ⟨vm', X', st⟩ := X.thenCaughtThrough q (g := F0 m pc ls rest) rfl (Steps.refl _) (by rw [hT]; exact hcell) (by rw [hv]; rfl) (by obtain ⟨k9, h9, -⟩ := Vm.findClass_spec hcl; exact ⟨k9, h9⟩) pre x suf hsplit
    (fun z hz => by
      rcases hpass z hz with h | ⟨hz0, nm, hl1, hn1⟩
      · exact Or.inl h
      · obtain ⟨c6, hc6, hcl6⟩ := Cond.classLink_spec hown hl1 e.platform hpl
        obtain ⟨a8, b8, h1, h2, h3⟩ := hn1
        cases Option.some.inj (h1.symm.trans hcl)
        cases Option.some.inj (h2.symm.trans hc6)
        exact Or.inr ⟨hz0, _, hcl6, h3⟩) hx (Or.inr ⟨h0, c4, hcl5, hasg⟩)
  obtain ⟨t, a1, b1⟩ := kk (T.setVm vm') hT X'
  exact ⟨t, st.trans a1, b1⟩
end Rows
section Ends
variable {p : Program} {l : Launch} {e : Env} {R : Room} {s : State} {m : MethodId} {args : Array Value} {below : List Frame} {meth : Method} {c : Code} {H : Heap} {locs : List Loc} {cells slots : Nat} {Q : State → Prop}
variable {mc ms : Nat} {free : Addr → Prop} {A0 A1 : Nat → Prop} {H0 : Heap} {a : Array Value} {ls : Array Slot} {st0 rest : List Value}
variable {Qc : Array Value → State → Outcome → State → Prop} {XC : String → State → State → Prop}
/-- what a body that may throw owes at its end -/
def vx_MQ (below : List Frame) (Qc : Array Value → State → Outcome → State → Prop) (XC : String → State → State → Prop) (a : Array Value) (s : State) (mc ms : Nat) (free : Addr → Prop) : State → Prop := fun t =>
  ∃ o, t.status = .running ∧ Ended t below o ∧ vx_Q Qc XC mc ms free a s o t
theorem vx_ret {g : JFrame} {mc ms : Nat} (k : W p l e R s m args below meth c H locs cells slots (MQ below Qc args s mc ms free) g) : W p l e R s m args below meth c H locs cells slots (vx_MQ below Qc XC args s mc ms free) g := by
  intro T hT X
  obtain ⟨t, a1, o, b1, b2, b3, b4⟩ := k T hT X
  exact ⟨t, a1, o, b1, b2, Or.inl ⟨b3, b4⟩⟩
/-- not caught here: it goes on to the caller -/
theorem vx_widen {g : JFrame} {q : Addr} {k n : Nat} (h1 : cells ≤ k) (h2 : slots ≤ n) (kk : vx_W p l e R s m args below meth c H locs k n Q g q) : vx_W p l e R s m args below meth c H locs cells slots Q g q := fun T hT X => kk T hT (stand_widen X h1 h2)
theorem vx_out {pc : Nat} {E : String} {ce : Cell} {q : Addr} {mc ms : Nat} (hout : ∀ x ∈ c.exceptionTable.toList, covers x pc = false) (hlocks : meth.locks = false) (hcell : H[q]? = some ce) (hv : ce.vm = .none) (hcl : s.vm.findClass E = some ce.cls)
    (hx : ∀ t : State, t.heap = H → s.vm.Alike t.vm → XC E s t) (hf : ∀ z ∈ locs, free z.base) (hc : cells ≤ mc) (hs : slots ≤ ms) :
    vx_W p l e R s m args below meth c H locs cells slots (vx_MQ below Qc XC args s mc ms free) (F0 m pc ls rest) q := by
  intro T hT X
  obtain ⟨st1, hrun, hend, hW, hsm⟩ := X.leaveThrown q (g := F0 m pc ls rest) rfl rfl rfl hout hlocks
  have hcell9 : (T.setFrames (.throwing q :: below)).heap[q]? = some ce := by
    show T.heap[q]? = some ce
    rw [hT]; exact hcell
  exact ⟨_, st1, .threw q, hrun, hend, Or.inr ⟨q, rfl, E, ce, locs, hx _ hT hW.alike, hcell9, hv, hcl, hW, hsm.mono hc hs, hf⟩⟩
theorem vx_frame {U : State} {k n : Nat} (h : s.sameButNew ({ U with vm := s.vm } : State) locs k n) : s.heap.size ≤ U.heap.size ∧ ∀ q : Nat, q < s.heap.size → (∀ z ∈ locs, z.base ≠ q) → U.heap[q]? = s.heap[q]? := by
  obtain ⟨-, h2, -, -, -, h6⟩ := h
  refine ⟨h2, fun q hq hz => ?_⟩
  obtain ⟨c9, e1, e2, e3, e4⟩ := h6 q _ (Array.getElem?_eq_getElem hq)
  have hs : c9.slots = (s.heap[q]).slots := Array.ext_getElem? fun i => e4 i fun hm => hz _ hm rfl
  have h9 : c9 = s.heap[q] := by
    rw [hs] at e2
    exact e2
  have e5 : U.heap[q]? = some c9 := e1
  rw [e5, h9, Array.getElem?_eq_getElem hq]
/-- the words of a throw but the four that speak of the heap -/
def vx_no (w : Cond) : Bool := decide (w ≠ .isRef (.static Bundle.tN "UNASSIGNED_STACK" Bundle.steD)) && decide (w ≠ .isRef (.static Bundle.tN "SUPPRESSED_SENTINEL" Bundle.listD)) && decide (w ≠ .laysStatic Bundle.tN "UNASSIGNED_STACK" Bundle.steD) && decide (w ≠ .laysStatic Bundle.tN "SUPPRESSED_SENTINEL" Bundle.listD)
def vx_at0 (own : String) (ic : Nat) (X : String) (names : List String) : List Cond := (Bundle.ownAtoms0 own ic X names).filter vx_no
def vx_atS (own : String) (ic : Nat) (X : String) (names : List String) : List Cond := (Bundle.ownAtoms own ic X names).filter vx_no
/-- a word that the tables alone decide, or a good one -/
def vx_ot (w : Cond) : Bool := w.onTables || goodWord w
theorem vx_ot_at {args a' : Array Value} {s U : State} {w : Cond} (hW : s.WarmedH U.vm) (hvm : s.vm = U.vm) (hg : vx_ot w = true) (h : w.before args s = true) : w.before a' U = true := by
  simp only [vx_ot, Bool.or_eq_true] at hg
  rcases hg with hg | hg
  · exact va_tabs hg hvm h
  · exact word_at hW (good_of_word hg) h
/-- a list's words: the good ones out of the method's own list, the others by premises of their own -/
theorem vx_hat {args : Array Value} {s : State} {L B : List Cond} (h1 : ∀ w ∈ L.filter goodWord, w.before args s = true) (h2 : ∀ w ∈ L.filter (fun w => !goodWord w), w ∈ B) (h3 : ∀ w ∈ B, w.before args s = true) : ∀ w ∈ L, w.before args s = true := by
  intro w hw
  by_cases g : goodWord w = true
  · exact h1 w (List.mem_filter.mpr ⟨hw, g⟩)
  · refine h3 w (h2 w (List.mem_filter.mpr ⟨hw, ?_⟩))
    show (!goodWord w) = true
    cases hgw : goodWord w
    · rfl
    · exact absurd hgw g
theorem vx_c {args : Array Value} {s : State} {w : Cond} {B : List Cond} (h : w.before args s = true) (t : ∀ w ∈ B, w.before args s = true) : ∀ w' ∈ w :: B, w'.before args s = true := fun w' h' => (List.mem_cons.mp h').elim (fun e => by rw [e]; exact h) (t w')
theorem vx_n {args : Array Value} {s : State} : ∀ w ∈ ([] : List Cond), w.before args s = true := fun _ h => nomatch h
theorem vx_own {args : Array Value} {s : State} {L : List Cond} (h1 : ∀ w ∈ L.filter vx_no, w.before args s = true)
    (hU : (Cond.isRef (.static Bundle.tN "UNASSIGNED_STACK" Bundle.steD)).before args s = true) (hN : (Cond.isRef (.static Bundle.tN "SUPPRESSED_SENTINEL" Bundle.listD)).before args s = true)
    (lU : (Cond.laysStatic Bundle.tN "UNASSIGNED_STACK" Bundle.steD).before args s = true) (lN : (Cond.laysStatic Bundle.tN "SUPPRESSED_SENTINEL" Bundle.listD).before args s = true) : ∀ w ∈ L, w.before args s = true := by
  intro w hw
  by_cases e1 : w = .isRef (.static Bundle.tN "UNASSIGNED_STACK" Bundle.steD)
  · rw [e1]; exact hU
  · by_cases e2 : w = .isRef (.static Bundle.tN "SUPPRESSED_SENTINEL" Bundle.listD)
    · rw [e2]; exact hN
    · by_cases e3 : w = .laysStatic Bundle.tN "UNASSIGNED_STACK" Bundle.steD
      · rw [e3]; exact lU
      · by_cases e4 : w = .laysStatic Bundle.tN "SUPPRESSED_SENTINEL" Bundle.listD
        · rw [e4]; exact lN
        · exact h1 w (List.mem_filter.mpr ⟨hw, by unfold vx_no; rw [decide_eq_true e1, decide_eq_true e2, decide_eq_true e3, decide_eq_true e4]; rfl⟩)
/-- where a static field lies, its class's statics cell in H -/
def vx_L (C n d : String) (A : Nat → Prop) (U : State) (H : Heap) : Prop := ∃ (c : ClassId) (k : Class) (i : Nat) (f : Field) (a : Nat) (cell : Cell), U.vm.findClass C = some c ∧ U.fieldFound? C n d = some (c, k, i, f) ∧ f.isStatic = true ∧ k.statics = some a ∧ H[a]? = some cell ∧ cell.vm.isStatics = true ∧ cell.cls = c ∧ f.slot < cell.slots.size ∧ k.staticTypes[f.slot]? = some f.type ∧ ¬ A a
theorem vx_L.moved {C n d : String} {A : Nat → Prop} {u U : State} {H : Heap} (hvm : u.vm.Alike U.vm) (h : vx_L C n d A u H) : vx_L C n d A U H := by
  obtain ⟨c, k, i, f, a, cell, h1, h2, h3, h4, h5, h6, h7, h8, h9, h10⟩ := h
  obtain ⟨k', hi', he⟩ := State.fieldFound?_setVm hvm h2
  exact ⟨c, k', i, f, a, cell, by rw [hvm.findClass]; exact h1, hi', h3, by rw [he]; exact h4, h5, h6, h7, h8, by rw [he]; exact h9, h10⟩
theorem vx_L.kept {C n d : String} {A : Nat → Prop} {U : State} {H H1 : Heap} (h : vx_L C n d A U H) (hq : ∀ a : Nat, a < H.size → ¬ A a → H1[a]? = H[a]?) : vx_L C n d A U H1 := by
  obtain ⟨c, k, i, f, a, cell, h1, h2, h3, h4, h5, h6, h7, h8, h9, h10⟩ := h
  exact ⟨c, k, i, f, a, cell, h1, h2, h3, h4, by rw [hq a (Array.getElem?_eq_some_iff.mp h5).1 h10]; exact h5, h6, h7, h8, h9, h10⟩
theorem vx_L.narrow {C n d : String} {A B : Nat → Prop} {U : State} {H : Heap} (h : vx_L C n d A U H) (hAB : ∀ q, B q → A q) : vx_L C n d B U H := by
  obtain ⟨c, k, i, f, a, cell, h1, h2, h3, h4, h5, h6, h7, h8, h9, h10⟩ := h
  exact ⟨c, k, i, f, a, cell, h1, h2, h3, h4, h5, h6, h7, h8, h9, fun z => h10 (hAB _ z)⟩
theorem vx_L.word {C n d : String} {A : Nat → Prop} {s : State} {args : Array Value} (h : vx_L C n d A s s.heap) : (Cond.laysStatic C n d).before args s = true := by
  obtain ⟨c, k, i, f, a, cell, h1, h2, h3, h4, h5, h6, h7, h8, h9, -⟩ := h
  show (Cond.laysStatic C n d).holds args s none s [] = true
  exact Cond.laysStatic_of h1 h2 h3 h4 h5 h6 h7 h8 h9
/-- .. and what it holds: null or some reference -/
def vx_Zq (C n d : String) (A : Nat → Prop) (U : State) (H : Heap) : Prop := va_Zq C n d A U H ∧ vx_L C n d A U H
theorem vx_Zq.moved {C n d : String} {A : Nat → Prop} {u U : State} {H : Heap} (hvm : u.vm.Alike U.vm) (h : vx_Zq C n d A u H) : vx_Zq C n d A U H := ⟨va_Zq.moved hvm h.1, vx_L.moved hvm h.2⟩
theorem vx_Zq.kept {C n d : String} {A : Nat → Prop} {U : State} {H H1 : Heap} (h : vx_Zq C n d A U H) (hq : ∀ a : Nat, a < H.size → ¬ A a → H1[a]? = H[a]?) : vx_Zq C n d A U H1 := ⟨va_Zq.kept h.1 hq, vx_L.kept h.2 hq⟩
theorem vx_Zq.narrow {C n d : String} {A B : Nat → Prop} {U : State} {H : Heap} (h : vx_Zq C n d A U H) (hAB : ∀ q, B q → A q) : vx_Zq C n d B U H := ⟨va_Zq.narrow h.1 hAB, vx_L.narrow h.2 hAB⟩
theorem vx_Zqof {args : Array Value} {s : State} {C n d : String} {A : Nat → Prop} (hl : (Cond.laysStatic C n d).before args s = true) (hini : (Cond.initialized C).before args s = true) (h : (Cond.isRef (.static C n d)).before args s = true) (hA : ∀ a : Nat, a < s.heap.size → ¬ A a) : vx_Zq C n d A s s.heap := by
  refine ⟨va_Zqof hl hini h hA, ?_⟩
  obtain ⟨c, k, i, f, a, cell, h1, h2, h3, h4, h5, h6, h7, h8, h9⟩ := Cond.laysStatic_spec hl
  exact ⟨c, k, i, f, a, cell, h1, h2, h3, h4, h5, h6, h7, h8, h9, hA a (Array.getElem?_eq_some_iff.mp h5).1⟩
theorem vx_isRef {C n d : String} {v : Value} {A : Nat → Prop} {s : State} {args : Array Value} (h : va_Z C n d v A s s.heap) (hv : v.isRef = true) : (Cond.isRef (.static C n d)).before args s = true := by
  obtain ⟨cf, kf, fi, f, a, cell, h1, h2, h3, h4, h5, h6, h7, -⟩ := h
  have he : (Term.static C n d).eval args s none [] s = some v := by
    simp [Term.eval, State.fieldNamed?, h1, h2, h4, h5, h6, h7]
  simp only [Cond.before, Cond.holds, Cond.value, he]
  cases v <;> simp_all [Value.isRef]
theorem vx_isRefq {C n d : String} {A : Nat → Prop} {s : State} {args : Array Value} (h : va_Zq C n d A s s.heap) : (Cond.isRef (.static C n d)).before args s = true := by
  rcases h with h | ⟨t, h⟩
  · exact vx_isRef h rfl
  · exact vx_isRef h rfl
/-- the same frame, seen from here: as if the method were called anew in this heap -/
theorem vx_rebase {T : State} (X : Stand p l e R s m args below meth c T locs cells slots) {R' : Room} (hf : R'.frames ≤ R.frames) (hl : R'.locals ≤ R.locals) (hc : cells + R'.cells ≤ R.cells) (hs : slots + R'.slots ≤ R.slots) :
    Stand p l e R' ((T.setVm s.vm).setFrames (.invoking m args :: below)) m args below meth c T [] 0 0 := by
  have htop : (T.setVm s.vm).topJava?.isSome := X.here.top
  have hF : ((T.setVm s.vm).setFrames (.invoking m args :: below)).frames = .invoking m args :: below := State.frames_setFrames _ (State.cur_lt_of_top htop)
  obtain ⟨g₀, hg0⟩ := Option.isSome_iff_exists.mp htop
  obtain ⟨r, hr⟩ := State.topJava?_eq_some.mp hg0
  have hl9 : e.platform.stackLimits (T.setVm s.vm).me = e.platform.stackLimits s.me := X.limits
  have hb9 : (T.setVm s.vm).me.stackBytes = s.me.stackBytes := X.bytes
  refine ⟨X.admits, X.cas, X.clock, hF, ?_, X.hears, X.method, X.code, X.here, X.tail, X.warmed, ?_, ?_, ?_⟩
  · have h := X.room
    have hU : ((T.setVm s.vm).setFrames (.invoking m args :: below)).localsInUse = s.localsInUse := by
      rw [State.localsInUse_invoking hF (meth := meth) (c := c) X.method X.code, State.localsInUse_invoking X.frames X.method X.code]
    simp only [State.hasRoom, Bool.and_eq_true, decide_eq_true_eq] at h ⊢
    obtain ⟨⟨⟨⟨h1, h2, h3, h4, h5, h6⟩, h7⟩, h8⟩, h9⟩ := h
    rw [X.frames, List.length_cons] at h2 h3
    have q1 := X.heapSize
    have q2 := X.used
    simp only [hF, hU, List.length_cons, State.stackLimits_setFrames, State.stackBytes_setFrames, hl9, hb9]
    refine ⟨⟨⟨⟨by omega, by omega, by omega, by omega, by omega, h6⟩, ?_⟩, ?_⟩, X.book⟩
    · show T.heap.size + R'.cells ≤ e.platform.maxCells
      omega
    · show T.slotsUsed + R'.slots ≤ e.platform.maxSlots
      omega
  · rw [State.stackLimits_setFrames]; rfl
  · rw [State.stackBytes_setFrames]; rfl
  · refine ⟨?_, Nat.le_refl _, Nat.le_refl _, ?_, ?_, fun a c9 h9 => ⟨c9, h9, rfl, rfl, fun _ _ => rfl⟩⟩
    · obtain ⟨t, ht, -⟩ := State.frames_cons hr
      show T.setVm s.vm = { ((T.setVm s.vm).setFrames (.invoking m args :: below)).setFrames (T.setVm s.vm).frames with heap := T.heap, slotsUsed := T.slotsUsed }
      rw [State.setFrames_setFrames, State.setFrames_self ht]
      rfl
    · show T.slotsUsed = T.slotsUsed + ((T.heap.toList.drop T.heap.size).map (·.slots.size)).sum
      rw [List.drop_eq_nil_of_le (Nat.le_of_eq Array.length_toList)]
      rfl
    · show ((T.heap.toList.drop T.heap.size).map (·.slots.size)).sum ≤ 0
      rw [List.drop_eq_nil_of_le (Nat.le_of_eq Array.length_toList)]
      exact Nat.le_refl _
/-- 'throw new E()': new; dup; invokespecial; athrow -/
theorem vx_throw0 {cc : ByteArray} {pc : Nat} (hexec : p.tables.exec = Jvm.exec) (hb : c.code = cc) (hl : l.stackTraces = false) {own cls : String} {names : List String} {ik ic mc ms : Nat} {A : Nat → Prop}
    (hown : s.vm.findClass own = some m.cls) (hcls : Bundle.fit cls = true) (hnames : ∀ n ∈ names, Bundle.fit n = true)
    (hk : (Cond.classLink own ik cls).before args s = true) (hini : (Cond.initialized cls).before args s = true) (hat : ∀ w ∈ vx_at0 own ic cls names, w.before args s = true)
    (hgood : ∀ w ∈ Cond.classLink own ik cls :: Cond.initialized cls :: vx_at0 own ic cls names, vx_ot w = true)
    (hU : vx_Zq Bundle.tN "UNASSIGNED_STACK" Bundle.steD A s s.heap) (hN : vx_Zq Bundle.tN "SUPPRESSED_SENTINEL" Bundle.listD A s s.heap) (hS : va_S A s.heap H locs) (hsize : ls.size = c.maxLocals)
    (d0 : decode cc pc = .ok (.new ik, 3)) (d3 : decode cc (pc + 3) = .ok (.dup, 1)) (d4 : decode cc (pc + 4) = .ok (.invokespecial ic, 3)) (d7 : decode cc (pc + 7) = .ok (.athrow, 1))
    (hout : ∀ x ∈ c.exceptionTable.toList, covers x (pc + 7) = false)
    (hRframes : names.length + 3 < R.frames) (hRlocals : (rest.map fun v => v.category).sum + (13 * (names.length + 1) + 42) ≤ R.locals) (hRcells : cells + 1 ≤ R.cells) (hRslots : slots + 6 ≤ R.slots) (hlocks : meth.locks = false)
    (hx : ∀ t : State, s.vm.Alike t.vm → H.size ≤ t.heap.size → (∀ q : Nat, q < H.size → t.heap[q]? = H[q]?) → XC cls s t)
    (hf : ∀ z ∈ locs, free z.base) (hc : cells + 1 ≤ mc) (hs : slots + 6 ≤ ms) :
    W p l e R s m args below meth c H locs cells slots (vx_MQ below Qc XC args s mc ms free) (F0 m pc ls rest) := by
  intro T hT X
  have htr : e.platform.stackTraces = false := (show e.platform.stackTraces = l.stackTraces by rw [X.admits.platform]).trans hl
  have Y := vx_rebase X (R' := { frames := R.frames, locals := R.locals, cells := 1, slots := 6 }) (Nat.le_refl _) (Nat.le_refl _) hRcells hRslots
  obtain ⟨s', hA⟩ : ∃ z, z = (T.setVm s.vm).setFrames (.invoking m args :: below) := ⟨_, rfl⟩
  rw [← hA] at Y
  have hvm : s'.vm = s.vm := by rw [hA]; rfl
  have hhp : s'.heap = H := by rw [hA]; exact hT
  have hW0 : s.WarmedH s'.vm := by rw [hvm]; exact State.WarmedH.refl s
  have hat' : ∀ w ∈ vx_at0 own ic cls names, w.before args s' = true := fun w hw => vx_ot_at hW0 hvm.symm (hgood w (List.mem_cons_of_mem _ (List.mem_cons_of_mem _ hw))) (hat w hw)
  have hk' : (Cond.classLink own ik cls).before args s' = true := vx_ot_at hW0 hvm.symm (hgood _ List.mem_cons_self) hk
  have hini' : (Cond.initialized cls).before args s' = true := vx_ot_at hW0 hvm.symm (hgood _ (List.mem_cons_of_mem _ List.mem_cons_self)) hini
  have hU' : vx_Zq Bundle.tN "UNASSIGNED_STACK" Bundle.steD A s' s'.heap := by rw [hhp]; exact vx_Zq.moved hW0.alike (hU.kept hS.2.1)
  have hN' : vx_Zq Bundle.tN "SUPPRESSED_SENTINEL" Bundle.listD A s' s'.heap := by rw [hhp]; exact vx_Zq.moved hW0.alike (hN.kept hS.2.1)
  have h : ∀ w ∈ Bundle.ownAtoms0 own ic cls names, w.before args s' = true := vx_own hat' (vx_isRefq hU'.1) (vx_isRefq hN'.1) hU'.2.word hN'.2.word
  have hown' : s'.vm.findClass own = some m.cls := by rw [hvm]; exact hown
  have hins : (Cond.instantiable cls 6).before args s' = true := h _ (by simp [Bundle.ownAtoms0])
  obtain ⟨vm₁, cX, kX, hfX, hkX, -, -, X₁, st1⟩ := Y.newCold hexec (own := own) (C := cls) (index := ik) (n := 6) hown' hk' hins hini'
    (g := F0 m pc ls rest) rfl (by rw [hb]; exact d0) (Nat.le_refl _) (Nat.le_refl _)
  generalize hT1 : (T.setVm vm₁).pushCell { cls := cX, slots := kX.instanceTypes.map defaultValue, vm := .none } = T1 at X₁ st1
  have hcat : (Value.ref T.heap.size).category = 1 := rfl
  have hcellA : T1.heap[T.heap.size]? = some (freshCell cX kX) := by rw [← hT1]; exact State.heap_pushCell_size _ _
  have d3' : decode c.code (pc + 3) = .ok (.dup, 1) := by rw [hb]; exact d3
  obtain ⟨U, hsteps, hrun, hend, hW, hsame, ce, hce, hO⟩ := X₁.ctorThrow0 hexec htr (own := own) (cls := cls) (names := names) (ic := ic) hown' hcls hnames h (fun x hx => nomatch hx) hfX hkX hcellA (by rw [hhp, hT]; exact Nat.le_refl _)
    (g := { method := m, pc := pc + 4, locals := ls, stack := .ref T.heap.size :: .ref T.heap.size :: rest, locked := none }) rfl hsize rfl rfl (rest := rest) rfl
    (by rw [hb]; exact d4) (by rw [hb]; exact d7) hout hRframes (by simp only [List.map_cons, List.sum_cons, hcat]; omega) hlocks
  obtain ⟨f1, f2⟩ := vx_frame hsame
  rw [hhp] at f1 f2
  have hWs : s.WarmedH U.vm := State.WarmedH.trans hW0 hW
  have hcl : s.vm.findClass cls = some ce.cls := by
    have h9 := hO.cls
    rw [hvm] at h9
    exact h9
  have hall : s.sameButNew ({ U with vm := s.vm } : State) locs mc ms := by
    subst hA
    obtain ⟨e1, e2⟩ := hsame
    rw [State.setFrames_setFrames] at e1
    have h2 : (T.setVm s.vm).sameButNew ({ U with vm := s.vm } : State) [] (0 + 1) (0 + 6) := ⟨e1, e2⟩
    have h3 := X.same.trans h2
    rw [List.append_nil] at h3
    exact h3.mono hc hs
  refine ⟨U, ?_, .threw T.heap.size, hrun, hend, Or.inr ⟨T.heap.size, rfl, cls, ce, locs, hx U hWs.alike f1 (fun q hq => f2 q hq (fun z hz => nomatch hz)), hce, hO.vm, hcl, hWs, hall, hf⟩⟩
  refine st1 _ ?_
  show Steps p.tables e below (T1.setTop { method := m, pc := pc + 3, locals := ls, stack := .ref T.heap.size :: rest, locked := none }) _
  jvm_step X₁.here [X₁.here.top, hexec, d3', Value.category]
  exact hsteps
/-- 'throw new E("text")': new; dup; ldc; invokespecial; athrow -/
theorem vx_throwS {cc : ByteArray} {pc : Nat} (hexec : p.tables.exec = Jvm.exec) (hb : c.code = cc) (hl : l.stackTraces = false) {own cls text : String} {names : List String} {ik is ic mc ms sa : Nat} {A : Nat → Prop}
    (hown : s.vm.findClass own = some m.cls) (hcls : Bundle.fit cls = true) (hnames : ∀ n ∈ names, Bundle.fit n = true)
    (hk : (Cond.classLink own ik cls).before args s = true) (hini : (Cond.initialized cls).before args s = true) (hstr : vk_R own is text sa s) (hat : ∀ w ∈ vx_atS own ic cls names, w.before args s = true)
    (hgood : ∀ w ∈ Cond.classLink own ik cls :: Cond.initialized cls :: vx_atS own ic cls names, vx_ot w = true)
    (hU : vx_Zq Bundle.tN "UNASSIGNED_STACK" Bundle.steD A s s.heap) (hN : vx_Zq Bundle.tN "SUPPRESSED_SENTINEL" Bundle.listD A s s.heap) (hS : va_S A s.heap H locs) (hsize : ls.size = c.maxLocals)
    (d0 : decode cc pc = .ok (.new ik, 3)) (d3 : decode cc (pc + 3) = .ok (.dup, 1)) (d4 : decode cc (pc + 4) = .ok (.ldc is, 2)) (d6 : decode cc (pc + 6) = .ok (.invokespecial ic, 3)) (d9 : decode cc (pc + 9) = .ok (.athrow, 1))
    (hout : ∀ x ∈ c.exceptionTable.toList, covers x (pc + 9) = false)
    (hRframes : names.length + 3 < R.frames) (hRlocals : (rest.map fun v => v.category).sum + (13 * (names.length + 1) + 43) ≤ R.locals) (hRcells : cells + 1 ≤ R.cells) (hRslots : slots + 6 ≤ R.slots) (hlocks : meth.locks = false)
    (hx : ∀ t : State, s.vm.Alike t.vm → H.size ≤ t.heap.size → (∀ q : Nat, q < H.size → t.heap[q]? = H[q]?) → XC cls s t)
    (hf : ∀ z ∈ locs, free z.base) (hc : cells + 1 ≤ mc) (hs : slots + 6 ≤ ms) :
    W p l e R s m args below meth c H locs cells slots (vx_MQ below Qc XC args s mc ms free) (F0 m pc ls rest) := by
  intro T hT X
  have htr : e.platform.stackTraces = false := (show e.platform.stackTraces = l.stackTraces by rw [X.admits.platform]).trans hl
  have Y := vx_rebase X (R' := { frames := R.frames, locals := R.locals, cells := 1, slots := 6 }) (Nat.le_refl _) (Nat.le_refl _) hRcells hRslots
  obtain ⟨s', hA⟩ : ∃ z, z = (T.setVm s.vm).setFrames (.invoking m args :: below) := ⟨_, rfl⟩
  rw [← hA] at Y
  have hvm : s'.vm = s.vm := by rw [hA]; rfl
  have hhp : s'.heap = H := by rw [hA]; exact hT
  have hW0 : s.WarmedH s'.vm := by rw [hvm]; exact State.WarmedH.refl s
  have hat' : ∀ w ∈ vx_atS own ic cls names, w.before args s' = true := fun w hw => vx_ot_at hW0 hvm.symm (hgood w (List.mem_cons_of_mem _ (List.mem_cons_of_mem _ hw))) (hat w hw)
  have hk' : (Cond.classLink own ik cls).before args s' = true := vx_ot_at hW0 hvm.symm (hgood _ List.mem_cons_self) hk
  have hini' : (Cond.initialized cls).before args s' = true := vx_ot_at hW0 hvm.symm (hgood _ (List.mem_cons_of_mem _ List.mem_cons_self)) hini
  have hU' : vx_Zq Bundle.tN "UNASSIGNED_STACK" Bundle.steD A s' s'.heap := by rw [hhp]; exact vx_Zq.moved hW0.alike (hU.kept hS.2.1)
  have hN' : vx_Zq Bundle.tN "SUPPRESSED_SENTINEL" Bundle.listD A s' s'.heap := by rw [hhp]; exact vx_Zq.moved hW0.alike (hN.kept hS.2.1)
  have h : ∀ w ∈ Bundle.ownAtoms own ic cls names, w.before args s' = true := vx_own hat' (vx_isRefq hU'.1) (vx_isRefq hN'.1) hU'.2.word hN'.2.word
  have hown' : s'.vm.findClass own = some m.cls := by rw [hvm]; exact hown
  have hins : (Cond.instantiable cls 6).before args s' = true := h _ (by simp [Bundle.ownAtoms])
  obtain ⟨vm₁, cX, kX, hfX, hkX, -, -, X₁, st1⟩ := Y.newCold hexec (own := own) (C := cls) (index := ik) (n := 6) hown' hk' hins hini'
    (g := F0 m pc ls rest) rfl (by rw [hb]; exact d0) (Nat.le_refl _) (Nat.le_refl _)
  generalize hT1 : (T.setVm vm₁).pushCell { cls := cX, slots := kX.instanceTypes.map defaultValue, vm := .none } = T1 at X₁ st1
  have hcat : (Value.ref T.heap.size).category = 1 := rfl
  have hcellA : T1.heap[T.heap.size]? = some (freshCell cX kX) := by rw [← hT1]; exact State.heap_pushCell_size _ _
  have d3' : decode c.code (pc + 3) = .ok (.dup, 1) := by rw [hb]; exact d3
  have d4' : decode c.code (pc + 4) = .ok (.ldc is, 2) := by rw [hb]; exact d4
  have hstr' : vk_R own is text sa s' := vk_R.warm hW0 hstr
  obtain ⟨U, hsteps, hrun, hend, hW, hsame, ce, hce, hO⟩ := X₁.ctorThrowS hexec htr (own := own) (cls := cls) (names := names) (ic := ic) hown' hcls hnames h (fun x hx => nomatch hx) hfX hkX hcellA (by rw [hhp, hT]; exact Nat.le_refl _) (msg := .ref sa) rfl
    (g := { method := m, pc := pc + 6, locals := ls, stack := .ref sa :: .ref T.heap.size :: .ref T.heap.size :: rest, locked := none }) rfl hsize rfl rfl (rest := rest) rfl
    (by rw [hb]; exact d6) (by rw [hb]; exact d9) hout hRframes (by simp only [List.map_cons, List.sum_cons, hcat]; omega) hlocks
  obtain ⟨f1, f2⟩ := vx_frame hsame
  rw [hhp] at f1 f2
  have hWs : s.WarmedH U.vm := State.WarmedH.trans hW0 hW
  have hcl : s.vm.findClass cls = some ce.cls := by
    have h9 := hO.cls
    rw [hvm] at h9
    exact h9
  have hall : s.sameButNew ({ U with vm := s.vm } : State) locs mc ms := by
    subst hA
    obtain ⟨e1, e2⟩ := hsame
    rw [State.setFrames_setFrames] at e1
    have h2 : (T.setVm s.vm).sameButNew ({ U with vm := s.vm } : State) [] (0 + 1) (0 + 6) := ⟨e1, e2⟩
    have h3 := X.same.trans h2
    rw [List.append_nil] at h3
    exact h3.mono hc hs
  refine ⟨U, ?_, .threw T.heap.size, hrun, hend, Or.inr ⟨T.heap.size, rfl, cls, ce, locs, hx U hWs.alike f1 (fun q hq => f2 q hq (fun z hz => nomatch hz)), hce, hO.vm, hcl, hWs, hall, hf⟩⟩
  refine st1 _ ?_
  show Steps p.tables e below (T1.setTop { method := m, pc := pc + 3, locals := ls, stack := .ref T.heap.size :: rest, locked := none }) _
  jvm_step X₁.here [X₁.here.top, hexec, d3', Value.category]
  exact X₁.ldcString hexec (own := own) (text := text) (index := is) (a := sa) hown' hstr'.1 hstr'.2
    (g := { method := m, pc := pc + 4, locals := ls, stack := .ref T.heap.size :: .ref T.heap.size :: rest, locked := none }) rfl d4' _ hsteps
/-- 'throw new E("text")', the text by a wide index -/
theorem vx_throwSW {cc : ByteArray} {pc : Nat} (hexec : p.tables.exec = Jvm.exec) (hb : c.code = cc) (hl : l.stackTraces = false) {own cls text : String} {names : List String} {ik is ic mc ms sa : Nat} {A : Nat → Prop}
    (hown : s.vm.findClass own = some m.cls) (hcls : Bundle.fit cls = true) (hnames : ∀ n ∈ names, Bundle.fit n = true)
    (hk : (Cond.classLink own ik cls).before args s = true) (hini : (Cond.initialized cls).before args s = true) (hstr : vk_R own is text sa s) (hat : ∀ w ∈ vx_atS own ic cls names, w.before args s = true)
    (hgood : ∀ w ∈ Cond.classLink own ik cls :: Cond.initialized cls :: vx_atS own ic cls names, vx_ot w = true)
    (hU : vx_Zq Bundle.tN "UNASSIGNED_STACK" Bundle.steD A s s.heap) (hN : vx_Zq Bundle.tN "SUPPRESSED_SENTINEL" Bundle.listD A s s.heap) (hS : va_S A s.heap H locs) (hsize : ls.size = c.maxLocals)
    (d0 : decode cc pc = .ok (.new ik, 3)) (d3 : decode cc (pc + 3) = .ok (.dup, 1)) (d4 : decode cc (pc + 4) = .ok (.ldc_w is, 3)) (d7 : decode cc (pc + 7) = .ok (.invokespecial ic, 3)) (d10 : decode cc (pc + 10) = .ok (.athrow, 1))
    (hout : ∀ x ∈ c.exceptionTable.toList, covers x (pc + 10) = false)
    (hRframes : names.length + 3 < R.frames) (hRlocals : (rest.map fun v => v.category).sum + (13 * (names.length + 1) + 43) ≤ R.locals) (hRcells : cells + 1 ≤ R.cells) (hRslots : slots + 6 ≤ R.slots) (hlocks : meth.locks = false)
    (hx : ∀ t : State, s.vm.Alike t.vm → H.size ≤ t.heap.size → (∀ q : Nat, q < H.size → t.heap[q]? = H[q]?) → XC cls s t)
    (hf : ∀ z ∈ locs, free z.base) (hc : cells + 1 ≤ mc) (hs : slots + 6 ≤ ms) :
    W p l e R s m args below meth c H locs cells slots (vx_MQ below Qc XC args s mc ms free) (F0 m pc ls rest) := by
  intro T hT X
  have htr : e.platform.stackTraces = false := (show e.platform.stackTraces = l.stackTraces by rw [X.admits.platform]).trans hl
  have Y := vx_rebase X (R' := { frames := R.frames, locals := R.locals, cells := 1, slots := 6 }) (Nat.le_refl _) (Nat.le_refl _) hRcells hRslots
  obtain ⟨s', hA⟩ : ∃ z, z = (T.setVm s.vm).setFrames (.invoking m args :: below) := ⟨_, rfl⟩
  rw [← hA] at Y
  have hvm : s'.vm = s.vm := by rw [hA]; rfl
  have hhp : s'.heap = H := by rw [hA]; exact hT
  have hW0 : s.WarmedH s'.vm := by rw [hvm]; exact State.WarmedH.refl s
  have hat' : ∀ w ∈ vx_atS own ic cls names, w.before args s' = true := fun w hw => vx_ot_at hW0 hvm.symm (hgood w (List.mem_cons_of_mem _ (List.mem_cons_of_mem _ hw))) (hat w hw)
  have hk' : (Cond.classLink own ik cls).before args s' = true := vx_ot_at hW0 hvm.symm (hgood _ List.mem_cons_self) hk
  have hini' : (Cond.initialized cls).before args s' = true := vx_ot_at hW0 hvm.symm (hgood _ (List.mem_cons_of_mem _ List.mem_cons_self)) hini
  have hU' : vx_Zq Bundle.tN "UNASSIGNED_STACK" Bundle.steD A s' s'.heap := by rw [hhp]; exact vx_Zq.moved hW0.alike (hU.kept hS.2.1)
  have hN' : vx_Zq Bundle.tN "SUPPRESSED_SENTINEL" Bundle.listD A s' s'.heap := by rw [hhp]; exact vx_Zq.moved hW0.alike (hN.kept hS.2.1)
  have h : ∀ w ∈ Bundle.ownAtoms own ic cls names, w.before args s' = true := vx_own hat' (vx_isRefq hU'.1) (vx_isRefq hN'.1) hU'.2.word hN'.2.word
  have hown' : s'.vm.findClass own = some m.cls := by rw [hvm]; exact hown
  have hins : (Cond.instantiable cls 6).before args s' = true := h _ (by simp [Bundle.ownAtoms])
  obtain ⟨vm₁, cX, kX, hfX, hkX, -, -, X₁, st1⟩ := Y.newCold hexec (own := own) (C := cls) (index := ik) (n := 6) hown' hk' hins hini'
    (g := F0 m pc ls rest) rfl (by rw [hb]; exact d0) (Nat.le_refl _) (Nat.le_refl _)
  generalize hT1 : (T.setVm vm₁).pushCell { cls := cX, slots := kX.instanceTypes.map defaultValue, vm := .none } = T1 at X₁ st1
  have hcat : (Value.ref T.heap.size).category = 1 := rfl
  have hcellA : T1.heap[T.heap.size]? = some (freshCell cX kX) := by rw [← hT1]; exact State.heap_pushCell_size _ _
  have d3' : decode c.code (pc + 3) = .ok (.dup, 1) := by rw [hb]; exact d3
  have d4' : decode c.code (pc + 4) = .ok (.ldc_w is, 3) := by rw [hb]; exact d4
  have hstr' : vk_R own is text sa s' := vk_R.warm hW0 hstr
  obtain ⟨U, hsteps, hrun, hend, hW, hsame, ce, hce, hO⟩ := X₁.ctorThrowS hexec htr (own := own) (cls := cls) (names := names) (ic := ic) hown' hcls hnames h (fun x hx => nomatch hx) hfX hkX hcellA (by rw [hhp, hT]; exact Nat.le_refl _) (msg := .ref sa) rfl
    (g := { method := m, pc := pc + 7, locals := ls, stack := .ref sa :: .ref T.heap.size :: .ref T.heap.size :: rest, locked := none }) rfl hsize rfl rfl (rest := rest) rfl
    (by rw [hb]; exact d7) (by rw [hb]; exact d10) hout hRframes (by simp only [List.map_cons, List.sum_cons, hcat]; omega) hlocks
  obtain ⟨f1, f2⟩ := vx_frame hsame
  rw [hhp] at f1 f2
  have hWs : s.WarmedH U.vm := State.WarmedH.trans hW0 hW
  have hcl : s.vm.findClass cls = some ce.cls := by
    have h9 := hO.cls
    rw [hvm] at h9
    exact h9
  have hall : s.sameButNew ({ U with vm := s.vm } : State) locs mc ms := by
    subst hA
    obtain ⟨e1, e2⟩ := hsame
    rw [State.setFrames_setFrames] at e1
    have h2 : (T.setVm s.vm).sameButNew ({ U with vm := s.vm } : State) [] (0 + 1) (0 + 6) := ⟨e1, e2⟩
    have h3 := X.same.trans h2
    rw [List.append_nil] at h3
    exact h3.mono hc hs
  refine ⟨U, ?_, .threw T.heap.size, hrun, hend, Or.inr ⟨T.heap.size, rfl, cls, ce, locs, hx U hWs.alike f1 (fun q hq => f2 q hq (fun z hz => nomatch hz)), hce, hO.vm, hcl, hWs, hall, hf⟩⟩
  refine st1 _ ?_
  show Steps p.tables e below (T1.setTop { method := m, pc := pc + 3, locals := ls, stack := .ref T.heap.size :: rest, locked := none }) _
  jvm_step X₁.here [X₁.here.top, hexec, d3', Value.category]
  exact X₁.ldcStringW hexec (own := own) (text := text) (index := is) (a := sa) hown' hstr'.1 hstr'.2
    (g := { method := m, pc := pc + 4, locals := ls, stack := .ref T.heap.size :: .ref T.heap.size :: rest, locked := none }) rfl d4' _ hsteps
end Ends
section Bodies
variable {l : Launch}
theorem vx_ofW {y : MethodName} {ws ws' : List Cond} {rm : Room} {Pc : Array Value → State → Prop} {Qc : Array Value → State → Outcome → State → Prop} {XC : String → State → State → Prop} {mc ms : Nat} {free : Addr → Prop} {cc : ByteArray} {maxL : Nat} {ret : Option FieldType}
    (hy : plainName y.cls = true) (hw : ws = Cond.code y cc maxL ret :: ws')
    (body : ∀ p e s m args below meth c s₁, BodyLoose p l y (headSpec ws rm) cc maxL ret e s m args below meth c s₁ → c.maxLocals = maxL → (∀ x ∈ c.exceptionTable.toList, False) → Pc args s →
      W p l e (headSpec ws rm).room s m args below meth c s.heap [] 0 0 (vx_MQ below Qc XC args s mc ms free) (entryFrame m args maxL)) : vx_Met l y ws rm Pc Qc XC mc ms free := by
  refine MetFree.of_bodyS (code := cc) (maxLocals := maxL) (ret := ret) hy ?_ ?_
  · intro args s m h hn
    obtain ⟨meth, c, h1, h2, h3, h4, h5, h6, -, -⟩ := Cond.code_spec hn (atoms_spec (ws := ws) h _ (by rw [hw]; exact List.mem_cons_self))
    exact ⟨meth, c, h1, h2, h3, h4, h5, h6⟩
  · intro p e s m args below meth c s₁ B hml hP _
    have hh0 : s₁.heap = s.heap := by rw [B.state]; rfl
    have ht : ∀ x ∈ c.exceptionTable.toList, False := by
      obtain ⟨meth9, c9, h1, h2, -, -, -, -, h7, -⟩ := Cond.code_spec B.named (atoms_spec (ws := ws) B.pre _ (by rw [hw]; exact List.mem_cons_self))
      cases Option.some.inj (h1.symm.trans B.method)
      cases Option.some.inj (h2.symm.trans (Stand.of_body B).code)
      intro x hx
      rw [Array.isEmpty_iff.mp h7] at hx
      cases hx
    obtain ⟨t, a1, o, b1, b2, b3⟩ := body p e s m args below meth c s₁ B hml ht hP s₁ hh0 (Stand.of_body B)
    exact ⟨t, o, a1, b1, b2, b3⟩
/-- the table of a body with handlers -/
theorem vx_table {p : Program} {x y : MethodName} {S : Spec} {cc bytes : ByteArray} {maxL maxL' : Nat} {ret ret' : Option FieldType} {e : Env} {s s₁ : State} {m : MethodId} {args : Array Value} {below : List Frame} {meth : Method} {c : Code} {hh : List (Nat × Nat × Nat × Nat)}
    (B : BodyLoose p l y S cc maxL ret e s m args below meth c s₁) (h : (Cond.codeWith y bytes maxL' ret' hh).before args s = true) : c.exceptionTable.toList = tableOf hh := by
  obtain ⟨m9, meth9, c9, hn9, h1, h2, -, -, h6, -⟩ := Cond.codeWith_spec h
  cases Option.some.inj (hn9.symm.trans B.named)
  cases Option.some.inj (h1.symm.trans B.method)
  cases Option.some.inj (h2.symm.trans (Stand.of_body B).code)
  rw [← h6, table_eq]
end Bodies
end VXA
/-! ===== END ===== -/
/-! ===== BEGIN a static call of a method with an exception table ===== -/
section VXS
variable {p : Program} {l : Launch} {e : Env} {R : Room} {s : State} {m : MethodId} {args : Array Value} {below : List Frame} {meth : Method} {c : Code} {T : State} {H : Heap} {locs : List Loc} {cells slots : Nat}
abbrev vx_CSW (R : Room) (s : State) (args : Array Value) (own : String) (index : Nat) (y : MethodName) (bytes : ByteArray) (maxL : Nat) (ret : Option FieldType) (hh : List (Nat × Nat × Nat × Nat)) (ws : List Cond) (rm : Room) (mc ms n : Nat) : Prop :=
  (rm.cells = mc ∧ rm.slots = ms ∧ rm.frames + 1 ≤ R.frames ∧ 8 + (maxL + 11) + rm.locals ≤ R.locals ∧ (∀ w ∈ ws, ∀ (a' : Array Value) (U : State), s.WarmedH U.vm → w.before a' U = true) ∧ Cond.codeWith y bytes maxL ret hh ∈ ws) ∧
  (Cond.codeWith y bytes maxL ret hh).before args s = true ∧ (Cond.initialized y.cls).before args s = true ∧ (y.cls ≠ "java/lang/invoke/MethodHandle" ∧ y.cls ≠ "java/lang/invoke/VarHandle") ∧
  (∀ sig, parseMethodDescriptor y.desc = some sig → n = sig.parameters.length) ∧ (Cond.methodLink own index y).before args s = true ∧ (Cond.static y).before args s = true
theorem vx_cwSW {own : String} {index maxL mc ms : Nat} {y : MethodName} {bytes : ByteArray} {ret : Option FieldType} {hh : List (Nat × Nat × Nat × Nat)} {Ts ws ws' : List Cond} {rm : Room} (n : Nat) (ht : ∀ w ∈ Ts, w.before args s = true) (hT : GoodIn Ts (va_wsS own index y ws)) (hw : ws = Cond.codeWith y bytes maxL ret hh :: ws') (hrc : rm.cells = mc) (hrs : rm.slots = ms)
    (hd : y.cls ≠ "java/lang/invoke/MethodHandle" ∧ y.cls ≠ "java/lang/invoke/VarHandle" ∧ (parseMethodDescriptor y.desc).map (fun d => d.parameters.length) = some n) (hR : rm.frames + 1 ≤ R.frames ∧ 8 + (maxL + 11) + rm.locals ≤ R.locals) :
    vx_CSW R s args own index y bytes maxL ret hh ws rm mc ms n := by
  have ok : ∀ w ∈ va_wsS own index y ws, w.before args s = true := fun w h => ht w (hT w h).1
  have hG : GoodIn Ts ws := fun w h => hT w (by unfold va_wsS; exact List.mem_append_right _ h)
  have hc : Cond.codeWith y bytes maxL ret hh ∈ ws := by rw [hw]; exact List.mem_cons_self
  refine ⟨⟨hrc, hrs, hR.1, hR.2, pay_in ht hG, hc⟩, ht _ (hG _ hc).1, ok _ (by simp [va_wsS]), ⟨hd.1, hd.2.1⟩, fun sig h => ?_, ok _ (by simp [va_wsS]), ok _ (by simp [va_wsS])⟩
  have h2 := hd.2.2
  rw [h] at h2
  exact (Option.some.inj h2).symm
theorem vx_callSW (X : Stand p l e R s m args below meth c T locs cells slots) (hexec : p.tables.exec = Jvm.exec) {own : String} {index : Nat} {y : MethodName} {bytes : ByteArray} {maxL : Nat} {ret : Option FieldType} {hh : List (Nat × Nat × Nat × Nat)}
    (hown : s.vm.findClass own = some m.cls) (hlink : (Cond.methodLink own index y).before args s = true) (hstat : (Cond.static y).before args s = true) (hinit : (Cond.initialized y.cls).before args s = true)
    (hcode : (Cond.codeWith y bytes maxL ret hh).before args s = true) (hy : y.cls ≠ "java/lang/invoke/MethodHandle" ∧ y.cls ≠ "java/lang/invoke/VarHandle")
    {W9 : Nat} {Pre : Pt → Array Value → Prop} {Post : Pt → Array Value → Option Value → Pt → Prop} (hK : Back l R p e below s args y 3 W9 Pre Post)
    {g : JFrame} (hg : g.method = m) (hsize : g.locals.size = c.maxLocals) {argsL rest : List Value} (hlen : ∀ sig, parseMethodDescriptor y.desc = some sig → argsL.length = sig.parameters.length)
    (hstack : g.stack = argsL.reverse ++ rest) (hW : 2 * g.monitorRoom + (rest.map fun v => v.category).sum ≤ W9) (hdg : decode c.code g.pc = .ok (.invokestatic index, 3))
    (hpre : ∀ vm₁, s.WarmedH vm₁ → Pre ⟨T.setVm vm₁, locs, cells, slots⟩ argsL.toArray) :
    ∃ (v : Option Value) (vm₁ : Vm) (B : Pt), s.WarmedH vm₁ ∧ Stand p l e R s m args below meth c B.U B.locs B.cells B.slots ∧ Post ⟨T.setVm vm₁, locs, cells, slots⟩ argsL.toArray v B ∧
      ∀ target, Steps p.tables e below (B.U.setTop { g with pc := g.pc + 3, stack := v.toList ++ rest }) target → Steps p.tables e below (T.setTop g) target := by
  obtain ⟨mk, methM, cM, hnamed, hmethM, -, -, -, -, -, -, hsigM⟩ := Cond.codeWith_spec hcode
  have hstatic : methM.isStatic = true := Cond.static_spec hnamed hmethM hstat
  obtain ⟨kP, hkP, -⟩ := className_of_methodNamed hnamed
  have hinitP : kP.init = .initialized := Cond.initialized_spec (findClass_of_methodNamed hnamed) hkP hinit
  obtain ⟨vm₁, X₁, hstep₁⟩ := X.invokestatic hexec hown hlink hnamed hmethM hstatic hkP hinitP hy (g := g) hg (argsL := argsL) (rest := rest) (hlen _ hsigM) hstack hdg
  obtain ⟨v, B, X', hpost, hsteps⟩ := hK m meth c ⟨T.setVm vm₁, locs, cells, slots⟩ { g with stack := rest } (.invokestatic index) mk argsL.toArray X₁ hg hsize hdg hW (X₁.named hnamed) (hpre vm₁ X₁.warmed)
  exact ⟨v, vm₁, B, X₁.warmed, X', hpost, fun target h => hstep₁ _ fun acts => by rw [doInvoke_state]; exact hsteps.trans h⟩
theorem vx_runSW {y : MethodName} {bytes cc : ByteArray} {maxL nL mc ms n index : Nat} {ret : Option FieldType} {hh : List (Nat × Nat × Nat × Nat)} {ws : List Cond} {rm : Room} {Pc : Array Value → State → Prop} {Qc : Array Value → State → Outcome → State → Prop} {free : Addr → Prop} {Ts : List Cond} {own : String} {As rest : List Value} {g : JFrame}
    (S : CallFix p m c cc nL s args Ts own) (hM : Met l y ws rm Pc Qc mc ms free) (cw : vx_CSW R s args own index y bytes maxL ret hh ws rm mc ms n) (hp : PreS s H Pc As)
    (hg : g.method = m) (hn : As.length = n) (hsize : g.locals.size = nL) (hstack : g.stack = As.reverse ++ rest) (hW : 2 * g.monitorRoom + (rest.map fun v => v.category).sum ≤ 8) (hdg : decode cc g.pc = .ok (.invokestatic index, 3)) (hf : cells + mc ≤ R.cells ∧ slots + ms ≤ R.slots) :
    va_Run p l e R s m args below meth c H locs cells slots mc ms g rest (Qc As.toArray) (free) := by
  obtain ⟨⟨hrc, hrs, hfr, hlo, hws, hcw⟩, hcode, hini, hy, hlen, hl, hstt⟩ := cw
  have hK : Back l R p e below s args y 3 8 (PreOf R mc ms Pc) (PostOf Qc mc ms free) := va_backW (hh := hh) (bytes := bytes) (maxL := maxL) (ret := ret) hM hp.1 hrc hrs hfr hlo hws hcw (fun a' U hW => word_at hW (Or.inl (by first | rfl | simp [Cond.onTables, Cond.keeps, Cond.steady])) hini)
  obtain ⟨hx, hb, hml, ho, -⟩ := S
  intro T hT X
  obtain ⟨v, vm₁, ⟨U', l2, c2, s2⟩, hW₁, X', ⟨g', mk, t, L, e1, e2, hq, h1, hL, h2, h3⟩, st⟩ := vx_callSW X hx (hh := hh) (bytes := bytes) (maxL := maxL) (ret := ret) ho hl hstt hini hcode hy hK hg (hsize.trans hml.symm) (argsL := As) (rest := rest) (fun sig h => hn.trans (hlen sig h)) hstack hW (by rw [hb]; exact hdg)
    (fun vm₁ hW₁ => ⟨hf.1, hf.2, hp.2 (T.setVm vm₁) hT hW₁⟩)
  dsimp only [Pt.U, Pt.locs, Pt.cells, Pt.slots] at X' e1 e2 h1 h2 h3 st
  subst h1; subst h2; subst h3
  exact ⟨v, (T.setVm vm₁).calling g' mk As.toArray, t, U', L, hT, X', hL, e1, e2, hq, st⟩
/-- not caught here, past rows that name other classes: it goes on to the caller -/
theorem vx_outP {p : Program} {l : Launch} {e : Env} {R : Room} {s : State} {m : MethodId} {args : Array Value} {below : List Frame} {meth : Method} {c : Code} {H : Heap} {locs : List Loc} {cells slots : Nat} {free : Addr → Prop} {ls : Array Slot} {rest : List Value} {Qc : Array Value → State → Outcome → State → Prop} {XC : String → State → State → Prop}
    {pc : Nat} {own E : String} {ce : Cell} {q : Addr} {mc ms : Nat} (hown : s.vm.findClass own = some m.cls) (hlocks : meth.locks = false)
    (hpass : ∀ z ∈ c.exceptionTable.toList, covers z pc = false ∨ (z.catchType ≠ 0 ∧ ∃ nm : String, (Cond.classLink own z.catchType nm).before args s = true ∧ va_Nc E nm s)) (hcell : H[q]? = some ce) (hv : ce.vm = .none) (hcl : s.vm.findClass E = some ce.cls)
    (hx : ∀ t : State, t.heap = H → s.vm.Alike t.vm → XC E s t) (hf : ∀ z ∈ locs, free z.base) (hc : cells ≤ mc) (hs : slots ≤ ms) :
    vx_W p l e R s m args below meth c H locs cells slots (vx_MQ below Qc XC args s mc ms free) (F0 m pc ls rest) q := by
  intro T hT X
  have hpl : e.platform.magicAccessors = ({} : Platform).magicAccessors := by rw [X.admits.platform]
  obtain ⟨vm', hW', X', st⟩ := X.outThrough hlocks q (g := F0 m pc ls rest) rfl rfl rfl (cell := ce) (by rw [hT]; exact hcell) (by rw [hv]; rfl)
    (by obtain ⟨k9, h9, -⟩ := Vm.findClass_spec hcl; exact ⟨k9, h9⟩) (fun z hz => by
      rcases hpass z hz with h | ⟨hz0, nm, hl1, hn1⟩
      · exact Or.inl h
      · obtain ⟨c6, hc6, hcl6⟩ := Cond.classLink_spec hown hl1 e.platform hpl
        obtain ⟨a8, b8, h1, h2, h3⟩ := hn1
        cases Option.some.inj (h1.symm.trans hcl)
        cases Option.some.inj (h2.symm.trans hc6)
        exact Or.inr ⟨hz0, _, hcl6, h3⟩)
  obtain ⟨g₀, hfr⟩ := X'.frames_eq
  have hcell9 : ((T.setVm vm').setFrames (.throwing q :: below)).heap[q]? = some ce := by
    show T.heap[q]? = some ce
    rw [hT]; exact hcell
  have hend : Ended ((T.setVm vm').setFrames (.throwing q :: below)) below (.threw q) := State.frames_setFrames _ (State.cur_lt_of_frames hfr)
  refine ⟨(T.setVm vm').setFrames (.throwing q :: below), ?_, .threw q, X'.here.running, hend, Or.inr ⟨q, rfl, E, ce, locs, hx _ hT (X'.ends _).1.alike, hcell9, hv, hcl, (X'.ends _).1, (X'.ends _).2.mono hc hs, hf⟩⟩
  rw [X.pushThrowing_eq]
  exact st
/-- a thing of a world lies in the heap -/
theorem vx_lt {D : va_G} {cl : List vw_C} {ws : va_W} {H1 : Heap} (h : va_P D cl ws H1) {k : Nat} {q : Nat × va_E} (hk : ws[k]? = some q) : q.1 < H1.size := (h k q hk).lt
end VXS
/-! ===== END ===== -/
/-! ===== BEGIN methods with a table of their own: called by a name, returning or throwing ===== -/
section VXH
/-! vx_backW, vx_callVX, vx_callSX, vx_callVW, vx_runVW, vx_runVX, vx_runSX, vx_ofWH follow the same proofs as their sisters above (Free/Laws.lean, Shelf42/LK1.lean); vx_outP calls Shelf42/NT130.lean (outThrough). -/
section
variable {l : Launch} {R : Room} {p : Program} {e : Env} {below : List Frame} {s : State} {sargs : Array Value} {y : MethodName} {len W9 : Nat}
theorem vx_backW {ws : List Cond} {rm : Room} {Pc : Array Value → State → Prop} {Qc : Array Value → State → Outcome → State → Prop} {XC : String → State → State → Prop} {mc ms : Nat} {free : Addr → Prop} {bytes : ByteArray} {maxL : Nat} {ret : Option FieldType} {hh : List (Nat × Nat × Nat × Nat)}
    (hM : vx_Met l y ws rm Pc Qc XC mc ms free) (hblind : FrameBlind Pc) (hrc : rm.cells = mc) (hrs : rm.slots = ms)
    (hframes : rm.frames + 1 ≤ R.frames) (hlocals : W9 + (maxL + 11) + rm.locals ≤ R.locals)
    (hws : ∀ w ∈ ws, ∀ a' U, s.WarmedH U.vm → w.before a' U = true) (hcode : Cond.codeWith y bytes maxL ret hh ∈ ws) (hinit : ∀ a' U, s.WarmedH U.vm → (Cond.initialized y.cls).before a' U = true) :
    vx_Back l R p e below s sargs y len W9 (PreOf R mc ms Pc) (PostOf Qc mc ms free) (vx_Post XC mc ms free) := by
  intro m meth c A g ig mk a X hg hsize hdg hW hn hp
  have h1 : (headSpec ws rm).pre.before a A.U = true := atoms_intro fun w hw => hws w hw _ _ X.warmed
  have h2 : (Cond.codeWith y bytes maxL ret hh).before a A.U = true := hws _ hcode _ _ X.warmed
  have h3 : (Cond.initialized y.cls).before a A.U = true := hinit _ _ X.warmed
  have h4 : A.cells + (headSpec ws rm).room.cells ≤ R.cells := by rw [show (headSpec ws rm).room.cells = mc from hrc]; exact hp.1
  have h5 : A.slots + (headSpec ws rm).room.slots ≤ R.slots := by rw [show (headSpec ws rm).room.slots = ms from hrs]; exact hp.2.1
  have hPc : Pc a (A.U.calling g mk a) := hblind _ _ _ _ hp.2.2
  obtain ⟨U, Ls, c0, s0⟩ := A
  dsimp only [Pt.U, Pt.locs, Pt.cells, Pt.slots] at h1 h2 h3 h4 h5 X hn hPc ⊢
  obtain ⟨m9, methY, cY, hn9, hmY, hcY, -, hlY, -⟩ := Cond.codeWith_spec h2
  cases Option.some.inj (hn9.symm.trans hn)
  obtain ⟨kY, hkY, -⟩ := className_of_methodNamed hn
  have hinitY : kY.init = .initialized := Cond.initialized_spec (findClass_of_methodNamed hn) hkY h3
  have h : At U g.method c below := by rw [hg]; exact X.here
  have hlocals9 : W9 + (maxL + 11) + (headSpec ws rm).room.locals ≤ R.locals := hlocals
  have happ : (headSpec ws rm).appliesLoose y e.platform (U.calling g mk a) = true :=
    Spec.appliesLoose_calling (g := g) h hdg hn hkY hinitY
      (X.room_calling (g := g) (R' := (headSpec ws rm).room) hsize hmY hcY hframes (by rw [hlY]; omega) h4 h5) h1
  obtain ⟨mid, hmid⟩ := h.above
  have hfr : (U.setTop g).frames = (.java g :: mid) ++ below := by rw [State.frames_setTop' g h.top, hmid]; rfl
  obtain ⟨o, s₂, hsteps, -, hend, hq⟩ := Steps.callFree hM p X.admits X.cas X.clock (acts := []) hfr happ hPc trivial
  have hq' : vx_Q Qc XC mc ms free a (U.calling g mk a) o s₂ := hq
  rw [State.frames_setTop' g h.top] at hend
  obtain ⟨g₀, hg0⟩ := Option.isSome_iff_exists.mp h.top
  obtain ⟨r, hr⟩ := State.topJava?_eq_some.mp hg0
  have hr' : (({ U with heap := s₂.heap, slotsUsed := s₂.slotsUsed } : State).setVm s₂.vm).frames = .java g₀ :: r := hr
  rcases hq' with ⟨hqc, L, hfe, hL⟩ | ⟨q, rfl, E, ce, L, hx, hce, hcv, hcl, hW₂, hsm, hL⟩
  · obtain ⟨⟨v, rfl⟩, hW₂, e2, q2, q3, q4, q5, q6⟩ := id hfe
    have e3 : s₂ = ({ (U.calling g mk a).setFrames s₂.frames with heap := s₂.heap, slotsUsed := s₂.slotsUsed } : State).setVm s₂.vm := by
      have : s₂ = ({ s₂ with vm := (U.calling g mk a).vm } : State).setVm s₂.vm := rfl
      rw [e2] at this
      exact this
    obtain ⟨c₂, i₂, len₂, hc₂, hd₂, hf₂⟩ := hend
    have hW' : U.WarmedH s₂.vm := hW₂
    have hcc : c₂ = c := by
      have h1 : s₂.code? g.method = U.code? g.method := by
        rw [State.code?_eq, State.code?_eq, hW'.alike.method?]
      exact Option.some.inj (hc₂.symm.trans (h1.trans h.code))
    subst hcc
    have hlen : len₂ = len := by rw [hdg] at hd₂; cases hd₂; rfl
    subst hlen
    have hs₂ : s₂ = (({ U with heap := s₂.heap, slotsUsed := s₂.slotsUsed } : State).setVm s₂.vm).setTop { g with pc := g.pc + len₂, stack := v.toList ++ g.stack } := by
      refine e3.trans ?_
      rw [hf₂, State.calling_eq h.top, State.setFrames_setFrames, State.setTop_of_frames _ hr', hr]
      rfl
    have hsame : U.sameButNew ({ U with heap := s₂.heap, slotsUsed := s₂.slotsUsed } : State) L mc ms := by
      refine ⟨?_, q2, q3, q4, q5, q6⟩
      obtain ⟨t, ht, -⟩ := State.frames_cons hr
      show ({ U with heap := s₂.heap, slotsUsed := s₂.slotsUsed } : State) = { U.setFrames U.frames with heap := s₂.heap, slotsUsed := s₂.slotsUsed }
      rw [State.setFrames_self ht]
    subst hg
    refine Or.inl ⟨v, ⟨(({ U with heap := s₂.heap, slotsUsed := s₂.slotsUsed } : State).setVm s₂.vm), Ls ++ L, c0 + mc, s0 + ms⟩,
      ⟨X.admits, X.cas, X.clock, X.frames, X.room, X.hears, X.method, X.code, (X.here.setHeapUsed s₂.heap s₂.slotsUsed).setVm hW'.alike, X.tail, State.WarmedH.trans X.warmed hW', X.limits, X.bytes, X.same.trans (hsame.setVm s.vm)⟩,
      ⟨g, mk, s₂, L, rfl, rfl, hqc, rfl, hL, rfl, rfl⟩, ?_⟩
    show Steps p.tables e below _ ((({ U with heap := s₂.heap, slotsUsed := s₂.slotsUsed } : State).setVm s₂.vm).setTop { g with pc := g.pc + len₂, stack := v.toList ++ g.stack })
    rw [← hs₂]
    exact hsteps
  · obtain ⟨e2, q2, q3, q4, q5, q6⟩ := id hsm
    have e3 : s₂ = ({ (U.calling g mk a).setFrames s₂.frames with heap := s₂.heap, slotsUsed := s₂.slotsUsed } : State).setVm s₂.vm := by
      have : s₂ = ({ s₂ with vm := (U.calling g mk a).vm } : State).setVm s₂.vm := rfl
      rw [e2] at this
      exact this
    have hf₂ : s₂.frames = .throwing q :: .java g :: U.frames.tail := hend
    have hW' : U.WarmedH s₂.vm := hW₂
    have hs₂ : s₂ = ((({ U with heap := s₂.heap, slotsUsed := s₂.slotsUsed } : State).setVm s₂.vm).setTop g).pushFrame (.throwing q) := by
      refine e3.trans ?_
      rw [hf₂, State.calling_eq h.top, State.setFrames_setFrames, State.pushFrame, State.frames_setTop _ hr', State.setTop_of_frames _ hr', State.setFrames_setFrames, hr]
      rfl
    have hsame : U.sameButNew ({ U with heap := s₂.heap, slotsUsed := s₂.slotsUsed } : State) L mc ms := by
      refine ⟨?_, q2, q3, q4, q5, q6⟩
      obtain ⟨t, ht, -⟩ := State.frames_cons hr
      show ({ U with heap := s₂.heap, slotsUsed := s₂.slotsUsed } : State) = { U.setFrames U.frames with heap := s₂.heap, slotsUsed := s₂.slotsUsed }
      rw [State.setFrames_self ht]
    subst hg
    refine Or.inr ⟨q, ⟨(({ U with heap := s₂.heap, slotsUsed := s₂.slotsUsed } : State).setVm s₂.vm), Ls ++ L, c0 + mc, s0 + ms⟩,
      ⟨X.admits, X.cas, X.clock, X.frames, X.room, X.hears, X.method, X.code, (X.here.setHeapUsed s₂.heap s₂.slotsUsed).setVm hW'.alike, X.tail, State.WarmedH.trans X.warmed hW', X.limits, X.bytes, X.same.trans (hsame.setVm s.vm)⟩,
      ⟨g, mk, s₂, L, E, ce, rfl, rfl, hx, hce, hcv, hcl, rfl, hL, rfl, rfl⟩, ?_⟩
    show Steps p.tables e below _ (((({ U with heap := s₂.heap, slotsUsed := s₂.slotsUsed } : State).setVm s₂.vm).setTop g).pushFrame (.throwing q))
    rw [← hs₂]
    exact hsteps
end
variable {p : Program} {l : Launch} {e : Env} {R : Room} {s : State} {m : MethodId} {args : Array Value} {below : List Frame} {meth : Method} {c : Code} {T : State} {H : Heap} {locs : List Loc} {cells slots : Nat}
theorem vx_callVX (X : Stand p l e R s m args below meth c T locs cells slots) (hexec : p.tables.exec = Jvm.exec) {own C : String} {index : Nat} {y : MethodName} {bytes : ByteArray} {maxL : Nat} {ret : Option FieldType} {hh : List (Nat × Nat × Nat × Nat)}
    (hown : s.vm.findClass own = some m.cls) (hlink : (Cond.methodLink own index y).before args s = true) (hinst : (Cond.instanceMethod y).before args s = true) (hsel : (Cond.selects C y y).before args s = true)
    (hcode : (Cond.codeWith y bytes maxL ret hh).before args s = true) (hy : y.cls ≠ "java/lang/invoke/MethodHandle" ∧ y.cls ≠ "java/lang/invoke/VarHandle")
    {W9 : Nat} {Pre : Pt → Array Value → Prop} {Post : Pt → Array Value → Option Value → Pt → Prop} {PostX : Pt → Array Value → Addr → Pt → Prop} (hK : vx_Back l R p e below s args y 3 W9 Pre Post PostX)
    {b : Addr} {cellB : Cell} (hcell : T.heap[b]? = some cellB) (hobj : cellB.vm.isStatics = false) (hcls : s.vm.findClass C = some cellB.cls)
    {g : JFrame} (hg : g.method = m) (hsize : g.locals.size = c.maxLocals) {argsL rest : List Value} (hlen : ∀ sig, parseMethodDescriptor y.desc = some sig → argsL.length = sig.parameters.length)
    (hstack : g.stack = argsL.reverse ++ .ref b :: rest) (hW : 2 * g.monitorRoom + (rest.map fun v => v.category).sum ≤ W9) (hdg : decode c.code g.pc = .ok (.invokevirtual index, 3))
    (hpre : ∀ vm₁, s.WarmedH vm₁ → Pre ⟨T.setVm vm₁, locs, cells, slots⟩ (Value.ref b :: argsL).toArray) :
    (∃ (v : Option Value) (vm₁ : Vm) (B : Pt), s.WarmedH vm₁ ∧ Stand p l e R s m args below meth c B.U B.locs B.cells B.slots ∧ Post ⟨T.setVm vm₁, locs, cells, slots⟩ (Value.ref b :: argsL).toArray v B ∧
      ∀ target, Steps p.tables e below (B.U.setTop { g with pc := g.pc + 3, stack := v.toList ++ rest }) target → Steps p.tables e below (T.setTop g) target) ∨
    (∃ (q : Addr) (vm₁ : Vm) (B : Pt), s.WarmedH vm₁ ∧ Stand p l e R s m args below meth c B.U B.locs B.cells B.slots ∧ PostX ⟨T.setVm vm₁, locs, cells, slots⟩ (Value.ref b :: argsL).toArray q B ∧
      Steps p.tables e below (T.setTop g) ((B.U.setTop { g with stack := rest }).pushFrame (.throwing q))) := by
  obtain ⟨mk, methM, hnamed, hmethM, hstM, habM⟩ := Cond.instanceMethod_spec hinst
  obtain ⟨m8, methM', cM, hn8, hmethM', -, -, -, -, -, -, hsigM⟩ := Cond.codeWith_spec hcode
  cases Option.some.inj (hn8.symm.trans hnamed)
  cases hmethM.symm.trans hmethM'
  obtain ⟨c2, r2, m2, q1, q2, q3, q4, kP, hkP, hkPi⟩ := Cond.selects_spec hsel
  cases hcls.symm.trans q1
  cases (State.methodFound?_of_named hnamed hy).symm.trans q2
  cases hnamed.symm.trans q3
  have hselP : selectMethod e.platform s.vm cellB.cls mk = .method mk := by rw [Launch.admits_selectMethod X.admits]; exact q4
  obtain ⟨vm₁, X₁, hstep₁⟩ := X.invokevirtual hexec hown hlink hnamed hmethM hstM hkP hkPi hy (a := b) (cell := cellB) hcell
    (fun z h => by rw [h] at hobj; cases hobj) hselP hmethM habM hkP hkPi (g := g) hg (argsL := argsL) (rest := rest) (hlen _ hsigM) hstack hdg
  rcases hK m meth c ⟨T.setVm vm₁, locs, cells, slots⟩ { g with stack := rest } (.invokevirtual index) mk (Value.ref b :: argsL).toArray X₁ hg hsize hdg hW (X₁.named hnamed) (hpre vm₁ X₁.warmed) with ⟨v, B, X', hpost, hsteps⟩ | ⟨q, B, X', hpost, hsteps⟩
  · exact Or.inl ⟨v, vm₁, B, X₁.warmed, X', hpost, fun target h => hstep₁ _ fun acts => by rw [doInvoke_state]; exact hsteps.trans h⟩
  · exact Or.inr ⟨q, vm₁, B, X₁.warmed, X', hpost, hstep₁ _ fun acts => by rw [doInvoke_state]; exact hsteps⟩
theorem vx_callSX (X : Stand p l e R s m args below meth c T locs cells slots) (hexec : p.tables.exec = Jvm.exec) {own : String} {index : Nat} {y : MethodName} {bytes : ByteArray} {maxL : Nat} {ret : Option FieldType} {hh : List (Nat × Nat × Nat × Nat)}
    (hown : s.vm.findClass own = some m.cls) (hlink : (Cond.methodLink own index y).before args s = true) (hstat : (Cond.static y).before args s = true) (hinit : (Cond.initialized y.cls).before args s = true)
    (hcode : (Cond.codeWith y bytes maxL ret hh).before args s = true) (hy : y.cls ≠ "java/lang/invoke/MethodHandle" ∧ y.cls ≠ "java/lang/invoke/VarHandle")
    {W9 : Nat} {Pre : Pt → Array Value → Prop} {Post : Pt → Array Value → Option Value → Pt → Prop} {PostX : Pt → Array Value → Addr → Pt → Prop} (hK : vx_Back l R p e below s args y 3 W9 Pre Post PostX)
    {g : JFrame} (hg : g.method = m) (hsize : g.locals.size = c.maxLocals) {argsL rest : List Value} (hlen : ∀ sig, parseMethodDescriptor y.desc = some sig → argsL.length = sig.parameters.length)
    (hstack : g.stack = argsL.reverse ++ rest) (hW : 2 * g.monitorRoom + (rest.map fun v => v.category).sum ≤ W9) (hdg : decode c.code g.pc = .ok (.invokestatic index, 3))
    (hpre : ∀ vm₁, s.WarmedH vm₁ → Pre ⟨T.setVm vm₁, locs, cells, slots⟩ argsL.toArray) :
    (∃ (v : Option Value) (vm₁ : Vm) (B : Pt), s.WarmedH vm₁ ∧ Stand p l e R s m args below meth c B.U B.locs B.cells B.slots ∧ Post ⟨T.setVm vm₁, locs, cells, slots⟩ argsL.toArray v B ∧
      ∀ target, Steps p.tables e below (B.U.setTop { g with pc := g.pc + 3, stack := v.toList ++ rest }) target → Steps p.tables e below (T.setTop g) target) ∨
    (∃ (q : Addr) (vm₁ : Vm) (B : Pt), s.WarmedH vm₁ ∧ Stand p l e R s m args below meth c B.U B.locs B.cells B.slots ∧ PostX ⟨T.setVm vm₁, locs, cells, slots⟩ argsL.toArray q B ∧
      Steps p.tables e below (T.setTop g) ((B.U.setTop { g with stack := rest }).pushFrame (.throwing q))) := by
  obtain ⟨mk, methM, cM, hnamed, hmethM, -, -, -, -, -, -, hsigM⟩ := Cond.codeWith_spec hcode
  have hstatic : methM.isStatic = true := Cond.static_spec hnamed hmethM hstat
  obtain ⟨kP, hkP, -⟩ := className_of_methodNamed hnamed
  have hinitP : kP.init = .initialized := Cond.initialized_spec (findClass_of_methodNamed hnamed) hkP hinit
  obtain ⟨vm₁, X₁, hstep₁⟩ := X.invokestatic hexec hown hlink hnamed hmethM hstatic hkP hinitP hy (g := g) hg (argsL := argsL) (rest := rest) (hlen _ hsigM) hstack hdg
  rcases hK m meth c ⟨T.setVm vm₁, locs, cells, slots⟩ { g with stack := rest } (.invokestatic index) mk argsL.toArray X₁ hg hsize hdg hW (X₁.named hnamed) (hpre vm₁ X₁.warmed) with ⟨v, B, X', hpost, hsteps⟩ | ⟨q, B, X', hpost, hsteps⟩
  · exact Or.inl ⟨v, vm₁, B, X₁.warmed, X', hpost, fun target h => hstep₁ _ fun acts => by rw [doInvoke_state]; exact hsteps.trans h⟩
  · exact Or.inr ⟨q, vm₁, B, X₁.warmed, X', hpost, hstep₁ _ fun acts => by rw [doInvoke_state]; exact hsteps⟩
theorem vx_callVW (X : Stand p l e R s m args below meth c T locs cells slots) (hexec : p.tables.exec = Jvm.exec) {own C : String} {index : Nat} {y : MethodName} {bytes : ByteArray} {maxL : Nat} {ret : Option FieldType} {hh : List (Nat × Nat × Nat × Nat)}
    (hown : s.vm.findClass own = some m.cls) (hlink : (Cond.methodLink own index y).before args s = true) (hinst : (Cond.instanceMethod y).before args s = true) (hsel : (Cond.selects C y y).before args s = true)
    (hcode : (Cond.codeWith y bytes maxL ret hh).before args s = true) (hy : y.cls ≠ "java/lang/invoke/MethodHandle" ∧ y.cls ≠ "java/lang/invoke/VarHandle")
    {W9 : Nat} {Pre : Pt → Array Value → Prop} {Post : Pt → Array Value → Option Value → Pt → Prop} (hK : Back l R p e below s args y 3 W9 Pre Post)
    {b : Addr} {cellB : Cell} (hcell : T.heap[b]? = some cellB) (hobj : cellB.vm.isStatics = false) (hcls : s.vm.findClass C = some cellB.cls)
    {g : JFrame} (hg : g.method = m) (hsize : g.locals.size = c.maxLocals) {argsL rest : List Value} (hlen : ∀ sig, parseMethodDescriptor y.desc = some sig → argsL.length = sig.parameters.length)
    (hstack : g.stack = argsL.reverse ++ .ref b :: rest) (hW : 2 * g.monitorRoom + (rest.map fun v => v.category).sum ≤ W9) (hdg : decode c.code g.pc = .ok (.invokevirtual index, 3))
    (hpre : ∀ vm₁, s.WarmedH vm₁ → Pre ⟨T.setVm vm₁, locs, cells, slots⟩ (Value.ref b :: argsL).toArray) :
    ∃ (v : Option Value) (vm₁ : Vm) (B : Pt), s.WarmedH vm₁ ∧ Stand p l e R s m args below meth c B.U B.locs B.cells B.slots ∧ Post ⟨T.setVm vm₁, locs, cells, slots⟩ (Value.ref b :: argsL).toArray v B ∧
      ∀ target, Steps p.tables e below (B.U.setTop { g with pc := g.pc + 3, stack := v.toList ++ rest }) target → Steps p.tables e below (T.setTop g) target := by
  obtain ⟨mk, methM, hnamed, hmethM, hstM, habM⟩ := Cond.instanceMethod_spec hinst
  obtain ⟨m8, methM', cM, hn8, hmethM', -, -, -, -, -, -, hsigM⟩ := Cond.codeWith_spec hcode
  cases Option.some.inj (hn8.symm.trans hnamed)
  cases hmethM.symm.trans hmethM'
  obtain ⟨c2, r2, m2, q1, q2, q3, q4, kP, hkP, hkPi⟩ := Cond.selects_spec hsel
  cases hcls.symm.trans q1
  cases (State.methodFound?_of_named hnamed hy).symm.trans q2
  cases hnamed.symm.trans q3
  have hselP : selectMethod e.platform s.vm cellB.cls mk = .method mk := by rw [Launch.admits_selectMethod X.admits]; exact q4
  obtain ⟨vm₁, X₁, hstep₁⟩ := X.invokevirtual hexec hown hlink hnamed hmethM hstM hkP hkPi hy (a := b) (cell := cellB) hcell
    (fun z h => by rw [h] at hobj; cases hobj) hselP hmethM habM hkP hkPi (g := g) hg (argsL := argsL) (rest := rest) (hlen _ hsigM) hstack hdg
  obtain ⟨v, B, X', hpost, hsteps⟩ := hK m meth c ⟨T.setVm vm₁, locs, cells, slots⟩ { g with stack := rest } (.invokevirtual index) mk (Value.ref b :: argsL).toArray X₁ hg hsize hdg hW (X₁.named hnamed) (hpre vm₁ X₁.warmed)
  exact ⟨v, vm₁, B, X₁.warmed, X', hpost, fun target h => hstep₁ _ fun acts => by rw [doInvoke_state]; exact hsteps.trans h⟩
abbrev vx_CVW (R : Room) (s : State) (args : Array Value) (own C : String) (index : Nat) (y : MethodName) (bytes : ByteArray) (maxL : Nat) (ret : Option FieldType) (hh : List (Nat × Nat × Nat × Nat)) (ws : List Cond) (rm : Room) (mc ms n : Nat) : Prop :=
  (rm.cells = mc ∧ rm.slots = ms ∧ rm.frames + 1 ≤ R.frames ∧ 8 + (maxL + 11) + rm.locals ≤ R.locals ∧ (∀ w ∈ ws, ∀ (a' : Array Value) (U : State), s.WarmedH U.vm → w.before a' U = true) ∧ Cond.codeWith y bytes maxL ret hh ∈ ws) ∧
  (Cond.codeWith y bytes maxL ret hh).before args s = true ∧ (Cond.initialized y.cls).before args s = true ∧ (y.cls ≠ "java/lang/invoke/MethodHandle" ∧ y.cls ≠ "java/lang/invoke/VarHandle") ∧
  (∀ sig, parseMethodDescriptor y.desc = some sig → n = sig.parameters.length) ∧ (Cond.methodLink own index y).before args s = true ∧ (Cond.instanceMethod y).before args s = true ∧ (Cond.selects C y y).before args s = true
theorem vx_cwVW {own C : String} {index maxL mc ms : Nat} {y : MethodName} {bytes : ByteArray} {ret : Option FieldType} {hh : List (Nat × Nat × Nat × Nat)} {Ts ws ws' : List Cond} {rm : Room} (n : Nat) (ht : ∀ w ∈ Ts, w.before args s = true) (hT : GoodIn Ts (wsV own index C y ws)) (hw : ws = Cond.codeWith y bytes maxL ret hh :: ws') (hrc : rm.cells = mc) (hrs : rm.slots = ms)
    (hd : y.cls = C ∧ y.cls ≠ "java/lang/invoke/MethodHandle" ∧ y.cls ≠ "java/lang/invoke/VarHandle" ∧ (parseMethodDescriptor y.desc).map (fun d => d.parameters.length) = some n) (hR : rm.frames + 1 ≤ R.frames ∧ 8 + (maxL + 11) + rm.locals ≤ R.locals) :
    vx_CVW R s args own C index y bytes maxL ret hh ws rm mc ms n := by
  obtain ⟨hC, hd⟩ := hd
  subst hC
  have ok : ∀ w ∈ wsV own index y.cls y ws, w.before args s = true := fun w h => ht w (hT w h).1
  have hG : GoodIn Ts ws := fun w h => hT w (by unfold wsV; exact List.mem_append_right _ h)
  have hc : Cond.codeWith y bytes maxL ret hh ∈ ws := by rw [hw]; exact List.mem_cons_self
  refine ⟨⟨hrc, hrs, hR.1, hR.2, pay_in ht hG, hc⟩, ht _ (hG _ hc).1, ok _ (by simp [wsV]), ⟨hd.1, hd.2.1⟩, fun sig h => ?_, ok _ (by simp [wsV]), ok _ (by simp [wsV]), ok _ (by simp [wsV])⟩
  have h2 := hd.2.2
  rw [h] at h2
  exact (Option.some.inj h2).symm
theorem vx_runVW {y : MethodName} {bytes cc : ByteArray} {maxL nL mc ms n index : Nat} {ret : Option FieldType} {hh : List (Nat × Nat × Nat × Nat)} {ws : List Cond} {rm : Room} {Pc : Array Value → State → Prop} {Qc : Array Value → State → Outcome → State → Prop} {free : Addr → Prop} {Ts : List Cond} {own C : String} {b : Addr} {As rest : List Value} {g : JFrame}
    (S : CallFix p m c cc nL s args Ts own) (hM : Met l y ws rm Pc Qc mc ms free) (cw : vx_CVW R s args own C index y bytes maxL ret hh ws rm mc ms n) (hp : PreV s H C b Pc As)
    (hg : g.method = m) (hn : As.length = n) (hsize : g.locals.size = nL) (hstack : g.stack = As.reverse ++ .ref b :: rest) (hW : 2 * g.monitorRoom + (rest.map fun v => v.category).sum ≤ 8) (hdg : decode cc g.pc = .ok (.invokevirtual index, 3)) (hf : cells + mc ≤ R.cells ∧ slots + ms ≤ R.slots) :
    va_Run p l e R s m args below meth c H locs cells slots mc ms g rest (Qc (Value.ref b :: As).toArray) free := by
  obtain ⟨⟨hrc, hrs, hfr, hlo, hws, hcw⟩, hcode, hini, hy, hlen, hl, hin, hse⟩ := cw
  have hK : Back l R p e below s args y 3 8 (PreOf R mc ms Pc) (PostOf Qc mc ms free) := va_backW (hh := hh) (bytes := bytes) (maxL := maxL) (ret := ret) hM hp.1 hrc hrs hfr hlo hws hcw (fun a' U hW => word_at hW (Or.inl (by first | rfl | simp [Cond.onTables, Cond.keeps, Cond.steady])) hini)
  obtain ⟨hx, hb, hml, ho, -⟩ := S
  obtain ⟨-, ⟨cellB, hcB, hoB, hclB⟩, hPc⟩ := hp
  intro T hT X
  obtain ⟨v, vm₁, ⟨U', l2, c2, s2⟩, hW₁, X', ⟨g', mk, t, L, e1, e2, hq, h1, hL, h2, h3⟩, st⟩ := vx_callVW X hx (C := C) (hh := hh) (bytes := bytes) (maxL := maxL) (ret := ret) ho hl hin hse hcode hy hK (by rw [hT]; exact hcB) hoB hclB hg (hsize.trans hml.symm) (argsL := As) (rest := rest) (fun sig h => hn.trans (hlen sig h)) hstack hW (by rw [hb]; exact hdg)
    (fun vm₁ hW₁ => ⟨hf.1, hf.2, hPc (T.setVm vm₁) hT hW₁⟩)
  dsimp only [Pt.U, Pt.locs, Pt.cells, Pt.slots] at X' e1 e2 h1 h2 h3 st
  subst h1; subst h2; subst h3
  exact ⟨v, (T.setVm vm₁).calling g' mk (Value.ref b :: As).toArray, t, U', L, hT, X', hL, e1, e2, hq, st⟩
section
variable {y : MethodName} {bytes cc : ByteArray} {maxL nL mc ms n index : Nat} {ret : Option FieldType} {ws : List Cond} {rm : Room} {Pc : Array Value → State → Prop} {Qc : Array Value → State → Outcome → State → Prop} {XC : String → State → State → Prop} {free : Addr → Prop} {Ts : List Cond} {own C : String} {b : Addr} {As rest : List Value} {g : JFrame}
theorem vx_runVX {hh : List (Nat × Nat × Nat × Nat)} (S : CallFix p m c cc nL s args Ts own) (hM : vx_Met l y ws rm Pc Qc XC mc ms free) (cw : vx_CVW R s args own C index y bytes maxL ret hh ws rm mc ms n) (hp : PreV s H C b Pc As)
    (hg : g.method = m) (hn : As.length = n) (hsize : g.locals.size = nL) (hstack : g.stack = As.reverse ++ .ref b :: rest) (hW : 2 * g.monitorRoom + (rest.map fun v => v.category).sum ≤ 8) (hdg : decode cc g.pc = .ok (.invokevirtual index, 3)) (hf : cells + mc ≤ R.cells ∧ slots + ms ≤ R.slots) :
    vx_Run p l e R s m args below meth c H locs cells slots mc ms g rest (Qc (Value.ref b :: As).toArray) XC free := by
  obtain ⟨⟨hrc, hrs, hfr, hlo, hws, hcw⟩, hcode, hini, hy, hlen, hl, hin, hse⟩ := cw
  have hK : vx_Back l R p e below s args y 3 8 (PreOf R mc ms Pc) (PostOf Qc mc ms free) (vx_Post XC mc ms free) := vx_backW (hh := hh) (bytes := bytes) (maxL := maxL) (ret := ret) hM hp.1 hrc hrs hfr hlo hws hcw (fun a' U hW => word_at hW (Or.inl (by first | rfl | simp [Cond.onTables, Cond.keeps, Cond.steady])) hini)
  obtain ⟨hx, hb, hml, ho, -⟩ := S
  obtain ⟨-, ⟨cellB, hcB, hoB, hclB⟩, hPc⟩ := hp
  intro T hT X
  rcases vx_callVX X hx (C := C) (hh := hh) (bytes := bytes) (maxL := maxL) (ret := ret) ho hl hin hse hcode hy hK (by rw [hT]; exact hcB) hoB hclB hg (hsize.trans hml.symm) (argsL := As) (rest := rest) (fun sig h => hn.trans (hlen sig h)) hstack hW (by rw [hb]; exact hdg)
    (fun vm₁ hW₁ => ⟨hf.1, hf.2, hPc (T.setVm vm₁) hT hW₁⟩) with ⟨v, vm₁, ⟨U', l2, c2, s2⟩, hW₁, X', ⟨g', mk, t, L, e1, e2, hq, h1, hL, h2, h3⟩, st⟩ | ⟨q, vm₁, ⟨U', l2, c2, s2⟩, hW₁, X', ⟨g', mk, t, L, E, ce, e1, e2, hq, hce, hcv, hcl, h1, hL, h2, h3⟩, st⟩
  · dsimp only [Pt.U, Pt.locs, Pt.cells, Pt.slots] at X' e1 e2 h1 h2 h3 st
    subst h1; subst h2; subst h3
    exact Or.inl ⟨v, (T.setVm vm₁).calling g' mk (Value.ref b :: As).toArray, t, U', L, hT, X', hL, e1, e2, hq, st⟩
  · dsimp only [Pt.U, Pt.locs, Pt.cells, Pt.slots] at X' e1 e2 h1 h2 h3 st hcl
    subst h1; subst h2; subst h3
    exact Or.inr ⟨q, (T.setVm vm₁).calling g' mk (Value.ref b :: As).toArray, t, U', L, E, ce, hT, X', hL, e1, e2, hq, hce, hcv, vx_cls hW₁ hcl, st⟩
theorem vx_runSX {hh : List (Nat × Nat × Nat × Nat)} (S : CallFix p m c cc nL s args Ts own) (hM : vx_Met l y ws rm Pc Qc XC mc ms free) (cw : vx_CSW R s args own index y bytes maxL ret hh ws rm mc ms n) (hp : PreS s H Pc As)
    (hg : g.method = m) (hn : As.length = n) (hsize : g.locals.size = nL) (hstack : g.stack = As.reverse ++ rest) (hW : 2 * g.monitorRoom + (rest.map fun v => v.category).sum ≤ 8) (hdg : decode cc g.pc = .ok (.invokestatic index, 3)) (hf : cells + mc ≤ R.cells ∧ slots + ms ≤ R.slots) :
    vx_Run p l e R s m args below meth c H locs cells slots mc ms g rest (Qc As.toArray) XC free := by
  obtain ⟨⟨hrc, hrs, hfr, hlo, hws, hcw⟩, hcode, hini, hy, hlen, hl, hstt⟩ := cw
  have hK : vx_Back l R p e below s args y 3 8 (PreOf R mc ms Pc) (PostOf Qc mc ms free) (vx_Post XC mc ms free) := vx_backW (hh := hh) (bytes := bytes) (maxL := maxL) (ret := ret) hM hp.1 hrc hrs hfr hlo hws hcw (fun a' U hW => word_at hW (Or.inl (by first | rfl | simp [Cond.onTables, Cond.keeps, Cond.steady])) hini)
  obtain ⟨hx, hb, hml, ho, -⟩ := S
  intro T hT X
  rcases vx_callSX X hx (hh := hh) (bytes := bytes) (maxL := maxL) (ret := ret) ho hl hstt hini hcode hy hK hg (hsize.trans hml.symm) (argsL := As) (rest := rest) (fun sig h => hn.trans (hlen sig h)) hstack hW (by rw [hb]; exact hdg)
    (fun vm₁ hW₁ => ⟨hf.1, hf.2, hp.2 (T.setVm vm₁) hT hW₁⟩) with ⟨v, vm₁, ⟨U', l2, c2, s2⟩, hW₁, X', ⟨g', mk, t, L, e1, e2, hq, h1, hL, h2, h3⟩, st⟩ | ⟨q, vm₁, ⟨U', l2, c2, s2⟩, hW₁, X', ⟨g', mk, t, L, E, ce, e1, e2, hq, hce, hcv, hcl, h1, hL, h2, h3⟩, st⟩
  · dsimp only [Pt.U, Pt.locs, Pt.cells, Pt.slots] at X' e1 e2 h1 h2 h3 st
    subst h1; subst h2; subst h3
    exact Or.inl ⟨v, (T.setVm vm₁).calling g' mk As.toArray, t, U', L, hT, X', hL, e1, e2, hq, st⟩
  · dsimp only [Pt.U, Pt.locs, Pt.cells, Pt.slots] at X' e1 e2 h1 h2 h3 st hcl
    subst h1; subst h2; subst h3
    exact Or.inr ⟨q, (T.setVm vm₁).calling g' mk As.toArray, t, U', L, E, ce, hT, X', hL, e1, e2, hq, hce, hcv, vx_cls hW₁ hcl, st⟩
end
end VXH
theorem vx_ofWH {l : Launch} {y : MethodName} {ws ws' : List Cond} {rm : Room} {Pc : Array Value → State → Prop} {Qc : Array Value → State → Outcome → State → Prop} {XC : String → State → State → Prop} {mc ms : Nat} {free : Addr → Prop} {cc : ByteArray} {maxL : Nat} {ret : Option FieldType} {hh : List (Nat × Nat × Nat × Nat)}
    (hy : plainName y.cls = true) (hw : ws = Cond.codeWith y cc maxL ret hh :: ws')
    (body : ∀ p e s m args below meth c s₁, BodyLoose p l y (headSpec ws rm) cc maxL ret e s m args below meth c s₁ → c.maxLocals = maxL → Pc args s →
      W p l e (headSpec ws rm).room s m args below meth c s.heap [] 0 0 (vx_MQ below Qc XC args s mc ms free) (entryFrame m args maxL)) : vx_Met l y ws rm Pc Qc XC mc ms free := by
  refine MetFree.of_bodyS (code := cc) (maxLocals := maxL) (ret := ret) hy ?_ ?_
  · intro args s m h hn
    obtain ⟨m9, meth, c, hn9, h1, h2, h3, h4, -, h5, h6, -⟩ := Cond.codeWith_spec (atoms_spec (ws := ws) h _ (by rw [hw]; exact List.mem_cons_self))
    cases hn.symm.trans hn9
    exact ⟨meth, c, h1, h2, h3, h4, h5, h6⟩
  · intro p e s m args below meth c s₁ B hml hP _
    have hh0 : s₁.heap = s.heap := by rw [B.state]; rfl
    obtain ⟨t, a1, o, b1, b2, b3⟩ := body p e s m args below meth c s₁ B hml hP s₁ hh0 (Stand.of_body B)
    exact ⟨t, o, a1, b1, b2, b3⟩
/-! ===== END ===== -/
end
section
/-! names, words and decode rows of every method, by program (wip/whole/prog/names2.py) -/
def GW : List Cond := lw_tbl.filter goodWord
theorem gw_t {w : Cond} (h : w ∈ tables_1) (hg : goodWord w = true) : w ∈ GW := List.mem_filter.mpr ⟨List.mem_append_right _ h, hg⟩
theorem gw_s {w : Cond} (h : w ∈ k2_sels lw_privs) (hg : goodWord w = true) : w ∈ GW := List.mem_filter.mpr ⟨List.mem_append_left _ h, hg⟩
theorem gw_in {w : Cond} (h : w ∈ GW) : w ∈ lw_tbl := (List.mem_filter.mp h).1
theorem gw_ok {w : Cond} (h : w ∈ GW) : (w.onTables && w.keeps) = true ∨ ∃ ty, w = .arrayClass ty := good_of_word (List.mem_filter.mp h).2
abbrev b_Sz_init : ByteArray := prog_1_method_1_code
def y_Sz_init : MethodName := ⟨"SmokeZones", "<init>", "()V"⟩
abbrev b_La_room : ByteArray := method_3_code
def y_La_room : MethodName := ⟨"SmokeZonesLaw", "room", "(LSmokeZones;II[J)I"⟩
abbrev b_Sz_room : ByteArray := prog_1_method_2_code
def y_Sz_room : MethodName := ⟨"SmokeZones", "room", "(II)I"⟩
abbrev b_Sz_needBetween : ByteArray := prog_1_method_19_code
def y_Sz_needBetween : MethodName := ⟨"SmokeZones", "needBetween", "(III)V"⟩
abbrev b_Sz_needArgument : ByteArray := prog_1_method_17_code
def y_Sz_needArgument : MethodName := ⟨"SmokeZones", "needArgument", "(Z)V"⟩
abbrev b_Sz_needSpace : ByteArray := prog_1_method_21_code
def y_Sz_needSpace : MethodName := ⟨"SmokeZones", "needSpace", "(II)V"⟩
abbrev b_Sz_needState : ByteArray := prog_1_method_18_code
def y_Sz_needState : MethodName := ⟨"SmokeZones", "needState", "(Z)V"⟩
abbrev b_Ro_init : ByteArray := prog_6_method_1_code
def y_Ro_init : MethodName := ⟨"SmokeZones$Room", "<init>", "(II)V"⟩
abbrev b_La_opening : ByteArray := method_4_code
def y_La_opening : MethodName := ⟨"SmokeZonesLaw", "opening", "(LSmokeZones;IIIII[J)I"⟩
abbrev b_Sz_opening : ByteArray := prog_1_method_3_code
def y_Sz_opening : MethodName := ⟨"SmokeZones", "opening", "(IIIII)I"⟩
abbrev b_Sz_needNumber : ByteArray := prog_1_method_20_code
def y_Sz_needNumber : MethodName := ⟨"SmokeZones", "needNumber", "(II)V"⟩
abbrev b_Sz_needPlace : ByteArray := prog_1_method_22_code
def y_Sz_needPlace : MethodName := ⟨"SmokeZones", "needPlace", "(I)V"⟩
abbrev b_Sz_isRoom : ByteArray := prog_1_method_23_code
def y_Sz_isRoom : MethodName := ⟨"SmokeZones", "isRoom", "(I)Z"⟩
abbrev b_Op_init : ByteArray := prog_4_method_1_code
def y_Op_init : MethodName := ⟨"SmokeZones$Opening", "<init>", "(LSmokeZones$Room;LSmokeZones$Room;III)V"⟩
abbrev b_La_glass : ByteArray := method_5_code
def y_La_glass : MethodName := ⟨"SmokeZonesLaw", "glass", "(LSmokeZones;II)I"⟩
abbrev b_Sz_glass : ByteArray := prog_1_method_4_code
def y_Sz_glass : MethodName := ⟨"SmokeZones", "glass", "(II)V"⟩
abbrev b_La_fire : ByteArray := method_6_code
def y_La_fire : MethodName := ⟨"SmokeZonesLaw", "fire", "(LSmokeZones;IIIII[J)I"⟩
abbrev b_Sz_fire : ByteArray := prog_1_method_5_code
def y_Sz_fire : MethodName := ⟨"SmokeZones", "fire", "(IIIII)I"⟩
abbrev b_Fi_init : ByteArray := prog_3_method_1_code
def y_Fi_init : MethodName := ⟨"SmokeZones$Fire", "<init>", "(LSmokeZones$Room;IIII)V"⟩
abbrev b_La_sprinkler : ByteArray := method_7_code
def y_La_sprinkler : MethodName := ⟨"SmokeZonesLaw", "sprinkler", "(LSmokeZones;II)I"⟩
abbrev b_Sz_sprinkler : ByteArray := prog_1_method_6_code
def y_Sz_sprinkler : MethodName := ⟨"SmokeZones", "sprinkler", "(II)V"⟩
abbrev b_La_fan : ByteArray := method_8_code
def y_La_fan : MethodName := ⟨"SmokeZonesLaw", "fan", "(LSmokeZones;III[J)I"⟩
abbrev b_Sz_fan : ByteArray := prog_1_method_7_code
def y_Sz_fan : MethodName := ⟨"SmokeZones", "fan", "(III)I"⟩
abbrev b_Fa_init : ByteArray := prog_2_method_1_code
def y_Fa_init : MethodName := ⟨"SmokeZones$Fan", "<init>", "(LSmokeZones$Room;II)V"⟩
abbrev b_La_steel : ByteArray := method_9_code
def y_La_steel : MethodName := ⟨"SmokeZonesLaw", "steel", "(LSmokeZones;II[J)I"⟩
abbrev b_Sz_steel : ByteArray := prog_1_method_8_code
def y_Sz_steel : MethodName := ⟨"SmokeZones", "steel", "(II)I"⟩
abbrev b_St_init : ByteArray := prog_7_method_1_code
def y_St_init : MethodName := ⟨"SmokeZones$Steel", "<init>", "(LSmokeZones$Room;I)V"⟩
abbrev b_La_person : ByteArray := method_10_code
def y_La_person : MethodName := ⟨"SmokeZonesLaw", "person", "(LSmokeZones;I[J)I"⟩
abbrev b_Sz_person : ByteArray := prog_1_method_9_code
def y_Sz_person : MethodName := ⟨"SmokeZones", "person", "(I)I"⟩
abbrev b_Pe_init : ByteArray := prog_5_method_1_code
def y_Pe_init : MethodName := ⟨"SmokeZones$Person", "<init>", "(I)V"⟩
abbrev b_La_go : ByteArray := method_11_code
def y_La_go : MethodName := ⟨"SmokeZonesLaw", "go", "(LSmokeZones;III)I"⟩
abbrev b_Sz_go : ByteArray := prog_1_method_10_code
def y_Sz_go : MethodName := ⟨"SmokeZones", "go", "(III)V"⟩
abbrev b_Pe_tell : ByteArray := prog_5_method_2_code
def y_Pe_tell : MethodName := ⟨"SmokeZones$Person", "tell", "(II)Z"⟩
abbrev b_La_run : ByteArray := method_12_code
def y_La_run : MethodName := ⟨"SmokeZonesLaw", "run", "(LSmokeZones;I[J)I"⟩
abbrev b_Sz_run : ByteArray := prog_1_method_11_code
def y_Sz_run : MethodName := ⟨"SmokeZones", "run", "(I)I"⟩
abbrev b_Sz_passSecond : ByteArray := prog_1_method_25_code
def y_Sz_passSecond : MethodName := ⟨"SmokeZones", "passSecond", "()V"⟩
abbrev b_Sz_burnFires : ByteArray := prog_1_method_26_code
def y_Sz_burnFires : MethodName := ⟨"SmokeZones", "burnFires", "()V"⟩
abbrev b_Fi_burn : ByteArray := prog_3_method_2_code
def y_Fi_burn : MethodName := ⟨"SmokeZones$Fire", "burn", "(I)J"⟩
abbrev b_Ro_add : ByteArray := prog_6_method_8_code
def y_Ro_add : MethodName := ⟨"SmokeZones$Room", "add", "(JJ)V"⟩
abbrev b_Sz_flowThroughOpenings : ByteArray := prog_1_method_27_code
def y_Sz_flowThroughOpenings : MethodName := ⟨"SmokeZones", "flowThroughOpenings", "()V"⟩
abbrev b_Op_measureFlow : ByteArray := prog_4_method_3_code
def y_Op_measureFlow : MethodName := ⟨"SmokeZones$Opening", "measureFlow", "()V"⟩
abbrev b_Op_isOpen : ByteArray := prog_4_method_2_code
def y_Op_isOpen : MethodName := ⟨"SmokeZones$Opening", "isOpen", "()Z"⟩
abbrev b_Ro_covered : ByteArray := prog_6_method_6_code
def y_Ro_covered : MethodName := ⟨"SmokeZones$Room", "covered", "(II)J"⟩
abbrev b_Ro_clear : ByteArray := prog_6_method_4_code
def y_Ro_clear : MethodName := ⟨"SmokeZones$Room", "clear", "()J"⟩
abbrev b_Ro_depth : ByteArray := prog_6_method_2_code
def y_Ro_depth : MethodName := ⟨"SmokeZones$Room", "depth", "()J"⟩
abbrev b_Op_flowFrom : ByteArray := prog_4_method_4_code
def y_Op_flowFrom : MethodName := ⟨"SmokeZones$Opening", "flowFrom", "(LSmokeZones$Room;J)J"⟩
abbrev b_Ro_heatWith : ByteArray := prog_6_method_7_code
def y_Ro_heatWith : MethodName := ⟨"SmokeZones$Room", "heatWith", "(J)J"⟩
abbrev b_Op_moveFlow : ByteArray := prog_4_method_5_code
def y_Op_moveFlow : MethodName := ⟨"SmokeZones$Opening", "moveFlow", "()J"⟩
abbrev b_Sz_blowFans : ByteArray := prog_1_method_28_code
def y_Sz_blowFans : MethodName := ⟨"SmokeZones", "blowFans", "()V"⟩
abbrev b_Fa_blow : ByteArray := prog_2_method_2_code
def y_Fa_blow : MethodName := ⟨"SmokeZones$Fan", "blow", "(I)J"⟩
abbrev b_Sz_pressOutOfRooms : ByteArray := prog_1_method_29_code
def y_Sz_pressOutOfRooms : MethodName := ⟨"SmokeZones", "pressOutOfRooms", "()V"⟩
abbrev b_Ro_pressOut : ByteArray := prog_6_method_9_code
def y_Ro_pressOut : MethodName := ⟨"SmokeZones$Room", "pressOut", "()J"⟩
abbrev b_Sz_warmThings : ByteArray := prog_1_method_30_code
def y_Sz_warmThings : MethodName := ⟨"SmokeZones", "warmThings", "()V"⟩
abbrev b_Ro_testSprinkler : ByteArray := prog_6_method_10_code
def y_Ro_testSprinkler : MethodName := ⟨"SmokeZones$Room", "testSprinkler", "()V"⟩
abbrev b_Ro_warmth : ByteArray := prog_6_method_3_code
def y_Ro_warmth : MethodName := ⟨"SmokeZones$Room", "warmth", "()J"⟩
abbrev b_Op_testGlass : ByteArray := prog_4_method_6_code
def y_Op_testGlass : MethodName := ⟨"SmokeZones$Opening", "testGlass", "()V"⟩
abbrev b_Op_isHot : ByteArray := prog_4_method_7_code
def y_Op_isHot : MethodName := ⟨"SmokeZones$Opening", "isHot", "(LSmokeZones$Room;)Z"⟩
abbrev b_St_getWarm : ByteArray := prog_7_method_2_code
def y_St_getWarm : MethodName := ⟨"SmokeZones$Steel", "getWarm", "()V"⟩
abbrev b_Sz_movePersons : ByteArray := prog_1_method_31_code
def y_Sz_movePersons : MethodName := ⟨"SmokeZones", "movePersons", "()V"⟩
abbrev b_Pe_walk : ByteArray := prog_5_method_3_code
def y_Pe_walk : MethodName := ⟨"SmokeZones$Person", "walk", "(I)V"⟩
abbrev b_Pe_breathe : ByteArray := prog_5_method_4_code
def y_Pe_breathe : MethodName := ⟨"SmokeZones$Person", "breathe", "(LSmokeZones$Room;)V"⟩
abbrev b_Ro_isLow : ByteArray := prog_6_method_5_code
def y_Ro_isLow : MethodName := ⟨"SmokeZones$Room", "isLow", "()Z"⟩
abbrev b_Sz_noteLowRooms : ByteArray := prog_1_method_32_code
def y_Sz_noteLowRooms : MethodName := ⟨"SmokeZones", "noteLowRooms", "()V"⟩
abbrev b_Ro_noteIfLow : ByteArray := prog_6_method_11_code
def y_Ro_noteIfLow : MethodName := ⟨"SmokeZones$Room", "noteIfLow", "(I)V"⟩
abbrev b_La_roomAt : ByteArray := method_13_code
def y_La_roomAt : MethodName := ⟨"SmokeZonesLaw", "roomAt", "(LSmokeZones;II[J)I"⟩
abbrev b_Sz_roomAt : ByteArray := prog_1_method_12_code
def y_Sz_roomAt : MethodName := ⟨"SmokeZones", "roomAt", "(II)J"⟩
abbrev b_La_openingAt : ByteArray := method_14_code
def y_La_openingAt : MethodName := ⟨"SmokeZonesLaw", "openingAt", "(LSmokeZones;II[J)I"⟩
abbrev b_Sz_openingAt : ByteArray := prog_1_method_13_code
def y_Sz_openingAt : MethodName := ⟨"SmokeZones", "openingAt", "(II)J"⟩
abbrev b_La_personAt : ByteArray := method_15_code
def y_La_personAt : MethodName := ⟨"SmokeZonesLaw", "personAt", "(LSmokeZones;II[J)I"⟩
abbrev b_Sz_personAt : ByteArray := prog_1_method_14_code
def y_Sz_personAt : MethodName := ⟨"SmokeZones", "personAt", "(II)J"⟩
abbrev b_La_steelAt : ByteArray := method_16_code
def y_La_steelAt : MethodName := ⟨"SmokeZonesLaw", "steelAt", "(LSmokeZones;I[J)I"⟩
abbrev b_Sz_steelAt : ByteArray := prog_1_method_15_code
def y_Sz_steelAt : MethodName := ⟨"SmokeZones", "steelAt", "(I)I"⟩
abbrev b_La_balance : ByteArray := method_17_code
def y_La_balance : MethodName := ⟨"SmokeZonesLaw", "balance", "(LSmokeZones;I[J)I"⟩
abbrev b_Sz_balance : ByteArray := prog_1_method_16_code
def y_Sz_balance : MethodName := ⟨"SmokeZones", "balance", "(I)J"⟩
abbrev b_Sz_smokeInRooms : ByteArray := prog_1_method_24_code
def y_Sz_smokeInRooms : MethodName := ⟨"SmokeZones", "smokeInRooms", "()J"⟩
abbrev b_Mo_init : ByteArray := prog_9_method_1_code
def y_Mo_init : MethodName := ⟨"SmokeZonesModel", "<init>", "()V"⟩
abbrev b_Mo_thrown : ByteArray := prog_9_method_2_code
def y_Mo_thrown : MethodName := ⟨"SmokeZonesModel", "thrown", "()I"⟩
abbrev b_Mo_room : ByteArray := prog_9_method_6_code
def y_Mo_room : MethodName := ⟨"SmokeZonesModel", "room", "(II)I"⟩
abbrev b_Mo_in : ByteArray := prog_9_method_3_code
def y_Mo_in : MethodName := ⟨"SmokeZonesModel", "in", "(III)Z"⟩
abbrev b_Mo_opening : ByteArray := prog_9_method_7_code
def y_Mo_opening : MethodName := ⟨"SmokeZonesModel", "opening", "(IIIII)I"⟩
abbrev b_Mo_isRoom : ByteArray := prog_9_method_4_code
def y_Mo_isRoom : MethodName := ⟨"SmokeZonesModel", "isRoom", "(I)Z"⟩
abbrev b_Mo_isRoomOrOut : ByteArray := prog_9_method_5_code
def y_Mo_isRoomOrOut : MethodName := ⟨"SmokeZonesModel", "isRoomOrOut", "(I)Z"⟩
abbrev b_Mo_glass : ByteArray := prog_9_method_8_code
def y_Mo_glass : MethodName := ⟨"SmokeZonesModel", "glass", "(II)V"⟩
abbrev b_Mo_fire : ByteArray := prog_9_method_9_code
def y_Mo_fire : MethodName := ⟨"SmokeZonesModel", "fire", "(IIIII)I"⟩
abbrev b_Mo_sprinkler : ByteArray := prog_9_method_10_code
def y_Mo_sprinkler : MethodName := ⟨"SmokeZonesModel", "sprinkler", "(II)V"⟩
abbrev b_Mo_fan : ByteArray := prog_9_method_11_code
def y_Mo_fan : MethodName := ⟨"SmokeZonesModel", "fan", "(III)I"⟩
abbrev b_Mo_steel : ByteArray := prog_9_method_12_code
def y_Mo_steel : MethodName := ⟨"SmokeZonesModel", "steel", "(II)I"⟩
abbrev b_Mo_person : ByteArray := prog_9_method_13_code
def y_Mo_person : MethodName := ⟨"SmokeZonesModel", "person", "(I)I"⟩
abbrev b_Mo_go : ByteArray := prog_9_method_14_code
def y_Mo_go : MethodName := ⟨"SmokeZonesModel", "go", "(III)V"⟩
abbrev b_Mo_run : ByteArray := prog_9_method_25_code
def y_Mo_run : MethodName := ⟨"SmokeZonesModel", "run", "(I)I"⟩
abbrev b_Mo_burn : ByteArray := prog_9_method_18_code
def y_Mo_burn : MethodName := ⟨"SmokeZonesModel", "burn", "()V"⟩
abbrev b_Mo_flow : ByteArray := prog_9_method_19_code
def y_Mo_flow : MethodName := ⟨"SmokeZonesModel", "flow", "()V"⟩
abbrev b_Mo_covered : ByteArray := prog_9_method_17_code
def y_Mo_covered : MethodName := ⟨"SmokeZonesModel", "covered", "(II)J"⟩
abbrev b_Mo_clearTo : ByteArray := prog_9_method_16_code
def y_Mo_clearTo : MethodName := ⟨"SmokeZonesModel", "clearTo", "(I)J"⟩
abbrev b_Mo_blow : ByteArray := prog_9_method_20_code
def y_Mo_blow : MethodName := ⟨"SmokeZonesModel", "blow", "()V"⟩
abbrev b_Mo_press : ByteArray := prog_9_method_21_code
def y_Mo_press : MethodName := ⟨"SmokeZonesModel", "press", "()V"⟩
abbrev b_Mo_act : ByteArray := prog_9_method_23_code
def y_Mo_act : MethodName := ⟨"SmokeZonesModel", "act", "()V"⟩
abbrev b_Mo_isHot : ByteArray := prog_9_method_22_code
def y_Mo_isHot : MethodName := ⟨"SmokeZonesModel", "isHot", "(II)Z"⟩
abbrev b_Mo_warmth : ByteArray := prog_9_method_15_code
def y_Mo_warmth : MethodName := ⟨"SmokeZonesModel", "warmth", "(I)J"⟩
abbrev b_Mo_breathe : ByteArray := prog_9_method_24_code
def y_Mo_breathe : MethodName := ⟨"SmokeZonesModel", "breathe", "()V"⟩
abbrev b_Mo_roomAt : ByteArray := prog_9_method_26_code
def y_Mo_roomAt : MethodName := ⟨"SmokeZonesModel", "roomAt", "(II)J"⟩
abbrev b_Mo_openingAt : ByteArray := prog_9_method_27_code
def y_Mo_openingAt : MethodName := ⟨"SmokeZonesModel", "openingAt", "(II)J"⟩
abbrev b_Mo_personAt : ByteArray := prog_9_method_28_code
def y_Mo_personAt : MethodName := ⟨"SmokeZonesModel", "personAt", "(II)J"⟩
abbrev b_Mo_steelAt : ByteArray := prog_9_method_29_code
def y_Mo_steelAt : MethodName := ⟨"SmokeZonesModel", "steelAt", "(I)I"⟩
abbrev b_Mo_balance : ByteArray := prog_9_method_30_code
def y_Mo_balance : MethodName := ⟨"SmokeZonesModel", "balance", "(I)J"⟩
abbrev b_La_law : ByteArray := code
def y_La_law : MethodName := ⟨"SmokeZonesLaw", "law", "([I)Z"⟩
def T_Ro : u_T := fun k => match k with
  | 0 => ("SmokeZones$Room", "area", "I", true)
  | 1 => ("SmokeZones$Room", "height", "I", true)
  | 2 => ("SmokeZones$Room", "holds", "J", true)
  | 3 => ("SmokeZones$Room", "smoke", "J", false)
  | 4 => ("SmokeZones$Room", "heat", "J", false)
  | 5 => ("SmokeZones$Room", "sprinklerLimit", "I", false)
  | 6 => ("SmokeZones$Room", "sprinklerActs", "Z", false)
  | _ => ("SmokeZones$Room", "firstLowSecond", "I", false)
def ty_Ro : Nat → FieldType := fun k => match k with
  | 0 => .int
  | 1 => .int
  | 2 => .long
  | 3 => .long
  | 4 => .long
  | 5 => .int
  | 6 => .boolean
  | _ => .int
def T_Op : u_T := fun k => match k with
  | 0 => ("SmokeZones$Opening", "near", "LSmokeZones$Room;", true)
  | 1 => ("SmokeZones$Opening", "far", "LSmokeZones$Room;", true)
  | 2 => ("SmokeZones$Opening", "width", "I", true)
  | 3 => ("SmokeZones$Opening", "sill", "I", true)
  | 4 => ("SmokeZones$Opening", "top", "I", true)
  | 5 => ("SmokeZones$Opening", "glassLimit", "I", false)
  | 6 => ("SmokeZones$Opening", "broken", "Z", false)
  | 7 => ("SmokeZones$Opening", "flow", "J", false)
  | 8 => ("SmokeZones$Opening", "heatInFlow", "J", false)
  | _ => ("SmokeZones$Opening", "flowedInAll", "J", false)
def ty_Op : Nat → FieldType := fun k => match k with
  | 0 => .object "SmokeZones$Room"
  | 1 => .object "SmokeZones$Room"
  | 2 => .int
  | 3 => .int
  | 4 => .int
  | 5 => .int
  | 6 => .boolean
  | 7 => .long
  | 8 => .long
  | _ => .long
def T_Fi : u_T := fun k => match k with
  | 0 => ("SmokeZones$Fire", "place", "LSmokeZones$Room;", true)
  | 1 => ("SmokeZones$Fire", "firstSecond", "I", true)
  | 2 => ("SmokeZones$Fire", "growth", "I", true)
  | 3 => ("SmokeZones$Fire", "most", "I", true)
  | _ => ("SmokeZones$Fire", "heat", "I", true)
def ty_Fi : Nat → FieldType := fun k => match k with
  | 0 => .object "SmokeZones$Room"
  | 1 => .int
  | 2 => .int
  | 3 => .int
  | _ => .int
def T_Fa : u_T := fun k => match k with
  | 0 => ("SmokeZones$Fan", "place", "LSmokeZones$Room;", true)
  | 1 => ("SmokeZones$Fan", "firstSecond", "I", true)
  | _ => ("SmokeZones$Fan", "rate", "I", true)
def ty_Fa : Nat → FieldType := fun k => match k with
  | 0 => .object "SmokeZones$Room"
  | 1 => .int
  | _ => .int
def T_St : u_T := fun k => match k with
  | 0 => ("SmokeZones$Steel", "place", "LSmokeZones$Room;", true)
  | 1 => ("SmokeZones$Steel", "section", "I", true)
  | _ => ("SmokeZones$Steel", "temperature", "I", false)
def ty_St : Nat → FieldType := fun k => match k with
  | 0 => .object "SmokeZones$Room"
  | 1 => .int
  | _ => .int
def T_Pe : u_T := fun k => match k with
  | 0 => ("SmokeZones$Person", "place", "I", false)
  | 1 => ("SmokeZones$Person", "dose", "J", false)
  | 2 => ("SmokeZones$Person", "breaths", "J", false)
  | 3 => ("SmokeZones$Person", "walkSeconds", "[I", true)
  | 4 => ("SmokeZones$Person", "walkPlaces", "[I", true)
  | 5 => ("SmokeZones$Person", "told", "I", false)
  | 6 => ("SmokeZones$Person", "lastTold", "I", false)
  | _ => ("SmokeZones$Person", "walked", "I", false)
def ty_Pe : Nat → FieldType := fun k => match k with
  | 0 => .int
  | 1 => .long
  | 2 => .long
  | 3 => .array .int
  | 4 => .array .int
  | 5 => .int
  | 6 => .int
  | _ => .int
def T_Sz : u_T := fun k => match k with
  | 0 => ("SmokeZones", "rooms", "[LSmokeZones$Room;", true)
  | 1 => ("SmokeZones", "openings", "[LSmokeZones$Opening;", true)
  | 2 => ("SmokeZones", "fires", "[LSmokeZones$Fire;", true)
  | 3 => ("SmokeZones", "fans", "[LSmokeZones$Fan;", true)
  | 4 => ("SmokeZones", "members", "[LSmokeZones$Steel;", true)
  | 5 => ("SmokeZones", "persons", "[LSmokeZones$Person;", true)
  | 6 => ("SmokeZones", "roomCount", "I", false)
  | 7 => ("SmokeZones", "openingCount", "I", false)
  | 8 => ("SmokeZones", "fireCount", "I", false)
  | 9 => ("SmokeZones", "fanCount", "I", false)
  | 10 => ("SmokeZones", "memberCount", "I", false)
  | 11 => ("SmokeZones", "personCount", "I", false)
  | 12 => ("SmokeZones", "now", "I", false)
  | 13 => ("SmokeZones", "made", "J", false)
  | 14 => ("SmokeZones", "out", "J", false)
  | 15 => ("SmokeZones", "blown", "J", false)
  | _ => ("SmokeZones", "pressedOut", "J", false)
def ty_Sz : Nat → FieldType := fun k => match k with
  | 0 => .array (.object "SmokeZones$Room")
  | 1 => .array (.object "SmokeZones$Opening")
  | 2 => .array (.object "SmokeZones$Fire")
  | 3 => .array (.object "SmokeZones$Fan")
  | 4 => .array (.object "SmokeZones$Steel")
  | 5 => .array (.object "SmokeZones$Person")
  | 6 => .int
  | 7 => .int
  | 8 => .int
  | 9 => .int
  | 10 => .int
  | 11 => .int
  | 12 => .int
  | 13 => .long
  | 14 => .long
  | 15 => .long
  | _ => .long
def T_Mo : u_T := fun k => match k with
  | 0 => ("SmokeZonesModel", "code", "I", false)
  | 1 => ("SmokeZonesModel", "now", "I", false)
  | 2 => ("SmokeZonesModel", "rooms", "I", false)
  | 3 => ("SmokeZonesModel", "areas", "[I", true)
  | 4 => ("SmokeZonesModel", "heights", "[I", true)
  | 5 => ("SmokeZonesModel", "smokes", "[J", true)
  | 6 => ("SmokeZonesModel", "heats", "[J", true)
  | 7 => ("SmokeZonesModel", "sprinklers", "[I", true)
  | 8 => ("SmokeZonesModel", "acts", "[Z", true)
  | 9 => ("SmokeZonesModel", "lowSince", "[I", true)
  | 10 => ("SmokeZonesModel", "openings", "I", false)
  | 11 => ("SmokeZonesModel", "ones", "[I", true)
  | 12 => ("SmokeZonesModel", "others", "[I", true)
  | 13 => ("SmokeZonesModel", "widths", "[I", true)
  | 14 => ("SmokeZonesModel", "sills", "[I", true)
  | 15 => ("SmokeZonesModel", "tops", "[I", true)
  | 16 => ("SmokeZonesModel", "glasses", "[I", true)
  | 17 => ("SmokeZonesModel", "isOpen", "[Z", true)
  | 18 => ("SmokeZonesModel", "flows", "[J", true)
  | 19 => ("SmokeZonesModel", "flowHeats", "[J", true)
  | 20 => ("SmokeZonesModel", "flowSums", "[J", true)
  | 21 => ("SmokeZonesModel", "fires", "I", false)
  | 22 => ("SmokeZonesModel", "fireRooms", "[I", true)
  | 23 => ("SmokeZonesModel", "fireSeconds", "[I", true)
  | 24 => ("SmokeZonesModel", "growths", "[I", true)
  | 25 => ("SmokeZonesModel", "fireMosts", "[I", true)
  | 26 => ("SmokeZonesModel", "fireHeats", "[I", true)
  | 27 => ("SmokeZonesModel", "fans", "I", false)
  | 28 => ("SmokeZonesModel", "fanRooms", "[I", true)
  | 29 => ("SmokeZonesModel", "fanSeconds", "[I", true)
  | 30 => ("SmokeZonesModel", "rates", "[I", true)
  | 31 => ("SmokeZonesModel", "steels", "I", false)
  | 32 => ("SmokeZonesModel", "steelRooms", "[I", true)
  | 33 => ("SmokeZonesModel", "sections", "[I", true)
  | 34 => ("SmokeZonesModel", "warmths", "[J", true)
  | 35 => ("SmokeZonesModel", "persons", "I", false)
  | 36 => ("SmokeZonesModel", "personRooms", "[I", true)
  | 37 => ("SmokeZonesModel", "doses", "[J", true)
  | 38 => ("SmokeZonesModel", "breaths", "[I", true)
  | 39 => ("SmokeZonesModel", "goCount", "[I", true)
  | 40 => ("SmokeZonesModel", "goDone", "[I", true)
  | 41 => ("SmokeZonesModel", "goSeconds", "[I", true)
  | 42 => ("SmokeZonesModel", "goRooms", "[I", true)
  | 43 => ("SmokeZonesModel", "made", "J", false)
  | 44 => ("SmokeZonesModel", "out", "J", false)
  | 45 => ("SmokeZonesModel", "blown", "J", false)
  | _ => ("SmokeZonesModel", "pressed", "J", false)
def ty_Mo : Nat → FieldType := fun k => match k with
  | 0 => .int
  | 1 => .int
  | 2 => .int
  | 3 => .array .int
  | 4 => .array .int
  | 5 => .array .long
  | 6 => .array .long
  | 7 => .array .int
  | 8 => .array .boolean
  | 9 => .array .int
  | 10 => .int
  | 11 => .array .int
  | 12 => .array .int
  | 13 => .array .int
  | 14 => .array .int
  | 15 => .array .int
  | 16 => .array .int
  | 17 => .array .boolean
  | 18 => .array .long
  | 19 => .array .long
  | 20 => .array .long
  | 21 => .int
  | 22 => .array .int
  | 23 => .array .int
  | 24 => .array .int
  | 25 => .array .int
  | 26 => .array .int
  | 27 => .int
  | 28 => .array .int
  | 29 => .array .int
  | 30 => .array .int
  | 31 => .int
  | 32 => .array .int
  | 33 => .array .int
  | 34 => .array .long
  | 35 => .int
  | 36 => .array .int
  | 37 => .array .long
  | 38 => .array .int
  | 39 => .array .int
  | 40 => .array .int
  | 41 => .array .int
  | 42 => .array .int
  | 43 => .long
  | 44 => .long
  | 45 => .long
  | _ => .long
abbrev vwCl : List vw_C := [("SmokeZones$Room", T_Ro, 8), ("SmokeZones$Opening", T_Op, 10), ("SmokeZones$Fire", T_Fi, 5), ("SmokeZones$Fan", T_Fa, 3), ("SmokeZones$Steel", T_St, 3), ("SmokeZones$Person", T_Pe, 8), ("SmokeZones", T_Sz, 17), ("SmokeZonesModel", T_Mo, 47)]
end
section
theorem k0 : Cond.initialized "SmokeZonesLaw" ∈ GW := gw_t (List.mem_of_getElem? (i := 0) (by decide +kernel)) (by decide +kernel)
theorem k1 : Cond.initialized "SmokeZones" ∈ GW := gw_t (List.mem_of_getElem? (i := 1) (by decide +kernel)) (by decide +kernel)
theorem k2 : Cond.initialized "SmokeZonesModel" ∈ GW := gw_t (List.mem_of_getElem? (i := 2) (by decide +kernel)) (by decide +kernel)
theorem k3 : Cond.initialized "java/lang/Throwable" ∈ GW := gw_t (List.mem_of_getElem? (i := 3) (by decide +kernel)) (by decide +kernel)
theorem k4 : Cond.initialized "java/lang/Exception" ∈ GW := gw_t (List.mem_of_getElem? (i := 4) (by decide +kernel)) (by decide +kernel)
theorem k5 : Cond.initialized "java/lang/RuntimeException" ∈ GW := gw_t (List.mem_of_getElem? (i := 5) (by decide +kernel)) (by decide +kernel)
theorem k6 : Cond.initialized "java/lang/IllegalArgumentException" ∈ GW := gw_t (List.mem_of_getElem? (i := 6) (by decide +kernel)) (by decide +kernel)
theorem k7 : Cond.initialized "java/lang/IllegalStateException" ∈ GW := gw_t (List.mem_of_getElem? (i := 7) (by decide +kernel)) (by decide +kernel)
theorem k8 : Cond.initialized "SmokeZones$Room" ∈ GW := gw_t (List.mem_of_getElem? (i := 8) (by decide +kernel)) (by decide +kernel)
theorem k9 : Cond.initialized "SmokeZones$Opening" ∈ GW := gw_t (List.mem_of_getElem? (i := 9) (by decide +kernel)) (by decide +kernel)
theorem k10 : Cond.initialized "SmokeZones$Fire" ∈ GW := gw_t (List.mem_of_getElem? (i := 10) (by decide +kernel)) (by decide +kernel)
theorem k11 : Cond.initialized "SmokeZones$Fan" ∈ GW := gw_t (List.mem_of_getElem? (i := 11) (by decide +kernel)) (by decide +kernel)
theorem k12 : Cond.initialized "SmokeZones$Steel" ∈ GW := gw_t (List.mem_of_getElem? (i := 12) (by decide +kernel)) (by decide +kernel)
theorem k13 : Cond.initialized "SmokeZones$Person" ∈ GW := gw_t (List.mem_of_getElem? (i := 13) (by decide +kernel)) (by decide +kernel)
theorem k14 : Cond.initialized "java/lang/Math" ∈ GW := gw_t (List.mem_of_getElem? (i := 14) (by decide +kernel)) (by decide +kernel)
theorem k15 : Cond.classLink "SmokeZonesLaw" 8 "SmokeZones" ∈ GW := gw_t (List.mem_of_getElem? (i := 15) (by decide +kernel)) (by decide +kernel)
theorem k16 : Cond.instantiable "SmokeZones" 17 ∈ GW := gw_t (List.mem_of_getElem? (i := 16) (by decide +kernel)) (by decide +kernel)
theorem k17 : Cond.methodLink "SmokeZonesLaw" 66 y_Sz_init ∈ GW := gw_t (List.mem_of_getElem? (i := 17) (by decide +kernel)) (by decide +kernel)
theorem k18 : Cond.instanceMethod y_Sz_init ∈ GW := gw_t (List.mem_of_getElem? (i := 18) (by decide +kernel)) (by decide +kernel)
theorem k19 : Cond.code y_Sz_init prog_1_method_1_code 1 none ∈ GW := gw_t (List.mem_of_getElem? (i := 19) (by decide +kernel)) (by decide +kernel)
theorem k20 : Cond.methodLink "SmokeZones" 1 objectInit ∈ GW := gw_t (List.mem_of_getElem? (i := 20) (by decide +kernel)) (by decide +kernel)
theorem k21 : Cond.instanceMethod objectInit ∈ GW := gw_t (List.mem_of_getElem? (i := 21) (by decide +kernel)) (by decide +kernel)
theorem k22 : Cond.code objectInit object_method_1_code 1 none ∈ GW := gw_t (List.mem_of_getElem? (i := 22) (by decide +kernel)) (by decide +kernel)
theorem k23 : Cond.classLink "SmokeZones" 9 "SmokeZones$Room" ∈ GW := gw_t (List.mem_of_getElem? (i := 23) (by decide +kernel)) (by decide +kernel)
theorem kt24 : Cond.arrayOver (.object "SmokeZones$Room") ∈ tables_1 := List.mem_of_getElem? (i := 24) (by decide +kernel)
theorem k25 : Cond.classLink "SmokeZones" 15 "SmokeZones$Opening" ∈ GW := gw_t (List.mem_of_getElem? (i := 25) (by decide +kernel)) (by decide +kernel)
theorem kt26 : Cond.arrayOver (.object "SmokeZones$Opening") ∈ tables_1 := List.mem_of_getElem? (i := 26) (by decide +kernel)
theorem k27 : Cond.classLink "SmokeZones" 21 "SmokeZones$Fire" ∈ GW := gw_t (List.mem_of_getElem? (i := 27) (by decide +kernel)) (by decide +kernel)
theorem kt28 : Cond.arrayOver (.object "SmokeZones$Fire") ∈ tables_1 := List.mem_of_getElem? (i := 28) (by decide +kernel)
theorem k29 : Cond.classLink "SmokeZones" 27 "SmokeZones$Fan" ∈ GW := gw_t (List.mem_of_getElem? (i := 29) (by decide +kernel)) (by decide +kernel)
theorem kt30 : Cond.arrayOver (.object "SmokeZones$Fan") ∈ tables_1 := List.mem_of_getElem? (i := 30) (by decide +kernel)
theorem k31 : Cond.classLink "SmokeZones" 33 "SmokeZones$Steel" ∈ GW := gw_t (List.mem_of_getElem? (i := 31) (by decide +kernel)) (by decide +kernel)
theorem kt32 : Cond.arrayOver (.object "SmokeZones$Steel") ∈ tables_1 := List.mem_of_getElem? (i := 32) (by decide +kernel)
theorem k33 : Cond.classLink "SmokeZones" 39 "SmokeZones$Person" ∈ GW := gw_t (List.mem_of_getElem? (i := 33) (by decide +kernel)) (by decide +kernel)
theorem kt34 : Cond.arrayOver (.object "SmokeZones$Person") ∈ tables_1 := List.mem_of_getElem? (i := 34) (by decide +kernel)
theorem k35 : Cond.fieldLink "SmokeZones" 11 "SmokeZones" "rooms" "[LSmokeZones$Room;" ∈ GW := gw_t (List.mem_of_getElem? (i := 35) (by decide +kernel)) (by decide +kernel)
theorem k36 : Cond.fieldLink "SmokeZones" 17 "SmokeZones" "openings" "[LSmokeZones$Opening;" ∈ GW := gw_t (List.mem_of_getElem? (i := 36) (by decide +kernel)) (by decide +kernel)
theorem k37 : Cond.fieldLink "SmokeZones" 23 "SmokeZones" "fires" "[LSmokeZones$Fire;" ∈ GW := gw_t (List.mem_of_getElem? (i := 37) (by decide +kernel)) (by decide +kernel)
theorem k38 : Cond.fieldLink "SmokeZones" 29 "SmokeZones" "fans" "[LSmokeZones$Fan;" ∈ GW := gw_t (List.mem_of_getElem? (i := 38) (by decide +kernel)) (by decide +kernel)
theorem k39 : Cond.fieldLink "SmokeZones" 35 "SmokeZones" "members" "[LSmokeZones$Steel;" ∈ GW := gw_t (List.mem_of_getElem? (i := 39) (by decide +kernel)) (by decide +kernel)
theorem k40 : Cond.fieldLink "SmokeZones" 41 "SmokeZones" "persons" "[LSmokeZones$Person;" ∈ GW := gw_t (List.mem_of_getElem? (i := 40) (by decide +kernel)) (by decide +kernel)
theorem k41 : Cond.fieldLink "SmokeZones" 49 "SmokeZones" "roomCount" "I" ∈ GW := gw_t (List.mem_of_getElem? (i := 41) (by decide +kernel)) (by decide +kernel)
theorem k42 : Cond.fieldLink "SmokeZones" 73 "SmokeZones" "openingCount" "I" ∈ GW := gw_t (List.mem_of_getElem? (i := 42) (by decide +kernel)) (by decide +kernel)
theorem k43 : Cond.fieldLink "SmokeZones" 89 "SmokeZones" "fireCount" "I" ∈ GW := gw_t (List.mem_of_getElem? (i := 43) (by decide +kernel)) (by decide +kernel)
theorem k44 : Cond.fieldLink "SmokeZones" 98 "SmokeZones" "fanCount" "I" ∈ GW := gw_t (List.mem_of_getElem? (i := 44) (by decide +kernel)) (by decide +kernel)
theorem k45 : Cond.fieldLink "SmokeZones" 104 "SmokeZones" "memberCount" "I" ∈ GW := gw_t (List.mem_of_getElem? (i := 45) (by decide +kernel)) (by decide +kernel)
theorem k46 : Cond.fieldLink "SmokeZones" 110 "SmokeZones" "personCount" "I" ∈ GW := gw_t (List.mem_of_getElem? (i := 46) (by decide +kernel)) (by decide +kernel)
theorem k47 : Cond.fieldLink "SmokeZones" 85 "SmokeZones" "now" "I" ∈ GW := gw_t (List.mem_of_getElem? (i := 47) (by decide +kernel)) (by decide +kernel)
theorem k48 : Cond.fieldLink "SmokeZones" 168 "SmokeZones" "made" "J" ∈ GW := gw_t (List.mem_of_getElem? (i := 48) (by decide +kernel)) (by decide +kernel)
theorem k49 : Cond.fieldLink "SmokeZones" 174 "SmokeZones" "out" "J" ∈ GW := gw_t (List.mem_of_getElem? (i := 49) (by decide +kernel)) (by decide +kernel)
theorem k50 : Cond.fieldLink "SmokeZones" 177 "SmokeZones" "blown" "J" ∈ GW := gw_t (List.mem_of_getElem? (i := 50) (by decide +kernel)) (by decide +kernel)
theorem k51 : Cond.fieldLink "SmokeZones" 180 "SmokeZones" "pressedOut" "J" ∈ GW := gw_t (List.mem_of_getElem? (i := 51) (by decide +kernel)) (by decide +kernel)
theorem k52 : Cond.laysFinal "SmokeZones" "SmokeZones" "rooms" "[LSmokeZones$Room;" ∈ GW := gw_t (List.mem_of_getElem? (i := 52) (by decide +kernel)) (by decide +kernel)
theorem k54 : Cond.laysFinal "SmokeZones" "SmokeZones" "openings" "[LSmokeZones$Opening;" ∈ GW := gw_t (List.mem_of_getElem? (i := 54) (by decide +kernel)) (by decide +kernel)
theorem k56 : Cond.laysFinal "SmokeZones" "SmokeZones" "fires" "[LSmokeZones$Fire;" ∈ GW := gw_t (List.mem_of_getElem? (i := 56) (by decide +kernel)) (by decide +kernel)
theorem k58 : Cond.laysFinal "SmokeZones" "SmokeZones" "fans" "[LSmokeZones$Fan;" ∈ GW := gw_t (List.mem_of_getElem? (i := 58) (by decide +kernel)) (by decide +kernel)
theorem k60 : Cond.laysFinal "SmokeZones" "SmokeZones" "members" "[LSmokeZones$Steel;" ∈ GW := gw_t (List.mem_of_getElem? (i := 60) (by decide +kernel)) (by decide +kernel)
theorem k62 : Cond.laysFinal "SmokeZones" "SmokeZones" "persons" "[LSmokeZones$Person;" ∈ GW := gw_t (List.mem_of_getElem? (i := 62) (by decide +kernel)) (by decide +kernel)
theorem k64 : Cond.lays "SmokeZones" "SmokeZones" "roomCount" "I" ∈ GW := gw_t (List.mem_of_getElem? (i := 64) (by decide +kernel)) (by decide +kernel)
theorem k66 : Cond.lays "SmokeZones" "SmokeZones" "openingCount" "I" ∈ GW := gw_t (List.mem_of_getElem? (i := 66) (by decide +kernel)) (by decide +kernel)
theorem k68 : Cond.lays "SmokeZones" "SmokeZones" "fireCount" "I" ∈ GW := gw_t (List.mem_of_getElem? (i := 68) (by decide +kernel)) (by decide +kernel)
theorem k70 : Cond.lays "SmokeZones" "SmokeZones" "fanCount" "I" ∈ GW := gw_t (List.mem_of_getElem? (i := 70) (by decide +kernel)) (by decide +kernel)
theorem k72 : Cond.lays "SmokeZones" "SmokeZones" "memberCount" "I" ∈ GW := gw_t (List.mem_of_getElem? (i := 72) (by decide +kernel)) (by decide +kernel)
theorem k74 : Cond.lays "SmokeZones" "SmokeZones" "personCount" "I" ∈ GW := gw_t (List.mem_of_getElem? (i := 74) (by decide +kernel)) (by decide +kernel)
theorem k76 : Cond.lays "SmokeZones" "SmokeZones" "now" "I" ∈ GW := gw_t (List.mem_of_getElem? (i := 76) (by decide +kernel)) (by decide +kernel)
theorem k78 : Cond.lays "SmokeZones" "SmokeZones" "made" "J" ∈ GW := gw_t (List.mem_of_getElem? (i := 78) (by decide +kernel)) (by decide +kernel)
theorem k80 : Cond.lays "SmokeZones" "SmokeZones" "out" "J" ∈ GW := gw_t (List.mem_of_getElem? (i := 80) (by decide +kernel)) (by decide +kernel)
theorem k82 : Cond.lays "SmokeZones" "SmokeZones" "blown" "J" ∈ GW := gw_t (List.mem_of_getElem? (i := 82) (by decide +kernel)) (by decide +kernel)
theorem k84 : Cond.lays "SmokeZones" "SmokeZones" "pressedOut" "J" ∈ GW := gw_t (List.mem_of_getElem? (i := 84) (by decide +kernel)) (by decide +kernel)
theorem k87 : Cond.methodLink "SmokeZonesLaw" 70 y_La_room ∈ GW := gw_t (List.mem_of_getElem? (i := 87) (by decide +kernel)) (by decide +kernel)
theorem k88 : Cond.static y_La_room ∈ GW := gw_t (List.mem_of_getElem? (i := 88) (by decide +kernel)) (by decide +kernel)
theorem k89 : Cond.codeWith y_La_room method_3_code 5 (some .int) [(0, 10, 13, 13), (0, 10, 17, 15)] ∈ GW := gw_t (List.mem_of_getElem? (i := 89) (by decide +kernel)) (by decide +kernel)
theorem k90 : Cond.classLink "SmokeZonesLaw" 13 "java/lang/IllegalArgumentException" ∈ GW := gw_t (List.mem_of_getElem? (i := 90) (by decide +kernel)) (by decide +kernel)
theorem k91 : Cond.classLink "SmokeZonesLaw" 15 "java/lang/IllegalStateException" ∈ GW := gw_t (List.mem_of_getElem? (i := 91) (by decide +kernel)) (by decide +kernel)
theorem k92 : Cond.methodLink "SmokeZonesLaw" 7 y_Sz_room ∈ GW := gw_t (List.mem_of_getElem? (i := 92) (by decide +kernel)) (by decide +kernel)
theorem k93 : Cond.instanceMethod y_Sz_room ∈ GW := gw_t (List.mem_of_getElem? (i := 93) (by decide +kernel)) (by decide +kernel)
theorem k94 : Cond.selects "SmokeZones" y_Sz_room y_Sz_room ∈ GW := gw_t (List.mem_of_getElem? (i := 94) (by decide +kernel)) (by decide +kernel)
theorem k95 : Cond.code y_Sz_room prog_1_method_2_code 3 (some .int) ∈ GW := gw_t (List.mem_of_getElem? (i := 95) (by decide +kernel)) (by decide +kernel)
theorem k96 : Cond.methodLink "SmokeZones" 45 y_Sz_needBetween ∈ GW := gw_t (List.mem_of_getElem? (i := 96) (by decide +kernel)) (by decide +kernel)
theorem k97 : Cond.static y_Sz_needBetween ∈ GW := gw_t (List.mem_of_getElem? (i := 97) (by decide +kernel)) (by decide +kernel)
theorem k98 : Cond.code y_Sz_needBetween prog_1_method_19_code 3 none ∈ GW := gw_t (List.mem_of_getElem? (i := 98) (by decide +kernel)) (by decide +kernel)
theorem k99 : Cond.methodLink "SmokeZones" 66 y_Sz_needArgument ∈ GW := gw_t (List.mem_of_getElem? (i := 99) (by decide +kernel)) (by decide +kernel)
theorem k100 : Cond.static y_Sz_needArgument ∈ GW := gw_t (List.mem_of_getElem? (i := 100) (by decide +kernel)) (by decide +kernel)
theorem k101 : Cond.code y_Sz_needArgument prog_1_method_17_code 1 none ∈ GW := gw_t (List.mem_of_getElem? (i := 101) (by decide +kernel)) (by decide +kernel)
theorem k102 : Cond.classLink "SmokeZones" 183 "java/lang/IllegalArgumentException" ∈ GW := gw_t (List.mem_of_getElem? (i := 102) (by decide +kernel)) (by decide +kernel)
theorem k103 : Cond.instantiable "java/lang/IllegalArgumentException" 6 ∈ GW := gw_t (List.mem_of_getElem? (i := 103) (by decide +kernel)) (by decide +kernel)
theorem kt104 : Cond.castable "java/lang/IllegalArgumentException" "java/lang/IllegalArgumentException" ∈ tables_1 := List.mem_of_getElem? (i := 104) (by decide +kernel)
theorem k111 : Cond.selects "java/lang/IllegalArgumentException" ⟨"java/lang/Throwable", "fillInStackTrace", "(I)Ljava/lang/Throwable;"⟩ ⟨"java/lang/Throwable", "fillInStackTrace", "(I)Ljava/lang/Throwable;"⟩ ∈ GW := gw_t (List.mem_of_getElem? (i := 111) (by decide +kernel)) (by decide +kernel)
theorem k112 : Cond.selects "java/lang/IllegalArgumentException" ⟨"java/lang/Throwable", "fillInStackTrace", "()Ljava/lang/Throwable;"⟩ ⟨"java/lang/Throwable", "fillInStackTrace", "()Ljava/lang/Throwable;"⟩ ∈ GW := gw_t (List.mem_of_getElem? (i := 112) (by decide +kernel)) (by decide +kernel)
theorem k113 : Cond.lays "java/lang/IllegalArgumentException" "java/lang/Throwable" "cause" "Ljava/lang/Throwable;" ∈ GW := gw_t (List.mem_of_getElem? (i := 113) (by decide +kernel)) (by decide +kernel)
theorem k114 : Cond.lays "java/lang/Throwable" "java/lang/Throwable" "cause" "Ljava/lang/Throwable;" ∈ GW := gw_t (List.mem_of_getElem? (i := 114) (by decide +kernel)) (by decide +kernel)
theorem k115 : Cond.lays "java/lang/IllegalArgumentException" "java/lang/Throwable" "stackTrace" "[Ljava/lang/StackTraceElement;" ∈ GW := gw_t (List.mem_of_getElem? (i := 115) (by decide +kernel)) (by decide +kernel)
theorem k116 : Cond.lays "java/lang/Throwable" "java/lang/Throwable" "stackTrace" "[Ljava/lang/StackTraceElement;" ∈ GW := gw_t (List.mem_of_getElem? (i := 116) (by decide +kernel)) (by decide +kernel)
theorem k117 : Cond.lays "java/lang/IllegalArgumentException" "java/lang/Throwable" "suppressedExceptions" "Ljava/util/List;" ∈ GW := gw_t (List.mem_of_getElem? (i := 117) (by decide +kernel)) (by decide +kernel)
theorem k118 : Cond.lays "java/lang/Throwable" "java/lang/Throwable" "suppressedExceptions" "Ljava/util/List;" ∈ GW := gw_t (List.mem_of_getElem? (i := 118) (by decide +kernel)) (by decide +kernel)
theorem k119 : Cond.lays "java/lang/IllegalArgumentException" "java/lang/Throwable" "detailMessage" "Ljava/lang/String;" ∈ GW := gw_t (List.mem_of_getElem? (i := 119) (by decide +kernel)) (by decide +kernel)
theorem k120 : Cond.lays "java/lang/Throwable" "java/lang/Throwable" "detailMessage" "Ljava/lang/String;" ∈ GW := gw_t (List.mem_of_getElem? (i := 120) (by decide +kernel)) (by decide +kernel)
theorem k121 : Cond.lays "java/lang/IllegalArgumentException" "java/lang/Throwable" "backtrace" "Ljava/lang/Object;" ∈ GW := gw_t (List.mem_of_getElem? (i := 121) (by decide +kernel)) (by decide +kernel)
theorem k122 : Cond.lays "java/lang/Throwable" "java/lang/Throwable" "backtrace" "Ljava/lang/Object;" ∈ GW := gw_t (List.mem_of_getElem? (i := 122) (by decide +kernel)) (by decide +kernel)
theorem k123 : Cond.fieldLink "java/lang/Throwable" 198 "java/lang/Throwable" "backtrace" "Ljava/lang/Object;" ∈ GW := gw_t (List.mem_of_getElem? (i := 123) (by decide +kernel)) (by decide +kernel)
theorem k125 : Cond.instanceMethod ⟨"java/lang/Throwable", "<init>", "()V"⟩ ∈ GW := gw_t (List.mem_of_getElem? (i := 125) (by decide +kernel)) (by decide +kernel)
theorem k126 : Cond.code ⟨"java/lang/Throwable", "<init>", "()V"⟩ prog_16_method_1_code 1 none ∈ GW := gw_t (List.mem_of_getElem? (i := 126) (by decide +kernel)) (by decide +kernel)
theorem k127 : Cond.methodLink "java/lang/Throwable" 1 objectInit ∈ GW := gw_t (List.mem_of_getElem? (i := 127) (by decide +kernel)) (by decide +kernel)
theorem k128 : Cond.fieldLink "java/lang/Throwable" 13 "java/lang/Throwable" "UNASSIGNED_STACK" "[Ljava/lang/StackTraceElement;" ∈ GW := gw_t (List.mem_of_getElem? (i := 128) (by decide +kernel)) (by decide +kernel)
theorem k130 : Cond.fieldLink "java/lang/Throwable" 20 "java/lang/Throwable" "SUPPRESSED_SENTINEL" "Ljava/util/List;" ∈ GW := gw_t (List.mem_of_getElem? (i := 130) (by decide +kernel)) (by decide +kernel)
theorem k132 : Cond.methodLink "java/lang/Throwable" 27 ⟨"java/lang/Throwable", "fillInStackTrace", "()Ljava/lang/Throwable;"⟩ ∈ GW := gw_t (List.mem_of_getElem? (i := 132) (by decide +kernel)) (by decide +kernel)
theorem k133 : Cond.instanceMethod ⟨"java/lang/Throwable", "fillInStackTrace", "()Ljava/lang/Throwable;"⟩ ∈ GW := gw_t (List.mem_of_getElem? (i := 133) (by decide +kernel)) (by decide +kernel)
theorem k135 : Cond.selects "java/lang/IllegalStateException" ⟨"java/lang/Throwable", "fillInStackTrace", "()Ljava/lang/Throwable;"⟩ ⟨"java/lang/Throwable", "fillInStackTrace", "()Ljava/lang/Throwable;"⟩ ∈ GW := gw_t (List.mem_of_getElem? (i := 135) (by decide +kernel)) (by decide +kernel)
theorem k137 : Cond.methodLink "java/lang/Throwable" 202 ⟨"java/lang/Throwable", "fillInStackTrace", "(I)Ljava/lang/Throwable;"⟩ ∈ GW := gw_t (List.mem_of_getElem? (i := 137) (by decide +kernel)) (by decide +kernel)
theorem k139 : Cond.instanceMethod ⟨"java/lang/Throwable", "fillInStackTrace", "(I)Ljava/lang/Throwable;"⟩ ∈ GW := gw_t (List.mem_of_getElem? (i := 139) (by decide +kernel)) (by decide +kernel)
theorem k140 : Cond.instantiable "java/lang/Throwable" 6 ∈ GW := gw_t (List.mem_of_getElem? (i := 140) (by decide +kernel)) (by decide +kernel)
theorem k143 : Cond.methodLink "SmokeZones" 187 ⟨"java/lang/IllegalArgumentException", "<init>", "(Ljava/lang/String;)V"⟩ ∈ GW := gw_t (List.mem_of_getElem? (i := 143) (by decide +kernel)) (by decide +kernel)
theorem k144 : Cond.instanceMethod ⟨"java/lang/IllegalArgumentException", "<init>", "(Ljava/lang/String;)V"⟩ ∈ GW := gw_t (List.mem_of_getElem? (i := 144) (by decide +kernel)) (by decide +kernel)
theorem k145 : Cond.code ⟨"java/lang/IllegalArgumentException", "<init>", "(Ljava/lang/String;)V"⟩ prog_11_method_2_code 2 none ∈ GW := gw_t (List.mem_of_getElem? (i := 145) (by decide +kernel)) (by decide +kernel)
theorem k146 : Cond.methodLink "java/lang/IllegalArgumentException" 7 ⟨"java/lang/RuntimeException", "<init>", "(Ljava/lang/String;)V"⟩ ∈ GW := gw_t (List.mem_of_getElem? (i := 146) (by decide +kernel)) (by decide +kernel)
theorem k147 : Cond.instanceMethod ⟨"java/lang/RuntimeException", "<init>", "(Ljava/lang/String;)V"⟩ ∈ GW := gw_t (List.mem_of_getElem? (i := 147) (by decide +kernel)) (by decide +kernel)
theorem k148 : Cond.code ⟨"java/lang/RuntimeException", "<init>", "(Ljava/lang/String;)V"⟩ prog_14_method_2_code 2 none ∈ GW := gw_t (List.mem_of_getElem? (i := 148) (by decide +kernel)) (by decide +kernel)
theorem k149 : Cond.methodLink "java/lang/RuntimeException" 7 ⟨"java/lang/Exception", "<init>", "(Ljava/lang/String;)V"⟩ ∈ GW := gw_t (List.mem_of_getElem? (i := 149) (by decide +kernel)) (by decide +kernel)
theorem k150 : Cond.instanceMethod ⟨"java/lang/Exception", "<init>", "(Ljava/lang/String;)V"⟩ ∈ GW := gw_t (List.mem_of_getElem? (i := 150) (by decide +kernel)) (by decide +kernel)
theorem k151 : Cond.code ⟨"java/lang/Exception", "<init>", "(Ljava/lang/String;)V"⟩ prog_10_method_2_code 2 none ∈ GW := gw_t (List.mem_of_getElem? (i := 151) (by decide +kernel)) (by decide +kernel)
theorem k152 : Cond.methodLink "java/lang/Exception" 7 ⟨"java/lang/Throwable", "<init>", "(Ljava/lang/String;)V"⟩ ∈ GW := gw_t (List.mem_of_getElem? (i := 152) (by decide +kernel)) (by decide +kernel)
theorem k153 : Cond.instanceMethod ⟨"java/lang/Throwable", "<init>", "(Ljava/lang/String;)V"⟩ ∈ GW := gw_t (List.mem_of_getElem? (i := 153) (by decide +kernel)) (by decide +kernel)
theorem k154 : Cond.code ⟨"java/lang/Throwable", "<init>", "(Ljava/lang/String;)V"⟩ prog_16_method_2_code 2 none ∈ GW := gw_t (List.mem_of_getElem? (i := 154) (by decide +kernel)) (by decide +kernel)
theorem k155 : Cond.fieldLink "java/lang/Throwable" 198 "java/lang/Throwable" "backtrace" "Ljava/lang/Object;" ∈ GW := gw_t (List.mem_of_getElem? (i := 155) (by decide +kernel)) (by decide +kernel)
theorem k156 : Cond.fieldLink "java/lang/Throwable" 31 "java/lang/Throwable" "detailMessage" "Ljava/lang/String;" ∈ GW := gw_t (List.mem_of_getElem? (i := 156) (by decide +kernel)) (by decide +kernel)
theorem k157 : Cond.fieldLink "java/lang/Throwable" 7 "java/lang/Throwable" "cause" "Ljava/lang/Throwable;" ∈ GW := gw_t (List.mem_of_getElem? (i := 157) (by decide +kernel)) (by decide +kernel)
theorem k158 : Cond.fieldLink "java/lang/Throwable" 17 "java/lang/Throwable" "stackTrace" "[Ljava/lang/StackTraceElement;" ∈ GW := gw_t (List.mem_of_getElem? (i := 158) (by decide +kernel)) (by decide +kernel)
theorem k159 : Cond.fieldLink "java/lang/Throwable" 24 "java/lang/Throwable" "suppressedExceptions" "Ljava/util/List;" ∈ GW := gw_t (List.mem_of_getElem? (i := 159) (by decide +kernel)) (by decide +kernel)
theorem k164 : Cond.lays "java/lang/IllegalArgumentException" "java/lang/Throwable" "depth" "I" ∈ GW := gw_t (List.mem_of_getElem? (i := 164) (by decide +kernel)) (by decide +kernel)
theorem k168 : Cond.arrayClass .byte ∈ GW := gw_t (List.mem_of_getElem? (i := 168) (by decide +kernel)) (by decide +kernel)
theorem k169 : Cond.methodLink "SmokeZones" 53 y_Sz_needSpace ∈ GW := gw_t (List.mem_of_getElem? (i := 169) (by decide +kernel)) (by decide +kernel)
theorem k170 : Cond.static y_Sz_needSpace ∈ GW := gw_t (List.mem_of_getElem? (i := 170) (by decide +kernel)) (by decide +kernel)
theorem k171 : Cond.code y_Sz_needSpace prog_1_method_21_code 2 none ∈ GW := gw_t (List.mem_of_getElem? (i := 171) (by decide +kernel)) (by decide +kernel)
theorem k172 : Cond.methodLink "SmokeZones" 82 y_Sz_needState ∈ GW := gw_t (List.mem_of_getElem? (i := 172) (by decide +kernel)) (by decide +kernel)
theorem k173 : Cond.static y_Sz_needState ∈ GW := gw_t (List.mem_of_getElem? (i := 173) (by decide +kernel)) (by decide +kernel)
theorem k174 : Cond.code y_Sz_needState prog_1_method_18_code 1 none ∈ GW := gw_t (List.mem_of_getElem? (i := 174) (by decide +kernel)) (by decide +kernel)
theorem k175 : Cond.classLink "SmokeZones" 190 "java/lang/IllegalStateException" ∈ GW := gw_t (List.mem_of_getElem? (i := 175) (by decide +kernel)) (by decide +kernel)
theorem k176 : Cond.instantiable "java/lang/IllegalStateException" 6 ∈ GW := gw_t (List.mem_of_getElem? (i := 176) (by decide +kernel)) (by decide +kernel)
theorem kt177 : Cond.castable "java/lang/IllegalStateException" "java/lang/IllegalStateException" ∈ tables_1 := List.mem_of_getElem? (i := 177) (by decide +kernel)
theorem k178 : Cond.selects "java/lang/IllegalStateException" ⟨"java/lang/Throwable", "fillInStackTrace", "(I)Ljava/lang/Throwable;"⟩ ⟨"java/lang/Throwable", "fillInStackTrace", "(I)Ljava/lang/Throwable;"⟩ ∈ GW := gw_t (List.mem_of_getElem? (i := 178) (by decide +kernel)) (by decide +kernel)
theorem k179 : Cond.lays "java/lang/IllegalStateException" "java/lang/Throwable" "cause" "Ljava/lang/Throwable;" ∈ GW := gw_t (List.mem_of_getElem? (i := 179) (by decide +kernel)) (by decide +kernel)
theorem k180 : Cond.lays "java/lang/IllegalStateException" "java/lang/Throwable" "stackTrace" "[Ljava/lang/StackTraceElement;" ∈ GW := gw_t (List.mem_of_getElem? (i := 180) (by decide +kernel)) (by decide +kernel)
theorem k181 : Cond.lays "java/lang/IllegalStateException" "java/lang/Throwable" "suppressedExceptions" "Ljava/util/List;" ∈ GW := gw_t (List.mem_of_getElem? (i := 181) (by decide +kernel)) (by decide +kernel)
theorem k182 : Cond.lays "java/lang/IllegalStateException" "java/lang/Throwable" "detailMessage" "Ljava/lang/String;" ∈ GW := gw_t (List.mem_of_getElem? (i := 182) (by decide +kernel)) (by decide +kernel)
theorem k183 : Cond.lays "java/lang/IllegalStateException" "java/lang/Throwable" "backtrace" "Ljava/lang/Object;" ∈ GW := gw_t (List.mem_of_getElem? (i := 183) (by decide +kernel)) (by decide +kernel)
theorem k185 : Cond.methodLink "SmokeZones" 194 ⟨"java/lang/IllegalStateException", "<init>", "(Ljava/lang/String;)V"⟩ ∈ GW := gw_t (List.mem_of_getElem? (i := 185) (by decide +kernel)) (by decide +kernel)
theorem k186 : Cond.instanceMethod ⟨"java/lang/IllegalStateException", "<init>", "(Ljava/lang/String;)V"⟩ ∈ GW := gw_t (List.mem_of_getElem? (i := 186) (by decide +kernel)) (by decide +kernel)
theorem k187 : Cond.code ⟨"java/lang/IllegalStateException", "<init>", "(Ljava/lang/String;)V"⟩ prog_12_method_2_code 2 none ∈ GW := gw_t (List.mem_of_getElem? (i := 187) (by decide +kernel)) (by decide +kernel)
theorem k188 : Cond.methodLink "java/lang/IllegalStateException" 7 ⟨"java/lang/RuntimeException", "<init>", "(Ljava/lang/String;)V"⟩ ∈ GW := gw_t (List.mem_of_getElem? (i := 188) (by decide +kernel)) (by decide +kernel)
theorem k189 : Cond.lays "java/lang/IllegalStateException" "java/lang/Throwable" "depth" "I" ∈ GW := gw_t (List.mem_of_getElem? (i := 189) (by decide +kernel)) (by decide +kernel)
theorem k191 : Cond.instantiable "SmokeZones$Room" 8 ∈ GW := gw_t (List.mem_of_getElem? (i := 191) (by decide +kernel)) (by decide +kernel)
theorem k192 : Cond.methodLink "SmokeZones" 57 y_Ro_init ∈ GW := gw_t (List.mem_of_getElem? (i := 192) (by decide +kernel)) (by decide +kernel)
theorem k193 : Cond.instanceMethod y_Ro_init ∈ GW := gw_t (List.mem_of_getElem? (i := 193) (by decide +kernel)) (by decide +kernel)
theorem k194 : Cond.code y_Ro_init prog_6_method_1_code 3 none ∈ GW := gw_t (List.mem_of_getElem? (i := 194) (by decide +kernel)) (by decide +kernel)
theorem k195 : Cond.methodLink "SmokeZones$Room" 3 objectInit ∈ GW := gw_t (List.mem_of_getElem? (i := 195) (by decide +kernel)) (by decide +kernel)
theorem k196 : Cond.fieldLink "SmokeZones$Room" 9 "SmokeZones$Room" "area" "I" ∈ GW := gw_t (List.mem_of_getElem? (i := 196) (by decide +kernel)) (by decide +kernel)
theorem k197 : Cond.fieldLink "SmokeZones$Room" 15 "SmokeZones$Room" "height" "I" ∈ GW := gw_t (List.mem_of_getElem? (i := 197) (by decide +kernel)) (by decide +kernel)
theorem k198 : Cond.fieldLink "SmokeZones" 70 "SmokeZones$Room" "height" "I" ∈ GW := gw_t (List.mem_of_getElem? (i := 198) (by decide +kernel)) (by decide +kernel)
theorem k199 : Cond.fieldLink "SmokeZones$Room" 18 "SmokeZones$Room" "holds" "J" ∈ GW := gw_t (List.mem_of_getElem? (i := 199) (by decide +kernel)) (by decide +kernel)
theorem k200 : Cond.fieldLink "SmokeZones$Room" 28 "SmokeZones$Room" "smoke" "J" ∈ GW := gw_t (List.mem_of_getElem? (i := 200) (by decide +kernel)) (by decide +kernel)
theorem k201 : Cond.fieldLink "SmokeZones$Fan" 20 "SmokeZones$Room" "smoke" "J" ∈ GW := gw_t (List.mem_of_getElem? (i := 201) (by decide +kernel)) (by decide +kernel)
theorem k202 : Cond.fieldLink "SmokeZones$Opening" 60 "SmokeZones$Room" "smoke" "J" ∈ GW := gw_t (List.mem_of_getElem? (i := 202) (by decide +kernel)) (by decide +kernel)
theorem k203 : Cond.fieldLink "SmokeZones" 122 "SmokeZones$Room" "smoke" "J" ∈ GW := gw_t (List.mem_of_getElem? (i := 203) (by decide +kernel)) (by decide +kernel)
theorem k204 : Cond.fieldLink "SmokeZones$Room" 31 "SmokeZones$Room" "heat" "J" ∈ GW := gw_t (List.mem_of_getElem? (i := 204) (by decide +kernel)) (by decide +kernel)
theorem k205 : Cond.fieldLink "SmokeZones" 126 "SmokeZones$Room" "heat" "J" ∈ GW := gw_t (List.mem_of_getElem? (i := 205) (by decide +kernel)) (by decide +kernel)
theorem k206 : Cond.fieldLink "SmokeZones$Room" 22 "SmokeZones$Room" "sprinklerLimit" "I" ∈ GW := gw_t (List.mem_of_getElem? (i := 206) (by decide +kernel)) (by decide +kernel)
theorem k207 : Cond.fieldLink "SmokeZones" 95 "SmokeZones$Room" "sprinklerLimit" "I" ∈ GW := gw_t (List.mem_of_getElem? (i := 207) (by decide +kernel)) (by decide +kernel)
theorem k208 : Cond.fieldLink "SmokeZones$Fire" 32 "SmokeZones$Room" "sprinklerActs" "Z" ∈ GW := gw_t (List.mem_of_getElem? (i := 208) (by decide +kernel)) (by decide +kernel)
theorem k209 : Cond.fieldLink "SmokeZones$Room" 56 "SmokeZones$Room" "sprinklerActs" "Z" ∈ GW := gw_t (List.mem_of_getElem? (i := 209) (by decide +kernel)) (by decide +kernel)
theorem k210 : Cond.fieldLink "SmokeZones" 139 "SmokeZones$Room" "sprinklerActs" "Z" ∈ GW := gw_t (List.mem_of_getElem? (i := 210) (by decide +kernel)) (by decide +kernel)
theorem k211 : Cond.fieldLink "SmokeZones$Room" 25 "SmokeZones$Room" "firstLowSecond" "I" ∈ GW := gw_t (List.mem_of_getElem? (i := 211) (by decide +kernel)) (by decide +kernel)
theorem k212 : Cond.fieldLink "SmokeZones" 143 "SmokeZones$Room" "firstLowSecond" "I" ∈ GW := gw_t (List.mem_of_getElem? (i := 212) (by decide +kernel)) (by decide +kernel)
theorem k213 : Cond.laysFinal "SmokeZones$Room" "SmokeZones$Room" "area" "I" ∈ GW := gw_t (List.mem_of_getElem? (i := 213) (by decide +kernel)) (by decide +kernel)
theorem k215 : Cond.laysFinal "SmokeZones$Room" "SmokeZones$Room" "height" "I" ∈ GW := gw_t (List.mem_of_getElem? (i := 215) (by decide +kernel)) (by decide +kernel)
theorem k217 : Cond.laysFinal "SmokeZones$Room" "SmokeZones$Room" "holds" "J" ∈ GW := gw_t (List.mem_of_getElem? (i := 217) (by decide +kernel)) (by decide +kernel)
theorem k219 : Cond.lays "SmokeZones$Room" "SmokeZones$Room" "smoke" "J" ∈ GW := gw_t (List.mem_of_getElem? (i := 219) (by decide +kernel)) (by decide +kernel)
theorem k221 : Cond.lays "SmokeZones$Room" "SmokeZones$Room" "heat" "J" ∈ GW := gw_t (List.mem_of_getElem? (i := 221) (by decide +kernel)) (by decide +kernel)
theorem k223 : Cond.lays "SmokeZones$Room" "SmokeZones$Room" "sprinklerLimit" "I" ∈ GW := gw_t (List.mem_of_getElem? (i := 223) (by decide +kernel)) (by decide +kernel)
theorem k225 : Cond.lays "SmokeZones$Room" "SmokeZones$Room" "sprinklerActs" "Z" ∈ GW := gw_t (List.mem_of_getElem? (i := 225) (by decide +kernel)) (by decide +kernel)
theorem k227 : Cond.lays "SmokeZones$Room" "SmokeZones$Room" "firstLowSecond" "I" ∈ GW := gw_t (List.mem_of_getElem? (i := 227) (by decide +kernel)) (by decide +kernel)
theorem k230 : Cond.methodLink "SmokeZonesLaw" 80 y_La_opening ∈ GW := gw_t (List.mem_of_getElem? (i := 230) (by decide +kernel)) (by decide +kernel)
theorem k231 : Cond.static y_La_opening ∈ GW := gw_t (List.mem_of_getElem? (i := 231) (by decide +kernel)) (by decide +kernel)
theorem k232 : Cond.codeWith y_La_opening method_4_code 8 (some .int) [(0, 16, 19, 13), (0, 16, 23, 15)] ∈ GW := gw_t (List.mem_of_getElem? (i := 232) (by decide +kernel)) (by decide +kernel)
theorem k233 : Cond.methodLink "SmokeZonesLaw" 17 y_Sz_opening ∈ GW := gw_t (List.mem_of_getElem? (i := 233) (by decide +kernel)) (by decide +kernel)
theorem k234 : Cond.instanceMethod y_Sz_opening ∈ GW := gw_t (List.mem_of_getElem? (i := 234) (by decide +kernel)) (by decide +kernel)
theorem k235 : Cond.selects "SmokeZones" y_Sz_opening y_Sz_opening ∈ GW := gw_t (List.mem_of_getElem? (i := 235) (by decide +kernel)) (by decide +kernel)
theorem k236 : Cond.code y_Sz_opening prog_1_method_3_code 7 (some .int) ∈ GW := gw_t (List.mem_of_getElem? (i := 236) (by decide +kernel)) (by decide +kernel)
theorem k237 : Cond.methodLink "SmokeZones" 59 y_Sz_needNumber ∈ GW := gw_t (List.mem_of_getElem? (i := 237) (by decide +kernel)) (by decide +kernel)
theorem k238 : Cond.static y_Sz_needNumber ∈ GW := gw_t (List.mem_of_getElem? (i := 238) (by decide +kernel)) (by decide +kernel)
theorem k239 : Cond.code y_Sz_needNumber prog_1_method_20_code 2 none ∈ GW := gw_t (List.mem_of_getElem? (i := 239) (by decide +kernel)) (by decide +kernel)
theorem k240 : Cond.methodLink "SmokeZones" 62 y_Sz_needPlace ∈ GW := gw_t (List.mem_of_getElem? (i := 240) (by decide +kernel)) (by decide +kernel)
theorem k242 : Cond.instanceMethod y_Sz_needPlace ∈ GW := gw_t (List.mem_of_getElem? (i := 242) (by decide +kernel)) (by decide +kernel)
theorem k243 : Cond.code y_Sz_needPlace prog_1_method_22_code 2 none ∈ GW := gw_t (List.mem_of_getElem? (i := 243) (by decide +kernel)) (by decide +kernel)
theorem k244 : Cond.methodLink "SmokeZones" 195 y_Sz_isRoom ∈ GW := gw_t (List.mem_of_getElem? (i := 244) (by decide +kernel)) (by decide +kernel)
theorem k246 : Cond.instanceMethod y_Sz_isRoom ∈ GW := gw_t (List.mem_of_getElem? (i := 246) (by decide +kernel)) (by decide +kernel)
theorem k247 : Cond.code y_Sz_isRoom prog_1_method_23_code 2 (some .boolean) ∈ GW := gw_t (List.mem_of_getElem? (i := 247) (by decide +kernel)) (by decide +kernel)
theorem k248 : Cond.instantiable "SmokeZones$Opening" 10 ∈ GW := gw_t (List.mem_of_getElem? (i := 248) (by decide +kernel)) (by decide +kernel)
theorem k249 : Cond.methodLink "SmokeZones" 76 y_Op_init ∈ GW := gw_t (List.mem_of_getElem? (i := 249) (by decide +kernel)) (by decide +kernel)
theorem k250 : Cond.instanceMethod y_Op_init ∈ GW := gw_t (List.mem_of_getElem? (i := 250) (by decide +kernel)) (by decide +kernel)
theorem k251 : Cond.code y_Op_init prog_4_method_1_code 6 none ∈ GW := gw_t (List.mem_of_getElem? (i := 251) (by decide +kernel)) (by decide +kernel)
theorem k252 : Cond.methodLink "SmokeZones$Opening" 3 objectInit ∈ GW := gw_t (List.mem_of_getElem? (i := 252) (by decide +kernel)) (by decide +kernel)
theorem k253 : Cond.fieldLink "SmokeZones$Opening" 9 "SmokeZones$Opening" "near" "LSmokeZones$Room;" ∈ GW := gw_t (List.mem_of_getElem? (i := 253) (by decide +kernel)) (by decide +kernel)
theorem k254 : Cond.fieldLink "SmokeZones$Opening" 15 "SmokeZones$Opening" "far" "LSmokeZones$Room;" ∈ GW := gw_t (List.mem_of_getElem? (i := 254) (by decide +kernel)) (by decide +kernel)
theorem k255 : Cond.fieldLink "SmokeZones$Opening" 18 "SmokeZones$Opening" "width" "I" ∈ GW := gw_t (List.mem_of_getElem? (i := 255) (by decide +kernel)) (by decide +kernel)
theorem k256 : Cond.fieldLink "SmokeZones$Opening" 22 "SmokeZones$Opening" "sill" "I" ∈ GW := gw_t (List.mem_of_getElem? (i := 256) (by decide +kernel)) (by decide +kernel)
theorem k257 : Cond.fieldLink "SmokeZones$Opening" 25 "SmokeZones$Opening" "top" "I" ∈ GW := gw_t (List.mem_of_getElem? (i := 257) (by decide +kernel)) (by decide +kernel)
theorem k258 : Cond.fieldLink "SmokeZones$Opening" 28 "SmokeZones$Opening" "glassLimit" "I" ∈ GW := gw_t (List.mem_of_getElem? (i := 258) (by decide +kernel)) (by decide +kernel)
theorem k259 : Cond.fieldLink "SmokeZones" 79 "SmokeZones$Opening" "glassLimit" "I" ∈ GW := gw_t (List.mem_of_getElem? (i := 259) (by decide +kernel)) (by decide +kernel)
theorem k260 : Cond.fieldLink "SmokeZones$Opening" 31 "SmokeZones$Opening" "broken" "Z" ∈ GW := gw_t (List.mem_of_getElem? (i := 260) (by decide +kernel)) (by decide +kernel)
theorem k261 : Cond.fieldLink "SmokeZones$Opening" 35 "SmokeZones$Opening" "flow" "J" ∈ GW := gw_t (List.mem_of_getElem? (i := 261) (by decide +kernel)) (by decide +kernel)
theorem k262 : Cond.fieldLink "SmokeZones" 150 "SmokeZones$Opening" "flow" "J" ∈ GW := gw_t (List.mem_of_getElem? (i := 262) (by decide +kernel)) (by decide +kernel)
theorem k263 : Cond.fieldLink "SmokeZones$Opening" 39 "SmokeZones$Opening" "heatInFlow" "J" ∈ GW := gw_t (List.mem_of_getElem? (i := 263) (by decide +kernel)) (by decide +kernel)
theorem k264 : Cond.fieldLink "SmokeZones$Opening" 71 "SmokeZones$Opening" "flowedInAll" "J" ∈ GW := gw_t (List.mem_of_getElem? (i := 264) (by decide +kernel)) (by decide +kernel)
theorem k265 : Cond.fieldLink "SmokeZones" 153 "SmokeZones$Opening" "flowedInAll" "J" ∈ GW := gw_t (List.mem_of_getElem? (i := 265) (by decide +kernel)) (by decide +kernel)
theorem k266 : Cond.laysFinal "SmokeZones$Opening" "SmokeZones$Opening" "near" "LSmokeZones$Room;" ∈ GW := gw_t (List.mem_of_getElem? (i := 266) (by decide +kernel)) (by decide +kernel)
theorem k268 : Cond.laysFinal "SmokeZones$Opening" "SmokeZones$Opening" "far" "LSmokeZones$Room;" ∈ GW := gw_t (List.mem_of_getElem? (i := 268) (by decide +kernel)) (by decide +kernel)
theorem k270 : Cond.laysFinal "SmokeZones$Opening" "SmokeZones$Opening" "width" "I" ∈ GW := gw_t (List.mem_of_getElem? (i := 270) (by decide +kernel)) (by decide +kernel)
theorem k272 : Cond.laysFinal "SmokeZones$Opening" "SmokeZones$Opening" "sill" "I" ∈ GW := gw_t (List.mem_of_getElem? (i := 272) (by decide +kernel)) (by decide +kernel)
theorem k274 : Cond.laysFinal "SmokeZones$Opening" "SmokeZones$Opening" "top" "I" ∈ GW := gw_t (List.mem_of_getElem? (i := 274) (by decide +kernel)) (by decide +kernel)
theorem k276 : Cond.lays "SmokeZones$Opening" "SmokeZones$Opening" "glassLimit" "I" ∈ GW := gw_t (List.mem_of_getElem? (i := 276) (by decide +kernel)) (by decide +kernel)
theorem k278 : Cond.lays "SmokeZones$Opening" "SmokeZones$Opening" "broken" "Z" ∈ GW := gw_t (List.mem_of_getElem? (i := 278) (by decide +kernel)) (by decide +kernel)
theorem k280 : Cond.lays "SmokeZones$Opening" "SmokeZones$Opening" "flow" "J" ∈ GW := gw_t (List.mem_of_getElem? (i := 280) (by decide +kernel)) (by decide +kernel)
theorem k282 : Cond.lays "SmokeZones$Opening" "SmokeZones$Opening" "heatInFlow" "J" ∈ GW := gw_t (List.mem_of_getElem? (i := 282) (by decide +kernel)) (by decide +kernel)
theorem k284 : Cond.lays "SmokeZones$Opening" "SmokeZones$Opening" "flowedInAll" "J" ∈ GW := gw_t (List.mem_of_getElem? (i := 284) (by decide +kernel)) (by decide +kernel)
theorem k287 : Cond.methodLink "SmokeZonesLaw" 84 y_La_glass ∈ GW := gw_t (List.mem_of_getElem? (i := 287) (by decide +kernel)) (by decide +kernel)
theorem k288 : Cond.static y_La_glass ∈ GW := gw_t (List.mem_of_getElem? (i := 288) (by decide +kernel)) (by decide +kernel)
theorem k289 : Cond.codeWith y_La_glass method_5_code 4 (some .int) [(0, 6, 9, 13), (0, 6, 12, 15)] ∈ GW := gw_t (List.mem_of_getElem? (i := 289) (by decide +kernel)) (by decide +kernel)
theorem k290 : Cond.methodLink "SmokeZonesLaw" 21 y_Sz_glass ∈ GW := gw_t (List.mem_of_getElem? (i := 290) (by decide +kernel)) (by decide +kernel)
theorem k291 : Cond.instanceMethod y_Sz_glass ∈ GW := gw_t (List.mem_of_getElem? (i := 291) (by decide +kernel)) (by decide +kernel)
theorem k292 : Cond.selects "SmokeZones" y_Sz_glass y_Sz_glass ∈ GW := gw_t (List.mem_of_getElem? (i := 292) (by decide +kernel)) (by decide +kernel)
theorem k293 : Cond.code y_Sz_glass prog_1_method_4_code 3 none ∈ GW := gw_t (List.mem_of_getElem? (i := 293) (by decide +kernel)) (by decide +kernel)
theorem k294 : Cond.methodLink "SmokeZonesLaw" 88 y_La_fire ∈ GW := gw_t (List.mem_of_getElem? (i := 294) (by decide +kernel)) (by decide +kernel)
theorem k295 : Cond.static y_La_fire ∈ GW := gw_t (List.mem_of_getElem? (i := 295) (by decide +kernel)) (by decide +kernel)
theorem k296 : Cond.codeWith y_La_fire method_6_code 8 (some .int) [(0, 16, 19, 13), (0, 16, 23, 15)] ∈ GW := gw_t (List.mem_of_getElem? (i := 296) (by decide +kernel)) (by decide +kernel)
theorem k297 : Cond.methodLink "SmokeZonesLaw" 25 y_Sz_fire ∈ GW := gw_t (List.mem_of_getElem? (i := 297) (by decide +kernel)) (by decide +kernel)
theorem k298 : Cond.instanceMethod y_Sz_fire ∈ GW := gw_t (List.mem_of_getElem? (i := 298) (by decide +kernel)) (by decide +kernel)
theorem k299 : Cond.selects "SmokeZones" y_Sz_fire y_Sz_fire ∈ GW := gw_t (List.mem_of_getElem? (i := 299) (by decide +kernel)) (by decide +kernel)
theorem k300 : Cond.code y_Sz_fire prog_1_method_5_code 6 (some .int) ∈ GW := gw_t (List.mem_of_getElem? (i := 300) (by decide +kernel)) (by decide +kernel)
theorem k301 : Cond.constant "SmokeZones" 88 100000 ∈ GW := gw_t (List.mem_of_getElem? (i := 301) (by decide +kernel)) (by decide +kernel)
theorem k302 : Cond.instantiable "SmokeZones$Fire" 5 ∈ GW := gw_t (List.mem_of_getElem? (i := 302) (by decide +kernel)) (by decide +kernel)
theorem k303 : Cond.methodLink "SmokeZones" 92 y_Fi_init ∈ GW := gw_t (List.mem_of_getElem? (i := 303) (by decide +kernel)) (by decide +kernel)
theorem k304 : Cond.instanceMethod y_Fi_init ∈ GW := gw_t (List.mem_of_getElem? (i := 304) (by decide +kernel)) (by decide +kernel)
theorem k305 : Cond.code y_Fi_init prog_3_method_1_code 6 none ∈ GW := gw_t (List.mem_of_getElem? (i := 305) (by decide +kernel)) (by decide +kernel)
theorem k306 : Cond.methodLink "SmokeZones$Fire" 1 objectInit ∈ GW := gw_t (List.mem_of_getElem? (i := 306) (by decide +kernel)) (by decide +kernel)
theorem k307 : Cond.fieldLink "SmokeZones$Fire" 7 "SmokeZones$Fire" "place" "LSmokeZones$Room;" ∈ GW := gw_t (List.mem_of_getElem? (i := 307) (by decide +kernel)) (by decide +kernel)
theorem k308 : Cond.fieldLink "SmokeZones$Fire" 13 "SmokeZones$Fire" "firstSecond" "I" ∈ GW := gw_t (List.mem_of_getElem? (i := 308) (by decide +kernel)) (by decide +kernel)
theorem k309 : Cond.fieldLink "SmokeZones$Fire" 17 "SmokeZones$Fire" "growth" "I" ∈ GW := gw_t (List.mem_of_getElem? (i := 309) (by decide +kernel)) (by decide +kernel)
theorem k310 : Cond.fieldLink "SmokeZones$Fire" 20 "SmokeZones$Fire" "most" "I" ∈ GW := gw_t (List.mem_of_getElem? (i := 310) (by decide +kernel)) (by decide +kernel)
theorem k311 : Cond.fieldLink "SmokeZones$Fire" 23 "SmokeZones$Fire" "heat" "I" ∈ GW := gw_t (List.mem_of_getElem? (i := 311) (by decide +kernel)) (by decide +kernel)
theorem k312 : Cond.laysFinal "SmokeZones$Fire" "SmokeZones$Fire" "place" "LSmokeZones$Room;" ∈ GW := gw_t (List.mem_of_getElem? (i := 312) (by decide +kernel)) (by decide +kernel)
theorem k314 : Cond.laysFinal "SmokeZones$Fire" "SmokeZones$Fire" "firstSecond" "I" ∈ GW := gw_t (List.mem_of_getElem? (i := 314) (by decide +kernel)) (by decide +kernel)
theorem k316 : Cond.laysFinal "SmokeZones$Fire" "SmokeZones$Fire" "growth" "I" ∈ GW := gw_t (List.mem_of_getElem? (i := 316) (by decide +kernel)) (by decide +kernel)
theorem k318 : Cond.laysFinal "SmokeZones$Fire" "SmokeZones$Fire" "most" "I" ∈ GW := gw_t (List.mem_of_getElem? (i := 318) (by decide +kernel)) (by decide +kernel)
theorem k320 : Cond.laysFinal "SmokeZones$Fire" "SmokeZones$Fire" "heat" "I" ∈ GW := gw_t (List.mem_of_getElem? (i := 320) (by decide +kernel)) (by decide +kernel)
theorem k323 : Cond.methodLink "SmokeZonesLaw" 91 y_La_sprinkler ∈ GW := gw_t (List.mem_of_getElem? (i := 323) (by decide +kernel)) (by decide +kernel)
theorem k324 : Cond.static y_La_sprinkler ∈ GW := gw_t (List.mem_of_getElem? (i := 324) (by decide +kernel)) (by decide +kernel)
theorem k325 : Cond.codeWith y_La_sprinkler method_7_code 4 (some .int) [(0, 6, 9, 13), (0, 6, 12, 15)] ∈ GW := gw_t (List.mem_of_getElem? (i := 325) (by decide +kernel)) (by decide +kernel)
theorem k326 : Cond.methodLink "SmokeZonesLaw" 28 y_Sz_sprinkler ∈ GW := gw_t (List.mem_of_getElem? (i := 326) (by decide +kernel)) (by decide +kernel)
theorem k327 : Cond.instanceMethod y_Sz_sprinkler ∈ GW := gw_t (List.mem_of_getElem? (i := 327) (by decide +kernel)) (by decide +kernel)
theorem k328 : Cond.selects "SmokeZones" y_Sz_sprinkler y_Sz_sprinkler ∈ GW := gw_t (List.mem_of_getElem? (i := 328) (by decide +kernel)) (by decide +kernel)
theorem k329 : Cond.code y_Sz_sprinkler prog_1_method_6_code 3 none ∈ GW := gw_t (List.mem_of_getElem? (i := 329) (by decide +kernel)) (by decide +kernel)
theorem k330 : Cond.methodLink "SmokeZonesLaw" 94 y_La_fan ∈ GW := gw_t (List.mem_of_getElem? (i := 330) (by decide +kernel)) (by decide +kernel)
theorem k331 : Cond.static y_La_fan ∈ GW := gw_t (List.mem_of_getElem? (i := 331) (by decide +kernel)) (by decide +kernel)
theorem k332 : Cond.codeWith y_La_fan method_8_code 6 (some .int) [(0, 12, 15, 13), (0, 12, 19, 15)] ∈ GW := gw_t (List.mem_of_getElem? (i := 332) (by decide +kernel)) (by decide +kernel)
theorem k333 : Cond.methodLink "SmokeZonesLaw" 31 y_Sz_fan ∈ GW := gw_t (List.mem_of_getElem? (i := 333) (by decide +kernel)) (by decide +kernel)
theorem k334 : Cond.instanceMethod y_Sz_fan ∈ GW := gw_t (List.mem_of_getElem? (i := 334) (by decide +kernel)) (by decide +kernel)
theorem k335 : Cond.selects "SmokeZones" y_Sz_fan y_Sz_fan ∈ GW := gw_t (List.mem_of_getElem? (i := 335) (by decide +kernel)) (by decide +kernel)
theorem k336 : Cond.code y_Sz_fan prog_1_method_7_code 4 (some .int) ∈ GW := gw_t (List.mem_of_getElem? (i := 336) (by decide +kernel)) (by decide +kernel)
theorem k337 : Cond.instantiable "SmokeZones$Fan" 3 ∈ GW := gw_t (List.mem_of_getElem? (i := 337) (by decide +kernel)) (by decide +kernel)
theorem k338 : Cond.methodLink "SmokeZones" 101 y_Fa_init ∈ GW := gw_t (List.mem_of_getElem? (i := 338) (by decide +kernel)) (by decide +kernel)
theorem k339 : Cond.instanceMethod y_Fa_init ∈ GW := gw_t (List.mem_of_getElem? (i := 339) (by decide +kernel)) (by decide +kernel)
theorem k340 : Cond.code y_Fa_init prog_2_method_1_code 4 none ∈ GW := gw_t (List.mem_of_getElem? (i := 340) (by decide +kernel)) (by decide +kernel)
theorem k341 : Cond.methodLink "SmokeZones$Fan" 1 objectInit ∈ GW := gw_t (List.mem_of_getElem? (i := 341) (by decide +kernel)) (by decide +kernel)
theorem k342 : Cond.fieldLink "SmokeZones$Fan" 7 "SmokeZones$Fan" "place" "LSmokeZones$Room;" ∈ GW := gw_t (List.mem_of_getElem? (i := 342) (by decide +kernel)) (by decide +kernel)
theorem k343 : Cond.fieldLink "SmokeZones$Fan" 13 "SmokeZones$Fan" "firstSecond" "I" ∈ GW := gw_t (List.mem_of_getElem? (i := 343) (by decide +kernel)) (by decide +kernel)
theorem k344 : Cond.fieldLink "SmokeZones$Fan" 17 "SmokeZones$Fan" "rate" "I" ∈ GW := gw_t (List.mem_of_getElem? (i := 344) (by decide +kernel)) (by decide +kernel)
theorem k345 : Cond.laysFinal "SmokeZones$Fan" "SmokeZones$Fan" "place" "LSmokeZones$Room;" ∈ GW := gw_t (List.mem_of_getElem? (i := 345) (by decide +kernel)) (by decide +kernel)
theorem k347 : Cond.laysFinal "SmokeZones$Fan" "SmokeZones$Fan" "firstSecond" "I" ∈ GW := gw_t (List.mem_of_getElem? (i := 347) (by decide +kernel)) (by decide +kernel)
theorem k349 : Cond.laysFinal "SmokeZones$Fan" "SmokeZones$Fan" "rate" "I" ∈ GW := gw_t (List.mem_of_getElem? (i := 349) (by decide +kernel)) (by decide +kernel)
theorem k352 : Cond.methodLink "SmokeZonesLaw" 98 y_La_steel ∈ GW := gw_t (List.mem_of_getElem? (i := 352) (by decide +kernel)) (by decide +kernel)
theorem k353 : Cond.static y_La_steel ∈ GW := gw_t (List.mem_of_getElem? (i := 353) (by decide +kernel)) (by decide +kernel)
theorem k354 : Cond.codeWith y_La_steel method_9_code 5 (some .int) [(0, 10, 13, 13), (0, 10, 17, 15)] ∈ GW := gw_t (List.mem_of_getElem? (i := 354) (by decide +kernel)) (by decide +kernel)
theorem k355 : Cond.methodLink "SmokeZonesLaw" 35 y_Sz_steel ∈ GW := gw_t (List.mem_of_getElem? (i := 355) (by decide +kernel)) (by decide +kernel)
theorem k356 : Cond.instanceMethod y_Sz_steel ∈ GW := gw_t (List.mem_of_getElem? (i := 356) (by decide +kernel)) (by decide +kernel)
theorem k357 : Cond.selects "SmokeZones" y_Sz_steel y_Sz_steel ∈ GW := gw_t (List.mem_of_getElem? (i := 357) (by decide +kernel)) (by decide +kernel)
theorem k358 : Cond.code y_Sz_steel prog_1_method_8_code 3 (some .int) ∈ GW := gw_t (List.mem_of_getElem? (i := 358) (by decide +kernel)) (by decide +kernel)
theorem k359 : Cond.instantiable "SmokeZones$Steel" 3 ∈ GW := gw_t (List.mem_of_getElem? (i := 359) (by decide +kernel)) (by decide +kernel)
theorem k360 : Cond.methodLink "SmokeZones" 107 y_St_init ∈ GW := gw_t (List.mem_of_getElem? (i := 360) (by decide +kernel)) (by decide +kernel)
theorem k361 : Cond.instanceMethod y_St_init ∈ GW := gw_t (List.mem_of_getElem? (i := 361) (by decide +kernel)) (by decide +kernel)
theorem k362 : Cond.code y_St_init prog_7_method_1_code 3 none ∈ GW := gw_t (List.mem_of_getElem? (i := 362) (by decide +kernel)) (by decide +kernel)
theorem k363 : Cond.methodLink "SmokeZones$Steel" 1 objectInit ∈ GW := gw_t (List.mem_of_getElem? (i := 363) (by decide +kernel)) (by decide +kernel)
theorem k364 : Cond.fieldLink "SmokeZones$Steel" 7 "SmokeZones$Steel" "place" "LSmokeZones$Room;" ∈ GW := gw_t (List.mem_of_getElem? (i := 364) (by decide +kernel)) (by decide +kernel)
theorem k365 : Cond.fieldLink "SmokeZones$Steel" 13 "SmokeZones$Steel" "section" "I" ∈ GW := gw_t (List.mem_of_getElem? (i := 365) (by decide +kernel)) (by decide +kernel)
theorem k366 : Cond.fieldLink "SmokeZones$Steel" 17 "SmokeZones$Steel" "temperature" "I" ∈ GW := gw_t (List.mem_of_getElem? (i := 366) (by decide +kernel)) (by decide +kernel)
theorem k367 : Cond.fieldLink "SmokeZones" 165 "SmokeZones$Steel" "temperature" "I" ∈ GW := gw_t (List.mem_of_getElem? (i := 367) (by decide +kernel)) (by decide +kernel)
theorem k368 : Cond.laysFinal "SmokeZones$Steel" "SmokeZones$Steel" "place" "LSmokeZones$Room;" ∈ GW := gw_t (List.mem_of_getElem? (i := 368) (by decide +kernel)) (by decide +kernel)
theorem k370 : Cond.laysFinal "SmokeZones$Steel" "SmokeZones$Steel" "section" "I" ∈ GW := gw_t (List.mem_of_getElem? (i := 370) (by decide +kernel)) (by decide +kernel)
theorem k372 : Cond.lays "SmokeZones$Steel" "SmokeZones$Steel" "temperature" "I" ∈ GW := gw_t (List.mem_of_getElem? (i := 372) (by decide +kernel)) (by decide +kernel)
theorem k375 : Cond.methodLink "SmokeZonesLaw" 101 y_La_person ∈ GW := gw_t (List.mem_of_getElem? (i := 375) (by decide +kernel)) (by decide +kernel)
theorem k376 : Cond.static y_La_person ∈ GW := gw_t (List.mem_of_getElem? (i := 376) (by decide +kernel)) (by decide +kernel)
theorem k377 : Cond.codeWith y_La_person method_10_code 4 (some .int) [(0, 9, 12, 13), (0, 9, 15, 15)] ∈ GW := gw_t (List.mem_of_getElem? (i := 377) (by decide +kernel)) (by decide +kernel)
theorem k378 : Cond.methodLink "SmokeZonesLaw" 38 y_Sz_person ∈ GW := gw_t (List.mem_of_getElem? (i := 378) (by decide +kernel)) (by decide +kernel)
theorem k379 : Cond.instanceMethod y_Sz_person ∈ GW := gw_t (List.mem_of_getElem? (i := 379) (by decide +kernel)) (by decide +kernel)
theorem k380 : Cond.selects "SmokeZones" y_Sz_person y_Sz_person ∈ GW := gw_t (List.mem_of_getElem? (i := 380) (by decide +kernel)) (by decide +kernel)
theorem k381 : Cond.code y_Sz_person prog_1_method_9_code 2 (some .int) ∈ GW := gw_t (List.mem_of_getElem? (i := 381) (by decide +kernel)) (by decide +kernel)
theorem k382 : Cond.instantiable "SmokeZones$Person" 8 ∈ GW := gw_t (List.mem_of_getElem? (i := 382) (by decide +kernel)) (by decide +kernel)
theorem k383 : Cond.methodLink "SmokeZones" 113 y_Pe_init ∈ GW := gw_t (List.mem_of_getElem? (i := 383) (by decide +kernel)) (by decide +kernel)
theorem k384 : Cond.instanceMethod y_Pe_init ∈ GW := gw_t (List.mem_of_getElem? (i := 384) (by decide +kernel)) (by decide +kernel)
theorem k385 : Cond.code y_Pe_init prog_5_method_1_code 2 none ∈ GW := gw_t (List.mem_of_getElem? (i := 385) (by decide +kernel)) (by decide +kernel)
theorem k386 : Cond.methodLink "SmokeZones$Person" 3 objectInit ∈ GW := gw_t (List.mem_of_getElem? (i := 386) (by decide +kernel)) (by decide +kernel)
theorem k387 : Cond.fieldLink "SmokeZones$Person" 9 "SmokeZones$Person" "place" "I" ∈ GW := gw_t (List.mem_of_getElem? (i := 387) (by decide +kernel)) (by decide +kernel)
theorem k388 : Cond.fieldLink "SmokeZones" 156 "SmokeZones$Person" "place" "I" ∈ GW := gw_t (List.mem_of_getElem? (i := 388) (by decide +kernel)) (by decide +kernel)
theorem k389 : Cond.fieldLink "SmokeZones$Person" 37 "SmokeZones$Person" "dose" "J" ∈ GW := gw_t (List.mem_of_getElem? (i := 389) (by decide +kernel)) (by decide +kernel)
theorem k390 : Cond.fieldLink "SmokeZones" 159 "SmokeZones$Person" "dose" "J" ∈ GW := gw_t (List.mem_of_getElem? (i := 390) (by decide +kernel)) (by decide +kernel)
theorem k391 : Cond.fieldLink "SmokeZones$Person" 45 "SmokeZones$Person" "breaths" "J" ∈ GW := gw_t (List.mem_of_getElem? (i := 391) (by decide +kernel)) (by decide +kernel)
theorem k392 : Cond.fieldLink "SmokeZones" 162 "SmokeZones$Person" "breaths" "J" ∈ GW := gw_t (List.mem_of_getElem? (i := 392) (by decide +kernel)) (by decide +kernel)
theorem k393 : Cond.fieldLink "SmokeZones$Person" 15 "SmokeZones$Person" "walkSeconds" "[I" ∈ GW := gw_t (List.mem_of_getElem? (i := 393) (by decide +kernel)) (by decide +kernel)
theorem k394 : Cond.fieldLink "SmokeZones$Person" 19 "SmokeZones$Person" "walkPlaces" "[I" ∈ GW := gw_t (List.mem_of_getElem? (i := 394) (by decide +kernel)) (by decide +kernel)
theorem k395 : Cond.fieldLink "SmokeZones$Person" 25 "SmokeZones$Person" "told" "I" ∈ GW := gw_t (List.mem_of_getElem? (i := 395) (by decide +kernel)) (by decide +kernel)
theorem k396 : Cond.fieldLink "SmokeZones$Person" 22 "SmokeZones$Person" "lastTold" "I" ∈ GW := gw_t (List.mem_of_getElem? (i := 396) (by decide +kernel)) (by decide +kernel)
theorem k397 : Cond.fieldLink "SmokeZones$Person" 28 "SmokeZones$Person" "walked" "I" ∈ GW := gw_t (List.mem_of_getElem? (i := 397) (by decide +kernel)) (by decide +kernel)
theorem k398 : Cond.lays "SmokeZones$Person" "SmokeZones$Person" "place" "I" ∈ GW := gw_t (List.mem_of_getElem? (i := 398) (by decide +kernel)) (by decide +kernel)
theorem k400 : Cond.lays "SmokeZones$Person" "SmokeZones$Person" "dose" "J" ∈ GW := gw_t (List.mem_of_getElem? (i := 400) (by decide +kernel)) (by decide +kernel)
theorem k402 : Cond.lays "SmokeZones$Person" "SmokeZones$Person" "breaths" "J" ∈ GW := gw_t (List.mem_of_getElem? (i := 402) (by decide +kernel)) (by decide +kernel)
theorem k404 : Cond.laysFinal "SmokeZones$Person" "SmokeZones$Person" "walkSeconds" "[I" ∈ GW := gw_t (List.mem_of_getElem? (i := 404) (by decide +kernel)) (by decide +kernel)
theorem k406 : Cond.laysFinal "SmokeZones$Person" "SmokeZones$Person" "walkPlaces" "[I" ∈ GW := gw_t (List.mem_of_getElem? (i := 406) (by decide +kernel)) (by decide +kernel)
theorem k408 : Cond.lays "SmokeZones$Person" "SmokeZones$Person" "told" "I" ∈ GW := gw_t (List.mem_of_getElem? (i := 408) (by decide +kernel)) (by decide +kernel)
theorem k410 : Cond.lays "SmokeZones$Person" "SmokeZones$Person" "lastTold" "I" ∈ GW := gw_t (List.mem_of_getElem? (i := 410) (by decide +kernel)) (by decide +kernel)
theorem k412 : Cond.lays "SmokeZones$Person" "SmokeZones$Person" "walked" "I" ∈ GW := gw_t (List.mem_of_getElem? (i := 412) (by decide +kernel)) (by decide +kernel)
theorem k415 : Cond.arrayClass .int ∈ GW := gw_t (List.mem_of_getElem? (i := 415) (by decide +kernel)) (by decide +kernel)
theorem k416 : Cond.methodLink "SmokeZonesLaw" 105 y_La_go ∈ GW := gw_t (List.mem_of_getElem? (i := 416) (by decide +kernel)) (by decide +kernel)
theorem k417 : Cond.static y_La_go ∈ GW := gw_t (List.mem_of_getElem? (i := 417) (by decide +kernel)) (by decide +kernel)
theorem k418 : Cond.codeWith y_La_go method_11_code 5 (some .int) [(0, 7, 10, 13), (0, 7, 14, 15)] ∈ GW := gw_t (List.mem_of_getElem? (i := 418) (by decide +kernel)) (by decide +kernel)
theorem k419 : Cond.methodLink "SmokeZonesLaw" 42 y_Sz_go ∈ GW := gw_t (List.mem_of_getElem? (i := 419) (by decide +kernel)) (by decide +kernel)
theorem k420 : Cond.instanceMethod y_Sz_go ∈ GW := gw_t (List.mem_of_getElem? (i := 420) (by decide +kernel)) (by decide +kernel)
theorem k421 : Cond.selects "SmokeZones" y_Sz_go y_Sz_go ∈ GW := gw_t (List.mem_of_getElem? (i := 421) (by decide +kernel)) (by decide +kernel)
theorem k422 : Cond.code y_Sz_go prog_1_method_10_code 4 none ∈ GW := gw_t (List.mem_of_getElem? (i := 422) (by decide +kernel)) (by decide +kernel)
theorem k423 : Cond.methodLink "SmokeZones" 115 y_Pe_tell ∈ GW := gw_t (List.mem_of_getElem? (i := 423) (by decide +kernel)) (by decide +kernel)
theorem k424 : Cond.instanceMethod y_Pe_tell ∈ GW := gw_t (List.mem_of_getElem? (i := 424) (by decide +kernel)) (by decide +kernel)
theorem k425 : Cond.selects "SmokeZones$Person" y_Pe_tell y_Pe_tell ∈ GW := gw_t (List.mem_of_getElem? (i := 425) (by decide +kernel)) (by decide +kernel)
theorem k426 : Cond.code y_Pe_tell prog_5_method_2_code 3 (some .boolean) ∈ GW := gw_t (List.mem_of_getElem? (i := 426) (by decide +kernel)) (by decide +kernel)
theorem k427 : Cond.methodLink "SmokeZonesLaw" 109 y_La_run ∈ GW := gw_t (List.mem_of_getElem? (i := 427) (by decide +kernel)) (by decide +kernel)
theorem k428 : Cond.static y_La_run ∈ GW := gw_t (List.mem_of_getElem? (i := 428) (by decide +kernel)) (by decide +kernel)
theorem k429 : Cond.codeWith y_La_run method_12_code 4 (some .int) [(0, 9, 12, 13), (0, 9, 15, 15)] ∈ GW := gw_t (List.mem_of_getElem? (i := 429) (by decide +kernel)) (by decide +kernel)
theorem k430 : Cond.methodLink "SmokeZonesLaw" 46 y_Sz_run ∈ GW := gw_t (List.mem_of_getElem? (i := 430) (by decide +kernel)) (by decide +kernel)
theorem k431 : Cond.instanceMethod y_Sz_run ∈ GW := gw_t (List.mem_of_getElem? (i := 431) (by decide +kernel)) (by decide +kernel)
theorem k432 : Cond.selects "SmokeZones" y_Sz_run y_Sz_run ∈ GW := gw_t (List.mem_of_getElem? (i := 432) (by decide +kernel)) (by decide +kernel)
theorem k433 : Cond.code y_Sz_run prog_1_method_11_code 3 (some .int) ∈ GW := gw_t (List.mem_of_getElem? (i := 433) (by decide +kernel)) (by decide +kernel)
theorem k434 : Cond.methodLink "SmokeZones" 119 y_Sz_passSecond ∈ GW := gw_t (List.mem_of_getElem? (i := 434) (by decide +kernel)) (by decide +kernel)
theorem k436 : Cond.instanceMethod y_Sz_passSecond ∈ GW := gw_t (List.mem_of_getElem? (i := 436) (by decide +kernel)) (by decide +kernel)
theorem k437 : Cond.code y_Sz_passSecond prog_1_method_25_code 1 none ∈ GW := gw_t (List.mem_of_getElem? (i := 437) (by decide +kernel)) (by decide +kernel)
theorem k438 : Cond.methodLink "SmokeZones" 199 y_Sz_burnFires ∈ GW := gw_t (List.mem_of_getElem? (i := 438) (by decide +kernel)) (by decide +kernel)
theorem k440 : Cond.instanceMethod y_Sz_burnFires ∈ GW := gw_t (List.mem_of_getElem? (i := 440) (by decide +kernel)) (by decide +kernel)
theorem k441 : Cond.code y_Sz_burnFires prog_1_method_26_code 2 none ∈ GW := gw_t (List.mem_of_getElem? (i := 441) (by decide +kernel)) (by decide +kernel)
theorem k442 : Cond.methodLink "SmokeZones" 220 y_Fi_burn ∈ GW := gw_t (List.mem_of_getElem? (i := 442) (by decide +kernel)) (by decide +kernel)
theorem k443 : Cond.instanceMethod y_Fi_burn ∈ GW := gw_t (List.mem_of_getElem? (i := 443) (by decide +kernel)) (by decide +kernel)
theorem k444 : Cond.selects "SmokeZones$Fire" y_Fi_burn y_Fi_burn ∈ GW := gw_t (List.mem_of_getElem? (i := 444) (by decide +kernel)) (by decide +kernel)
theorem k445 : Cond.code y_Fi_burn prog_3_method_2_code 6 (some .long) ∈ GW := gw_t (List.mem_of_getElem? (i := 445) (by decide +kernel)) (by decide +kernel)
theorem k446 : Cond.methodLink "SmokeZones$Fire" 26 ⟨"java/lang/Math", "min", "(JJ)J"⟩ ∈ GW := gw_t (List.mem_of_getElem? (i := 446) (by decide +kernel)) (by decide +kernel)
theorem k447 : Cond.static ⟨"java/lang/Math", "min", "(JJ)J"⟩ ∈ GW := gw_t (List.mem_of_getElem? (i := 447) (by decide +kernel)) (by decide +kernel)
theorem k448 : Cond.code ⟨"java/lang/Math", "min", "(JJ)J"⟩ prog_13_method_70_code 4 (some .long) ∈ GW := gw_t (List.mem_of_getElem? (i := 448) (by decide +kernel)) (by decide +kernel)
theorem k449 : Cond.constantLong "SmokeZones$Fire" 38 2 ∈ GW := gw_t (List.mem_of_getElem? (i := 449) (by decide +kernel)) (by decide +kernel)
theorem k450 : Cond.methodLink "SmokeZones$Fire" 40 y_Ro_add ∈ GW := gw_t (List.mem_of_getElem? (i := 450) (by decide +kernel)) (by decide +kernel)
theorem k451 : Cond.instanceMethod y_Ro_add ∈ GW := gw_t (List.mem_of_getElem? (i := 451) (by decide +kernel)) (by decide +kernel)
theorem k452 : Cond.selects "SmokeZones$Room" y_Ro_add y_Ro_add ∈ GW := gw_t (List.mem_of_getElem? (i := 452) (by decide +kernel)) (by decide +kernel)
theorem k453 : Cond.code y_Ro_add prog_6_method_8_code 5 none ∈ GW := gw_t (List.mem_of_getElem? (i := 453) (by decide +kernel)) (by decide +kernel)
theorem k454 : Cond.methodLink "SmokeZones" 202 y_Sz_flowThroughOpenings ∈ GW := gw_t (List.mem_of_getElem? (i := 454) (by decide +kernel)) (by decide +kernel)
theorem k456 : Cond.instanceMethod y_Sz_flowThroughOpenings ∈ GW := gw_t (List.mem_of_getElem? (i := 456) (by decide +kernel)) (by decide +kernel)
theorem k457 : Cond.code y_Sz_flowThroughOpenings prog_1_method_27_code 2 none ∈ GW := gw_t (List.mem_of_getElem? (i := 457) (by decide +kernel)) (by decide +kernel)
theorem k458 : Cond.methodLink "SmokeZones" 224 y_Op_measureFlow ∈ GW := gw_t (List.mem_of_getElem? (i := 458) (by decide +kernel)) (by decide +kernel)
theorem k459 : Cond.instanceMethod y_Op_measureFlow ∈ GW := gw_t (List.mem_of_getElem? (i := 459) (by decide +kernel)) (by decide +kernel)
theorem k460 : Cond.selects "SmokeZones$Opening" y_Op_measureFlow y_Op_measureFlow ∈ GW := gw_t (List.mem_of_getElem? (i := 460) (by decide +kernel)) (by decide +kernel)
theorem k461 : Cond.code y_Op_measureFlow prog_4_method_3_code 7 none ∈ GW := gw_t (List.mem_of_getElem? (i := 461) (by decide +kernel)) (by decide +kernel)
theorem k462 : Cond.methodLink "SmokeZones$Opening" 42 y_Op_isOpen ∈ GW := gw_t (List.mem_of_getElem? (i := 462) (by decide +kernel)) (by decide +kernel)
theorem k463 : Cond.instanceMethod y_Op_isOpen ∈ GW := gw_t (List.mem_of_getElem? (i := 463) (by decide +kernel)) (by decide +kernel)
theorem k464 : Cond.selects "SmokeZones$Opening" y_Op_isOpen y_Op_isOpen ∈ GW := gw_t (List.mem_of_getElem? (i := 464) (by decide +kernel)) (by decide +kernel)
theorem k465 : Cond.code y_Op_isOpen prog_4_method_2_code 1 (some .boolean) ∈ GW := gw_t (List.mem_of_getElem? (i := 465) (by decide +kernel)) (by decide +kernel)
theorem k466 : Cond.methodLink "SmokeZones$Opening" 46 y_Ro_covered ∈ GW := gw_t (List.mem_of_getElem? (i := 466) (by decide +kernel)) (by decide +kernel)
theorem k467 : Cond.instanceMethod y_Ro_covered ∈ GW := gw_t (List.mem_of_getElem? (i := 467) (by decide +kernel)) (by decide +kernel)
theorem k468 : Cond.selects "SmokeZones$Room" y_Ro_covered y_Ro_covered ∈ GW := gw_t (List.mem_of_getElem? (i := 468) (by decide +kernel)) (by decide +kernel)
theorem k469 : Cond.code y_Ro_covered prog_6_method_6_code 3 (some .long) ∈ GW := gw_t (List.mem_of_getElem? (i := 469) (by decide +kernel)) (by decide +kernel)
theorem k470 : Cond.methodLink "SmokeZones$Room" 38 y_Ro_clear ∈ GW := gw_t (List.mem_of_getElem? (i := 470) (by decide +kernel)) (by decide +kernel)
theorem k471 : Cond.instanceMethod y_Ro_clear ∈ GW := gw_t (List.mem_of_getElem? (i := 471) (by decide +kernel)) (by decide +kernel)
theorem k472 : Cond.selects "SmokeZones$Room" y_Ro_clear y_Ro_clear ∈ GW := gw_t (List.mem_of_getElem? (i := 472) (by decide +kernel)) (by decide +kernel)
theorem k473 : Cond.code y_Ro_clear prog_6_method_4_code 1 (some .long) ∈ GW := gw_t (List.mem_of_getElem? (i := 473) (by decide +kernel)) (by decide +kernel)
theorem k474 : Cond.methodLink "SmokeZones$Room" 34 y_Ro_depth ∈ GW := gw_t (List.mem_of_getElem? (i := 474) (by decide +kernel)) (by decide +kernel)
theorem k475 : Cond.instanceMethod y_Ro_depth ∈ GW := gw_t (List.mem_of_getElem? (i := 475) (by decide +kernel)) (by decide +kernel)
theorem k476 : Cond.selects "SmokeZones$Room" y_Ro_depth y_Ro_depth ∈ GW := gw_t (List.mem_of_getElem? (i := 476) (by decide +kernel)) (by decide +kernel)
theorem k477 : Cond.code y_Ro_depth prog_6_method_2_code 1 (some .long) ∈ GW := gw_t (List.mem_of_getElem? (i := 477) (by decide +kernel)) (by decide +kernel)
theorem k478 : Cond.methodLink "SmokeZones$Room" 43 ⟨"java/lang/Math", "max", "(JJ)J"⟩ ∈ GW := gw_t (List.mem_of_getElem? (i := 478) (by decide +kernel)) (by decide +kernel)
theorem k479 : Cond.static ⟨"java/lang/Math", "max", "(JJ)J"⟩ ∈ GW := gw_t (List.mem_of_getElem? (i := 479) (by decide +kernel)) (by decide +kernel)
theorem k480 : Cond.code ⟨"java/lang/Math", "max", "(JJ)J"⟩ prog_13_method_66_code 4 (some .long) ∈ GW := gw_t (List.mem_of_getElem? (i := 480) (by decide +kernel)) (by decide +kernel)
theorem k481 : Cond.methodLink "SmokeZones$Opening" 52 y_Op_flowFrom ∈ GW := gw_t (List.mem_of_getElem? (i := 481) (by decide +kernel)) (by decide +kernel)
theorem k482 : Cond.instanceMethod y_Op_flowFrom ∈ GW := gw_t (List.mem_of_getElem? (i := 482) (by decide +kernel)) (by decide +kernel)
theorem k483 : Cond.selects "SmokeZones$Opening" y_Op_flowFrom y_Op_flowFrom ∈ GW := gw_t (List.mem_of_getElem? (i := 483) (by decide +kernel)) (by decide +kernel)
theorem k484 : Cond.code y_Op_flowFrom prog_4_method_4_code 4 (some .long) ∈ GW := gw_t (List.mem_of_getElem? (i := 484) (by decide +kernel)) (by decide +kernel)
theorem k485 : Cond.constantLong "SmokeZones$Opening" 63 16 ∈ GW := gw_t (List.mem_of_getElem? (i := 485) (by decide +kernel)) (by decide +kernel)
theorem k486 : Cond.methodLink "SmokeZones$Opening" 65 ⟨"java/lang/Math", "min", "(JJ)J"⟩ ∈ GW := gw_t (List.mem_of_getElem? (i := 486) (by decide +kernel)) (by decide +kernel)
theorem k487 : Cond.methodLink "SmokeZones$Opening" 56 y_Ro_heatWith ∈ GW := gw_t (List.mem_of_getElem? (i := 487) (by decide +kernel)) (by decide +kernel)
theorem k488 : Cond.instanceMethod y_Ro_heatWith ∈ GW := gw_t (List.mem_of_getElem? (i := 488) (by decide +kernel)) (by decide +kernel)
theorem k489 : Cond.selects "SmokeZones$Room" y_Ro_heatWith y_Ro_heatWith ∈ GW := gw_t (List.mem_of_getElem? (i := 489) (by decide +kernel)) (by decide +kernel)
theorem k490 : Cond.code y_Ro_heatWith prog_6_method_7_code 3 (some .long) ∈ GW := gw_t (List.mem_of_getElem? (i := 490) (by decide +kernel)) (by decide +kernel)
theorem k491 : Cond.methodLink "SmokeZones" 227 y_Op_moveFlow ∈ GW := gw_t (List.mem_of_getElem? (i := 491) (by decide +kernel)) (by decide +kernel)
theorem k492 : Cond.instanceMethod y_Op_moveFlow ∈ GW := gw_t (List.mem_of_getElem? (i := 492) (by decide +kernel)) (by decide +kernel)
theorem k493 : Cond.selects "SmokeZones$Opening" y_Op_moveFlow y_Op_moveFlow ∈ GW := gw_t (List.mem_of_getElem? (i := 493) (by decide +kernel)) (by decide +kernel)
theorem k494 : Cond.code y_Op_moveFlow prog_4_method_5_code 1 (some .long) ∈ GW := gw_t (List.mem_of_getElem? (i := 494) (by decide +kernel)) (by decide +kernel)
theorem k495 : Cond.methodLink "SmokeZones$Opening" 74 ⟨"java/lang/Math", "abs", "(J)J"⟩ ∈ GW := gw_t (List.mem_of_getElem? (i := 495) (by decide +kernel)) (by decide +kernel)
theorem k496 : Cond.static ⟨"java/lang/Math", "abs", "(J)J"⟩ ∈ GW := gw_t (List.mem_of_getElem? (i := 496) (by decide +kernel)) (by decide +kernel)
theorem k497 : Cond.code ⟨"java/lang/Math", "abs", "(J)J"⟩ prog_13_method_61_code 2 (some .long) ∈ GW := gw_t (List.mem_of_getElem? (i := 497) (by decide +kernel)) (by decide +kernel)
theorem k498 : Cond.methodLink "SmokeZones$Opening" 77 y_Ro_add ∈ GW := gw_t (List.mem_of_getElem? (i := 498) (by decide +kernel)) (by decide +kernel)
theorem k499 : Cond.methodLink "SmokeZones" 205 y_Sz_blowFans ∈ GW := gw_t (List.mem_of_getElem? (i := 499) (by decide +kernel)) (by decide +kernel)
theorem k501 : Cond.instanceMethod y_Sz_blowFans ∈ GW := gw_t (List.mem_of_getElem? (i := 501) (by decide +kernel)) (by decide +kernel)
theorem k502 : Cond.code y_Sz_blowFans prog_1_method_28_code 2 none ∈ GW := gw_t (List.mem_of_getElem? (i := 502) (by decide +kernel)) (by decide +kernel)
theorem k503 : Cond.methodLink "SmokeZones" 230 y_Fa_blow ∈ GW := gw_t (List.mem_of_getElem? (i := 503) (by decide +kernel)) (by decide +kernel)
theorem k504 : Cond.instanceMethod y_Fa_blow ∈ GW := gw_t (List.mem_of_getElem? (i := 504) (by decide +kernel)) (by decide +kernel)
theorem k505 : Cond.selects "SmokeZones$Fan" y_Fa_blow y_Fa_blow ∈ GW := gw_t (List.mem_of_getElem? (i := 505) (by decide +kernel)) (by decide +kernel)
theorem k506 : Cond.code y_Fa_blow prog_2_method_2_code 4 (some .long) ∈ GW := gw_t (List.mem_of_getElem? (i := 506) (by decide +kernel)) (by decide +kernel)
theorem k507 : Cond.methodLink "SmokeZones$Fan" 26 ⟨"java/lang/Math", "min", "(JJ)J"⟩ ∈ GW := gw_t (List.mem_of_getElem? (i := 507) (by decide +kernel)) (by decide +kernel)
theorem k508 : Cond.methodLink "SmokeZones$Fan" 32 y_Ro_heatWith ∈ GW := gw_t (List.mem_of_getElem? (i := 508) (by decide +kernel)) (by decide +kernel)
theorem k509 : Cond.methodLink "SmokeZones$Fan" 36 y_Ro_add ∈ GW := gw_t (List.mem_of_getElem? (i := 509) (by decide +kernel)) (by decide +kernel)
theorem k510 : Cond.methodLink "SmokeZones" 208 y_Sz_pressOutOfRooms ∈ GW := gw_t (List.mem_of_getElem? (i := 510) (by decide +kernel)) (by decide +kernel)
theorem k512 : Cond.instanceMethod y_Sz_pressOutOfRooms ∈ GW := gw_t (List.mem_of_getElem? (i := 512) (by decide +kernel)) (by decide +kernel)
theorem k513 : Cond.code y_Sz_pressOutOfRooms prog_1_method_29_code 2 none ∈ GW := gw_t (List.mem_of_getElem? (i := 513) (by decide +kernel)) (by decide +kernel)
theorem k514 : Cond.methodLink "SmokeZones" 233 y_Ro_pressOut ∈ GW := gw_t (List.mem_of_getElem? (i := 514) (by decide +kernel)) (by decide +kernel)
theorem k515 : Cond.instanceMethod y_Ro_pressOut ∈ GW := gw_t (List.mem_of_getElem? (i := 515) (by decide +kernel)) (by decide +kernel)
theorem k516 : Cond.selects "SmokeZones$Room" y_Ro_pressOut y_Ro_pressOut ∈ GW := gw_t (List.mem_of_getElem? (i := 516) (by decide +kernel)) (by decide +kernel)
theorem k517 : Cond.code y_Ro_pressOut prog_6_method_9_code 3 (some .long) ∈ GW := gw_t (List.mem_of_getElem? (i := 517) (by decide +kernel)) (by decide +kernel)
theorem k518 : Cond.methodLink "SmokeZones$Room" 49 y_Ro_heatWith ∈ GW := gw_t (List.mem_of_getElem? (i := 518) (by decide +kernel)) (by decide +kernel)
theorem k519 : Cond.methodLink "SmokeZones" 211 y_Sz_warmThings ∈ GW := gw_t (List.mem_of_getElem? (i := 519) (by decide +kernel)) (by decide +kernel)
theorem k521 : Cond.instanceMethod y_Sz_warmThings ∈ GW := gw_t (List.mem_of_getElem? (i := 521) (by decide +kernel)) (by decide +kernel)
theorem k522 : Cond.code y_Sz_warmThings prog_1_method_30_code 2 none ∈ GW := gw_t (List.mem_of_getElem? (i := 522) (by decide +kernel)) (by decide +kernel)
theorem k523 : Cond.methodLink "SmokeZones" 236 y_Ro_testSprinkler ∈ GW := gw_t (List.mem_of_getElem? (i := 523) (by decide +kernel)) (by decide +kernel)
theorem k524 : Cond.instanceMethod y_Ro_testSprinkler ∈ GW := gw_t (List.mem_of_getElem? (i := 524) (by decide +kernel)) (by decide +kernel)
theorem k525 : Cond.selects "SmokeZones$Room" y_Ro_testSprinkler y_Ro_testSprinkler ∈ GW := gw_t (List.mem_of_getElem? (i := 525) (by decide +kernel)) (by decide +kernel)
theorem k526 : Cond.code y_Ro_testSprinkler prog_6_method_10_code 1 none ∈ GW := gw_t (List.mem_of_getElem? (i := 526) (by decide +kernel)) (by decide +kernel)
theorem k527 : Cond.methodLink "SmokeZones$Room" 53 y_Ro_warmth ∈ GW := gw_t (List.mem_of_getElem? (i := 527) (by decide +kernel)) (by decide +kernel)
theorem k528 : Cond.instanceMethod y_Ro_warmth ∈ GW := gw_t (List.mem_of_getElem? (i := 528) (by decide +kernel)) (by decide +kernel)
theorem k529 : Cond.selects "SmokeZones$Room" y_Ro_warmth y_Ro_warmth ∈ GW := gw_t (List.mem_of_getElem? (i := 529) (by decide +kernel)) (by decide +kernel)
theorem k530 : Cond.code y_Ro_warmth prog_6_method_3_code 1 (some .long) ∈ GW := gw_t (List.mem_of_getElem? (i := 530) (by decide +kernel)) (by decide +kernel)
theorem k531 : Cond.methodLink "SmokeZones" 239 y_Op_testGlass ∈ GW := gw_t (List.mem_of_getElem? (i := 531) (by decide +kernel)) (by decide +kernel)
theorem k532 : Cond.instanceMethod y_Op_testGlass ∈ GW := gw_t (List.mem_of_getElem? (i := 532) (by decide +kernel)) (by decide +kernel)
theorem k533 : Cond.selects "SmokeZones$Opening" y_Op_testGlass y_Op_testGlass ∈ GW := gw_t (List.mem_of_getElem? (i := 533) (by decide +kernel)) (by decide +kernel)
theorem k534 : Cond.code y_Op_testGlass prog_4_method_6_code 1 none ∈ GW := gw_t (List.mem_of_getElem? (i := 534) (by decide +kernel)) (by decide +kernel)
theorem k535 : Cond.methodLink "SmokeZones$Opening" 81 y_Op_isHot ∈ GW := gw_t (List.mem_of_getElem? (i := 535) (by decide +kernel)) (by decide +kernel)
theorem k536 : Cond.instanceMethod y_Op_isHot ∈ GW := gw_t (List.mem_of_getElem? (i := 536) (by decide +kernel)) (by decide +kernel)
theorem k537 : Cond.selects "SmokeZones$Opening" y_Op_isHot y_Op_isHot ∈ GW := gw_t (List.mem_of_getElem? (i := 537) (by decide +kernel)) (by decide +kernel)
theorem k538 : Cond.code y_Op_isHot prog_4_method_7_code 2 (some .boolean) ∈ GW := gw_t (List.mem_of_getElem? (i := 538) (by decide +kernel)) (by decide +kernel)
theorem k539 : Cond.methodLink "SmokeZones$Opening" 85 y_Ro_warmth ∈ GW := gw_t (List.mem_of_getElem? (i := 539) (by decide +kernel)) (by decide +kernel)
theorem k540 : Cond.methodLink "SmokeZones" 242 y_St_getWarm ∈ GW := gw_t (List.mem_of_getElem? (i := 540) (by decide +kernel)) (by decide +kernel)
theorem k541 : Cond.instanceMethod y_St_getWarm ∈ GW := gw_t (List.mem_of_getElem? (i := 541) (by decide +kernel)) (by decide +kernel)
theorem k542 : Cond.selects "SmokeZones$Steel" y_St_getWarm y_St_getWarm ∈ GW := gw_t (List.mem_of_getElem? (i := 542) (by decide +kernel)) (by decide +kernel)
theorem k543 : Cond.code y_St_getWarm prog_7_method_2_code 1 none ∈ GW := gw_t (List.mem_of_getElem? (i := 543) (by decide +kernel)) (by decide +kernel)
theorem k544 : Cond.methodLink "SmokeZones$Steel" 20 y_Ro_warmth ∈ GW := gw_t (List.mem_of_getElem? (i := 544) (by decide +kernel)) (by decide +kernel)
theorem k545 : Cond.methodLink "SmokeZones" 214 y_Sz_movePersons ∈ GW := gw_t (List.mem_of_getElem? (i := 545) (by decide +kernel)) (by decide +kernel)
theorem k547 : Cond.instanceMethod y_Sz_movePersons ∈ GW := gw_t (List.mem_of_getElem? (i := 547) (by decide +kernel)) (by decide +kernel)
theorem k548 : Cond.code y_Sz_movePersons prog_1_method_31_code 3 none ∈ GW := gw_t (List.mem_of_getElem? (i := 548) (by decide +kernel)) (by decide +kernel)
theorem k549 : Cond.methodLink "SmokeZones" 245 y_Pe_walk ∈ GW := gw_t (List.mem_of_getElem? (i := 549) (by decide +kernel)) (by decide +kernel)
theorem k550 : Cond.instanceMethod y_Pe_walk ∈ GW := gw_t (List.mem_of_getElem? (i := 550) (by decide +kernel)) (by decide +kernel)
theorem k551 : Cond.selects "SmokeZones$Person" y_Pe_walk y_Pe_walk ∈ GW := gw_t (List.mem_of_getElem? (i := 551) (by decide +kernel)) (by decide +kernel)
theorem k552 : Cond.code y_Pe_walk prog_5_method_3_code 2 none ∈ GW := gw_t (List.mem_of_getElem? (i := 552) (by decide +kernel)) (by decide +kernel)
theorem k553 : Cond.methodLink "SmokeZones" 248 y_Pe_breathe ∈ GW := gw_t (List.mem_of_getElem? (i := 553) (by decide +kernel)) (by decide +kernel)
theorem k554 : Cond.instanceMethod y_Pe_breathe ∈ GW := gw_t (List.mem_of_getElem? (i := 554) (by decide +kernel)) (by decide +kernel)
theorem k555 : Cond.selects "SmokeZones$Person" y_Pe_breathe y_Pe_breathe ∈ GW := gw_t (List.mem_of_getElem? (i := 555) (by decide +kernel)) (by decide +kernel)
theorem k556 : Cond.code y_Pe_breathe prog_5_method_4_code 2 none ∈ GW := gw_t (List.mem_of_getElem? (i := 556) (by decide +kernel)) (by decide +kernel)
theorem k557 : Cond.methodLink "SmokeZones$Person" 31 y_Ro_isLow ∈ GW := gw_t (List.mem_of_getElem? (i := 557) (by decide +kernel)) (by decide +kernel)
theorem k558 : Cond.instanceMethod y_Ro_isLow ∈ GW := gw_t (List.mem_of_getElem? (i := 558) (by decide +kernel)) (by decide +kernel)
theorem k559 : Cond.selects "SmokeZones$Room" y_Ro_isLow y_Ro_isLow ∈ GW := gw_t (List.mem_of_getElem? (i := 559) (by decide +kernel)) (by decide +kernel)
theorem k560 : Cond.code y_Ro_isLow prog_6_method_5_code 1 (some .boolean) ∈ GW := gw_t (List.mem_of_getElem? (i := 560) (by decide +kernel)) (by decide +kernel)
theorem k561 : Cond.constantLong "SmokeZones$Room" 41 18 ∈ GW := gw_t (List.mem_of_getElem? (i := 561) (by decide +kernel)) (by decide +kernel)
theorem k562 : Cond.methodLink "SmokeZones$Person" 41 y_Ro_warmth ∈ GW := gw_t (List.mem_of_getElem? (i := 562) (by decide +kernel)) (by decide +kernel)
theorem k563 : Cond.methodLink "SmokeZones" 217 y_Sz_noteLowRooms ∈ GW := gw_t (List.mem_of_getElem? (i := 563) (by decide +kernel)) (by decide +kernel)
theorem k565 : Cond.instanceMethod y_Sz_noteLowRooms ∈ GW := gw_t (List.mem_of_getElem? (i := 565) (by decide +kernel)) (by decide +kernel)
theorem k566 : Cond.code y_Sz_noteLowRooms prog_1_method_32_code 2 none ∈ GW := gw_t (List.mem_of_getElem? (i := 566) (by decide +kernel)) (by decide +kernel)
theorem k567 : Cond.methodLink "SmokeZones" 252 y_Ro_noteIfLow ∈ GW := gw_t (List.mem_of_getElem? (i := 567) (by decide +kernel)) (by decide +kernel)
theorem k568 : Cond.instanceMethod y_Ro_noteIfLow ∈ GW := gw_t (List.mem_of_getElem? (i := 568) (by decide +kernel)) (by decide +kernel)
theorem k569 : Cond.selects "SmokeZones$Room" y_Ro_noteIfLow y_Ro_noteIfLow ∈ GW := gw_t (List.mem_of_getElem? (i := 569) (by decide +kernel)) (by decide +kernel)
theorem k570 : Cond.code y_Ro_noteIfLow prog_6_method_11_code 2 none ∈ GW := gw_t (List.mem_of_getElem? (i := 570) (by decide +kernel)) (by decide +kernel)
theorem k571 : Cond.methodLink "SmokeZones$Room" 60 y_Ro_isLow ∈ GW := gw_t (List.mem_of_getElem? (i := 571) (by decide +kernel)) (by decide +kernel)
theorem k572 : Cond.methodLink "SmokeZonesLaw" 112 y_La_roomAt ∈ GW := gw_t (List.mem_of_getElem? (i := 572) (by decide +kernel)) (by decide +kernel)
theorem k573 : Cond.static y_La_roomAt ∈ GW := gw_t (List.mem_of_getElem? (i := 573) (by decide +kernel)) (by decide +kernel)
theorem k574 : Cond.codeWith y_La_roomAt method_13_code 5 (some .int) [(0, 9, 12, 13)] ∈ GW := gw_t (List.mem_of_getElem? (i := 574) (by decide +kernel)) (by decide +kernel)
theorem k575 : Cond.methodLink "SmokeZonesLaw" 49 y_Sz_roomAt ∈ GW := gw_t (List.mem_of_getElem? (i := 575) (by decide +kernel)) (by decide +kernel)
theorem k576 : Cond.instanceMethod y_Sz_roomAt ∈ GW := gw_t (List.mem_of_getElem? (i := 576) (by decide +kernel)) (by decide +kernel)
theorem k577 : Cond.selects "SmokeZones" y_Sz_roomAt y_Sz_roomAt ∈ GW := gw_t (List.mem_of_getElem? (i := 577) (by decide +kernel)) (by decide +kernel)
theorem k578 : Cond.code y_Sz_roomAt prog_1_method_12_code 4 (some .long) ∈ GW := gw_t (List.mem_of_getElem? (i := 578) (by decide +kernel)) (by decide +kernel)
theorem k579 : Cond.methodLink "SmokeZones" 129 y_Ro_depth ∈ GW := gw_t (List.mem_of_getElem? (i := 579) (by decide +kernel)) (by decide +kernel)
theorem k580 : Cond.methodLink "SmokeZones" 133 y_Ro_warmth ∈ GW := gw_t (List.mem_of_getElem? (i := 580) (by decide +kernel)) (by decide +kernel)
theorem k581 : Cond.methodLink "SmokeZones" 136 y_Ro_clear ∈ GW := gw_t (List.mem_of_getElem? (i := 581) (by decide +kernel)) (by decide +kernel)
theorem k582 : Cond.methodLink "SmokeZonesLaw" 115 y_La_openingAt ∈ GW := gw_t (List.mem_of_getElem? (i := 582) (by decide +kernel)) (by decide +kernel)
theorem k583 : Cond.static y_La_openingAt ∈ GW := gw_t (List.mem_of_getElem? (i := 583) (by decide +kernel)) (by decide +kernel)
theorem k584 : Cond.codeWith y_La_openingAt method_14_code 5 (some .int) [(0, 9, 12, 13)] ∈ GW := gw_t (List.mem_of_getElem? (i := 584) (by decide +kernel)) (by decide +kernel)
theorem k585 : Cond.methodLink "SmokeZonesLaw" 53 y_Sz_openingAt ∈ GW := gw_t (List.mem_of_getElem? (i := 585) (by decide +kernel)) (by decide +kernel)
theorem k586 : Cond.instanceMethod y_Sz_openingAt ∈ GW := gw_t (List.mem_of_getElem? (i := 586) (by decide +kernel)) (by decide +kernel)
theorem k587 : Cond.selects "SmokeZones" y_Sz_openingAt y_Sz_openingAt ∈ GW := gw_t (List.mem_of_getElem? (i := 587) (by decide +kernel)) (by decide +kernel)
theorem k588 : Cond.code y_Sz_openingAt prog_1_method_13_code 4 (some .long) ∈ GW := gw_t (List.mem_of_getElem? (i := 588) (by decide +kernel)) (by decide +kernel)
theorem k589 : Cond.methodLink "SmokeZones" 146 y_Op_isOpen ∈ GW := gw_t (List.mem_of_getElem? (i := 589) (by decide +kernel)) (by decide +kernel)
theorem k590 : Cond.methodLink "SmokeZonesLaw" 118 y_La_personAt ∈ GW := gw_t (List.mem_of_getElem? (i := 590) (by decide +kernel)) (by decide +kernel)
theorem k591 : Cond.static y_La_personAt ∈ GW := gw_t (List.mem_of_getElem? (i := 591) (by decide +kernel)) (by decide +kernel)
theorem k592 : Cond.codeWith y_La_personAt method_15_code 5 (some .int) [(0, 9, 12, 13)] ∈ GW := gw_t (List.mem_of_getElem? (i := 592) (by decide +kernel)) (by decide +kernel)
theorem k593 : Cond.methodLink "SmokeZonesLaw" 56 y_Sz_personAt ∈ GW := gw_t (List.mem_of_getElem? (i := 593) (by decide +kernel)) (by decide +kernel)
theorem k594 : Cond.instanceMethod y_Sz_personAt ∈ GW := gw_t (List.mem_of_getElem? (i := 594) (by decide +kernel)) (by decide +kernel)
theorem k595 : Cond.selects "SmokeZones" y_Sz_personAt y_Sz_personAt ∈ GW := gw_t (List.mem_of_getElem? (i := 595) (by decide +kernel)) (by decide +kernel)
theorem k596 : Cond.code y_Sz_personAt prog_1_method_14_code 4 (some .long) ∈ GW := gw_t (List.mem_of_getElem? (i := 596) (by decide +kernel)) (by decide +kernel)
theorem k597 : Cond.methodLink "SmokeZonesLaw" 121 y_La_steelAt ∈ GW := gw_t (List.mem_of_getElem? (i := 597) (by decide +kernel)) (by decide +kernel)
theorem k598 : Cond.static y_La_steelAt ∈ GW := gw_t (List.mem_of_getElem? (i := 598) (by decide +kernel)) (by decide +kernel)
theorem k599 : Cond.codeWith y_La_steelAt method_16_code 4 (some .int) [(0, 9, 12, 13)] ∈ GW := gw_t (List.mem_of_getElem? (i := 599) (by decide +kernel)) (by decide +kernel)
theorem k600 : Cond.methodLink "SmokeZonesLaw" 59 y_Sz_steelAt ∈ GW := gw_t (List.mem_of_getElem? (i := 600) (by decide +kernel)) (by decide +kernel)
theorem k601 : Cond.instanceMethod y_Sz_steelAt ∈ GW := gw_t (List.mem_of_getElem? (i := 601) (by decide +kernel)) (by decide +kernel)
theorem k602 : Cond.selects "SmokeZones" y_Sz_steelAt y_Sz_steelAt ∈ GW := gw_t (List.mem_of_getElem? (i := 602) (by decide +kernel)) (by decide +kernel)
theorem k603 : Cond.code y_Sz_steelAt prog_1_method_15_code 2 (some .int) ∈ GW := gw_t (List.mem_of_getElem? (i := 603) (by decide +kernel)) (by decide +kernel)
theorem k604 : Cond.methodLink "SmokeZonesLaw" 124 y_La_balance ∈ GW := gw_t (List.mem_of_getElem? (i := 604) (by decide +kernel)) (by decide +kernel)
theorem k605 : Cond.static y_La_balance ∈ GW := gw_t (List.mem_of_getElem? (i := 605) (by decide +kernel)) (by decide +kernel)
theorem k606 : Cond.codeWith y_La_balance method_17_code 4 (some .int) [(0, 8, 11, 13)] ∈ GW := gw_t (List.mem_of_getElem? (i := 606) (by decide +kernel)) (by decide +kernel)
theorem k607 : Cond.methodLink "SmokeZonesLaw" 62 y_Sz_balance ∈ GW := gw_t (List.mem_of_getElem? (i := 607) (by decide +kernel)) (by decide +kernel)
theorem k608 : Cond.instanceMethod y_Sz_balance ∈ GW := gw_t (List.mem_of_getElem? (i := 608) (by decide +kernel)) (by decide +kernel)
theorem k609 : Cond.selects "SmokeZones" y_Sz_balance y_Sz_balance ∈ GW := gw_t (List.mem_of_getElem? (i := 609) (by decide +kernel)) (by decide +kernel)
theorem k610 : Cond.code y_Sz_balance prog_1_method_16_code 2 (some .long) ∈ GW := gw_t (List.mem_of_getElem? (i := 610) (by decide +kernel)) (by decide +kernel)
theorem k611 : Cond.methodLink "SmokeZones" 171 y_Sz_smokeInRooms ∈ GW := gw_t (List.mem_of_getElem? (i := 611) (by decide +kernel)) (by decide +kernel)
theorem k613 : Cond.instanceMethod y_Sz_smokeInRooms ∈ GW := gw_t (List.mem_of_getElem? (i := 613) (by decide +kernel)) (by decide +kernel)
theorem k614 : Cond.code y_Sz_smokeInRooms prog_1_method_24_code 4 (some .long) ∈ GW := gw_t (List.mem_of_getElem? (i := 614) (by decide +kernel)) (by decide +kernel)
theorem k615 : Cond.classLink "SmokeZonesLaw" 67 "SmokeZonesModel" ∈ GW := gw_t (List.mem_of_getElem? (i := 615) (by decide +kernel)) (by decide +kernel)
theorem k616 : Cond.instantiable "SmokeZonesModel" 47 ∈ GW := gw_t (List.mem_of_getElem? (i := 616) (by decide +kernel)) (by decide +kernel)
theorem k617 : Cond.methodLink "SmokeZonesLaw" 69 y_Mo_init ∈ GW := gw_t (List.mem_of_getElem? (i := 617) (by decide +kernel)) (by decide +kernel)
theorem k618 : Cond.instanceMethod y_Mo_init ∈ GW := gw_t (List.mem_of_getElem? (i := 618) (by decide +kernel)) (by decide +kernel)
theorem k619 : Cond.code y_Mo_init prog_9_method_1_code 1 none ∈ GW := gw_t (List.mem_of_getElem? (i := 619) (by decide +kernel)) (by decide +kernel)
theorem k620 : Cond.methodLink "SmokeZonesModel" 1 objectInit ∈ GW := gw_t (List.mem_of_getElem? (i := 620) (by decide +kernel)) (by decide +kernel)
theorem k621 : Cond.fieldLink "SmokeZonesModel" 117 "SmokeZonesModel" "code" "I" ∈ GW := gw_t (List.mem_of_getElem? (i := 621) (by decide +kernel)) (by decide +kernel)
theorem k622 : Cond.fieldLink "SmokeZonesModel" 138 "SmokeZonesModel" "now" "I" ∈ GW := gw_t (List.mem_of_getElem? (i := 622) (by decide +kernel)) (by decide +kernel)
theorem k623 : Cond.fieldLink "SmokeZonesModel" 121 "SmokeZonesModel" "rooms" "I" ∈ GW := gw_t (List.mem_of_getElem? (i := 623) (by decide +kernel)) (by decide +kernel)
theorem k624 : Cond.fieldLink "SmokeZonesModel" 7 "SmokeZonesModel" "areas" "[I" ∈ GW := gw_t (List.mem_of_getElem? (i := 624) (by decide +kernel)) (by decide +kernel)
theorem k625 : Cond.fieldLink "SmokeZonesModel" 13 "SmokeZonesModel" "heights" "[I" ∈ GW := gw_t (List.mem_of_getElem? (i := 625) (by decide +kernel)) (by decide +kernel)
theorem k626 : Cond.fieldLink "SmokeZonesModel" 16 "SmokeZonesModel" "smokes" "[J" ∈ GW := gw_t (List.mem_of_getElem? (i := 626) (by decide +kernel)) (by decide +kernel)
theorem k627 : Cond.fieldLink "SmokeZonesModel" 20 "SmokeZonesModel" "heats" "[J" ∈ GW := gw_t (List.mem_of_getElem? (i := 627) (by decide +kernel)) (by decide +kernel)
theorem k628 : Cond.fieldLink "SmokeZonesModel" 23 "SmokeZonesModel" "sprinklers" "[I" ∈ GW := gw_t (List.mem_of_getElem? (i := 628) (by decide +kernel)) (by decide +kernel)
theorem k629 : Cond.fieldLink "SmokeZonesModel" 26 "SmokeZonesModel" "acts" "[Z" ∈ GW := gw_t (List.mem_of_getElem? (i := 629) (by decide +kernel)) (by decide +kernel)
theorem k630 : Cond.fieldLink "SmokeZonesModel" 30 "SmokeZonesModel" "lowSince" "[I" ∈ GW := gw_t (List.mem_of_getElem? (i := 630) (by decide +kernel)) (by decide +kernel)
theorem k631 : Cond.fieldLink "SmokeZonesModel" 135 "SmokeZonesModel" "openings" "I" ∈ GW := gw_t (List.mem_of_getElem? (i := 631) (by decide +kernel)) (by decide +kernel)
theorem k632 : Cond.fieldLink "SmokeZonesModel" 33 "SmokeZonesModel" "ones" "[I" ∈ GW := gw_t (List.mem_of_getElem? (i := 632) (by decide +kernel)) (by decide +kernel)
theorem k633 : Cond.fieldLink "SmokeZonesModel" 36 "SmokeZonesModel" "others" "[I" ∈ GW := gw_t (List.mem_of_getElem? (i := 633) (by decide +kernel)) (by decide +kernel)
theorem k634 : Cond.fieldLink "SmokeZonesModel" 39 "SmokeZonesModel" "widths" "[I" ∈ GW := gw_t (List.mem_of_getElem? (i := 634) (by decide +kernel)) (by decide +kernel)
theorem k635 : Cond.fieldLink "SmokeZonesModel" 42 "SmokeZonesModel" "sills" "[I" ∈ GW := gw_t (List.mem_of_getElem? (i := 635) (by decide +kernel)) (by decide +kernel)
theorem k636 : Cond.fieldLink "SmokeZonesModel" 45 "SmokeZonesModel" "tops" "[I" ∈ GW := gw_t (List.mem_of_getElem? (i := 636) (by decide +kernel)) (by decide +kernel)
theorem k637 : Cond.fieldLink "SmokeZonesModel" 48 "SmokeZonesModel" "glasses" "[I" ∈ GW := gw_t (List.mem_of_getElem? (i := 637) (by decide +kernel)) (by decide +kernel)
theorem k638 : Cond.fieldLink "SmokeZonesModel" 51 "SmokeZonesModel" "isOpen" "[Z" ∈ GW := gw_t (List.mem_of_getElem? (i := 638) (by decide +kernel)) (by decide +kernel)
theorem k639 : Cond.fieldLink "SmokeZonesModel" 54 "SmokeZonesModel" "flows" "[J" ∈ GW := gw_t (List.mem_of_getElem? (i := 639) (by decide +kernel)) (by decide +kernel)
theorem k640 : Cond.fieldLink "SmokeZonesModel" 57 "SmokeZonesModel" "flowHeats" "[J" ∈ GW := gw_t (List.mem_of_getElem? (i := 640) (by decide +kernel)) (by decide +kernel)
theorem k641 : Cond.fieldLink "SmokeZonesModel" 60 "SmokeZonesModel" "flowSums" "[J" ∈ GW := gw_t (List.mem_of_getElem? (i := 641) (by decide +kernel)) (by decide +kernel)
theorem k642 : Cond.fieldLink "SmokeZonesModel" 142 "SmokeZonesModel" "fires" "I" ∈ GW := gw_t (List.mem_of_getElem? (i := 642) (by decide +kernel)) (by decide +kernel)
theorem k643 : Cond.fieldLink "SmokeZonesModel" 63 "SmokeZonesModel" "fireRooms" "[I" ∈ GW := gw_t (List.mem_of_getElem? (i := 643) (by decide +kernel)) (by decide +kernel)
theorem k644 : Cond.fieldLink "SmokeZonesModel" 66 "SmokeZonesModel" "fireSeconds" "[I" ∈ GW := gw_t (List.mem_of_getElem? (i := 644) (by decide +kernel)) (by decide +kernel)
theorem k645 : Cond.fieldLink "SmokeZonesModel" 69 "SmokeZonesModel" "growths" "[I" ∈ GW := gw_t (List.mem_of_getElem? (i := 645) (by decide +kernel)) (by decide +kernel)
theorem k646 : Cond.fieldLink "SmokeZonesModel" 72 "SmokeZonesModel" "fireMosts" "[I" ∈ GW := gw_t (List.mem_of_getElem? (i := 646) (by decide +kernel)) (by decide +kernel)
theorem k647 : Cond.fieldLink "SmokeZonesModel" 75 "SmokeZonesModel" "fireHeats" "[I" ∈ GW := gw_t (List.mem_of_getElem? (i := 647) (by decide +kernel)) (by decide +kernel)
theorem k648 : Cond.fieldLink "SmokeZonesModel" 145 "SmokeZonesModel" "fans" "I" ∈ GW := gw_t (List.mem_of_getElem? (i := 648) (by decide +kernel)) (by decide +kernel)
theorem k649 : Cond.fieldLink "SmokeZonesModel" 78 "SmokeZonesModel" "fanRooms" "[I" ∈ GW := gw_t (List.mem_of_getElem? (i := 649) (by decide +kernel)) (by decide +kernel)
theorem k650 : Cond.fieldLink "SmokeZonesModel" 81 "SmokeZonesModel" "fanSeconds" "[I" ∈ GW := gw_t (List.mem_of_getElem? (i := 650) (by decide +kernel)) (by decide +kernel)
theorem k651 : Cond.fieldLink "SmokeZonesModel" 84 "SmokeZonesModel" "rates" "[I" ∈ GW := gw_t (List.mem_of_getElem? (i := 651) (by decide +kernel)) (by decide +kernel)
theorem k652 : Cond.fieldLink "SmokeZonesModel" 148 "SmokeZonesModel" "steels" "I" ∈ GW := gw_t (List.mem_of_getElem? (i := 652) (by decide +kernel)) (by decide +kernel)
theorem k653 : Cond.fieldLink "SmokeZonesModel" 87 "SmokeZonesModel" "steelRooms" "[I" ∈ GW := gw_t (List.mem_of_getElem? (i := 653) (by decide +kernel)) (by decide +kernel)
theorem k654 : Cond.fieldLink "SmokeZonesModel" 90 "SmokeZonesModel" "sections" "[I" ∈ GW := gw_t (List.mem_of_getElem? (i := 654) (by decide +kernel)) (by decide +kernel)
theorem k655 : Cond.fieldLink "SmokeZonesModel" 93 "SmokeZonesModel" "warmths" "[J" ∈ GW := gw_t (List.mem_of_getElem? (i := 655) (by decide +kernel)) (by decide +kernel)
theorem k656 : Cond.fieldLink "SmokeZonesModel" 151 "SmokeZonesModel" "persons" "I" ∈ GW := gw_t (List.mem_of_getElem? (i := 656) (by decide +kernel)) (by decide +kernel)
theorem k657 : Cond.fieldLink "SmokeZonesModel" 96 "SmokeZonesModel" "personRooms" "[I" ∈ GW := gw_t (List.mem_of_getElem? (i := 657) (by decide +kernel)) (by decide +kernel)
theorem k658 : Cond.fieldLink "SmokeZonesModel" 99 "SmokeZonesModel" "doses" "[J" ∈ GW := gw_t (List.mem_of_getElem? (i := 658) (by decide +kernel)) (by decide +kernel)
theorem k659 : Cond.fieldLink "SmokeZonesModel" 102 "SmokeZonesModel" "breaths" "[I" ∈ GW := gw_t (List.mem_of_getElem? (i := 659) (by decide +kernel)) (by decide +kernel)
theorem k660 : Cond.fieldLink "SmokeZonesModel" 105 "SmokeZonesModel" "goCount" "[I" ∈ GW := gw_t (List.mem_of_getElem? (i := 660) (by decide +kernel)) (by decide +kernel)
theorem k661 : Cond.fieldLink "SmokeZonesModel" 108 "SmokeZonesModel" "goDone" "[I" ∈ GW := gw_t (List.mem_of_getElem? (i := 661) (by decide +kernel)) (by decide +kernel)
theorem k662 : Cond.fieldLink "SmokeZonesModel" 111 "SmokeZonesModel" "goSeconds" "[I" ∈ GW := gw_t (List.mem_of_getElem? (i := 662) (by decide +kernel)) (by decide +kernel)
theorem k663 : Cond.fieldLink "SmokeZonesModel" 114 "SmokeZonesModel" "goRooms" "[I" ∈ GW := gw_t (List.mem_of_getElem? (i := 663) (by decide +kernel)) (by decide +kernel)
theorem k664 : Cond.fieldLink "SmokeZonesModel" 160 "SmokeZonesModel" "made" "J" ∈ GW := gw_t (List.mem_of_getElem? (i := 664) (by decide +kernel)) (by decide +kernel)
theorem k665 : Cond.fieldLink "SmokeZonesModel" 172 "SmokeZonesModel" "out" "J" ∈ GW := gw_t (List.mem_of_getElem? (i := 665) (by decide +kernel)) (by decide +kernel)
theorem k666 : Cond.fieldLink "SmokeZonesModel" 175 "SmokeZonesModel" "blown" "J" ∈ GW := gw_t (List.mem_of_getElem? (i := 666) (by decide +kernel)) (by decide +kernel)
theorem k667 : Cond.fieldLink "SmokeZonesModel" 178 "SmokeZonesModel" "pressed" "J" ∈ GW := gw_t (List.mem_of_getElem? (i := 667) (by decide +kernel)) (by decide +kernel)
theorem k668 : Cond.lays "SmokeZonesModel" "SmokeZonesModel" "code" "I" ∈ GW := gw_t (List.mem_of_getElem? (i := 668) (by decide +kernel)) (by decide +kernel)
theorem k670 : Cond.lays "SmokeZonesModel" "SmokeZonesModel" "now" "I" ∈ GW := gw_t (List.mem_of_getElem? (i := 670) (by decide +kernel)) (by decide +kernel)
theorem k672 : Cond.lays "SmokeZonesModel" "SmokeZonesModel" "rooms" "I" ∈ GW := gw_t (List.mem_of_getElem? (i := 672) (by decide +kernel)) (by decide +kernel)
theorem k674 : Cond.laysFinal "SmokeZonesModel" "SmokeZonesModel" "areas" "[I" ∈ GW := gw_t (List.mem_of_getElem? (i := 674) (by decide +kernel)) (by decide +kernel)
theorem k676 : Cond.laysFinal "SmokeZonesModel" "SmokeZonesModel" "heights" "[I" ∈ GW := gw_t (List.mem_of_getElem? (i := 676) (by decide +kernel)) (by decide +kernel)
theorem k678 : Cond.laysFinal "SmokeZonesModel" "SmokeZonesModel" "smokes" "[J" ∈ GW := gw_t (List.mem_of_getElem? (i := 678) (by decide +kernel)) (by decide +kernel)
theorem k680 : Cond.laysFinal "SmokeZonesModel" "SmokeZonesModel" "heats" "[J" ∈ GW := gw_t (List.mem_of_getElem? (i := 680) (by decide +kernel)) (by decide +kernel)
theorem k682 : Cond.laysFinal "SmokeZonesModel" "SmokeZonesModel" "sprinklers" "[I" ∈ GW := gw_t (List.mem_of_getElem? (i := 682) (by decide +kernel)) (by decide +kernel)
theorem k684 : Cond.laysFinal "SmokeZonesModel" "SmokeZonesModel" "acts" "[Z" ∈ GW := gw_t (List.mem_of_getElem? (i := 684) (by decide +kernel)) (by decide +kernel)
theorem k686 : Cond.laysFinal "SmokeZonesModel" "SmokeZonesModel" "lowSince" "[I" ∈ GW := gw_t (List.mem_of_getElem? (i := 686) (by decide +kernel)) (by decide +kernel)
theorem k688 : Cond.lays "SmokeZonesModel" "SmokeZonesModel" "openings" "I" ∈ GW := gw_t (List.mem_of_getElem? (i := 688) (by decide +kernel)) (by decide +kernel)
theorem k690 : Cond.laysFinal "SmokeZonesModel" "SmokeZonesModel" "ones" "[I" ∈ GW := gw_t (List.mem_of_getElem? (i := 690) (by decide +kernel)) (by decide +kernel)
theorem k692 : Cond.laysFinal "SmokeZonesModel" "SmokeZonesModel" "others" "[I" ∈ GW := gw_t (List.mem_of_getElem? (i := 692) (by decide +kernel)) (by decide +kernel)
theorem k694 : Cond.laysFinal "SmokeZonesModel" "SmokeZonesModel" "widths" "[I" ∈ GW := gw_t (List.mem_of_getElem? (i := 694) (by decide +kernel)) (by decide +kernel)
theorem k696 : Cond.laysFinal "SmokeZonesModel" "SmokeZonesModel" "sills" "[I" ∈ GW := gw_t (List.mem_of_getElem? (i := 696) (by decide +kernel)) (by decide +kernel)
theorem k698 : Cond.laysFinal "SmokeZonesModel" "SmokeZonesModel" "tops" "[I" ∈ GW := gw_t (List.mem_of_getElem? (i := 698) (by decide +kernel)) (by decide +kernel)
theorem k700 : Cond.laysFinal "SmokeZonesModel" "SmokeZonesModel" "glasses" "[I" ∈ GW := gw_t (List.mem_of_getElem? (i := 700) (by decide +kernel)) (by decide +kernel)
theorem k702 : Cond.laysFinal "SmokeZonesModel" "SmokeZonesModel" "isOpen" "[Z" ∈ GW := gw_t (List.mem_of_getElem? (i := 702) (by decide +kernel)) (by decide +kernel)
theorem k704 : Cond.laysFinal "SmokeZonesModel" "SmokeZonesModel" "flows" "[J" ∈ GW := gw_t (List.mem_of_getElem? (i := 704) (by decide +kernel)) (by decide +kernel)
theorem k706 : Cond.laysFinal "SmokeZonesModel" "SmokeZonesModel" "flowHeats" "[J" ∈ GW := gw_t (List.mem_of_getElem? (i := 706) (by decide +kernel)) (by decide +kernel)
theorem k708 : Cond.laysFinal "SmokeZonesModel" "SmokeZonesModel" "flowSums" "[J" ∈ GW := gw_t (List.mem_of_getElem? (i := 708) (by decide +kernel)) (by decide +kernel)
theorem k710 : Cond.lays "SmokeZonesModel" "SmokeZonesModel" "fires" "I" ∈ GW := gw_t (List.mem_of_getElem? (i := 710) (by decide +kernel)) (by decide +kernel)
theorem k712 : Cond.laysFinal "SmokeZonesModel" "SmokeZonesModel" "fireRooms" "[I" ∈ GW := gw_t (List.mem_of_getElem? (i := 712) (by decide +kernel)) (by decide +kernel)
theorem k714 : Cond.laysFinal "SmokeZonesModel" "SmokeZonesModel" "fireSeconds" "[I" ∈ GW := gw_t (List.mem_of_getElem? (i := 714) (by decide +kernel)) (by decide +kernel)
theorem k716 : Cond.laysFinal "SmokeZonesModel" "SmokeZonesModel" "growths" "[I" ∈ GW := gw_t (List.mem_of_getElem? (i := 716) (by decide +kernel)) (by decide +kernel)
theorem k718 : Cond.laysFinal "SmokeZonesModel" "SmokeZonesModel" "fireMosts" "[I" ∈ GW := gw_t (List.mem_of_getElem? (i := 718) (by decide +kernel)) (by decide +kernel)
theorem k720 : Cond.laysFinal "SmokeZonesModel" "SmokeZonesModel" "fireHeats" "[I" ∈ GW := gw_t (List.mem_of_getElem? (i := 720) (by decide +kernel)) (by decide +kernel)
theorem k722 : Cond.lays "SmokeZonesModel" "SmokeZonesModel" "fans" "I" ∈ GW := gw_t (List.mem_of_getElem? (i := 722) (by decide +kernel)) (by decide +kernel)
theorem k724 : Cond.laysFinal "SmokeZonesModel" "SmokeZonesModel" "fanRooms" "[I" ∈ GW := gw_t (List.mem_of_getElem? (i := 724) (by decide +kernel)) (by decide +kernel)
theorem k726 : Cond.laysFinal "SmokeZonesModel" "SmokeZonesModel" "fanSeconds" "[I" ∈ GW := gw_t (List.mem_of_getElem? (i := 726) (by decide +kernel)) (by decide +kernel)
theorem k728 : Cond.laysFinal "SmokeZonesModel" "SmokeZonesModel" "rates" "[I" ∈ GW := gw_t (List.mem_of_getElem? (i := 728) (by decide +kernel)) (by decide +kernel)
theorem k730 : Cond.lays "SmokeZonesModel" "SmokeZonesModel" "steels" "I" ∈ GW := gw_t (List.mem_of_getElem? (i := 730) (by decide +kernel)) (by decide +kernel)
theorem k732 : Cond.laysFinal "SmokeZonesModel" "SmokeZonesModel" "steelRooms" "[I" ∈ GW := gw_t (List.mem_of_getElem? (i := 732) (by decide +kernel)) (by decide +kernel)
theorem k734 : Cond.laysFinal "SmokeZonesModel" "SmokeZonesModel" "sections" "[I" ∈ GW := gw_t (List.mem_of_getElem? (i := 734) (by decide +kernel)) (by decide +kernel)
theorem k736 : Cond.laysFinal "SmokeZonesModel" "SmokeZonesModel" "warmths" "[J" ∈ GW := gw_t (List.mem_of_getElem? (i := 736) (by decide +kernel)) (by decide +kernel)
theorem k738 : Cond.lays "SmokeZonesModel" "SmokeZonesModel" "persons" "I" ∈ GW := gw_t (List.mem_of_getElem? (i := 738) (by decide +kernel)) (by decide +kernel)
theorem k740 : Cond.laysFinal "SmokeZonesModel" "SmokeZonesModel" "personRooms" "[I" ∈ GW := gw_t (List.mem_of_getElem? (i := 740) (by decide +kernel)) (by decide +kernel)
theorem k742 : Cond.laysFinal "SmokeZonesModel" "SmokeZonesModel" "doses" "[J" ∈ GW := gw_t (List.mem_of_getElem? (i := 742) (by decide +kernel)) (by decide +kernel)
theorem k744 : Cond.laysFinal "SmokeZonesModel" "SmokeZonesModel" "breaths" "[I" ∈ GW := gw_t (List.mem_of_getElem? (i := 744) (by decide +kernel)) (by decide +kernel)
theorem k746 : Cond.laysFinal "SmokeZonesModel" "SmokeZonesModel" "goCount" "[I" ∈ GW := gw_t (List.mem_of_getElem? (i := 746) (by decide +kernel)) (by decide +kernel)
theorem k748 : Cond.laysFinal "SmokeZonesModel" "SmokeZonesModel" "goDone" "[I" ∈ GW := gw_t (List.mem_of_getElem? (i := 748) (by decide +kernel)) (by decide +kernel)
theorem k750 : Cond.laysFinal "SmokeZonesModel" "SmokeZonesModel" "goSeconds" "[I" ∈ GW := gw_t (List.mem_of_getElem? (i := 750) (by decide +kernel)) (by decide +kernel)
theorem k752 : Cond.laysFinal "SmokeZonesModel" "SmokeZonesModel" "goRooms" "[I" ∈ GW := gw_t (List.mem_of_getElem? (i := 752) (by decide +kernel)) (by decide +kernel)
theorem k754 : Cond.lays "SmokeZonesModel" "SmokeZonesModel" "made" "J" ∈ GW := gw_t (List.mem_of_getElem? (i := 754) (by decide +kernel)) (by decide +kernel)
theorem k756 : Cond.lays "SmokeZonesModel" "SmokeZonesModel" "out" "J" ∈ GW := gw_t (List.mem_of_getElem? (i := 756) (by decide +kernel)) (by decide +kernel)
theorem k758 : Cond.lays "SmokeZonesModel" "SmokeZonesModel" "blown" "J" ∈ GW := gw_t (List.mem_of_getElem? (i := 758) (by decide +kernel)) (by decide +kernel)
theorem k760 : Cond.lays "SmokeZonesModel" "SmokeZonesModel" "pressed" "J" ∈ GW := gw_t (List.mem_of_getElem? (i := 760) (by decide +kernel)) (by decide +kernel)
theorem k763 : Cond.arrayClass .long ∈ GW := gw_t (List.mem_of_getElem? (i := 763) (by decide +kernel)) (by decide +kernel)
theorem k764 : Cond.arrayClass .boolean ∈ GW := gw_t (List.mem_of_getElem? (i := 764) (by decide +kernel)) (by decide +kernel)
theorem k765 : Cond.methodLink "SmokeZonesLaw" 76 y_Mo_thrown ∈ GW := gw_t (List.mem_of_getElem? (i := 765) (by decide +kernel)) (by decide +kernel)
theorem k766 : Cond.instanceMethod y_Mo_thrown ∈ GW := gw_t (List.mem_of_getElem? (i := 766) (by decide +kernel)) (by decide +kernel)
theorem k767 : Cond.selects "SmokeZonesModel" y_Mo_thrown y_Mo_thrown ∈ GW := gw_t (List.mem_of_getElem? (i := 767) (by decide +kernel)) (by decide +kernel)
theorem k768 : Cond.code y_Mo_thrown prog_9_method_2_code 1 (some .int) ∈ GW := gw_t (List.mem_of_getElem? (i := 768) (by decide +kernel)) (by decide +kernel)
theorem k769 : Cond.methodLink "SmokeZonesLaw" 75 y_Mo_room ∈ GW := gw_t (List.mem_of_getElem? (i := 769) (by decide +kernel)) (by decide +kernel)
theorem k770 : Cond.instanceMethod y_Mo_room ∈ GW := gw_t (List.mem_of_getElem? (i := 770) (by decide +kernel)) (by decide +kernel)
theorem k771 : Cond.selects "SmokeZonesModel" y_Mo_room y_Mo_room ∈ GW := gw_t (List.mem_of_getElem? (i := 771) (by decide +kernel)) (by decide +kernel)
theorem k772 : Cond.code y_Mo_room prog_9_method_6_code 3 (some .int) ∈ GW := gw_t (List.mem_of_getElem? (i := 772) (by decide +kernel)) (by decide +kernel)
theorem k773 : Cond.methodLink "SmokeZonesModel" 124 y_Mo_in ∈ GW := gw_t (List.mem_of_getElem? (i := 773) (by decide +kernel)) (by decide +kernel)
theorem k774 : Cond.static y_Mo_in ∈ GW := gw_t (List.mem_of_getElem? (i := 774) (by decide +kernel)) (by decide +kernel)
theorem k775 : Cond.code y_Mo_in prog_9_method_3_code 3 (some .boolean) ∈ GW := gw_t (List.mem_of_getElem? (i := 775) (by decide +kernel)) (by decide +kernel)
theorem k776 : Cond.methodLink "SmokeZonesLaw" 83 y_Mo_opening ∈ GW := gw_t (List.mem_of_getElem? (i := 776) (by decide +kernel)) (by decide +kernel)
theorem k777 : Cond.instanceMethod y_Mo_opening ∈ GW := gw_t (List.mem_of_getElem? (i := 777) (by decide +kernel)) (by decide +kernel)
theorem k778 : Cond.selects "SmokeZonesModel" y_Mo_opening y_Mo_opening ∈ GW := gw_t (List.mem_of_getElem? (i := 778) (by decide +kernel)) (by decide +kernel)
theorem k779 : Cond.code y_Mo_opening prog_9_method_7_code 7 (some .int) ∈ GW := gw_t (List.mem_of_getElem? (i := 779) (by decide +kernel)) (by decide +kernel)
theorem k780 : Cond.methodLink "SmokeZonesModel" 128 y_Mo_isRoom ∈ GW := gw_t (List.mem_of_getElem? (i := 780) (by decide +kernel)) (by decide +kernel)
theorem k782 : Cond.instanceMethod y_Mo_isRoom ∈ GW := gw_t (List.mem_of_getElem? (i := 782) (by decide +kernel)) (by decide +kernel)
theorem k783 : Cond.code y_Mo_isRoom prog_9_method_4_code 2 (some .boolean) ∈ GW := gw_t (List.mem_of_getElem? (i := 783) (by decide +kernel)) (by decide +kernel)
theorem k784 : Cond.methodLink "SmokeZonesModel" 132 y_Mo_isRoomOrOut ∈ GW := gw_t (List.mem_of_getElem? (i := 784) (by decide +kernel)) (by decide +kernel)
theorem k786 : Cond.instanceMethod y_Mo_isRoomOrOut ∈ GW := gw_t (List.mem_of_getElem? (i := 786) (by decide +kernel)) (by decide +kernel)
theorem k787 : Cond.code y_Mo_isRoomOrOut prog_9_method_5_code 2 (some .boolean) ∈ GW := gw_t (List.mem_of_getElem? (i := 787) (by decide +kernel)) (by decide +kernel)
theorem k788 : Cond.methodLink "SmokeZonesLaw" 87 y_Mo_glass ∈ GW := gw_t (List.mem_of_getElem? (i := 788) (by decide +kernel)) (by decide +kernel)
theorem k789 : Cond.instanceMethod y_Mo_glass ∈ GW := gw_t (List.mem_of_getElem? (i := 789) (by decide +kernel)) (by decide +kernel)
theorem k790 : Cond.selects "SmokeZonesModel" y_Mo_glass y_Mo_glass ∈ GW := gw_t (List.mem_of_getElem? (i := 790) (by decide +kernel)) (by decide +kernel)
theorem k791 : Cond.code y_Mo_glass prog_9_method_8_code 3 none ∈ GW := gw_t (List.mem_of_getElem? (i := 791) (by decide +kernel)) (by decide +kernel)
theorem k792 : Cond.methodLink "SmokeZonesLaw" 90 y_Mo_fire ∈ GW := gw_t (List.mem_of_getElem? (i := 792) (by decide +kernel)) (by decide +kernel)
theorem k793 : Cond.instanceMethod y_Mo_fire ∈ GW := gw_t (List.mem_of_getElem? (i := 793) (by decide +kernel)) (by decide +kernel)
theorem k794 : Cond.selects "SmokeZonesModel" y_Mo_fire y_Mo_fire ∈ GW := gw_t (List.mem_of_getElem? (i := 794) (by decide +kernel)) (by decide +kernel)
theorem k795 : Cond.code y_Mo_fire prog_9_method_9_code 7 (some .int) ∈ GW := gw_t (List.mem_of_getElem? (i := 795) (by decide +kernel)) (by decide +kernel)
theorem k796 : Cond.constant "SmokeZonesModel" 141 100000 ∈ GW := gw_t (List.mem_of_getElem? (i := 796) (by decide +kernel)) (by decide +kernel)
theorem k797 : Cond.methodLink "SmokeZonesLaw" 93 y_Mo_sprinkler ∈ GW := gw_t (List.mem_of_getElem? (i := 797) (by decide +kernel)) (by decide +kernel)
theorem k798 : Cond.instanceMethod y_Mo_sprinkler ∈ GW := gw_t (List.mem_of_getElem? (i := 798) (by decide +kernel)) (by decide +kernel)
theorem k799 : Cond.selects "SmokeZonesModel" y_Mo_sprinkler y_Mo_sprinkler ∈ GW := gw_t (List.mem_of_getElem? (i := 799) (by decide +kernel)) (by decide +kernel)
theorem k800 : Cond.code y_Mo_sprinkler prog_9_method_10_code 3 none ∈ GW := gw_t (List.mem_of_getElem? (i := 800) (by decide +kernel)) (by decide +kernel)
theorem k801 : Cond.methodLink "SmokeZonesLaw" 97 y_Mo_fan ∈ GW := gw_t (List.mem_of_getElem? (i := 801) (by decide +kernel)) (by decide +kernel)
theorem k802 : Cond.instanceMethod y_Mo_fan ∈ GW := gw_t (List.mem_of_getElem? (i := 802) (by decide +kernel)) (by decide +kernel)
theorem k803 : Cond.selects "SmokeZonesModel" y_Mo_fan y_Mo_fan ∈ GW := gw_t (List.mem_of_getElem? (i := 803) (by decide +kernel)) (by decide +kernel)
theorem k804 : Cond.code y_Mo_fan prog_9_method_11_code 4 (some .int) ∈ GW := gw_t (List.mem_of_getElem? (i := 804) (by decide +kernel)) (by decide +kernel)
theorem k805 : Cond.methodLink "SmokeZonesLaw" 100 y_Mo_steel ∈ GW := gw_t (List.mem_of_getElem? (i := 805) (by decide +kernel)) (by decide +kernel)
theorem k806 : Cond.instanceMethod y_Mo_steel ∈ GW := gw_t (List.mem_of_getElem? (i := 806) (by decide +kernel)) (by decide +kernel)
theorem k807 : Cond.selects "SmokeZonesModel" y_Mo_steel y_Mo_steel ∈ GW := gw_t (List.mem_of_getElem? (i := 807) (by decide +kernel)) (by decide +kernel)
theorem k808 : Cond.code y_Mo_steel prog_9_method_12_code 3 (some .int) ∈ GW := gw_t (List.mem_of_getElem? (i := 808) (by decide +kernel)) (by decide +kernel)
theorem k809 : Cond.methodLink "SmokeZonesLaw" 104 y_Mo_person ∈ GW := gw_t (List.mem_of_getElem? (i := 809) (by decide +kernel)) (by decide +kernel)
theorem k810 : Cond.instanceMethod y_Mo_person ∈ GW := gw_t (List.mem_of_getElem? (i := 810) (by decide +kernel)) (by decide +kernel)
theorem k811 : Cond.selects "SmokeZonesModel" y_Mo_person y_Mo_person ∈ GW := gw_t (List.mem_of_getElem? (i := 811) (by decide +kernel)) (by decide +kernel)
theorem k812 : Cond.code y_Mo_person prog_9_method_13_code 2 (some .int) ∈ GW := gw_t (List.mem_of_getElem? (i := 812) (by decide +kernel)) (by decide +kernel)
theorem k813 : Cond.methodLink "SmokeZonesLaw" 108 y_Mo_go ∈ GW := gw_t (List.mem_of_getElem? (i := 813) (by decide +kernel)) (by decide +kernel)
theorem k814 : Cond.instanceMethod y_Mo_go ∈ GW := gw_t (List.mem_of_getElem? (i := 814) (by decide +kernel)) (by decide +kernel)
theorem k815 : Cond.selects "SmokeZonesModel" y_Mo_go y_Mo_go ∈ GW := gw_t (List.mem_of_getElem? (i := 815) (by decide +kernel)) (by decide +kernel)
theorem k816 : Cond.code y_Mo_go prog_9_method_14_code 5 none ∈ GW := gw_t (List.mem_of_getElem? (i := 816) (by decide +kernel)) (by decide +kernel)
theorem k817 : Cond.methodLink "SmokeZonesLaw" 111 y_Mo_run ∈ GW := gw_t (List.mem_of_getElem? (i := 817) (by decide +kernel)) (by decide +kernel)
theorem k818 : Cond.instanceMethod y_Mo_run ∈ GW := gw_t (List.mem_of_getElem? (i := 818) (by decide +kernel)) (by decide +kernel)
theorem k819 : Cond.selects "SmokeZonesModel" y_Mo_run y_Mo_run ∈ GW := gw_t (List.mem_of_getElem? (i := 819) (by decide +kernel)) (by decide +kernel)
theorem k820 : Cond.code y_Mo_run prog_9_method_25_code 3 (some .int) ∈ GW := gw_t (List.mem_of_getElem? (i := 820) (by decide +kernel)) (by decide +kernel)
theorem k821 : Cond.methodLink "SmokeZonesModel" 190 y_Mo_burn ∈ GW := gw_t (List.mem_of_getElem? (i := 821) (by decide +kernel)) (by decide +kernel)
theorem k823 : Cond.instanceMethod y_Mo_burn ∈ GW := gw_t (List.mem_of_getElem? (i := 823) (by decide +kernel)) (by decide +kernel)
theorem k824 : Cond.code y_Mo_burn prog_9_method_18_code 4 none ∈ GW := gw_t (List.mem_of_getElem? (i := 824) (by decide +kernel)) (by decide +kernel)
theorem k825 : Cond.constantLong "SmokeZonesModel" 158 2 ∈ GW := gw_t (List.mem_of_getElem? (i := 825) (by decide +kernel)) (by decide +kernel)
theorem k826 : Cond.methodLink "SmokeZonesModel" 193 y_Mo_flow ∈ GW := gw_t (List.mem_of_getElem? (i := 826) (by decide +kernel)) (by decide +kernel)
theorem k828 : Cond.instanceMethod y_Mo_flow ∈ GW := gw_t (List.mem_of_getElem? (i := 828) (by decide +kernel)) (by decide +kernel)
theorem k829 : Cond.code y_Mo_flow prog_9_method_19_code 9 none ∈ GW := gw_t (List.mem_of_getElem? (i := 829) (by decide +kernel)) (by decide +kernel)
theorem k830 : Cond.methodLink "SmokeZonesModel" 164 y_Mo_covered ∈ GW := gw_t (List.mem_of_getElem? (i := 830) (by decide +kernel)) (by decide +kernel)
theorem k832 : Cond.instanceMethod y_Mo_covered ∈ GW := gw_t (List.mem_of_getElem? (i := 832) (by decide +kernel)) (by decide +kernel)
theorem k833 : Cond.code y_Mo_covered prog_9_method_17_code 5 (some .long) ∈ GW := gw_t (List.mem_of_getElem? (i := 833) (by decide +kernel)) (by decide +kernel)
theorem k834 : Cond.methodLink "SmokeZonesModel" 154 y_Mo_clearTo ∈ GW := gw_t (List.mem_of_getElem? (i := 834) (by decide +kernel)) (by decide +kernel)
theorem k836 : Cond.instanceMethod y_Mo_clearTo ∈ GW := gw_t (List.mem_of_getElem? (i := 836) (by decide +kernel)) (by decide +kernel)
theorem k837 : Cond.code y_Mo_clearTo prog_9_method_16_code 2 (some .long) ∈ GW := gw_t (List.mem_of_getElem? (i := 837) (by decide +kernel)) (by decide +kernel)
theorem k838 : Cond.constantLong "SmokeZonesModel" 168 5 ∈ GW := gw_t (List.mem_of_getElem? (i := 838) (by decide +kernel)) (by decide +kernel)
theorem k839 : Cond.constantLong "SmokeZonesModel" 170 16 ∈ GW := gw_t (List.mem_of_getElem? (i := 839) (by decide +kernel)) (by decide +kernel)
theorem k840 : Cond.methodLink "SmokeZonesModel" 196 y_Mo_blow ∈ GW := gw_t (List.mem_of_getElem? (i := 840) (by decide +kernel)) (by decide +kernel)
theorem k842 : Cond.instanceMethod y_Mo_blow ∈ GW := gw_t (List.mem_of_getElem? (i := 842) (by decide +kernel)) (by decide +kernel)
theorem k843 : Cond.code y_Mo_blow prog_9_method_20_code 5 none ∈ GW := gw_t (List.mem_of_getElem? (i := 843) (by decide +kernel)) (by decide +kernel)
theorem k844 : Cond.methodLink "SmokeZonesModel" 199 y_Mo_press ∈ GW := gw_t (List.mem_of_getElem? (i := 844) (by decide +kernel)) (by decide +kernel)
theorem k846 : Cond.instanceMethod y_Mo_press ∈ GW := gw_t (List.mem_of_getElem? (i := 846) (by decide +kernel)) (by decide +kernel)
theorem k847 : Cond.code y_Mo_press prog_9_method_21_code 4 none ∈ GW := gw_t (List.mem_of_getElem? (i := 847) (by decide +kernel)) (by decide +kernel)
theorem k848 : Cond.methodLink "SmokeZonesModel" 202 y_Mo_act ∈ GW := gw_t (List.mem_of_getElem? (i := 848) (by decide +kernel)) (by decide +kernel)
theorem k850 : Cond.instanceMethod y_Mo_act ∈ GW := gw_t (List.mem_of_getElem? (i := 850) (by decide +kernel)) (by decide +kernel)
theorem k851 : Cond.code y_Mo_act prog_9_method_23_code 2 none ∈ GW := gw_t (List.mem_of_getElem? (i := 851) (by decide +kernel)) (by decide +kernel)
theorem k852 : Cond.methodLink "SmokeZonesModel" 184 y_Mo_isHot ∈ GW := gw_t (List.mem_of_getElem? (i := 852) (by decide +kernel)) (by decide +kernel)
theorem k854 : Cond.instanceMethod y_Mo_isHot ∈ GW := gw_t (List.mem_of_getElem? (i := 854) (by decide +kernel)) (by decide +kernel)
theorem k855 : Cond.code y_Mo_isHot prog_9_method_22_code 3 (some .boolean) ∈ GW := gw_t (List.mem_of_getElem? (i := 855) (by decide +kernel)) (by decide +kernel)
theorem k856 : Cond.methodLink "SmokeZonesModel" 181 y_Mo_warmth ∈ GW := gw_t (List.mem_of_getElem? (i := 856) (by decide +kernel)) (by decide +kernel)
theorem k858 : Cond.instanceMethod y_Mo_warmth ∈ GW := gw_t (List.mem_of_getElem? (i := 858) (by decide +kernel)) (by decide +kernel)
theorem k859 : Cond.code y_Mo_warmth prog_9_method_15_code 2 (some .long) ∈ GW := gw_t (List.mem_of_getElem? (i := 859) (by decide +kernel)) (by decide +kernel)
theorem k860 : Cond.constantLong "SmokeZonesModel" 188 18 ∈ GW := gw_t (List.mem_of_getElem? (i := 860) (by decide +kernel)) (by decide +kernel)
theorem k861 : Cond.methodLink "SmokeZonesModel" 205 y_Mo_breathe ∈ GW := gw_t (List.mem_of_getElem? (i := 861) (by decide +kernel)) (by decide +kernel)
theorem k863 : Cond.instanceMethod y_Mo_breathe ∈ GW := gw_t (List.mem_of_getElem? (i := 863) (by decide +kernel)) (by decide +kernel)
theorem k864 : Cond.code y_Mo_breathe prog_9_method_24_code 3 none ∈ GW := gw_t (List.mem_of_getElem? (i := 864) (by decide +kernel)) (by decide +kernel)
theorem k865 : Cond.methodLink "SmokeZonesLaw" 114 y_Mo_roomAt ∈ GW := gw_t (List.mem_of_getElem? (i := 865) (by decide +kernel)) (by decide +kernel)
theorem k866 : Cond.instanceMethod y_Mo_roomAt ∈ GW := gw_t (List.mem_of_getElem? (i := 866) (by decide +kernel)) (by decide +kernel)
theorem k867 : Cond.selects "SmokeZonesModel" y_Mo_roomAt y_Mo_roomAt ∈ GW := gw_t (List.mem_of_getElem? (i := 867) (by decide +kernel)) (by decide +kernel)
theorem k868 : Cond.code y_Mo_roomAt prog_9_method_26_code 3 (some .long) ∈ GW := gw_t (List.mem_of_getElem? (i := 868) (by decide +kernel)) (by decide +kernel)
theorem k869 : Cond.methodLink "SmokeZonesLaw" 117 y_Mo_openingAt ∈ GW := gw_t (List.mem_of_getElem? (i := 869) (by decide +kernel)) (by decide +kernel)
theorem k870 : Cond.instanceMethod y_Mo_openingAt ∈ GW := gw_t (List.mem_of_getElem? (i := 870) (by decide +kernel)) (by decide +kernel)
theorem k871 : Cond.selects "SmokeZonesModel" y_Mo_openingAt y_Mo_openingAt ∈ GW := gw_t (List.mem_of_getElem? (i := 871) (by decide +kernel)) (by decide +kernel)
theorem k872 : Cond.code y_Mo_openingAt prog_9_method_27_code 3 (some .long) ∈ GW := gw_t (List.mem_of_getElem? (i := 872) (by decide +kernel)) (by decide +kernel)
theorem k873 : Cond.methodLink "SmokeZonesLaw" 120 y_Mo_personAt ∈ GW := gw_t (List.mem_of_getElem? (i := 873) (by decide +kernel)) (by decide +kernel)
theorem k874 : Cond.instanceMethod y_Mo_personAt ∈ GW := gw_t (List.mem_of_getElem? (i := 874) (by decide +kernel)) (by decide +kernel)
theorem k875 : Cond.selects "SmokeZonesModel" y_Mo_personAt y_Mo_personAt ∈ GW := gw_t (List.mem_of_getElem? (i := 875) (by decide +kernel)) (by decide +kernel)
theorem k876 : Cond.code y_Mo_personAt prog_9_method_28_code 3 (some .long) ∈ GW := gw_t (List.mem_of_getElem? (i := 876) (by decide +kernel)) (by decide +kernel)
theorem k877 : Cond.methodLink "SmokeZonesLaw" 123 y_Mo_steelAt ∈ GW := gw_t (List.mem_of_getElem? (i := 877) (by decide +kernel)) (by decide +kernel)
theorem k878 : Cond.instanceMethod y_Mo_steelAt ∈ GW := gw_t (List.mem_of_getElem? (i := 878) (by decide +kernel)) (by decide +kernel)
theorem k879 : Cond.selects "SmokeZonesModel" y_Mo_steelAt y_Mo_steelAt ∈ GW := gw_t (List.mem_of_getElem? (i := 879) (by decide +kernel)) (by decide +kernel)
theorem k880 : Cond.code y_Mo_steelAt prog_9_method_29_code 2 (some .int) ∈ GW := gw_t (List.mem_of_getElem? (i := 880) (by decide +kernel)) (by decide +kernel)
theorem k881 : Cond.methodLink "SmokeZonesLaw" 126 y_Mo_balance ∈ GW := gw_t (List.mem_of_getElem? (i := 881) (by decide +kernel)) (by decide +kernel)
theorem k882 : Cond.instanceMethod y_Mo_balance ∈ GW := gw_t (List.mem_of_getElem? (i := 882) (by decide +kernel)) (by decide +kernel)
theorem k883 : Cond.selects "SmokeZonesModel" y_Mo_balance y_Mo_balance ∈ GW := gw_t (List.mem_of_getElem? (i := 883) (by decide +kernel)) (by decide +kernel)
theorem k884 : Cond.code y_Mo_balance prog_9_method_30_code 5 (some .long) ∈ GW := gw_t (List.mem_of_getElem? (i := 884) (by decide +kernel)) (by decide +kernel)
theorem ks_Sz_needPlace : Cond.selects "SmokeZones" y_Sz_needPlace y_Sz_needPlace ∈ GW := gw_s (List.mem_of_getElem? (i := 1) (by decide +kernel)) (by decide +kernel)
theorem ks_Sz_isRoom : Cond.selects "SmokeZones" y_Sz_isRoom y_Sz_isRoom ∈ GW := gw_s (List.mem_of_getElem? (i := 2) (by decide +kernel)) (by decide +kernel)
theorem ks_Sz_passSecond : Cond.selects "SmokeZones" y_Sz_passSecond y_Sz_passSecond ∈ GW := gw_s (List.mem_of_getElem? (i := 3) (by decide +kernel)) (by decide +kernel)
theorem ks_Sz_burnFires : Cond.selects "SmokeZones" y_Sz_burnFires y_Sz_burnFires ∈ GW := gw_s (List.mem_of_getElem? (i := 4) (by decide +kernel)) (by decide +kernel)
theorem ks_Sz_flowThroughOpenings : Cond.selects "SmokeZones" y_Sz_flowThroughOpenings y_Sz_flowThroughOpenings ∈ GW := gw_s (List.mem_of_getElem? (i := 5) (by decide +kernel)) (by decide +kernel)
theorem ks_Sz_blowFans : Cond.selects "SmokeZones" y_Sz_blowFans y_Sz_blowFans ∈ GW := gw_s (List.mem_of_getElem? (i := 6) (by decide +kernel)) (by decide +kernel)
theorem ks_Sz_pressOutOfRooms : Cond.selects "SmokeZones" y_Sz_pressOutOfRooms y_Sz_pressOutOfRooms ∈ GW := gw_s (List.mem_of_getElem? (i := 7) (by decide +kernel)) (by decide +kernel)
theorem ks_Sz_warmThings : Cond.selects "SmokeZones" y_Sz_warmThings y_Sz_warmThings ∈ GW := gw_s (List.mem_of_getElem? (i := 8) (by decide +kernel)) (by decide +kernel)
theorem ks_Sz_movePersons : Cond.selects "SmokeZones" y_Sz_movePersons y_Sz_movePersons ∈ GW := gw_s (List.mem_of_getElem? (i := 9) (by decide +kernel)) (by decide +kernel)
theorem ks_Sz_noteLowRooms : Cond.selects "SmokeZones" y_Sz_noteLowRooms y_Sz_noteLowRooms ∈ GW := gw_s (List.mem_of_getElem? (i := 10) (by decide +kernel)) (by decide +kernel)
theorem ks_Sz_smokeInRooms : Cond.selects "SmokeZones" y_Sz_smokeInRooms y_Sz_smokeInRooms ∈ GW := gw_s (List.mem_of_getElem? (i := 11) (by decide +kernel)) (by decide +kernel)
theorem ks_Mo_isRoom : Cond.selects "SmokeZonesModel" y_Mo_isRoom y_Mo_isRoom ∈ GW := gw_s (List.mem_of_getElem? (i := 12) (by decide +kernel)) (by decide +kernel)
theorem ks_Mo_isRoomOrOut : Cond.selects "SmokeZonesModel" y_Mo_isRoomOrOut y_Mo_isRoomOrOut ∈ GW := gw_s (List.mem_of_getElem? (i := 13) (by decide +kernel)) (by decide +kernel)
theorem ks_Mo_burn : Cond.selects "SmokeZonesModel" y_Mo_burn y_Mo_burn ∈ GW := gw_s (List.mem_of_getElem? (i := 14) (by decide +kernel)) (by decide +kernel)
theorem ks_Mo_flow : Cond.selects "SmokeZonesModel" y_Mo_flow y_Mo_flow ∈ GW := gw_s (List.mem_of_getElem? (i := 15) (by decide +kernel)) (by decide +kernel)
theorem ks_Mo_covered : Cond.selects "SmokeZonesModel" y_Mo_covered y_Mo_covered ∈ GW := gw_s (List.mem_of_getElem? (i := 16) (by decide +kernel)) (by decide +kernel)
theorem ks_Mo_clearTo : Cond.selects "SmokeZonesModel" y_Mo_clearTo y_Mo_clearTo ∈ GW := gw_s (List.mem_of_getElem? (i := 17) (by decide +kernel)) (by decide +kernel)
theorem ks_Mo_blow : Cond.selects "SmokeZonesModel" y_Mo_blow y_Mo_blow ∈ GW := gw_s (List.mem_of_getElem? (i := 18) (by decide +kernel)) (by decide +kernel)
theorem ks_Mo_press : Cond.selects "SmokeZonesModel" y_Mo_press y_Mo_press ∈ GW := gw_s (List.mem_of_getElem? (i := 19) (by decide +kernel)) (by decide +kernel)
theorem ks_Mo_act : Cond.selects "SmokeZonesModel" y_Mo_act y_Mo_act ∈ GW := gw_s (List.mem_of_getElem? (i := 20) (by decide +kernel)) (by decide +kernel)
theorem ks_Mo_isHot : Cond.selects "SmokeZonesModel" y_Mo_isHot y_Mo_isHot ∈ GW := gw_s (List.mem_of_getElem? (i := 21) (by decide +kernel)) (by decide +kernel)
theorem ks_Mo_warmth : Cond.selects "SmokeZonesModel" y_Mo_warmth y_Mo_warmth ∈ GW := gw_s (List.mem_of_getElem? (i := 22) (by decide +kernel)) (by decide +kernel)
theorem ks_Mo_breathe : Cond.selects "SmokeZonesModel" y_Mo_breathe y_Mo_breathe ∈ GW := gw_s (List.mem_of_getElem? (i := 23) (by decide +kernel)) (by decide +kernel)
theorem nm_Ro : ∀ a, a < 8 → ∀ b, b < 8 → a ≠ b → (T_Ro a).2.1 ≠ (T_Ro b).2.1 := by decide +kernel
theorem ok_Ro : ∀ k, k < 8 → parseFieldDescriptor (T_Ro k).2.2.1 = some (ty_Ro k) := by decide +kernel
theorem in_Ro : ∀ w ∈ u_ws "SmokeZones$Room" T_Ro 8, w ∈ GW := fun w h => List.mem_filter.mpr ⟨(show ∀ w ∈ u_ws "SmokeZones$Room" T_Ro 8, w ∈ lw_tbl by decide +kernel) w h, (show ∀ w ∈ u_ws "SmokeZones$Room" T_Ro 8, goodWord w = true by decide +kernel) w h⟩
theorem nm_Op : ∀ a, a < 10 → ∀ b, b < 10 → a ≠ b → (T_Op a).2.1 ≠ (T_Op b).2.1 := by decide +kernel
theorem ok_Op : ∀ k, k < 10 → parseFieldDescriptor (T_Op k).2.2.1 = some (ty_Op k) := by decide +kernel
theorem in_Op : ∀ w ∈ u_ws "SmokeZones$Opening" T_Op 10, w ∈ GW := fun w h => List.mem_filter.mpr ⟨(show ∀ w ∈ u_ws "SmokeZones$Opening" T_Op 10, w ∈ lw_tbl by decide +kernel) w h, (show ∀ w ∈ u_ws "SmokeZones$Opening" T_Op 10, goodWord w = true by decide +kernel) w h⟩
theorem nm_Fi : ∀ a, a < 5 → ∀ b, b < 5 → a ≠ b → (T_Fi a).2.1 ≠ (T_Fi b).2.1 := by decide +kernel
theorem ok_Fi : ∀ k, k < 5 → parseFieldDescriptor (T_Fi k).2.2.1 = some (ty_Fi k) := by decide +kernel
theorem in_Fi : ∀ w ∈ u_ws "SmokeZones$Fire" T_Fi 5, w ∈ GW := fun w h => List.mem_filter.mpr ⟨(show ∀ w ∈ u_ws "SmokeZones$Fire" T_Fi 5, w ∈ lw_tbl by decide +kernel) w h, (show ∀ w ∈ u_ws "SmokeZones$Fire" T_Fi 5, goodWord w = true by decide +kernel) w h⟩
theorem nm_Fa : ∀ a, a < 3 → ∀ b, b < 3 → a ≠ b → (T_Fa a).2.1 ≠ (T_Fa b).2.1 := by decide +kernel
theorem ok_Fa : ∀ k, k < 3 → parseFieldDescriptor (T_Fa k).2.2.1 = some (ty_Fa k) := by decide +kernel
theorem in_Fa : ∀ w ∈ u_ws "SmokeZones$Fan" T_Fa 3, w ∈ GW := fun w h => List.mem_filter.mpr ⟨(show ∀ w ∈ u_ws "SmokeZones$Fan" T_Fa 3, w ∈ lw_tbl by decide +kernel) w h, (show ∀ w ∈ u_ws "SmokeZones$Fan" T_Fa 3, goodWord w = true by decide +kernel) w h⟩
theorem nm_St : ∀ a, a < 3 → ∀ b, b < 3 → a ≠ b → (T_St a).2.1 ≠ (T_St b).2.1 := by decide +kernel
theorem ok_St : ∀ k, k < 3 → parseFieldDescriptor (T_St k).2.2.1 = some (ty_St k) := by decide +kernel
theorem in_St : ∀ w ∈ u_ws "SmokeZones$Steel" T_St 3, w ∈ GW := fun w h => List.mem_filter.mpr ⟨(show ∀ w ∈ u_ws "SmokeZones$Steel" T_St 3, w ∈ lw_tbl by decide +kernel) w h, (show ∀ w ∈ u_ws "SmokeZones$Steel" T_St 3, goodWord w = true by decide +kernel) w h⟩
theorem nm_Pe : ∀ a, a < 8 → ∀ b, b < 8 → a ≠ b → (T_Pe a).2.1 ≠ (T_Pe b).2.1 := by decide +kernel
theorem ok_Pe : ∀ k, k < 8 → parseFieldDescriptor (T_Pe k).2.2.1 = some (ty_Pe k) := by decide +kernel
theorem in_Pe : ∀ w ∈ u_ws "SmokeZones$Person" T_Pe 8, w ∈ GW := fun w h => List.mem_filter.mpr ⟨(show ∀ w ∈ u_ws "SmokeZones$Person" T_Pe 8, w ∈ lw_tbl by decide +kernel) w h, (show ∀ w ∈ u_ws "SmokeZones$Person" T_Pe 8, goodWord w = true by decide +kernel) w h⟩
theorem nm_Sz : ∀ a, a < 17 → ∀ b, b < 17 → a ≠ b → (T_Sz a).2.1 ≠ (T_Sz b).2.1 := by decide +kernel
theorem ok_Sz : ∀ k, k < 17 → parseFieldDescriptor (T_Sz k).2.2.1 = some (ty_Sz k) := by decide +kernel
theorem in_Sz : ∀ w ∈ u_ws "SmokeZones" T_Sz 17, w ∈ GW := fun w h => List.mem_filter.mpr ⟨(show ∀ w ∈ u_ws "SmokeZones" T_Sz 17, w ∈ lw_tbl by decide +kernel) w h, (show ∀ w ∈ u_ws "SmokeZones" T_Sz 17, goodWord w = true by decide +kernel) w h⟩
theorem nm_Mo : ∀ a, a < 47 → ∀ b, b < 47 → a ≠ b → (T_Mo a).2.1 ≠ (T_Mo b).2.1 := by decide +kernel
theorem ok_Mo : ∀ k, k < 47 → parseFieldDescriptor (T_Mo k).2.2.1 = some (ty_Mo k) := by decide +kernel
theorem in_Mo : ∀ w ∈ u_ws "SmokeZonesModel" T_Mo 47, w ∈ GW := fun w h => List.mem_filter.mpr ⟨(show ∀ w ∈ u_ws "SmokeZonesModel" T_Mo 47, w ∈ lw_tbl by decide +kernel) w h, (show ∀ w ∈ u_ws "SmokeZonesModel" T_Mo 47, goodWord w = true by decide +kernel) w h⟩
theorem km_max_s : Cond.static Lib.MathLoose.max_long.x ∈ GW := k479
theorem km_max_c : Cond.code Lib.MathLoose.max_long.x Lib.MathLoose.max_long.code 4 (some .long) ∈ GW := gw_t (List.mem_of_getElem? (i := 480) (by decide +kernel)) (by decide +kernel)
theorem km_min_s : Cond.static Lib.MathLoose.min_long.x ∈ GW := k447
theorem km_min_c : Cond.code Lib.MathLoose.min_long.x Lib.MathLoose.min_long.code 4 (some .long) ∈ GW := gw_t (List.mem_of_getElem? (i := 448) (by decide +kernel)) (by decide +kernel)
theorem km_abs_s : Cond.static Lib.MathLoose.abs_long.x ∈ GW := k496
theorem km_abs_c : Cond.code Lib.MathLoose.abs_long.x Lib.MathLoose.abs_long.code 2 (some .long) ∈ GW := gw_t (List.mem_of_getElem? (i := 497) (by decide +kernel)) (by decide +kernel)
theorem hd_Sz_init : y_Sz_init.cls ≠ "java/lang/invoke/MethodHandle" ∧ y_Sz_init.cls ≠ "java/lang/invoke/VarHandle" ∧ (parseMethodDescriptor y_Sz_init.desc).map (fun d => d.parameters.length) = some 0 := by decide +kernel
theorem hd_La_room : y_La_room.cls = "SmokeZonesLaw" ∧ y_La_room.cls ≠ "java/lang/invoke/MethodHandle" ∧ y_La_room.cls ≠ "java/lang/invoke/VarHandle" ∧ (parseMethodDescriptor y_La_room.desc).map (fun d => d.parameters.length) = some 4 := by decide +kernel
theorem hd_Sz_room : y_Sz_room.cls = "SmokeZones" ∧ y_Sz_room.cls ≠ "java/lang/invoke/MethodHandle" ∧ y_Sz_room.cls ≠ "java/lang/invoke/VarHandle" ∧ (parseMethodDescriptor y_Sz_room.desc).map (fun d => d.parameters.length) = some 2 := by decide +kernel
theorem hd_Sz_needBetween : y_Sz_needBetween.cls = "SmokeZones" ∧ y_Sz_needBetween.cls ≠ "java/lang/invoke/MethodHandle" ∧ y_Sz_needBetween.cls ≠ "java/lang/invoke/VarHandle" ∧ (parseMethodDescriptor y_Sz_needBetween.desc).map (fun d => d.parameters.length) = some 3 := by decide +kernel
theorem hd_Sz_needArgument : y_Sz_needArgument.cls = "SmokeZones" ∧ y_Sz_needArgument.cls ≠ "java/lang/invoke/MethodHandle" ∧ y_Sz_needArgument.cls ≠ "java/lang/invoke/VarHandle" ∧ (parseMethodDescriptor y_Sz_needArgument.desc).map (fun d => d.parameters.length) = some 1 := by decide +kernel
theorem hd_Sz_needSpace : y_Sz_needSpace.cls = "SmokeZones" ∧ y_Sz_needSpace.cls ≠ "java/lang/invoke/MethodHandle" ∧ y_Sz_needSpace.cls ≠ "java/lang/invoke/VarHandle" ∧ (parseMethodDescriptor y_Sz_needSpace.desc).map (fun d => d.parameters.length) = some 2 := by decide +kernel
theorem hd_Sz_needState : y_Sz_needState.cls = "SmokeZones" ∧ y_Sz_needState.cls ≠ "java/lang/invoke/MethodHandle" ∧ y_Sz_needState.cls ≠ "java/lang/invoke/VarHandle" ∧ (parseMethodDescriptor y_Sz_needState.desc).map (fun d => d.parameters.length) = some 1 := by decide +kernel
theorem hd_Ro_init : y_Ro_init.cls ≠ "java/lang/invoke/MethodHandle" ∧ y_Ro_init.cls ≠ "java/lang/invoke/VarHandle" ∧ (parseMethodDescriptor y_Ro_init.desc).map (fun d => d.parameters.length) = some 2 := by decide +kernel
theorem hd_La_opening : y_La_opening.cls = "SmokeZonesLaw" ∧ y_La_opening.cls ≠ "java/lang/invoke/MethodHandle" ∧ y_La_opening.cls ≠ "java/lang/invoke/VarHandle" ∧ (parseMethodDescriptor y_La_opening.desc).map (fun d => d.parameters.length) = some 7 := by decide +kernel
theorem hd_Sz_opening : y_Sz_opening.cls = "SmokeZones" ∧ y_Sz_opening.cls ≠ "java/lang/invoke/MethodHandle" ∧ y_Sz_opening.cls ≠ "java/lang/invoke/VarHandle" ∧ (parseMethodDescriptor y_Sz_opening.desc).map (fun d => d.parameters.length) = some 5 := by decide +kernel
theorem hd_Sz_needNumber : y_Sz_needNumber.cls = "SmokeZones" ∧ y_Sz_needNumber.cls ≠ "java/lang/invoke/MethodHandle" ∧ y_Sz_needNumber.cls ≠ "java/lang/invoke/VarHandle" ∧ (parseMethodDescriptor y_Sz_needNumber.desc).map (fun d => d.parameters.length) = some 2 := by decide +kernel
theorem hd_Sz_needPlace : y_Sz_needPlace.cls = "SmokeZones" ∧ y_Sz_needPlace.cls ≠ "java/lang/invoke/MethodHandle" ∧ y_Sz_needPlace.cls ≠ "java/lang/invoke/VarHandle" ∧ (parseMethodDescriptor y_Sz_needPlace.desc).map (fun d => d.parameters.length) = some 1 := by decide +kernel
theorem hd_Sz_isRoom : y_Sz_isRoom.cls = "SmokeZones" ∧ y_Sz_isRoom.cls ≠ "java/lang/invoke/MethodHandle" ∧ y_Sz_isRoom.cls ≠ "java/lang/invoke/VarHandle" ∧ (parseMethodDescriptor y_Sz_isRoom.desc).map (fun d => d.parameters.length) = some 1 := by decide +kernel
theorem hd_Op_init : y_Op_init.cls ≠ "java/lang/invoke/MethodHandle" ∧ y_Op_init.cls ≠ "java/lang/invoke/VarHandle" ∧ (parseMethodDescriptor y_Op_init.desc).map (fun d => d.parameters.length) = some 5 := by decide +kernel
theorem hd_La_glass : y_La_glass.cls = "SmokeZonesLaw" ∧ y_La_glass.cls ≠ "java/lang/invoke/MethodHandle" ∧ y_La_glass.cls ≠ "java/lang/invoke/VarHandle" ∧ (parseMethodDescriptor y_La_glass.desc).map (fun d => d.parameters.length) = some 3 := by decide +kernel
theorem hd_Sz_glass : y_Sz_glass.cls = "SmokeZones" ∧ y_Sz_glass.cls ≠ "java/lang/invoke/MethodHandle" ∧ y_Sz_glass.cls ≠ "java/lang/invoke/VarHandle" ∧ (parseMethodDescriptor y_Sz_glass.desc).map (fun d => d.parameters.length) = some 2 := by decide +kernel
theorem hd_La_fire : y_La_fire.cls = "SmokeZonesLaw" ∧ y_La_fire.cls ≠ "java/lang/invoke/MethodHandle" ∧ y_La_fire.cls ≠ "java/lang/invoke/VarHandle" ∧ (parseMethodDescriptor y_La_fire.desc).map (fun d => d.parameters.length) = some 7 := by decide +kernel
theorem hd_Sz_fire : y_Sz_fire.cls = "SmokeZones" ∧ y_Sz_fire.cls ≠ "java/lang/invoke/MethodHandle" ∧ y_Sz_fire.cls ≠ "java/lang/invoke/VarHandle" ∧ (parseMethodDescriptor y_Sz_fire.desc).map (fun d => d.parameters.length) = some 5 := by decide +kernel
theorem hd_Fi_init : y_Fi_init.cls ≠ "java/lang/invoke/MethodHandle" ∧ y_Fi_init.cls ≠ "java/lang/invoke/VarHandle" ∧ (parseMethodDescriptor y_Fi_init.desc).map (fun d => d.parameters.length) = some 5 := by decide +kernel
theorem hd_La_sprinkler : y_La_sprinkler.cls = "SmokeZonesLaw" ∧ y_La_sprinkler.cls ≠ "java/lang/invoke/MethodHandle" ∧ y_La_sprinkler.cls ≠ "java/lang/invoke/VarHandle" ∧ (parseMethodDescriptor y_La_sprinkler.desc).map (fun d => d.parameters.length) = some 3 := by decide +kernel
theorem hd_Sz_sprinkler : y_Sz_sprinkler.cls = "SmokeZones" ∧ y_Sz_sprinkler.cls ≠ "java/lang/invoke/MethodHandle" ∧ y_Sz_sprinkler.cls ≠ "java/lang/invoke/VarHandle" ∧ (parseMethodDescriptor y_Sz_sprinkler.desc).map (fun d => d.parameters.length) = some 2 := by decide +kernel
theorem hd_La_fan : y_La_fan.cls = "SmokeZonesLaw" ∧ y_La_fan.cls ≠ "java/lang/invoke/MethodHandle" ∧ y_La_fan.cls ≠ "java/lang/invoke/VarHandle" ∧ (parseMethodDescriptor y_La_fan.desc).map (fun d => d.parameters.length) = some 5 := by decide +kernel
theorem hd_Sz_fan : y_Sz_fan.cls = "SmokeZones" ∧ y_Sz_fan.cls ≠ "java/lang/invoke/MethodHandle" ∧ y_Sz_fan.cls ≠ "java/lang/invoke/VarHandle" ∧ (parseMethodDescriptor y_Sz_fan.desc).map (fun d => d.parameters.length) = some 3 := by decide +kernel
theorem hd_Fa_init : y_Fa_init.cls ≠ "java/lang/invoke/MethodHandle" ∧ y_Fa_init.cls ≠ "java/lang/invoke/VarHandle" ∧ (parseMethodDescriptor y_Fa_init.desc).map (fun d => d.parameters.length) = some 3 := by decide +kernel
theorem hd_La_steel : y_La_steel.cls = "SmokeZonesLaw" ∧ y_La_steel.cls ≠ "java/lang/invoke/MethodHandle" ∧ y_La_steel.cls ≠ "java/lang/invoke/VarHandle" ∧ (parseMethodDescriptor y_La_steel.desc).map (fun d => d.parameters.length) = some 4 := by decide +kernel
theorem hd_Sz_steel : y_Sz_steel.cls = "SmokeZones" ∧ y_Sz_steel.cls ≠ "java/lang/invoke/MethodHandle" ∧ y_Sz_steel.cls ≠ "java/lang/invoke/VarHandle" ∧ (parseMethodDescriptor y_Sz_steel.desc).map (fun d => d.parameters.length) = some 2 := by decide +kernel
theorem hd_St_init : y_St_init.cls ≠ "java/lang/invoke/MethodHandle" ∧ y_St_init.cls ≠ "java/lang/invoke/VarHandle" ∧ (parseMethodDescriptor y_St_init.desc).map (fun d => d.parameters.length) = some 2 := by decide +kernel
theorem hd_La_person : y_La_person.cls = "SmokeZonesLaw" ∧ y_La_person.cls ≠ "java/lang/invoke/MethodHandle" ∧ y_La_person.cls ≠ "java/lang/invoke/VarHandle" ∧ (parseMethodDescriptor y_La_person.desc).map (fun d => d.parameters.length) = some 3 := by decide +kernel
theorem hd_Sz_person : y_Sz_person.cls = "SmokeZones" ∧ y_Sz_person.cls ≠ "java/lang/invoke/MethodHandle" ∧ y_Sz_person.cls ≠ "java/lang/invoke/VarHandle" ∧ (parseMethodDescriptor y_Sz_person.desc).map (fun d => d.parameters.length) = some 1 := by decide +kernel
theorem hd_Pe_init : y_Pe_init.cls ≠ "java/lang/invoke/MethodHandle" ∧ y_Pe_init.cls ≠ "java/lang/invoke/VarHandle" ∧ (parseMethodDescriptor y_Pe_init.desc).map (fun d => d.parameters.length) = some 1 := by decide +kernel
theorem hd_La_go : y_La_go.cls = "SmokeZonesLaw" ∧ y_La_go.cls ≠ "java/lang/invoke/MethodHandle" ∧ y_La_go.cls ≠ "java/lang/invoke/VarHandle" ∧ (parseMethodDescriptor y_La_go.desc).map (fun d => d.parameters.length) = some 4 := by decide +kernel
theorem hd_Sz_go : y_Sz_go.cls = "SmokeZones" ∧ y_Sz_go.cls ≠ "java/lang/invoke/MethodHandle" ∧ y_Sz_go.cls ≠ "java/lang/invoke/VarHandle" ∧ (parseMethodDescriptor y_Sz_go.desc).map (fun d => d.parameters.length) = some 3 := by decide +kernel
theorem hd_Pe_tell : y_Pe_tell.cls = "SmokeZones$Person" ∧ y_Pe_tell.cls ≠ "java/lang/invoke/MethodHandle" ∧ y_Pe_tell.cls ≠ "java/lang/invoke/VarHandle" ∧ (parseMethodDescriptor y_Pe_tell.desc).map (fun d => d.parameters.length) = some 2 := by decide +kernel
theorem hd_La_run : y_La_run.cls = "SmokeZonesLaw" ∧ y_La_run.cls ≠ "java/lang/invoke/MethodHandle" ∧ y_La_run.cls ≠ "java/lang/invoke/VarHandle" ∧ (parseMethodDescriptor y_La_run.desc).map (fun d => d.parameters.length) = some 3 := by decide +kernel
theorem hd_Sz_run : y_Sz_run.cls = "SmokeZones" ∧ y_Sz_run.cls ≠ "java/lang/invoke/MethodHandle" ∧ y_Sz_run.cls ≠ "java/lang/invoke/VarHandle" ∧ (parseMethodDescriptor y_Sz_run.desc).map (fun d => d.parameters.length) = some 1 := by decide +kernel
theorem hd_Sz_passSecond : y_Sz_passSecond.cls = "SmokeZones" ∧ y_Sz_passSecond.cls ≠ "java/lang/invoke/MethodHandle" ∧ y_Sz_passSecond.cls ≠ "java/lang/invoke/VarHandle" ∧ (parseMethodDescriptor y_Sz_passSecond.desc).map (fun d => d.parameters.length) = some 0 := by decide +kernel
theorem hd_Sz_burnFires : y_Sz_burnFires.cls = "SmokeZones" ∧ y_Sz_burnFires.cls ≠ "java/lang/invoke/MethodHandle" ∧ y_Sz_burnFires.cls ≠ "java/lang/invoke/VarHandle" ∧ (parseMethodDescriptor y_Sz_burnFires.desc).map (fun d => d.parameters.length) = some 0 := by decide +kernel
theorem hd_Fi_burn : y_Fi_burn.cls = "SmokeZones$Fire" ∧ y_Fi_burn.cls ≠ "java/lang/invoke/MethodHandle" ∧ y_Fi_burn.cls ≠ "java/lang/invoke/VarHandle" ∧ (parseMethodDescriptor y_Fi_burn.desc).map (fun d => d.parameters.length) = some 1 := by decide +kernel
theorem hd_Ro_add : y_Ro_add.cls = "SmokeZones$Room" ∧ y_Ro_add.cls ≠ "java/lang/invoke/MethodHandle" ∧ y_Ro_add.cls ≠ "java/lang/invoke/VarHandle" ∧ (parseMethodDescriptor y_Ro_add.desc).map (fun d => d.parameters.length) = some 2 := by decide +kernel
theorem hd_Sz_flowThroughOpenings : y_Sz_flowThroughOpenings.cls = "SmokeZones" ∧ y_Sz_flowThroughOpenings.cls ≠ "java/lang/invoke/MethodHandle" ∧ y_Sz_flowThroughOpenings.cls ≠ "java/lang/invoke/VarHandle" ∧ (parseMethodDescriptor y_Sz_flowThroughOpenings.desc).map (fun d => d.parameters.length) = some 0 := by decide +kernel
theorem hd_Op_measureFlow : y_Op_measureFlow.cls = "SmokeZones$Opening" ∧ y_Op_measureFlow.cls ≠ "java/lang/invoke/MethodHandle" ∧ y_Op_measureFlow.cls ≠ "java/lang/invoke/VarHandle" ∧ (parseMethodDescriptor y_Op_measureFlow.desc).map (fun d => d.parameters.length) = some 0 := by decide +kernel
theorem hd_Op_isOpen : y_Op_isOpen.cls = "SmokeZones$Opening" ∧ y_Op_isOpen.cls ≠ "java/lang/invoke/MethodHandle" ∧ y_Op_isOpen.cls ≠ "java/lang/invoke/VarHandle" ∧ (parseMethodDescriptor y_Op_isOpen.desc).map (fun d => d.parameters.length) = some 0 := by decide +kernel
theorem hd_Ro_covered : y_Ro_covered.cls = "SmokeZones$Room" ∧ y_Ro_covered.cls ≠ "java/lang/invoke/MethodHandle" ∧ y_Ro_covered.cls ≠ "java/lang/invoke/VarHandle" ∧ (parseMethodDescriptor y_Ro_covered.desc).map (fun d => d.parameters.length) = some 2 := by decide +kernel
theorem hd_Ro_clear : y_Ro_clear.cls = "SmokeZones$Room" ∧ y_Ro_clear.cls ≠ "java/lang/invoke/MethodHandle" ∧ y_Ro_clear.cls ≠ "java/lang/invoke/VarHandle" ∧ (parseMethodDescriptor y_Ro_clear.desc).map (fun d => d.parameters.length) = some 0 := by decide +kernel
theorem hd_Ro_depth : y_Ro_depth.cls = "SmokeZones$Room" ∧ y_Ro_depth.cls ≠ "java/lang/invoke/MethodHandle" ∧ y_Ro_depth.cls ≠ "java/lang/invoke/VarHandle" ∧ (parseMethodDescriptor y_Ro_depth.desc).map (fun d => d.parameters.length) = some 0 := by decide +kernel
theorem hd_Op_flowFrom : y_Op_flowFrom.cls = "SmokeZones$Opening" ∧ y_Op_flowFrom.cls ≠ "java/lang/invoke/MethodHandle" ∧ y_Op_flowFrom.cls ≠ "java/lang/invoke/VarHandle" ∧ (parseMethodDescriptor y_Op_flowFrom.desc).map (fun d => d.parameters.length) = some 2 := by decide +kernel
theorem hd_Ro_heatWith : y_Ro_heatWith.cls = "SmokeZones$Room" ∧ y_Ro_heatWith.cls ≠ "java/lang/invoke/MethodHandle" ∧ y_Ro_heatWith.cls ≠ "java/lang/invoke/VarHandle" ∧ (parseMethodDescriptor y_Ro_heatWith.desc).map (fun d => d.parameters.length) = some 1 := by decide +kernel
theorem hd_Op_moveFlow : y_Op_moveFlow.cls = "SmokeZones$Opening" ∧ y_Op_moveFlow.cls ≠ "java/lang/invoke/MethodHandle" ∧ y_Op_moveFlow.cls ≠ "java/lang/invoke/VarHandle" ∧ (parseMethodDescriptor y_Op_moveFlow.desc).map (fun d => d.parameters.length) = some 0 := by decide +kernel
theorem hd_Sz_blowFans : y_Sz_blowFans.cls = "SmokeZones" ∧ y_Sz_blowFans.cls ≠ "java/lang/invoke/MethodHandle" ∧ y_Sz_blowFans.cls ≠ "java/lang/invoke/VarHandle" ∧ (parseMethodDescriptor y_Sz_blowFans.desc).map (fun d => d.parameters.length) = some 0 := by decide +kernel
theorem hd_Fa_blow : y_Fa_blow.cls = "SmokeZones$Fan" ∧ y_Fa_blow.cls ≠ "java/lang/invoke/MethodHandle" ∧ y_Fa_blow.cls ≠ "java/lang/invoke/VarHandle" ∧ (parseMethodDescriptor y_Fa_blow.desc).map (fun d => d.parameters.length) = some 1 := by decide +kernel
theorem hd_Sz_pressOutOfRooms : y_Sz_pressOutOfRooms.cls = "SmokeZones" ∧ y_Sz_pressOutOfRooms.cls ≠ "java/lang/invoke/MethodHandle" ∧ y_Sz_pressOutOfRooms.cls ≠ "java/lang/invoke/VarHandle" ∧ (parseMethodDescriptor y_Sz_pressOutOfRooms.desc).map (fun d => d.parameters.length) = some 0 := by decide +kernel
theorem hd_Ro_pressOut : y_Ro_pressOut.cls = "SmokeZones$Room" ∧ y_Ro_pressOut.cls ≠ "java/lang/invoke/MethodHandle" ∧ y_Ro_pressOut.cls ≠ "java/lang/invoke/VarHandle" ∧ (parseMethodDescriptor y_Ro_pressOut.desc).map (fun d => d.parameters.length) = some 0 := by decide +kernel
theorem hd_Sz_warmThings : y_Sz_warmThings.cls = "SmokeZones" ∧ y_Sz_warmThings.cls ≠ "java/lang/invoke/MethodHandle" ∧ y_Sz_warmThings.cls ≠ "java/lang/invoke/VarHandle" ∧ (parseMethodDescriptor y_Sz_warmThings.desc).map (fun d => d.parameters.length) = some 0 := by decide +kernel
theorem hd_Ro_testSprinkler : y_Ro_testSprinkler.cls = "SmokeZones$Room" ∧ y_Ro_testSprinkler.cls ≠ "java/lang/invoke/MethodHandle" ∧ y_Ro_testSprinkler.cls ≠ "java/lang/invoke/VarHandle" ∧ (parseMethodDescriptor y_Ro_testSprinkler.desc).map (fun d => d.parameters.length) = some 0 := by decide +kernel
theorem hd_Ro_warmth : y_Ro_warmth.cls = "SmokeZones$Room" ∧ y_Ro_warmth.cls ≠ "java/lang/invoke/MethodHandle" ∧ y_Ro_warmth.cls ≠ "java/lang/invoke/VarHandle" ∧ (parseMethodDescriptor y_Ro_warmth.desc).map (fun d => d.parameters.length) = some 0 := by decide +kernel
theorem hd_Op_testGlass : y_Op_testGlass.cls = "SmokeZones$Opening" ∧ y_Op_testGlass.cls ≠ "java/lang/invoke/MethodHandle" ∧ y_Op_testGlass.cls ≠ "java/lang/invoke/VarHandle" ∧ (parseMethodDescriptor y_Op_testGlass.desc).map (fun d => d.parameters.length) = some 0 := by decide +kernel
theorem hd_Op_isHot : y_Op_isHot.cls = "SmokeZones$Opening" ∧ y_Op_isHot.cls ≠ "java/lang/invoke/MethodHandle" ∧ y_Op_isHot.cls ≠ "java/lang/invoke/VarHandle" ∧ (parseMethodDescriptor y_Op_isHot.desc).map (fun d => d.parameters.length) = some 1 := by decide +kernel
theorem hd_St_getWarm : y_St_getWarm.cls = "SmokeZones$Steel" ∧ y_St_getWarm.cls ≠ "java/lang/invoke/MethodHandle" ∧ y_St_getWarm.cls ≠ "java/lang/invoke/VarHandle" ∧ (parseMethodDescriptor y_St_getWarm.desc).map (fun d => d.parameters.length) = some 0 := by decide +kernel
theorem hd_Sz_movePersons : y_Sz_movePersons.cls = "SmokeZones" ∧ y_Sz_movePersons.cls ≠ "java/lang/invoke/MethodHandle" ∧ y_Sz_movePersons.cls ≠ "java/lang/invoke/VarHandle" ∧ (parseMethodDescriptor y_Sz_movePersons.desc).map (fun d => d.parameters.length) = some 0 := by decide +kernel
theorem hd_Pe_walk : y_Pe_walk.cls = "SmokeZones$Person" ∧ y_Pe_walk.cls ≠ "java/lang/invoke/MethodHandle" ∧ y_Pe_walk.cls ≠ "java/lang/invoke/VarHandle" ∧ (parseMethodDescriptor y_Pe_walk.desc).map (fun d => d.parameters.length) = some 1 := by decide +kernel
theorem hd_Pe_breathe : y_Pe_breathe.cls = "SmokeZones$Person" ∧ y_Pe_breathe.cls ≠ "java/lang/invoke/MethodHandle" ∧ y_Pe_breathe.cls ≠ "java/lang/invoke/VarHandle" ∧ (parseMethodDescriptor y_Pe_breathe.desc).map (fun d => d.parameters.length) = some 1 := by decide +kernel
theorem hd_Ro_isLow : y_Ro_isLow.cls = "SmokeZones$Room" ∧ y_Ro_isLow.cls ≠ "java/lang/invoke/MethodHandle" ∧ y_Ro_isLow.cls ≠ "java/lang/invoke/VarHandle" ∧ (parseMethodDescriptor y_Ro_isLow.desc).map (fun d => d.parameters.length) = some 0 := by decide +kernel
theorem hd_Sz_noteLowRooms : y_Sz_noteLowRooms.cls = "SmokeZones" ∧ y_Sz_noteLowRooms.cls ≠ "java/lang/invoke/MethodHandle" ∧ y_Sz_noteLowRooms.cls ≠ "java/lang/invoke/VarHandle" ∧ (parseMethodDescriptor y_Sz_noteLowRooms.desc).map (fun d => d.parameters.length) = some 0 := by decide +kernel
theorem hd_Ro_noteIfLow : y_Ro_noteIfLow.cls = "SmokeZones$Room" ∧ y_Ro_noteIfLow.cls ≠ "java/lang/invoke/MethodHandle" ∧ y_Ro_noteIfLow.cls ≠ "java/lang/invoke/VarHandle" ∧ (parseMethodDescriptor y_Ro_noteIfLow.desc).map (fun d => d.parameters.length) = some 1 := by decide +kernel
theorem hd_La_roomAt : y_La_roomAt.cls = "SmokeZonesLaw" ∧ y_La_roomAt.cls ≠ "java/lang/invoke/MethodHandle" ∧ y_La_roomAt.cls ≠ "java/lang/invoke/VarHandle" ∧ (parseMethodDescriptor y_La_roomAt.desc).map (fun d => d.parameters.length) = some 4 := by decide +kernel
theorem hd_Sz_roomAt : y_Sz_roomAt.cls = "SmokeZones" ∧ y_Sz_roomAt.cls ≠ "java/lang/invoke/MethodHandle" ∧ y_Sz_roomAt.cls ≠ "java/lang/invoke/VarHandle" ∧ (parseMethodDescriptor y_Sz_roomAt.desc).map (fun d => d.parameters.length) = some 2 := by decide +kernel
theorem hd_La_openingAt : y_La_openingAt.cls = "SmokeZonesLaw" ∧ y_La_openingAt.cls ≠ "java/lang/invoke/MethodHandle" ∧ y_La_openingAt.cls ≠ "java/lang/invoke/VarHandle" ∧ (parseMethodDescriptor y_La_openingAt.desc).map (fun d => d.parameters.length) = some 4 := by decide +kernel
theorem hd_Sz_openingAt : y_Sz_openingAt.cls = "SmokeZones" ∧ y_Sz_openingAt.cls ≠ "java/lang/invoke/MethodHandle" ∧ y_Sz_openingAt.cls ≠ "java/lang/invoke/VarHandle" ∧ (parseMethodDescriptor y_Sz_openingAt.desc).map (fun d => d.parameters.length) = some 2 := by decide +kernel
theorem hd_La_personAt : y_La_personAt.cls = "SmokeZonesLaw" ∧ y_La_personAt.cls ≠ "java/lang/invoke/MethodHandle" ∧ y_La_personAt.cls ≠ "java/lang/invoke/VarHandle" ∧ (parseMethodDescriptor y_La_personAt.desc).map (fun d => d.parameters.length) = some 4 := by decide +kernel
theorem hd_Sz_personAt : y_Sz_personAt.cls = "SmokeZones" ∧ y_Sz_personAt.cls ≠ "java/lang/invoke/MethodHandle" ∧ y_Sz_personAt.cls ≠ "java/lang/invoke/VarHandle" ∧ (parseMethodDescriptor y_Sz_personAt.desc).map (fun d => d.parameters.length) = some 2 := by decide +kernel
theorem hd_La_steelAt : y_La_steelAt.cls = "SmokeZonesLaw" ∧ y_La_steelAt.cls ≠ "java/lang/invoke/MethodHandle" ∧ y_La_steelAt.cls ≠ "java/lang/invoke/VarHandle" ∧ (parseMethodDescriptor y_La_steelAt.desc).map (fun d => d.parameters.length) = some 3 := by decide +kernel
theorem hd_Sz_steelAt : y_Sz_steelAt.cls = "SmokeZones" ∧ y_Sz_steelAt.cls ≠ "java/lang/invoke/MethodHandle" ∧ y_Sz_steelAt.cls ≠ "java/lang/invoke/VarHandle" ∧ (parseMethodDescriptor y_Sz_steelAt.desc).map (fun d => d.parameters.length) = some 1 := by decide +kernel
theorem hd_La_balance : y_La_balance.cls = "SmokeZonesLaw" ∧ y_La_balance.cls ≠ "java/lang/invoke/MethodHandle" ∧ y_La_balance.cls ≠ "java/lang/invoke/VarHandle" ∧ (parseMethodDescriptor y_La_balance.desc).map (fun d => d.parameters.length) = some 3 := by decide +kernel
theorem hd_Sz_balance : y_Sz_balance.cls = "SmokeZones" ∧ y_Sz_balance.cls ≠ "java/lang/invoke/MethodHandle" ∧ y_Sz_balance.cls ≠ "java/lang/invoke/VarHandle" ∧ (parseMethodDescriptor y_Sz_balance.desc).map (fun d => d.parameters.length) = some 1 := by decide +kernel
theorem hd_Sz_smokeInRooms : y_Sz_smokeInRooms.cls = "SmokeZones" ∧ y_Sz_smokeInRooms.cls ≠ "java/lang/invoke/MethodHandle" ∧ y_Sz_smokeInRooms.cls ≠ "java/lang/invoke/VarHandle" ∧ (parseMethodDescriptor y_Sz_smokeInRooms.desc).map (fun d => d.parameters.length) = some 0 := by decide +kernel
theorem hd_Mo_init : y_Mo_init.cls ≠ "java/lang/invoke/MethodHandle" ∧ y_Mo_init.cls ≠ "java/lang/invoke/VarHandle" ∧ (parseMethodDescriptor y_Mo_init.desc).map (fun d => d.parameters.length) = some 0 := by decide +kernel
theorem hd_Mo_thrown : y_Mo_thrown.cls = "SmokeZonesModel" ∧ y_Mo_thrown.cls ≠ "java/lang/invoke/MethodHandle" ∧ y_Mo_thrown.cls ≠ "java/lang/invoke/VarHandle" ∧ (parseMethodDescriptor y_Mo_thrown.desc).map (fun d => d.parameters.length) = some 0 := by decide +kernel
theorem hd_Mo_room : y_Mo_room.cls = "SmokeZonesModel" ∧ y_Mo_room.cls ≠ "java/lang/invoke/MethodHandle" ∧ y_Mo_room.cls ≠ "java/lang/invoke/VarHandle" ∧ (parseMethodDescriptor y_Mo_room.desc).map (fun d => d.parameters.length) = some 2 := by decide +kernel
theorem hd_Mo_in : y_Mo_in.cls = "SmokeZonesModel" ∧ y_Mo_in.cls ≠ "java/lang/invoke/MethodHandle" ∧ y_Mo_in.cls ≠ "java/lang/invoke/VarHandle" ∧ (parseMethodDescriptor y_Mo_in.desc).map (fun d => d.parameters.length) = some 3 := by decide +kernel
theorem hd_Mo_opening : y_Mo_opening.cls = "SmokeZonesModel" ∧ y_Mo_opening.cls ≠ "java/lang/invoke/MethodHandle" ∧ y_Mo_opening.cls ≠ "java/lang/invoke/VarHandle" ∧ (parseMethodDescriptor y_Mo_opening.desc).map (fun d => d.parameters.length) = some 5 := by decide +kernel
theorem hd_Mo_isRoom : y_Mo_isRoom.cls = "SmokeZonesModel" ∧ y_Mo_isRoom.cls ≠ "java/lang/invoke/MethodHandle" ∧ y_Mo_isRoom.cls ≠ "java/lang/invoke/VarHandle" ∧ (parseMethodDescriptor y_Mo_isRoom.desc).map (fun d => d.parameters.length) = some 1 := by decide +kernel
theorem hd_Mo_isRoomOrOut : y_Mo_isRoomOrOut.cls = "SmokeZonesModel" ∧ y_Mo_isRoomOrOut.cls ≠ "java/lang/invoke/MethodHandle" ∧ y_Mo_isRoomOrOut.cls ≠ "java/lang/invoke/VarHandle" ∧ (parseMethodDescriptor y_Mo_isRoomOrOut.desc).map (fun d => d.parameters.length) = some 1 := by decide +kernel
theorem hd_Mo_glass : y_Mo_glass.cls = "SmokeZonesModel" ∧ y_Mo_glass.cls ≠ "java/lang/invoke/MethodHandle" ∧ y_Mo_glass.cls ≠ "java/lang/invoke/VarHandle" ∧ (parseMethodDescriptor y_Mo_glass.desc).map (fun d => d.parameters.length) = some 2 := by decide +kernel
theorem hd_Mo_fire : y_Mo_fire.cls = "SmokeZonesModel" ∧ y_Mo_fire.cls ≠ "java/lang/invoke/MethodHandle" ∧ y_Mo_fire.cls ≠ "java/lang/invoke/VarHandle" ∧ (parseMethodDescriptor y_Mo_fire.desc).map (fun d => d.parameters.length) = some 5 := by decide +kernel
theorem hd_Mo_sprinkler : y_Mo_sprinkler.cls = "SmokeZonesModel" ∧ y_Mo_sprinkler.cls ≠ "java/lang/invoke/MethodHandle" ∧ y_Mo_sprinkler.cls ≠ "java/lang/invoke/VarHandle" ∧ (parseMethodDescriptor y_Mo_sprinkler.desc).map (fun d => d.parameters.length) = some 2 := by decide +kernel
theorem hd_Mo_fan : y_Mo_fan.cls = "SmokeZonesModel" ∧ y_Mo_fan.cls ≠ "java/lang/invoke/MethodHandle" ∧ y_Mo_fan.cls ≠ "java/lang/invoke/VarHandle" ∧ (parseMethodDescriptor y_Mo_fan.desc).map (fun d => d.parameters.length) = some 3 := by decide +kernel
theorem hd_Mo_steel : y_Mo_steel.cls = "SmokeZonesModel" ∧ y_Mo_steel.cls ≠ "java/lang/invoke/MethodHandle" ∧ y_Mo_steel.cls ≠ "java/lang/invoke/VarHandle" ∧ (parseMethodDescriptor y_Mo_steel.desc).map (fun d => d.parameters.length) = some 2 := by decide +kernel
theorem hd_Mo_person : y_Mo_person.cls = "SmokeZonesModel" ∧ y_Mo_person.cls ≠ "java/lang/invoke/MethodHandle" ∧ y_Mo_person.cls ≠ "java/lang/invoke/VarHandle" ∧ (parseMethodDescriptor y_Mo_person.desc).map (fun d => d.parameters.length) = some 1 := by decide +kernel
theorem hd_Mo_go : y_Mo_go.cls = "SmokeZonesModel" ∧ y_Mo_go.cls ≠ "java/lang/invoke/MethodHandle" ∧ y_Mo_go.cls ≠ "java/lang/invoke/VarHandle" ∧ (parseMethodDescriptor y_Mo_go.desc).map (fun d => d.parameters.length) = some 3 := by decide +kernel
theorem hd_Mo_run : y_Mo_run.cls = "SmokeZonesModel" ∧ y_Mo_run.cls ≠ "java/lang/invoke/MethodHandle" ∧ y_Mo_run.cls ≠ "java/lang/invoke/VarHandle" ∧ (parseMethodDescriptor y_Mo_run.desc).map (fun d => d.parameters.length) = some 1 := by decide +kernel
theorem hd_Mo_burn : y_Mo_burn.cls = "SmokeZonesModel" ∧ y_Mo_burn.cls ≠ "java/lang/invoke/MethodHandle" ∧ y_Mo_burn.cls ≠ "java/lang/invoke/VarHandle" ∧ (parseMethodDescriptor y_Mo_burn.desc).map (fun d => d.parameters.length) = some 0 := by decide +kernel
theorem hd_Mo_flow : y_Mo_flow.cls = "SmokeZonesModel" ∧ y_Mo_flow.cls ≠ "java/lang/invoke/MethodHandle" ∧ y_Mo_flow.cls ≠ "java/lang/invoke/VarHandle" ∧ (parseMethodDescriptor y_Mo_flow.desc).map (fun d => d.parameters.length) = some 0 := by decide +kernel
theorem hd_Mo_covered : y_Mo_covered.cls = "SmokeZonesModel" ∧ y_Mo_covered.cls ≠ "java/lang/invoke/MethodHandle" ∧ y_Mo_covered.cls ≠ "java/lang/invoke/VarHandle" ∧ (parseMethodDescriptor y_Mo_covered.desc).map (fun d => d.parameters.length) = some 2 := by decide +kernel
theorem hd_Mo_clearTo : y_Mo_clearTo.cls = "SmokeZonesModel" ∧ y_Mo_clearTo.cls ≠ "java/lang/invoke/MethodHandle" ∧ y_Mo_clearTo.cls ≠ "java/lang/invoke/VarHandle" ∧ (parseMethodDescriptor y_Mo_clearTo.desc).map (fun d => d.parameters.length) = some 1 := by decide +kernel
theorem hd_Mo_blow : y_Mo_blow.cls = "SmokeZonesModel" ∧ y_Mo_blow.cls ≠ "java/lang/invoke/MethodHandle" ∧ y_Mo_blow.cls ≠ "java/lang/invoke/VarHandle" ∧ (parseMethodDescriptor y_Mo_blow.desc).map (fun d => d.parameters.length) = some 0 := by decide +kernel
theorem hd_Mo_press : y_Mo_press.cls = "SmokeZonesModel" ∧ y_Mo_press.cls ≠ "java/lang/invoke/MethodHandle" ∧ y_Mo_press.cls ≠ "java/lang/invoke/VarHandle" ∧ (parseMethodDescriptor y_Mo_press.desc).map (fun d => d.parameters.length) = some 0 := by decide +kernel
theorem hd_Mo_act : y_Mo_act.cls = "SmokeZonesModel" ∧ y_Mo_act.cls ≠ "java/lang/invoke/MethodHandle" ∧ y_Mo_act.cls ≠ "java/lang/invoke/VarHandle" ∧ (parseMethodDescriptor y_Mo_act.desc).map (fun d => d.parameters.length) = some 0 := by decide +kernel
theorem hd_Mo_isHot : y_Mo_isHot.cls = "SmokeZonesModel" ∧ y_Mo_isHot.cls ≠ "java/lang/invoke/MethodHandle" ∧ y_Mo_isHot.cls ≠ "java/lang/invoke/VarHandle" ∧ (parseMethodDescriptor y_Mo_isHot.desc).map (fun d => d.parameters.length) = some 2 := by decide +kernel
theorem hd_Mo_warmth : y_Mo_warmth.cls = "SmokeZonesModel" ∧ y_Mo_warmth.cls ≠ "java/lang/invoke/MethodHandle" ∧ y_Mo_warmth.cls ≠ "java/lang/invoke/VarHandle" ∧ (parseMethodDescriptor y_Mo_warmth.desc).map (fun d => d.parameters.length) = some 1 := by decide +kernel
theorem hd_Mo_breathe : y_Mo_breathe.cls = "SmokeZonesModel" ∧ y_Mo_breathe.cls ≠ "java/lang/invoke/MethodHandle" ∧ y_Mo_breathe.cls ≠ "java/lang/invoke/VarHandle" ∧ (parseMethodDescriptor y_Mo_breathe.desc).map (fun d => d.parameters.length) = some 0 := by decide +kernel
theorem hd_Mo_roomAt : y_Mo_roomAt.cls = "SmokeZonesModel" ∧ y_Mo_roomAt.cls ≠ "java/lang/invoke/MethodHandle" ∧ y_Mo_roomAt.cls ≠ "java/lang/invoke/VarHandle" ∧ (parseMethodDescriptor y_Mo_roomAt.desc).map (fun d => d.parameters.length) = some 2 := by decide +kernel
theorem hd_Mo_openingAt : y_Mo_openingAt.cls = "SmokeZonesModel" ∧ y_Mo_openingAt.cls ≠ "java/lang/invoke/MethodHandle" ∧ y_Mo_openingAt.cls ≠ "java/lang/invoke/VarHandle" ∧ (parseMethodDescriptor y_Mo_openingAt.desc).map (fun d => d.parameters.length) = some 2 := by decide +kernel
theorem hd_Mo_personAt : y_Mo_personAt.cls = "SmokeZonesModel" ∧ y_Mo_personAt.cls ≠ "java/lang/invoke/MethodHandle" ∧ y_Mo_personAt.cls ≠ "java/lang/invoke/VarHandle" ∧ (parseMethodDescriptor y_Mo_personAt.desc).map (fun d => d.parameters.length) = some 2 := by decide +kernel
theorem hd_Mo_steelAt : y_Mo_steelAt.cls = "SmokeZonesModel" ∧ y_Mo_steelAt.cls ≠ "java/lang/invoke/MethodHandle" ∧ y_Mo_steelAt.cls ≠ "java/lang/invoke/VarHandle" ∧ (parseMethodDescriptor y_Mo_steelAt.desc).map (fun d => d.parameters.length) = some 1 := by decide +kernel
theorem hd_Mo_balance : y_Mo_balance.cls = "SmokeZonesModel" ∧ y_Mo_balance.cls ≠ "java/lang/invoke/MethodHandle" ∧ y_Mo_balance.cls ≠ "java/lang/invoke/VarHandle" ∧ (parseMethodDescriptor y_Mo_balance.desc).map (fun d => d.parameters.length) = some 1 := by decide +kernel
end
section
theorem d_Ro_init_0 : decode b_Ro_init 0 = .ok (.aload_n 0, 1) := by decide +kernel
theorem d_Ro_init_1 : decode b_Ro_init 1 = .ok (.invokespecial 3, 3) := by decide +kernel
theorem d_Ro_init_4 : decode b_Ro_init 4 = .ok (.aload_n 0, 1) := by decide +kernel
theorem d_Ro_init_5 : decode b_Ro_init 5 = .ok (.iload_n 1, 1) := by decide +kernel
theorem d_Ro_init_6 : decode b_Ro_init 6 = .ok (.putfield 9, 3) := by decide +kernel
theorem d_Ro_init_9 : decode b_Ro_init 9 = .ok (.aload_n 0, 1) := by decide +kernel
theorem d_Ro_init_10 : decode b_Ro_init 10 = .ok (.iload_n 2, 1) := by decide +kernel
theorem d_Ro_init_11 : decode b_Ro_init 11 = .ok (.putfield 15, 3) := by decide +kernel
theorem d_Ro_init_14 : decode b_Ro_init 14 = .ok (.aload_n 0, 1) := by decide +kernel
theorem d_Ro_init_15 : decode b_Ro_init 15 = .ok (.iload_n 1, 1) := by decide +kernel
theorem d_Ro_init_16 : decode b_Ro_init 16 = .ok (.i2l, 1) := by decide +kernel
theorem d_Ro_init_17 : decode b_Ro_init 17 = .ok (.iload_n 2, 1) := by decide +kernel
theorem d_Ro_init_18 : decode b_Ro_init 18 = .ok (.i2l, 1) := by decide +kernel
theorem d_Ro_init_19 : decode b_Ro_init 19 = .ok (.lmul, 1) := by decide +kernel
theorem d_Ro_init_20 : decode b_Ro_init 20 = .ok (.putfield 18, 3) := by decide +kernel
theorem d_Ro_init_23 : decode b_Ro_init 23 = .ok (.aload_n 0, 1) := by decide +kernel
theorem d_Ro_init_24 : decode b_Ro_init 24 = .ok (.iconst (-1), 1) := by decide +kernel
theorem d_Ro_init_25 : decode b_Ro_init 25 = .ok (.putfield 22, 3) := by decide +kernel
theorem d_Ro_init_28 : decode b_Ro_init 28 = .ok (.aload_n 0, 1) := by decide +kernel
theorem d_Ro_init_29 : decode b_Ro_init 29 = .ok (.iconst (-1), 1) := by decide +kernel
theorem d_Ro_init_30 : decode b_Ro_init 30 = .ok (.putfield 25, 3) := by decide +kernel
theorem d_Ro_init_33 : decode b_Ro_init 33 = .ok (.return_, 1) := by decide +kernel
theorem d_Op_init_0 : decode b_Op_init 0 = .ok (.aload_n 0, 1) := by decide +kernel
theorem d_Op_init_1 : decode b_Op_init 1 = .ok (.invokespecial 3, 3) := by decide +kernel
theorem d_Op_init_4 : decode b_Op_init 4 = .ok (.aload_n 0, 1) := by decide +kernel
theorem d_Op_init_5 : decode b_Op_init 5 = .ok (.aload_n 1, 1) := by decide +kernel
theorem d_Op_init_6 : decode b_Op_init 6 = .ok (.putfield 9, 3) := by decide +kernel
theorem d_Op_init_9 : decode b_Op_init 9 = .ok (.aload_n 0, 1) := by decide +kernel
theorem d_Op_init_10 : decode b_Op_init 10 = .ok (.aload_n 2, 1) := by decide +kernel
theorem d_Op_init_11 : decode b_Op_init 11 = .ok (.putfield 15, 3) := by decide +kernel
theorem d_Op_init_14 : decode b_Op_init 14 = .ok (.aload_n 0, 1) := by decide +kernel
theorem d_Op_init_15 : decode b_Op_init 15 = .ok (.iload_n 3, 1) := by decide +kernel
theorem d_Op_init_16 : decode b_Op_init 16 = .ok (.putfield 18, 3) := by decide +kernel
theorem d_Op_init_19 : decode b_Op_init 19 = .ok (.aload_n 0, 1) := by decide +kernel
theorem d_Op_init_20 : decode b_Op_init 20 = .ok (.iload 4, 2) := by decide +kernel
theorem d_Op_init_22 : decode b_Op_init 22 = .ok (.putfield 22, 3) := by decide +kernel
theorem d_Op_init_25 : decode b_Op_init 25 = .ok (.aload_n 0, 1) := by decide +kernel
theorem d_Op_init_26 : decode b_Op_init 26 = .ok (.iload 5, 2) := by decide +kernel
theorem d_Op_init_28 : decode b_Op_init 28 = .ok (.putfield 25, 3) := by decide +kernel
theorem d_Op_init_31 : decode b_Op_init 31 = .ok (.aload_n 0, 1) := by decide +kernel
theorem d_Op_init_32 : decode b_Op_init 32 = .ok (.iconst (-1), 1) := by decide +kernel
theorem d_Op_init_33 : decode b_Op_init 33 = .ok (.putfield 28, 3) := by decide +kernel
theorem d_Op_init_36 : decode b_Op_init 36 = .ok (.return_, 1) := by decide +kernel
theorem d_Fi_init_0 : decode b_Fi_init 0 = .ok (.aload_n 0, 1) := by decide +kernel
theorem d_Fi_init_1 : decode b_Fi_init 1 = .ok (.invokespecial 1, 3) := by decide +kernel
theorem d_Fi_init_4 : decode b_Fi_init 4 = .ok (.aload_n 0, 1) := by decide +kernel
theorem d_Fi_init_5 : decode b_Fi_init 5 = .ok (.aload_n 1, 1) := by decide +kernel
theorem d_Fi_init_6 : decode b_Fi_init 6 = .ok (.putfield 7, 3) := by decide +kernel
theorem d_Fi_init_9 : decode b_Fi_init 9 = .ok (.aload_n 0, 1) := by decide +kernel
theorem d_Fi_init_10 : decode b_Fi_init 10 = .ok (.iload_n 2, 1) := by decide +kernel
theorem d_Fi_init_11 : decode b_Fi_init 11 = .ok (.putfield 13, 3) := by decide +kernel
theorem d_Fi_init_14 : decode b_Fi_init 14 = .ok (.aload_n 0, 1) := by decide +kernel
theorem d_Fi_init_15 : decode b_Fi_init 15 = .ok (.iload_n 3, 1) := by decide +kernel
theorem d_Fi_init_16 : decode b_Fi_init 16 = .ok (.putfield 17, 3) := by decide +kernel
theorem d_Fi_init_19 : decode b_Fi_init 19 = .ok (.aload_n 0, 1) := by decide +kernel
theorem d_Fi_init_20 : decode b_Fi_init 20 = .ok (.iload 4, 2) := by decide +kernel
theorem d_Fi_init_22 : decode b_Fi_init 22 = .ok (.putfield 20, 3) := by decide +kernel
theorem d_Fi_init_25 : decode b_Fi_init 25 = .ok (.aload_n 0, 1) := by decide +kernel
theorem d_Fi_init_26 : decode b_Fi_init 26 = .ok (.iload 5, 2) := by decide +kernel
theorem d_Fi_init_28 : decode b_Fi_init 28 = .ok (.putfield 23, 3) := by decide +kernel
theorem d_Fi_init_31 : decode b_Fi_init 31 = .ok (.return_, 1) := by decide +kernel
theorem d_Fa_init_0 : decode b_Fa_init 0 = .ok (.aload_n 0, 1) := by decide +kernel
theorem d_Fa_init_1 : decode b_Fa_init 1 = .ok (.invokespecial 1, 3) := by decide +kernel
theorem d_Fa_init_4 : decode b_Fa_init 4 = .ok (.aload_n 0, 1) := by decide +kernel
theorem d_Fa_init_5 : decode b_Fa_init 5 = .ok (.aload_n 1, 1) := by decide +kernel
theorem d_Fa_init_6 : decode b_Fa_init 6 = .ok (.putfield 7, 3) := by decide +kernel
theorem d_Fa_init_9 : decode b_Fa_init 9 = .ok (.aload_n 0, 1) := by decide +kernel
theorem d_Fa_init_10 : decode b_Fa_init 10 = .ok (.iload_n 2, 1) := by decide +kernel
theorem d_Fa_init_11 : decode b_Fa_init 11 = .ok (.putfield 13, 3) := by decide +kernel
theorem d_Fa_init_14 : decode b_Fa_init 14 = .ok (.aload_n 0, 1) := by decide +kernel
theorem d_Fa_init_15 : decode b_Fa_init 15 = .ok (.iload_n 3, 1) := by decide +kernel
theorem d_Fa_init_16 : decode b_Fa_init 16 = .ok (.putfield 17, 3) := by decide +kernel
theorem d_Fa_init_19 : decode b_Fa_init 19 = .ok (.return_, 1) := by decide +kernel
theorem d_St_init_0 : decode b_St_init 0 = .ok (.aload_n 0, 1) := by decide +kernel
theorem d_St_init_1 : decode b_St_init 1 = .ok (.invokespecial 1, 3) := by decide +kernel
theorem d_St_init_4 : decode b_St_init 4 = .ok (.aload_n 0, 1) := by decide +kernel
theorem d_St_init_5 : decode b_St_init 5 = .ok (.aload_n 1, 1) := by decide +kernel
theorem d_St_init_6 : decode b_St_init 6 = .ok (.putfield 7, 3) := by decide +kernel
theorem d_St_init_9 : decode b_St_init 9 = .ok (.aload_n 0, 1) := by decide +kernel
theorem d_St_init_10 : decode b_St_init 10 = .ok (.iload_n 2, 1) := by decide +kernel
theorem d_St_init_11 : decode b_St_init 11 = .ok (.putfield 13, 3) := by decide +kernel
theorem d_St_init_14 : decode b_St_init 14 = .ok (.return_, 1) := by decide +kernel
theorem d_Pe_init_0 : decode b_Pe_init 0 = .ok (.aload_n 0, 1) := by decide +kernel
theorem d_Pe_init_1 : decode b_Pe_init 1 = .ok (.invokespecial 3, 3) := by decide +kernel
theorem d_Pe_init_4 : decode b_Pe_init 4 = .ok (.aload_n 0, 1) := by decide +kernel
theorem d_Pe_init_5 : decode b_Pe_init 5 = .ok (.iload_n 1, 1) := by decide +kernel
theorem d_Pe_init_6 : decode b_Pe_init 6 = .ok (.putfield 9, 3) := by decide +kernel
theorem d_Pe_init_9 : decode b_Pe_init 9 = .ok (.aload_n 0, 1) := by decide +kernel
theorem d_Pe_init_10 : decode b_Pe_init 10 = .ok (.bipush 20, 2) := by decide +kernel
theorem d_Pe_init_12 : decode b_Pe_init 12 = .ok (.newarray .int, 2) := by decide +kernel
theorem d_Pe_init_14 : decode b_Pe_init 14 = .ok (.putfield 15, 3) := by decide +kernel
theorem d_Pe_init_17 : decode b_Pe_init 17 = .ok (.aload_n 0, 1) := by decide +kernel
theorem d_Pe_init_18 : decode b_Pe_init 18 = .ok (.bipush 20, 2) := by decide +kernel
theorem d_Pe_init_20 : decode b_Pe_init 20 = .ok (.newarray .int, 2) := by decide +kernel
theorem d_Pe_init_22 : decode b_Pe_init 22 = .ok (.putfield 19, 3) := by decide +kernel
theorem d_Pe_init_25 : decode b_Pe_init 25 = .ok (.aload_n 0, 1) := by decide +kernel
theorem d_Pe_init_26 : decode b_Pe_init 26 = .ok (.iconst (-1), 1) := by decide +kernel
theorem d_Pe_init_27 : decode b_Pe_init 27 = .ok (.putfield 22, 3) := by decide +kernel
theorem d_Pe_init_30 : decode b_Pe_init 30 = .ok (.return_, 1) := by decide +kernel
theorem d_Pe_tell_0 : decode b_Pe_tell 0 = .ok (.aload_n 0, 1) := by decide +kernel
theorem d_Pe_tell_1 : decode b_Pe_tell 1 = .ok (.getfield 25, 3) := by decide +kernel
theorem d_Pe_tell_4 : decode b_Pe_tell 4 = .ok (.bipush 20, 2) := by decide +kernel
theorem d_Pe_tell_6 : decode b_Pe_tell 6 = .ok (.if_icmp .ge 11, 3) := by decide +kernel
theorem d_Pe_tell_9 : decode b_Pe_tell 9 = .ok (.iload_n 1, 1) := by decide +kernel
theorem d_Pe_tell_10 : decode b_Pe_tell 10 = .ok (.aload_n 0, 1) := by decide +kernel
theorem d_Pe_tell_11 : decode b_Pe_tell 11 = .ok (.getfield 22, 3) := by decide +kernel
theorem d_Pe_tell_14 : decode b_Pe_tell 14 = .ok (.if_icmp .gt 5, 3) := by decide +kernel
theorem d_Pe_tell_17 : decode b_Pe_tell 17 = .ok (.iconst 0, 1) := by decide +kernel
theorem d_Pe_tell_18 : decode b_Pe_tell 18 = .ok (.ireturn, 1) := by decide +kernel
theorem d_Pe_tell_19 : decode b_Pe_tell 19 = .ok (.aload_n 0, 1) := by decide +kernel
theorem d_Pe_tell_20 : decode b_Pe_tell 20 = .ok (.getfield 15, 3) := by decide +kernel
theorem d_Pe_tell_23 : decode b_Pe_tell 23 = .ok (.aload_n 0, 1) := by decide +kernel
theorem d_Pe_tell_24 : decode b_Pe_tell 24 = .ok (.getfield 25, 3) := by decide +kernel
theorem d_Pe_tell_27 : decode b_Pe_tell 27 = .ok (.iload_n 1, 1) := by decide +kernel
theorem d_Pe_tell_28 : decode b_Pe_tell 28 = .ok (.iastore, 1) := by decide +kernel
theorem d_Pe_tell_29 : decode b_Pe_tell 29 = .ok (.aload_n 0, 1) := by decide +kernel
theorem d_Pe_tell_30 : decode b_Pe_tell 30 = .ok (.getfield 19, 3) := by decide +kernel
theorem d_Pe_tell_33 : decode b_Pe_tell 33 = .ok (.aload_n 0, 1) := by decide +kernel
theorem d_Pe_tell_34 : decode b_Pe_tell 34 = .ok (.getfield 25, 3) := by decide +kernel
theorem d_Pe_tell_37 : decode b_Pe_tell 37 = .ok (.iload_n 2, 1) := by decide +kernel
theorem d_Pe_tell_38 : decode b_Pe_tell 38 = .ok (.iastore, 1) := by decide +kernel
theorem d_Pe_tell_39 : decode b_Pe_tell 39 = .ok (.aload_n 0, 1) := by decide +kernel
theorem d_Pe_tell_40 : decode b_Pe_tell 40 = .ok (.dup, 1) := by decide +kernel
theorem d_Pe_tell_41 : decode b_Pe_tell 41 = .ok (.getfield 25, 3) := by decide +kernel
theorem d_Pe_tell_44 : decode b_Pe_tell 44 = .ok (.iconst 1, 1) := by decide +kernel
theorem d_Pe_tell_45 : decode b_Pe_tell 45 = .ok (.iadd, 1) := by decide +kernel
theorem d_Pe_tell_46 : decode b_Pe_tell 46 = .ok (.putfield 25, 3) := by decide +kernel
theorem d_Pe_tell_49 : decode b_Pe_tell 49 = .ok (.aload_n 0, 1) := by decide +kernel
theorem d_Pe_tell_50 : decode b_Pe_tell 50 = .ok (.iload_n 1, 1) := by decide +kernel
theorem d_Pe_tell_51 : decode b_Pe_tell 51 = .ok (.putfield 22, 3) := by decide +kernel
theorem d_Pe_tell_54 : decode b_Pe_tell 54 = .ok (.iconst 1, 1) := by decide +kernel
theorem d_Pe_tell_55 : decode b_Pe_tell 55 = .ok (.ireturn, 1) := by decide +kernel
theorem d_Fi_burn_0 : decode b_Fi_burn 0 = .ok (.iload_n 1, 1) := by decide +kernel
theorem d_Fi_burn_1 : decode b_Fi_burn 1 = .ok (.aload_n 0, 1) := by decide +kernel
theorem d_Fi_burn_2 : decode b_Fi_burn 2 = .ok (.getfield 13, 3) := by decide +kernel
theorem d_Fi_burn_5 : decode b_Fi_burn 5 = .ok (.if_icmp .ge 5, 3) := by decide +kernel
theorem d_Fi_burn_8 : decode b_Fi_burn 8 = .ok (.lconst 0, 1) := by decide +kernel
theorem d_Fi_burn_9 : decode b_Fi_burn 9 = .ok (.lreturn, 1) := by decide +kernel
theorem d_Fi_burn_10 : decode b_Fi_burn 10 = .ok (.iload_n 1, 1) := by decide +kernel
theorem d_Fi_burn_11 : decode b_Fi_burn 11 = .ok (.aload_n 0, 1) := by decide +kernel
theorem d_Fi_burn_12 : decode b_Fi_burn 12 = .ok (.getfield 13, 3) := by decide +kernel
theorem d_Fi_burn_15 : decode b_Fi_burn 15 = .ok (.isub, 1) := by decide +kernel
theorem d_Fi_burn_16 : decode b_Fi_burn 16 = .ok (.iconst 1, 1) := by decide +kernel
theorem d_Fi_burn_17 : decode b_Fi_burn 17 = .ok (.iadd, 1) := by decide +kernel
theorem d_Fi_burn_18 : decode b_Fi_burn 18 = .ok (.i2l, 1) := by decide +kernel
theorem d_Fi_burn_19 : decode b_Fi_burn 19 = .ok (.lstore_n 2, 1) := by decide +kernel
theorem d_Fi_burn_20 : decode b_Fi_burn 20 = .ok (.lload_n 2, 1) := by decide +kernel
theorem d_Fi_burn_21 : decode b_Fi_burn 21 = .ok (.aload_n 0, 1) := by decide +kernel
theorem d_Fi_burn_22 : decode b_Fi_burn 22 = .ok (.getfield 17, 3) := by decide +kernel
theorem d_Fi_burn_25 : decode b_Fi_burn 25 = .ok (.i2l, 1) := by decide +kernel
theorem d_Fi_burn_26 : decode b_Fi_burn 26 = .ok (.lmul, 1) := by decide +kernel
theorem d_Fi_burn_27 : decode b_Fi_burn 27 = .ok (.aload_n 0, 1) := by decide +kernel
theorem d_Fi_burn_28 : decode b_Fi_burn 28 = .ok (.getfield 20, 3) := by decide +kernel
theorem d_Fi_burn_31 : decode b_Fi_burn 31 = .ok (.i2l, 1) := by decide +kernel
theorem d_Fi_burn_32 : decode b_Fi_burn 32 = .ok (.invokestatic 26, 3) := by decide +kernel
theorem d_Fi_burn_35 : decode b_Fi_burn 35 = .ok (.lstore 4, 2) := by decide +kernel
theorem d_Fi_burn_37 : decode b_Fi_burn 37 = .ok (.aload_n 0, 1) := by decide +kernel
theorem d_Fi_burn_38 : decode b_Fi_burn 38 = .ok (.getfield 7, 3) := by decide +kernel
theorem d_Fi_burn_41 : decode b_Fi_burn 41 = .ok (.getfield 32, 3) := by decide +kernel
theorem d_Fi_burn_44 : decode b_Fi_burn 44 = .ok (.ifCond .eq 11, 3) := by decide +kernel
theorem d_Fi_burn_47 : decode b_Fi_burn 47 = .ok (.lload 4, 2) := by decide +kernel
theorem d_Fi_burn_49 : decode b_Fi_burn 49 = .ok (.ldc2_w 38, 3) := by decide +kernel
theorem d_Fi_burn_52 : decode b_Fi_burn 52 = .ok (.ldiv, 1) := by decide +kernel
theorem d_Fi_burn_53 : decode b_Fi_burn 53 = .ok (.lstore 4, 2) := by decide +kernel
theorem d_Fi_burn_55 : decode b_Fi_burn 55 = .ok (.aload_n 0, 1) := by decide +kernel
theorem d_Fi_burn_56 : decode b_Fi_burn 56 = .ok (.getfield 7, 3) := by decide +kernel
theorem d_Fi_burn_59 : decode b_Fi_burn 59 = .ok (.lload 4, 2) := by decide +kernel
theorem d_Fi_burn_61 : decode b_Fi_burn 61 = .ok (.lload 4, 2) := by decide +kernel
theorem d_Fi_burn_63 : decode b_Fi_burn 63 = .ok (.aload_n 0, 1) := by decide +kernel
theorem d_Fi_burn_64 : decode b_Fi_burn 64 = .ok (.getfield 23, 3) := by decide +kernel
theorem d_Fi_burn_67 : decode b_Fi_burn 67 = .ok (.i2l, 1) := by decide +kernel
theorem d_Fi_burn_68 : decode b_Fi_burn 68 = .ok (.lmul, 1) := by decide +kernel
theorem d_Fi_burn_69 : decode b_Fi_burn 69 = .ok (.invokevirtual 40, 3) := by decide +kernel
theorem d_Fi_burn_72 : decode b_Fi_burn 72 = .ok (.lload 4, 2) := by decide +kernel
theorem d_Fi_burn_74 : decode b_Fi_burn 74 = .ok (.lreturn, 1) := by decide +kernel
theorem d_Ro_add_0 : decode b_Ro_add 0 = .ok (.aload_n 0, 1) := by decide +kernel
theorem d_Ro_add_1 : decode b_Ro_add 1 = .ok (.dup, 1) := by decide +kernel
theorem d_Ro_add_2 : decode b_Ro_add 2 = .ok (.getfield 28, 3) := by decide +kernel
theorem d_Ro_add_5 : decode b_Ro_add 5 = .ok (.lload_n 1, 1) := by decide +kernel
theorem d_Ro_add_6 : decode b_Ro_add 6 = .ok (.ladd, 1) := by decide +kernel
theorem d_Ro_add_7 : decode b_Ro_add 7 = .ok (.putfield 28, 3) := by decide +kernel
theorem d_Ro_add_10 : decode b_Ro_add 10 = .ok (.aload_n 0, 1) := by decide +kernel
theorem d_Ro_add_11 : decode b_Ro_add 11 = .ok (.dup, 1) := by decide +kernel
theorem d_Ro_add_12 : decode b_Ro_add 12 = .ok (.getfield 31, 3) := by decide +kernel
theorem d_Ro_add_15 : decode b_Ro_add 15 = .ok (.lload_n 3, 1) := by decide +kernel
theorem d_Ro_add_16 : decode b_Ro_add 16 = .ok (.ladd, 1) := by decide +kernel
theorem d_Ro_add_17 : decode b_Ro_add 17 = .ok (.putfield 31, 3) := by decide +kernel
theorem d_Ro_add_20 : decode b_Ro_add 20 = .ok (.return_, 1) := by decide +kernel
theorem d_Op_measureFlow_0 : decode b_Op_measureFlow 0 = .ok (.aload_n 0, 1) := by decide +kernel
theorem d_Op_measureFlow_1 : decode b_Op_measureFlow 1 = .ok (.lconst 0, 1) := by decide +kernel
theorem d_Op_measureFlow_2 : decode b_Op_measureFlow 2 = .ok (.putfield 35, 3) := by decide +kernel
theorem d_Op_measureFlow_5 : decode b_Op_measureFlow 5 = .ok (.aload_n 0, 1) := by decide +kernel
theorem d_Op_measureFlow_6 : decode b_Op_measureFlow 6 = .ok (.lconst 0, 1) := by decide +kernel
theorem d_Op_measureFlow_7 : decode b_Op_measureFlow 7 = .ok (.putfield 39, 3) := by decide +kernel
theorem d_Op_measureFlow_10 : decode b_Op_measureFlow 10 = .ok (.aload_n 0, 1) := by decide +kernel
theorem d_Op_measureFlow_11 : decode b_Op_measureFlow 11 = .ok (.invokevirtual 42, 3) := by decide +kernel
theorem d_Op_measureFlow_14 : decode b_Op_measureFlow 14 = .ok (.ifCond .ne 4, 3) := by decide +kernel
theorem d_Op_measureFlow_17 : decode b_Op_measureFlow 17 = .ok (.return_, 1) := by decide +kernel
theorem d_Op_measureFlow_18 : decode b_Op_measureFlow 18 = .ok (.aload_n 0, 1) := by decide +kernel
theorem d_Op_measureFlow_19 : decode b_Op_measureFlow 19 = .ok (.getfield 9, 3) := by decide +kernel
theorem d_Op_measureFlow_22 : decode b_Op_measureFlow 22 = .ok (.aload_n 0, 1) := by decide +kernel
theorem d_Op_measureFlow_23 : decode b_Op_measureFlow 23 = .ok (.getfield 22, 3) := by decide +kernel
theorem d_Op_measureFlow_26 : decode b_Op_measureFlow 26 = .ok (.aload_n 0, 1) := by decide +kernel
theorem d_Op_measureFlow_27 : decode b_Op_measureFlow 27 = .ok (.getfield 25, 3) := by decide +kernel
theorem d_Op_measureFlow_30 : decode b_Op_measureFlow 30 = .ok (.invokevirtual 46, 3) := by decide +kernel
theorem d_Op_measureFlow_33 : decode b_Op_measureFlow 33 = .ok (.lstore_n 1, 1) := by decide +kernel
theorem d_Op_measureFlow_34 : decode b_Op_measureFlow 34 = .ok (.aload_n 0, 1) := by decide +kernel
theorem d_Op_measureFlow_35 : decode b_Op_measureFlow 35 = .ok (.getfield 15, 3) := by decide +kernel
theorem d_Op_measureFlow_38 : decode b_Op_measureFlow 38 = .ok (.ifnonnull 7, 3) := by decide +kernel
theorem d_Op_measureFlow_41 : decode b_Op_measureFlow 41 = .ok (.lconst 0, 1) := by decide +kernel
theorem d_Op_measureFlow_42 : decode b_Op_measureFlow 42 = .ok (.goto 18, 3) := by decide +kernel
theorem d_Op_measureFlow_45 : decode b_Op_measureFlow 45 = .ok (.aload_n 0, 1) := by decide +kernel
theorem d_Op_measureFlow_46 : decode b_Op_measureFlow 46 = .ok (.getfield 15, 3) := by decide +kernel
theorem d_Op_measureFlow_49 : decode b_Op_measureFlow 49 = .ok (.aload_n 0, 1) := by decide +kernel
theorem d_Op_measureFlow_50 : decode b_Op_measureFlow 50 = .ok (.getfield 22, 3) := by decide +kernel
theorem d_Op_measureFlow_53 : decode b_Op_measureFlow 53 = .ok (.aload_n 0, 1) := by decide +kernel
theorem d_Op_measureFlow_54 : decode b_Op_measureFlow 54 = .ok (.getfield 25, 3) := by decide +kernel
theorem d_Op_measureFlow_57 : decode b_Op_measureFlow 57 = .ok (.invokevirtual 46, 3) := by decide +kernel
theorem d_Op_measureFlow_60 : decode b_Op_measureFlow 60 = .ok (.lstore_n 3, 1) := by decide +kernel
theorem d_Op_measureFlow_61 : decode b_Op_measureFlow 61 = .ok (.lload_n 1, 1) := by decide +kernel
theorem d_Op_measureFlow_62 : decode b_Op_measureFlow 62 = .ok (.lload_n 3, 1) := by decide +kernel
theorem d_Op_measureFlow_63 : decode b_Op_measureFlow 63 = .ok (.lcmp, 1) := by decide +kernel
theorem d_Op_measureFlow_64 : decode b_Op_measureFlow 64 = .ok (.ifCond .le 36, 3) := by decide +kernel
theorem d_Op_measureFlow_67 : decode b_Op_measureFlow 67 = .ok (.aload_n 0, 1) := by decide +kernel
theorem d_Op_measureFlow_68 : decode b_Op_measureFlow 68 = .ok (.aload_n 0, 1) := by decide +kernel
theorem d_Op_measureFlow_69 : decode b_Op_measureFlow 69 = .ok (.aload_n 0, 1) := by decide +kernel
theorem d_Op_measureFlow_70 : decode b_Op_measureFlow 70 = .ok (.getfield 9, 3) := by decide +kernel
theorem d_Op_measureFlow_73 : decode b_Op_measureFlow 73 = .ok (.lload_n 1, 1) := by decide +kernel
theorem d_Op_measureFlow_74 : decode b_Op_measureFlow 74 = .ok (.lload_n 3, 1) := by decide +kernel
theorem d_Op_measureFlow_75 : decode b_Op_measureFlow 75 = .ok (.lsub, 1) := by decide +kernel
theorem d_Op_measureFlow_76 : decode b_Op_measureFlow 76 = .ok (.invokevirtual 52, 3) := by decide +kernel
theorem d_Op_measureFlow_79 : decode b_Op_measureFlow 79 = .ok (.putfield 35, 3) := by decide +kernel
theorem d_Op_measureFlow_82 : decode b_Op_measureFlow 82 = .ok (.aload_n 0, 1) := by decide +kernel
theorem d_Op_measureFlow_83 : decode b_Op_measureFlow 83 = .ok (.aload_n 0, 1) := by decide +kernel
theorem d_Op_measureFlow_84 : decode b_Op_measureFlow 84 = .ok (.getfield 9, 3) := by decide +kernel
theorem d_Op_measureFlow_87 : decode b_Op_measureFlow 87 = .ok (.aload_n 0, 1) := by decide +kernel
theorem d_Op_measureFlow_88 : decode b_Op_measureFlow 88 = .ok (.getfield 35, 3) := by decide +kernel
theorem d_Op_measureFlow_91 : decode b_Op_measureFlow 91 = .ok (.invokevirtual 56, 3) := by decide +kernel
theorem d_Op_measureFlow_94 : decode b_Op_measureFlow 94 = .ok (.putfield 39, 3) := by decide +kernel
theorem d_Op_measureFlow_97 : decode b_Op_measureFlow 97 = .ok (.goto 49, 3) := by decide +kernel
theorem d_Op_measureFlow_100 : decode b_Op_measureFlow 100 = .ok (.aload_n 0, 1) := by decide +kernel
theorem d_Op_measureFlow_101 : decode b_Op_measureFlow 101 = .ok (.getfield 15, 3) := by decide +kernel
theorem d_Op_measureFlow_104 : decode b_Op_measureFlow 104 = .ok (.ifnull 42, 3) := by decide +kernel
theorem d_Op_measureFlow_107 : decode b_Op_measureFlow 107 = .ok (.lload_n 3, 1) := by decide +kernel
theorem d_Op_measureFlow_108 : decode b_Op_measureFlow 108 = .ok (.lload_n 1, 1) := by decide +kernel
theorem d_Op_measureFlow_109 : decode b_Op_measureFlow 109 = .ok (.lcmp, 1) := by decide +kernel
theorem d_Op_measureFlow_110 : decode b_Op_measureFlow 110 = .ok (.ifCond .le 36, 3) := by decide +kernel
theorem d_Op_measureFlow_113 : decode b_Op_measureFlow 113 = .ok (.aload_n 0, 1) := by decide +kernel
theorem d_Op_measureFlow_114 : decode b_Op_measureFlow 114 = .ok (.aload_n 0, 1) := by decide +kernel
theorem d_Op_measureFlow_115 : decode b_Op_measureFlow 115 = .ok (.getfield 15, 3) := by decide +kernel
theorem d_Op_measureFlow_118 : decode b_Op_measureFlow 118 = .ok (.lload_n 3, 1) := by decide +kernel
theorem d_Op_measureFlow_119 : decode b_Op_measureFlow 119 = .ok (.lload_n 1, 1) := by decide +kernel
theorem d_Op_measureFlow_120 : decode b_Op_measureFlow 120 = .ok (.lsub, 1) := by decide +kernel
theorem d_Op_measureFlow_121 : decode b_Op_measureFlow 121 = .ok (.invokevirtual 52, 3) := by decide +kernel
theorem d_Op_measureFlow_124 : decode b_Op_measureFlow 124 = .ok (.lstore 5, 2) := by decide +kernel
theorem d_Op_measureFlow_126 : decode b_Op_measureFlow 126 = .ok (.aload_n 0, 1) := by decide +kernel
theorem d_Op_measureFlow_127 : decode b_Op_measureFlow 127 = .ok (.lload 5, 2) := by decide +kernel
theorem d_Op_measureFlow_129 : decode b_Op_measureFlow 129 = .ok (.lneg, 1) := by decide +kernel
theorem d_Op_measureFlow_130 : decode b_Op_measureFlow 130 = .ok (.putfield 35, 3) := by decide +kernel
theorem d_Op_measureFlow_133 : decode b_Op_measureFlow 133 = .ok (.aload_n 0, 1) := by decide +kernel
theorem d_Op_measureFlow_134 : decode b_Op_measureFlow 134 = .ok (.aload_n 0, 1) := by decide +kernel
theorem d_Op_measureFlow_135 : decode b_Op_measureFlow 135 = .ok (.getfield 15, 3) := by decide +kernel
theorem d_Op_measureFlow_138 : decode b_Op_measureFlow 138 = .ok (.lload 5, 2) := by decide +kernel
theorem d_Op_measureFlow_140 : decode b_Op_measureFlow 140 = .ok (.invokevirtual 56, 3) := by decide +kernel
theorem d_Op_measureFlow_143 : decode b_Op_measureFlow 143 = .ok (.putfield 39, 3) := by decide +kernel
theorem d_Op_measureFlow_146 : decode b_Op_measureFlow 146 = .ok (.return_, 1) := by decide +kernel
theorem d_Op_isOpen_0 : decode b_Op_isOpen 0 = .ok (.aload_n 0, 1) := by decide +kernel
theorem d_Op_isOpen_1 : decode b_Op_isOpen 1 = .ok (.getfield 28, 3) := by decide +kernel
theorem d_Op_isOpen_4 : decode b_Op_isOpen 4 = .ok (.iconst (-1), 1) := by decide +kernel
theorem d_Op_isOpen_5 : decode b_Op_isOpen 5 = .ok (.if_icmp .eq 10, 3) := by decide +kernel
theorem d_Op_isOpen_8 : decode b_Op_isOpen 8 = .ok (.aload_n 0, 1) := by decide +kernel
theorem d_Op_isOpen_9 : decode b_Op_isOpen 9 = .ok (.getfield 31, 3) := by decide +kernel
theorem d_Op_isOpen_12 : decode b_Op_isOpen 12 = .ok (.ifCond .eq 7, 3) := by decide +kernel
theorem d_Op_isOpen_15 : decode b_Op_isOpen 15 = .ok (.iconst 1, 1) := by decide +kernel
theorem d_Op_isOpen_16 : decode b_Op_isOpen 16 = .ok (.goto 4, 3) := by decide +kernel
theorem d_Op_isOpen_19 : decode b_Op_isOpen 19 = .ok (.iconst 0, 1) := by decide +kernel
theorem d_Op_isOpen_20 : decode b_Op_isOpen 20 = .ok (.ireturn, 1) := by decide +kernel
theorem d_Ro_covered_0 : decode b_Ro_covered 0 = .ok (.lconst 0, 1) := by decide +kernel
theorem d_Ro_covered_1 : decode b_Ro_covered 1 = .ok (.iload_n 2, 1) := by decide +kernel
theorem d_Ro_covered_2 : decode b_Ro_covered 2 = .ok (.i2l, 1) := by decide +kernel
theorem d_Ro_covered_3 : decode b_Ro_covered 3 = .ok (.iload_n 1, 1) := by decide +kernel
theorem d_Ro_covered_4 : decode b_Ro_covered 4 = .ok (.i2l, 1) := by decide +kernel
theorem d_Ro_covered_5 : decode b_Ro_covered 5 = .ok (.aload_n 0, 1) := by decide +kernel
theorem d_Ro_covered_6 : decode b_Ro_covered 6 = .ok (.invokevirtual 38, 3) := by decide +kernel
theorem d_Ro_covered_9 : decode b_Ro_covered 9 = .ok (.invokestatic 43, 3) := by decide +kernel
theorem d_Ro_covered_12 : decode b_Ro_covered 12 = .ok (.lsub, 1) := by decide +kernel
theorem d_Ro_covered_13 : decode b_Ro_covered 13 = .ok (.invokestatic 43, 3) := by decide +kernel
theorem d_Ro_covered_16 : decode b_Ro_covered 16 = .ok (.lreturn, 1) := by decide +kernel
theorem d_Ro_clear_0 : decode b_Ro_clear 0 = .ok (.aload_n 0, 1) := by decide +kernel
theorem d_Ro_clear_1 : decode b_Ro_clear 1 = .ok (.getfield 15, 3) := by decide +kernel
theorem d_Ro_clear_4 : decode b_Ro_clear 4 = .ok (.i2l, 1) := by decide +kernel
theorem d_Ro_clear_5 : decode b_Ro_clear 5 = .ok (.aload_n 0, 1) := by decide +kernel
theorem d_Ro_clear_6 : decode b_Ro_clear 6 = .ok (.invokevirtual 34, 3) := by decide +kernel
theorem d_Ro_clear_9 : decode b_Ro_clear 9 = .ok (.lsub, 1) := by decide +kernel
theorem d_Ro_clear_10 : decode b_Ro_clear 10 = .ok (.lreturn, 1) := by decide +kernel
theorem d_Ro_depth_0 : decode b_Ro_depth 0 = .ok (.aload_n 0, 1) := by decide +kernel
theorem d_Ro_depth_1 : decode b_Ro_depth 1 = .ok (.getfield 9, 3) := by decide +kernel
theorem d_Ro_depth_4 : decode b_Ro_depth 4 = .ok (.iconst 1, 1) := by decide +kernel
theorem d_Ro_depth_5 : decode b_Ro_depth 5 = .ok (.if_icmp .ge 7, 3) := by decide +kernel
theorem d_Ro_depth_8 : decode b_Ro_depth 8 = .ok (.lconst 0, 1) := by decide +kernel
theorem d_Ro_depth_9 : decode b_Ro_depth 9 = .ok (.goto 13, 3) := by decide +kernel
theorem d_Ro_depth_12 : decode b_Ro_depth 12 = .ok (.aload_n 0, 1) := by decide +kernel
theorem d_Ro_depth_13 : decode b_Ro_depth 13 = .ok (.getfield 28, 3) := by decide +kernel
theorem d_Ro_depth_16 : decode b_Ro_depth 16 = .ok (.aload_n 0, 1) := by decide +kernel
theorem d_Ro_depth_17 : decode b_Ro_depth 17 = .ok (.getfield 9, 3) := by decide +kernel
theorem d_Ro_depth_20 : decode b_Ro_depth 20 = .ok (.i2l, 1) := by decide +kernel
theorem d_Ro_depth_21 : decode b_Ro_depth 21 = .ok (.ldiv, 1) := by decide +kernel
theorem d_Ro_depth_22 : decode b_Ro_depth 22 = .ok (.lreturn, 1) := by decide +kernel
theorem d_Op_flowFrom_0 : decode b_Op_flowFrom 0 = .ok (.iconst 5, 1) := by decide +kernel
theorem d_Op_flowFrom_1 : decode b_Op_flowFrom 1 = .ok (.aload_n 0, 1) := by decide +kernel
theorem d_Op_flowFrom_2 : decode b_Op_flowFrom 2 = .ok (.getfield 18, 3) := by decide +kernel
theorem d_Op_flowFrom_5 : decode b_Op_flowFrom 5 = .ok (.imul, 1) := by decide +kernel
theorem d_Op_flowFrom_6 : decode b_Op_flowFrom 6 = .ok (.i2l, 1) := by decide +kernel
theorem d_Op_flowFrom_7 : decode b_Op_flowFrom 7 = .ok (.lload_n 2, 1) := by decide +kernel
theorem d_Op_flowFrom_8 : decode b_Op_flowFrom 8 = .ok (.lmul, 1) := by decide +kernel
theorem d_Op_flowFrom_9 : decode b_Op_flowFrom 9 = .ok (.aload_n 1, 1) := by decide +kernel
theorem d_Op_flowFrom_10 : decode b_Op_flowFrom 10 = .ok (.getfield 60, 3) := by decide +kernel
theorem d_Op_flowFrom_13 : decode b_Op_flowFrom 13 = .ok (.ldc2_w 63, 3) := by decide +kernel
theorem d_Op_flowFrom_16 : decode b_Op_flowFrom 16 = .ok (.ldiv, 1) := by decide +kernel
theorem d_Op_flowFrom_17 : decode b_Op_flowFrom 17 = .ok (.invokestatic 65, 3) := by decide +kernel
theorem d_Op_flowFrom_20 : decode b_Op_flowFrom 20 = .ok (.lreturn, 1) := by decide +kernel
theorem d_Ro_heatWith_0 : decode b_Ro_heatWith 0 = .ok (.aload_n 0, 1) := by decide +kernel
theorem d_Ro_heatWith_1 : decode b_Ro_heatWith 1 = .ok (.getfield 28, 3) := by decide +kernel
theorem d_Ro_heatWith_4 : decode b_Ro_heatWith 4 = .ok (.lconst 1, 1) := by decide +kernel
theorem d_Ro_heatWith_5 : decode b_Ro_heatWith 5 = .ok (.lcmp, 1) := by decide +kernel
theorem d_Ro_heatWith_6 : decode b_Ro_heatWith 6 = .ok (.ifCond .ge 7, 3) := by decide +kernel
theorem d_Ro_heatWith_9 : decode b_Ro_heatWith 9 = .ok (.lconst 0, 1) := by decide +kernel
theorem d_Ro_heatWith_10 : decode b_Ro_heatWith 10 = .ok (.goto 14, 3) := by decide +kernel
theorem d_Ro_heatWith_13 : decode b_Ro_heatWith 13 = .ok (.aload_n 0, 1) := by decide +kernel
theorem d_Ro_heatWith_14 : decode b_Ro_heatWith 14 = .ok (.getfield 31, 3) := by decide +kernel
theorem d_Ro_heatWith_17 : decode b_Ro_heatWith 17 = .ok (.lload_n 1, 1) := by decide +kernel
theorem d_Ro_heatWith_18 : decode b_Ro_heatWith 18 = .ok (.lmul, 1) := by decide +kernel
theorem d_Ro_heatWith_19 : decode b_Ro_heatWith 19 = .ok (.aload_n 0, 1) := by decide +kernel
theorem d_Ro_heatWith_20 : decode b_Ro_heatWith 20 = .ok (.getfield 28, 3) := by decide +kernel
theorem d_Ro_heatWith_23 : decode b_Ro_heatWith 23 = .ok (.ldiv, 1) := by decide +kernel
theorem d_Ro_heatWith_24 : decode b_Ro_heatWith 24 = .ok (.lreturn, 1) := by decide +kernel
theorem d_Op_moveFlow_0 : decode b_Op_moveFlow 0 = .ok (.aload_n 0, 1) := by decide +kernel
theorem d_Op_moveFlow_1 : decode b_Op_moveFlow 1 = .ok (.dup, 1) := by decide +kernel
theorem d_Op_moveFlow_2 : decode b_Op_moveFlow 2 = .ok (.getfield 71, 3) := by decide +kernel
theorem d_Op_moveFlow_5 : decode b_Op_moveFlow 5 = .ok (.aload_n 0, 1) := by decide +kernel
theorem d_Op_moveFlow_6 : decode b_Op_moveFlow 6 = .ok (.getfield 35, 3) := by decide +kernel
theorem d_Op_moveFlow_9 : decode b_Op_moveFlow 9 = .ok (.invokestatic 74, 3) := by decide +kernel
theorem d_Op_moveFlow_12 : decode b_Op_moveFlow 12 = .ok (.ladd, 1) := by decide +kernel
theorem d_Op_moveFlow_13 : decode b_Op_moveFlow 13 = .ok (.putfield 71, 3) := by decide +kernel
theorem d_Op_moveFlow_16 : decode b_Op_moveFlow 16 = .ok (.aload_n 0, 1) := by decide +kernel
theorem d_Op_moveFlow_17 : decode b_Op_moveFlow 17 = .ok (.getfield 9, 3) := by decide +kernel
theorem d_Op_moveFlow_20 : decode b_Op_moveFlow 20 = .ok (.aload_n 0, 1) := by decide +kernel
theorem d_Op_moveFlow_21 : decode b_Op_moveFlow 21 = .ok (.getfield 35, 3) := by decide +kernel
theorem d_Op_moveFlow_24 : decode b_Op_moveFlow 24 = .ok (.lneg, 1) := by decide +kernel
theorem d_Op_moveFlow_25 : decode b_Op_moveFlow 25 = .ok (.aload_n 0, 1) := by decide +kernel
theorem d_Op_moveFlow_26 : decode b_Op_moveFlow 26 = .ok (.getfield 35, 3) := by decide +kernel
theorem d_Op_moveFlow_29 : decode b_Op_moveFlow 29 = .ok (.lconst 0, 1) := by decide +kernel
theorem d_Op_moveFlow_30 : decode b_Op_moveFlow 30 = .ok (.lcmp, 1) := by decide +kernel
theorem d_Op_moveFlow_31 : decode b_Op_moveFlow 31 = .ok (.ifCond .ge 10, 3) := by decide +kernel
theorem d_Op_moveFlow_34 : decode b_Op_moveFlow 34 = .ok (.aload_n 0, 1) := by decide +kernel
theorem d_Op_moveFlow_35 : decode b_Op_moveFlow 35 = .ok (.getfield 39, 3) := by decide +kernel
theorem d_Op_moveFlow_38 : decode b_Op_moveFlow 38 = .ok (.goto 8, 3) := by decide +kernel
theorem d_Op_moveFlow_41 : decode b_Op_moveFlow 41 = .ok (.aload_n 0, 1) := by decide +kernel
theorem d_Op_moveFlow_42 : decode b_Op_moveFlow 42 = .ok (.getfield 39, 3) := by decide +kernel
theorem d_Op_moveFlow_45 : decode b_Op_moveFlow 45 = .ok (.lneg, 1) := by decide +kernel
theorem d_Op_moveFlow_46 : decode b_Op_moveFlow 46 = .ok (.invokevirtual 77, 3) := by decide +kernel
theorem d_Op_moveFlow_49 : decode b_Op_moveFlow 49 = .ok (.aload_n 0, 1) := by decide +kernel
theorem d_Op_moveFlow_50 : decode b_Op_moveFlow 50 = .ok (.getfield 15, 3) := by decide +kernel
theorem d_Op_moveFlow_53 : decode b_Op_moveFlow 53 = .ok (.ifnonnull 8, 3) := by decide +kernel
theorem d_Op_moveFlow_56 : decode b_Op_moveFlow 56 = .ok (.aload_n 0, 1) := by decide +kernel
theorem d_Op_moveFlow_57 : decode b_Op_moveFlow 57 = .ok (.getfield 35, 3) := by decide +kernel
theorem d_Op_moveFlow_60 : decode b_Op_moveFlow 60 = .ok (.lreturn, 1) := by decide +kernel
theorem d_Op_moveFlow_61 : decode b_Op_moveFlow 61 = .ok (.aload_n 0, 1) := by decide +kernel
theorem d_Op_moveFlow_62 : decode b_Op_moveFlow 62 = .ok (.getfield 15, 3) := by decide +kernel
theorem d_Op_moveFlow_65 : decode b_Op_moveFlow 65 = .ok (.aload_n 0, 1) := by decide +kernel
theorem d_Op_moveFlow_66 : decode b_Op_moveFlow 66 = .ok (.getfield 35, 3) := by decide +kernel
theorem d_Op_moveFlow_69 : decode b_Op_moveFlow 69 = .ok (.aload_n 0, 1) := by decide +kernel
theorem d_Op_moveFlow_70 : decode b_Op_moveFlow 70 = .ok (.getfield 35, 3) := by decide +kernel
theorem d_Op_moveFlow_73 : decode b_Op_moveFlow 73 = .ok (.lconst 0, 1) := by decide +kernel
theorem d_Op_moveFlow_74 : decode b_Op_moveFlow 74 = .ok (.lcmp, 1) := by decide +kernel
theorem d_Op_moveFlow_75 : decode b_Op_moveFlow 75 = .ok (.ifCond .ge 11, 3) := by decide +kernel
theorem d_Op_moveFlow_78 : decode b_Op_moveFlow 78 = .ok (.aload_n 0, 1) := by decide +kernel
theorem d_Op_moveFlow_79 : decode b_Op_moveFlow 79 = .ok (.getfield 39, 3) := by decide +kernel
theorem d_Op_moveFlow_82 : decode b_Op_moveFlow 82 = .ok (.lneg, 1) := by decide +kernel
theorem d_Op_moveFlow_83 : decode b_Op_moveFlow 83 = .ok (.goto 7, 3) := by decide +kernel
theorem d_Op_moveFlow_86 : decode b_Op_moveFlow 86 = .ok (.aload_n 0, 1) := by decide +kernel
theorem d_Op_moveFlow_87 : decode b_Op_moveFlow 87 = .ok (.getfield 39, 3) := by decide +kernel
theorem d_Op_moveFlow_90 : decode b_Op_moveFlow 90 = .ok (.invokevirtual 77, 3) := by decide +kernel
theorem d_Op_moveFlow_93 : decode b_Op_moveFlow 93 = .ok (.lconst 0, 1) := by decide +kernel
theorem d_Op_moveFlow_94 : decode b_Op_moveFlow 94 = .ok (.lreturn, 1) := by decide +kernel
theorem d_Fa_blow_0 : decode b_Fa_blow 0 = .ok (.iload_n 1, 1) := by decide +kernel
theorem d_Fa_blow_1 : decode b_Fa_blow 1 = .ok (.aload_n 0, 1) := by decide +kernel
theorem d_Fa_blow_2 : decode b_Fa_blow 2 = .ok (.getfield 13, 3) := by decide +kernel
theorem d_Fa_blow_5 : decode b_Fa_blow 5 = .ok (.if_icmp .ge 5, 3) := by decide +kernel
theorem d_Fa_blow_8 : decode b_Fa_blow 8 = .ok (.lconst 0, 1) := by decide +kernel
theorem d_Fa_blow_9 : decode b_Fa_blow 9 = .ok (.lreturn, 1) := by decide +kernel
theorem d_Fa_blow_10 : decode b_Fa_blow 10 = .ok (.aload_n 0, 1) := by decide +kernel
theorem d_Fa_blow_11 : decode b_Fa_blow 11 = .ok (.getfield 17, 3) := by decide +kernel
theorem d_Fa_blow_14 : decode b_Fa_blow 14 = .ok (.i2l, 1) := by decide +kernel
theorem d_Fa_blow_15 : decode b_Fa_blow 15 = .ok (.aload_n 0, 1) := by decide +kernel
theorem d_Fa_blow_16 : decode b_Fa_blow 16 = .ok (.getfield 7, 3) := by decide +kernel
theorem d_Fa_blow_19 : decode b_Fa_blow 19 = .ok (.getfield 20, 3) := by decide +kernel
theorem d_Fa_blow_22 : decode b_Fa_blow 22 = .ok (.invokestatic 26, 3) := by decide +kernel
theorem d_Fa_blow_25 : decode b_Fa_blow 25 = .ok (.lstore_n 2, 1) := by decide +kernel
theorem d_Fa_blow_26 : decode b_Fa_blow 26 = .ok (.aload_n 0, 1) := by decide +kernel
theorem d_Fa_blow_27 : decode b_Fa_blow 27 = .ok (.getfield 7, 3) := by decide +kernel
theorem d_Fa_blow_30 : decode b_Fa_blow 30 = .ok (.lload_n 2, 1) := by decide +kernel
theorem d_Fa_blow_31 : decode b_Fa_blow 31 = .ok (.lneg, 1) := by decide +kernel
theorem d_Fa_blow_32 : decode b_Fa_blow 32 = .ok (.aload_n 0, 1) := by decide +kernel
theorem d_Fa_blow_33 : decode b_Fa_blow 33 = .ok (.getfield 7, 3) := by decide +kernel
theorem d_Fa_blow_36 : decode b_Fa_blow 36 = .ok (.lload_n 2, 1) := by decide +kernel
theorem d_Fa_blow_37 : decode b_Fa_blow 37 = .ok (.invokevirtual 32, 3) := by decide +kernel
theorem d_Fa_blow_40 : decode b_Fa_blow 40 = .ok (.lneg, 1) := by decide +kernel
theorem d_Fa_blow_41 : decode b_Fa_blow 41 = .ok (.invokevirtual 36, 3) := by decide +kernel
theorem d_Fa_blow_44 : decode b_Fa_blow 44 = .ok (.lload_n 2, 1) := by decide +kernel
theorem d_Fa_blow_45 : decode b_Fa_blow 45 = .ok (.lreturn, 1) := by decide +kernel
theorem d_Ro_pressOut_0 : decode b_Ro_pressOut 0 = .ok (.aload_n 0, 1) := by decide +kernel
theorem d_Ro_pressOut_1 : decode b_Ro_pressOut 1 = .ok (.getfield 28, 3) := by decide +kernel
theorem d_Ro_pressOut_4 : decode b_Ro_pressOut 4 = .ok (.aload_n 0, 1) := by decide +kernel
theorem d_Ro_pressOut_5 : decode b_Ro_pressOut 5 = .ok (.getfield 18, 3) := by decide +kernel
theorem d_Ro_pressOut_8 : decode b_Ro_pressOut 8 = .ok (.lcmp, 1) := by decide +kernel
theorem d_Ro_pressOut_9 : decode b_Ro_pressOut 9 = .ok (.ifCond .gt 5, 3) := by decide +kernel
theorem d_Ro_pressOut_12 : decode b_Ro_pressOut 12 = .ok (.lconst 0, 1) := by decide +kernel
theorem d_Ro_pressOut_13 : decode b_Ro_pressOut 13 = .ok (.lreturn, 1) := by decide +kernel
theorem d_Ro_pressOut_14 : decode b_Ro_pressOut 14 = .ok (.aload_n 0, 1) := by decide +kernel
theorem d_Ro_pressOut_15 : decode b_Ro_pressOut 15 = .ok (.getfield 28, 3) := by decide +kernel
theorem d_Ro_pressOut_18 : decode b_Ro_pressOut 18 = .ok (.aload_n 0, 1) := by decide +kernel
theorem d_Ro_pressOut_19 : decode b_Ro_pressOut 19 = .ok (.getfield 18, 3) := by decide +kernel
theorem d_Ro_pressOut_22 : decode b_Ro_pressOut 22 = .ok (.lsub, 1) := by decide +kernel
theorem d_Ro_pressOut_23 : decode b_Ro_pressOut 23 = .ok (.lstore_n 1, 1) := by decide +kernel
theorem d_Ro_pressOut_24 : decode b_Ro_pressOut 24 = .ok (.aload_n 0, 1) := by decide +kernel
theorem d_Ro_pressOut_25 : decode b_Ro_pressOut 25 = .ok (.aload_n 0, 1) := by decide +kernel
theorem d_Ro_pressOut_26 : decode b_Ro_pressOut 26 = .ok (.aload_n 0, 1) := by decide +kernel
theorem d_Ro_pressOut_27 : decode b_Ro_pressOut 27 = .ok (.getfield 18, 3) := by decide +kernel
theorem d_Ro_pressOut_30 : decode b_Ro_pressOut 30 = .ok (.invokevirtual 49, 3) := by decide +kernel
theorem d_Ro_pressOut_33 : decode b_Ro_pressOut 33 = .ok (.putfield 31, 3) := by decide +kernel
theorem d_Ro_pressOut_36 : decode b_Ro_pressOut 36 = .ok (.aload_n 0, 1) := by decide +kernel
theorem d_Ro_pressOut_37 : decode b_Ro_pressOut 37 = .ok (.aload_n 0, 1) := by decide +kernel
theorem d_Ro_pressOut_38 : decode b_Ro_pressOut 38 = .ok (.getfield 18, 3) := by decide +kernel
theorem d_Ro_pressOut_41 : decode b_Ro_pressOut 41 = .ok (.putfield 28, 3) := by decide +kernel
theorem d_Ro_pressOut_44 : decode b_Ro_pressOut 44 = .ok (.lload_n 1, 1) := by decide +kernel
theorem d_Ro_pressOut_45 : decode b_Ro_pressOut 45 = .ok (.lreturn, 1) := by decide +kernel
theorem d_Ro_testSprinkler_0 : decode b_Ro_testSprinkler 0 = .ok (.aload_n 0, 1) := by decide +kernel
theorem d_Ro_testSprinkler_1 : decode b_Ro_testSprinkler 1 = .ok (.getfield 22, 3) := by decide +kernel
theorem d_Ro_testSprinkler_4 : decode b_Ro_testSprinkler 4 = .ok (.iconst (-1), 1) := by decide +kernel
theorem d_Ro_testSprinkler_5 : decode b_Ro_testSprinkler 5 = .ok (.if_icmp .eq 21, 3) := by decide +kernel
theorem d_Ro_testSprinkler_8 : decode b_Ro_testSprinkler 8 = .ok (.aload_n 0, 1) := by decide +kernel
theorem d_Ro_testSprinkler_9 : decode b_Ro_testSprinkler 9 = .ok (.invokevirtual 53, 3) := by decide +kernel
theorem d_Ro_testSprinkler_12 : decode b_Ro_testSprinkler 12 = .ok (.aload_n 0, 1) := by decide +kernel
theorem d_Ro_testSprinkler_13 : decode b_Ro_testSprinkler 13 = .ok (.getfield 22, 3) := by decide +kernel
theorem d_Ro_testSprinkler_16 : decode b_Ro_testSprinkler 16 = .ok (.i2l, 1) := by decide +kernel
theorem d_Ro_testSprinkler_17 : decode b_Ro_testSprinkler 17 = .ok (.lcmp, 1) := by decide +kernel
theorem d_Ro_testSprinkler_18 : decode b_Ro_testSprinkler 18 = .ok (.ifCond .lt 8, 3) := by decide +kernel
theorem d_Ro_testSprinkler_21 : decode b_Ro_testSprinkler 21 = .ok (.aload_n 0, 1) := by decide +kernel
theorem d_Ro_testSprinkler_22 : decode b_Ro_testSprinkler 22 = .ok (.iconst 1, 1) := by decide +kernel
theorem d_Ro_testSprinkler_23 : decode b_Ro_testSprinkler 23 = .ok (.putfield 56, 3) := by decide +kernel
theorem d_Ro_testSprinkler_26 : decode b_Ro_testSprinkler 26 = .ok (.return_, 1) := by decide +kernel
theorem d_Ro_warmth_0 : decode b_Ro_warmth 0 = .ok (.aload_n 0, 1) := by decide +kernel
theorem d_Ro_warmth_1 : decode b_Ro_warmth 1 = .ok (.getfield 28, 3) := by decide +kernel
theorem d_Ro_warmth_4 : decode b_Ro_warmth 4 = .ok (.lconst 1, 1) := by decide +kernel
theorem d_Ro_warmth_5 : decode b_Ro_warmth 5 = .ok (.lcmp, 1) := by decide +kernel
theorem d_Ro_warmth_6 : decode b_Ro_warmth 6 = .ok (.ifCond .ge 7, 3) := by decide +kernel
theorem d_Ro_warmth_9 : decode b_Ro_warmth 9 = .ok (.lconst 0, 1) := by decide +kernel
theorem d_Ro_warmth_10 : decode b_Ro_warmth 10 = .ok (.goto 12, 3) := by decide +kernel
theorem d_Ro_warmth_13 : decode b_Ro_warmth 13 = .ok (.aload_n 0, 1) := by decide +kernel
theorem d_Ro_warmth_14 : decode b_Ro_warmth 14 = .ok (.getfield 31, 3) := by decide +kernel
theorem d_Ro_warmth_17 : decode b_Ro_warmth 17 = .ok (.aload_n 0, 1) := by decide +kernel
theorem d_Ro_warmth_18 : decode b_Ro_warmth 18 = .ok (.getfield 28, 3) := by decide +kernel
theorem d_Ro_warmth_21 : decode b_Ro_warmth 21 = .ok (.ldiv, 1) := by decide +kernel
theorem d_Ro_warmth_22 : decode b_Ro_warmth 22 = .ok (.lreturn, 1) := by decide +kernel
theorem d_Op_testGlass_0 : decode b_Op_testGlass 0 = .ok (.aload_n 0, 1) := by decide +kernel
theorem d_Op_testGlass_1 : decode b_Op_testGlass 1 = .ok (.invokevirtual 42, 3) := by decide +kernel
theorem d_Op_testGlass_4 : decode b_Op_testGlass 4 = .ok (.ifCond .ne 30, 3) := by decide +kernel
theorem d_Op_testGlass_7 : decode b_Op_testGlass 7 = .ok (.aload_n 0, 1) := by decide +kernel
theorem d_Op_testGlass_8 : decode b_Op_testGlass 8 = .ok (.aload_n 0, 1) := by decide +kernel
theorem d_Op_testGlass_9 : decode b_Op_testGlass 9 = .ok (.getfield 9, 3) := by decide +kernel
theorem d_Op_testGlass_12 : decode b_Op_testGlass 12 = .ok (.invokevirtual 81, 3) := by decide +kernel
theorem d_Op_testGlass_15 : decode b_Op_testGlass 15 = .ok (.ifCond .ne 14, 3) := by decide +kernel
theorem d_Op_testGlass_18 : decode b_Op_testGlass 18 = .ok (.aload_n 0, 1) := by decide +kernel
theorem d_Op_testGlass_19 : decode b_Op_testGlass 19 = .ok (.aload_n 0, 1) := by decide +kernel
theorem d_Op_testGlass_20 : decode b_Op_testGlass 20 = .ok (.getfield 15, 3) := by decide +kernel
theorem d_Op_testGlass_23 : decode b_Op_testGlass 23 = .ok (.invokevirtual 81, 3) := by decide +kernel
theorem d_Op_testGlass_26 : decode b_Op_testGlass 26 = .ok (.ifCond .eq 8, 3) := by decide +kernel
theorem d_Op_testGlass_29 : decode b_Op_testGlass 29 = .ok (.aload_n 0, 1) := by decide +kernel
theorem d_Op_testGlass_30 : decode b_Op_testGlass 30 = .ok (.iconst 1, 1) := by decide +kernel
theorem d_Op_testGlass_31 : decode b_Op_testGlass 31 = .ok (.putfield 31, 3) := by decide +kernel
theorem d_Op_testGlass_34 : decode b_Op_testGlass 34 = .ok (.return_, 1) := by decide +kernel
theorem d_Op_isHot_0 : decode b_Op_isHot 0 = .ok (.aload_n 1, 1) := by decide +kernel
theorem d_Op_isHot_1 : decode b_Op_isHot 1 = .ok (.ifnull 20, 3) := by decide +kernel
theorem d_Op_isHot_4 : decode b_Op_isHot 4 = .ok (.aload_n 1, 1) := by decide +kernel
theorem d_Op_isHot_5 : decode b_Op_isHot 5 = .ok (.invokevirtual 85, 3) := by decide +kernel
theorem d_Op_isHot_8 : decode b_Op_isHot 8 = .ok (.aload_n 0, 1) := by decide +kernel
theorem d_Op_isHot_9 : decode b_Op_isHot 9 = .ok (.getfield 28, 3) := by decide +kernel
theorem d_Op_isHot_12 : decode b_Op_isHot 12 = .ok (.i2l, 1) := by decide +kernel
theorem d_Op_isHot_13 : decode b_Op_isHot 13 = .ok (.lcmp, 1) := by decide +kernel
theorem d_Op_isHot_14 : decode b_Op_isHot 14 = .ok (.ifCond .lt 7, 3) := by decide +kernel
theorem d_Op_isHot_17 : decode b_Op_isHot 17 = .ok (.iconst 1, 1) := by decide +kernel
theorem d_Op_isHot_18 : decode b_Op_isHot 18 = .ok (.goto 4, 3) := by decide +kernel
theorem d_Op_isHot_21 : decode b_Op_isHot 21 = .ok (.iconst 0, 1) := by decide +kernel
theorem d_Op_isHot_22 : decode b_Op_isHot 22 = .ok (.ireturn, 1) := by decide +kernel
theorem d_St_getWarm_0 : decode b_St_getWarm 0 = .ok (.aload_n 0, 1) := by decide +kernel
theorem d_St_getWarm_1 : decode b_St_getWarm 1 = .ok (.getfield 13, 3) := by decide +kernel
theorem d_St_getWarm_4 : decode b_St_getWarm 4 = .ok (.ifCond .le 32, 3) := by decide +kernel
theorem d_St_getWarm_7 : decode b_St_getWarm 7 = .ok (.aload_n 0, 1) := by decide +kernel
theorem d_St_getWarm_8 : decode b_St_getWarm 8 = .ok (.dup, 1) := by decide +kernel
theorem d_St_getWarm_9 : decode b_St_getWarm 9 = .ok (.getfield 17, 3) := by decide +kernel
theorem d_St_getWarm_12 : decode b_St_getWarm 12 = .ok (.aload_n 0, 1) := by decide +kernel
theorem d_St_getWarm_13 : decode b_St_getWarm 13 = .ok (.getfield 7, 3) := by decide +kernel
theorem d_St_getWarm_16 : decode b_St_getWarm 16 = .ok (.invokevirtual 20, 3) := by decide +kernel
theorem d_St_getWarm_19 : decode b_St_getWarm 19 = .ok (.aload_n 0, 1) := by decide +kernel
theorem d_St_getWarm_20 : decode b_St_getWarm 20 = .ok (.getfield 17, 3) := by decide +kernel
theorem d_St_getWarm_23 : decode b_St_getWarm 23 = .ok (.i2l, 1) := by decide +kernel
theorem d_St_getWarm_24 : decode b_St_getWarm 24 = .ok (.lsub, 1) := by decide +kernel
theorem d_St_getWarm_25 : decode b_St_getWarm 25 = .ok (.aload_n 0, 1) := by decide +kernel
theorem d_St_getWarm_26 : decode b_St_getWarm 26 = .ok (.getfield 13, 3) := by decide +kernel
theorem d_St_getWarm_29 : decode b_St_getWarm 29 = .ok (.i2l, 1) := by decide +kernel
theorem d_St_getWarm_30 : decode b_St_getWarm 30 = .ok (.ldiv, 1) := by decide +kernel
theorem d_St_getWarm_31 : decode b_St_getWarm 31 = .ok (.l2i, 1) := by decide +kernel
theorem d_St_getWarm_32 : decode b_St_getWarm 32 = .ok (.iadd, 1) := by decide +kernel
theorem d_St_getWarm_33 : decode b_St_getWarm 33 = .ok (.putfield 17, 3) := by decide +kernel
theorem d_St_getWarm_36 : decode b_St_getWarm 36 = .ok (.return_, 1) := by decide +kernel
theorem d_Pe_walk_0 : decode b_Pe_walk 0 = .ok (.aload_n 0, 1) := by decide +kernel
theorem d_Pe_walk_1 : decode b_Pe_walk 1 = .ok (.getfield 28, 3) := by decide +kernel
theorem d_Pe_walk_4 : decode b_Pe_walk 4 = .ok (.aload_n 0, 1) := by decide +kernel
theorem d_Pe_walk_5 : decode b_Pe_walk 5 = .ok (.getfield 25, 3) := by decide +kernel
theorem d_Pe_walk_8 : decode b_Pe_walk 8 = .ok (.if_icmp .ge 39, 3) := by decide +kernel
theorem d_Pe_walk_11 : decode b_Pe_walk 11 = .ok (.aload_n 0, 1) := by decide +kernel
theorem d_Pe_walk_12 : decode b_Pe_walk 12 = .ok (.getfield 15, 3) := by decide +kernel
theorem d_Pe_walk_15 : decode b_Pe_walk 15 = .ok (.aload_n 0, 1) := by decide +kernel
theorem d_Pe_walk_16 : decode b_Pe_walk 16 = .ok (.getfield 28, 3) := by decide +kernel
theorem d_Pe_walk_19 : decode b_Pe_walk 19 = .ok (.iaload, 1) := by decide +kernel
theorem d_Pe_walk_20 : decode b_Pe_walk 20 = .ok (.iload_n 1, 1) := by decide +kernel
theorem d_Pe_walk_21 : decode b_Pe_walk 21 = .ok (.if_icmp .ne 26, 3) := by decide +kernel
theorem d_Pe_walk_24 : decode b_Pe_walk 24 = .ok (.aload_n 0, 1) := by decide +kernel
theorem d_Pe_walk_25 : decode b_Pe_walk 25 = .ok (.aload_n 0, 1) := by decide +kernel
theorem d_Pe_walk_26 : decode b_Pe_walk 26 = .ok (.getfield 19, 3) := by decide +kernel
theorem d_Pe_walk_29 : decode b_Pe_walk 29 = .ok (.aload_n 0, 1) := by decide +kernel
theorem d_Pe_walk_30 : decode b_Pe_walk 30 = .ok (.getfield 28, 3) := by decide +kernel
theorem d_Pe_walk_33 : decode b_Pe_walk 33 = .ok (.iaload, 1) := by decide +kernel
theorem d_Pe_walk_34 : decode b_Pe_walk 34 = .ok (.putfield 9, 3) := by decide +kernel
theorem d_Pe_walk_37 : decode b_Pe_walk 37 = .ok (.aload_n 0, 1) := by decide +kernel
theorem d_Pe_walk_38 : decode b_Pe_walk 38 = .ok (.dup, 1) := by decide +kernel
theorem d_Pe_walk_39 : decode b_Pe_walk 39 = .ok (.getfield 28, 3) := by decide +kernel
theorem d_Pe_walk_42 : decode b_Pe_walk 42 = .ok (.iconst 1, 1) := by decide +kernel
theorem d_Pe_walk_43 : decode b_Pe_walk 43 = .ok (.iadd, 1) := by decide +kernel
theorem d_Pe_walk_44 : decode b_Pe_walk 44 = .ok (.putfield 28, 3) := by decide +kernel
theorem d_Pe_walk_47 : decode b_Pe_walk 47 = .ok (.return_, 1) := by decide +kernel
theorem d_Pe_breathe_0 : decode b_Pe_breathe 0 = .ok (.aload_n 1, 1) := by decide +kernel
theorem d_Pe_breathe_1 : decode b_Pe_breathe 1 = .ok (.invokevirtual 31, 3) := by decide +kernel
theorem d_Pe_breathe_4 : decode b_Pe_breathe 4 = .ok (.ifCond .eq 28, 3) := by decide +kernel
theorem d_Pe_breathe_7 : decode b_Pe_breathe 7 = .ok (.aload_n 0, 1) := by decide +kernel
theorem d_Pe_breathe_8 : decode b_Pe_breathe 8 = .ok (.dup, 1) := by decide +kernel
theorem d_Pe_breathe_9 : decode b_Pe_breathe 9 = .ok (.getfield 37, 3) := by decide +kernel
theorem d_Pe_breathe_12 : decode b_Pe_breathe 12 = .ok (.aload_n 1, 1) := by decide +kernel
theorem d_Pe_breathe_13 : decode b_Pe_breathe 13 = .ok (.invokevirtual 41, 3) := by decide +kernel
theorem d_Pe_breathe_16 : decode b_Pe_breathe 16 = .ok (.lconst 1, 1) := by decide +kernel
theorem d_Pe_breathe_17 : decode b_Pe_breathe 17 = .ok (.ladd, 1) := by decide +kernel
theorem d_Pe_breathe_18 : decode b_Pe_breathe 18 = .ok (.ladd, 1) := by decide +kernel
theorem d_Pe_breathe_19 : decode b_Pe_breathe 19 = .ok (.putfield 37, 3) := by decide +kernel
theorem d_Pe_breathe_22 : decode b_Pe_breathe 22 = .ok (.aload_n 0, 1) := by decide +kernel
theorem d_Pe_breathe_23 : decode b_Pe_breathe 23 = .ok (.dup, 1) := by decide +kernel
theorem d_Pe_breathe_24 : decode b_Pe_breathe 24 = .ok (.getfield 45, 3) := by decide +kernel
theorem d_Pe_breathe_27 : decode b_Pe_breathe 27 = .ok (.lconst 1, 1) := by decide +kernel
theorem d_Pe_breathe_28 : decode b_Pe_breathe 28 = .ok (.ladd, 1) := by decide +kernel
theorem d_Pe_breathe_29 : decode b_Pe_breathe 29 = .ok (.putfield 45, 3) := by decide +kernel
theorem d_Pe_breathe_32 : decode b_Pe_breathe 32 = .ok (.return_, 1) := by decide +kernel
theorem d_Ro_isLow_0 : decode b_Ro_isLow 0 = .ok (.aload_n 0, 1) := by decide +kernel
theorem d_Ro_isLow_1 : decode b_Ro_isLow 1 = .ok (.invokevirtual 38, 3) := by decide +kernel
theorem d_Ro_isLow_4 : decode b_Ro_isLow 4 = .ok (.ldc2_w 41, 3) := by decide +kernel
theorem d_Ro_isLow_7 : decode b_Ro_isLow 7 = .ok (.lcmp, 1) := by decide +kernel
theorem d_Ro_isLow_8 : decode b_Ro_isLow 8 = .ok (.ifCond .ge 7, 3) := by decide +kernel
theorem d_Ro_isLow_11 : decode b_Ro_isLow 11 = .ok (.iconst 1, 1) := by decide +kernel
theorem d_Ro_isLow_12 : decode b_Ro_isLow 12 = .ok (.goto 4, 3) := by decide +kernel
theorem d_Ro_isLow_15 : decode b_Ro_isLow 15 = .ok (.iconst 0, 1) := by decide +kernel
theorem d_Ro_isLow_16 : decode b_Ro_isLow 16 = .ok (.ireturn, 1) := by decide +kernel
theorem d_Ro_noteIfLow_0 : decode b_Ro_noteIfLow 0 = .ok (.aload_n 0, 1) := by decide +kernel
theorem d_Ro_noteIfLow_1 : decode b_Ro_noteIfLow 1 = .ok (.getfield 25, 3) := by decide +kernel
theorem d_Ro_noteIfLow_4 : decode b_Ro_noteIfLow 4 = .ok (.iconst (-1), 1) := by decide +kernel
theorem d_Ro_noteIfLow_5 : decode b_Ro_noteIfLow 5 = .ok (.if_icmp .ne 15, 3) := by decide +kernel
theorem d_Ro_noteIfLow_8 : decode b_Ro_noteIfLow 8 = .ok (.aload_n 0, 1) := by decide +kernel
theorem d_Ro_noteIfLow_9 : decode b_Ro_noteIfLow 9 = .ok (.invokevirtual 60, 3) := by decide +kernel
theorem d_Ro_noteIfLow_12 : decode b_Ro_noteIfLow 12 = .ok (.ifCond .eq 8, 3) := by decide +kernel
theorem d_Ro_noteIfLow_15 : decode b_Ro_noteIfLow 15 = .ok (.aload_n 0, 1) := by decide +kernel
theorem d_Ro_noteIfLow_16 : decode b_Ro_noteIfLow 16 = .ok (.iload_n 1, 1) := by decide +kernel
theorem d_Ro_noteIfLow_17 : decode b_Ro_noteIfLow 17 = .ok (.putfield 25, 3) := by decide +kernel
theorem d_Ro_noteIfLow_20 : decode b_Ro_noteIfLow 20 = .ok (.return_, 1) := by decide +kernel
end
section
theorem d_Sz_init_0 : decode b_Sz_init 0 = .ok (.aload_n 0, 1) := by decide +kernel
theorem d_Sz_init_1 : decode b_Sz_init 1 = .ok (.invokespecial 1, 3) := by decide +kernel
theorem d_Sz_init_4 : decode b_Sz_init 4 = .ok (.aload_n 0, 1) := by decide +kernel
theorem d_Sz_init_5 : decode b_Sz_init 5 = .ok (.bipush 10, 2) := by decide +kernel
theorem d_Sz_init_7 : decode b_Sz_init 7 = .ok (.anewarray 9, 3) := by decide +kernel
theorem d_Sz_init_10 : decode b_Sz_init 10 = .ok (.putfield 11, 3) := by decide +kernel
theorem d_Sz_init_13 : decode b_Sz_init 13 = .ok (.aload_n 0, 1) := by decide +kernel
theorem d_Sz_init_14 : decode b_Sz_init 14 = .ok (.bipush 15, 2) := by decide +kernel
theorem d_Sz_init_16 : decode b_Sz_init 16 = .ok (.anewarray 15, 3) := by decide +kernel
theorem d_Sz_init_19 : decode b_Sz_init 19 = .ok (.putfield 17, 3) := by decide +kernel
theorem d_Sz_init_22 : decode b_Sz_init 22 = .ok (.aload_n 0, 1) := by decide +kernel
theorem d_Sz_init_23 : decode b_Sz_init 23 = .ok (.iconst 5, 1) := by decide +kernel
theorem d_Sz_init_24 : decode b_Sz_init 24 = .ok (.anewarray 21, 3) := by decide +kernel
theorem d_Sz_init_27 : decode b_Sz_init 27 = .ok (.putfield 23, 3) := by decide +kernel
theorem d_Sz_init_30 : decode b_Sz_init 30 = .ok (.aload_n 0, 1) := by decide +kernel
theorem d_Sz_init_31 : decode b_Sz_init 31 = .ok (.bipush 9, 2) := by decide +kernel
theorem d_Sz_init_33 : decode b_Sz_init 33 = .ok (.anewarray 27, 3) := by decide +kernel
theorem d_Sz_init_36 : decode b_Sz_init 36 = .ok (.putfield 29, 3) := by decide +kernel
theorem d_Sz_init_39 : decode b_Sz_init 39 = .ok (.aload_n 0, 1) := by decide +kernel
theorem d_Sz_init_40 : decode b_Sz_init 40 = .ok (.bipush 9, 2) := by decide +kernel
theorem d_Sz_init_42 : decode b_Sz_init 42 = .ok (.anewarray 33, 3) := by decide +kernel
theorem d_Sz_init_45 : decode b_Sz_init 45 = .ok (.putfield 35, 3) := by decide +kernel
theorem d_Sz_init_48 : decode b_Sz_init 48 = .ok (.aload_n 0, 1) := by decide +kernel
theorem d_Sz_init_49 : decode b_Sz_init 49 = .ok (.bipush 9, 2) := by decide +kernel
theorem d_Sz_init_51 : decode b_Sz_init 51 = .ok (.anewarray 39, 3) := by decide +kernel
theorem d_Sz_init_54 : decode b_Sz_init 54 = .ok (.putfield 41, 3) := by decide +kernel
theorem d_Sz_init_57 : decode b_Sz_init 57 = .ok (.return_, 1) := by decide +kernel
theorem d_Sz_room_0 : decode b_Sz_room 0 = .ok (.iload_n 1, 1) := by decide +kernel
theorem d_Sz_room_1 : decode b_Sz_room 1 = .ok (.iconst 1, 1) := by decide +kernel
theorem d_Sz_room_2 : decode b_Sz_room 2 = .ok (.sipush 10000, 3) := by decide +kernel
theorem d_Sz_room_5 : decode b_Sz_room 5 = .ok (.invokestatic 45, 3) := by decide +kernel
theorem d_Sz_room_8 : decode b_Sz_room 8 = .ok (.iload_n 2, 1) := by decide +kernel
theorem d_Sz_room_9 : decode b_Sz_room 9 = .ok (.iconst 1, 1) := by decide +kernel
theorem d_Sz_room_10 : decode b_Sz_room 10 = .ok (.bipush 100, 2) := by decide +kernel
theorem d_Sz_room_12 : decode b_Sz_room 12 = .ok (.invokestatic 45, 3) := by decide +kernel
theorem d_Sz_room_15 : decode b_Sz_room 15 = .ok (.aload_n 0, 1) := by decide +kernel
theorem d_Sz_room_16 : decode b_Sz_room 16 = .ok (.getfield 49, 3) := by decide +kernel
theorem d_Sz_room_19 : decode b_Sz_room 19 = .ok (.bipush 10, 2) := by decide +kernel
theorem d_Sz_room_21 : decode b_Sz_room 21 = .ok (.invokestatic 53, 3) := by decide +kernel
theorem d_Sz_room_24 : decode b_Sz_room 24 = .ok (.aload_n 0, 1) := by decide +kernel
theorem d_Sz_room_25 : decode b_Sz_room 25 = .ok (.getfield 11, 3) := by decide +kernel
theorem d_Sz_room_28 : decode b_Sz_room 28 = .ok (.aload_n 0, 1) := by decide +kernel
theorem d_Sz_room_29 : decode b_Sz_room 29 = .ok (.getfield 49, 3) := by decide +kernel
theorem d_Sz_room_32 : decode b_Sz_room 32 = .ok (.new 9, 3) := by decide +kernel
theorem d_Sz_room_35 : decode b_Sz_room 35 = .ok (.dup, 1) := by decide +kernel
theorem d_Sz_room_36 : decode b_Sz_room 36 = .ok (.iload_n 1, 1) := by decide +kernel
theorem d_Sz_room_37 : decode b_Sz_room 37 = .ok (.iload_n 2, 1) := by decide +kernel
theorem d_Sz_room_38 : decode b_Sz_room 38 = .ok (.invokespecial 57, 3) := by decide +kernel
theorem d_Sz_room_41 : decode b_Sz_room 41 = .ok (.aastore, 1) := by decide +kernel
theorem d_Sz_room_42 : decode b_Sz_room 42 = .ok (.aload_n 0, 1) := by decide +kernel
theorem d_Sz_room_43 : decode b_Sz_room 43 = .ok (.dup, 1) := by decide +kernel
theorem d_Sz_room_44 : decode b_Sz_room 44 = .ok (.getfield 49, 3) := by decide +kernel
theorem d_Sz_room_47 : decode b_Sz_room 47 = .ok (.iconst 1, 1) := by decide +kernel
theorem d_Sz_room_48 : decode b_Sz_room 48 = .ok (.iadd, 1) := by decide +kernel
theorem d_Sz_room_49 : decode b_Sz_room 49 = .ok (.putfield 49, 3) := by decide +kernel
theorem d_Sz_room_52 : decode b_Sz_room 52 = .ok (.aload_n 0, 1) := by decide +kernel
theorem d_Sz_room_53 : decode b_Sz_room 53 = .ok (.getfield 49, 3) := by decide +kernel
theorem d_Sz_room_56 : decode b_Sz_room 56 = .ok (.iconst 1, 1) := by decide +kernel
theorem d_Sz_room_57 : decode b_Sz_room 57 = .ok (.isub, 1) := by decide +kernel
theorem d_Sz_room_58 : decode b_Sz_room 58 = .ok (.ireturn, 1) := by decide +kernel
theorem d_Sz_needBetween_0 : decode b_Sz_needBetween 0 = .ok (.iload_n 0, 1) := by decide +kernel
theorem d_Sz_needBetween_1 : decode b_Sz_needBetween 1 = .ok (.iload_n 1, 1) := by decide +kernel
theorem d_Sz_needBetween_2 : decode b_Sz_needBetween 2 = .ok (.if_icmp .lt 12, 3) := by decide +kernel
theorem d_Sz_needBetween_5 : decode b_Sz_needBetween 5 = .ok (.iload_n 0, 1) := by decide +kernel
theorem d_Sz_needBetween_6 : decode b_Sz_needBetween 6 = .ok (.iload_n 2, 1) := by decide +kernel
theorem d_Sz_needBetween_7 : decode b_Sz_needBetween 7 = .ok (.if_icmp .gt 7, 3) := by decide +kernel
theorem d_Sz_needBetween_10 : decode b_Sz_needBetween 10 = .ok (.iconst 1, 1) := by decide +kernel
theorem d_Sz_needBetween_11 : decode b_Sz_needBetween 11 = .ok (.goto 4, 3) := by decide +kernel
theorem d_Sz_needBetween_14 : decode b_Sz_needBetween 14 = .ok (.iconst 0, 1) := by decide +kernel
theorem d_Sz_needBetween_15 : decode b_Sz_needBetween 15 = .ok (.invokestatic 66, 3) := by decide +kernel
theorem d_Sz_needBetween_18 : decode b_Sz_needBetween 18 = .ok (.return_, 1) := by decide +kernel
theorem d_Sz_needArgument_0 : decode b_Sz_needArgument 0 = .ok (.iload_n 0, 1) := by decide +kernel
theorem d_Sz_needArgument_1 : decode b_Sz_needArgument 1 = .ok (.ifCond .ne 13, 3) := by decide +kernel
theorem d_Sz_needArgument_4 : decode b_Sz_needArgument 4 = .ok (.new 183, 3) := by decide +kernel
theorem d_Sz_needArgument_7 : decode b_Sz_needArgument 7 = .ok (.dup, 1) := by decide +kernel
theorem d_Sz_needArgument_8 : decode b_Sz_needArgument 8 = .ok (.ldc 185, 2) := by decide +kernel
theorem d_Sz_needArgument_10 : decode b_Sz_needArgument 10 = .ok (.invokespecial 187, 3) := by decide +kernel
theorem d_Sz_needArgument_13 : decode b_Sz_needArgument 13 = .ok (.athrow, 1) := by decide +kernel
theorem d_Sz_needArgument_14 : decode b_Sz_needArgument 14 = .ok (.return_, 1) := by decide +kernel
theorem d_Sz_needSpace_0 : decode b_Sz_needSpace 0 = .ok (.iload_n 0, 1) := by decide +kernel
theorem d_Sz_needSpace_1 : decode b_Sz_needSpace 1 = .ok (.iload_n 1, 1) := by decide +kernel
theorem d_Sz_needSpace_2 : decode b_Sz_needSpace 2 = .ok (.if_icmp .ge 7, 3) := by decide +kernel
theorem d_Sz_needSpace_5 : decode b_Sz_needSpace 5 = .ok (.iconst 1, 1) := by decide +kernel
theorem d_Sz_needSpace_6 : decode b_Sz_needSpace 6 = .ok (.goto 4, 3) := by decide +kernel
theorem d_Sz_needSpace_9 : decode b_Sz_needSpace 9 = .ok (.iconst 0, 1) := by decide +kernel
theorem d_Sz_needSpace_10 : decode b_Sz_needSpace 10 = .ok (.invokestatic 82, 3) := by decide +kernel
theorem d_Sz_needSpace_13 : decode b_Sz_needSpace 13 = .ok (.return_, 1) := by decide +kernel
theorem d_Sz_needState_0 : decode b_Sz_needState 0 = .ok (.iload_n 0, 1) := by decide +kernel
theorem d_Sz_needState_1 : decode b_Sz_needState 1 = .ok (.ifCond .ne 13, 3) := by decide +kernel
theorem d_Sz_needState_4 : decode b_Sz_needState 4 = .ok (.new 190, 3) := by decide +kernel
theorem d_Sz_needState_7 : decode b_Sz_needState 7 = .ok (.dup, 1) := by decide +kernel
theorem d_Sz_needState_8 : decode b_Sz_needState 8 = .ok (.ldc 192, 2) := by decide +kernel
theorem d_Sz_needState_10 : decode b_Sz_needState 10 = .ok (.invokespecial 194, 3) := by decide +kernel
theorem d_Sz_needState_13 : decode b_Sz_needState 13 = .ok (.athrow, 1) := by decide +kernel
theorem d_Sz_needState_14 : decode b_Sz_needState 14 = .ok (.return_, 1) := by decide +kernel
theorem d_Sz_opening_0 : decode b_Sz_opening 0 = .ok (.iload_n 1, 1) := by decide +kernel
theorem d_Sz_opening_1 : decode b_Sz_opening 1 = .ok (.aload_n 0, 1) := by decide +kernel
theorem d_Sz_opening_2 : decode b_Sz_opening 2 = .ok (.getfield 49, 3) := by decide +kernel
theorem d_Sz_opening_5 : decode b_Sz_opening 5 = .ok (.invokestatic 59, 3) := by decide +kernel
theorem d_Sz_opening_8 : decode b_Sz_opening 8 = .ok (.aload_n 0, 1) := by decide +kernel
theorem d_Sz_opening_9 : decode b_Sz_opening 9 = .ok (.iload_n 2, 1) := by decide +kernel
theorem d_Sz_opening_10 : decode b_Sz_opening 10 = .ok (.invokevirtual 62, 3) := by decide +kernel
theorem d_Sz_opening_13 : decode b_Sz_opening 13 = .ok (.iload_n 1, 1) := by decide +kernel
theorem d_Sz_opening_14 : decode b_Sz_opening 14 = .ok (.iload_n 2, 1) := by decide +kernel
theorem d_Sz_opening_15 : decode b_Sz_opening 15 = .ok (.if_icmp .eq 7, 3) := by decide +kernel
theorem d_Sz_opening_18 : decode b_Sz_opening 18 = .ok (.iconst 1, 1) := by decide +kernel
theorem d_Sz_opening_19 : decode b_Sz_opening 19 = .ok (.goto 4, 3) := by decide +kernel
theorem d_Sz_opening_22 : decode b_Sz_opening 22 = .ok (.iconst 0, 1) := by decide +kernel
theorem d_Sz_opening_23 : decode b_Sz_opening 23 = .ok (.invokestatic 66, 3) := by decide +kernel
theorem d_Sz_opening_26 : decode b_Sz_opening 26 = .ok (.iload_n 3, 1) := by decide +kernel
theorem d_Sz_opening_27 : decode b_Sz_opening 27 = .ok (.iconst 1, 1) := by decide +kernel
theorem d_Sz_opening_28 : decode b_Sz_opening 28 = .ok (.bipush 50, 2) := by decide +kernel
theorem d_Sz_opening_30 : decode b_Sz_opening 30 = .ok (.invokestatic 45, 3) := by decide +kernel
theorem d_Sz_opening_33 : decode b_Sz_opening 33 = .ok (.iload 5, 2) := by decide +kernel
theorem d_Sz_opening_35 : decode b_Sz_opening 35 = .ok (.iconst 1, 1) := by decide +kernel
theorem d_Sz_opening_36 : decode b_Sz_opening 36 = .ok (.aload_n 0, 1) := by decide +kernel
theorem d_Sz_opening_37 : decode b_Sz_opening 37 = .ok (.getfield 11, 3) := by decide +kernel
theorem d_Sz_opening_40 : decode b_Sz_opening 40 = .ok (.iload_n 1, 1) := by decide +kernel
theorem d_Sz_opening_41 : decode b_Sz_opening 41 = .ok (.aaload, 1) := by decide +kernel
theorem d_Sz_opening_42 : decode b_Sz_opening 42 = .ok (.getfield 70, 3) := by decide +kernel
theorem d_Sz_opening_45 : decode b_Sz_opening 45 = .ok (.invokestatic 45, 3) := by decide +kernel
theorem d_Sz_opening_48 : decode b_Sz_opening 48 = .ok (.iload 4, 2) := by decide +kernel
theorem d_Sz_opening_50 : decode b_Sz_opening 50 = .ok (.iconst 0, 1) := by decide +kernel
theorem d_Sz_opening_51 : decode b_Sz_opening 51 = .ok (.iload 5, 2) := by decide +kernel
theorem d_Sz_opening_53 : decode b_Sz_opening 53 = .ok (.iconst 1, 1) := by decide +kernel
theorem d_Sz_opening_54 : decode b_Sz_opening 54 = .ok (.isub, 1) := by decide +kernel
theorem d_Sz_opening_55 : decode b_Sz_opening 55 = .ok (.invokestatic 45, 3) := by decide +kernel
theorem d_Sz_opening_58 : decode b_Sz_opening 58 = .ok (.iload_n 2, 1) := by decide +kernel
theorem d_Sz_opening_59 : decode b_Sz_opening 59 = .ok (.iconst (-1), 1) := by decide +kernel
theorem d_Sz_opening_60 : decode b_Sz_opening 60 = .ok (.if_icmp .ne 7, 3) := by decide +kernel
theorem d_Sz_opening_63 : decode b_Sz_opening 63 = .ok (.aconst_null, 1) := by decide +kernel
theorem d_Sz_opening_64 : decode b_Sz_opening 64 = .ok (.goto 9, 3) := by decide +kernel
theorem d_Sz_opening_67 : decode b_Sz_opening 67 = .ok (.aload_n 0, 1) := by decide +kernel
theorem d_Sz_opening_68 : decode b_Sz_opening 68 = .ok (.getfield 11, 3) := by decide +kernel
theorem d_Sz_opening_71 : decode b_Sz_opening 71 = .ok (.iload_n 2, 1) := by decide +kernel
theorem d_Sz_opening_72 : decode b_Sz_opening 72 = .ok (.aaload, 1) := by decide +kernel
theorem d_Sz_opening_73 : decode b_Sz_opening 73 = .ok (.astore 6, 2) := by decide +kernel
theorem d_Sz_opening_75 : decode b_Sz_opening 75 = .ok (.aload 6, 2) := by decide +kernel
theorem d_Sz_opening_77 : decode b_Sz_opening 77 = .ok (.ifnull 13, 3) := by decide +kernel
theorem d_Sz_opening_80 : decode b_Sz_opening 80 = .ok (.iload 5, 2) := by decide +kernel
theorem d_Sz_opening_82 : decode b_Sz_opening 82 = .ok (.aload 6, 2) := by decide +kernel
theorem d_Sz_opening_84 : decode b_Sz_opening 84 = .ok (.getfield 70, 3) := by decide +kernel
theorem d_Sz_opening_87 : decode b_Sz_opening 87 = .ok (.if_icmp .gt 7, 3) := by decide +kernel
theorem d_Sz_opening_90 : decode b_Sz_opening 90 = .ok (.iconst 1, 1) := by decide +kernel
theorem d_Sz_opening_91 : decode b_Sz_opening 91 = .ok (.goto 4, 3) := by decide +kernel
theorem d_Sz_opening_94 : decode b_Sz_opening 94 = .ok (.iconst 0, 1) := by decide +kernel
theorem d_Sz_opening_95 : decode b_Sz_opening 95 = .ok (.invokestatic 66, 3) := by decide +kernel
theorem d_Sz_opening_98 : decode b_Sz_opening 98 = .ok (.aload_n 0, 1) := by decide +kernel
theorem d_Sz_opening_99 : decode b_Sz_opening 99 = .ok (.getfield 73, 3) := by decide +kernel
theorem d_Sz_opening_102 : decode b_Sz_opening 102 = .ok (.bipush 15, 2) := by decide +kernel
theorem d_Sz_opening_104 : decode b_Sz_opening 104 = .ok (.invokestatic 53, 3) := by decide +kernel
theorem d_Sz_opening_107 : decode b_Sz_opening 107 = .ok (.aload_n 0, 1) := by decide +kernel
theorem d_Sz_opening_108 : decode b_Sz_opening 108 = .ok (.getfield 17, 3) := by decide +kernel
theorem d_Sz_opening_111 : decode b_Sz_opening 111 = .ok (.aload_n 0, 1) := by decide +kernel
theorem d_Sz_opening_112 : decode b_Sz_opening 112 = .ok (.getfield 73, 3) := by decide +kernel
theorem d_Sz_opening_115 : decode b_Sz_opening 115 = .ok (.new 15, 3) := by decide +kernel
theorem d_Sz_opening_118 : decode b_Sz_opening 118 = .ok (.dup, 1) := by decide +kernel
theorem d_Sz_opening_119 : decode b_Sz_opening 119 = .ok (.aload_n 0, 1) := by decide +kernel
theorem d_Sz_opening_120 : decode b_Sz_opening 120 = .ok (.getfield 11, 3) := by decide +kernel
theorem d_Sz_opening_123 : decode b_Sz_opening 123 = .ok (.iload_n 1, 1) := by decide +kernel
theorem d_Sz_opening_124 : decode b_Sz_opening 124 = .ok (.aaload, 1) := by decide +kernel
theorem d_Sz_opening_125 : decode b_Sz_opening 125 = .ok (.aload 6, 2) := by decide +kernel
theorem d_Sz_opening_127 : decode b_Sz_opening 127 = .ok (.iload_n 3, 1) := by decide +kernel
theorem d_Sz_opening_128 : decode b_Sz_opening 128 = .ok (.iload 4, 2) := by decide +kernel
theorem d_Sz_opening_130 : decode b_Sz_opening 130 = .ok (.iload 5, 2) := by decide +kernel
theorem d_Sz_opening_132 : decode b_Sz_opening 132 = .ok (.invokespecial 76, 3) := by decide +kernel
theorem d_Sz_opening_135 : decode b_Sz_opening 135 = .ok (.aastore, 1) := by decide +kernel
theorem d_Sz_opening_136 : decode b_Sz_opening 136 = .ok (.aload_n 0, 1) := by decide +kernel
theorem d_Sz_opening_137 : decode b_Sz_opening 137 = .ok (.dup, 1) := by decide +kernel
theorem d_Sz_opening_138 : decode b_Sz_opening 138 = .ok (.getfield 73, 3) := by decide +kernel
theorem d_Sz_opening_141 : decode b_Sz_opening 141 = .ok (.iconst 1, 1) := by decide +kernel
theorem d_Sz_opening_142 : decode b_Sz_opening 142 = .ok (.iadd, 1) := by decide +kernel
theorem d_Sz_opening_143 : decode b_Sz_opening 143 = .ok (.putfield 73, 3) := by decide +kernel
theorem d_Sz_opening_146 : decode b_Sz_opening 146 = .ok (.aload_n 0, 1) := by decide +kernel
theorem d_Sz_opening_147 : decode b_Sz_opening 147 = .ok (.getfield 73, 3) := by decide +kernel
theorem d_Sz_opening_150 : decode b_Sz_opening 150 = .ok (.iconst 1, 1) := by decide +kernel
theorem d_Sz_opening_151 : decode b_Sz_opening 151 = .ok (.isub, 1) := by decide +kernel
theorem d_Sz_opening_152 : decode b_Sz_opening 152 = .ok (.ireturn, 1) := by decide +kernel
theorem d_Sz_needNumber_0 : decode b_Sz_needNumber 0 = .ok (.iload_n 0, 1) := by decide +kernel
theorem d_Sz_needNumber_1 : decode b_Sz_needNumber 1 = .ok (.ifCond .lt 12, 3) := by decide +kernel
theorem d_Sz_needNumber_4 : decode b_Sz_needNumber 4 = .ok (.iload_n 0, 1) := by decide +kernel
theorem d_Sz_needNumber_5 : decode b_Sz_needNumber 5 = .ok (.iload_n 1, 1) := by decide +kernel
theorem d_Sz_needNumber_6 : decode b_Sz_needNumber 6 = .ok (.if_icmp .ge 7, 3) := by decide +kernel
theorem d_Sz_needNumber_9 : decode b_Sz_needNumber 9 = .ok (.iconst 1, 1) := by decide +kernel
theorem d_Sz_needNumber_10 : decode b_Sz_needNumber 10 = .ok (.goto 4, 3) := by decide +kernel
theorem d_Sz_needNumber_13 : decode b_Sz_needNumber 13 = .ok (.iconst 0, 1) := by decide +kernel
theorem d_Sz_needNumber_14 : decode b_Sz_needNumber 14 = .ok (.invokestatic 66, 3) := by decide +kernel
theorem d_Sz_needNumber_17 : decode b_Sz_needNumber 17 = .ok (.return_, 1) := by decide +kernel
theorem d_Sz_needPlace_0 : decode b_Sz_needPlace 0 = .ok (.iload_n 1, 1) := by decide +kernel
theorem d_Sz_needPlace_1 : decode b_Sz_needPlace 1 = .ok (.iconst (-1), 1) := by decide +kernel
theorem d_Sz_needPlace_2 : decode b_Sz_needPlace 2 = .ok (.if_icmp .eq 11, 3) := by decide +kernel
theorem d_Sz_needPlace_5 : decode b_Sz_needPlace 5 = .ok (.aload_n 0, 1) := by decide +kernel
theorem d_Sz_needPlace_6 : decode b_Sz_needPlace 6 = .ok (.iload_n 1, 1) := by decide +kernel
theorem d_Sz_needPlace_7 : decode b_Sz_needPlace 7 = .ok (.invokevirtual 195, 3) := by decide +kernel
theorem d_Sz_needPlace_10 : decode b_Sz_needPlace 10 = .ok (.ifCond .eq 7, 3) := by decide +kernel
theorem d_Sz_needPlace_13 : decode b_Sz_needPlace 13 = .ok (.iconst 1, 1) := by decide +kernel
theorem d_Sz_needPlace_14 : decode b_Sz_needPlace 14 = .ok (.goto 4, 3) := by decide +kernel
theorem d_Sz_needPlace_17 : decode b_Sz_needPlace 17 = .ok (.iconst 0, 1) := by decide +kernel
theorem d_Sz_needPlace_18 : decode b_Sz_needPlace 18 = .ok (.invokestatic 66, 3) := by decide +kernel
theorem d_Sz_needPlace_21 : decode b_Sz_needPlace 21 = .ok (.return_, 1) := by decide +kernel
theorem d_Sz_isRoom_0 : decode b_Sz_isRoom 0 = .ok (.iload_n 1, 1) := by decide +kernel
theorem d_Sz_isRoom_1 : decode b_Sz_isRoom 1 = .ok (.ifCond .lt 15, 3) := by decide +kernel
theorem d_Sz_isRoom_4 : decode b_Sz_isRoom 4 = .ok (.iload_n 1, 1) := by decide +kernel
theorem d_Sz_isRoom_5 : decode b_Sz_isRoom 5 = .ok (.aload_n 0, 1) := by decide +kernel
theorem d_Sz_isRoom_6 : decode b_Sz_isRoom 6 = .ok (.getfield 49, 3) := by decide +kernel
theorem d_Sz_isRoom_9 : decode b_Sz_isRoom 9 = .ok (.if_icmp .ge 7, 3) := by decide +kernel
theorem d_Sz_isRoom_12 : decode b_Sz_isRoom 12 = .ok (.iconst 1, 1) := by decide +kernel
theorem d_Sz_isRoom_13 : decode b_Sz_isRoom 13 = .ok (.goto 4, 3) := by decide +kernel
theorem d_Sz_isRoom_16 : decode b_Sz_isRoom 16 = .ok (.iconst 0, 1) := by decide +kernel
theorem d_Sz_isRoom_17 : decode b_Sz_isRoom 17 = .ok (.ireturn, 1) := by decide +kernel
theorem d_Sz_glass_0 : decode b_Sz_glass 0 = .ok (.iload_n 1, 1) := by decide +kernel
theorem d_Sz_glass_1 : decode b_Sz_glass 1 = .ok (.aload_n 0, 1) := by decide +kernel
theorem d_Sz_glass_2 : decode b_Sz_glass 2 = .ok (.getfield 73, 3) := by decide +kernel
theorem d_Sz_glass_5 : decode b_Sz_glass 5 = .ok (.invokestatic 59, 3) := by decide +kernel
theorem d_Sz_glass_8 : decode b_Sz_glass 8 = .ok (.iload_n 2, 1) := by decide +kernel
theorem d_Sz_glass_9 : decode b_Sz_glass 9 = .ok (.iconst 1, 1) := by decide +kernel
theorem d_Sz_glass_10 : decode b_Sz_glass 10 = .ok (.sipush 1000, 3) := by decide +kernel
theorem d_Sz_glass_13 : decode b_Sz_glass 13 = .ok (.invokestatic 45, 3) := by decide +kernel
theorem d_Sz_glass_16 : decode b_Sz_glass 16 = .ok (.aload_n 0, 1) := by decide +kernel
theorem d_Sz_glass_17 : decode b_Sz_glass 17 = .ok (.getfield 17, 3) := by decide +kernel
theorem d_Sz_glass_20 : decode b_Sz_glass 20 = .ok (.iload_n 1, 1) := by decide +kernel
theorem d_Sz_glass_21 : decode b_Sz_glass 21 = .ok (.aaload, 1) := by decide +kernel
theorem d_Sz_glass_22 : decode b_Sz_glass 22 = .ok (.getfield 79, 3) := by decide +kernel
theorem d_Sz_glass_25 : decode b_Sz_glass 25 = .ok (.iconst (-1), 1) := by decide +kernel
theorem d_Sz_glass_26 : decode b_Sz_glass 26 = .ok (.if_icmp .ne 7, 3) := by decide +kernel
theorem d_Sz_glass_29 : decode b_Sz_glass 29 = .ok (.iconst 1, 1) := by decide +kernel
theorem d_Sz_glass_30 : decode b_Sz_glass 30 = .ok (.goto 4, 3) := by decide +kernel
theorem d_Sz_glass_33 : decode b_Sz_glass 33 = .ok (.iconst 0, 1) := by decide +kernel
theorem d_Sz_glass_34 : decode b_Sz_glass 34 = .ok (.invokestatic 82, 3) := by decide +kernel
theorem d_Sz_glass_37 : decode b_Sz_glass 37 = .ok (.aload_n 0, 1) := by decide +kernel
theorem d_Sz_glass_38 : decode b_Sz_glass 38 = .ok (.getfield 17, 3) := by decide +kernel
theorem d_Sz_glass_41 : decode b_Sz_glass 41 = .ok (.iload_n 1, 1) := by decide +kernel
theorem d_Sz_glass_42 : decode b_Sz_glass 42 = .ok (.aaload, 1) := by decide +kernel
theorem d_Sz_glass_43 : decode b_Sz_glass 43 = .ok (.iload_n 2, 1) := by decide +kernel
theorem d_Sz_glass_44 : decode b_Sz_glass 44 = .ok (.putfield 79, 3) := by decide +kernel
theorem d_Sz_glass_47 : decode b_Sz_glass 47 = .ok (.return_, 1) := by decide +kernel
theorem d_Sz_fire_0 : decode b_Sz_fire 0 = .ok (.iload_n 1, 1) := by decide +kernel
theorem d_Sz_fire_1 : decode b_Sz_fire 1 = .ok (.aload_n 0, 1) := by decide +kernel
theorem d_Sz_fire_2 : decode b_Sz_fire 2 = .ok (.getfield 49, 3) := by decide +kernel
theorem d_Sz_fire_5 : decode b_Sz_fire 5 = .ok (.invokestatic 59, 3) := by decide +kernel
theorem d_Sz_fire_8 : decode b_Sz_fire 8 = .ok (.iload_n 2, 1) := by decide +kernel
theorem d_Sz_fire_9 : decode b_Sz_fire 9 = .ok (.aload_n 0, 1) := by decide +kernel
theorem d_Sz_fire_10 : decode b_Sz_fire 10 = .ok (.getfield 85, 3) := by decide +kernel
theorem d_Sz_fire_13 : decode b_Sz_fire 13 = .ok (.ldc 88, 2) := by decide +kernel
theorem d_Sz_fire_15 : decode b_Sz_fire 15 = .ok (.invokestatic 45, 3) := by decide +kernel
theorem d_Sz_fire_18 : decode b_Sz_fire 18 = .ok (.iload_n 3, 1) := by decide +kernel
theorem d_Sz_fire_19 : decode b_Sz_fire 19 = .ok (.iconst 1, 1) := by decide +kernel
theorem d_Sz_fire_20 : decode b_Sz_fire 20 = .ok (.sipush 1000, 3) := by decide +kernel
theorem d_Sz_fire_23 : decode b_Sz_fire 23 = .ok (.invokestatic 45, 3) := by decide +kernel
theorem d_Sz_fire_26 : decode b_Sz_fire 26 = .ok (.iload 4, 2) := by decide +kernel
theorem d_Sz_fire_28 : decode b_Sz_fire 28 = .ok (.iconst 1, 1) := by decide +kernel
theorem d_Sz_fire_29 : decode b_Sz_fire 29 = .ok (.ldc 88, 2) := by decide +kernel
theorem d_Sz_fire_31 : decode b_Sz_fire 31 = .ok (.invokestatic 45, 3) := by decide +kernel
theorem d_Sz_fire_34 : decode b_Sz_fire 34 = .ok (.iload 5, 2) := by decide +kernel
theorem d_Sz_fire_36 : decode b_Sz_fire 36 = .ok (.iconst 0, 1) := by decide +kernel
theorem d_Sz_fire_37 : decode b_Sz_fire 37 = .ok (.sipush 1000, 3) := by decide +kernel
theorem d_Sz_fire_40 : decode b_Sz_fire 40 = .ok (.invokestatic 45, 3) := by decide +kernel
theorem d_Sz_fire_43 : decode b_Sz_fire 43 = .ok (.aload_n 0, 1) := by decide +kernel
theorem d_Sz_fire_44 : decode b_Sz_fire 44 = .ok (.getfield 89, 3) := by decide +kernel
theorem d_Sz_fire_47 : decode b_Sz_fire 47 = .ok (.iconst 5, 1) := by decide +kernel
theorem d_Sz_fire_48 : decode b_Sz_fire 48 = .ok (.invokestatic 53, 3) := by decide +kernel
theorem d_Sz_fire_51 : decode b_Sz_fire 51 = .ok (.aload_n 0, 1) := by decide +kernel
theorem d_Sz_fire_52 : decode b_Sz_fire 52 = .ok (.getfield 23, 3) := by decide +kernel
theorem d_Sz_fire_55 : decode b_Sz_fire 55 = .ok (.aload_n 0, 1) := by decide +kernel
theorem d_Sz_fire_56 : decode b_Sz_fire 56 = .ok (.getfield 89, 3) := by decide +kernel
theorem d_Sz_fire_59 : decode b_Sz_fire 59 = .ok (.new 21, 3) := by decide +kernel
theorem d_Sz_fire_62 : decode b_Sz_fire 62 = .ok (.dup, 1) := by decide +kernel
theorem d_Sz_fire_63 : decode b_Sz_fire 63 = .ok (.aload_n 0, 1) := by decide +kernel
theorem d_Sz_fire_64 : decode b_Sz_fire 64 = .ok (.getfield 11, 3) := by decide +kernel
theorem d_Sz_fire_67 : decode b_Sz_fire 67 = .ok (.iload_n 1, 1) := by decide +kernel
theorem d_Sz_fire_68 : decode b_Sz_fire 68 = .ok (.aaload, 1) := by decide +kernel
theorem d_Sz_fire_69 : decode b_Sz_fire 69 = .ok (.iload_n 2, 1) := by decide +kernel
theorem d_Sz_fire_70 : decode b_Sz_fire 70 = .ok (.iload_n 3, 1) := by decide +kernel
theorem d_Sz_fire_71 : decode b_Sz_fire 71 = .ok (.iload 4, 2) := by decide +kernel
theorem d_Sz_fire_73 : decode b_Sz_fire 73 = .ok (.iload 5, 2) := by decide +kernel
theorem d_Sz_fire_75 : decode b_Sz_fire 75 = .ok (.invokespecial 92, 3) := by decide +kernel
theorem d_Sz_fire_78 : decode b_Sz_fire 78 = .ok (.aastore, 1) := by decide +kernel
theorem d_Sz_fire_79 : decode b_Sz_fire 79 = .ok (.aload_n 0, 1) := by decide +kernel
theorem d_Sz_fire_80 : decode b_Sz_fire 80 = .ok (.dup, 1) := by decide +kernel
theorem d_Sz_fire_81 : decode b_Sz_fire 81 = .ok (.getfield 89, 3) := by decide +kernel
theorem d_Sz_fire_84 : decode b_Sz_fire 84 = .ok (.iconst 1, 1) := by decide +kernel
theorem d_Sz_fire_85 : decode b_Sz_fire 85 = .ok (.iadd, 1) := by decide +kernel
theorem d_Sz_fire_86 : decode b_Sz_fire 86 = .ok (.putfield 89, 3) := by decide +kernel
theorem d_Sz_fire_89 : decode b_Sz_fire 89 = .ok (.aload_n 0, 1) := by decide +kernel
theorem d_Sz_fire_90 : decode b_Sz_fire 90 = .ok (.getfield 89, 3) := by decide +kernel
theorem d_Sz_fire_93 : decode b_Sz_fire 93 = .ok (.iconst 1, 1) := by decide +kernel
theorem d_Sz_fire_94 : decode b_Sz_fire 94 = .ok (.isub, 1) := by decide +kernel
theorem d_Sz_fire_95 : decode b_Sz_fire 95 = .ok (.ireturn, 1) := by decide +kernel
theorem d_Sz_sprinkler_0 : decode b_Sz_sprinkler 0 = .ok (.iload_n 1, 1) := by decide +kernel
theorem d_Sz_sprinkler_1 : decode b_Sz_sprinkler 1 = .ok (.aload_n 0, 1) := by decide +kernel
theorem d_Sz_sprinkler_2 : decode b_Sz_sprinkler 2 = .ok (.getfield 49, 3) := by decide +kernel
theorem d_Sz_sprinkler_5 : decode b_Sz_sprinkler 5 = .ok (.invokestatic 59, 3) := by decide +kernel
theorem d_Sz_sprinkler_8 : decode b_Sz_sprinkler 8 = .ok (.iload_n 2, 1) := by decide +kernel
theorem d_Sz_sprinkler_9 : decode b_Sz_sprinkler 9 = .ok (.iconst 1, 1) := by decide +kernel
theorem d_Sz_sprinkler_10 : decode b_Sz_sprinkler 10 = .ok (.sipush 1000, 3) := by decide +kernel
theorem d_Sz_sprinkler_13 : decode b_Sz_sprinkler 13 = .ok (.invokestatic 45, 3) := by decide +kernel
theorem d_Sz_sprinkler_16 : decode b_Sz_sprinkler 16 = .ok (.aload_n 0, 1) := by decide +kernel
theorem d_Sz_sprinkler_17 : decode b_Sz_sprinkler 17 = .ok (.getfield 11, 3) := by decide +kernel
theorem d_Sz_sprinkler_20 : decode b_Sz_sprinkler 20 = .ok (.iload_n 1, 1) := by decide +kernel
theorem d_Sz_sprinkler_21 : decode b_Sz_sprinkler 21 = .ok (.aaload, 1) := by decide +kernel
theorem d_Sz_sprinkler_22 : decode b_Sz_sprinkler 22 = .ok (.getfield 95, 3) := by decide +kernel
theorem d_Sz_sprinkler_25 : decode b_Sz_sprinkler 25 = .ok (.iconst (-1), 1) := by decide +kernel
theorem d_Sz_sprinkler_26 : decode b_Sz_sprinkler 26 = .ok (.if_icmp .ne 7, 3) := by decide +kernel
theorem d_Sz_sprinkler_29 : decode b_Sz_sprinkler 29 = .ok (.iconst 1, 1) := by decide +kernel
theorem d_Sz_sprinkler_30 : decode b_Sz_sprinkler 30 = .ok (.goto 4, 3) := by decide +kernel
theorem d_Sz_sprinkler_33 : decode b_Sz_sprinkler 33 = .ok (.iconst 0, 1) := by decide +kernel
theorem d_Sz_sprinkler_34 : decode b_Sz_sprinkler 34 = .ok (.invokestatic 82, 3) := by decide +kernel
theorem d_Sz_sprinkler_37 : decode b_Sz_sprinkler 37 = .ok (.aload_n 0, 1) := by decide +kernel
theorem d_Sz_sprinkler_38 : decode b_Sz_sprinkler 38 = .ok (.getfield 11, 3) := by decide +kernel
theorem d_Sz_sprinkler_41 : decode b_Sz_sprinkler 41 = .ok (.iload_n 1, 1) := by decide +kernel
theorem d_Sz_sprinkler_42 : decode b_Sz_sprinkler 42 = .ok (.aaload, 1) := by decide +kernel
theorem d_Sz_sprinkler_43 : decode b_Sz_sprinkler 43 = .ok (.iload_n 2, 1) := by decide +kernel
theorem d_Sz_sprinkler_44 : decode b_Sz_sprinkler 44 = .ok (.putfield 95, 3) := by decide +kernel
theorem d_Sz_sprinkler_47 : decode b_Sz_sprinkler 47 = .ok (.return_, 1) := by decide +kernel
theorem d_Sz_fan_0 : decode b_Sz_fan 0 = .ok (.iload_n 1, 1) := by decide +kernel
theorem d_Sz_fan_1 : decode b_Sz_fan 1 = .ok (.aload_n 0, 1) := by decide +kernel
theorem d_Sz_fan_2 : decode b_Sz_fan 2 = .ok (.getfield 49, 3) := by decide +kernel
theorem d_Sz_fan_5 : decode b_Sz_fan 5 = .ok (.invokestatic 59, 3) := by decide +kernel
theorem d_Sz_fan_8 : decode b_Sz_fan 8 = .ok (.iload_n 2, 1) := by decide +kernel
theorem d_Sz_fan_9 : decode b_Sz_fan 9 = .ok (.aload_n 0, 1) := by decide +kernel
theorem d_Sz_fan_10 : decode b_Sz_fan 10 = .ok (.getfield 85, 3) := by decide +kernel
theorem d_Sz_fan_13 : decode b_Sz_fan 13 = .ok (.ldc 88, 2) := by decide +kernel
theorem d_Sz_fan_15 : decode b_Sz_fan 15 = .ok (.invokestatic 45, 3) := by decide +kernel
theorem d_Sz_fan_18 : decode b_Sz_fan 18 = .ok (.iload_n 3, 1) := by decide +kernel
theorem d_Sz_fan_19 : decode b_Sz_fan 19 = .ok (.iconst 1, 1) := by decide +kernel
theorem d_Sz_fan_20 : decode b_Sz_fan 20 = .ok (.ldc 88, 2) := by decide +kernel
theorem d_Sz_fan_22 : decode b_Sz_fan 22 = .ok (.invokestatic 45, 3) := by decide +kernel
theorem d_Sz_fan_25 : decode b_Sz_fan 25 = .ok (.aload_n 0, 1) := by decide +kernel
theorem d_Sz_fan_26 : decode b_Sz_fan 26 = .ok (.getfield 98, 3) := by decide +kernel
theorem d_Sz_fan_29 : decode b_Sz_fan 29 = .ok (.bipush 9, 2) := by decide +kernel
theorem d_Sz_fan_31 : decode b_Sz_fan 31 = .ok (.invokestatic 53, 3) := by decide +kernel
theorem d_Sz_fan_34 : decode b_Sz_fan 34 = .ok (.aload_n 0, 1) := by decide +kernel
theorem d_Sz_fan_35 : decode b_Sz_fan 35 = .ok (.getfield 29, 3) := by decide +kernel
theorem d_Sz_fan_38 : decode b_Sz_fan 38 = .ok (.aload_n 0, 1) := by decide +kernel
theorem d_Sz_fan_39 : decode b_Sz_fan 39 = .ok (.getfield 98, 3) := by decide +kernel
theorem d_Sz_fan_42 : decode b_Sz_fan 42 = .ok (.new 27, 3) := by decide +kernel
theorem d_Sz_fan_45 : decode b_Sz_fan 45 = .ok (.dup, 1) := by decide +kernel
theorem d_Sz_fan_46 : decode b_Sz_fan 46 = .ok (.aload_n 0, 1) := by decide +kernel
theorem d_Sz_fan_47 : decode b_Sz_fan 47 = .ok (.getfield 11, 3) := by decide +kernel
theorem d_Sz_fan_50 : decode b_Sz_fan 50 = .ok (.iload_n 1, 1) := by decide +kernel
theorem d_Sz_fan_51 : decode b_Sz_fan 51 = .ok (.aaload, 1) := by decide +kernel
theorem d_Sz_fan_52 : decode b_Sz_fan 52 = .ok (.iload_n 2, 1) := by decide +kernel
theorem d_Sz_fan_53 : decode b_Sz_fan 53 = .ok (.iload_n 3, 1) := by decide +kernel
theorem d_Sz_fan_54 : decode b_Sz_fan 54 = .ok (.invokespecial 101, 3) := by decide +kernel
theorem d_Sz_fan_57 : decode b_Sz_fan 57 = .ok (.aastore, 1) := by decide +kernel
theorem d_Sz_fan_58 : decode b_Sz_fan 58 = .ok (.aload_n 0, 1) := by decide +kernel
theorem d_Sz_fan_59 : decode b_Sz_fan 59 = .ok (.dup, 1) := by decide +kernel
theorem d_Sz_fan_60 : decode b_Sz_fan 60 = .ok (.getfield 98, 3) := by decide +kernel
theorem d_Sz_fan_63 : decode b_Sz_fan 63 = .ok (.iconst 1, 1) := by decide +kernel
theorem d_Sz_fan_64 : decode b_Sz_fan 64 = .ok (.iadd, 1) := by decide +kernel
theorem d_Sz_fan_65 : decode b_Sz_fan 65 = .ok (.putfield 98, 3) := by decide +kernel
theorem d_Sz_fan_68 : decode b_Sz_fan 68 = .ok (.aload_n 0, 1) := by decide +kernel
theorem d_Sz_fan_69 : decode b_Sz_fan 69 = .ok (.getfield 98, 3) := by decide +kernel
theorem d_Sz_fan_72 : decode b_Sz_fan 72 = .ok (.iconst 1, 1) := by decide +kernel
theorem d_Sz_fan_73 : decode b_Sz_fan 73 = .ok (.isub, 1) := by decide +kernel
theorem d_Sz_fan_74 : decode b_Sz_fan 74 = .ok (.ireturn, 1) := by decide +kernel
theorem d_Sz_steel_0 : decode b_Sz_steel 0 = .ok (.iload_n 1, 1) := by decide +kernel
theorem d_Sz_steel_1 : decode b_Sz_steel 1 = .ok (.aload_n 0, 1) := by decide +kernel
theorem d_Sz_steel_2 : decode b_Sz_steel 2 = .ok (.getfield 49, 3) := by decide +kernel
theorem d_Sz_steel_5 : decode b_Sz_steel 5 = .ok (.invokestatic 59, 3) := by decide +kernel
theorem d_Sz_steel_8 : decode b_Sz_steel 8 = .ok (.iload_n 2, 1) := by decide +kernel
theorem d_Sz_steel_9 : decode b_Sz_steel 9 = .ok (.iconst 1, 1) := by decide +kernel
theorem d_Sz_steel_10 : decode b_Sz_steel 10 = .ok (.sipush 1000, 3) := by decide +kernel
theorem d_Sz_steel_13 : decode b_Sz_steel 13 = .ok (.invokestatic 45, 3) := by decide +kernel
theorem d_Sz_steel_16 : decode b_Sz_steel 16 = .ok (.aload_n 0, 1) := by decide +kernel
theorem d_Sz_steel_17 : decode b_Sz_steel 17 = .ok (.getfield 104, 3) := by decide +kernel
theorem d_Sz_steel_20 : decode b_Sz_steel 20 = .ok (.bipush 9, 2) := by decide +kernel
theorem d_Sz_steel_22 : decode b_Sz_steel 22 = .ok (.invokestatic 53, 3) := by decide +kernel
theorem d_Sz_steel_25 : decode b_Sz_steel 25 = .ok (.aload_n 0, 1) := by decide +kernel
theorem d_Sz_steel_26 : decode b_Sz_steel 26 = .ok (.getfield 35, 3) := by decide +kernel
theorem d_Sz_steel_29 : decode b_Sz_steel 29 = .ok (.aload_n 0, 1) := by decide +kernel
theorem d_Sz_steel_30 : decode b_Sz_steel 30 = .ok (.getfield 104, 3) := by decide +kernel
theorem d_Sz_steel_33 : decode b_Sz_steel 33 = .ok (.new 33, 3) := by decide +kernel
theorem d_Sz_steel_36 : decode b_Sz_steel 36 = .ok (.dup, 1) := by decide +kernel
theorem d_Sz_steel_37 : decode b_Sz_steel 37 = .ok (.aload_n 0, 1) := by decide +kernel
theorem d_Sz_steel_38 : decode b_Sz_steel 38 = .ok (.getfield 11, 3) := by decide +kernel
theorem d_Sz_steel_41 : decode b_Sz_steel 41 = .ok (.iload_n 1, 1) := by decide +kernel
theorem d_Sz_steel_42 : decode b_Sz_steel 42 = .ok (.aaload, 1) := by decide +kernel
theorem d_Sz_steel_43 : decode b_Sz_steel 43 = .ok (.iload_n 2, 1) := by decide +kernel
theorem d_Sz_steel_44 : decode b_Sz_steel 44 = .ok (.invokespecial 107, 3) := by decide +kernel
theorem d_Sz_steel_47 : decode b_Sz_steel 47 = .ok (.aastore, 1) := by decide +kernel
theorem d_Sz_steel_48 : decode b_Sz_steel 48 = .ok (.aload_n 0, 1) := by decide +kernel
theorem d_Sz_steel_49 : decode b_Sz_steel 49 = .ok (.dup, 1) := by decide +kernel
theorem d_Sz_steel_50 : decode b_Sz_steel 50 = .ok (.getfield 104, 3) := by decide +kernel
theorem d_Sz_steel_53 : decode b_Sz_steel 53 = .ok (.iconst 1, 1) := by decide +kernel
theorem d_Sz_steel_54 : decode b_Sz_steel 54 = .ok (.iadd, 1) := by decide +kernel
theorem d_Sz_steel_55 : decode b_Sz_steel 55 = .ok (.putfield 104, 3) := by decide +kernel
theorem d_Sz_steel_58 : decode b_Sz_steel 58 = .ok (.aload_n 0, 1) := by decide +kernel
theorem d_Sz_steel_59 : decode b_Sz_steel 59 = .ok (.getfield 104, 3) := by decide +kernel
theorem d_Sz_steel_62 : decode b_Sz_steel 62 = .ok (.iconst 1, 1) := by decide +kernel
theorem d_Sz_steel_63 : decode b_Sz_steel 63 = .ok (.isub, 1) := by decide +kernel
theorem d_Sz_steel_64 : decode b_Sz_steel 64 = .ok (.ireturn, 1) := by decide +kernel
theorem d_Sz_person_0 : decode b_Sz_person 0 = .ok (.aload_n 0, 1) := by decide +kernel
theorem d_Sz_person_1 : decode b_Sz_person 1 = .ok (.iload_n 1, 1) := by decide +kernel
theorem d_Sz_person_2 : decode b_Sz_person 2 = .ok (.invokevirtual 62, 3) := by decide +kernel
theorem d_Sz_person_5 : decode b_Sz_person 5 = .ok (.aload_n 0, 1) := by decide +kernel
theorem d_Sz_person_6 : decode b_Sz_person 6 = .ok (.getfield 110, 3) := by decide +kernel
theorem d_Sz_person_9 : decode b_Sz_person 9 = .ok (.bipush 9, 2) := by decide +kernel
theorem d_Sz_person_11 : decode b_Sz_person 11 = .ok (.invokestatic 53, 3) := by decide +kernel
theorem d_Sz_person_14 : decode b_Sz_person 14 = .ok (.aload_n 0, 1) := by decide +kernel
theorem d_Sz_person_15 : decode b_Sz_person 15 = .ok (.getfield 41, 3) := by decide +kernel
theorem d_Sz_person_18 : decode b_Sz_person 18 = .ok (.aload_n 0, 1) := by decide +kernel
theorem d_Sz_person_19 : decode b_Sz_person 19 = .ok (.getfield 110, 3) := by decide +kernel
theorem d_Sz_person_22 : decode b_Sz_person 22 = .ok (.new 39, 3) := by decide +kernel
theorem d_Sz_person_25 : decode b_Sz_person 25 = .ok (.dup, 1) := by decide +kernel
theorem d_Sz_person_26 : decode b_Sz_person 26 = .ok (.iload_n 1, 1) := by decide +kernel
theorem d_Sz_person_27 : decode b_Sz_person 27 = .ok (.invokespecial 113, 3) := by decide +kernel
theorem d_Sz_person_30 : decode b_Sz_person 30 = .ok (.aastore, 1) := by decide +kernel
theorem d_Sz_person_31 : decode b_Sz_person 31 = .ok (.aload_n 0, 1) := by decide +kernel
theorem d_Sz_person_32 : decode b_Sz_person 32 = .ok (.dup, 1) := by decide +kernel
theorem d_Sz_person_33 : decode b_Sz_person 33 = .ok (.getfield 110, 3) := by decide +kernel
theorem d_Sz_person_36 : decode b_Sz_person 36 = .ok (.iconst 1, 1) := by decide +kernel
theorem d_Sz_person_37 : decode b_Sz_person 37 = .ok (.iadd, 1) := by decide +kernel
theorem d_Sz_person_38 : decode b_Sz_person 38 = .ok (.putfield 110, 3) := by decide +kernel
theorem d_Sz_person_41 : decode b_Sz_person 41 = .ok (.aload_n 0, 1) := by decide +kernel
theorem d_Sz_person_42 : decode b_Sz_person 42 = .ok (.getfield 110, 3) := by decide +kernel
theorem d_Sz_person_45 : decode b_Sz_person 45 = .ok (.iconst 1, 1) := by decide +kernel
theorem d_Sz_person_46 : decode b_Sz_person 46 = .ok (.isub, 1) := by decide +kernel
theorem d_Sz_person_47 : decode b_Sz_person 47 = .ok (.ireturn, 1) := by decide +kernel
theorem d_Sz_go_0 : decode b_Sz_go 0 = .ok (.iload_n 1, 1) := by decide +kernel
theorem d_Sz_go_1 : decode b_Sz_go 1 = .ok (.aload_n 0, 1) := by decide +kernel
theorem d_Sz_go_2 : decode b_Sz_go 2 = .ok (.getfield 110, 3) := by decide +kernel
theorem d_Sz_go_5 : decode b_Sz_go 5 = .ok (.invokestatic 59, 3) := by decide +kernel
theorem d_Sz_go_8 : decode b_Sz_go 8 = .ok (.iload_n 2, 1) := by decide +kernel
theorem d_Sz_go_9 : decode b_Sz_go 9 = .ok (.aload_n 0, 1) := by decide +kernel
theorem d_Sz_go_10 : decode b_Sz_go 10 = .ok (.getfield 85, 3) := by decide +kernel
theorem d_Sz_go_13 : decode b_Sz_go 13 = .ok (.ldc 88, 2) := by decide +kernel
theorem d_Sz_go_15 : decode b_Sz_go 15 = .ok (.invokestatic 45, 3) := by decide +kernel
theorem d_Sz_go_18 : decode b_Sz_go 18 = .ok (.aload_n 0, 1) := by decide +kernel
theorem d_Sz_go_19 : decode b_Sz_go 19 = .ok (.iload_n 3, 1) := by decide +kernel
theorem d_Sz_go_20 : decode b_Sz_go 20 = .ok (.invokevirtual 62, 3) := by decide +kernel
theorem d_Sz_go_23 : decode b_Sz_go 23 = .ok (.aload_n 0, 1) := by decide +kernel
theorem d_Sz_go_24 : decode b_Sz_go 24 = .ok (.getfield 41, 3) := by decide +kernel
theorem d_Sz_go_27 : decode b_Sz_go 27 = .ok (.iload_n 1, 1) := by decide +kernel
theorem d_Sz_go_28 : decode b_Sz_go 28 = .ok (.aaload, 1) := by decide +kernel
theorem d_Sz_go_29 : decode b_Sz_go 29 = .ok (.iload_n 2, 1) := by decide +kernel
theorem d_Sz_go_30 : decode b_Sz_go 30 = .ok (.iload_n 3, 1) := by decide +kernel
theorem d_Sz_go_31 : decode b_Sz_go 31 = .ok (.invokevirtual 115, 3) := by decide +kernel
theorem d_Sz_go_34 : decode b_Sz_go 34 = .ok (.invokestatic 82, 3) := by decide +kernel
theorem d_Sz_go_37 : decode b_Sz_go 37 = .ok (.return_, 1) := by decide +kernel
theorem d_Sz_run_0 : decode b_Sz_run 0 = .ok (.iload_n 1, 1) := by decide +kernel
theorem d_Sz_run_1 : decode b_Sz_run 1 = .ok (.iconst 1, 1) := by decide +kernel
theorem d_Sz_run_2 : decode b_Sz_run 2 = .ok (.sipush 500, 3) := by decide +kernel
theorem d_Sz_run_5 : decode b_Sz_run 5 = .ok (.invokestatic 45, 3) := by decide +kernel
theorem d_Sz_run_8 : decode b_Sz_run 8 = .ok (.aload_n 0, 1) := by decide +kernel
theorem d_Sz_run_9 : decode b_Sz_run 9 = .ok (.getfield 85, 3) := by decide +kernel
theorem d_Sz_run_12 : decode b_Sz_run 12 = .ok (.iload_n 1, 1) := by decide +kernel
theorem d_Sz_run_13 : decode b_Sz_run 13 = .ok (.iadd, 1) := by decide +kernel
theorem d_Sz_run_14 : decode b_Sz_run 14 = .ok (.ldc 88, 2) := by decide +kernel
theorem d_Sz_run_16 : decode b_Sz_run 16 = .ok (.if_icmp .gt 7, 3) := by decide +kernel
theorem d_Sz_run_19 : decode b_Sz_run 19 = .ok (.iconst 1, 1) := by decide +kernel
theorem d_Sz_run_20 : decode b_Sz_run 20 = .ok (.goto 4, 3) := by decide +kernel
theorem d_Sz_run_23 : decode b_Sz_run 23 = .ok (.iconst 0, 1) := by decide +kernel
theorem d_Sz_run_24 : decode b_Sz_run 24 = .ok (.invokestatic 82, 3) := by decide +kernel
theorem d_Sz_run_27 : decode b_Sz_run 27 = .ok (.iconst 0, 1) := by decide +kernel
theorem d_Sz_run_28 : decode b_Sz_run 28 = .ok (.istore_n 2, 1) := by decide +kernel
theorem d_Sz_run_29 : decode b_Sz_run 29 = .ok (.iload_n 2, 1) := by decide +kernel
theorem d_Sz_run_30 : decode b_Sz_run 30 = .ok (.iload_n 1, 1) := by decide +kernel
theorem d_Sz_run_31 : decode b_Sz_run 31 = .ok (.if_icmp .ge 13, 3) := by decide +kernel
theorem d_Sz_run_34 : decode b_Sz_run 34 = .ok (.aload_n 0, 1) := by decide +kernel
theorem d_Sz_run_35 : decode b_Sz_run 35 = .ok (.invokevirtual 119, 3) := by decide +kernel
theorem d_Sz_run_38 : decode b_Sz_run 38 = .ok (.iinc 2 1, 3) := by decide +kernel
theorem d_Sz_run_41 : decode b_Sz_run 41 = .ok (.goto (-12), 3) := by decide +kernel
theorem d_Sz_run_44 : decode b_Sz_run 44 = .ok (.aload_n 0, 1) := by decide +kernel
theorem d_Sz_run_45 : decode b_Sz_run 45 = .ok (.getfield 85, 3) := by decide +kernel
theorem d_Sz_run_48 : decode b_Sz_run 48 = .ok (.ireturn, 1) := by decide +kernel
theorem d_Sz_passSecond_0 : decode b_Sz_passSecond 0 = .ok (.aload_n 0, 1) := by decide +kernel
theorem d_Sz_passSecond_1 : decode b_Sz_passSecond 1 = .ok (.invokevirtual 199, 3) := by decide +kernel
theorem d_Sz_passSecond_4 : decode b_Sz_passSecond 4 = .ok (.aload_n 0, 1) := by decide +kernel
theorem d_Sz_passSecond_5 : decode b_Sz_passSecond 5 = .ok (.invokevirtual 202, 3) := by decide +kernel
theorem d_Sz_passSecond_8 : decode b_Sz_passSecond 8 = .ok (.aload_n 0, 1) := by decide +kernel
theorem d_Sz_passSecond_9 : decode b_Sz_passSecond 9 = .ok (.invokevirtual 205, 3) := by decide +kernel
theorem d_Sz_passSecond_12 : decode b_Sz_passSecond 12 = .ok (.aload_n 0, 1) := by decide +kernel
theorem d_Sz_passSecond_13 : decode b_Sz_passSecond 13 = .ok (.invokevirtual 208, 3) := by decide +kernel
theorem d_Sz_passSecond_16 : decode b_Sz_passSecond 16 = .ok (.aload_n 0, 1) := by decide +kernel
theorem d_Sz_passSecond_17 : decode b_Sz_passSecond 17 = .ok (.invokevirtual 211, 3) := by decide +kernel
theorem d_Sz_passSecond_20 : decode b_Sz_passSecond 20 = .ok (.aload_n 0, 1) := by decide +kernel
theorem d_Sz_passSecond_21 : decode b_Sz_passSecond 21 = .ok (.invokevirtual 214, 3) := by decide +kernel
theorem d_Sz_passSecond_24 : decode b_Sz_passSecond 24 = .ok (.aload_n 0, 1) := by decide +kernel
theorem d_Sz_passSecond_25 : decode b_Sz_passSecond 25 = .ok (.invokevirtual 217, 3) := by decide +kernel
theorem d_Sz_passSecond_28 : decode b_Sz_passSecond 28 = .ok (.aload_n 0, 1) := by decide +kernel
theorem d_Sz_passSecond_29 : decode b_Sz_passSecond 29 = .ok (.dup, 1) := by decide +kernel
theorem d_Sz_passSecond_30 : decode b_Sz_passSecond 30 = .ok (.getfield 85, 3) := by decide +kernel
theorem d_Sz_passSecond_33 : decode b_Sz_passSecond 33 = .ok (.iconst 1, 1) := by decide +kernel
theorem d_Sz_passSecond_34 : decode b_Sz_passSecond 34 = .ok (.iadd, 1) := by decide +kernel
theorem d_Sz_passSecond_35 : decode b_Sz_passSecond 35 = .ok (.putfield 85, 3) := by decide +kernel
theorem d_Sz_passSecond_38 : decode b_Sz_passSecond 38 = .ok (.return_, 1) := by decide +kernel
theorem d_Sz_burnFires_0 : decode b_Sz_burnFires 0 = .ok (.iconst 0, 1) := by decide +kernel
theorem d_Sz_burnFires_1 : decode b_Sz_burnFires 1 = .ok (.istore_n 1, 1) := by decide +kernel
theorem d_Sz_burnFires_2 : decode b_Sz_burnFires 2 = .ok (.iload_n 1, 1) := by decide +kernel
theorem d_Sz_burnFires_3 : decode b_Sz_burnFires 3 = .ok (.aload_n 0, 1) := by decide +kernel
theorem d_Sz_burnFires_4 : decode b_Sz_burnFires 4 = .ok (.getfield 89, 3) := by decide +kernel
theorem d_Sz_burnFires_7 : decode b_Sz_burnFires 7 = .ok (.if_icmp .ge 31, 3) := by decide +kernel
theorem d_Sz_burnFires_10 : decode b_Sz_burnFires 10 = .ok (.aload_n 0, 1) := by decide +kernel
theorem d_Sz_burnFires_11 : decode b_Sz_burnFires 11 = .ok (.dup, 1) := by decide +kernel
theorem d_Sz_burnFires_12 : decode b_Sz_burnFires 12 = .ok (.getfield 168, 3) := by decide +kernel
theorem d_Sz_burnFires_15 : decode b_Sz_burnFires 15 = .ok (.aload_n 0, 1) := by decide +kernel
theorem d_Sz_burnFires_16 : decode b_Sz_burnFires 16 = .ok (.getfield 23, 3) := by decide +kernel
theorem d_Sz_burnFires_19 : decode b_Sz_burnFires 19 = .ok (.iload_n 1, 1) := by decide +kernel
theorem d_Sz_burnFires_20 : decode b_Sz_burnFires 20 = .ok (.aaload, 1) := by decide +kernel
theorem d_Sz_burnFires_21 : decode b_Sz_burnFires 21 = .ok (.aload_n 0, 1) := by decide +kernel
theorem d_Sz_burnFires_22 : decode b_Sz_burnFires 22 = .ok (.getfield 85, 3) := by decide +kernel
theorem d_Sz_burnFires_25 : decode b_Sz_burnFires 25 = .ok (.invokevirtual 220, 3) := by decide +kernel
theorem d_Sz_burnFires_28 : decode b_Sz_burnFires 28 = .ok (.ladd, 1) := by decide +kernel
theorem d_Sz_burnFires_29 : decode b_Sz_burnFires 29 = .ok (.putfield 168, 3) := by decide +kernel
theorem d_Sz_burnFires_32 : decode b_Sz_burnFires 32 = .ok (.iinc 1 1, 3) := by decide +kernel
theorem d_Sz_burnFires_35 : decode b_Sz_burnFires 35 = .ok (.goto (-33), 3) := by decide +kernel
theorem d_Sz_burnFires_38 : decode b_Sz_burnFires 38 = .ok (.return_, 1) := by decide +kernel
theorem d_Sz_flowThroughOpenings_0 : decode b_Sz_flowThroughOpenings 0 = .ok (.iconst 0, 1) := by decide +kernel
theorem d_Sz_flowThroughOpenings_1 : decode b_Sz_flowThroughOpenings 1 = .ok (.istore_n 1, 1) := by decide +kernel
theorem d_Sz_flowThroughOpenings_2 : decode b_Sz_flowThroughOpenings 2 = .ok (.iload_n 1, 1) := by decide +kernel
theorem d_Sz_flowThroughOpenings_3 : decode b_Sz_flowThroughOpenings 3 = .ok (.aload_n 0, 1) := by decide +kernel
theorem d_Sz_flowThroughOpenings_4 : decode b_Sz_flowThroughOpenings 4 = .ok (.getfield 73, 3) := by decide +kernel
theorem d_Sz_flowThroughOpenings_7 : decode b_Sz_flowThroughOpenings 7 = .ok (.if_icmp .ge 18, 3) := by decide +kernel
theorem d_Sz_flowThroughOpenings_10 : decode b_Sz_flowThroughOpenings 10 = .ok (.aload_n 0, 1) := by decide +kernel
theorem d_Sz_flowThroughOpenings_11 : decode b_Sz_flowThroughOpenings 11 = .ok (.getfield 17, 3) := by decide +kernel
theorem d_Sz_flowThroughOpenings_14 : decode b_Sz_flowThroughOpenings 14 = .ok (.iload_n 1, 1) := by decide +kernel
theorem d_Sz_flowThroughOpenings_15 : decode b_Sz_flowThroughOpenings 15 = .ok (.aaload, 1) := by decide +kernel
theorem d_Sz_flowThroughOpenings_16 : decode b_Sz_flowThroughOpenings 16 = .ok (.invokevirtual 224, 3) := by decide +kernel
theorem d_Sz_flowThroughOpenings_19 : decode b_Sz_flowThroughOpenings 19 = .ok (.iinc 1 1, 3) := by decide +kernel
theorem d_Sz_flowThroughOpenings_22 : decode b_Sz_flowThroughOpenings 22 = .ok (.goto (-20), 3) := by decide +kernel
theorem d_Sz_flowThroughOpenings_25 : decode b_Sz_flowThroughOpenings 25 = .ok (.iconst 0, 1) := by decide +kernel
theorem d_Sz_flowThroughOpenings_26 : decode b_Sz_flowThroughOpenings 26 = .ok (.istore_n 1, 1) := by decide +kernel
theorem d_Sz_flowThroughOpenings_27 : decode b_Sz_flowThroughOpenings 27 = .ok (.iload_n 1, 1) := by decide +kernel
theorem d_Sz_flowThroughOpenings_28 : decode b_Sz_flowThroughOpenings 28 = .ok (.aload_n 0, 1) := by decide +kernel
theorem d_Sz_flowThroughOpenings_29 : decode b_Sz_flowThroughOpenings 29 = .ok (.getfield 73, 3) := by decide +kernel
theorem d_Sz_flowThroughOpenings_32 : decode b_Sz_flowThroughOpenings 32 = .ok (.if_icmp .ge 27, 3) := by decide +kernel
theorem d_Sz_flowThroughOpenings_35 : decode b_Sz_flowThroughOpenings 35 = .ok (.aload_n 0, 1) := by decide +kernel
theorem d_Sz_flowThroughOpenings_36 : decode b_Sz_flowThroughOpenings 36 = .ok (.dup, 1) := by decide +kernel
theorem d_Sz_flowThroughOpenings_37 : decode b_Sz_flowThroughOpenings 37 = .ok (.getfield 174, 3) := by decide +kernel
theorem d_Sz_flowThroughOpenings_40 : decode b_Sz_flowThroughOpenings 40 = .ok (.aload_n 0, 1) := by decide +kernel
theorem d_Sz_flowThroughOpenings_41 : decode b_Sz_flowThroughOpenings 41 = .ok (.getfield 17, 3) := by decide +kernel
theorem d_Sz_flowThroughOpenings_44 : decode b_Sz_flowThroughOpenings 44 = .ok (.iload_n 1, 1) := by decide +kernel
theorem d_Sz_flowThroughOpenings_45 : decode b_Sz_flowThroughOpenings 45 = .ok (.aaload, 1) := by decide +kernel
theorem d_Sz_flowThroughOpenings_46 : decode b_Sz_flowThroughOpenings 46 = .ok (.invokevirtual 227, 3) := by decide +kernel
theorem d_Sz_flowThroughOpenings_49 : decode b_Sz_flowThroughOpenings 49 = .ok (.ladd, 1) := by decide +kernel
theorem d_Sz_flowThroughOpenings_50 : decode b_Sz_flowThroughOpenings 50 = .ok (.putfield 174, 3) := by decide +kernel
theorem d_Sz_flowThroughOpenings_53 : decode b_Sz_flowThroughOpenings 53 = .ok (.iinc 1 1, 3) := by decide +kernel
theorem d_Sz_flowThroughOpenings_56 : decode b_Sz_flowThroughOpenings 56 = .ok (.goto (-29), 3) := by decide +kernel
theorem d_Sz_flowThroughOpenings_59 : decode b_Sz_flowThroughOpenings 59 = .ok (.return_, 1) := by decide +kernel
theorem d_Sz_blowFans_0 : decode b_Sz_blowFans 0 = .ok (.iconst 0, 1) := by decide +kernel
theorem d_Sz_blowFans_1 : decode b_Sz_blowFans 1 = .ok (.istore_n 1, 1) := by decide +kernel
theorem d_Sz_blowFans_2 : decode b_Sz_blowFans 2 = .ok (.iload_n 1, 1) := by decide +kernel
theorem d_Sz_blowFans_3 : decode b_Sz_blowFans 3 = .ok (.aload_n 0, 1) := by decide +kernel
theorem d_Sz_blowFans_4 : decode b_Sz_blowFans 4 = .ok (.getfield 98, 3) := by decide +kernel
theorem d_Sz_blowFans_7 : decode b_Sz_blowFans 7 = .ok (.if_icmp .ge 31, 3) := by decide +kernel
theorem d_Sz_blowFans_10 : decode b_Sz_blowFans 10 = .ok (.aload_n 0, 1) := by decide +kernel
theorem d_Sz_blowFans_11 : decode b_Sz_blowFans 11 = .ok (.dup, 1) := by decide +kernel
theorem d_Sz_blowFans_12 : decode b_Sz_blowFans 12 = .ok (.getfield 177, 3) := by decide +kernel
theorem d_Sz_blowFans_15 : decode b_Sz_blowFans 15 = .ok (.aload_n 0, 1) := by decide +kernel
theorem d_Sz_blowFans_16 : decode b_Sz_blowFans 16 = .ok (.getfield 29, 3) := by decide +kernel
theorem d_Sz_blowFans_19 : decode b_Sz_blowFans 19 = .ok (.iload_n 1, 1) := by decide +kernel
theorem d_Sz_blowFans_20 : decode b_Sz_blowFans 20 = .ok (.aaload, 1) := by decide +kernel
theorem d_Sz_blowFans_21 : decode b_Sz_blowFans 21 = .ok (.aload_n 0, 1) := by decide +kernel
theorem d_Sz_blowFans_22 : decode b_Sz_blowFans 22 = .ok (.getfield 85, 3) := by decide +kernel
theorem d_Sz_blowFans_25 : decode b_Sz_blowFans 25 = .ok (.invokevirtual 230, 3) := by decide +kernel
theorem d_Sz_blowFans_28 : decode b_Sz_blowFans 28 = .ok (.ladd, 1) := by decide +kernel
theorem d_Sz_blowFans_29 : decode b_Sz_blowFans 29 = .ok (.putfield 177, 3) := by decide +kernel
theorem d_Sz_blowFans_32 : decode b_Sz_blowFans 32 = .ok (.iinc 1 1, 3) := by decide +kernel
theorem d_Sz_blowFans_35 : decode b_Sz_blowFans 35 = .ok (.goto (-33), 3) := by decide +kernel
theorem d_Sz_blowFans_38 : decode b_Sz_blowFans 38 = .ok (.return_, 1) := by decide +kernel
theorem d_Sz_pressOutOfRooms_0 : decode b_Sz_pressOutOfRooms 0 = .ok (.iconst 0, 1) := by decide +kernel
theorem d_Sz_pressOutOfRooms_1 : decode b_Sz_pressOutOfRooms 1 = .ok (.istore_n 1, 1) := by decide +kernel
theorem d_Sz_pressOutOfRooms_2 : decode b_Sz_pressOutOfRooms 2 = .ok (.iload_n 1, 1) := by decide +kernel
theorem d_Sz_pressOutOfRooms_3 : decode b_Sz_pressOutOfRooms 3 = .ok (.aload_n 0, 1) := by decide +kernel
theorem d_Sz_pressOutOfRooms_4 : decode b_Sz_pressOutOfRooms 4 = .ok (.getfield 49, 3) := by decide +kernel
theorem d_Sz_pressOutOfRooms_7 : decode b_Sz_pressOutOfRooms 7 = .ok (.if_icmp .ge 27, 3) := by decide +kernel
theorem d_Sz_pressOutOfRooms_10 : decode b_Sz_pressOutOfRooms 10 = .ok (.aload_n 0, 1) := by decide +kernel
theorem d_Sz_pressOutOfRooms_11 : decode b_Sz_pressOutOfRooms 11 = .ok (.dup, 1) := by decide +kernel
theorem d_Sz_pressOutOfRooms_12 : decode b_Sz_pressOutOfRooms 12 = .ok (.getfield 180, 3) := by decide +kernel
theorem d_Sz_pressOutOfRooms_15 : decode b_Sz_pressOutOfRooms 15 = .ok (.aload_n 0, 1) := by decide +kernel
theorem d_Sz_pressOutOfRooms_16 : decode b_Sz_pressOutOfRooms 16 = .ok (.getfield 11, 3) := by decide +kernel
theorem d_Sz_pressOutOfRooms_19 : decode b_Sz_pressOutOfRooms 19 = .ok (.iload_n 1, 1) := by decide +kernel
theorem d_Sz_pressOutOfRooms_20 : decode b_Sz_pressOutOfRooms 20 = .ok (.aaload, 1) := by decide +kernel
theorem d_Sz_pressOutOfRooms_21 : decode b_Sz_pressOutOfRooms 21 = .ok (.invokevirtual 233, 3) := by decide +kernel
theorem d_Sz_pressOutOfRooms_24 : decode b_Sz_pressOutOfRooms 24 = .ok (.ladd, 1) := by decide +kernel
theorem d_Sz_pressOutOfRooms_25 : decode b_Sz_pressOutOfRooms 25 = .ok (.putfield 180, 3) := by decide +kernel
theorem d_Sz_pressOutOfRooms_28 : decode b_Sz_pressOutOfRooms 28 = .ok (.iinc 1 1, 3) := by decide +kernel
theorem d_Sz_pressOutOfRooms_31 : decode b_Sz_pressOutOfRooms 31 = .ok (.goto (-29), 3) := by decide +kernel
theorem d_Sz_pressOutOfRooms_34 : decode b_Sz_pressOutOfRooms 34 = .ok (.return_, 1) := by decide +kernel
theorem d_Sz_warmThings_0 : decode b_Sz_warmThings 0 = .ok (.iconst 0, 1) := by decide +kernel
theorem d_Sz_warmThings_1 : decode b_Sz_warmThings 1 = .ok (.istore_n 1, 1) := by decide +kernel
theorem d_Sz_warmThings_2 : decode b_Sz_warmThings 2 = .ok (.iload_n 1, 1) := by decide +kernel
theorem d_Sz_warmThings_3 : decode b_Sz_warmThings 3 = .ok (.aload_n 0, 1) := by decide +kernel
theorem d_Sz_warmThings_4 : decode b_Sz_warmThings 4 = .ok (.getfield 49, 3) := by decide +kernel
theorem d_Sz_warmThings_7 : decode b_Sz_warmThings 7 = .ok (.if_icmp .ge 18, 3) := by decide +kernel
theorem d_Sz_warmThings_10 : decode b_Sz_warmThings 10 = .ok (.aload_n 0, 1) := by decide +kernel
theorem d_Sz_warmThings_11 : decode b_Sz_warmThings 11 = .ok (.getfield 11, 3) := by decide +kernel
theorem d_Sz_warmThings_14 : decode b_Sz_warmThings 14 = .ok (.iload_n 1, 1) := by decide +kernel
theorem d_Sz_warmThings_15 : decode b_Sz_warmThings 15 = .ok (.aaload, 1) := by decide +kernel
theorem d_Sz_warmThings_16 : decode b_Sz_warmThings 16 = .ok (.invokevirtual 236, 3) := by decide +kernel
theorem d_Sz_warmThings_19 : decode b_Sz_warmThings 19 = .ok (.iinc 1 1, 3) := by decide +kernel
theorem d_Sz_warmThings_22 : decode b_Sz_warmThings 22 = .ok (.goto (-20), 3) := by decide +kernel
theorem d_Sz_warmThings_25 : decode b_Sz_warmThings 25 = .ok (.iconst 0, 1) := by decide +kernel
theorem d_Sz_warmThings_26 : decode b_Sz_warmThings 26 = .ok (.istore_n 1, 1) := by decide +kernel
theorem d_Sz_warmThings_27 : decode b_Sz_warmThings 27 = .ok (.iload_n 1, 1) := by decide +kernel
theorem d_Sz_warmThings_28 : decode b_Sz_warmThings 28 = .ok (.aload_n 0, 1) := by decide +kernel
theorem d_Sz_warmThings_29 : decode b_Sz_warmThings 29 = .ok (.getfield 73, 3) := by decide +kernel
theorem d_Sz_warmThings_32 : decode b_Sz_warmThings 32 = .ok (.if_icmp .ge 18, 3) := by decide +kernel
theorem d_Sz_warmThings_35 : decode b_Sz_warmThings 35 = .ok (.aload_n 0, 1) := by decide +kernel
theorem d_Sz_warmThings_36 : decode b_Sz_warmThings 36 = .ok (.getfield 17, 3) := by decide +kernel
theorem d_Sz_warmThings_39 : decode b_Sz_warmThings 39 = .ok (.iload_n 1, 1) := by decide +kernel
theorem d_Sz_warmThings_40 : decode b_Sz_warmThings 40 = .ok (.aaload, 1) := by decide +kernel
theorem d_Sz_warmThings_41 : decode b_Sz_warmThings 41 = .ok (.invokevirtual 239, 3) := by decide +kernel
theorem d_Sz_warmThings_44 : decode b_Sz_warmThings 44 = .ok (.iinc 1 1, 3) := by decide +kernel
theorem d_Sz_warmThings_47 : decode b_Sz_warmThings 47 = .ok (.goto (-20), 3) := by decide +kernel
theorem d_Sz_warmThings_50 : decode b_Sz_warmThings 50 = .ok (.iconst 0, 1) := by decide +kernel
theorem d_Sz_warmThings_51 : decode b_Sz_warmThings 51 = .ok (.istore_n 1, 1) := by decide +kernel
theorem d_Sz_warmThings_52 : decode b_Sz_warmThings 52 = .ok (.iload_n 1, 1) := by decide +kernel
theorem d_Sz_warmThings_53 : decode b_Sz_warmThings 53 = .ok (.aload_n 0, 1) := by decide +kernel
theorem d_Sz_warmThings_54 : decode b_Sz_warmThings 54 = .ok (.getfield 104, 3) := by decide +kernel
theorem d_Sz_warmThings_57 : decode b_Sz_warmThings 57 = .ok (.if_icmp .ge 18, 3) := by decide +kernel
theorem d_Sz_warmThings_60 : decode b_Sz_warmThings 60 = .ok (.aload_n 0, 1) := by decide +kernel
theorem d_Sz_warmThings_61 : decode b_Sz_warmThings 61 = .ok (.getfield 35, 3) := by decide +kernel
theorem d_Sz_warmThings_64 : decode b_Sz_warmThings 64 = .ok (.iload_n 1, 1) := by decide +kernel
theorem d_Sz_warmThings_65 : decode b_Sz_warmThings 65 = .ok (.aaload, 1) := by decide +kernel
theorem d_Sz_warmThings_66 : decode b_Sz_warmThings 66 = .ok (.invokevirtual 242, 3) := by decide +kernel
theorem d_Sz_warmThings_69 : decode b_Sz_warmThings 69 = .ok (.iinc 1 1, 3) := by decide +kernel
theorem d_Sz_warmThings_72 : decode b_Sz_warmThings 72 = .ok (.goto (-20), 3) := by decide +kernel
theorem d_Sz_warmThings_75 : decode b_Sz_warmThings 75 = .ok (.return_, 1) := by decide +kernel
theorem d_Sz_movePersons_0 : decode b_Sz_movePersons 0 = .ok (.iconst 0, 1) := by decide +kernel
theorem d_Sz_movePersons_1 : decode b_Sz_movePersons 1 = .ok (.istore_n 1, 1) := by decide +kernel
theorem d_Sz_movePersons_2 : decode b_Sz_movePersons 2 = .ok (.iload_n 1, 1) := by decide +kernel
theorem d_Sz_movePersons_3 : decode b_Sz_movePersons 3 = .ok (.aload_n 0, 1) := by decide +kernel
theorem d_Sz_movePersons_4 : decode b_Sz_movePersons 4 = .ok (.getfield 110, 3) := by decide +kernel
theorem d_Sz_movePersons_7 : decode b_Sz_movePersons 7 = .ok (.if_icmp .ge 48, 3) := by decide +kernel
theorem d_Sz_movePersons_10 : decode b_Sz_movePersons 10 = .ok (.aload_n 0, 1) := by decide +kernel
theorem d_Sz_movePersons_11 : decode b_Sz_movePersons 11 = .ok (.getfield 41, 3) := by decide +kernel
theorem d_Sz_movePersons_14 : decode b_Sz_movePersons 14 = .ok (.iload_n 1, 1) := by decide +kernel
theorem d_Sz_movePersons_15 : decode b_Sz_movePersons 15 = .ok (.aaload, 1) := by decide +kernel
theorem d_Sz_movePersons_16 : decode b_Sz_movePersons 16 = .ok (.astore_n 2, 1) := by decide +kernel
theorem d_Sz_movePersons_17 : decode b_Sz_movePersons 17 = .ok (.aload_n 2, 1) := by decide +kernel
theorem d_Sz_movePersons_18 : decode b_Sz_movePersons 18 = .ok (.aload_n 0, 1) := by decide +kernel
theorem d_Sz_movePersons_19 : decode b_Sz_movePersons 19 = .ok (.getfield 85, 3) := by decide +kernel
theorem d_Sz_movePersons_22 : decode b_Sz_movePersons 22 = .ok (.invokevirtual 245, 3) := by decide +kernel
theorem d_Sz_movePersons_25 : decode b_Sz_movePersons 25 = .ok (.aload_n 0, 1) := by decide +kernel
theorem d_Sz_movePersons_26 : decode b_Sz_movePersons 26 = .ok (.aload_n 2, 1) := by decide +kernel
theorem d_Sz_movePersons_27 : decode b_Sz_movePersons 27 = .ok (.getfield 156, 3) := by decide +kernel
theorem d_Sz_movePersons_30 : decode b_Sz_movePersons 30 = .ok (.invokevirtual 195, 3) := by decide +kernel
theorem d_Sz_movePersons_33 : decode b_Sz_movePersons 33 = .ok (.ifCond .eq 16, 3) := by decide +kernel
theorem d_Sz_movePersons_36 : decode b_Sz_movePersons 36 = .ok (.aload_n 2, 1) := by decide +kernel
theorem d_Sz_movePersons_37 : decode b_Sz_movePersons 37 = .ok (.aload_n 0, 1) := by decide +kernel
theorem d_Sz_movePersons_38 : decode b_Sz_movePersons 38 = .ok (.getfield 11, 3) := by decide +kernel
theorem d_Sz_movePersons_41 : decode b_Sz_movePersons 41 = .ok (.aload_n 2, 1) := by decide +kernel
theorem d_Sz_movePersons_42 : decode b_Sz_movePersons 42 = .ok (.getfield 156, 3) := by decide +kernel
theorem d_Sz_movePersons_45 : decode b_Sz_movePersons 45 = .ok (.aaload, 1) := by decide +kernel
theorem d_Sz_movePersons_46 : decode b_Sz_movePersons 46 = .ok (.invokevirtual 248, 3) := by decide +kernel
theorem d_Sz_movePersons_49 : decode b_Sz_movePersons 49 = .ok (.iinc 1 1, 3) := by decide +kernel
theorem d_Sz_movePersons_52 : decode b_Sz_movePersons 52 = .ok (.goto (-50), 3) := by decide +kernel
theorem d_Sz_movePersons_55 : decode b_Sz_movePersons 55 = .ok (.return_, 1) := by decide +kernel
theorem d_Sz_noteLowRooms_0 : decode b_Sz_noteLowRooms 0 = .ok (.iconst 0, 1) := by decide +kernel
theorem d_Sz_noteLowRooms_1 : decode b_Sz_noteLowRooms 1 = .ok (.istore_n 1, 1) := by decide +kernel
theorem d_Sz_noteLowRooms_2 : decode b_Sz_noteLowRooms 2 = .ok (.iload_n 1, 1) := by decide +kernel
theorem d_Sz_noteLowRooms_3 : decode b_Sz_noteLowRooms 3 = .ok (.aload_n 0, 1) := by decide +kernel
theorem d_Sz_noteLowRooms_4 : decode b_Sz_noteLowRooms 4 = .ok (.getfield 49, 3) := by decide +kernel
theorem d_Sz_noteLowRooms_7 : decode b_Sz_noteLowRooms 7 = .ok (.if_icmp .ge 22, 3) := by decide +kernel
theorem d_Sz_noteLowRooms_10 : decode b_Sz_noteLowRooms 10 = .ok (.aload_n 0, 1) := by decide +kernel
theorem d_Sz_noteLowRooms_11 : decode b_Sz_noteLowRooms 11 = .ok (.getfield 11, 3) := by decide +kernel
theorem d_Sz_noteLowRooms_14 : decode b_Sz_noteLowRooms 14 = .ok (.iload_n 1, 1) := by decide +kernel
theorem d_Sz_noteLowRooms_15 : decode b_Sz_noteLowRooms 15 = .ok (.aaload, 1) := by decide +kernel
theorem d_Sz_noteLowRooms_16 : decode b_Sz_noteLowRooms 16 = .ok (.aload_n 0, 1) := by decide +kernel
theorem d_Sz_noteLowRooms_17 : decode b_Sz_noteLowRooms 17 = .ok (.getfield 85, 3) := by decide +kernel
theorem d_Sz_noteLowRooms_20 : decode b_Sz_noteLowRooms 20 = .ok (.invokevirtual 252, 3) := by decide +kernel
theorem d_Sz_noteLowRooms_23 : decode b_Sz_noteLowRooms 23 = .ok (.iinc 1 1, 3) := by decide +kernel
theorem d_Sz_noteLowRooms_26 : decode b_Sz_noteLowRooms 26 = .ok (.goto (-24), 3) := by decide +kernel
theorem d_Sz_noteLowRooms_29 : decode b_Sz_noteLowRooms 29 = .ok (.return_, 1) := by decide +kernel
theorem d_Sz_roomAt_0 : decode b_Sz_roomAt 0 = .ok (.iload_n 1, 1) := by decide +kernel
theorem d_Sz_roomAt_1 : decode b_Sz_roomAt 1 = .ok (.aload_n 0, 1) := by decide +kernel
theorem d_Sz_roomAt_2 : decode b_Sz_roomAt 2 = .ok (.getfield 49, 3) := by decide +kernel
theorem d_Sz_roomAt_5 : decode b_Sz_roomAt 5 = .ok (.invokestatic 59, 3) := by decide +kernel
theorem d_Sz_roomAt_8 : decode b_Sz_roomAt 8 = .ok (.iload_n 2, 1) := by decide +kernel
theorem d_Sz_roomAt_9 : decode b_Sz_roomAt 9 = .ok (.iconst 0, 1) := by decide +kernel
theorem d_Sz_roomAt_10 : decode b_Sz_roomAt 10 = .ok (.bipush 6, 2) := by decide +kernel
theorem d_Sz_roomAt_12 : decode b_Sz_roomAt 12 = .ok (.invokestatic 45, 3) := by decide +kernel
theorem d_Sz_roomAt_15 : decode b_Sz_roomAt 15 = .ok (.aload_n 0, 1) := by decide +kernel
theorem d_Sz_roomAt_16 : decode b_Sz_roomAt 16 = .ok (.getfield 11, 3) := by decide +kernel
theorem d_Sz_roomAt_19 : decode b_Sz_roomAt 19 = .ok (.iload_n 1, 1) := by decide +kernel
theorem d_Sz_roomAt_20 : decode b_Sz_roomAt 20 = .ok (.aaload, 1) := by decide +kernel
theorem d_Sz_roomAt_21 : decode b_Sz_roomAt 21 = .ok (.astore_n 3, 1) := by decide +kernel
theorem d_Sz_roomAt_22 : decode b_Sz_roomAt 22 = .ok (.iload_n 2, 1) := by decide +kernel
theorem d_Sz_roomAt_23 : decode b_Sz_roomAt 23 = .ok (.tableswitch 75 0 5 #[37, 42, 47, 52, 57, 62], 37) := by decide +kernel
theorem d_Sz_roomAt_60 : decode b_Sz_roomAt 60 = .ok (.aload_n 3, 1) := by decide +kernel
theorem d_Sz_roomAt_61 : decode b_Sz_roomAt 61 = .ok (.getfield 122, 3) := by decide +kernel
theorem d_Sz_roomAt_64 : decode b_Sz_roomAt 64 = .ok (.lreturn, 1) := by decide +kernel
theorem d_Sz_roomAt_65 : decode b_Sz_roomAt 65 = .ok (.aload_n 3, 1) := by decide +kernel
theorem d_Sz_roomAt_66 : decode b_Sz_roomAt 66 = .ok (.getfield 126, 3) := by decide +kernel
theorem d_Sz_roomAt_69 : decode b_Sz_roomAt 69 = .ok (.lreturn, 1) := by decide +kernel
theorem d_Sz_roomAt_70 : decode b_Sz_roomAt 70 = .ok (.aload_n 3, 1) := by decide +kernel
theorem d_Sz_roomAt_71 : decode b_Sz_roomAt 71 = .ok (.invokevirtual 129, 3) := by decide +kernel
theorem d_Sz_roomAt_74 : decode b_Sz_roomAt 74 = .ok (.lreturn, 1) := by decide +kernel
theorem d_Sz_roomAt_75 : decode b_Sz_roomAt 75 = .ok (.aload_n 3, 1) := by decide +kernel
theorem d_Sz_roomAt_76 : decode b_Sz_roomAt 76 = .ok (.invokevirtual 133, 3) := by decide +kernel
theorem d_Sz_roomAt_79 : decode b_Sz_roomAt 79 = .ok (.lreturn, 1) := by decide +kernel
theorem d_Sz_roomAt_80 : decode b_Sz_roomAt 80 = .ok (.aload_n 3, 1) := by decide +kernel
theorem d_Sz_roomAt_81 : decode b_Sz_roomAt 81 = .ok (.invokevirtual 136, 3) := by decide +kernel
theorem d_Sz_roomAt_84 : decode b_Sz_roomAt 84 = .ok (.lreturn, 1) := by decide +kernel
theorem d_Sz_roomAt_85 : decode b_Sz_roomAt 85 = .ok (.aload_n 3, 1) := by decide +kernel
theorem d_Sz_roomAt_86 : decode b_Sz_roomAt 86 = .ok (.getfield 139, 3) := by decide +kernel
theorem d_Sz_roomAt_89 : decode b_Sz_roomAt 89 = .ok (.ifCond .eq 7, 3) := by decide +kernel
theorem d_Sz_roomAt_92 : decode b_Sz_roomAt 92 = .ok (.lconst 1, 1) := by decide +kernel
theorem d_Sz_roomAt_93 : decode b_Sz_roomAt 93 = .ok (.goto 4, 3) := by decide +kernel
theorem d_Sz_roomAt_96 : decode b_Sz_roomAt 96 = .ok (.lconst 0, 1) := by decide +kernel
theorem d_Sz_roomAt_97 : decode b_Sz_roomAt 97 = .ok (.lreturn, 1) := by decide +kernel
theorem d_Sz_roomAt_98 : decode b_Sz_roomAt 98 = .ok (.aload_n 3, 1) := by decide +kernel
theorem d_Sz_roomAt_99 : decode b_Sz_roomAt 99 = .ok (.getfield 143, 3) := by decide +kernel
theorem d_Sz_roomAt_102 : decode b_Sz_roomAt 102 = .ok (.i2l, 1) := by decide +kernel
theorem d_Sz_roomAt_103 : decode b_Sz_roomAt 103 = .ok (.lreturn, 1) := by decide +kernel
theorem d_Sz_openingAt_0 : decode b_Sz_openingAt 0 = .ok (.iload_n 1, 1) := by decide +kernel
theorem d_Sz_openingAt_1 : decode b_Sz_openingAt 1 = .ok (.aload_n 0, 1) := by decide +kernel
theorem d_Sz_openingAt_2 : decode b_Sz_openingAt 2 = .ok (.getfield 73, 3) := by decide +kernel
theorem d_Sz_openingAt_5 : decode b_Sz_openingAt 5 = .ok (.invokestatic 59, 3) := by decide +kernel
theorem d_Sz_openingAt_8 : decode b_Sz_openingAt 8 = .ok (.iload_n 2, 1) := by decide +kernel
theorem d_Sz_openingAt_9 : decode b_Sz_openingAt 9 = .ok (.iconst 0, 1) := by decide +kernel
theorem d_Sz_openingAt_10 : decode b_Sz_openingAt 10 = .ok (.iconst 2, 1) := by decide +kernel
theorem d_Sz_openingAt_11 : decode b_Sz_openingAt 11 = .ok (.invokestatic 45, 3) := by decide +kernel
theorem d_Sz_openingAt_14 : decode b_Sz_openingAt 14 = .ok (.aload_n 0, 1) := by decide +kernel
theorem d_Sz_openingAt_15 : decode b_Sz_openingAt 15 = .ok (.getfield 17, 3) := by decide +kernel
theorem d_Sz_openingAt_18 : decode b_Sz_openingAt 18 = .ok (.iload_n 1, 1) := by decide +kernel
theorem d_Sz_openingAt_19 : decode b_Sz_openingAt 19 = .ok (.aaload, 1) := by decide +kernel
theorem d_Sz_openingAt_20 : decode b_Sz_openingAt 20 = .ok (.astore_n 3, 1) := by decide +kernel
theorem d_Sz_openingAt_21 : decode b_Sz_openingAt 21 = .ok (.iload_n 2, 1) := by decide +kernel
theorem d_Sz_openingAt_22 : decode b_Sz_openingAt 22 = .ok (.lookupswitch 44 #[(0, 26), (1, 39)], 26) := by decide +kernel
theorem d_Sz_openingAt_48 : decode b_Sz_openingAt 48 = .ok (.aload_n 3, 1) := by decide +kernel
theorem d_Sz_openingAt_49 : decode b_Sz_openingAt 49 = .ok (.invokevirtual 146, 3) := by decide +kernel
theorem d_Sz_openingAt_52 : decode b_Sz_openingAt 52 = .ok (.ifCond .eq 7, 3) := by decide +kernel
theorem d_Sz_openingAt_55 : decode b_Sz_openingAt 55 = .ok (.lconst 1, 1) := by decide +kernel
theorem d_Sz_openingAt_56 : decode b_Sz_openingAt 56 = .ok (.goto 4, 3) := by decide +kernel
theorem d_Sz_openingAt_59 : decode b_Sz_openingAt 59 = .ok (.lconst 0, 1) := by decide +kernel
theorem d_Sz_openingAt_60 : decode b_Sz_openingAt 60 = .ok (.lreturn, 1) := by decide +kernel
theorem d_Sz_openingAt_61 : decode b_Sz_openingAt 61 = .ok (.aload_n 3, 1) := by decide +kernel
theorem d_Sz_openingAt_62 : decode b_Sz_openingAt 62 = .ok (.getfield 150, 3) := by decide +kernel
theorem d_Sz_openingAt_65 : decode b_Sz_openingAt 65 = .ok (.lreturn, 1) := by decide +kernel
theorem d_Sz_openingAt_66 : decode b_Sz_openingAt 66 = .ok (.aload_n 3, 1) := by decide +kernel
theorem d_Sz_openingAt_67 : decode b_Sz_openingAt 67 = .ok (.getfield 153, 3) := by decide +kernel
theorem d_Sz_openingAt_70 : decode b_Sz_openingAt 70 = .ok (.lreturn, 1) := by decide +kernel
theorem d_Sz_personAt_0 : decode b_Sz_personAt 0 = .ok (.iload_n 1, 1) := by decide +kernel
theorem d_Sz_personAt_1 : decode b_Sz_personAt 1 = .ok (.aload_n 0, 1) := by decide +kernel
theorem d_Sz_personAt_2 : decode b_Sz_personAt 2 = .ok (.getfield 110, 3) := by decide +kernel
theorem d_Sz_personAt_5 : decode b_Sz_personAt 5 = .ok (.invokestatic 59, 3) := by decide +kernel
theorem d_Sz_personAt_8 : decode b_Sz_personAt 8 = .ok (.iload_n 2, 1) := by decide +kernel
theorem d_Sz_personAt_9 : decode b_Sz_personAt 9 = .ok (.iconst 0, 1) := by decide +kernel
theorem d_Sz_personAt_10 : decode b_Sz_personAt 10 = .ok (.iconst 2, 1) := by decide +kernel
theorem d_Sz_personAt_11 : decode b_Sz_personAt 11 = .ok (.invokestatic 45, 3) := by decide +kernel
theorem d_Sz_personAt_14 : decode b_Sz_personAt 14 = .ok (.aload_n 0, 1) := by decide +kernel
theorem d_Sz_personAt_15 : decode b_Sz_personAt 15 = .ok (.getfield 41, 3) := by decide +kernel
theorem d_Sz_personAt_18 : decode b_Sz_personAt 18 = .ok (.iload_n 1, 1) := by decide +kernel
theorem d_Sz_personAt_19 : decode b_Sz_personAt 19 = .ok (.aaload, 1) := by decide +kernel
theorem d_Sz_personAt_20 : decode b_Sz_personAt 20 = .ok (.astore_n 3, 1) := by decide +kernel
theorem d_Sz_personAt_21 : decode b_Sz_personAt 21 = .ok (.iload_n 2, 1) := by decide +kernel
theorem d_Sz_personAt_22 : decode b_Sz_personAt 22 = .ok (.lookupswitch 37 #[(0, 26), (1, 32)], 26) := by decide +kernel
theorem d_Sz_personAt_48 : decode b_Sz_personAt 48 = .ok (.aload_n 3, 1) := by decide +kernel
theorem d_Sz_personAt_49 : decode b_Sz_personAt 49 = .ok (.getfield 156, 3) := by decide +kernel
theorem d_Sz_personAt_52 : decode b_Sz_personAt 52 = .ok (.i2l, 1) := by decide +kernel
theorem d_Sz_personAt_53 : decode b_Sz_personAt 53 = .ok (.lreturn, 1) := by decide +kernel
theorem d_Sz_personAt_54 : decode b_Sz_personAt 54 = .ok (.aload_n 3, 1) := by decide +kernel
theorem d_Sz_personAt_55 : decode b_Sz_personAt 55 = .ok (.getfield 159, 3) := by decide +kernel
theorem d_Sz_personAt_58 : decode b_Sz_personAt 58 = .ok (.lreturn, 1) := by decide +kernel
theorem d_Sz_personAt_59 : decode b_Sz_personAt 59 = .ok (.aload_n 3, 1) := by decide +kernel
theorem d_Sz_personAt_60 : decode b_Sz_personAt 60 = .ok (.getfield 162, 3) := by decide +kernel
theorem d_Sz_personAt_63 : decode b_Sz_personAt 63 = .ok (.lreturn, 1) := by decide +kernel
theorem d_Sz_steelAt_0 : decode b_Sz_steelAt 0 = .ok (.iload_n 1, 1) := by decide +kernel
theorem d_Sz_steelAt_1 : decode b_Sz_steelAt 1 = .ok (.aload_n 0, 1) := by decide +kernel
theorem d_Sz_steelAt_2 : decode b_Sz_steelAt 2 = .ok (.getfield 104, 3) := by decide +kernel
theorem d_Sz_steelAt_5 : decode b_Sz_steelAt 5 = .ok (.invokestatic 59, 3) := by decide +kernel
theorem d_Sz_steelAt_8 : decode b_Sz_steelAt 8 = .ok (.aload_n 0, 1) := by decide +kernel
theorem d_Sz_steelAt_9 : decode b_Sz_steelAt 9 = .ok (.getfield 35, 3) := by decide +kernel
theorem d_Sz_steelAt_12 : decode b_Sz_steelAt 12 = .ok (.iload_n 1, 1) := by decide +kernel
theorem d_Sz_steelAt_13 : decode b_Sz_steelAt 13 = .ok (.aaload, 1) := by decide +kernel
theorem d_Sz_steelAt_14 : decode b_Sz_steelAt 14 = .ok (.getfield 165, 3) := by decide +kernel
theorem d_Sz_steelAt_17 : decode b_Sz_steelAt 17 = .ok (.ireturn, 1) := by decide +kernel
theorem d_Sz_balance_0 : decode b_Sz_balance 0 = .ok (.iload_n 1, 1) := by decide +kernel
theorem d_Sz_balance_1 : decode b_Sz_balance 1 = .ok (.iconst 0, 1) := by decide +kernel
theorem d_Sz_balance_2 : decode b_Sz_balance 2 = .ok (.iconst 4, 1) := by decide +kernel
theorem d_Sz_balance_3 : decode b_Sz_balance 3 = .ok (.invokestatic 45, 3) := by decide +kernel
theorem d_Sz_balance_6 : decode b_Sz_balance 6 = .ok (.iload_n 1, 1) := by decide +kernel
theorem d_Sz_balance_7 : decode b_Sz_balance 7 = .ok (.tableswitch 49 0 3 #[29, 34, 39, 44], 29) := by decide +kernel
theorem d_Sz_balance_36 : decode b_Sz_balance 36 = .ok (.aload_n 0, 1) := by decide +kernel
theorem d_Sz_balance_37 : decode b_Sz_balance 37 = .ok (.getfield 168, 3) := by decide +kernel
theorem d_Sz_balance_40 : decode b_Sz_balance 40 = .ok (.lreturn, 1) := by decide +kernel
theorem d_Sz_balance_41 : decode b_Sz_balance 41 = .ok (.aload_n 0, 1) := by decide +kernel
theorem d_Sz_balance_42 : decode b_Sz_balance 42 = .ok (.invokevirtual 171, 3) := by decide +kernel
theorem d_Sz_balance_45 : decode b_Sz_balance 45 = .ok (.lreturn, 1) := by decide +kernel
theorem d_Sz_balance_46 : decode b_Sz_balance 46 = .ok (.aload_n 0, 1) := by decide +kernel
theorem d_Sz_balance_47 : decode b_Sz_balance 47 = .ok (.getfield 174, 3) := by decide +kernel
theorem d_Sz_balance_50 : decode b_Sz_balance 50 = .ok (.lreturn, 1) := by decide +kernel
theorem d_Sz_balance_51 : decode b_Sz_balance 51 = .ok (.aload_n 0, 1) := by decide +kernel
theorem d_Sz_balance_52 : decode b_Sz_balance 52 = .ok (.getfield 177, 3) := by decide +kernel
theorem d_Sz_balance_55 : decode b_Sz_balance 55 = .ok (.lreturn, 1) := by decide +kernel
theorem d_Sz_balance_56 : decode b_Sz_balance 56 = .ok (.aload_n 0, 1) := by decide +kernel
theorem d_Sz_balance_57 : decode b_Sz_balance 57 = .ok (.getfield 180, 3) := by decide +kernel
theorem d_Sz_balance_60 : decode b_Sz_balance 60 = .ok (.lreturn, 1) := by decide +kernel
theorem d_Sz_smokeInRooms_0 : decode b_Sz_smokeInRooms 0 = .ok (.lconst 0, 1) := by decide +kernel
theorem d_Sz_smokeInRooms_1 : decode b_Sz_smokeInRooms 1 = .ok (.lstore_n 1, 1) := by decide +kernel
theorem d_Sz_smokeInRooms_2 : decode b_Sz_smokeInRooms 2 = .ok (.iconst 0, 1) := by decide +kernel
theorem d_Sz_smokeInRooms_3 : decode b_Sz_smokeInRooms 3 = .ok (.istore_n 3, 1) := by decide +kernel
theorem d_Sz_smokeInRooms_4 : decode b_Sz_smokeInRooms 4 = .ok (.iload_n 3, 1) := by decide +kernel
theorem d_Sz_smokeInRooms_5 : decode b_Sz_smokeInRooms 5 = .ok (.aload_n 0, 1) := by decide +kernel
theorem d_Sz_smokeInRooms_6 : decode b_Sz_smokeInRooms 6 = .ok (.getfield 49, 3) := by decide +kernel
theorem d_Sz_smokeInRooms_9 : decode b_Sz_smokeInRooms 9 = .ok (.if_icmp .ge 21, 3) := by decide +kernel
theorem d_Sz_smokeInRooms_12 : decode b_Sz_smokeInRooms 12 = .ok (.lload_n 1, 1) := by decide +kernel
theorem d_Sz_smokeInRooms_13 : decode b_Sz_smokeInRooms 13 = .ok (.aload_n 0, 1) := by decide +kernel
theorem d_Sz_smokeInRooms_14 : decode b_Sz_smokeInRooms 14 = .ok (.getfield 11, 3) := by decide +kernel
theorem d_Sz_smokeInRooms_17 : decode b_Sz_smokeInRooms 17 = .ok (.iload_n 3, 1) := by decide +kernel
theorem d_Sz_smokeInRooms_18 : decode b_Sz_smokeInRooms 18 = .ok (.aaload, 1) := by decide +kernel
theorem d_Sz_smokeInRooms_19 : decode b_Sz_smokeInRooms 19 = .ok (.getfield 122, 3) := by decide +kernel
theorem d_Sz_smokeInRooms_22 : decode b_Sz_smokeInRooms 22 = .ok (.ladd, 1) := by decide +kernel
theorem d_Sz_smokeInRooms_23 : decode b_Sz_smokeInRooms 23 = .ok (.lstore_n 1, 1) := by decide +kernel
theorem d_Sz_smokeInRooms_24 : decode b_Sz_smokeInRooms 24 = .ok (.iinc 3 1, 3) := by decide +kernel
theorem d_Sz_smokeInRooms_27 : decode b_Sz_smokeInRooms 27 = .ok (.goto (-23), 3) := by decide +kernel
theorem d_Sz_smokeInRooms_30 : decode b_Sz_smokeInRooms 30 = .ok (.lload_n 1, 1) := by decide +kernel
theorem d_Sz_smokeInRooms_31 : decode b_Sz_smokeInRooms 31 = .ok (.lreturn, 1) := by decide +kernel
end
section
/-! rows over a world that is ONE pool (va_pl L f): a cell is told by its address, what it holds is f of it -/
section PG
variable {p : Program} {l : Launch} {e : Env} {R : Room} {s : State} {m : MethodId} {args : Array Value} {below : List Frame} {meth : Method} {c : Code} {H H0 : Heap} {locs : List Loc} {cells slots : Nat} {Q : State → Prop} {A : Nat → Prop} {D : va_G} {cl : List vw_C} {tys : List (ClassId × FieldType)} {L : List Nat} {f : Nat → va_E} {a : Nat} {cc : ByteArray} {pc : Nat} {ls : Array Slot} {rest : List Value}
theorem pg_ix (h : a ∈ L) : ∃ k : Nat, (va_pl L f)[k]? = some (a, f a) := by
  obtain ⟨k, hk⟩ := va_pl_get (X := []) (f := f) h
  exact ⟨k, by rw [List.nil_append] at hk; exact hk⟩
theorem pg_set {k : Nat} {z : va_E} (hD : va_D A (va_pl L f)) (h : a ∈ L) (hk : (va_pl L f)[k]? = some (a, f a)) : (va_pl L f).set k (a, z) = va_pl L (va_up f a z) := by
  have h1 := va_pl_set (X := []) (e := z) (by rw [List.nil_append]; exact hD) h (by rw [List.nil_append]; exact hk)
  rwa [List.nil_append, List.nil_append] at h1
theorem pg_lt (hP : va_P D cl (va_pl L f) H) (h : a ∈ L) : a < H.size := va_pl_lt (X := []) (by rw [List.nil_append]; exact hP) h
theorem pg_nin (hP : va_P D cl (va_pl L f) H) (h : H.size ≤ a) : a ∉ L := va_pl_fresh (X := []) (by rw [List.nil_append]; exact hP) h
theorem pg_get (hx : p.tables.exec = Jvm.exec) (hb : c.code = cc) {own ref C : String} {T : u_T} {N ci index : Nat} {Ts : List Cond} (hts : ∀ w ∈ Ts, w.before args s = true) (hin : ∀ w ∈ u_ws C T N, w ∈ Ts) (hown : s.vm.findClass own = some m.cls) (hK : va_K D cl tys s) (hP : va_P D cl (va_pl L f) H) {fs : List Value} (ha : a ∈ L) (he : f a = .inr (ci, fs)) (hc : cl[ci]? = some (C, T, N)) (k : Nat) (hk : k < N) (hlink : (Cond.fieldLink own index ref (T k).2.1 (T k).2.2.1).before args s = true) (hsame : ∀ x, s.fieldFound? (T k).1 (T k).2.1 (T k).2.2.1 = some x → s.fieldFound? ref (T k).2.1 (T k).2.2.1 = some x) {v : Value} (hv : fs[k]? = some v) (hdg : decode cc pc = .ok (.getfield index, 3))
    (kk : W p l e R s m args below meth c H locs cells slots Q (F0 m (pc + 3) ls (v :: rest))) : W p l e R s m args below meth c H locs cells slots Q (F0 m pc ls (.ref a :: rest)) := by
  obtain ⟨q0, hq⟩ := pg_ix (f := f) ha
  exact va_get hx hb hts hin hown hK hP q0 (by rw [hq, he]) hc k hk hlink hsame hv hdg kk
theorem pg_put (hx : p.tables.exec = Jvm.exec) (hb : c.code = cc) {own ref C : String} {T : u_T} {N ci index : Nat} {Ts : List Cond} (hts : ∀ w ∈ Ts, w.before args s = true) (hin : ∀ w ∈ u_ws C T N, w ∈ Ts) (ty0 : Nat → FieldType) (hty : ∀ k, k < N → parseFieldDescriptor (T k).2.2.1 = some (ty0 k)) (hnm : ∀ a, a < N → ∀ b, b < N → a ≠ b → (T a).2.1 ≠ (T b).2.1) (hown : s.vm.findClass own = some m.cls) (hK : va_K D cl tys s) (hP : va_P D cl (va_pl L f) H) (hD : va_D A (va_pl L f)) (hS0 : va_S A H0 H locs) {fs : List Value} (ha : a ∈ L) (he : f a = .inr (ci, fs)) (hc : cl[ci]? = some (C, T, N)) (k : Nat) (hk : k < N) (hlink : (Cond.fieldLink own index ref (T k).2.1 (T k).2.2.1).before args s = true) (hsame : ∀ x, s.fieldFound? (T k).1 (T k).2.1 (T k).2.2.1 = some x → s.fieldFound? ref (T k).2.1 (T k).2.2.1 = some x) (hfin : (T k).2.2.2 = false) {ty : FieldType} {v : Value} (hd : parseFieldDescriptor (T k).2.2.1 = some ty) (hn : narrow ty v = v) (hfit : fits ty v = true) (hl : k < fs.length)
    (hdg : decode cc pc = .ok (.putfield index, 3)) (kk : ∀ (H1 : Heap) (locs1 : List Loc), va_P D cl (va_pl L (va_up f a (.inr (ci, fs.set k v)))) H1 → va_D A (va_pl L (va_up f a (.inr (ci, fs.set k v)))) → va_S A H0 H1 locs1 → W p l e R s m args below meth c H1 locs1 cells slots Q (F0 m (pc + 3) ls rest)) : W p l e R s m args below meth c H locs cells slots Q (F0 m pc ls (v :: .ref a :: rest)) := by
  obtain ⟨q0, hq⟩ := pg_ix (f := f) ha
  refine va_put hx hb hts hin ty0 hty hnm hown hK hP hD hS0 q0 (by rw [hq, he]) hc k hk hlink hsame hfin hd hn hfit hl hdg (fun H1 locs1 h1 h2 h3 => ?_)
  rw [pg_set hD ha hq] at h1 h2
  exact kk H1 locs1 h1 h2 h3
theorem pg_putF (hx : p.tables.exec = Jvm.exec) (hb : c.code = cc) {own ref C : String} {T : u_T} {N ci index : Nat} {Ts : List Cond} (hts : ∀ w ∈ Ts, w.before args s = true) (hin : ∀ w ∈ u_ws C T N, w ∈ Ts) (ty0 : Nat → FieldType) (hty : ∀ k, k < N → parseFieldDescriptor (T k).2.2.1 = some (ty0 k)) (hnm : ∀ a, a < N → ∀ b, b < N → a ≠ b → (T a).2.1 ≠ (T b).2.1) (hown : s.vm.findClass own = some m.cls) (hK : va_K D cl tys s) (hP : va_P D cl (va_pl L f) H) (hD : va_D A (va_pl L f)) (hS0 : va_S A H0 H locs) {fs : List Value} (ha : a ∈ L) (he : f a = .inr (ci, fs)) (hc : cl[ci]? = some (C, T, N)) (k : Nat) (hk : k < N) (hlink : (Cond.fieldLink own index ref (T k).2.1 (T k).2.2.1).before args s = true) (hsame : ∀ x, s.fieldFound? (T k).1 (T k).2.1 (T k).2.2.1 = some x → s.fieldFound? ref (T k).2.1 (T k).2.2.1 = some x) (hfin : (T k).2.2.2 = true) (hin2 : meth.name = "<init>") (hdecl : (T k).1 = own) {ty : FieldType} {v : Value} (hd : parseFieldDescriptor (T k).2.2.1 = some ty) (hn : narrow ty v = v) (hfit : fits ty v = true) (hl : k < fs.length)
    (hdg : decode cc pc = .ok (.putfield index, 3)) (kk : ∀ (H1 : Heap) (locs1 : List Loc), va_P D cl (va_pl L (va_up f a (.inr (ci, fs.set k v)))) H1 → va_D A (va_pl L (va_up f a (.inr (ci, fs.set k v)))) → va_S A H0 H1 locs1 → W p l e R s m args below meth c H1 locs1 cells slots Q (F0 m (pc + 3) ls rest)) : W p l e R s m args below meth c H locs cells slots Q (F0 m pc ls (v :: .ref a :: rest)) := by
  obtain ⟨q0, hq⟩ := pg_ix (f := f) ha
  refine va_putF hx hb hts hin ty0 hty hnm hown hK hP hD hS0 q0 (by rw [hq, he]) hc k hk hlink hsame hfin hin2 hdecl hd hn hfit hl hdg (fun H1 locs1 h1 h2 h3 => ?_)
  rw [pg_set hD ha hq] at h1 h2
  exact kk H1 locs1 h1 h2 h3
theorem pg_aldq (hx : p.tables.exec = Jvm.exec) (hb : c.code = cc) (hK : va_K D cl tys s) (hP : va_P D cl (va_pl L f) H) (t0 : Nat) {cA : ClassId} {C : String} {n : Nat} {g : Nat → Option Nat} (ha : a ∈ L) (he : f a = .inl (cA, n, .inr (.inr (.inr (.inr g))))) (ht : tys[t0]? = some (cA, .object C)) {i : Int32} (hin : vp_in i n) (hdg : decode cc pc = .ok (.aaload, 1))
    (kk : W p l e R s m args below meth c H locs cells slots Q (F0 m (pc + 1) ls (va_rf (g i.toNatClampNeg) :: rest))) : W p l e R s m args below meth c H locs cells slots Q (F0 m pc ls (.int i :: .ref a :: rest)) := by
  obtain ⟨q0, hq⟩ := pg_ix (f := f) ha
  exact va_aldq hx hb hK hP q0 t0 (by rw [hq, he]) ht hin hdg kk
theorem pg_astq (hx : p.tables.exec = Jvm.exec) (hb : c.code = cc) (hK : va_K D cl tys s) (hP : va_P D cl (va_pl L f) H) (hD : va_D A (va_pl L f)) (hS : va_S A H0 H locs) (t0 ci : Nat) {cA : ClassId} {r : vw_C} {n v : Nat} {vs : List Value} {g : Nat → Option Nat} (ha : a ∈ L) (he : f a = .inl (cA, n, .inr (.inr (.inr (.inr g))))) (ht : tys[t0]? = some (cA, .object r.1)) (hvL : v ∈ L) (hv : f v = .inr (ci, vs)) (hc : cl[ci]? = some r) {i : Int32} (hin : vp_in i n) (hdg : decode cc pc = .ok (.aastore, 1))
    (kk : ∀ (H1 : Heap) (locs1 : List Loc), va_P D cl (va_pl L (va_up f a (.inl (cA, n, .inr (.inr (.inr (.inr (va_up g i.toNatClampNeg (some v))))))))) H1 → va_D A (va_pl L (va_up f a (.inl (cA, n, .inr (.inr (.inr (.inr (va_up g i.toNatClampNeg (some v))))))))) → va_S A H0 H1 locs1 → W p l e R s m args below meth c H1 locs1 cells slots Q (F0 m (pc + 1) ls rest)) : W p l e R s m args below meth c H locs cells slots Q (F0 m pc ls (.ref v :: .int i :: .ref a :: rest)) := by
  obtain ⟨q0, hq⟩ := pg_ix (f := f) ha
  obtain ⟨q1, hq1⟩ := pg_ix (f := f) hvL
  refine va_astq hx hb hK hP hD hS q0 t0 q1 ci (by rw [hq, he]) ht (by rw [hq1, hv]) hc hin hdg (fun H1 locs1 h1 h2 h3 => ?_)
  rw [pg_set hD ha hq] at h1 h2
  exact kk H1 locs1 h1 h2 h3
theorem pg_iald (hx : p.tables.exec = Jvm.exec) (hb : c.code = cc) (hK : va_K D cl tys s) (hP : va_P D cl (va_pl L f) H) (t0 : Nat) {cA : ClassId} {n : Nat} {g : Nat → Int32} (ha : a ∈ L) (he : f a = .inl (cA, n, .inl g)) (ht : tys[t0]? = some (cA, .int)) {i : Int32} (hin : vp_in i n) (hdg : decode cc pc = .ok (.iaload, 1))
    (kk : W p l e R s m args below meth c H locs cells slots Q (F0 m (pc + 1) ls (.int (g i.toNatClampNeg) :: rest))) : W p l e R s m args below meth c H locs cells slots Q (F0 m pc ls (.int i :: .ref a :: rest)) := by
  obtain ⟨q0, hq⟩ := pg_ix (f := f) ha
  exact va_iald hx hb hK hP q0 t0 (by rw [hq, he]) ht hin hdg kk
theorem pg_iast (hx : p.tables.exec = Jvm.exec) (hb : c.code = cc) (hK : va_K D cl tys s) (hP : va_P D cl (va_pl L f) H) (hD : va_D A (va_pl L f)) (hS : va_S A H0 H locs) (t0 : Nat) {cA : ClassId} {n : Nat} {g : Nat → Int32} (ha : a ∈ L) (he : f a = .inl (cA, n, .inl g)) (ht : tys[t0]? = some (cA, .int)) {i : Int32} {x : Int32} (hin : vp_in i n) (hdg : decode cc pc = .ok (.iastore, 1))
    (kk : ∀ (H1 : Heap) (locs1 : List Loc), va_P D cl (va_pl L (va_up f a (.inl (cA, n, .inl (upd g i.toNatClampNeg x))))) H1 → va_D A (va_pl L (va_up f a (.inl (cA, n, .inl (upd g i.toNatClampNeg x))))) → va_S A H0 H1 locs1 → W p l e R s m args below meth c H1 locs1 cells slots Q (F0 m (pc + 1) ls rest)) : W p l e R s m args below meth c H locs cells slots Q (F0 m pc ls (.int x :: .int i :: .ref a :: rest)) := by
  obtain ⟨q0, hq⟩ := pg_ix (f := f) ha
  refine va_iast hx hb hK hP hD hS q0 t0 (by rw [hq, he]) ht hin hdg (fun H1 locs1 h1 h2 h3 => ?_)
  rw [pg_set hD ha hq] at h1 h2
  exact kk H1 locs1 h1 h2 h3
theorem pg_lald (hx : p.tables.exec = Jvm.exec) (hb : c.code = cc) (hK : va_K D cl tys s) (hP : va_P D cl (va_pl L f) H) (t0 : Nat) {cA : ClassId} {n : Nat} {g : Nat → Int64} (ha : a ∈ L) (he : f a = .inl (cA, n, .inr (.inl g))) (ht : tys[t0]? = some (cA, .long)) {i : Int32} (hin : vp_in i n) (hdg : decode cc pc = .ok (.laload, 1))
    (kk : W p l e R s m args below meth c H locs cells slots Q (F0 m (pc + 1) ls (.long (g i.toNatClampNeg) :: rest))) : W p l e R s m args below meth c H locs cells slots Q (F0 m pc ls (.int i :: .ref a :: rest)) := by
  obtain ⟨q0, hq⟩ := pg_ix (f := f) ha
  exact va_lald hx hb hK hP q0 t0 (by rw [hq, he]) ht hin hdg kk
theorem pg_last (hx : p.tables.exec = Jvm.exec) (hb : c.code = cc) (hK : va_K D cl tys s) (hP : va_P D cl (va_pl L f) H) (hD : va_D A (va_pl L f)) (hS : va_S A H0 H locs) (t0 : Nat) {cA : ClassId} {n : Nat} {g : Nat → Int64} (ha : a ∈ L) (he : f a = .inl (cA, n, .inr (.inl g))) (ht : tys[t0]? = some (cA, .long)) {i : Int32} {x : Int64} (hin : vp_in i n) (hdg : decode cc pc = .ok (.lastore, 1))
    (kk : ∀ (H1 : Heap) (locs1 : List Loc), va_P D cl (va_pl L (va_up f a (.inl (cA, n, .inr (.inl (vp_updL g i.toNatClampNeg x)))))) H1 → va_D A (va_pl L (va_up f a (.inl (cA, n, .inr (.inl (vp_updL g i.toNatClampNeg x)))))) → va_S A H0 H1 locs1 → W p l e R s m args below meth c H1 locs1 cells slots Q (F0 m (pc + 1) ls rest)) : W p l e R s m args below meth c H locs cells slots Q (F0 m pc ls (.long x :: .int i :: .ref a :: rest)) := by
  obtain ⟨q0, hq⟩ := pg_ix (f := f) ha
  refine va_last hx hb hK hP hD hS q0 t0 (by rw [hq, he]) ht hin hdg (fun H1 locs1 h1 h2 h3 => ?_)
  rw [pg_set hD ha hq] at h1 h2
  exact kk H1 locs1 h1 h2 h3
theorem pg_push {q : Nat} {z : va_E} (hq : q ∉ L) : va_pl L f ++ [(q, z)] = va_pl (L ++ [q]) (va_up f q z) := va_pl_push hq
end PG
section PG2
variable {p : Program} {l : Launch} {e : Env} {R : Room} {s : State} {m : MethodId} {args : Array Value} {below : List Frame} {meth : Method} {c : Code} {H H0 : Heap} {locs : List Loc} {cells slots : Nat} {Q : State → Prop} {A : Nat → Prop} {D : va_G} {cl : List vw_C} {tys : List (ClassId × FieldType)} {L : List Nat} {f : Nat → va_E} {a : Nat} {cc : ByteArray} {pc : Nat} {ls : Array Slot} {rest : List Value}
theorem lc_ge (hx : p.tables.exec = Jvm.exec) (hb : c.code = cc) {x y : Int64} {off : Int} {tgt : Nat} (d1 : decode cc pc = .ok (.lcmp, 1)) (d2 : decode cc (pc + 1) = .ok (.ifCond .ge off, 3)) (ht : ((pc + 1 : Nat) : Int) + off = (tgt : Int))
    (kt : y ≤ x → W p l e R s m args below meth c H locs cells slots Q (F0 m tgt ls rest)) (kf : ¬ y ≤ x → W p l e R s m args below meth c H locs cells slots Q (F0 m (pc + 1 + 3) ls rest)) : W p l e R s m args below meth c H locs cells slots Q (F0 m pc ls (.long y :: .long x :: rest)) :=
  W.lcmp hx hb d1 (lv_if_ge hx hb d2 ht (fun h => kt ((lg_cmp_ge x y).mp h)) (fun h => kf (fun q => h ((lg_cmp_ge x y).mpr q))))
theorem lc_le (hx : p.tables.exec = Jvm.exec) (hb : c.code = cc) {x y : Int64} {off : Int} {tgt : Nat} (d1 : decode cc pc = .ok (.lcmp, 1)) (d2 : decode cc (pc + 1) = .ok (.ifCond .le off, 3)) (ht : ((pc + 1 : Nat) : Int) + off = (tgt : Int))
    (kt : x ≤ y → W p l e R s m args below meth c H locs cells slots Q (F0 m tgt ls rest)) (kf : ¬ x ≤ y → W p l e R s m args below meth c H locs cells slots Q (F0 m (pc + 1 + 3) ls rest)) : W p l e R s m args below meth c H locs cells slots Q (F0 m pc ls (.long y :: .long x :: rest)) :=
  W.lcmp hx hb d1 (lv_if_le hx hb d2 ht (fun h => kt ((lg_cmp_le x y).mp h)) (fun h => kf (fun q => h ((lg_cmp_le x y).mpr q))))
theorem lc_gt (hx : p.tables.exec = Jvm.exec) (hb : c.code = cc) {x y : Int64} {off : Int} {tgt : Nat} (d1 : decode cc pc = .ok (.lcmp, 1)) (d2 : decode cc (pc + 1) = .ok (.ifCond .gt off, 3)) (ht : ((pc + 1 : Nat) : Int) + off = (tgt : Int))
    (kt : y < x → W p l e R s m args below meth c H locs cells slots Q (F0 m tgt ls rest)) (kf : ¬ y < x → W p l e R s m args below meth c H locs cells slots Q (F0 m (pc + 1 + 3) ls rest)) : W p l e R s m args below meth c H locs cells slots Q (F0 m pc ls (.long y :: .long x :: rest)) :=
  W.lcmp hx hb d1 (lv_if_gt hx hb d2 ht (fun h => kt ((lg_cmp_gt x y).mp h)) (fun h => kf (fun q => h ((lg_cmp_gt x y).mpr q))))
theorem lc_lt (hx : p.tables.exec = Jvm.exec) (hb : c.code = cc) {x y : Int64} {off : Int} {tgt : Nat} (d1 : decode cc pc = .ok (.lcmp, 1)) (d2 : decode cc (pc + 1) = .ok (.ifCond .lt off, 3)) (ht : ((pc + 1 : Nat) : Int) + off = (tgt : Int))
    (kt : x < y → W p l e R s m args below meth c H locs cells slots Q (F0 m tgt ls rest)) (kf : ¬ x < y → W p l e R s m args below meth c H locs cells slots Q (F0 m (pc + 1 + 3) ls rest)) : W p l e R s m args below meth c H locs cells slots Q (F0 m pc ls (.long y :: .long x :: rest)) :=
  W.lcmp hx hb d1 (lv_if_lt hx hb d2 ht (fun h => kt ((lg_cmp_lt x y).mp h)) (fun h => kf (fun q => h ((lg_cmp_lt x y).mpr q))))
theorem lc_eq (hx : p.tables.exec = Jvm.exec) (hb : c.code = cc) {x y : Int64} {off : Int} {tgt : Nat} (d1 : decode cc pc = .ok (.lcmp, 1)) (d2 : decode cc (pc + 1) = .ok (.ifCond .eq off, 3)) (ht : ((pc + 1 : Nat) : Int) + off = (tgt : Int))
    (kt : x = y → W p l e R s m args below meth c H locs cells slots Q (F0 m tgt ls rest)) (kf : ¬ x = y → W p l e R s m args below meth c H locs cells slots Q (F0 m (pc + 1 + 3) ls rest)) : W p l e R s m args below meth c H locs cells slots Q (F0 m pc ls (.long y :: .long x :: rest)) :=
  W.lcmp hx hb d1 (lv_if_eq hx hb d2 ht (fun h => kt ((lg_cmp_eq x y).mp h)) (fun h => kf (fun q => h ((lg_cmp_eq x y).mpr q))))
theorem lc_ne (hx : p.tables.exec = Jvm.exec) (hb : c.code = cc) {x y : Int64} {off : Int} {tgt : Nat} (d1 : decode cc pc = .ok (.lcmp, 1)) (d2 : decode cc (pc + 1) = .ok (.ifCond .ne off, 3)) (ht : ((pc + 1 : Nat) : Int) + off = (tgt : Int))
    (kt : ¬ x = y → W p l e R s m args below meth c H locs cells slots Q (F0 m tgt ls rest)) (kf : x = y → W p l e R s m args below meth c H locs cells slots Q (F0 m (pc + 1 + 3) ls rest)) : W p l e R s m args below meth c H locs cells slots Q (F0 m pc ls (.long y :: .long x :: rest)) :=
  W.lcmp hx hb d1 (lv_if_ne hx hb d2 ht (fun h => kt (fun q => h ((lg_cmp_eq x y).mpr q))) (fun h => kf ((lg_cmp_eq x y).mp h)))
end PG2
section PG3
variable {p : Program} {l : Launch} {e : Env} {R : Room} {s : State} {m : MethodId} {args : Array Value} {below : List Frame} {meth : Method} {c : Code} {H H0 : Heap} {locs : List Loc} {cells slots : Nat} {Q : State → Prop} {A : Nat → Prop} {D : va_G} {cl : List vw_C} {tys : List (ClassId × FieldType)} {L : List Nat} {f : Nat → va_E} {a : Nat} {cc : ByteArray} {pc : Nat} {ls : Array Slot} {rest : List Value}
theorem pg_zald (hx : p.tables.exec = Jvm.exec) (hb : c.code = cc) (hK : va_K D cl tys s) (hP : va_P D cl (va_pl L f) H) (t0 : Nat) {cA : ClassId} {n : Nat} {g : Nat → Int32} (ha : a ∈ L) (he : f a = .inl (cA, n, .inl g)) (ht : tys[t0]? = some (cA, .boolean)) {i : Int32} (hin : vp_in i n) (hdg : decode cc pc = .ok (.baload, 1))
    (kk : W p l e R s m args below meth c H locs cells slots Q (F0 m (pc + 1) ls (.int (g i.toNatClampNeg) :: rest))) : W p l e R s m args below meth c H locs cells slots Q (F0 m pc ls (.int i :: .ref a :: rest)) := by
  obtain ⟨q0, hq⟩ := pg_ix (f := f) ha
  exact va_zald hx hb hK hP q0 t0 (by rw [hq, he]) ht hin hdg kk
theorem pg_zast (hx : p.tables.exec = Jvm.exec) (hb : c.code = cc) (hK : va_K D cl tys s) (hP : va_P D cl (va_pl L f) H) (hD : va_D A (va_pl L f)) (hS : va_S A H0 H locs) (t0 : Nat) {cA : ClassId} {n : Nat} {g : Nat → Int32} (ha : a ∈ L) (he : f a = .inl (cA, n, .inl g)) (ht : tys[t0]? = some (cA, .boolean)) {i : Int32} {x : Int32} (hin : vp_in i n) (hz : vp_nar .boolean x = x) (hdg : decode cc pc = .ok (.bastore, 1))
    (kk : ∀ (H1 : Heap) (locs1 : List Loc), va_P D cl (va_pl L (va_up f a (.inl (cA, n, .inl (upd g i.toNatClampNeg x))))) H1 → va_D A (va_pl L (va_up f a (.inl (cA, n, .inl (upd g i.toNatClampNeg x))))) → va_S A H0 H1 locs1 → W p l e R s m args below meth c H1 locs1 cells slots Q (F0 m (pc + 1) ls rest)) : W p l e R s m args below meth c H locs cells slots Q (F0 m pc ls (.int x :: .int i :: .ref a :: rest)) := by
  obtain ⟨q0, hq⟩ := pg_ix (f := f) ha
  refine va_zast hx hb hK hP hD hS q0 t0 (by rw [hq, he]) ht hin hdg (fun H1 locs1 h1 h2 h3 => ?_)
  rw [pg_set hD ha hq, hz] at h1 h2
  exact kk H1 locs1 h1 h2 h3
theorem pg_new1 {q : Nat} {z : va_E} (hD : va_D A (va_pl L f ++ [(q, z)])) : q ∉ L := by
  intro h
  obtain ⟨k, hk⟩ := pg_ix (f := f) h
  have hlt : k < (va_pl L f).length := (List.getElem?_eq_some_iff.mp hk).1
  have h1 : (va_pl L f ++ [(q, z)])[k]? = some (q, f q) := by rw [List.getElem?_append_left hlt]; exact hk
  have h2 : (va_pl L f ++ [(q, z)])[(va_pl L f).length]? = some (q, z) := by rw [List.getElem?_append_right (Nat.le_refl _)]; simp
  have := hD.1 _ _ _ _ h1 h2 rfl
  omega
theorem pg_new (hx : p.tables.exec = Jvm.exec) (hb : c.code = cc) {own C : String} {T : u_T} {N ci index : Nat} {Ts : List Cond} (hts : ∀ w ∈ Ts, w.before args s = true) (hin : ∀ w ∈ u_ws C T N, w ∈ Ts) (ty : Nat → FieldType) (hty : ∀ k, k < N → parseFieldDescriptor (T k).2.2.1 = some (ty k)) (hown : s.vm.findClass own = some m.cls) (hcl : (Cond.classLink own index C).before args s = true) (hinst : (Cond.instantiable C N).before args s = true) (hini : (Cond.initialized C).before args s = true)
    (hK : va_K D cl tys s) (hP : va_P D cl (va_pl L f) H) (hD : va_D A (va_pl L f)) (hS : va_S A H0 H locs) (hA : ∀ q, H0.size ≤ q → A q) (hc : cl[ci]? = some (C, T, N)) {fs : List Value} (hfs : ∀ j, j < N → defaultValue (ty j) = vp_V fs j) (hcells : cells + 1 ≤ R.cells) (hslots : slots + N ≤ R.slots) (hdg : decode cc pc = .ok (.new index, 3))
    (kk : ∀ (q : Nat) (H1 : Heap), q ∉ L → va_P D cl (va_pl (L ++ [q]) (va_up f q (.inr (ci, fs)))) H1 → va_D A (va_pl (L ++ [q]) (va_up f q (.inr (ci, fs)))) → va_S A H0 H1 locs → W p l e R s m args below meth c H1 locs (cells + 1) (slots + N) Q (F0 m (pc + 3) ls (.ref q :: rest))) : W p l e R s m args below meth c H locs cells slots Q (F0 m pc ls rest) := by
  refine va_new hx hb hts hin ty hty hown hcl hinst hini hK hP hD hS hA hc hfs hcells hslots hdg (fun q H1 h1 h2 h3 => ?_)
  have hq := pg_new1 h2
  rw [va_pl_push hq] at h1 h2
  exact kk q H1 hq h1 h2 h3
theorem ty_one {ty : FieldType} {c1 cA : ClassId} {t0 : Nat} (h : va_K D cl (tys ++ [(cA, ty)]) s) (h0 : tys[t0]? = some (c1, ty)) : cA = c1 := by
  have hlt : t0 < tys.length := (List.getElem?_eq_some_iff.mp h0).1
  have a1 := (h.2 t0 (c1, ty) (by rw [List.getElem?_append_left hlt]; exact h0)).2
  have a2 := (h.2 tys.length (cA, ty) (by rw [List.getElem?_append_right (Nat.le_refl _)]; simp)).2
  cases ty with
  | object C =>
    obtain ⟨_, _, _, _, _, b1⟩ := a1
    obtain ⟨_, _, _, _, _, b2⟩ := a2
    exact Option.some.inj (b2.symm.trans b1)
  | _ => exact Option.some.inj (a2.symm.trans a1)
theorem pg_newa (hx : p.tables.exec = Jvm.exec) (hb : c.code = cc) {atype : ArrayType} (harr : (Cond.arrayClass (newarray.typeOf atype)).before args s = true) {ty : FieldType} (hty : newarray.typeOf atype = ty) (hK : va_K D cl tys s) (hP : va_P D cl (va_pl L f) H) (hD : va_D A (va_pl L f)) (hS : va_S A H0 H locs) (hA : ∀ q, H0.size ≤ q → A q)
    {n : Int32} {N' : Nat} {a0 : vp_A} (ha : ∀ cA : ClassId, vp_cell cA a0 = arrV cA N' (fun _ => defaultValue ty)) (hn : ¬ n < 0) (hN : n.toNatClampNeg = N') (hbytes : N' * componentBytes ty ≤ 536870912) (hcells : cells + 1 ≤ R.cells) (hslots : slots + N' ≤ R.slots) {c1 : ClassId} (t0 : Nat) (ht : tys[t0]? = some (c1, ty)) (hdg : decode cc pc = .ok (.newarray atype, 2))
    (kk : ∀ (q : Nat) (H1 : Heap), q ∉ L → va_P D cl (va_pl (L ++ [q]) (va_up f q (.inl (c1, a0)))) H1 → va_D A (va_pl (L ++ [q]) (va_up f q (.inl (c1, a0)))) → va_S A H0 H1 locs → W p l e R s m args below meth c H1 locs (cells + 1) (slots + N') Q (F0 m (pc + 2) ls (.ref q :: rest))) : W p l e R s m args below meth c H locs cells slots Q (F0 m pc ls (.int n :: rest)) := by
  refine va_newa hx hb harr hty hK hP hD hS hA ha hn hN hbytes hcells hslots hdg (fun q cA H1 h0 h1 h2 h3 => ?_)
  obtain rfl := ty_one h0 ht
  have hq := pg_new1 h2
  rw [va_pl_push hq] at h1 h2
  exact kk q H1 hq h1 h2 h3
theorem pg_newq (hx : p.tables.exec = Jvm.exec) (hb : c.code = cc) {own C : String} {index : Nat} (hown : s.vm.findClass own = some m.cls) (hclink : (Cond.classLink own index C).before args s = true) (hover : va_AO C s) (hK : va_K D cl tys s) (hP : va_P D cl (va_pl L f) H) (hD : va_D A (va_pl L f)) (hS : va_S A H0 H locs) (hA : ∀ q, H0.size ≤ q → A q)
    {n : Int32} {N' : Nat} (hn : ¬ n < 0) (hN : n.toNatClampNeg = N') (hbytes : N' * 4 ≤ 536870912) (hcells : cells + 1 ≤ R.cells) (hslots : slots + N' ≤ R.slots) {c1 : ClassId} (t0 : Nat) (ht : tys[t0]? = some (c1, .object C)) (hdg : decode cc pc = .ok (.anewarray index, 3))
    (kk : ∀ (q : Nat) (H1 : Heap), q ∉ L → va_P D cl (va_pl (L ++ [q]) (va_up f q (.inl (c1, N', .inr (.inr (.inr (.inr (fun _ => none)))))))) H1 → va_D A (va_pl (L ++ [q]) (va_up f q (.inl (c1, N', .inr (.inr (.inr (.inr (fun _ => none)))))))) → va_S A H0 H1 locs → W p l e R s m args below meth c H1 locs (cells + 1) (slots + N') Q (F0 m (pc + 3) ls (.ref q :: rest))) : W p l e R s m args below meth c H locs cells slots Q (F0 m pc ls (.int n :: rest)) := by
  refine va_newq hx hb hown hclink hover hK hP hD hS hA hn hN hbytes hcells hslots hdg (fun q cA H1 h0 h1 h2 h3 => ?_)
  obtain rfl := ty_one h0 ht
  have hq := pg_new1 h2
  rw [va_pl_push hq] at h1 h2
  exact kk q H1 hq h1 h2 h3
theorem pg_objInit (hx : p.tables.exec = Jvm.exec) (hb : c.code = cc) {own : String} (hown : s.vm.findClass own = some m.cls) {idx : Nat} (hml : c.maxLocals = ls.size)
    (hlink : (Cond.methodLink own idx Lib.objectInit).before args s = true) (hinst : (Cond.instanceMethod Lib.objectInit).before args s = true) (hcode : (Cond.code Lib.objectInit ⟨#[0xb1]⟩ 1 none).before args s = true) {a : Addr} (hfr : 1 ≤ R.frames) (hlo : (rest.map fun v => v.category).sum + 12 ≤ R.locals) (hd : decode cc pc = .ok (.invokespecial idx, 3))
    (kk : W p l e R s m args below meth c H locs cells slots Q (F0 m (pc + 3) ls rest)) : W p l e R s m args below meth c H locs cells slots Q (F0 m pc ls (.ref a :: rest)) :=
  W.objInit hx hb hown hlink hinst hcode rfl hml.symm rfl hd hfr (by simpa [JFrame.monitorRoom] using hlo) kk
/-- an element of an array of references that is there -/
theorem pg_ald (hx : p.tables.exec = Jvm.exec) (hb : c.code = cc) (hK : va_K D cl tys s) (hP : va_P D cl (va_pl L f) H) (t0 : Nat) {cA : ClassId} {C : String} {n : Nat} {g : Nat → Option Nat} (ha : a ∈ L) (he : f a = .inl (cA, n, .inr (.inr (.inr (.inr g))))) (ht : tys[t0]? = some (cA, .object C)) {i : Int32} (hin : vp_in i n) {v : Nat} (hv : g i.toNatClampNeg = some v) (hdg : decode cc pc = .ok (.aaload, 1))
    (kk : W p l e R s m args below meth c H locs cells slots Q (F0 m (pc + 1) ls (.ref v :: rest))) : W p l e R s m args below meth c H locs cells slots Q (F0 m pc ls (.int i :: .ref a :: rest)) :=
  pg_aldq hx hb hK hP t0 ha he ht hin hdg (by rw [hv]; exact kk)
end PG3
theorem ko_c : Cond.code Lib.objectInit ⟨#[0xb1]⟩ 1 none ∈ GW := k22
abbrev TYS (c : Nat → ClassId) : List (ClassId × FieldType) := [(c 0, .object "SmokeZones$Room"), (c 1, .object "SmokeZones$Opening"), (c 2, .object "SmokeZones$Fire"), (c 3, .object "SmokeZones$Fan"), (c 4, .object "SmokeZones$Steel"), (c 5, .object "SmokeZones$Person"), (c 6, .int), (c 7, .long), (c 8, .boolean)]
end
section
abbrev WS (y : MethodName) (b : ByteArray) (n : Nat) (r : Option FieldType) : List Cond := Cond.code y b n r :: GW
theorem gw_c {y : MethodName} {b : ByteArray} {n : Nat} {r : Option FieldType} (h : Cond.code y b n r ∈ GW) : GoodIn GW (WS y b n r) := by
  intro w hw
  rcases List.mem_cons.mp hw with e | hw
  · rw [e]; exact ⟨h, gw_ok h⟩
  · exact ⟨hw, gw_ok hw⟩
theorem gV {own C : String} {ix : Nat} {y : MethodName} {b : ByteArray} {n : Nat} {r : Option FieldType} (h1 : Cond.methodLink own ix y ∈ GW) (h2 : Cond.instanceMethod y ∈ GW) (h3 : Cond.selects C y y ∈ GW) (h4 : Cond.initialized C ∈ GW) (h5 : Cond.code y b n r ∈ GW) : GoodIn GW (wsV own ix C y (WS y b n r)) := by
  intro w hw
  rcases List.mem_append.mp hw with hw | hw
  · rcases List.mem_cons.mp hw with e | hw
    · rw [e]; exact ⟨h1, gw_ok h1⟩
    rcases List.mem_cons.mp hw with e | hw
    · rw [e]; exact ⟨h2, gw_ok h2⟩
    rcases List.mem_cons.mp hw with e | hw
    · rw [e]; exact ⟨h3, gw_ok h3⟩
    rcases List.mem_cons.mp hw with e | hw
    · rw [e]; exact ⟨h4, gw_ok h4⟩
    cases hw
  · exact gw_c h5 w hw
theorem gS {own : String} {ix : Nat} {y : MethodName} {b : ByteArray} {n : Nat} {r : Option FieldType} (h1 : Cond.methodLink own ix y ∈ GW) (h2 : Cond.static y ∈ GW) (h4 : Cond.initialized own ∈ GW) (h5 : Cond.code y b n r ∈ GW) : GoodIn GW (wsS own ix y (WS y b n r)) := by
  intro w hw
  rcases List.mem_append.mp hw with hw | hw
  · rcases List.mem_cons.mp hw with e | hw
    · rw [e]; exact ⟨h1, gw_ok h1⟩
    rcases List.mem_cons.mp hw with e | hw
    · rw [e]; exact ⟨h2, gw_ok h2⟩
    rcases List.mem_cons.mp hw with e | hw
    · rw [e]; exact ⟨h4, gw_ok h4⟩
    cases hw
  · exact gw_c h5 w hw
/-! contracts of readers (nothing changes, the answer is x) and of writers (the pool holds f' behind it); rows for calls of them -/
def RP (D : va_G) (TY : List (ClassId × FieldType)) (L : List Nat) (f : Nat → va_E) (H0 : Heap) (U : State) : Prop := U.heap = H0 ∧ va_P D vwCl (va_pl L f) H0 ∧ va_K D vwCl TY U
abbrev Ql (x : Int64) (H0 : Heap) : Array Value → State → Outcome → State → Prop := va_Ql (fun v (_ : Unit) => v = x) (fun _ t => t.heap = H0) (fun _ => False)
abbrev Qi (x : Int32) (H0 : Heap) : Array Value → State → Outcome → State → Prop := va_Qi (fun v (_ : Unit) => v = x) (fun _ t => t.heap = H0) (fun _ => False)
abbrev No : Addr → Prop := fun _ => False
def WP (D : va_G) (TY : List (ClassId × FieldType)) (L : List Nat) (f : Nat → va_E) (sz : Nat) (U : State) : Prop := U.heap.size = sz ∧ va_P D vwCl (va_pl L f) U.heap ∧ va_K D vwCl TY U ∧ va_D (fun _ => True) (va_pl L f)
def WQ (D : va_G) (TY : List (ClassId × FieldType)) (L : List Nat) (f : Nat → va_E) (A : Nat → Prop) (t : State) : Prop := va_P D vwCl (va_pl L f) t.heap ∧ va_K D vwCl TY t ∧ va_D A (va_pl L f)
abbrev AA (L : List Nat) (f : Nat → va_E) (sz : Nat) : Nat → Prop := va_A (va_pl L f) sz
abbrev Xl (D : va_G) (TY : List (ClassId × FieldType)) (L : List Nat) (f' : Nat → va_E) (A : Nat → Prop) (x : Int64) : Array Value → State → Outcome → State → Prop := va_Ql (fun v (_ : Unit) => v = x) (fun _ t => WQ D TY L f' A t) A
abbrev Xi (D : va_G) (TY : List (ClassId × FieldType)) (L : List Nat) (f' : Nat → va_E) (A : Nat → Prop) (x : Int32) : Array Value → State → Outcome → State → Prop := va_Qi (fun v (_ : Unit) => v = x) (fun _ t => WQ D TY L f' A t) A
abbrev Xv (D : va_G) (TY : List (ClassId × FieldType)) (L : List Nat) (f' : Nat → va_E) (A : Nat → Prop) : Array Value → State → Outcome → State → Prop := va_Qv (fun (_ : Unit) => True) (fun _ t => WQ D TY L f' A t) A
section PC
variable {p : Program} {l : Launch} {e : Env} {R : Room} {s : State} {m : MethodId} {args : Array Value} {below : List Frame} {meth : Method} {c : Code} {H H0 : Heap} {locs : List Loc} {cells slots : Nat} {Q : State → Prop} {A : Nat → Prop} {D : va_G} {TY : List (ClassId × FieldType)} {L : List Nat} {f f' : Nat → va_E} {pc : Nat} {ls : Array Slot} {rest st0 : List Value}
variable {y : MethodName} {bytes cc : ByteArray} {maxL nL n index : Nat} {ret : Option FieldType} {ws : List Cond} {rm : Room} {Ts : List Cond} {own C : String} {b : Addr} {As : List Value}
theorem RP.blind (av : List Value) : FrameBlind (va_Pc av (RP D TY L f H0)) := fun a U g mk q => by
  obtain ⟨q0, q1, q2, q3⟩ := q
  exact ⟨q0, q1, q2, va_K.moved (u := U) (U := U.calling g mk a) (Vm.Alike.refl U.vm) q3⟩
theorem WP.blind {sz : Nat} (av : List Value) : FrameBlind (va_Pc av (WP D TY L f sz)) := fun a U g mk q => by
  obtain ⟨q0, q1, q2, q3, q4⟩ := q
  exact ⟨q0, q1, q2, va_K.moved (u := U) (U := U.calling g mk a) (Vm.Alike.refl U.vm) q3, q4⟩
theorem pc_recv {ci : Nat} {fs : List Value} {T : u_T} {N : Nat} (hK : va_K D vwCl TY s) (hP : va_P D vwCl (va_pl L f) H) (hbL : b ∈ L) (he : f b = .inr (ci, fs)) (hc : vwCl[ci]? = some (C, T, N)) : ∃ cellB : Cell, H[b]? = some cellB ∧ cellB.vm.isStatics = false ∧ s.vm.findClass C = some cellB.cls := by
  obtain ⟨q0, hq⟩ := pg_ix (f := f) hbL
  exact va_recv hK hP (ci := ci) (q0 := q0) hc (by rw [hq, he])
theorem pc_free (hD : va_D A (va_pl L f)) (hS : va_S A H0 H locs) (hA : ∀ q, H0.size ≤ q → A q) : ∀ q, AA L f H.size q → A q := by
  intro q h
  rcases h with ⟨k, z, h⟩ | h
  · exact hD.2 k _ h
  · exact hA q (Nat.le_trans hS.1 h)
/-- a reader, virtual, long -/
theorem kV_rl {x : Int64} {ci : Nat} {fs : List Value} {T : u_T} {N : Nat} (S : CallFix p m c cc nL s args Ts own) (hM : Met l y ws rm (va_Pc (.ref b :: As) (RP D TY L f H)) (Ql x H) 0 0 No) (cw : CallW R s args own C index y bytes maxL ret ws rm 0 0 n) (hK : va_K D vwCl TY s) (hP : va_P D vwCl (va_pl L f) H) (hS : va_S A H0 H locs) (hbL : b ∈ L) (he : f b = .inr (ci, fs)) (hc : vwCl[ci]? = some (C, T, N)) (hn : As.length = n) (hsize : ls.size = nL) (hst : st0 = As.reverse ++ .ref b :: rest) (hW : (rest.map fun v => v.category).sum ≤ 8) (hf : cells ≤ R.cells ∧ slots ≤ R.slots) (hdg : decode cc pc = .ok (.invokevirtual index, 3))
    (kk : ∀ locs1, va_S A H0 H locs1 → W p l e R s m args below meth c H locs1 cells slots Q (F0 m (pc + 3) ls (.long x :: rest))) : W p l e R s m args below meth c H locs cells slots Q (F0 m pc ls st0) := by
  refine va_calll (va_runV S hM cw ⟨RP.blind _, pc_recv hK hP hbL he hc, fun U hU hW => ⟨rfl, hU, hP, va_K.moved hW.alike hK⟩⟩ rfl hn hsize hst (lv_room hW) hdg hf) hS (fun q _ h => h.elim) (fun q h => h.elim) (fun r u t H1 locs1 ht hvm hp hB hz hk hS1 => ?_)
  obtain rfl : H1 = H := ht.symm.trans hB
  rw [hp]
  exact kk locs1 hS1
theorem kV_ri {x : Int32} {ci : Nat} {fs : List Value} {T : u_T} {N : Nat} (S : CallFix p m c cc nL s args Ts own) (hM : Met l y ws rm (va_Pc (.ref b :: As) (RP D TY L f H)) (Qi x H) 0 0 No) (cw : CallW R s args own C index y bytes maxL ret ws rm 0 0 n) (hK : va_K D vwCl TY s) (hP : va_P D vwCl (va_pl L f) H) (hS : va_S A H0 H locs) (hbL : b ∈ L) (he : f b = .inr (ci, fs)) (hc : vwCl[ci]? = some (C, T, N)) (hn : As.length = n) (hsize : ls.size = nL) (hst : st0 = As.reverse ++ .ref b :: rest) (hW : (rest.map fun v => v.category).sum ≤ 8) (hf : cells ≤ R.cells ∧ slots ≤ R.slots) (hdg : decode cc pc = .ok (.invokevirtual index, 3))
    (kk : ∀ locs1, va_S A H0 H locs1 → W p l e R s m args below meth c H locs1 cells slots Q (F0 m (pc + 3) ls (.int x :: rest))) : W p l e R s m args below meth c H locs cells slots Q (F0 m pc ls st0) := by
  refine va_calli (va_runV S hM cw ⟨RP.blind _, pc_recv hK hP hbL he hc, fun U hU hW => ⟨rfl, hU, hP, va_K.moved hW.alike hK⟩⟩ rfl hn hsize hst (lv_room hW) hdg hf) hS (fun q _ h => h.elim) (fun q h => h.elim) (fun r u t H1 locs1 ht hvm hp hB hz hk hS1 => ?_)
  obtain rfl : H1 = H := ht.symm.trans hB
  rw [hp]
  exact kk locs1 hS1
/-- a writer, virtual -/
theorem kV_wl {x : Int64} {ci : Nat} {fs : List Value} {T : u_T} {N : Nat} (S : CallFix p m c cc nL s args Ts own) (hM : Met l y ws rm (va_Pc (.ref b :: As) (WP D TY L f H.size)) (Xl D TY L f' (AA L f H.size) x) 0 0 (AA L f H.size)) (cw : CallW R s args own C index y bytes maxL ret ws rm 0 0 n) (hK : va_K D vwCl TY s) (hP : va_P D vwCl (va_pl L f) H) (hD : va_D A (va_pl L f)) (hS : va_S A H0 H locs) (hA : ∀ q, H0.size ≤ q → A q) (hbL : b ∈ L) (he : f b = .inr (ci, fs)) (hc : vwCl[ci]? = some (C, T, N)) (hn : As.length = n) (hsize : ls.size = nL) (hst : st0 = As.reverse ++ .ref b :: rest) (hW : (rest.map fun v => v.category).sum ≤ 8) (hf : cells ≤ R.cells ∧ slots ≤ R.slots) (hdg : decode cc pc = .ok (.invokevirtual index, 3))
    (kk : ∀ H1 locs1, va_P D vwCl (va_pl L f') H1 → va_D A (va_pl L f') → va_S A H0 H1 locs1 → W p l e R s m args below meth c H1 locs1 cells slots Q (F0 m (pc + 3) ls (.long x :: rest))) : W p l e R s m args below meth c H locs cells slots Q (F0 m pc ls st0) := by
  have hFc := pc_free hD hS hA
  refine va_calll (va_runV S hM cw ⟨WP.blind _, pc_recv hK hP hbL he hc, fun U hU hW => ⟨rfl, by rw [hU], by rw [hU]; exact hP, va_K.moved hW.alike hK, hD.weaken (fun _ _ _ _ => trivial)⟩⟩ rfl hn hsize hst (lv_room hW) hdg hf) hS (fun q _ h => hFc q h) hFc (fun r u t H1 locs1 ht hvm hp hB hz hk hS1 => ?_)
  obtain ⟨h1, h2, h3⟩ := hB
  rw [hp]
  exact kk H1 locs1 (by rw [← ht]; exact h1) (h3.weaken (fun _ q _ h => hFc q.1 h)) hS1
theorem kV_wi {x : Int32} {ci : Nat} {fs : List Value} {T : u_T} {N : Nat} (S : CallFix p m c cc nL s args Ts own) (hM : Met l y ws rm (va_Pc (.ref b :: As) (WP D TY L f H.size)) (Xi D TY L f' (AA L f H.size) x) 0 0 (AA L f H.size)) (cw : CallW R s args own C index y bytes maxL ret ws rm 0 0 n) (hK : va_K D vwCl TY s) (hP : va_P D vwCl (va_pl L f) H) (hD : va_D A (va_pl L f)) (hS : va_S A H0 H locs) (hA : ∀ q, H0.size ≤ q → A q) (hbL : b ∈ L) (he : f b = .inr (ci, fs)) (hc : vwCl[ci]? = some (C, T, N)) (hn : As.length = n) (hsize : ls.size = nL) (hst : st0 = As.reverse ++ .ref b :: rest) (hW : (rest.map fun v => v.category).sum ≤ 8) (hf : cells ≤ R.cells ∧ slots ≤ R.slots) (hdg : decode cc pc = .ok (.invokevirtual index, 3))
    (kk : ∀ H1 locs1, va_P D vwCl (va_pl L f') H1 → va_D A (va_pl L f') → va_S A H0 H1 locs1 → W p l e R s m args below meth c H1 locs1 cells slots Q (F0 m (pc + 3) ls (.int x :: rest))) : W p l e R s m args below meth c H locs cells slots Q (F0 m pc ls st0) := by
  have hFc := pc_free hD hS hA
  refine va_calli (va_runV S hM cw ⟨WP.blind _, pc_recv hK hP hbL he hc, fun U hU hW => ⟨rfl, by rw [hU], by rw [hU]; exact hP, va_K.moved hW.alike hK, hD.weaken (fun _ _ _ _ => trivial)⟩⟩ rfl hn hsize hst (lv_room hW) hdg hf) hS (fun q _ h => hFc q h) hFc (fun r u t H1 locs1 ht hvm hp hB hz hk hS1 => ?_)
  obtain ⟨h1, h2, h3⟩ := hB
  rw [hp]
  exact kk H1 locs1 (by rw [← ht]; exact h1) (h3.weaken (fun _ q _ h => hFc q.1 h)) hS1
theorem kV_wv {ci : Nat} {fs : List Value} {T : u_T} {N : Nat} (S : CallFix p m c cc nL s args Ts own) (hM : Met l y ws rm (va_Pc (.ref b :: As) (WP D TY L f H.size)) (Xv D TY L f' (AA L f H.size)) 0 0 (AA L f H.size)) (cw : CallW R s args own C index y bytes maxL ret ws rm 0 0 n) (hK : va_K D vwCl TY s) (hP : va_P D vwCl (va_pl L f) H) (hD : va_D A (va_pl L f)) (hS : va_S A H0 H locs) (hA : ∀ q, H0.size ≤ q → A q) (hbL : b ∈ L) (he : f b = .inr (ci, fs)) (hc : vwCl[ci]? = some (C, T, N)) (hn : As.length = n) (hsize : ls.size = nL) (hst : st0 = As.reverse ++ .ref b :: rest) (hW : (rest.map fun v => v.category).sum ≤ 8) (hf : cells ≤ R.cells ∧ slots ≤ R.slots) (hdg : decode cc pc = .ok (.invokevirtual index, 3))
    (kk : ∀ H1 locs1, va_P D vwCl (va_pl L f') H1 → va_D A (va_pl L f') → va_S A H0 H1 locs1 → W p l e R s m args below meth c H1 locs1 cells slots Q (F0 m (pc + 3) ls rest)) : W p l e R s m args below meth c H locs cells slots Q (F0 m pc ls st0) := by
  have hFc := pc_free hD hS hA
  refine va_callv (va_runV S hM cw ⟨WP.blind _, pc_recv hK hP hbL he hc, fun U hU hW => ⟨rfl, by rw [hU], by rw [hU]; exact hP, va_K.moved hW.alike hK, hD.weaken (fun _ _ _ _ => trivial)⟩⟩ rfl hn hsize hst (lv_room hW) hdg hf) hS (fun q _ h => hFc q h) hFc (fun u t H1 locs1 ht hvm hp hB hz hk hS1 => ?_)
  obtain ⟨h1, h2, h3⟩ := hB
  exact kk H1 locs1 (by rw [← ht]; exact h1) (h3.weaken (fun _ q _ h => hFc q.1 h)) hS1
end PC
section PC2
variable {p : Program} {l : Launch} {e : Env} {R : Room} {s : State} {m : MethodId} {args : Array Value} {below : List Frame} {meth : Method} {c : Code} {H H0 : Heap} {locs : List Loc} {cells slots : Nat} {Q : State → Prop} {A : Nat → Prop} {D : va_G} {TY : List (ClassId × FieldType)} {L : List Nat} {f f' : Nat → va_E} {pc : Nat} {ls : Array Slot} {rest st0 : List Value}
variable {y : MethodName} {bytes cc : ByteArray} {maxL nL n index : Nat} {ret : Option FieldType} {ws : List Cond} {rm : Room} {Ts : List Cond} {own C : String} {b : Addr} {As : List Value}
/-- a constructor that makes no cell -/
theorem kI_wv (S : CallFix p m c cc nL s args Ts own) (hM : Met l y ws rm (va_Pc (.ref b :: As) (WP D TY L f H.size)) (Xv D TY L f' (AA L f H.size)) 0 0 (AA L f H.size)) (cw : CallB R s args own index y bytes maxL none ws rm 0 0 n ∧ y.name = "<init>" ∧ (Cond.instanceMethod y).before args s = true) (hK : va_K D vwCl TY s) (hP : va_P D vwCl (va_pl L f) H) (hD : va_D A (va_pl L f)) (hS : va_S A H0 H locs) (hA : ∀ q, H0.size ≤ q → A q) (hn : As.length = n) (hsize : ls.size = nL) (hst : st0 = As.reverse ++ .ref b :: rest) (hW : (rest.map fun v => v.category).sum ≤ 8) (hf : cells ≤ R.cells ∧ slots ≤ R.slots) (hdg : decode cc pc = .ok (.invokespecial index, 3))
    (kk : ∀ H1 locs1, va_P D vwCl (va_pl L f') H1 → va_D A (va_pl L f') → va_S A H0 H1 locs1 → W p l e R s m args below meth c H1 locs1 cells slots Q (F0 m (pc + 3) ls rest)) : W p l e R s m args below meth c H locs cells slots Q (F0 m pc ls st0) := by
  have hFc := pc_free hD hS hA
  refine va_callv (va_runI S hM cw ⟨WP.blind _, fun U hU hW => ⟨rfl, by rw [hU], by rw [hU]; exact hP, va_K.moved hW.alike hK, hD.weaken (fun _ _ _ _ => trivial)⟩⟩ rfl hn hsize hst (lv_room hW) hdg hf) hS (fun q _ h => hFc q h) hFc (fun u t H1 locs1 ht hvm hp hB hz hk hS1 => ?_)
  obtain ⟨h1, h2, h3⟩ := hB
  exact kk H1 locs1 (by rw [← ht]; exact h1) (h3.weaken (fun _ q _ h => hFc q.1 h)) hS1
/-- readers, static -/
theorem kS_rl {x : Int64} (S : CallFix p m c cc nL s args Ts own) (hM : Met l y ws rm (va_Pc As (RP D TY L f H)) (Ql x H) 0 0 No) (cw : CallB R s args own index y bytes maxL ret ws rm 0 0 n ∧ (Cond.static y).before args s = true) (hK : va_K D vwCl TY s) (hP : va_P D vwCl (va_pl L f) H) (hS : va_S A H0 H locs) (hn : As.length = n) (hsize : ls.size = nL) (hst : st0 = As.reverse ++ rest) (hW : (rest.map fun v => v.category).sum ≤ 8) (hf : cells ≤ R.cells ∧ slots ≤ R.slots) (hdg : decode cc pc = .ok (.invokestatic index, 3))
    (kk : ∀ locs1, va_S A H0 H locs1 → W p l e R s m args below meth c H locs1 cells slots Q (F0 m (pc + 3) ls (.long x :: rest))) : W p l e R s m args below meth c H locs cells slots Q (F0 m pc ls st0) := by
  refine va_calll (va_runS S hM cw ⟨RP.blind _, fun U hU hW => ⟨rfl, hU, hP, va_K.moved hW.alike hK⟩⟩ rfl hn hsize hst (lv_room hW) hdg hf) hS (fun q _ h => h.elim) (fun q h => h.elim) (fun r u t H1 locs1 ht hvm hp hB hz hk hS1 => ?_)
  obtain rfl : H1 = H := ht.symm.trans hB
  rw [hp]
  exact kk locs1 hS1
theorem kS_ri {x : Int32} (S : CallFix p m c cc nL s args Ts own) (hM : Met l y ws rm (va_Pc As (RP D TY L f H)) (Qi x H) 0 0 No) (cw : CallB R s args own index y bytes maxL ret ws rm 0 0 n ∧ (Cond.static y).before args s = true) (hK : va_K D vwCl TY s) (hP : va_P D vwCl (va_pl L f) H) (hS : va_S A H0 H locs) (hn : As.length = n) (hsize : ls.size = nL) (hst : st0 = As.reverse ++ rest) (hW : (rest.map fun v => v.category).sum ≤ 8) (hf : cells ≤ R.cells ∧ slots ≤ R.slots) (hdg : decode cc pc = .ok (.invokestatic index, 3))
    (kk : ∀ locs1, va_S A H0 H locs1 → W p l e R s m args below meth c H locs1 cells slots Q (F0 m (pc + 3) ls (.int x :: rest))) : W p l e R s m args below meth c H locs cells slots Q (F0 m pc ls st0) := by
  refine va_calli (va_runS S hM cw ⟨RP.blind _, fun U hU hW => ⟨rfl, hU, hP, va_K.moved hW.alike hK⟩⟩ rfl hn hsize hst (lv_room hW) hdg hf) hS (fun q _ h => h.elim) (fun q h => h.elim) (fun r u t H1 locs1 ht hvm hp hB hz hk hS1 => ?_)
  obtain rfl : H1 = H := ht.symm.trans hB
  rw [hp]
  exact kk locs1 hS1
end PC2
end
section
/-! SmokeZones$Room: its cell, what its methods answer -/
abbrev roomE (ar he : Int32) (ho sm ht : Int64) (sl sa fl : Int32) : va_E := .inr (0, [.int ar, .int he, .long ho, .long sm, .long ht, .int sl, .int sa, .int fl])
def m_max (x y : Int64) : Int64 := if y < x then x else y
def m_min (x y : Int64) : Int64 := if y < x then y else x
def m_abs (x : Int64) : Int64 := if 0 < x then x else -x
def m_depth (ar : Int32) (sm : Int64) : Int64 := if 1 ≤ ar then sm / Int32.toInt64 ar else 0
def m_warmth (sm ht : Int64) : Int64 := if 1 ≤ sm then ht / sm else 0
def m_clear (ar he : Int32) (sm : Int64) : Int64 := Int32.toInt64 he - m_depth ar sm
def m_low (ar he : Int32) (sm : Int64) : Int32 := if 18 ≤ m_clear ar he sm then 0 else 1
def m_cov (ar he : Int32) (sm : Int64) (si to : Int32) : Int64 := m_max 0 (Int32.toInt64 to - m_max (Int32.toInt64 si) (m_clear ar he sm))
def m_hw (sm ht li : Int64) : Int64 := if 1 ≤ sm then (ht * li) / sm else 0
theorem nz32 {x : Int32} (h : 1 ≤ x) : ¬ Int32.toInt64 x = 0 := by
  intro q
  have h1 := congrArg Int64.toInt q
  rw [Int32.toInt_toInt64] at h1
  have h2 := Int32.le_iff_toInt_le.mp h
  have h3 : (1 : Int32).toInt = 1 := by decide
  have h4 : (0 : Int64).toInt = 0 := by decide
  omega
theorem nz64 {x : Int64} (h : 1 ≤ x) : ¬ x = 0 := by
  intro q
  subst q
  exact absurd h (by decide)
theorem up_same {α : Type} {f : Nat → α} {k : Nat} {v : α} (h : f k = v) : va_up f k v = f := by
  funext j
  by_cases hj : j = k
  · subst hj; rw [va_up_self]; exact h.symm
  · exact va_up_ne _ _ hj

set_option maxHeartbeats 4000000 in
set_option maxRecDepth 100000 in
theorem c_Ro_depth {l : Launch} {D : va_G} {TY : List (ClassId × FieldType)} {L : List Nat} {f : Nat → va_E} {H : Heap} {r : Nat} {ar : Int32} {he : Int32} {ho : Int64} {sm : Int64} {ht : Int64} {sl : Int32} {sa : Int32} {fl : Int32} (h_r : r ∈ L) (e_r : f r = roomE ar he ho sm ht sl sa fl) : Met l y_Ro_depth (WS y_Ro_depth b_Ro_depth 1 (some .long)) { frames := 0, cells := 0, slots := 0, locals := 0 } (va_Pc [.ref r] (RP D TY L f H)) (Ql (m_depth ar sm) H) 0 0 No := by
  refine Met.ofW (cc := b_Ro_depth) (maxL := 1) (ret := (some .long)) (by decide) rfl ?_
  intro p e s m args below meth c s₁ B hml hv
  obtain ⟨rfl, hH, hP, hK⟩ := hv
  subst hH
  have hx := B.exec
  have hb := B.bytes
  have hret := B.returns
  have hts := atoms_spec (ws := WS y_Ro_depth b_Ro_depth 1 (some .long)) B.pre
  have hG : ∀ w ∈ GW, w.before _ s = true := fun w h => hts w (List.mem_cons_of_mem _ h)
  have hown : s.vm.findClass "SmokeZones$Room" = some m.cls := findClass_of_methodNamed B.named
  have hlocks := B.notSynchronized
  have hS : va_S No s.heap s.heap [] := va_S.rf
  have hl := lv_entry ([.ref r]) (n := 1) (Nat.le_of_ble_eq_true rfl)
  rw [lg_entry_eq]
  generalize (lg_sl ([.ref r]) ++ List.replicate (1 - (lg_sl ([.ref r])).length) Slot.unset).toArray = ls at hl ⊢
  have hl : lv_has ls 1 [(0, .ref r)] := hl
  refine lv_aload_n hx hb d_Ro_depth_0 rfl (lv_at hl 0 rfl) ?_
  refine pg_get (C := "SmokeZones$Room") (T := T_Ro) (N := 8) hx hb hG in_Ro hown hK hP h_r e_r rfl 0 (by decide) (hG _ k196) (fun _ h9 => h9) rfl d_Ro_depth_1 ?_
  refine lv_iconst (v := 1) hx hb d_Ro_depth_4 (by decide) ?_
  refine lv_icmp_ge (tgt := 12) hx hb d_Ro_depth_5 (by decide) (fun c_1 => ?_) (fun c_1 => ?_)
  · refine lv_aload_n hx hb d_Ro_depth_12 rfl (lv_at hl 0 rfl) ?_
    refine pg_get (C := "SmokeZones$Room") (T := T_Ro) (N := 8) hx hb hG in_Ro hown hK hP h_r e_r rfl 3 (by decide) (hG _ k200) (fun _ h9 => h9) rfl d_Ro_depth_13 ?_
    refine lv_aload_n hx hb d_Ro_depth_16 rfl (lv_at hl 0 rfl) ?_
    refine pg_get (C := "SmokeZones$Room") (T := T_Ro) (N := 8) hx hb hG in_Ro hown hK hP h_r e_r rfl 0 (by decide) (hG _ k196) (fun _ h9 => h9) rfl d_Ro_depth_17 ?_
    refine lv_i2l hx hb d_Ro_depth_20 rfl ?_
    refine lv_ldiv hx hb d_Ro_depth_21 (nz32 c_1) ?_
    exact W.lret hx hb hret (fun t ht hW => ⟨⟨_, (), rfl, (by simp only [m_depth, if_pos c_1]), ht⟩, hS.F ht⟩) hS.2.2 d_Ro_depth_22
  · refine lv_lconst (v := 0) hx hb d_Ro_depth_8 (by decide) ?_
    refine lv_goto (tgt := 22) hx hb d_Ro_depth_9 (by decide) ?_
    exact W.lret hx hb hret (fun t ht hW => ⟨⟨_, (), rfl, (by simp only [m_depth, if_neg c_1]), ht⟩, hS.F ht⟩) hS.2.2 d_Ro_depth_22

set_option maxHeartbeats 4000000 in
set_option maxRecDepth 100000 in
theorem c_Ro_warmth {l : Launch} {D : va_G} {TY : List (ClassId × FieldType)} {L : List Nat} {f : Nat → va_E} {H : Heap} {r : Nat} {ar : Int32} {he : Int32} {ho : Int64} {sm : Int64} {ht : Int64} {sl : Int32} {sa : Int32} {fl : Int32} (h_r : r ∈ L) (e_r : f r = roomE ar he ho sm ht sl sa fl) : Met l y_Ro_warmth (WS y_Ro_warmth b_Ro_warmth 1 (some .long)) { frames := 0, cells := 0, slots := 0, locals := 0 } (va_Pc [.ref r] (RP D TY L f H)) (Ql (m_warmth sm ht) H) 0 0 No := by
  refine Met.ofW (cc := b_Ro_warmth) (maxL := 1) (ret := (some .long)) (by decide) rfl ?_
  intro p e s m args below meth c s₁ B hml hv
  obtain ⟨rfl, hH, hP, hK⟩ := hv
  subst hH
  have hx := B.exec
  have hb := B.bytes
  have hret := B.returns
  have hts := atoms_spec (ws := WS y_Ro_warmth b_Ro_warmth 1 (some .long)) B.pre
  have hG : ∀ w ∈ GW, w.before _ s = true := fun w h => hts w (List.mem_cons_of_mem _ h)
  have hown : s.vm.findClass "SmokeZones$Room" = some m.cls := findClass_of_methodNamed B.named
  have hlocks := B.notSynchronized
  have hS : va_S No s.heap s.heap [] := va_S.rf
  have hl := lv_entry ([.ref r]) (n := 1) (Nat.le_of_ble_eq_true rfl)
  rw [lg_entry_eq]
  generalize (lg_sl ([.ref r]) ++ List.replicate (1 - (lg_sl ([.ref r])).length) Slot.unset).toArray = ls at hl ⊢
  have hl : lv_has ls 1 [(0, .ref r)] := hl
  refine lv_aload_n hx hb d_Ro_warmth_0 rfl (lv_at hl 0 rfl) ?_
  refine pg_get (C := "SmokeZones$Room") (T := T_Ro) (N := 8) hx hb hG in_Ro hown hK hP h_r e_r rfl 3 (by decide) (hG _ k200) (fun _ h9 => h9) rfl d_Ro_warmth_1 ?_
  refine lv_lconst (v := 1) hx hb d_Ro_warmth_4 (by decide) ?_
  refine lc_ge (tgt := 13) hx hb d_Ro_warmth_5 d_Ro_warmth_6 (by decide) (fun c_1 => ?_) (fun c_1 => ?_)
  · refine lv_aload_n hx hb d_Ro_warmth_13 rfl (lv_at hl 0 rfl) ?_
    refine pg_get (C := "SmokeZones$Room") (T := T_Ro) (N := 8) hx hb hG in_Ro hown hK hP h_r e_r rfl 4 (by decide) (hG _ k204) (fun _ h9 => h9) rfl d_Ro_warmth_14 ?_
    refine lv_aload_n hx hb d_Ro_warmth_17 rfl (lv_at hl 0 rfl) ?_
    refine pg_get (C := "SmokeZones$Room") (T := T_Ro) (N := 8) hx hb hG in_Ro hown hK hP h_r e_r rfl 3 (by decide) (hG _ k200) (fun _ h9 => h9) rfl d_Ro_warmth_18 ?_
    refine lv_ldiv hx hb d_Ro_warmth_21 (nz64 c_1) ?_
    exact W.lret hx hb hret (fun t ht hW => ⟨⟨_, (), rfl, (by simp only [m_warmth, if_pos c_1]), ht⟩, hS.F ht⟩) hS.2.2 d_Ro_warmth_22
  · refine lv_lconst (v := 0) hx hb d_Ro_warmth_9 (by decide) ?_
    refine lv_goto (tgt := 22) hx hb d_Ro_warmth_10 (by decide) ?_
    exact W.lret hx hb hret (fun t ht hW => ⟨⟨_, (), rfl, (by simp only [m_warmth, if_neg c_1]), ht⟩, hS.F ht⟩) hS.2.2 d_Ro_warmth_22

set_option maxHeartbeats 4000000 in
set_option maxRecDepth 100000 in
theorem c_Ro_clear {l : Launch} {D : va_G} {TY : List (ClassId × FieldType)} {L : List Nat} {f : Nat → va_E} {H : Heap} {r : Nat} {ar : Int32} {he : Int32} {ho : Int64} {sm : Int64} {ht : Int64} {sl : Int32} {sa : Int32} {fl : Int32} (h_r : r ∈ L) (e_r : f r = roomE ar he ho sm ht sl sa fl) : Met l y_Ro_clear (WS y_Ro_clear b_Ro_clear 1 (some .long)) { frames := 1, cells := 0, slots := 0, locals := 20 } (va_Pc [.ref r] (RP D TY L f H)) (Ql (m_clear ar he sm) H) 0 0 No := by
  refine Met.ofW (cc := b_Ro_clear) (maxL := 1) (ret := (some .long)) (by decide) rfl ?_
  intro p e s m args below meth c s₁ B hml hv
  obtain ⟨rfl, hH, hP, hK⟩ := hv
  subst hH
  have hx := B.exec
  have hb := B.bytes
  have hret := B.returns
  have hts := atoms_spec (ws := WS y_Ro_clear b_Ro_clear 1 (some .long)) B.pre
  have hG : ∀ w ∈ GW, w.before _ s = true := fun w h => hts w (List.mem_cons_of_mem _ h)
  have hown : s.vm.findClass "SmokeZones$Room" = some m.cls := findClass_of_methodNamed B.named
  have hlocks := B.notSynchronized
  have hS : va_S No s.heap s.heap [] := va_S.rf
  have hl := lv_entry ([.ref r]) (n := 1) (Nat.le_of_ble_eq_true rfl)
  rw [lg_entry_eq]
  generalize (lg_sl ([.ref r]) ++ List.replicate (1 - (lg_sl ([.ref r])).length) Slot.unset).toArray = ls at hl ⊢
  have hl : lv_has ls 1 [(0, .ref r)] := hl
  refine lv_aload_n hx hb d_Ro_clear_0 rfl (lv_at hl 0 rfl) ?_
  refine pg_get (C := "SmokeZones$Room") (T := T_Ro) (N := 8) hx hb hG in_Ro hown hK hP h_r e_r rfl 1 (by decide) (hG _ k197) (fun _ h9 => h9) rfl d_Ro_clear_1 ?_
  refine lv_i2l hx hb d_Ro_clear_4 rfl ?_
  refine lv_aload_n hx hb d_Ro_clear_5 rfl (lv_at hl 0 rfl) ?_
  refine kV_rl ⟨hx, hb, hml, hown, hG⟩ (c_Ro_depth h_r e_r) (cwV 0 hG (gV k474 k475 k476 k8 k477) rfl rfl rfl hd_Ro_depth ⟨Nat.le_of_ble_eq_true rfl, Nat.le_of_ble_eq_true rfl⟩) hK hP hS h_r e_r rfl rfl hl.1 rfl (Nat.le_of_ble_eq_true rfl) ⟨Nat.le_of_ble_eq_true rfl, Nat.le_of_ble_eq_true rfl⟩ d_Ro_clear_6 (fun locs hS => ?_)
  refine lv_lsub hx hb d_Ro_clear_9 ?_
  exact W.lret hx hb hret (fun t ht hW => ⟨⟨_, (), rfl, rfl, ht⟩, hS.F ht⟩) hS.2.2 d_Ro_clear_10

set_option maxHeartbeats 4000000 in
set_option maxRecDepth 100000 in
theorem c_Ro_isLow {l : Launch} {D : va_G} {TY : List (ClassId × FieldType)} {L : List Nat} {f : Nat → va_E} {H : Heap} {r : Nat} {ar : Int32} {he : Int32} {ho : Int64} {sm : Int64} {ht : Int64} {sl : Int32} {sa : Int32} {fl : Int32} (h_r : r ∈ L) (e_r : f r = roomE ar he ho sm ht sl sa fl) : Met l y_Ro_isLow (WS y_Ro_isLow b_Ro_isLow 1 (some .boolean)) { frames := 2, cells := 0, slots := 0, locals := 40 } (va_Pc [.ref r] (RP D TY L f H)) (Qi (m_low ar he sm) H) 0 0 No := by
  refine Met.ofW (cc := b_Ro_isLow) (maxL := 1) (ret := (some .boolean)) (by decide) rfl ?_
  intro p e s m args below meth c s₁ B hml hv
  obtain ⟨rfl, hH, hP, hK⟩ := hv
  subst hH
  have hx := B.exec
  have hb := B.bytes
  have hret := B.returns
  have hts := atoms_spec (ws := WS y_Ro_isLow b_Ro_isLow 1 (some .boolean)) B.pre
  have hG : ∀ w ∈ GW, w.before _ s = true := fun w h => hts w (List.mem_cons_of_mem _ h)
  have hown : s.vm.findClass "SmokeZones$Room" = some m.cls := findClass_of_methodNamed B.named
  have hlocks := B.notSynchronized
  have hS : va_S No s.heap s.heap [] := va_S.rf
  have hl := lv_entry ([.ref r]) (n := 1) (Nat.le_of_ble_eq_true rfl)
  rw [lg_entry_eq]
  generalize (lg_sl ([.ref r]) ++ List.replicate (1 - (lg_sl ([.ref r])).length) Slot.unset).toArray = ls at hl ⊢
  have hl : lv_has ls 1 [(0, .ref r)] := hl
  refine lv_aload_n hx hb d_Ro_isLow_0 rfl (lv_at hl 0 rfl) ?_
  refine kV_rl ⟨hx, hb, hml, hown, hG⟩ (c_Ro_clear h_r e_r) (cwV 0 hG (gV k470 k471 k472 k8 k473) rfl rfl rfl hd_Ro_clear ⟨Nat.le_of_ble_eq_true rfl, Nat.le_of_ble_eq_true rfl⟩) hK hP hS h_r e_r rfl rfl hl.1 rfl (Nat.le_of_ble_eq_true rfl) ⟨Nat.le_of_ble_eq_true rfl, Nat.le_of_ble_eq_true rfl⟩ d_Ro_isLow_1 (fun locs hS => ?_)
  refine lv_ldc2 hx hb hown (hG _ k561) d_Ro_isLow_4 ?_
  refine lc_ge (tgt := 15) hx hb d_Ro_isLow_7 d_Ro_isLow_8 (by decide) (fun c_1 => ?_) (fun c_1 => ?_)
  · refine lv_iconst (v := 0) hx hb d_Ro_isLow_15 (by decide) ?_
    exact W.zret hx hb hret rfl (fun t ht hW => ⟨⟨_, (), rfl, (by simp only [m_low, if_pos c_1]), ht⟩, hS.F ht⟩) hS.2.2 d_Ro_isLow_16
  · refine lv_iconst (v := 1) hx hb d_Ro_isLow_11 (by decide) ?_
    refine lv_goto (tgt := 16) hx hb d_Ro_isLow_12 (by decide) ?_
    exact W.zret hx hb hret rfl (fun t ht hW => ⟨⟨_, (), rfl, (by simp only [m_low, if_neg c_1]), ht⟩, hS.F ht⟩) hS.2.2 d_Ro_isLow_16

set_option maxHeartbeats 4000000 in
set_option maxRecDepth 100000 in
theorem c_Ro_covered {l : Launch} {D : va_G} {TY : List (ClassId × FieldType)} {L : List Nat} {f : Nat → va_E} {H : Heap} {r : Nat} {ar : Int32} {he : Int32} {ho : Int64} {sm : Int64} {ht : Int64} {sl : Int32} {sa : Int32} {fl : Int32} {si : Int32} {to : Int32} (h_r : r ∈ L) (e_r : f r = roomE ar he ho sm ht sl sa fl) : Met l y_Ro_covered (WS y_Ro_covered b_Ro_covered 3 (some .long)) { frames := 2, cells := 0, slots := 0, locals := 40 } (va_Pc [.ref r, .int si, .int to] (RP D TY L f H)) (Ql (m_cov ar he sm si to) H) 0 0 No := by
  refine Met.ofW (cc := b_Ro_covered) (maxL := 3) (ret := (some .long)) (by decide) rfl ?_
  intro p e s m args below meth c s₁ B hml hv
  obtain ⟨rfl, hH, hP, hK⟩ := hv
  subst hH
  have hx := B.exec
  have hb := B.bytes
  have hret := B.returns
  have hts := atoms_spec (ws := WS y_Ro_covered b_Ro_covered 3 (some .long)) B.pre
  have hG : ∀ w ∈ GW, w.before _ s = true := fun w h => hts w (List.mem_cons_of_mem _ h)
  have hown : s.vm.findClass "SmokeZones$Room" = some m.cls := findClass_of_methodNamed B.named
  have hlocks := B.notSynchronized
  have hS : va_S No s.heap s.heap [] := va_S.rf
  have hl := lv_entry ([.ref r, .int si, .int to]) (n := 3) (Nat.le_of_ble_eq_true rfl)
  rw [lg_entry_eq]
  generalize (lg_sl ([.ref r, .int si, .int to]) ++ List.replicate (3 - (lg_sl ([.ref r, .int si, .int to])).length) Slot.unset).toArray = ls at hl ⊢
  have hl : lv_has ls 3 [(0, .ref r), (1, .int si), (2, .int to)] := hl
  refine lv_lconst (v := 0) hx hb d_Ro_covered_0 (by decide) ?_
  refine lv_iload_n hx hb d_Ro_covered_1 rfl (lv_at hl 2 rfl) ?_
  refine lv_i2l hx hb d_Ro_covered_2 rfl ?_
  refine lv_iload_n hx hb d_Ro_covered_3 rfl (lv_at hl 1 rfl) ?_
  refine lv_i2l hx hb d_Ro_covered_4 rfl ?_
  refine lv_aload_n hx hb d_Ro_covered_5 rfl (lv_at hl 0 rfl) ?_
  refine kV_rl ⟨hx, hb, hml, hown, hG⟩ (c_Ro_clear h_r e_r) (cwV 0 hG (gV k470 k471 k472 k8 k473) rfl rfl rfl hd_Ro_clear ⟨Nat.le_of_ble_eq_true rfl, Nat.le_of_ble_eq_true rfl⟩) hK hP hS h_r e_r rfl rfl hl.1 rfl (Nat.le_of_ble_eq_true rfl) ⟨Nat.le_of_ble_eq_true rfl, Nat.le_of_ble_eq_true rfl⟩ d_Ro_covered_6 (fun locs hS => ?_)
  refine va_mmax_long hx hb (hml.trans hl.1.symm) hown (hG _ k478) (hG _ km_max_s) (hG _ k14) (hG _ km_max_c) (Nat.le_of_ble_eq_true rfl) (Nat.le_of_ble_eq_true rfl) (Nat.le_of_ble_eq_true rfl) (Nat.le_of_ble_eq_true rfl) d_Ro_covered_9 ?_
  refine lv_lsub hx hb d_Ro_covered_12 ?_
  refine va_mmax_long hx hb (hml.trans hl.1.symm) hown (hG _ k478) (hG _ km_max_s) (hG _ k14) (hG _ km_max_c) (Nat.le_of_ble_eq_true rfl) (Nat.le_of_ble_eq_true rfl) (Nat.le_of_ble_eq_true rfl) (Nat.le_of_ble_eq_true rfl) d_Ro_covered_13 ?_
  exact W.lret hx hb hret (fun t ht hW => ⟨⟨_, (), rfl, rfl, ht⟩, hS.F ht⟩) hS.2.2 d_Ro_covered_16

set_option maxHeartbeats 4000000 in
set_option maxRecDepth 100000 in
theorem c_Ro_heatWith {l : Launch} {D : va_G} {TY : List (ClassId × FieldType)} {L : List Nat} {f : Nat → va_E} {H : Heap} {r : Nat} {ar : Int32} {he : Int32} {ho : Int64} {sm : Int64} {ht : Int64} {sl : Int32} {sa : Int32} {fl : Int32} {li : Int64} (h_r : r ∈ L) (e_r : f r = roomE ar he ho sm ht sl sa fl) : Met l y_Ro_heatWith (WS y_Ro_heatWith b_Ro_heatWith 3 (some .long)) { frames := 0, cells := 0, slots := 0, locals := 0 } (va_Pc [.ref r, .long li] (RP D TY L f H)) (Ql (m_hw sm ht li) H) 0 0 No := by
  refine Met.ofW (cc := b_Ro_heatWith) (maxL := 3) (ret := (some .long)) (by decide) rfl ?_
  intro p e s m args below meth c s₁ B hml hv
  obtain ⟨rfl, hH, hP, hK⟩ := hv
  subst hH
  have hx := B.exec
  have hb := B.bytes
  have hret := B.returns
  have hts := atoms_spec (ws := WS y_Ro_heatWith b_Ro_heatWith 3 (some .long)) B.pre
  have hG : ∀ w ∈ GW, w.before _ s = true := fun w h => hts w (List.mem_cons_of_mem _ h)
  have hown : s.vm.findClass "SmokeZones$Room" = some m.cls := findClass_of_methodNamed B.named
  have hlocks := B.notSynchronized
  have hS : va_S No s.heap s.heap [] := va_S.rf
  have hl := lv_entry ([.ref r, .long li]) (n := 3) (Nat.le_of_ble_eq_true rfl)
  rw [lg_entry_eq]
  generalize (lg_sl ([.ref r, .long li]) ++ List.replicate (3 - (lg_sl ([.ref r, .long li])).length) Slot.unset).toArray = ls at hl ⊢
  have hl : lv_has ls 3 [(0, .ref r), (1, .long li)] := hl
  refine lv_aload_n hx hb d_Ro_heatWith_0 rfl (lv_at hl 0 rfl) ?_
  refine pg_get (C := "SmokeZones$Room") (T := T_Ro) (N := 8) hx hb hG in_Ro hown hK hP h_r e_r rfl 3 (by decide) (hG _ k200) (fun _ h9 => h9) rfl d_Ro_heatWith_1 ?_
  refine lv_lconst (v := 1) hx hb d_Ro_heatWith_4 (by decide) ?_
  refine lc_ge (tgt := 13) hx hb d_Ro_heatWith_5 d_Ro_heatWith_6 (by decide) (fun c_1 => ?_) (fun c_1 => ?_)
  · refine lv_aload_n hx hb d_Ro_heatWith_13 rfl (lv_at hl 0 rfl) ?_
    refine pg_get (C := "SmokeZones$Room") (T := T_Ro) (N := 8) hx hb hG in_Ro hown hK hP h_r e_r rfl 4 (by decide) (hG _ k204) (fun _ h9 => h9) rfl d_Ro_heatWith_14 ?_
    refine lv_lload_n hx hb d_Ro_heatWith_17 rfl (lv_at hl 1 rfl) ?_
    refine lv_lmul hx hb d_Ro_heatWith_18 ?_
    refine lv_aload_n hx hb d_Ro_heatWith_19 rfl (lv_at hl 0 rfl) ?_
    refine pg_get (C := "SmokeZones$Room") (T := T_Ro) (N := 8) hx hb hG in_Ro hown hK hP h_r e_r rfl 3 (by decide) (hG _ k200) (fun _ h9 => h9) rfl d_Ro_heatWith_20 ?_
    refine lv_ldiv hx hb d_Ro_heatWith_23 (nz64 c_1) ?_
    exact W.lret hx hb hret (fun t ht hW => ⟨⟨_, (), rfl, (by simp only [m_hw, if_pos c_1]), ht⟩, hS.F ht⟩) hS.2.2 d_Ro_heatWith_24
  · refine lv_lconst (v := 0) hx hb d_Ro_heatWith_9 (by decide) ?_
    refine lv_goto (tgt := 24) hx hb d_Ro_heatWith_10 (by decide) ?_
    exact W.lret hx hb hret (fun t ht hW => ⟨⟨_, (), rfl, (by simp only [m_hw, if_neg c_1]), ht⟩, hS.F ht⟩) hS.2.2 d_Ro_heatWith_24

set_option maxHeartbeats 4000000 in
set_option maxRecDepth 100000 in
theorem c_Ro_add {l : Launch} {D : va_G} {TY : List (ClassId × FieldType)} {L : List Nat} {f : Nat → va_E} {sz : Nat} {r : Nat} {ar : Int32} {he : Int32} {ho : Int64} {sm : Int64} {ht : Int64} {sl : Int32} {sa : Int32} {fl : Int32} {li : Int64} {ih : Int64} (h_r : r ∈ L) (e_r : f r = roomE ar he ho sm ht sl sa fl) : Met l y_Ro_add (WS y_Ro_add b_Ro_add 5 none) { frames := 0, cells := 0, slots := 0, locals := 0 } (va_Pc [.ref r, .long li, .long ih] (WP D TY L f sz)) (Xv D TY L (va_up f r (roomE ar he ho (sm + li) (ht + ih) sl sa fl)) (AA L f sz)) 0 0 (AA L f sz) := by
  refine Met.ofW (cc := b_Ro_add) (maxL := 5) (ret := none) (by decide) rfl ?_
  intro p e s m args below meth c s₁ B hml hv
  obtain ⟨rfl, hsz, hP, hK, hD0⟩ := hv
  subst hsz
  have hx := B.exec
  have hb := B.bytes
  have hret := B.returns
  have hts := atoms_spec (ws := WS y_Ro_add b_Ro_add 5 none) B.pre
  have hG : ∀ w ∈ GW, w.before _ s = true := fun w h => hts w (List.mem_cons_of_mem _ h)
  have hown : s.vm.findClass "SmokeZones$Room" = some m.cls := findClass_of_methodNamed B.named
  have hlocks := B.notSynchronized
  have hD : va_D (AA L f s.heap.size) (va_pl L f) := hD0.self (sz := s.heap.size)
  generalize hAe : AA L f s.heap.size = A at hD ⊢
  have hA : ∀ q : Nat, s.heap.size ≤ q → A q := fun q h => by rw [← hAe]; exact Or.inr h
  have hS : va_S A s.heap s.heap [] := va_S.rf
  have hl := lv_entry ([.ref r, .long li, .long ih]) (n := 5) (Nat.le_of_ble_eq_true rfl)
  rw [lg_entry_eq]
  generalize (lg_sl ([.ref r, .long li, .long ih]) ++ List.replicate (5 - (lg_sl ([.ref r, .long li, .long ih])).length) Slot.unset).toArray = ls at hl ⊢
  have hl : lv_has ls 5 [(0, .ref r), (1, .long li), (3, .long ih)] := hl
  refine lv_aload_n hx hb d_Ro_add_0 rfl (lv_at hl 0 rfl) ?_
  refine lv_dup hx hb d_Ro_add_1 rfl ?_
  refine pg_get (C := "SmokeZones$Room") (T := T_Ro) (N := 8) hx hb hG in_Ro hown hK hP h_r e_r rfl 3 (by decide) (hG _ k200) (fun _ h9 => h9) rfl d_Ro_add_2 ?_
  refine lv_lload_n hx hb d_Ro_add_5 rfl (lv_at hl 1 rfl) ?_
  refine lv_ladd hx hb d_Ro_add_6 ?_
  refine pg_put (C := "SmokeZones$Room") (T := T_Ro) (N := 8) (ty := .long) hx hb hG in_Ro ty_Ro ok_Ro nm_Ro hown hK hP hD hS h_r e_r rfl 3 (by decide) (hG _ k200) (fun _ h9 => h9) rfl (by decide +kernel) rfl rfl (Nat.le_of_ble_eq_true rfl) d_Ro_add_7 (fun H locs hP hD hS => ?_)
  have hP : va_P D vwCl (va_pl L (va_up f r (.inr (0, [.int ar, .int he, .long ho, .long (sm + li), .long ht, .int sl, .int sa, .int fl])))) H := hP
  have hD : va_D A (va_pl L (va_up f r (.inr (0, [.int ar, .int he, .long ho, .long (sm + li), .long ht, .int sl, .int sa, .int fl])))) := hD
  have e_1 : (va_up f r (.inr (0, [.int ar, .int he, .long ho, .long (sm + li), .long ht, .int sl, .int sa, .int fl]))) r = .inr (0, [.int ar, .int he, .long ho, .long (sm + li), .long ht, .int sl, .int sa, .int fl]) := va_up_self _ _ _
  refine lv_aload_n hx hb d_Ro_add_10 rfl (lv_at hl 0 rfl) ?_
  refine lv_dup hx hb d_Ro_add_11 rfl ?_
  refine pg_get (C := "SmokeZones$Room") (T := T_Ro) (N := 8) hx hb hG in_Ro hown hK hP h_r e_1 rfl 4 (by decide) (hG _ k204) (fun _ h9 => h9) rfl d_Ro_add_12 ?_
  refine lv_lload_n hx hb d_Ro_add_15 rfl (lv_at hl 2 rfl) ?_
  refine lv_ladd hx hb d_Ro_add_16 ?_
  refine pg_put (C := "SmokeZones$Room") (T := T_Ro) (N := 8) (ty := .long) hx hb hG in_Ro ty_Ro ok_Ro nm_Ro hown hK hP hD hS h_r e_1 rfl 4 (by decide) (hG _ k204) (fun _ h9 => h9) rfl (by decide +kernel) rfl rfl (Nat.le_of_ble_eq_true rfl) d_Ro_add_17 (fun H locs hP hD hS => ?_)
  rw [bx_uu] at hP hD
  have hP : va_P D vwCl (va_pl L (va_up f r (.inr (0, [.int ar, .int he, .long ho, .long (sm + li), .long (ht + ih), .int sl, .int sa, .int fl])))) H := hP
  have hD : va_D A (va_pl L (va_up f r (.inr (0, [.int ar, .int he, .long ho, .long (sm + li), .long (ht + ih), .int sl, .int sa, .int fl])))) := hD
  have e_2 : (va_up f r (.inr (0, [.int ar, .int he, .long ho, .long (sm + li), .long (ht + ih), .int sl, .int sa, .int fl]))) r = .inr (0, [.int ar, .int he, .long ho, .long (sm + li), .long (ht + ih), .int sl, .int sa, .int fl]) := va_up_self _ _ _
  have hF : (va_up f r (roomE ar he ho (sm + li) (ht + ih) sl sa fl)) = (va_up f r (.inr (0, [.int ar, .int he, .long ho, .long (sm + li), .long (ht + ih), .int sl, .int sa, .int fl]))) := by
    first | done | exact rfl
  rw [← hF] at hP hD
  exact W.vret hx hb hret (fun t ht hW => ⟨⟨(), rfl, trivial, by rw [ht]; exact hP, va_K.moved hW.alike hK, hD⟩, hS.F ht⟩) hS.2.2 d_Ro_add_20

def m_psm (ho sm : Int64) : Int64 := if ho < sm then ho else sm
def m_pht (ho sm ht : Int64) : Int64 := if ho < sm then m_hw sm ht ho else ht
def m_pout (ho sm : Int64) : Int64 := if ho < sm then sm - ho else 0
def m_act (sm ht : Int64) (sl sa : Int32) : Int32 := if sl = (-1) then sa else if m_warmth sm ht < Int32.toInt64 sl then sa else 1
def m_fl (ar he : Int32) (sm : Int64) (fl t : Int32) : Int32 := if fl = (-1) then (if m_low ar he sm = 0 then fl else t) else fl

set_option maxHeartbeats 4000000 in
set_option maxRecDepth 100000 in
theorem c_Ro_pressOut {l : Launch} {D : va_G} {TY : List (ClassId × FieldType)} {L : List Nat} {f : Nat → va_E} {sz : Nat} {r : Nat} {ar : Int32} {he : Int32} {ho : Int64} {sm : Int64} {ht : Int64} {sl : Int32} {sa : Int32} {fl : Int32} (h_r : r ∈ L) (e_r : f r = roomE ar he ho sm ht sl sa fl) : Met l y_Ro_pressOut (WS y_Ro_pressOut b_Ro_pressOut 3 (some .long)) { frames := 1, cells := 0, slots := 0, locals := 22 } (va_Pc [.ref r] (WP D TY L f sz)) (Xl D TY L (va_up f r (roomE ar he ho (m_psm ho sm) (m_pht ho sm ht) sl sa fl)) (AA L f sz) (m_pout ho sm)) 0 0 (AA L f sz) := by
  refine Met.ofW (cc := b_Ro_pressOut) (maxL := 3) (ret := (some .long)) (by decide) rfl ?_
  intro p e s m args below meth c s₁ B hml hv
  obtain ⟨rfl, hsz, hP, hK, hD0⟩ := hv
  subst hsz
  have hx := B.exec
  have hb := B.bytes
  have hret := B.returns
  have hts := atoms_spec (ws := WS y_Ro_pressOut b_Ro_pressOut 3 (some .long)) B.pre
  have hG : ∀ w ∈ GW, w.before _ s = true := fun w h => hts w (List.mem_cons_of_mem _ h)
  have hown : s.vm.findClass "SmokeZones$Room" = some m.cls := findClass_of_methodNamed B.named
  have hlocks := B.notSynchronized
  have hD : va_D (AA L f s.heap.size) (va_pl L f) := hD0.self (sz := s.heap.size)
  generalize hAe : AA L f s.heap.size = A at hD ⊢
  have hA : ∀ q : Nat, s.heap.size ≤ q → A q := fun q h => by rw [← hAe]; exact Or.inr h
  have hS : va_S A s.heap s.heap [] := va_S.rf
  have hl := lv_entry ([.ref r]) (n := 3) (Nat.le_of_ble_eq_true rfl)
  rw [lg_entry_eq]
  generalize (lg_sl ([.ref r]) ++ List.replicate (3 - (lg_sl ([.ref r])).length) Slot.unset).toArray = ls at hl ⊢
  have hl : lv_has ls 3 [(0, .ref r)] := hl
  refine lv_aload_n hx hb d_Ro_pressOut_0 rfl (lv_at hl 0 rfl) ?_
  refine pg_get (C := "SmokeZones$Room") (T := T_Ro) (N := 8) hx hb hG in_Ro hown hK hP h_r e_r rfl 3 (by decide) (hG _ k200) (fun _ h9 => h9) rfl d_Ro_pressOut_1 ?_
  refine lv_aload_n hx hb d_Ro_pressOut_4 rfl (lv_at hl 0 rfl) ?_
  refine pg_get (C := "SmokeZones$Room") (T := T_Ro) (N := 8) hx hb hG in_Ro hown hK hP h_r e_r rfl 2 (by decide) (hG _ k199) (fun _ h9 => h9) rfl d_Ro_pressOut_5 ?_
  refine lc_gt (tgt := 14) hx hb d_Ro_pressOut_8 d_Ro_pressOut_9 (by decide) (fun c_1 => ?_) (fun c_1 => ?_)
  · refine lv_aload_n hx hb d_Ro_pressOut_14 rfl (lv_at hl 0 rfl) ?_
    refine pg_get (C := "SmokeZones$Room") (T := T_Ro) (N := 8) hx hb hG in_Ro hown hK hP h_r e_r rfl 3 (by decide) (hG _ k200) (fun _ h9 => h9) rfl d_Ro_pressOut_15 ?_
    refine lv_aload_n hx hb d_Ro_pressOut_18 rfl (lv_at hl 0 rfl) ?_
    refine pg_get (C := "SmokeZones$Room") (T := T_Ro) (N := 8) hx hb hG in_Ro hown hK hP h_r e_r rfl 2 (by decide) (hG _ k199) (fun _ h9 => h9) rfl d_Ro_pressOut_19 ?_
    refine lv_lsub hx hb d_Ro_pressOut_22 ?_
    refine lv_lstore_n (lv' := [(1, .long (sm - ho)), (0, .ref r)]) hx hb d_Ro_pressOut_23 rfl hl (by decide) rfl (fun ls hl => ?_)
    refine lv_aload_n hx hb d_Ro_pressOut_24 rfl (lv_at hl 1 rfl) ?_
    refine lv_aload_n hx hb d_Ro_pressOut_25 rfl (lv_at hl 1 rfl) ?_
    refine lv_aload_n hx hb d_Ro_pressOut_26 rfl (lv_at hl 1 rfl) ?_
    refine pg_get (C := "SmokeZones$Room") (T := T_Ro) (N := 8) hx hb hG in_Ro hown hK hP h_r e_r rfl 2 (by decide) (hG _ k199) (fun _ h9 => h9) rfl d_Ro_pressOut_27 ?_
    refine kV_rl ⟨hx, hb, hml, hown, hG⟩ (c_Ro_heatWith h_r e_r) (cwV 1 hG (gV k518 k488 k489 k8 k490) rfl rfl rfl hd_Ro_heatWith ⟨Nat.le_of_ble_eq_true rfl, Nat.le_of_ble_eq_true rfl⟩) hK hP hS h_r e_r rfl rfl hl.1 rfl (Nat.le_of_ble_eq_true rfl) ⟨Nat.le_of_ble_eq_true rfl, Nat.le_of_ble_eq_true rfl⟩ d_Ro_pressOut_30 (fun locs hS => ?_)
    refine pg_put (C := "SmokeZones$Room") (T := T_Ro) (N := 8) (ty := .long) hx hb hG in_Ro ty_Ro ok_Ro nm_Ro hown hK hP hD hS h_r e_r rfl 4 (by decide) (hG _ k204) (fun _ h9 => h9) rfl (by decide +kernel) rfl rfl (Nat.le_of_ble_eq_true rfl) d_Ro_pressOut_33 (fun H locs hP hD hS => ?_)
    have hP : va_P D vwCl (va_pl L (va_up f r (.inr (0, [.int ar, .int he, .long ho, .long sm, .long (m_hw sm ht ho), .int sl, .int sa, .int fl])))) H := hP
    have hD : va_D A (va_pl L (va_up f r (.inr (0, [.int ar, .int he, .long ho, .long sm, .long (m_hw sm ht ho), .int sl, .int sa, .int fl])))) := hD
    have e_2 : (va_up f r (.inr (0, [.int ar, .int he, .long ho, .long sm, .long (m_hw sm ht ho), .int sl, .int sa, .int fl]))) r = .inr (0, [.int ar, .int he, .long ho, .long sm, .long (m_hw sm ht ho), .int sl, .int sa, .int fl]) := va_up_self _ _ _
    refine lv_aload_n hx hb d_Ro_pressOut_36 rfl (lv_at hl 1 rfl) ?_
    refine lv_aload_n hx hb d_Ro_pressOut_37 rfl (lv_at hl 1 rfl) ?_
    refine pg_get (C := "SmokeZones$Room") (T := T_Ro) (N := 8) hx hb hG in_Ro hown hK hP h_r e_2 rfl 2 (by decide) (hG _ k199) (fun _ h9 => h9) rfl d_Ro_pressOut_38 ?_
    refine pg_put (C := "SmokeZones$Room") (T := T_Ro) (N := 8) (ty := .long) hx hb hG in_Ro ty_Ro ok_Ro nm_Ro hown hK hP hD hS h_r e_2 rfl 3 (by decide) (hG _ k200) (fun _ h9 => h9) rfl (by decide +kernel) rfl rfl (Nat.le_of_ble_eq_true rfl) d_Ro_pressOut_41 (fun H locs hP hD hS => ?_)
    rw [bx_uu] at hP hD
    have hP : va_P D vwCl (va_pl L (va_up f r (.inr (0, [.int ar, .int he, .long ho, .long ho, .long (m_hw sm ht ho), .int sl, .int sa, .int fl])))) H := hP
    have hD : va_D A (va_pl L (va_up f r (.inr (0, [.int ar, .int he, .long ho, .long ho, .long (m_hw sm ht ho), .int sl, .int sa, .int fl])))) := hD
    have e_3 : (va_up f r (.inr (0, [.int ar, .int he, .long ho, .long ho, .long (m_hw sm ht ho), .int sl, .int sa, .int fl]))) r = .inr (0, [.int ar, .int he, .long ho, .long ho, .long (m_hw sm ht ho), .int sl, .int sa, .int fl]) := va_up_self _ _ _
    refine lv_lload_n hx hb d_Ro_pressOut_44 rfl (lv_at hl 0 rfl) ?_
    have hF : (va_up f r (roomE ar he ho (m_psm ho sm) (m_pht ho sm ht) sl sa fl)) = (va_up f r (.inr (0, [.int ar, .int he, .long ho, .long ho, .long (m_hw sm ht ho), .int sl, .int sa, .int fl]))) := by
      (try simp only [m_psm, m_pht, m_pout, if_pos c_1])
      first | done | exact rfl | exact up_same e_r
    rw [← hF] at hP hD
    exact W.lret hx hb hret (fun t ht hW => ⟨⟨_, (), rfl, (by simp only [m_psm, m_pht, m_pout, if_pos c_1]), by rw [ht]; exact hP, va_K.moved hW.alike hK, hD⟩, hS.F ht⟩) hS.2.2 d_Ro_pressOut_45
  · refine lv_lconst (v := 0) hx hb d_Ro_pressOut_12 (by decide) ?_
    have hF : (va_up f r (roomE ar he ho (m_psm ho sm) (m_pht ho sm ht) sl sa fl)) = (f) := by
      (try simp only [m_psm, m_pht, m_pout, if_neg c_1])
      first | done | exact rfl | exact up_same e_r
    rw [← hF] at hP hD
    exact W.lret hx hb hret (fun t ht hW => ⟨⟨_, (), rfl, (by simp only [m_psm, m_pht, m_pout, if_neg c_1]), by rw [ht]; exact hP, va_K.moved hW.alike hK, hD⟩, hS.F ht⟩) hS.2.2 d_Ro_pressOut_13

set_option maxHeartbeats 4000000 in
set_option maxRecDepth 100000 in
theorem c_Ro_testSprinkler {l : Launch} {D : va_G} {TY : List (ClassId × FieldType)} {L : List Nat} {f : Nat → va_E} {sz : Nat} {r : Nat} {ar : Int32} {he : Int32} {ho : Int64} {sm : Int64} {ht : Int64} {sl : Int32} {sa : Int32} {fl : Int32} (h_r : r ∈ L) (e_r : f r = roomE ar he ho sm ht sl sa fl) : Met l y_Ro_testSprinkler (WS y_Ro_testSprinkler b_Ro_testSprinkler 1 none) { frames := 1, cells := 0, slots := 0, locals := 20 } (va_Pc [.ref r] (WP D TY L f sz)) (Xv D TY L (va_up f r (roomE ar he ho sm ht sl (m_act sm ht sl sa) fl)) (AA L f sz)) 0 0 (AA L f sz) := by
  refine Met.ofW (cc := b_Ro_testSprinkler) (maxL := 1) (ret := none) (by decide) rfl ?_
  intro p e s m args below meth c s₁ B hml hv
  obtain ⟨rfl, hsz, hP, hK, hD0⟩ := hv
  subst hsz
  have hx := B.exec
  have hb := B.bytes
  have hret := B.returns
  have hts := atoms_spec (ws := WS y_Ro_testSprinkler b_Ro_testSprinkler 1 none) B.pre
  have hG : ∀ w ∈ GW, w.before _ s = true := fun w h => hts w (List.mem_cons_of_mem _ h)
  have hown : s.vm.findClass "SmokeZones$Room" = some m.cls := findClass_of_methodNamed B.named
  have hlocks := B.notSynchronized
  have hD : va_D (AA L f s.heap.size) (va_pl L f) := hD0.self (sz := s.heap.size)
  generalize hAe : AA L f s.heap.size = A at hD ⊢
  have hA : ∀ q : Nat, s.heap.size ≤ q → A q := fun q h => by rw [← hAe]; exact Or.inr h
  have hS : va_S A s.heap s.heap [] := va_S.rf
  have hl := lv_entry ([.ref r]) (n := 1) (Nat.le_of_ble_eq_true rfl)
  rw [lg_entry_eq]
  generalize (lg_sl ([.ref r]) ++ List.replicate (1 - (lg_sl ([.ref r])).length) Slot.unset).toArray = ls at hl ⊢
  have hl : lv_has ls 1 [(0, .ref r)] := hl
  refine lv_aload_n hx hb d_Ro_testSprinkler_0 rfl (lv_at hl 0 rfl) ?_
  refine pg_get (C := "SmokeZones$Room") (T := T_Ro) (N := 8) hx hb hG in_Ro hown hK hP h_r e_r rfl 5 (by decide) (hG _ k206) (fun _ h9 => h9) rfl d_Ro_testSprinkler_1 ?_
  refine lv_iconst (v := (-1)) hx hb d_Ro_testSprinkler_4 (by decide) ?_
  refine lv_icmp_eq (tgt := 26) hx hb d_Ro_testSprinkler_5 (by decide) (fun c_1 => ?_) (fun c_1 => ?_)
  · have hF : (va_up f r (roomE ar he ho sm ht sl (m_act sm ht sl sa) fl)) = (f) := by
      (try simp only [m_act, if_pos c_1])
      first | done | exact rfl | exact up_same e_r
    rw [← hF] at hP hD
    exact W.vret hx hb hret (fun t ht hW => ⟨⟨(), rfl, trivial, by rw [ht]; exact hP, va_K.moved hW.alike hK, hD⟩, hS.F ht⟩) hS.2.2 d_Ro_testSprinkler_26
  · refine lv_aload_n hx hb d_Ro_testSprinkler_8 rfl (lv_at hl 0 rfl) ?_
    refine kV_rl ⟨hx, hb, hml, hown, hG⟩ (c_Ro_warmth h_r e_r) (cwV 0 hG (gV k527 k528 k529 k8 k530) rfl rfl rfl hd_Ro_warmth ⟨Nat.le_of_ble_eq_true rfl, Nat.le_of_ble_eq_true rfl⟩) hK hP hS h_r e_r rfl rfl hl.1 rfl (Nat.le_of_ble_eq_true rfl) ⟨Nat.le_of_ble_eq_true rfl, Nat.le_of_ble_eq_true rfl⟩ d_Ro_testSprinkler_9 (fun locs hS => ?_)
    refine lv_aload_n hx hb d_Ro_testSprinkler_12 rfl (lv_at hl 0 rfl) ?_
    refine pg_get (C := "SmokeZones$Room") (T := T_Ro) (N := 8) hx hb hG in_Ro hown hK hP h_r e_r rfl 5 (by decide) (hG _ k206) (fun _ h9 => h9) rfl d_Ro_testSprinkler_13 ?_
    refine lv_i2l hx hb d_Ro_testSprinkler_16 rfl ?_
    refine lc_lt (tgt := 26) hx hb d_Ro_testSprinkler_17 d_Ro_testSprinkler_18 (by decide) (fun c_2 => ?_) (fun c_2 => ?_)
    · have hF : (va_up f r (roomE ar he ho sm ht sl (m_act sm ht sl sa) fl)) = (f) := by
        (try simp only [m_act, if_neg c_1, if_pos c_2])
        first | done | exact rfl | exact up_same e_r
      rw [← hF] at hP hD
      exact W.vret hx hb hret (fun t ht hW => ⟨⟨(), rfl, trivial, by rw [ht]; exact hP, va_K.moved hW.alike hK, hD⟩, hS.F ht⟩) hS.2.2 d_Ro_testSprinkler_26
    · refine lv_aload_n hx hb d_Ro_testSprinkler_21 rfl (lv_at hl 0 rfl) ?_
      refine lv_iconst (v := 1) hx hb d_Ro_testSprinkler_22 (by decide) ?_
      refine pg_put (C := "SmokeZones$Room") (T := T_Ro) (N := 8) (ty := .boolean) hx hb hG in_Ro ty_Ro ok_Ro nm_Ro hown hK hP hD hS h_r e_r rfl 6 (by decide) (hG _ k209) (fun _ h9 => h9) rfl (by decide +kernel) rfl rfl (Nat.le_of_ble_eq_true rfl) d_Ro_testSprinkler_23 (fun H locs hP hD hS => ?_)
      have hP : va_P D vwCl (va_pl L (va_up f r (.inr (0, [.int ar, .int he, .long ho, .long sm, .long ht, .int sl, .int 1, .int fl])))) H := hP
      have hD : va_D A (va_pl L (va_up f r (.inr (0, [.int ar, .int he, .long ho, .long sm, .long ht, .int sl, .int 1, .int fl])))) := hD
      have e_3 : (va_up f r (.inr (0, [.int ar, .int he, .long ho, .long sm, .long ht, .int sl, .int 1, .int fl]))) r = .inr (0, [.int ar, .int he, .long ho, .long sm, .long ht, .int sl, .int 1, .int fl]) := va_up_self _ _ _
      have hF : (va_up f r (roomE ar he ho sm ht sl (m_act sm ht sl sa) fl)) = (va_up f r (.inr (0, [.int ar, .int he, .long ho, .long sm, .long ht, .int sl, .int 1, .int fl]))) := by
        (try simp only [m_act, if_neg c_1, if_neg c_2])
        first | done | exact rfl | exact up_same e_r
      rw [← hF] at hP hD
      exact W.vret hx hb hret (fun t ht hW => ⟨⟨(), rfl, trivial, by rw [ht]; exact hP, va_K.moved hW.alike hK, hD⟩, hS.F ht⟩) hS.2.2 d_Ro_testSprinkler_26

set_option maxHeartbeats 4000000 in
set_option maxRecDepth 100000 in
theorem c_Ro_noteIfLow {l : Launch} {D : va_G} {TY : List (ClassId × FieldType)} {L : List Nat} {f : Nat → va_E} {sz : Nat} {r : Nat} {ar : Int32} {he : Int32} {ho : Int64} {sm : Int64} {ht : Int64} {sl : Int32} {sa : Int32} {fl : Int32} {t0 : Int32} (h_r : r ∈ L) (e_r : f r = roomE ar he ho sm ht sl sa fl) : Met l y_Ro_noteIfLow (WS y_Ro_noteIfLow b_Ro_noteIfLow 2 none) { frames := 3, cells := 0, slots := 0, locals := 60 } (va_Pc [.ref r, .int t0] (WP D TY L f sz)) (Xv D TY L (va_up f r (roomE ar he ho sm ht sl sa (m_fl ar he sm fl t0))) (AA L f sz)) 0 0 (AA L f sz) := by
  refine Met.ofW (cc := b_Ro_noteIfLow) (maxL := 2) (ret := none) (by decide) rfl ?_
  intro p e s m args below meth c s₁ B hml hv
  obtain ⟨rfl, hsz, hP, hK, hD0⟩ := hv
  subst hsz
  have hx := B.exec
  have hb := B.bytes
  have hret := B.returns
  have hts := atoms_spec (ws := WS y_Ro_noteIfLow b_Ro_noteIfLow 2 none) B.pre
  have hG : ∀ w ∈ GW, w.before _ s = true := fun w h => hts w (List.mem_cons_of_mem _ h)
  have hown : s.vm.findClass "SmokeZones$Room" = some m.cls := findClass_of_methodNamed B.named
  have hlocks := B.notSynchronized
  have hD : va_D (AA L f s.heap.size) (va_pl L f) := hD0.self (sz := s.heap.size)
  generalize hAe : AA L f s.heap.size = A at hD ⊢
  have hA : ∀ q : Nat, s.heap.size ≤ q → A q := fun q h => by rw [← hAe]; exact Or.inr h
  have hS : va_S A s.heap s.heap [] := va_S.rf
  have hl := lv_entry ([.ref r, .int t0]) (n := 2) (Nat.le_of_ble_eq_true rfl)
  rw [lg_entry_eq]
  generalize (lg_sl ([.ref r, .int t0]) ++ List.replicate (2 - (lg_sl ([.ref r, .int t0])).length) Slot.unset).toArray = ls at hl ⊢
  have hl : lv_has ls 2 [(0, .ref r), (1, .int t0)] := hl
  refine lv_aload_n hx hb d_Ro_noteIfLow_0 rfl (lv_at hl 0 rfl) ?_
  refine pg_get (C := "SmokeZones$Room") (T := T_Ro) (N := 8) hx hb hG in_Ro hown hK hP h_r e_r rfl 7 (by decide) (hG _ k211) (fun _ h9 => h9) rfl d_Ro_noteIfLow_1 ?_
  refine lv_iconst (v := (-1)) hx hb d_Ro_noteIfLow_4 (by decide) ?_
  refine lv_icmp_ne (tgt := 20) hx hb d_Ro_noteIfLow_5 (by decide) (fun c_1 => ?_) (fun c_1 => ?_)
  · have hF : (va_up f r (roomE ar he ho sm ht sl sa (m_fl ar he sm fl t0))) = (f) := by
      (try simp only [m_fl, if_neg c_1])
      first | done | exact rfl | exact up_same e_r
    rw [← hF] at hP hD
    exact W.vret hx hb hret (fun t ht hW => ⟨⟨(), rfl, trivial, by rw [ht]; exact hP, va_K.moved hW.alike hK, hD⟩, hS.F ht⟩) hS.2.2 d_Ro_noteIfLow_20
  · refine lv_aload_n hx hb d_Ro_noteIfLow_8 rfl (lv_at hl 0 rfl) ?_
    refine kV_ri ⟨hx, hb, hml, hown, hG⟩ (c_Ro_isLow h_r e_r) (cwV 0 hG (gV k571 k558 k559 k8 k560) rfl rfl rfl hd_Ro_isLow ⟨Nat.le_of_ble_eq_true rfl, Nat.le_of_ble_eq_true rfl⟩) hK hP hS h_r e_r rfl rfl hl.1 rfl (Nat.le_of_ble_eq_true rfl) ⟨Nat.le_of_ble_eq_true rfl, Nat.le_of_ble_eq_true rfl⟩ d_Ro_noteIfLow_9 (fun locs hS => ?_)
    refine lv_if_eq (tgt := 20) hx hb d_Ro_noteIfLow_12 (by decide) (fun c_2 => ?_) (fun c_2 => ?_)
    · have hF : (va_up f r (roomE ar he ho sm ht sl sa (m_fl ar he sm fl t0))) = (f) := by
        (try simp only [m_fl, if_pos c_1, if_pos c_2])
        first | done | exact rfl | exact up_same e_r
      rw [← hF] at hP hD
      exact W.vret hx hb hret (fun t ht hW => ⟨⟨(), rfl, trivial, by rw [ht]; exact hP, va_K.moved hW.alike hK, hD⟩, hS.F ht⟩) hS.2.2 d_Ro_noteIfLow_20
    · refine lv_aload_n hx hb d_Ro_noteIfLow_15 rfl (lv_at hl 0 rfl) ?_
      refine lv_iload_n hx hb d_Ro_noteIfLow_16 rfl (lv_at hl 1 rfl) ?_
      refine pg_put (C := "SmokeZones$Room") (T := T_Ro) (N := 8) (ty := .int) hx hb hG in_Ro ty_Ro ok_Ro nm_Ro hown hK hP hD hS h_r e_r rfl 7 (by decide) (hG _ k211) (fun _ h9 => h9) rfl (by decide +kernel) rfl rfl (Nat.le_of_ble_eq_true rfl) d_Ro_noteIfLow_17 (fun H locs hP hD hS => ?_)
      have hP : va_P D vwCl (va_pl L (va_up f r (.inr (0, [.int ar, .int he, .long ho, .long sm, .long ht, .int sl, .int sa, .int t0])))) H := hP
      have hD : va_D A (va_pl L (va_up f r (.inr (0, [.int ar, .int he, .long ho, .long sm, .long ht, .int sl, .int sa, .int t0])))) := hD
      have e_3 : (va_up f r (.inr (0, [.int ar, .int he, .long ho, .long sm, .long ht, .int sl, .int sa, .int t0]))) r = .inr (0, [.int ar, .int he, .long ho, .long sm, .long ht, .int sl, .int sa, .int t0]) := va_up_self _ _ _
      have hF : (va_up f r (roomE ar he ho sm ht sl sa (m_fl ar he sm fl t0))) = (va_up f r (.inr (0, [.int ar, .int he, .long ho, .long sm, .long ht, .int sl, .int sa, .int t0]))) := by
        (try simp only [m_fl, if_pos c_1, if_neg c_2])
        first | done | exact rfl | exact up_same e_r
      rw [← hF] at hP hD
      exact W.vret hx hb hret (fun t ht hW => ⟨⟨(), rfl, trivial, by rw [ht]; exact hP, va_K.moved hW.alike hK, hD⟩, hS.F ht⟩) hS.2.2 d_Ro_noteIfLow_20
end
section
/-! the other classes inside: Fan, Fire, Steel, Person, Opening -/
abbrev openE (nr : Nat) (fv : Value) (wi si to gl br : Int32) (fw hf fa : Int64) : va_E := .inr (1, [.ref nr, fv, .int wi, .int si, .int to, .int gl, .int br, .long fw, .long hf, .long fa])
abbrev fireE (pl : Nat) (fs gr mo hz : Int32) : va_E := .inr (2, [.ref pl, .int fs, .int gr, .int mo, .int hz])
abbrev fanE (pl : Nat) (fs ra : Int32) : va_E := .inr (3, [.ref pl, .int fs, .int ra])
abbrev steelE (pl : Nat) (sc te : Int32) : va_E := .inr (4, [.ref pl, .int sc, .int te])
abbrev personE (pl : Int32) (dz be : Int64) (ws wp : Nat) (td lt wk : Int32) : va_E := .inr (5, [.int pl, .long dz, .long be, .ref ws, .ref wp, .int td, .int lt, .int wk])
theorem ne_ci {f : Nat → va_E} {a b i j : Nat} {fs gs : List Value} (ha : f a = .inr (i, fs)) (hb : f b = .inr (j, gs)) (h : i ≠ j) : a ≠ b := fun q => by
  subst q
  rw [ha] at hb
  injection hb with h1
  injection h1 with h2
  exact h h2
theorem ne_ai {f : Nat → va_E} {a b j : Nat} {x : ClassId × vp_A} {gs : List Value} (ha : f a = .inl x) (hb : f b = .inr (j, gs)) : a ≠ b := fun q => by
  subst q
  rw [ha] at hb
  cases hb
theorem nz32' {x : Int32} (h : ¬ x ≤ 0) : ¬ Int32.toInt64 x = 0 := by
  intro q
  have h1 := congrArg Int64.toInt q
  rw [Int32.toInt_toInt64] at h1
  have h4 : (0 : Int64).toInt = 0 := by decide
  apply h
  rw [Int32.le_iff_toInt_le]
  have h3 : (0 : Int32).toInt = 0 := by decide
  omega
def m_bl (ra : Int32) (sm : Int64) : Int64 := m_min (Int32.toInt64 ra) sm
def m_bout (fs t ra : Int32) (sm : Int64) : Int64 := if fs ≤ t then m_bl ra sm else 0
def m_bsm (fs t ra : Int32) (sm : Int64) : Int64 := if fs ≤ t then sm + -(m_bl ra sm) else sm
def m_bht (fs t ra : Int32) (sm ht : Int64) : Int64 := if fs ≤ t then ht + -(m_hw sm ht (m_bl ra sm)) else ht
def m_f0 (fs t gr mo : Int32) : Int64 := m_min (Int32.toInt64 ((t - fs) + 1) * Int32.toInt64 gr) (Int32.toInt64 mo)
def m_f1 (fs t gr mo sa : Int32) : Int64 := if sa = 0 then m_f0 fs t gr mo else m_f0 fs t gr mo / 2
def m_fout (fs t gr mo sa : Int32) : Int64 := if fs ≤ t then m_f1 fs t gr mo sa else 0
def m_fsm (fs t gr mo sa : Int32) (sm : Int64) : Int64 := if fs ≤ t then sm + m_f1 fs t gr mo sa else sm
def m_fht (fs t gr mo hz sa : Int32) (ht : Int64) : Int64 := if fs ≤ t then ht + m_f1 fs t gr mo sa * Int32.toInt64 hz else ht
def m_te (sm ht : Int64) (sc te : Int32) : Int32 := if sc ≤ 0 then te else te + Int64.toInt32 ((m_warmth sm ht - Int32.toInt64 te) / Int32.toInt64 sc)

set_option maxHeartbeats 4000000 in
set_option maxRecDepth 100000 in
theorem c_Fa_blow {l : Launch} {D : va_G} {TY : List (ClassId × FieldType)} {L : List Nat} {f : Nat → va_E} {sz : Nat} {q : Nat} {fs : Int32} {ra : Int32} {r : Nat} {ar : Int32} {he : Int32} {ho : Int64} {sm : Int64} {ht : Int64} {sl : Int32} {sa : Int32} {fl : Int32} {t0 : Int32} (h_q : q ∈ L) (e_q : f q = fanE r fs ra) (h_r : r ∈ L) (e_r : f r = roomE ar he ho sm ht sl sa fl) : Met l y_Fa_blow (WS y_Fa_blow b_Fa_blow 4 (some .long)) { frames := 1, cells := 0, slots := 0, locals := 24 } (va_Pc [.ref q, .int t0] (WP D TY L f sz)) (Xl D TY L (va_up f r (roomE ar he ho (m_bsm fs t0 ra sm) (m_bht fs t0 ra sm ht) sl sa fl)) (AA L f sz) (m_bout fs t0 ra sm)) 0 0 (AA L f sz) := by
  refine Met.ofW (cc := b_Fa_blow) (maxL := 4) (ret := (some .long)) (by decide) rfl ?_
  intro p e s m args below meth c s₁ B hml hv
  obtain ⟨rfl, hsz, hP, hK, hD0⟩ := hv
  subst hsz
  have hx := B.exec
  have hb := B.bytes
  have hret := B.returns
  have hts := atoms_spec (ws := WS y_Fa_blow b_Fa_blow 4 (some .long)) B.pre
  have hG : ∀ w ∈ GW, w.before _ s = true := fun w h => hts w (List.mem_cons_of_mem _ h)
  have hown : s.vm.findClass "SmokeZones$Fan" = some m.cls := findClass_of_methodNamed B.named
  have hlocks := B.notSynchronized
  have hD : va_D (AA L f s.heap.size) (va_pl L f) := hD0.self (sz := s.heap.size)
  generalize hAe : AA L f s.heap.size = A at hD ⊢
  have hA : ∀ q : Nat, s.heap.size ≤ q → A q := fun q h => by rw [← hAe]; exact Or.inr h
  have hS : va_S A s.heap s.heap [] := va_S.rf
  have hl := lv_entry ([.ref q, .int t0]) (n := 4) (Nat.le_of_ble_eq_true rfl)
  rw [lg_entry_eq]
  generalize (lg_sl ([.ref q, .int t0]) ++ List.replicate (4 - (lg_sl ([.ref q, .int t0])).length) Slot.unset).toArray = ls at hl ⊢
  have hl : lv_has ls 4 [(0, .ref q), (1, .int t0)] := hl
  have ne_q_r : q ≠ r := ne_ci e_q e_r (by decide)
  have ne_r_q : r ≠ q := fun q => ne_q_r q.symm
  refine lv_iload_n hx hb d_Fa_blow_0 rfl (lv_at hl 1 rfl) ?_
  refine lv_aload_n hx hb d_Fa_blow_1 rfl (lv_at hl 0 rfl) ?_
  refine pg_get (C := "SmokeZones$Fan") (T := T_Fa) (N := 3) hx hb hG in_Fa hown hK hP h_q e_q rfl 1 (by decide) (hG _ k343) (fun _ h9 => h9) rfl d_Fa_blow_2 ?_
  refine lv_icmp_ge (tgt := 10) hx hb d_Fa_blow_5 (by decide) (fun c_1 => ?_) (fun c_1 => ?_)
  · refine lv_aload_n hx hb d_Fa_blow_10 rfl (lv_at hl 0 rfl) ?_
    refine pg_get (C := "SmokeZones$Fan") (T := T_Fa) (N := 3) hx hb hG in_Fa hown hK hP h_q e_q rfl 2 (by decide) (hG _ k344) (fun _ h9 => h9) rfl d_Fa_blow_11 ?_
    refine lv_i2l hx hb d_Fa_blow_14 rfl ?_
    refine lv_aload_n hx hb d_Fa_blow_15 rfl (lv_at hl 0 rfl) ?_
    refine pg_get (C := "SmokeZones$Fan") (T := T_Fa) (N := 3) hx hb hG in_Fa hown hK hP h_q e_q rfl 0 (by decide) (hG _ k342) (fun _ h9 => h9) rfl d_Fa_blow_16 ?_
    refine pg_get (C := "SmokeZones$Room") (T := T_Ro) (N := 8) hx hb hG in_Ro hown hK hP h_r e_r rfl 3 (by decide) (hG _ k201) (fun _ h9 => h9) rfl d_Fa_blow_19 ?_
    refine va_mmin_long hx hb (hml.trans hl.1.symm) hown (hG _ k507) (hG _ km_min_s) (hG _ k14) (hG _ km_min_c) (Nat.le_of_ble_eq_true rfl) (Nat.le_of_ble_eq_true rfl) (Nat.le_of_ble_eq_true rfl) (Nat.le_of_ble_eq_true rfl) d_Fa_blow_22 ?_
    refine lv_lstore_n (lv' := [(2, .long (m_min (Int32.toInt64 ra) sm)), (0, .ref q), (1, .int t0)]) hx hb d_Fa_blow_25 rfl hl (by decide) rfl (fun ls hl => ?_)
    refine lv_aload_n hx hb d_Fa_blow_26 rfl (lv_at hl 1 rfl) ?_
    refine pg_get (C := "SmokeZones$Fan") (T := T_Fa) (N := 3) hx hb hG in_Fa hown hK hP h_q e_q rfl 0 (by decide) (hG _ k342) (fun _ h9 => h9) rfl d_Fa_blow_27 ?_
    refine lv_lload_n hx hb d_Fa_blow_30 rfl (lv_at hl 0 rfl) ?_
    refine lv_lneg hx hb d_Fa_blow_31 ?_
    refine lv_aload_n hx hb d_Fa_blow_32 rfl (lv_at hl 1 rfl) ?_
    refine pg_get (C := "SmokeZones$Fan") (T := T_Fa) (N := 3) hx hb hG in_Fa hown hK hP h_q e_q rfl 0 (by decide) (hG _ k342) (fun _ h9 => h9) rfl d_Fa_blow_33 ?_
    refine lv_lload_n hx hb d_Fa_blow_36 rfl (lv_at hl 0 rfl) ?_
    refine kV_rl ⟨hx, hb, hml, hown, hG⟩ (c_Ro_heatWith h_r e_r) (cwV 1 hG (gV k508 k488 k489 k8 k490) rfl rfl rfl hd_Ro_heatWith ⟨Nat.le_of_ble_eq_true rfl, Nat.le_of_ble_eq_true rfl⟩) hK hP hS h_r e_r rfl rfl hl.1 rfl (Nat.le_of_ble_eq_true rfl) ⟨Nat.le_of_ble_eq_true rfl, Nat.le_of_ble_eq_true rfl⟩ d_Fa_blow_37 (fun locs hS => ?_)
    refine lv_lneg hx hb d_Fa_blow_40 ?_
    refine kV_wv (f' := va_up f r (.inr (0, [.int ar, .int he, .long ho, .long (sm + (-(m_min (Int32.toInt64 ra) sm))), .long (ht + (-(m_hw sm ht (m_min (Int32.toInt64 ra) sm)))), .int sl, .int sa, .int fl]))) ⟨hx, hb, hml, hown, hG⟩ (c_Ro_add h_r e_r) (cwV 2 hG (gV k509 k451 k452 k8 k453) rfl rfl rfl hd_Ro_add ⟨Nat.le_of_ble_eq_true rfl, Nat.le_of_ble_eq_true rfl⟩) hK hP hD hS hA h_r e_r rfl rfl hl.1 rfl (Nat.le_of_ble_eq_true rfl) ⟨Nat.le_of_ble_eq_true rfl, Nat.le_of_ble_eq_true rfl⟩ d_Fa_blow_41 (fun H locs hP hD hS => ?_)
    have e_2 : (va_up f r (.inr (0, [.int ar, .int he, .long ho, .long (sm + (-(m_min (Int32.toInt64 ra) sm))), .long (ht + (-(m_hw sm ht (m_min (Int32.toInt64 ra) sm)))), .int sl, .int sa, .int fl]))) r = .inr (0, [.int ar, .int he, .long ho, .long (sm + (-(m_min (Int32.toInt64 ra) sm))), .long (ht + (-(m_hw sm ht (m_min (Int32.toInt64 ra) sm)))), .int sl, .int sa, .int fl]) := va_up_self _ _ _
    have e_3 : (va_up f r (.inr (0, [.int ar, .int he, .long ho, .long (sm + (-(m_min (Int32.toInt64 ra) sm))), .long (ht + (-(m_hw sm ht (m_min (Int32.toInt64 ra) sm)))), .int sl, .int sa, .int fl]))) q = .inr (3, [.ref r, .int fs, .int ra]) := (va_up_ne _ _ ne_q_r).trans e_q
    refine lv_lload_n hx hb d_Fa_blow_44 rfl (lv_at hl 0 rfl) ?_
    have hF : (va_up f r (roomE ar he ho (m_bsm fs t0 ra sm) (m_bht fs t0 ra sm ht) sl sa fl)) = (va_up f r (.inr (0, [.int ar, .int he, .long ho, .long (sm + (-(m_min (Int32.toInt64 ra) sm))), .long (ht + (-(m_hw sm ht (m_min (Int32.toInt64 ra) sm)))), .int sl, .int sa, .int fl]))) := by
      (try simp only [m_bout, m_bsm, m_bht, m_bl, m_min, if_pos c_1])
      first | done | exact rfl | exact up_same e_r
    rw [← hF] at hP hD
    exact W.lret hx hb hret (fun t ht hW => ⟨⟨_, (), rfl, (by simp only [m_bout, m_bsm, m_bht, m_bl, m_min, if_pos c_1]), by rw [ht]; exact hP, va_K.moved hW.alike hK, hD⟩, hS.F ht⟩) hS.2.2 d_Fa_blow_45
  · refine lv_lconst (v := 0) hx hb d_Fa_blow_8 (by decide) ?_
    have hF : (va_up f r (roomE ar he ho (m_bsm fs t0 ra sm) (m_bht fs t0 ra sm ht) sl sa fl)) = (f) := by
      (try simp only [m_bout, m_bsm, m_bht, m_bl, m_min, if_neg c_1])
      first | done | exact rfl | exact up_same e_r
    rw [← hF] at hP hD
    exact W.lret hx hb hret (fun t ht hW => ⟨⟨_, (), rfl, (by simp only [m_bout, m_bsm, m_bht, m_bl, m_min, if_neg c_1]), by rw [ht]; exact hP, va_K.moved hW.alike hK, hD⟩, hS.F ht⟩) hS.2.2 d_Fa_blow_9

set_option maxHeartbeats 4000000 in
set_option maxRecDepth 100000 in
theorem c_Fi_burn {l : Launch} {D : va_G} {TY : List (ClassId × FieldType)} {L : List Nat} {f : Nat → va_E} {sz : Nat} {q : Nat} {fs : Int32} {gr : Int32} {mo : Int32} {hz : Int32} {r : Nat} {ar : Int32} {he : Int32} {ho : Int64} {sm : Int64} {ht : Int64} {sl : Int32} {sa : Int32} {fl : Int32} {t0 : Int32} (h_q : q ∈ L) (e_q : f q = fireE r fs gr mo hz) (h_r : r ∈ L) (e_r : f r = roomE ar he ho sm ht sl sa fl) : Met l y_Fi_burn (WS y_Fi_burn b_Fi_burn 6 (some .long)) { frames := 1, cells := 0, slots := 0, locals := 24 } (va_Pc [.ref q, .int t0] (WP D TY L f sz)) (Xl D TY L (va_up f r (roomE ar he ho (m_fsm fs t0 gr mo sa sm) (m_fht fs t0 gr mo hz sa ht) sl sa fl)) (AA L f sz) (m_fout fs t0 gr mo sa)) 0 0 (AA L f sz) := by
  refine Met.ofW (cc := b_Fi_burn) (maxL := 6) (ret := (some .long)) (by decide) rfl ?_
  intro p e s m args below meth c s₁ B hml hv
  obtain ⟨rfl, hsz, hP, hK, hD0⟩ := hv
  subst hsz
  have hx := B.exec
  have hb := B.bytes
  have hret := B.returns
  have hts := atoms_spec (ws := WS y_Fi_burn b_Fi_burn 6 (some .long)) B.pre
  have hG : ∀ w ∈ GW, w.before _ s = true := fun w h => hts w (List.mem_cons_of_mem _ h)
  have hown : s.vm.findClass "SmokeZones$Fire" = some m.cls := findClass_of_methodNamed B.named
  have hlocks := B.notSynchronized
  have hD : va_D (AA L f s.heap.size) (va_pl L f) := hD0.self (sz := s.heap.size)
  generalize hAe : AA L f s.heap.size = A at hD ⊢
  have hA : ∀ q : Nat, s.heap.size ≤ q → A q := fun q h => by rw [← hAe]; exact Or.inr h
  have hS : va_S A s.heap s.heap [] := va_S.rf
  have hl := lv_entry ([.ref q, .int t0]) (n := 6) (Nat.le_of_ble_eq_true rfl)
  rw [lg_entry_eq]
  generalize (lg_sl ([.ref q, .int t0]) ++ List.replicate (6 - (lg_sl ([.ref q, .int t0])).length) Slot.unset).toArray = ls at hl ⊢
  have hl : lv_has ls 6 [(0, .ref q), (1, .int t0)] := hl
  have ne_q_r : q ≠ r := ne_ci e_q e_r (by decide)
  have ne_r_q : r ≠ q := fun q => ne_q_r q.symm
  refine lv_iload_n hx hb d_Fi_burn_0 rfl (lv_at hl 1 rfl) ?_
  refine lv_aload_n hx hb d_Fi_burn_1 rfl (lv_at hl 0 rfl) ?_
  refine pg_get (C := "SmokeZones$Fire") (T := T_Fi) (N := 5) hx hb hG in_Fi hown hK hP h_q e_q rfl 1 (by decide) (hG _ k308) (fun _ h9 => h9) rfl d_Fi_burn_2 ?_
  refine lv_icmp_ge (tgt := 10) hx hb d_Fi_burn_5 (by decide) (fun c_1 => ?_) (fun c_1 => ?_)
  · refine lv_iload_n hx hb d_Fi_burn_10 rfl (lv_at hl 1 rfl) ?_
    refine lv_aload_n hx hb d_Fi_burn_11 rfl (lv_at hl 0 rfl) ?_
    refine pg_get (C := "SmokeZones$Fire") (T := T_Fi) (N := 5) hx hb hG in_Fi hown hK hP h_q e_q rfl 1 (by decide) (hG _ k308) (fun _ h9 => h9) rfl d_Fi_burn_12 ?_
    refine lv_isub hx hb d_Fi_burn_15 ?_
    refine lv_iconst (v := 1) hx hb d_Fi_burn_16 (by decide) ?_
    refine lv_iadd hx hb d_Fi_burn_17 ?_
    refine lv_i2l hx hb d_Fi_burn_18 rfl ?_
    refine lv_lstore_n (lv' := [(2, .long (Int32.toInt64 ((t0 - fs) + 1))), (0, .ref q), (1, .int t0)]) hx hb d_Fi_burn_19 rfl hl (by decide) rfl (fun ls hl => ?_)
    refine lv_lload_n hx hb d_Fi_burn_20 rfl (lv_at hl 0 rfl) ?_
    refine lv_aload_n hx hb d_Fi_burn_21 rfl (lv_at hl 1 rfl) ?_
    refine pg_get (C := "SmokeZones$Fire") (T := T_Fi) (N := 5) hx hb hG in_Fi hown hK hP h_q e_q rfl 2 (by decide) (hG _ k309) (fun _ h9 => h9) rfl d_Fi_burn_22 ?_
    refine lv_i2l hx hb d_Fi_burn_25 rfl ?_
    refine lv_lmul hx hb d_Fi_burn_26 ?_
    refine lv_aload_n hx hb d_Fi_burn_27 rfl (lv_at hl 1 rfl) ?_
    refine pg_get (C := "SmokeZones$Fire") (T := T_Fi) (N := 5) hx hb hG in_Fi hown hK hP h_q e_q rfl 3 (by decide) (hG _ k310) (fun _ h9 => h9) rfl d_Fi_burn_28 ?_
    refine lv_i2l hx hb d_Fi_burn_31 rfl ?_
    refine va_mmin_long hx hb (hml.trans hl.1.symm) hown (hG _ k446) (hG _ km_min_s) (hG _ k14) (hG _ km_min_c) (Nat.le_of_ble_eq_true rfl) (Nat.le_of_ble_eq_true rfl) (Nat.le_of_ble_eq_true rfl) (Nat.le_of_ble_eq_true rfl) d_Fi_burn_32 ?_
    refine lv_lstore (lv' := [(4, .long (m_min ((Int32.toInt64 ((t0 - fs) + 1)) * (Int32.toInt64 gr)) (Int32.toInt64 mo))), (2, .long (Int32.toInt64 ((t0 - fs) + 1))), (0, .ref q), (1, .int t0)]) hx hb d_Fi_burn_35 hl (by decide) rfl (fun ls hl => ?_)
    refine lv_aload_n hx hb d_Fi_burn_37 rfl (lv_at hl 2 rfl) ?_
    refine pg_get (C := "SmokeZones$Fire") (T := T_Fi) (N := 5) hx hb hG in_Fi hown hK hP h_q e_q rfl 0 (by decide) (hG _ k307) (fun _ h9 => h9) rfl d_Fi_burn_38 ?_
    refine pg_get (C := "SmokeZones$Room") (T := T_Ro) (N := 8) hx hb hG in_Ro hown hK hP h_r e_r rfl 6 (by decide) (hG _ k208) (fun _ h9 => h9) rfl d_Fi_burn_41 ?_
    refine lv_if_eq (tgt := 55) hx hb d_Fi_burn_44 (by decide) (fun c_2 => ?_) (fun c_2 => ?_)
    · refine lv_aload_n hx hb d_Fi_burn_55 rfl (lv_at hl 2 rfl) ?_
      refine pg_get (C := "SmokeZones$Fire") (T := T_Fi) (N := 5) hx hb hG in_Fi hown hK hP h_q e_q rfl 0 (by decide) (hG _ k307) (fun _ h9 => h9) rfl d_Fi_burn_56 ?_
      refine lv_lload hx hb d_Fi_burn_59 (lv_at hl 0 rfl) ?_
      refine lv_lload hx hb d_Fi_burn_61 (lv_at hl 0 rfl) ?_
      refine lv_aload_n hx hb d_Fi_burn_63 rfl (lv_at hl 2 rfl) ?_
      refine pg_get (C := "SmokeZones$Fire") (T := T_Fi) (N := 5) hx hb hG in_Fi hown hK hP h_q e_q rfl 4 (by decide) (hG _ k311) (fun _ h9 => h9) rfl d_Fi_burn_64 ?_
      refine lv_i2l hx hb d_Fi_burn_67 rfl ?_
      refine lv_lmul hx hb d_Fi_burn_68 ?_
      refine kV_wv (f' := va_up f r (.inr (0, [.int ar, .int he, .long ho, .long (sm + (m_min ((Int32.toInt64 ((t0 - fs) + 1)) * (Int32.toInt64 gr)) (Int32.toInt64 mo))), .long (ht + ((m_min ((Int32.toInt64 ((t0 - fs) + 1)) * (Int32.toInt64 gr)) (Int32.toInt64 mo)) * (Int32.toInt64 hz))), .int sl, .int sa, .int fl]))) ⟨hx, hb, hml, hown, hG⟩ (c_Ro_add h_r e_r) (cwV 2 hG (gV k450 k451 k452 k8 k453) rfl rfl rfl hd_Ro_add ⟨Nat.le_of_ble_eq_true rfl, Nat.le_of_ble_eq_true rfl⟩) hK hP hD hS hA h_r e_r rfl rfl hl.1 rfl (Nat.le_of_ble_eq_true rfl) ⟨Nat.le_of_ble_eq_true rfl, Nat.le_of_ble_eq_true rfl⟩ d_Fi_burn_69 (fun H locs hP hD hS => ?_)
      have e_3 : (va_up f r (.inr (0, [.int ar, .int he, .long ho, .long (sm + (m_min ((Int32.toInt64 ((t0 - fs) + 1)) * (Int32.toInt64 gr)) (Int32.toInt64 mo))), .long (ht + ((m_min ((Int32.toInt64 ((t0 - fs) + 1)) * (Int32.toInt64 gr)) (Int32.toInt64 mo)) * (Int32.toInt64 hz))), .int sl, .int sa, .int fl]))) r = .inr (0, [.int ar, .int he, .long ho, .long (sm + (m_min ((Int32.toInt64 ((t0 - fs) + 1)) * (Int32.toInt64 gr)) (Int32.toInt64 mo))), .long (ht + ((m_min ((Int32.toInt64 ((t0 - fs) + 1)) * (Int32.toInt64 gr)) (Int32.toInt64 mo)) * (Int32.toInt64 hz))), .int sl, .int sa, .int fl]) := va_up_self _ _ _
      have e_4 : (va_up f r (.inr (0, [.int ar, .int he, .long ho, .long (sm + (m_min ((Int32.toInt64 ((t0 - fs) + 1)) * (Int32.toInt64 gr)) (Int32.toInt64 mo))), .long (ht + ((m_min ((Int32.toInt64 ((t0 - fs) + 1)) * (Int32.toInt64 gr)) (Int32.toInt64 mo)) * (Int32.toInt64 hz))), .int sl, .int sa, .int fl]))) q = .inr (2, [.ref r, .int fs, .int gr, .int mo, .int hz]) := (va_up_ne _ _ ne_q_r).trans e_q
      refine lv_lload hx hb d_Fi_burn_72 (lv_at hl 0 rfl) ?_
      have hF : (va_up f r (roomE ar he ho (m_fsm fs t0 gr mo sa sm) (m_fht fs t0 gr mo hz sa ht) sl sa fl)) = (va_up f r (.inr (0, [.int ar, .int he, .long ho, .long (sm + (m_min ((Int32.toInt64 ((t0 - fs) + 1)) * (Int32.toInt64 gr)) (Int32.toInt64 mo))), .long (ht + ((m_min ((Int32.toInt64 ((t0 - fs) + 1)) * (Int32.toInt64 gr)) (Int32.toInt64 mo)) * (Int32.toInt64 hz))), .int sl, .int sa, .int fl]))) := by
        (try simp only [m_fout, m_fsm, m_fht, m_f1, m_f0, m_min, if_pos c_1, if_pos c_2])
        first | done | exact rfl | exact up_same e_r
      rw [← hF] at hP hD
      exact W.lret hx hb hret (fun t ht hW => ⟨⟨_, (), rfl, (by simp only [m_fout, m_fsm, m_fht, m_f1, m_f0, m_min, if_pos c_1, if_pos c_2]), by rw [ht]; exact hP, va_K.moved hW.alike hK, hD⟩, hS.F ht⟩) hS.2.2 d_Fi_burn_74
    · refine lv_lload hx hb d_Fi_burn_47 (lv_at hl 0 rfl) ?_
      refine lv_ldc2 hx hb hown (hG _ k449) d_Fi_burn_49 ?_
      refine lv_ldiv hx hb d_Fi_burn_52 (by decide) ?_
      refine lv_lstore (lv' := [(4, .long ((m_min ((Int32.toInt64 ((t0 - fs) + 1)) * (Int32.toInt64 gr)) (Int32.toInt64 mo)) / 2)), (2, .long (Int32.toInt64 ((t0 - fs) + 1))), (0, .ref q), (1, .int t0)]) hx hb d_Fi_burn_53 hl (by decide) rfl (fun ls hl => ?_)
      refine lv_aload_n hx hb d_Fi_burn_55 rfl (lv_at hl 2 rfl) ?_
      refine pg_get (C := "SmokeZones$Fire") (T := T_Fi) (N := 5) hx hb hG in_Fi hown hK hP h_q e_q rfl 0 (by decide) (hG _ k307) (fun _ h9 => h9) rfl d_Fi_burn_56 ?_
      refine lv_lload hx hb d_Fi_burn_59 (lv_at hl 0 rfl) ?_
      refine lv_lload hx hb d_Fi_burn_61 (lv_at hl 0 rfl) ?_
      refine lv_aload_n hx hb d_Fi_burn_63 rfl (lv_at hl 2 rfl) ?_
      refine pg_get (C := "SmokeZones$Fire") (T := T_Fi) (N := 5) hx hb hG in_Fi hown hK hP h_q e_q rfl 4 (by decide) (hG _ k311) (fun _ h9 => h9) rfl d_Fi_burn_64 ?_
      refine lv_i2l hx hb d_Fi_burn_67 rfl ?_
      refine lv_lmul hx hb d_Fi_burn_68 ?_
      refine kV_wv (f' := va_up f r (.inr (0, [.int ar, .int he, .long ho, .long (sm + ((m_min ((Int32.toInt64 ((t0 - fs) + 1)) * (Int32.toInt64 gr)) (Int32.toInt64 mo)) / 2)), .long (ht + (((m_min ((Int32.toInt64 ((t0 - fs) + 1)) * (Int32.toInt64 gr)) (Int32.toInt64 mo)) / 2) * (Int32.toInt64 hz))), .int sl, .int sa, .int fl]))) ⟨hx, hb, hml, hown, hG⟩ (c_Ro_add h_r e_r) (cwV 2 hG (gV k450 k451 k452 k8 k453) rfl rfl rfl hd_Ro_add ⟨Nat.le_of_ble_eq_true rfl, Nat.le_of_ble_eq_true rfl⟩) hK hP hD hS hA h_r e_r rfl rfl hl.1 rfl (Nat.le_of_ble_eq_true rfl) ⟨Nat.le_of_ble_eq_true rfl, Nat.le_of_ble_eq_true rfl⟩ d_Fi_burn_69 (fun H locs hP hD hS => ?_)
      have e_5 : (va_up f r (.inr (0, [.int ar, .int he, .long ho, .long (sm + ((m_min ((Int32.toInt64 ((t0 - fs) + 1)) * (Int32.toInt64 gr)) (Int32.toInt64 mo)) / 2)), .long (ht + (((m_min ((Int32.toInt64 ((t0 - fs) + 1)) * (Int32.toInt64 gr)) (Int32.toInt64 mo)) / 2) * (Int32.toInt64 hz))), .int sl, .int sa, .int fl]))) r = .inr (0, [.int ar, .int he, .long ho, .long (sm + ((m_min ((Int32.toInt64 ((t0 - fs) + 1)) * (Int32.toInt64 gr)) (Int32.toInt64 mo)) / 2)), .long (ht + (((m_min ((Int32.toInt64 ((t0 - fs) + 1)) * (Int32.toInt64 gr)) (Int32.toInt64 mo)) / 2) * (Int32.toInt64 hz))), .int sl, .int sa, .int fl]) := va_up_self _ _ _
      have e_6 : (va_up f r (.inr (0, [.int ar, .int he, .long ho, .long (sm + ((m_min ((Int32.toInt64 ((t0 - fs) + 1)) * (Int32.toInt64 gr)) (Int32.toInt64 mo)) / 2)), .long (ht + (((m_min ((Int32.toInt64 ((t0 - fs) + 1)) * (Int32.toInt64 gr)) (Int32.toInt64 mo)) / 2) * (Int32.toInt64 hz))), .int sl, .int sa, .int fl]))) q = .inr (2, [.ref r, .int fs, .int gr, .int mo, .int hz]) := (va_up_ne _ _ ne_q_r).trans e_q
      refine lv_lload hx hb d_Fi_burn_72 (lv_at hl 0 rfl) ?_
      have hF : (va_up f r (roomE ar he ho (m_fsm fs t0 gr mo sa sm) (m_fht fs t0 gr mo hz sa ht) sl sa fl)) = (va_up f r (.inr (0, [.int ar, .int he, .long ho, .long (sm + ((m_min ((Int32.toInt64 ((t0 - fs) + 1)) * (Int32.toInt64 gr)) (Int32.toInt64 mo)) / 2)), .long (ht + (((m_min ((Int32.toInt64 ((t0 - fs) + 1)) * (Int32.toInt64 gr)) (Int32.toInt64 mo)) / 2) * (Int32.toInt64 hz))), .int sl, .int sa, .int fl]))) := by
        (try simp only [m_fout, m_fsm, m_fht, m_f1, m_f0, m_min, if_pos c_1, if_neg c_2])
        first | done | exact rfl | exact up_same e_r
      rw [← hF] at hP hD
      exact W.lret hx hb hret (fun t ht hW => ⟨⟨_, (), rfl, (by simp only [m_fout, m_fsm, m_fht, m_f1, m_f0, m_min, if_pos c_1, if_neg c_2]), by rw [ht]; exact hP, va_K.moved hW.alike hK, hD⟩, hS.F ht⟩) hS.2.2 d_Fi_burn_74
  · refine lv_lconst (v := 0) hx hb d_Fi_burn_8 (by decide) ?_
    have hF : (va_up f r (roomE ar he ho (m_fsm fs t0 gr mo sa sm) (m_fht fs t0 gr mo hz sa ht) sl sa fl)) = (f) := by
      (try simp only [m_fout, m_fsm, m_fht, m_f1, m_f0, m_min, if_neg c_1])
      first | done | exact rfl | exact up_same e_r
    rw [← hF] at hP hD
    exact W.lret hx hb hret (fun t ht hW => ⟨⟨_, (), rfl, (by simp only [m_fout, m_fsm, m_fht, m_f1, m_f0, m_min, if_neg c_1]), by rw [ht]; exact hP, va_K.moved hW.alike hK, hD⟩, hS.F ht⟩) hS.2.2 d_Fi_burn_9

set_option maxHeartbeats 4000000 in
set_option maxRecDepth 100000 in
theorem c_St_getWarm {l : Launch} {D : va_G} {TY : List (ClassId × FieldType)} {L : List Nat} {f : Nat → va_E} {sz : Nat} {q : Nat} {sc : Int32} {te : Int32} {r : Nat} {ar : Int32} {he : Int32} {ho : Int64} {sm : Int64} {ht : Int64} {sl : Int32} {sa : Int32} {fl : Int32} (h_q : q ∈ L) (e_q : f q = steelE r sc te) (h_r : r ∈ L) (e_r : f r = roomE ar he ho sm ht sl sa fl) : Met l y_St_getWarm (WS y_St_getWarm b_St_getWarm 1 none) { frames := 1, cells := 0, slots := 0, locals := 20 } (va_Pc [.ref q] (WP D TY L f sz)) (Xv D TY L (va_up f q (steelE r sc (m_te sm ht sc te))) (AA L f sz)) 0 0 (AA L f sz) := by
  refine Met.ofW (cc := b_St_getWarm) (maxL := 1) (ret := none) (by decide) rfl ?_
  intro p e s m args below meth c s₁ B hml hv
  obtain ⟨rfl, hsz, hP, hK, hD0⟩ := hv
  subst hsz
  have hx := B.exec
  have hb := B.bytes
  have hret := B.returns
  have hts := atoms_spec (ws := WS y_St_getWarm b_St_getWarm 1 none) B.pre
  have hG : ∀ w ∈ GW, w.before _ s = true := fun w h => hts w (List.mem_cons_of_mem _ h)
  have hown : s.vm.findClass "SmokeZones$Steel" = some m.cls := findClass_of_methodNamed B.named
  have hlocks := B.notSynchronized
  have hD : va_D (AA L f s.heap.size) (va_pl L f) := hD0.self (sz := s.heap.size)
  generalize hAe : AA L f s.heap.size = A at hD ⊢
  have hA : ∀ q : Nat, s.heap.size ≤ q → A q := fun q h => by rw [← hAe]; exact Or.inr h
  have hS : va_S A s.heap s.heap [] := va_S.rf
  have hl := lv_entry ([.ref q]) (n := 1) (Nat.le_of_ble_eq_true rfl)
  rw [lg_entry_eq]
  generalize (lg_sl ([.ref q]) ++ List.replicate (1 - (lg_sl ([.ref q])).length) Slot.unset).toArray = ls at hl ⊢
  have hl : lv_has ls 1 [(0, .ref q)] := hl
  have ne_q_r : q ≠ r := ne_ci e_q e_r (by decide)
  have ne_r_q : r ≠ q := fun q => ne_q_r q.symm
  refine lv_aload_n hx hb d_St_getWarm_0 rfl (lv_at hl 0 rfl) ?_
  refine pg_get (C := "SmokeZones$Steel") (T := T_St) (N := 3) hx hb hG in_St hown hK hP h_q e_q rfl 1 (by decide) (hG _ k365) (fun _ h9 => h9) rfl d_St_getWarm_1 ?_
  refine lv_if_le (tgt := 36) hx hb d_St_getWarm_4 (by decide) (fun c_1 => ?_) (fun c_1 => ?_)
  · have hF : (va_up f q (steelE r sc (m_te sm ht sc te))) = (f) := by
      (try simp only [m_te, if_pos c_1])
      first | done | exact rfl | exact up_same e_q
    rw [← hF] at hP hD
    exact W.vret hx hb hret (fun t ht hW => ⟨⟨(), rfl, trivial, by rw [ht]; exact hP, va_K.moved hW.alike hK, hD⟩, hS.F ht⟩) hS.2.2 d_St_getWarm_36
  · refine lv_aload_n hx hb d_St_getWarm_7 rfl (lv_at hl 0 rfl) ?_
    refine lv_dup hx hb d_St_getWarm_8 rfl ?_
    refine pg_get (C := "SmokeZones$Steel") (T := T_St) (N := 3) hx hb hG in_St hown hK hP h_q e_q rfl 2 (by decide) (hG _ k366) (fun _ h9 => h9) rfl d_St_getWarm_9 ?_
    refine lv_aload_n hx hb d_St_getWarm_12 rfl (lv_at hl 0 rfl) ?_
    refine pg_get (C := "SmokeZones$Steel") (T := T_St) (N := 3) hx hb hG in_St hown hK hP h_q e_q rfl 0 (by decide) (hG _ k364) (fun _ h9 => h9) rfl d_St_getWarm_13 ?_
    refine kV_rl ⟨hx, hb, hml, hown, hG⟩ (c_Ro_warmth h_r e_r) (cwV 0 hG (gV k544 k528 k529 k8 k530) rfl rfl rfl hd_Ro_warmth ⟨Nat.le_of_ble_eq_true rfl, Nat.le_of_ble_eq_true rfl⟩) hK hP hS h_r e_r rfl rfl hl.1 rfl (Nat.le_of_ble_eq_true rfl) ⟨Nat.le_of_ble_eq_true rfl, Nat.le_of_ble_eq_true rfl⟩ d_St_getWarm_16 (fun locs hS => ?_)
    refine lv_aload_n hx hb d_St_getWarm_19 rfl (lv_at hl 0 rfl) ?_
    refine pg_get (C := "SmokeZones$Steel") (T := T_St) (N := 3) hx hb hG in_St hown hK hP h_q e_q rfl 2 (by decide) (hG _ k366) (fun _ h9 => h9) rfl d_St_getWarm_20 ?_
    refine lv_i2l hx hb d_St_getWarm_23 rfl ?_
    refine lv_lsub hx hb d_St_getWarm_24 ?_
    refine lv_aload_n hx hb d_St_getWarm_25 rfl (lv_at hl 0 rfl) ?_
    refine pg_get (C := "SmokeZones$Steel") (T := T_St) (N := 3) hx hb hG in_St hown hK hP h_q e_q rfl 1 (by decide) (hG _ k365) (fun _ h9 => h9) rfl d_St_getWarm_26 ?_
    refine lv_i2l hx hb d_St_getWarm_29 rfl ?_
    refine lv_ldiv hx hb d_St_getWarm_30 (nz32' c_1) ?_
    refine lv_l2i hx hb d_St_getWarm_31 rfl ?_
    refine lv_iadd hx hb d_St_getWarm_32 ?_
    refine pg_put (C := "SmokeZones$Steel") (T := T_St) (N := 3) (ty := .int) hx hb hG in_St ty_St ok_St nm_St hown hK hP hD hS h_q e_q rfl 2 (by decide) (hG _ k366) (fun _ h9 => h9) rfl (by decide +kernel) rfl rfl (Nat.le_of_ble_eq_true rfl) d_St_getWarm_33 (fun H locs hP hD hS => ?_)
    have hP : va_P D vwCl (va_pl L (va_up f q (.inr (4, [.ref r, .int sc, .int (te + (Int64.toInt32 (((m_warmth sm ht) - (Int32.toInt64 te)) / (Int32.toInt64 sc))))])))) H := hP
    have hD : va_D A (va_pl L (va_up f q (.inr (4, [.ref r, .int sc, .int (te + (Int64.toInt32 (((m_warmth sm ht) - (Int32.toInt64 te)) / (Int32.toInt64 sc))))])))) := hD
    have e_2 : (va_up f q (.inr (4, [.ref r, .int sc, .int (te + (Int64.toInt32 (((m_warmth sm ht) - (Int32.toInt64 te)) / (Int32.toInt64 sc))))]))) q = .inr (4, [.ref r, .int sc, .int (te + (Int64.toInt32 (((m_warmth sm ht) - (Int32.toInt64 te)) / (Int32.toInt64 sc))))]) := va_up_self _ _ _
    have e_3 : (va_up f q (.inr (4, [.ref r, .int sc, .int (te + (Int64.toInt32 (((m_warmth sm ht) - (Int32.toInt64 te)) / (Int32.toInt64 sc))))]))) r = .inr (0, [.int ar, .int he, .long ho, .long sm, .long ht, .int sl, .int sa, .int fl]) := (va_up_ne _ _ ne_r_q).trans e_r
    have hF : (va_up f q (steelE r sc (m_te sm ht sc te))) = (va_up f q (.inr (4, [.ref r, .int sc, .int (te + (Int64.toInt32 (((m_warmth sm ht) - (Int32.toInt64 te)) / (Int32.toInt64 sc))))]))) := by
      (try simp only [m_te, if_neg c_1])
      first | done | exact rfl | exact up_same e_q
    rw [← hF] at hP hD
    exact W.vret hx hb hret (fun t ht hW => ⟨⟨(), rfl, trivial, by rw [ht]; exact hP, va_K.moved hW.alike hK, hD⟩, hS.F ht⟩) hS.2.2 d_St_getWarm_36

def m_open (gl br : Int32) : Int32 := if gl = (-1) then 1 else if br = 0 then 0 else 1
def m_ff (wi : Int32) (sm df : Int64) : Int64 := m_min (Int32.toInt64 (5 * wi) * df) (sm / 16)
def m_hot (sm ht : Int64) (gl : Int32) : Int32 := if m_warmth sm ht < Int32.toInt64 gl then 0 else 1

set_option maxHeartbeats 4000000 in
set_option maxRecDepth 100000 in
theorem c_Op_isOpen {l : Launch} {D : va_G} {TY : List (ClassId × FieldType)} {L : List Nat} {f : Nat → va_E} {H : Heap} {q : Nat} {nr : Nat} {fv : Value} {wi : Int32} {si : Int32} {to : Int32} {gl : Int32} {br : Int32} {fw : Int64} {hf : Int64} {fa : Int64} (h_q : q ∈ L) (e_q : f q = openE nr fv wi si to gl br fw hf fa) : Met l y_Op_isOpen (WS y_Op_isOpen b_Op_isOpen 1 (some .boolean)) { frames := 0, cells := 0, slots := 0, locals := 0 } (va_Pc [.ref q] (RP D TY L f H)) (Qi (m_open gl br) H) 0 0 No := by
  refine Met.ofW (cc := b_Op_isOpen) (maxL := 1) (ret := (some .boolean)) (by decide) rfl ?_
  intro p e s m args below meth c s₁ B hml hv
  obtain ⟨rfl, hH, hP, hK⟩ := hv
  subst hH
  have hx := B.exec
  have hb := B.bytes
  have hret := B.returns
  have hts := atoms_spec (ws := WS y_Op_isOpen b_Op_isOpen 1 (some .boolean)) B.pre
  have hG : ∀ w ∈ GW, w.before _ s = true := fun w h => hts w (List.mem_cons_of_mem _ h)
  have hown : s.vm.findClass "SmokeZones$Opening" = some m.cls := findClass_of_methodNamed B.named
  have hlocks := B.notSynchronized
  have hS : va_S No s.heap s.heap [] := va_S.rf
  have hl := lv_entry ([.ref q]) (n := 1) (Nat.le_of_ble_eq_true rfl)
  rw [lg_entry_eq]
  generalize (lg_sl ([.ref q]) ++ List.replicate (1 - (lg_sl ([.ref q])).length) Slot.unset).toArray = ls at hl ⊢
  have hl : lv_has ls 1 [(0, .ref q)] := hl
  refine lv_aload_n hx hb d_Op_isOpen_0 rfl (lv_at hl 0 rfl) ?_
  refine pg_get (C := "SmokeZones$Opening") (T := T_Op) (N := 10) hx hb hG in_Op hown hK hP h_q e_q rfl 5 (by decide) (hG _ k258) (fun _ h9 => h9) rfl d_Op_isOpen_1 ?_
  refine lv_iconst (v := (-1)) hx hb d_Op_isOpen_4 (by decide) ?_
  refine lv_icmp_eq (tgt := 15) hx hb d_Op_isOpen_5 (by decide) (fun c_1 => ?_) (fun c_1 => ?_)
  · refine lv_iconst (v := 1) hx hb d_Op_isOpen_15 (by decide) ?_
    refine lv_goto (tgt := 20) hx hb d_Op_isOpen_16 (by decide) ?_
    exact W.zret hx hb hret rfl (fun t ht hW => ⟨⟨_, (), rfl, (by simp only [m_open, if_pos c_1]), ht⟩, hS.F ht⟩) hS.2.2 d_Op_isOpen_20
  · refine lv_aload_n hx hb d_Op_isOpen_8 rfl (lv_at hl 0 rfl) ?_
    refine pg_get (C := "SmokeZones$Opening") (T := T_Op) (N := 10) hx hb hG in_Op hown hK hP h_q e_q rfl 6 (by decide) (hG _ k260) (fun _ h9 => h9) rfl d_Op_isOpen_9 ?_
    refine lv_if_eq (tgt := 19) hx hb d_Op_isOpen_12 (by decide) (fun c_2 => ?_) (fun c_2 => ?_)
    · refine lv_iconst (v := 0) hx hb d_Op_isOpen_19 (by decide) ?_
      exact W.zret hx hb hret rfl (fun t ht hW => ⟨⟨_, (), rfl, (by simp only [m_open, if_neg c_1, if_pos c_2]), ht⟩, hS.F ht⟩) hS.2.2 d_Op_isOpen_20
    · refine lv_iconst (v := 1) hx hb d_Op_isOpen_15 (by decide) ?_
      refine lv_goto (tgt := 20) hx hb d_Op_isOpen_16 (by decide) ?_
      exact W.zret hx hb hret rfl (fun t ht hW => ⟨⟨_, (), rfl, (by simp only [m_open, if_neg c_1, if_neg c_2]), ht⟩, hS.F ht⟩) hS.2.2 d_Op_isOpen_20

set_option maxHeartbeats 4000000 in
set_option maxRecDepth 100000 in
theorem c_Op_flowFrom {l : Launch} {D : va_G} {TY : List (ClassId × FieldType)} {L : List Nat} {f : Nat → va_E} {H : Heap} {q : Nat} {nr : Nat} {fv : Value} {wi : Int32} {si : Int32} {to : Int32} {gl : Int32} {br : Int32} {fw : Int64} {hf : Int64} {fa : Int64} {r : Nat} {ar : Int32} {he : Int32} {ho : Int64} {sm : Int64} {ht : Int64} {sl : Int32} {sa : Int32} {fl : Int32} {df : Int64} (h_q : q ∈ L) (e_q : f q = openE nr fv wi si to gl br fw hf fa) (h_r : r ∈ L) (e_r : f r = roomE ar he ho sm ht sl sa fl) : Met l y_Op_flowFrom (WS y_Op_flowFrom b_Op_flowFrom 4 (some .long)) { frames := 1, cells := 0, slots := 0, locals := 15 } (va_Pc [.ref q, .ref r, .long df] (RP D TY L f H)) (Ql (m_ff wi sm df) H) 0 0 No := by
  refine Met.ofW (cc := b_Op_flowFrom) (maxL := 4) (ret := (some .long)) (by decide) rfl ?_
  intro p e s m args below meth c s₁ B hml hv
  obtain ⟨rfl, hH, hP, hK⟩ := hv
  subst hH
  have hx := B.exec
  have hb := B.bytes
  have hret := B.returns
  have hts := atoms_spec (ws := WS y_Op_flowFrom b_Op_flowFrom 4 (some .long)) B.pre
  have hG : ∀ w ∈ GW, w.before _ s = true := fun w h => hts w (List.mem_cons_of_mem _ h)
  have hown : s.vm.findClass "SmokeZones$Opening" = some m.cls := findClass_of_methodNamed B.named
  have hlocks := B.notSynchronized
  have hS : va_S No s.heap s.heap [] := va_S.rf
  have hl := lv_entry ([.ref q, .ref r, .long df]) (n := 4) (Nat.le_of_ble_eq_true rfl)
  rw [lg_entry_eq]
  generalize (lg_sl ([.ref q, .ref r, .long df]) ++ List.replicate (4 - (lg_sl ([.ref q, .ref r, .long df])).length) Slot.unset).toArray = ls at hl ⊢
  have hl : lv_has ls 4 [(0, .ref q), (1, .ref r), (2, .long df)] := hl
  refine lv_iconst (v := 5) hx hb d_Op_flowFrom_0 (by decide) ?_
  refine lv_aload_n hx hb d_Op_flowFrom_1 rfl (lv_at hl 0 rfl) ?_
  refine pg_get (C := "SmokeZones$Opening") (T := T_Op) (N := 10) hx hb hG in_Op hown hK hP h_q e_q rfl 2 (by decide) (hG _ k255) (fun _ h9 => h9) rfl d_Op_flowFrom_2 ?_
  refine lv_imul hx hb d_Op_flowFrom_5 ?_
  refine lv_i2l hx hb d_Op_flowFrom_6 rfl ?_
  refine lv_lload_n hx hb d_Op_flowFrom_7 rfl (lv_at hl 2 rfl) ?_
  refine lv_lmul hx hb d_Op_flowFrom_8 ?_
  refine lv_aload_n hx hb d_Op_flowFrom_9 rfl (lv_at hl 1 rfl) ?_
  refine pg_get (C := "SmokeZones$Room") (T := T_Ro) (N := 8) hx hb hG in_Ro hown hK hP h_r e_r rfl 3 (by decide) (hG _ k202) (fun _ h9 => h9) rfl d_Op_flowFrom_10 ?_
  refine lv_ldc2 hx hb hown (hG _ k485) d_Op_flowFrom_13 ?_
  refine lv_ldiv hx hb d_Op_flowFrom_16 (by decide) ?_
  refine va_mmin_long hx hb (hml.trans hl.1.symm) hown (hG _ k486) (hG _ km_min_s) (hG _ k14) (hG _ km_min_c) (Nat.le_of_ble_eq_true rfl) (Nat.le_of_ble_eq_true rfl) (Nat.le_of_ble_eq_true rfl) (Nat.le_of_ble_eq_true rfl) d_Op_flowFrom_17 ?_
  exact W.lret hx hb hret (fun t ht hW => ⟨⟨_, (), rfl, rfl, ht⟩, hS.F ht⟩) hS.2.2 d_Op_flowFrom_20

set_option maxHeartbeats 4000000 in
set_option maxRecDepth 100000 in
theorem c_Op_isHot_s {l : Launch} {D : va_G} {TY : List (ClassId × FieldType)} {L : List Nat} {f : Nat → va_E} {H : Heap} {q : Nat} {nr : Nat} {fv : Value} {wi : Int32} {si : Int32} {to : Int32} {gl : Int32} {br : Int32} {fw : Int64} {hf : Int64} {fa : Int64} {r : Nat} {ar : Int32} {he : Int32} {ho : Int64} {sm : Int64} {ht : Int64} {sl : Int32} {sa : Int32} {fl : Int32} (h_q : q ∈ L) (e_q : f q = openE nr fv wi si to gl br fw hf fa) (h_r : r ∈ L) (e_r : f r = roomE ar he ho sm ht sl sa fl) : Met l y_Op_isHot (WS y_Op_isHot b_Op_isHot 2 (some .boolean)) { frames := 1, cells := 0, slots := 0, locals := 20 } (va_Pc [.ref q, .ref r] (RP D TY L f H)) (Qi (m_hot sm ht gl) H) 0 0 No := by
  refine Met.ofW (cc := b_Op_isHot) (maxL := 2) (ret := (some .boolean)) (by decide) rfl ?_
  intro p e s m args below meth c s₁ B hml hv
  obtain ⟨rfl, hH, hP, hK⟩ := hv
  subst hH
  have hx := B.exec
  have hb := B.bytes
  have hret := B.returns
  have hts := atoms_spec (ws := WS y_Op_isHot b_Op_isHot 2 (some .boolean)) B.pre
  have hG : ∀ w ∈ GW, w.before _ s = true := fun w h => hts w (List.mem_cons_of_mem _ h)
  have hown : s.vm.findClass "SmokeZones$Opening" = some m.cls := findClass_of_methodNamed B.named
  have hlocks := B.notSynchronized
  have hS : va_S No s.heap s.heap [] := va_S.rf
  have hl := lv_entry ([.ref q, .ref r]) (n := 2) (Nat.le_of_ble_eq_true rfl)
  rw [lg_entry_eq]
  generalize (lg_sl ([.ref q, .ref r]) ++ List.replicate (2 - (lg_sl ([.ref q, .ref r])).length) Slot.unset).toArray = ls at hl ⊢
  have hl : lv_has ls 2 [(0, .ref q), (1, .ref r)] := hl
  refine lv_aload_n hx hb d_Op_isHot_0 rfl (lv_at hl 1 rfl) ?_
  refine lv_ifnull hx hb d_Op_isHot_1 ?_
  refine lv_aload_n hx hb d_Op_isHot_4 rfl (lv_at hl 1 rfl) ?_
  refine kV_rl ⟨hx, hb, hml, hown, hG⟩ (c_Ro_warmth h_r e_r) (cwV 0 hG (gV k539 k528 k529 k8 k530) rfl rfl rfl hd_Ro_warmth ⟨Nat.le_of_ble_eq_true rfl, Nat.le_of_ble_eq_true rfl⟩) hK hP hS h_r e_r rfl rfl hl.1 rfl (Nat.le_of_ble_eq_true rfl) ⟨Nat.le_of_ble_eq_true rfl, Nat.le_of_ble_eq_true rfl⟩ d_Op_isHot_5 (fun locs hS => ?_)
  refine lv_aload_n hx hb d_Op_isHot_8 rfl (lv_at hl 0 rfl) ?_
  refine pg_get (C := "SmokeZones$Opening") (T := T_Op) (N := 10) hx hb hG in_Op hown hK hP h_q e_q rfl 5 (by decide) (hG _ k258) (fun _ h9 => h9) rfl d_Op_isHot_9 ?_
  refine lv_i2l hx hb d_Op_isHot_12 rfl ?_
  refine lc_lt (tgt := 21) hx hb d_Op_isHot_13 d_Op_isHot_14 (by decide) (fun c_1 => ?_) (fun c_1 => ?_)
  · refine lv_iconst (v := 0) hx hb d_Op_isHot_21 (by decide) ?_
    exact W.zret hx hb hret rfl (fun t ht hW => ⟨⟨_, (), rfl, (by simp only [m_hot, if_pos c_1]), ht⟩, hS.F ht⟩) hS.2.2 d_Op_isHot_22
  · refine lv_iconst (v := 1) hx hb d_Op_isHot_17 (by decide) ?_
    refine lv_goto (tgt := 22) hx hb d_Op_isHot_18 (by decide) ?_
    exact W.zret hx hb hret rfl (fun t ht hW => ⟨⟨_, (), rfl, (by simp only [m_hot, if_neg c_1]), ht⟩, hS.F ht⟩) hS.2.2 d_Op_isHot_22

set_option maxHeartbeats 4000000 in
set_option maxRecDepth 100000 in
theorem c_Op_isHot_n {l : Launch} {D : va_G} {TY : List (ClassId × FieldType)} {L : List Nat} {f : Nat → va_E} {H : Heap} {q : Nat} {nr : Nat} {fv : Value} {wi : Int32} {si : Int32} {to : Int32} {gl : Int32} {br : Int32} {fw : Int64} {hf : Int64} {fa : Int64} (h_q : q ∈ L) (e_q : f q = openE nr fv wi si to gl br fw hf fa) : Met l y_Op_isHot (WS y_Op_isHot b_Op_isHot 2 (some .boolean)) { frames := 0, cells := 0, slots := 0, locals := 0 } (va_Pc [.ref q, .null] (RP D TY L f H)) (Qi (0) H) 0 0 No := by
  refine Met.ofW (cc := b_Op_isHot) (maxL := 2) (ret := (some .boolean)) (by decide) rfl ?_
  intro p e s m args below meth c s₁ B hml hv
  obtain ⟨rfl, hH, hP, hK⟩ := hv
  subst hH
  have hx := B.exec
  have hb := B.bytes
  have hret := B.returns
  have hts := atoms_spec (ws := WS y_Op_isHot b_Op_isHot 2 (some .boolean)) B.pre
  have hG : ∀ w ∈ GW, w.before _ s = true := fun w h => hts w (List.mem_cons_of_mem _ h)
  have hown : s.vm.findClass "SmokeZones$Opening" = some m.cls := findClass_of_methodNamed B.named
  have hlocks := B.notSynchronized
  have hS : va_S No s.heap s.heap [] := va_S.rf
  have hl := lv_entry ([.ref q, .null]) (n := 2) (Nat.le_of_ble_eq_true rfl)
  rw [lg_entry_eq]
  generalize (lg_sl ([.ref q, .null]) ++ List.replicate (2 - (lg_sl ([.ref q, .null])).length) Slot.unset).toArray = ls at hl ⊢
  have hl : lv_has ls 2 [(0, .ref q), (1, .null)] := hl
  refine lv_aload_nN hx hb d_Op_isHot_0 rfl (lv_at hl 1 rfl) ?_
  refine lv_ifnullN (tgt := 21) hx hb d_Op_isHot_1 (by decide) ?_
  refine lv_iconst (v := 0) hx hb d_Op_isHot_21 (by decide) ?_
  exact W.zret hx hb hret rfl (fun t ht hW => ⟨⟨_, (), rfl, rfl, ht⟩, hS.F ht⟩) hS.2.2 d_Op_isHot_22

def m_nh (fw hf : Int64) : Int64 := if 0 ≤ fw then -hf else hf
def m_fh (fw hf : Int64) : Int64 := if 0 ≤ fw then hf else -hf
def m_flN (op wi : Int32) (cn sm : Int64) : Int64 := if op = 0 then 0 else if cn ≤ 0 then 0 else m_ff wi sm (cn - 0)
def m_fhN (op wi : Int32) (cn sm ht : Int64) : Int64 := if op = 0 then 0 else if cn ≤ 0 then 0 else m_hw sm ht (m_ff wi sm (cn - 0))
def m_flS (op wi : Int32) (cn cf sm smg : Int64) : Int64 := if op = 0 then 0 else if cn ≤ cf then (if cf ≤ cn then 0 else -(m_ff wi smg (cf - cn))) else m_ff wi sm (cn - cf)
def m_fhS (op wi : Int32) (cn cf sm ht smg htg : Int64) : Int64 := if op = 0 then 0 else if cn ≤ cf then (if cf ≤ cn then 0 else m_hw smg htg (m_ff wi smg (cf - cn))) else m_hw sm ht (m_ff wi sm (cn - cf))
def m_brN (op hn br : Int32) : Int32 := if op = 0 then (if hn = 0 then br else 1) else br
def m_brS (op hn hg br : Int32) : Int32 := if op = 0 then (if hn = 0 then (if hg = 0 then br else 1) else 1) else br

set_option maxHeartbeats 4000000 in
set_option maxRecDepth 100000 in
theorem c_Op_measureFlow_n {l : Launch} {D : va_G} {TY : List (ClassId × FieldType)} {L : List Nat} {f : Nat → va_E} {sz : Nat} {q : Nat} {wi : Int32} {si : Int32} {to : Int32} {gl : Int32} {br : Int32} {fw : Int64} {hf : Int64} {fa : Int64} {r : Nat} {ar : Int32} {he : Int32} {ho : Int64} {sm : Int64} {ht : Int64} {sl : Int32} {sa : Int32} {fl : Int32} (h_q : q ∈ L) (e_q : f q = openE r .null wi si to gl br fw hf fa) (h_r : r ∈ L) (e_r : f r = roomE ar he ho sm ht sl sa fl) : Met l y_Op_measureFlow (WS y_Op_measureFlow b_Op_measureFlow 7 none) { frames := 3, cells := 0, slots := 0, locals := 62 } (va_Pc [.ref q] (WP D TY L f sz)) (Xv D TY L (va_up f q (openE r .null wi si to gl br (m_flN (m_open gl br) wi (m_cov ar he sm si to) sm) (m_fhN (m_open gl br) wi (m_cov ar he sm si to) sm ht) fa)) (AA L f sz)) 0 0 (AA L f sz) := by
  refine Met.ofW (cc := b_Op_measureFlow) (maxL := 7) (ret := none) (by decide) rfl ?_
  intro p e s m args below meth c s₁ B hml hv
  obtain ⟨rfl, hsz, hP, hK, hD0⟩ := hv
  subst hsz
  have hx := B.exec
  have hb := B.bytes
  have hret := B.returns
  have hts := atoms_spec (ws := WS y_Op_measureFlow b_Op_measureFlow 7 none) B.pre
  have hG : ∀ w ∈ GW, w.before _ s = true := fun w h => hts w (List.mem_cons_of_mem _ h)
  have hown : s.vm.findClass "SmokeZones$Opening" = some m.cls := findClass_of_methodNamed B.named
  have hlocks := B.notSynchronized
  have hD : va_D (AA L f s.heap.size) (va_pl L f) := hD0.self (sz := s.heap.size)
  generalize hAe : AA L f s.heap.size = A at hD ⊢
  have hA : ∀ q : Nat, s.heap.size ≤ q → A q := fun q h => by rw [← hAe]; exact Or.inr h
  have hS : va_S A s.heap s.heap [] := va_S.rf
  have hl := lv_entry ([.ref q]) (n := 7) (Nat.le_of_ble_eq_true rfl)
  rw [lg_entry_eq]
  generalize (lg_sl ([.ref q]) ++ List.replicate (7 - (lg_sl ([.ref q])).length) Slot.unset).toArray = ls at hl ⊢
  have hl : lv_has ls 7 [(0, .ref q)] := hl
  have ne_q_r : q ≠ r := ne_ci e_q e_r (by decide)
  have ne_r_q : r ≠ q := fun q => ne_q_r q.symm
  refine lv_aload_n hx hb d_Op_measureFlow_0 rfl (lv_at hl 0 rfl) ?_
  refine lv_lconst (v := 0) hx hb d_Op_measureFlow_1 (by decide) ?_
  refine pg_put (C := "SmokeZones$Opening") (T := T_Op) (N := 10) (ty := .long) hx hb hG in_Op ty_Op ok_Op nm_Op hown hK hP hD hS h_q e_q rfl 7 (by decide) (hG _ k261) (fun _ h9 => h9) rfl (by decide +kernel) rfl rfl (Nat.le_of_ble_eq_true rfl) d_Op_measureFlow_2 (fun H locs hP hD hS => ?_)
  have hP : va_P D vwCl (va_pl L (va_up f q (.inr (1, [.ref r, .null, .int wi, .int si, .int to, .int gl, .int br, .long 0, .long hf, .long fa])))) H := hP
  have hD : va_D A (va_pl L (va_up f q (.inr (1, [.ref r, .null, .int wi, .int si, .int to, .int gl, .int br, .long 0, .long hf, .long fa])))) := hD
  have e_1 : (va_up f q (.inr (1, [.ref r, .null, .int wi, .int si, .int to, .int gl, .int br, .long 0, .long hf, .long fa]))) q = .inr (1, [.ref r, .null, .int wi, .int si, .int to, .int gl, .int br, .long 0, .long hf, .long fa]) := va_up_self _ _ _
  have e_2 : (va_up f q (.inr (1, [.ref r, .null, .int wi, .int si, .int to, .int gl, .int br, .long 0, .long hf, .long fa]))) r = .inr (0, [.int ar, .int he, .long ho, .long sm, .long ht, .int sl, .int sa, .int fl]) := (va_up_ne _ _ ne_r_q).trans e_r
  refine lv_aload_n hx hb d_Op_measureFlow_5 rfl (lv_at hl 0 rfl) ?_
  refine lv_lconst (v := 0) hx hb d_Op_measureFlow_6 (by decide) ?_
  refine pg_put (C := "SmokeZones$Opening") (T := T_Op) (N := 10) (ty := .long) hx hb hG in_Op ty_Op ok_Op nm_Op hown hK hP hD hS h_q e_1 rfl 8 (by decide) (hG _ k263) (fun _ h9 => h9) rfl (by decide +kernel) rfl rfl (Nat.le_of_ble_eq_true rfl) d_Op_measureFlow_7 (fun H locs hP hD hS => ?_)
  rw [bx_uu] at hP hD
  have hP : va_P D vwCl (va_pl L (va_up f q (.inr (1, [.ref r, .null, .int wi, .int si, .int to, .int gl, .int br, .long 0, .long 0, .long fa])))) H := hP
  have hD : va_D A (va_pl L (va_up f q (.inr (1, [.ref r, .null, .int wi, .int si, .int to, .int gl, .int br, .long 0, .long 0, .long fa])))) := hD
  have e_3 : (va_up f q (.inr (1, [.ref r, .null, .int wi, .int si, .int to, .int gl, .int br, .long 0, .long 0, .long fa]))) q = .inr (1, [.ref r, .null, .int wi, .int si, .int to, .int gl, .int br, .long 0, .long 0, .long fa]) := va_up_self _ _ _
  have e_4 : (va_up f q (.inr (1, [.ref r, .null, .int wi, .int si, .int to, .int gl, .int br, .long 0, .long 0, .long fa]))) r = .inr (0, [.int ar, .int he, .long ho, .long sm, .long ht, .int sl, .int sa, .int fl]) := (va_up_ne _ _ ne_r_q).trans e_r
  refine lv_aload_n hx hb d_Op_measureFlow_10 rfl (lv_at hl 0 rfl) ?_
  refine kV_ri ⟨hx, hb, hml, hown, hG⟩ (c_Op_isOpen h_q e_3) (cwV 0 hG (gV k462 k463 k464 k9 k465) rfl rfl rfl hd_Op_isOpen ⟨Nat.le_of_ble_eq_true rfl, Nat.le_of_ble_eq_true rfl⟩) hK hP hS h_q e_3 rfl rfl hl.1 rfl (Nat.le_of_ble_eq_true rfl) ⟨Nat.le_of_ble_eq_true rfl, Nat.le_of_ble_eq_true rfl⟩ d_Op_measureFlow_11 (fun locs hS => ?_)
  refine lv_if_ne (tgt := 18) hx hb d_Op_measureFlow_14 (by decide) (fun c_5 => ?_) (fun c_5 => ?_)
  · refine lv_aload_n hx hb d_Op_measureFlow_18 rfl (lv_at hl 0 rfl) ?_
    refine pg_get (C := "SmokeZones$Opening") (T := T_Op) (N := 10) hx hb hG in_Op hown hK hP h_q e_3 rfl 0 (by decide) (hG _ k253) (fun _ h9 => h9) rfl d_Op_measureFlow_19 ?_
    refine lv_aload_n hx hb d_Op_measureFlow_22 rfl (lv_at hl 0 rfl) ?_
    refine pg_get (C := "SmokeZones$Opening") (T := T_Op) (N := 10) hx hb hG in_Op hown hK hP h_q e_3 rfl 3 (by decide) (hG _ k256) (fun _ h9 => h9) rfl d_Op_measureFlow_23 ?_
    refine lv_aload_n hx hb d_Op_measureFlow_26 rfl (lv_at hl 0 rfl) ?_
    refine pg_get (C := "SmokeZones$Opening") (T := T_Op) (N := 10) hx hb hG in_Op hown hK hP h_q e_3 rfl 4 (by decide) (hG _ k257) (fun _ h9 => h9) rfl d_Op_measureFlow_27 ?_
    refine kV_rl ⟨hx, hb, hml, hown, hG⟩ (c_Ro_covered h_r e_4) (cwV 2 hG (gV k466 k467 k468 k8 k469) rfl rfl rfl hd_Ro_covered ⟨Nat.le_of_ble_eq_true rfl, Nat.le_of_ble_eq_true rfl⟩) hK hP hS h_r e_4 rfl rfl hl.1 rfl (Nat.le_of_ble_eq_true rfl) ⟨Nat.le_of_ble_eq_true rfl, Nat.le_of_ble_eq_true rfl⟩ d_Op_measureFlow_30 (fun locs hS => ?_)
    refine lv_lstore_n (lv' := [(1, .long (m_cov ar he sm si to)), (0, .ref q)]) hx hb d_Op_measureFlow_33 rfl hl (by decide) rfl (fun ls hl => ?_)
    refine lv_aload_n hx hb d_Op_measureFlow_34 rfl (lv_at hl 1 rfl) ?_
    refine pg_get (C := "SmokeZones$Opening") (T := T_Op) (N := 10) hx hb hG in_Op hown hK hP h_q e_3 rfl 1 (by decide) (hG _ k254) (fun _ h9 => h9) rfl d_Op_measureFlow_35 ?_
    refine lv_ifnonnullN hx hb d_Op_measureFlow_38 ?_
    refine lv_lconst (v := 0) hx hb d_Op_measureFlow_41 (by decide) ?_
    refine lv_goto (tgt := 60) hx hb d_Op_measureFlow_42 (by decide) ?_
    refine lv_lstore_n (lv' := [(3, .long 0), (1, .long (m_cov ar he sm si to)), (0, .ref q)]) hx hb d_Op_measureFlow_60 rfl hl (by decide) rfl (fun ls hl => ?_)
    refine lv_lload_n hx hb d_Op_measureFlow_61 rfl (lv_at hl 1 rfl) ?_
    refine lv_lload_n hx hb d_Op_measureFlow_62 rfl (lv_at hl 0 rfl) ?_
    refine lc_le (tgt := 100) hx hb d_Op_measureFlow_63 d_Op_measureFlow_64 (by decide) (fun c_6 => ?_) (fun c_6 => ?_)
    · refine lv_aload_n hx hb d_Op_measureFlow_100 rfl (lv_at hl 2 rfl) ?_
      refine pg_get (C := "SmokeZones$Opening") (T := T_Op) (N := 10) hx hb hG in_Op hown hK hP h_q e_3 rfl 1 (by decide) (hG _ k254) (fun _ h9 => h9) rfl d_Op_measureFlow_101 ?_
      refine lv_ifnullN (tgt := 146) hx hb d_Op_measureFlow_104 (by decide) ?_
      have hF : (va_up f q (openE r .null wi si to gl br (m_flN (m_open gl br) wi (m_cov ar he sm si to) sm) (m_fhN (m_open gl br) wi (m_cov ar he sm si to) sm ht) fa)) = (va_up f q (.inr (1, [.ref r, .null, .int wi, .int si, .int to, .int gl, .int br, .long 0, .long 0, .long fa]))) := by
        (try simp only [m_flN, m_fhN, if_neg c_5, if_pos c_6])
        first | done | exact rfl | exact up_same e_q
      rw [← hF] at hP hD
      exact W.vret hx hb hret (fun t ht hW => ⟨⟨(), rfl, trivial, by rw [ht]; exact hP, va_K.moved hW.alike hK, hD⟩, hS.F ht⟩) hS.2.2 d_Op_measureFlow_146
    · refine lv_aload_n hx hb d_Op_measureFlow_67 rfl (lv_at hl 2 rfl) ?_
      refine lv_aload_n hx hb d_Op_measureFlow_68 rfl (lv_at hl 2 rfl) ?_
      refine lv_aload_n hx hb d_Op_measureFlow_69 rfl (lv_at hl 2 rfl) ?_
      refine pg_get (C := "SmokeZones$Opening") (T := T_Op) (N := 10) hx hb hG in_Op hown hK hP h_q e_3 rfl 0 (by decide) (hG _ k253) (fun _ h9 => h9) rfl d_Op_measureFlow_70 ?_
      refine lv_lload_n hx hb d_Op_measureFlow_73 rfl (lv_at hl 1 rfl) ?_
      refine lv_lload_n hx hb d_Op_measureFlow_74 rfl (lv_at hl 0 rfl) ?_
      refine lv_lsub hx hb d_Op_measureFlow_75 ?_
      refine kV_rl ⟨hx, hb, hml, hown, hG⟩ (c_Op_flowFrom h_q e_3 h_r e_4) (cwV 2 hG (gV k481 k482 k483 k9 k484) rfl rfl rfl hd_Op_flowFrom ⟨Nat.le_of_ble_eq_true rfl, Nat.le_of_ble_eq_true rfl⟩) hK hP hS h_q e_3 rfl rfl hl.1 rfl (Nat.le_of_ble_eq_true rfl) ⟨Nat.le_of_ble_eq_true rfl, Nat.le_of_ble_eq_true rfl⟩ d_Op_measureFlow_76 (fun locs hS => ?_)
      refine pg_put (C := "SmokeZones$Opening") (T := T_Op) (N := 10) (ty := .long) hx hb hG in_Op ty_Op ok_Op nm_Op hown hK hP hD hS h_q e_3 rfl 7 (by decide) (hG _ k261) (fun _ h9 => h9) rfl (by decide +kernel) rfl rfl (Nat.le_of_ble_eq_true rfl) d_Op_measureFlow_79 (fun H locs hP hD hS => ?_)
      rw [bx_uu] at hP hD
      have hP : va_P D vwCl (va_pl L (va_up f q (.inr (1, [.ref r, .null, .int wi, .int si, .int to, .int gl, .int br, .long (m_ff wi sm ((m_cov ar he sm si to) - 0)), .long 0, .long fa])))) H := hP
      have hD : va_D A (va_pl L (va_up f q (.inr (1, [.ref r, .null, .int wi, .int si, .int to, .int gl, .int br, .long (m_ff wi sm ((m_cov ar he sm si to) - 0)), .long 0, .long fa])))) := hD
      have e_7 : (va_up f q (.inr (1, [.ref r, .null, .int wi, .int si, .int to, .int gl, .int br, .long (m_ff wi sm ((m_cov ar he sm si to) - 0)), .long 0, .long fa]))) q = .inr (1, [.ref r, .null, .int wi, .int si, .int to, .int gl, .int br, .long (m_ff wi sm ((m_cov ar he sm si to) - 0)), .long 0, .long fa]) := va_up_self _ _ _
      have e_8 : (va_up f q (.inr (1, [.ref r, .null, .int wi, .int si, .int to, .int gl, .int br, .long (m_ff wi sm ((m_cov ar he sm si to) - 0)), .long 0, .long fa]))) r = .inr (0, [.int ar, .int he, .long ho, .long sm, .long ht, .int sl, .int sa, .int fl]) := (va_up_ne _ _ ne_r_q).trans e_r
      refine lv_aload_n hx hb d_Op_measureFlow_82 rfl (lv_at hl 2 rfl) ?_
      refine lv_aload_n hx hb d_Op_measureFlow_83 rfl (lv_at hl 2 rfl) ?_
      refine pg_get (C := "SmokeZones$Opening") (T := T_Op) (N := 10) hx hb hG in_Op hown hK hP h_q e_7 rfl 0 (by decide) (hG _ k253) (fun _ h9 => h9) rfl d_Op_measureFlow_84 ?_
      refine lv_aload_n hx hb d_Op_measureFlow_87 rfl (lv_at hl 2 rfl) ?_
      refine pg_get (C := "SmokeZones$Opening") (T := T_Op) (N := 10) hx hb hG in_Op hown hK hP h_q e_7 rfl 7 (by decide) (hG _ k261) (fun _ h9 => h9) rfl d_Op_measureFlow_88 ?_
      refine kV_rl ⟨hx, hb, hml, hown, hG⟩ (c_Ro_heatWith h_r e_8) (cwV 1 hG (gV k487 k488 k489 k8 k490) rfl rfl rfl hd_Ro_heatWith ⟨Nat.le_of_ble_eq_true rfl, Nat.le_of_ble_eq_true rfl⟩) hK hP hS h_r e_8 rfl rfl hl.1 rfl (Nat.le_of_ble_eq_true rfl) ⟨Nat.le_of_ble_eq_true rfl, Nat.le_of_ble_eq_true rfl⟩ d_Op_measureFlow_91 (fun locs hS => ?_)
      refine pg_put (C := "SmokeZones$Opening") (T := T_Op) (N := 10) (ty := .long) hx hb hG in_Op ty_Op ok_Op nm_Op hown hK hP hD hS h_q e_7 rfl 8 (by decide) (hG _ k263) (fun _ h9 => h9) rfl (by decide +kernel) rfl rfl (Nat.le_of_ble_eq_true rfl) d_Op_measureFlow_94 (fun H locs hP hD hS => ?_)
      rw [bx_uu] at hP hD
      have hP : va_P D vwCl (va_pl L (va_up f q (.inr (1, [.ref r, .null, .int wi, .int si, .int to, .int gl, .int br, .long (m_ff wi sm ((m_cov ar he sm si to) - 0)), .long (m_hw sm ht (m_ff wi sm ((m_cov ar he sm si to) - 0))), .long fa])))) H := hP
      have hD : va_D A (va_pl L (va_up f q (.inr (1, [.ref r, .null, .int wi, .int si, .int to, .int gl, .int br, .long (m_ff wi sm ((m_cov ar he sm si to) - 0)), .long (m_hw sm ht (m_ff wi sm ((m_cov ar he sm si to) - 0))), .long fa])))) := hD
      have e_9 : (va_up f q (.inr (1, [.ref r, .null, .int wi, .int si, .int to, .int gl, .int br, .long (m_ff wi sm ((m_cov ar he sm si to) - 0)), .long (m_hw sm ht (m_ff wi sm ((m_cov ar he sm si to) - 0))), .long fa]))) q = .inr (1, [.ref r, .null, .int wi, .int si, .int to, .int gl, .int br, .long (m_ff wi sm ((m_cov ar he sm si to) - 0)), .long (m_hw sm ht (m_ff wi sm ((m_cov ar he sm si to) - 0))), .long fa]) := va_up_self _ _ _
      have e_10 : (va_up f q (.inr (1, [.ref r, .null, .int wi, .int si, .int to, .int gl, .int br, .long (m_ff wi sm ((m_cov ar he sm si to) - 0)), .long (m_hw sm ht (m_ff wi sm ((m_cov ar he sm si to) - 0))), .long fa]))) r = .inr (0, [.int ar, .int he, .long ho, .long sm, .long ht, .int sl, .int sa, .int fl]) := (va_up_ne _ _ ne_r_q).trans e_r
      refine lv_goto (tgt := 146) hx hb d_Op_measureFlow_97 (by decide) ?_
      have hF : (va_up f q (openE r .null wi si to gl br (m_flN (m_open gl br) wi (m_cov ar he sm si to) sm) (m_fhN (m_open gl br) wi (m_cov ar he sm si to) sm ht) fa)) = (va_up f q (.inr (1, [.ref r, .null, .int wi, .int si, .int to, .int gl, .int br, .long (m_ff wi sm ((m_cov ar he sm si to) - 0)), .long (m_hw sm ht (m_ff wi sm ((m_cov ar he sm si to) - 0))), .long fa]))) := by
        (try simp only [m_flN, m_fhN, if_neg c_5, if_neg c_6])
        first | done | exact rfl | exact up_same e_q
      rw [← hF] at hP hD
      exact W.vret hx hb hret (fun t ht hW => ⟨⟨(), rfl, trivial, by rw [ht]; exact hP, va_K.moved hW.alike hK, hD⟩, hS.F ht⟩) hS.2.2 d_Op_measureFlow_146
  · have hF : (va_up f q (openE r .null wi si to gl br (m_flN (m_open gl br) wi (m_cov ar he sm si to) sm) (m_fhN (m_open gl br) wi (m_cov ar he sm si to) sm ht) fa)) = (va_up f q (.inr (1, [.ref r, .null, .int wi, .int si, .int to, .int gl, .int br, .long 0, .long 0, .long fa]))) := by
      (try simp only [m_flN, m_fhN, if_pos c_5])
      first | done | exact rfl | exact up_same e_q
    rw [← hF] at hP hD
    exact W.vret hx hb hret (fun t ht hW => ⟨⟨(), rfl, trivial, by rw [ht]; exact hP, va_K.moved hW.alike hK, hD⟩, hS.F ht⟩) hS.2.2 d_Op_measureFlow_17

set_option maxHeartbeats 4000000 in
set_option maxRecDepth 100000 in
theorem c_Op_measureFlow_s {l : Launch} {D : va_G} {TY : List (ClassId × FieldType)} {L : List Nat} {f : Nat → va_E} {sz : Nat} {q : Nat} {wi : Int32} {si : Int32} {to : Int32} {gl : Int32} {br : Int32} {fw : Int64} {hf : Int64} {fa : Int64} {r : Nat} {ar : Int32} {he : Int32} {ho : Int64} {sm : Int64} {ht : Int64} {sl : Int32} {sa : Int32} {fl : Int32} {g : Nat} {arg : Int32} {heg : Int32} {hog : Int64} {smg : Int64} {htg : Int64} {slg : Int32} {sag : Int32} {flg : Int32} (h_q : q ∈ L) (e_q : f q = openE r (.ref g) wi si to gl br fw hf fa) (h_r : r ∈ L) (e_r : f r = roomE ar he ho sm ht sl sa fl) (h_g : g ∈ L) (e_g : f g = roomE arg heg hog smg htg slg sag flg) : Met l y_Op_measureFlow (WS y_Op_measureFlow b_Op_measureFlow 7 none) { frames := 3, cells := 0, slots := 0, locals := 62 } (va_Pc [.ref q] (WP D TY L f sz)) (Xv D TY L (va_up f q (openE r (.ref g) wi si to gl br (m_flS (m_open gl br) wi (m_cov ar he sm si to) (m_cov arg heg smg si to) sm smg) (m_fhS (m_open gl br) wi (m_cov ar he sm si to) (m_cov arg heg smg si to) sm ht smg htg) fa)) (AA L f sz)) 0 0 (AA L f sz) := by
  refine Met.ofW (cc := b_Op_measureFlow) (maxL := 7) (ret := none) (by decide) rfl ?_
  intro p e s m args below meth c s₁ B hml hv
  obtain ⟨rfl, hsz, hP, hK, hD0⟩ := hv
  subst hsz
  have hx := B.exec
  have hb := B.bytes
  have hret := B.returns
  have hts := atoms_spec (ws := WS y_Op_measureFlow b_Op_measureFlow 7 none) B.pre
  have hG : ∀ w ∈ GW, w.before _ s = true := fun w h => hts w (List.mem_cons_of_mem _ h)
  have hown : s.vm.findClass "SmokeZones$Opening" = some m.cls := findClass_of_methodNamed B.named
  have hlocks := B.notSynchronized
  have hD : va_D (AA L f s.heap.size) (va_pl L f) := hD0.self (sz := s.heap.size)
  generalize hAe : AA L f s.heap.size = A at hD ⊢
  have hA : ∀ q : Nat, s.heap.size ≤ q → A q := fun q h => by rw [← hAe]; exact Or.inr h
  have hS : va_S A s.heap s.heap [] := va_S.rf
  have hl := lv_entry ([.ref q]) (n := 7) (Nat.le_of_ble_eq_true rfl)
  rw [lg_entry_eq]
  generalize (lg_sl ([.ref q]) ++ List.replicate (7 - (lg_sl ([.ref q])).length) Slot.unset).toArray = ls at hl ⊢
  have hl : lv_has ls 7 [(0, .ref q)] := hl
  have ne_q_r : q ≠ r := ne_ci e_q e_r (by decide)
  have ne_r_q : r ≠ q := fun q => ne_q_r q.symm
  have ne_q_g : q ≠ g := ne_ci e_q e_g (by decide)
  have ne_g_q : g ≠ q := fun q => ne_q_g q.symm
  refine lv_aload_n hx hb d_Op_measureFlow_0 rfl (lv_at hl 0 rfl) ?_
  refine lv_lconst (v := 0) hx hb d_Op_measureFlow_1 (by decide) ?_
  refine pg_put (C := "SmokeZones$Opening") (T := T_Op) (N := 10) (ty := .long) hx hb hG in_Op ty_Op ok_Op nm_Op hown hK hP hD hS h_q e_q rfl 7 (by decide) (hG _ k261) (fun _ h9 => h9) rfl (by decide +kernel) rfl rfl (Nat.le_of_ble_eq_true rfl) d_Op_measureFlow_2 (fun H locs hP hD hS => ?_)
  have hP : va_P D vwCl (va_pl L (va_up f q (.inr (1, [.ref r, .ref g, .int wi, .int si, .int to, .int gl, .int br, .long 0, .long hf, .long fa])))) H := hP
  have hD : va_D A (va_pl L (va_up f q (.inr (1, [.ref r, .ref g, .int wi, .int si, .int to, .int gl, .int br, .long 0, .long hf, .long fa])))) := hD
  have e_1 : (va_up f q (.inr (1, [.ref r, .ref g, .int wi, .int si, .int to, .int gl, .int br, .long 0, .long hf, .long fa]))) q = .inr (1, [.ref r, .ref g, .int wi, .int si, .int to, .int gl, .int br, .long 0, .long hf, .long fa]) := va_up_self _ _ _
  have e_2 : (va_up f q (.inr (1, [.ref r, .ref g, .int wi, .int si, .int to, .int gl, .int br, .long 0, .long hf, .long fa]))) r = .inr (0, [.int ar, .int he, .long ho, .long sm, .long ht, .int sl, .int sa, .int fl]) := (va_up_ne _ _ ne_r_q).trans e_r
  have e_3 : (va_up f q (.inr (1, [.ref r, .ref g, .int wi, .int si, .int to, .int gl, .int br, .long 0, .long hf, .long fa]))) g = .inr (0, [.int arg, .int heg, .long hog, .long smg, .long htg, .int slg, .int sag, .int flg]) := (va_up_ne _ _ ne_g_q).trans e_g
  refine lv_aload_n hx hb d_Op_measureFlow_5 rfl (lv_at hl 0 rfl) ?_
  refine lv_lconst (v := 0) hx hb d_Op_measureFlow_6 (by decide) ?_
  refine pg_put (C := "SmokeZones$Opening") (T := T_Op) (N := 10) (ty := .long) hx hb hG in_Op ty_Op ok_Op nm_Op hown hK hP hD hS h_q e_1 rfl 8 (by decide) (hG _ k263) (fun _ h9 => h9) rfl (by decide +kernel) rfl rfl (Nat.le_of_ble_eq_true rfl) d_Op_measureFlow_7 (fun H locs hP hD hS => ?_)
  rw [bx_uu] at hP hD
  have hP : va_P D vwCl (va_pl L (va_up f q (.inr (1, [.ref r, .ref g, .int wi, .int si, .int to, .int gl, .int br, .long 0, .long 0, .long fa])))) H := hP
  have hD : va_D A (va_pl L (va_up f q (.inr (1, [.ref r, .ref g, .int wi, .int si, .int to, .int gl, .int br, .long 0, .long 0, .long fa])))) := hD
  have e_4 : (va_up f q (.inr (1, [.ref r, .ref g, .int wi, .int si, .int to, .int gl, .int br, .long 0, .long 0, .long fa]))) q = .inr (1, [.ref r, .ref g, .int wi, .int si, .int to, .int gl, .int br, .long 0, .long 0, .long fa]) := va_up_self _ _ _
  have e_5 : (va_up f q (.inr (1, [.ref r, .ref g, .int wi, .int si, .int to, .int gl, .int br, .long 0, .long 0, .long fa]))) r = .inr (0, [.int ar, .int he, .long ho, .long sm, .long ht, .int sl, .int sa, .int fl]) := (va_up_ne _ _ ne_r_q).trans e_r
  have e_6 : (va_up f q (.inr (1, [.ref r, .ref g, .int wi, .int si, .int to, .int gl, .int br, .long 0, .long 0, .long fa]))) g = .inr (0, [.int arg, .int heg, .long hog, .long smg, .long htg, .int slg, .int sag, .int flg]) := (va_up_ne _ _ ne_g_q).trans e_g
  refine lv_aload_n hx hb d_Op_measureFlow_10 rfl (lv_at hl 0 rfl) ?_
  refine kV_ri ⟨hx, hb, hml, hown, hG⟩ (c_Op_isOpen h_q e_4) (cwV 0 hG (gV k462 k463 k464 k9 k465) rfl rfl rfl hd_Op_isOpen ⟨Nat.le_of_ble_eq_true rfl, Nat.le_of_ble_eq_true rfl⟩) hK hP hS h_q e_4 rfl rfl hl.1 rfl (Nat.le_of_ble_eq_true rfl) ⟨Nat.le_of_ble_eq_true rfl, Nat.le_of_ble_eq_true rfl⟩ d_Op_measureFlow_11 (fun locs hS => ?_)
  refine lv_if_ne (tgt := 18) hx hb d_Op_measureFlow_14 (by decide) (fun c_7 => ?_) (fun c_7 => ?_)
  · refine lv_aload_n hx hb d_Op_measureFlow_18 rfl (lv_at hl 0 rfl) ?_
    refine pg_get (C := "SmokeZones$Opening") (T := T_Op) (N := 10) hx hb hG in_Op hown hK hP h_q e_4 rfl 0 (by decide) (hG _ k253) (fun _ h9 => h9) rfl d_Op_measureFlow_19 ?_
    refine lv_aload_n hx hb d_Op_measureFlow_22 rfl (lv_at hl 0 rfl) ?_
    refine pg_get (C := "SmokeZones$Opening") (T := T_Op) (N := 10) hx hb hG in_Op hown hK hP h_q e_4 rfl 3 (by decide) (hG _ k256) (fun _ h9 => h9) rfl d_Op_measureFlow_23 ?_
    refine lv_aload_n hx hb d_Op_measureFlow_26 rfl (lv_at hl 0 rfl) ?_
    refine pg_get (C := "SmokeZones$Opening") (T := T_Op) (N := 10) hx hb hG in_Op hown hK hP h_q e_4 rfl 4 (by decide) (hG _ k257) (fun _ h9 => h9) rfl d_Op_measureFlow_27 ?_
    refine kV_rl ⟨hx, hb, hml, hown, hG⟩ (c_Ro_covered h_r e_5) (cwV 2 hG (gV k466 k467 k468 k8 k469) rfl rfl rfl hd_Ro_covered ⟨Nat.le_of_ble_eq_true rfl, Nat.le_of_ble_eq_true rfl⟩) hK hP hS h_r e_5 rfl rfl hl.1 rfl (Nat.le_of_ble_eq_true rfl) ⟨Nat.le_of_ble_eq_true rfl, Nat.le_of_ble_eq_true rfl⟩ d_Op_measureFlow_30 (fun locs hS => ?_)
    refine lv_lstore_n (lv' := [(1, .long (m_cov ar he sm si to)), (0, .ref q)]) hx hb d_Op_measureFlow_33 rfl hl (by decide) rfl (fun ls hl => ?_)
    refine lv_aload_n hx hb d_Op_measureFlow_34 rfl (lv_at hl 1 rfl) ?_
    refine pg_get (C := "SmokeZones$Opening") (T := T_Op) (N := 10) hx hb hG in_Op hown hK hP h_q e_4 rfl 1 (by decide) (hG _ k254) (fun _ h9 => h9) rfl d_Op_measureFlow_35 ?_
    refine lv_ifnonnull (tgt := 45) hx hb d_Op_measureFlow_38 (by decide) ?_
    refine lv_aload_n hx hb d_Op_measureFlow_45 rfl (lv_at hl 1 rfl) ?_
    refine pg_get (C := "SmokeZones$Opening") (T := T_Op) (N := 10) hx hb hG in_Op hown hK hP h_q e_4 rfl 1 (by decide) (hG _ k254) (fun _ h9 => h9) rfl d_Op_measureFlow_46 ?_
    refine lv_aload_n hx hb d_Op_measureFlow_49 rfl (lv_at hl 1 rfl) ?_
    refine pg_get (C := "SmokeZones$Opening") (T := T_Op) (N := 10) hx hb hG in_Op hown hK hP h_q e_4 rfl 3 (by decide) (hG _ k256) (fun _ h9 => h9) rfl d_Op_measureFlow_50 ?_
    refine lv_aload_n hx hb d_Op_measureFlow_53 rfl (lv_at hl 1 rfl) ?_
    refine pg_get (C := "SmokeZones$Opening") (T := T_Op) (N := 10) hx hb hG in_Op hown hK hP h_q e_4 rfl 4 (by decide) (hG _ k257) (fun _ h9 => h9) rfl d_Op_measureFlow_54 ?_
    refine kV_rl ⟨hx, hb, hml, hown, hG⟩ (c_Ro_covered h_g e_6) (cwV 2 hG (gV k466 k467 k468 k8 k469) rfl rfl rfl hd_Ro_covered ⟨Nat.le_of_ble_eq_true rfl, Nat.le_of_ble_eq_true rfl⟩) hK hP hS h_g e_6 rfl rfl hl.1 rfl (Nat.le_of_ble_eq_true rfl) ⟨Nat.le_of_ble_eq_true rfl, Nat.le_of_ble_eq_true rfl⟩ d_Op_measureFlow_57 (fun locs hS => ?_)
    refine lv_lstore_n (lv' := [(3, .long (m_cov arg heg smg si to)), (1, .long (m_cov ar he sm si to)), (0, .ref q)]) hx hb d_Op_measureFlow_60 rfl hl (by decide) rfl (fun ls hl => ?_)
    refine lv_lload_n hx hb d_Op_measureFlow_61 rfl (lv_at hl 1 rfl) ?_
    refine lv_lload_n hx hb d_Op_measureFlow_62 rfl (lv_at hl 0 rfl) ?_
    refine lc_le (tgt := 100) hx hb d_Op_measureFlow_63 d_Op_measureFlow_64 (by decide) (fun c_8 => ?_) (fun c_8 => ?_)
    · refine lv_aload_n hx hb d_Op_measureFlow_100 rfl (lv_at hl 2 rfl) ?_
      refine pg_get (C := "SmokeZones$Opening") (T := T_Op) (N := 10) hx hb hG in_Op hown hK hP h_q e_4 rfl 1 (by decide) (hG _ k254) (fun _ h9 => h9) rfl d_Op_measureFlow_101 ?_
      refine lv_ifnull hx hb d_Op_measureFlow_104 ?_
      refine lv_lload_n hx hb d_Op_measureFlow_107 rfl (lv_at hl 0 rfl) ?_
      refine lv_lload_n hx hb d_Op_measureFlow_108 rfl (lv_at hl 1 rfl) ?_
      refine lc_le (tgt := 146) hx hb d_Op_measureFlow_109 d_Op_measureFlow_110 (by decide) (fun c_9 => ?_) (fun c_9 => ?_)
      · have hF : (va_up f q (openE r (.ref g) wi si to gl br (m_flS (m_open gl br) wi (m_cov ar he sm si to) (m_cov arg heg smg si to) sm smg) (m_fhS (m_open gl br) wi (m_cov ar he sm si to) (m_cov arg heg smg si to) sm ht smg htg) fa)) = (va_up f q (.inr (1, [.ref r, .ref g, .int wi, .int si, .int to, .int gl, .int br, .long 0, .long 0, .long fa]))) := by
          (try simp only [m_flS, m_fhS, if_neg c_7, if_pos c_8, if_pos c_9])
          first | done | exact rfl | exact up_same e_q
        rw [← hF] at hP hD
        exact W.vret hx hb hret (fun t ht hW => ⟨⟨(), rfl, trivial, by rw [ht]; exact hP, va_K.moved hW.alike hK, hD⟩, hS.F ht⟩) hS.2.2 d_Op_measureFlow_146
      · refine lv_aload_n hx hb d_Op_measureFlow_113 rfl (lv_at hl 2 rfl) ?_
        refine lv_aload_n hx hb d_Op_measureFlow_114 rfl (lv_at hl 2 rfl) ?_
        refine pg_get (C := "SmokeZones$Opening") (T := T_Op) (N := 10) hx hb hG in_Op hown hK hP h_q e_4 rfl 1 (by decide) (hG _ k254) (fun _ h9 => h9) rfl d_Op_measureFlow_115 ?_
        refine lv_lload_n hx hb d_Op_measureFlow_118 rfl (lv_at hl 0 rfl) ?_
        refine lv_lload_n hx hb d_Op_measureFlow_119 rfl (lv_at hl 1 rfl) ?_
        refine lv_lsub hx hb d_Op_measureFlow_120 ?_
        refine kV_rl ⟨hx, hb, hml, hown, hG⟩ (c_Op_flowFrom h_q e_4 h_g e_6) (cwV 2 hG (gV k481 k482 k483 k9 k484) rfl rfl rfl hd_Op_flowFrom ⟨Nat.le_of_ble_eq_true rfl, Nat.le_of_ble_eq_true rfl⟩) hK hP hS h_q e_4 rfl rfl hl.1 rfl (Nat.le_of_ble_eq_true rfl) ⟨Nat.le_of_ble_eq_true rfl, Nat.le_of_ble_eq_true rfl⟩ d_Op_measureFlow_121 (fun locs hS => ?_)
        refine lv_lstore (lv' := [(5, .long (m_ff wi smg ((m_cov arg heg smg si to) - (m_cov ar he sm si to)))), (3, .long (m_cov arg heg smg si to)), (1, .long (m_cov ar he sm si to)), (0, .ref q)]) hx hb d_Op_measureFlow_124 hl (by decide) rfl (fun ls hl => ?_)
        refine lv_aload_n hx hb d_Op_measureFlow_126 rfl (lv_at hl 3 rfl) ?_
        refine lv_lload hx hb d_Op_measureFlow_127 (lv_at hl 0 rfl) ?_
        refine lv_lneg hx hb d_Op_measureFlow_129 ?_
        refine pg_put (C := "SmokeZones$Opening") (T := T_Op) (N := 10) (ty := .long) hx hb hG in_Op ty_Op ok_Op nm_Op hown hK hP hD hS h_q e_4 rfl 7 (by decide) (hG _ k261) (fun _ h9 => h9) rfl (by decide +kernel) rfl rfl (Nat.le_of_ble_eq_true rfl) d_Op_measureFlow_130 (fun H locs hP hD hS => ?_)
        rw [bx_uu] at hP hD
        have hP : va_P D vwCl (va_pl L (va_up f q (.inr (1, [.ref r, .ref g, .int wi, .int si, .int to, .int gl, .int br, .long (-(m_ff wi smg ((m_cov arg heg smg si to) - (m_cov ar he sm si to)))), .long 0, .long fa])))) H := hP
        have hD : va_D A (va_pl L (va_up f q (.inr (1, [.ref r, .ref g, .int wi, .int si, .int to, .int gl, .int br, .long (-(m_ff wi smg ((m_cov arg heg smg si to) - (m_cov ar he sm si to)))), .long 0, .long fa])))) := hD
        have e_10 : (va_up f q (.inr (1, [.ref r, .ref g, .int wi, .int si, .int to, .int gl, .int br, .long (-(m_ff wi smg ((m_cov arg heg smg si to) - (m_cov ar he sm si to)))), .long 0, .long fa]))) q = .inr (1, [.ref r, .ref g, .int wi, .int si, .int to, .int gl, .int br, .long (-(m_ff wi smg ((m_cov arg heg smg si to) - (m_cov ar he sm si to)))), .long 0, .long fa]) := va_up_self _ _ _
        have e_11 : (va_up f q (.inr (1, [.ref r, .ref g, .int wi, .int si, .int to, .int gl, .int br, .long (-(m_ff wi smg ((m_cov arg heg smg si to) - (m_cov ar he sm si to)))), .long 0, .long fa]))) r = .inr (0, [.int ar, .int he, .long ho, .long sm, .long ht, .int sl, .int sa, .int fl]) := (va_up_ne _ _ ne_r_q).trans e_r
        have e_12 : (va_up f q (.inr (1, [.ref r, .ref g, .int wi, .int si, .int to, .int gl, .int br, .long (-(m_ff wi smg ((m_cov arg heg smg si to) - (m_cov ar he sm si to)))), .long 0, .long fa]))) g = .inr (0, [.int arg, .int heg, .long hog, .long smg, .long htg, .int slg, .int sag, .int flg]) := (va_up_ne _ _ ne_g_q).trans e_g
        refine lv_aload_n hx hb d_Op_measureFlow_133 rfl (lv_at hl 3 rfl) ?_
        refine lv_aload_n hx hb d_Op_measureFlow_134 rfl (lv_at hl 3 rfl) ?_
        refine pg_get (C := "SmokeZones$Opening") (T := T_Op) (N := 10) hx hb hG in_Op hown hK hP h_q e_10 rfl 1 (by decide) (hG _ k254) (fun _ h9 => h9) rfl d_Op_measureFlow_135 ?_
        refine lv_lload hx hb d_Op_measureFlow_138 (lv_at hl 0 rfl) ?_
        refine kV_rl ⟨hx, hb, hml, hown, hG⟩ (c_Ro_heatWith h_g e_12) (cwV 1 hG (gV k487 k488 k489 k8 k490) rfl rfl rfl hd_Ro_heatWith ⟨Nat.le_of_ble_eq_true rfl, Nat.le_of_ble_eq_true rfl⟩) hK hP hS h_g e_12 rfl rfl hl.1 rfl (Nat.le_of_ble_eq_true rfl) ⟨Nat.le_of_ble_eq_true rfl, Nat.le_of_ble_eq_true rfl⟩ d_Op_measureFlow_140 (fun locs hS => ?_)
        refine pg_put (C := "SmokeZones$Opening") (T := T_Op) (N := 10) (ty := .long) hx hb hG in_Op ty_Op ok_Op nm_Op hown hK hP hD hS h_q e_10 rfl 8 (by decide) (hG _ k263) (fun _ h9 => h9) rfl (by decide +kernel) rfl rfl (Nat.le_of_ble_eq_true rfl) d_Op_measureFlow_143 (fun H locs hP hD hS => ?_)
        rw [bx_uu] at hP hD
        have hP : va_P D vwCl (va_pl L (va_up f q (.inr (1, [.ref r, .ref g, .int wi, .int si, .int to, .int gl, .int br, .long (-(m_ff wi smg ((m_cov arg heg smg si to) - (m_cov ar he sm si to)))), .long (m_hw smg htg (m_ff wi smg ((m_cov arg heg smg si to) - (m_cov ar he sm si to)))), .long fa])))) H := hP
        have hD : va_D A (va_pl L (va_up f q (.inr (1, [.ref r, .ref g, .int wi, .int si, .int to, .int gl, .int br, .long (-(m_ff wi smg ((m_cov arg heg smg si to) - (m_cov ar he sm si to)))), .long (m_hw smg htg (m_ff wi smg ((m_cov arg heg smg si to) - (m_cov ar he sm si to)))), .long fa])))) := hD
        have e_13 : (va_up f q (.inr (1, [.ref r, .ref g, .int wi, .int si, .int to, .int gl, .int br, .long (-(m_ff wi smg ((m_cov arg heg smg si to) - (m_cov ar he sm si to)))), .long (m_hw smg htg (m_ff wi smg ((m_cov arg heg smg si to) - (m_cov ar he sm si to)))), .long fa]))) q = .inr (1, [.ref r, .ref g, .int wi, .int si, .int to, .int gl, .int br, .long (-(m_ff wi smg ((m_cov arg heg smg si to) - (m_cov ar he sm si to)))), .long (m_hw smg htg (m_ff wi smg ((m_cov arg heg smg si to) - (m_cov ar he sm si to)))), .long fa]) := va_up_self _ _ _
        have e_14 : (va_up f q (.inr (1, [.ref r, .ref g, .int wi, .int si, .int to, .int gl, .int br, .long (-(m_ff wi smg ((m_cov arg heg smg si to) - (m_cov ar he sm si to)))), .long (m_hw smg htg (m_ff wi smg ((m_cov arg heg smg si to) - (m_cov ar he sm si to)))), .long fa]))) r = .inr (0, [.int ar, .int he, .long ho, .long sm, .long ht, .int sl, .int sa, .int fl]) := (va_up_ne _ _ ne_r_q).trans e_r
        have e_15 : (va_up f q (.inr (1, [.ref r, .ref g, .int wi, .int si, .int to, .int gl, .int br, .long (-(m_ff wi smg ((m_cov arg heg smg si to) - (m_cov ar he sm si to)))), .long (m_hw smg htg (m_ff wi smg ((m_cov arg heg smg si to) - (m_cov ar he sm si to)))), .long fa]))) g = .inr (0, [.int arg, .int heg, .long hog, .long smg, .long htg, .int slg, .int sag, .int flg]) := (va_up_ne _ _ ne_g_q).trans e_g
        have hF : (va_up f q (openE r (.ref g) wi si to gl br (m_flS (m_open gl br) wi (m_cov ar he sm si to) (m_cov arg heg smg si to) sm smg) (m_fhS (m_open gl br) wi (m_cov ar he sm si to) (m_cov arg heg smg si to) sm ht smg htg) fa)) = (va_up f q (.inr (1, [.ref r, .ref g, .int wi, .int si, .int to, .int gl, .int br, .long (-(m_ff wi smg ((m_cov arg heg smg si to) - (m_cov ar he sm si to)))), .long (m_hw smg htg (m_ff wi smg ((m_cov arg heg smg si to) - (m_cov ar he sm si to)))), .long fa]))) := by
          (try simp only [m_flS, m_fhS, if_neg c_7, if_pos c_8, if_neg c_9])
          first | done | exact rfl | exact up_same e_q
        rw [← hF] at hP hD
        exact W.vret hx hb hret (fun t ht hW => ⟨⟨(), rfl, trivial, by rw [ht]; exact hP, va_K.moved hW.alike hK, hD⟩, hS.F ht⟩) hS.2.2 d_Op_measureFlow_146
    · refine lv_aload_n hx hb d_Op_measureFlow_67 rfl (lv_at hl 2 rfl) ?_
      refine lv_aload_n hx hb d_Op_measureFlow_68 rfl (lv_at hl 2 rfl) ?_
      refine lv_aload_n hx hb d_Op_measureFlow_69 rfl (lv_at hl 2 rfl) ?_
      refine pg_get (C := "SmokeZones$Opening") (T := T_Op) (N := 10) hx hb hG in_Op hown hK hP h_q e_4 rfl 0 (by decide) (hG _ k253) (fun _ h9 => h9) rfl d_Op_measureFlow_70 ?_
      refine lv_lload_n hx hb d_Op_measureFlow_73 rfl (lv_at hl 1 rfl) ?_
      refine lv_lload_n hx hb d_Op_measureFlow_74 rfl (lv_at hl 0 rfl) ?_
      refine lv_lsub hx hb d_Op_measureFlow_75 ?_
      refine kV_rl ⟨hx, hb, hml, hown, hG⟩ (c_Op_flowFrom h_q e_4 h_r e_5) (cwV 2 hG (gV k481 k482 k483 k9 k484) rfl rfl rfl hd_Op_flowFrom ⟨Nat.le_of_ble_eq_true rfl, Nat.le_of_ble_eq_true rfl⟩) hK hP hS h_q e_4 rfl rfl hl.1 rfl (Nat.le_of_ble_eq_true rfl) ⟨Nat.le_of_ble_eq_true rfl, Nat.le_of_ble_eq_true rfl⟩ d_Op_measureFlow_76 (fun locs hS => ?_)
      refine pg_put (C := "SmokeZones$Opening") (T := T_Op) (N := 10) (ty := .long) hx hb hG in_Op ty_Op ok_Op nm_Op hown hK hP hD hS h_q e_4 rfl 7 (by decide) (hG _ k261) (fun _ h9 => h9) rfl (by decide +kernel) rfl rfl (Nat.le_of_ble_eq_true rfl) d_Op_measureFlow_79 (fun H locs hP hD hS => ?_)
      rw [bx_uu] at hP hD
      have hP : va_P D vwCl (va_pl L (va_up f q (.inr (1, [.ref r, .ref g, .int wi, .int si, .int to, .int gl, .int br, .long (m_ff wi sm ((m_cov ar he sm si to) - (m_cov arg heg smg si to))), .long 0, .long fa])))) H := hP
      have hD : va_D A (va_pl L (va_up f q (.inr (1, [.ref r, .ref g, .int wi, .int si, .int to, .int gl, .int br, .long (m_ff wi sm ((m_cov ar he sm si to) - (m_cov arg heg smg si to))), .long 0, .long fa])))) := hD
      have e_16 : (va_up f q (.inr (1, [.ref r, .ref g, .int wi, .int si, .int to, .int gl, .int br, .long (m_ff wi sm ((m_cov ar he sm si to) - (m_cov arg heg smg si to))), .long 0, .long fa]))) q = .inr (1, [.ref r, .ref g, .int wi, .int si, .int to, .int gl, .int br, .long (m_ff wi sm ((m_cov ar he sm si to) - (m_cov arg heg smg si to))), .long 0, .long fa]) := va_up_self _ _ _
      have e_17 : (va_up f q (.inr (1, [.ref r, .ref g, .int wi, .int si, .int to, .int gl, .int br, .long (m_ff wi sm ((m_cov ar he sm si to) - (m_cov arg heg smg si to))), .long 0, .long fa]))) r = .inr (0, [.int ar, .int he, .long ho, .long sm, .long ht, .int sl, .int sa, .int fl]) := (va_up_ne _ _ ne_r_q).trans e_r
      have e_18 : (va_up f q (.inr (1, [.ref r, .ref g, .int wi, .int si, .int to, .int gl, .int br, .long (m_ff wi sm ((m_cov ar he sm si to) - (m_cov arg heg smg si to))), .long 0, .long fa]))) g = .inr (0, [.int arg, .int heg, .long hog, .long smg, .long htg, .int slg, .int sag, .int flg]) := (va_up_ne _ _ ne_g_q).trans e_g
      refine lv_aload_n hx hb d_Op_measureFlow_82 rfl (lv_at hl 2 rfl) ?_
      refine lv_aload_n hx hb d_Op_measureFlow_83 rfl (lv_at hl 2 rfl) ?_
      refine pg_get (C := "SmokeZones$Opening") (T := T_Op) (N := 10) hx hb hG in_Op hown hK hP h_q e_16 rfl 0 (by decide) (hG _ k253) (fun _ h9 => h9) rfl d_Op_measureFlow_84 ?_
      refine lv_aload_n hx hb d_Op_measureFlow_87 rfl (lv_at hl 2 rfl) ?_
      refine pg_get (C := "SmokeZones$Opening") (T := T_Op) (N := 10) hx hb hG in_Op hown hK hP h_q e_16 rfl 7 (by decide) (hG _ k261) (fun _ h9 => h9) rfl d_Op_measureFlow_88 ?_
      refine kV_rl ⟨hx, hb, hml, hown, hG⟩ (c_Ro_heatWith h_r e_17) (cwV 1 hG (gV k487 k488 k489 k8 k490) rfl rfl rfl hd_Ro_heatWith ⟨Nat.le_of_ble_eq_true rfl, Nat.le_of_ble_eq_true rfl⟩) hK hP hS h_r e_17 rfl rfl hl.1 rfl (Nat.le_of_ble_eq_true rfl) ⟨Nat.le_of_ble_eq_true rfl, Nat.le_of_ble_eq_true rfl⟩ d_Op_measureFlow_91 (fun locs hS => ?_)
      refine pg_put (C := "SmokeZones$Opening") (T := T_Op) (N := 10) (ty := .long) hx hb hG in_Op ty_Op ok_Op nm_Op hown hK hP hD hS h_q e_16 rfl 8 (by decide) (hG _ k263) (fun _ h9 => h9) rfl (by decide +kernel) rfl rfl (Nat.le_of_ble_eq_true rfl) d_Op_measureFlow_94 (fun H locs hP hD hS => ?_)
      rw [bx_uu] at hP hD
      have hP : va_P D vwCl (va_pl L (va_up f q (.inr (1, [.ref r, .ref g, .int wi, .int si, .int to, .int gl, .int br, .long (m_ff wi sm ((m_cov ar he sm si to) - (m_cov arg heg smg si to))), .long (m_hw sm ht (m_ff wi sm ((m_cov ar he sm si to) - (m_cov arg heg smg si to)))), .long fa])))) H := hP
      have hD : va_D A (va_pl L (va_up f q (.inr (1, [.ref r, .ref g, .int wi, .int si, .int to, .int gl, .int br, .long (m_ff wi sm ((m_cov ar he sm si to) - (m_cov arg heg smg si to))), .long (m_hw sm ht (m_ff wi sm ((m_cov ar he sm si to) - (m_cov arg heg smg si to)))), .long fa])))) := hD
      have e_19 : (va_up f q (.inr (1, [.ref r, .ref g, .int wi, .int si, .int to, .int gl, .int br, .long (m_ff wi sm ((m_cov ar he sm si to) - (m_cov arg heg smg si to))), .long (m_hw sm ht (m_ff wi sm ((m_cov ar he sm si to) - (m_cov arg heg smg si to)))), .long fa]))) q = .inr (1, [.ref r, .ref g, .int wi, .int si, .int to, .int gl, .int br, .long (m_ff wi sm ((m_cov ar he sm si to) - (m_cov arg heg smg si to))), .long (m_hw sm ht (m_ff wi sm ((m_cov ar he sm si to) - (m_cov arg heg smg si to)))), .long fa]) := va_up_self _ _ _
      have e_20 : (va_up f q (.inr (1, [.ref r, .ref g, .int wi, .int si, .int to, .int gl, .int br, .long (m_ff wi sm ((m_cov ar he sm si to) - (m_cov arg heg smg si to))), .long (m_hw sm ht (m_ff wi sm ((m_cov ar he sm si to) - (m_cov arg heg smg si to)))), .long fa]))) r = .inr (0, [.int ar, .int he, .long ho, .long sm, .long ht, .int sl, .int sa, .int fl]) := (va_up_ne _ _ ne_r_q).trans e_r
      have e_21 : (va_up f q (.inr (1, [.ref r, .ref g, .int wi, .int si, .int to, .int gl, .int br, .long (m_ff wi sm ((m_cov ar he sm si to) - (m_cov arg heg smg si to))), .long (m_hw sm ht (m_ff wi sm ((m_cov ar he sm si to) - (m_cov arg heg smg si to)))), .long fa]))) g = .inr (0, [.int arg, .int heg, .long hog, .long smg, .long htg, .int slg, .int sag, .int flg]) := (va_up_ne _ _ ne_g_q).trans e_g
      refine lv_goto (tgt := 146) hx hb d_Op_measureFlow_97 (by decide) ?_
      have hF : (va_up f q (openE r (.ref g) wi si to gl br (m_flS (m_open gl br) wi (m_cov ar he sm si to) (m_cov arg heg smg si to) sm smg) (m_fhS (m_open gl br) wi (m_cov ar he sm si to) (m_cov arg heg smg si to) sm ht smg htg) fa)) = (va_up f q (.inr (1, [.ref r, .ref g, .int wi, .int si, .int to, .int gl, .int br, .long (m_ff wi sm ((m_cov ar he sm si to) - (m_cov arg heg smg si to))), .long (m_hw sm ht (m_ff wi sm ((m_cov ar he sm si to) - (m_cov arg heg smg si to)))), .long fa]))) := by
        (try simp only [m_flS, m_fhS, if_neg c_7, if_neg c_8])
        first | done | exact rfl | exact up_same e_q
      rw [← hF] at hP hD
      exact W.vret hx hb hret (fun t ht hW => ⟨⟨(), rfl, trivial, by rw [ht]; exact hP, va_K.moved hW.alike hK, hD⟩, hS.F ht⟩) hS.2.2 d_Op_measureFlow_146
  · have hF : (va_up f q (openE r (.ref g) wi si to gl br (m_flS (m_open gl br) wi (m_cov ar he sm si to) (m_cov arg heg smg si to) sm smg) (m_fhS (m_open gl br) wi (m_cov ar he sm si to) (m_cov arg heg smg si to) sm ht smg htg) fa)) = (va_up f q (.inr (1, [.ref r, .ref g, .int wi, .int si, .int to, .int gl, .int br, .long 0, .long 0, .long fa]))) := by
      (try simp only [m_flS, m_fhS, if_pos c_7])
      first | done | exact rfl | exact up_same e_q
    rw [← hF] at hP hD
    exact W.vret hx hb hret (fun t ht hW => ⟨⟨(), rfl, trivial, by rw [ht]; exact hP, va_K.moved hW.alike hK, hD⟩, hS.F ht⟩) hS.2.2 d_Op_measureFlow_17

set_option maxHeartbeats 4000000 in
set_option maxRecDepth 100000 in
theorem c_Op_moveFlow_n {l : Launch} {D : va_G} {TY : List (ClassId × FieldType)} {L : List Nat} {f : Nat → va_E} {sz : Nat} {q : Nat} {wi : Int32} {si : Int32} {to : Int32} {gl : Int32} {br : Int32} {fw : Int64} {hf : Int64} {fa : Int64} {r : Nat} {ar : Int32} {he : Int32} {ho : Int64} {sm : Int64} {ht : Int64} {sl : Int32} {sa : Int32} {fl : Int32} (h_q : q ∈ L) (e_q : f q = openE r .null wi si to gl br fw hf fa) (h_r : r ∈ L) (e_r : f r = roomE ar he ho sm ht sl sa fl) : Met l y_Op_moveFlow (WS y_Op_moveFlow b_Op_moveFlow 1 (some .long)) { frames := 1, cells := 0, slots := 0, locals := 24 } (va_Pc [.ref q] (WP D TY L f sz)) (Xl D TY L (va_up (va_up f q (openE r .null wi si to gl br fw hf (fa + m_abs fw))) r (roomE ar he ho (sm + -fw) (ht + m_nh fw hf) sl sa fl)) (AA L f sz) (fw)) 0 0 (AA L f sz) := by
  refine Met.ofW (cc := b_Op_moveFlow) (maxL := 1) (ret := (some .long)) (by decide) rfl ?_
  intro p e s m args below meth c s₁ B hml hv
  obtain ⟨rfl, hsz, hP, hK, hD0⟩ := hv
  subst hsz
  have hx := B.exec
  have hb := B.bytes
  have hret := B.returns
  have hts := atoms_spec (ws := WS y_Op_moveFlow b_Op_moveFlow 1 (some .long)) B.pre
  have hG : ∀ w ∈ GW, w.before _ s = true := fun w h => hts w (List.mem_cons_of_mem _ h)
  have hown : s.vm.findClass "SmokeZones$Opening" = some m.cls := findClass_of_methodNamed B.named
  have hlocks := B.notSynchronized
  have hD : va_D (AA L f s.heap.size) (va_pl L f) := hD0.self (sz := s.heap.size)
  generalize hAe : AA L f s.heap.size = A at hD ⊢
  have hA : ∀ q : Nat, s.heap.size ≤ q → A q := fun q h => by rw [← hAe]; exact Or.inr h
  have hS : va_S A s.heap s.heap [] := va_S.rf
  have hl := lv_entry ([.ref q]) (n := 1) (Nat.le_of_ble_eq_true rfl)
  rw [lg_entry_eq]
  generalize (lg_sl ([.ref q]) ++ List.replicate (1 - (lg_sl ([.ref q])).length) Slot.unset).toArray = ls at hl ⊢
  have hl : lv_has ls 1 [(0, .ref q)] := hl
  have ne_q_r : q ≠ r := ne_ci e_q e_r (by decide)
  have ne_r_q : r ≠ q := fun q => ne_q_r q.symm
  refine lv_aload_n hx hb d_Op_moveFlow_0 rfl (lv_at hl 0 rfl) ?_
  refine lv_dup hx hb d_Op_moveFlow_1 rfl ?_
  refine pg_get (C := "SmokeZones$Opening") (T := T_Op) (N := 10) hx hb hG in_Op hown hK hP h_q e_q rfl 9 (by decide) (hG _ k264) (fun _ h9 => h9) rfl d_Op_moveFlow_2 ?_
  refine lv_aload_n hx hb d_Op_moveFlow_5 rfl (lv_at hl 0 rfl) ?_
  refine pg_get (C := "SmokeZones$Opening") (T := T_Op) (N := 10) hx hb hG in_Op hown hK hP h_q e_q rfl 7 (by decide) (hG _ k261) (fun _ h9 => h9) rfl d_Op_moveFlow_6 ?_
  refine va_mabs_long hx hb (hml.trans hl.1.symm) hown (hG _ k495) (hG _ km_abs_s) (hG _ k14) (hG _ km_abs_c) (Nat.le_of_ble_eq_true rfl) (Nat.le_of_ble_eq_true rfl) (Nat.le_of_ble_eq_true rfl) (Nat.le_of_ble_eq_true rfl) d_Op_moveFlow_9 ?_
  refine lv_ladd hx hb d_Op_moveFlow_12 ?_
  refine pg_put (C := "SmokeZones$Opening") (T := T_Op) (N := 10) (ty := .long) hx hb hG in_Op ty_Op ok_Op nm_Op hown hK hP hD hS h_q e_q rfl 9 (by decide) (hG _ k264) (fun _ h9 => h9) rfl (by decide +kernel) rfl rfl (Nat.le_of_ble_eq_true rfl) d_Op_moveFlow_13 (fun H locs hP hD hS => ?_)
  have hP : va_P D vwCl (va_pl L (va_up f q (.inr (1, [.ref r, .null, .int wi, .int si, .int to, .int gl, .int br, .long fw, .long hf, .long (fa + (m_abs fw))])))) H := hP
  have hD : va_D A (va_pl L (va_up f q (.inr (1, [.ref r, .null, .int wi, .int si, .int to, .int gl, .int br, .long fw, .long hf, .long (fa + (m_abs fw))])))) := hD
  have e_1 : (va_up f q (.inr (1, [.ref r, .null, .int wi, .int si, .int to, .int gl, .int br, .long fw, .long hf, .long (fa + (m_abs fw))]))) q = .inr (1, [.ref r, .null, .int wi, .int si, .int to, .int gl, .int br, .long fw, .long hf, .long (fa + (m_abs fw))]) := va_up_self _ _ _
  have e_2 : (va_up f q (.inr (1, [.ref r, .null, .int wi, .int si, .int to, .int gl, .int br, .long fw, .long hf, .long (fa + (m_abs fw))]))) r = .inr (0, [.int ar, .int he, .long ho, .long sm, .long ht, .int sl, .int sa, .int fl]) := (va_up_ne _ _ ne_r_q).trans e_r
  refine lv_aload_n hx hb d_Op_moveFlow_16 rfl (lv_at hl 0 rfl) ?_
  refine pg_get (C := "SmokeZones$Opening") (T := T_Op) (N := 10) hx hb hG in_Op hown hK hP h_q e_1 rfl 0 (by decide) (hG _ k253) (fun _ h9 => h9) rfl d_Op_moveFlow_17 ?_
  refine lv_aload_n hx hb d_Op_moveFlow_20 rfl (lv_at hl 0 rfl) ?_
  refine pg_get (C := "SmokeZones$Opening") (T := T_Op) (N := 10) hx hb hG in_Op hown hK hP h_q e_1 rfl 7 (by decide) (hG _ k261) (fun _ h9 => h9) rfl d_Op_moveFlow_21 ?_
  refine lv_lneg hx hb d_Op_moveFlow_24 ?_
  refine lv_aload_n hx hb d_Op_moveFlow_25 rfl (lv_at hl 0 rfl) ?_
  refine pg_get (C := "SmokeZones$Opening") (T := T_Op) (N := 10) hx hb hG in_Op hown hK hP h_q e_1 rfl 7 (by decide) (hG _ k261) (fun _ h9 => h9) rfl d_Op_moveFlow_26 ?_
  refine lv_lconst (v := 0) hx hb d_Op_moveFlow_29 (by decide) ?_
  refine lc_ge (tgt := 41) hx hb d_Op_moveFlow_30 d_Op_moveFlow_31 (by decide) (fun c_3 => ?_) (fun c_3 => ?_)
  · refine lv_aload_n hx hb d_Op_moveFlow_41 rfl (lv_at hl 0 rfl) ?_
    refine pg_get (C := "SmokeZones$Opening") (T := T_Op) (N := 10) hx hb hG in_Op hown hK hP h_q e_1 rfl 8 (by decide) (hG _ k263) (fun _ h9 => h9) rfl d_Op_moveFlow_42 ?_
    refine lv_lneg hx hb d_Op_moveFlow_45 ?_
    refine kV_wv (f' := va_up (va_up f q (.inr (1, [.ref r, .null, .int wi, .int si, .int to, .int gl, .int br, .long fw, .long hf, .long (fa + (m_abs fw))]))) r (.inr (0, [.int ar, .int he, .long ho, .long (sm + (-fw)), .long (ht + (-hf)), .int sl, .int sa, .int fl]))) ⟨hx, hb, hml, hown, hG⟩ (c_Ro_add h_r e_2) (cwV 2 hG (gV k498 k451 k452 k8 k453) rfl rfl rfl hd_Ro_add ⟨Nat.le_of_ble_eq_true rfl, Nat.le_of_ble_eq_true rfl⟩) hK hP hD hS hA h_r e_2 rfl rfl hl.1 rfl (Nat.le_of_ble_eq_true rfl) ⟨Nat.le_of_ble_eq_true rfl, Nat.le_of_ble_eq_true rfl⟩ d_Op_moveFlow_46 (fun H locs hP hD hS => ?_)
    have e_4 : (va_up (va_up f q (.inr (1, [.ref r, .null, .int wi, .int si, .int to, .int gl, .int br, .long fw, .long hf, .long (fa + (m_abs fw))]))) r (.inr (0, [.int ar, .int he, .long ho, .long (sm + (-fw)), .long (ht + (-hf)), .int sl, .int sa, .int fl]))) r = .inr (0, [.int ar, .int he, .long ho, .long (sm + (-fw)), .long (ht + (-hf)), .int sl, .int sa, .int fl]) := va_up_self _ _ _
    have e_5 : (va_up (va_up f q (.inr (1, [.ref r, .null, .int wi, .int si, .int to, .int gl, .int br, .long fw, .long hf, .long (fa + (m_abs fw))]))) r (.inr (0, [.int ar, .int he, .long ho, .long (sm + (-fw)), .long (ht + (-hf)), .int sl, .int sa, .int fl]))) q = .inr (1, [.ref r, .null, .int wi, .int si, .int to, .int gl, .int br, .long fw, .long hf, .long (fa + (m_abs fw))]) := (va_up_ne _ _ ne_q_r).trans e_1
    refine lv_aload_n hx hb d_Op_moveFlow_49 rfl (lv_at hl 0 rfl) ?_
    refine pg_get (C := "SmokeZones$Opening") (T := T_Op) (N := 10) hx hb hG in_Op hown hK hP h_q e_5 rfl 1 (by decide) (hG _ k254) (fun _ h9 => h9) rfl d_Op_moveFlow_50 ?_
    refine lv_ifnonnullN hx hb d_Op_moveFlow_53 ?_
    refine lv_aload_n hx hb d_Op_moveFlow_56 rfl (lv_at hl 0 rfl) ?_
    refine pg_get (C := "SmokeZones$Opening") (T := T_Op) (N := 10) hx hb hG in_Op hown hK hP h_q e_5 rfl 7 (by decide) (hG _ k261) (fun _ h9 => h9) rfl d_Op_moveFlow_57 ?_
    have hF : (va_up (va_up f q (openE r .null wi si to gl br fw hf (fa + m_abs fw))) r (roomE ar he ho (sm + -fw) (ht + m_nh fw hf) sl sa fl)) = (va_up (va_up f q (.inr (1, [.ref r, .null, .int wi, .int si, .int to, .int gl, .int br, .long fw, .long hf, .long (fa + (m_abs fw))]))) r (.inr (0, [.int ar, .int he, .long ho, .long (sm + (-fw)), .long (ht + (-hf)), .int sl, .int sa, .int fl]))) := by
      (try simp only [m_nh, if_pos c_3])
      first | done | exact rfl
    rw [← hF] at hP hD
    exact W.lret hx hb hret (fun t ht hW => ⟨⟨_, (), rfl, rfl, by rw [ht]; exact hP, va_K.moved hW.alike hK, hD⟩, hS.F ht⟩) hS.2.2 d_Op_moveFlow_60
  · refine lv_aload_n hx hb d_Op_moveFlow_34 rfl (lv_at hl 0 rfl) ?_
    refine pg_get (C := "SmokeZones$Opening") (T := T_Op) (N := 10) hx hb hG in_Op hown hK hP h_q e_1 rfl 8 (by decide) (hG _ k263) (fun _ h9 => h9) rfl d_Op_moveFlow_35 ?_
    refine lv_goto (tgt := 46) hx hb d_Op_moveFlow_38 (by decide) ?_
    refine kV_wv (f' := va_up (va_up f q (.inr (1, [.ref r, .null, .int wi, .int si, .int to, .int gl, .int br, .long fw, .long hf, .long (fa + (m_abs fw))]))) r (.inr (0, [.int ar, .int he, .long ho, .long (sm + (-fw)), .long (ht + hf), .int sl, .int sa, .int fl]))) ⟨hx, hb, hml, hown, hG⟩ (c_Ro_add h_r e_2) (cwV 2 hG (gV k498 k451 k452 k8 k453) rfl rfl rfl hd_Ro_add ⟨Nat.le_of_ble_eq_true rfl, Nat.le_of_ble_eq_true rfl⟩) hK hP hD hS hA h_r e_2 rfl rfl hl.1 rfl (Nat.le_of_ble_eq_true rfl) ⟨Nat.le_of_ble_eq_true rfl, Nat.le_of_ble_eq_true rfl⟩ d_Op_moveFlow_46 (fun H locs hP hD hS => ?_)
    have e_6 : (va_up (va_up f q (.inr (1, [.ref r, .null, .int wi, .int si, .int to, .int gl, .int br, .long fw, .long hf, .long (fa + (m_abs fw))]))) r (.inr (0, [.int ar, .int he, .long ho, .long (sm + (-fw)), .long (ht + hf), .int sl, .int sa, .int fl]))) r = .inr (0, [.int ar, .int he, .long ho, .long (sm + (-fw)), .long (ht + hf), .int sl, .int sa, .int fl]) := va_up_self _ _ _
    have e_7 : (va_up (va_up f q (.inr (1, [.ref r, .null, .int wi, .int si, .int to, .int gl, .int br, .long fw, .long hf, .long (fa + (m_abs fw))]))) r (.inr (0, [.int ar, .int he, .long ho, .long (sm + (-fw)), .long (ht + hf), .int sl, .int sa, .int fl]))) q = .inr (1, [.ref r, .null, .int wi, .int si, .int to, .int gl, .int br, .long fw, .long hf, .long (fa + (m_abs fw))]) := (va_up_ne _ _ ne_q_r).trans e_1
    refine lv_aload_n hx hb d_Op_moveFlow_49 rfl (lv_at hl 0 rfl) ?_
    refine pg_get (C := "SmokeZones$Opening") (T := T_Op) (N := 10) hx hb hG in_Op hown hK hP h_q e_7 rfl 1 (by decide) (hG _ k254) (fun _ h9 => h9) rfl d_Op_moveFlow_50 ?_
    refine lv_ifnonnullN hx hb d_Op_moveFlow_53 ?_
    refine lv_aload_n hx hb d_Op_moveFlow_56 rfl (lv_at hl 0 rfl) ?_
    refine pg_get (C := "SmokeZones$Opening") (T := T_Op) (N := 10) hx hb hG in_Op hown hK hP h_q e_7 rfl 7 (by decide) (hG _ k261) (fun _ h9 => h9) rfl d_Op_moveFlow_57 ?_
    have hF : (va_up (va_up f q (openE r .null wi si to gl br fw hf (fa + m_abs fw))) r (roomE ar he ho (sm + -fw) (ht + m_nh fw hf) sl sa fl)) = (va_up (va_up f q (.inr (1, [.ref r, .null, .int wi, .int si, .int to, .int gl, .int br, .long fw, .long hf, .long (fa + (m_abs fw))]))) r (.inr (0, [.int ar, .int he, .long ho, .long (sm + (-fw)), .long (ht + hf), .int sl, .int sa, .int fl]))) := by
      (try simp only [m_nh, if_neg c_3])
      first | done | exact rfl
    rw [← hF] at hP hD
    exact W.lret hx hb hret (fun t ht hW => ⟨⟨_, (), rfl, rfl, by rw [ht]; exact hP, va_K.moved hW.alike hK, hD⟩, hS.F ht⟩) hS.2.2 d_Op_moveFlow_60

set_option maxHeartbeats 4000000 in
set_option maxRecDepth 100000 in
theorem c_Op_moveFlow_s {l : Launch} {D : va_G} {TY : List (ClassId × FieldType)} {L : List Nat} {f : Nat → va_E} {sz : Nat} {q : Nat} {wi : Int32} {si : Int32} {to : Int32} {gl : Int32} {br : Int32} {fw : Int64} {hf : Int64} {fa : Int64} {r : Nat} {ar : Int32} {he : Int32} {ho : Int64} {sm : Int64} {ht : Int64} {sl : Int32} {sa : Int32} {fl : Int32} {g : Nat} {arg : Int32} {heg : Int32} {hog : Int64} {smg : Int64} {htg : Int64} {slg : Int32} {sag : Int32} {flg : Int32} (h_q : q ∈ L) (e_q : f q = openE r (.ref g) wi si to gl br fw hf fa) (h_r : r ∈ L) (e_r : f r = roomE ar he ho sm ht sl sa fl) (h_g : g ∈ L) (e_g : f g = roomE arg heg hog smg htg slg sag flg) (ne_r_g : r ≠ g) : Met l y_Op_moveFlow (WS y_Op_moveFlow b_Op_moveFlow 1 (some .long)) { frames := 1, cells := 0, slots := 0, locals := 24 } (va_Pc [.ref q] (WP D TY L f sz)) (Xl D TY L (va_up (va_up (va_up f q (openE r (.ref g) wi si to gl br fw hf (fa + m_abs fw))) r (roomE ar he ho (sm + -fw) (ht + m_nh fw hf) sl sa fl)) g (roomE arg heg hog (smg + fw) (htg + m_fh fw hf) slg sag flg)) (AA L f sz) (0)) 0 0 (AA L f sz) := by
  refine Met.ofW (cc := b_Op_moveFlow) (maxL := 1) (ret := (some .long)) (by decide) rfl ?_
  intro p e s m args below meth c s₁ B hml hv
  obtain ⟨rfl, hsz, hP, hK, hD0⟩ := hv
  subst hsz
  have hx := B.exec
  have hb := B.bytes
  have hret := B.returns
  have hts := atoms_spec (ws := WS y_Op_moveFlow b_Op_moveFlow 1 (some .long)) B.pre
  have hG : ∀ w ∈ GW, w.before _ s = true := fun w h => hts w (List.mem_cons_of_mem _ h)
  have hown : s.vm.findClass "SmokeZones$Opening" = some m.cls := findClass_of_methodNamed B.named
  have hlocks := B.notSynchronized
  have hD : va_D (AA L f s.heap.size) (va_pl L f) := hD0.self (sz := s.heap.size)
  generalize hAe : AA L f s.heap.size = A at hD ⊢
  have hA : ∀ q : Nat, s.heap.size ≤ q → A q := fun q h => by rw [← hAe]; exact Or.inr h
  have hS : va_S A s.heap s.heap [] := va_S.rf
  have hl := lv_entry ([.ref q]) (n := 1) (Nat.le_of_ble_eq_true rfl)
  rw [lg_entry_eq]
  generalize (lg_sl ([.ref q]) ++ List.replicate (1 - (lg_sl ([.ref q])).length) Slot.unset).toArray = ls at hl ⊢
  have hl : lv_has ls 1 [(0, .ref q)] := hl
  have ne_q_r : q ≠ r := ne_ci e_q e_r (by decide)
  have ne_r_q : r ≠ q := fun q => ne_q_r q.symm
  have ne_q_g : q ≠ g := ne_ci e_q e_g (by decide)
  have ne_g_q : g ≠ q := fun q => ne_q_g q.symm
  have ne_g_r : g ≠ r := fun q => ne_r_g q.symm
  refine lv_aload_n hx hb d_Op_moveFlow_0 rfl (lv_at hl 0 rfl) ?_
  refine lv_dup hx hb d_Op_moveFlow_1 rfl ?_
  refine pg_get (C := "SmokeZones$Opening") (T := T_Op) (N := 10) hx hb hG in_Op hown hK hP h_q e_q rfl 9 (by decide) (hG _ k264) (fun _ h9 => h9) rfl d_Op_moveFlow_2 ?_
  refine lv_aload_n hx hb d_Op_moveFlow_5 rfl (lv_at hl 0 rfl) ?_
  refine pg_get (C := "SmokeZones$Opening") (T := T_Op) (N := 10) hx hb hG in_Op hown hK hP h_q e_q rfl 7 (by decide) (hG _ k261) (fun _ h9 => h9) rfl d_Op_moveFlow_6 ?_
  refine va_mabs_long hx hb (hml.trans hl.1.symm) hown (hG _ k495) (hG _ km_abs_s) (hG _ k14) (hG _ km_abs_c) (Nat.le_of_ble_eq_true rfl) (Nat.le_of_ble_eq_true rfl) (Nat.le_of_ble_eq_true rfl) (Nat.le_of_ble_eq_true rfl) d_Op_moveFlow_9 ?_
  refine lv_ladd hx hb d_Op_moveFlow_12 ?_
  refine pg_put (C := "SmokeZones$Opening") (T := T_Op) (N := 10) (ty := .long) hx hb hG in_Op ty_Op ok_Op nm_Op hown hK hP hD hS h_q e_q rfl 9 (by decide) (hG _ k264) (fun _ h9 => h9) rfl (by decide +kernel) rfl rfl (Nat.le_of_ble_eq_true rfl) d_Op_moveFlow_13 (fun H locs hP hD hS => ?_)
  have hP : va_P D vwCl (va_pl L (va_up f q (.inr (1, [.ref r, .ref g, .int wi, .int si, .int to, .int gl, .int br, .long fw, .long hf, .long (fa + (m_abs fw))])))) H := hP
  have hD : va_D A (va_pl L (va_up f q (.inr (1, [.ref r, .ref g, .int wi, .int si, .int to, .int gl, .int br, .long fw, .long hf, .long (fa + (m_abs fw))])))) := hD
  have e_1 : (va_up f q (.inr (1, [.ref r, .ref g, .int wi, .int si, .int to, .int gl, .int br, .long fw, .long hf, .long (fa + (m_abs fw))]))) q = .inr (1, [.ref r, .ref g, .int wi, .int si, .int to, .int gl, .int br, .long fw, .long hf, .long (fa + (m_abs fw))]) := va_up_self _ _ _
  have e_2 : (va_up f q (.inr (1, [.ref r, .ref g, .int wi, .int si, .int to, .int gl, .int br, .long fw, .long hf, .long (fa + (m_abs fw))]))) r = .inr (0, [.int ar, .int he, .long ho, .long sm, .long ht, .int sl, .int sa, .int fl]) := (va_up_ne _ _ ne_r_q).trans e_r
  have e_3 : (va_up f q (.inr (1, [.ref r, .ref g, .int wi, .int si, .int to, .int gl, .int br, .long fw, .long hf, .long (fa + (m_abs fw))]))) g = .inr (0, [.int arg, .int heg, .long hog, .long smg, .long htg, .int slg, .int sag, .int flg]) := (va_up_ne _ _ ne_g_q).trans e_g
  refine lv_aload_n hx hb d_Op_moveFlow_16 rfl (lv_at hl 0 rfl) ?_
  refine pg_get (C := "SmokeZones$Opening") (T := T_Op) (N := 10) hx hb hG in_Op hown hK hP h_q e_1 rfl 0 (by decide) (hG _ k253) (fun _ h9 => h9) rfl d_Op_moveFlow_17 ?_
  refine lv_aload_n hx hb d_Op_moveFlow_20 rfl (lv_at hl 0 rfl) ?_
  refine pg_get (C := "SmokeZones$Opening") (T := T_Op) (N := 10) hx hb hG in_Op hown hK hP h_q e_1 rfl 7 (by decide) (hG _ k261) (fun _ h9 => h9) rfl d_Op_moveFlow_21 ?_
  refine lv_lneg hx hb d_Op_moveFlow_24 ?_
  refine lv_aload_n hx hb d_Op_moveFlow_25 rfl (lv_at hl 0 rfl) ?_
  refine pg_get (C := "SmokeZones$Opening") (T := T_Op) (N := 10) hx hb hG in_Op hown hK hP h_q e_1 rfl 7 (by decide) (hG _ k261) (fun _ h9 => h9) rfl d_Op_moveFlow_26 ?_
  refine lv_lconst (v := 0) hx hb d_Op_moveFlow_29 (by decide) ?_
  refine lc_ge (tgt := 41) hx hb d_Op_moveFlow_30 d_Op_moveFlow_31 (by decide) (fun c_4 => ?_) (fun c_4 => ?_)
  · refine lv_aload_n hx hb d_Op_moveFlow_41 rfl (lv_at hl 0 rfl) ?_
    refine pg_get (C := "SmokeZones$Opening") (T := T_Op) (N := 10) hx hb hG in_Op hown hK hP h_q e_1 rfl 8 (by decide) (hG _ k263) (fun _ h9 => h9) rfl d_Op_moveFlow_42 ?_
    refine lv_lneg hx hb d_Op_moveFlow_45 ?_
    refine kV_wv (f' := va_up (va_up f q (.inr (1, [.ref r, .ref g, .int wi, .int si, .int to, .int gl, .int br, .long fw, .long hf, .long (fa + (m_abs fw))]))) r (.inr (0, [.int ar, .int he, .long ho, .long (sm + (-fw)), .long (ht + (-hf)), .int sl, .int sa, .int fl]))) ⟨hx, hb, hml, hown, hG⟩ (c_Ro_add h_r e_2) (cwV 2 hG (gV k498 k451 k452 k8 k453) rfl rfl rfl hd_Ro_add ⟨Nat.le_of_ble_eq_true rfl, Nat.le_of_ble_eq_true rfl⟩) hK hP hD hS hA h_r e_2 rfl rfl hl.1 rfl (Nat.le_of_ble_eq_true rfl) ⟨Nat.le_of_ble_eq_true rfl, Nat.le_of_ble_eq_true rfl⟩ d_Op_moveFlow_46 (fun H locs hP hD hS => ?_)
    have e_5 : (va_up (va_up f q (.inr (1, [.ref r, .ref g, .int wi, .int si, .int to, .int gl, .int br, .long fw, .long hf, .long (fa + (m_abs fw))]))) r (.inr (0, [.int ar, .int he, .long ho, .long (sm + (-fw)), .long (ht + (-hf)), .int sl, .int sa, .int fl]))) r = .inr (0, [.int ar, .int he, .long ho, .long (sm + (-fw)), .long (ht + (-hf)), .int sl, .int sa, .int fl]) := va_up_self _ _ _
    have e_6 : (va_up (va_up f q (.inr (1, [.ref r, .ref g, .int wi, .int si, .int to, .int gl, .int br, .long fw, .long hf, .long (fa + (m_abs fw))]))) r (.inr (0, [.int ar, .int he, .long ho, .long (sm + (-fw)), .long (ht + (-hf)), .int sl, .int sa, .int fl]))) q = .inr (1, [.ref r, .ref g, .int wi, .int si, .int to, .int gl, .int br, .long fw, .long hf, .long (fa + (m_abs fw))]) := (va_up_ne _ _ ne_q_r).trans e_1
    have e_7 : (va_up (va_up f q (.inr (1, [.ref r, .ref g, .int wi, .int si, .int to, .int gl, .int br, .long fw, .long hf, .long (fa + (m_abs fw))]))) r (.inr (0, [.int ar, .int he, .long ho, .long (sm + (-fw)), .long (ht + (-hf)), .int sl, .int sa, .int fl]))) g = .inr (0, [.int arg, .int heg, .long hog, .long smg, .long htg, .int slg, .int sag, .int flg]) := (va_up_ne _ _ ne_g_r).trans e_3
    refine lv_aload_n hx hb d_Op_moveFlow_49 rfl (lv_at hl 0 rfl) ?_
    refine pg_get (C := "SmokeZones$Opening") (T := T_Op) (N := 10) hx hb hG in_Op hown hK hP h_q e_6 rfl 1 (by decide) (hG _ k254) (fun _ h9 => h9) rfl d_Op_moveFlow_50 ?_
    refine lv_ifnonnull (tgt := 61) hx hb d_Op_moveFlow_53 (by decide) ?_
    refine lv_aload_n hx hb d_Op_moveFlow_61 rfl (lv_at hl 0 rfl) ?_
    refine pg_get (C := "SmokeZones$Opening") (T := T_Op) (N := 10) hx hb hG in_Op hown hK hP h_q e_6 rfl 1 (by decide) (hG _ k254) (fun _ h9 => h9) rfl d_Op_moveFlow_62 ?_
    refine lv_aload_n hx hb d_Op_moveFlow_65 rfl (lv_at hl 0 rfl) ?_
    refine pg_get (C := "SmokeZones$Opening") (T := T_Op) (N := 10) hx hb hG in_Op hown hK hP h_q e_6 rfl 7 (by decide) (hG _ k261) (fun _ h9 => h9) rfl d_Op_moveFlow_66 ?_
    refine lv_aload_n hx hb d_Op_moveFlow_69 rfl (lv_at hl 0 rfl) ?_
    refine pg_get (C := "SmokeZones$Opening") (T := T_Op) (N := 10) hx hb hG in_Op hown hK hP h_q e_6 rfl 7 (by decide) (hG _ k261) (fun _ h9 => h9) rfl d_Op_moveFlow_70 ?_
    refine lv_lconst (v := 0) hx hb d_Op_moveFlow_73 (by decide) ?_
    refine lc_ge (tgt := 86) hx hb d_Op_moveFlow_74 d_Op_moveFlow_75 (by decide) (fun c_8 => ?_) (fun c_8 => ?_)
    · refine lv_aload_n hx hb d_Op_moveFlow_86 rfl (lv_at hl 0 rfl) ?_
      refine pg_get (C := "SmokeZones$Opening") (T := T_Op) (N := 10) hx hb hG in_Op hown hK hP h_q e_6 rfl 8 (by decide) (hG _ k263) (fun _ h9 => h9) rfl d_Op_moveFlow_87 ?_
      refine kV_wv (f' := va_up (va_up (va_up f q (.inr (1, [.ref r, .ref g, .int wi, .int si, .int to, .int gl, .int br, .long fw, .long hf, .long (fa + (m_abs fw))]))) r (.inr (0, [.int ar, .int he, .long ho, .long (sm + (-fw)), .long (ht + (-hf)), .int sl, .int sa, .int fl]))) g (.inr (0, [.int arg, .int heg, .long hog, .long (smg + fw), .long (htg + hf), .int slg, .int sag, .int flg]))) ⟨hx, hb, hml, hown, hG⟩ (c_Ro_add h_g e_7) (cwV 2 hG (gV k498 k451 k452 k8 k453) rfl rfl rfl hd_Ro_add ⟨Nat.le_of_ble_eq_true rfl, Nat.le_of_ble_eq_true rfl⟩) hK hP hD hS hA h_g e_7 rfl rfl hl.1 rfl (Nat.le_of_ble_eq_true rfl) ⟨Nat.le_of_ble_eq_true rfl, Nat.le_of_ble_eq_true rfl⟩ d_Op_moveFlow_90 (fun H locs hP hD hS => ?_)
      have e_9 : (va_up (va_up (va_up f q (.inr (1, [.ref r, .ref g, .int wi, .int si, .int to, .int gl, .int br, .long fw, .long hf, .long (fa + (m_abs fw))]))) r (.inr (0, [.int ar, .int he, .long ho, .long (sm + (-fw)), .long (ht + (-hf)), .int sl, .int sa, .int fl]))) g (.inr (0, [.int arg, .int heg, .long hog, .long (smg + fw), .long (htg + hf), .int slg, .int sag, .int flg]))) g = .inr (0, [.int arg, .int heg, .long hog, .long (smg + fw), .long (htg + hf), .int slg, .int sag, .int flg]) := va_up_self _ _ _
      have e_10 : (va_up (va_up (va_up f q (.inr (1, [.ref r, .ref g, .int wi, .int si, .int to, .int gl, .int br, .long fw, .long hf, .long (fa + (m_abs fw))]))) r (.inr (0, [.int ar, .int he, .long ho, .long (sm + (-fw)), .long (ht + (-hf)), .int sl, .int sa, .int fl]))) g (.inr (0, [.int arg, .int heg, .long hog, .long (smg + fw), .long (htg + hf), .int slg, .int sag, .int flg]))) q = .inr (1, [.ref r, .ref g, .int wi, .int si, .int to, .int gl, .int br, .long fw, .long hf, .long (fa + (m_abs fw))]) := (va_up_ne _ _ ne_q_g).trans e_6
      have e_11 : (va_up (va_up (va_up f q (.inr (1, [.ref r, .ref g, .int wi, .int si, .int to, .int gl, .int br, .long fw, .long hf, .long (fa + (m_abs fw))]))) r (.inr (0, [.int ar, .int he, .long ho, .long (sm + (-fw)), .long (ht + (-hf)), .int sl, .int sa, .int fl]))) g (.inr (0, [.int arg, .int heg, .long hog, .long (smg + fw), .long (htg + hf), .int slg, .int sag, .int flg]))) r = .inr (0, [.int ar, .int he, .long ho, .long (sm + (-fw)), .long (ht + (-hf)), .int sl, .int sa, .int fl]) := (va_up_ne _ _ ne_r_g).trans e_5
      refine lv_lconst (v := 0) hx hb d_Op_moveFlow_93 (by decide) ?_
      have hF : (va_up (va_up (va_up f q (openE r (.ref g) wi si to gl br fw hf (fa + m_abs fw))) r (roomE ar he ho (sm + -fw) (ht + m_nh fw hf) sl sa fl)) g (roomE arg heg hog (smg + fw) (htg + m_fh fw hf) slg sag flg)) = (va_up (va_up (va_up f q (.inr (1, [.ref r, .ref g, .int wi, .int si, .int to, .int gl, .int br, .long fw, .long hf, .long (fa + (m_abs fw))]))) r (.inr (0, [.int ar, .int he, .long ho, .long (sm + (-fw)), .long (ht + (-hf)), .int sl, .int sa, .int fl]))) g (.inr (0, [.int arg, .int heg, .long hog, .long (smg + fw), .long (htg + hf), .int slg, .int sag, .int flg]))) := by
        (try simp only [m_nh, m_fh, if_pos c_4, if_pos c_8])
        first | done | exact rfl
      rw [← hF] at hP hD
      exact W.lret hx hb hret (fun t ht hW => ⟨⟨_, (), rfl, rfl, by rw [ht]; exact hP, va_K.moved hW.alike hK, hD⟩, hS.F ht⟩) hS.2.2 d_Op_moveFlow_94
    · exact absurd c_4 c_8
  · refine lv_aload_n hx hb d_Op_moveFlow_34 rfl (lv_at hl 0 rfl) ?_
    refine pg_get (C := "SmokeZones$Opening") (T := T_Op) (N := 10) hx hb hG in_Op hown hK hP h_q e_1 rfl 8 (by decide) (hG _ k263) (fun _ h9 => h9) rfl d_Op_moveFlow_35 ?_
    refine lv_goto (tgt := 46) hx hb d_Op_moveFlow_38 (by decide) ?_
    refine kV_wv (f' := va_up (va_up f q (.inr (1, [.ref r, .ref g, .int wi, .int si, .int to, .int gl, .int br, .long fw, .long hf, .long (fa + (m_abs fw))]))) r (.inr (0, [.int ar, .int he, .long ho, .long (sm + (-fw)), .long (ht + hf), .int sl, .int sa, .int fl]))) ⟨hx, hb, hml, hown, hG⟩ (c_Ro_add h_r e_2) (cwV 2 hG (gV k498 k451 k452 k8 k453) rfl rfl rfl hd_Ro_add ⟨Nat.le_of_ble_eq_true rfl, Nat.le_of_ble_eq_true rfl⟩) hK hP hD hS hA h_r e_2 rfl rfl hl.1 rfl (Nat.le_of_ble_eq_true rfl) ⟨Nat.le_of_ble_eq_true rfl, Nat.le_of_ble_eq_true rfl⟩ d_Op_moveFlow_46 (fun H locs hP hD hS => ?_)
    have e_12 : (va_up (va_up f q (.inr (1, [.ref r, .ref g, .int wi, .int si, .int to, .int gl, .int br, .long fw, .long hf, .long (fa + (m_abs fw))]))) r (.inr (0, [.int ar, .int he, .long ho, .long (sm + (-fw)), .long (ht + hf), .int sl, .int sa, .int fl]))) r = .inr (0, [.int ar, .int he, .long ho, .long (sm + (-fw)), .long (ht + hf), .int sl, .int sa, .int fl]) := va_up_self _ _ _
    have e_13 : (va_up (va_up f q (.inr (1, [.ref r, .ref g, .int wi, .int si, .int to, .int gl, .int br, .long fw, .long hf, .long (fa + (m_abs fw))]))) r (.inr (0, [.int ar, .int he, .long ho, .long (sm + (-fw)), .long (ht + hf), .int sl, .int sa, .int fl]))) q = .inr (1, [.ref r, .ref g, .int wi, .int si, .int to, .int gl, .int br, .long fw, .long hf, .long (fa + (m_abs fw))]) := (va_up_ne _ _ ne_q_r).trans e_1
    have e_14 : (va_up (va_up f q (.inr (1, [.ref r, .ref g, .int wi, .int si, .int to, .int gl, .int br, .long fw, .long hf, .long (fa + (m_abs fw))]))) r (.inr (0, [.int ar, .int he, .long ho, .long (sm + (-fw)), .long (ht + hf), .int sl, .int sa, .int fl]))) g = .inr (0, [.int arg, .int heg, .long hog, .long smg, .long htg, .int slg, .int sag, .int flg]) := (va_up_ne _ _ ne_g_r).trans e_3
    refine lv_aload_n hx hb d_Op_moveFlow_49 rfl (lv_at hl 0 rfl) ?_
    refine pg_get (C := "SmokeZones$Opening") (T := T_Op) (N := 10) hx hb hG in_Op hown hK hP h_q e_13 rfl 1 (by decide) (hG _ k254) (fun _ h9 => h9) rfl d_Op_moveFlow_50 ?_
    refine lv_ifnonnull (tgt := 61) hx hb d_Op_moveFlow_53 (by decide) ?_
    refine lv_aload_n hx hb d_Op_moveFlow_61 rfl (lv_at hl 0 rfl) ?_
    refine pg_get (C := "SmokeZones$Opening") (T := T_Op) (N := 10) hx hb hG in_Op hown hK hP h_q e_13 rfl 1 (by decide) (hG _ k254) (fun _ h9 => h9) rfl d_Op_moveFlow_62 ?_
    refine lv_aload_n hx hb d_Op_moveFlow_65 rfl (lv_at hl 0 rfl) ?_
    refine pg_get (C := "SmokeZones$Opening") (T := T_Op) (N := 10) hx hb hG in_Op hown hK hP h_q e_13 rfl 7 (by decide) (hG _ k261) (fun _ h9 => h9) rfl d_Op_moveFlow_66 ?_
    refine lv_aload_n hx hb d_Op_moveFlow_69 rfl (lv_at hl 0 rfl) ?_
    refine pg_get (C := "SmokeZones$Opening") (T := T_Op) (N := 10) hx hb hG in_Op hown hK hP h_q e_13 rfl 7 (by decide) (hG _ k261) (fun _ h9 => h9) rfl d_Op_moveFlow_70 ?_
    refine lv_lconst (v := 0) hx hb d_Op_moveFlow_73 (by decide) ?_
    refine lc_ge (tgt := 86) hx hb d_Op_moveFlow_74 d_Op_moveFlow_75 (by decide) (fun c_15 => ?_) (fun c_15 => ?_)
    · exact absurd c_15 c_4
    · refine lv_aload_n hx hb d_Op_moveFlow_78 rfl (lv_at hl 0 rfl) ?_
      refine pg_get (C := "SmokeZones$Opening") (T := T_Op) (N := 10) hx hb hG in_Op hown hK hP h_q e_13 rfl 8 (by decide) (hG _ k263) (fun _ h9 => h9) rfl d_Op_moveFlow_79 ?_
      refine lv_lneg hx hb d_Op_moveFlow_82 ?_
      refine lv_goto (tgt := 90) hx hb d_Op_moveFlow_83 (by decide) ?_
      refine kV_wv (f' := va_up (va_up (va_up f q (.inr (1, [.ref r, .ref g, .int wi, .int si, .int to, .int gl, .int br, .long fw, .long hf, .long (fa + (m_abs fw))]))) r (.inr (0, [.int ar, .int he, .long ho, .long (sm + (-fw)), .long (ht + hf), .int sl, .int sa, .int fl]))) g (.inr (0, [.int arg, .int heg, .long hog, .long (smg + fw), .long (htg + (-hf)), .int slg, .int sag, .int flg]))) ⟨hx, hb, hml, hown, hG⟩ (c_Ro_add h_g e_14) (cwV 2 hG (gV k498 k451 k452 k8 k453) rfl rfl rfl hd_Ro_add ⟨Nat.le_of_ble_eq_true rfl, Nat.le_of_ble_eq_true rfl⟩) hK hP hD hS hA h_g e_14 rfl rfl hl.1 rfl (Nat.le_of_ble_eq_true rfl) ⟨Nat.le_of_ble_eq_true rfl, Nat.le_of_ble_eq_true rfl⟩ d_Op_moveFlow_90 (fun H locs hP hD hS => ?_)
      have e_16 : (va_up (va_up (va_up f q (.inr (1, [.ref r, .ref g, .int wi, .int si, .int to, .int gl, .int br, .long fw, .long hf, .long (fa + (m_abs fw))]))) r (.inr (0, [.int ar, .int he, .long ho, .long (sm + (-fw)), .long (ht + hf), .int sl, .int sa, .int fl]))) g (.inr (0, [.int arg, .int heg, .long hog, .long (smg + fw), .long (htg + (-hf)), .int slg, .int sag, .int flg]))) g = .inr (0, [.int arg, .int heg, .long hog, .long (smg + fw), .long (htg + (-hf)), .int slg, .int sag, .int flg]) := va_up_self _ _ _
      have e_17 : (va_up (va_up (va_up f q (.inr (1, [.ref r, .ref g, .int wi, .int si, .int to, .int gl, .int br, .long fw, .long hf, .long (fa + (m_abs fw))]))) r (.inr (0, [.int ar, .int he, .long ho, .long (sm + (-fw)), .long (ht + hf), .int sl, .int sa, .int fl]))) g (.inr (0, [.int arg, .int heg, .long hog, .long (smg + fw), .long (htg + (-hf)), .int slg, .int sag, .int flg]))) q = .inr (1, [.ref r, .ref g, .int wi, .int si, .int to, .int gl, .int br, .long fw, .long hf, .long (fa + (m_abs fw))]) := (va_up_ne _ _ ne_q_g).trans e_13
      have e_18 : (va_up (va_up (va_up f q (.inr (1, [.ref r, .ref g, .int wi, .int si, .int to, .int gl, .int br, .long fw, .long hf, .long (fa + (m_abs fw))]))) r (.inr (0, [.int ar, .int he, .long ho, .long (sm + (-fw)), .long (ht + hf), .int sl, .int sa, .int fl]))) g (.inr (0, [.int arg, .int heg, .long hog, .long (smg + fw), .long (htg + (-hf)), .int slg, .int sag, .int flg]))) r = .inr (0, [.int ar, .int he, .long ho, .long (sm + (-fw)), .long (ht + hf), .int sl, .int sa, .int fl]) := (va_up_ne _ _ ne_r_g).trans e_12
      refine lv_lconst (v := 0) hx hb d_Op_moveFlow_93 (by decide) ?_
      have hF : (va_up (va_up (va_up f q (openE r (.ref g) wi si to gl br fw hf (fa + m_abs fw))) r (roomE ar he ho (sm + -fw) (ht + m_nh fw hf) sl sa fl)) g (roomE arg heg hog (smg + fw) (htg + m_fh fw hf) slg sag flg)) = (va_up (va_up (va_up f q (.inr (1, [.ref r, .ref g, .int wi, .int si, .int to, .int gl, .int br, .long fw, .long hf, .long (fa + (m_abs fw))]))) r (.inr (0, [.int ar, .int he, .long ho, .long (sm + (-fw)), .long (ht + hf), .int sl, .int sa, .int fl]))) g (.inr (0, [.int arg, .int heg, .long hog, .long (smg + fw), .long (htg + (-hf)), .int slg, .int sag, .int flg]))) := by
        (try simp only [m_nh, m_fh, if_neg c_4, if_neg c_15])
        first | done | exact rfl
      rw [← hF] at hP hD
      exact W.lret hx hb hret (fun t ht hW => ⟨⟨_, (), rfl, rfl, by rw [ht]; exact hP, va_K.moved hW.alike hK, hD⟩, hS.F ht⟩) hS.2.2 d_Op_moveFlow_94

set_option maxHeartbeats 4000000 in
set_option maxRecDepth 100000 in
theorem c_Op_testGlass_n {l : Launch} {D : va_G} {TY : List (ClassId × FieldType)} {L : List Nat} {f : Nat → va_E} {sz : Nat} {q : Nat} {wi : Int32} {si : Int32} {to : Int32} {gl : Int32} {br : Int32} {fw : Int64} {hf : Int64} {fa : Int64} {r : Nat} {ar : Int32} {he : Int32} {ho : Int64} {sm : Int64} {ht : Int64} {sl : Int32} {sa : Int32} {fl : Int32} (h_q : q ∈ L) (e_q : f q = openE r .null wi si to gl br fw hf fa) (h_r : r ∈ L) (e_r : f r = roomE ar he ho sm ht sl sa fl) : Met l y_Op_testGlass (WS y_Op_testGlass b_Op_testGlass 1 none) { frames := 2, cells := 0, slots := 0, locals := 41 } (va_Pc [.ref q] (WP D TY L f sz)) (Xv D TY L (va_up f q (openE r .null wi si to gl (m_brN (m_open gl br) (m_hot sm ht gl) br) fw hf fa)) (AA L f sz)) 0 0 (AA L f sz) := by
  refine Met.ofW (cc := b_Op_testGlass) (maxL := 1) (ret := none) (by decide) rfl ?_
  intro p e s m args below meth c s₁ B hml hv
  obtain ⟨rfl, hsz, hP, hK, hD0⟩ := hv
  subst hsz
  have hx := B.exec
  have hb := B.bytes
  have hret := B.returns
  have hts := atoms_spec (ws := WS y_Op_testGlass b_Op_testGlass 1 none) B.pre
  have hG : ∀ w ∈ GW, w.before _ s = true := fun w h => hts w (List.mem_cons_of_mem _ h)
  have hown : s.vm.findClass "SmokeZones$Opening" = some m.cls := findClass_of_methodNamed B.named
  have hlocks := B.notSynchronized
  have hD : va_D (AA L f s.heap.size) (va_pl L f) := hD0.self (sz := s.heap.size)
  generalize hAe : AA L f s.heap.size = A at hD ⊢
  have hA : ∀ q : Nat, s.heap.size ≤ q → A q := fun q h => by rw [← hAe]; exact Or.inr h
  have hS : va_S A s.heap s.heap [] := va_S.rf
  have hl := lv_entry ([.ref q]) (n := 1) (Nat.le_of_ble_eq_true rfl)
  rw [lg_entry_eq]
  generalize (lg_sl ([.ref q]) ++ List.replicate (1 - (lg_sl ([.ref q])).length) Slot.unset).toArray = ls at hl ⊢
  have hl : lv_has ls 1 [(0, .ref q)] := hl
  have ne_q_r : q ≠ r := ne_ci e_q e_r (by decide)
  have ne_r_q : r ≠ q := fun q => ne_q_r q.symm
  refine lv_aload_n hx hb d_Op_testGlass_0 rfl (lv_at hl 0 rfl) ?_
  refine kV_ri ⟨hx, hb, hml, hown, hG⟩ (c_Op_isOpen h_q e_q) (cwV 0 hG (gV k462 k463 k464 k9 k465) rfl rfl rfl hd_Op_isOpen ⟨Nat.le_of_ble_eq_true rfl, Nat.le_of_ble_eq_true rfl⟩) hK hP hS h_q e_q rfl rfl hl.1 rfl (Nat.le_of_ble_eq_true rfl) ⟨Nat.le_of_ble_eq_true rfl, Nat.le_of_ble_eq_true rfl⟩ d_Op_testGlass_1 (fun locs hS => ?_)
  refine lv_if_ne (tgt := 34) hx hb d_Op_testGlass_4 (by decide) (fun c_1 => ?_) (fun c_1 => ?_)
  · have hF : (va_up f q (openE r .null wi si to gl (m_brN (m_open gl br) (m_hot sm ht gl) br) fw hf fa)) = (f) := by
      (try simp only [m_brN, if_neg c_1])
      first | done | exact rfl | exact up_same e_q
    rw [← hF] at hP hD
    exact W.vret hx hb hret (fun t ht hW => ⟨⟨(), rfl, trivial, by rw [ht]; exact hP, va_K.moved hW.alike hK, hD⟩, hS.F ht⟩) hS.2.2 d_Op_testGlass_34
  · refine lv_aload_n hx hb d_Op_testGlass_7 rfl (lv_at hl 0 rfl) ?_
    refine lv_aload_n hx hb d_Op_testGlass_8 rfl (lv_at hl 0 rfl) ?_
    refine pg_get (C := "SmokeZones$Opening") (T := T_Op) (N := 10) hx hb hG in_Op hown hK hP h_q e_q rfl 0 (by decide) (hG _ k253) (fun _ h9 => h9) rfl d_Op_testGlass_9 ?_
    refine kV_ri ⟨hx, hb, hml, hown, hG⟩ (c_Op_isHot_s h_q e_q h_r e_r) (cwV 1 hG (gV k535 k536 k537 k9 k538) rfl rfl rfl hd_Op_isHot ⟨Nat.le_of_ble_eq_true rfl, Nat.le_of_ble_eq_true rfl⟩) hK hP hS h_q e_q rfl rfl hl.1 rfl (Nat.le_of_ble_eq_true rfl) ⟨Nat.le_of_ble_eq_true rfl, Nat.le_of_ble_eq_true rfl⟩ d_Op_testGlass_12 (fun locs hS => ?_)
    refine lv_if_ne (tgt := 29) hx hb d_Op_testGlass_15 (by decide) (fun c_2 => ?_) (fun c_2 => ?_)
    · refine lv_aload_n hx hb d_Op_testGlass_29 rfl (lv_at hl 0 rfl) ?_
      refine lv_iconst (v := 1) hx hb d_Op_testGlass_30 (by decide) ?_
      refine pg_put (C := "SmokeZones$Opening") (T := T_Op) (N := 10) (ty := .boolean) hx hb hG in_Op ty_Op ok_Op nm_Op hown hK hP hD hS h_q e_q rfl 6 (by decide) (hG _ k260) (fun _ h9 => h9) rfl (by decide +kernel) rfl rfl (Nat.le_of_ble_eq_true rfl) d_Op_testGlass_31 (fun H locs hP hD hS => ?_)
      have hP : va_P D vwCl (va_pl L (va_up f q (.inr (1, [.ref r, .null, .int wi, .int si, .int to, .int gl, .int 1, .long fw, .long hf, .long fa])))) H := hP
      have hD : va_D A (va_pl L (va_up f q (.inr (1, [.ref r, .null, .int wi, .int si, .int to, .int gl, .int 1, .long fw, .long hf, .long fa])))) := hD
      have e_3 : (va_up f q (.inr (1, [.ref r, .null, .int wi, .int si, .int to, .int gl, .int 1, .long fw, .long hf, .long fa]))) q = .inr (1, [.ref r, .null, .int wi, .int si, .int to, .int gl, .int 1, .long fw, .long hf, .long fa]) := va_up_self _ _ _
      have e_4 : (va_up f q (.inr (1, [.ref r, .null, .int wi, .int si, .int to, .int gl, .int 1, .long fw, .long hf, .long fa]))) r = .inr (0, [.int ar, .int he, .long ho, .long sm, .long ht, .int sl, .int sa, .int fl]) := (va_up_ne _ _ ne_r_q).trans e_r
      have hF : (va_up f q (openE r .null wi si to gl (m_brN (m_open gl br) (m_hot sm ht gl) br) fw hf fa)) = (va_up f q (.inr (1, [.ref r, .null, .int wi, .int si, .int to, .int gl, .int 1, .long fw, .long hf, .long fa]))) := by
        (try simp only [m_brN, if_pos c_1, if_neg c_2])
        first | done | exact rfl | exact up_same e_q
      rw [← hF] at hP hD
      exact W.vret hx hb hret (fun t ht hW => ⟨⟨(), rfl, trivial, by rw [ht]; exact hP, va_K.moved hW.alike hK, hD⟩, hS.F ht⟩) hS.2.2 d_Op_testGlass_34
    · refine lv_aload_n hx hb d_Op_testGlass_18 rfl (lv_at hl 0 rfl) ?_
      refine lv_aload_n hx hb d_Op_testGlass_19 rfl (lv_at hl 0 rfl) ?_
      refine pg_get (C := "SmokeZones$Opening") (T := T_Op) (N := 10) hx hb hG in_Op hown hK hP h_q e_q rfl 1 (by decide) (hG _ k254) (fun _ h9 => h9) rfl d_Op_testGlass_20 ?_
      refine kV_ri ⟨hx, hb, hml, hown, hG⟩ (c_Op_isHot_n h_q e_q) (cwV 1 hG (gV k535 k536 k537 k9 k538) rfl rfl rfl hd_Op_isHot ⟨Nat.le_of_ble_eq_true rfl, Nat.le_of_ble_eq_true rfl⟩) hK hP hS h_q e_q rfl rfl hl.1 rfl (Nat.le_of_ble_eq_true rfl) ⟨Nat.le_of_ble_eq_true rfl, Nat.le_of_ble_eq_true rfl⟩ d_Op_testGlass_23 (fun locs hS => ?_)
      refine lv_if_eq (tgt := 34) hx hb d_Op_testGlass_26 (by decide) (fun c_5 => ?_) (fun c_5 => ?_)
      · have hF : (va_up f q (openE r .null wi si to gl (m_brN (m_open gl br) (m_hot sm ht gl) br) fw hf fa)) = (f) := by
          (try simp only [m_brN, if_pos c_1, if_pos c_2, if_pos c_5])
          first | done | exact rfl | exact up_same e_q
        rw [← hF] at hP hD
        exact W.vret hx hb hret (fun t ht hW => ⟨⟨(), rfl, trivial, by rw [ht]; exact hP, va_K.moved hW.alike hK, hD⟩, hS.F ht⟩) hS.2.2 d_Op_testGlass_34
      · exact absurd rfl c_5

set_option maxHeartbeats 4000000 in
set_option maxRecDepth 100000 in
theorem c_Op_testGlass_s {l : Launch} {D : va_G} {TY : List (ClassId × FieldType)} {L : List Nat} {f : Nat → va_E} {sz : Nat} {q : Nat} {wi : Int32} {si : Int32} {to : Int32} {gl : Int32} {br : Int32} {fw : Int64} {hf : Int64} {fa : Int64} {r : Nat} {ar : Int32} {he : Int32} {ho : Int64} {sm : Int64} {ht : Int64} {sl : Int32} {sa : Int32} {fl : Int32} {g : Nat} {arg : Int32} {heg : Int32} {hog : Int64} {smg : Int64} {htg : Int64} {slg : Int32} {sag : Int32} {flg : Int32} (h_q : q ∈ L) (e_q : f q = openE r (.ref g) wi si to gl br fw hf fa) (h_r : r ∈ L) (e_r : f r = roomE ar he ho sm ht sl sa fl) (h_g : g ∈ L) (e_g : f g = roomE arg heg hog smg htg slg sag flg) : Met l y_Op_testGlass (WS y_Op_testGlass b_Op_testGlass 1 none) { frames := 2, cells := 0, slots := 0, locals := 41 } (va_Pc [.ref q] (WP D TY L f sz)) (Xv D TY L (va_up f q (openE r (.ref g) wi si to gl (m_brS (m_open gl br) (m_hot sm ht gl) (m_hot smg htg gl) br) fw hf fa)) (AA L f sz)) 0 0 (AA L f sz) := by
  refine Met.ofW (cc := b_Op_testGlass) (maxL := 1) (ret := none) (by decide) rfl ?_
  intro p e s m args below meth c s₁ B hml hv
  obtain ⟨rfl, hsz, hP, hK, hD0⟩ := hv
  subst hsz
  have hx := B.exec
  have hb := B.bytes
  have hret := B.returns
  have hts := atoms_spec (ws := WS y_Op_testGlass b_Op_testGlass 1 none) B.pre
  have hG : ∀ w ∈ GW, w.before _ s = true := fun w h => hts w (List.mem_cons_of_mem _ h)
  have hown : s.vm.findClass "SmokeZones$Opening" = some m.cls := findClass_of_methodNamed B.named
  have hlocks := B.notSynchronized
  have hD : va_D (AA L f s.heap.size) (va_pl L f) := hD0.self (sz := s.heap.size)
  generalize hAe : AA L f s.heap.size = A at hD ⊢
  have hA : ∀ q : Nat, s.heap.size ≤ q → A q := fun q h => by rw [← hAe]; exact Or.inr h
  have hS : va_S A s.heap s.heap [] := va_S.rf
  have hl := lv_entry ([.ref q]) (n := 1) (Nat.le_of_ble_eq_true rfl)
  rw [lg_entry_eq]
  generalize (lg_sl ([.ref q]) ++ List.replicate (1 - (lg_sl ([.ref q])).length) Slot.unset).toArray = ls at hl ⊢
  have hl : lv_has ls 1 [(0, .ref q)] := hl
  have ne_q_r : q ≠ r := ne_ci e_q e_r (by decide)
  have ne_r_q : r ≠ q := fun q => ne_q_r q.symm
  have ne_q_g : q ≠ g := ne_ci e_q e_g (by decide)
  have ne_g_q : g ≠ q := fun q => ne_q_g q.symm
  refine lv_aload_n hx hb d_Op_testGlass_0 rfl (lv_at hl 0 rfl) ?_
  refine kV_ri ⟨hx, hb, hml, hown, hG⟩ (c_Op_isOpen h_q e_q) (cwV 0 hG (gV k462 k463 k464 k9 k465) rfl rfl rfl hd_Op_isOpen ⟨Nat.le_of_ble_eq_true rfl, Nat.le_of_ble_eq_true rfl⟩) hK hP hS h_q e_q rfl rfl hl.1 rfl (Nat.le_of_ble_eq_true rfl) ⟨Nat.le_of_ble_eq_true rfl, Nat.le_of_ble_eq_true rfl⟩ d_Op_testGlass_1 (fun locs hS => ?_)
  refine lv_if_ne (tgt := 34) hx hb d_Op_testGlass_4 (by decide) (fun c_1 => ?_) (fun c_1 => ?_)
  · have hF : (va_up f q (openE r (.ref g) wi si to gl (m_brS (m_open gl br) (m_hot sm ht gl) (m_hot smg htg gl) br) fw hf fa)) = (f) := by
      (try simp only [m_brS, if_neg c_1])
      first | done | exact rfl | exact up_same e_q
    rw [← hF] at hP hD
    exact W.vret hx hb hret (fun t ht hW => ⟨⟨(), rfl, trivial, by rw [ht]; exact hP, va_K.moved hW.alike hK, hD⟩, hS.F ht⟩) hS.2.2 d_Op_testGlass_34
  · refine lv_aload_n hx hb d_Op_testGlass_7 rfl (lv_at hl 0 rfl) ?_
    refine lv_aload_n hx hb d_Op_testGlass_8 rfl (lv_at hl 0 rfl) ?_
    refine pg_get (C := "SmokeZones$Opening") (T := T_Op) (N := 10) hx hb hG in_Op hown hK hP h_q e_q rfl 0 (by decide) (hG _ k253) (fun _ h9 => h9) rfl d_Op_testGlass_9 ?_
    refine kV_ri ⟨hx, hb, hml, hown, hG⟩ (c_Op_isHot_s h_q e_q h_r e_r) (cwV 1 hG (gV k535 k536 k537 k9 k538) rfl rfl rfl hd_Op_isHot ⟨Nat.le_of_ble_eq_true rfl, Nat.le_of_ble_eq_true rfl⟩) hK hP hS h_q e_q rfl rfl hl.1 rfl (Nat.le_of_ble_eq_true rfl) ⟨Nat.le_of_ble_eq_true rfl, Nat.le_of_ble_eq_true rfl⟩ d_Op_testGlass_12 (fun locs hS => ?_)
    refine lv_if_ne (tgt := 29) hx hb d_Op_testGlass_15 (by decide) (fun c_2 => ?_) (fun c_2 => ?_)
    · refine lv_aload_n hx hb d_Op_testGlass_29 rfl (lv_at hl 0 rfl) ?_
      refine lv_iconst (v := 1) hx hb d_Op_testGlass_30 (by decide) ?_
      refine pg_put (C := "SmokeZones$Opening") (T := T_Op) (N := 10) (ty := .boolean) hx hb hG in_Op ty_Op ok_Op nm_Op hown hK hP hD hS h_q e_q rfl 6 (by decide) (hG _ k260) (fun _ h9 => h9) rfl (by decide +kernel) rfl rfl (Nat.le_of_ble_eq_true rfl) d_Op_testGlass_31 (fun H locs hP hD hS => ?_)
      have hP : va_P D vwCl (va_pl L (va_up f q (.inr (1, [.ref r, .ref g, .int wi, .int si, .int to, .int gl, .int 1, .long fw, .long hf, .long fa])))) H := hP
      have hD : va_D A (va_pl L (va_up f q (.inr (1, [.ref r, .ref g, .int wi, .int si, .int to, .int gl, .int 1, .long fw, .long hf, .long fa])))) := hD
      have e_3 : (va_up f q (.inr (1, [.ref r, .ref g, .int wi, .int si, .int to, .int gl, .int 1, .long fw, .long hf, .long fa]))) q = .inr (1, [.ref r, .ref g, .int wi, .int si, .int to, .int gl, .int 1, .long fw, .long hf, .long fa]) := va_up_self _ _ _
      have e_4 : (va_up f q (.inr (1, [.ref r, .ref g, .int wi, .int si, .int to, .int gl, .int 1, .long fw, .long hf, .long fa]))) r = .inr (0, [.int ar, .int he, .long ho, .long sm, .long ht, .int sl, .int sa, .int fl]) := (va_up_ne _ _ ne_r_q).trans e_r
      have e_5 : (va_up f q (.inr (1, [.ref r, .ref g, .int wi, .int si, .int to, .int gl, .int 1, .long fw, .long hf, .long fa]))) g = .inr (0, [.int arg, .int heg, .long hog, .long smg, .long htg, .int slg, .int sag, .int flg]) := (va_up_ne _ _ ne_g_q).trans e_g
      have hF : (va_up f q (openE r (.ref g) wi si to gl (m_brS (m_open gl br) (m_hot sm ht gl) (m_hot smg htg gl) br) fw hf fa)) = (va_up f q (.inr (1, [.ref r, .ref g, .int wi, .int si, .int to, .int gl, .int 1, .long fw, .long hf, .long fa]))) := by
        (try simp only [m_brS, if_pos c_1, if_neg c_2])
        first | done | exact rfl | exact up_same e_q
      rw [← hF] at hP hD
      exact W.vret hx hb hret (fun t ht hW => ⟨⟨(), rfl, trivial, by rw [ht]; exact hP, va_K.moved hW.alike hK, hD⟩, hS.F ht⟩) hS.2.2 d_Op_testGlass_34
    · refine lv_aload_n hx hb d_Op_testGlass_18 rfl (lv_at hl 0 rfl) ?_
      refine lv_aload_n hx hb d_Op_testGlass_19 rfl (lv_at hl 0 rfl) ?_
      refine pg_get (C := "SmokeZones$Opening") (T := T_Op) (N := 10) hx hb hG in_Op hown hK hP h_q e_q rfl 1 (by decide) (hG _ k254) (fun _ h9 => h9) rfl d_Op_testGlass_20 ?_
      refine kV_ri ⟨hx, hb, hml, hown, hG⟩ (c_Op_isHot_s h_q e_q h_g e_g) (cwV 1 hG (gV k535 k536 k537 k9 k538) rfl rfl rfl hd_Op_isHot ⟨Nat.le_of_ble_eq_true rfl, Nat.le_of_ble_eq_true rfl⟩) hK hP hS h_q e_q rfl rfl hl.1 rfl (Nat.le_of_ble_eq_true rfl) ⟨Nat.le_of_ble_eq_true rfl, Nat.le_of_ble_eq_true rfl⟩ d_Op_testGlass_23 (fun locs hS => ?_)
      refine lv_if_eq (tgt := 34) hx hb d_Op_testGlass_26 (by decide) (fun c_6 => ?_) (fun c_6 => ?_)
      · have hF : (va_up f q (openE r (.ref g) wi si to gl (m_brS (m_open gl br) (m_hot sm ht gl) (m_hot smg htg gl) br) fw hf fa)) = (f) := by
          (try simp only [m_brS, if_pos c_1, if_pos c_2, if_pos c_6])
          first | done | exact rfl | exact up_same e_q
        rw [← hF] at hP hD
        exact W.vret hx hb hret (fun t ht hW => ⟨⟨(), rfl, trivial, by rw [ht]; exact hP, va_K.moved hW.alike hK, hD⟩, hS.F ht⟩) hS.2.2 d_Op_testGlass_34
      · refine lv_aload_n hx hb d_Op_testGlass_29 rfl (lv_at hl 0 rfl) ?_
        refine lv_iconst (v := 1) hx hb d_Op_testGlass_30 (by decide) ?_
        refine pg_put (C := "SmokeZones$Opening") (T := T_Op) (N := 10) (ty := .boolean) hx hb hG in_Op ty_Op ok_Op nm_Op hown hK hP hD hS h_q e_q rfl 6 (by decide) (hG _ k260) (fun _ h9 => h9) rfl (by decide +kernel) rfl rfl (Nat.le_of_ble_eq_true rfl) d_Op_testGlass_31 (fun H locs hP hD hS => ?_)
        have hP : va_P D vwCl (va_pl L (va_up f q (.inr (1, [.ref r, .ref g, .int wi, .int si, .int to, .int gl, .int 1, .long fw, .long hf, .long fa])))) H := hP
        have hD : va_D A (va_pl L (va_up f q (.inr (1, [.ref r, .ref g, .int wi, .int si, .int to, .int gl, .int 1, .long fw, .long hf, .long fa])))) := hD
        have e_7 : (va_up f q (.inr (1, [.ref r, .ref g, .int wi, .int si, .int to, .int gl, .int 1, .long fw, .long hf, .long fa]))) q = .inr (1, [.ref r, .ref g, .int wi, .int si, .int to, .int gl, .int 1, .long fw, .long hf, .long fa]) := va_up_self _ _ _
        have e_8 : (va_up f q (.inr (1, [.ref r, .ref g, .int wi, .int si, .int to, .int gl, .int 1, .long fw, .long hf, .long fa]))) r = .inr (0, [.int ar, .int he, .long ho, .long sm, .long ht, .int sl, .int sa, .int fl]) := (va_up_ne _ _ ne_r_q).trans e_r
        have e_9 : (va_up f q (.inr (1, [.ref r, .ref g, .int wi, .int si, .int to, .int gl, .int 1, .long fw, .long hf, .long fa]))) g = .inr (0, [.int arg, .int heg, .long hog, .long smg, .long htg, .int slg, .int sag, .int flg]) := (va_up_ne _ _ ne_g_q).trans e_g
        have hF : (va_up f q (openE r (.ref g) wi si to gl (m_brS (m_open gl br) (m_hot sm ht gl) (m_hot smg htg gl) br) fw hf fa)) = (va_up f q (.inr (1, [.ref r, .ref g, .int wi, .int si, .int to, .int gl, .int 1, .long fw, .long hf, .long fa]))) := by
          (try simp only [m_brS, if_pos c_1, if_pos c_2, if_neg c_6])
          first | done | exact rfl | exact up_same e_q
        rw [← hF] at hP hD
        exact W.vret hx hb hret (fun t ht hW => ⟨⟨(), rfl, trivial, by rw [ht]; exact hP, va_K.moved hW.alike hK, hD⟩, hS.F ht⟩) hS.2.2 d_Op_testGlass_34

theorem in20 {n : Nat} (h : n ≤ 20) (c : ¬ (20 : Int32) ≤ nI n) : vp_in (nI n) 20 := by
  rcases Nat.lt_or_ge n 20 with q | q
  · exact vp_in_nI q (by decide)
  · exact absurd (show (20 : Int32) ≤ nI n from nI_le (a := 20) q (by omega)) c
theorem inw {n k : Nat} (h : n ≤ 20) (hk : k ≤ 20) (c : ¬ nI n ≤ nI k) : vp_in (nI k) 20 := by
  rcases Nat.lt_or_ge k n with q | q
  · exact vp_in_nI (by omega) (by decide)
  · exact absurd (nI_le q (by omega)) c
def m_tell (n : Nat) (lt t : Int32) : Int32 := if 20 ≤ nI n then 0 else if lt < t then 1 else 0
def m_wpl (n k : Nat) (g1 g2 : Nat → Int32) (t pl : Int32) : Int32 := if nI n ≤ nI k then pl else if g1 (Int32.toNatClampNeg (nI k)) = t then g2 (Int32.toNatClampNeg (nI k)) else pl
def m_wwk (n k : Nat) (g1 : Nat → Int32) (t : Int32) : Int32 := if nI n ≤ nI k then nI k else if g1 (Int32.toNatClampNeg (nI k)) = t then nI k + 1 else nI k
def m_dz (lo : Int32) (sm ht dz : Int64) : Int64 := if lo = 0 then dz else dz + (m_warmth sm ht + 1)
def m_be (lo : Int32) (be : Int64) : Int64 := if lo = 0 then be else be + 1

set_option maxHeartbeats 4000000 in
set_option maxRecDepth 100000 in
theorem c_Pe_tell {l : Launch} {D : va_G} {ct : Nat → ClassId} {L : List Nat} {f : Nat → va_E} {sz : Nat} {n : Nat} {ws : Nat} {g1 : Nat → Int32} {wp : Nat} {g2 : Nat → Int32} {q : Nat} {pl : Int32} {dz : Int64} {be : Int64} {lt : Int32} {wk : Int32} {t0 : Int32} {go : Int32} (h_ws : ws ∈ L) (e_ws : f ws = .inl (ct 6, 20, .inl g1)) (h_wp : wp ∈ L) (e_wp : f wp = .inl (ct 6, 20, .inl g2)) (h_q : q ∈ L) (e_q : f q = personE pl dz be ws wp (nI n) lt wk) (ne_ws_wp : ws ≠ wp) (hn : n ≤ 20) : Met l y_Pe_tell (WS y_Pe_tell b_Pe_tell 3 (some .boolean)) { frames := 0, cells := 0, slots := 0, locals := 0 } (va_Pc [.ref q, .int t0, .int go] (WP D (TYS ct) L f sz)) (Xi D (TYS ct) L (if 20 ≤ nI n then f else if lt < t0 then va_up (va_up (va_up f ws (.inl (ct 6, 20, .inl (upd g1 (Int32.toNatClampNeg (nI n)) t0)))) wp (.inl (ct 6, 20, .inl (upd g2 (Int32.toNatClampNeg (nI n)) go)))) q (personE pl dz be ws wp (nI n + 1) t0 wk) else f) (AA L f sz) (m_tell n lt t0)) 0 0 (AA L f sz) := by
  refine Met.ofW (cc := b_Pe_tell) (maxL := 3) (ret := (some .boolean)) (by decide) rfl ?_
  intro p e s m args below meth c s₁ B hml hv
  obtain ⟨rfl, hsz, hP, hK, hD0⟩ := hv
  subst hsz
  have hx := B.exec
  have hb := B.bytes
  have hret := B.returns
  have hts := atoms_spec (ws := WS y_Pe_tell b_Pe_tell 3 (some .boolean)) B.pre
  have hG : ∀ w ∈ GW, w.before _ s = true := fun w h => hts w (List.mem_cons_of_mem _ h)
  have hown : s.vm.findClass "SmokeZones$Person" = some m.cls := findClass_of_methodNamed B.named
  have hlocks := B.notSynchronized
  have hD : va_D (AA L f s.heap.size) (va_pl L f) := hD0.self (sz := s.heap.size)
  generalize hAe : AA L f s.heap.size = A at hD ⊢
  have hA : ∀ q : Nat, s.heap.size ≤ q → A q := fun q h => by rw [← hAe]; exact Or.inr h
  have hS : va_S A s.heap s.heap [] := va_S.rf
  have hl := lv_entry ([.ref q, .int t0, .int go]) (n := 3) (Nat.le_of_ble_eq_true rfl)
  rw [lg_entry_eq]
  generalize (lg_sl ([.ref q, .int t0, .int go]) ++ List.replicate (3 - (lg_sl ([.ref q, .int t0, .int go])).length) Slot.unset).toArray = ls at hl ⊢
  have hl : lv_has ls 3 [(0, .ref q), (1, .int t0), (2, .int go)] := hl
  have ne_ws_q : ws ≠ q := ne_ai e_ws e_q
  have ne_q_ws : q ≠ ws := fun q => ne_ws_q q.symm
  have ne_wp_q : wp ≠ q := ne_ai e_wp e_q
  have ne_q_wp : q ≠ wp := fun q => ne_wp_q q.symm
  have ne_wp_ws : wp ≠ ws := fun q => ne_ws_wp q.symm
  refine lv_aload_n hx hb d_Pe_tell_0 rfl (lv_at hl 0 rfl) ?_
  refine pg_get (C := "SmokeZones$Person") (T := T_Pe) (N := 8) hx hb hG in_Pe hown hK hP h_q e_q rfl 5 (by decide) (hG _ k395) (fun _ h9 => h9) rfl d_Pe_tell_1 ?_
  refine lv_bipush (v := 20) hx hb d_Pe_tell_4 (by decide) ?_
  refine lv_icmp_ge (tgt := 17) hx hb d_Pe_tell_6 (by decide) (fun c_1 => ?_) (fun c_1 => ?_)
  · refine lv_iconst (v := 0) hx hb d_Pe_tell_17 (by decide) ?_
    have hF : (if 20 ≤ nI n then f else if lt < t0 then va_up (va_up (va_up f ws (.inl (ct 6, 20, .inl (upd g1 (Int32.toNatClampNeg (nI n)) t0)))) wp (.inl (ct 6, 20, .inl (upd g2 (Int32.toNatClampNeg (nI n)) go)))) q (personE pl dz be ws wp (nI n + 1) t0 wk) else f) = (f) := by
      (try simp only [m_tell, if_pos c_1])
      first | done | exact rfl
    rw [← hF] at hP hD
    exact W.zret hx hb hret rfl (fun t ht hW => ⟨⟨_, (), rfl, (by simp only [m_tell, if_pos c_1]), by rw [ht]; exact hP, va_K.moved hW.alike hK, hD⟩, hS.F ht⟩) hS.2.2 d_Pe_tell_18
  · refine lv_iload_n hx hb d_Pe_tell_9 rfl (lv_at hl 1 rfl) ?_
    refine lv_aload_n hx hb d_Pe_tell_10 rfl (lv_at hl 0 rfl) ?_
    refine pg_get (C := "SmokeZones$Person") (T := T_Pe) (N := 8) hx hb hG in_Pe hown hK hP h_q e_q rfl 6 (by decide) (hG _ k396) (fun _ h9 => h9) rfl d_Pe_tell_11 ?_
    refine lv_icmp_gt (tgt := 19) hx hb d_Pe_tell_14 (by decide) (fun c_2 => ?_) (fun c_2 => ?_)
    · refine lv_aload_n hx hb d_Pe_tell_19 rfl (lv_at hl 0 rfl) ?_
      refine pg_get (C := "SmokeZones$Person") (T := T_Pe) (N := 8) hx hb hG in_Pe hown hK hP h_q e_q rfl 3 (by decide) (hG _ k393) (fun _ h9 => h9) rfl d_Pe_tell_20 ?_
      refine lv_aload_n hx hb d_Pe_tell_23 rfl (lv_at hl 0 rfl) ?_
      refine pg_get (C := "SmokeZones$Person") (T := T_Pe) (N := 8) hx hb hG in_Pe hown hK hP h_q e_q rfl 5 (by decide) (hG _ k395) (fun _ h9 => h9) rfl d_Pe_tell_24 ?_
      refine lv_iload_n hx hb d_Pe_tell_27 rfl (lv_at hl 1 rfl) ?_
      refine pg_iast hx hb hK hP hD hS 6 h_ws e_ws rfl (in20 hn c_1) d_Pe_tell_28 (fun H locs hP hD hS => ?_)
      have hP : va_P D vwCl (va_pl L (va_up f ws (.inl (ct 6, 20, .inl (upd g1 (Int32.toNatClampNeg (nI n)) t0))))) H := hP
      have hD : va_D A (va_pl L (va_up f ws (.inl (ct 6, 20, .inl (upd g1 (Int32.toNatClampNeg (nI n)) t0))))) := hD
      have e_3 : (va_up f ws (.inl (ct 6, 20, .inl (upd g1 (Int32.toNatClampNeg (nI n)) t0)))) ws = .inl (ct 6, 20, .inl (upd g1 (Int32.toNatClampNeg (nI n)) t0)) := va_up_self _ _ _
      have e_4 : (va_up f ws (.inl (ct 6, 20, .inl (upd g1 (Int32.toNatClampNeg (nI n)) t0)))) wp = .inl (ct 6, 20, .inl g2) := (va_up_ne _ _ ne_wp_ws).trans e_wp
      have e_5 : (va_up f ws (.inl (ct 6, 20, .inl (upd g1 (Int32.toNatClampNeg (nI n)) t0)))) q = .inr (5, [.int pl, .long dz, .long be, .ref ws, .ref wp, .int (nI n), .int lt, .int wk]) := (va_up_ne _ _ ne_q_ws).trans e_q
      refine lv_aload_n hx hb d_Pe_tell_29 rfl (lv_at hl 0 rfl) ?_
      refine pg_get (C := "SmokeZones$Person") (T := T_Pe) (N := 8) hx hb hG in_Pe hown hK hP h_q e_5 rfl 4 (by decide) (hG _ k394) (fun _ h9 => h9) rfl d_Pe_tell_30 ?_
      refine lv_aload_n hx hb d_Pe_tell_33 rfl (lv_at hl 0 rfl) ?_
      refine pg_get (C := "SmokeZones$Person") (T := T_Pe) (N := 8) hx hb hG in_Pe hown hK hP h_q e_5 rfl 5 (by decide) (hG _ k395) (fun _ h9 => h9) rfl d_Pe_tell_34 ?_
      refine lv_iload_n hx hb d_Pe_tell_37 rfl (lv_at hl 2 rfl) ?_
      refine pg_iast hx hb hK hP hD hS 6 h_wp e_4 rfl (in20 hn c_1) d_Pe_tell_38 (fun H locs hP hD hS => ?_)
      have hP : va_P D vwCl (va_pl L (va_up (va_up f ws (.inl (ct 6, 20, .inl (upd g1 (Int32.toNatClampNeg (nI n)) t0)))) wp (.inl (ct 6, 20, .inl (upd g2 (Int32.toNatClampNeg (nI n)) go))))) H := hP
      have hD : va_D A (va_pl L (va_up (va_up f ws (.inl (ct 6, 20, .inl (upd g1 (Int32.toNatClampNeg (nI n)) t0)))) wp (.inl (ct 6, 20, .inl (upd g2 (Int32.toNatClampNeg (nI n)) go))))) := hD
      have e_6 : (va_up (va_up f ws (.inl (ct 6, 20, .inl (upd g1 (Int32.toNatClampNeg (nI n)) t0)))) wp (.inl (ct 6, 20, .inl (upd g2 (Int32.toNatClampNeg (nI n)) go)))) wp = .inl (ct 6, 20, .inl (upd g2 (Int32.toNatClampNeg (nI n)) go)) := va_up_self _ _ _
      have e_7 : (va_up (va_up f ws (.inl (ct 6, 20, .inl (upd g1 (Int32.toNatClampNeg (nI n)) t0)))) wp (.inl (ct 6, 20, .inl (upd g2 (Int32.toNatClampNeg (nI n)) go)))) ws = .inl (ct 6, 20, .inl (upd g1 (Int32.toNatClampNeg (nI n)) t0)) := (va_up_ne _ _ ne_ws_wp).trans e_3
      have e_8 : (va_up (va_up f ws (.inl (ct 6, 20, .inl (upd g1 (Int32.toNatClampNeg (nI n)) t0)))) wp (.inl (ct 6, 20, .inl (upd g2 (Int32.toNatClampNeg (nI n)) go)))) q = .inr (5, [.int pl, .long dz, .long be, .ref ws, .ref wp, .int (nI n), .int lt, .int wk]) := (va_up_ne _ _ ne_q_wp).trans e_5
      refine lv_aload_n hx hb d_Pe_tell_39 rfl (lv_at hl 0 rfl) ?_
      refine lv_dup hx hb d_Pe_tell_40 rfl ?_
      refine pg_get (C := "SmokeZones$Person") (T := T_Pe) (N := 8) hx hb hG in_Pe hown hK hP h_q e_8 rfl 5 (by decide) (hG _ k395) (fun _ h9 => h9) rfl d_Pe_tell_41 ?_
      refine lv_iconst (v := 1) hx hb d_Pe_tell_44 (by decide) ?_
      refine lv_iadd hx hb d_Pe_tell_45 ?_
      refine pg_put (C := "SmokeZones$Person") (T := T_Pe) (N := 8) (ty := .int) hx hb hG in_Pe ty_Pe ok_Pe nm_Pe hown hK hP hD hS h_q e_8 rfl 5 (by decide) (hG _ k395) (fun _ h9 => h9) rfl (by decide +kernel) rfl rfl (Nat.le_of_ble_eq_true rfl) d_Pe_tell_46 (fun H locs hP hD hS => ?_)
      have hP : va_P D vwCl (va_pl L (va_up (va_up (va_up f ws (.inl (ct 6, 20, .inl (upd g1 (Int32.toNatClampNeg (nI n)) t0)))) wp (.inl (ct 6, 20, .inl (upd g2 (Int32.toNatClampNeg (nI n)) go)))) q (.inr (5, [.int pl, .long dz, .long be, .ref ws, .ref wp, .int ((nI n) + 1), .int lt, .int wk])))) H := hP
      have hD : va_D A (va_pl L (va_up (va_up (va_up f ws (.inl (ct 6, 20, .inl (upd g1 (Int32.toNatClampNeg (nI n)) t0)))) wp (.inl (ct 6, 20, .inl (upd g2 (Int32.toNatClampNeg (nI n)) go)))) q (.inr (5, [.int pl, .long dz, .long be, .ref ws, .ref wp, .int ((nI n) + 1), .int lt, .int wk])))) := hD
      have e_9 : (va_up (va_up (va_up f ws (.inl (ct 6, 20, .inl (upd g1 (Int32.toNatClampNeg (nI n)) t0)))) wp (.inl (ct 6, 20, .inl (upd g2 (Int32.toNatClampNeg (nI n)) go)))) q (.inr (5, [.int pl, .long dz, .long be, .ref ws, .ref wp, .int ((nI n) + 1), .int lt, .int wk]))) q = .inr (5, [.int pl, .long dz, .long be, .ref ws, .ref wp, .int ((nI n) + 1), .int lt, .int wk]) := va_up_self _ _ _
      have e_10 : (va_up (va_up (va_up f ws (.inl (ct 6, 20, .inl (upd g1 (Int32.toNatClampNeg (nI n)) t0)))) wp (.inl (ct 6, 20, .inl (upd g2 (Int32.toNatClampNeg (nI n)) go)))) q (.inr (5, [.int pl, .long dz, .long be, .ref ws, .ref wp, .int ((nI n) + 1), .int lt, .int wk]))) ws = .inl (ct 6, 20, .inl (upd g1 (Int32.toNatClampNeg (nI n)) t0)) := (va_up_ne _ _ ne_ws_q).trans e_7
      have e_11 : (va_up (va_up (va_up f ws (.inl (ct 6, 20, .inl (upd g1 (Int32.toNatClampNeg (nI n)) t0)))) wp (.inl (ct 6, 20, .inl (upd g2 (Int32.toNatClampNeg (nI n)) go)))) q (.inr (5, [.int pl, .long dz, .long be, .ref ws, .ref wp, .int ((nI n) + 1), .int lt, .int wk]))) wp = .inl (ct 6, 20, .inl (upd g2 (Int32.toNatClampNeg (nI n)) go)) := (va_up_ne _ _ ne_wp_q).trans e_6
      refine lv_aload_n hx hb d_Pe_tell_49 rfl (lv_at hl 0 rfl) ?_
      refine lv_iload_n hx hb d_Pe_tell_50 rfl (lv_at hl 1 rfl) ?_
      refine pg_put (C := "SmokeZones$Person") (T := T_Pe) (N := 8) (ty := .int) hx hb hG in_Pe ty_Pe ok_Pe nm_Pe hown hK hP hD hS h_q e_9 rfl 6 (by decide) (hG _ k396) (fun _ h9 => h9) rfl (by decide +kernel) rfl rfl (Nat.le_of_ble_eq_true rfl) d_Pe_tell_51 (fun H locs hP hD hS => ?_)
      rw [bx_uu] at hP hD
      have hP : va_P D vwCl (va_pl L (va_up (va_up (va_up f ws (.inl (ct 6, 20, .inl (upd g1 (Int32.toNatClampNeg (nI n)) t0)))) wp (.inl (ct 6, 20, .inl (upd g2 (Int32.toNatClampNeg (nI n)) go)))) q (.inr (5, [.int pl, .long dz, .long be, .ref ws, .ref wp, .int ((nI n) + 1), .int t0, .int wk])))) H := hP
      have hD : va_D A (va_pl L (va_up (va_up (va_up f ws (.inl (ct 6, 20, .inl (upd g1 (Int32.toNatClampNeg (nI n)) t0)))) wp (.inl (ct 6, 20, .inl (upd g2 (Int32.toNatClampNeg (nI n)) go)))) q (.inr (5, [.int pl, .long dz, .long be, .ref ws, .ref wp, .int ((nI n) + 1), .int t0, .int wk])))) := hD
      have e_12 : (va_up (va_up (va_up f ws (.inl (ct 6, 20, .inl (upd g1 (Int32.toNatClampNeg (nI n)) t0)))) wp (.inl (ct 6, 20, .inl (upd g2 (Int32.toNatClampNeg (nI n)) go)))) q (.inr (5, [.int pl, .long dz, .long be, .ref ws, .ref wp, .int ((nI n) + 1), .int t0, .int wk]))) q = .inr (5, [.int pl, .long dz, .long be, .ref ws, .ref wp, .int ((nI n) + 1), .int t0, .int wk]) := va_up_self _ _ _
      have e_13 : (va_up (va_up (va_up f ws (.inl (ct 6, 20, .inl (upd g1 (Int32.toNatClampNeg (nI n)) t0)))) wp (.inl (ct 6, 20, .inl (upd g2 (Int32.toNatClampNeg (nI n)) go)))) q (.inr (5, [.int pl, .long dz, .long be, .ref ws, .ref wp, .int ((nI n) + 1), .int t0, .int wk]))) ws = .inl (ct 6, 20, .inl (upd g1 (Int32.toNatClampNeg (nI n)) t0)) := (va_up_ne _ _ ne_ws_q).trans e_7
      have e_14 : (va_up (va_up (va_up f ws (.inl (ct 6, 20, .inl (upd g1 (Int32.toNatClampNeg (nI n)) t0)))) wp (.inl (ct 6, 20, .inl (upd g2 (Int32.toNatClampNeg (nI n)) go)))) q (.inr (5, [.int pl, .long dz, .long be, .ref ws, .ref wp, .int ((nI n) + 1), .int t0, .int wk]))) wp = .inl (ct 6, 20, .inl (upd g2 (Int32.toNatClampNeg (nI n)) go)) := (va_up_ne _ _ ne_wp_q).trans e_6
      refine lv_iconst (v := 1) hx hb d_Pe_tell_54 (by decide) ?_
      have hF : (if 20 ≤ nI n then f else if lt < t0 then va_up (va_up (va_up f ws (.inl (ct 6, 20, .inl (upd g1 (Int32.toNatClampNeg (nI n)) t0)))) wp (.inl (ct 6, 20, .inl (upd g2 (Int32.toNatClampNeg (nI n)) go)))) q (personE pl dz be ws wp (nI n + 1) t0 wk) else f) = (va_up (va_up (va_up f ws (.inl (ct 6, 20, .inl (upd g1 (Int32.toNatClampNeg (nI n)) t0)))) wp (.inl (ct 6, 20, .inl (upd g2 (Int32.toNatClampNeg (nI n)) go)))) q (.inr (5, [.int pl, .long dz, .long be, .ref ws, .ref wp, .int ((nI n) + 1), .int t0, .int wk]))) := by
        (try simp only [m_tell, if_neg c_1, if_pos c_2])
        first | done | exact rfl
      rw [← hF] at hP hD
      exact W.zret hx hb hret rfl (fun t ht hW => ⟨⟨_, (), rfl, (by simp only [m_tell, if_neg c_1, if_pos c_2]), by rw [ht]; exact hP, va_K.moved hW.alike hK, hD⟩, hS.F ht⟩) hS.2.2 d_Pe_tell_55
    · refine lv_iconst (v := 0) hx hb d_Pe_tell_17 (by decide) ?_
      have hF : (if 20 ≤ nI n then f else if lt < t0 then va_up (va_up (va_up f ws (.inl (ct 6, 20, .inl (upd g1 (Int32.toNatClampNeg (nI n)) t0)))) wp (.inl (ct 6, 20, .inl (upd g2 (Int32.toNatClampNeg (nI n)) go)))) q (personE pl dz be ws wp (nI n + 1) t0 wk) else f) = (f) := by
        (try simp only [m_tell, if_neg c_1, if_neg c_2])
        first | done | exact rfl
      rw [← hF] at hP hD
      exact W.zret hx hb hret rfl (fun t ht hW => ⟨⟨_, (), rfl, (by simp only [m_tell, if_neg c_1, if_neg c_2]), by rw [ht]; exact hP, va_K.moved hW.alike hK, hD⟩, hS.F ht⟩) hS.2.2 d_Pe_tell_18

set_option maxHeartbeats 4000000 in
set_option maxRecDepth 100000 in
theorem c_Pe_walk {l : Launch} {D : va_G} {ct : Nat → ClassId} {L : List Nat} {f : Nat → va_E} {sz : Nat} {n k : Nat} {ws : Nat} {g1 : Nat → Int32} {wp : Nat} {g2 : Nat → Int32} {q : Nat} {pl : Int32} {dz : Int64} {be : Int64} {lt : Int32} {t0 : Int32} (h_ws : ws ∈ L) (e_ws : f ws = .inl (ct 6, 20, .inl g1)) (h_wp : wp ∈ L) (e_wp : f wp = .inl (ct 6, 20, .inl g2)) (h_q : q ∈ L) (e_q : f q = personE pl dz be ws wp (nI n) lt (nI k)) (hn : n ≤ 20) (hk : k ≤ 20) : Met l y_Pe_walk (WS y_Pe_walk b_Pe_walk 2 none) { frames := 0, cells := 0, slots := 0, locals := 0 } (va_Pc [.ref q, .int t0] (WP D (TYS ct) L f sz)) (Xv D (TYS ct) L (va_up f q (personE (m_wpl n k g1 g2 t0 pl) dz be ws wp (nI n) lt (m_wwk n k g1 t0))) (AA L f sz)) 0 0 (AA L f sz) := by
  refine Met.ofW (cc := b_Pe_walk) (maxL := 2) (ret := none) (by decide) rfl ?_
  intro p e s m args below meth c s₁ B hml hv
  obtain ⟨rfl, hsz, hP, hK, hD0⟩ := hv
  subst hsz
  have hx := B.exec
  have hb := B.bytes
  have hret := B.returns
  have hts := atoms_spec (ws := WS y_Pe_walk b_Pe_walk 2 none) B.pre
  have hG : ∀ w ∈ GW, w.before _ s = true := fun w h => hts w (List.mem_cons_of_mem _ h)
  have hown : s.vm.findClass "SmokeZones$Person" = some m.cls := findClass_of_methodNamed B.named
  have hlocks := B.notSynchronized
  have hD : va_D (AA L f s.heap.size) (va_pl L f) := hD0.self (sz := s.heap.size)
  generalize hAe : AA L f s.heap.size = A at hD ⊢
  have hA : ∀ q : Nat, s.heap.size ≤ q → A q := fun q h => by rw [← hAe]; exact Or.inr h
  have hS : va_S A s.heap s.heap [] := va_S.rf
  have hl := lv_entry ([.ref q, .int t0]) (n := 2) (Nat.le_of_ble_eq_true rfl)
  rw [lg_entry_eq]
  generalize (lg_sl ([.ref q, .int t0]) ++ List.replicate (2 - (lg_sl ([.ref q, .int t0])).length) Slot.unset).toArray = ls at hl ⊢
  have hl : lv_has ls 2 [(0, .ref q), (1, .int t0)] := hl
  have ne_ws_q : ws ≠ q := ne_ai e_ws e_q
  have ne_q_ws : q ≠ ws := fun q => ne_ws_q q.symm
  have ne_wp_q : wp ≠ q := ne_ai e_wp e_q
  have ne_q_wp : q ≠ wp := fun q => ne_wp_q q.symm
  refine lv_aload_n hx hb d_Pe_walk_0 rfl (lv_at hl 0 rfl) ?_
  refine pg_get (C := "SmokeZones$Person") (T := T_Pe) (N := 8) hx hb hG in_Pe hown hK hP h_q e_q rfl 7 (by decide) (hG _ k397) (fun _ h9 => h9) rfl d_Pe_walk_1 ?_
  refine lv_aload_n hx hb d_Pe_walk_4 rfl (lv_at hl 0 rfl) ?_
  refine pg_get (C := "SmokeZones$Person") (T := T_Pe) (N := 8) hx hb hG in_Pe hown hK hP h_q e_q rfl 5 (by decide) (hG _ k395) (fun _ h9 => h9) rfl d_Pe_walk_5 ?_
  refine lv_icmp_ge (tgt := 47) hx hb d_Pe_walk_8 (by decide) (fun c_1 => ?_) (fun c_1 => ?_)
  · have hF : (va_up f q (personE (m_wpl n k g1 g2 t0 pl) dz be ws wp (nI n) lt (m_wwk n k g1 t0))) = (f) := by
      (try simp only [m_wpl, m_wwk, if_pos c_1])
      first | done | exact rfl | exact up_same e_q
    rw [← hF] at hP hD
    exact W.vret hx hb hret (fun t ht hW => ⟨⟨(), rfl, trivial, by rw [ht]; exact hP, va_K.moved hW.alike hK, hD⟩, hS.F ht⟩) hS.2.2 d_Pe_walk_47
  · refine lv_aload_n hx hb d_Pe_walk_11 rfl (lv_at hl 0 rfl) ?_
    refine pg_get (C := "SmokeZones$Person") (T := T_Pe) (N := 8) hx hb hG in_Pe hown hK hP h_q e_q rfl 3 (by decide) (hG _ k393) (fun _ h9 => h9) rfl d_Pe_walk_12 ?_
    refine lv_aload_n hx hb d_Pe_walk_15 rfl (lv_at hl 0 rfl) ?_
    refine pg_get (C := "SmokeZones$Person") (T := T_Pe) (N := 8) hx hb hG in_Pe hown hK hP h_q e_q rfl 7 (by decide) (hG _ k397) (fun _ h9 => h9) rfl d_Pe_walk_16 ?_
    refine pg_iald hx hb hK hP 6 h_ws e_ws rfl (inw hn hk c_1) d_Pe_walk_19 ?_
    refine lv_iload_n hx hb d_Pe_walk_20 rfl (lv_at hl 1 rfl) ?_
    refine lv_icmp_ne (tgt := 47) hx hb d_Pe_walk_21 (by decide) (fun c_2 => ?_) (fun c_2 => ?_)
    · have hF : (va_up f q (personE (m_wpl n k g1 g2 t0 pl) dz be ws wp (nI n) lt (m_wwk n k g1 t0))) = (f) := by
        (try simp only [m_wpl, m_wwk, if_neg c_1, if_neg c_2])
        first | done | exact rfl | exact up_same e_q
      rw [← hF] at hP hD
      exact W.vret hx hb hret (fun t ht hW => ⟨⟨(), rfl, trivial, by rw [ht]; exact hP, va_K.moved hW.alike hK, hD⟩, hS.F ht⟩) hS.2.2 d_Pe_walk_47
    · refine lv_aload_n hx hb d_Pe_walk_24 rfl (lv_at hl 0 rfl) ?_
      refine lv_aload_n hx hb d_Pe_walk_25 rfl (lv_at hl 0 rfl) ?_
      refine pg_get (C := "SmokeZones$Person") (T := T_Pe) (N := 8) hx hb hG in_Pe hown hK hP h_q e_q rfl 4 (by decide) (hG _ k394) (fun _ h9 => h9) rfl d_Pe_walk_26 ?_
      refine lv_aload_n hx hb d_Pe_walk_29 rfl (lv_at hl 0 rfl) ?_
      refine pg_get (C := "SmokeZones$Person") (T := T_Pe) (N := 8) hx hb hG in_Pe hown hK hP h_q e_q rfl 7 (by decide) (hG _ k397) (fun _ h9 => h9) rfl d_Pe_walk_30 ?_
      refine pg_iald hx hb hK hP 6 h_wp e_wp rfl (inw hn hk c_1) d_Pe_walk_33 ?_
      refine pg_put (C := "SmokeZones$Person") (T := T_Pe) (N := 8) (ty := .int) hx hb hG in_Pe ty_Pe ok_Pe nm_Pe hown hK hP hD hS h_q e_q rfl 0 (by decide) (hG _ k387) (fun _ h9 => h9) rfl (by decide +kernel) rfl rfl (Nat.le_of_ble_eq_true rfl) d_Pe_walk_34 (fun H locs hP hD hS => ?_)
      have hP : va_P D vwCl (va_pl L (va_up f q (.inr (5, [.int (g2 (Int32.toNatClampNeg (nI k))), .long dz, .long be, .ref ws, .ref wp, .int (nI n), .int lt, .int (nI k)])))) H := hP
      have hD : va_D A (va_pl L (va_up f q (.inr (5, [.int (g2 (Int32.toNatClampNeg (nI k))), .long dz, .long be, .ref ws, .ref wp, .int (nI n), .int lt, .int (nI k)])))) := hD
      have e_3 : (va_up f q (.inr (5, [.int (g2 (Int32.toNatClampNeg (nI k))), .long dz, .long be, .ref ws, .ref wp, .int (nI n), .int lt, .int (nI k)]))) q = .inr (5, [.int (g2 (Int32.toNatClampNeg (nI k))), .long dz, .long be, .ref ws, .ref wp, .int (nI n), .int lt, .int (nI k)]) := va_up_self _ _ _
      have e_4 : (va_up f q (.inr (5, [.int (g2 (Int32.toNatClampNeg (nI k))), .long dz, .long be, .ref ws, .ref wp, .int (nI n), .int lt, .int (nI k)]))) ws = .inl (ct 6, 20, .inl g1) := (va_up_ne _ _ ne_ws_q).trans e_ws
      have e_5 : (va_up f q (.inr (5, [.int (g2 (Int32.toNatClampNeg (nI k))), .long dz, .long be, .ref ws, .ref wp, .int (nI n), .int lt, .int (nI k)]))) wp = .inl (ct 6, 20, .inl g2) := (va_up_ne _ _ ne_wp_q).trans e_wp
      refine lv_aload_n hx hb d_Pe_walk_37 rfl (lv_at hl 0 rfl) ?_
      refine lv_dup hx hb d_Pe_walk_38 rfl ?_
      refine pg_get (C := "SmokeZones$Person") (T := T_Pe) (N := 8) hx hb hG in_Pe hown hK hP h_q e_3 rfl 7 (by decide) (hG _ k397) (fun _ h9 => h9) rfl d_Pe_walk_39 ?_
      refine lv_iconst (v := 1) hx hb d_Pe_walk_42 (by decide) ?_
      refine lv_iadd hx hb d_Pe_walk_43 ?_
      refine pg_put (C := "SmokeZones$Person") (T := T_Pe) (N := 8) (ty := .int) hx hb hG in_Pe ty_Pe ok_Pe nm_Pe hown hK hP hD hS h_q e_3 rfl 7 (by decide) (hG _ k397) (fun _ h9 => h9) rfl (by decide +kernel) rfl rfl (Nat.le_of_ble_eq_true rfl) d_Pe_walk_44 (fun H locs hP hD hS => ?_)
      rw [bx_uu] at hP hD
      have hP : va_P D vwCl (va_pl L (va_up f q (.inr (5, [.int (g2 (Int32.toNatClampNeg (nI k))), .long dz, .long be, .ref ws, .ref wp, .int (nI n), .int lt, .int ((nI k) + 1)])))) H := hP
      have hD : va_D A (va_pl L (va_up f q (.inr (5, [.int (g2 (Int32.toNatClampNeg (nI k))), .long dz, .long be, .ref ws, .ref wp, .int (nI n), .int lt, .int ((nI k) + 1)])))) := hD
      have e_6 : (va_up f q (.inr (5, [.int (g2 (Int32.toNatClampNeg (nI k))), .long dz, .long be, .ref ws, .ref wp, .int (nI n), .int lt, .int ((nI k) + 1)]))) q = .inr (5, [.int (g2 (Int32.toNatClampNeg (nI k))), .long dz, .long be, .ref ws, .ref wp, .int (nI n), .int lt, .int ((nI k) + 1)]) := va_up_self _ _ _
      have e_7 : (va_up f q (.inr (5, [.int (g2 (Int32.toNatClampNeg (nI k))), .long dz, .long be, .ref ws, .ref wp, .int (nI n), .int lt, .int ((nI k) + 1)]))) ws = .inl (ct 6, 20, .inl g1) := (va_up_ne _ _ ne_ws_q).trans e_ws
      have e_8 : (va_up f q (.inr (5, [.int (g2 (Int32.toNatClampNeg (nI k))), .long dz, .long be, .ref ws, .ref wp, .int (nI n), .int lt, .int ((nI k) + 1)]))) wp = .inl (ct 6, 20, .inl g2) := (va_up_ne _ _ ne_wp_q).trans e_wp
      have hF : (va_up f q (personE (m_wpl n k g1 g2 t0 pl) dz be ws wp (nI n) lt (m_wwk n k g1 t0))) = (va_up f q (.inr (5, [.int (g2 (Int32.toNatClampNeg (nI k))), .long dz, .long be, .ref ws, .ref wp, .int (nI n), .int lt, .int ((nI k) + 1)]))) := by
        (try simp only [m_wpl, m_wwk, if_neg c_1, if_pos c_2])
        first | done | exact rfl | exact up_same e_q
      rw [← hF] at hP hD
      exact W.vret hx hb hret (fun t ht hW => ⟨⟨(), rfl, trivial, by rw [ht]; exact hP, va_K.moved hW.alike hK, hD⟩, hS.F ht⟩) hS.2.2 d_Pe_walk_47

set_option maxHeartbeats 4000000 in
set_option maxRecDepth 100000 in
theorem c_Pe_breathe {l : Launch} {D : va_G} {TY : List (ClassId × FieldType)} {L : List Nat} {f : Nat → va_E} {sz : Nat} {q : Nat} {pl : Int32} {dz : Int64} {be : Int64} {ws : Nat} {wp : Nat} {td : Int32} {lt : Int32} {wk : Int32} {r : Nat} {ar : Int32} {he : Int32} {ho : Int64} {sm : Int64} {ht : Int64} {sl : Int32} {sa : Int32} {fl : Int32} (h_q : q ∈ L) (e_q : f q = personE pl dz be ws wp td lt wk) (h_r : r ∈ L) (e_r : f r = roomE ar he ho sm ht sl sa fl) : Met l y_Pe_breathe (WS y_Pe_breathe b_Pe_breathe 2 none) { frames := 3, cells := 0, slots := 0, locals := 60 } (va_Pc [.ref q, .ref r] (WP D TY L f sz)) (Xv D TY L (va_up f q (personE pl (m_dz (m_low ar he sm) sm ht dz) (m_be (m_low ar he sm) be) ws wp td lt wk)) (AA L f sz)) 0 0 (AA L f sz) := by
  refine Met.ofW (cc := b_Pe_breathe) (maxL := 2) (ret := none) (by decide) rfl ?_
  intro p e s m args below meth c s₁ B hml hv
  obtain ⟨rfl, hsz, hP, hK, hD0⟩ := hv
  subst hsz
  have hx := B.exec
  have hb := B.bytes
  have hret := B.returns
  have hts := atoms_spec (ws := WS y_Pe_breathe b_Pe_breathe 2 none) B.pre
  have hG : ∀ w ∈ GW, w.before _ s = true := fun w h => hts w (List.mem_cons_of_mem _ h)
  have hown : s.vm.findClass "SmokeZones$Person" = some m.cls := findClass_of_methodNamed B.named
  have hlocks := B.notSynchronized
  have hD : va_D (AA L f s.heap.size) (va_pl L f) := hD0.self (sz := s.heap.size)
  generalize hAe : AA L f s.heap.size = A at hD ⊢
  have hA : ∀ q : Nat, s.heap.size ≤ q → A q := fun q h => by rw [← hAe]; exact Or.inr h
  have hS : va_S A s.heap s.heap [] := va_S.rf
  have hl := lv_entry ([.ref q, .ref r]) (n := 2) (Nat.le_of_ble_eq_true rfl)
  rw [lg_entry_eq]
  generalize (lg_sl ([.ref q, .ref r]) ++ List.replicate (2 - (lg_sl ([.ref q, .ref r])).length) Slot.unset).toArray = ls at hl ⊢
  have hl : lv_has ls 2 [(0, .ref q), (1, .ref r)] := hl
  have ne_q_r : q ≠ r := ne_ci e_q e_r (by decide)
  have ne_r_q : r ≠ q := fun q => ne_q_r q.symm
  refine lv_aload_n hx hb d_Pe_breathe_0 rfl (lv_at hl 1 rfl) ?_
  refine kV_ri ⟨hx, hb, hml, hown, hG⟩ (c_Ro_isLow h_r e_r) (cwV 0 hG (gV k557 k558 k559 k8 k560) rfl rfl rfl hd_Ro_isLow ⟨Nat.le_of_ble_eq_true rfl, Nat.le_of_ble_eq_true rfl⟩) hK hP hS h_r e_r rfl rfl hl.1 rfl (Nat.le_of_ble_eq_true rfl) ⟨Nat.le_of_ble_eq_true rfl, Nat.le_of_ble_eq_true rfl⟩ d_Pe_breathe_1 (fun locs hS => ?_)
  refine lv_if_eq (tgt := 32) hx hb d_Pe_breathe_4 (by decide) (fun c_1 => ?_) (fun c_1 => ?_)
  · have hF : (va_up f q (personE pl (m_dz (m_low ar he sm) sm ht dz) (m_be (m_low ar he sm) be) ws wp td lt wk)) = (f) := by
      (try simp only [m_dz, m_be, if_pos c_1])
      first | done | exact rfl | exact up_same e_q
    rw [← hF] at hP hD
    exact W.vret hx hb hret (fun t ht hW => ⟨⟨(), rfl, trivial, by rw [ht]; exact hP, va_K.moved hW.alike hK, hD⟩, hS.F ht⟩) hS.2.2 d_Pe_breathe_32
  · refine lv_aload_n hx hb d_Pe_breathe_7 rfl (lv_at hl 0 rfl) ?_
    refine lv_dup hx hb d_Pe_breathe_8 rfl ?_
    refine pg_get (C := "SmokeZones$Person") (T := T_Pe) (N := 8) hx hb hG in_Pe hown hK hP h_q e_q rfl 1 (by decide) (hG _ k389) (fun _ h9 => h9) rfl d_Pe_breathe_9 ?_
    refine lv_aload_n hx hb d_Pe_breathe_12 rfl (lv_at hl 1 rfl) ?_
    refine kV_rl ⟨hx, hb, hml, hown, hG⟩ (c_Ro_warmth h_r e_r) (cwV 0 hG (gV k562 k528 k529 k8 k530) rfl rfl rfl hd_Ro_warmth ⟨Nat.le_of_ble_eq_true rfl, Nat.le_of_ble_eq_true rfl⟩) hK hP hS h_r e_r rfl rfl hl.1 rfl (Nat.le_of_ble_eq_true rfl) ⟨Nat.le_of_ble_eq_true rfl, Nat.le_of_ble_eq_true rfl⟩ d_Pe_breathe_13 (fun locs hS => ?_)
    refine lv_lconst (v := 1) hx hb d_Pe_breathe_16 (by decide) ?_
    refine lv_ladd hx hb d_Pe_breathe_17 ?_
    refine lv_ladd hx hb d_Pe_breathe_18 ?_
    refine pg_put (C := "SmokeZones$Person") (T := T_Pe) (N := 8) (ty := .long) hx hb hG in_Pe ty_Pe ok_Pe nm_Pe hown hK hP hD hS h_q e_q rfl 1 (by decide) (hG _ k389) (fun _ h9 => h9) rfl (by decide +kernel) rfl rfl (Nat.le_of_ble_eq_true rfl) d_Pe_breathe_19 (fun H locs hP hD hS => ?_)
    have hP : va_P D vwCl (va_pl L (va_up f q (.inr (5, [.int pl, .long (dz + ((m_warmth sm ht) + 1)), .long be, .ref ws, .ref wp, .int td, .int lt, .int wk])))) H := hP
    have hD : va_D A (va_pl L (va_up f q (.inr (5, [.int pl, .long (dz + ((m_warmth sm ht) + 1)), .long be, .ref ws, .ref wp, .int td, .int lt, .int wk])))) := hD
    have e_2 : (va_up f q (.inr (5, [.int pl, .long (dz + ((m_warmth sm ht) + 1)), .long be, .ref ws, .ref wp, .int td, .int lt, .int wk]))) q = .inr (5, [.int pl, .long (dz + ((m_warmth sm ht) + 1)), .long be, .ref ws, .ref wp, .int td, .int lt, .int wk]) := va_up_self _ _ _
    have e_3 : (va_up f q (.inr (5, [.int pl, .long (dz + ((m_warmth sm ht) + 1)), .long be, .ref ws, .ref wp, .int td, .int lt, .int wk]))) r = .inr (0, [.int ar, .int he, .long ho, .long sm, .long ht, .int sl, .int sa, .int fl]) := (va_up_ne _ _ ne_r_q).trans e_r
    refine lv_aload_n hx hb d_Pe_breathe_22 rfl (lv_at hl 0 rfl) ?_
    refine lv_dup hx hb d_Pe_breathe_23 rfl ?_
    refine pg_get (C := "SmokeZones$Person") (T := T_Pe) (N := 8) hx hb hG in_Pe hown hK hP h_q e_2 rfl 2 (by decide) (hG _ k391) (fun _ h9 => h9) rfl d_Pe_breathe_24 ?_
    refine lv_lconst (v := 1) hx hb d_Pe_breathe_27 (by decide) ?_
    refine lv_ladd hx hb d_Pe_breathe_28 ?_
    refine pg_put (C := "SmokeZones$Person") (T := T_Pe) (N := 8) (ty := .long) hx hb hG in_Pe ty_Pe ok_Pe nm_Pe hown hK hP hD hS h_q e_2 rfl 2 (by decide) (hG _ k391) (fun _ h9 => h9) rfl (by decide +kernel) rfl rfl (Nat.le_of_ble_eq_true rfl) d_Pe_breathe_29 (fun H locs hP hD hS => ?_)
    rw [bx_uu] at hP hD
    have hP : va_P D vwCl (va_pl L (va_up f q (.inr (5, [.int pl, .long (dz + ((m_warmth sm ht) + 1)), .long (be + 1), .ref ws, .ref wp, .int td, .int lt, .int wk])))) H := hP
    have hD : va_D A (va_pl L (va_up f q (.inr (5, [.int pl, .long (dz + ((m_warmth sm ht) + 1)), .long (be + 1), .ref ws, .ref wp, .int td, .int lt, .int wk])))) := hD
    have e_4 : (va_up f q (.inr (5, [.int pl, .long (dz + ((m_warmth sm ht) + 1)), .long (be + 1), .ref ws, .ref wp, .int td, .int lt, .int wk]))) q = .inr (5, [.int pl, .long (dz + ((m_warmth sm ht) + 1)), .long (be + 1), .ref ws, .ref wp, .int td, .int lt, .int wk]) := va_up_self _ _ _
    have e_5 : (va_up f q (.inr (5, [.int pl, .long (dz + ((m_warmth sm ht) + 1)), .long (be + 1), .ref ws, .ref wp, .int td, .int lt, .int wk]))) r = .inr (0, [.int ar, .int he, .long ho, .long sm, .long ht, .int sl, .int sa, .int fl]) := (va_up_ne _ _ ne_r_q).trans e_r
    have hF : (va_up f q (personE pl (m_dz (m_low ar he sm) sm ht dz) (m_be (m_low ar he sm) be) ws wp td lt wk)) = (va_up f q (.inr (5, [.int pl, .long (dz + ((m_warmth sm ht) + 1)), .long (be + 1), .ref ws, .ref wp, .int td, .int lt, .int wk]))) := by
      (try simp only [m_dz, m_be, if_neg c_1])
      first | done | exact rfl | exact up_same e_q
    rw [← hF] at hP hD
    exact W.vret hx hb hret (fun t ht hW => ⟨⟨(), rfl, trivial, by rw [ht]; exact hP, va_K.moved hW.alike hK, hD⟩, hS.F ht⟩) hS.2.2 d_Pe_breathe_32

set_option maxHeartbeats 4000000 in
set_option maxRecDepth 100000 in
theorem c_Ro_init {l : Launch} {D : va_G} {TY : List (ClassId × FieldType)} {L : List Nat} {f : Nat → va_E} {sz : Nat} {r : Nat} {ar : Int32} {he : Int32} {ho : Int64} {sm : Int64} {ht : Int64} {sl : Int32} {sa : Int32} {fl : Int32} {p0 : Int32} {p1 : Int32} (h_r : r ∈ L) (e_r : f r = roomE ar he ho sm ht sl sa fl) : Met l y_Ro_init (WS y_Ro_init b_Ro_init 3 none) { frames := 1, cells := 0, slots := 0, locals := 12 } (va_Pc [.ref r, .int p0, .int p1] (WP D TY L f sz)) (Xv D TY L (va_up f r (roomE p0 p1 (Int32.toInt64 p0 * Int32.toInt64 p1) sm ht (-1) sa (-1))) (AA L f sz)) 0 0 (AA L f sz) := by
  refine Met.ofW (cc := b_Ro_init) (maxL := 3) (ret := none) (by decide) rfl ?_
  intro p e s m args below meth c s₁ B hml hv
  obtain ⟨rfl, hsz, hP, hK, hD0⟩ := hv
  subst hsz
  have hx := B.exec
  have hb := B.bytes
  have hret := B.returns
  have hts := atoms_spec (ws := WS y_Ro_init b_Ro_init 3 none) B.pre
  have hG : ∀ w ∈ GW, w.before _ s = true := fun w h => hts w (List.mem_cons_of_mem _ h)
  have hown : s.vm.findClass "SmokeZones$Room" = some m.cls := findClass_of_methodNamed B.named
  have hlocks := B.notSynchronized
  have hin : meth.name = "<init>" := (name_of_methodNamed B.named B.method).1
  have hD : va_D (AA L f s.heap.size) (va_pl L f) := hD0.self (sz := s.heap.size)
  generalize hAe : AA L f s.heap.size = A at hD ⊢
  have hA : ∀ q : Nat, s.heap.size ≤ q → A q := fun q h => by rw [← hAe]; exact Or.inr h
  have hS : va_S A s.heap s.heap [] := va_S.rf
  have hl := lv_entry ([.ref r, .int p0, .int p1]) (n := 3) (Nat.le_of_ble_eq_true rfl)
  rw [lg_entry_eq]
  generalize (lg_sl ([.ref r, .int p0, .int p1]) ++ List.replicate (3 - (lg_sl ([.ref r, .int p0, .int p1])).length) Slot.unset).toArray = ls at hl ⊢
  have hl : lv_has ls 3 [(0, .ref r), (1, .int p0), (2, .int p1)] := hl
  refine lv_aload_n hx hb d_Ro_init_0 rfl (lv_at hl 0 rfl) ?_
  refine pg_objInit hx hb hown (hml.trans hl.1.symm) (hG _ k195) (hG _ k21) (hG _ ko_c) (Nat.le_of_ble_eq_true rfl) (Nat.le_of_ble_eq_true rfl) d_Ro_init_1 ?_
  refine lv_aload_n hx hb d_Ro_init_4 rfl (lv_at hl 0 rfl) ?_
  refine lv_iload_n hx hb d_Ro_init_5 rfl (lv_at hl 1 rfl) ?_
  refine pg_putF (C := "SmokeZones$Room") (T := T_Ro) (N := 8) (ty := .int) hx hb hG in_Ro ty_Ro ok_Ro nm_Ro hown hK hP hD hS h_r e_r rfl 0 (by decide) (hG _ k196) (fun _ h9 => h9) rfl hin rfl (by decide +kernel) rfl rfl (Nat.le_of_ble_eq_true rfl) d_Ro_init_6 (fun H locs hP hD hS => ?_)
  have hP : va_P D vwCl (va_pl L (va_up f r (.inr (0, [.int p0, .int he, .long ho, .long sm, .long ht, .int sl, .int sa, .int fl])))) H := hP
  have hD : va_D A (va_pl L (va_up f r (.inr (0, [.int p0, .int he, .long ho, .long sm, .long ht, .int sl, .int sa, .int fl])))) := hD
  have e_1 : (va_up f r (.inr (0, [.int p0, .int he, .long ho, .long sm, .long ht, .int sl, .int sa, .int fl]))) r = .inr (0, [.int p0, .int he, .long ho, .long sm, .long ht, .int sl, .int sa, .int fl]) := va_up_self _ _ _
  refine lv_aload_n hx hb d_Ro_init_9 rfl (lv_at hl 0 rfl) ?_
  refine lv_iload_n hx hb d_Ro_init_10 rfl (lv_at hl 2 rfl) ?_
  refine pg_putF (C := "SmokeZones$Room") (T := T_Ro) (N := 8) (ty := .int) hx hb hG in_Ro ty_Ro ok_Ro nm_Ro hown hK hP hD hS h_r e_1 rfl 1 (by decide) (hG _ k197) (fun _ h9 => h9) rfl hin rfl (by decide +kernel) rfl rfl (Nat.le_of_ble_eq_true rfl) d_Ro_init_11 (fun H locs hP hD hS => ?_)
  rw [bx_uu] at hP hD
  have hP : va_P D vwCl (va_pl L (va_up f r (.inr (0, [.int p0, .int p1, .long ho, .long sm, .long ht, .int sl, .int sa, .int fl])))) H := hP
  have hD : va_D A (va_pl L (va_up f r (.inr (0, [.int p0, .int p1, .long ho, .long sm, .long ht, .int sl, .int sa, .int fl])))) := hD
  have e_2 : (va_up f r (.inr (0, [.int p0, .int p1, .long ho, .long sm, .long ht, .int sl, .int sa, .int fl]))) r = .inr (0, [.int p0, .int p1, .long ho, .long sm, .long ht, .int sl, .int sa, .int fl]) := va_up_self _ _ _
  refine lv_aload_n hx hb d_Ro_init_14 rfl (lv_at hl 0 rfl) ?_
  refine lv_iload_n hx hb d_Ro_init_15 rfl (lv_at hl 1 rfl) ?_
  refine lv_i2l hx hb d_Ro_init_16 rfl ?_
  refine lv_iload_n hx hb d_Ro_init_17 rfl (lv_at hl 2 rfl) ?_
  refine lv_i2l hx hb d_Ro_init_18 rfl ?_
  refine lv_lmul hx hb d_Ro_init_19 ?_
  refine pg_putF (C := "SmokeZones$Room") (T := T_Ro) (N := 8) (ty := .long) hx hb hG in_Ro ty_Ro ok_Ro nm_Ro hown hK hP hD hS h_r e_2 rfl 2 (by decide) (hG _ k199) (fun _ h9 => h9) rfl hin rfl (by decide +kernel) rfl rfl (Nat.le_of_ble_eq_true rfl) d_Ro_init_20 (fun H locs hP hD hS => ?_)
  rw [bx_uu] at hP hD
  have hP : va_P D vwCl (va_pl L (va_up f r (.inr (0, [.int p0, .int p1, .long ((Int32.toInt64 p0) * (Int32.toInt64 p1)), .long sm, .long ht, .int sl, .int sa, .int fl])))) H := hP
  have hD : va_D A (va_pl L (va_up f r (.inr (0, [.int p0, .int p1, .long ((Int32.toInt64 p0) * (Int32.toInt64 p1)), .long sm, .long ht, .int sl, .int sa, .int fl])))) := hD
  have e_3 : (va_up f r (.inr (0, [.int p0, .int p1, .long ((Int32.toInt64 p0) * (Int32.toInt64 p1)), .long sm, .long ht, .int sl, .int sa, .int fl]))) r = .inr (0, [.int p0, .int p1, .long ((Int32.toInt64 p0) * (Int32.toInt64 p1)), .long sm, .long ht, .int sl, .int sa, .int fl]) := va_up_self _ _ _
  refine lv_aload_n hx hb d_Ro_init_23 rfl (lv_at hl 0 rfl) ?_
  refine lv_iconst (v := (-1)) hx hb d_Ro_init_24 (by decide) ?_
  refine pg_put (C := "SmokeZones$Room") (T := T_Ro) (N := 8) (ty := .int) hx hb hG in_Ro ty_Ro ok_Ro nm_Ro hown hK hP hD hS h_r e_3 rfl 5 (by decide) (hG _ k206) (fun _ h9 => h9) rfl (by decide +kernel) rfl rfl (Nat.le_of_ble_eq_true rfl) d_Ro_init_25 (fun H locs hP hD hS => ?_)
  rw [bx_uu] at hP hD
  have hP : va_P D vwCl (va_pl L (va_up f r (.inr (0, [.int p0, .int p1, .long ((Int32.toInt64 p0) * (Int32.toInt64 p1)), .long sm, .long ht, .int (-1), .int sa, .int fl])))) H := hP
  have hD : va_D A (va_pl L (va_up f r (.inr (0, [.int p0, .int p1, .long ((Int32.toInt64 p0) * (Int32.toInt64 p1)), .long sm, .long ht, .int (-1), .int sa, .int fl])))) := hD
  have e_4 : (va_up f r (.inr (0, [.int p0, .int p1, .long ((Int32.toInt64 p0) * (Int32.toInt64 p1)), .long sm, .long ht, .int (-1), .int sa, .int fl]))) r = .inr (0, [.int p0, .int p1, .long ((Int32.toInt64 p0) * (Int32.toInt64 p1)), .long sm, .long ht, .int (-1), .int sa, .int fl]) := va_up_self _ _ _
  refine lv_aload_n hx hb d_Ro_init_28 rfl (lv_at hl 0 rfl) ?_
  refine lv_iconst (v := (-1)) hx hb d_Ro_init_29 (by decide) ?_
  refine pg_put (C := "SmokeZones$Room") (T := T_Ro) (N := 8) (ty := .int) hx hb hG in_Ro ty_Ro ok_Ro nm_Ro hown hK hP hD hS h_r e_4 rfl 7 (by decide) (hG _ k211) (fun _ h9 => h9) rfl (by decide +kernel) rfl rfl (Nat.le_of_ble_eq_true rfl) d_Ro_init_30 (fun H locs hP hD hS => ?_)
  rw [bx_uu] at hP hD
  have hP : va_P D vwCl (va_pl L (va_up f r (.inr (0, [.int p0, .int p1, .long ((Int32.toInt64 p0) * (Int32.toInt64 p1)), .long sm, .long ht, .int (-1), .int sa, .int (-1)])))) H := hP
  have hD : va_D A (va_pl L (va_up f r (.inr (0, [.int p0, .int p1, .long ((Int32.toInt64 p0) * (Int32.toInt64 p1)), .long sm, .long ht, .int (-1), .int sa, .int (-1)])))) := hD
  have e_5 : (va_up f r (.inr (0, [.int p0, .int p1, .long ((Int32.toInt64 p0) * (Int32.toInt64 p1)), .long sm, .long ht, .int (-1), .int sa, .int (-1)]))) r = .inr (0, [.int p0, .int p1, .long ((Int32.toInt64 p0) * (Int32.toInt64 p1)), .long sm, .long ht, .int (-1), .int sa, .int (-1)]) := va_up_self _ _ _
  have hF : (va_up f r (roomE p0 p1 (Int32.toInt64 p0 * Int32.toInt64 p1) sm ht (-1) sa (-1))) = (va_up f r (.inr (0, [.int p0, .int p1, .long ((Int32.toInt64 p0) * (Int32.toInt64 p1)), .long sm, .long ht, .int (-1), .int sa, .int (-1)]))) := by
    first | done | exact rfl
  rw [← hF] at hP hD
  exact W.vret hx hb hret (fun t ht hW => ⟨⟨(), rfl, trivial, by rw [ht]; exact hP, va_K.moved hW.alike hK, hD⟩, hS.F ht⟩) hS.2.2 d_Ro_init_33
end
section
/-! exceptions: what a thrower needs of the start, the checkers' contracts -/
abbrev IAE : String := "java/lang/IllegalArgumentException"
abbrev ISE : String := "java/lang/IllegalStateException"
abbrev XN : List String := ["java/lang/RuntimeException", "java/lang/Exception"]
abbrev TX1 : String := "a number is out of its bounds, or there is no such thing"
abbrev TX2 : String := "not in this state"
def NG : List Cond := [Cond.castable IAE IAE, Cond.castable ISE ISE, Cond.declares ⟨"java/lang/RuntimeException", "<init>", "()V"⟩, Cond.declares ⟨"java/lang/RuntimeException", "<init>", "(Ljava/lang/String;)V"⟩, Cond.declares ⟨"java/lang/Exception", "<init>", "()V"⟩, Cond.declares ⟨"java/lang/Exception", "<init>", "(Ljava/lang/String;)V"⟩, Cond.declares ⟨"java/lang/Throwable", "<init>", "()V"⟩, Cond.declares ⟨"java/lang/Throwable", "<init>", "(Ljava/lang/String;)V"⟩]
theorem ng1 : ∀ w ∈ (vx_atS "SmokeZones" 187 IAE XN).filter (fun w => !goodWord w), w ∈ NG := by decide +kernel
theorem ng2 : ∀ w ∈ (vx_atS "SmokeZones" 194 ISE XN).filter (fun w => !goodWord w), w ∈ NG := by decide +kernel
theorem gg1 : ∀ w ∈ (vx_atS "SmokeZones" 187 IAE XN).filter goodWord, w ∈ lw_tbl := by decide +kernel
theorem gg2 : ∀ w ∈ (vx_atS "SmokeZones" 194 ISE XN).filter goodWord, w ∈ lw_tbl := by decide +kernel
theorem go1 : ∀ w ∈ Cond.classLink "SmokeZones" 183 IAE :: Cond.initialized IAE :: vx_atS "SmokeZones" 187 IAE XN, vx_ot w = true := by decide +kernel
theorem go2 : ∀ w ∈ Cond.classLink "SmokeZones" 190 ISE :: Cond.initialized ISE :: vx_atS "SmokeZones" 194 ISE XN, vx_ot w = true := by decide +kernel
theorem ft1 : Bundle.fit IAE = true := by decide +kernel
theorem ft2 : Bundle.fit ISE = true := by decide +kernel
theorem ft3 : ∀ n ∈ XN, Bundle.fit n = true := by decide +kernel
theorem ng_ot : ∀ w ∈ NG, w.onTables = true := by decide +kernel
theorem ng_warm {s U : State} (hW : s.WarmedH U.vm) (h : ∀ w ∈ NG, va_Nw w s) : ∀ w ∈ NG, va_Nw w U := by
  intro w hw
  have h0 := h w hw
  simp only [NG, List.mem_cons, List.not_mem_nil, or_false] at hw
  rcases hw with rfl | rfl | rfl | rfl | rfl | rfl | rfl | rfl
  · exact va_Nw.warmC hW h0
  · exact va_Nw.warmC hW h0
  · exact va_Nw.warmD hW h0
  · exact va_Nw.warmD hW h0
  · exact va_Nw.warmD hW h0
  · exact va_Nw.warmD hW h0
  · exact va_Nw.warmD hW h0
  · exact va_Nw.warmD hW h0
def EX (A : Nat → Prop) (sa sb : Nat) (U : State) (H : Heap) : Prop :=
  vx_Zq Bundle.tN "UNASSIGNED_STACK" Bundle.steD A U H ∧ vx_Zq Bundle.tN "SUPPRESSED_SENTINEL" Bundle.listD A U H ∧ vk_R "SmokeZones" 185 TX1 sa U ∧ vk_R "SmokeZones" 192 TX2 sb U ∧ ∀ w ∈ NG, va_Nw w U
theorem EX.call {A A' : Nat → Prop} {sa sb : Nat} {s U : State} {H : Heap} {locs : List Loc} (h : EX A sa sb s s.heap) (hS : va_S A s.heap H locs) (hW : s.WarmedH U.vm) (hAA : ∀ q, A' q → A q) : EX A' sa sb U H :=
  ⟨((h.1.moved hW.alike).kept hS.2.1).narrow hAA, ((h.2.1.moved hW.alike).kept hS.2.1).narrow hAA, h.2.2.1.warm hW, h.2.2.2.1.warm hW, ng_warm hW h.2.2.2.2⟩
theorem EX.calling {A : Nat → Prop} {sa sb : Nat} {U : State} {H : Heap} (g : JFrame) (mk : MethodId) (a : Array Value) (h : EX A sa sb U H) : EX A sa sb (U.calling g mk a) H :=
  ⟨h.1.moved (u := U) (U := U.calling g mk a) (Vm.Alike.refl U.vm), h.2.1.moved (u := U) (U := U.calling g mk a) (Vm.Alike.refl U.vm), vk_R.same (u := U) rfl h.2.2.1, vk_R.same (u := U) rfl h.2.2.2.1, fun w hw => va_Nw.same (u := U) (ng_ot w hw) rfl (h.2.2.2.2 w hw)⟩
abbrev New (H : Heap) : Nat → Prop := fun q => H.size ≤ q
def NP (D : va_G) (TY : List (ClassId × FieldType)) (L : List Nat) (f : Nat → va_E) (sa sb : Nat) (H : Heap) (U : State) : Prop := U.heap = H ∧ va_P D vwCl (va_pl L f) H ∧ va_K D vwCl TY U ∧ EX (New H) sa sb U H
theorem NP.blind {D : va_G} {TY : List (ClassId × FieldType)} {L : List Nat} {f : Nat → va_E} {sa sb : Nat} {H : Heap} (av : List Value) : FrameBlind (va_Pc av (NP D TY L f sa sb H)) := fun a U g mk q => by
  obtain ⟨q0, q1, q2, q3, q4⟩ := q
  exact ⟨q0, q1, q2, va_K.moved (u := U) (U := U.calling g mk a) (Vm.Alike.refl U.vm) q3, q4.calling g mk a⟩
/-- a checker: it returns where 'ok', throws E0 where not; no old cell changes -/
abbrev CK (l : Launch) (y : MethodName) (ws : List Cond) (rm : Room) (av : List Value) (D : va_G) (TY : List (ClassId × FieldType)) (L : List Nat) (f : Nat → va_E) (sa sb : Nat) (H : Heap) (ok : Prop) (E0 : String) : Prop :=
  vx_Met l y ws rm (va_Pc av (NP D TY L f sa sb H)) (va_Qv (fun _ : Unit => ok) (fun _ t => t.heap = H) No) (vx_X (fun _ : Unit => ¬ ok) (fun E _ _ => E = E0) (New H)) 1 6 (New H)
theorem hatS {args : Array Value} {s : State} {L : List Cond} (hG : ∀ w ∈ GW, w.before args s = true) (h1 : ∀ w ∈ L.filter goodWord, w ∈ lw_tbl) (h2 : ∀ w ∈ L.filter (fun w => !goodWord w), w ∈ NG) (h3 : ∀ w ∈ NG, va_Nw w s) : ∀ w ∈ L, w.before args s = true :=
  vx_hat (B := NG) (fun w hw => hG w (List.mem_filter.mpr ⟨h1 w hw, (List.mem_filter.mp hw).2⟩)) h2 (fun w hw => (h3 w hw).use (ng_ot w hw))
set_option maxHeartbeats 4000000 in
set_option maxRecDepth 100000 in
theorem c_Sz_needArgument {l : Launch} (hl : l.stackTraces = false) {D : va_G} {TY : List (ClassId × FieldType)} {L : List Nat} {f : Nat → va_E} {sa sb : Nat} {H : Heap} {z : Int32} : CK l y_Sz_needArgument (WS y_Sz_needArgument b_Sz_needArgument 1 none) { frames := 6, cells := 1, slots := 6, locals := 90 } [.int z] D TY L f sa sb H (¬ z = 0) IAE := by
  refine vx_ofW (cc := b_Sz_needArgument) (maxL := 1) (ret := none) (by decide) rfl ?_
  intro p e s m args below meth c s₁ B hml htab hv
  obtain ⟨rfl, hH, hP, hK, hE⟩ := hv
  subst hH
  have hx := B.exec
  have hb := B.bytes
  have hret := B.returns
  have hts := atoms_spec (ws := WS y_Sz_needArgument b_Sz_needArgument 1 none) B.pre
  have hG : ∀ w ∈ GW, w.before _ s = true := fun w h => hts w (List.mem_cons_of_mem _ h)
  have hown : s.vm.findClass "SmokeZones" = some m.cls := findClass_of_methodNamed B.named
  have hlocks := B.notSynchronized
  have hS : va_S (New s.heap) s.heap s.heap [] := va_S.rf
  have hl2 := lv_entry ([.int z]) (n := 1) (Nat.le_of_ble_eq_true rfl)
  rw [lg_entry_eq]
  generalize (lg_sl ([.int z]) ++ List.replicate (1 - (lg_sl ([.int z])).length) Slot.unset).toArray = ls at hl2 ⊢
  have hl2 : lv_has ls 1 [(0, .int z)] := hl2
  refine lv_iload_n hx hb d_Sz_needArgument_0 rfl (lv_at hl2 0 rfl) ?_
  refine lv_if_ne (tgt := 14) hx hb d_Sz_needArgument_1 (by decide) (fun c_1 => ?_) (fun c_1 => ?_)
  · refine W.widen (k := 1) (n := 6) (by decide) (by decide) ?_
    exact vx_ret (W.vret hx hb hret (fun t ht hW => ⟨⟨(), rfl, c_1, ht⟩, ⟨by rw [ht]; exact Nat.le_refl _, fun q h1 h2 => by rw [ht]⟩⟩) hS.2.2 d_Sz_needArgument_14)
  · exact vx_throwS (names := XN) (text := TX1) (A := New s.heap) hx hb hl hown ft1 ft3 (hG _ k102) (hG _ k6) hE.2.2.1 (hatS hG gg1 ng1 hE.2.2.2.2) go1 hE.1 hE.2.1 hS (hl2.1.trans hml.symm) d_Sz_needArgument_4 d_Sz_needArgument_7 d_Sz_needArgument_8 d_Sz_needArgument_10 d_Sz_needArgument_13 (fun x hx9 => (htab x hx9).elim) (by decide) (by decide) (by decide) (by decide) hlocks (fun t hvm hsz hk => ⟨(), fun h => h c_1, rfl, hsz, fun q h1 _ => hk q h1⟩) hS.2.2 (by decide) (by decide)
set_option maxHeartbeats 4000000 in
set_option maxRecDepth 100000 in
theorem c_Sz_needState {l : Launch} (hl : l.stackTraces = false) {D : va_G} {TY : List (ClassId × FieldType)} {L : List Nat} {f : Nat → va_E} {sa sb : Nat} {H : Heap} {z : Int32} : CK l y_Sz_needState (WS y_Sz_needState b_Sz_needState 1 none) { frames := 6, cells := 1, slots := 6, locals := 90 } [.int z] D TY L f sa sb H (¬ z = 0) ISE := by
  refine vx_ofW (cc := b_Sz_needState) (maxL := 1) (ret := none) (by decide) rfl ?_
  intro p e s m args below meth c s₁ B hml htab hv
  obtain ⟨rfl, hH, hP, hK, hE⟩ := hv
  subst hH
  have hx := B.exec
  have hb := B.bytes
  have hret := B.returns
  have hts := atoms_spec (ws := WS y_Sz_needState b_Sz_needState 1 none) B.pre
  have hG : ∀ w ∈ GW, w.before _ s = true := fun w h => hts w (List.mem_cons_of_mem _ h)
  have hown : s.vm.findClass "SmokeZones" = some m.cls := findClass_of_methodNamed B.named
  have hlocks := B.notSynchronized
  have hS : va_S (New s.heap) s.heap s.heap [] := va_S.rf
  have hl2 := lv_entry ([.int z]) (n := 1) (Nat.le_of_ble_eq_true rfl)
  rw [lg_entry_eq]
  generalize (lg_sl ([.int z]) ++ List.replicate (1 - (lg_sl ([.int z])).length) Slot.unset).toArray = ls at hl2 ⊢
  have hl2 : lv_has ls 1 [(0, .int z)] := hl2
  refine lv_iload_n hx hb d_Sz_needState_0 rfl (lv_at hl2 0 rfl) ?_
  refine lv_if_ne (tgt := 14) hx hb d_Sz_needState_1 (by decide) (fun c_1 => ?_) (fun c_1 => ?_)
  · refine W.widen (k := 1) (n := 6) (by decide) (by decide) ?_
    exact vx_ret (W.vret hx hb hret (fun t ht hW => ⟨⟨(), rfl, c_1, ht⟩, ⟨by rw [ht]; exact Nat.le_refl _, fun q h1 h2 => by rw [ht]⟩⟩) hS.2.2 d_Sz_needState_14)
  · exact vx_throwS (names := XN) (text := TX2) (A := New s.heap) hx hb hl hown ft2 ft3 (hG _ k175) (hG _ k7) hE.2.2.2.1 (hatS hG gg2 ng2 hE.2.2.2.2) go2 hE.1 hE.2.1 hS (hl2.1.trans hml.symm) d_Sz_needState_4 d_Sz_needState_7 d_Sz_needState_8 d_Sz_needState_10 d_Sz_needState_13 (fun x hx9 => (htab x hx9).elim) (by decide) (by decide) (by decide) (by decide) hlocks (fun t hvm hsz hk => ⟨(), fun h => h c_1, rfl, hsz, fun q h1 _ => hk q h1⟩) hS.2.2 (by decide) (by decide)
section CKC
variable {p : Program} {l : Launch} {e : Env} {R : Room} {s : State} {m : MethodId} {args : Array Value} {below : List Frame} {meth : Method} {c : Code} {H : Heap} {locs : List Loc} {cells slots : Nat} {Q : State → Prop} {A : Nat → Prop} {D : va_G} {TY : List (ClassId × FieldType)} {L : List Nat} {f : Nat → va_E} {pc : Nat} {ls : Array Slot} {rest st0 : List Value} {sa sb : Nat} {ok : Prop} {E0 : String}
variable {y : MethodName} {bytes cc : ByteArray} {maxL nL n index : Nat} {ret : Option FieldType} {ws : List Cond} {rm : Room} {Ts : List Cond} {own C : String} {b : Addr} {As : List Value}
theorem kS_ck (S : CallFix p m c cc nL s args Ts own) (hM : CK l y ws rm As D TY L f sa sb H ok E0) (cw : CallB R s args own index y bytes maxL ret ws rm 1 6 n ∧ (Cond.static y).before args s = true) (hK : va_K D vwCl TY s) (hP : va_P D vwCl (va_pl L f) H) (hS : va_S A s.heap H locs) (hA : ∀ q, s.heap.size ≤ q → A q) (hE : EX A sa sb s s.heap) (hn : As.length = n) (hsize : ls.size = nL) (hst : st0 = As.reverse ++ rest) (hW : (rest.map fun v => v.category).sum ≤ 8) (hf : cells + 1 ≤ R.cells ∧ slots + 6 ≤ R.slots) (hdg : decode cc pc = .ok (.invokestatic index, 3))
    (kx : ¬ ok → ∀ (ce : Cell) (q9 : Addr) (H1 : Heap) (locs1 : List Loc), H.size ≤ H1.size → (∀ q : Nat, q < H.size → H1[q]? = H[q]?) → va_S A s.heap H1 locs1 → H1[q9]? = some ce → ce.vm = .none → s.vm.findClass E0 = some ce.cls → vx_W p l e R s m args below meth c H1 locs1 (cells + 1) (slots + 6) Q (F0 m pc ls rest) q9)
    (kk : ok → ∀ locs1, va_S A s.heap H locs1 → W p l e R s m args below meth c H locs1 (cells + 1) (slots + 6) Q (F0 m (pc + 3) ls rest)) : W p l e R s m args below meth c H locs cells slots Q (F0 m pc ls st0) := by
  have hNA : ∀ q, New H q → A q := fun q h => hA q (Nat.le_trans hS.1 h)
  refine vx_callv (vx_runS S hM cw ⟨NP.blind _, fun U hU hW => ⟨rfl, hU, hP, va_K.moved hW.alike hK, hE.call hS hW hNA⟩⟩ rfl hn hsize hst (lv_room hW) hdg hf) hS (fun q _ h => h.elim) hNA (fun q _ h => hNA q h) (fun E ce q9 u t H1 locs1 ht hvm hp hB hz hk hS1 h1 h2 h3 => ?_) (fun u t H1 locs1 ht hvm hp hB hz hk hS1 => ?_)
  · subst hB
    exact kx hp ce q9 H1 locs1 hz (fun q hq => hk q hq (Nat.not_le.mpr hq)) hS1 h1 h2 h3
  · obtain rfl : H1 = H := ht.symm.trans hB
    exact kk hp locs1 hS1
theorem kV_ck {ci : Nat} {fs : List Value} {T : u_T} {N : Nat} (S : CallFix p m c cc nL s args Ts own) (hM : CK l y ws rm (.ref b :: As) D TY L f sa sb H ok E0) (cw : CallW R s args own C index y bytes maxL ret ws rm 1 6 n) (hK : va_K D vwCl TY s) (hP : va_P D vwCl (va_pl L f) H) (hS : va_S A s.heap H locs) (hA : ∀ q, s.heap.size ≤ q → A q) (hE : EX A sa sb s s.heap) (hbL : b ∈ L) (he : f b = .inr (ci, fs)) (hc : vwCl[ci]? = some (C, T, N)) (hn : As.length = n) (hsize : ls.size = nL) (hst : st0 = As.reverse ++ .ref b :: rest) (hW : (rest.map fun v => v.category).sum ≤ 8) (hf : cells + 1 ≤ R.cells ∧ slots + 6 ≤ R.slots) (hdg : decode cc pc = .ok (.invokevirtual index, 3))
    (kx : ¬ ok → ∀ (ce : Cell) (q9 : Addr) (H1 : Heap) (locs1 : List Loc), H.size ≤ H1.size → (∀ q : Nat, q < H.size → H1[q]? = H[q]?) → va_S A s.heap H1 locs1 → H1[q9]? = some ce → ce.vm = .none → s.vm.findClass E0 = some ce.cls → vx_W p l e R s m args below meth c H1 locs1 (cells + 1) (slots + 6) Q (F0 m pc ls rest) q9)
    (kk : ok → ∀ locs1, va_S A s.heap H locs1 → W p l e R s m args below meth c H locs1 (cells + 1) (slots + 6) Q (F0 m (pc + 3) ls rest)) : W p l e R s m args below meth c H locs cells slots Q (F0 m pc ls st0) := by
  have hNA : ∀ q, New H q → A q := fun q h => hA q (Nat.le_trans hS.1 h)
  refine vx_callv (vx_runV S hM cw ⟨NP.blind _, pc_recv hK hP hbL he hc, fun U hU hW => ⟨rfl, hU, hP, va_K.moved hW.alike hK, hE.call hS hW hNA⟩⟩ rfl hn hsize hst (lv_room hW) hdg hf) hS (fun q _ h => h.elim) hNA (fun q _ h => hNA q h) (fun E ce q9 u t H1 locs1 ht hvm hp hB hz hk hS1 h1 h2 h3 => ?_) (fun u t H1 locs1 ht hvm hp hB hz hk hS1 => ?_)
  · subst hB
    exact kx hp ce q9 H1 locs1 hz (fun q hq => hk q hq (Nat.not_le.mpr hq)) hS1 h1 h2 h3
  · obtain rfl : H1 = H := ht.symm.trans hB
    exact kk hp locs1 hS1
end CKC
end
section
set_option maxHeartbeats 4000000 in
set_option maxRecDepth 100000 in
theorem c_Sz_needBetween {l : Launch} (hl0 : l.stackTraces = false) {D : va_G} {TY : List (ClassId × FieldType)} {L : List Nat} {f : Nat → va_E} {sa sb : Nat} {H : Heap} {v : Int32} {lo : Int32} {hi : Int32}   : CK l y_Sz_needBetween (WS y_Sz_needBetween b_Sz_needBetween 3 none) { frames := 7, cells := 1, slots := 6, locals := 110 } [.int v, .int lo, .int hi] D TY L f sa sb H (lo ≤ v ∧ v ≤ hi) IAE := by
  refine vx_ofW (cc := b_Sz_needBetween) (maxL := 3) (ret := none) (by decide) rfl ?_
  intro p e s m args below meth c s₁ B hml htab hv
  obtain ⟨rfl, hH, hP, hK, hE⟩ := hv
  subst hH
  have hx := B.exec
  have hb := B.bytes
  have hret := B.returns
  have hts := atoms_spec (ws := WS y_Sz_needBetween b_Sz_needBetween 3 none) B.pre
  have hG : ∀ w ∈ GW, w.before _ s = true := fun w h => hts w (List.mem_cons_of_mem _ h)
  have hown : s.vm.findClass "SmokeZones" = some m.cls := findClass_of_methodNamed B.named
  have hlocks := B.notSynchronized
  have hS : va_S (New s.heap) s.heap s.heap [] := va_S.rf
  have hA : ∀ q : Nat, s.heap.size ≤ q → New s.heap q := fun _ h => h
  have hl := lv_entry ([.int v, .int lo, .int hi]) (n := 3) (Nat.le_of_ble_eq_true rfl)
  rw [lg_entry_eq]
  generalize (lg_sl ([.int v, .int lo, .int hi]) ++ List.replicate (3 - (lg_sl ([.int v, .int lo, .int hi])).length) Slot.unset).toArray = ls at hl ⊢
  have hl : lv_has ls 3 [(0, .int v), (1, .int lo), (2, .int hi)] := hl
  refine lv_iload_n hx hb d_Sz_needBetween_0 rfl (lv_at hl 0 rfl) ?_
  refine lv_iload_n hx hb d_Sz_needBetween_1 rfl (lv_at hl 1 rfl) ?_
  refine lv_icmp_lt (tgt := 14) hx hb d_Sz_needBetween_2 (by decide) (fun c_1 => ?_) (fun c_1 => ?_)
  · refine lv_iconst (v := 0) hx hb d_Sz_needBetween_14 (by decide) ?_
    refine kS_ck ⟨hx, hb, hml, hown, hG⟩ (c_Sz_needArgument hl0 ) (cwS 1 hG (gS k99 k100 k1 k101) rfl rfl rfl hd_Sz_needArgument ⟨Nat.le_of_ble_eq_true rfl, Nat.le_of_ble_eq_true rfl⟩) hK hP hS hA hE rfl hl.1 rfl (Nat.le_of_ble_eq_true rfl) ⟨Nat.le_of_ble_eq_true rfl, Nat.le_of_ble_eq_true rfl⟩ d_Sz_needBetween_15 (fun k_2 ce q9 H1 locs hz hk hS h1 h2 h3 => ?_) (fun k_2 locs hS => ?_)
    · exact vx_out (fun x hx9 => (htab x hx9).elim) hlocks h1 h2 h3 (fun t ht hvm => ⟨(), (fun h => Int32.not_lt.mpr h.1 c_1), rfl, by rw [ht]; exact hz, fun q g1 _ => by rw [ht]; exact hk q g1⟩) hS.2.2 (by decide) (by decide)
    · exact absurd rfl k_2
  · refine lv_iload_n hx hb d_Sz_needBetween_5 rfl (lv_at hl 0 rfl) ?_
    refine lv_iload_n hx hb d_Sz_needBetween_6 rfl (lv_at hl 2 rfl) ?_
    refine lv_icmp_gt (tgt := 14) hx hb d_Sz_needBetween_7 (by decide) (fun c_3 => ?_) (fun c_3 => ?_)
    · refine lv_iconst (v := 0) hx hb d_Sz_needBetween_14 (by decide) ?_
      refine kS_ck ⟨hx, hb, hml, hown, hG⟩ (c_Sz_needArgument hl0 ) (cwS 1 hG (gS k99 k100 k1 k101) rfl rfl rfl hd_Sz_needArgument ⟨Nat.le_of_ble_eq_true rfl, Nat.le_of_ble_eq_true rfl⟩) hK hP hS hA hE rfl hl.1 rfl (Nat.le_of_ble_eq_true rfl) ⟨Nat.le_of_ble_eq_true rfl, Nat.le_of_ble_eq_true rfl⟩ d_Sz_needBetween_15 (fun k_4 ce q9 H1 locs hz hk hS h1 h2 h3 => ?_) (fun k_4 locs hS => ?_)
      · exact vx_out (fun x hx9 => (htab x hx9).elim) hlocks h1 h2 h3 (fun t ht hvm => ⟨(), (fun h => Int32.not_lt.mpr h.2 c_3), rfl, by rw [ht]; exact hz, fun q g1 _ => by rw [ht]; exact hk q g1⟩) hS.2.2 (by decide) (by decide)
      · exact absurd rfl k_4
    · refine lv_iconst (v := 1) hx hb d_Sz_needBetween_10 (by decide) ?_
      refine lv_goto (tgt := 15) hx hb d_Sz_needBetween_11 (by decide) ?_
      refine kS_ck ⟨hx, hb, hml, hown, hG⟩ (c_Sz_needArgument hl0 ) (cwS 1 hG (gS k99 k100 k1 k101) rfl rfl rfl hd_Sz_needArgument ⟨Nat.le_of_ble_eq_true rfl, Nat.le_of_ble_eq_true rfl⟩) hK hP hS hA hE rfl hl.1 rfl (Nat.le_of_ble_eq_true rfl) ⟨Nat.le_of_ble_eq_true rfl, Nat.le_of_ble_eq_true rfl⟩ d_Sz_needBetween_15 (fun k_5 ce q9 H1 locs hz hk hS h1 h2 h3 => ?_) (fun k_5 locs hS => ?_)
      · exact absurd (by decide) k_5
      · refine W.widen (k := 1) (n := 6) (by decide) (by decide) ?_
        exact vx_ret (W.vret hx hb hret (fun t ht hW => ⟨⟨(), rfl, ⟨Int32.not_lt.mp c_1, Int32.not_lt.mp c_3⟩, ht⟩, ⟨by rw [ht]; exact Nat.le_refl _, fun q h1 h2 => by rw [ht]⟩⟩) hS.2.2 d_Sz_needBetween_18)

set_option maxHeartbeats 4000000 in
set_option maxRecDepth 100000 in
theorem c_Sz_needNumber {l : Launch} (hl0 : l.stackTraces = false) {D : va_G} {TY : List (ClassId × FieldType)} {L : List Nat} {f : Nat → va_E} {sa sb : Nat} {H : Heap} {v : Int32} {cn : Int32}   : CK l y_Sz_needNumber (WS y_Sz_needNumber b_Sz_needNumber 2 none) { frames := 7, cells := 1, slots := 6, locals := 110 } [.int v, .int cn] D TY L f sa sb H (0 ≤ v ∧ v < cn) IAE := by
  refine vx_ofW (cc := b_Sz_needNumber) (maxL := 2) (ret := none) (by decide) rfl ?_
  intro p e s m args below meth c s₁ B hml htab hv
  obtain ⟨rfl, hH, hP, hK, hE⟩ := hv
  subst hH
  have hx := B.exec
  have hb := B.bytes
  have hret := B.returns
  have hts := atoms_spec (ws := WS y_Sz_needNumber b_Sz_needNumber 2 none) B.pre
  have hG : ∀ w ∈ GW, w.before _ s = true := fun w h => hts w (List.mem_cons_of_mem _ h)
  have hown : s.vm.findClass "SmokeZones" = some m.cls := findClass_of_methodNamed B.named
  have hlocks := B.notSynchronized
  have hS : va_S (New s.heap) s.heap s.heap [] := va_S.rf
  have hA : ∀ q : Nat, s.heap.size ≤ q → New s.heap q := fun _ h => h
  have hl := lv_entry ([.int v, .int cn]) (n := 2) (Nat.le_of_ble_eq_true rfl)
  rw [lg_entry_eq]
  generalize (lg_sl ([.int v, .int cn]) ++ List.replicate (2 - (lg_sl ([.int v, .int cn])).length) Slot.unset).toArray = ls at hl ⊢
  have hl : lv_has ls 2 [(0, .int v), (1, .int cn)] := hl
  refine lv_iload_n hx hb d_Sz_needNumber_0 rfl (lv_at hl 0 rfl) ?_
  refine lv_if_lt (tgt := 13) hx hb d_Sz_needNumber_1 (by decide) (fun c_1 => ?_) (fun c_1 => ?_)
  · refine lv_iconst (v := 0) hx hb d_Sz_needNumber_13 (by decide) ?_
    refine kS_ck ⟨hx, hb, hml, hown, hG⟩ (c_Sz_needArgument hl0 ) (cwS 1 hG (gS k99 k100 k1 k101) rfl rfl rfl hd_Sz_needArgument ⟨Nat.le_of_ble_eq_true rfl, Nat.le_of_ble_eq_true rfl⟩) hK hP hS hA hE rfl hl.1 rfl (Nat.le_of_ble_eq_true rfl) ⟨Nat.le_of_ble_eq_true rfl, Nat.le_of_ble_eq_true rfl⟩ d_Sz_needNumber_14 (fun k_2 ce q9 H1 locs hz hk hS h1 h2 h3 => ?_) (fun k_2 locs hS => ?_)
    · exact vx_out (fun x hx9 => (htab x hx9).elim) hlocks h1 h2 h3 (fun t ht hvm => ⟨(), (fun h => Int32.not_lt.mpr h.1 c_1), rfl, by rw [ht]; exact hz, fun q g1 _ => by rw [ht]; exact hk q g1⟩) hS.2.2 (by decide) (by decide)
    · exact absurd rfl k_2
  · refine lv_iload_n hx hb d_Sz_needNumber_4 rfl (lv_at hl 0 rfl) ?_
    refine lv_iload_n hx hb d_Sz_needNumber_5 rfl (lv_at hl 1 rfl) ?_
    refine lv_icmp_ge (tgt := 13) hx hb d_Sz_needNumber_6 (by decide) (fun c_3 => ?_) (fun c_3 => ?_)
    · refine lv_iconst (v := 0) hx hb d_Sz_needNumber_13 (by decide) ?_
      refine kS_ck ⟨hx, hb, hml, hown, hG⟩ (c_Sz_needArgument hl0 ) (cwS 1 hG (gS k99 k100 k1 k101) rfl rfl rfl hd_Sz_needArgument ⟨Nat.le_of_ble_eq_true rfl, Nat.le_of_ble_eq_true rfl⟩) hK hP hS hA hE rfl hl.1 rfl (Nat.le_of_ble_eq_true rfl) ⟨Nat.le_of_ble_eq_true rfl, Nat.le_of_ble_eq_true rfl⟩ d_Sz_needNumber_14 (fun k_4 ce q9 H1 locs hz hk hS h1 h2 h3 => ?_) (fun k_4 locs hS => ?_)
      · exact vx_out (fun x hx9 => (htab x hx9).elim) hlocks h1 h2 h3 (fun t ht hvm => ⟨(), (fun h => Int32.not_lt.mpr c_3 h.2), rfl, by rw [ht]; exact hz, fun q g1 _ => by rw [ht]; exact hk q g1⟩) hS.2.2 (by decide) (by decide)
      · exact absurd rfl k_4
    · refine lv_iconst (v := 1) hx hb d_Sz_needNumber_9 (by decide) ?_
      refine lv_goto (tgt := 14) hx hb d_Sz_needNumber_10 (by decide) ?_
      refine kS_ck ⟨hx, hb, hml, hown, hG⟩ (c_Sz_needArgument hl0 ) (cwS 1 hG (gS k99 k100 k1 k101) rfl rfl rfl hd_Sz_needArgument ⟨Nat.le_of_ble_eq_true rfl, Nat.le_of_ble_eq_true rfl⟩) hK hP hS hA hE rfl hl.1 rfl (Nat.le_of_ble_eq_true rfl) ⟨Nat.le_of_ble_eq_true rfl, Nat.le_of_ble_eq_true rfl⟩ d_Sz_needNumber_14 (fun k_5 ce q9 H1 locs hz hk hS h1 h2 h3 => ?_) (fun k_5 locs hS => ?_)
      · exact absurd (by decide) k_5
      · refine W.widen (k := 1) (n := 6) (by decide) (by decide) ?_
        exact vx_ret (W.vret hx hb hret (fun t ht hW => ⟨⟨(), rfl, ⟨Int32.not_lt.mp c_1, Int32.not_le.mp c_3⟩, ht⟩, ⟨by rw [ht]; exact Nat.le_refl _, fun q h1 h2 => by rw [ht]⟩⟩) hS.2.2 d_Sz_needNumber_17)

set_option maxHeartbeats 4000000 in
set_option maxRecDepth 100000 in
theorem c_Sz_needSpace {l : Launch} (hl0 : l.stackTraces = false) {D : va_G} {TY : List (ClassId × FieldType)} {L : List Nat} {f : Nat → va_E} {sa sb : Nat} {H : Heap} {cn : Int32} {mo : Int32}   : CK l y_Sz_needSpace (WS y_Sz_needSpace b_Sz_needSpace 2 none) { frames := 7, cells := 1, slots := 6, locals := 110 } [.int cn, .int mo] D TY L f sa sb H (cn < mo) ISE := by
  refine vx_ofW (cc := b_Sz_needSpace) (maxL := 2) (ret := none) (by decide) rfl ?_
  intro p e s m args below meth c s₁ B hml htab hv
  obtain ⟨rfl, hH, hP, hK, hE⟩ := hv
  subst hH
  have hx := B.exec
  have hb := B.bytes
  have hret := B.returns
  have hts := atoms_spec (ws := WS y_Sz_needSpace b_Sz_needSpace 2 none) B.pre
  have hG : ∀ w ∈ GW, w.before _ s = true := fun w h => hts w (List.mem_cons_of_mem _ h)
  have hown : s.vm.findClass "SmokeZones" = some m.cls := findClass_of_methodNamed B.named
  have hlocks := B.notSynchronized
  have hS : va_S (New s.heap) s.heap s.heap [] := va_S.rf
  have hA : ∀ q : Nat, s.heap.size ≤ q → New s.heap q := fun _ h => h
  have hl := lv_entry ([.int cn, .int mo]) (n := 2) (Nat.le_of_ble_eq_true rfl)
  rw [lg_entry_eq]
  generalize (lg_sl ([.int cn, .int mo]) ++ List.replicate (2 - (lg_sl ([.int cn, .int mo])).length) Slot.unset).toArray = ls at hl ⊢
  have hl : lv_has ls 2 [(0, .int cn), (1, .int mo)] := hl
  refine lv_iload_n hx hb d_Sz_needSpace_0 rfl (lv_at hl 0 rfl) ?_
  refine lv_iload_n hx hb d_Sz_needSpace_1 rfl (lv_at hl 1 rfl) ?_
  refine lv_icmp_ge (tgt := 9) hx hb d_Sz_needSpace_2 (by decide) (fun c_1 => ?_) (fun c_1 => ?_)
  · refine lv_iconst (v := 0) hx hb d_Sz_needSpace_9 (by decide) ?_
    refine kS_ck ⟨hx, hb, hml, hown, hG⟩ (c_Sz_needState hl0 ) (cwS 1 hG (gS k172 k173 k1 k174) rfl rfl rfl hd_Sz_needState ⟨Nat.le_of_ble_eq_true rfl, Nat.le_of_ble_eq_true rfl⟩) hK hP hS hA hE rfl hl.1 rfl (Nat.le_of_ble_eq_true rfl) ⟨Nat.le_of_ble_eq_true rfl, Nat.le_of_ble_eq_true rfl⟩ d_Sz_needSpace_10 (fun k_2 ce q9 H1 locs hz hk hS h1 h2 h3 => ?_) (fun k_2 locs hS => ?_)
    · exact vx_out (fun x hx9 => (htab x hx9).elim) hlocks h1 h2 h3 (fun t ht hvm => ⟨(), (fun h => Int32.not_lt.mpr c_1 h), rfl, by rw [ht]; exact hz, fun q g1 _ => by rw [ht]; exact hk q g1⟩) hS.2.2 (by decide) (by decide)
    · exact absurd rfl k_2
  · refine lv_iconst (v := 1) hx hb d_Sz_needSpace_5 (by decide) ?_
    refine lv_goto (tgt := 10) hx hb d_Sz_needSpace_6 (by decide) ?_
    refine kS_ck ⟨hx, hb, hml, hown, hG⟩ (c_Sz_needState hl0 ) (cwS 1 hG (gS k172 k173 k1 k174) rfl rfl rfl hd_Sz_needState ⟨Nat.le_of_ble_eq_true rfl, Nat.le_of_ble_eq_true rfl⟩) hK hP hS hA hE rfl hl.1 rfl (Nat.le_of_ble_eq_true rfl) ⟨Nat.le_of_ble_eq_true rfl, Nat.le_of_ble_eq_true rfl⟩ d_Sz_needSpace_10 (fun k_3 ce q9 H1 locs hz hk hS h1 h2 h3 => ?_) (fun k_3 locs hS => ?_)
    · exact absurd (by decide) k_3
    · refine W.widen (k := 1) (n := 6) (by decide) (by decide) ?_
      exact vx_ret (W.vret hx hb hret (fun t ht hW => ⟨⟨(), rfl, (Int32.not_le.mp c_1), ht⟩, ⟨by rw [ht]; exact Nat.le_refl _, fun q h1 h2 => by rw [ht]⟩⟩) hS.2.2 d_Sz_needSpace_13)

abbrev mainE (AD : Nat → Nat → Nat) (n : Nat → Nat) (I : Nat → Nat → Int32) (J : Nat → Nat → Int64) : va_E := .inr (6, [.ref (AD 8 0), .ref (AD 8 1), .ref (AD 8 2), .ref (AD 8 3), .ref (AD 8 4), .ref (AD 8 5), .int (nI (n 0)), .int (nI (n 1)), .int (nI (n 2)), .int (nI (n 3)), .int (nI (n 4)), .int (nI (n 5)), .int (I 99 0), .long (J 99 0), .long (J 99 1), .long (J 99 2), .long (J 99 3)])
def m_isR (n0 : Nat) (p : Int32) : Int32 := if p < 0 then 0 else if nI n0 ≤ p then 0 else 1

set_option maxHeartbeats 4000000 in
set_option maxRecDepth 100000 in
theorem c_Sz_isRoom {l : Launch} {D : va_G} {TY : List (ClassId × FieldType)} {L : List Nat} {f : Nat → va_E} {H : Heap} {AD : Nat → Nat → Nat} {n : Nat → Nat} {I : Nat → Nat → Int32} {J : Nat → Nat → Int64} {h0 : Nat} {p0 : Int32} (h_h0 : h0 ∈ L) (e_h0 : f h0 = mainE AD n I J) : Met l y_Sz_isRoom (WS y_Sz_isRoom b_Sz_isRoom 2 (some .boolean)) { frames := 0, cells := 0, slots := 0, locals := 0 } (va_Pc [.ref h0, .int p0] (RP D TY L f H)) (Qi (m_isR (n 0) p0) H) 0 0 No := by
  refine Met.ofW (cc := b_Sz_isRoom) (maxL := 2) (ret := (some .boolean)) (by decide) rfl ?_
  intro p e s m args below meth c s₁ B hml hv
  obtain ⟨rfl, hH, hP, hK⟩ := hv
  subst hH
  have hx := B.exec
  have hb := B.bytes
  have hret := B.returns
  have hts := atoms_spec (ws := WS y_Sz_isRoom b_Sz_isRoom 2 (some .boolean)) B.pre
  have hG : ∀ w ∈ GW, w.before _ s = true := fun w h => hts w (List.mem_cons_of_mem _ h)
  have hown : s.vm.findClass "SmokeZones" = some m.cls := findClass_of_methodNamed B.named
  have hlocks := B.notSynchronized
  have hS : va_S No s.heap s.heap [] := va_S.rf
  have hl := lv_entry ([.ref h0, .int p0]) (n := 2) (Nat.le_of_ble_eq_true rfl)
  rw [lg_entry_eq]
  generalize (lg_sl ([.ref h0, .int p0]) ++ List.replicate (2 - (lg_sl ([.ref h0, .int p0])).length) Slot.unset).toArray = ls at hl ⊢
  have hl : lv_has ls 2 [(0, .ref h0), (1, .int p0)] := hl
  refine lv_iload_n hx hb d_Sz_isRoom_0 rfl (lv_at hl 1 rfl) ?_
  refine lv_if_lt (tgt := 16) hx hb d_Sz_isRoom_1 (by decide) (fun c_1 => ?_) (fun c_1 => ?_)
  · refine lv_iconst (v := 0) hx hb d_Sz_isRoom_16 (by decide) ?_
    exact W.zret hx hb hret rfl (fun t ht hW => ⟨⟨_, (), rfl, (by simp only [m_isR, if_pos c_1]), ht⟩, hS.F ht⟩) hS.2.2 d_Sz_isRoom_17
  · refine lv_iload_n hx hb d_Sz_isRoom_4 rfl (lv_at hl 1 rfl) ?_
    refine lv_aload_n hx hb d_Sz_isRoom_5 rfl (lv_at hl 0 rfl) ?_
    refine pg_get (C := "SmokeZones") (T := T_Sz) (N := 17) hx hb hG in_Sz hown hK hP h_h0 e_h0 rfl 6 (by decide) (hG _ k41) (fun _ h9 => h9) rfl d_Sz_isRoom_6 ?_
    refine lv_icmp_ge (tgt := 16) hx hb d_Sz_isRoom_9 (by decide) (fun c_2 => ?_) (fun c_2 => ?_)
    · refine lv_iconst (v := 0) hx hb d_Sz_isRoom_16 (by decide) ?_
      exact W.zret hx hb hret rfl (fun t ht hW => ⟨⟨_, (), rfl, (by simp only [m_isR, if_neg c_1, if_pos c_2]), ht⟩, hS.F ht⟩) hS.2.2 d_Sz_isRoom_17
    · refine lv_iconst (v := 1) hx hb d_Sz_isRoom_12 (by decide) ?_
      refine lv_goto (tgt := 17) hx hb d_Sz_isRoom_13 (by decide) ?_
      exact W.zret hx hb hret rfl (fun t ht hW => ⟨⟨_, (), rfl, (by simp only [m_isR, if_neg c_1, if_neg c_2]), ht⟩, hS.F ht⟩) hS.2.2 d_Sz_isRoom_17

set_option maxHeartbeats 4000000 in
set_option maxRecDepth 100000 in
theorem c_Sz_needPlace {l : Launch} (hl0 : l.stackTraces = false) {D : va_G} {TY : List (ClassId × FieldType)} {L : List Nat} {f : Nat → va_E} {sa sb : Nat} {H : Heap} {AD : Nat → Nat → Nat} {n : Nat → Nat} {I : Nat → Nat → Int32} {J : Nat → Nat → Int64} {h0 : Nat} {p0 : Int32} (h_h0 : h0 ∈ L) (e_h0 : f h0 = .inr (6, [.ref (AD 8 0), .ref (AD 8 1), .ref (AD 8 2), .ref (AD 8 3), .ref (AD 8 4), .ref (AD 8 5), .int (nI (n 0)), .int (nI (n 1)), .int (nI (n 2)), .int (nI (n 3)), .int (nI (n 4)), .int (nI (n 5)), .int (I 99 0), .long (J 99 0), .long (J 99 1), .long (J 99 2), .long (J 99 3)]))  : CK l y_Sz_needPlace (WS y_Sz_needPlace b_Sz_needPlace 2 none) { frames := 7, cells := 1, slots := 6, locals := 110 } [.ref h0, .int p0] D TY L f sa sb H (p0 = (-1) ∨ ¬ m_isR (n 0) p0 = 0) IAE := by
  refine vx_ofW (cc := b_Sz_needPlace) (maxL := 2) (ret := none) (by decide) rfl ?_
  intro p e s m args below meth c s₁ B hml htab hv
  obtain ⟨rfl, hH, hP, hK, hE⟩ := hv
  subst hH
  have hx := B.exec
  have hb := B.bytes
  have hret := B.returns
  have hts := atoms_spec (ws := WS y_Sz_needPlace b_Sz_needPlace 2 none) B.pre
  have hG : ∀ w ∈ GW, w.before _ s = true := fun w h => hts w (List.mem_cons_of_mem _ h)
  have hown : s.vm.findClass "SmokeZones" = some m.cls := findClass_of_methodNamed B.named
  have hlocks := B.notSynchronized
  have hS : va_S (New s.heap) s.heap s.heap [] := va_S.rf
  have hA : ∀ q : Nat, s.heap.size ≤ q → New s.heap q := fun _ h => h
  have hl := lv_entry ([.ref h0, .int p0]) (n := 2) (Nat.le_of_ble_eq_true rfl)
  rw [lg_entry_eq]
  generalize (lg_sl ([.ref h0, .int p0]) ++ List.replicate (2 - (lg_sl ([.ref h0, .int p0])).length) Slot.unset).toArray = ls at hl ⊢
  have hl : lv_has ls 2 [(0, .ref h0), (1, .int p0)] := hl
  refine lv_iload_n hx hb d_Sz_needPlace_0 rfl (lv_at hl 1 rfl) ?_
  refine lv_iconst (v := (-1)) hx hb d_Sz_needPlace_1 (by decide) ?_
  refine lv_icmp_eq (tgt := 13) hx hb d_Sz_needPlace_2 (by decide) (fun c_1 => ?_) (fun c_1 => ?_)
  · refine lv_iconst (v := 1) hx hb d_Sz_needPlace_13 (by decide) ?_
    refine lv_goto (tgt := 18) hx hb d_Sz_needPlace_14 (by decide) ?_
    refine kS_ck ⟨hx, hb, hml, hown, hG⟩ (c_Sz_needArgument hl0 ) (cwS 1 hG (gS k99 k100 k1 k101) rfl rfl rfl hd_Sz_needArgument ⟨Nat.le_of_ble_eq_true rfl, Nat.le_of_ble_eq_true rfl⟩) hK hP hS hA hE rfl hl.1 rfl (Nat.le_of_ble_eq_true rfl) ⟨Nat.le_of_ble_eq_true rfl, Nat.le_of_ble_eq_true rfl⟩ d_Sz_needPlace_18 (fun k_2 ce q9 H1 locs hz hk hS h1 h2 h3 => ?_) (fun k_2 locs hS => ?_)
    · exact absurd (by decide) k_2
    · refine W.widen (k := 1) (n := 6) (by decide) (by decide) ?_
      exact vx_ret (W.vret hx hb hret (fun t ht hW => ⟨⟨(), rfl, (Or.inl c_1), ht⟩, ⟨by rw [ht]; exact Nat.le_refl _, fun q h1 h2 => by rw [ht]⟩⟩) hS.2.2 d_Sz_needPlace_21)
  · refine lv_aload_n hx hb d_Sz_needPlace_5 rfl (lv_at hl 0 rfl) ?_
    refine lv_iload_n hx hb d_Sz_needPlace_6 rfl (lv_at hl 1 rfl) ?_
    refine kV_ri ⟨hx, hb, hml, hown, hG⟩ (c_Sz_isRoom h_h0 e_h0) (cwV 1 hG (gV k244 k246 ks_Sz_isRoom k1 k247) rfl rfl rfl hd_Sz_isRoom ⟨Nat.le_of_ble_eq_true rfl, Nat.le_of_ble_eq_true rfl⟩) hK hP hS h_h0 e_h0 rfl rfl hl.1 rfl (Nat.le_of_ble_eq_true rfl) ⟨Nat.le_of_ble_eq_true rfl, Nat.le_of_ble_eq_true rfl⟩ d_Sz_needPlace_7 (fun locs hS => ?_)
    refine lv_if_eq (tgt := 17) hx hb d_Sz_needPlace_10 (by decide) (fun c_3 => ?_) (fun c_3 => ?_)
    · refine lv_iconst (v := 0) hx hb d_Sz_needPlace_17 (by decide) ?_
      refine kS_ck ⟨hx, hb, hml, hown, hG⟩ (c_Sz_needArgument hl0 ) (cwS 1 hG (gS k99 k100 k1 k101) rfl rfl rfl hd_Sz_needArgument ⟨Nat.le_of_ble_eq_true rfl, Nat.le_of_ble_eq_true rfl⟩) hK hP hS hA hE rfl hl.1 rfl (Nat.le_of_ble_eq_true rfl) ⟨Nat.le_of_ble_eq_true rfl, Nat.le_of_ble_eq_true rfl⟩ d_Sz_needPlace_18 (fun k_4 ce q9 H1 locs hz hk hS h1 h2 h3 => ?_) (fun k_4 locs hS => ?_)
      · exact vx_out (fun x hx9 => (htab x hx9).elim) hlocks h1 h2 h3 (fun t ht hvm => ⟨(), (fun h => h.elim c_1 (fun g => g c_3)), rfl, by rw [ht]; exact hz, fun q g1 _ => by rw [ht]; exact hk q g1⟩) hS.2.2 (by decide) (by decide)
      · exact absurd rfl k_4
    · refine lv_iconst (v := 1) hx hb d_Sz_needPlace_13 (by decide) ?_
      refine lv_goto (tgt := 18) hx hb d_Sz_needPlace_14 (by decide) ?_
      refine kS_ck ⟨hx, hb, hml, hown, hG⟩ (c_Sz_needArgument hl0 ) (cwS 1 hG (gS k99 k100 k1 k101) rfl rfl rfl hd_Sz_needArgument ⟨Nat.le_of_ble_eq_true rfl, Nat.le_of_ble_eq_true rfl⟩) hK hP hS hA hE rfl hl.1 rfl (Nat.le_of_ble_eq_true rfl) ⟨Nat.le_of_ble_eq_true rfl, Nat.le_of_ble_eq_true rfl⟩ d_Sz_needPlace_18 (fun k_5 ce q9 H1 locs hz hk hS h1 h2 h3 => ?_) (fun k_5 locs hS => ?_)
      · exact absurd (by decide) k_5
      · refine W.widen (k := 1) (n := 6) (by decide) (by decide) ?_
        exact vx_ret (W.vret hx hb hret (fun t ht hW => ⟨⟨(), rfl, (Or.inr c_3), ht⟩, ⟨by rw [ht]; exact Nat.le_refl _, fun q h1 h2 => by rw [ht]⟩⟩) hS.2.2 d_Sz_needPlace_21)
end
section
theorem lt3 {j : Nat} (h : j < 3) : j = 0 ∨ j = 1 ∨ j = 2 := by omega
theorem lt5 {j : Nat} (h : j < 5) : j = 0 ∨ j = 1 ∨ j = 2 ∨ j = 3 ∨ j = 4 := by omega
theorem lt8 {j : Nat} (h : j < 8) : j = 0 ∨ j = 1 ∨ j = 2 ∨ j = 3 ∨ j = 4 ∨ j = 5 ∨ j = 6 ∨ j = 7 := by omega
theorem lt10 {j : Nat} (h : j < 10) : j = 0 ∨ j = 1 ∨ j = 2 ∨ j = 3 ∨ j = 4 ∨ j = 5 ∨ j = 6 ∨ j = 7 ∨ j = 8 ∨ j = 9 := by omega
set_option maxHeartbeats 4000000 in
set_option maxRecDepth 100000 in
theorem c_Op_init_n {l : Launch} {D : va_G} {TY : List (ClassId × FieldType)} {L : List Nat} {f : Nat → va_E} {sz : Nat} {q : Nat} {r : Nat} {p2 : Int32} {p3 : Int32} {p4 : Int32} (h_q : q ∈ L) (e_q : f q = .inr (1, [.null, .null, .int 0, .int 0, .int 0, .int 0, .int 0, .long 0, .long 0, .long 0])) : Met l y_Op_init (WS y_Op_init b_Op_init 6 none) { frames := 1, cells := 0, slots := 0, locals := 12 } (va_Pc [.ref q, .ref r, .null, .int p2, .int p3, .int p4] (WP D TY L f sz)) (Xv D TY L (va_up f q (openE r .null p2 p3 p4 (-1) 0 0 0 0)) (AA L f sz)) 0 0 (AA L f sz) := by
  refine Met.ofW (cc := b_Op_init) (maxL := 6) (ret := none) (by decide) rfl ?_
  intro p e s m args below meth c s₁ B hml hv
  obtain ⟨rfl, hsz, hP, hK, hD0⟩ := hv
  subst hsz
  have hx := B.exec
  have hb := B.bytes
  have hret := B.returns
  have hts := atoms_spec (ws := WS y_Op_init b_Op_init 6 none) B.pre
  have hG : ∀ w ∈ GW, w.before _ s = true := fun w h => hts w (List.mem_cons_of_mem _ h)
  have hown : s.vm.findClass "SmokeZones$Opening" = some m.cls := findClass_of_methodNamed B.named
  have hlocks := B.notSynchronized
  have hin : meth.name = "<init>" := (name_of_methodNamed B.named B.method).1
  have hD : va_D (AA L f s.heap.size) (va_pl L f) := hD0.self (sz := s.heap.size)
  generalize hAe : AA L f s.heap.size = A at hD ⊢
  have hA : ∀ q : Nat, s.heap.size ≤ q → A q := fun q h => by rw [← hAe]; exact Or.inr h
  have hS : va_S A s.heap s.heap [] := va_S.rf
  have hl := lv_entry ([.ref q, .ref r, .null, .int p2, .int p3, .int p4]) (n := 6) (Nat.le_of_ble_eq_true rfl)
  rw [lg_entry_eq]
  generalize (lg_sl ([.ref q, .ref r, .null, .int p2, .int p3, .int p4]) ++ List.replicate (6 - (lg_sl ([.ref q, .ref r, .null, .int p2, .int p3, .int p4])).length) Slot.unset).toArray = ls at hl ⊢
  have hl : lv_has ls 6 [(0, .ref q), (1, .ref r), (2, .null), (3, .int p2), (4, .int p3), (5, .int p4)] := hl
  refine lv_aload_n hx hb d_Op_init_0 rfl (lv_at hl 0 rfl) ?_
  refine pg_objInit hx hb hown (hml.trans hl.1.symm) (hG _ k252) (hG _ k21) (hG _ ko_c) (Nat.le_of_ble_eq_true rfl) (Nat.le_of_ble_eq_true rfl) d_Op_init_1 ?_
  refine lv_aload_n hx hb d_Op_init_4 rfl (lv_at hl 0 rfl) ?_
  refine lv_aload_n hx hb d_Op_init_5 rfl (lv_at hl 1 rfl) ?_
  refine pg_putF (C := "SmokeZones$Opening") (T := T_Op) (N := 10) (ty := (.object "SmokeZones$Room")) hx hb hG in_Op ty_Op ok_Op nm_Op hown hK hP hD hS h_q e_q rfl 0 (by decide) (hG _ k253) (fun _ h9 => h9) rfl hin rfl (by decide +kernel) rfl rfl (Nat.le_of_ble_eq_true rfl) d_Op_init_6 (fun H locs hP hD hS => ?_)
  have hP : va_P D vwCl (va_pl (L) (va_up f q (.inr (1, [.ref r, .null, .int 0, .int 0, .int 0, .int 0, .int 0, .long 0, .long 0, .long 0])))) H := hP
  have hD : va_D A (va_pl (L) (va_up f q (.inr (1, [.ref r, .null, .int 0, .int 0, .int 0, .int 0, .int 0, .long 0, .long 0, .long 0])))) := hD
  have e_1 : (va_up f q (.inr (1, [.ref r, .null, .int 0, .int 0, .int 0, .int 0, .int 0, .long 0, .long 0, .long 0]))) q = .inr (1, [.ref r, .null, .int 0, .int 0, .int 0, .int 0, .int 0, .long 0, .long 0, .long 0]) := va_up_self _ _ _
  refine lv_aload_n hx hb d_Op_init_9 rfl (lv_at hl 0 rfl) ?_
  refine lv_aload_nN hx hb d_Op_init_10 rfl (lv_at hl 2 rfl) ?_
  refine pg_putF (C := "SmokeZones$Opening") (T := T_Op) (N := 10) (ty := (.object "SmokeZones$Room")) hx hb hG in_Op ty_Op ok_Op nm_Op hown hK hP hD hS h_q e_1 rfl 1 (by decide) (hG _ k254) (fun _ h9 => h9) rfl hin rfl (by decide +kernel) rfl rfl (Nat.le_of_ble_eq_true rfl) d_Op_init_11 (fun H locs hP hD hS => ?_)
  rw [bx_uu] at hP hD
  have hP : va_P D vwCl (va_pl (L) (va_up f q (.inr (1, [.ref r, .null, .int 0, .int 0, .int 0, .int 0, .int 0, .long 0, .long 0, .long 0])))) H := hP
  have hD : va_D A (va_pl (L) (va_up f q (.inr (1, [.ref r, .null, .int 0, .int 0, .int 0, .int 0, .int 0, .long 0, .long 0, .long 0])))) := hD
  have e_2 : (va_up f q (.inr (1, [.ref r, .null, .int 0, .int 0, .int 0, .int 0, .int 0, .long 0, .long 0, .long 0]))) q = .inr (1, [.ref r, .null, .int 0, .int 0, .int 0, .int 0, .int 0, .long 0, .long 0, .long 0]) := va_up_self _ _ _
  refine lv_aload_n hx hb d_Op_init_14 rfl (lv_at hl 0 rfl) ?_
  refine lv_iload_n hx hb d_Op_init_15 rfl (lv_at hl 3 rfl) ?_
  refine pg_putF (C := "SmokeZones$Opening") (T := T_Op) (N := 10) (ty := .int) hx hb hG in_Op ty_Op ok_Op nm_Op hown hK hP hD hS h_q e_2 rfl 2 (by decide) (hG _ k255) (fun _ h9 => h9) rfl hin rfl (by decide +kernel) rfl rfl (Nat.le_of_ble_eq_true rfl) d_Op_init_16 (fun H locs hP hD hS => ?_)
  rw [bx_uu] at hP hD
  have hP : va_P D vwCl (va_pl (L) (va_up f q (.inr (1, [.ref r, .null, .int p2, .int 0, .int 0, .int 0, .int 0, .long 0, .long 0, .long 0])))) H := hP
  have hD : va_D A (va_pl (L) (va_up f q (.inr (1, [.ref r, .null, .int p2, .int 0, .int 0, .int 0, .int 0, .long 0, .long 0, .long 0])))) := hD
  have e_3 : (va_up f q (.inr (1, [.ref r, .null, .int p2, .int 0, .int 0, .int 0, .int 0, .long 0, .long 0, .long 0]))) q = .inr (1, [.ref r, .null, .int p2, .int 0, .int 0, .int 0, .int 0, .long 0, .long 0, .long 0]) := va_up_self _ _ _
  refine lv_aload_n hx hb d_Op_init_19 rfl (lv_at hl 0 rfl) ?_
  refine lv_iload hx hb d_Op_init_20 (lv_at hl 4 rfl) ?_
  refine pg_putF (C := "SmokeZones$Opening") (T := T_Op) (N := 10) (ty := .int) hx hb hG in_Op ty_Op ok_Op nm_Op hown hK hP hD hS h_q e_3 rfl 3 (by decide) (hG _ k256) (fun _ h9 => h9) rfl hin rfl (by decide +kernel) rfl rfl (Nat.le_of_ble_eq_true rfl) d_Op_init_22 (fun H locs hP hD hS => ?_)
  rw [bx_uu] at hP hD
  have hP : va_P D vwCl (va_pl (L) (va_up f q (.inr (1, [.ref r, .null, .int p2, .int p3, .int 0, .int 0, .int 0, .long 0, .long 0, .long 0])))) H := hP
  have hD : va_D A (va_pl (L) (va_up f q (.inr (1, [.ref r, .null, .int p2, .int p3, .int 0, .int 0, .int 0, .long 0, .long 0, .long 0])))) := hD
  have e_4 : (va_up f q (.inr (1, [.ref r, .null, .int p2, .int p3, .int 0, .int 0, .int 0, .long 0, .long 0, .long 0]))) q = .inr (1, [.ref r, .null, .int p2, .int p3, .int 0, .int 0, .int 0, .long 0, .long 0, .long 0]) := va_up_self _ _ _
  refine lv_aload_n hx hb d_Op_init_25 rfl (lv_at hl 0 rfl) ?_
  refine lv_iload hx hb d_Op_init_26 (lv_at hl 5 rfl) ?_
  refine pg_putF (C := "SmokeZones$Opening") (T := T_Op) (N := 10) (ty := .int) hx hb hG in_Op ty_Op ok_Op nm_Op hown hK hP hD hS h_q e_4 rfl 4 (by decide) (hG _ k257) (fun _ h9 => h9) rfl hin rfl (by decide +kernel) rfl rfl (Nat.le_of_ble_eq_true rfl) d_Op_init_28 (fun H locs hP hD hS => ?_)
  rw [bx_uu] at hP hD
  have hP : va_P D vwCl (va_pl (L) (va_up f q (.inr (1, [.ref r, .null, .int p2, .int p3, .int p4, .int 0, .int 0, .long 0, .long 0, .long 0])))) H := hP
  have hD : va_D A (va_pl (L) (va_up f q (.inr (1, [.ref r, .null, .int p2, .int p3, .int p4, .int 0, .int 0, .long 0, .long 0, .long 0])))) := hD
  have e_5 : (va_up f q (.inr (1, [.ref r, .null, .int p2, .int p3, .int p4, .int 0, .int 0, .long 0, .long 0, .long 0]))) q = .inr (1, [.ref r, .null, .int p2, .int p3, .int p4, .int 0, .int 0, .long 0, .long 0, .long 0]) := va_up_self _ _ _
  refine lv_aload_n hx hb d_Op_init_31 rfl (lv_at hl 0 rfl) ?_
  refine lv_iconst (v := (-1)) hx hb d_Op_init_32 (by decide) ?_
  refine pg_put (C := "SmokeZones$Opening") (T := T_Op) (N := 10) (ty := .int) hx hb hG in_Op ty_Op ok_Op nm_Op hown hK hP hD hS h_q e_5 rfl 5 (by decide) (hG _ k258) (fun _ h9 => h9) rfl (by decide +kernel) rfl rfl (Nat.le_of_ble_eq_true rfl) d_Op_init_33 (fun H locs hP hD hS => ?_)
  rw [bx_uu] at hP hD
  have hP : va_P D vwCl (va_pl (L) (va_up f q (.inr (1, [.ref r, .null, .int p2, .int p3, .int p4, .int (-1), .int 0, .long 0, .long 0, .long 0])))) H := hP
  have hD : va_D A (va_pl (L) (va_up f q (.inr (1, [.ref r, .null, .int p2, .int p3, .int p4, .int (-1), .int 0, .long 0, .long 0, .long 0])))) := hD
  have e_6 : (va_up f q (.inr (1, [.ref r, .null, .int p2, .int p3, .int p4, .int (-1), .int 0, .long 0, .long 0, .long 0]))) q = .inr (1, [.ref r, .null, .int p2, .int p3, .int p4, .int (-1), .int 0, .long 0, .long 0, .long 0]) := va_up_self _ _ _
  have hF : (va_up f q (openE r .null p2 p3 p4 (-1) 0 0 0 0)) = (va_up f q (.inr (1, [.ref r, .null, .int p2, .int p3, .int p4, .int (-1), .int 0, .long 0, .long 0, .long 0]))) := by
    first | done | exact rfl
  rw [← hF] at hP hD
  exact W.vret hx hb hret (fun t ht hW => ⟨⟨(), rfl, trivial, by rw [ht]; exact hP, va_K.moved hW.alike hK, hD⟩, hS.F ht⟩) hS.2.2 d_Op_init_36

set_option maxHeartbeats 4000000 in
set_option maxRecDepth 100000 in
theorem c_Op_init_s {l : Launch} {D : va_G} {TY : List (ClassId × FieldType)} {L : List Nat} {f : Nat → va_E} {sz : Nat} {q : Nat} {r : Nat} {g : Nat} {p2 : Int32} {p3 : Int32} {p4 : Int32} (h_q : q ∈ L) (e_q : f q = .inr (1, [.null, .null, .int 0, .int 0, .int 0, .int 0, .int 0, .long 0, .long 0, .long 0])) : Met l y_Op_init (WS y_Op_init b_Op_init 6 none) { frames := 1, cells := 0, slots := 0, locals := 12 } (va_Pc [.ref q, .ref r, .ref g, .int p2, .int p3, .int p4] (WP D TY L f sz)) (Xv D TY L (va_up f q (openE r (.ref g) p2 p3 p4 (-1) 0 0 0 0)) (AA L f sz)) 0 0 (AA L f sz) := by
  refine Met.ofW (cc := b_Op_init) (maxL := 6) (ret := none) (by decide) rfl ?_
  intro p e s m args below meth c s₁ B hml hv
  obtain ⟨rfl, hsz, hP, hK, hD0⟩ := hv
  subst hsz
  have hx := B.exec
  have hb := B.bytes
  have hret := B.returns
  have hts := atoms_spec (ws := WS y_Op_init b_Op_init 6 none) B.pre
  have hG : ∀ w ∈ GW, w.before _ s = true := fun w h => hts w (List.mem_cons_of_mem _ h)
  have hown : s.vm.findClass "SmokeZones$Opening" = some m.cls := findClass_of_methodNamed B.named
  have hlocks := B.notSynchronized
  have hin : meth.name = "<init>" := (name_of_methodNamed B.named B.method).1
  have hD : va_D (AA L f s.heap.size) (va_pl L f) := hD0.self (sz := s.heap.size)
  generalize hAe : AA L f s.heap.size = A at hD ⊢
  have hA : ∀ q : Nat, s.heap.size ≤ q → A q := fun q h => by rw [← hAe]; exact Or.inr h
  have hS : va_S A s.heap s.heap [] := va_S.rf
  have hl := lv_entry ([.ref q, .ref r, .ref g, .int p2, .int p3, .int p4]) (n := 6) (Nat.le_of_ble_eq_true rfl)
  rw [lg_entry_eq]
  generalize (lg_sl ([.ref q, .ref r, .ref g, .int p2, .int p3, .int p4]) ++ List.replicate (6 - (lg_sl ([.ref q, .ref r, .ref g, .int p2, .int p3, .int p4])).length) Slot.unset).toArray = ls at hl ⊢
  have hl : lv_has ls 6 [(0, .ref q), (1, .ref r), (2, .ref g), (3, .int p2), (4, .int p3), (5, .int p4)] := hl
  refine lv_aload_n hx hb d_Op_init_0 rfl (lv_at hl 0 rfl) ?_
  refine pg_objInit hx hb hown (hml.trans hl.1.symm) (hG _ k252) (hG _ k21) (hG _ ko_c) (Nat.le_of_ble_eq_true rfl) (Nat.le_of_ble_eq_true rfl) d_Op_init_1 ?_
  refine lv_aload_n hx hb d_Op_init_4 rfl (lv_at hl 0 rfl) ?_
  refine lv_aload_n hx hb d_Op_init_5 rfl (lv_at hl 1 rfl) ?_
  refine pg_putF (C := "SmokeZones$Opening") (T := T_Op) (N := 10) (ty := (.object "SmokeZones$Room")) hx hb hG in_Op ty_Op ok_Op nm_Op hown hK hP hD hS h_q e_q rfl 0 (by decide) (hG _ k253) (fun _ h9 => h9) rfl hin rfl (by decide +kernel) rfl rfl (Nat.le_of_ble_eq_true rfl) d_Op_init_6 (fun H locs hP hD hS => ?_)
  have hP : va_P D vwCl (va_pl (L) (va_up f q (.inr (1, [.ref r, .null, .int 0, .int 0, .int 0, .int 0, .int 0, .long 0, .long 0, .long 0])))) H := hP
  have hD : va_D A (va_pl (L) (va_up f q (.inr (1, [.ref r, .null, .int 0, .int 0, .int 0, .int 0, .int 0, .long 0, .long 0, .long 0])))) := hD
  have e_1 : (va_up f q (.inr (1, [.ref r, .null, .int 0, .int 0, .int 0, .int 0, .int 0, .long 0, .long 0, .long 0]))) q = .inr (1, [.ref r, .null, .int 0, .int 0, .int 0, .int 0, .int 0, .long 0, .long 0, .long 0]) := va_up_self _ _ _
  refine lv_aload_n hx hb d_Op_init_9 rfl (lv_at hl 0 rfl) ?_
  refine lv_aload_n hx hb d_Op_init_10 rfl (lv_at hl 2 rfl) ?_
  refine pg_putF (C := "SmokeZones$Opening") (T := T_Op) (N := 10) (ty := (.object "SmokeZones$Room")) hx hb hG in_Op ty_Op ok_Op nm_Op hown hK hP hD hS h_q e_1 rfl 1 (by decide) (hG _ k254) (fun _ h9 => h9) rfl hin rfl (by decide +kernel) rfl rfl (Nat.le_of_ble_eq_true rfl) d_Op_init_11 (fun H locs hP hD hS => ?_)
  rw [bx_uu] at hP hD
  have hP : va_P D vwCl (va_pl (L) (va_up f q (.inr (1, [.ref r, .ref g, .int 0, .int 0, .int 0, .int 0, .int 0, .long 0, .long 0, .long 0])))) H := hP
  have hD : va_D A (va_pl (L) (va_up f q (.inr (1, [.ref r, .ref g, .int 0, .int 0, .int 0, .int 0, .int 0, .long 0, .long 0, .long 0])))) := hD
  have e_2 : (va_up f q (.inr (1, [.ref r, .ref g, .int 0, .int 0, .int 0, .int 0, .int 0, .long 0, .long 0, .long 0]))) q = .inr (1, [.ref r, .ref g, .int 0, .int 0, .int 0, .int 0, .int 0, .long 0, .long 0, .long 0]) := va_up_self _ _ _
  refine lv_aload_n hx hb d_Op_init_14 rfl (lv_at hl 0 rfl) ?_
  refine lv_iload_n hx hb d_Op_init_15 rfl (lv_at hl 3 rfl) ?_
  refine pg_putF (C := "SmokeZones$Opening") (T := T_Op) (N := 10) (ty := .int) hx hb hG in_Op ty_Op ok_Op nm_Op hown hK hP hD hS h_q e_2 rfl 2 (by decide) (hG _ k255) (fun _ h9 => h9) rfl hin rfl (by decide +kernel) rfl rfl (Nat.le_of_ble_eq_true rfl) d_Op_init_16 (fun H locs hP hD hS => ?_)
  rw [bx_uu] at hP hD
  have hP : va_P D vwCl (va_pl (L) (va_up f q (.inr (1, [.ref r, .ref g, .int p2, .int 0, .int 0, .int 0, .int 0, .long 0, .long 0, .long 0])))) H := hP
  have hD : va_D A (va_pl (L) (va_up f q (.inr (1, [.ref r, .ref g, .int p2, .int 0, .int 0, .int 0, .int 0, .long 0, .long 0, .long 0])))) := hD
  have e_3 : (va_up f q (.inr (1, [.ref r, .ref g, .int p2, .int 0, .int 0, .int 0, .int 0, .long 0, .long 0, .long 0]))) q = .inr (1, [.ref r, .ref g, .int p2, .int 0, .int 0, .int 0, .int 0, .long 0, .long 0, .long 0]) := va_up_self _ _ _
  refine lv_aload_n hx hb d_Op_init_19 rfl (lv_at hl 0 rfl) ?_
  refine lv_iload hx hb d_Op_init_20 (lv_at hl 4 rfl) ?_
  refine pg_putF (C := "SmokeZones$Opening") (T := T_Op) (N := 10) (ty := .int) hx hb hG in_Op ty_Op ok_Op nm_Op hown hK hP hD hS h_q e_3 rfl 3 (by decide) (hG _ k256) (fun _ h9 => h9) rfl hin rfl (by decide +kernel) rfl rfl (Nat.le_of_ble_eq_true rfl) d_Op_init_22 (fun H locs hP hD hS => ?_)
  rw [bx_uu] at hP hD
  have hP : va_P D vwCl (va_pl (L) (va_up f q (.inr (1, [.ref r, .ref g, .int p2, .int p3, .int 0, .int 0, .int 0, .long 0, .long 0, .long 0])))) H := hP
  have hD : va_D A (va_pl (L) (va_up f q (.inr (1, [.ref r, .ref g, .int p2, .int p3, .int 0, .int 0, .int 0, .long 0, .long 0, .long 0])))) := hD
  have e_4 : (va_up f q (.inr (1, [.ref r, .ref g, .int p2, .int p3, .int 0, .int 0, .int 0, .long 0, .long 0, .long 0]))) q = .inr (1, [.ref r, .ref g, .int p2, .int p3, .int 0, .int 0, .int 0, .long 0, .long 0, .long 0]) := va_up_self _ _ _
  refine lv_aload_n hx hb d_Op_init_25 rfl (lv_at hl 0 rfl) ?_
  refine lv_iload hx hb d_Op_init_26 (lv_at hl 5 rfl) ?_
  refine pg_putF (C := "SmokeZones$Opening") (T := T_Op) (N := 10) (ty := .int) hx hb hG in_Op ty_Op ok_Op nm_Op hown hK hP hD hS h_q e_4 rfl 4 (by decide) (hG _ k257) (fun _ h9 => h9) rfl hin rfl (by decide +kernel) rfl rfl (Nat.le_of_ble_eq_true rfl) d_Op_init_28 (fun H locs hP hD hS => ?_)
  rw [bx_uu] at hP hD
  have hP : va_P D vwCl (va_pl (L) (va_up f q (.inr (1, [.ref r, .ref g, .int p2, .int p3, .int p4, .int 0, .int 0, .long 0, .long 0, .long 0])))) H := hP
  have hD : va_D A (va_pl (L) (va_up f q (.inr (1, [.ref r, .ref g, .int p2, .int p3, .int p4, .int 0, .int 0, .long 0, .long 0, .long 0])))) := hD
  have e_5 : (va_up f q (.inr (1, [.ref r, .ref g, .int p2, .int p3, .int p4, .int 0, .int 0, .long 0, .long 0, .long 0]))) q = .inr (1, [.ref r, .ref g, .int p2, .int p3, .int p4, .int 0, .int 0, .long 0, .long 0, .long 0]) := va_up_self _ _ _
  refine lv_aload_n hx hb d_Op_init_31 rfl (lv_at hl 0 rfl) ?_
  refine lv_iconst (v := (-1)) hx hb d_Op_init_32 (by decide) ?_
  refine pg_put (C := "SmokeZones$Opening") (T := T_Op) (N := 10) (ty := .int) hx hb hG in_Op ty_Op ok_Op nm_Op hown hK hP hD hS h_q e_5 rfl 5 (by decide) (hG _ k258) (fun _ h9 => h9) rfl (by decide +kernel) rfl rfl (Nat.le_of_ble_eq_true rfl) d_Op_init_33 (fun H locs hP hD hS => ?_)
  rw [bx_uu] at hP hD
  have hP : va_P D vwCl (va_pl (L) (va_up f q (.inr (1, [.ref r, .ref g, .int p2, .int p3, .int p4, .int (-1), .int 0, .long 0, .long 0, .long 0])))) H := hP
  have hD : va_D A (va_pl (L) (va_up f q (.inr (1, [.ref r, .ref g, .int p2, .int p3, .int p4, .int (-1), .int 0, .long 0, .long 0, .long 0])))) := hD
  have e_6 : (va_up f q (.inr (1, [.ref r, .ref g, .int p2, .int p3, .int p4, .int (-1), .int 0, .long 0, .long 0, .long 0]))) q = .inr (1, [.ref r, .ref g, .int p2, .int p3, .int p4, .int (-1), .int 0, .long 0, .long 0, .long 0]) := va_up_self _ _ _
  have hF : (va_up f q (openE r (.ref g) p2 p3 p4 (-1) 0 0 0 0)) = (va_up f q (.inr (1, [.ref r, .ref g, .int p2, .int p3, .int p4, .int (-1), .int 0, .long 0, .long 0, .long 0]))) := by
    first | done | exact rfl
  rw [← hF] at hP hD
  exact W.vret hx hb hret (fun t ht hW => ⟨⟨(), rfl, trivial, by rw [ht]; exact hP, va_K.moved hW.alike hK, hD⟩, hS.F ht⟩) hS.2.2 d_Op_init_36

set_option maxHeartbeats 4000000 in
set_option maxRecDepth 100000 in
theorem c_Fi_init {l : Launch} {D : va_G} {TY : List (ClassId × FieldType)} {L : List Nat} {f : Nat → va_E} {sz : Nat} {q : Nat} {r : Nat} {p1 : Int32} {p2 : Int32} {p3 : Int32} {p4 : Int32} (h_q : q ∈ L) (e_q : f q = .inr (2, [.null, .int 0, .int 0, .int 0, .int 0])) : Met l y_Fi_init (WS y_Fi_init b_Fi_init 6 none) { frames := 1, cells := 0, slots := 0, locals := 12 } (va_Pc [.ref q, .ref r, .int p1, .int p2, .int p3, .int p4] (WP D TY L f sz)) (Xv D TY L (va_up f q (fireE r p1 p2 p3 p4)) (AA L f sz)) 0 0 (AA L f sz) := by
  refine Met.ofW (cc := b_Fi_init) (maxL := 6) (ret := none) (by decide) rfl ?_
  intro p e s m args below meth c s₁ B hml hv
  obtain ⟨rfl, hsz, hP, hK, hD0⟩ := hv
  subst hsz
  have hx := B.exec
  have hb := B.bytes
  have hret := B.returns
  have hts := atoms_spec (ws := WS y_Fi_init b_Fi_init 6 none) B.pre
  have hG : ∀ w ∈ GW, w.before _ s = true := fun w h => hts w (List.mem_cons_of_mem _ h)
  have hown : s.vm.findClass "SmokeZones$Fire" = some m.cls := findClass_of_methodNamed B.named
  have hlocks := B.notSynchronized
  have hin : meth.name = "<init>" := (name_of_methodNamed B.named B.method).1
  have hD : va_D (AA L f s.heap.size) (va_pl L f) := hD0.self (sz := s.heap.size)
  generalize hAe : AA L f s.heap.size = A at hD ⊢
  have hA : ∀ q : Nat, s.heap.size ≤ q → A q := fun q h => by rw [← hAe]; exact Or.inr h
  have hS : va_S A s.heap s.heap [] := va_S.rf
  have hl := lv_entry ([.ref q, .ref r, .int p1, .int p2, .int p3, .int p4]) (n := 6) (Nat.le_of_ble_eq_true rfl)
  rw [lg_entry_eq]
  generalize (lg_sl ([.ref q, .ref r, .int p1, .int p2, .int p3, .int p4]) ++ List.replicate (6 - (lg_sl ([.ref q, .ref r, .int p1, .int p2, .int p3, .int p4])).length) Slot.unset).toArray = ls at hl ⊢
  have hl : lv_has ls 6 [(0, .ref q), (1, .ref r), (2, .int p1), (3, .int p2), (4, .int p3), (5, .int p4)] := hl
  refine lv_aload_n hx hb d_Fi_init_0 rfl (lv_at hl 0 rfl) ?_
  refine pg_objInit hx hb hown (hml.trans hl.1.symm) (hG _ k306) (hG _ k21) (hG _ ko_c) (Nat.le_of_ble_eq_true rfl) (Nat.le_of_ble_eq_true rfl) d_Fi_init_1 ?_
  refine lv_aload_n hx hb d_Fi_init_4 rfl (lv_at hl 0 rfl) ?_
  refine lv_aload_n hx hb d_Fi_init_5 rfl (lv_at hl 1 rfl) ?_
  refine pg_putF (C := "SmokeZones$Fire") (T := T_Fi) (N := 5) (ty := (.object "SmokeZones$Room")) hx hb hG in_Fi ty_Fi ok_Fi nm_Fi hown hK hP hD hS h_q e_q rfl 0 (by decide) (hG _ k307) (fun _ h9 => h9) rfl hin rfl (by decide +kernel) rfl rfl (Nat.le_of_ble_eq_true rfl) d_Fi_init_6 (fun H locs hP hD hS => ?_)
  have hP : va_P D vwCl (va_pl (L) (va_up f q (.inr (2, [.ref r, .int 0, .int 0, .int 0, .int 0])))) H := hP
  have hD : va_D A (va_pl (L) (va_up f q (.inr (2, [.ref r, .int 0, .int 0, .int 0, .int 0])))) := hD
  have e_1 : (va_up f q (.inr (2, [.ref r, .int 0, .int 0, .int 0, .int 0]))) q = .inr (2, [.ref r, .int 0, .int 0, .int 0, .int 0]) := va_up_self _ _ _
  refine lv_aload_n hx hb d_Fi_init_9 rfl (lv_at hl 0 rfl) ?_
  refine lv_iload_n hx hb d_Fi_init_10 rfl (lv_at hl 2 rfl) ?_
  refine pg_putF (C := "SmokeZones$Fire") (T := T_Fi) (N := 5) (ty := .int) hx hb hG in_Fi ty_Fi ok_Fi nm_Fi hown hK hP hD hS h_q e_1 rfl 1 (by decide) (hG _ k308) (fun _ h9 => h9) rfl hin rfl (by decide +kernel) rfl rfl (Nat.le_of_ble_eq_true rfl) d_Fi_init_11 (fun H locs hP hD hS => ?_)
  rw [bx_uu] at hP hD
  have hP : va_P D vwCl (va_pl (L) (va_up f q (.inr (2, [.ref r, .int p1, .int 0, .int 0, .int 0])))) H := hP
  have hD : va_D A (va_pl (L) (va_up f q (.inr (2, [.ref r, .int p1, .int 0, .int 0, .int 0])))) := hD
  have e_2 : (va_up f q (.inr (2, [.ref r, .int p1, .int 0, .int 0, .int 0]))) q = .inr (2, [.ref r, .int p1, .int 0, .int 0, .int 0]) := va_up_self _ _ _
  refine lv_aload_n hx hb d_Fi_init_14 rfl (lv_at hl 0 rfl) ?_
  refine lv_iload_n hx hb d_Fi_init_15 rfl (lv_at hl 3 rfl) ?_
  refine pg_putF (C := "SmokeZones$Fire") (T := T_Fi) (N := 5) (ty := .int) hx hb hG in_Fi ty_Fi ok_Fi nm_Fi hown hK hP hD hS h_q e_2 rfl 2 (by decide) (hG _ k309) (fun _ h9 => h9) rfl hin rfl (by decide +kernel) rfl rfl (Nat.le_of_ble_eq_true rfl) d_Fi_init_16 (fun H locs hP hD hS => ?_)
  rw [bx_uu] at hP hD
  have hP : va_P D vwCl (va_pl (L) (va_up f q (.inr (2, [.ref r, .int p1, .int p2, .int 0, .int 0])))) H := hP
  have hD : va_D A (va_pl (L) (va_up f q (.inr (2, [.ref r, .int p1, .int p2, .int 0, .int 0])))) := hD
  have e_3 : (va_up f q (.inr (2, [.ref r, .int p1, .int p2, .int 0, .int 0]))) q = .inr (2, [.ref r, .int p1, .int p2, .int 0, .int 0]) := va_up_self _ _ _
  refine lv_aload_n hx hb d_Fi_init_19 rfl (lv_at hl 0 rfl) ?_
  refine lv_iload hx hb d_Fi_init_20 (lv_at hl 4 rfl) ?_
  refine pg_putF (C := "SmokeZones$Fire") (T := T_Fi) (N := 5) (ty := .int) hx hb hG in_Fi ty_Fi ok_Fi nm_Fi hown hK hP hD hS h_q e_3 rfl 3 (by decide) (hG _ k310) (fun _ h9 => h9) rfl hin rfl (by decide +kernel) rfl rfl (Nat.le_of_ble_eq_true rfl) d_Fi_init_22 (fun H locs hP hD hS => ?_)
  rw [bx_uu] at hP hD
  have hP : va_P D vwCl (va_pl (L) (va_up f q (.inr (2, [.ref r, .int p1, .int p2, .int p3, .int 0])))) H := hP
  have hD : va_D A (va_pl (L) (va_up f q (.inr (2, [.ref r, .int p1, .int p2, .int p3, .int 0])))) := hD
  have e_4 : (va_up f q (.inr (2, [.ref r, .int p1, .int p2, .int p3, .int 0]))) q = .inr (2, [.ref r, .int p1, .int p2, .int p3, .int 0]) := va_up_self _ _ _
  refine lv_aload_n hx hb d_Fi_init_25 rfl (lv_at hl 0 rfl) ?_
  refine lv_iload hx hb d_Fi_init_26 (lv_at hl 5 rfl) ?_
  refine pg_putF (C := "SmokeZones$Fire") (T := T_Fi) (N := 5) (ty := .int) hx hb hG in_Fi ty_Fi ok_Fi nm_Fi hown hK hP hD hS h_q e_4 rfl 4 (by decide) (hG _ k311) (fun _ h9 => h9) rfl hin rfl (by decide +kernel) rfl rfl (Nat.le_of_ble_eq_true rfl) d_Fi_init_28 (fun H locs hP hD hS => ?_)
  rw [bx_uu] at hP hD
  have hP : va_P D vwCl (va_pl (L) (va_up f q (.inr (2, [.ref r, .int p1, .int p2, .int p3, .int p4])))) H := hP
  have hD : va_D A (va_pl (L) (va_up f q (.inr (2, [.ref r, .int p1, .int p2, .int p3, .int p4])))) := hD
  have e_5 : (va_up f q (.inr (2, [.ref r, .int p1, .int p2, .int p3, .int p4]))) q = .inr (2, [.ref r, .int p1, .int p2, .int p3, .int p4]) := va_up_self _ _ _
  have hF : (va_up f q (fireE r p1 p2 p3 p4)) = (va_up f q (.inr (2, [.ref r, .int p1, .int p2, .int p3, .int p4]))) := by
    first | done | exact rfl
  rw [← hF] at hP hD
  exact W.vret hx hb hret (fun t ht hW => ⟨⟨(), rfl, trivial, by rw [ht]; exact hP, va_K.moved hW.alike hK, hD⟩, hS.F ht⟩) hS.2.2 d_Fi_init_31

set_option maxHeartbeats 4000000 in
set_option maxRecDepth 100000 in
theorem c_Fa_init {l : Launch} {D : va_G} {TY : List (ClassId × FieldType)} {L : List Nat} {f : Nat → va_E} {sz : Nat} {q : Nat} {r : Nat} {p1 : Int32} {p2 : Int32} (h_q : q ∈ L) (e_q : f q = .inr (3, [.null, .int 0, .int 0])) : Met l y_Fa_init (WS y_Fa_init b_Fa_init 4 none) { frames := 1, cells := 0, slots := 0, locals := 12 } (va_Pc [.ref q, .ref r, .int p1, .int p2] (WP D TY L f sz)) (Xv D TY L (va_up f q (fanE r p1 p2)) (AA L f sz)) 0 0 (AA L f sz) := by
  refine Met.ofW (cc := b_Fa_init) (maxL := 4) (ret := none) (by decide) rfl ?_
  intro p e s m args below meth c s₁ B hml hv
  obtain ⟨rfl, hsz, hP, hK, hD0⟩ := hv
  subst hsz
  have hx := B.exec
  have hb := B.bytes
  have hret := B.returns
  have hts := atoms_spec (ws := WS y_Fa_init b_Fa_init 4 none) B.pre
  have hG : ∀ w ∈ GW, w.before _ s = true := fun w h => hts w (List.mem_cons_of_mem _ h)
  have hown : s.vm.findClass "SmokeZones$Fan" = some m.cls := findClass_of_methodNamed B.named
  have hlocks := B.notSynchronized
  have hin : meth.name = "<init>" := (name_of_methodNamed B.named B.method).1
  have hD : va_D (AA L f s.heap.size) (va_pl L f) := hD0.self (sz := s.heap.size)
  generalize hAe : AA L f s.heap.size = A at hD ⊢
  have hA : ∀ q : Nat, s.heap.size ≤ q → A q := fun q h => by rw [← hAe]; exact Or.inr h
  have hS : va_S A s.heap s.heap [] := va_S.rf
  have hl := lv_entry ([.ref q, .ref r, .int p1, .int p2]) (n := 4) (Nat.le_of_ble_eq_true rfl)
  rw [lg_entry_eq]
  generalize (lg_sl ([.ref q, .ref r, .int p1, .int p2]) ++ List.replicate (4 - (lg_sl ([.ref q, .ref r, .int p1, .int p2])).length) Slot.unset).toArray = ls at hl ⊢
  have hl : lv_has ls 4 [(0, .ref q), (1, .ref r), (2, .int p1), (3, .int p2)] := hl
  refine lv_aload_n hx hb d_Fa_init_0 rfl (lv_at hl 0 rfl) ?_
  refine pg_objInit hx hb hown (hml.trans hl.1.symm) (hG _ k341) (hG _ k21) (hG _ ko_c) (Nat.le_of_ble_eq_true rfl) (Nat.le_of_ble_eq_true rfl) d_Fa_init_1 ?_
  refine lv_aload_n hx hb d_Fa_init_4 rfl (lv_at hl 0 rfl) ?_
  refine lv_aload_n hx hb d_Fa_init_5 rfl (lv_at hl 1 rfl) ?_
  refine pg_putF (C := "SmokeZones$Fan") (T := T_Fa) (N := 3) (ty := (.object "SmokeZones$Room")) hx hb hG in_Fa ty_Fa ok_Fa nm_Fa hown hK hP hD hS h_q e_q rfl 0 (by decide) (hG _ k342) (fun _ h9 => h9) rfl hin rfl (by decide +kernel) rfl rfl (Nat.le_of_ble_eq_true rfl) d_Fa_init_6 (fun H locs hP hD hS => ?_)
  have hP : va_P D vwCl (va_pl (L) (va_up f q (.inr (3, [.ref r, .int 0, .int 0])))) H := hP
  have hD : va_D A (va_pl (L) (va_up f q (.inr (3, [.ref r, .int 0, .int 0])))) := hD
  have e_1 : (va_up f q (.inr (3, [.ref r, .int 0, .int 0]))) q = .inr (3, [.ref r, .int 0, .int 0]) := va_up_self _ _ _
  refine lv_aload_n hx hb d_Fa_init_9 rfl (lv_at hl 0 rfl) ?_
  refine lv_iload_n hx hb d_Fa_init_10 rfl (lv_at hl 2 rfl) ?_
  refine pg_putF (C := "SmokeZones$Fan") (T := T_Fa) (N := 3) (ty := .int) hx hb hG in_Fa ty_Fa ok_Fa nm_Fa hown hK hP hD hS h_q e_1 rfl 1 (by decide) (hG _ k343) (fun _ h9 => h9) rfl hin rfl (by decide +kernel) rfl rfl (Nat.le_of_ble_eq_true rfl) d_Fa_init_11 (fun H locs hP hD hS => ?_)
  rw [bx_uu] at hP hD
  have hP : va_P D vwCl (va_pl (L) (va_up f q (.inr (3, [.ref r, .int p1, .int 0])))) H := hP
  have hD : va_D A (va_pl (L) (va_up f q (.inr (3, [.ref r, .int p1, .int 0])))) := hD
  have e_2 : (va_up f q (.inr (3, [.ref r, .int p1, .int 0]))) q = .inr (3, [.ref r, .int p1, .int 0]) := va_up_self _ _ _
  refine lv_aload_n hx hb d_Fa_init_14 rfl (lv_at hl 0 rfl) ?_
  refine lv_iload_n hx hb d_Fa_init_15 rfl (lv_at hl 3 rfl) ?_
  refine pg_putF (C := "SmokeZones$Fan") (T := T_Fa) (N := 3) (ty := .int) hx hb hG in_Fa ty_Fa ok_Fa nm_Fa hown hK hP hD hS h_q e_2 rfl 2 (by decide) (hG _ k344) (fun _ h9 => h9) rfl hin rfl (by decide +kernel) rfl rfl (Nat.le_of_ble_eq_true rfl) d_Fa_init_16 (fun H locs hP hD hS => ?_)
  rw [bx_uu] at hP hD
  have hP : va_P D vwCl (va_pl (L) (va_up f q (.inr (3, [.ref r, .int p1, .int p2])))) H := hP
  have hD : va_D A (va_pl (L) (va_up f q (.inr (3, [.ref r, .int p1, .int p2])))) := hD
  have e_3 : (va_up f q (.inr (3, [.ref r, .int p1, .int p2]))) q = .inr (3, [.ref r, .int p1, .int p2]) := va_up_self _ _ _
  have hF : (va_up f q (fanE r p1 p2)) = (va_up f q (.inr (3, [.ref r, .int p1, .int p2]))) := by
    first | done | exact rfl
  rw [← hF] at hP hD
  exact W.vret hx hb hret (fun t ht hW => ⟨⟨(), rfl, trivial, by rw [ht]; exact hP, va_K.moved hW.alike hK, hD⟩, hS.F ht⟩) hS.2.2 d_Fa_init_19

set_option maxHeartbeats 4000000 in
set_option maxRecDepth 100000 in
theorem c_St_init {l : Launch} {D : va_G} {TY : List (ClassId × FieldType)} {L : List Nat} {f : Nat → va_E} {sz : Nat} {q : Nat} {r : Nat} {p1 : Int32} (h_q : q ∈ L) (e_q : f q = .inr (4, [.null, .int 0, .int 0])) : Met l y_St_init (WS y_St_init b_St_init 3 none) { frames := 1, cells := 0, slots := 0, locals := 12 } (va_Pc [.ref q, .ref r, .int p1] (WP D TY L f sz)) (Xv D TY L (va_up f q (steelE r p1 0)) (AA L f sz)) 0 0 (AA L f sz) := by
  refine Met.ofW (cc := b_St_init) (maxL := 3) (ret := none) (by decide) rfl ?_
  intro p e s m args below meth c s₁ B hml hv
  obtain ⟨rfl, hsz, hP, hK, hD0⟩ := hv
  subst hsz
  have hx := B.exec
  have hb := B.bytes
  have hret := B.returns
  have hts := atoms_spec (ws := WS y_St_init b_St_init 3 none) B.pre
  have hG : ∀ w ∈ GW, w.before _ s = true := fun w h => hts w (List.mem_cons_of_mem _ h)
  have hown : s.vm.findClass "SmokeZones$Steel" = some m.cls := findClass_of_methodNamed B.named
  have hlocks := B.notSynchronized
  have hin : meth.name = "<init>" := (name_of_methodNamed B.named B.method).1
  have hD : va_D (AA L f s.heap.size) (va_pl L f) := hD0.self (sz := s.heap.size)
  generalize hAe : AA L f s.heap.size = A at hD ⊢
  have hA : ∀ q : Nat, s.heap.size ≤ q → A q := fun q h => by rw [← hAe]; exact Or.inr h
  have hS : va_S A s.heap s.heap [] := va_S.rf
  have hl := lv_entry ([.ref q, .ref r, .int p1]) (n := 3) (Nat.le_of_ble_eq_true rfl)
  rw [lg_entry_eq]
  generalize (lg_sl ([.ref q, .ref r, .int p1]) ++ List.replicate (3 - (lg_sl ([.ref q, .ref r, .int p1])).length) Slot.unset).toArray = ls at hl ⊢
  have hl : lv_has ls 3 [(0, .ref q), (1, .ref r), (2, .int p1)] := hl
  refine lv_aload_n hx hb d_St_init_0 rfl (lv_at hl 0 rfl) ?_
  refine pg_objInit hx hb hown (hml.trans hl.1.symm) (hG _ k363) (hG _ k21) (hG _ ko_c) (Nat.le_of_ble_eq_true rfl) (Nat.le_of_ble_eq_true rfl) d_St_init_1 ?_
  refine lv_aload_n hx hb d_St_init_4 rfl (lv_at hl 0 rfl) ?_
  refine lv_aload_n hx hb d_St_init_5 rfl (lv_at hl 1 rfl) ?_
  refine pg_putF (C := "SmokeZones$Steel") (T := T_St) (N := 3) (ty := (.object "SmokeZones$Room")) hx hb hG in_St ty_St ok_St nm_St hown hK hP hD hS h_q e_q rfl 0 (by decide) (hG _ k364) (fun _ h9 => h9) rfl hin rfl (by decide +kernel) rfl rfl (Nat.le_of_ble_eq_true rfl) d_St_init_6 (fun H locs hP hD hS => ?_)
  have hP : va_P D vwCl (va_pl (L) (va_up f q (.inr (4, [.ref r, .int 0, .int 0])))) H := hP
  have hD : va_D A (va_pl (L) (va_up f q (.inr (4, [.ref r, .int 0, .int 0])))) := hD
  have e_1 : (va_up f q (.inr (4, [.ref r, .int 0, .int 0]))) q = .inr (4, [.ref r, .int 0, .int 0]) := va_up_self _ _ _
  refine lv_aload_n hx hb d_St_init_9 rfl (lv_at hl 0 rfl) ?_
  refine lv_iload_n hx hb d_St_init_10 rfl (lv_at hl 2 rfl) ?_
  refine pg_putF (C := "SmokeZones$Steel") (T := T_St) (N := 3) (ty := .int) hx hb hG in_St ty_St ok_St nm_St hown hK hP hD hS h_q e_1 rfl 1 (by decide) (hG _ k365) (fun _ h9 => h9) rfl hin rfl (by decide +kernel) rfl rfl (Nat.le_of_ble_eq_true rfl) d_St_init_11 (fun H locs hP hD hS => ?_)
  rw [bx_uu] at hP hD
  have hP : va_P D vwCl (va_pl (L) (va_up f q (.inr (4, [.ref r, .int p1, .int 0])))) H := hP
  have hD : va_D A (va_pl (L) (va_up f q (.inr (4, [.ref r, .int p1, .int 0])))) := hD
  have e_2 : (va_up f q (.inr (4, [.ref r, .int p1, .int 0]))) q = .inr (4, [.ref r, .int p1, .int 0]) := va_up_self _ _ _
  have hF : (va_up f q (steelE r p1 0)) = (va_up f q (.inr (4, [.ref r, .int p1, .int 0]))) := by
    first | done | exact rfl
  rw [← hF] at hP hD
  exact W.vret hx hb hret (fun t ht hW => ⟨⟨(), rfl, trivial, by rw [ht]; exact hP, va_K.moved hW.alike hK, hD⟩, hS.F ht⟩) hS.2.2 d_St_init_14

def PeF (f : Nat → va_E) (a1 a2 q : Nat) (ct : Nat → ClassId) (p0 : Int32) : Nat → va_E := va_up (va_up (va_up f a1 (.inl (ct 6, 20, .inl (fun _ => 0)))) a2 (.inl (ct 6, 20, .inl (fun _ => 0)))) q (personE p0 0 0 a1 a2 0 (-1) 0)
set_option maxHeartbeats 4000000 in
set_option maxRecDepth 100000 in
theorem c_Pe_init {l : Launch} {D : va_G} {ct : Nat → ClassId} {L : List Nat} {f : Nat → va_E} {sz q : Nat} {p0 : Int32} (h_q : q ∈ L) (e_q : f q = .inr (5, [.int 0, .long 0, .long 0, .null, .null, .int 0, .int 0, .int 0])) : Met l y_Pe_init (WS y_Pe_init b_Pe_init 2 none) { frames := 1, cells := 2, slots := 40, locals := 12 } (va_Pc [.ref q, .int p0] (WP D (TYS ct) L f sz)) (va_Qv (fun (u : Nat × Nat) => u.1 ∉ L ∧ u.2 ∉ L ++ [u.1]) (fun u t => WQ D (TYS ct) (L ++ [u.1] ++ [u.2]) (PeF f u.1 u.2 q ct p0) (AA L f sz) t) (AA L f sz)) 2 40 (AA L f sz) := by
  refine Met.ofW (cc := b_Pe_init) (maxL := 2) (ret := none) (by decide) rfl ?_
  intro p e s m args below meth c s₁ B hml hv
  obtain ⟨rfl, hsz, hP, hK, hD0⟩ := hv
  subst hsz
  have hx := B.exec
  have hb := B.bytes
  have hret := B.returns
  have hts := atoms_spec (ws := WS y_Pe_init b_Pe_init 2 none) B.pre
  have hG : ∀ w ∈ GW, w.before _ s = true := fun w h => hts w (List.mem_cons_of_mem _ h)
  have hown : s.vm.findClass "SmokeZones$Person" = some m.cls := findClass_of_methodNamed B.named
  have hlocks := B.notSynchronized
  have hin : meth.name = "<init>" := (name_of_methodNamed B.named B.method).1
  have hD : va_D (AA L f s.heap.size) (va_pl L f) := hD0.self (sz := s.heap.size)
  generalize hAe : AA L f s.heap.size = A at hD ⊢
  have hA : ∀ q : Nat, s.heap.size ≤ q → A q := fun q h => by rw [← hAe]; exact Or.inr h
  have hS : va_S A s.heap s.heap [] := va_S.rf
  have hl := lv_entry ([.ref q, .int p0]) (n := 2) (Nat.le_of_ble_eq_true rfl)
  rw [lg_entry_eq]
  generalize (lg_sl ([.ref q, .int p0]) ++ List.replicate (2 - (lg_sl ([.ref q, .int p0])).length) Slot.unset).toArray = ls at hl ⊢
  have hl : lv_has ls 2 [(0, .ref q), (1, .int p0)] := hl
  refine lv_aload_n hx hb d_Pe_init_0 rfl (lv_at hl 0 rfl) ?_
  refine pg_objInit hx hb hown (hml.trans hl.1.symm) (hG _ k386) (hG _ k21) (hG _ ko_c) (Nat.le_of_ble_eq_true rfl) (Nat.le_of_ble_eq_true rfl) d_Pe_init_1 ?_
  refine lv_aload_n hx hb d_Pe_init_4 rfl (lv_at hl 0 rfl) ?_
  refine lv_iload_n hx hb d_Pe_init_5 rfl (lv_at hl 1 rfl) ?_
  refine pg_put (C := "SmokeZones$Person") (T := T_Pe) (N := 8) (ty := .int) hx hb hG in_Pe ty_Pe ok_Pe nm_Pe hown hK hP hD hS h_q e_q rfl 0 (by decide) (hG _ k387) (fun _ h9 => h9) rfl (by decide +kernel) rfl rfl (Nat.le_of_ble_eq_true rfl) d_Pe_init_6 (fun H locs hP hD hS => ?_)
  have hP : va_P D vwCl (va_pl (L) (va_up f q (.inr (5, [.int p0, .long 0, .long 0, .null, .null, .int 0, .int 0, .int 0])))) H := hP
  have hD : va_D A (va_pl (L) (va_up f q (.inr (5, [.int p0, .long 0, .long 0, .null, .null, .int 0, .int 0, .int 0])))) := hD
  have e_1 : (va_up f q (.inr (5, [.int p0, .long 0, .long 0, .null, .null, .int 0, .int 0, .int 0]))) q = .inr (5, [.int p0, .long 0, .long 0, .null, .null, .int 0, .int 0, .int 0]) := va_up_self _ _ _
  refine lv_aload_n hx hb d_Pe_init_9 rfl (lv_at hl 0 rfl) ?_
  refine lv_bipush (v := 20) hx hb d_Pe_init_10 (by decide) ?_
  refine pg_newa (atype := .int) (ty := .int) (N' := 20) (a0 := (20, .inl (fun _ => 0))) hx hb (hG _ k415) rfl hK hP hD hS hA (fun _ => rfl) (by decide) (by decide) (by decide) (Nat.le_of_ble_eq_true rfl) (Nat.le_of_ble_eq_true rfl) 6 rfl d_Pe_init_12 (fun q_2 H hn_q_2 hP hD hS => ?_)
  have ne_q_q_2 : q ≠ q_2 := fun h => hn_q_2 (h ▸ h_q)
  have ne_q_2_q : q_2 ≠ q := fun h => ne_q_q_2 h.symm
  have m_3 : q ∈ L ++ [q_2] := List.mem_append_left _ h_q
  have m_4 : q_2 ∈ L ++ [q_2] := List.mem_append_right _ (List.mem_singleton.mpr rfl)
  have hP : va_P D vwCl (va_pl (L ++ [q_2]) (va_up (va_up f q (.inr (5, [.int p0, .long 0, .long 0, .null, .null, .int 0, .int 0, .int 0]))) q_2 (.inl (ct 6, 20, .inl (fun _ => 0))))) H := hP
  have hD : va_D A (va_pl (L ++ [q_2]) (va_up (va_up f q (.inr (5, [.int p0, .long 0, .long 0, .null, .null, .int 0, .int 0, .int 0]))) q_2 (.inl (ct 6, 20, .inl (fun _ => 0))))) := hD
  have e_5 : (va_up (va_up f q (.inr (5, [.int p0, .long 0, .long 0, .null, .null, .int 0, .int 0, .int 0]))) q_2 (.inl (ct 6, 20, .inl (fun _ => 0)))) q_2 = .inl (ct 6, 20, .inl (fun _ => 0)) := va_up_self _ _ _
  have e_6 : (va_up (va_up f q (.inr (5, [.int p0, .long 0, .long 0, .null, .null, .int 0, .int 0, .int 0]))) q_2 (.inl (ct 6, 20, .inl (fun _ => 0)))) q = .inr (5, [.int p0, .long 0, .long 0, .null, .null, .int 0, .int 0, .int 0]) := (va_up_ne _ _ ne_q_q_2).trans e_1
  refine pg_putF (C := "SmokeZones$Person") (T := T_Pe) (N := 8) (ty := (.array .int)) hx hb hG in_Pe ty_Pe ok_Pe nm_Pe hown hK hP hD hS m_3 e_6 rfl 3 (by decide) (hG _ k393) (fun _ h9 => h9) rfl hin rfl (by decide +kernel) rfl rfl (Nat.le_of_ble_eq_true rfl) d_Pe_init_14 (fun H locs hP hD hS => ?_)
  have hP : va_P D vwCl (va_pl (L ++ [q_2]) (va_up (va_up (va_up f q (.inr (5, [.int p0, .long 0, .long 0, .null, .null, .int 0, .int 0, .int 0]))) q_2 (.inl (ct 6, 20, .inl (fun _ => 0)))) q (.inr (5, [.int p0, .long 0, .long 0, .ref q_2, .null, .int 0, .int 0, .int 0])))) H := hP
  have hD : va_D A (va_pl (L ++ [q_2]) (va_up (va_up (va_up f q (.inr (5, [.int p0, .long 0, .long 0, .null, .null, .int 0, .int 0, .int 0]))) q_2 (.inl (ct 6, 20, .inl (fun _ => 0)))) q (.inr (5, [.int p0, .long 0, .long 0, .ref q_2, .null, .int 0, .int 0, .int 0])))) := hD
  have e_7 : (va_up (va_up (va_up f q (.inr (5, [.int p0, .long 0, .long 0, .null, .null, .int 0, .int 0, .int 0]))) q_2 (.inl (ct 6, 20, .inl (fun _ => 0)))) q (.inr (5, [.int p0, .long 0, .long 0, .ref q_2, .null, .int 0, .int 0, .int 0]))) q = .inr (5, [.int p0, .long 0, .long 0, .ref q_2, .null, .int 0, .int 0, .int 0]) := va_up_self _ _ _
  have e_8 : (va_up (va_up (va_up f q (.inr (5, [.int p0, .long 0, .long 0, .null, .null, .int 0, .int 0, .int 0]))) q_2 (.inl (ct 6, 20, .inl (fun _ => 0)))) q (.inr (5, [.int p0, .long 0, .long 0, .ref q_2, .null, .int 0, .int 0, .int 0]))) q_2 = .inl (ct 6, 20, .inl (fun _ => 0)) := (va_up_ne _ _ ne_q_2_q).trans e_5
  refine lv_aload_n hx hb d_Pe_init_17 rfl (lv_at hl 0 rfl) ?_
  refine lv_bipush (v := 20) hx hb d_Pe_init_18 (by decide) ?_
  refine pg_newa (atype := .int) (ty := .int) (N' := 20) (a0 := (20, .inl (fun _ => 0))) hx hb (hG _ k415) rfl hK hP hD hS hA (fun _ => rfl) (by decide) (by decide) (by decide) (Nat.le_of_ble_eq_true rfl) (Nat.le_of_ble_eq_true rfl) 6 rfl d_Pe_init_20 (fun q_9 H hn_q_9 hP hD hS => ?_)
  have ne_q_q_9 : q ≠ q_9 := fun h => hn_q_9 (h ▸ m_3)
  have ne_q_9_q : q_9 ≠ q := fun h => ne_q_q_9 h.symm
  have m_10 : q ∈ L ++ [q_2] ++ [q_9] := List.mem_append_left _ m_3
  have ne_q_2_q_9 : q_2 ≠ q_9 := fun h => hn_q_9 (h ▸ m_4)
  have ne_q_9_q_2 : q_9 ≠ q_2 := fun h => ne_q_2_q_9 h.symm
  have m_11 : q_2 ∈ L ++ [q_2] ++ [q_9] := List.mem_append_left _ m_4
  have m_12 : q_9 ∈ L ++ [q_2] ++ [q_9] := List.mem_append_right _ (List.mem_singleton.mpr rfl)
  have hP : va_P D vwCl (va_pl (L ++ [q_2] ++ [q_9]) (va_up (va_up (va_up (va_up f q (.inr (5, [.int p0, .long 0, .long 0, .null, .null, .int 0, .int 0, .int 0]))) q_2 (.inl (ct 6, 20, .inl (fun _ => 0)))) q (.inr (5, [.int p0, .long 0, .long 0, .ref q_2, .null, .int 0, .int 0, .int 0]))) q_9 (.inl (ct 6, 20, .inl (fun _ => 0))))) H := hP
  have hD : va_D A (va_pl (L ++ [q_2] ++ [q_9]) (va_up (va_up (va_up (va_up f q (.inr (5, [.int p0, .long 0, .long 0, .null, .null, .int 0, .int 0, .int 0]))) q_2 (.inl (ct 6, 20, .inl (fun _ => 0)))) q (.inr (5, [.int p0, .long 0, .long 0, .ref q_2, .null, .int 0, .int 0, .int 0]))) q_9 (.inl (ct 6, 20, .inl (fun _ => 0))))) := hD
  have e_13 : (va_up (va_up (va_up (va_up f q (.inr (5, [.int p0, .long 0, .long 0, .null, .null, .int 0, .int 0, .int 0]))) q_2 (.inl (ct 6, 20, .inl (fun _ => 0)))) q (.inr (5, [.int p0, .long 0, .long 0, .ref q_2, .null, .int 0, .int 0, .int 0]))) q_9 (.inl (ct 6, 20, .inl (fun _ => 0)))) q_9 = .inl (ct 6, 20, .inl (fun _ => 0)) := va_up_self _ _ _
  have e_14 : (va_up (va_up (va_up (va_up f q (.inr (5, [.int p0, .long 0, .long 0, .null, .null, .int 0, .int 0, .int 0]))) q_2 (.inl (ct 6, 20, .inl (fun _ => 0)))) q (.inr (5, [.int p0, .long 0, .long 0, .ref q_2, .null, .int 0, .int 0, .int 0]))) q_9 (.inl (ct 6, 20, .inl (fun _ => 0)))) q = .inr (5, [.int p0, .long 0, .long 0, .ref q_2, .null, .int 0, .int 0, .int 0]) := (va_up_ne _ _ ne_q_q_9).trans e_7
  have e_15 : (va_up (va_up (va_up (va_up f q (.inr (5, [.int p0, .long 0, .long 0, .null, .null, .int 0, .int 0, .int 0]))) q_2 (.inl (ct 6, 20, .inl (fun _ => 0)))) q (.inr (5, [.int p0, .long 0, .long 0, .ref q_2, .null, .int 0, .int 0, .int 0]))) q_9 (.inl (ct 6, 20, .inl (fun _ => 0)))) q_2 = .inl (ct 6, 20, .inl (fun _ => 0)) := (va_up_ne _ _ ne_q_2_q_9).trans e_8
  refine pg_putF (C := "SmokeZones$Person") (T := T_Pe) (N := 8) (ty := (.array .int)) hx hb hG in_Pe ty_Pe ok_Pe nm_Pe hown hK hP hD hS m_10 e_14 rfl 4 (by decide) (hG _ k394) (fun _ h9 => h9) rfl hin rfl (by decide +kernel) rfl rfl (Nat.le_of_ble_eq_true rfl) d_Pe_init_22 (fun H locs hP hD hS => ?_)
  have hP : va_P D vwCl (va_pl (L ++ [q_2] ++ [q_9]) (va_up (va_up (va_up (va_up (va_up f q (.inr (5, [.int p0, .long 0, .long 0, .null, .null, .int 0, .int 0, .int 0]))) q_2 (.inl (ct 6, 20, .inl (fun _ => 0)))) q (.inr (5, [.int p0, .long 0, .long 0, .ref q_2, .null, .int 0, .int 0, .int 0]))) q_9 (.inl (ct 6, 20, .inl (fun _ => 0)))) q (.inr (5, [.int p0, .long 0, .long 0, .ref q_2, .ref q_9, .int 0, .int 0, .int 0])))) H := hP
  have hD : va_D A (va_pl (L ++ [q_2] ++ [q_9]) (va_up (va_up (va_up (va_up (va_up f q (.inr (5, [.int p0, .long 0, .long 0, .null, .null, .int 0, .int 0, .int 0]))) q_2 (.inl (ct 6, 20, .inl (fun _ => 0)))) q (.inr (5, [.int p0, .long 0, .long 0, .ref q_2, .null, .int 0, .int 0, .int 0]))) q_9 (.inl (ct 6, 20, .inl (fun _ => 0)))) q (.inr (5, [.int p0, .long 0, .long 0, .ref q_2, .ref q_9, .int 0, .int 0, .int 0])))) := hD
  have e_16 : (va_up (va_up (va_up (va_up (va_up f q (.inr (5, [.int p0, .long 0, .long 0, .null, .null, .int 0, .int 0, .int 0]))) q_2 (.inl (ct 6, 20, .inl (fun _ => 0)))) q (.inr (5, [.int p0, .long 0, .long 0, .ref q_2, .null, .int 0, .int 0, .int 0]))) q_9 (.inl (ct 6, 20, .inl (fun _ => 0)))) q (.inr (5, [.int p0, .long 0, .long 0, .ref q_2, .ref q_9, .int 0, .int 0, .int 0]))) q = .inr (5, [.int p0, .long 0, .long 0, .ref q_2, .ref q_9, .int 0, .int 0, .int 0]) := va_up_self _ _ _
  have e_17 : (va_up (va_up (va_up (va_up (va_up f q (.inr (5, [.int p0, .long 0, .long 0, .null, .null, .int 0, .int 0, .int 0]))) q_2 (.inl (ct 6, 20, .inl (fun _ => 0)))) q (.inr (5, [.int p0, .long 0, .long 0, .ref q_2, .null, .int 0, .int 0, .int 0]))) q_9 (.inl (ct 6, 20, .inl (fun _ => 0)))) q (.inr (5, [.int p0, .long 0, .long 0, .ref q_2, .ref q_9, .int 0, .int 0, .int 0]))) q_2 = .inl (ct 6, 20, .inl (fun _ => 0)) := (va_up_ne _ _ ne_q_2_q).trans e_15
  have e_18 : (va_up (va_up (va_up (va_up (va_up f q (.inr (5, [.int p0, .long 0, .long 0, .null, .null, .int 0, .int 0, .int 0]))) q_2 (.inl (ct 6, 20, .inl (fun _ => 0)))) q (.inr (5, [.int p0, .long 0, .long 0, .ref q_2, .null, .int 0, .int 0, .int 0]))) q_9 (.inl (ct 6, 20, .inl (fun _ => 0)))) q (.inr (5, [.int p0, .long 0, .long 0, .ref q_2, .ref q_9, .int 0, .int 0, .int 0]))) q_9 = .inl (ct 6, 20, .inl (fun _ => 0)) := (va_up_ne _ _ ne_q_9_q).trans e_13
  refine lv_aload_n hx hb d_Pe_init_25 rfl (lv_at hl 0 rfl) ?_
  refine lv_iconst (v := (-1)) hx hb d_Pe_init_26 (by decide) ?_
  refine pg_put (C := "SmokeZones$Person") (T := T_Pe) (N := 8) (ty := .int) hx hb hG in_Pe ty_Pe ok_Pe nm_Pe hown hK hP hD hS m_10 e_16 rfl 6 (by decide) (hG _ k396) (fun _ h9 => h9) rfl (by decide +kernel) rfl rfl (Nat.le_of_ble_eq_true rfl) d_Pe_init_27 (fun H locs hP hD hS => ?_)
  rw [bx_uu] at hP hD
  have hP : va_P D vwCl (va_pl (L ++ [q_2] ++ [q_9]) (va_up (va_up (va_up (va_up (va_up f q (.inr (5, [.int p0, .long 0, .long 0, .null, .null, .int 0, .int 0, .int 0]))) q_2 (.inl (ct 6, 20, .inl (fun _ => 0)))) q (.inr (5, [.int p0, .long 0, .long 0, .ref q_2, .null, .int 0, .int 0, .int 0]))) q_9 (.inl (ct 6, 20, .inl (fun _ => 0)))) q (.inr (5, [.int p0, .long 0, .long 0, .ref q_2, .ref q_9, .int 0, .int (-1), .int 0])))) H := hP
  have hD : va_D A (va_pl (L ++ [q_2] ++ [q_9]) (va_up (va_up (va_up (va_up (va_up f q (.inr (5, [.int p0, .long 0, .long 0, .null, .null, .int 0, .int 0, .int 0]))) q_2 (.inl (ct 6, 20, .inl (fun _ => 0)))) q (.inr (5, [.int p0, .long 0, .long 0, .ref q_2, .null, .int 0, .int 0, .int 0]))) q_9 (.inl (ct 6, 20, .inl (fun _ => 0)))) q (.inr (5, [.int p0, .long 0, .long 0, .ref q_2, .ref q_9, .int 0, .int (-1), .int 0])))) := hD
  have e_19 : (va_up (va_up (va_up (va_up (va_up f q (.inr (5, [.int p0, .long 0, .long 0, .null, .null, .int 0, .int 0, .int 0]))) q_2 (.inl (ct 6, 20, .inl (fun _ => 0)))) q (.inr (5, [.int p0, .long 0, .long 0, .ref q_2, .null, .int 0, .int 0, .int 0]))) q_9 (.inl (ct 6, 20, .inl (fun _ => 0)))) q (.inr (5, [.int p0, .long 0, .long 0, .ref q_2, .ref q_9, .int 0, .int (-1), .int 0]))) q = .inr (5, [.int p0, .long 0, .long 0, .ref q_2, .ref q_9, .int 0, .int (-1), .int 0]) := va_up_self _ _ _
  have e_20 : (va_up (va_up (va_up (va_up (va_up f q (.inr (5, [.int p0, .long 0, .long 0, .null, .null, .int 0, .int 0, .int 0]))) q_2 (.inl (ct 6, 20, .inl (fun _ => 0)))) q (.inr (5, [.int p0, .long 0, .long 0, .ref q_2, .null, .int 0, .int 0, .int 0]))) q_9 (.inl (ct 6, 20, .inl (fun _ => 0)))) q (.inr (5, [.int p0, .long 0, .long 0, .ref q_2, .ref q_9, .int 0, .int (-1), .int 0]))) q_2 = .inl (ct 6, 20, .inl (fun _ => 0)) := (va_up_ne _ _ ne_q_2_q).trans e_15
  have e_21 : (va_up (va_up (va_up (va_up (va_up f q (.inr (5, [.int p0, .long 0, .long 0, .null, .null, .int 0, .int 0, .int 0]))) q_2 (.inl (ct 6, 20, .inl (fun _ => 0)))) q (.inr (5, [.int p0, .long 0, .long 0, .ref q_2, .null, .int 0, .int 0, .int 0]))) q_9 (.inl (ct 6, 20, .inl (fun _ => 0)))) q (.inr (5, [.int p0, .long 0, .long 0, .ref q_2, .ref q_9, .int 0, .int (-1), .int 0]))) q_9 = .inl (ct 6, 20, .inl (fun _ => 0)) := (va_up_ne _ _ ne_q_9_q).trans e_13
  have hF : (va_up (va_up (va_up (va_up (va_up f q (.inr (5, [.int p0, .long 0, .long 0, .null, .null, .int 0, .int 0, .int 0]))) q_2 (.inl (ct 6, 20, .inl (fun _ => 0)))) q (.inr (5, [.int p0, .long 0, .long 0, .ref q_2, .null, .int 0, .int 0, .int 0]))) q_9 (.inl (ct 6, 20, .inl (fun _ => 0)))) q (.inr (5, [.int p0, .long 0, .long 0, .ref q_2, .ref q_9, .int 0, .int (-1), .int 0]))) = PeF f q_2 q_9 q ct p0 := by
    funext j
    by_cases h : j = q
    · simp [va_up, h, PeF]
    · simp [va_up, h, PeF]
  rw [hF] at hP hD
  exact W.vret hx hb hret (fun t ht hW => ⟨⟨(q_2, q_9), rfl, ⟨hn_q_2, hn_q_9⟩, by rw [ht]; exact hP, va_K.moved hW.alike hK, hD⟩, hS.F ht⟩) hS.2.2 d_Pe_init_30
end
section
/-! the world of a SmokeZones object: n counts, I ints, J longs, P places (numbers of rooms, told, walked), AD addresses -/
def up2 {α : Type} (g : Nat → Nat → α) (k i : Nat) (v : α) : Nat → Nat → α := fun a b => if a = k ∧ b = i then v else g a b
theorem up2_at {α : Type} (g : Nat → Nat → α) (k i : Nat) (v : α) : up2 g k i v k i = v := if_pos ⟨rfl, rfl⟩
theorem up2_ne {α : Type} (g : Nat → Nat → α) (k i : Nat) (v : α) {a b : Nat} (h : ¬ (a = k ∧ b = i)) : up2 g k i v a b = g a b := if_neg h
def farV (AD : Nat → Nat → Nat) (k : Nat) : Value := match k with
  | 0 => .null
  | k + 1 => .ref (AD 0 k)
def cap (k : Nat) : Nat := match k with
  | 0 => 10
  | 1 => 15
  | 2 => 5
  | _ => 9
def live (n : Nat → Nat) (k i : Nat) : Prop := (k ≤ 5 ∧ i < n k) ∨ (k = 6 ∧ i < n 5) ∨ (k = 7 ∧ i < n 5) ∨ (k = 8 ∧ i < 6) ∨ (k = 9 ∧ i = 0)
def cellOf (ct : Nat → ClassId) (AD : Nat → Nat → Nat) (n : Nat → Nat) (I : Nat → Nat → Int32) (J : Nat → Nat → Int64) (P : Nat → Nat → Nat) (k i : Nat) : va_E := match k with
  | 0 => roomE (I 0 i) (I 1 i) (J 0 i) (J 1 i) (J 2 i) (I 2 i) (I 3 i) (I 4 i)
  | 1 => openE (AD 0 (P 1 i)) (farV AD (P 2 i)) (I 12 i) (I 13 i) (I 14 i) (I 15 i) (I 16 i) (J 10 i) (J 11 i) (J 12 i)
  | 2 => fireE (AD 0 (P 3 i)) (I 21 i) (I 22 i) (I 23 i) (I 24 i)
  | 3 => fanE (AD 0 (P 4 i)) (I 31 i) (I 32 i)
  | 4 => steelE (AD 0 (P 5 i)) (I 41 i) (I 42 i)
  | 5 => personE (I 50 i) (J 50 i) (J 51 i) (AD 6 i) (AD 7 i) (nI (P 6 i)) (I 52 i) (nI (P 7 i))
  | 6 => .inl (ct 6, 20, .inl (I (100 + i)))
  | 7 => .inl (ct 6, 20, .inl (I (200 + i)))
  | 8 => .inl (ct i, cap i, .inr (.inr (.inr (.inr (fun j => if j < n i then some (AD i j) else none)))))
  | _ => mainE AD n I J
def CInv (n : Nat → Nat) (P : Nat → Nat → Nat) : Prop := (∀ k, k ≤ 5 → n k ≤ cap k) ∧ (∀ j, j < n 1 → P 1 j < n 0 ∧ P 2 j ≤ n 0 ∧ P 2 j ≠ P 1 j + 1) ∧ (∀ j, j < n 2 → P 3 j < n 0) ∧ (∀ j, j < n 3 → P 4 j < n 0) ∧ (∀ j, j < n 4 → P 5 j < n 0) ∧ (∀ j, j < n 5 → P 6 j ≤ 20 ∧ P 7 j ≤ P 6 j)
def CW (ct : Nat → ClassId) (AD : Nat → Nat → Nat) (L : List Nat) (n : Nat → Nat) (I : Nat → Nat → Int32) (J : Nat → Nat → Int64) (P : Nat → Nat → Nat) (f : Nat → va_E) : Prop :=
  (∀ k i, live n k i → AD k i ∈ L ∧ f (AD k i) = cellOf ct AD n I J P k i) ∧ (∀ k i k' i', live n k i → live n k' i' → AD k i = AD k' i' → k = k' ∧ i = i') ∧ CInv n P
section CWS
variable {ct : Nat → ClassId} {AD : Nat → Nat → Nat} {L : List Nat} {n : Nat → Nat} {I I' : Nat → Nat → Int32} {J J' : Nat → Nat → Int64} {P P' : Nat → Nat → Nat} {f : Nat → va_E}
theorem CW.ne (h : CW ct AD L n I J P f) {k i k' i' : Nat} (h1 : live n k i) (h2 : live n k' i') (hne : ¬ (k = k' ∧ i = i')) : AD k i ≠ AD k' i' := fun q => hne (h.2.1 k i k' i' h1 h2 q)
theorem lv0 {k i : Nat} (hk : k ≤ 5) (h : i < n k) : live n k i := Or.inl ⟨hk, h⟩
theorem lv6 {i : Nat} (h : i < n 5) : live n 6 i := Or.inr (Or.inl ⟨rfl, h⟩)
theorem lv7 {i : Nat} (h : i < n 5) : live n 7 i := Or.inr (Or.inr (Or.inl ⟨rfl, h⟩))
theorem lv8 {i : Nat} (h : i < 6) : live n 8 i := Or.inr (Or.inr (Or.inr (Or.inl ⟨rfl, h⟩)))
theorem lv9 : live n 9 0 := Or.inr (Or.inr (Or.inr (Or.inr ⟨rfl, rfl⟩)))
theorem CW.ro (h : CW ct AD L n I J P f) {i : Nat} (hi : i < n 0) : AD 0 i ∈ L ∧ f (AD 0 i) = roomE (I 0 i) (I 1 i) (J 0 i) (J 1 i) (J 2 i) (I 2 i) (I 3 i) (I 4 i) := h.1 0 i (lv0 (by decide) hi)
theorem CW.op (h : CW ct AD L n I J P f) {i : Nat} (hi : i < n 1) : AD 1 i ∈ L ∧ f (AD 1 i) = openE (AD 0 (P 1 i)) (farV AD (P 2 i)) (I 12 i) (I 13 i) (I 14 i) (I 15 i) (I 16 i) (J 10 i) (J 11 i) (J 12 i) := h.1 1 i (lv0 (by decide) hi)
theorem CW.fi (h : CW ct AD L n I J P f) {i : Nat} (hi : i < n 2) : AD 2 i ∈ L ∧ f (AD 2 i) = fireE (AD 0 (P 3 i)) (I 21 i) (I 22 i) (I 23 i) (I 24 i) := h.1 2 i (lv0 (by decide) hi)
theorem CW.fa (h : CW ct AD L n I J P f) {i : Nat} (hi : i < n 3) : AD 3 i ∈ L ∧ f (AD 3 i) = fanE (AD 0 (P 4 i)) (I 31 i) (I 32 i) := h.1 3 i (lv0 (by decide) hi)
theorem CW.st (h : CW ct AD L n I J P f) {i : Nat} (hi : i < n 4) : AD 4 i ∈ L ∧ f (AD 4 i) = steelE (AD 0 (P 5 i)) (I 41 i) (I 42 i) := h.1 4 i (lv0 (by decide) hi)
theorem CW.pe (h : CW ct AD L n I J P f) {i : Nat} (hi : i < n 5) : AD 5 i ∈ L ∧ f (AD 5 i) = personE (I 50 i) (J 50 i) (J 51 i) (AD 6 i) (AD 7 i) (nI (P 6 i)) (I 52 i) (nI (P 7 i)) := h.1 5 i (lv0 (by decide) hi)
theorem CW.w1 (h : CW ct AD L n I J P f) {i : Nat} (hi : i < n 5) : AD 6 i ∈ L ∧ f (AD 6 i) = .inl (ct 6, 20, .inl (I (100 + i))) := h.1 6 i (lv6 hi)
theorem CW.w2 (h : CW ct AD L n I J P f) {i : Nat} (hi : i < n 5) : AD 7 i ∈ L ∧ f (AD 7 i) = .inl (ct 6, 20, .inl (I (200 + i))) := h.1 7 i (lv7 hi)
theorem CW.ma (h : CW ct AD L n I J P f) : AD 9 0 ∈ L ∧ f (AD 9 0) = mainE AD n I J := h.1 9 0 lv9
theorem CW.a0 (h : CW ct AD L n I J P f) : AD 8 0 ∈ L ∧ f (AD 8 0) = .inl (ct 0, 10, .inr (.inr (.inr (.inr (fun j => if j < n 0 then some (AD 0 j) else none))))) := h.1 8 0 (lv8 (by decide))
theorem CW.a1 (h : CW ct AD L n I J P f) : AD 8 1 ∈ L ∧ f (AD 8 1) = .inl (ct 1, 15, .inr (.inr (.inr (.inr (fun j => if j < n 1 then some (AD 1 j) else none))))) := h.1 8 1 (lv8 (by decide))
theorem CW.a2 (h : CW ct AD L n I J P f) : AD 8 2 ∈ L ∧ f (AD 8 2) = .inl (ct 2, 5, .inr (.inr (.inr (.inr (fun j => if j < n 2 then some (AD 2 j) else none))))) := h.1 8 2 (lv8 (by decide))
theorem CW.a3 (h : CW ct AD L n I J P f) : AD 8 3 ∈ L ∧ f (AD 8 3) = .inl (ct 3, 9, .inr (.inr (.inr (.inr (fun j => if j < n 3 then some (AD 3 j) else none))))) := h.1 8 3 (lv8 (by decide))
theorem CW.a4 (h : CW ct AD L n I J P f) : AD 8 4 ∈ L ∧ f (AD 8 4) = .inl (ct 4, 9, .inr (.inr (.inr (.inr (fun j => if j < n 4 then some (AD 4 j) else none))))) := h.1 8 4 (lv8 (by decide))
theorem CW.a5 (h : CW ct AD L n I J P f) : AD 8 5 ∈ L ∧ f (AD 8 5) = .inl (ct 5, 9, .inr (.inr (.inr (.inr (fun j => if j < n 5 then some (AD 5 j) else none))))) := h.1 8 5 (lv8 (by decide))
theorem CW.cap0 (h : CW ct AD L n I J P f) : n 0 ≤ 10 := h.2.2.1 0 (by decide)
theorem CW.cap1 (h : CW ct AD L n I J P f) : n 1 ≤ 15 := h.2.2.1 1 (by decide)
theorem CW.cap2 (h : CW ct AD L n I J P f) : n 2 ≤ 5 := h.2.2.1 2 (by decide)
theorem CW.cap3 (h : CW ct AD L n I J P f) : n 3 ≤ 9 := h.2.2.1 3 (by decide)
theorem CW.cap4 (h : CW ct AD L n I J P f) : n 4 ≤ 9 := h.2.2.1 4 (by decide)
theorem CW.cap5 (h : CW ct AD L n I J P f) : n 5 ≤ 9 := h.2.2.1 5 (by decide)
theorem CW.set (h : CW ct AD L n I J P f) {k i : Nat} (hl : live n k i) (hc : ∀ k' i', live n k' i' → ¬ (k' = k ∧ i' = i) → cellOf ct AD n I' J' P' k' i' = cellOf ct AD n I J P k' i') (hI : CInv n P') : CW ct AD L n I' J' P' (va_up f (AD k i) (cellOf ct AD n I' J' P' k i)) := by
  refine ⟨fun k' i' h1 => ⟨(h.1 k' i' h1).1, ?_⟩, h.2.1, hI⟩
  by_cases hq : k' = k ∧ i' = i
  · obtain ⟨rfl, rfl⟩ := hq
    exact va_up_self _ _ _
  · rw [va_up_ne _ _ (h.ne h1 hl hq), (h.1 k' i' h1).2, hc k' i' h1 hq]
/-- what each kind of cell hangs on -/
theorem co_ro {r : Nat} (hI : ∀ a i, ¬ (a ≤ 4 ∧ i = r) → I' a i = I a i) (hJ : ∀ a i, ¬ (a ≤ 2 ∧ i = r) → J' a i = J a i) : ∀ k i, live n k i → ¬ (k = 0 ∧ i = r) → cellOf ct AD n I' J' P k i = cellOf ct AD n I J P k i := by
  intro k i _ h
  have f1 : ∀ b, 100 ≤ b → I' b = I b := fun b hb => funext fun j => hI b j (by omega)
  match k with
  | 0 => simp only [cellOf]; rw [hI 0 i (by omega), hI 1 i (by omega), hI 2 i (by omega), hI 3 i (by omega), hI 4 i (by omega), hJ 0 i (by omega), hJ 1 i (by omega), hJ 2 i (by omega)]
  | 1 => simp only [cellOf]; rw [hI 12 i (by omega), hI 13 i (by omega), hI 14 i (by omega), hI 15 i (by omega), hI 16 i (by omega), hJ 10 i (by omega), hJ 11 i (by omega), hJ 12 i (by omega)]
  | 2 => simp only [cellOf]; rw [hI 21 i (by omega), hI 22 i (by omega), hI 23 i (by omega), hI 24 i (by omega)]
  | 3 => simp only [cellOf]; rw [hI 31 i (by omega), hI 32 i (by omega)]
  | 4 => simp only [cellOf]; rw [hI 41 i (by omega), hI 42 i (by omega)]
  | 5 => simp only [cellOf]; rw [hI 50 i (by omega), hI 52 i (by omega), hJ 50 i (by omega), hJ 51 i (by omega)]
  | 6 => simp only [cellOf]; rw [f1 _ (by omega)]
  | 7 => simp only [cellOf]; rw [f1 _ (by omega)]
  | 8 => rfl
  | k + 9 => simp only [cellOf, mainE]; rw [hI 99 0 (by omega), hJ 99 0 (by omega), hJ 99 1 (by omega), hJ 99 2 (by omega), hJ 99 3 (by omega)]
theorem co_op {r : Nat} (hI : ∀ a i, ¬ (12 ≤ a ∧ a ≤ 16 ∧ i = r) → I' a i = I a i) (hJ : ∀ a i, ¬ (10 ≤ a ∧ a ≤ 12 ∧ i = r) → J' a i = J a i) : ∀ k i, live n k i → ¬ (k = 1 ∧ i = r) → cellOf ct AD n I' J' P k i = cellOf ct AD n I J P k i := by
  intro k i _ h
  have f1 : ∀ b, 100 ≤ b → I' b = I b := fun b hb => funext fun j => hI b j (by omega)
  match k with
  | 0 => simp only [cellOf]; rw [hI 0 i (by omega), hI 1 i (by omega), hI 2 i (by omega), hI 3 i (by omega), hI 4 i (by omega), hJ 0 i (by omega), hJ 1 i (by omega), hJ 2 i (by omega)]
  | 1 => simp only [cellOf]; rw [hI 12 i (by omega), hI 13 i (by omega), hI 14 i (by omega), hI 15 i (by omega), hI 16 i (by omega), hJ 10 i (by omega), hJ 11 i (by omega), hJ 12 i (by omega)]
  | 2 => simp only [cellOf]; rw [hI 21 i (by omega), hI 22 i (by omega), hI 23 i (by omega), hI 24 i (by omega)]
  | 3 => simp only [cellOf]; rw [hI 31 i (by omega), hI 32 i (by omega)]
  | 4 => simp only [cellOf]; rw [hI 41 i (by omega), hI 42 i (by omega)]
  | 5 => simp only [cellOf]; rw [hI 50 i (by omega), hI 52 i (by omega), hJ 50 i (by omega), hJ 51 i (by omega)]
  | 6 => simp only [cellOf]; rw [f1 _ (by omega)]
  | 7 => simp only [cellOf]; rw [f1 _ (by omega)]
  | 8 => rfl
  | k + 9 => simp only [cellOf, mainE]; rw [hI 99 0 (by omega), hJ 99 0 (by omega), hJ 99 1 (by omega), hJ 99 2 (by omega), hJ 99 3 (by omega)]
theorem co_st {r : Nat} (hI : ∀ a i, ¬ (a = 42 ∧ i = r) → I' a i = I a i) : ∀ k i, live n k i → ¬ (k = 4 ∧ i = r) → cellOf ct AD n I' J P k i = cellOf ct AD n I J P k i := by
  intro k i _ h
  have f1 : ∀ b, 100 ≤ b → I' b = I b := fun b hb => funext fun j => hI b j (by omega)
  match k with
  | 0 => simp only [cellOf]; rw [hI 0 i (by omega), hI 1 i (by omega), hI 2 i (by omega), hI 3 i (by omega), hI 4 i (by omega)]
  | 1 => simp only [cellOf]; rw [hI 12 i (by omega), hI 13 i (by omega), hI 14 i (by omega), hI 15 i (by omega), hI 16 i (by omega)]
  | 2 => simp only [cellOf]; rw [hI 21 i (by omega), hI 22 i (by omega), hI 23 i (by omega), hI 24 i (by omega)]
  | 3 => simp only [cellOf]; rw [hI 31 i (by omega), hI 32 i (by omega)]
  | 4 => simp only [cellOf]; rw [hI 41 i (by omega), hI 42 i (by omega)]
  | 5 => simp only [cellOf]; rw [hI 50 i (by omega), hI 52 i (by omega)]
  | 6 => simp only [cellOf]; rw [f1 _ (by omega)]
  | 7 => simp only [cellOf]; rw [f1 _ (by omega)]
  | 8 => rfl
  | k + 9 => simp only [cellOf, mainE]; rw [hI 99 0 (by omega)]
theorem co_pe {r : Nat} (hI : ∀ a i, ¬ (50 ≤ a ∧ a ≤ 52 ∧ i = r) → I' a i = I a i) (hJ : ∀ a i, ¬ (50 ≤ a ∧ a ≤ 51 ∧ i = r) → J' a i = J a i) (hP : ∀ a i, ¬ (6 ≤ a ∧ a ≤ 7 ∧ i = r) → P' a i = P a i) : ∀ k i, live n k i → ¬ (k = 5 ∧ i = r) → cellOf ct AD n I' J' P' k i = cellOf ct AD n I J P k i := by
  intro k i _ h
  have f1 : ∀ b, 100 ≤ b → I' b = I b := fun b hb => funext fun j => hI b j (by omega)
  match k with
  | 0 => simp only [cellOf]; rw [hI 0 i (by omega), hI 1 i (by omega), hI 2 i (by omega), hI 3 i (by omega), hI 4 i (by omega), hJ 0 i (by omega), hJ 1 i (by omega), hJ 2 i (by omega)]
  | 1 => simp only [cellOf]; rw [hI 12 i (by omega), hI 13 i (by omega), hI 14 i (by omega), hI 15 i (by omega), hI 16 i (by omega), hJ 10 i (by omega), hJ 11 i (by omega), hJ 12 i (by omega), hP 1 i (by omega), hP 2 i (by omega)]
  | 2 => simp only [cellOf]; rw [hI 21 i (by omega), hI 22 i (by omega), hI 23 i (by omega), hI 24 i (by omega), hP 3 i (by omega)]
  | 3 => simp only [cellOf]; rw [hI 31 i (by omega), hI 32 i (by omega), hP 4 i (by omega)]
  | 4 => simp only [cellOf]; rw [hI 41 i (by omega), hI 42 i (by omega), hP 5 i (by omega)]
  | 5 => simp only [cellOf]; rw [hI 50 i (by omega), hI 52 i (by omega), hJ 50 i (by omega), hJ 51 i (by omega), hP 6 i (by omega), hP 7 i (by omega)]
  | 6 => simp only [cellOf]; rw [f1 _ (by omega)]
  | 7 => simp only [cellOf]; rw [f1 _ (by omega)]
  | 8 => rfl
  | k + 9 => simp only [cellOf, mainE]; rw [hI 99 0 (by omega), hJ 99 0 (by omega), hJ 99 1 (by omega), hJ 99 2 (by omega), hJ 99 3 (by omega)]
theorem co_ma (hI : ∀ a i, ¬ (a = 99) → I' a i = I a i) (hJ : ∀ a i, ¬ (a = 99) → J' a i = J a i) : ∀ k i, live n k i → ¬ (k = 9 ∧ i = 0) → cellOf ct AD n I' J' P k i = cellOf ct AD n I J P k i := by
  intro k i hl h
  have f1 : ∀ b, 100 ≤ b → I' b = I b := fun b hb => funext fun j => hI b j (by omega)
  match k with
  | 0 => simp only [cellOf]; rw [hI 0 i (by omega), hI 1 i (by omega), hI 2 i (by omega), hI 3 i (by omega), hI 4 i (by omega), hJ 0 i (by omega), hJ 1 i (by omega), hJ 2 i (by omega)]
  | 1 => simp only [cellOf]; rw [hI 12 i (by omega), hI 13 i (by omega), hI 14 i (by omega), hI 15 i (by omega), hI 16 i (by omega), hJ 10 i (by omega), hJ 11 i (by omega), hJ 12 i (by omega)]
  | 2 => simp only [cellOf]; rw [hI 21 i (by omega), hI 22 i (by omega), hI 23 i (by omega), hI 24 i (by omega)]
  | 3 => simp only [cellOf]; rw [hI 31 i (by omega), hI 32 i (by omega)]
  | 4 => simp only [cellOf]; rw [hI 41 i (by omega), hI 42 i (by omega)]
  | 5 => simp only [cellOf]; rw [hI 50 i (by omega), hI 52 i (by omega), hJ 50 i (by omega), hJ 51 i (by omega)]
  | 6 => simp only [cellOf]; rw [f1 _ (by omega)]
  | 7 => simp only [cellOf]; rw [f1 _ (by omega)]
  | 8 => rfl
  | k + 9 =>
    rcases hl with ⟨q, _⟩ | ⟨q, _⟩ | ⟨q, _⟩ | ⟨q, _⟩ | ⟨q, q2⟩
    · omega
    · omega
    · omega
    · omega
    · exact absurd ⟨q, q2⟩ h
end CWS
theorem rf_at {n i : Nat} {a : Nat → Nat} (hi : i < n) (hn : n ≤ 100) : (fun j => if j < n then some (a j) else none) (nI i).toNatClampNeg = some (a i) := by
  show (if (nI i).toNatClampNeg < n then some (a (nI i).toNatClampNeg) else none) = some (a i)
  rw [nI_clamp (by omega), if_pos hi]
theorem ge_no {i n : Nat} (h : i < n) (hn : n ≤ 100) (c : nI n ≤ nI i) : False := nI_ge h (by omega) c
theorem ge_yes {i n : Nat} (h : n ≤ i) (hn : i ≤ 100) (c : ¬ nI n ≤ nI i) : False := c (nI_le h (by omega))
/-- a writer that leaves some pool of the same addresses -/
abbrev Xs (D : va_G) (TY : List (ClassId × FieldType)) (L : List Nat) (A : Nat → Prop) (post : (Nat → va_E) → Prop) : Array Value → State → Outcome → State → Prop := va_Qv post (fun f' t => WQ D TY L f' A t) A
section KWS
variable {p : Program} {l : Launch} {e : Env} {R : Room} {s : State} {m : MethodId} {args : Array Value} {below : List Frame} {meth : Method} {c : Code} {H H0 : Heap} {locs : List Loc} {cells slots : Nat} {Q : State → Prop} {A : Nat → Prop} {D : va_G} {TY : List (ClassId × FieldType)} {L : List Nat} {f : Nat → va_E} {pc : Nat} {ls : Array Slot} {rest st0 : List Value} {post : (Nat → va_E) → Prop}
variable {y : MethodName} {bytes cc : ByteArray} {maxL nL n index : Nat} {ret : Option FieldType} {ws : List Cond} {rm : Room} {Ts : List Cond} {own C : String} {b : Addr} {As : List Value}
theorem kV_ws {ci : Nat} {fs : List Value} {T : u_T} {N : Nat} (S : CallFix p m c cc nL s args Ts own) (hM : Met l y ws rm (va_Pc (.ref b :: As) (WP D TY L f H.size)) (Xs D TY L (AA L f H.size) post) 0 0 (AA L f H.size)) (cw : CallW R s args own C index y bytes maxL ret ws rm 0 0 n) (hK : va_K D vwCl TY s) (hP : va_P D vwCl (va_pl L f) H) (hD : va_D A (va_pl L f)) (hS : va_S A H0 H locs) (hA : ∀ q, H0.size ≤ q → A q) (hbL : b ∈ L) (he : f b = .inr (ci, fs)) (hc : vwCl[ci]? = some (C, T, N)) (hn : As.length = n) (hsize : ls.size = nL) (hst : st0 = As.reverse ++ .ref b :: rest) (hW : (rest.map fun v => v.category).sum ≤ 8) (hf : cells ≤ R.cells ∧ slots ≤ R.slots) (hdg : decode cc pc = .ok (.invokevirtual index, 3))
    (kk : ∀ f' H1 locs1, post f' → va_P D vwCl (va_pl L f') H1 → va_D A (va_pl L f') → va_S A H0 H1 locs1 → W p l e R s m args below meth c H1 locs1 cells slots Q (F0 m (pc + 3) ls rest)) : W p l e R s m args below meth c H locs cells slots Q (F0 m pc ls st0) := by
  have hFc := pc_free hD hS hA
  refine va_callv (va_runV S hM cw ⟨WP.blind _, pc_recv hK hP hbL he hc, fun U hU hW => ⟨rfl, by rw [hU], by rw [hU]; exact hP, va_K.moved hW.alike hK, hD.weaken (fun _ _ _ _ => trivial)⟩⟩ rfl hn hsize hst (lv_room hW) hdg hf) hS (fun q _ h => hFc q h) hFc (fun u t H1 locs1 ht hvm hp hB hz hk hS1 => ?_)
  obtain ⟨h1, h2, h3⟩ := hB
  exact kk u H1 locs1 hp (by rw [← ht]; exact h1) (h3.weaken (fun _ q _ h => hFc q.1 h)) hS1
end KWS
end
section
/-! a second's steps over the class's own state -/
def sRo (J : Nat → Nat → Int64) (r : Nat) (sm ht : Int64) : Nat → Nat → Int64 := up2 (up2 J 1 r sm) 2 r ht
theorem sRo_hJ {J : Nat → Nat → Int64} {r : Nat} {sm ht : Int64} : ∀ a i, ¬ (a ≤ 2 ∧ i = r) → sRo J r sm ht a i = J a i := by
  intro a i h
  unfold sRo
  rw [up2_ne _ _ _ _ (by omega), up2_ne _ _ _ _ (by omega)]
theorem t99_hJ {J : Nat → Nat → Int64} {q : Nat} {x : Int64} : ∀ a i, ¬ (a = 99) → up2 J 99 q x a i = J a i := fun a i h => up2_ne _ _ _ _ (by omega)
def bS (I : Nat → Nat → Int32) (P : Nat → Nat → Nat) (i : Nat) (J : Nat → Nat → Int64) : Nat → Nat → Int64 :=
  up2 (sRo J (P 3 i) (m_fsm (I 21 i) (I 99 0) (I 22 i) (I 23 i) (I 3 (P 3 i)) (J 1 (P 3 i))) (m_fht (I 21 i) (I 99 0) (I 22 i) (I 23 i) (I 24 i) (I 3 (P 3 i)) (J 2 (P 3 i)))) 99 0 (J 99 0 + m_fout (I 21 i) (I 99 0) (I 22 i) (I 23 i) (I 3 (P 3 i)))
def bL (I : Nat → Nat → Int32) (P : Nat → Nat → Nat) : Nat → Nat → (Nat → Nat → Int64) → (Nat → Nat → Int64)
  | 0, _, J => J
  | k + 1, i, J => bL I P k (i + 1) (bS I P i J)
def fS (I : Nat → Nat → Int32) (P : Nat → Nat → Nat) (i : Nat) (J : Nat → Nat → Int64) : Nat → Nat → Int64 :=
  up2 (sRo J (P 4 i) (m_bsm (I 31 i) (I 99 0) (I 32 i) (J 1 (P 4 i))) (m_bht (I 31 i) (I 99 0) (I 32 i) (J 1 (P 4 i)) (J 2 (P 4 i)))) 99 2 (J 99 2 + m_bout (I 31 i) (I 99 0) (I 32 i) (J 1 (P 4 i)))
def fL (I : Nat → Nat → Int32) (P : Nat → Nat → Nat) : Nat → Nat → (Nat → Nat → Int64) → (Nat → Nat → Int64)
  | 0, _, J => J
  | k + 1, i, J => fL I P k (i + 1) (fS I P i J)
def pS (i : Nat) (J : Nat → Nat → Int64) : Nat → Nat → Int64 :=
  up2 (sRo J i (m_psm (J 0 i) (J 1 i)) (m_pht (J 0 i) (J 1 i) (J 2 i))) 99 3 (J 99 3 + m_pout (J 0 i) (J 1 i))
def pL : Nat → Nat → (Nat → Nat → Int64) → (Nat → Nat → Int64)
  | 0, _, J => J
  | k + 1, i, J => pL k (i + 1) (pS i J)
def nS (J : Nat → Nat → Int64) (i : Nat) (I : Nat → Nat → Int32) : Nat → Nat → Int32 := up2 I 4 i (m_fl (I 0 i) (I 1 i) (J 1 i) (I 4 i) (I 99 0))
def nL (J : Nat → Nat → Int64) : Nat → Nat → (Nat → Nat → Int32) → (Nat → Nat → Int32)
  | 0, _, I => I
  | k + 1, i, I => nL J k (i + 1) (nS J i I)
def aS (J : Nat → Nat → Int64) (i : Nat) (I : Nat → Nat → Int32) : Nat → Nat → Int32 := up2 I 3 i (m_act (J 1 i) (J 2 i) (I 2 i) (I 3 i))
def aL (J : Nat → Nat → Int64) : Nat → Nat → (Nat → Nat → Int32) → (Nat → Nat → Int32)
  | 0, _, I => I
  | k + 1, i, I => aL J k (i + 1) (aS J i I)
def cvR (I : Nat → Nat → Int32) (J : Nat → Nat → Int64) (i r : Nat) : Int64 := m_cov (I 0 r) (I 1 r) (J 1 r) (I 13 i) (I 14 i)
def mFl (I : Nat → Nat → Int32) (P : Nat → Nat → Nat) (i : Nat) (J : Nat → Nat → Int64) : Int64 := match P 2 i with
  | 0 => m_flN (m_open (I 15 i) (I 16 i)) (I 12 i) (cvR I J i (P 1 i)) (J 1 (P 1 i))
  | g + 1 => m_flS (m_open (I 15 i) (I 16 i)) (I 12 i) (cvR I J i (P 1 i)) (cvR I J i g) (J 1 (P 1 i)) (J 1 g)
def mHt (I : Nat → Nat → Int32) (P : Nat → Nat → Nat) (i : Nat) (J : Nat → Nat → Int64) : Int64 := match P 2 i with
  | 0 => m_fhN (m_open (I 15 i) (I 16 i)) (I 12 i) (cvR I J i (P 1 i)) (J 1 (P 1 i)) (J 2 (P 1 i))
  | g + 1 => m_fhS (m_open (I 15 i) (I 16 i)) (I 12 i) (cvR I J i (P 1 i)) (cvR I J i g) (J 1 (P 1 i)) (J 2 (P 1 i)) (J 1 g) (J 2 g)
def mS (I : Nat → Nat → Int32) (P : Nat → Nat → Nat) (i : Nat) (J : Nat → Nat → Int64) : Nat → Nat → Int64 := up2 (up2 J 10 i (mFl I P i J)) 11 i (mHt I P i J)
def mL (I : Nat → Nat → Int32) (P : Nat → Nat → Nat) : Nat → Nat → (Nat → Nat → Int64) → (Nat → Nat → Int64)
  | 0, _, J => J
  | k + 1, i, J => mL I P k (i + 1) (mS I P i J)
def vS (P : Nat → Nat → Nat) (i : Nat) (J : Nat → Nat → Int64) : Nat → Nat → Int64 := match P 2 i with
  | 0 => up2 (sRo (up2 J 12 i (J 12 i + m_abs (J 10 i))) (P 1 i) (J 1 (P 1 i) + -(J 10 i)) (J 2 (P 1 i) + m_nh (J 10 i) (J 11 i))) 99 1 (J 99 1 + J 10 i)
  | g + 1 => up2 (sRo (sRo (up2 J 12 i (J 12 i + m_abs (J 10 i))) (P 1 i) (J 1 (P 1 i) + -(J 10 i)) (J 2 (P 1 i) + m_nh (J 10 i) (J 11 i))) g (J 1 g + J 10 i) (J 2 g + m_fh (J 10 i) (J 11 i))) 99 1 (J 99 1 + 0)
def vL (P : Nat → Nat → Nat) : Nat → Nat → (Nat → Nat → Int64) → (Nat → Nat → Int64)
  | 0, _, J => J
  | k + 1, i, J => vL P k (i + 1) (vS P i J)
def zS (J : Nat → Nat → Int64) (P : Nat → Nat → Nat) (i : Nat) (I : Nat → Nat → Int32) : Nat → Nat → Int32 := up2 I 16 i (match P 2 i with
  | 0 => m_brN (m_open (I 15 i) (I 16 i)) (m_hot (J 1 (P 1 i)) (J 2 (P 1 i)) (I 15 i)) (I 16 i)
  | g + 1 => m_brS (m_open (I 15 i) (I 16 i)) (m_hot (J 1 (P 1 i)) (J 2 (P 1 i)) (I 15 i)) (m_hot (J 1 g) (J 2 g) (I 15 i)) (I 16 i))
def zL (J : Nat → Nat → Int64) (P : Nat → Nat → Nat) : Nat → Nat → (Nat → Nat → Int32) → (Nat → Nat → Int32)
  | 0, _, I => I
  | k + 1, i, I => zL J P k (i + 1) (zS J P i I)
def tS (J : Nat → Nat → Int64) (P : Nat → Nat → Nat) (i : Nat) (I : Nat → Nat → Int32) : Nat → Nat → Int32 := up2 I 42 i (m_te (J 1 (P 5 i)) (J 2 (P 5 i)) (I 41 i) (I 42 i))
def tL (J : Nat → Nat → Int64) (P : Nat → Nat → Nat) : Nat → Nat → (Nat → Nat → Int32) → (Nat → Nat → Int32)
  | 0, _, I => I
  | k + 1, i, I => tL J P k (i + 1) (tS J P i I)
theorem up_hO {α : Type} {g : Nat → Nat → α} {k i : Nat} {v : α} : ∀ a b, ¬ (a = k ∧ b = i) → up2 g k i v a b = g a b := fun _ _ h => up2_ne _ _ _ _ h
theorem mS_hJ {J : Nat → Nat → Int64} {i : Nat} {x y : Int64} : ∀ a b, ¬ (10 ≤ a ∧ a ≤ 12 ∧ b = i) → up2 (up2 J 10 i x) 11 i y a b = J a b := fun a b h => by
  rw [up2_ne _ _ _ _ (by omega), up2_ne _ _ _ _ (by omega)]

set_option maxHeartbeats 4000000 in
set_option maxRecDepth 100000 in
theorem c_Sz_burnFires {l : Launch} {D : va_G} {ct : Nat → ClassId} {AD : Nat → Nat → Nat} {L : List Nat} {f : Nat → va_E} {sz : Nat} {n : Nat → Nat} {I : Nat → Nat → Int32} {J : Nat → Nat → Int64} {P : Nat → Nat → Nat} (hCW : CW ct AD L n I J P f) : Met l y_Sz_burnFires (WS y_Sz_burnFires b_Sz_burnFires 2 none) { frames := 2, cells := 0, slots := 0, locals := 49 } (va_Pc [.ref (AD 9 0)] (WP D (TYS ct) L f sz)) (Xs D (TYS ct) L (AA L f sz) (fun f' => CW ct AD L n I (bL I P (n 2) 0 J) P f')) 0 0 (AA L f sz) := by
  refine Met.ofW (cc := b_Sz_burnFires) (maxL := 2) (ret := none) (by decide) rfl ?_
  intro p e s m args below meth c s₁ B hml hv
  obtain ⟨rfl, hsz, hP, hK, hD0⟩ := hv
  subst hsz
  have hx := B.exec
  have hb := B.bytes
  have hret := B.returns
  have hts := atoms_spec (ws := WS y_Sz_burnFires b_Sz_burnFires 2 none) B.pre
  have hG : ∀ w ∈ GW, w.before _ s = true := fun w h => hts w (List.mem_cons_of_mem _ h)
  have hown : s.vm.findClass "SmokeZones" = some m.cls := findClass_of_methodNamed B.named
  have hlocks := B.notSynchronized
  have hD : va_D (AA L f s.heap.size) (va_pl L f) := hD0.self (sz := s.heap.size)
  generalize hAe : AA L f s.heap.size = A at hD ⊢
  have hA : ∀ q : Nat, s.heap.size ≤ q → A q := fun q h => by rw [← hAe]; exact Or.inr h
  have hS : va_S A s.heap s.heap [] := va_S.rf
  have hl := lv_entry ([.ref (AD 9 0)]) (n := 2) (Nat.le_of_ble_eq_true rfl)
  rw [lg_entry_eq]
  generalize (lg_sl ([.ref (AD 9 0)]) ++ List.replicate (2 - (lg_sl ([.ref (AD 9 0)])).length) Slot.unset).toArray = ls at hl ⊢
  have hl : lv_has ls 2 [(0, .ref (AD 9 0))] := hl
  refine lv_iconst (v := 0) hx hb d_Sz_burnFires_0 (by decide) ?_
  refine lv_istore_n (lv' := [(1, .int 0), (0, .ref (AD 9 0))]) hx hb d_Sz_burnFires_1 rfl hl (by decide) rfl (fun ls hl => ?_)
  have lp0 : ∀ (k i : Nat) (J1 : Nat → Nat → Int64) (f1 : Nat → va_E) (H : Heap) (locs : List Loc) (ls : Array Slot), i + k = n 2 → CW ct AD L n I J1 P f1 → va_P D vwCl (va_pl L f1) H → va_D A (va_pl L f1) → va_S A s.heap H locs → lv_has ls 2 [(1, .int (nI i)), (0, .ref (AD 9 0))] → bL I P k i J1 = bL I P (n 2) 0 J → W p l e (headSpec (WS y_Sz_burnFires b_Sz_burnFires 2 none) { frames := 2, cells := 0, slots := 0, locals := 49 }).room s m [.ref (AD 9 0)].toArray below meth c H locs 0 0 (MQ below (Xs D (TYS ct) L A (fun f' => CW ct AD L n I (bL I P (n 2) 0 J) P f')) [.ref (AD 9 0)].toArray s 0 0 A) (F0 m 2 ls []) := by
    intro k
    induction k with
    | zero =>
      intro i J1 f1 H locs ls hik0 hC0 hP hD hS hl hfin0
      have hcap := hC0.cap2
      obtain ⟨g_1L, g_1E⟩ := hC0.ma
      refine lv_iload_n hx hb d_Sz_burnFires_2 rfl (lv_at hl 0 rfl) ?_
      refine lv_aload_n hx hb d_Sz_burnFires_3 rfl (lv_at hl 1 rfl) ?_
      refine pg_get (C := "SmokeZones") (T := T_Sz) (N := 17) hx hb hG in_Sz hown hK hP g_1L g_1E rfl 8 (by decide) (hG _ k43) (fun _ h9 => h9) rfl d_Sz_burnFires_4 ?_
      refine lv_icmp_ge (tgt := 38) hx hb d_Sz_burnFires_7 (by decide) (fun c_2 => ?_) (fun c_2 => ?_)
      · have q0 : J1 = bL I P (n 2) 0 J := hfin0
        have hN : CW ct AD L n I J1 P f1 := hC0
        rw [q0] at hN
        exact W.vret hx hb hret (fun t ht hW => ⟨⟨f1, rfl, hN, by rw [ht]; exact hP, va_K.moved hW.alike hK, hD⟩, hS.F ht⟩) hS.2.2 d_Sz_burnFires_38
      · exact (ge_yes (by omega) (by omega) c_2).elim
    | succ k ih0 =>
      intro i J1 f1 H locs ls hik0 hC0 hP hD hS hl hfin0
      have hcap := hC0.cap2
      obtain ⟨g_3L, g_3E⟩ := hC0.ma
      have hi : i < n 2 := by omega
      refine lv_iload_n hx hb d_Sz_burnFires_2 rfl (lv_at hl 0 rfl) ?_
      refine lv_aload_n hx hb d_Sz_burnFires_3 rfl (lv_at hl 1 rfl) ?_
      refine pg_get (C := "SmokeZones") (T := T_Sz) (N := 17) hx hb hG in_Sz hown hK hP g_3L g_3E rfl 8 (by decide) (hG _ k43) (fun _ h9 => h9) rfl d_Sz_burnFires_4 ?_
      refine lv_icmp_ge (tgt := 38) hx hb d_Sz_burnFires_7 (by decide) (fun c_4 => ?_) (fun c_4 => ?_)
      · exact (ge_no hi (by omega) c_4).elim
      · have hr : P 3 i < n 0 := hC0.2.2.2.2.1 i hi
        have hc0 := hC0.cap0
        obtain ⟨g_5L, g_5E⟩ := hC0.fi hi
        obtain ⟨g_6L, g_6E⟩ := hC0.ro hr
        obtain ⟨g_7L, g_7E⟩ := hC0.a2
        have ne_AD_9_0_AD_2_i : AD 9 0 ≠ AD 2 i := hC0.ne (k := 9) (i := 0) (k' := 2) (i' := i) (lv9) (lv0 (by decide) hi) (by omega)
        have ne_AD_9_0_AD_0_P_3_i : AD 9 0 ≠ AD 0 (P 3 i) := hC0.ne (k := 9) (i := 0) (k' := 0) (i' := (P 3 i)) (lv9) (lv0 (by decide) hr) (by omega)
        have ne_AD_9_0_AD_8_2 : AD 9 0 ≠ AD 8 2 := hC0.ne (k := 9) (i := 0) (k' := 8) (i' := 2) (lv9) (lv8 (by decide)) (by omega)
        have ne_AD_2_i_AD_9_0 : AD 2 i ≠ AD 9 0 := hC0.ne (k := 2) (i := i) (k' := 9) (i' := 0) (lv0 (by decide) hi) (lv9) (by omega)
        have ne_AD_2_i_AD_0_P_3_i : AD 2 i ≠ AD 0 (P 3 i) := hC0.ne (k := 2) (i := i) (k' := 0) (i' := (P 3 i)) (lv0 (by decide) hi) (lv0 (by decide) hr) (by omega)
        have ne_AD_2_i_AD_8_2 : AD 2 i ≠ AD 8 2 := hC0.ne (k := 2) (i := i) (k' := 8) (i' := 2) (lv0 (by decide) hi) (lv8 (by decide)) (by omega)
        have ne_AD_0_P_3_i_AD_9_0 : AD 0 (P 3 i) ≠ AD 9 0 := hC0.ne (k := 0) (i := (P 3 i)) (k' := 9) (i' := 0) (lv0 (by decide) hr) (lv9) (by omega)
        have ne_AD_0_P_3_i_AD_2_i : AD 0 (P 3 i) ≠ AD 2 i := hC0.ne (k := 0) (i := (P 3 i)) (k' := 2) (i' := i) (lv0 (by decide) hr) (lv0 (by decide) hi) (by omega)
        have ne_AD_0_P_3_i_AD_8_2 : AD 0 (P 3 i) ≠ AD 8 2 := hC0.ne (k := 0) (i := (P 3 i)) (k' := 8) (i' := 2) (lv0 (by decide) hr) (lv8 (by decide)) (by omega)
        have ne_AD_8_2_AD_9_0 : AD 8 2 ≠ AD 9 0 := hC0.ne (k := 8) (i := 2) (k' := 9) (i' := 0) (lv8 (by decide)) (lv9) (by omega)
        have ne_AD_8_2_AD_2_i : AD 8 2 ≠ AD 2 i := hC0.ne (k := 8) (i := 2) (k' := 2) (i' := i) (lv8 (by decide)) (lv0 (by decide) hi) (by omega)
        have ne_AD_8_2_AD_0_P_3_i : AD 8 2 ≠ AD 0 (P 3 i) := hC0.ne (k := 8) (i := 2) (k' := 0) (i' := (P 3 i)) (lv8 (by decide)) (lv0 (by decide) hr) (by omega)
        refine lv_aload_n hx hb d_Sz_burnFires_10 rfl (lv_at hl 1 rfl) ?_
        refine lv_dup hx hb d_Sz_burnFires_11 rfl ?_
        refine pg_get (C := "SmokeZones") (T := T_Sz) (N := 17) hx hb hG in_Sz hown hK hP g_3L g_3E rfl 13 (by decide) (hG _ k48) (fun _ h9 => h9) rfl d_Sz_burnFires_12 ?_
        refine lv_aload_n hx hb d_Sz_burnFires_15 rfl (lv_at hl 1 rfl) ?_
        refine pg_get (C := "SmokeZones") (T := T_Sz) (N := 17) hx hb hG in_Sz hown hK hP g_3L g_3E rfl 2 (by decide) (hG _ k37) (fun _ h9 => h9) rfl d_Sz_burnFires_16 ?_
        refine lv_iload_n hx hb d_Sz_burnFires_19 rfl (lv_at hl 0 rfl) ?_
        refine pg_ald hx hb hK hP 2 g_7L g_7E rfl (vp_in_nI (by omega) (by decide)) (rf_at hi (by omega)) d_Sz_burnFires_20 ?_
        refine lv_aload_n hx hb d_Sz_burnFires_21 rfl (lv_at hl 1 rfl) ?_
        refine pg_get (C := "SmokeZones") (T := T_Sz) (N := 17) hx hb hG in_Sz hown hK hP g_3L g_3E rfl 12 (by decide) (hG _ k47) (fun _ h9 => h9) rfl d_Sz_burnFires_22 ?_
        refine kV_wl (f' := va_up f1 (AD 0 (P 3 i)) (.inr (0, [.int (I 0 (P 3 i)), .int (I 1 (P 3 i)), .long (J1 0 (P 3 i)), .long (m_fsm (I 21 i) (I 99 0) (I 22 i) (I 23 i) (I 3 (P 3 i)) (J1 1 (P 3 i))), .long (m_fht (I 21 i) (I 99 0) (I 22 i) (I 23 i) (I 24 i) (I 3 (P 3 i)) (J1 2 (P 3 i))), .int (I 2 (P 3 i)), .int (I 3 (P 3 i)), .int (I 4 (P 3 i))]))) ⟨hx, hb, hml, hown, hG⟩ (c_Fi_burn g_5L g_5E g_6L g_6E) (cwV 1 hG (gV k442 k443 k444 k10 k445) rfl rfl rfl hd_Fi_burn ⟨Nat.le_of_ble_eq_true rfl, Nat.le_of_ble_eq_true rfl⟩) hK hP hD hS hA g_5L g_5E rfl rfl hl.1 rfl (Nat.le_of_ble_eq_true rfl) ⟨Nat.le_of_ble_eq_true rfl, Nat.le_of_ble_eq_true rfl⟩ d_Sz_burnFires_25 (fun H locs hP hD hS => ?_)
        have e_8 : (va_up f1 (AD 0 (P 3 i)) (.inr (0, [.int (I 0 (P 3 i)), .int (I 1 (P 3 i)), .long (J1 0 (P 3 i)), .long (m_fsm (I 21 i) (I 99 0) (I 22 i) (I 23 i) (I 3 (P 3 i)) (J1 1 (P 3 i))), .long (m_fht (I 21 i) (I 99 0) (I 22 i) (I 23 i) (I 24 i) (I 3 (P 3 i)) (J1 2 (P 3 i))), .int (I 2 (P 3 i)), .int (I 3 (P 3 i)), .int (I 4 (P 3 i))]))) (AD 0 (P 3 i)) = .inr (0, [.int (I 0 (P 3 i)), .int (I 1 (P 3 i)), .long (J1 0 (P 3 i)), .long (m_fsm (I 21 i) (I 99 0) (I 22 i) (I 23 i) (I 3 (P 3 i)) (J1 1 (P 3 i))), .long (m_fht (I 21 i) (I 99 0) (I 22 i) (I 23 i) (I 24 i) (I 3 (P 3 i)) (J1 2 (P 3 i))), .int (I 2 (P 3 i)), .int (I 3 (P 3 i)), .int (I 4 (P 3 i))]) := va_up_self _ _ _
        have e_9 : (va_up f1 (AD 0 (P 3 i)) (.inr (0, [.int (I 0 (P 3 i)), .int (I 1 (P 3 i)), .long (J1 0 (P 3 i)), .long (m_fsm (I 21 i) (I 99 0) (I 22 i) (I 23 i) (I 3 (P 3 i)) (J1 1 (P 3 i))), .long (m_fht (I 21 i) (I 99 0) (I 22 i) (I 23 i) (I 24 i) (I 3 (P 3 i)) (J1 2 (P 3 i))), .int (I 2 (P 3 i)), .int (I 3 (P 3 i)), .int (I 4 (P 3 i))]))) (AD 9 0) = .inr (6, [.ref (AD 8 0), .ref (AD 8 1), .ref (AD 8 2), .ref (AD 8 3), .ref (AD 8 4), .ref (AD 8 5), .int (nI (n 0)), .int (nI (n 1)), .int (nI (n 2)), .int (nI (n 3)), .int (nI (n 4)), .int (nI (n 5)), .int (I 99 0), .long (J1 99 0), .long (J1 99 1), .long (J1 99 2), .long (J1 99 3)]) := (va_up_ne _ _ ne_AD_9_0_AD_0_P_3_i).trans g_3E
        have e_10 : (va_up f1 (AD 0 (P 3 i)) (.inr (0, [.int (I 0 (P 3 i)), .int (I 1 (P 3 i)), .long (J1 0 (P 3 i)), .long (m_fsm (I 21 i) (I 99 0) (I 22 i) (I 23 i) (I 3 (P 3 i)) (J1 1 (P 3 i))), .long (m_fht (I 21 i) (I 99 0) (I 22 i) (I 23 i) (I 24 i) (I 3 (P 3 i)) (J1 2 (P 3 i))), .int (I 2 (P 3 i)), .int (I 3 (P 3 i)), .int (I 4 (P 3 i))]))) (AD 2 i) = .inr (2, [.ref (AD 0 (P 3 i)), .int (I 21 i), .int (I 22 i), .int (I 23 i), .int (I 24 i)]) := (va_up_ne _ _ ne_AD_2_i_AD_0_P_3_i).trans g_5E
        have e_11 : (va_up f1 (AD 0 (P 3 i)) (.inr (0, [.int (I 0 (P 3 i)), .int (I 1 (P 3 i)), .long (J1 0 (P 3 i)), .long (m_fsm (I 21 i) (I 99 0) (I 22 i) (I 23 i) (I 3 (P 3 i)) (J1 1 (P 3 i))), .long (m_fht (I 21 i) (I 99 0) (I 22 i) (I 23 i) (I 24 i) (I 3 (P 3 i)) (J1 2 (P 3 i))), .int (I 2 (P 3 i)), .int (I 3 (P 3 i)), .int (I 4 (P 3 i))]))) (AD 8 2) = .inl (ct 2, 5, .inr (.inr (.inr (.inr (fun j => if j < n 2 then some (AD 2 j) else none))))) := (va_up_ne _ _ ne_AD_8_2_AD_0_P_3_i).trans g_7E
        refine lv_ladd hx hb d_Sz_burnFires_28 ?_
        refine pg_put (C := "SmokeZones") (T := T_Sz) (N := 17) (ty := .long) hx hb hG in_Sz ty_Sz ok_Sz nm_Sz hown hK hP hD hS g_3L e_9 rfl 13 (by decide) (hG _ k48) (fun _ h9 => h9) rfl (by decide +kernel) rfl rfl (Nat.le_of_ble_eq_true rfl) d_Sz_burnFires_29 (fun H locs hP hD hS => ?_)
        have hP : va_P D vwCl (va_pl (L) (va_up (va_up f1 (AD 0 (P 3 i)) (.inr (0, [.int (I 0 (P 3 i)), .int (I 1 (P 3 i)), .long (J1 0 (P 3 i)), .long (m_fsm (I 21 i) (I 99 0) (I 22 i) (I 23 i) (I 3 (P 3 i)) (J1 1 (P 3 i))), .long (m_fht (I 21 i) (I 99 0) (I 22 i) (I 23 i) (I 24 i) (I 3 (P 3 i)) (J1 2 (P 3 i))), .int (I 2 (P 3 i)), .int (I 3 (P 3 i)), .int (I 4 (P 3 i))]))) (AD 9 0) (.inr (6, [.ref (AD 8 0), .ref (AD 8 1), .ref (AD 8 2), .ref (AD 8 3), .ref (AD 8 4), .ref (AD 8 5), .int (nI (n 0)), .int (nI (n 1)), .int (nI (n 2)), .int (nI (n 3)), .int (nI (n 4)), .int (nI (n 5)), .int (I 99 0), .long ((J1 99 0) + (m_fout (I 21 i) (I 99 0) (I 22 i) (I 23 i) (I 3 (P 3 i)))), .long (J1 99 1), .long (J1 99 2), .long (J1 99 3)])))) H := hP
        have hD : va_D A (va_pl (L) (va_up (va_up f1 (AD 0 (P 3 i)) (.inr (0, [.int (I 0 (P 3 i)), .int (I 1 (P 3 i)), .long (J1 0 (P 3 i)), .long (m_fsm (I 21 i) (I 99 0) (I 22 i) (I 23 i) (I 3 (P 3 i)) (J1 1 (P 3 i))), .long (m_fht (I 21 i) (I 99 0) (I 22 i) (I 23 i) (I 24 i) (I 3 (P 3 i)) (J1 2 (P 3 i))), .int (I 2 (P 3 i)), .int (I 3 (P 3 i)), .int (I 4 (P 3 i))]))) (AD 9 0) (.inr (6, [.ref (AD 8 0), .ref (AD 8 1), .ref (AD 8 2), .ref (AD 8 3), .ref (AD 8 4), .ref (AD 8 5), .int (nI (n 0)), .int (nI (n 1)), .int (nI (n 2)), .int (nI (n 3)), .int (nI (n 4)), .int (nI (n 5)), .int (I 99 0), .long ((J1 99 0) + (m_fout (I 21 i) (I 99 0) (I 22 i) (I 23 i) (I 3 (P 3 i)))), .long (J1 99 1), .long (J1 99 2), .long (J1 99 3)])))) := hD
        have e_12 : (va_up (va_up f1 (AD 0 (P 3 i)) (.inr (0, [.int (I 0 (P 3 i)), .int (I 1 (P 3 i)), .long (J1 0 (P 3 i)), .long (m_fsm (I 21 i) (I 99 0) (I 22 i) (I 23 i) (I 3 (P 3 i)) (J1 1 (P 3 i))), .long (m_fht (I 21 i) (I 99 0) (I 22 i) (I 23 i) (I 24 i) (I 3 (P 3 i)) (J1 2 (P 3 i))), .int (I 2 (P 3 i)), .int (I 3 (P 3 i)), .int (I 4 (P 3 i))]))) (AD 9 0) (.inr (6, [.ref (AD 8 0), .ref (AD 8 1), .ref (AD 8 2), .ref (AD 8 3), .ref (AD 8 4), .ref (AD 8 5), .int (nI (n 0)), .int (nI (n 1)), .int (nI (n 2)), .int (nI (n 3)), .int (nI (n 4)), .int (nI (n 5)), .int (I 99 0), .long ((J1 99 0) + (m_fout (I 21 i) (I 99 0) (I 22 i) (I 23 i) (I 3 (P 3 i)))), .long (J1 99 1), .long (J1 99 2), .long (J1 99 3)]))) (AD 9 0) = .inr (6, [.ref (AD 8 0), .ref (AD 8 1), .ref (AD 8 2), .ref (AD 8 3), .ref (AD 8 4), .ref (AD 8 5), .int (nI (n 0)), .int (nI (n 1)), .int (nI (n 2)), .int (nI (n 3)), .int (nI (n 4)), .int (nI (n 5)), .int (I 99 0), .long ((J1 99 0) + (m_fout (I 21 i) (I 99 0) (I 22 i) (I 23 i) (I 3 (P 3 i)))), .long (J1 99 1), .long (J1 99 2), .long (J1 99 3)]) := va_up_self _ _ _
        have e_13 : (va_up (va_up f1 (AD 0 (P 3 i)) (.inr (0, [.int (I 0 (P 3 i)), .int (I 1 (P 3 i)), .long (J1 0 (P 3 i)), .long (m_fsm (I 21 i) (I 99 0) (I 22 i) (I 23 i) (I 3 (P 3 i)) (J1 1 (P 3 i))), .long (m_fht (I 21 i) (I 99 0) (I 22 i) (I 23 i) (I 24 i) (I 3 (P 3 i)) (J1 2 (P 3 i))), .int (I 2 (P 3 i)), .int (I 3 (P 3 i)), .int (I 4 (P 3 i))]))) (AD 9 0) (.inr (6, [.ref (AD 8 0), .ref (AD 8 1), .ref (AD 8 2), .ref (AD 8 3), .ref (AD 8 4), .ref (AD 8 5), .int (nI (n 0)), .int (nI (n 1)), .int (nI (n 2)), .int (nI (n 3)), .int (nI (n 4)), .int (nI (n 5)), .int (I 99 0), .long ((J1 99 0) + (m_fout (I 21 i) (I 99 0) (I 22 i) (I 23 i) (I 3 (P 3 i)))), .long (J1 99 1), .long (J1 99 2), .long (J1 99 3)]))) (AD 2 i) = .inr (2, [.ref (AD 0 (P 3 i)), .int (I 21 i), .int (I 22 i), .int (I 23 i), .int (I 24 i)]) := (va_up_ne _ _ ne_AD_2_i_AD_9_0).trans e_10
        have e_14 : (va_up (va_up f1 (AD 0 (P 3 i)) (.inr (0, [.int (I 0 (P 3 i)), .int (I 1 (P 3 i)), .long (J1 0 (P 3 i)), .long (m_fsm (I 21 i) (I 99 0) (I 22 i) (I 23 i) (I 3 (P 3 i)) (J1 1 (P 3 i))), .long (m_fht (I 21 i) (I 99 0) (I 22 i) (I 23 i) (I 24 i) (I 3 (P 3 i)) (J1 2 (P 3 i))), .int (I 2 (P 3 i)), .int (I 3 (P 3 i)), .int (I 4 (P 3 i))]))) (AD 9 0) (.inr (6, [.ref (AD 8 0), .ref (AD 8 1), .ref (AD 8 2), .ref (AD 8 3), .ref (AD 8 4), .ref (AD 8 5), .int (nI (n 0)), .int (nI (n 1)), .int (nI (n 2)), .int (nI (n 3)), .int (nI (n 4)), .int (nI (n 5)), .int (I 99 0), .long ((J1 99 0) + (m_fout (I 21 i) (I 99 0) (I 22 i) (I 23 i) (I 3 (P 3 i)))), .long (J1 99 1), .long (J1 99 2), .long (J1 99 3)]))) (AD 0 (P 3 i)) = .inr (0, [.int (I 0 (P 3 i)), .int (I 1 (P 3 i)), .long (J1 0 (P 3 i)), .long (m_fsm (I 21 i) (I 99 0) (I 22 i) (I 23 i) (I 3 (P 3 i)) (J1 1 (P 3 i))), .long (m_fht (I 21 i) (I 99 0) (I 22 i) (I 23 i) (I 24 i) (I 3 (P 3 i)) (J1 2 (P 3 i))), .int (I 2 (P 3 i)), .int (I 3 (P 3 i)), .int (I 4 (P 3 i))]) := (va_up_ne _ _ ne_AD_0_P_3_i_AD_9_0).trans e_8
        have e_15 : (va_up (va_up f1 (AD 0 (P 3 i)) (.inr (0, [.int (I 0 (P 3 i)), .int (I 1 (P 3 i)), .long (J1 0 (P 3 i)), .long (m_fsm (I 21 i) (I 99 0) (I 22 i) (I 23 i) (I 3 (P 3 i)) (J1 1 (P 3 i))), .long (m_fht (I 21 i) (I 99 0) (I 22 i) (I 23 i) (I 24 i) (I 3 (P 3 i)) (J1 2 (P 3 i))), .int (I 2 (P 3 i)), .int (I 3 (P 3 i)), .int (I 4 (P 3 i))]))) (AD 9 0) (.inr (6, [.ref (AD 8 0), .ref (AD 8 1), .ref (AD 8 2), .ref (AD 8 3), .ref (AD 8 4), .ref (AD 8 5), .int (nI (n 0)), .int (nI (n 1)), .int (nI (n 2)), .int (nI (n 3)), .int (nI (n 4)), .int (nI (n 5)), .int (I 99 0), .long ((J1 99 0) + (m_fout (I 21 i) (I 99 0) (I 22 i) (I 23 i) (I 3 (P 3 i)))), .long (J1 99 1), .long (J1 99 2), .long (J1 99 3)]))) (AD 8 2) = .inl (ct 2, 5, .inr (.inr (.inr (.inr (fun j => if j < n 2 then some (AD 2 j) else none))))) := (va_up_ne _ _ ne_AD_8_2_AD_9_0).trans e_11
        refine lv_iinc (v := nI (i + 1)) (lv' := [(1, .int (nI (i + 1))), (0, .ref (AD 9 0))]) hx hb d_Sz_burnFires_32 hl (k := 0) rfl (nI_1 i) (by decide) rfl (fun ls hl => ?_)
        refine lv_goto (tgt := 2) hx hb d_Sz_burnFires_35 (by decide) ?_
        have hN0 : CW ct AD L n I (sRo J1 (P 3 i) (m_fsm (I 21 i) (I 99 0) (I 22 i) (I 23 i) (I 3 (P 3 i)) (J1 1 (P 3 i))) (m_fht (I 21 i) (I 99 0) (I 22 i) (I 23 i) (I 24 i) (I 3 (P 3 i)) (J1 2 (P 3 i)))) P _ := hC0.set (k := 0) (i := (P 3 i)) (lv0 (by decide) hr) (co_ro (fun _ _ _ => rfl) sRo_hJ) hC0.2.2
        have hN1 : CW ct AD L n I (bS I P i J1) P _ := hN0.set (k := 9) (i := 0) (lv9) (co_ma (fun _ _ _ => rfl) t99_hJ) hC0.2.2
        have hN : CW ct AD L n I (bS I P i J1) P (va_up (va_up f1 (AD 0 (P 3 i)) (.inr (0, [.int (I 0 (P 3 i)), .int (I 1 (P 3 i)), .long (J1 0 (P 3 i)), .long (m_fsm (I 21 i) (I 99 0) (I 22 i) (I 23 i) (I 3 (P 3 i)) (J1 1 (P 3 i))), .long (m_fht (I 21 i) (I 99 0) (I 22 i) (I 23 i) (I 24 i) (I 3 (P 3 i)) (J1 2 (P 3 i))), .int (I 2 (P 3 i)), .int (I 3 (P 3 i)), .int (I 4 (P 3 i))]))) (AD 9 0) (.inr (6, [.ref (AD 8 0), .ref (AD 8 1), .ref (AD 8 2), .ref (AD 8 3), .ref (AD 8 4), .ref (AD 8 5), .int (nI (n 0)), .int (nI (n 1)), .int (nI (n 2)), .int (nI (n 3)), .int (nI (n 4)), .int (nI (n 5)), .int (I 99 0), .long ((J1 99 0) + (m_fout (I 21 i) (I 99 0) (I 22 i) (I 23 i) (I 3 (P 3 i)))), .long (J1 99 1), .long (J1 99 2), .long (J1 99 3)]))) := by
          refine cast (congrArg (CW ct AD L n I (bS I P i J1) P) ?_) hN1
          simp [cellOf, roomE, mainE, openE, steelE, farV, up2, sRo, bS]
        exact ih0 (i + 1) _ _ _ _ _ (by omega) hN hP hD hS (lv_sub hl [0, 1] rfl) hfin0
  exact lp0 (n 2) 0 J f _ _ _ (by omega) hCW hP hD hS (lv_sub hl [0, 1] rfl) rfl

set_option maxHeartbeats 4000000 in
set_option maxRecDepth 100000 in
theorem c_Sz_blowFans {l : Launch} {D : va_G} {ct : Nat → ClassId} {AD : Nat → Nat → Nat} {L : List Nat} {f : Nat → va_E} {sz : Nat} {n : Nat → Nat} {I : Nat → Nat → Int32} {J : Nat → Nat → Int64} {P : Nat → Nat → Nat} (hCW : CW ct AD L n I J P f) : Met l y_Sz_blowFans (WS y_Sz_blowFans b_Sz_blowFans 2 none) { frames := 2, cells := 0, slots := 0, locals := 47 } (va_Pc [.ref (AD 9 0)] (WP D (TYS ct) L f sz)) (Xs D (TYS ct) L (AA L f sz) (fun f' => CW ct AD L n I (fL I P (n 3) 0 J) P f')) 0 0 (AA L f sz) := by
  refine Met.ofW (cc := b_Sz_blowFans) (maxL := 2) (ret := none) (by decide) rfl ?_
  intro p e s m args below meth c s₁ B hml hv
  obtain ⟨rfl, hsz, hP, hK, hD0⟩ := hv
  subst hsz
  have hx := B.exec
  have hb := B.bytes
  have hret := B.returns
  have hts := atoms_spec (ws := WS y_Sz_blowFans b_Sz_blowFans 2 none) B.pre
  have hG : ∀ w ∈ GW, w.before _ s = true := fun w h => hts w (List.mem_cons_of_mem _ h)
  have hown : s.vm.findClass "SmokeZones" = some m.cls := findClass_of_methodNamed B.named
  have hlocks := B.notSynchronized
  have hD : va_D (AA L f s.heap.size) (va_pl L f) := hD0.self (sz := s.heap.size)
  generalize hAe : AA L f s.heap.size = A at hD ⊢
  have hA : ∀ q : Nat, s.heap.size ≤ q → A q := fun q h => by rw [← hAe]; exact Or.inr h
  have hS : va_S A s.heap s.heap [] := va_S.rf
  have hl := lv_entry ([.ref (AD 9 0)]) (n := 2) (Nat.le_of_ble_eq_true rfl)
  rw [lg_entry_eq]
  generalize (lg_sl ([.ref (AD 9 0)]) ++ List.replicate (2 - (lg_sl ([.ref (AD 9 0)])).length) Slot.unset).toArray = ls at hl ⊢
  have hl : lv_has ls 2 [(0, .ref (AD 9 0))] := hl
  refine lv_iconst (v := 0) hx hb d_Sz_blowFans_0 (by decide) ?_
  refine lv_istore_n (lv' := [(1, .int 0), (0, .ref (AD 9 0))]) hx hb d_Sz_blowFans_1 rfl hl (by decide) rfl (fun ls hl => ?_)
  have lp0 : ∀ (k i : Nat) (J1 : Nat → Nat → Int64) (f1 : Nat → va_E) (H : Heap) (locs : List Loc) (ls : Array Slot), i + k = n 3 → CW ct AD L n I J1 P f1 → va_P D vwCl (va_pl L f1) H → va_D A (va_pl L f1) → va_S A s.heap H locs → lv_has ls 2 [(1, .int (nI i)), (0, .ref (AD 9 0))] → fL I P k i J1 = fL I P (n 3) 0 J → W p l e (headSpec (WS y_Sz_blowFans b_Sz_blowFans 2 none) { frames := 2, cells := 0, slots := 0, locals := 47 }).room s m [.ref (AD 9 0)].toArray below meth c H locs 0 0 (MQ below (Xs D (TYS ct) L A (fun f' => CW ct AD L n I (fL I P (n 3) 0 J) P f')) [.ref (AD 9 0)].toArray s 0 0 A) (F0 m 2 ls []) := by
    intro k
    induction k with
    | zero =>
      intro i J1 f1 H locs ls hik0 hC0 hP hD hS hl hfin0
      have hcap := hC0.cap3
      obtain ⟨g_1L, g_1E⟩ := hC0.ma
      refine lv_iload_n hx hb d_Sz_blowFans_2 rfl (lv_at hl 0 rfl) ?_
      refine lv_aload_n hx hb d_Sz_blowFans_3 rfl (lv_at hl 1 rfl) ?_
      refine pg_get (C := "SmokeZones") (T := T_Sz) (N := 17) hx hb hG in_Sz hown hK hP g_1L g_1E rfl 9 (by decide) (hG _ k44) (fun _ h9 => h9) rfl d_Sz_blowFans_4 ?_
      refine lv_icmp_ge (tgt := 38) hx hb d_Sz_blowFans_7 (by decide) (fun c_2 => ?_) (fun c_2 => ?_)
      · have q0 : J1 = fL I P (n 3) 0 J := hfin0
        have hN : CW ct AD L n I J1 P f1 := hC0
        rw [q0] at hN
        exact W.vret hx hb hret (fun t ht hW => ⟨⟨f1, rfl, hN, by rw [ht]; exact hP, va_K.moved hW.alike hK, hD⟩, hS.F ht⟩) hS.2.2 d_Sz_blowFans_38
      · exact (ge_yes (by omega) (by omega) c_2).elim
    | succ k ih0 =>
      intro i J1 f1 H locs ls hik0 hC0 hP hD hS hl hfin0
      have hcap := hC0.cap3
      obtain ⟨g_3L, g_3E⟩ := hC0.ma
      have hi : i < n 3 := by omega
      refine lv_iload_n hx hb d_Sz_blowFans_2 rfl (lv_at hl 0 rfl) ?_
      refine lv_aload_n hx hb d_Sz_blowFans_3 rfl (lv_at hl 1 rfl) ?_
      refine pg_get (C := "SmokeZones") (T := T_Sz) (N := 17) hx hb hG in_Sz hown hK hP g_3L g_3E rfl 9 (by decide) (hG _ k44) (fun _ h9 => h9) rfl d_Sz_blowFans_4 ?_
      refine lv_icmp_ge (tgt := 38) hx hb d_Sz_blowFans_7 (by decide) (fun c_4 => ?_) (fun c_4 => ?_)
      · exact (ge_no hi (by omega) c_4).elim
      · have hr : P 4 i < n 0 := hC0.2.2.2.2.2.1 i hi
        have hc0 := hC0.cap0
        obtain ⟨g_5L, g_5E⟩ := hC0.fa hi
        obtain ⟨g_6L, g_6E⟩ := hC0.ro hr
        obtain ⟨g_7L, g_7E⟩ := hC0.a3
        have ne_AD_9_0_AD_3_i : AD 9 0 ≠ AD 3 i := hC0.ne (k := 9) (i := 0) (k' := 3) (i' := i) (lv9) (lv0 (by decide) hi) (by omega)
        have ne_AD_9_0_AD_0_P_4_i : AD 9 0 ≠ AD 0 (P 4 i) := hC0.ne (k := 9) (i := 0) (k' := 0) (i' := (P 4 i)) (lv9) (lv0 (by decide) hr) (by omega)
        have ne_AD_9_0_AD_8_3 : AD 9 0 ≠ AD 8 3 := hC0.ne (k := 9) (i := 0) (k' := 8) (i' := 3) (lv9) (lv8 (by decide)) (by omega)
        have ne_AD_3_i_AD_9_0 : AD 3 i ≠ AD 9 0 := hC0.ne (k := 3) (i := i) (k' := 9) (i' := 0) (lv0 (by decide) hi) (lv9) (by omega)
        have ne_AD_3_i_AD_0_P_4_i : AD 3 i ≠ AD 0 (P 4 i) := hC0.ne (k := 3) (i := i) (k' := 0) (i' := (P 4 i)) (lv0 (by decide) hi) (lv0 (by decide) hr) (by omega)
        have ne_AD_3_i_AD_8_3 : AD 3 i ≠ AD 8 3 := hC0.ne (k := 3) (i := i) (k' := 8) (i' := 3) (lv0 (by decide) hi) (lv8 (by decide)) (by omega)
        have ne_AD_0_P_4_i_AD_9_0 : AD 0 (P 4 i) ≠ AD 9 0 := hC0.ne (k := 0) (i := (P 4 i)) (k' := 9) (i' := 0) (lv0 (by decide) hr) (lv9) (by omega)
        have ne_AD_0_P_4_i_AD_3_i : AD 0 (P 4 i) ≠ AD 3 i := hC0.ne (k := 0) (i := (P 4 i)) (k' := 3) (i' := i) (lv0 (by decide) hr) (lv0 (by decide) hi) (by omega)
        have ne_AD_0_P_4_i_AD_8_3 : AD 0 (P 4 i) ≠ AD 8 3 := hC0.ne (k := 0) (i := (P 4 i)) (k' := 8) (i' := 3) (lv0 (by decide) hr) (lv8 (by decide)) (by omega)
        have ne_AD_8_3_AD_9_0 : AD 8 3 ≠ AD 9 0 := hC0.ne (k := 8) (i := 3) (k' := 9) (i' := 0) (lv8 (by decide)) (lv9) (by omega)
        have ne_AD_8_3_AD_3_i : AD 8 3 ≠ AD 3 i := hC0.ne (k := 8) (i := 3) (k' := 3) (i' := i) (lv8 (by decide)) (lv0 (by decide) hi) (by omega)
        have ne_AD_8_3_AD_0_P_4_i : AD 8 3 ≠ AD 0 (P 4 i) := hC0.ne (k := 8) (i := 3) (k' := 0) (i' := (P 4 i)) (lv8 (by decide)) (lv0 (by decide) hr) (by omega)
        refine lv_aload_n hx hb d_Sz_blowFans_10 rfl (lv_at hl 1 rfl) ?_
        refine lv_dup hx hb d_Sz_blowFans_11 rfl ?_
        refine pg_get (C := "SmokeZones") (T := T_Sz) (N := 17) hx hb hG in_Sz hown hK hP g_3L g_3E rfl 15 (by decide) (hG _ k50) (fun _ h9 => h9) rfl d_Sz_blowFans_12 ?_
        refine lv_aload_n hx hb d_Sz_blowFans_15 rfl (lv_at hl 1 rfl) ?_
        refine pg_get (C := "SmokeZones") (T := T_Sz) (N := 17) hx hb hG in_Sz hown hK hP g_3L g_3E rfl 3 (by decide) (hG _ k38) (fun _ h9 => h9) rfl d_Sz_blowFans_16 ?_
        refine lv_iload_n hx hb d_Sz_blowFans_19 rfl (lv_at hl 0 rfl) ?_
        refine pg_ald hx hb hK hP 3 g_7L g_7E rfl (vp_in_nI (by omega) (by decide)) (rf_at hi (by omega)) d_Sz_blowFans_20 ?_
        refine lv_aload_n hx hb d_Sz_blowFans_21 rfl (lv_at hl 1 rfl) ?_
        refine pg_get (C := "SmokeZones") (T := T_Sz) (N := 17) hx hb hG in_Sz hown hK hP g_3L g_3E rfl 12 (by decide) (hG _ k47) (fun _ h9 => h9) rfl d_Sz_blowFans_22 ?_
        refine kV_wl (f' := va_up f1 (AD 0 (P 4 i)) (.inr (0, [.int (I 0 (P 4 i)), .int (I 1 (P 4 i)), .long (J1 0 (P 4 i)), .long (m_bsm (I 31 i) (I 99 0) (I 32 i) (J1 1 (P 4 i))), .long (m_bht (I 31 i) (I 99 0) (I 32 i) (J1 1 (P 4 i)) (J1 2 (P 4 i))), .int (I 2 (P 4 i)), .int (I 3 (P 4 i)), .int (I 4 (P 4 i))]))) ⟨hx, hb, hml, hown, hG⟩ (c_Fa_blow g_5L g_5E g_6L g_6E) (cwV 1 hG (gV k503 k504 k505 k11 k506) rfl rfl rfl hd_Fa_blow ⟨Nat.le_of_ble_eq_true rfl, Nat.le_of_ble_eq_true rfl⟩) hK hP hD hS hA g_5L g_5E rfl rfl hl.1 rfl (Nat.le_of_ble_eq_true rfl) ⟨Nat.le_of_ble_eq_true rfl, Nat.le_of_ble_eq_true rfl⟩ d_Sz_blowFans_25 (fun H locs hP hD hS => ?_)
        have e_8 : (va_up f1 (AD 0 (P 4 i)) (.inr (0, [.int (I 0 (P 4 i)), .int (I 1 (P 4 i)), .long (J1 0 (P 4 i)), .long (m_bsm (I 31 i) (I 99 0) (I 32 i) (J1 1 (P 4 i))), .long (m_bht (I 31 i) (I 99 0) (I 32 i) (J1 1 (P 4 i)) (J1 2 (P 4 i))), .int (I 2 (P 4 i)), .int (I 3 (P 4 i)), .int (I 4 (P 4 i))]))) (AD 0 (P 4 i)) = .inr (0, [.int (I 0 (P 4 i)), .int (I 1 (P 4 i)), .long (J1 0 (P 4 i)), .long (m_bsm (I 31 i) (I 99 0) (I 32 i) (J1 1 (P 4 i))), .long (m_bht (I 31 i) (I 99 0) (I 32 i) (J1 1 (P 4 i)) (J1 2 (P 4 i))), .int (I 2 (P 4 i)), .int (I 3 (P 4 i)), .int (I 4 (P 4 i))]) := va_up_self _ _ _
        have e_9 : (va_up f1 (AD 0 (P 4 i)) (.inr (0, [.int (I 0 (P 4 i)), .int (I 1 (P 4 i)), .long (J1 0 (P 4 i)), .long (m_bsm (I 31 i) (I 99 0) (I 32 i) (J1 1 (P 4 i))), .long (m_bht (I 31 i) (I 99 0) (I 32 i) (J1 1 (P 4 i)) (J1 2 (P 4 i))), .int (I 2 (P 4 i)), .int (I 3 (P 4 i)), .int (I 4 (P 4 i))]))) (AD 9 0) = .inr (6, [.ref (AD 8 0), .ref (AD 8 1), .ref (AD 8 2), .ref (AD 8 3), .ref (AD 8 4), .ref (AD 8 5), .int (nI (n 0)), .int (nI (n 1)), .int (nI (n 2)), .int (nI (n 3)), .int (nI (n 4)), .int (nI (n 5)), .int (I 99 0), .long (J1 99 0), .long (J1 99 1), .long (J1 99 2), .long (J1 99 3)]) := (va_up_ne _ _ ne_AD_9_0_AD_0_P_4_i).trans g_3E
        have e_10 : (va_up f1 (AD 0 (P 4 i)) (.inr (0, [.int (I 0 (P 4 i)), .int (I 1 (P 4 i)), .long (J1 0 (P 4 i)), .long (m_bsm (I 31 i) (I 99 0) (I 32 i) (J1 1 (P 4 i))), .long (m_bht (I 31 i) (I 99 0) (I 32 i) (J1 1 (P 4 i)) (J1 2 (P 4 i))), .int (I 2 (P 4 i)), .int (I 3 (P 4 i)), .int (I 4 (P 4 i))]))) (AD 3 i) = .inr (3, [.ref (AD 0 (P 4 i)), .int (I 31 i), .int (I 32 i)]) := (va_up_ne _ _ ne_AD_3_i_AD_0_P_4_i).trans g_5E
        have e_11 : (va_up f1 (AD 0 (P 4 i)) (.inr (0, [.int (I 0 (P 4 i)), .int (I 1 (P 4 i)), .long (J1 0 (P 4 i)), .long (m_bsm (I 31 i) (I 99 0) (I 32 i) (J1 1 (P 4 i))), .long (m_bht (I 31 i) (I 99 0) (I 32 i) (J1 1 (P 4 i)) (J1 2 (P 4 i))), .int (I 2 (P 4 i)), .int (I 3 (P 4 i)), .int (I 4 (P 4 i))]))) (AD 8 3) = .inl (ct 3, 9, .inr (.inr (.inr (.inr (fun j => if j < n 3 then some (AD 3 j) else none))))) := (va_up_ne _ _ ne_AD_8_3_AD_0_P_4_i).trans g_7E
        refine lv_ladd hx hb d_Sz_blowFans_28 ?_
        refine pg_put (C := "SmokeZones") (T := T_Sz) (N := 17) (ty := .long) hx hb hG in_Sz ty_Sz ok_Sz nm_Sz hown hK hP hD hS g_3L e_9 rfl 15 (by decide) (hG _ k50) (fun _ h9 => h9) rfl (by decide +kernel) rfl rfl (Nat.le_of_ble_eq_true rfl) d_Sz_blowFans_29 (fun H locs hP hD hS => ?_)
        have hP : va_P D vwCl (va_pl (L) (va_up (va_up f1 (AD 0 (P 4 i)) (.inr (0, [.int (I 0 (P 4 i)), .int (I 1 (P 4 i)), .long (J1 0 (P 4 i)), .long (m_bsm (I 31 i) (I 99 0) (I 32 i) (J1 1 (P 4 i))), .long (m_bht (I 31 i) (I 99 0) (I 32 i) (J1 1 (P 4 i)) (J1 2 (P 4 i))), .int (I 2 (P 4 i)), .int (I 3 (P 4 i)), .int (I 4 (P 4 i))]))) (AD 9 0) (.inr (6, [.ref (AD 8 0), .ref (AD 8 1), .ref (AD 8 2), .ref (AD 8 3), .ref (AD 8 4), .ref (AD 8 5), .int (nI (n 0)), .int (nI (n 1)), .int (nI (n 2)), .int (nI (n 3)), .int (nI (n 4)), .int (nI (n 5)), .int (I 99 0), .long (J1 99 0), .long (J1 99 1), .long ((J1 99 2) + (m_bout (I 31 i) (I 99 0) (I 32 i) (J1 1 (P 4 i)))), .long (J1 99 3)])))) H := hP
        have hD : va_D A (va_pl (L) (va_up (va_up f1 (AD 0 (P 4 i)) (.inr (0, [.int (I 0 (P 4 i)), .int (I 1 (P 4 i)), .long (J1 0 (P 4 i)), .long (m_bsm (I 31 i) (I 99 0) (I 32 i) (J1 1 (P 4 i))), .long (m_bht (I 31 i) (I 99 0) (I 32 i) (J1 1 (P 4 i)) (J1 2 (P 4 i))), .int (I 2 (P 4 i)), .int (I 3 (P 4 i)), .int (I 4 (P 4 i))]))) (AD 9 0) (.inr (6, [.ref (AD 8 0), .ref (AD 8 1), .ref (AD 8 2), .ref (AD 8 3), .ref (AD 8 4), .ref (AD 8 5), .int (nI (n 0)), .int (nI (n 1)), .int (nI (n 2)), .int (nI (n 3)), .int (nI (n 4)), .int (nI (n 5)), .int (I 99 0), .long (J1 99 0), .long (J1 99 1), .long ((J1 99 2) + (m_bout (I 31 i) (I 99 0) (I 32 i) (J1 1 (P 4 i)))), .long (J1 99 3)])))) := hD
        have e_12 : (va_up (va_up f1 (AD 0 (P 4 i)) (.inr (0, [.int (I 0 (P 4 i)), .int (I 1 (P 4 i)), .long (J1 0 (P 4 i)), .long (m_bsm (I 31 i) (I 99 0) (I 32 i) (J1 1 (P 4 i))), .long (m_bht (I 31 i) (I 99 0) (I 32 i) (J1 1 (P 4 i)) (J1 2 (P 4 i))), .int (I 2 (P 4 i)), .int (I 3 (P 4 i)), .int (I 4 (P 4 i))]))) (AD 9 0) (.inr (6, [.ref (AD 8 0), .ref (AD 8 1), .ref (AD 8 2), .ref (AD 8 3), .ref (AD 8 4), .ref (AD 8 5), .int (nI (n 0)), .int (nI (n 1)), .int (nI (n 2)), .int (nI (n 3)), .int (nI (n 4)), .int (nI (n 5)), .int (I 99 0), .long (J1 99 0), .long (J1 99 1), .long ((J1 99 2) + (m_bout (I 31 i) (I 99 0) (I 32 i) (J1 1 (P 4 i)))), .long (J1 99 3)]))) (AD 9 0) = .inr (6, [.ref (AD 8 0), .ref (AD 8 1), .ref (AD 8 2), .ref (AD 8 3), .ref (AD 8 4), .ref (AD 8 5), .int (nI (n 0)), .int (nI (n 1)), .int (nI (n 2)), .int (nI (n 3)), .int (nI (n 4)), .int (nI (n 5)), .int (I 99 0), .long (J1 99 0), .long (J1 99 1), .long ((J1 99 2) + (m_bout (I 31 i) (I 99 0) (I 32 i) (J1 1 (P 4 i)))), .long (J1 99 3)]) := va_up_self _ _ _
        have e_13 : (va_up (va_up f1 (AD 0 (P 4 i)) (.inr (0, [.int (I 0 (P 4 i)), .int (I 1 (P 4 i)), .long (J1 0 (P 4 i)), .long (m_bsm (I 31 i) (I 99 0) (I 32 i) (J1 1 (P 4 i))), .long (m_bht (I 31 i) (I 99 0) (I 32 i) (J1 1 (P 4 i)) (J1 2 (P 4 i))), .int (I 2 (P 4 i)), .int (I 3 (P 4 i)), .int (I 4 (P 4 i))]))) (AD 9 0) (.inr (6, [.ref (AD 8 0), .ref (AD 8 1), .ref (AD 8 2), .ref (AD 8 3), .ref (AD 8 4), .ref (AD 8 5), .int (nI (n 0)), .int (nI (n 1)), .int (nI (n 2)), .int (nI (n 3)), .int (nI (n 4)), .int (nI (n 5)), .int (I 99 0), .long (J1 99 0), .long (J1 99 1), .long ((J1 99 2) + (m_bout (I 31 i) (I 99 0) (I 32 i) (J1 1 (P 4 i)))), .long (J1 99 3)]))) (AD 3 i) = .inr (3, [.ref (AD 0 (P 4 i)), .int (I 31 i), .int (I 32 i)]) := (va_up_ne _ _ ne_AD_3_i_AD_9_0).trans e_10
        have e_14 : (va_up (va_up f1 (AD 0 (P 4 i)) (.inr (0, [.int (I 0 (P 4 i)), .int (I 1 (P 4 i)), .long (J1 0 (P 4 i)), .long (m_bsm (I 31 i) (I 99 0) (I 32 i) (J1 1 (P 4 i))), .long (m_bht (I 31 i) (I 99 0) (I 32 i) (J1 1 (P 4 i)) (J1 2 (P 4 i))), .int (I 2 (P 4 i)), .int (I 3 (P 4 i)), .int (I 4 (P 4 i))]))) (AD 9 0) (.inr (6, [.ref (AD 8 0), .ref (AD 8 1), .ref (AD 8 2), .ref (AD 8 3), .ref (AD 8 4), .ref (AD 8 5), .int (nI (n 0)), .int (nI (n 1)), .int (nI (n 2)), .int (nI (n 3)), .int (nI (n 4)), .int (nI (n 5)), .int (I 99 0), .long (J1 99 0), .long (J1 99 1), .long ((J1 99 2) + (m_bout (I 31 i) (I 99 0) (I 32 i) (J1 1 (P 4 i)))), .long (J1 99 3)]))) (AD 0 (P 4 i)) = .inr (0, [.int (I 0 (P 4 i)), .int (I 1 (P 4 i)), .long (J1 0 (P 4 i)), .long (m_bsm (I 31 i) (I 99 0) (I 32 i) (J1 1 (P 4 i))), .long (m_bht (I 31 i) (I 99 0) (I 32 i) (J1 1 (P 4 i)) (J1 2 (P 4 i))), .int (I 2 (P 4 i)), .int (I 3 (P 4 i)), .int (I 4 (P 4 i))]) := (va_up_ne _ _ ne_AD_0_P_4_i_AD_9_0).trans e_8
        have e_15 : (va_up (va_up f1 (AD 0 (P 4 i)) (.inr (0, [.int (I 0 (P 4 i)), .int (I 1 (P 4 i)), .long (J1 0 (P 4 i)), .long (m_bsm (I 31 i) (I 99 0) (I 32 i) (J1 1 (P 4 i))), .long (m_bht (I 31 i) (I 99 0) (I 32 i) (J1 1 (P 4 i)) (J1 2 (P 4 i))), .int (I 2 (P 4 i)), .int (I 3 (P 4 i)), .int (I 4 (P 4 i))]))) (AD 9 0) (.inr (6, [.ref (AD 8 0), .ref (AD 8 1), .ref (AD 8 2), .ref (AD 8 3), .ref (AD 8 4), .ref (AD 8 5), .int (nI (n 0)), .int (nI (n 1)), .int (nI (n 2)), .int (nI (n 3)), .int (nI (n 4)), .int (nI (n 5)), .int (I 99 0), .long (J1 99 0), .long (J1 99 1), .long ((J1 99 2) + (m_bout (I 31 i) (I 99 0) (I 32 i) (J1 1 (P 4 i)))), .long (J1 99 3)]))) (AD 8 3) = .inl (ct 3, 9, .inr (.inr (.inr (.inr (fun j => if j < n 3 then some (AD 3 j) else none))))) := (va_up_ne _ _ ne_AD_8_3_AD_9_0).trans e_11
        refine lv_iinc (v := nI (i + 1)) (lv' := [(1, .int (nI (i + 1))), (0, .ref (AD 9 0))]) hx hb d_Sz_blowFans_32 hl (k := 0) rfl (nI_1 i) (by decide) rfl (fun ls hl => ?_)
        refine lv_goto (tgt := 2) hx hb d_Sz_blowFans_35 (by decide) ?_
        have hN0 : CW ct AD L n I (sRo J1 (P 4 i) (m_bsm (I 31 i) (I 99 0) (I 32 i) (J1 1 (P 4 i))) (m_bht (I 31 i) (I 99 0) (I 32 i) (J1 1 (P 4 i)) (J1 2 (P 4 i)))) P _ := hC0.set (k := 0) (i := (P 4 i)) (lv0 (by decide) hr) (co_ro (fun _ _ _ => rfl) sRo_hJ) hC0.2.2
        have hN1 : CW ct AD L n I (fS I P i J1) P _ := hN0.set (k := 9) (i := 0) (lv9) (co_ma (fun _ _ _ => rfl) t99_hJ) hC0.2.2
        have hN : CW ct AD L n I (fS I P i J1) P (va_up (va_up f1 (AD 0 (P 4 i)) (.inr (0, [.int (I 0 (P 4 i)), .int (I 1 (P 4 i)), .long (J1 0 (P 4 i)), .long (m_bsm (I 31 i) (I 99 0) (I 32 i) (J1 1 (P 4 i))), .long (m_bht (I 31 i) (I 99 0) (I 32 i) (J1 1 (P 4 i)) (J1 2 (P 4 i))), .int (I 2 (P 4 i)), .int (I 3 (P 4 i)), .int (I 4 (P 4 i))]))) (AD 9 0) (.inr (6, [.ref (AD 8 0), .ref (AD 8 1), .ref (AD 8 2), .ref (AD 8 3), .ref (AD 8 4), .ref (AD 8 5), .int (nI (n 0)), .int (nI (n 1)), .int (nI (n 2)), .int (nI (n 3)), .int (nI (n 4)), .int (nI (n 5)), .int (I 99 0), .long (J1 99 0), .long (J1 99 1), .long ((J1 99 2) + (m_bout (I 31 i) (I 99 0) (I 32 i) (J1 1 (P 4 i)))), .long (J1 99 3)]))) := by
          refine cast (congrArg (CW ct AD L n I (fS I P i J1) P) ?_) hN1
          simp [cellOf, roomE, mainE, openE, steelE, farV, up2, sRo, fS]
        exact ih0 (i + 1) _ _ _ _ _ (by omega) hN hP hD hS (lv_sub hl [0, 1] rfl) hfin0
  exact lp0 (n 3) 0 J f _ _ _ (by omega) hCW hP hD hS (lv_sub hl [0, 1] rfl) rfl

set_option maxHeartbeats 4000000 in
set_option maxRecDepth 100000 in
theorem c_Sz_pressOutOfRooms {l : Launch} {D : va_G} {ct : Nat → ClassId} {AD : Nat → Nat → Nat} {L : List Nat} {f : Nat → va_E} {sz : Nat} {n : Nat → Nat} {I : Nat → Nat → Int32} {J : Nat → Nat → Int64} {P : Nat → Nat → Nat} (hCW : CW ct AD L n I J P f) : Met l y_Sz_pressOutOfRooms (WS y_Sz_pressOutOfRooms b_Sz_pressOutOfRooms 2 none) { frames := 2, cells := 0, slots := 0, locals := 44 } (va_Pc [.ref (AD 9 0)] (WP D (TYS ct) L f sz)) (Xs D (TYS ct) L (AA L f sz) (fun f' => CW ct AD L n I (pL (n 0) 0 J) P f')) 0 0 (AA L f sz) := by
  refine Met.ofW (cc := b_Sz_pressOutOfRooms) (maxL := 2) (ret := none) (by decide) rfl ?_
  intro p e s m args below meth c s₁ B hml hv
  obtain ⟨rfl, hsz, hP, hK, hD0⟩ := hv
  subst hsz
  have hx := B.exec
  have hb := B.bytes
  have hret := B.returns
  have hts := atoms_spec (ws := WS y_Sz_pressOutOfRooms b_Sz_pressOutOfRooms 2 none) B.pre
  have hG : ∀ w ∈ GW, w.before _ s = true := fun w h => hts w (List.mem_cons_of_mem _ h)
  have hown : s.vm.findClass "SmokeZones" = some m.cls := findClass_of_methodNamed B.named
  have hlocks := B.notSynchronized
  have hD : va_D (AA L f s.heap.size) (va_pl L f) := hD0.self (sz := s.heap.size)
  generalize hAe : AA L f s.heap.size = A at hD ⊢
  have hA : ∀ q : Nat, s.heap.size ≤ q → A q := fun q h => by rw [← hAe]; exact Or.inr h
  have hS : va_S A s.heap s.heap [] := va_S.rf
  have hl := lv_entry ([.ref (AD 9 0)]) (n := 2) (Nat.le_of_ble_eq_true rfl)
  rw [lg_entry_eq]
  generalize (lg_sl ([.ref (AD 9 0)]) ++ List.replicate (2 - (lg_sl ([.ref (AD 9 0)])).length) Slot.unset).toArray = ls at hl ⊢
  have hl : lv_has ls 2 [(0, .ref (AD 9 0))] := hl
  refine lv_iconst (v := 0) hx hb d_Sz_pressOutOfRooms_0 (by decide) ?_
  refine lv_istore_n (lv' := [(1, .int 0), (0, .ref (AD 9 0))]) hx hb d_Sz_pressOutOfRooms_1 rfl hl (by decide) rfl (fun ls hl => ?_)
  have lp0 : ∀ (k i : Nat) (J1 : Nat → Nat → Int64) (f1 : Nat → va_E) (H : Heap) (locs : List Loc) (ls : Array Slot), i + k = n 0 → CW ct AD L n I J1 P f1 → va_P D vwCl (va_pl L f1) H → va_D A (va_pl L f1) → va_S A s.heap H locs → lv_has ls 2 [(1, .int (nI i)), (0, .ref (AD 9 0))] → pL k i J1 = pL (n 0) 0 J → W p l e (headSpec (WS y_Sz_pressOutOfRooms b_Sz_pressOutOfRooms 2 none) { frames := 2, cells := 0, slots := 0, locals := 44 }).room s m [.ref (AD 9 0)].toArray below meth c H locs 0 0 (MQ below (Xs D (TYS ct) L A (fun f' => CW ct AD L n I (pL (n 0) 0 J) P f')) [.ref (AD 9 0)].toArray s 0 0 A) (F0 m 2 ls []) := by
    intro k
    induction k with
    | zero =>
      intro i J1 f1 H locs ls hik0 hC0 hP hD hS hl hfin0
      have hcap := hC0.cap0
      obtain ⟨g_1L, g_1E⟩ := hC0.ma
      refine lv_iload_n hx hb d_Sz_pressOutOfRooms_2 rfl (lv_at hl 0 rfl) ?_
      refine lv_aload_n hx hb d_Sz_pressOutOfRooms_3 rfl (lv_at hl 1 rfl) ?_
      refine pg_get (C := "SmokeZones") (T := T_Sz) (N := 17) hx hb hG in_Sz hown hK hP g_1L g_1E rfl 6 (by decide) (hG _ k41) (fun _ h9 => h9) rfl d_Sz_pressOutOfRooms_4 ?_
      refine lv_icmp_ge (tgt := 34) hx hb d_Sz_pressOutOfRooms_7 (by decide) (fun c_2 => ?_) (fun c_2 => ?_)
      · have q0 : J1 = pL (n 0) 0 J := hfin0
        have hN : CW ct AD L n I J1 P f1 := hC0
        rw [q0] at hN
        exact W.vret hx hb hret (fun t ht hW => ⟨⟨f1, rfl, hN, by rw [ht]; exact hP, va_K.moved hW.alike hK, hD⟩, hS.F ht⟩) hS.2.2 d_Sz_pressOutOfRooms_34
      · exact (ge_yes (by omega) (by omega) c_2).elim
    | succ k ih0 =>
      intro i J1 f1 H locs ls hik0 hC0 hP hD hS hl hfin0
      have hcap := hC0.cap0
      obtain ⟨g_3L, g_3E⟩ := hC0.ma
      have hi : i < n 0 := by omega
      refine lv_iload_n hx hb d_Sz_pressOutOfRooms_2 rfl (lv_at hl 0 rfl) ?_
      refine lv_aload_n hx hb d_Sz_pressOutOfRooms_3 rfl (lv_at hl 1 rfl) ?_
      refine pg_get (C := "SmokeZones") (T := T_Sz) (N := 17) hx hb hG in_Sz hown hK hP g_3L g_3E rfl 6 (by decide) (hG _ k41) (fun _ h9 => h9) rfl d_Sz_pressOutOfRooms_4 ?_
      refine lv_icmp_ge (tgt := 34) hx hb d_Sz_pressOutOfRooms_7 (by decide) (fun c_4 => ?_) (fun c_4 => ?_)
      · exact (ge_no hi (by omega) c_4).elim
      · obtain ⟨g_5L, g_5E⟩ := hC0.ro hi
        obtain ⟨g_6L, g_6E⟩ := hC0.a0
        have ne_AD_9_0_AD_0_i : AD 9 0 ≠ AD 0 i := hC0.ne (k := 9) (i := 0) (k' := 0) (i' := i) (lv9) (lv0 (by decide) hi) (by omega)
        have ne_AD_9_0_AD_8_0 : AD 9 0 ≠ AD 8 0 := hC0.ne (k := 9) (i := 0) (k' := 8) (i' := 0) (lv9) (lv8 (by decide)) (by omega)
        have ne_AD_0_i_AD_9_0 : AD 0 i ≠ AD 9 0 := hC0.ne (k := 0) (i := i) (k' := 9) (i' := 0) (lv0 (by decide) hi) (lv9) (by omega)
        have ne_AD_0_i_AD_8_0 : AD 0 i ≠ AD 8 0 := hC0.ne (k := 0) (i := i) (k' := 8) (i' := 0) (lv0 (by decide) hi) (lv8 (by decide)) (by omega)
        have ne_AD_8_0_AD_9_0 : AD 8 0 ≠ AD 9 0 := hC0.ne (k := 8) (i := 0) (k' := 9) (i' := 0) (lv8 (by decide)) (lv9) (by omega)
        have ne_AD_8_0_AD_0_i : AD 8 0 ≠ AD 0 i := hC0.ne (k := 8) (i := 0) (k' := 0) (i' := i) (lv8 (by decide)) (lv0 (by decide) hi) (by omega)
        refine lv_aload_n hx hb d_Sz_pressOutOfRooms_10 rfl (lv_at hl 1 rfl) ?_
        refine lv_dup hx hb d_Sz_pressOutOfRooms_11 rfl ?_
        refine pg_get (C := "SmokeZones") (T := T_Sz) (N := 17) hx hb hG in_Sz hown hK hP g_3L g_3E rfl 16 (by decide) (hG _ k51) (fun _ h9 => h9) rfl d_Sz_pressOutOfRooms_12 ?_
        refine lv_aload_n hx hb d_Sz_pressOutOfRooms_15 rfl (lv_at hl 1 rfl) ?_
        refine pg_get (C := "SmokeZones") (T := T_Sz) (N := 17) hx hb hG in_Sz hown hK hP g_3L g_3E rfl 0 (by decide) (hG _ k35) (fun _ h9 => h9) rfl d_Sz_pressOutOfRooms_16 ?_
        refine lv_iload_n hx hb d_Sz_pressOutOfRooms_19 rfl (lv_at hl 0 rfl) ?_
        refine pg_ald hx hb hK hP 0 g_6L g_6E rfl (vp_in_nI (by omega) (by decide)) (rf_at hi (by omega)) d_Sz_pressOutOfRooms_20 ?_
        refine kV_wl (f' := va_up f1 (AD 0 i) (.inr (0, [.int (I 0 i), .int (I 1 i), .long (J1 0 i), .long (m_psm (J1 0 i) (J1 1 i)), .long (m_pht (J1 0 i) (J1 1 i) (J1 2 i)), .int (I 2 i), .int (I 3 i), .int (I 4 i)]))) ⟨hx, hb, hml, hown, hG⟩ (c_Ro_pressOut g_5L g_5E) (cwV 0 hG (gV k514 k515 k516 k8 k517) rfl rfl rfl hd_Ro_pressOut ⟨Nat.le_of_ble_eq_true rfl, Nat.le_of_ble_eq_true rfl⟩) hK hP hD hS hA g_5L g_5E rfl rfl hl.1 rfl (Nat.le_of_ble_eq_true rfl) ⟨Nat.le_of_ble_eq_true rfl, Nat.le_of_ble_eq_true rfl⟩ d_Sz_pressOutOfRooms_21 (fun H locs hP hD hS => ?_)
        have e_7 : (va_up f1 (AD 0 i) (.inr (0, [.int (I 0 i), .int (I 1 i), .long (J1 0 i), .long (m_psm (J1 0 i) (J1 1 i)), .long (m_pht (J1 0 i) (J1 1 i) (J1 2 i)), .int (I 2 i), .int (I 3 i), .int (I 4 i)]))) (AD 0 i) = .inr (0, [.int (I 0 i), .int (I 1 i), .long (J1 0 i), .long (m_psm (J1 0 i) (J1 1 i)), .long (m_pht (J1 0 i) (J1 1 i) (J1 2 i)), .int (I 2 i), .int (I 3 i), .int (I 4 i)]) := va_up_self _ _ _
        have e_8 : (va_up f1 (AD 0 i) (.inr (0, [.int (I 0 i), .int (I 1 i), .long (J1 0 i), .long (m_psm (J1 0 i) (J1 1 i)), .long (m_pht (J1 0 i) (J1 1 i) (J1 2 i)), .int (I 2 i), .int (I 3 i), .int (I 4 i)]))) (AD 9 0) = .inr (6, [.ref (AD 8 0), .ref (AD 8 1), .ref (AD 8 2), .ref (AD 8 3), .ref (AD 8 4), .ref (AD 8 5), .int (nI (n 0)), .int (nI (n 1)), .int (nI (n 2)), .int (nI (n 3)), .int (nI (n 4)), .int (nI (n 5)), .int (I 99 0), .long (J1 99 0), .long (J1 99 1), .long (J1 99 2), .long (J1 99 3)]) := (va_up_ne _ _ ne_AD_9_0_AD_0_i).trans g_3E
        have e_9 : (va_up f1 (AD 0 i) (.inr (0, [.int (I 0 i), .int (I 1 i), .long (J1 0 i), .long (m_psm (J1 0 i) (J1 1 i)), .long (m_pht (J1 0 i) (J1 1 i) (J1 2 i)), .int (I 2 i), .int (I 3 i), .int (I 4 i)]))) (AD 8 0) = .inl (ct 0, 10, .inr (.inr (.inr (.inr (fun j => if j < n 0 then some (AD 0 j) else none))))) := (va_up_ne _ _ ne_AD_8_0_AD_0_i).trans g_6E
        refine lv_ladd hx hb d_Sz_pressOutOfRooms_24 ?_
        refine pg_put (C := "SmokeZones") (T := T_Sz) (N := 17) (ty := .long) hx hb hG in_Sz ty_Sz ok_Sz nm_Sz hown hK hP hD hS g_3L e_8 rfl 16 (by decide) (hG _ k51) (fun _ h9 => h9) rfl (by decide +kernel) rfl rfl (Nat.le_of_ble_eq_true rfl) d_Sz_pressOutOfRooms_25 (fun H locs hP hD hS => ?_)
        have hP : va_P D vwCl (va_pl (L) (va_up (va_up f1 (AD 0 i) (.inr (0, [.int (I 0 i), .int (I 1 i), .long (J1 0 i), .long (m_psm (J1 0 i) (J1 1 i)), .long (m_pht (J1 0 i) (J1 1 i) (J1 2 i)), .int (I 2 i), .int (I 3 i), .int (I 4 i)]))) (AD 9 0) (.inr (6, [.ref (AD 8 0), .ref (AD 8 1), .ref (AD 8 2), .ref (AD 8 3), .ref (AD 8 4), .ref (AD 8 5), .int (nI (n 0)), .int (nI (n 1)), .int (nI (n 2)), .int (nI (n 3)), .int (nI (n 4)), .int (nI (n 5)), .int (I 99 0), .long (J1 99 0), .long (J1 99 1), .long (J1 99 2), .long ((J1 99 3) + (m_pout (J1 0 i) (J1 1 i)))])))) H := hP
        have hD : va_D A (va_pl (L) (va_up (va_up f1 (AD 0 i) (.inr (0, [.int (I 0 i), .int (I 1 i), .long (J1 0 i), .long (m_psm (J1 0 i) (J1 1 i)), .long (m_pht (J1 0 i) (J1 1 i) (J1 2 i)), .int (I 2 i), .int (I 3 i), .int (I 4 i)]))) (AD 9 0) (.inr (6, [.ref (AD 8 0), .ref (AD 8 1), .ref (AD 8 2), .ref (AD 8 3), .ref (AD 8 4), .ref (AD 8 5), .int (nI (n 0)), .int (nI (n 1)), .int (nI (n 2)), .int (nI (n 3)), .int (nI (n 4)), .int (nI (n 5)), .int (I 99 0), .long (J1 99 0), .long (J1 99 1), .long (J1 99 2), .long ((J1 99 3) + (m_pout (J1 0 i) (J1 1 i)))])))) := hD
        have e_10 : (va_up (va_up f1 (AD 0 i) (.inr (0, [.int (I 0 i), .int (I 1 i), .long (J1 0 i), .long (m_psm (J1 0 i) (J1 1 i)), .long (m_pht (J1 0 i) (J1 1 i) (J1 2 i)), .int (I 2 i), .int (I 3 i), .int (I 4 i)]))) (AD 9 0) (.inr (6, [.ref (AD 8 0), .ref (AD 8 1), .ref (AD 8 2), .ref (AD 8 3), .ref (AD 8 4), .ref (AD 8 5), .int (nI (n 0)), .int (nI (n 1)), .int (nI (n 2)), .int (nI (n 3)), .int (nI (n 4)), .int (nI (n 5)), .int (I 99 0), .long (J1 99 0), .long (J1 99 1), .long (J1 99 2), .long ((J1 99 3) + (m_pout (J1 0 i) (J1 1 i)))]))) (AD 9 0) = .inr (6, [.ref (AD 8 0), .ref (AD 8 1), .ref (AD 8 2), .ref (AD 8 3), .ref (AD 8 4), .ref (AD 8 5), .int (nI (n 0)), .int (nI (n 1)), .int (nI (n 2)), .int (nI (n 3)), .int (nI (n 4)), .int (nI (n 5)), .int (I 99 0), .long (J1 99 0), .long (J1 99 1), .long (J1 99 2), .long ((J1 99 3) + (m_pout (J1 0 i) (J1 1 i)))]) := va_up_self _ _ _
        have e_11 : (va_up (va_up f1 (AD 0 i) (.inr (0, [.int (I 0 i), .int (I 1 i), .long (J1 0 i), .long (m_psm (J1 0 i) (J1 1 i)), .long (m_pht (J1 0 i) (J1 1 i) (J1 2 i)), .int (I 2 i), .int (I 3 i), .int (I 4 i)]))) (AD 9 0) (.inr (6, [.ref (AD 8 0), .ref (AD 8 1), .ref (AD 8 2), .ref (AD 8 3), .ref (AD 8 4), .ref (AD 8 5), .int (nI (n 0)), .int (nI (n 1)), .int (nI (n 2)), .int (nI (n 3)), .int (nI (n 4)), .int (nI (n 5)), .int (I 99 0), .long (J1 99 0), .long (J1 99 1), .long (J1 99 2), .long ((J1 99 3) + (m_pout (J1 0 i) (J1 1 i)))]))) (AD 0 i) = .inr (0, [.int (I 0 i), .int (I 1 i), .long (J1 0 i), .long (m_psm (J1 0 i) (J1 1 i)), .long (m_pht (J1 0 i) (J1 1 i) (J1 2 i)), .int (I 2 i), .int (I 3 i), .int (I 4 i)]) := (va_up_ne _ _ ne_AD_0_i_AD_9_0).trans e_7
        have e_12 : (va_up (va_up f1 (AD 0 i) (.inr (0, [.int (I 0 i), .int (I 1 i), .long (J1 0 i), .long (m_psm (J1 0 i) (J1 1 i)), .long (m_pht (J1 0 i) (J1 1 i) (J1 2 i)), .int (I 2 i), .int (I 3 i), .int (I 4 i)]))) (AD 9 0) (.inr (6, [.ref (AD 8 0), .ref (AD 8 1), .ref (AD 8 2), .ref (AD 8 3), .ref (AD 8 4), .ref (AD 8 5), .int (nI (n 0)), .int (nI (n 1)), .int (nI (n 2)), .int (nI (n 3)), .int (nI (n 4)), .int (nI (n 5)), .int (I 99 0), .long (J1 99 0), .long (J1 99 1), .long (J1 99 2), .long ((J1 99 3) + (m_pout (J1 0 i) (J1 1 i)))]))) (AD 8 0) = .inl (ct 0, 10, .inr (.inr (.inr (.inr (fun j => if j < n 0 then some (AD 0 j) else none))))) := (va_up_ne _ _ ne_AD_8_0_AD_9_0).trans e_9
        refine lv_iinc (v := nI (i + 1)) (lv' := [(1, .int (nI (i + 1))), (0, .ref (AD 9 0))]) hx hb d_Sz_pressOutOfRooms_28 hl (k := 0) rfl (nI_1 i) (by decide) rfl (fun ls hl => ?_)
        refine lv_goto (tgt := 2) hx hb d_Sz_pressOutOfRooms_31 (by decide) ?_
        have hN0 : CW ct AD L n I (sRo J1 i (m_psm (J1 0 i) (J1 1 i)) (m_pht (J1 0 i) (J1 1 i) (J1 2 i))) P _ := hC0.set (k := 0) (i := i) (lv0 (by decide) hi) (co_ro (fun _ _ _ => rfl) sRo_hJ) hC0.2.2
        have hN1 : CW ct AD L n I (pS i J1) P _ := hN0.set (k := 9) (i := 0) (lv9) (co_ma (fun _ _ _ => rfl) t99_hJ) hC0.2.2
        have hN : CW ct AD L n I (pS i J1) P (va_up (va_up f1 (AD 0 i) (.inr (0, [.int (I 0 i), .int (I 1 i), .long (J1 0 i), .long (m_psm (J1 0 i) (J1 1 i)), .long (m_pht (J1 0 i) (J1 1 i) (J1 2 i)), .int (I 2 i), .int (I 3 i), .int (I 4 i)]))) (AD 9 0) (.inr (6, [.ref (AD 8 0), .ref (AD 8 1), .ref (AD 8 2), .ref (AD 8 3), .ref (AD 8 4), .ref (AD 8 5), .int (nI (n 0)), .int (nI (n 1)), .int (nI (n 2)), .int (nI (n 3)), .int (nI (n 4)), .int (nI (n 5)), .int (I 99 0), .long (J1 99 0), .long (J1 99 1), .long (J1 99 2), .long ((J1 99 3) + (m_pout (J1 0 i) (J1 1 i)))]))) := by
          refine cast (congrArg (CW ct AD L n I (pS i J1) P) ?_) hN1
          simp [cellOf, roomE, mainE, openE, steelE, farV, up2, sRo, pS]
        exact ih0 (i + 1) _ _ _ _ _ (by omega) hN hP hD hS (lv_sub hl [0, 1] rfl) hfin0
  exact lp0 (n 0) 0 J f _ _ _ (by omega) hCW hP hD hS (lv_sub hl [0, 1] rfl) rfl

set_option maxHeartbeats 4000000 in
set_option maxRecDepth 100000 in
theorem c_Sz_noteLowRooms {l : Launch} {D : va_G} {ct : Nat → ClassId} {AD : Nat → Nat → Nat} {L : List Nat} {f : Nat → va_E} {sz : Nat} {n : Nat → Nat} {I : Nat → Nat → Int32} {J : Nat → Nat → Int64} {P : Nat → Nat → Nat} (hCW : CW ct AD L n I J P f) : Met l y_Sz_noteLowRooms (WS y_Sz_noteLowRooms b_Sz_noteLowRooms 2 none) { frames := 4, cells := 0, slots := 0, locals := 81 } (va_Pc [.ref (AD 9 0)] (WP D (TYS ct) L f sz)) (Xs D (TYS ct) L (AA L f sz) (fun f' => CW ct AD L n (nL J (n 0) 0 I) J P f')) 0 0 (AA L f sz) := by
  refine Met.ofW (cc := b_Sz_noteLowRooms) (maxL := 2) (ret := none) (by decide) rfl ?_
  intro p e s m args below meth c s₁ B hml hv
  obtain ⟨rfl, hsz, hP, hK, hD0⟩ := hv
  subst hsz
  have hx := B.exec
  have hb := B.bytes
  have hret := B.returns
  have hts := atoms_spec (ws := WS y_Sz_noteLowRooms b_Sz_noteLowRooms 2 none) B.pre
  have hG : ∀ w ∈ GW, w.before _ s = true := fun w h => hts w (List.mem_cons_of_mem _ h)
  have hown : s.vm.findClass "SmokeZones" = some m.cls := findClass_of_methodNamed B.named
  have hlocks := B.notSynchronized
  have hD : va_D (AA L f s.heap.size) (va_pl L f) := hD0.self (sz := s.heap.size)
  generalize hAe : AA L f s.heap.size = A at hD ⊢
  have hA : ∀ q : Nat, s.heap.size ≤ q → A q := fun q h => by rw [← hAe]; exact Or.inr h
  have hS : va_S A s.heap s.heap [] := va_S.rf
  have hl := lv_entry ([.ref (AD 9 0)]) (n := 2) (Nat.le_of_ble_eq_true rfl)
  rw [lg_entry_eq]
  generalize (lg_sl ([.ref (AD 9 0)]) ++ List.replicate (2 - (lg_sl ([.ref (AD 9 0)])).length) Slot.unset).toArray = ls at hl ⊢
  have hl : lv_has ls 2 [(0, .ref (AD 9 0))] := hl
  refine lv_iconst (v := 0) hx hb d_Sz_noteLowRooms_0 (by decide) ?_
  refine lv_istore_n (lv' := [(1, .int 0), (0, .ref (AD 9 0))]) hx hb d_Sz_noteLowRooms_1 rfl hl (by decide) rfl (fun ls hl => ?_)
  have lp0 : ∀ (k i : Nat) (I1 : Nat → Nat → Int32) (f1 : Nat → va_E) (H : Heap) (locs : List Loc) (ls : Array Slot), i + k = n 0 → CW ct AD L n I1 J P f1 → va_P D vwCl (va_pl L f1) H → va_D A (va_pl L f1) → va_S A s.heap H locs → lv_has ls 2 [(1, .int (nI i)), (0, .ref (AD 9 0))] → nL J k i I1 = nL J (n 0) 0 I → W p l e (headSpec (WS y_Sz_noteLowRooms b_Sz_noteLowRooms 2 none) { frames := 4, cells := 0, slots := 0, locals := 81 }).room s m [.ref (AD 9 0)].toArray below meth c H locs 0 0 (MQ below (Xs D (TYS ct) L A (fun f' => CW ct AD L n (nL J (n 0) 0 I) J P f')) [.ref (AD 9 0)].toArray s 0 0 A) (F0 m 2 ls []) := by
    intro k
    induction k with
    | zero =>
      intro i I1 f1 H locs ls hik0 hC0 hP hD hS hl hfin0
      have hcap := hC0.cap0
      obtain ⟨g_1L, g_1E⟩ := hC0.ma
      refine lv_iload_n hx hb d_Sz_noteLowRooms_2 rfl (lv_at hl 0 rfl) ?_
      refine lv_aload_n hx hb d_Sz_noteLowRooms_3 rfl (lv_at hl 1 rfl) ?_
      refine pg_get (C := "SmokeZones") (T := T_Sz) (N := 17) hx hb hG in_Sz hown hK hP g_1L g_1E rfl 6 (by decide) (hG _ k41) (fun _ h9 => h9) rfl d_Sz_noteLowRooms_4 ?_
      refine lv_icmp_ge (tgt := 29) hx hb d_Sz_noteLowRooms_7 (by decide) (fun c_2 => ?_) (fun c_2 => ?_)
      · have q0 : I1 = nL J (n 0) 0 I := hfin0
        have hN : CW ct AD L n I1 J P f1 := hC0
        rw [q0] at hN
        exact W.vret hx hb hret (fun t ht hW => ⟨⟨f1, rfl, hN, by rw [ht]; exact hP, va_K.moved hW.alike hK, hD⟩, hS.F ht⟩) hS.2.2 d_Sz_noteLowRooms_29
      · exact (ge_yes (by omega) (by omega) c_2).elim
    | succ k ih0 =>
      intro i I1 f1 H locs ls hik0 hC0 hP hD hS hl hfin0
      have hcap := hC0.cap0
      obtain ⟨g_3L, g_3E⟩ := hC0.ma
      have hi : i < n 0 := by omega
      refine lv_iload_n hx hb d_Sz_noteLowRooms_2 rfl (lv_at hl 0 rfl) ?_
      refine lv_aload_n hx hb d_Sz_noteLowRooms_3 rfl (lv_at hl 1 rfl) ?_
      refine pg_get (C := "SmokeZones") (T := T_Sz) (N := 17) hx hb hG in_Sz hown hK hP g_3L g_3E rfl 6 (by decide) (hG _ k41) (fun _ h9 => h9) rfl d_Sz_noteLowRooms_4 ?_
      refine lv_icmp_ge (tgt := 29) hx hb d_Sz_noteLowRooms_7 (by decide) (fun c_4 => ?_) (fun c_4 => ?_)
      · exact (ge_no hi (by omega) c_4).elim
      · obtain ⟨g_5L, g_5E⟩ := hC0.ro hi
        obtain ⟨g_6L, g_6E⟩ := hC0.a0
        have ne_AD_9_0_AD_0_i : AD 9 0 ≠ AD 0 i := hC0.ne (k := 9) (i := 0) (k' := 0) (i' := i) (lv9) (lv0 (by decide) hi) (by omega)
        have ne_AD_9_0_AD_8_0 : AD 9 0 ≠ AD 8 0 := hC0.ne (k := 9) (i := 0) (k' := 8) (i' := 0) (lv9) (lv8 (by decide)) (by omega)
        have ne_AD_0_i_AD_9_0 : AD 0 i ≠ AD 9 0 := hC0.ne (k := 0) (i := i) (k' := 9) (i' := 0) (lv0 (by decide) hi) (lv9) (by omega)
        have ne_AD_0_i_AD_8_0 : AD 0 i ≠ AD 8 0 := hC0.ne (k := 0) (i := i) (k' := 8) (i' := 0) (lv0 (by decide) hi) (lv8 (by decide)) (by omega)
        have ne_AD_8_0_AD_9_0 : AD 8 0 ≠ AD 9 0 := hC0.ne (k := 8) (i := 0) (k' := 9) (i' := 0) (lv8 (by decide)) (lv9) (by omega)
        have ne_AD_8_0_AD_0_i : AD 8 0 ≠ AD 0 i := hC0.ne (k := 8) (i := 0) (k' := 0) (i' := i) (lv8 (by decide)) (lv0 (by decide) hi) (by omega)
        refine lv_aload_n hx hb d_Sz_noteLowRooms_10 rfl (lv_at hl 1 rfl) ?_
        refine pg_get (C := "SmokeZones") (T := T_Sz) (N := 17) hx hb hG in_Sz hown hK hP g_3L g_3E rfl 0 (by decide) (hG _ k35) (fun _ h9 => h9) rfl d_Sz_noteLowRooms_11 ?_
        refine lv_iload_n hx hb d_Sz_noteLowRooms_14 rfl (lv_at hl 0 rfl) ?_
        refine pg_ald hx hb hK hP 0 g_6L g_6E rfl (vp_in_nI (by omega) (by decide)) (rf_at hi (by omega)) d_Sz_noteLowRooms_15 ?_
        refine lv_aload_n hx hb d_Sz_noteLowRooms_16 rfl (lv_at hl 1 rfl) ?_
        refine pg_get (C := "SmokeZones") (T := T_Sz) (N := 17) hx hb hG in_Sz hown hK hP g_3L g_3E rfl 12 (by decide) (hG _ k47) (fun _ h9 => h9) rfl d_Sz_noteLowRooms_17 ?_
        refine kV_wv (f' := va_up f1 (AD 0 i) (.inr (0, [.int (I1 0 i), .int (I1 1 i), .long (J 0 i), .long (J 1 i), .long (J 2 i), .int (I1 2 i), .int (I1 3 i), .int (m_fl (I1 0 i) (I1 1 i) (J 1 i) (I1 4 i) (I1 99 0))]))) ⟨hx, hb, hml, hown, hG⟩ (c_Ro_noteIfLow g_5L g_5E) (cwV 1 hG (gV k567 k568 k569 k8 k570) rfl rfl rfl hd_Ro_noteIfLow ⟨Nat.le_of_ble_eq_true rfl, Nat.le_of_ble_eq_true rfl⟩) hK hP hD hS hA g_5L g_5E rfl rfl hl.1 rfl (Nat.le_of_ble_eq_true rfl) ⟨Nat.le_of_ble_eq_true rfl, Nat.le_of_ble_eq_true rfl⟩ d_Sz_noteLowRooms_20 (fun H locs hP hD hS => ?_)
        have e_7 : (va_up f1 (AD 0 i) (.inr (0, [.int (I1 0 i), .int (I1 1 i), .long (J 0 i), .long (J 1 i), .long (J 2 i), .int (I1 2 i), .int (I1 3 i), .int (m_fl (I1 0 i) (I1 1 i) (J 1 i) (I1 4 i) (I1 99 0))]))) (AD 0 i) = .inr (0, [.int (I1 0 i), .int (I1 1 i), .long (J 0 i), .long (J 1 i), .long (J 2 i), .int (I1 2 i), .int (I1 3 i), .int (m_fl (I1 0 i) (I1 1 i) (J 1 i) (I1 4 i) (I1 99 0))]) := va_up_self _ _ _
        have e_8 : (va_up f1 (AD 0 i) (.inr (0, [.int (I1 0 i), .int (I1 1 i), .long (J 0 i), .long (J 1 i), .long (J 2 i), .int (I1 2 i), .int (I1 3 i), .int (m_fl (I1 0 i) (I1 1 i) (J 1 i) (I1 4 i) (I1 99 0))]))) (AD 9 0) = .inr (6, [.ref (AD 8 0), .ref (AD 8 1), .ref (AD 8 2), .ref (AD 8 3), .ref (AD 8 4), .ref (AD 8 5), .int (nI (n 0)), .int (nI (n 1)), .int (nI (n 2)), .int (nI (n 3)), .int (nI (n 4)), .int (nI (n 5)), .int (I1 99 0), .long (J 99 0), .long (J 99 1), .long (J 99 2), .long (J 99 3)]) := (va_up_ne _ _ ne_AD_9_0_AD_0_i).trans g_3E
        have e_9 : (va_up f1 (AD 0 i) (.inr (0, [.int (I1 0 i), .int (I1 1 i), .long (J 0 i), .long (J 1 i), .long (J 2 i), .int (I1 2 i), .int (I1 3 i), .int (m_fl (I1 0 i) (I1 1 i) (J 1 i) (I1 4 i) (I1 99 0))]))) (AD 8 0) = .inl (ct 0, 10, .inr (.inr (.inr (.inr (fun j => if j < n 0 then some (AD 0 j) else none))))) := (va_up_ne _ _ ne_AD_8_0_AD_0_i).trans g_6E
        refine lv_iinc (v := nI (i + 1)) (lv' := [(1, .int (nI (i + 1))), (0, .ref (AD 9 0))]) hx hb d_Sz_noteLowRooms_23 hl (k := 0) rfl (nI_1 i) (by decide) rfl (fun ls hl => ?_)
        refine lv_goto (tgt := 2) hx hb d_Sz_noteLowRooms_26 (by decide) ?_
        have hN0 : CW ct AD L n (nS J i I1) J P _ := hC0.set (k := 0) (i := i) (lv0 (by decide) hi) (co_ro (fun a i h => up_hO a i (by omega)) (fun _ _ _ => rfl)) hC0.2.2
        have hN : CW ct AD L n (nS J i I1) J P (va_up f1 (AD 0 i) (.inr (0, [.int (I1 0 i), .int (I1 1 i), .long (J 0 i), .long (J 1 i), .long (J 2 i), .int (I1 2 i), .int (I1 3 i), .int (m_fl (I1 0 i) (I1 1 i) (J 1 i) (I1 4 i) (I1 99 0))]))) := by
          refine cast (congrArg (CW ct AD L n (nS J i I1) J P) ?_) hN0
          simp [cellOf, roomE, mainE, openE, steelE, farV, up2, nS]
        exact ih0 (i + 1) _ _ _ _ _ (by omega) hN hP hD hS (lv_sub hl [0, 1] rfl) hfin0
  exact lp0 (n 0) 0 I f _ _ _ (by omega) hCW hP hD hS (lv_sub hl [0, 1] rfl) rfl

set_option maxHeartbeats 4000000 in
set_option maxRecDepth 100000 in
theorem c_Sz_flowThroughOpenings {l : Launch} {D : va_G} {ct : Nat → ClassId} {AD : Nat → Nat → Nat} {L : List Nat} {f : Nat → va_E} {sz : Nat} {n : Nat → Nat} {I : Nat → Nat → Int32} {J : Nat → Nat → Int64} {P : Nat → Nat → Nat} (hCW : CW ct AD L n I J P f) : Met l y_Sz_flowThroughOpenings (WS y_Sz_flowThroughOpenings b_Sz_flowThroughOpenings 2 none) { frames := 4, cells := 0, slots := 0, locals := 88 } (va_Pc [.ref (AD 9 0)] (WP D (TYS ct) L f sz)) (Xs D (TYS ct) L (AA L f sz) (fun f' => CW ct AD L n I (vL P (n 1) 0 (mL I P (n 1) 0 J)) P f')) 0 0 (AA L f sz) := by
  refine Met.ofW (cc := b_Sz_flowThroughOpenings) (maxL := 2) (ret := none) (by decide) rfl ?_
  intro p e s m args below meth c s₁ B hml hv
  obtain ⟨rfl, hsz, hP, hK, hD0⟩ := hv
  subst hsz
  have hx := B.exec
  have hb := B.bytes
  have hret := B.returns
  have hts := atoms_spec (ws := WS y_Sz_flowThroughOpenings b_Sz_flowThroughOpenings 2 none) B.pre
  have hG : ∀ w ∈ GW, w.before _ s = true := fun w h => hts w (List.mem_cons_of_mem _ h)
  have hown : s.vm.findClass "SmokeZones" = some m.cls := findClass_of_methodNamed B.named
  have hlocks := B.notSynchronized
  have hD : va_D (AA L f s.heap.size) (va_pl L f) := hD0.self (sz := s.heap.size)
  generalize hAe : AA L f s.heap.size = A at hD ⊢
  have hA : ∀ q : Nat, s.heap.size ≤ q → A q := fun q h => by rw [← hAe]; exact Or.inr h
  have hS : va_S A s.heap s.heap [] := va_S.rf
  have hl := lv_entry ([.ref (AD 9 0)]) (n := 2) (Nat.le_of_ble_eq_true rfl)
  rw [lg_entry_eq]
  generalize (lg_sl ([.ref (AD 9 0)]) ++ List.replicate (2 - (lg_sl ([.ref (AD 9 0)])).length) Slot.unset).toArray = ls at hl ⊢
  have hl : lv_has ls 2 [(0, .ref (AD 9 0))] := hl
  refine lv_iconst (v := 0) hx hb d_Sz_flowThroughOpenings_0 (by decide) ?_
  refine lv_istore_n (lv' := [(1, .int 0), (0, .ref (AD 9 0))]) hx hb d_Sz_flowThroughOpenings_1 rfl hl (by decide) rfl (fun ls hl => ?_)
  have lp0 : ∀ (k i : Nat) (J1 : Nat → Nat → Int64) (f1 : Nat → va_E) (H : Heap) (locs : List Loc) (ls : Array Slot), i + k = n 1 → CW ct AD L n I J1 P f1 → va_P D vwCl (va_pl L f1) H → va_D A (va_pl L f1) → va_S A s.heap H locs → lv_has ls 2 [(1, .int (nI i)), (0, .ref (AD 9 0))] → mL I P k i J1 = mL I P (n 1) 0 J → W p l e (headSpec (WS y_Sz_flowThroughOpenings b_Sz_flowThroughOpenings 2 none) { frames := 4, cells := 0, slots := 0, locals := 88 }).room s m [.ref (AD 9 0)].toArray below meth c H locs 0 0 (MQ below (Xs D (TYS ct) L A (fun f' => CW ct AD L n I (vL P (n 1) 0 (mL I P (n 1) 0 J)) P f')) [.ref (AD 9 0)].toArray s 0 0 A) (F0 m 2 ls []) := by
    intro k
    induction k with
    | zero =>
      intro i J1 f1 H locs ls hik0 hC0 hP hD hS hl hfin0
      have hcap := hC0.cap1
      obtain ⟨g_1L, g_1E⟩ := hC0.ma
      refine lv_iload_n hx hb d_Sz_flowThroughOpenings_2 rfl (lv_at hl 0 rfl) ?_
      refine lv_aload_n hx hb d_Sz_flowThroughOpenings_3 rfl (lv_at hl 1 rfl) ?_
      refine pg_get (C := "SmokeZones") (T := T_Sz) (N := 17) hx hb hG in_Sz hown hK hP g_1L g_1E rfl 7 (by decide) (hG _ k42) (fun _ h9 => h9) rfl d_Sz_flowThroughOpenings_4 ?_
      refine lv_icmp_ge (tgt := 25) hx hb d_Sz_flowThroughOpenings_7 (by decide) (fun c_2 => ?_) (fun c_2 => ?_)
      · refine lv_iconst (v := 0) hx hb d_Sz_flowThroughOpenings_25 (by decide) ?_
        refine lv_istore_n (lv' := [(1, .int 0), (0, .ref (AD 9 0))]) hx hb d_Sz_flowThroughOpenings_26 rfl hl (by decide) rfl (fun ls hl => ?_)
        have lp1 : ∀ (k i : Nat) (J2 : Nat → Nat → Int64) (f2 : Nat → va_E) (H : Heap) (locs : List Loc) (ls : Array Slot), i + k = n 1 → CW ct AD L n I J2 P f2 → va_P D vwCl (va_pl L f2) H → va_D A (va_pl L f2) → va_S A s.heap H locs → lv_has ls 2 [(1, .int (nI i)), (0, .ref (AD 9 0))] → vL P k i J2 = vL P (n 1) 0 J1 → W p l e (headSpec (WS y_Sz_flowThroughOpenings b_Sz_flowThroughOpenings 2 none) { frames := 4, cells := 0, slots := 0, locals := 88 }).room s m [.ref (AD 9 0)].toArray below meth c H locs 0 0 (MQ below (Xs D (TYS ct) L A (fun f' => CW ct AD L n I (vL P (n 1) 0 (mL I P (n 1) 0 J)) P f')) [.ref (AD 9 0)].toArray s 0 0 A) (F0 m 27 ls []) := by
          intro k
          induction k with
          | zero =>
            intro i J2 f2 H locs ls hik1 hC1 hP hD hS hl hfin1
            have hcap := hC1.cap1
            obtain ⟨g_3L, g_3E⟩ := hC1.ma
            refine lv_iload_n hx hb d_Sz_flowThroughOpenings_27 rfl (lv_at hl 0 rfl) ?_
            refine lv_aload_n hx hb d_Sz_flowThroughOpenings_28 rfl (lv_at hl 1 rfl) ?_
            refine pg_get (C := "SmokeZones") (T := T_Sz) (N := 17) hx hb hG in_Sz hown hK hP g_3L g_3E rfl 7 (by decide) (hG _ k42) (fun _ h9 => h9) rfl d_Sz_flowThroughOpenings_29 ?_
            refine lv_icmp_ge (tgt := 59) hx hb d_Sz_flowThroughOpenings_32 (by decide) (fun c_4 => ?_) (fun c_4 => ?_)
            · have q0 : J1 = mL I P (n 1) 0 J := hfin0
              have q1 : J2 = vL P (n 1) 0 J1 := hfin1
              have hN : CW ct AD L n I J2 P f2 := hC1
              rw [q1, q0] at hN
              exact W.vret hx hb hret (fun t ht hW => ⟨⟨f2, rfl, hN, by rw [ht]; exact hP, va_K.moved hW.alike hK, hD⟩, hS.F ht⟩) hS.2.2 d_Sz_flowThroughOpenings_59
            · exact (ge_yes (by omega) (by omega) c_4).elim
          | succ k ih1 =>
            intro i J2 f2 H locs ls hik1 hC1 hP hD hS hl hfin1
            have hcap := hC1.cap1
            obtain ⟨g_5L, g_5E⟩ := hC1.ma
            have hi : i < n 1 := by omega
            refine lv_iload_n hx hb d_Sz_flowThroughOpenings_27 rfl (lv_at hl 0 rfl) ?_
            refine lv_aload_n hx hb d_Sz_flowThroughOpenings_28 rfl (lv_at hl 1 rfl) ?_
            refine pg_get (C := "SmokeZones") (T := T_Sz) (N := 17) hx hb hG in_Sz hown hK hP g_5L g_5E rfl 7 (by decide) (hG _ k42) (fun _ h9 => h9) rfl d_Sz_flowThroughOpenings_29 ?_
            refine lv_icmp_ge (tgt := 59) hx hb d_Sz_flowThroughOpenings_32 (by decide) (fun c_6 => ?_) (fun c_6 => ?_)
            · exact (ge_no hi (by omega) c_6).elim
            · obtain ⟨hr, hg2, hgr⟩ := hC1.2.2.2.1 i hi
              have hc0 := hC1.cap0
              obtain ⟨g_7L, g_7E0⟩ := hC1.op hi
              rcases hp2 : P 2 i with _ | g
              · have g_7E : f2 (AD 1 i) = .inr (1, [.ref (AD 0 (P 1 i)), .null, .int (I 12 i), .int (I 13 i), .int (I 14 i), .int (I 15 i), .int (I 16 i), .long (J2 10 i), .long (J2 11 i), .long (J2 12 i)]) := by rw [g_7E0, hp2]; rfl
                obtain ⟨g_8L, g_8E⟩ := hC1.ro hr
                obtain ⟨g_9L, g_9E⟩ := hC1.a1
                have ne_AD_9_0_AD_1_i : AD 9 0 ≠ AD 1 i := hC1.ne (k := 9) (i := 0) (k' := 1) (i' := i) (lv9) (lv0 (by decide) hi) (by omega)
                have ne_AD_9_0_AD_0_P_1_i : AD 9 0 ≠ AD 0 (P 1 i) := hC1.ne (k := 9) (i := 0) (k' := 0) (i' := (P 1 i)) (lv9) (lv0 (by decide) hr) (by omega)
                have ne_AD_9_0_AD_8_1 : AD 9 0 ≠ AD 8 1 := hC1.ne (k := 9) (i := 0) (k' := 8) (i' := 1) (lv9) (lv8 (by decide)) (by omega)
                have ne_AD_1_i_AD_9_0 : AD 1 i ≠ AD 9 0 := hC1.ne (k := 1) (i := i) (k' := 9) (i' := 0) (lv0 (by decide) hi) (lv9) (by omega)
                have ne_AD_1_i_AD_0_P_1_i : AD 1 i ≠ AD 0 (P 1 i) := hC1.ne (k := 1) (i := i) (k' := 0) (i' := (P 1 i)) (lv0 (by decide) hi) (lv0 (by decide) hr) (by omega)
                have ne_AD_1_i_AD_8_1 : AD 1 i ≠ AD 8 1 := hC1.ne (k := 1) (i := i) (k' := 8) (i' := 1) (lv0 (by decide) hi) (lv8 (by decide)) (by omega)
                have ne_AD_0_P_1_i_AD_9_0 : AD 0 (P 1 i) ≠ AD 9 0 := hC1.ne (k := 0) (i := (P 1 i)) (k' := 9) (i' := 0) (lv0 (by decide) hr) (lv9) (by omega)
                have ne_AD_0_P_1_i_AD_1_i : AD 0 (P 1 i) ≠ AD 1 i := hC1.ne (k := 0) (i := (P 1 i)) (k' := 1) (i' := i) (lv0 (by decide) hr) (lv0 (by decide) hi) (by omega)
                have ne_AD_0_P_1_i_AD_8_1 : AD 0 (P 1 i) ≠ AD 8 1 := hC1.ne (k := 0) (i := (P 1 i)) (k' := 8) (i' := 1) (lv0 (by decide) hr) (lv8 (by decide)) (by omega)
                have ne_AD_8_1_AD_9_0 : AD 8 1 ≠ AD 9 0 := hC1.ne (k := 8) (i := 1) (k' := 9) (i' := 0) (lv8 (by decide)) (lv9) (by omega)
                have ne_AD_8_1_AD_1_i : AD 8 1 ≠ AD 1 i := hC1.ne (k := 8) (i := 1) (k' := 1) (i' := i) (lv8 (by decide)) (lv0 (by decide) hi) (by omega)
                have ne_AD_8_1_AD_0_P_1_i : AD 8 1 ≠ AD 0 (P 1 i) := hC1.ne (k := 8) (i := 1) (k' := 0) (i' := (P 1 i)) (lv8 (by decide)) (lv0 (by decide) hr) (by omega)
                refine lv_aload_n hx hb d_Sz_flowThroughOpenings_35 rfl (lv_at hl 1 rfl) ?_
                refine lv_dup hx hb d_Sz_flowThroughOpenings_36 rfl ?_
                refine pg_get (C := "SmokeZones") (T := T_Sz) (N := 17) hx hb hG in_Sz hown hK hP g_5L g_5E rfl 14 (by decide) (hG _ k49) (fun _ h9 => h9) rfl d_Sz_flowThroughOpenings_37 ?_
                refine lv_aload_n hx hb d_Sz_flowThroughOpenings_40 rfl (lv_at hl 1 rfl) ?_
                refine pg_get (C := "SmokeZones") (T := T_Sz) (N := 17) hx hb hG in_Sz hown hK hP g_5L g_5E rfl 1 (by decide) (hG _ k36) (fun _ h9 => h9) rfl d_Sz_flowThroughOpenings_41 ?_
                refine lv_iload_n hx hb d_Sz_flowThroughOpenings_44 rfl (lv_at hl 0 rfl) ?_
                refine pg_ald hx hb hK hP 1 g_9L g_9E rfl (vp_in_nI (by omega) (by decide)) (rf_at hi (by omega)) d_Sz_flowThroughOpenings_45 ?_
                refine kV_wl (f' := va_up (va_up f2 (AD 1 i) (.inr (1, [.ref (AD 0 (P 1 i)), .null, .int (I 12 i), .int (I 13 i), .int (I 14 i), .int (I 15 i), .int (I 16 i), .long (J2 10 i), .long (J2 11 i), .long ((J2 12 i) + m_abs (J2 10 i))]))) (AD 0 (P 1 i)) (.inr (0, [.int (I 0 (P 1 i)), .int (I 1 (P 1 i)), .long (J2 0 (P 1 i)), .long ((J2 1 (P 1 i)) + -(J2 10 i)), .long ((J2 2 (P 1 i)) + m_nh (J2 10 i) (J2 11 i)), .int (I 2 (P 1 i)), .int (I 3 (P 1 i)), .int (I 4 (P 1 i))]))) ⟨hx, hb, hml, hown, hG⟩ (c_Op_moveFlow_n g_7L g_7E g_8L g_8E) (cwV 0 hG (gV k491 k492 k493 k9 k494) rfl rfl rfl hd_Op_moveFlow ⟨Nat.le_of_ble_eq_true rfl, Nat.le_of_ble_eq_true rfl⟩) hK hP hD hS hA g_7L g_7E rfl rfl hl.1 rfl (Nat.le_of_ble_eq_true rfl) ⟨Nat.le_of_ble_eq_true rfl, Nat.le_of_ble_eq_true rfl⟩ d_Sz_flowThroughOpenings_46 (fun H locs hP hD hS => ?_)
                have e_10 : (va_up f2 (AD 1 i) (.inr (1, [.ref (AD 0 (P 1 i)), .null, .int (I 12 i), .int (I 13 i), .int (I 14 i), .int (I 15 i), .int (I 16 i), .long (J2 10 i), .long (J2 11 i), .long ((J2 12 i) + m_abs (J2 10 i))]))) (AD 1 i) = .inr (1, [.ref (AD 0 (P 1 i)), .null, .int (I 12 i), .int (I 13 i), .int (I 14 i), .int (I 15 i), .int (I 16 i), .long (J2 10 i), .long (J2 11 i), .long ((J2 12 i) + m_abs (J2 10 i))]) := va_up_self _ _ _
                have e_11 : (va_up f2 (AD 1 i) (.inr (1, [.ref (AD 0 (P 1 i)), .null, .int (I 12 i), .int (I 13 i), .int (I 14 i), .int (I 15 i), .int (I 16 i), .long (J2 10 i), .long (J2 11 i), .long ((J2 12 i) + m_abs (J2 10 i))]))) (AD 9 0) = .inr (6, [.ref (AD 8 0), .ref (AD 8 1), .ref (AD 8 2), .ref (AD 8 3), .ref (AD 8 4), .ref (AD 8 5), .int (nI (n 0)), .int (nI (n 1)), .int (nI (n 2)), .int (nI (n 3)), .int (nI (n 4)), .int (nI (n 5)), .int (I 99 0), .long (J2 99 0), .long (J2 99 1), .long (J2 99 2), .long (J2 99 3)]) := (va_up_ne _ _ ne_AD_9_0_AD_1_i).trans g_5E
                have e_12 : (va_up f2 (AD 1 i) (.inr (1, [.ref (AD 0 (P 1 i)), .null, .int (I 12 i), .int (I 13 i), .int (I 14 i), .int (I 15 i), .int (I 16 i), .long (J2 10 i), .long (J2 11 i), .long ((J2 12 i) + m_abs (J2 10 i))]))) (AD 0 (P 1 i)) = .inr (0, [.int (I 0 (P 1 i)), .int (I 1 (P 1 i)), .long (J2 0 (P 1 i)), .long (J2 1 (P 1 i)), .long (J2 2 (P 1 i)), .int (I 2 (P 1 i)), .int (I 3 (P 1 i)), .int (I 4 (P 1 i))]) := (va_up_ne _ _ ne_AD_0_P_1_i_AD_1_i).trans g_8E
                have e_13 : (va_up f2 (AD 1 i) (.inr (1, [.ref (AD 0 (P 1 i)), .null, .int (I 12 i), .int (I 13 i), .int (I 14 i), .int (I 15 i), .int (I 16 i), .long (J2 10 i), .long (J2 11 i), .long ((J2 12 i) + m_abs (J2 10 i))]))) (AD 8 1) = .inl (ct 1, 15, .inr (.inr (.inr (.inr (fun j => if j < n 1 then some (AD 1 j) else none))))) := (va_up_ne _ _ ne_AD_8_1_AD_1_i).trans g_9E
                have e_14 : (va_up (va_up f2 (AD 1 i) (.inr (1, [.ref (AD 0 (P 1 i)), .null, .int (I 12 i), .int (I 13 i), .int (I 14 i), .int (I 15 i), .int (I 16 i), .long (J2 10 i), .long (J2 11 i), .long ((J2 12 i) + m_abs (J2 10 i))]))) (AD 0 (P 1 i)) (.inr (0, [.int (I 0 (P 1 i)), .int (I 1 (P 1 i)), .long (J2 0 (P 1 i)), .long ((J2 1 (P 1 i)) + -(J2 10 i)), .long ((J2 2 (P 1 i)) + m_nh (J2 10 i) (J2 11 i)), .int (I 2 (P 1 i)), .int (I 3 (P 1 i)), .int (I 4 (P 1 i))]))) (AD 0 (P 1 i)) = .inr (0, [.int (I 0 (P 1 i)), .int (I 1 (P 1 i)), .long (J2 0 (P 1 i)), .long ((J2 1 (P 1 i)) + -(J2 10 i)), .long ((J2 2 (P 1 i)) + m_nh (J2 10 i) (J2 11 i)), .int (I 2 (P 1 i)), .int (I 3 (P 1 i)), .int (I 4 (P 1 i))]) := va_up_self _ _ _
                have e_15 : (va_up (va_up f2 (AD 1 i) (.inr (1, [.ref (AD 0 (P 1 i)), .null, .int (I 12 i), .int (I 13 i), .int (I 14 i), .int (I 15 i), .int (I 16 i), .long (J2 10 i), .long (J2 11 i), .long ((J2 12 i) + m_abs (J2 10 i))]))) (AD 0 (P 1 i)) (.inr (0, [.int (I 0 (P 1 i)), .int (I 1 (P 1 i)), .long (J2 0 (P 1 i)), .long ((J2 1 (P 1 i)) + -(J2 10 i)), .long ((J2 2 (P 1 i)) + m_nh (J2 10 i) (J2 11 i)), .int (I 2 (P 1 i)), .int (I 3 (P 1 i)), .int (I 4 (P 1 i))]))) (AD 9 0) = .inr (6, [.ref (AD 8 0), .ref (AD 8 1), .ref (AD 8 2), .ref (AD 8 3), .ref (AD 8 4), .ref (AD 8 5), .int (nI (n 0)), .int (nI (n 1)), .int (nI (n 2)), .int (nI (n 3)), .int (nI (n 4)), .int (nI (n 5)), .int (I 99 0), .long (J2 99 0), .long (J2 99 1), .long (J2 99 2), .long (J2 99 3)]) := (va_up_ne _ _ ne_AD_9_0_AD_0_P_1_i).trans e_11
                have e_16 : (va_up (va_up f2 (AD 1 i) (.inr (1, [.ref (AD 0 (P 1 i)), .null, .int (I 12 i), .int (I 13 i), .int (I 14 i), .int (I 15 i), .int (I 16 i), .long (J2 10 i), .long (J2 11 i), .long ((J2 12 i) + m_abs (J2 10 i))]))) (AD 0 (P 1 i)) (.inr (0, [.int (I 0 (P 1 i)), .int (I 1 (P 1 i)), .long (J2 0 (P 1 i)), .long ((J2 1 (P 1 i)) + -(J2 10 i)), .long ((J2 2 (P 1 i)) + m_nh (J2 10 i) (J2 11 i)), .int (I 2 (P 1 i)), .int (I 3 (P 1 i)), .int (I 4 (P 1 i))]))) (AD 1 i) = .inr (1, [.ref (AD 0 (P 1 i)), .null, .int (I 12 i), .int (I 13 i), .int (I 14 i), .int (I 15 i), .int (I 16 i), .long (J2 10 i), .long (J2 11 i), .long ((J2 12 i) + m_abs (J2 10 i))]) := (va_up_ne _ _ ne_AD_1_i_AD_0_P_1_i).trans e_10
                have e_17 : (va_up (va_up f2 (AD 1 i) (.inr (1, [.ref (AD 0 (P 1 i)), .null, .int (I 12 i), .int (I 13 i), .int (I 14 i), .int (I 15 i), .int (I 16 i), .long (J2 10 i), .long (J2 11 i), .long ((J2 12 i) + m_abs (J2 10 i))]))) (AD 0 (P 1 i)) (.inr (0, [.int (I 0 (P 1 i)), .int (I 1 (P 1 i)), .long (J2 0 (P 1 i)), .long ((J2 1 (P 1 i)) + -(J2 10 i)), .long ((J2 2 (P 1 i)) + m_nh (J2 10 i) (J2 11 i)), .int (I 2 (P 1 i)), .int (I 3 (P 1 i)), .int (I 4 (P 1 i))]))) (AD 8 1) = .inl (ct 1, 15, .inr (.inr (.inr (.inr (fun j => if j < n 1 then some (AD 1 j) else none))))) := (va_up_ne _ _ ne_AD_8_1_AD_0_P_1_i).trans e_13
                refine lv_ladd hx hb d_Sz_flowThroughOpenings_49 ?_
                refine pg_put (C := "SmokeZones") (T := T_Sz) (N := 17) (ty := .long) hx hb hG in_Sz ty_Sz ok_Sz nm_Sz hown hK hP hD hS g_5L e_15 rfl 14 (by decide) (hG _ k49) (fun _ h9 => h9) rfl (by decide +kernel) rfl rfl (Nat.le_of_ble_eq_true rfl) d_Sz_flowThroughOpenings_50 (fun H locs hP hD hS => ?_)
                have hP : va_P D vwCl (va_pl (L) (va_up (va_up (va_up f2 (AD 1 i) (.inr (1, [.ref (AD 0 (P 1 i)), .null, .int (I 12 i), .int (I 13 i), .int (I 14 i), .int (I 15 i), .int (I 16 i), .long (J2 10 i), .long (J2 11 i), .long ((J2 12 i) + m_abs (J2 10 i))]))) (AD 0 (P 1 i)) (.inr (0, [.int (I 0 (P 1 i)), .int (I 1 (P 1 i)), .long (J2 0 (P 1 i)), .long ((J2 1 (P 1 i)) + -(J2 10 i)), .long ((J2 2 (P 1 i)) + m_nh (J2 10 i) (J2 11 i)), .int (I 2 (P 1 i)), .int (I 3 (P 1 i)), .int (I 4 (P 1 i))]))) (AD 9 0) (.inr (6, [.ref (AD 8 0), .ref (AD 8 1), .ref (AD 8 2), .ref (AD 8 3), .ref (AD 8 4), .ref (AD 8 5), .int (nI (n 0)), .int (nI (n 1)), .int (nI (n 2)), .int (nI (n 3)), .int (nI (n 4)), .int (nI (n 5)), .int (I 99 0), .long (J2 99 0), .long ((J2 99 1) + (J2 10 i)), .long (J2 99 2), .long (J2 99 3)])))) H := hP
                have hD : va_D A (va_pl (L) (va_up (va_up (va_up f2 (AD 1 i) (.inr (1, [.ref (AD 0 (P 1 i)), .null, .int (I 12 i), .int (I 13 i), .int (I 14 i), .int (I 15 i), .int (I 16 i), .long (J2 10 i), .long (J2 11 i), .long ((J2 12 i) + m_abs (J2 10 i))]))) (AD 0 (P 1 i)) (.inr (0, [.int (I 0 (P 1 i)), .int (I 1 (P 1 i)), .long (J2 0 (P 1 i)), .long ((J2 1 (P 1 i)) + -(J2 10 i)), .long ((J2 2 (P 1 i)) + m_nh (J2 10 i) (J2 11 i)), .int (I 2 (P 1 i)), .int (I 3 (P 1 i)), .int (I 4 (P 1 i))]))) (AD 9 0) (.inr (6, [.ref (AD 8 0), .ref (AD 8 1), .ref (AD 8 2), .ref (AD 8 3), .ref (AD 8 4), .ref (AD 8 5), .int (nI (n 0)), .int (nI (n 1)), .int (nI (n 2)), .int (nI (n 3)), .int (nI (n 4)), .int (nI (n 5)), .int (I 99 0), .long (J2 99 0), .long ((J2 99 1) + (J2 10 i)), .long (J2 99 2), .long (J2 99 3)])))) := hD
                have e_18 : (va_up (va_up (va_up f2 (AD 1 i) (.inr (1, [.ref (AD 0 (P 1 i)), .null, .int (I 12 i), .int (I 13 i), .int (I 14 i), .int (I 15 i), .int (I 16 i), .long (J2 10 i), .long (J2 11 i), .long ((J2 12 i) + m_abs (J2 10 i))]))) (AD 0 (P 1 i)) (.inr (0, [.int (I 0 (P 1 i)), .int (I 1 (P 1 i)), .long (J2 0 (P 1 i)), .long ((J2 1 (P 1 i)) + -(J2 10 i)), .long ((J2 2 (P 1 i)) + m_nh (J2 10 i) (J2 11 i)), .int (I 2 (P 1 i)), .int (I 3 (P 1 i)), .int (I 4 (P 1 i))]))) (AD 9 0) (.inr (6, [.ref (AD 8 0), .ref (AD 8 1), .ref (AD 8 2), .ref (AD 8 3), .ref (AD 8 4), .ref (AD 8 5), .int (nI (n 0)), .int (nI (n 1)), .int (nI (n 2)), .int (nI (n 3)), .int (nI (n 4)), .int (nI (n 5)), .int (I 99 0), .long (J2 99 0), .long ((J2 99 1) + (J2 10 i)), .long (J2 99 2), .long (J2 99 3)]))) (AD 9 0) = .inr (6, [.ref (AD 8 0), .ref (AD 8 1), .ref (AD 8 2), .ref (AD 8 3), .ref (AD 8 4), .ref (AD 8 5), .int (nI (n 0)), .int (nI (n 1)), .int (nI (n 2)), .int (nI (n 3)), .int (nI (n 4)), .int (nI (n 5)), .int (I 99 0), .long (J2 99 0), .long ((J2 99 1) + (J2 10 i)), .long (J2 99 2), .long (J2 99 3)]) := va_up_self _ _ _
                have e_19 : (va_up (va_up (va_up f2 (AD 1 i) (.inr (1, [.ref (AD 0 (P 1 i)), .null, .int (I 12 i), .int (I 13 i), .int (I 14 i), .int (I 15 i), .int (I 16 i), .long (J2 10 i), .long (J2 11 i), .long ((J2 12 i) + m_abs (J2 10 i))]))) (AD 0 (P 1 i)) (.inr (0, [.int (I 0 (P 1 i)), .int (I 1 (P 1 i)), .long (J2 0 (P 1 i)), .long ((J2 1 (P 1 i)) + -(J2 10 i)), .long ((J2 2 (P 1 i)) + m_nh (J2 10 i) (J2 11 i)), .int (I 2 (P 1 i)), .int (I 3 (P 1 i)), .int (I 4 (P 1 i))]))) (AD 9 0) (.inr (6, [.ref (AD 8 0), .ref (AD 8 1), .ref (AD 8 2), .ref (AD 8 3), .ref (AD 8 4), .ref (AD 8 5), .int (nI (n 0)), .int (nI (n 1)), .int (nI (n 2)), .int (nI (n 3)), .int (nI (n 4)), .int (nI (n 5)), .int (I 99 0), .long (J2 99 0), .long ((J2 99 1) + (J2 10 i)), .long (J2 99 2), .long (J2 99 3)]))) (AD 1 i) = .inr (1, [.ref (AD 0 (P 1 i)), .null, .int (I 12 i), .int (I 13 i), .int (I 14 i), .int (I 15 i), .int (I 16 i), .long (J2 10 i), .long (J2 11 i), .long ((J2 12 i) + m_abs (J2 10 i))]) := (va_up_ne _ _ ne_AD_1_i_AD_9_0).trans e_16
                have e_20 : (va_up (va_up (va_up f2 (AD 1 i) (.inr (1, [.ref (AD 0 (P 1 i)), .null, .int (I 12 i), .int (I 13 i), .int (I 14 i), .int (I 15 i), .int (I 16 i), .long (J2 10 i), .long (J2 11 i), .long ((J2 12 i) + m_abs (J2 10 i))]))) (AD 0 (P 1 i)) (.inr (0, [.int (I 0 (P 1 i)), .int (I 1 (P 1 i)), .long (J2 0 (P 1 i)), .long ((J2 1 (P 1 i)) + -(J2 10 i)), .long ((J2 2 (P 1 i)) + m_nh (J2 10 i) (J2 11 i)), .int (I 2 (P 1 i)), .int (I 3 (P 1 i)), .int (I 4 (P 1 i))]))) (AD 9 0) (.inr (6, [.ref (AD 8 0), .ref (AD 8 1), .ref (AD 8 2), .ref (AD 8 3), .ref (AD 8 4), .ref (AD 8 5), .int (nI (n 0)), .int (nI (n 1)), .int (nI (n 2)), .int (nI (n 3)), .int (nI (n 4)), .int (nI (n 5)), .int (I 99 0), .long (J2 99 0), .long ((J2 99 1) + (J2 10 i)), .long (J2 99 2), .long (J2 99 3)]))) (AD 0 (P 1 i)) = .inr (0, [.int (I 0 (P 1 i)), .int (I 1 (P 1 i)), .long (J2 0 (P 1 i)), .long ((J2 1 (P 1 i)) + -(J2 10 i)), .long ((J2 2 (P 1 i)) + m_nh (J2 10 i) (J2 11 i)), .int (I 2 (P 1 i)), .int (I 3 (P 1 i)), .int (I 4 (P 1 i))]) := (va_up_ne _ _ ne_AD_0_P_1_i_AD_9_0).trans e_14
                have e_21 : (va_up (va_up (va_up f2 (AD 1 i) (.inr (1, [.ref (AD 0 (P 1 i)), .null, .int (I 12 i), .int (I 13 i), .int (I 14 i), .int (I 15 i), .int (I 16 i), .long (J2 10 i), .long (J2 11 i), .long ((J2 12 i) + m_abs (J2 10 i))]))) (AD 0 (P 1 i)) (.inr (0, [.int (I 0 (P 1 i)), .int (I 1 (P 1 i)), .long (J2 0 (P 1 i)), .long ((J2 1 (P 1 i)) + -(J2 10 i)), .long ((J2 2 (P 1 i)) + m_nh (J2 10 i) (J2 11 i)), .int (I 2 (P 1 i)), .int (I 3 (P 1 i)), .int (I 4 (P 1 i))]))) (AD 9 0) (.inr (6, [.ref (AD 8 0), .ref (AD 8 1), .ref (AD 8 2), .ref (AD 8 3), .ref (AD 8 4), .ref (AD 8 5), .int (nI (n 0)), .int (nI (n 1)), .int (nI (n 2)), .int (nI (n 3)), .int (nI (n 4)), .int (nI (n 5)), .int (I 99 0), .long (J2 99 0), .long ((J2 99 1) + (J2 10 i)), .long (J2 99 2), .long (J2 99 3)]))) (AD 8 1) = .inl (ct 1, 15, .inr (.inr (.inr (.inr (fun j => if j < n 1 then some (AD 1 j) else none))))) := (va_up_ne _ _ ne_AD_8_1_AD_9_0).trans e_17
                refine lv_iinc (v := nI (i + 1)) (lv' := [(1, .int (nI (i + 1))), (0, .ref (AD 9 0))]) hx hb d_Sz_flowThroughOpenings_53 hl (k := 0) rfl (nI_1 i) (by decide) rfl (fun ls hl => ?_)
                refine lv_goto (tgt := 27) hx hb d_Sz_flowThroughOpenings_56 (by decide) ?_
                have hvs : vS P i J2 = up2 (sRo (up2 J2 12 i (J2 12 i + m_abs (J2 10 i))) (P 1 i) (J2 1 (P 1 i) + -(J2 10 i)) (J2 2 (P 1 i) + m_nh (J2 10 i) (J2 11 i))) 99 1 (J2 99 1 + J2 10 i) := by simp only [vS, hp2]
                have hN0 : CW ct AD L n I (up2 J2 12 i (J2 12 i + m_abs (J2 10 i))) P _ := hC1.set (k := 1) (i := i) (lv0 (by decide) hi) (co_op (fun _ _ _ => rfl) (fun a b h => up_hO a b (by omega))) hC1.2.2
                have hN1 : CW ct AD L n I (sRo (up2 J2 12 i (J2 12 i + m_abs (J2 10 i))) (P 1 i) (J2 1 (P 1 i) + -(J2 10 i)) (J2 2 (P 1 i) + m_nh (J2 10 i) (J2 11 i))) P _ := hN0.set (k := 0) (i := (P 1 i)) (lv0 (by decide) hr) (co_ro (fun _ _ _ => rfl) sRo_hJ) hC1.2.2
                have hN2 : CW ct AD L n I (up2 (sRo (up2 J2 12 i (J2 12 i + m_abs (J2 10 i))) (P 1 i) (J2 1 (P 1 i) + -(J2 10 i)) (J2 2 (P 1 i) + m_nh (J2 10 i) (J2 11 i))) 99 1 (J2 99 1 + J2 10 i)) P _ := hN1.set (k := 9) (i := 0) (lv9) (co_ma (fun _ _ _ => rfl) t99_hJ) hC1.2.2
                have hN : CW ct AD L n I (up2 (sRo (up2 J2 12 i (J2 12 i + m_abs (J2 10 i))) (P 1 i) (J2 1 (P 1 i) + -(J2 10 i)) (J2 2 (P 1 i) + m_nh (J2 10 i) (J2 11 i))) 99 1 (J2 99 1 + J2 10 i)) P (va_up (va_up (va_up f2 (AD 1 i) (.inr (1, [.ref (AD 0 (P 1 i)), .null, .int (I 12 i), .int (I 13 i), .int (I 14 i), .int (I 15 i), .int (I 16 i), .long (J2 10 i), .long (J2 11 i), .long ((J2 12 i) + m_abs (J2 10 i))]))) (AD 0 (P 1 i)) (.inr (0, [.int (I 0 (P 1 i)), .int (I 1 (P 1 i)), .long (J2 0 (P 1 i)), .long ((J2 1 (P 1 i)) + -(J2 10 i)), .long ((J2 2 (P 1 i)) + m_nh (J2 10 i) (J2 11 i)), .int (I 2 (P 1 i)), .int (I 3 (P 1 i)), .int (I 4 (P 1 i))]))) (AD 9 0) (.inr (6, [.ref (AD 8 0), .ref (AD 8 1), .ref (AD 8 2), .ref (AD 8 3), .ref (AD 8 4), .ref (AD 8 5), .int (nI (n 0)), .int (nI (n 1)), .int (nI (n 2)), .int (nI (n 3)), .int (nI (n 4)), .int (nI (n 5)), .int (I 99 0), .long (J2 99 0), .long ((J2 99 1) + (J2 10 i)), .long (J2 99 2), .long (J2 99 3)]))) := by
                  refine cast (congrArg (CW ct AD L n I (up2 (sRo (up2 J2 12 i (J2 12 i + m_abs (J2 10 i))) (P 1 i) (J2 1 (P 1 i) + -(J2 10 i)) (J2 2 (P 1 i) + m_nh (J2 10 i) (J2 11 i))) 99 1 (J2 99 1 + J2 10 i)) P) ?_) hN2
                  simp [cellOf, roomE, mainE, openE, steelE, farV, up2, sRo, hp2]
                rw [← hvs] at hN
                exact ih1 (i + 1) _ _ _ _ _ (by omega) hN hP hD hS (lv_sub hl [0, 1] rfl) hfin1
              · have g_7E : f2 (AD 1 i) = .inr (1, [.ref (AD 0 (P 1 i)), .ref (AD 0 g), .int (I 12 i), .int (I 13 i), .int (I 14 i), .int (I 15 i), .int (I 16 i), .long (J2 10 i), .long (J2 11 i), .long (J2 12 i)]) := by rw [g_7E0, hp2]; rfl
                obtain ⟨g_22L, g_22E⟩ := hC1.ro hr
                have hg : g < n 0 := by omega
                obtain ⟨g_23L, g_23E⟩ := hC1.ro hg
                obtain ⟨g_24L, g_24E⟩ := hC1.a1
                have ne_AD_9_0_AD_1_i : AD 9 0 ≠ AD 1 i := hC1.ne (k := 9) (i := 0) (k' := 1) (i' := i) (lv9) (lv0 (by decide) hi) (by omega)
                have ne_AD_9_0_AD_0_P_1_i : AD 9 0 ≠ AD 0 (P 1 i) := hC1.ne (k := 9) (i := 0) (k' := 0) (i' := (P 1 i)) (lv9) (lv0 (by decide) hr) (by omega)
                have ne_AD_9_0_AD_0_g : AD 9 0 ≠ AD 0 g := hC1.ne (k := 9) (i := 0) (k' := 0) (i' := g) (lv9) (lv0 (by decide) hg) (by omega)
                have ne_AD_9_0_AD_8_1 : AD 9 0 ≠ AD 8 1 := hC1.ne (k := 9) (i := 0) (k' := 8) (i' := 1) (lv9) (lv8 (by decide)) (by omega)
                have ne_AD_1_i_AD_9_0 : AD 1 i ≠ AD 9 0 := hC1.ne (k := 1) (i := i) (k' := 9) (i' := 0) (lv0 (by decide) hi) (lv9) (by omega)
                have ne_AD_1_i_AD_0_P_1_i : AD 1 i ≠ AD 0 (P 1 i) := hC1.ne (k := 1) (i := i) (k' := 0) (i' := (P 1 i)) (lv0 (by decide) hi) (lv0 (by decide) hr) (by omega)
                have ne_AD_1_i_AD_0_g : AD 1 i ≠ AD 0 g := hC1.ne (k := 1) (i := i) (k' := 0) (i' := g) (lv0 (by decide) hi) (lv0 (by decide) hg) (by omega)
                have ne_AD_1_i_AD_8_1 : AD 1 i ≠ AD 8 1 := hC1.ne (k := 1) (i := i) (k' := 8) (i' := 1) (lv0 (by decide) hi) (lv8 (by decide)) (by omega)
                have ne_AD_0_P_1_i_AD_9_0 : AD 0 (P 1 i) ≠ AD 9 0 := hC1.ne (k := 0) (i := (P 1 i)) (k' := 9) (i' := 0) (lv0 (by decide) hr) (lv9) (by omega)
                have ne_AD_0_P_1_i_AD_1_i : AD 0 (P 1 i) ≠ AD 1 i := hC1.ne (k := 0) (i := (P 1 i)) (k' := 1) (i' := i) (lv0 (by decide) hr) (lv0 (by decide) hi) (by omega)
                have ne_AD_0_P_1_i_AD_0_g : AD 0 (P 1 i) ≠ AD 0 g := hC1.ne (k := 0) (i := (P 1 i)) (k' := 0) (i' := g) (lv0 (by decide) hr) (lv0 (by decide) hg) (by omega)
                have ne_AD_0_P_1_i_AD_8_1 : AD 0 (P 1 i) ≠ AD 8 1 := hC1.ne (k := 0) (i := (P 1 i)) (k' := 8) (i' := 1) (lv0 (by decide) hr) (lv8 (by decide)) (by omega)
                have ne_AD_0_g_AD_9_0 : AD 0 g ≠ AD 9 0 := hC1.ne (k := 0) (i := g) (k' := 9) (i' := 0) (lv0 (by decide) hg) (lv9) (by omega)
                have ne_AD_0_g_AD_1_i : AD 0 g ≠ AD 1 i := hC1.ne (k := 0) (i := g) (k' := 1) (i' := i) (lv0 (by decide) hg) (lv0 (by decide) hi) (by omega)
                have ne_AD_0_g_AD_0_P_1_i : AD 0 g ≠ AD 0 (P 1 i) := hC1.ne (k := 0) (i := g) (k' := 0) (i' := (P 1 i)) (lv0 (by decide) hg) (lv0 (by decide) hr) (by omega)
                have ne_AD_0_g_AD_8_1 : AD 0 g ≠ AD 8 1 := hC1.ne (k := 0) (i := g) (k' := 8) (i' := 1) (lv0 (by decide) hg) (lv8 (by decide)) (by omega)
                have ne_AD_8_1_AD_9_0 : AD 8 1 ≠ AD 9 0 := hC1.ne (k := 8) (i := 1) (k' := 9) (i' := 0) (lv8 (by decide)) (lv9) (by omega)
                have ne_AD_8_1_AD_1_i : AD 8 1 ≠ AD 1 i := hC1.ne (k := 8) (i := 1) (k' := 1) (i' := i) (lv8 (by decide)) (lv0 (by decide) hi) (by omega)
                have ne_AD_8_1_AD_0_P_1_i : AD 8 1 ≠ AD 0 (P 1 i) := hC1.ne (k := 8) (i := 1) (k' := 0) (i' := (P 1 i)) (lv8 (by decide)) (lv0 (by decide) hr) (by omega)
                have ne_AD_8_1_AD_0_g : AD 8 1 ≠ AD 0 g := hC1.ne (k := 8) (i := 1) (k' := 0) (i' := g) (lv8 (by decide)) (lv0 (by decide) hg) (by omega)
                refine lv_aload_n hx hb d_Sz_flowThroughOpenings_35 rfl (lv_at hl 1 rfl) ?_
                refine lv_dup hx hb d_Sz_flowThroughOpenings_36 rfl ?_
                refine pg_get (C := "SmokeZones") (T := T_Sz) (N := 17) hx hb hG in_Sz hown hK hP g_5L g_5E rfl 14 (by decide) (hG _ k49) (fun _ h9 => h9) rfl d_Sz_flowThroughOpenings_37 ?_
                refine lv_aload_n hx hb d_Sz_flowThroughOpenings_40 rfl (lv_at hl 1 rfl) ?_
                refine pg_get (C := "SmokeZones") (T := T_Sz) (N := 17) hx hb hG in_Sz hown hK hP g_5L g_5E rfl 1 (by decide) (hG _ k36) (fun _ h9 => h9) rfl d_Sz_flowThroughOpenings_41 ?_
                refine lv_iload_n hx hb d_Sz_flowThroughOpenings_44 rfl (lv_at hl 0 rfl) ?_
                refine pg_ald hx hb hK hP 1 g_24L g_24E rfl (vp_in_nI (by omega) (by decide)) (rf_at hi (by omega)) d_Sz_flowThroughOpenings_45 ?_
                refine kV_wl (f' := va_up (va_up (va_up f2 (AD 1 i) (.inr (1, [.ref (AD 0 (P 1 i)), .ref (AD 0 g), .int (I 12 i), .int (I 13 i), .int (I 14 i), .int (I 15 i), .int (I 16 i), .long (J2 10 i), .long (J2 11 i), .long ((J2 12 i) + m_abs (J2 10 i))]))) (AD 0 (P 1 i)) (.inr (0, [.int (I 0 (P 1 i)), .int (I 1 (P 1 i)), .long (J2 0 (P 1 i)), .long ((J2 1 (P 1 i)) + -(J2 10 i)), .long ((J2 2 (P 1 i)) + m_nh (J2 10 i) (J2 11 i)), .int (I 2 (P 1 i)), .int (I 3 (P 1 i)), .int (I 4 (P 1 i))]))) (AD 0 g) (.inr (0, [.int (I 0 g), .int (I 1 g), .long (J2 0 g), .long ((J2 1 g) + (J2 10 i)), .long ((J2 2 g) + m_fh (J2 10 i) (J2 11 i)), .int (I 2 g), .int (I 3 g), .int (I 4 g)]))) ⟨hx, hb, hml, hown, hG⟩ (c_Op_moveFlow_s g_7L g_7E g_22L g_22E g_23L g_23E ne_AD_0_P_1_i_AD_0_g) (cwV 0 hG (gV k491 k492 k493 k9 k494) rfl rfl rfl hd_Op_moveFlow ⟨Nat.le_of_ble_eq_true rfl, Nat.le_of_ble_eq_true rfl⟩) hK hP hD hS hA g_7L g_7E rfl rfl hl.1 rfl (Nat.le_of_ble_eq_true rfl) ⟨Nat.le_of_ble_eq_true rfl, Nat.le_of_ble_eq_true rfl⟩ d_Sz_flowThroughOpenings_46 (fun H locs hP hD hS => ?_)
                have e_25 : (va_up f2 (AD 1 i) (.inr (1, [.ref (AD 0 (P 1 i)), .ref (AD 0 g), .int (I 12 i), .int (I 13 i), .int (I 14 i), .int (I 15 i), .int (I 16 i), .long (J2 10 i), .long (J2 11 i), .long ((J2 12 i) + m_abs (J2 10 i))]))) (AD 1 i) = .inr (1, [.ref (AD 0 (P 1 i)), .ref (AD 0 g), .int (I 12 i), .int (I 13 i), .int (I 14 i), .int (I 15 i), .int (I 16 i), .long (J2 10 i), .long (J2 11 i), .long ((J2 12 i) + m_abs (J2 10 i))]) := va_up_self _ _ _
                have e_26 : (va_up f2 (AD 1 i) (.inr (1, [.ref (AD 0 (P 1 i)), .ref (AD 0 g), .int (I 12 i), .int (I 13 i), .int (I 14 i), .int (I 15 i), .int (I 16 i), .long (J2 10 i), .long (J2 11 i), .long ((J2 12 i) + m_abs (J2 10 i))]))) (AD 9 0) = .inr (6, [.ref (AD 8 0), .ref (AD 8 1), .ref (AD 8 2), .ref (AD 8 3), .ref (AD 8 4), .ref (AD 8 5), .int (nI (n 0)), .int (nI (n 1)), .int (nI (n 2)), .int (nI (n 3)), .int (nI (n 4)), .int (nI (n 5)), .int (I 99 0), .long (J2 99 0), .long (J2 99 1), .long (J2 99 2), .long (J2 99 3)]) := (va_up_ne _ _ ne_AD_9_0_AD_1_i).trans g_5E
                have e_27 : (va_up f2 (AD 1 i) (.inr (1, [.ref (AD 0 (P 1 i)), .ref (AD 0 g), .int (I 12 i), .int (I 13 i), .int (I 14 i), .int (I 15 i), .int (I 16 i), .long (J2 10 i), .long (J2 11 i), .long ((J2 12 i) + m_abs (J2 10 i))]))) (AD 0 (P 1 i)) = .inr (0, [.int (I 0 (P 1 i)), .int (I 1 (P 1 i)), .long (J2 0 (P 1 i)), .long (J2 1 (P 1 i)), .long (J2 2 (P 1 i)), .int (I 2 (P 1 i)), .int (I 3 (P 1 i)), .int (I 4 (P 1 i))]) := (va_up_ne _ _ ne_AD_0_P_1_i_AD_1_i).trans g_22E
                have e_28 : (va_up f2 (AD 1 i) (.inr (1, [.ref (AD 0 (P 1 i)), .ref (AD 0 g), .int (I 12 i), .int (I 13 i), .int (I 14 i), .int (I 15 i), .int (I 16 i), .long (J2 10 i), .long (J2 11 i), .long ((J2 12 i) + m_abs (J2 10 i))]))) (AD 0 g) = .inr (0, [.int (I 0 g), .int (I 1 g), .long (J2 0 g), .long (J2 1 g), .long (J2 2 g), .int (I 2 g), .int (I 3 g), .int (I 4 g)]) := (va_up_ne _ _ ne_AD_0_g_AD_1_i).trans g_23E
                have e_29 : (va_up f2 (AD 1 i) (.inr (1, [.ref (AD 0 (P 1 i)), .ref (AD 0 g), .int (I 12 i), .int (I 13 i), .int (I 14 i), .int (I 15 i), .int (I 16 i), .long (J2 10 i), .long (J2 11 i), .long ((J2 12 i) + m_abs (J2 10 i))]))) (AD 8 1) = .inl (ct 1, 15, .inr (.inr (.inr (.inr (fun j => if j < n 1 then some (AD 1 j) else none))))) := (va_up_ne _ _ ne_AD_8_1_AD_1_i).trans g_24E
                have e_30 : (va_up (va_up f2 (AD 1 i) (.inr (1, [.ref (AD 0 (P 1 i)), .ref (AD 0 g), .int (I 12 i), .int (I 13 i), .int (I 14 i), .int (I 15 i), .int (I 16 i), .long (J2 10 i), .long (J2 11 i), .long ((J2 12 i) + m_abs (J2 10 i))]))) (AD 0 (P 1 i)) (.inr (0, [.int (I 0 (P 1 i)), .int (I 1 (P 1 i)), .long (J2 0 (P 1 i)), .long ((J2 1 (P 1 i)) + -(J2 10 i)), .long ((J2 2 (P 1 i)) + m_nh (J2 10 i) (J2 11 i)), .int (I 2 (P 1 i)), .int (I 3 (P 1 i)), .int (I 4 (P 1 i))]))) (AD 0 (P 1 i)) = .inr (0, [.int (I 0 (P 1 i)), .int (I 1 (P 1 i)), .long (J2 0 (P 1 i)), .long ((J2 1 (P 1 i)) + -(J2 10 i)), .long ((J2 2 (P 1 i)) + m_nh (J2 10 i) (J2 11 i)), .int (I 2 (P 1 i)), .int (I 3 (P 1 i)), .int (I 4 (P 1 i))]) := va_up_self _ _ _
                have e_31 : (va_up (va_up f2 (AD 1 i) (.inr (1, [.ref (AD 0 (P 1 i)), .ref (AD 0 g), .int (I 12 i), .int (I 13 i), .int (I 14 i), .int (I 15 i), .int (I 16 i), .long (J2 10 i), .long (J2 11 i), .long ((J2 12 i) + m_abs (J2 10 i))]))) (AD 0 (P 1 i)) (.inr (0, [.int (I 0 (P 1 i)), .int (I 1 (P 1 i)), .long (J2 0 (P 1 i)), .long ((J2 1 (P 1 i)) + -(J2 10 i)), .long ((J2 2 (P 1 i)) + m_nh (J2 10 i) (J2 11 i)), .int (I 2 (P 1 i)), .int (I 3 (P 1 i)), .int (I 4 (P 1 i))]))) (AD 9 0) = .inr (6, [.ref (AD 8 0), .ref (AD 8 1), .ref (AD 8 2), .ref (AD 8 3), .ref (AD 8 4), .ref (AD 8 5), .int (nI (n 0)), .int (nI (n 1)), .int (nI (n 2)), .int (nI (n 3)), .int (nI (n 4)), .int (nI (n 5)), .int (I 99 0), .long (J2 99 0), .long (J2 99 1), .long (J2 99 2), .long (J2 99 3)]) := (va_up_ne _ _ ne_AD_9_0_AD_0_P_1_i).trans e_26
                have e_32 : (va_up (va_up f2 (AD 1 i) (.inr (1, [.ref (AD 0 (P 1 i)), .ref (AD 0 g), .int (I 12 i), .int (I 13 i), .int (I 14 i), .int (I 15 i), .int (I 16 i), .long (J2 10 i), .long (J2 11 i), .long ((J2 12 i) + m_abs (J2 10 i))]))) (AD 0 (P 1 i)) (.inr (0, [.int (I 0 (P 1 i)), .int (I 1 (P 1 i)), .long (J2 0 (P 1 i)), .long ((J2 1 (P 1 i)) + -(J2 10 i)), .long ((J2 2 (P 1 i)) + m_nh (J2 10 i) (J2 11 i)), .int (I 2 (P 1 i)), .int (I 3 (P 1 i)), .int (I 4 (P 1 i))]))) (AD 1 i) = .inr (1, [.ref (AD 0 (P 1 i)), .ref (AD 0 g), .int (I 12 i), .int (I 13 i), .int (I 14 i), .int (I 15 i), .int (I 16 i), .long (J2 10 i), .long (J2 11 i), .long ((J2 12 i) + m_abs (J2 10 i))]) := (va_up_ne _ _ ne_AD_1_i_AD_0_P_1_i).trans e_25
                have e_33 : (va_up (va_up f2 (AD 1 i) (.inr (1, [.ref (AD 0 (P 1 i)), .ref (AD 0 g), .int (I 12 i), .int (I 13 i), .int (I 14 i), .int (I 15 i), .int (I 16 i), .long (J2 10 i), .long (J2 11 i), .long ((J2 12 i) + m_abs (J2 10 i))]))) (AD 0 (P 1 i)) (.inr (0, [.int (I 0 (P 1 i)), .int (I 1 (P 1 i)), .long (J2 0 (P 1 i)), .long ((J2 1 (P 1 i)) + -(J2 10 i)), .long ((J2 2 (P 1 i)) + m_nh (J2 10 i) (J2 11 i)), .int (I 2 (P 1 i)), .int (I 3 (P 1 i)), .int (I 4 (P 1 i))]))) (AD 0 g) = .inr (0, [.int (I 0 g), .int (I 1 g), .long (J2 0 g), .long (J2 1 g), .long (J2 2 g), .int (I 2 g), .int (I 3 g), .int (I 4 g)]) := (va_up_ne _ _ ne_AD_0_g_AD_0_P_1_i).trans e_28
                have e_34 : (va_up (va_up f2 (AD 1 i) (.inr (1, [.ref (AD 0 (P 1 i)), .ref (AD 0 g), .int (I 12 i), .int (I 13 i), .int (I 14 i), .int (I 15 i), .int (I 16 i), .long (J2 10 i), .long (J2 11 i), .long ((J2 12 i) + m_abs (J2 10 i))]))) (AD 0 (P 1 i)) (.inr (0, [.int (I 0 (P 1 i)), .int (I 1 (P 1 i)), .long (J2 0 (P 1 i)), .long ((J2 1 (P 1 i)) + -(J2 10 i)), .long ((J2 2 (P 1 i)) + m_nh (J2 10 i) (J2 11 i)), .int (I 2 (P 1 i)), .int (I 3 (P 1 i)), .int (I 4 (P 1 i))]))) (AD 8 1) = .inl (ct 1, 15, .inr (.inr (.inr (.inr (fun j => if j < n 1 then some (AD 1 j) else none))))) := (va_up_ne _ _ ne_AD_8_1_AD_0_P_1_i).trans e_29
                have e_35 : (va_up (va_up (va_up f2 (AD 1 i) (.inr (1, [.ref (AD 0 (P 1 i)), .ref (AD 0 g), .int (I 12 i), .int (I 13 i), .int (I 14 i), .int (I 15 i), .int (I 16 i), .long (J2 10 i), .long (J2 11 i), .long ((J2 12 i) + m_abs (J2 10 i))]))) (AD 0 (P 1 i)) (.inr (0, [.int (I 0 (P 1 i)), .int (I 1 (P 1 i)), .long (J2 0 (P 1 i)), .long ((J2 1 (P 1 i)) + -(J2 10 i)), .long ((J2 2 (P 1 i)) + m_nh (J2 10 i) (J2 11 i)), .int (I 2 (P 1 i)), .int (I 3 (P 1 i)), .int (I 4 (P 1 i))]))) (AD 0 g) (.inr (0, [.int (I 0 g), .int (I 1 g), .long (J2 0 g), .long ((J2 1 g) + (J2 10 i)), .long ((J2 2 g) + m_fh (J2 10 i) (J2 11 i)), .int (I 2 g), .int (I 3 g), .int (I 4 g)]))) (AD 0 g) = .inr (0, [.int (I 0 g), .int (I 1 g), .long (J2 0 g), .long ((J2 1 g) + (J2 10 i)), .long ((J2 2 g) + m_fh (J2 10 i) (J2 11 i)), .int (I 2 g), .int (I 3 g), .int (I 4 g)]) := va_up_self _ _ _
                have e_36 : (va_up (va_up (va_up f2 (AD 1 i) (.inr (1, [.ref (AD 0 (P 1 i)), .ref (AD 0 g), .int (I 12 i), .int (I 13 i), .int (I 14 i), .int (I 15 i), .int (I 16 i), .long (J2 10 i), .long (J2 11 i), .long ((J2 12 i) + m_abs (J2 10 i))]))) (AD 0 (P 1 i)) (.inr (0, [.int (I 0 (P 1 i)), .int (I 1 (P 1 i)), .long (J2 0 (P 1 i)), .long ((J2 1 (P 1 i)) + -(J2 10 i)), .long ((J2 2 (P 1 i)) + m_nh (J2 10 i) (J2 11 i)), .int (I 2 (P 1 i)), .int (I 3 (P 1 i)), .int (I 4 (P 1 i))]))) (AD 0 g) (.inr (0, [.int (I 0 g), .int (I 1 g), .long (J2 0 g), .long ((J2 1 g) + (J2 10 i)), .long ((J2 2 g) + m_fh (J2 10 i) (J2 11 i)), .int (I 2 g), .int (I 3 g), .int (I 4 g)]))) (AD 9 0) = .inr (6, [.ref (AD 8 0), .ref (AD 8 1), .ref (AD 8 2), .ref (AD 8 3), .ref (AD 8 4), .ref (AD 8 5), .int (nI (n 0)), .int (nI (n 1)), .int (nI (n 2)), .int (nI (n 3)), .int (nI (n 4)), .int (nI (n 5)), .int (I 99 0), .long (J2 99 0), .long (J2 99 1), .long (J2 99 2), .long (J2 99 3)]) := (va_up_ne _ _ ne_AD_9_0_AD_0_g).trans e_31
                have e_37 : (va_up (va_up (va_up f2 (AD 1 i) (.inr (1, [.ref (AD 0 (P 1 i)), .ref (AD 0 g), .int (I 12 i), .int (I 13 i), .int (I 14 i), .int (I 15 i), .int (I 16 i), .long (J2 10 i), .long (J2 11 i), .long ((J2 12 i) + m_abs (J2 10 i))]))) (AD 0 (P 1 i)) (.inr (0, [.int (I 0 (P 1 i)), .int (I 1 (P 1 i)), .long (J2 0 (P 1 i)), .long ((J2 1 (P 1 i)) + -(J2 10 i)), .long ((J2 2 (P 1 i)) + m_nh (J2 10 i) (J2 11 i)), .int (I 2 (P 1 i)), .int (I 3 (P 1 i)), .int (I 4 (P 1 i))]))) (AD 0 g) (.inr (0, [.int (I 0 g), .int (I 1 g), .long (J2 0 g), .long ((J2 1 g) + (J2 10 i)), .long ((J2 2 g) + m_fh (J2 10 i) (J2 11 i)), .int (I 2 g), .int (I 3 g), .int (I 4 g)]))) (AD 1 i) = .inr (1, [.ref (AD 0 (P 1 i)), .ref (AD 0 g), .int (I 12 i), .int (I 13 i), .int (I 14 i), .int (I 15 i), .int (I 16 i), .long (J2 10 i), .long (J2 11 i), .long ((J2 12 i) + m_abs (J2 10 i))]) := (va_up_ne _ _ ne_AD_1_i_AD_0_g).trans e_32
                have e_38 : (va_up (va_up (va_up f2 (AD 1 i) (.inr (1, [.ref (AD 0 (P 1 i)), .ref (AD 0 g), .int (I 12 i), .int (I 13 i), .int (I 14 i), .int (I 15 i), .int (I 16 i), .long (J2 10 i), .long (J2 11 i), .long ((J2 12 i) + m_abs (J2 10 i))]))) (AD 0 (P 1 i)) (.inr (0, [.int (I 0 (P 1 i)), .int (I 1 (P 1 i)), .long (J2 0 (P 1 i)), .long ((J2 1 (P 1 i)) + -(J2 10 i)), .long ((J2 2 (P 1 i)) + m_nh (J2 10 i) (J2 11 i)), .int (I 2 (P 1 i)), .int (I 3 (P 1 i)), .int (I 4 (P 1 i))]))) (AD 0 g) (.inr (0, [.int (I 0 g), .int (I 1 g), .long (J2 0 g), .long ((J2 1 g) + (J2 10 i)), .long ((J2 2 g) + m_fh (J2 10 i) (J2 11 i)), .int (I 2 g), .int (I 3 g), .int (I 4 g)]))) (AD 0 (P 1 i)) = .inr (0, [.int (I 0 (P 1 i)), .int (I 1 (P 1 i)), .long (J2 0 (P 1 i)), .long ((J2 1 (P 1 i)) + -(J2 10 i)), .long ((J2 2 (P 1 i)) + m_nh (J2 10 i) (J2 11 i)), .int (I 2 (P 1 i)), .int (I 3 (P 1 i)), .int (I 4 (P 1 i))]) := (va_up_ne _ _ ne_AD_0_P_1_i_AD_0_g).trans e_30
                have e_39 : (va_up (va_up (va_up f2 (AD 1 i) (.inr (1, [.ref (AD 0 (P 1 i)), .ref (AD 0 g), .int (I 12 i), .int (I 13 i), .int (I 14 i), .int (I 15 i), .int (I 16 i), .long (J2 10 i), .long (J2 11 i), .long ((J2 12 i) + m_abs (J2 10 i))]))) (AD 0 (P 1 i)) (.inr (0, [.int (I 0 (P 1 i)), .int (I 1 (P 1 i)), .long (J2 0 (P 1 i)), .long ((J2 1 (P 1 i)) + -(J2 10 i)), .long ((J2 2 (P 1 i)) + m_nh (J2 10 i) (J2 11 i)), .int (I 2 (P 1 i)), .int (I 3 (P 1 i)), .int (I 4 (P 1 i))]))) (AD 0 g) (.inr (0, [.int (I 0 g), .int (I 1 g), .long (J2 0 g), .long ((J2 1 g) + (J2 10 i)), .long ((J2 2 g) + m_fh (J2 10 i) (J2 11 i)), .int (I 2 g), .int (I 3 g), .int (I 4 g)]))) (AD 8 1) = .inl (ct 1, 15, .inr (.inr (.inr (.inr (fun j => if j < n 1 then some (AD 1 j) else none))))) := (va_up_ne _ _ ne_AD_8_1_AD_0_g).trans e_34
                refine lv_ladd hx hb d_Sz_flowThroughOpenings_49 ?_
                refine pg_put (C := "SmokeZones") (T := T_Sz) (N := 17) (ty := .long) hx hb hG in_Sz ty_Sz ok_Sz nm_Sz hown hK hP hD hS g_5L e_36 rfl 14 (by decide) (hG _ k49) (fun _ h9 => h9) rfl (by decide +kernel) rfl rfl (Nat.le_of_ble_eq_true rfl) d_Sz_flowThroughOpenings_50 (fun H locs hP hD hS => ?_)
                have hP : va_P D vwCl (va_pl (L) (va_up (va_up (va_up (va_up f2 (AD 1 i) (.inr (1, [.ref (AD 0 (P 1 i)), .ref (AD 0 g), .int (I 12 i), .int (I 13 i), .int (I 14 i), .int (I 15 i), .int (I 16 i), .long (J2 10 i), .long (J2 11 i), .long ((J2 12 i) + m_abs (J2 10 i))]))) (AD 0 (P 1 i)) (.inr (0, [.int (I 0 (P 1 i)), .int (I 1 (P 1 i)), .long (J2 0 (P 1 i)), .long ((J2 1 (P 1 i)) + -(J2 10 i)), .long ((J2 2 (P 1 i)) + m_nh (J2 10 i) (J2 11 i)), .int (I 2 (P 1 i)), .int (I 3 (P 1 i)), .int (I 4 (P 1 i))]))) (AD 0 g) (.inr (0, [.int (I 0 g), .int (I 1 g), .long (J2 0 g), .long ((J2 1 g) + (J2 10 i)), .long ((J2 2 g) + m_fh (J2 10 i) (J2 11 i)), .int (I 2 g), .int (I 3 g), .int (I 4 g)]))) (AD 9 0) (.inr (6, [.ref (AD 8 0), .ref (AD 8 1), .ref (AD 8 2), .ref (AD 8 3), .ref (AD 8 4), .ref (AD 8 5), .int (nI (n 0)), .int (nI (n 1)), .int (nI (n 2)), .int (nI (n 3)), .int (nI (n 4)), .int (nI (n 5)), .int (I 99 0), .long (J2 99 0), .long ((J2 99 1) + 0), .long (J2 99 2), .long (J2 99 3)])))) H := hP
                have hD : va_D A (va_pl (L) (va_up (va_up (va_up (va_up f2 (AD 1 i) (.inr (1, [.ref (AD 0 (P 1 i)), .ref (AD 0 g), .int (I 12 i), .int (I 13 i), .int (I 14 i), .int (I 15 i), .int (I 16 i), .long (J2 10 i), .long (J2 11 i), .long ((J2 12 i) + m_abs (J2 10 i))]))) (AD 0 (P 1 i)) (.inr (0, [.int (I 0 (P 1 i)), .int (I 1 (P 1 i)), .long (J2 0 (P 1 i)), .long ((J2 1 (P 1 i)) + -(J2 10 i)), .long ((J2 2 (P 1 i)) + m_nh (J2 10 i) (J2 11 i)), .int (I 2 (P 1 i)), .int (I 3 (P 1 i)), .int (I 4 (P 1 i))]))) (AD 0 g) (.inr (0, [.int (I 0 g), .int (I 1 g), .long (J2 0 g), .long ((J2 1 g) + (J2 10 i)), .long ((J2 2 g) + m_fh (J2 10 i) (J2 11 i)), .int (I 2 g), .int (I 3 g), .int (I 4 g)]))) (AD 9 0) (.inr (6, [.ref (AD 8 0), .ref (AD 8 1), .ref (AD 8 2), .ref (AD 8 3), .ref (AD 8 4), .ref (AD 8 5), .int (nI (n 0)), .int (nI (n 1)), .int (nI (n 2)), .int (nI (n 3)), .int (nI (n 4)), .int (nI (n 5)), .int (I 99 0), .long (J2 99 0), .long ((J2 99 1) + 0), .long (J2 99 2), .long (J2 99 3)])))) := hD
                have e_40 : (va_up (va_up (va_up (va_up f2 (AD 1 i) (.inr (1, [.ref (AD 0 (P 1 i)), .ref (AD 0 g), .int (I 12 i), .int (I 13 i), .int (I 14 i), .int (I 15 i), .int (I 16 i), .long (J2 10 i), .long (J2 11 i), .long ((J2 12 i) + m_abs (J2 10 i))]))) (AD 0 (P 1 i)) (.inr (0, [.int (I 0 (P 1 i)), .int (I 1 (P 1 i)), .long (J2 0 (P 1 i)), .long ((J2 1 (P 1 i)) + -(J2 10 i)), .long ((J2 2 (P 1 i)) + m_nh (J2 10 i) (J2 11 i)), .int (I 2 (P 1 i)), .int (I 3 (P 1 i)), .int (I 4 (P 1 i))]))) (AD 0 g) (.inr (0, [.int (I 0 g), .int (I 1 g), .long (J2 0 g), .long ((J2 1 g) + (J2 10 i)), .long ((J2 2 g) + m_fh (J2 10 i) (J2 11 i)), .int (I 2 g), .int (I 3 g), .int (I 4 g)]))) (AD 9 0) (.inr (6, [.ref (AD 8 0), .ref (AD 8 1), .ref (AD 8 2), .ref (AD 8 3), .ref (AD 8 4), .ref (AD 8 5), .int (nI (n 0)), .int (nI (n 1)), .int (nI (n 2)), .int (nI (n 3)), .int (nI (n 4)), .int (nI (n 5)), .int (I 99 0), .long (J2 99 0), .long ((J2 99 1) + 0), .long (J2 99 2), .long (J2 99 3)]))) (AD 9 0) = .inr (6, [.ref (AD 8 0), .ref (AD 8 1), .ref (AD 8 2), .ref (AD 8 3), .ref (AD 8 4), .ref (AD 8 5), .int (nI (n 0)), .int (nI (n 1)), .int (nI (n 2)), .int (nI (n 3)), .int (nI (n 4)), .int (nI (n 5)), .int (I 99 0), .long (J2 99 0), .long ((J2 99 1) + 0), .long (J2 99 2), .long (J2 99 3)]) := va_up_self _ _ _
                have e_41 : (va_up (va_up (va_up (va_up f2 (AD 1 i) (.inr (1, [.ref (AD 0 (P 1 i)), .ref (AD 0 g), .int (I 12 i), .int (I 13 i), .int (I 14 i), .int (I 15 i), .int (I 16 i), .long (J2 10 i), .long (J2 11 i), .long ((J2 12 i) + m_abs (J2 10 i))]))) (AD 0 (P 1 i)) (.inr (0, [.int (I 0 (P 1 i)), .int (I 1 (P 1 i)), .long (J2 0 (P 1 i)), .long ((J2 1 (P 1 i)) + -(J2 10 i)), .long ((J2 2 (P 1 i)) + m_nh (J2 10 i) (J2 11 i)), .int (I 2 (P 1 i)), .int (I 3 (P 1 i)), .int (I 4 (P 1 i))]))) (AD 0 g) (.inr (0, [.int (I 0 g), .int (I 1 g), .long (J2 0 g), .long ((J2 1 g) + (J2 10 i)), .long ((J2 2 g) + m_fh (J2 10 i) (J2 11 i)), .int (I 2 g), .int (I 3 g), .int (I 4 g)]))) (AD 9 0) (.inr (6, [.ref (AD 8 0), .ref (AD 8 1), .ref (AD 8 2), .ref (AD 8 3), .ref (AD 8 4), .ref (AD 8 5), .int (nI (n 0)), .int (nI (n 1)), .int (nI (n 2)), .int (nI (n 3)), .int (nI (n 4)), .int (nI (n 5)), .int (I 99 0), .long (J2 99 0), .long ((J2 99 1) + 0), .long (J2 99 2), .long (J2 99 3)]))) (AD 1 i) = .inr (1, [.ref (AD 0 (P 1 i)), .ref (AD 0 g), .int (I 12 i), .int (I 13 i), .int (I 14 i), .int (I 15 i), .int (I 16 i), .long (J2 10 i), .long (J2 11 i), .long ((J2 12 i) + m_abs (J2 10 i))]) := (va_up_ne _ _ ne_AD_1_i_AD_9_0).trans e_37
                have e_42 : (va_up (va_up (va_up (va_up f2 (AD 1 i) (.inr (1, [.ref (AD 0 (P 1 i)), .ref (AD 0 g), .int (I 12 i), .int (I 13 i), .int (I 14 i), .int (I 15 i), .int (I 16 i), .long (J2 10 i), .long (J2 11 i), .long ((J2 12 i) + m_abs (J2 10 i))]))) (AD 0 (P 1 i)) (.inr (0, [.int (I 0 (P 1 i)), .int (I 1 (P 1 i)), .long (J2 0 (P 1 i)), .long ((J2 1 (P 1 i)) + -(J2 10 i)), .long ((J2 2 (P 1 i)) + m_nh (J2 10 i) (J2 11 i)), .int (I 2 (P 1 i)), .int (I 3 (P 1 i)), .int (I 4 (P 1 i))]))) (AD 0 g) (.inr (0, [.int (I 0 g), .int (I 1 g), .long (J2 0 g), .long ((J2 1 g) + (J2 10 i)), .long ((J2 2 g) + m_fh (J2 10 i) (J2 11 i)), .int (I 2 g), .int (I 3 g), .int (I 4 g)]))) (AD 9 0) (.inr (6, [.ref (AD 8 0), .ref (AD 8 1), .ref (AD 8 2), .ref (AD 8 3), .ref (AD 8 4), .ref (AD 8 5), .int (nI (n 0)), .int (nI (n 1)), .int (nI (n 2)), .int (nI (n 3)), .int (nI (n 4)), .int (nI (n 5)), .int (I 99 0), .long (J2 99 0), .long ((J2 99 1) + 0), .long (J2 99 2), .long (J2 99 3)]))) (AD 0 (P 1 i)) = .inr (0, [.int (I 0 (P 1 i)), .int (I 1 (P 1 i)), .long (J2 0 (P 1 i)), .long ((J2 1 (P 1 i)) + -(J2 10 i)), .long ((J2 2 (P 1 i)) + m_nh (J2 10 i) (J2 11 i)), .int (I 2 (P 1 i)), .int (I 3 (P 1 i)), .int (I 4 (P 1 i))]) := (va_up_ne _ _ ne_AD_0_P_1_i_AD_9_0).trans e_38
                have e_43 : (va_up (va_up (va_up (va_up f2 (AD 1 i) (.inr (1, [.ref (AD 0 (P 1 i)), .ref (AD 0 g), .int (I 12 i), .int (I 13 i), .int (I 14 i), .int (I 15 i), .int (I 16 i), .long (J2 10 i), .long (J2 11 i), .long ((J2 12 i) + m_abs (J2 10 i))]))) (AD 0 (P 1 i)) (.inr (0, [.int (I 0 (P 1 i)), .int (I 1 (P 1 i)), .long (J2 0 (P 1 i)), .long ((J2 1 (P 1 i)) + -(J2 10 i)), .long ((J2 2 (P 1 i)) + m_nh (J2 10 i) (J2 11 i)), .int (I 2 (P 1 i)), .int (I 3 (P 1 i)), .int (I 4 (P 1 i))]))) (AD 0 g) (.inr (0, [.int (I 0 g), .int (I 1 g), .long (J2 0 g), .long ((J2 1 g) + (J2 10 i)), .long ((J2 2 g) + m_fh (J2 10 i) (J2 11 i)), .int (I 2 g), .int (I 3 g), .int (I 4 g)]))) (AD 9 0) (.inr (6, [.ref (AD 8 0), .ref (AD 8 1), .ref (AD 8 2), .ref (AD 8 3), .ref (AD 8 4), .ref (AD 8 5), .int (nI (n 0)), .int (nI (n 1)), .int (nI (n 2)), .int (nI (n 3)), .int (nI (n 4)), .int (nI (n 5)), .int (I 99 0), .long (J2 99 0), .long ((J2 99 1) + 0), .long (J2 99 2), .long (J2 99 3)]))) (AD 0 g) = .inr (0, [.int (I 0 g), .int (I 1 g), .long (J2 0 g), .long ((J2 1 g) + (J2 10 i)), .long ((J2 2 g) + m_fh (J2 10 i) (J2 11 i)), .int (I 2 g), .int (I 3 g), .int (I 4 g)]) := (va_up_ne _ _ ne_AD_0_g_AD_9_0).trans e_35
                have e_44 : (va_up (va_up (va_up (va_up f2 (AD 1 i) (.inr (1, [.ref (AD 0 (P 1 i)), .ref (AD 0 g), .int (I 12 i), .int (I 13 i), .int (I 14 i), .int (I 15 i), .int (I 16 i), .long (J2 10 i), .long (J2 11 i), .long ((J2 12 i) + m_abs (J2 10 i))]))) (AD 0 (P 1 i)) (.inr (0, [.int (I 0 (P 1 i)), .int (I 1 (P 1 i)), .long (J2 0 (P 1 i)), .long ((J2 1 (P 1 i)) + -(J2 10 i)), .long ((J2 2 (P 1 i)) + m_nh (J2 10 i) (J2 11 i)), .int (I 2 (P 1 i)), .int (I 3 (P 1 i)), .int (I 4 (P 1 i))]))) (AD 0 g) (.inr (0, [.int (I 0 g), .int (I 1 g), .long (J2 0 g), .long ((J2 1 g) + (J2 10 i)), .long ((J2 2 g) + m_fh (J2 10 i) (J2 11 i)), .int (I 2 g), .int (I 3 g), .int (I 4 g)]))) (AD 9 0) (.inr (6, [.ref (AD 8 0), .ref (AD 8 1), .ref (AD 8 2), .ref (AD 8 3), .ref (AD 8 4), .ref (AD 8 5), .int (nI (n 0)), .int (nI (n 1)), .int (nI (n 2)), .int (nI (n 3)), .int (nI (n 4)), .int (nI (n 5)), .int (I 99 0), .long (J2 99 0), .long ((J2 99 1) + 0), .long (J2 99 2), .long (J2 99 3)]))) (AD 8 1) = .inl (ct 1, 15, .inr (.inr (.inr (.inr (fun j => if j < n 1 then some (AD 1 j) else none))))) := (va_up_ne _ _ ne_AD_8_1_AD_9_0).trans e_39
                refine lv_iinc (v := nI (i + 1)) (lv' := [(1, .int (nI (i + 1))), (0, .ref (AD 9 0))]) hx hb d_Sz_flowThroughOpenings_53 hl (k := 0) rfl (nI_1 i) (by decide) rfl (fun ls hl => ?_)
                refine lv_goto (tgt := 27) hx hb d_Sz_flowThroughOpenings_56 (by decide) ?_
                have hvs : vS P i J2 = up2 (sRo (sRo (up2 J2 12 i (J2 12 i + m_abs (J2 10 i))) (P 1 i) (J2 1 (P 1 i) + -(J2 10 i)) (J2 2 (P 1 i) + m_nh (J2 10 i) (J2 11 i))) g (J2 1 g + J2 10 i) (J2 2 g + m_fh (J2 10 i) (J2 11 i))) 99 1 (J2 99 1 + 0) := by simp only [vS, hp2]
                have hgr2 : g ≠ P 1 i := by omega
                have hgr3 : P 1 i ≠ g := by omega
                have hN0 : CW ct AD L n I (up2 J2 12 i (J2 12 i + m_abs (J2 10 i))) P _ := hC1.set (k := 1) (i := i) (lv0 (by decide) hi) (co_op (fun _ _ _ => rfl) (fun a b h => up_hO a b (by omega))) hC1.2.2
                have hN1 : CW ct AD L n I (sRo (up2 J2 12 i (J2 12 i + m_abs (J2 10 i))) (P 1 i) (J2 1 (P 1 i) + -(J2 10 i)) (J2 2 (P 1 i) + m_nh (J2 10 i) (J2 11 i))) P _ := hN0.set (k := 0) (i := (P 1 i)) (lv0 (by decide) hr) (co_ro (fun _ _ _ => rfl) sRo_hJ) hC1.2.2
                have hN2 : CW ct AD L n I (sRo (sRo (up2 J2 12 i (J2 12 i + m_abs (J2 10 i))) (P 1 i) (J2 1 (P 1 i) + -(J2 10 i)) (J2 2 (P 1 i) + m_nh (J2 10 i) (J2 11 i))) g (J2 1 g + J2 10 i) (J2 2 g + m_fh (J2 10 i) (J2 11 i))) P _ := hN1.set (k := 0) (i := g) (lv0 (by decide) hg) (co_ro (fun _ _ _ => rfl) sRo_hJ) hC1.2.2
                have hN3 : CW ct AD L n I (up2 (sRo (sRo (up2 J2 12 i (J2 12 i + m_abs (J2 10 i))) (P 1 i) (J2 1 (P 1 i) + -(J2 10 i)) (J2 2 (P 1 i) + m_nh (J2 10 i) (J2 11 i))) g (J2 1 g + J2 10 i) (J2 2 g + m_fh (J2 10 i) (J2 11 i))) 99 1 (J2 99 1 + 0)) P _ := hN2.set (k := 9) (i := 0) (lv9) (co_ma (fun _ _ _ => rfl) t99_hJ) hC1.2.2
                have hN : CW ct AD L n I (up2 (sRo (sRo (up2 J2 12 i (J2 12 i + m_abs (J2 10 i))) (P 1 i) (J2 1 (P 1 i) + -(J2 10 i)) (J2 2 (P 1 i) + m_nh (J2 10 i) (J2 11 i))) g (J2 1 g + J2 10 i) (J2 2 g + m_fh (J2 10 i) (J2 11 i))) 99 1 (J2 99 1 + 0)) P (va_up (va_up (va_up (va_up f2 (AD 1 i) (.inr (1, [.ref (AD 0 (P 1 i)), .ref (AD 0 g), .int (I 12 i), .int (I 13 i), .int (I 14 i), .int (I 15 i), .int (I 16 i), .long (J2 10 i), .long (J2 11 i), .long ((J2 12 i) + m_abs (J2 10 i))]))) (AD 0 (P 1 i)) (.inr (0, [.int (I 0 (P 1 i)), .int (I 1 (P 1 i)), .long (J2 0 (P 1 i)), .long ((J2 1 (P 1 i)) + -(J2 10 i)), .long ((J2 2 (P 1 i)) + m_nh (J2 10 i) (J2 11 i)), .int (I 2 (P 1 i)), .int (I 3 (P 1 i)), .int (I 4 (P 1 i))]))) (AD 0 g) (.inr (0, [.int (I 0 g), .int (I 1 g), .long (J2 0 g), .long ((J2 1 g) + (J2 10 i)), .long ((J2 2 g) + m_fh (J2 10 i) (J2 11 i)), .int (I 2 g), .int (I 3 g), .int (I 4 g)]))) (AD 9 0) (.inr (6, [.ref (AD 8 0), .ref (AD 8 1), .ref (AD 8 2), .ref (AD 8 3), .ref (AD 8 4), .ref (AD 8 5), .int (nI (n 0)), .int (nI (n 1)), .int (nI (n 2)), .int (nI (n 3)), .int (nI (n 4)), .int (nI (n 5)), .int (I 99 0), .long (J2 99 0), .long ((J2 99 1) + 0), .long (J2 99 2), .long (J2 99 3)]))) := by
                  refine cast (congrArg (CW ct AD L n I (up2 (sRo (sRo (up2 J2 12 i (J2 12 i + m_abs (J2 10 i))) (P 1 i) (J2 1 (P 1 i) + -(J2 10 i)) (J2 2 (P 1 i) + m_nh (J2 10 i) (J2 11 i))) g (J2 1 g + J2 10 i) (J2 2 g + m_fh (J2 10 i) (J2 11 i))) 99 1 (J2 99 1 + 0)) P) ?_) hN3
                  simp [cellOf, roomE, mainE, openE, steelE, farV, up2, sRo, hp2, hgr2, hgr3]
                rw [← hvs] at hN
                exact ih1 (i + 1) _ _ _ _ _ (by omega) hN hP hD hS (lv_sub hl [0, 1] rfl) hfin1
        exact lp1 (n 1) 0 J1 f1 _ _ _ (by omega) hC0 hP hD hS (lv_sub hl [0, 1] rfl) rfl
      · exact (ge_yes (by omega) (by omega) c_2).elim
    | succ k ih0 =>
      intro i J1 f1 H locs ls hik0 hC0 hP hD hS hl hfin0
      have hcap := hC0.cap1
      obtain ⟨g_45L, g_45E⟩ := hC0.ma
      have hi : i < n 1 := by omega
      refine lv_iload_n hx hb d_Sz_flowThroughOpenings_2 rfl (lv_at hl 0 rfl) ?_
      refine lv_aload_n hx hb d_Sz_flowThroughOpenings_3 rfl (lv_at hl 1 rfl) ?_
      refine pg_get (C := "SmokeZones") (T := T_Sz) (N := 17) hx hb hG in_Sz hown hK hP g_45L g_45E rfl 7 (by decide) (hG _ k42) (fun _ h9 => h9) rfl d_Sz_flowThroughOpenings_4 ?_
      refine lv_icmp_ge (tgt := 25) hx hb d_Sz_flowThroughOpenings_7 (by decide) (fun c_46 => ?_) (fun c_46 => ?_)
      · exact (ge_no hi (by omega) c_46).elim
      · obtain ⟨hr, hg2, hgr⟩ := hC0.2.2.2.1 i hi
        have hc0 := hC0.cap0
        obtain ⟨g_47L, g_47E0⟩ := hC0.op hi
        rcases hp2 : P 2 i with _ | g
        · have g_47E : f1 (AD 1 i) = .inr (1, [.ref (AD 0 (P 1 i)), .null, .int (I 12 i), .int (I 13 i), .int (I 14 i), .int (I 15 i), .int (I 16 i), .long (J1 10 i), .long (J1 11 i), .long (J1 12 i)]) := by rw [g_47E0, hp2]; rfl
          obtain ⟨g_48L, g_48E⟩ := hC0.ro hr
          obtain ⟨g_49L, g_49E⟩ := hC0.a1
          have ne_AD_9_0_AD_1_i : AD 9 0 ≠ AD 1 i := hC0.ne (k := 9) (i := 0) (k' := 1) (i' := i) (lv9) (lv0 (by decide) hi) (by omega)
          have ne_AD_9_0_AD_0_P_1_i : AD 9 0 ≠ AD 0 (P 1 i) := hC0.ne (k := 9) (i := 0) (k' := 0) (i' := (P 1 i)) (lv9) (lv0 (by decide) hr) (by omega)
          have ne_AD_9_0_AD_8_1 : AD 9 0 ≠ AD 8 1 := hC0.ne (k := 9) (i := 0) (k' := 8) (i' := 1) (lv9) (lv8 (by decide)) (by omega)
          have ne_AD_1_i_AD_9_0 : AD 1 i ≠ AD 9 0 := hC0.ne (k := 1) (i := i) (k' := 9) (i' := 0) (lv0 (by decide) hi) (lv9) (by omega)
          have ne_AD_1_i_AD_0_P_1_i : AD 1 i ≠ AD 0 (P 1 i) := hC0.ne (k := 1) (i := i) (k' := 0) (i' := (P 1 i)) (lv0 (by decide) hi) (lv0 (by decide) hr) (by omega)
          have ne_AD_1_i_AD_8_1 : AD 1 i ≠ AD 8 1 := hC0.ne (k := 1) (i := i) (k' := 8) (i' := 1) (lv0 (by decide) hi) (lv8 (by decide)) (by omega)
          have ne_AD_0_P_1_i_AD_9_0 : AD 0 (P 1 i) ≠ AD 9 0 := hC0.ne (k := 0) (i := (P 1 i)) (k' := 9) (i' := 0) (lv0 (by decide) hr) (lv9) (by omega)
          have ne_AD_0_P_1_i_AD_1_i : AD 0 (P 1 i) ≠ AD 1 i := hC0.ne (k := 0) (i := (P 1 i)) (k' := 1) (i' := i) (lv0 (by decide) hr) (lv0 (by decide) hi) (by omega)
          have ne_AD_0_P_1_i_AD_8_1 : AD 0 (P 1 i) ≠ AD 8 1 := hC0.ne (k := 0) (i := (P 1 i)) (k' := 8) (i' := 1) (lv0 (by decide) hr) (lv8 (by decide)) (by omega)
          have ne_AD_8_1_AD_9_0 : AD 8 1 ≠ AD 9 0 := hC0.ne (k := 8) (i := 1) (k' := 9) (i' := 0) (lv8 (by decide)) (lv9) (by omega)
          have ne_AD_8_1_AD_1_i : AD 8 1 ≠ AD 1 i := hC0.ne (k := 8) (i := 1) (k' := 1) (i' := i) (lv8 (by decide)) (lv0 (by decide) hi) (by omega)
          have ne_AD_8_1_AD_0_P_1_i : AD 8 1 ≠ AD 0 (P 1 i) := hC0.ne (k := 8) (i := 1) (k' := 0) (i' := (P 1 i)) (lv8 (by decide)) (lv0 (by decide) hr) (by omega)
          refine lv_aload_n hx hb d_Sz_flowThroughOpenings_10 rfl (lv_at hl 1 rfl) ?_
          refine pg_get (C := "SmokeZones") (T := T_Sz) (N := 17) hx hb hG in_Sz hown hK hP g_45L g_45E rfl 1 (by decide) (hG _ k36) (fun _ h9 => h9) rfl d_Sz_flowThroughOpenings_11 ?_
          refine lv_iload_n hx hb d_Sz_flowThroughOpenings_14 rfl (lv_at hl 0 rfl) ?_
          refine pg_ald hx hb hK hP 1 g_49L g_49E rfl (vp_in_nI (by omega) (by decide)) (rf_at hi (by omega)) d_Sz_flowThroughOpenings_15 ?_
          refine kV_wv (f' := va_up f1 (AD 1 i) (.inr (1, [.ref (AD 0 (P 1 i)), .null, .int (I 12 i), .int (I 13 i), .int (I 14 i), .int (I 15 i), .int (I 16 i), .long (m_flN (m_open (I 15 i) (I 16 i)) (I 12 i) (m_cov (I 0 (P 1 i)) (I 1 (P 1 i)) (J1 1 (P 1 i)) (I 13 i) (I 14 i)) (J1 1 (P 1 i))), .long (m_fhN (m_open (I 15 i) (I 16 i)) (I 12 i) (m_cov (I 0 (P 1 i)) (I 1 (P 1 i)) (J1 1 (P 1 i)) (I 13 i) (I 14 i)) (J1 1 (P 1 i)) (J1 2 (P 1 i))), .long (J1 12 i)]))) ⟨hx, hb, hml, hown, hG⟩ (c_Op_measureFlow_n g_47L g_47E g_48L g_48E) (cwV 0 hG (gV k458 k459 k460 k9 k461) rfl rfl rfl hd_Op_measureFlow ⟨Nat.le_of_ble_eq_true rfl, Nat.le_of_ble_eq_true rfl⟩) hK hP hD hS hA g_47L g_47E rfl rfl hl.1 rfl (Nat.le_of_ble_eq_true rfl) ⟨Nat.le_of_ble_eq_true rfl, Nat.le_of_ble_eq_true rfl⟩ d_Sz_flowThroughOpenings_16 (fun H locs hP hD hS => ?_)
          have e_50 : (va_up f1 (AD 1 i) (.inr (1, [.ref (AD 0 (P 1 i)), .null, .int (I 12 i), .int (I 13 i), .int (I 14 i), .int (I 15 i), .int (I 16 i), .long (m_flN (m_open (I 15 i) (I 16 i)) (I 12 i) (m_cov (I 0 (P 1 i)) (I 1 (P 1 i)) (J1 1 (P 1 i)) (I 13 i) (I 14 i)) (J1 1 (P 1 i))), .long (m_fhN (m_open (I 15 i) (I 16 i)) (I 12 i) (m_cov (I 0 (P 1 i)) (I 1 (P 1 i)) (J1 1 (P 1 i)) (I 13 i) (I 14 i)) (J1 1 (P 1 i)) (J1 2 (P 1 i))), .long (J1 12 i)]))) (AD 1 i) = .inr (1, [.ref (AD 0 (P 1 i)), .null, .int (I 12 i), .int (I 13 i), .int (I 14 i), .int (I 15 i), .int (I 16 i), .long (m_flN (m_open (I 15 i) (I 16 i)) (I 12 i) (m_cov (I 0 (P 1 i)) (I 1 (P 1 i)) (J1 1 (P 1 i)) (I 13 i) (I 14 i)) (J1 1 (P 1 i))), .long (m_fhN (m_open (I 15 i) (I 16 i)) (I 12 i) (m_cov (I 0 (P 1 i)) (I 1 (P 1 i)) (J1 1 (P 1 i)) (I 13 i) (I 14 i)) (J1 1 (P 1 i)) (J1 2 (P 1 i))), .long (J1 12 i)]) := va_up_self _ _ _
          have e_51 : (va_up f1 (AD 1 i) (.inr (1, [.ref (AD 0 (P 1 i)), .null, .int (I 12 i), .int (I 13 i), .int (I 14 i), .int (I 15 i), .int (I 16 i), .long (m_flN (m_open (I 15 i) (I 16 i)) (I 12 i) (m_cov (I 0 (P 1 i)) (I 1 (P 1 i)) (J1 1 (P 1 i)) (I 13 i) (I 14 i)) (J1 1 (P 1 i))), .long (m_fhN (m_open (I 15 i) (I 16 i)) (I 12 i) (m_cov (I 0 (P 1 i)) (I 1 (P 1 i)) (J1 1 (P 1 i)) (I 13 i) (I 14 i)) (J1 1 (P 1 i)) (J1 2 (P 1 i))), .long (J1 12 i)]))) (AD 9 0) = .inr (6, [.ref (AD 8 0), .ref (AD 8 1), .ref (AD 8 2), .ref (AD 8 3), .ref (AD 8 4), .ref (AD 8 5), .int (nI (n 0)), .int (nI (n 1)), .int (nI (n 2)), .int (nI (n 3)), .int (nI (n 4)), .int (nI (n 5)), .int (I 99 0), .long (J1 99 0), .long (J1 99 1), .long (J1 99 2), .long (J1 99 3)]) := (va_up_ne _ _ ne_AD_9_0_AD_1_i).trans g_45E
          have e_52 : (va_up f1 (AD 1 i) (.inr (1, [.ref (AD 0 (P 1 i)), .null, .int (I 12 i), .int (I 13 i), .int (I 14 i), .int (I 15 i), .int (I 16 i), .long (m_flN (m_open (I 15 i) (I 16 i)) (I 12 i) (m_cov (I 0 (P 1 i)) (I 1 (P 1 i)) (J1 1 (P 1 i)) (I 13 i) (I 14 i)) (J1 1 (P 1 i))), .long (m_fhN (m_open (I 15 i) (I 16 i)) (I 12 i) (m_cov (I 0 (P 1 i)) (I 1 (P 1 i)) (J1 1 (P 1 i)) (I 13 i) (I 14 i)) (J1 1 (P 1 i)) (J1 2 (P 1 i))), .long (J1 12 i)]))) (AD 0 (P 1 i)) = .inr (0, [.int (I 0 (P 1 i)), .int (I 1 (P 1 i)), .long (J1 0 (P 1 i)), .long (J1 1 (P 1 i)), .long (J1 2 (P 1 i)), .int (I 2 (P 1 i)), .int (I 3 (P 1 i)), .int (I 4 (P 1 i))]) := (va_up_ne _ _ ne_AD_0_P_1_i_AD_1_i).trans g_48E
          have e_53 : (va_up f1 (AD 1 i) (.inr (1, [.ref (AD 0 (P 1 i)), .null, .int (I 12 i), .int (I 13 i), .int (I 14 i), .int (I 15 i), .int (I 16 i), .long (m_flN (m_open (I 15 i) (I 16 i)) (I 12 i) (m_cov (I 0 (P 1 i)) (I 1 (P 1 i)) (J1 1 (P 1 i)) (I 13 i) (I 14 i)) (J1 1 (P 1 i))), .long (m_fhN (m_open (I 15 i) (I 16 i)) (I 12 i) (m_cov (I 0 (P 1 i)) (I 1 (P 1 i)) (J1 1 (P 1 i)) (I 13 i) (I 14 i)) (J1 1 (P 1 i)) (J1 2 (P 1 i))), .long (J1 12 i)]))) (AD 8 1) = .inl (ct 1, 15, .inr (.inr (.inr (.inr (fun j => if j < n 1 then some (AD 1 j) else none))))) := (va_up_ne _ _ ne_AD_8_1_AD_1_i).trans g_49E
          refine lv_iinc (v := nI (i + 1)) (lv' := [(1, .int (nI (i + 1))), (0, .ref (AD 9 0))]) hx hb d_Sz_flowThroughOpenings_19 hl (k := 0) rfl (nI_1 i) (by decide) rfl (fun ls hl => ?_)
          refine lv_goto (tgt := 2) hx hb d_Sz_flowThroughOpenings_22 (by decide) ?_
          have hN0 : CW ct AD L n I (mS I P i J1) P _ := hC0.set (k := 1) (i := i) (lv0 (by decide) hi) (co_op (fun _ _ _ => rfl) mS_hJ) hC0.2.2
          have hN : CW ct AD L n I (mS I P i J1) P (va_up f1 (AD 1 i) (.inr (1, [.ref (AD 0 (P 1 i)), .null, .int (I 12 i), .int (I 13 i), .int (I 14 i), .int (I 15 i), .int (I 16 i), .long (m_flN (m_open (I 15 i) (I 16 i)) (I 12 i) (m_cov (I 0 (P 1 i)) (I 1 (P 1 i)) (J1 1 (P 1 i)) (I 13 i) (I 14 i)) (J1 1 (P 1 i))), .long (m_fhN (m_open (I 15 i) (I 16 i)) (I 12 i) (m_cov (I 0 (P 1 i)) (I 1 (P 1 i)) (J1 1 (P 1 i)) (I 13 i) (I 14 i)) (J1 1 (P 1 i)) (J1 2 (P 1 i))), .long (J1 12 i)]))) := by
            refine cast (congrArg (CW ct AD L n I (mS I P i J1) P) ?_) hN0
            simp [cellOf, roomE, mainE, openE, steelE, farV, up2, mS, mFl, mHt, cvR, hp2]
          exact ih0 (i + 1) _ _ _ _ _ (by omega) hN hP hD hS (lv_sub hl [0, 1] rfl) hfin0
        · have g_47E : f1 (AD 1 i) = .inr (1, [.ref (AD 0 (P 1 i)), .ref (AD 0 g), .int (I 12 i), .int (I 13 i), .int (I 14 i), .int (I 15 i), .int (I 16 i), .long (J1 10 i), .long (J1 11 i), .long (J1 12 i)]) := by rw [g_47E0, hp2]; rfl
          obtain ⟨g_54L, g_54E⟩ := hC0.ro hr
          have hg : g < n 0 := by omega
          obtain ⟨g_55L, g_55E⟩ := hC0.ro hg
          obtain ⟨g_56L, g_56E⟩ := hC0.a1
          have ne_AD_9_0_AD_1_i : AD 9 0 ≠ AD 1 i := hC0.ne (k := 9) (i := 0) (k' := 1) (i' := i) (lv9) (lv0 (by decide) hi) (by omega)
          have ne_AD_9_0_AD_0_P_1_i : AD 9 0 ≠ AD 0 (P 1 i) := hC0.ne (k := 9) (i := 0) (k' := 0) (i' := (P 1 i)) (lv9) (lv0 (by decide) hr) (by omega)
          have ne_AD_9_0_AD_0_g : AD 9 0 ≠ AD 0 g := hC0.ne (k := 9) (i := 0) (k' := 0) (i' := g) (lv9) (lv0 (by decide) hg) (by omega)
          have ne_AD_9_0_AD_8_1 : AD 9 0 ≠ AD 8 1 := hC0.ne (k := 9) (i := 0) (k' := 8) (i' := 1) (lv9) (lv8 (by decide)) (by omega)
          have ne_AD_1_i_AD_9_0 : AD 1 i ≠ AD 9 0 := hC0.ne (k := 1) (i := i) (k' := 9) (i' := 0) (lv0 (by decide) hi) (lv9) (by omega)
          have ne_AD_1_i_AD_0_P_1_i : AD 1 i ≠ AD 0 (P 1 i) := hC0.ne (k := 1) (i := i) (k' := 0) (i' := (P 1 i)) (lv0 (by decide) hi) (lv0 (by decide) hr) (by omega)
          have ne_AD_1_i_AD_0_g : AD 1 i ≠ AD 0 g := hC0.ne (k := 1) (i := i) (k' := 0) (i' := g) (lv0 (by decide) hi) (lv0 (by decide) hg) (by omega)
          have ne_AD_1_i_AD_8_1 : AD 1 i ≠ AD 8 1 := hC0.ne (k := 1) (i := i) (k' := 8) (i' := 1) (lv0 (by decide) hi) (lv8 (by decide)) (by omega)
          have ne_AD_0_P_1_i_AD_9_0 : AD 0 (P 1 i) ≠ AD 9 0 := hC0.ne (k := 0) (i := (P 1 i)) (k' := 9) (i' := 0) (lv0 (by decide) hr) (lv9) (by omega)
          have ne_AD_0_P_1_i_AD_1_i : AD 0 (P 1 i) ≠ AD 1 i := hC0.ne (k := 0) (i := (P 1 i)) (k' := 1) (i' := i) (lv0 (by decide) hr) (lv0 (by decide) hi) (by omega)
          have ne_AD_0_P_1_i_AD_0_g : AD 0 (P 1 i) ≠ AD 0 g := hC0.ne (k := 0) (i := (P 1 i)) (k' := 0) (i' := g) (lv0 (by decide) hr) (lv0 (by decide) hg) (by omega)
          have ne_AD_0_P_1_i_AD_8_1 : AD 0 (P 1 i) ≠ AD 8 1 := hC0.ne (k := 0) (i := (P 1 i)) (k' := 8) (i' := 1) (lv0 (by decide) hr) (lv8 (by decide)) (by omega)
          have ne_AD_0_g_AD_9_0 : AD 0 g ≠ AD 9 0 := hC0.ne (k := 0) (i := g) (k' := 9) (i' := 0) (lv0 (by decide) hg) (lv9) (by omega)
          have ne_AD_0_g_AD_1_i : AD 0 g ≠ AD 1 i := hC0.ne (k := 0) (i := g) (k' := 1) (i' := i) (lv0 (by decide) hg) (lv0 (by decide) hi) (by omega)
          have ne_AD_0_g_AD_0_P_1_i : AD 0 g ≠ AD 0 (P 1 i) := hC0.ne (k := 0) (i := g) (k' := 0) (i' := (P 1 i)) (lv0 (by decide) hg) (lv0 (by decide) hr) (by omega)
          have ne_AD_0_g_AD_8_1 : AD 0 g ≠ AD 8 1 := hC0.ne (k := 0) (i := g) (k' := 8) (i' := 1) (lv0 (by decide) hg) (lv8 (by decide)) (by omega)
          have ne_AD_8_1_AD_9_0 : AD 8 1 ≠ AD 9 0 := hC0.ne (k := 8) (i := 1) (k' := 9) (i' := 0) (lv8 (by decide)) (lv9) (by omega)
          have ne_AD_8_1_AD_1_i : AD 8 1 ≠ AD 1 i := hC0.ne (k := 8) (i := 1) (k' := 1) (i' := i) (lv8 (by decide)) (lv0 (by decide) hi) (by omega)
          have ne_AD_8_1_AD_0_P_1_i : AD 8 1 ≠ AD 0 (P 1 i) := hC0.ne (k := 8) (i := 1) (k' := 0) (i' := (P 1 i)) (lv8 (by decide)) (lv0 (by decide) hr) (by omega)
          have ne_AD_8_1_AD_0_g : AD 8 1 ≠ AD 0 g := hC0.ne (k := 8) (i := 1) (k' := 0) (i' := g) (lv8 (by decide)) (lv0 (by decide) hg) (by omega)
          refine lv_aload_n hx hb d_Sz_flowThroughOpenings_10 rfl (lv_at hl 1 rfl) ?_
          refine pg_get (C := "SmokeZones") (T := T_Sz) (N := 17) hx hb hG in_Sz hown hK hP g_45L g_45E rfl 1 (by decide) (hG _ k36) (fun _ h9 => h9) rfl d_Sz_flowThroughOpenings_11 ?_
          refine lv_iload_n hx hb d_Sz_flowThroughOpenings_14 rfl (lv_at hl 0 rfl) ?_
          refine pg_ald hx hb hK hP 1 g_56L g_56E rfl (vp_in_nI (by omega) (by decide)) (rf_at hi (by omega)) d_Sz_flowThroughOpenings_15 ?_
          refine kV_wv (f' := va_up f1 (AD 1 i) (.inr (1, [.ref (AD 0 (P 1 i)), .ref (AD 0 g), .int (I 12 i), .int (I 13 i), .int (I 14 i), .int (I 15 i), .int (I 16 i), .long (m_flS (m_open (I 15 i) (I 16 i)) (I 12 i) (m_cov (I 0 (P 1 i)) (I 1 (P 1 i)) (J1 1 (P 1 i)) (I 13 i) (I 14 i)) (m_cov (I 0 g) (I 1 g) (J1 1 g) (I 13 i) (I 14 i)) (J1 1 (P 1 i)) (J1 1 g)), .long (m_fhS (m_open (I 15 i) (I 16 i)) (I 12 i) (m_cov (I 0 (P 1 i)) (I 1 (P 1 i)) (J1 1 (P 1 i)) (I 13 i) (I 14 i)) (m_cov (I 0 g) (I 1 g) (J1 1 g) (I 13 i) (I 14 i)) (J1 1 (P 1 i)) (J1 2 (P 1 i)) (J1 1 g) (J1 2 g)), .long (J1 12 i)]))) ⟨hx, hb, hml, hown, hG⟩ (c_Op_measureFlow_s g_47L g_47E g_54L g_54E g_55L g_55E) (cwV 0 hG (gV k458 k459 k460 k9 k461) rfl rfl rfl hd_Op_measureFlow ⟨Nat.le_of_ble_eq_true rfl, Nat.le_of_ble_eq_true rfl⟩) hK hP hD hS hA g_47L g_47E rfl rfl hl.1 rfl (Nat.le_of_ble_eq_true rfl) ⟨Nat.le_of_ble_eq_true rfl, Nat.le_of_ble_eq_true rfl⟩ d_Sz_flowThroughOpenings_16 (fun H locs hP hD hS => ?_)
          have e_57 : (va_up f1 (AD 1 i) (.inr (1, [.ref (AD 0 (P 1 i)), .ref (AD 0 g), .int (I 12 i), .int (I 13 i), .int (I 14 i), .int (I 15 i), .int (I 16 i), .long (m_flS (m_open (I 15 i) (I 16 i)) (I 12 i) (m_cov (I 0 (P 1 i)) (I 1 (P 1 i)) (J1 1 (P 1 i)) (I 13 i) (I 14 i)) (m_cov (I 0 g) (I 1 g) (J1 1 g) (I 13 i) (I 14 i)) (J1 1 (P 1 i)) (J1 1 g)), .long (m_fhS (m_open (I 15 i) (I 16 i)) (I 12 i) (m_cov (I 0 (P 1 i)) (I 1 (P 1 i)) (J1 1 (P 1 i)) (I 13 i) (I 14 i)) (m_cov (I 0 g) (I 1 g) (J1 1 g) (I 13 i) (I 14 i)) (J1 1 (P 1 i)) (J1 2 (P 1 i)) (J1 1 g) (J1 2 g)), .long (J1 12 i)]))) (AD 1 i) = .inr (1, [.ref (AD 0 (P 1 i)), .ref (AD 0 g), .int (I 12 i), .int (I 13 i), .int (I 14 i), .int (I 15 i), .int (I 16 i), .long (m_flS (m_open (I 15 i) (I 16 i)) (I 12 i) (m_cov (I 0 (P 1 i)) (I 1 (P 1 i)) (J1 1 (P 1 i)) (I 13 i) (I 14 i)) (m_cov (I 0 g) (I 1 g) (J1 1 g) (I 13 i) (I 14 i)) (J1 1 (P 1 i)) (J1 1 g)), .long (m_fhS (m_open (I 15 i) (I 16 i)) (I 12 i) (m_cov (I 0 (P 1 i)) (I 1 (P 1 i)) (J1 1 (P 1 i)) (I 13 i) (I 14 i)) (m_cov (I 0 g) (I 1 g) (J1 1 g) (I 13 i) (I 14 i)) (J1 1 (P 1 i)) (J1 2 (P 1 i)) (J1 1 g) (J1 2 g)), .long (J1 12 i)]) := va_up_self _ _ _
          have e_58 : (va_up f1 (AD 1 i) (.inr (1, [.ref (AD 0 (P 1 i)), .ref (AD 0 g), .int (I 12 i), .int (I 13 i), .int (I 14 i), .int (I 15 i), .int (I 16 i), .long (m_flS (m_open (I 15 i) (I 16 i)) (I 12 i) (m_cov (I 0 (P 1 i)) (I 1 (P 1 i)) (J1 1 (P 1 i)) (I 13 i) (I 14 i)) (m_cov (I 0 g) (I 1 g) (J1 1 g) (I 13 i) (I 14 i)) (J1 1 (P 1 i)) (J1 1 g)), .long (m_fhS (m_open (I 15 i) (I 16 i)) (I 12 i) (m_cov (I 0 (P 1 i)) (I 1 (P 1 i)) (J1 1 (P 1 i)) (I 13 i) (I 14 i)) (m_cov (I 0 g) (I 1 g) (J1 1 g) (I 13 i) (I 14 i)) (J1 1 (P 1 i)) (J1 2 (P 1 i)) (J1 1 g) (J1 2 g)), .long (J1 12 i)]))) (AD 9 0) = .inr (6, [.ref (AD 8 0), .ref (AD 8 1), .ref (AD 8 2), .ref (AD 8 3), .ref (AD 8 4), .ref (AD 8 5), .int (nI (n 0)), .int (nI (n 1)), .int (nI (n 2)), .int (nI (n 3)), .int (nI (n 4)), .int (nI (n 5)), .int (I 99 0), .long (J1 99 0), .long (J1 99 1), .long (J1 99 2), .long (J1 99 3)]) := (va_up_ne _ _ ne_AD_9_0_AD_1_i).trans g_45E
          have e_59 : (va_up f1 (AD 1 i) (.inr (1, [.ref (AD 0 (P 1 i)), .ref (AD 0 g), .int (I 12 i), .int (I 13 i), .int (I 14 i), .int (I 15 i), .int (I 16 i), .long (m_flS (m_open (I 15 i) (I 16 i)) (I 12 i) (m_cov (I 0 (P 1 i)) (I 1 (P 1 i)) (J1 1 (P 1 i)) (I 13 i) (I 14 i)) (m_cov (I 0 g) (I 1 g) (J1 1 g) (I 13 i) (I 14 i)) (J1 1 (P 1 i)) (J1 1 g)), .long (m_fhS (m_open (I 15 i) (I 16 i)) (I 12 i) (m_cov (I 0 (P 1 i)) (I 1 (P 1 i)) (J1 1 (P 1 i)) (I 13 i) (I 14 i)) (m_cov (I 0 g) (I 1 g) (J1 1 g) (I 13 i) (I 14 i)) (J1 1 (P 1 i)) (J1 2 (P 1 i)) (J1 1 g) (J1 2 g)), .long (J1 12 i)]))) (AD 0 (P 1 i)) = .inr (0, [.int (I 0 (P 1 i)), .int (I 1 (P 1 i)), .long (J1 0 (P 1 i)), .long (J1 1 (P 1 i)), .long (J1 2 (P 1 i)), .int (I 2 (P 1 i)), .int (I 3 (P 1 i)), .int (I 4 (P 1 i))]) := (va_up_ne _ _ ne_AD_0_P_1_i_AD_1_i).trans g_54E
          have e_60 : (va_up f1 (AD 1 i) (.inr (1, [.ref (AD 0 (P 1 i)), .ref (AD 0 g), .int (I 12 i), .int (I 13 i), .int (I 14 i), .int (I 15 i), .int (I 16 i), .long (m_flS (m_open (I 15 i) (I 16 i)) (I 12 i) (m_cov (I 0 (P 1 i)) (I 1 (P 1 i)) (J1 1 (P 1 i)) (I 13 i) (I 14 i)) (m_cov (I 0 g) (I 1 g) (J1 1 g) (I 13 i) (I 14 i)) (J1 1 (P 1 i)) (J1 1 g)), .long (m_fhS (m_open (I 15 i) (I 16 i)) (I 12 i) (m_cov (I 0 (P 1 i)) (I 1 (P 1 i)) (J1 1 (P 1 i)) (I 13 i) (I 14 i)) (m_cov (I 0 g) (I 1 g) (J1 1 g) (I 13 i) (I 14 i)) (J1 1 (P 1 i)) (J1 2 (P 1 i)) (J1 1 g) (J1 2 g)), .long (J1 12 i)]))) (AD 0 g) = .inr (0, [.int (I 0 g), .int (I 1 g), .long (J1 0 g), .long (J1 1 g), .long (J1 2 g), .int (I 2 g), .int (I 3 g), .int (I 4 g)]) := (va_up_ne _ _ ne_AD_0_g_AD_1_i).trans g_55E
          have e_61 : (va_up f1 (AD 1 i) (.inr (1, [.ref (AD 0 (P 1 i)), .ref (AD 0 g), .int (I 12 i), .int (I 13 i), .int (I 14 i), .int (I 15 i), .int (I 16 i), .long (m_flS (m_open (I 15 i) (I 16 i)) (I 12 i) (m_cov (I 0 (P 1 i)) (I 1 (P 1 i)) (J1 1 (P 1 i)) (I 13 i) (I 14 i)) (m_cov (I 0 g) (I 1 g) (J1 1 g) (I 13 i) (I 14 i)) (J1 1 (P 1 i)) (J1 1 g)), .long (m_fhS (m_open (I 15 i) (I 16 i)) (I 12 i) (m_cov (I 0 (P 1 i)) (I 1 (P 1 i)) (J1 1 (P 1 i)) (I 13 i) (I 14 i)) (m_cov (I 0 g) (I 1 g) (J1 1 g) (I 13 i) (I 14 i)) (J1 1 (P 1 i)) (J1 2 (P 1 i)) (J1 1 g) (J1 2 g)), .long (J1 12 i)]))) (AD 8 1) = .inl (ct 1, 15, .inr (.inr (.inr (.inr (fun j => if j < n 1 then some (AD 1 j) else none))))) := (va_up_ne _ _ ne_AD_8_1_AD_1_i).trans g_56E
          refine lv_iinc (v := nI (i + 1)) (lv' := [(1, .int (nI (i + 1))), (0, .ref (AD 9 0))]) hx hb d_Sz_flowThroughOpenings_19 hl (k := 0) rfl (nI_1 i) (by decide) rfl (fun ls hl => ?_)
          refine lv_goto (tgt := 2) hx hb d_Sz_flowThroughOpenings_22 (by decide) ?_
          have hN0 : CW ct AD L n I (mS I P i J1) P _ := hC0.set (k := 1) (i := i) (lv0 (by decide) hi) (co_op (fun _ _ _ => rfl) mS_hJ) hC0.2.2
          have hN : CW ct AD L n I (mS I P i J1) P (va_up f1 (AD 1 i) (.inr (1, [.ref (AD 0 (P 1 i)), .ref (AD 0 g), .int (I 12 i), .int (I 13 i), .int (I 14 i), .int (I 15 i), .int (I 16 i), .long (m_flS (m_open (I 15 i) (I 16 i)) (I 12 i) (m_cov (I 0 (P 1 i)) (I 1 (P 1 i)) (J1 1 (P 1 i)) (I 13 i) (I 14 i)) (m_cov (I 0 g) (I 1 g) (J1 1 g) (I 13 i) (I 14 i)) (J1 1 (P 1 i)) (J1 1 g)), .long (m_fhS (m_open (I 15 i) (I 16 i)) (I 12 i) (m_cov (I 0 (P 1 i)) (I 1 (P 1 i)) (J1 1 (P 1 i)) (I 13 i) (I 14 i)) (m_cov (I 0 g) (I 1 g) (J1 1 g) (I 13 i) (I 14 i)) (J1 1 (P 1 i)) (J1 2 (P 1 i)) (J1 1 g) (J1 2 g)), .long (J1 12 i)]))) := by
            refine cast (congrArg (CW ct AD L n I (mS I P i J1) P) ?_) hN0
            simp [cellOf, roomE, mainE, openE, steelE, farV, up2, mS, mFl, mHt, cvR, hp2]
          exact ih0 (i + 1) _ _ _ _ _ (by omega) hN hP hD hS (lv_sub hl [0, 1] rfl) hfin0
  exact lp0 (n 1) 0 J f _ _ _ (by omega) hCW hP hD hS (lv_sub hl [0, 1] rfl) rfl

set_option maxHeartbeats 4000000 in
set_option maxRecDepth 100000 in
theorem c_Sz_warmThings {l : Launch} {D : va_G} {ct : Nat → ClassId} {AD : Nat → Nat → Nat} {L : List Nat} {f : Nat → va_E} {sz : Nat} {n : Nat → Nat} {I : Nat → Nat → Int32} {J : Nat → Nat → Int64} {P : Nat → Nat → Nat} (hCW : CW ct AD L n I J P f) : Met l y_Sz_warmThings (WS y_Sz_warmThings b_Sz_warmThings 2 none) { frames := 3, cells := 0, slots := 0, locals := 61 } (va_Pc [.ref (AD 9 0)] (WP D (TYS ct) L f sz)) (Xs D (TYS ct) L (AA L f sz) (fun f' => CW ct AD L n (tL J P (n 4) 0 (zL J P (n 1) 0 (aL J (n 0) 0 I))) J P f')) 0 0 (AA L f sz) := by
  refine Met.ofW (cc := b_Sz_warmThings) (maxL := 2) (ret := none) (by decide) rfl ?_
  intro p e s m args below meth c s₁ B hml hv
  obtain ⟨rfl, hsz, hP, hK, hD0⟩ := hv
  subst hsz
  have hx := B.exec
  have hb := B.bytes
  have hret := B.returns
  have hts := atoms_spec (ws := WS y_Sz_warmThings b_Sz_warmThings 2 none) B.pre
  have hG : ∀ w ∈ GW, w.before _ s = true := fun w h => hts w (List.mem_cons_of_mem _ h)
  have hown : s.vm.findClass "SmokeZones" = some m.cls := findClass_of_methodNamed B.named
  have hlocks := B.notSynchronized
  have hD : va_D (AA L f s.heap.size) (va_pl L f) := hD0.self (sz := s.heap.size)
  generalize hAe : AA L f s.heap.size = A at hD ⊢
  have hA : ∀ q : Nat, s.heap.size ≤ q → A q := fun q h => by rw [← hAe]; exact Or.inr h
  have hS : va_S A s.heap s.heap [] := va_S.rf
  have hl := lv_entry ([.ref (AD 9 0)]) (n := 2) (Nat.le_of_ble_eq_true rfl)
  rw [lg_entry_eq]
  generalize (lg_sl ([.ref (AD 9 0)]) ++ List.replicate (2 - (lg_sl ([.ref (AD 9 0)])).length) Slot.unset).toArray = ls at hl ⊢
  have hl : lv_has ls 2 [(0, .ref (AD 9 0))] := hl
  refine lv_iconst (v := 0) hx hb d_Sz_warmThings_0 (by decide) ?_
  refine lv_istore_n (lv' := [(1, .int 0), (0, .ref (AD 9 0))]) hx hb d_Sz_warmThings_1 rfl hl (by decide) rfl (fun ls hl => ?_)
  have lp0 : ∀ (k i : Nat) (I1 : Nat → Nat → Int32) (f1 : Nat → va_E) (H : Heap) (locs : List Loc) (ls : Array Slot), i + k = n 0 → CW ct AD L n I1 J P f1 → va_P D vwCl (va_pl L f1) H → va_D A (va_pl L f1) → va_S A s.heap H locs → lv_has ls 2 [(1, .int (nI i)), (0, .ref (AD 9 0))] → aL J k i I1 = aL J (n 0) 0 I → W p l e (headSpec (WS y_Sz_warmThings b_Sz_warmThings 2 none) { frames := 3, cells := 0, slots := 0, locals := 61 }).room s m [.ref (AD 9 0)].toArray below meth c H locs 0 0 (MQ below (Xs D (TYS ct) L A (fun f' => CW ct AD L n (tL J P (n 4) 0 (zL J P (n 1) 0 (aL J (n 0) 0 I))) J P f')) [.ref (AD 9 0)].toArray s 0 0 A) (F0 m 2 ls []) := by
    intro k
    induction k with
    | zero =>
      intro i I1 f1 H locs ls hik0 hC0 hP hD hS hl hfin0
      have hcap := hC0.cap0
      obtain ⟨g_1L, g_1E⟩ := hC0.ma
      refine lv_iload_n hx hb d_Sz_warmThings_2 rfl (lv_at hl 0 rfl) ?_
      refine lv_aload_n hx hb d_Sz_warmThings_3 rfl (lv_at hl 1 rfl) ?_
      refine pg_get (C := "SmokeZones") (T := T_Sz) (N := 17) hx hb hG in_Sz hown hK hP g_1L g_1E rfl 6 (by decide) (hG _ k41) (fun _ h9 => h9) rfl d_Sz_warmThings_4 ?_
      refine lv_icmp_ge (tgt := 25) hx hb d_Sz_warmThings_7 (by decide) (fun c_2 => ?_) (fun c_2 => ?_)
      · refine lv_iconst (v := 0) hx hb d_Sz_warmThings_25 (by decide) ?_
        refine lv_istore_n (lv' := [(1, .int 0), (0, .ref (AD 9 0))]) hx hb d_Sz_warmThings_26 rfl hl (by decide) rfl (fun ls hl => ?_)
        have lp1 : ∀ (k i : Nat) (I2 : Nat → Nat → Int32) (f2 : Nat → va_E) (H : Heap) (locs : List Loc) (ls : Array Slot), i + k = n 1 → CW ct AD L n I2 J P f2 → va_P D vwCl (va_pl L f2) H → va_D A (va_pl L f2) → va_S A s.heap H locs → lv_has ls 2 [(1, .int (nI i)), (0, .ref (AD 9 0))] → zL J P k i I2 = zL J P (n 1) 0 I1 → W p l e (headSpec (WS y_Sz_warmThings b_Sz_warmThings 2 none) { frames := 3, cells := 0, slots := 0, locals := 61 }).room s m [.ref (AD 9 0)].toArray below meth c H locs 0 0 (MQ below (Xs D (TYS ct) L A (fun f' => CW ct AD L n (tL J P (n 4) 0 (zL J P (n 1) 0 (aL J (n 0) 0 I))) J P f')) [.ref (AD 9 0)].toArray s 0 0 A) (F0 m 27 ls []) := by
          intro k
          induction k with
          | zero =>
            intro i I2 f2 H locs ls hik1 hC1 hP hD hS hl hfin1
            have hcap := hC1.cap1
            obtain ⟨g_3L, g_3E⟩ := hC1.ma
            refine lv_iload_n hx hb d_Sz_warmThings_27 rfl (lv_at hl 0 rfl) ?_
            refine lv_aload_n hx hb d_Sz_warmThings_28 rfl (lv_at hl 1 rfl) ?_
            refine pg_get (C := "SmokeZones") (T := T_Sz) (N := 17) hx hb hG in_Sz hown hK hP g_3L g_3E rfl 7 (by decide) (hG _ k42) (fun _ h9 => h9) rfl d_Sz_warmThings_29 ?_
            refine lv_icmp_ge (tgt := 50) hx hb d_Sz_warmThings_32 (by decide) (fun c_4 => ?_) (fun c_4 => ?_)
            · refine lv_iconst (v := 0) hx hb d_Sz_warmThings_50 (by decide) ?_
              refine lv_istore_n (lv' := [(1, .int 0), (0, .ref (AD 9 0))]) hx hb d_Sz_warmThings_51 rfl hl (by decide) rfl (fun ls hl => ?_)
              have lp2 : ∀ (k i : Nat) (I3 : Nat → Nat → Int32) (f3 : Nat → va_E) (H : Heap) (locs : List Loc) (ls : Array Slot), i + k = n 4 → CW ct AD L n I3 J P f3 → va_P D vwCl (va_pl L f3) H → va_D A (va_pl L f3) → va_S A s.heap H locs → lv_has ls 2 [(1, .int (nI i)), (0, .ref (AD 9 0))] → tL J P k i I3 = tL J P (n 4) 0 I2 → W p l e (headSpec (WS y_Sz_warmThings b_Sz_warmThings 2 none) { frames := 3, cells := 0, slots := 0, locals := 61 }).room s m [.ref (AD 9 0)].toArray below meth c H locs 0 0 (MQ below (Xs D (TYS ct) L A (fun f' => CW ct AD L n (tL J P (n 4) 0 (zL J P (n 1) 0 (aL J (n 0) 0 I))) J P f')) [.ref (AD 9 0)].toArray s 0 0 A) (F0 m 52 ls []) := by
                intro k
                induction k with
                | zero =>
                  intro i I3 f3 H locs ls hik2 hC2 hP hD hS hl hfin2
                  have hcap := hC2.cap4
                  obtain ⟨g_5L, g_5E⟩ := hC2.ma
                  refine lv_iload_n hx hb d_Sz_warmThings_52 rfl (lv_at hl 0 rfl) ?_
                  refine lv_aload_n hx hb d_Sz_warmThings_53 rfl (lv_at hl 1 rfl) ?_
                  refine pg_get (C := "SmokeZones") (T := T_Sz) (N := 17) hx hb hG in_Sz hown hK hP g_5L g_5E rfl 10 (by decide) (hG _ k45) (fun _ h9 => h9) rfl d_Sz_warmThings_54 ?_
                  refine lv_icmp_ge (tgt := 75) hx hb d_Sz_warmThings_57 (by decide) (fun c_6 => ?_) (fun c_6 => ?_)
                  · have q0 : I1 = aL J (n 0) 0 I := hfin0
                    have q1 : I2 = zL J P (n 1) 0 I1 := hfin1
                    have q2 : I3 = tL J P (n 4) 0 I2 := hfin2
                    have hN : CW ct AD L n I3 J P f3 := hC2
                    rw [q2, q1, q0] at hN
                    exact W.vret hx hb hret (fun t ht hW => ⟨⟨f3, rfl, hN, by rw [ht]; exact hP, va_K.moved hW.alike hK, hD⟩, hS.F ht⟩) hS.2.2 d_Sz_warmThings_75
                  · exact (ge_yes (by omega) (by omega) c_6).elim
                | succ k ih2 =>
                  intro i I3 f3 H locs ls hik2 hC2 hP hD hS hl hfin2
                  have hcap := hC2.cap4
                  obtain ⟨g_7L, g_7E⟩ := hC2.ma
                  have hi : i < n 4 := by omega
                  refine lv_iload_n hx hb d_Sz_warmThings_52 rfl (lv_at hl 0 rfl) ?_
                  refine lv_aload_n hx hb d_Sz_warmThings_53 rfl (lv_at hl 1 rfl) ?_
                  refine pg_get (C := "SmokeZones") (T := T_Sz) (N := 17) hx hb hG in_Sz hown hK hP g_7L g_7E rfl 10 (by decide) (hG _ k45) (fun _ h9 => h9) rfl d_Sz_warmThings_54 ?_
                  refine lv_icmp_ge (tgt := 75) hx hb d_Sz_warmThings_57 (by decide) (fun c_8 => ?_) (fun c_8 => ?_)
                  · exact (ge_no hi (by omega) c_8).elim
                  · have hr : P 5 i < n 0 := hC2.2.2.2.2.2.2.1 i hi
                    have hc0 := hC2.cap0
                    obtain ⟨g_9L, g_9E⟩ := hC2.st hi
                    obtain ⟨g_10L, g_10E⟩ := hC2.ro hr
                    obtain ⟨g_11L, g_11E⟩ := hC2.a4
                    have ne_AD_9_0_AD_4_i : AD 9 0 ≠ AD 4 i := hC2.ne (k := 9) (i := 0) (k' := 4) (i' := i) (lv9) (lv0 (by decide) hi) (by omega)
                    have ne_AD_9_0_AD_0_P_5_i : AD 9 0 ≠ AD 0 (P 5 i) := hC2.ne (k := 9) (i := 0) (k' := 0) (i' := (P 5 i)) (lv9) (lv0 (by decide) hr) (by omega)
                    have ne_AD_9_0_AD_8_4 : AD 9 0 ≠ AD 8 4 := hC2.ne (k := 9) (i := 0) (k' := 8) (i' := 4) (lv9) (lv8 (by decide)) (by omega)
                    have ne_AD_4_i_AD_9_0 : AD 4 i ≠ AD 9 0 := hC2.ne (k := 4) (i := i) (k' := 9) (i' := 0) (lv0 (by decide) hi) (lv9) (by omega)
                    have ne_AD_4_i_AD_0_P_5_i : AD 4 i ≠ AD 0 (P 5 i) := hC2.ne (k := 4) (i := i) (k' := 0) (i' := (P 5 i)) (lv0 (by decide) hi) (lv0 (by decide) hr) (by omega)
                    have ne_AD_4_i_AD_8_4 : AD 4 i ≠ AD 8 4 := hC2.ne (k := 4) (i := i) (k' := 8) (i' := 4) (lv0 (by decide) hi) (lv8 (by decide)) (by omega)
                    have ne_AD_0_P_5_i_AD_9_0 : AD 0 (P 5 i) ≠ AD 9 0 := hC2.ne (k := 0) (i := (P 5 i)) (k' := 9) (i' := 0) (lv0 (by decide) hr) (lv9) (by omega)
                    have ne_AD_0_P_5_i_AD_4_i : AD 0 (P 5 i) ≠ AD 4 i := hC2.ne (k := 0) (i := (P 5 i)) (k' := 4) (i' := i) (lv0 (by decide) hr) (lv0 (by decide) hi) (by omega)
                    have ne_AD_0_P_5_i_AD_8_4 : AD 0 (P 5 i) ≠ AD 8 4 := hC2.ne (k := 0) (i := (P 5 i)) (k' := 8) (i' := 4) (lv0 (by decide) hr) (lv8 (by decide)) (by omega)
                    have ne_AD_8_4_AD_9_0 : AD 8 4 ≠ AD 9 0 := hC2.ne (k := 8) (i := 4) (k' := 9) (i' := 0) (lv8 (by decide)) (lv9) (by omega)
                    have ne_AD_8_4_AD_4_i : AD 8 4 ≠ AD 4 i := hC2.ne (k := 8) (i := 4) (k' := 4) (i' := i) (lv8 (by decide)) (lv0 (by decide) hi) (by omega)
                    have ne_AD_8_4_AD_0_P_5_i : AD 8 4 ≠ AD 0 (P 5 i) := hC2.ne (k := 8) (i := 4) (k' := 0) (i' := (P 5 i)) (lv8 (by decide)) (lv0 (by decide) hr) (by omega)
                    refine lv_aload_n hx hb d_Sz_warmThings_60 rfl (lv_at hl 1 rfl) ?_
                    refine pg_get (C := "SmokeZones") (T := T_Sz) (N := 17) hx hb hG in_Sz hown hK hP g_7L g_7E rfl 4 (by decide) (hG _ k39) (fun _ h9 => h9) rfl d_Sz_warmThings_61 ?_
                    refine lv_iload_n hx hb d_Sz_warmThings_64 rfl (lv_at hl 0 rfl) ?_
                    refine pg_ald hx hb hK hP 4 g_11L g_11E rfl (vp_in_nI (by omega) (by decide)) (rf_at hi (by omega)) d_Sz_warmThings_65 ?_
                    refine kV_wv (f' := va_up f3 (AD 4 i) (.inr (4, [.ref (AD 0 (P 5 i)), .int (I3 41 i), .int (m_te (J 1 (P 5 i)) (J 2 (P 5 i)) (I3 41 i) (I3 42 i))]))) ⟨hx, hb, hml, hown, hG⟩ (c_St_getWarm g_9L g_9E g_10L g_10E) (cwV 0 hG (gV k540 k541 k542 k12 k543) rfl rfl rfl hd_St_getWarm ⟨Nat.le_of_ble_eq_true rfl, Nat.le_of_ble_eq_true rfl⟩) hK hP hD hS hA g_9L g_9E rfl rfl hl.1 rfl (Nat.le_of_ble_eq_true rfl) ⟨Nat.le_of_ble_eq_true rfl, Nat.le_of_ble_eq_true rfl⟩ d_Sz_warmThings_66 (fun H locs hP hD hS => ?_)
                    have e_12 : (va_up f3 (AD 4 i) (.inr (4, [.ref (AD 0 (P 5 i)), .int (I3 41 i), .int (m_te (J 1 (P 5 i)) (J 2 (P 5 i)) (I3 41 i) (I3 42 i))]))) (AD 4 i) = .inr (4, [.ref (AD 0 (P 5 i)), .int (I3 41 i), .int (m_te (J 1 (P 5 i)) (J 2 (P 5 i)) (I3 41 i) (I3 42 i))]) := va_up_self _ _ _
                    have e_13 : (va_up f3 (AD 4 i) (.inr (4, [.ref (AD 0 (P 5 i)), .int (I3 41 i), .int (m_te (J 1 (P 5 i)) (J 2 (P 5 i)) (I3 41 i) (I3 42 i))]))) (AD 9 0) = .inr (6, [.ref (AD 8 0), .ref (AD 8 1), .ref (AD 8 2), .ref (AD 8 3), .ref (AD 8 4), .ref (AD 8 5), .int (nI (n 0)), .int (nI (n 1)), .int (nI (n 2)), .int (nI (n 3)), .int (nI (n 4)), .int (nI (n 5)), .int (I3 99 0), .long (J 99 0), .long (J 99 1), .long (J 99 2), .long (J 99 3)]) := (va_up_ne _ _ ne_AD_9_0_AD_4_i).trans g_7E
                    have e_14 : (va_up f3 (AD 4 i) (.inr (4, [.ref (AD 0 (P 5 i)), .int (I3 41 i), .int (m_te (J 1 (P 5 i)) (J 2 (P 5 i)) (I3 41 i) (I3 42 i))]))) (AD 0 (P 5 i)) = .inr (0, [.int (I3 0 (P 5 i)), .int (I3 1 (P 5 i)), .long (J 0 (P 5 i)), .long (J 1 (P 5 i)), .long (J 2 (P 5 i)), .int (I3 2 (P 5 i)), .int (I3 3 (P 5 i)), .int (I3 4 (P 5 i))]) := (va_up_ne _ _ ne_AD_0_P_5_i_AD_4_i).trans g_10E
                    have e_15 : (va_up f3 (AD 4 i) (.inr (4, [.ref (AD 0 (P 5 i)), .int (I3 41 i), .int (m_te (J 1 (P 5 i)) (J 2 (P 5 i)) (I3 41 i) (I3 42 i))]))) (AD 8 4) = .inl (ct 4, 9, .inr (.inr (.inr (.inr (fun j => if j < n 4 then some (AD 4 j) else none))))) := (va_up_ne _ _ ne_AD_8_4_AD_4_i).trans g_11E
                    refine lv_iinc (v := nI (i + 1)) (lv' := [(1, .int (nI (i + 1))), (0, .ref (AD 9 0))]) hx hb d_Sz_warmThings_69 hl (k := 0) rfl (nI_1 i) (by decide) rfl (fun ls hl => ?_)
                    refine lv_goto (tgt := 52) hx hb d_Sz_warmThings_72 (by decide) ?_
                    have hN0 : CW ct AD L n (tS J P i I3) J P _ := hC2.set (k := 4) (i := i) (lv0 (by decide) hi) (co_st up_hO) hC2.2.2
                    have hN : CW ct AD L n (tS J P i I3) J P (va_up f3 (AD 4 i) (.inr (4, [.ref (AD 0 (P 5 i)), .int (I3 41 i), .int (m_te (J 1 (P 5 i)) (J 2 (P 5 i)) (I3 41 i) (I3 42 i))]))) := by
                      refine cast (congrArg (CW ct AD L n (tS J P i I3) J P) ?_) hN0
                      simp [cellOf, roomE, mainE, openE, steelE, farV, up2, tS]
                    exact ih2 (i + 1) _ _ _ _ _ (by omega) hN hP hD hS (lv_sub hl [0, 1] rfl) hfin2
              exact lp2 (n 4) 0 I2 f2 _ _ _ (by omega) hC1 hP hD hS (lv_sub hl [0, 1] rfl) rfl
            · exact (ge_yes (by omega) (by omega) c_4).elim
          | succ k ih1 =>
            intro i I2 f2 H locs ls hik1 hC1 hP hD hS hl hfin1
            have hcap := hC1.cap1
            obtain ⟨g_16L, g_16E⟩ := hC1.ma
            have hi : i < n 1 := by omega
            refine lv_iload_n hx hb d_Sz_warmThings_27 rfl (lv_at hl 0 rfl) ?_
            refine lv_aload_n hx hb d_Sz_warmThings_28 rfl (lv_at hl 1 rfl) ?_
            refine pg_get (C := "SmokeZones") (T := T_Sz) (N := 17) hx hb hG in_Sz hown hK hP g_16L g_16E rfl 7 (by decide) (hG _ k42) (fun _ h9 => h9) rfl d_Sz_warmThings_29 ?_
            refine lv_icmp_ge (tgt := 50) hx hb d_Sz_warmThings_32 (by decide) (fun c_17 => ?_) (fun c_17 => ?_)
            · exact (ge_no hi (by omega) c_17).elim
            · obtain ⟨hr, hg2, hgr⟩ := hC1.2.2.2.1 i hi
              have hc0 := hC1.cap0
              obtain ⟨g_18L, g_18E0⟩ := hC1.op hi
              rcases hp2 : P 2 i with _ | g
              · have g_18E : f2 (AD 1 i) = .inr (1, [.ref (AD 0 (P 1 i)), .null, .int (I2 12 i), .int (I2 13 i), .int (I2 14 i), .int (I2 15 i), .int (I2 16 i), .long (J 10 i), .long (J 11 i), .long (J 12 i)]) := by rw [g_18E0, hp2]; rfl
                obtain ⟨g_19L, g_19E⟩ := hC1.ro hr
                obtain ⟨g_20L, g_20E⟩ := hC1.a1
                have ne_AD_9_0_AD_1_i : AD 9 0 ≠ AD 1 i := hC1.ne (k := 9) (i := 0) (k' := 1) (i' := i) (lv9) (lv0 (by decide) hi) (by omega)
                have ne_AD_9_0_AD_0_P_1_i : AD 9 0 ≠ AD 0 (P 1 i) := hC1.ne (k := 9) (i := 0) (k' := 0) (i' := (P 1 i)) (lv9) (lv0 (by decide) hr) (by omega)
                have ne_AD_9_0_AD_8_1 : AD 9 0 ≠ AD 8 1 := hC1.ne (k := 9) (i := 0) (k' := 8) (i' := 1) (lv9) (lv8 (by decide)) (by omega)
                have ne_AD_1_i_AD_9_0 : AD 1 i ≠ AD 9 0 := hC1.ne (k := 1) (i := i) (k' := 9) (i' := 0) (lv0 (by decide) hi) (lv9) (by omega)
                have ne_AD_1_i_AD_0_P_1_i : AD 1 i ≠ AD 0 (P 1 i) := hC1.ne (k := 1) (i := i) (k' := 0) (i' := (P 1 i)) (lv0 (by decide) hi) (lv0 (by decide) hr) (by omega)
                have ne_AD_1_i_AD_8_1 : AD 1 i ≠ AD 8 1 := hC1.ne (k := 1) (i := i) (k' := 8) (i' := 1) (lv0 (by decide) hi) (lv8 (by decide)) (by omega)
                have ne_AD_0_P_1_i_AD_9_0 : AD 0 (P 1 i) ≠ AD 9 0 := hC1.ne (k := 0) (i := (P 1 i)) (k' := 9) (i' := 0) (lv0 (by decide) hr) (lv9) (by omega)
                have ne_AD_0_P_1_i_AD_1_i : AD 0 (P 1 i) ≠ AD 1 i := hC1.ne (k := 0) (i := (P 1 i)) (k' := 1) (i' := i) (lv0 (by decide) hr) (lv0 (by decide) hi) (by omega)
                have ne_AD_0_P_1_i_AD_8_1 : AD 0 (P 1 i) ≠ AD 8 1 := hC1.ne (k := 0) (i := (P 1 i)) (k' := 8) (i' := 1) (lv0 (by decide) hr) (lv8 (by decide)) (by omega)
                have ne_AD_8_1_AD_9_0 : AD 8 1 ≠ AD 9 0 := hC1.ne (k := 8) (i := 1) (k' := 9) (i' := 0) (lv8 (by decide)) (lv9) (by omega)
                have ne_AD_8_1_AD_1_i : AD 8 1 ≠ AD 1 i := hC1.ne (k := 8) (i := 1) (k' := 1) (i' := i) (lv8 (by decide)) (lv0 (by decide) hi) (by omega)
                have ne_AD_8_1_AD_0_P_1_i : AD 8 1 ≠ AD 0 (P 1 i) := hC1.ne (k := 8) (i := 1) (k' := 0) (i' := (P 1 i)) (lv8 (by decide)) (lv0 (by decide) hr) (by omega)
                refine lv_aload_n hx hb d_Sz_warmThings_35 rfl (lv_at hl 1 rfl) ?_
                refine pg_get (C := "SmokeZones") (T := T_Sz) (N := 17) hx hb hG in_Sz hown hK hP g_16L g_16E rfl 1 (by decide) (hG _ k36) (fun _ h9 => h9) rfl d_Sz_warmThings_36 ?_
                refine lv_iload_n hx hb d_Sz_warmThings_39 rfl (lv_at hl 0 rfl) ?_
                refine pg_ald hx hb hK hP 1 g_20L g_20E rfl (vp_in_nI (by omega) (by decide)) (rf_at hi (by omega)) d_Sz_warmThings_40 ?_
                refine kV_wv (f' := va_up f2 (AD 1 i) (.inr (1, [.ref (AD 0 (P 1 i)), .null, .int (I2 12 i), .int (I2 13 i), .int (I2 14 i), .int (I2 15 i), .int (m_brN (m_open (I2 15 i) (I2 16 i)) (m_hot (J 1 (P 1 i)) (J 2 (P 1 i)) (I2 15 i)) (I2 16 i)), .long (J 10 i), .long (J 11 i), .long (J 12 i)]))) ⟨hx, hb, hml, hown, hG⟩ (c_Op_testGlass_n g_18L g_18E g_19L g_19E) (cwV 0 hG (gV k531 k532 k533 k9 k534) rfl rfl rfl hd_Op_testGlass ⟨Nat.le_of_ble_eq_true rfl, Nat.le_of_ble_eq_true rfl⟩) hK hP hD hS hA g_18L g_18E rfl rfl hl.1 rfl (Nat.le_of_ble_eq_true rfl) ⟨Nat.le_of_ble_eq_true rfl, Nat.le_of_ble_eq_true rfl⟩ d_Sz_warmThings_41 (fun H locs hP hD hS => ?_)
                have e_21 : (va_up f2 (AD 1 i) (.inr (1, [.ref (AD 0 (P 1 i)), .null, .int (I2 12 i), .int (I2 13 i), .int (I2 14 i), .int (I2 15 i), .int (m_brN (m_open (I2 15 i) (I2 16 i)) (m_hot (J 1 (P 1 i)) (J 2 (P 1 i)) (I2 15 i)) (I2 16 i)), .long (J 10 i), .long (J 11 i), .long (J 12 i)]))) (AD 1 i) = .inr (1, [.ref (AD 0 (P 1 i)), .null, .int (I2 12 i), .int (I2 13 i), .int (I2 14 i), .int (I2 15 i), .int (m_brN (m_open (I2 15 i) (I2 16 i)) (m_hot (J 1 (P 1 i)) (J 2 (P 1 i)) (I2 15 i)) (I2 16 i)), .long (J 10 i), .long (J 11 i), .long (J 12 i)]) := va_up_self _ _ _
                have e_22 : (va_up f2 (AD 1 i) (.inr (1, [.ref (AD 0 (P 1 i)), .null, .int (I2 12 i), .int (I2 13 i), .int (I2 14 i), .int (I2 15 i), .int (m_brN (m_open (I2 15 i) (I2 16 i)) (m_hot (J 1 (P 1 i)) (J 2 (P 1 i)) (I2 15 i)) (I2 16 i)), .long (J 10 i), .long (J 11 i), .long (J 12 i)]))) (AD 9 0) = .inr (6, [.ref (AD 8 0), .ref (AD 8 1), .ref (AD 8 2), .ref (AD 8 3), .ref (AD 8 4), .ref (AD 8 5), .int (nI (n 0)), .int (nI (n 1)), .int (nI (n 2)), .int (nI (n 3)), .int (nI (n 4)), .int (nI (n 5)), .int (I2 99 0), .long (J 99 0), .long (J 99 1), .long (J 99 2), .long (J 99 3)]) := (va_up_ne _ _ ne_AD_9_0_AD_1_i).trans g_16E
                have e_23 : (va_up f2 (AD 1 i) (.inr (1, [.ref (AD 0 (P 1 i)), .null, .int (I2 12 i), .int (I2 13 i), .int (I2 14 i), .int (I2 15 i), .int (m_brN (m_open (I2 15 i) (I2 16 i)) (m_hot (J 1 (P 1 i)) (J 2 (P 1 i)) (I2 15 i)) (I2 16 i)), .long (J 10 i), .long (J 11 i), .long (J 12 i)]))) (AD 0 (P 1 i)) = .inr (0, [.int (I2 0 (P 1 i)), .int (I2 1 (P 1 i)), .long (J 0 (P 1 i)), .long (J 1 (P 1 i)), .long (J 2 (P 1 i)), .int (I2 2 (P 1 i)), .int (I2 3 (P 1 i)), .int (I2 4 (P 1 i))]) := (va_up_ne _ _ ne_AD_0_P_1_i_AD_1_i).trans g_19E
                have e_24 : (va_up f2 (AD 1 i) (.inr (1, [.ref (AD 0 (P 1 i)), .null, .int (I2 12 i), .int (I2 13 i), .int (I2 14 i), .int (I2 15 i), .int (m_brN (m_open (I2 15 i) (I2 16 i)) (m_hot (J 1 (P 1 i)) (J 2 (P 1 i)) (I2 15 i)) (I2 16 i)), .long (J 10 i), .long (J 11 i), .long (J 12 i)]))) (AD 8 1) = .inl (ct 1, 15, .inr (.inr (.inr (.inr (fun j => if j < n 1 then some (AD 1 j) else none))))) := (va_up_ne _ _ ne_AD_8_1_AD_1_i).trans g_20E
                refine lv_iinc (v := nI (i + 1)) (lv' := [(1, .int (nI (i + 1))), (0, .ref (AD 9 0))]) hx hb d_Sz_warmThings_44 hl (k := 0) rfl (nI_1 i) (by decide) rfl (fun ls hl => ?_)
                refine lv_goto (tgt := 27) hx hb d_Sz_warmThings_47 (by decide) ?_
                have hN0 : CW ct AD L n (zS J P i I2) J P _ := hC1.set (k := 1) (i := i) (lv0 (by decide) hi) (co_op (fun a b h => up_hO a b (by omega)) (fun _ _ _ => rfl)) hC1.2.2
                have hN : CW ct AD L n (zS J P i I2) J P (va_up f2 (AD 1 i) (.inr (1, [.ref (AD 0 (P 1 i)), .null, .int (I2 12 i), .int (I2 13 i), .int (I2 14 i), .int (I2 15 i), .int (m_brN (m_open (I2 15 i) (I2 16 i)) (m_hot (J 1 (P 1 i)) (J 2 (P 1 i)) (I2 15 i)) (I2 16 i)), .long (J 10 i), .long (J 11 i), .long (J 12 i)]))) := by
                  refine cast (congrArg (CW ct AD L n (zS J P i I2) J P) ?_) hN0
                  simp [cellOf, roomE, mainE, openE, steelE, farV, up2, zS, hp2]
                exact ih1 (i + 1) _ _ _ _ _ (by omega) hN hP hD hS (lv_sub hl [0, 1] rfl) hfin1
              · have g_18E : f2 (AD 1 i) = .inr (1, [.ref (AD 0 (P 1 i)), .ref (AD 0 g), .int (I2 12 i), .int (I2 13 i), .int (I2 14 i), .int (I2 15 i), .int (I2 16 i), .long (J 10 i), .long (J 11 i), .long (J 12 i)]) := by rw [g_18E0, hp2]; rfl
                obtain ⟨g_25L, g_25E⟩ := hC1.ro hr
                have hg : g < n 0 := by omega
                obtain ⟨g_26L, g_26E⟩ := hC1.ro hg
                obtain ⟨g_27L, g_27E⟩ := hC1.a1
                have ne_AD_9_0_AD_1_i : AD 9 0 ≠ AD 1 i := hC1.ne (k := 9) (i := 0) (k' := 1) (i' := i) (lv9) (lv0 (by decide) hi) (by omega)
                have ne_AD_9_0_AD_0_P_1_i : AD 9 0 ≠ AD 0 (P 1 i) := hC1.ne (k := 9) (i := 0) (k' := 0) (i' := (P 1 i)) (lv9) (lv0 (by decide) hr) (by omega)
                have ne_AD_9_0_AD_0_g : AD 9 0 ≠ AD 0 g := hC1.ne (k := 9) (i := 0) (k' := 0) (i' := g) (lv9) (lv0 (by decide) hg) (by omega)
                have ne_AD_9_0_AD_8_1 : AD 9 0 ≠ AD 8 1 := hC1.ne (k := 9) (i := 0) (k' := 8) (i' := 1) (lv9) (lv8 (by decide)) (by omega)
                have ne_AD_1_i_AD_9_0 : AD 1 i ≠ AD 9 0 := hC1.ne (k := 1) (i := i) (k' := 9) (i' := 0) (lv0 (by decide) hi) (lv9) (by omega)
                have ne_AD_1_i_AD_0_P_1_i : AD 1 i ≠ AD 0 (P 1 i) := hC1.ne (k := 1) (i := i) (k' := 0) (i' := (P 1 i)) (lv0 (by decide) hi) (lv0 (by decide) hr) (by omega)
                have ne_AD_1_i_AD_0_g : AD 1 i ≠ AD 0 g := hC1.ne (k := 1) (i := i) (k' := 0) (i' := g) (lv0 (by decide) hi) (lv0 (by decide) hg) (by omega)
                have ne_AD_1_i_AD_8_1 : AD 1 i ≠ AD 8 1 := hC1.ne (k := 1) (i := i) (k' := 8) (i' := 1) (lv0 (by decide) hi) (lv8 (by decide)) (by omega)
                have ne_AD_0_P_1_i_AD_9_0 : AD 0 (P 1 i) ≠ AD 9 0 := hC1.ne (k := 0) (i := (P 1 i)) (k' := 9) (i' := 0) (lv0 (by decide) hr) (lv9) (by omega)
                have ne_AD_0_P_1_i_AD_1_i : AD 0 (P 1 i) ≠ AD 1 i := hC1.ne (k := 0) (i := (P 1 i)) (k' := 1) (i' := i) (lv0 (by decide) hr) (lv0 (by decide) hi) (by omega)
                have ne_AD_0_P_1_i_AD_0_g : AD 0 (P 1 i) ≠ AD 0 g := hC1.ne (k := 0) (i := (P 1 i)) (k' := 0) (i' := g) (lv0 (by decide) hr) (lv0 (by decide) hg) (by omega)
                have ne_AD_0_P_1_i_AD_8_1 : AD 0 (P 1 i) ≠ AD 8 1 := hC1.ne (k := 0) (i := (P 1 i)) (k' := 8) (i' := 1) (lv0 (by decide) hr) (lv8 (by decide)) (by omega)
                have ne_AD_0_g_AD_9_0 : AD 0 g ≠ AD 9 0 := hC1.ne (k := 0) (i := g) (k' := 9) (i' := 0) (lv0 (by decide) hg) (lv9) (by omega)
                have ne_AD_0_g_AD_1_i : AD 0 g ≠ AD 1 i := hC1.ne (k := 0) (i := g) (k' := 1) (i' := i) (lv0 (by decide) hg) (lv0 (by decide) hi) (by omega)
                have ne_AD_0_g_AD_0_P_1_i : AD 0 g ≠ AD 0 (P 1 i) := hC1.ne (k := 0) (i := g) (k' := 0) (i' := (P 1 i)) (lv0 (by decide) hg) (lv0 (by decide) hr) (by omega)
                have ne_AD_0_g_AD_8_1 : AD 0 g ≠ AD 8 1 := hC1.ne (k := 0) (i := g) (k' := 8) (i' := 1) (lv0 (by decide) hg) (lv8 (by decide)) (by omega)
                have ne_AD_8_1_AD_9_0 : AD 8 1 ≠ AD 9 0 := hC1.ne (k := 8) (i := 1) (k' := 9) (i' := 0) (lv8 (by decide)) (lv9) (by omega)
                have ne_AD_8_1_AD_1_i : AD 8 1 ≠ AD 1 i := hC1.ne (k := 8) (i := 1) (k' := 1) (i' := i) (lv8 (by decide)) (lv0 (by decide) hi) (by omega)
                have ne_AD_8_1_AD_0_P_1_i : AD 8 1 ≠ AD 0 (P 1 i) := hC1.ne (k := 8) (i := 1) (k' := 0) (i' := (P 1 i)) (lv8 (by decide)) (lv0 (by decide) hr) (by omega)
                have ne_AD_8_1_AD_0_g : AD 8 1 ≠ AD 0 g := hC1.ne (k := 8) (i := 1) (k' := 0) (i' := g) (lv8 (by decide)) (lv0 (by decide) hg) (by omega)
                refine lv_aload_n hx hb d_Sz_warmThings_35 rfl (lv_at hl 1 rfl) ?_
                refine pg_get (C := "SmokeZones") (T := T_Sz) (N := 17) hx hb hG in_Sz hown hK hP g_16L g_16E rfl 1 (by decide) (hG _ k36) (fun _ h9 => h9) rfl d_Sz_warmThings_36 ?_
                refine lv_iload_n hx hb d_Sz_warmThings_39 rfl (lv_at hl 0 rfl) ?_
                refine pg_ald hx hb hK hP 1 g_27L g_27E rfl (vp_in_nI (by omega) (by decide)) (rf_at hi (by omega)) d_Sz_warmThings_40 ?_
                refine kV_wv (f' := va_up f2 (AD 1 i) (.inr (1, [.ref (AD 0 (P 1 i)), .ref (AD 0 g), .int (I2 12 i), .int (I2 13 i), .int (I2 14 i), .int (I2 15 i), .int (m_brS (m_open (I2 15 i) (I2 16 i)) (m_hot (J 1 (P 1 i)) (J 2 (P 1 i)) (I2 15 i)) (m_hot (J 1 g) (J 2 g) (I2 15 i)) (I2 16 i)), .long (J 10 i), .long (J 11 i), .long (J 12 i)]))) ⟨hx, hb, hml, hown, hG⟩ (c_Op_testGlass_s g_18L g_18E g_25L g_25E g_26L g_26E) (cwV 0 hG (gV k531 k532 k533 k9 k534) rfl rfl rfl hd_Op_testGlass ⟨Nat.le_of_ble_eq_true rfl, Nat.le_of_ble_eq_true rfl⟩) hK hP hD hS hA g_18L g_18E rfl rfl hl.1 rfl (Nat.le_of_ble_eq_true rfl) ⟨Nat.le_of_ble_eq_true rfl, Nat.le_of_ble_eq_true rfl⟩ d_Sz_warmThings_41 (fun H locs hP hD hS => ?_)
                have e_28 : (va_up f2 (AD 1 i) (.inr (1, [.ref (AD 0 (P 1 i)), .ref (AD 0 g), .int (I2 12 i), .int (I2 13 i), .int (I2 14 i), .int (I2 15 i), .int (m_brS (m_open (I2 15 i) (I2 16 i)) (m_hot (J 1 (P 1 i)) (J 2 (P 1 i)) (I2 15 i)) (m_hot (J 1 g) (J 2 g) (I2 15 i)) (I2 16 i)), .long (J 10 i), .long (J 11 i), .long (J 12 i)]))) (AD 1 i) = .inr (1, [.ref (AD 0 (P 1 i)), .ref (AD 0 g), .int (I2 12 i), .int (I2 13 i), .int (I2 14 i), .int (I2 15 i), .int (m_brS (m_open (I2 15 i) (I2 16 i)) (m_hot (J 1 (P 1 i)) (J 2 (P 1 i)) (I2 15 i)) (m_hot (J 1 g) (J 2 g) (I2 15 i)) (I2 16 i)), .long (J 10 i), .long (J 11 i), .long (J 12 i)]) := va_up_self _ _ _
                have e_29 : (va_up f2 (AD 1 i) (.inr (1, [.ref (AD 0 (P 1 i)), .ref (AD 0 g), .int (I2 12 i), .int (I2 13 i), .int (I2 14 i), .int (I2 15 i), .int (m_brS (m_open (I2 15 i) (I2 16 i)) (m_hot (J 1 (P 1 i)) (J 2 (P 1 i)) (I2 15 i)) (m_hot (J 1 g) (J 2 g) (I2 15 i)) (I2 16 i)), .long (J 10 i), .long (J 11 i), .long (J 12 i)]))) (AD 9 0) = .inr (6, [.ref (AD 8 0), .ref (AD 8 1), .ref (AD 8 2), .ref (AD 8 3), .ref (AD 8 4), .ref (AD 8 5), .int (nI (n 0)), .int (nI (n 1)), .int (nI (n 2)), .int (nI (n 3)), .int (nI (n 4)), .int (nI (n 5)), .int (I2 99 0), .long (J 99 0), .long (J 99 1), .long (J 99 2), .long (J 99 3)]) := (va_up_ne _ _ ne_AD_9_0_AD_1_i).trans g_16E
                have e_30 : (va_up f2 (AD 1 i) (.inr (1, [.ref (AD 0 (P 1 i)), .ref (AD 0 g), .int (I2 12 i), .int (I2 13 i), .int (I2 14 i), .int (I2 15 i), .int (m_brS (m_open (I2 15 i) (I2 16 i)) (m_hot (J 1 (P 1 i)) (J 2 (P 1 i)) (I2 15 i)) (m_hot (J 1 g) (J 2 g) (I2 15 i)) (I2 16 i)), .long (J 10 i), .long (J 11 i), .long (J 12 i)]))) (AD 0 (P 1 i)) = .inr (0, [.int (I2 0 (P 1 i)), .int (I2 1 (P 1 i)), .long (J 0 (P 1 i)), .long (J 1 (P 1 i)), .long (J 2 (P 1 i)), .int (I2 2 (P 1 i)), .int (I2 3 (P 1 i)), .int (I2 4 (P 1 i))]) := (va_up_ne _ _ ne_AD_0_P_1_i_AD_1_i).trans g_25E
                have e_31 : (va_up f2 (AD 1 i) (.inr (1, [.ref (AD 0 (P 1 i)), .ref (AD 0 g), .int (I2 12 i), .int (I2 13 i), .int (I2 14 i), .int (I2 15 i), .int (m_brS (m_open (I2 15 i) (I2 16 i)) (m_hot (J 1 (P 1 i)) (J 2 (P 1 i)) (I2 15 i)) (m_hot (J 1 g) (J 2 g) (I2 15 i)) (I2 16 i)), .long (J 10 i), .long (J 11 i), .long (J 12 i)]))) (AD 0 g) = .inr (0, [.int (I2 0 g), .int (I2 1 g), .long (J 0 g), .long (J 1 g), .long (J 2 g), .int (I2 2 g), .int (I2 3 g), .int (I2 4 g)]) := (va_up_ne _ _ ne_AD_0_g_AD_1_i).trans g_26E
                have e_32 : (va_up f2 (AD 1 i) (.inr (1, [.ref (AD 0 (P 1 i)), .ref (AD 0 g), .int (I2 12 i), .int (I2 13 i), .int (I2 14 i), .int (I2 15 i), .int (m_brS (m_open (I2 15 i) (I2 16 i)) (m_hot (J 1 (P 1 i)) (J 2 (P 1 i)) (I2 15 i)) (m_hot (J 1 g) (J 2 g) (I2 15 i)) (I2 16 i)), .long (J 10 i), .long (J 11 i), .long (J 12 i)]))) (AD 8 1) = .inl (ct 1, 15, .inr (.inr (.inr (.inr (fun j => if j < n 1 then some (AD 1 j) else none))))) := (va_up_ne _ _ ne_AD_8_1_AD_1_i).trans g_27E
                refine lv_iinc (v := nI (i + 1)) (lv' := [(1, .int (nI (i + 1))), (0, .ref (AD 9 0))]) hx hb d_Sz_warmThings_44 hl (k := 0) rfl (nI_1 i) (by decide) rfl (fun ls hl => ?_)
                refine lv_goto (tgt := 27) hx hb d_Sz_warmThings_47 (by decide) ?_
                have hN0 : CW ct AD L n (zS J P i I2) J P _ := hC1.set (k := 1) (i := i) (lv0 (by decide) hi) (co_op (fun a b h => up_hO a b (by omega)) (fun _ _ _ => rfl)) hC1.2.2
                have hN : CW ct AD L n (zS J P i I2) J P (va_up f2 (AD 1 i) (.inr (1, [.ref (AD 0 (P 1 i)), .ref (AD 0 g), .int (I2 12 i), .int (I2 13 i), .int (I2 14 i), .int (I2 15 i), .int (m_brS (m_open (I2 15 i) (I2 16 i)) (m_hot (J 1 (P 1 i)) (J 2 (P 1 i)) (I2 15 i)) (m_hot (J 1 g) (J 2 g) (I2 15 i)) (I2 16 i)), .long (J 10 i), .long (J 11 i), .long (J 12 i)]))) := by
                  refine cast (congrArg (CW ct AD L n (zS J P i I2) J P) ?_) hN0
                  simp [cellOf, roomE, mainE, openE, steelE, farV, up2, zS, hp2]
                exact ih1 (i + 1) _ _ _ _ _ (by omega) hN hP hD hS (lv_sub hl [0, 1] rfl) hfin1
        exact lp1 (n 1) 0 I1 f1 _ _ _ (by omega) hC0 hP hD hS (lv_sub hl [0, 1] rfl) rfl
      · exact (ge_yes (by omega) (by omega) c_2).elim
    | succ k ih0 =>
      intro i I1 f1 H locs ls hik0 hC0 hP hD hS hl hfin0
      have hcap := hC0.cap0
      obtain ⟨g_33L, g_33E⟩ := hC0.ma
      have hi : i < n 0 := by omega
      refine lv_iload_n hx hb d_Sz_warmThings_2 rfl (lv_at hl 0 rfl) ?_
      refine lv_aload_n hx hb d_Sz_warmThings_3 rfl (lv_at hl 1 rfl) ?_
      refine pg_get (C := "SmokeZones") (T := T_Sz) (N := 17) hx hb hG in_Sz hown hK hP g_33L g_33E rfl 6 (by decide) (hG _ k41) (fun _ h9 => h9) rfl d_Sz_warmThings_4 ?_
      refine lv_icmp_ge (tgt := 25) hx hb d_Sz_warmThings_7 (by decide) (fun c_34 => ?_) (fun c_34 => ?_)
      · exact (ge_no hi (by omega) c_34).elim
      · obtain ⟨g_35L, g_35E⟩ := hC0.ro hi
        obtain ⟨g_36L, g_36E⟩ := hC0.a0
        have ne_AD_9_0_AD_0_i : AD 9 0 ≠ AD 0 i := hC0.ne (k := 9) (i := 0) (k' := 0) (i' := i) (lv9) (lv0 (by decide) hi) (by omega)
        have ne_AD_9_0_AD_8_0 : AD 9 0 ≠ AD 8 0 := hC0.ne (k := 9) (i := 0) (k' := 8) (i' := 0) (lv9) (lv8 (by decide)) (by omega)
        have ne_AD_0_i_AD_9_0 : AD 0 i ≠ AD 9 0 := hC0.ne (k := 0) (i := i) (k' := 9) (i' := 0) (lv0 (by decide) hi) (lv9) (by omega)
        have ne_AD_0_i_AD_8_0 : AD 0 i ≠ AD 8 0 := hC0.ne (k := 0) (i := i) (k' := 8) (i' := 0) (lv0 (by decide) hi) (lv8 (by decide)) (by omega)
        have ne_AD_8_0_AD_9_0 : AD 8 0 ≠ AD 9 0 := hC0.ne (k := 8) (i := 0) (k' := 9) (i' := 0) (lv8 (by decide)) (lv9) (by omega)
        have ne_AD_8_0_AD_0_i : AD 8 0 ≠ AD 0 i := hC0.ne (k := 8) (i := 0) (k' := 0) (i' := i) (lv8 (by decide)) (lv0 (by decide) hi) (by omega)
        refine lv_aload_n hx hb d_Sz_warmThings_10 rfl (lv_at hl 1 rfl) ?_
        refine pg_get (C := "SmokeZones") (T := T_Sz) (N := 17) hx hb hG in_Sz hown hK hP g_33L g_33E rfl 0 (by decide) (hG _ k35) (fun _ h9 => h9) rfl d_Sz_warmThings_11 ?_
        refine lv_iload_n hx hb d_Sz_warmThings_14 rfl (lv_at hl 0 rfl) ?_
        refine pg_ald hx hb hK hP 0 g_36L g_36E rfl (vp_in_nI (by omega) (by decide)) (rf_at hi (by omega)) d_Sz_warmThings_15 ?_
        refine kV_wv (f' := va_up f1 (AD 0 i) (.inr (0, [.int (I1 0 i), .int (I1 1 i), .long (J 0 i), .long (J 1 i), .long (J 2 i), .int (I1 2 i), .int (m_act (J 1 i) (J 2 i) (I1 2 i) (I1 3 i)), .int (I1 4 i)]))) ⟨hx, hb, hml, hown, hG⟩ (c_Ro_testSprinkler g_35L g_35E) (cwV 0 hG (gV k523 k524 k525 k8 k526) rfl rfl rfl hd_Ro_testSprinkler ⟨Nat.le_of_ble_eq_true rfl, Nat.le_of_ble_eq_true rfl⟩) hK hP hD hS hA g_35L g_35E rfl rfl hl.1 rfl (Nat.le_of_ble_eq_true rfl) ⟨Nat.le_of_ble_eq_true rfl, Nat.le_of_ble_eq_true rfl⟩ d_Sz_warmThings_16 (fun H locs hP hD hS => ?_)
        have e_37 : (va_up f1 (AD 0 i) (.inr (0, [.int (I1 0 i), .int (I1 1 i), .long (J 0 i), .long (J 1 i), .long (J 2 i), .int (I1 2 i), .int (m_act (J 1 i) (J 2 i) (I1 2 i) (I1 3 i)), .int (I1 4 i)]))) (AD 0 i) = .inr (0, [.int (I1 0 i), .int (I1 1 i), .long (J 0 i), .long (J 1 i), .long (J 2 i), .int (I1 2 i), .int (m_act (J 1 i) (J 2 i) (I1 2 i) (I1 3 i)), .int (I1 4 i)]) := va_up_self _ _ _
        have e_38 : (va_up f1 (AD 0 i) (.inr (0, [.int (I1 0 i), .int (I1 1 i), .long (J 0 i), .long (J 1 i), .long (J 2 i), .int (I1 2 i), .int (m_act (J 1 i) (J 2 i) (I1 2 i) (I1 3 i)), .int (I1 4 i)]))) (AD 9 0) = .inr (6, [.ref (AD 8 0), .ref (AD 8 1), .ref (AD 8 2), .ref (AD 8 3), .ref (AD 8 4), .ref (AD 8 5), .int (nI (n 0)), .int (nI (n 1)), .int (nI (n 2)), .int (nI (n 3)), .int (nI (n 4)), .int (nI (n 5)), .int (I1 99 0), .long (J 99 0), .long (J 99 1), .long (J 99 2), .long (J 99 3)]) := (va_up_ne _ _ ne_AD_9_0_AD_0_i).trans g_33E
        have e_39 : (va_up f1 (AD 0 i) (.inr (0, [.int (I1 0 i), .int (I1 1 i), .long (J 0 i), .long (J 1 i), .long (J 2 i), .int (I1 2 i), .int (m_act (J 1 i) (J 2 i) (I1 2 i) (I1 3 i)), .int (I1 4 i)]))) (AD 8 0) = .inl (ct 0, 10, .inr (.inr (.inr (.inr (fun j => if j < n 0 then some (AD 0 j) else none))))) := (va_up_ne _ _ ne_AD_8_0_AD_0_i).trans g_36E
        refine lv_iinc (v := nI (i + 1)) (lv' := [(1, .int (nI (i + 1))), (0, .ref (AD 9 0))]) hx hb d_Sz_warmThings_19 hl (k := 0) rfl (nI_1 i) (by decide) rfl (fun ls hl => ?_)
        refine lv_goto (tgt := 2) hx hb d_Sz_warmThings_22 (by decide) ?_
        have hN0 : CW ct AD L n (aS J i I1) J P _ := hC0.set (k := 0) (i := i) (lv0 (by decide) hi) (co_ro (fun a i h => up_hO a i (by omega)) (fun _ _ _ => rfl)) hC0.2.2
        have hN : CW ct AD L n (aS J i I1) J P (va_up f1 (AD 0 i) (.inr (0, [.int (I1 0 i), .int (I1 1 i), .long (J 0 i), .long (J 1 i), .long (J 2 i), .int (I1 2 i), .int (m_act (J 1 i) (J 2 i) (I1 2 i) (I1 3 i)), .int (I1 4 i)]))) := by
          refine cast (congrArg (CW ct AD L n (aS J i I1) J P) ?_) hN0
          simp [cellOf, roomE, mainE, openE, steelE, farV, up2, aS]
        exact ih0 (i + 1) _ _ _ _ _ (by omega) hN hP hD hS (lv_sub hl [0, 1] rfl) hfin0
  exact lp0 (n 0) 0 I f _ _ _ (by omega) hCW hP hD hS (lv_sub hl [0, 1] rfl) rfl
end
section
def m_wk7 (n k : Nat) (g1 : Nat → Int32) (t : Int32) : Nat := if nI n ≤ nI k then k else if g1 (Int32.toNatClampNeg (nI k)) = t then k + 1 else k
theorem wwk_eq (n k : Nat) (g1 : Nat → Int32) (t : Int32) : m_wwk n k g1 t = nI (m_wk7 n k g1 t) := by
  unfold m_wwk m_wk7
  split
  · rfl
  · split
    · exact nI_1 k
    · rfl
theorem wk7_le {n k : Nat} {g1 : Nat → Int32} {t : Int32} (hn : n ≤ 20) (hk : k ≤ n) : m_wk7 n k g1 t ≤ n := by
  unfold m_wk7
  split
  · exact hk
  · rename_i h
    split
    · rcases Nat.lt_or_ge k n with q | q
      · exact q
      · exact absurd (nI_le q (by omega)) h
    · exact hk
theorem isR_of {n0 : Nat} {p : Int32} (hn : n0 ≤ 100) (h : ¬ m_isR n0 p = 0) : ∃ r, r < n0 ∧ p = nI r := by
  unfold m_isR at h
  split at h
  · exact absurd rfl h
  · rename_i h1
    split at h
    · exact absurd rfl h
    · rename_i h2
      obtain ⟨r, hr, e⟩ := nI_of h1
      subst e
      refine ⟨r, ?_, rfl⟩
      rcases Nat.lt_or_ge r n0 with q | q
      · exact q
      · exact absurd (nI_le q hr) h2
abbrev St3 : Type := (Nat → Nat → Int32) × (Nat → Nat → Int64) × (Nat → Nat → Nat)
def wPl (I : Nat → Nat → Int32) (P : Nat → Nat → Nat) (i : Nat) : Int32 := m_wpl (P 6 i) (P 7 i) (I (100 + i)) (I (200 + i)) (I 99 0) (I 50 i)
def wI (I : Nat → Nat → Int32) (P : Nat → Nat → Nat) (i : Nat) : Nat → Nat → Int32 := up2 I 50 i (wPl I P i)
def wP (I : Nat → Nat → Int32) (P : Nat → Nat → Nat) (i : Nat) : Nat → Nat → Nat := up2 P 7 i (m_wk7 (P 6 i) (P 7 i) (I (100 + i)) (I 99 0))
def wJ (n : Nat → Nat) (I : Nat → Nat → Int32) (J : Nat → Nat → Int64) (P : Nat → Nat → Nat) (i : Nat) : Nat → Nat → Int64 :=
  if m_isR (n 0) (wPl I P i) = 0 then J else
    up2 (up2 J 50 i (m_dz (m_low (I 0 (wPl I P i).toNatClampNeg) (I 1 (wPl I P i).toNatClampNeg) (J 1 (wPl I P i).toNatClampNeg)) (J 1 (wPl I P i).toNatClampNeg) (J 2 (wPl I P i).toNatClampNeg) (J 50 i))) 51 i (m_be (m_low (I 0 (wPl I P i).toNatClampNeg) (I 1 (wPl I P i).toNatClampNeg) (J 1 (wPl I P i).toNatClampNeg)) (J 51 i))
def wS (n : Nat → Nat) (i : Nat) (x : St3) : St3 := (wI x.1 x.2.2 i, wJ n x.1 x.2.1 x.2.2 i, wP x.1 x.2.2 i)
def wL (n : Nat → Nat) : Nat → Nat → St3 → St3
  | 0, _, x => x
  | k + 1, i, x => wL n k (i + 1) (wS n i x)
theorem wP_inv {n : Nat → Nat} {I : Nat → Nat → Int32} {P : Nat → Nat → Nat} {i : Nat} (h : CInv n P) (hi : i < n 5) : CInv n (wP I P i) := by
  obtain ⟨h1, h2, h3, h4, h5, h6⟩ := h
  have e : ∀ a j, a ≠ 7 → wP I P i a j = P a j := fun a j ha => up2_ne _ _ _ _ (by omega)
  refine ⟨h1, fun j hj => ?_, fun j hj => ?_, fun j hj => ?_, fun j hj => ?_, fun j hj => ?_⟩
  · rw [e 1 j (by decide), e 2 j (by decide)]; exact h2 j hj
  · rw [e 3 j (by decide)]; exact h3 j hj
  · rw [e 4 j (by decide)]; exact h4 j hj
  · rw [e 5 j (by decide)]; exact h5 j hj
  · rw [e 6 j (by decide)]
    refine ⟨(h6 j hj).1, ?_⟩
    by_cases q : j = i
    · subst q
      show up2 P 7 j _ 7 j ≤ _
      rw [up2_at]
      exact wk7_le (h6 j hj).1 (h6 j hj).2
    · show up2 P 7 i _ 7 j ≤ _
      rw [up2_ne _ _ _ _ (by omega)]
      exact (h6 j hj).2
theorem wJ_hJ {n : Nat → Nat} {I : Nat → Nat → Int32} {J : Nat → Nat → Int64} {P : Nat → Nat → Nat} {i : Nat} : ∀ a b, ¬ (50 ≤ a ∧ a ≤ 51 ∧ b = i) → wJ n I J P i a b = J a b := by
  intro a b h
  unfold wJ
  split
  · rfl
  · rw [up2_ne _ _ _ _ (by omega), up2_ne _ _ _ _ (by omega)]

set_option maxHeartbeats 4000000 in
set_option maxRecDepth 100000 in
theorem c_Sz_movePersons {l : Launch} {D : va_G} {ct : Nat → ClassId} {AD : Nat → Nat → Nat} {L : List Nat} {f : Nat → va_E} {sz : Nat} {n : Nat → Nat} {I : Nat → Nat → Int32} {J : Nat → Nat → Int64} {P : Nat → Nat → Nat} (hCW : CW ct AD L n I J P f) : Met l y_Sz_movePersons (WS y_Sz_movePersons b_Sz_movePersons 3 none) { frames := 4, cells := 0, slots := 0, locals := 81 } (va_Pc [.ref (AD 9 0)] (WP D (TYS ct) L f sz)) (Xs D (TYS ct) L (AA L f sz) (fun f' => CW ct AD L n (wL n (n 5) 0 (I, J, P)).1 (wL n (n 5) 0 (I, J, P)).2.1 (wL n (n 5) 0 (I, J, P)).2.2 f')) 0 0 (AA L f sz) := by
  refine Met.ofW (cc := b_Sz_movePersons) (maxL := 3) (ret := none) (by decide) rfl ?_
  intro p e s m args below meth c s₁ B hml hv
  obtain ⟨rfl, hsz, hP, hK, hD0⟩ := hv
  subst hsz
  have hx := B.exec
  have hb := B.bytes
  have hret := B.returns
  have hts := atoms_spec (ws := WS y_Sz_movePersons b_Sz_movePersons 3 none) B.pre
  have hG : ∀ w ∈ GW, w.before _ s = true := fun w h => hts w (List.mem_cons_of_mem _ h)
  have hown : s.vm.findClass "SmokeZones" = some m.cls := findClass_of_methodNamed B.named
  have hlocks := B.notSynchronized
  have hD : va_D (AA L f s.heap.size) (va_pl L f) := hD0.self (sz := s.heap.size)
  generalize hAe : AA L f s.heap.size = A at hD ⊢
  have hA : ∀ q : Nat, s.heap.size ≤ q → A q := fun q h => by rw [← hAe]; exact Or.inr h
  have hS : va_S A s.heap s.heap [] := va_S.rf
  have hl := lv_entry ([.ref (AD 9 0)]) (n := 3) (Nat.le_of_ble_eq_true rfl)
  rw [lg_entry_eq]
  generalize (lg_sl ([.ref (AD 9 0)]) ++ List.replicate (3 - (lg_sl ([.ref (AD 9 0)])).length) Slot.unset).toArray = ls at hl ⊢
  have hl : lv_has ls 3 [(0, .ref (AD 9 0))] := hl
  refine lv_iconst (v := 0) hx hb d_Sz_movePersons_0 (by decide) ?_
  refine lv_istore_n (lv' := [(1, .int 0), (0, .ref (AD 9 0))]) hx hb d_Sz_movePersons_1 rfl hl (by decide) rfl (fun ls hl => ?_)
  have lp : ∀ (k i : Nat) (I1 : Nat → Nat → Int32) (J1 : Nat → Nat → Int64) (P1 : Nat → Nat → Nat) (f1 : Nat → va_E) (H : Heap) (locs : List Loc) (ls : Array Slot), i + k = n 5 → CW ct AD L n I1 J1 P1 f1 → va_P D vwCl (va_pl L f1) H → va_D A (va_pl L f1) → va_S A s.heap H locs → lv_has ls 3 [(1, .int (nI i)), (0, .ref (AD 9 0))] → wL n k i (I1, J1, P1) = wL n (n 5) 0 (I, J, P) → W p l e (headSpec (WS y_Sz_movePersons b_Sz_movePersons 3 none) { frames := 4, cells := 0, slots := 0, locals := 81 }).room s m [.ref (AD 9 0)].toArray below meth c H locs 0 0 (MQ below (Xs D (TYS ct) L A (fun f' => CW ct AD L n (wL n (n 5) 0 (I, J, P)).1 (wL n (n 5) 0 (I, J, P)).2.1 (wL n (n 5) 0 (I, J, P)).2.2 f')) [.ref (AD 9 0)].toArray s 0 0 A) (F0 m 2 ls []) := by
    intro k
    induction k with
    | zero =>
      intro i I1 J1 P1 f1 H locs ls hik hC hP hD hS hl hfin
      have hcap := hC.cap5
      obtain ⟨g_1L, g_1E⟩ := hC.ma
      refine lv_iload_n hx hb d_Sz_movePersons_2 rfl (lv_at hl 0 rfl) ?_
      refine lv_aload_n hx hb d_Sz_movePersons_3 rfl (lv_at hl 1 rfl) ?_
      refine pg_get (C := "SmokeZones") (T := T_Sz) (N := 17) hx hb hG in_Sz hown hK hP g_1L g_1E rfl 11 (by decide) (hG _ k46) (fun _ h9 => h9) rfl d_Sz_movePersons_4 ?_
      refine lv_icmp_ge (tgt := 55) hx hb d_Sz_movePersons_7 (by decide) (fun c_2 => ?_) (fun c_2 => ?_)
      · have q : (I1, J1, P1) = wL n (n 5) 0 (I, J, P) := hfin
        have hN : CW ct AD L n (wL n (n 5) 0 (I, J, P)).1 (wL n (n 5) 0 (I, J, P)).2.1 (wL n (n 5) 0 (I, J, P)).2.2 f1 := by rw [← q]; exact hC
        exact W.vret hx hb hret (fun t ht hW => ⟨⟨f1, rfl, hN, by rw [ht]; exact hP, va_K.moved hW.alike hK, hD⟩, hS.F ht⟩) hS.2.2 d_Sz_movePersons_55
      · exact (ge_yes (by omega) (by omega) c_2).elim
    | succ k ih =>
      intro i I1 J1 P1 f1 H locs ls hik hC hP hD hS hl hfin
      have hcap := hC.cap5
      obtain ⟨g_3L, g_3E⟩ := hC.ma
      have hi : i < n 5 := by omega
      refine lv_iload_n hx hb d_Sz_movePersons_2 rfl (lv_at hl 0 rfl) ?_
      refine lv_aload_n hx hb d_Sz_movePersons_3 rfl (lv_at hl 1 rfl) ?_
      refine pg_get (C := "SmokeZones") (T := T_Sz) (N := 17) hx hb hG in_Sz hown hK hP g_3L g_3E rfl 11 (by decide) (hG _ k46) (fun _ h9 => h9) rfl d_Sz_movePersons_4 ?_
      refine lv_icmp_ge (tgt := 55) hx hb d_Sz_movePersons_7 (by decide) (fun c_4 => ?_) (fun c_4 => ?_)
      · exact (ge_no hi (by omega) c_4).elim
      · have hc0 := hC.cap0
        obtain ⟨h20, hwk⟩ := hC.2.2.2.2.2.2.2 i hi
        obtain ⟨g_5L, g_5E⟩ := hC.pe hi
        obtain ⟨g_6L, g_6E⟩ := hC.w1 hi
        obtain ⟨g_7L, g_7E⟩ := hC.w2 hi
        obtain ⟨g_8L, g_8E⟩ := hC.a5
        obtain ⟨g_9L, g_9E⟩ := hC.a0
        have ne_AD_9_0_AD_5_i : AD 9 0 ≠ AD 5 i := hC.ne (k := 9) (i := 0) (k' := 5) (i' := i) (lv9) (lv0 (by decide) hi) (by omega)
        have ne_AD_9_0_AD_6_i : AD 9 0 ≠ AD 6 i := hC.ne (k := 9) (i := 0) (k' := 6) (i' := i) (lv9) (lv6 hi) (by omega)
        have ne_AD_9_0_AD_7_i : AD 9 0 ≠ AD 7 i := hC.ne (k := 9) (i := 0) (k' := 7) (i' := i) (lv9) (lv7 hi) (by omega)
        have ne_AD_9_0_AD_8_5 : AD 9 0 ≠ AD 8 5 := hC.ne (k := 9) (i := 0) (k' := 8) (i' := 5) (lv9) (lv8 (by decide)) (by omega)
        have ne_AD_9_0_AD_8_0 : AD 9 0 ≠ AD 8 0 := hC.ne (k := 9) (i := 0) (k' := 8) (i' := 0) (lv9) (lv8 (by decide)) (by omega)
        have ne_AD_5_i_AD_9_0 : AD 5 i ≠ AD 9 0 := hC.ne (k := 5) (i := i) (k' := 9) (i' := 0) (lv0 (by decide) hi) (lv9) (by omega)
        have ne_AD_5_i_AD_6_i : AD 5 i ≠ AD 6 i := hC.ne (k := 5) (i := i) (k' := 6) (i' := i) (lv0 (by decide) hi) (lv6 hi) (by omega)
        have ne_AD_5_i_AD_7_i : AD 5 i ≠ AD 7 i := hC.ne (k := 5) (i := i) (k' := 7) (i' := i) (lv0 (by decide) hi) (lv7 hi) (by omega)
        have ne_AD_5_i_AD_8_5 : AD 5 i ≠ AD 8 5 := hC.ne (k := 5) (i := i) (k' := 8) (i' := 5) (lv0 (by decide) hi) (lv8 (by decide)) (by omega)
        have ne_AD_5_i_AD_8_0 : AD 5 i ≠ AD 8 0 := hC.ne (k := 5) (i := i) (k' := 8) (i' := 0) (lv0 (by decide) hi) (lv8 (by decide)) (by omega)
        have ne_AD_6_i_AD_9_0 : AD 6 i ≠ AD 9 0 := hC.ne (k := 6) (i := i) (k' := 9) (i' := 0) (lv6 hi) (lv9) (by omega)
        have ne_AD_6_i_AD_5_i : AD 6 i ≠ AD 5 i := hC.ne (k := 6) (i := i) (k' := 5) (i' := i) (lv6 hi) (lv0 (by decide) hi) (by omega)
        have ne_AD_6_i_AD_7_i : AD 6 i ≠ AD 7 i := hC.ne (k := 6) (i := i) (k' := 7) (i' := i) (lv6 hi) (lv7 hi) (by omega)
        have ne_AD_6_i_AD_8_5 : AD 6 i ≠ AD 8 5 := hC.ne (k := 6) (i := i) (k' := 8) (i' := 5) (lv6 hi) (lv8 (by decide)) (by omega)
        have ne_AD_6_i_AD_8_0 : AD 6 i ≠ AD 8 0 := hC.ne (k := 6) (i := i) (k' := 8) (i' := 0) (lv6 hi) (lv8 (by decide)) (by omega)
        have ne_AD_7_i_AD_9_0 : AD 7 i ≠ AD 9 0 := hC.ne (k := 7) (i := i) (k' := 9) (i' := 0) (lv7 hi) (lv9) (by omega)
        have ne_AD_7_i_AD_5_i : AD 7 i ≠ AD 5 i := hC.ne (k := 7) (i := i) (k' := 5) (i' := i) (lv7 hi) (lv0 (by decide) hi) (by omega)
        have ne_AD_7_i_AD_6_i : AD 7 i ≠ AD 6 i := hC.ne (k := 7) (i := i) (k' := 6) (i' := i) (lv7 hi) (lv6 hi) (by omega)
        have ne_AD_7_i_AD_8_5 : AD 7 i ≠ AD 8 5 := hC.ne (k := 7) (i := i) (k' := 8) (i' := 5) (lv7 hi) (lv8 (by decide)) (by omega)
        have ne_AD_7_i_AD_8_0 : AD 7 i ≠ AD 8 0 := hC.ne (k := 7) (i := i) (k' := 8) (i' := 0) (lv7 hi) (lv8 (by decide)) (by omega)
        have ne_AD_8_5_AD_9_0 : AD 8 5 ≠ AD 9 0 := hC.ne (k := 8) (i := 5) (k' := 9) (i' := 0) (lv8 (by decide)) (lv9) (by omega)
        have ne_AD_8_5_AD_5_i : AD 8 5 ≠ AD 5 i := hC.ne (k := 8) (i := 5) (k' := 5) (i' := i) (lv8 (by decide)) (lv0 (by decide) hi) (by omega)
        have ne_AD_8_5_AD_6_i : AD 8 5 ≠ AD 6 i := hC.ne (k := 8) (i := 5) (k' := 6) (i' := i) (lv8 (by decide)) (lv6 hi) (by omega)
        have ne_AD_8_5_AD_7_i : AD 8 5 ≠ AD 7 i := hC.ne (k := 8) (i := 5) (k' := 7) (i' := i) (lv8 (by decide)) (lv7 hi) (by omega)
        have ne_AD_8_5_AD_8_0 : AD 8 5 ≠ AD 8 0 := hC.ne (k := 8) (i := 5) (k' := 8) (i' := 0) (lv8 (by decide)) (lv8 (by decide)) (by omega)
        have ne_AD_8_0_AD_9_0 : AD 8 0 ≠ AD 9 0 := hC.ne (k := 8) (i := 0) (k' := 9) (i' := 0) (lv8 (by decide)) (lv9) (by omega)
        have ne_AD_8_0_AD_5_i : AD 8 0 ≠ AD 5 i := hC.ne (k := 8) (i := 0) (k' := 5) (i' := i) (lv8 (by decide)) (lv0 (by decide) hi) (by omega)
        have ne_AD_8_0_AD_6_i : AD 8 0 ≠ AD 6 i := hC.ne (k := 8) (i := 0) (k' := 6) (i' := i) (lv8 (by decide)) (lv6 hi) (by omega)
        have ne_AD_8_0_AD_7_i : AD 8 0 ≠ AD 7 i := hC.ne (k := 8) (i := 0) (k' := 7) (i' := i) (lv8 (by decide)) (lv7 hi) (by omega)
        have ne_AD_8_0_AD_8_5 : AD 8 0 ≠ AD 8 5 := hC.ne (k := 8) (i := 0) (k' := 8) (i' := 5) (lv8 (by decide)) (lv8 (by decide)) (by omega)
        refine lv_aload_n hx hb d_Sz_movePersons_10 rfl (lv_at hl 1 rfl) ?_
        refine pg_get (C := "SmokeZones") (T := T_Sz) (N := 17) hx hb hG in_Sz hown hK hP g_3L g_3E rfl 5 (by decide) (hG _ k40) (fun _ h9 => h9) rfl d_Sz_movePersons_11 ?_
        refine lv_iload_n hx hb d_Sz_movePersons_14 rfl (lv_at hl 0 rfl) ?_
        refine pg_ald hx hb hK hP 5 g_8L g_8E rfl (vp_in_nI (by omega) (by decide)) (rf_at hi (by omega)) d_Sz_movePersons_15 ?_
        refine lv_astore_n (lv' := [(2, .ref (AD 5 i)), (1, .int (nI i)), (0, .ref (AD 9 0))]) hx hb d_Sz_movePersons_16 rfl hl (by decide) rfl (fun ls hl => ?_)
        refine lv_aload_n hx hb d_Sz_movePersons_17 rfl (lv_at hl 0 rfl) ?_
        refine lv_aload_n hx hb d_Sz_movePersons_18 rfl (lv_at hl 2 rfl) ?_
        refine pg_get (C := "SmokeZones") (T := T_Sz) (N := 17) hx hb hG in_Sz hown hK hP g_3L g_3E rfl 12 (by decide) (hG _ k47) (fun _ h9 => h9) rfl d_Sz_movePersons_19 ?_
        refine kV_wv (f' := va_up f1 (AD 5 i) (.inr (5, [.int (m_wpl (P1 6 i) (P1 7 i) (I1 (100 + i)) (I1 (200 + i)) (I1 99 0) (I1 50 i)), .long (J1 50 i), .long (J1 51 i), .ref (AD 6 i), .ref (AD 7 i), .int (nI (P1 6 i)), .int (I1 52 i), .int (m_wwk (P1 6 i) (P1 7 i) (I1 (100 + i)) (I1 99 0))]))) ⟨hx, hb, hml, hown, hG⟩ (c_Pe_walk g_6L g_6E g_7L g_7E g_5L g_5E h20 (by omega)) (cwV 1 hG (gV k549 k550 k551 k13 k552) rfl rfl rfl hd_Pe_walk ⟨Nat.le_of_ble_eq_true rfl, Nat.le_of_ble_eq_true rfl⟩) hK hP hD hS hA g_5L g_5E rfl rfl hl.1 rfl (Nat.le_of_ble_eq_true rfl) ⟨Nat.le_of_ble_eq_true rfl, Nat.le_of_ble_eq_true rfl⟩ d_Sz_movePersons_22 (fun H locs hP hD hS => ?_)
        have e_10 : (va_up f1 (AD 5 i) (.inr (5, [.int (m_wpl (P1 6 i) (P1 7 i) (I1 (100 + i)) (I1 (200 + i)) (I1 99 0) (I1 50 i)), .long (J1 50 i), .long (J1 51 i), .ref (AD 6 i), .ref (AD 7 i), .int (nI (P1 6 i)), .int (I1 52 i), .int (m_wwk (P1 6 i) (P1 7 i) (I1 (100 + i)) (I1 99 0))]))) (AD 5 i) = .inr (5, [.int (m_wpl (P1 6 i) (P1 7 i) (I1 (100 + i)) (I1 (200 + i)) (I1 99 0) (I1 50 i)), .long (J1 50 i), .long (J1 51 i), .ref (AD 6 i), .ref (AD 7 i), .int (nI (P1 6 i)), .int (I1 52 i), .int (m_wwk (P1 6 i) (P1 7 i) (I1 (100 + i)) (I1 99 0))]) := va_up_self _ _ _
        have e_11 : (va_up f1 (AD 5 i) (.inr (5, [.int (m_wpl (P1 6 i) (P1 7 i) (I1 (100 + i)) (I1 (200 + i)) (I1 99 0) (I1 50 i)), .long (J1 50 i), .long (J1 51 i), .ref (AD 6 i), .ref (AD 7 i), .int (nI (P1 6 i)), .int (I1 52 i), .int (m_wwk (P1 6 i) (P1 7 i) (I1 (100 + i)) (I1 99 0))]))) (AD 9 0) = .inr (6, [.ref (AD 8 0), .ref (AD 8 1), .ref (AD 8 2), .ref (AD 8 3), .ref (AD 8 4), .ref (AD 8 5), .int (nI (n 0)), .int (nI (n 1)), .int (nI (n 2)), .int (nI (n 3)), .int (nI (n 4)), .int (nI (n 5)), .int (I1 99 0), .long (J1 99 0), .long (J1 99 1), .long (J1 99 2), .long (J1 99 3)]) := (va_up_ne _ _ ne_AD_9_0_AD_5_i).trans g_3E
        have e_12 : (va_up f1 (AD 5 i) (.inr (5, [.int (m_wpl (P1 6 i) (P1 7 i) (I1 (100 + i)) (I1 (200 + i)) (I1 99 0) (I1 50 i)), .long (J1 50 i), .long (J1 51 i), .ref (AD 6 i), .ref (AD 7 i), .int (nI (P1 6 i)), .int (I1 52 i), .int (m_wwk (P1 6 i) (P1 7 i) (I1 (100 + i)) (I1 99 0))]))) (AD 6 i) = .inl (ct 6, 20, .inl (I1 (100 + i))) := (va_up_ne _ _ ne_AD_6_i_AD_5_i).trans g_6E
        have e_13 : (va_up f1 (AD 5 i) (.inr (5, [.int (m_wpl (P1 6 i) (P1 7 i) (I1 (100 + i)) (I1 (200 + i)) (I1 99 0) (I1 50 i)), .long (J1 50 i), .long (J1 51 i), .ref (AD 6 i), .ref (AD 7 i), .int (nI (P1 6 i)), .int (I1 52 i), .int (m_wwk (P1 6 i) (P1 7 i) (I1 (100 + i)) (I1 99 0))]))) (AD 7 i) = .inl (ct 6, 20, .inl (I1 (200 + i))) := (va_up_ne _ _ ne_AD_7_i_AD_5_i).trans g_7E
        have e_14 : (va_up f1 (AD 5 i) (.inr (5, [.int (m_wpl (P1 6 i) (P1 7 i) (I1 (100 + i)) (I1 (200 + i)) (I1 99 0) (I1 50 i)), .long (J1 50 i), .long (J1 51 i), .ref (AD 6 i), .ref (AD 7 i), .int (nI (P1 6 i)), .int (I1 52 i), .int (m_wwk (P1 6 i) (P1 7 i) (I1 (100 + i)) (I1 99 0))]))) (AD 8 5) = .inl (ct 5, 9, .inr (.inr (.inr (.inr (fun j => if j < n 5 then some (AD 5 j) else none))))) := (va_up_ne _ _ ne_AD_8_5_AD_5_i).trans g_8E
        have e_15 : (va_up f1 (AD 5 i) (.inr (5, [.int (m_wpl (P1 6 i) (P1 7 i) (I1 (100 + i)) (I1 (200 + i)) (I1 99 0) (I1 50 i)), .long (J1 50 i), .long (J1 51 i), .ref (AD 6 i), .ref (AD 7 i), .int (nI (P1 6 i)), .int (I1 52 i), .int (m_wwk (P1 6 i) (P1 7 i) (I1 (100 + i)) (I1 99 0))]))) (AD 8 0) = .inl (ct 0, 10, .inr (.inr (.inr (.inr (fun j => if j < n 0 then some (AD 0 j) else none))))) := (va_up_ne _ _ ne_AD_8_0_AD_5_i).trans g_9E
        refine lv_aload_n hx hb d_Sz_movePersons_25 rfl (lv_at hl 2 rfl) ?_
        refine lv_aload_n hx hb d_Sz_movePersons_26 rfl (lv_at hl 0 rfl) ?_
        refine pg_get (C := "SmokeZones$Person") (T := T_Pe) (N := 8) hx hb hG in_Pe hown hK hP g_5L e_10 rfl 0 (by decide) (hG _ k388) (fun _ h9 => h9) rfl d_Sz_movePersons_27 ?_
        refine kV_ri ⟨hx, hb, hml, hown, hG⟩ (c_Sz_isRoom g_3L e_11) (cwV 1 hG (gV k244 k246 ks_Sz_isRoom k1 k247) rfl rfl rfl hd_Sz_isRoom ⟨Nat.le_of_ble_eq_true rfl, Nat.le_of_ble_eq_true rfl⟩) hK hP hS g_3L e_11 rfl rfl hl.1 rfl (Nat.le_of_ble_eq_true rfl) ⟨Nat.le_of_ble_eq_true rfl, Nat.le_of_ble_eq_true rfl⟩ d_Sz_movePersons_30 (fun locs hS => ?_)
        refine lv_if_eq (tgt := 49) hx hb d_Sz_movePersons_33 (by decide) (fun c_16 => ?_) (fun c_16 => ?_)
        · refine lv_iinc (v := nI (i + 1)) (lv' := [(1, .int (nI (i + 1))), (2, .ref (AD 5 i)), (0, .ref (AD 9 0))]) hx hb d_Sz_movePersons_49 hl (k := 1) rfl (nI_1 i) (by decide) rfl (fun ls hl => ?_)
          refine lv_goto (tgt := 2) hx hb d_Sz_movePersons_52 (by decide) ?_
          have hN0 : CW ct AD L n (wI I1 P1 i) (wJ n I1 J1 P1 i) (wP I1 P1 i) _ := hC.set (k := 5) (i := i) (lv0 (by decide) hi) (co_pe (fun a b h => up_hO a b (by omega)) wJ_hJ (fun a b h => up_hO a b (by omega))) (wP_inv hC.2.2 hi)
          have hN : CW ct AD L n (wI I1 P1 i) (wJ n I1 J1 P1 i) (wP I1 P1 i) (va_up f1 (AD 5 i) (.inr (5, [.int (m_wpl (P1 6 i) (P1 7 i) (I1 (100 + i)) (I1 (200 + i)) (I1 99 0) (I1 50 i)), .long (J1 50 i), .long (J1 51 i), .ref (AD 6 i), .ref (AD 7 i), .int (nI (P1 6 i)), .int (I1 52 i), .int (m_wwk (P1 6 i) (P1 7 i) (I1 (100 + i)) (I1 99 0))]))) := by
            refine cast (congrArg (CW ct AD L n (wI I1 P1 i) (wJ n I1 J1 P1 i) (wP I1 P1 i)) ?_) hN0
            congr 1
            simp only [cellOf, personE]
            simp [wI, wP, wJ, up2, wwk_eq, wPl, c_16]
          exact ih (i + 1) _ _ _ _ _ _ _ (by omega) hN hP hD hS (lv_sub hl [0, 2] rfl) hfin
        · obtain ⟨r, hr, hpl⟩ := isR_of (by omega) c_16
          have hcl : (nI r).toNatClampNeg = r := nI_clamp (by omega)
          have hc2 := c_16
          rw [hpl] at hc2
          obtain ⟨g_17L, g_17E0⟩ := hC.ro hr
          have ne_AD_0_r_AD_5_i : AD 0 r ≠ AD 5 i := hC.ne (k := 0) (i := r) (k' := 5) (i' := i) (lv0 (by decide) hr) (lv0 (by decide) hi) (by omega)
          have ne_AD_5_i_AD_0_r : AD 5 i ≠ AD 0 r := fun h => ne_AD_0_r_AD_5_i h.symm
          have g_17E : (va_up f1 (AD 5 i) (.inr (5, [.int (m_wpl (P1 6 i) (P1 7 i) (I1 (100 + i)) (I1 (200 + i)) (I1 99 0) (I1 50 i)), .long (J1 50 i), .long (J1 51 i), .ref (AD 6 i), .ref (AD 7 i), .int (nI (P1 6 i)), .int (I1 52 i), .int (m_wwk (P1 6 i) (P1 7 i) (I1 (100 + i)) (I1 99 0))]))) (AD 0 r) = .inr (0, [.int (I1 0 r), .int (I1 1 r), .long (J1 0 r), .long (J1 1 r), .long (J1 2 r), .int (I1 2 r), .int (I1 3 r), .int (I1 4 r)]) := (va_up_ne _ _ ne_AD_0_r_AD_5_i).trans g_17E0
          refine lv_aload_n hx hb d_Sz_movePersons_36 rfl (lv_at hl 0 rfl) ?_
          refine lv_aload_n hx hb d_Sz_movePersons_37 rfl (lv_at hl 2 rfl) ?_
          refine pg_get (C := "SmokeZones") (T := T_Sz) (N := 17) hx hb hG in_Sz hown hK hP g_3L e_11 rfl 0 (by decide) (hG _ k35) (fun _ h9 => h9) rfl d_Sz_movePersons_38 ?_
          refine lv_aload_n hx hb d_Sz_movePersons_41 rfl (lv_at hl 0 rfl) ?_
          refine pg_get (C := "SmokeZones$Person") (T := T_Pe) (N := 8) hx hb hG in_Pe hown hK hP g_5L e_10 rfl 0 (by decide) (hG _ k388) (fun _ h9 => h9) rfl d_Sz_movePersons_42 ?_
          refine pg_ald hx hb hK hP 0 g_9L e_15 rfl (by rw [hpl]; exact vp_in_nI (by omega) (by decide)) (by rw [hpl]; exact rf_at hr (by omega)) d_Sz_movePersons_45 ?_
          refine kV_wv (f' := va_up (va_up f1 (AD 5 i) (.inr (5, [.int (m_wpl (P1 6 i) (P1 7 i) (I1 (100 + i)) (I1 (200 + i)) (I1 99 0) (I1 50 i)), .long (J1 50 i), .long (J1 51 i), .ref (AD 6 i), .ref (AD 7 i), .int (nI (P1 6 i)), .int (I1 52 i), .int (m_wwk (P1 6 i) (P1 7 i) (I1 (100 + i)) (I1 99 0))]))) (AD 5 i) (.inr (5, [.int (m_wpl (P1 6 i) (P1 7 i) (I1 (100 + i)) (I1 (200 + i)) (I1 99 0) (I1 50 i)), .long (m_dz (m_low (I1 0 r) (I1 1 r) (J1 1 r)) (J1 1 r) (J1 2 r) (J1 50 i)), .long (m_be (m_low (I1 0 r) (I1 1 r) (J1 1 r)) (J1 51 i)), .ref (AD 6 i), .ref (AD 7 i), .int (nI (P1 6 i)), .int (I1 52 i), .int (m_wwk (P1 6 i) (P1 7 i) (I1 (100 + i)) (I1 99 0))]))) ⟨hx, hb, hml, hown, hG⟩ (c_Pe_breathe g_5L e_10 g_17L g_17E) (cwV 1 hG (gV k553 k554 k555 k13 k556) rfl rfl rfl hd_Pe_breathe ⟨Nat.le_of_ble_eq_true rfl, Nat.le_of_ble_eq_true rfl⟩) hK hP hD hS hA g_5L e_10 rfl rfl hl.1 rfl (Nat.le_of_ble_eq_true rfl) ⟨Nat.le_of_ble_eq_true rfl, Nat.le_of_ble_eq_true rfl⟩ d_Sz_movePersons_46 (fun H locs hP hD hS => ?_)
          rw [bx_uu] at hP hD
          have hP : va_P D vwCl (va_pl (L) (va_up f1 (AD 5 i) (.inr (5, [.int (m_wpl (P1 6 i) (P1 7 i) (I1 (100 + i)) (I1 (200 + i)) (I1 99 0) (I1 50 i)), .long (m_dz (m_low (I1 0 r) (I1 1 r) (J1 1 r)) (J1 1 r) (J1 2 r) (J1 50 i)), .long (m_be (m_low (I1 0 r) (I1 1 r) (J1 1 r)) (J1 51 i)), .ref (AD 6 i), .ref (AD 7 i), .int (nI (P1 6 i)), .int (I1 52 i), .int (m_wwk (P1 6 i) (P1 7 i) (I1 (100 + i)) (I1 99 0))])))) H := hP
          have hD : va_D A (va_pl (L) (va_up f1 (AD 5 i) (.inr (5, [.int (m_wpl (P1 6 i) (P1 7 i) (I1 (100 + i)) (I1 (200 + i)) (I1 99 0) (I1 50 i)), .long (m_dz (m_low (I1 0 r) (I1 1 r) (J1 1 r)) (J1 1 r) (J1 2 r) (J1 50 i)), .long (m_be (m_low (I1 0 r) (I1 1 r) (J1 1 r)) (J1 51 i)), .ref (AD 6 i), .ref (AD 7 i), .int (nI (P1 6 i)), .int (I1 52 i), .int (m_wwk (P1 6 i) (P1 7 i) (I1 (100 + i)) (I1 99 0))])))) := hD
          have e_18 : (va_up f1 (AD 5 i) (.inr (5, [.int (m_wpl (P1 6 i) (P1 7 i) (I1 (100 + i)) (I1 (200 + i)) (I1 99 0) (I1 50 i)), .long (m_dz (m_low (I1 0 r) (I1 1 r) (J1 1 r)) (J1 1 r) (J1 2 r) (J1 50 i)), .long (m_be (m_low (I1 0 r) (I1 1 r) (J1 1 r)) (J1 51 i)), .ref (AD 6 i), .ref (AD 7 i), .int (nI (P1 6 i)), .int (I1 52 i), .int (m_wwk (P1 6 i) (P1 7 i) (I1 (100 + i)) (I1 99 0))]))) (AD 5 i) = .inr (5, [.int (m_wpl (P1 6 i) (P1 7 i) (I1 (100 + i)) (I1 (200 + i)) (I1 99 0) (I1 50 i)), .long (m_dz (m_low (I1 0 r) (I1 1 r) (J1 1 r)) (J1 1 r) (J1 2 r) (J1 50 i)), .long (m_be (m_low (I1 0 r) (I1 1 r) (J1 1 r)) (J1 51 i)), .ref (AD 6 i), .ref (AD 7 i), .int (nI (P1 6 i)), .int (I1 52 i), .int (m_wwk (P1 6 i) (P1 7 i) (I1 (100 + i)) (I1 99 0))]) := va_up_self _ _ _
          have e_19 : (va_up f1 (AD 5 i) (.inr (5, [.int (m_wpl (P1 6 i) (P1 7 i) (I1 (100 + i)) (I1 (200 + i)) (I1 99 0) (I1 50 i)), .long (m_dz (m_low (I1 0 r) (I1 1 r) (J1 1 r)) (J1 1 r) (J1 2 r) (J1 50 i)), .long (m_be (m_low (I1 0 r) (I1 1 r) (J1 1 r)) (J1 51 i)), .ref (AD 6 i), .ref (AD 7 i), .int (nI (P1 6 i)), .int (I1 52 i), .int (m_wwk (P1 6 i) (P1 7 i) (I1 (100 + i)) (I1 99 0))]))) (AD 9 0) = .inr (6, [.ref (AD 8 0), .ref (AD 8 1), .ref (AD 8 2), .ref (AD 8 3), .ref (AD 8 4), .ref (AD 8 5), .int (nI (n 0)), .int (nI (n 1)), .int (nI (n 2)), .int (nI (n 3)), .int (nI (n 4)), .int (nI (n 5)), .int (I1 99 0), .long (J1 99 0), .long (J1 99 1), .long (J1 99 2), .long (J1 99 3)]) := (va_up_ne _ _ ne_AD_9_0_AD_5_i).trans g_3E
          have e_20 : (va_up f1 (AD 5 i) (.inr (5, [.int (m_wpl (P1 6 i) (P1 7 i) (I1 (100 + i)) (I1 (200 + i)) (I1 99 0) (I1 50 i)), .long (m_dz (m_low (I1 0 r) (I1 1 r) (J1 1 r)) (J1 1 r) (J1 2 r) (J1 50 i)), .long (m_be (m_low (I1 0 r) (I1 1 r) (J1 1 r)) (J1 51 i)), .ref (AD 6 i), .ref (AD 7 i), .int (nI (P1 6 i)), .int (I1 52 i), .int (m_wwk (P1 6 i) (P1 7 i) (I1 (100 + i)) (I1 99 0))]))) (AD 6 i) = .inl (ct 6, 20, .inl (I1 (100 + i))) := (va_up_ne _ _ ne_AD_6_i_AD_5_i).trans g_6E
          have e_21 : (va_up f1 (AD 5 i) (.inr (5, [.int (m_wpl (P1 6 i) (P1 7 i) (I1 (100 + i)) (I1 (200 + i)) (I1 99 0) (I1 50 i)), .long (m_dz (m_low (I1 0 r) (I1 1 r) (J1 1 r)) (J1 1 r) (J1 2 r) (J1 50 i)), .long (m_be (m_low (I1 0 r) (I1 1 r) (J1 1 r)) (J1 51 i)), .ref (AD 6 i), .ref (AD 7 i), .int (nI (P1 6 i)), .int (I1 52 i), .int (m_wwk (P1 6 i) (P1 7 i) (I1 (100 + i)) (I1 99 0))]))) (AD 7 i) = .inl (ct 6, 20, .inl (I1 (200 + i))) := (va_up_ne _ _ ne_AD_7_i_AD_5_i).trans g_7E
          have e_22 : (va_up f1 (AD 5 i) (.inr (5, [.int (m_wpl (P1 6 i) (P1 7 i) (I1 (100 + i)) (I1 (200 + i)) (I1 99 0) (I1 50 i)), .long (m_dz (m_low (I1 0 r) (I1 1 r) (J1 1 r)) (J1 1 r) (J1 2 r) (J1 50 i)), .long (m_be (m_low (I1 0 r) (I1 1 r) (J1 1 r)) (J1 51 i)), .ref (AD 6 i), .ref (AD 7 i), .int (nI (P1 6 i)), .int (I1 52 i), .int (m_wwk (P1 6 i) (P1 7 i) (I1 (100 + i)) (I1 99 0))]))) (AD 8 5) = .inl (ct 5, 9, .inr (.inr (.inr (.inr (fun j => if j < n 5 then some (AD 5 j) else none))))) := (va_up_ne _ _ ne_AD_8_5_AD_5_i).trans g_8E
          have e_23 : (va_up f1 (AD 5 i) (.inr (5, [.int (m_wpl (P1 6 i) (P1 7 i) (I1 (100 + i)) (I1 (200 + i)) (I1 99 0) (I1 50 i)), .long (m_dz (m_low (I1 0 r) (I1 1 r) (J1 1 r)) (J1 1 r) (J1 2 r) (J1 50 i)), .long (m_be (m_low (I1 0 r) (I1 1 r) (J1 1 r)) (J1 51 i)), .ref (AD 6 i), .ref (AD 7 i), .int (nI (P1 6 i)), .int (I1 52 i), .int (m_wwk (P1 6 i) (P1 7 i) (I1 (100 + i)) (I1 99 0))]))) (AD 8 0) = .inl (ct 0, 10, .inr (.inr (.inr (.inr (fun j => if j < n 0 then some (AD 0 j) else none))))) := (va_up_ne _ _ ne_AD_8_0_AD_5_i).trans g_9E
          have e_24 : (va_up f1 (AD 5 i) (.inr (5, [.int (m_wpl (P1 6 i) (P1 7 i) (I1 (100 + i)) (I1 (200 + i)) (I1 99 0) (I1 50 i)), .long (m_dz (m_low (I1 0 r) (I1 1 r) (J1 1 r)) (J1 1 r) (J1 2 r) (J1 50 i)), .long (m_be (m_low (I1 0 r) (I1 1 r) (J1 1 r)) (J1 51 i)), .ref (AD 6 i), .ref (AD 7 i), .int (nI (P1 6 i)), .int (I1 52 i), .int (m_wwk (P1 6 i) (P1 7 i) (I1 (100 + i)) (I1 99 0))]))) (AD 0 r) = .inr (0, [.int (I1 0 r), .int (I1 1 r), .long (J1 0 r), .long (J1 1 r), .long (J1 2 r), .int (I1 2 r), .int (I1 3 r), .int (I1 4 r)]) := (va_up_ne _ _ ne_AD_0_r_AD_5_i).trans g_17E0
          refine lv_iinc (v := nI (i + 1)) (lv' := [(1, .int (nI (i + 1))), (2, .ref (AD 5 i)), (0, .ref (AD 9 0))]) hx hb d_Sz_movePersons_49 hl (k := 1) rfl (nI_1 i) (by decide) rfl (fun ls hl => ?_)
          refine lv_goto (tgt := 2) hx hb d_Sz_movePersons_52 (by decide) ?_
          have hN0 : CW ct AD L n (wI I1 P1 i) (wJ n I1 J1 P1 i) (wP I1 P1 i) _ := hC.set (k := 5) (i := i) (lv0 (by decide) hi) (co_pe (fun a b h => up_hO a b (by omega)) wJ_hJ (fun a b h => up_hO a b (by omega))) (wP_inv hC.2.2 hi)
          have hN : CW ct AD L n (wI I1 P1 i) (wJ n I1 J1 P1 i) (wP I1 P1 i) (va_up f1 (AD 5 i) (.inr (5, [.int (m_wpl (P1 6 i) (P1 7 i) (I1 (100 + i)) (I1 (200 + i)) (I1 99 0) (I1 50 i)), .long (m_dz (m_low (I1 0 r) (I1 1 r) (J1 1 r)) (J1 1 r) (J1 2 r) (J1 50 i)), .long (m_be (m_low (I1 0 r) (I1 1 r) (J1 1 r)) (J1 51 i)), .ref (AD 6 i), .ref (AD 7 i), .int (nI (P1 6 i)), .int (I1 52 i), .int (m_wwk (P1 6 i) (P1 7 i) (I1 (100 + i)) (I1 99 0))]))) := by
            refine cast (congrArg (CW ct AD L n (wI I1 P1 i) (wJ n I1 J1 P1 i) (wP I1 P1 i)) ?_) hN0
            congr 1
            simp only [cellOf, personE]
            simp [wI, wP, wJ, up2, wwk_eq, wPl, hpl, hcl, hc2]
          exact ih (i + 1) _ _ _ _ _ _ _ (by omega) hN hP hD hS (lv_sub hl [0, 2] rfl) hfin
  exact lp (n 5) 0 I J P f _ _ _ (by omega) hCW hP hD hS (lv_sub hl [0, 1] rfl) rfl
end
section
def sJ1 (n : Nat → Nat) (x : St3) : Nat → Nat → Int64 := bL x.1 x.2.2 (n 2) 0 x.2.1
def sJ2 (n : Nat → Nat) (x : St3) : Nat → Nat → Int64 := vL x.2.2 (n 1) 0 (mL x.1 x.2.2 (n 1) 0 (sJ1 n x))
def sJ3 (n : Nat → Nat) (x : St3) : Nat → Nat → Int64 := fL x.1 x.2.2 (n 3) 0 (sJ2 n x)
def sJ4 (n : Nat → Nat) (x : St3) : Nat → Nat → Int64 := pL (n 0) 0 (sJ3 n x)
def sI1 (n : Nat → Nat) (x : St3) : Nat → Nat → Int32 := tL (sJ4 n x) x.2.2 (n 4) 0 (zL (sJ4 n x) x.2.2 (n 1) 0 (aL (sJ4 n x) (n 0) 0 x.1))
def sW (n : Nat → Nat) (x : St3) : St3 := wL n (n 5) 0 (sI1 n x, sJ4 n x, x.2.2)
def sI3 (n : Nat → Nat) (x : St3) : Nat → Nat → Int32 := nL (sW n x).2.1 (n 0) 0 (sW n x).1
def secS (n : Nat → Nat) (x : St3) : St3 := (up2 (sI3 n x) 99 0 (sI3 n x 99 0 + 1), (sW n x).2.1, (sW n x).2.2)
def secL (n : Nat → Nat) : Nat → St3 → St3
  | 0, x => x
  | k + 1, x => secL n k (secS n x)
def smS (J : Nat → Nat → Int64) : Nat → Nat → Int64 → Int64
  | 0, _, a => a
  | k + 1, i, a => smS J k (i + 1) (a + J 1 i)

set_option maxHeartbeats 4000000 in
set_option maxRecDepth 100000 in
theorem c_Sz_passSecond {l : Launch} {D : va_G} {ct : Nat → ClassId} {AD : Nat → Nat → Nat} {L : List Nat} {f : Nat → va_E} {sz : Nat} {n : Nat → Nat} {I : Nat → Nat → Int32} {J : Nat → Nat → Int64} {P : Nat → Nat → Nat} (hCW : CW ct AD L n I J P f) : Met l y_Sz_passSecond (WS y_Sz_passSecond b_Sz_passSecond 1 none) { frames := 5, cells := 0, slots := 0, locals := 109 } (va_Pc [.ref (AD 9 0)] (WP D (TYS ct) L f sz)) (Xs D (TYS ct) L (AA L f sz) (fun f' => CW ct AD L n (secS n (I, J, P)).1 (secS n (I, J, P)).2.1 (secS n (I, J, P)).2.2 f')) 0 0 (AA L f sz) := by
  refine Met.ofW (cc := b_Sz_passSecond) (maxL := 1) (ret := none) (by decide) rfl ?_
  intro p e s m args below meth c s₁ B hml hv
  obtain ⟨rfl, hsz, hP, hK, hD0⟩ := hv
  subst hsz
  have hx := B.exec
  have hb := B.bytes
  have hret := B.returns
  have hts := atoms_spec (ws := WS y_Sz_passSecond b_Sz_passSecond 1 none) B.pre
  have hG : ∀ w ∈ GW, w.before _ s = true := fun w h => hts w (List.mem_cons_of_mem _ h)
  have hown : s.vm.findClass "SmokeZones" = some m.cls := findClass_of_methodNamed B.named
  have hlocks := B.notSynchronized
  have hD : va_D (AA L f s.heap.size) (va_pl L f) := hD0.self (sz := s.heap.size)
  generalize hAe : AA L f s.heap.size = A at hD ⊢
  have hA : ∀ q : Nat, s.heap.size ≤ q → A q := fun q h => by rw [← hAe]; exact Or.inr h
  have hS : va_S A s.heap s.heap [] := va_S.rf
  have hl := lv_entry ([.ref (AD 9 0)]) (n := 1) (Nat.le_of_ble_eq_true rfl)
  rw [lg_entry_eq]
  generalize (lg_sl ([.ref (AD 9 0)]) ++ List.replicate (1 - (lg_sl ([.ref (AD 9 0)])).length) Slot.unset).toArray = ls at hl ⊢
  have hl : lv_has ls 1 [(0, .ref (AD 9 0))] := hl
  obtain ⟨g0L, g0E⟩ := hCW.ma
  have hC0 := hCW
  refine lv_aload_n hx hb d_Sz_passSecond_0 rfl (lv_at hl 0 rfl) ?_
  refine kV_ws ⟨hx, hb, hml, hown, hG⟩ (c_Sz_burnFires hC0) (cwV 0 hG (gV k438 k440 ks_Sz_burnFires k1 k441) rfl rfl rfl hd_Sz_burnFires ⟨Nat.le_of_ble_eq_true rfl, Nat.le_of_ble_eq_true rfl⟩) hK hP hD hS hA g0L g0E rfl rfl hl.1 rfl (Nat.le_of_ble_eq_true rfl) ⟨Nat.le_of_ble_eq_true rfl, Nat.le_of_ble_eq_true rfl⟩ d_Sz_passSecond_1 (fun f1 H locs hC1 hP hD hS => ?_)
  have hC1 : CW ct AD L n I (sJ1 n (I, J, P)) P f1 := hC1
  obtain ⟨g1L, g1E⟩ := hC1.ma
  refine lv_aload_n hx hb d_Sz_passSecond_4 rfl (lv_at hl 0 rfl) ?_
  refine kV_ws ⟨hx, hb, hml, hown, hG⟩ (c_Sz_flowThroughOpenings hC1) (cwV 0 hG (gV k454 k456 ks_Sz_flowThroughOpenings k1 k457) rfl rfl rfl hd_Sz_flowThroughOpenings ⟨Nat.le_of_ble_eq_true rfl, Nat.le_of_ble_eq_true rfl⟩) hK hP hD hS hA g1L g1E rfl rfl hl.1 rfl (Nat.le_of_ble_eq_true rfl) ⟨Nat.le_of_ble_eq_true rfl, Nat.le_of_ble_eq_true rfl⟩ d_Sz_passSecond_5 (fun f2 H locs hC2 hP hD hS => ?_)
  have hC2 : CW ct AD L n I (sJ2 n (I, J, P)) P f2 := hC2
  obtain ⟨g2L, g2E⟩ := hC2.ma
  refine lv_aload_n hx hb d_Sz_passSecond_8 rfl (lv_at hl 0 rfl) ?_
  refine kV_ws ⟨hx, hb, hml, hown, hG⟩ (c_Sz_blowFans hC2) (cwV 0 hG (gV k499 k501 ks_Sz_blowFans k1 k502) rfl rfl rfl hd_Sz_blowFans ⟨Nat.le_of_ble_eq_true rfl, Nat.le_of_ble_eq_true rfl⟩) hK hP hD hS hA g2L g2E rfl rfl hl.1 rfl (Nat.le_of_ble_eq_true rfl) ⟨Nat.le_of_ble_eq_true rfl, Nat.le_of_ble_eq_true rfl⟩ d_Sz_passSecond_9 (fun f3 H locs hC3 hP hD hS => ?_)
  have hC3 : CW ct AD L n I (sJ3 n (I, J, P)) P f3 := hC3
  obtain ⟨g3L, g3E⟩ := hC3.ma
  refine lv_aload_n hx hb d_Sz_passSecond_12 rfl (lv_at hl 0 rfl) ?_
  refine kV_ws ⟨hx, hb, hml, hown, hG⟩ (c_Sz_pressOutOfRooms hC3) (cwV 0 hG (gV k510 k512 ks_Sz_pressOutOfRooms k1 k513) rfl rfl rfl hd_Sz_pressOutOfRooms ⟨Nat.le_of_ble_eq_true rfl, Nat.le_of_ble_eq_true rfl⟩) hK hP hD hS hA g3L g3E rfl rfl hl.1 rfl (Nat.le_of_ble_eq_true rfl) ⟨Nat.le_of_ble_eq_true rfl, Nat.le_of_ble_eq_true rfl⟩ d_Sz_passSecond_13 (fun f4 H locs hC4 hP hD hS => ?_)
  have hC4 : CW ct AD L n I (sJ4 n (I, J, P)) P f4 := hC4
  obtain ⟨g4L, g4E⟩ := hC4.ma
  refine lv_aload_n hx hb d_Sz_passSecond_16 rfl (lv_at hl 0 rfl) ?_
  refine kV_ws ⟨hx, hb, hml, hown, hG⟩ (c_Sz_warmThings hC4) (cwV 0 hG (gV k519 k521 ks_Sz_warmThings k1 k522) rfl rfl rfl hd_Sz_warmThings ⟨Nat.le_of_ble_eq_true rfl, Nat.le_of_ble_eq_true rfl⟩) hK hP hD hS hA g4L g4E rfl rfl hl.1 rfl (Nat.le_of_ble_eq_true rfl) ⟨Nat.le_of_ble_eq_true rfl, Nat.le_of_ble_eq_true rfl⟩ d_Sz_passSecond_17 (fun f5 H locs hC5 hP hD hS => ?_)
  have hC5 : CW ct AD L n (sI1 n (I, J, P)) (sJ4 n (I, J, P)) P f5 := hC5
  obtain ⟨g5L, g5E⟩ := hC5.ma
  refine lv_aload_n hx hb d_Sz_passSecond_20 rfl (lv_at hl 0 rfl) ?_
  refine kV_ws ⟨hx, hb, hml, hown, hG⟩ (c_Sz_movePersons hC5) (cwV 0 hG (gV k545 k547 ks_Sz_movePersons k1 k548) rfl rfl rfl hd_Sz_movePersons ⟨Nat.le_of_ble_eq_true rfl, Nat.le_of_ble_eq_true rfl⟩) hK hP hD hS hA g5L g5E rfl rfl hl.1 rfl (Nat.le_of_ble_eq_true rfl) ⟨Nat.le_of_ble_eq_true rfl, Nat.le_of_ble_eq_true rfl⟩ d_Sz_passSecond_21 (fun f6 H locs hC6 hP hD hS => ?_)
  have hC6 : CW ct AD L n (sW n (I, J, P)).1 (sW n (I, J, P)).2.1 (sW n (I, J, P)).2.2 f6 := hC6
  obtain ⟨g6L, g6E⟩ := hC6.ma
  refine lv_aload_n hx hb d_Sz_passSecond_24 rfl (lv_at hl 0 rfl) ?_
  refine kV_ws ⟨hx, hb, hml, hown, hG⟩ (c_Sz_noteLowRooms hC6) (cwV 0 hG (gV k563 k565 ks_Sz_noteLowRooms k1 k566) rfl rfl rfl hd_Sz_noteLowRooms ⟨Nat.le_of_ble_eq_true rfl, Nat.le_of_ble_eq_true rfl⟩) hK hP hD hS hA g6L g6E rfl rfl hl.1 rfl (Nat.le_of_ble_eq_true rfl) ⟨Nat.le_of_ble_eq_true rfl, Nat.le_of_ble_eq_true rfl⟩ d_Sz_passSecond_25 (fun f7 H locs hC7 hP hD hS => ?_)
  have hC7 : CW ct AD L n (sI3 n (I, J, P)) (sW n (I, J, P)).2.1 (sW n (I, J, P)).2.2 f7 := hC7
  obtain ⟨g7L, g7E⟩ := hC7.ma
  refine lv_aload_n hx hb d_Sz_passSecond_28 rfl (lv_at hl 0 rfl) ?_
  refine lv_dup hx hb d_Sz_passSecond_29 rfl ?_
  refine pg_get (C := "SmokeZones") (T := T_Sz) (N := 17) hx hb hG in_Sz hown hK hP g7L g7E rfl 12 (by decide) (hG _ k47) (fun _ h9 => h9) rfl d_Sz_passSecond_30 ?_
  refine lv_iconst (v := 1) hx hb d_Sz_passSecond_33 (by decide) ?_
  refine lv_iadd hx hb d_Sz_passSecond_34 ?_
  refine pg_put (C := "SmokeZones") (T := T_Sz) (N := 17) (ty := .int) hx hb hG in_Sz ty_Sz ok_Sz nm_Sz hown hK hP hD hS g7L g7E rfl 12 (by decide) (hG _ k47) (fun _ h9 => h9) rfl (by decide +kernel) rfl rfl (Nat.le_of_ble_eq_true rfl) d_Sz_passSecond_35 (fun H locs hP hD hS => ?_)
  have hP : va_P D vwCl (va_pl (L) (va_up f7 (AD 9 0) (.inr (6, [.ref (AD 8 0), .ref (AD 8 1), .ref (AD 8 2), .ref (AD 8 3), .ref (AD 8 4), .ref (AD 8 5), .int (nI (n 0)), .int (nI (n 1)), .int (nI (n 2)), .int (nI (n 3)), .int (nI (n 4)), .int (nI (n 5)), .int (((sI3 n (I, J, P)) 99 0) + 1), .long ((sW n (I, J, P)).2.1 99 0), .long ((sW n (I, J, P)).2.1 99 1), .long ((sW n (I, J, P)).2.1 99 2), .long ((sW n (I, J, P)).2.1 99 3)])))) H := hP
  have hD : va_D A (va_pl (L) (va_up f7 (AD 9 0) (.inr (6, [.ref (AD 8 0), .ref (AD 8 1), .ref (AD 8 2), .ref (AD 8 3), .ref (AD 8 4), .ref (AD 8 5), .int (nI (n 0)), .int (nI (n 1)), .int (nI (n 2)), .int (nI (n 3)), .int (nI (n 4)), .int (nI (n 5)), .int (((sI3 n (I, J, P)) 99 0) + 1), .long ((sW n (I, J, P)).2.1 99 0), .long ((sW n (I, J, P)).2.1 99 1), .long ((sW n (I, J, P)).2.1 99 2), .long ((sW n (I, J, P)).2.1 99 3)])))) := hD
  have e_1 : (va_up f7 (AD 9 0) (.inr (6, [.ref (AD 8 0), .ref (AD 8 1), .ref (AD 8 2), .ref (AD 8 3), .ref (AD 8 4), .ref (AD 8 5), .int (nI (n 0)), .int (nI (n 1)), .int (nI (n 2)), .int (nI (n 3)), .int (nI (n 4)), .int (nI (n 5)), .int (((sI3 n (I, J, P)) 99 0) + 1), .long ((sW n (I, J, P)).2.1 99 0), .long ((sW n (I, J, P)).2.1 99 1), .long ((sW n (I, J, P)).2.1 99 2), .long ((sW n (I, J, P)).2.1 99 3)]))) (AD 9 0) = .inr (6, [.ref (AD 8 0), .ref (AD 8 1), .ref (AD 8 2), .ref (AD 8 3), .ref (AD 8 4), .ref (AD 8 5), .int (nI (n 0)), .int (nI (n 1)), .int (nI (n 2)), .int (nI (n 3)), .int (nI (n 4)), .int (nI (n 5)), .int (((sI3 n (I, J, P)) 99 0) + 1), .long ((sW n (I, J, P)).2.1 99 0), .long ((sW n (I, J, P)).2.1 99 1), .long ((sW n (I, J, P)).2.1 99 2), .long ((sW n (I, J, P)).2.1 99 3)]) := va_up_self _ _ _
  have hN0 : CW ct AD L n (up2 (sI3 n (I, J, P)) 99 0 (sI3 n (I, J, P) 99 0 + 1)) (sW n (I, J, P)).2.1 (sW n (I, J, P)).2.2 _ := hC7.set (k := 9) (i := 0) lv9 (co_ma (fun a b h => up_hO a b (by omega)) (fun _ _ _ => rfl)) hC7.2.2
  have hN : CW ct AD L n (secS n (I, J, P)).1 (secS n (I, J, P)).2.1 (secS n (I, J, P)).2.2 (va_up f7 (AD 9 0) (.inr (6, [.ref (AD 8 0), .ref (AD 8 1), .ref (AD 8 2), .ref (AD 8 3), .ref (AD 8 4), .ref (AD 8 5), .int (nI (n 0)), .int (nI (n 1)), .int (nI (n 2)), .int (nI (n 3)), .int (nI (n 4)), .int (nI (n 5)), .int (((sI3 n (I, J, P)) 99 0) + 1), .long ((sW n (I, J, P)).2.1 99 0), .long ((sW n (I, J, P)).2.1 99 1), .long ((sW n (I, J, P)).2.1 99 2), .long ((sW n (I, J, P)).2.1 99 3)]))) := by
    refine cast (congrArg (CW ct AD L n _ _ _) ?_) hN0
    simp [cellOf, mainE, up2]
  exact W.vret hx hb hret (fun t ht hW => ⟨⟨_, rfl, hN, by rw [ht]; exact hP, va_K.moved hW.alike hK, hD⟩, hS.F ht⟩) hS.2.2 d_Sz_passSecond_38

set_option maxHeartbeats 4000000 in
set_option maxRecDepth 100000 in
theorem c_Sz_smokeInRooms {l : Launch} {D : va_G} {ct : Nat → ClassId} {AD : Nat → Nat → Nat} {L : List Nat} {f : Nat → va_E} {n : Nat → Nat} {I : Nat → Nat → Int32} {J : Nat → Nat → Int64} {P : Nat → Nat → Nat} {H : Heap} (hCW : CW ct AD L n I J P f) : Met l y_Sz_smokeInRooms (WS y_Sz_smokeInRooms b_Sz_smokeInRooms 4 (some .long)) { frames := 0, cells := 0, slots := 0, locals := 0 } (va_Pc [.ref (AD 9 0)] (RP D (TYS ct) L f H)) (Ql (smS J (n 0) 0 0) H) 0 0 No := by
  refine Met.ofW (cc := b_Sz_smokeInRooms) (maxL := 4) (ret := (some .long)) (by decide) rfl ?_
  intro p e s m args below meth c s₁ B hml hv
  obtain ⟨rfl, hH, hP, hK⟩ := hv
  subst hH
  have hx := B.exec
  have hb := B.bytes
  have hret := B.returns
  have hts := atoms_spec (ws := WS y_Sz_smokeInRooms b_Sz_smokeInRooms 4 (some .long)) B.pre
  have hG : ∀ w ∈ GW, w.before _ s = true := fun w h => hts w (List.mem_cons_of_mem _ h)
  have hown : s.vm.findClass "SmokeZones" = some m.cls := findClass_of_methodNamed B.named
  have hlocks := B.notSynchronized
  have hS : va_S No s.heap s.heap [] := va_S.rf
  have hl := lv_entry ([.ref (AD 9 0)]) (n := 4) (Nat.le_of_ble_eq_true rfl)
  rw [lg_entry_eq]
  generalize (lg_sl ([.ref (AD 9 0)]) ++ List.replicate (4 - (lg_sl ([.ref (AD 9 0)])).length) Slot.unset).toArray = ls at hl ⊢
  have hl : lv_has ls 4 [(0, .ref (AD 9 0))] := hl
  refine lv_lconst (v := 0) hx hb d_Sz_smokeInRooms_0 (by decide) ?_
  refine lv_lstore_n (lv' := [(1, .long 0), (0, .ref (AD 9 0))]) hx hb d_Sz_smokeInRooms_1 rfl hl (by decide) rfl (fun ls hl => ?_)
  refine lv_iconst (v := 0) hx hb d_Sz_smokeInRooms_2 (by decide) ?_
  refine lv_istore_n (lv' := [(3, .int 0), (1, .long 0), (0, .ref (AD 9 0))]) hx hb d_Sz_smokeInRooms_3 rfl hl (by decide) rfl (fun ls hl => ?_)
  have hcap := hCW.cap0
  obtain ⟨g1L, g1E⟩ := hCW.ma
  obtain ⟨g2L, g2E⟩ := hCW.a0
  have lp : ∀ (k i : Nat) (a : Int64) (locs : List Loc) (ls : Array Slot), i + k = n 0 → va_S No s.heap s.heap locs → lv_has ls 4 [(3, .int (nI i)), (1, .long a), (0, .ref (AD 9 0))] → smS J k i a = smS J (n 0) 0 0 → W p l e (headSpec (WS y_Sz_smokeInRooms b_Sz_smokeInRooms 4 (some .long)) { frames := 0, cells := 0, slots := 0, locals := 0 }).room s m [.ref (AD 9 0)].toArray below meth c s.heap locs 0 0 (MQ below (Ql (smS J (n 0) 0 0) s.heap) [.ref (AD 9 0)].toArray s 0 0 No) (F0 m 4 ls []) := by
    intro k
    induction k with
    | zero =>
      intro i a locs ls hik hS hl hfin
      refine lv_iload_n hx hb d_Sz_smokeInRooms_4 rfl (lv_at hl 0 rfl) ?_
      refine lv_aload_n hx hb d_Sz_smokeInRooms_5 rfl (lv_at hl 2 rfl) ?_
      refine pg_get (C := "SmokeZones") (T := T_Sz) (N := 17) hx hb hG in_Sz hown hK hP g1L g1E rfl 6 (by decide) (hG _ k41) (fun _ h9 => h9) rfl d_Sz_smokeInRooms_6 ?_
      refine lv_icmp_ge (tgt := 30) hx hb d_Sz_smokeInRooms_9 (by decide) (fun c_1 => ?_) (fun c_1 => ?_)
      · refine lv_lload_n hx hb d_Sz_smokeInRooms_30 rfl (lv_at hl 1 rfl) ?_
        exact W.lret hx hb hret (fun t ht hW => ⟨⟨_, (), rfl, hfin, ht⟩, hS.F ht⟩) hS.2.2 d_Sz_smokeInRooms_31
      · exact (ge_yes (by omega) (by omega) c_1).elim
    | succ k ih =>
      intro i a locs ls hik hS hl hfin
      have hi : i < n 0 := by omega
      refine lv_iload_n hx hb d_Sz_smokeInRooms_4 rfl (lv_at hl 0 rfl) ?_
      refine lv_aload_n hx hb d_Sz_smokeInRooms_5 rfl (lv_at hl 2 rfl) ?_
      refine pg_get (C := "SmokeZones") (T := T_Sz) (N := 17) hx hb hG in_Sz hown hK hP g1L g1E rfl 6 (by decide) (hG _ k41) (fun _ h9 => h9) rfl d_Sz_smokeInRooms_6 ?_
      refine lv_icmp_ge (tgt := 30) hx hb d_Sz_smokeInRooms_9 (by decide) (fun c_2 => ?_) (fun c_2 => ?_)
      · exact (ge_no hi (by omega) c_2).elim
      · obtain ⟨g_3L, g_3E⟩ := hCW.ro hi
        refine lv_lload_n hx hb d_Sz_smokeInRooms_12 rfl (lv_at hl 1 rfl) ?_
        refine lv_aload_n hx hb d_Sz_smokeInRooms_13 rfl (lv_at hl 2 rfl) ?_
        refine pg_get (C := "SmokeZones") (T := T_Sz) (N := 17) hx hb hG in_Sz hown hK hP g1L g1E rfl 0 (by decide) (hG _ k35) (fun _ h9 => h9) rfl d_Sz_smokeInRooms_14 ?_
        refine lv_iload_n hx hb d_Sz_smokeInRooms_17 rfl (lv_at hl 0 rfl) ?_
        refine pg_ald hx hb hK hP 0 g2L g2E rfl (vp_in_nI (by omega) (by decide)) (rf_at hi (by omega)) d_Sz_smokeInRooms_18 ?_
        refine pg_get (C := "SmokeZones$Room") (T := T_Ro) (N := 8) hx hb hG in_Ro hown hK hP g_3L g_3E rfl 3 (by decide) (hG _ k203) (fun _ h9 => h9) rfl d_Sz_smokeInRooms_19 ?_
        refine lv_ladd hx hb d_Sz_smokeInRooms_22 ?_
        refine lv_lstore_n (lv' := [(1, .long (a + (J 1 i))), (3, .int (nI i)), (0, .ref (AD 9 0))]) hx hb d_Sz_smokeInRooms_23 rfl hl (by decide) rfl (fun ls hl => ?_)
        refine lv_iinc (v := nI (i + 1)) (lv' := [(3, .int (nI (i + 1))), (1, .long (a + (J 1 i))), (0, .ref (AD 9 0))]) hx hb d_Sz_smokeInRooms_24 hl (k := 1) rfl (nI_1 i) (by decide) rfl (fun ls hl => ?_)
        refine lv_goto (tgt := 4) hx hb d_Sz_smokeInRooms_27 (by decide) ?_
        exact ih (i + 1) _ _ _ (by omega) hS (lv_sub hl [0, 1, 2] rfl) hfin
  exact lp (n 0) 0 0 _ _ (by omega) hS (lv_sub hl [0, 1, 2] rfl) rfl
end
section
/-! the public methods: their contracts' form; a new thing in the class's world -/
def MP (D : va_G) (ct : Nat → ClassId) (L : List Nat) (f : Nat → va_E) (sa sb sz : Nat) (U : State) : Prop := U.heap.size = sz ∧ va_P D vwCl (va_pl L f) U.heap ∧ va_K D vwCl (TYS ct) U ∧ va_D (fun _ => True) (va_pl L f) ∧ EX (AA L f sz) sa sb U U.heap
abbrev CSt : Type := (Nat → Nat → Nat) × List Nat × (Nat → va_E)
abbrev XE (D : va_G) (ct : Nat → ClassId) (L : List Nat) (f : Nat → va_E) (A : Nat → Prop) (kd : Int32) : String → State → State → Prop := vx_X (fun _ : Unit => True) (fun E _ t => ((kd = 1 ∧ E = IAE) ∨ (kd = 2 ∧ E = ISE)) ∧ WQ D (TYS ct) L f A t) A
theorem P_keep {D : va_G} {cl : List vw_C} {ws : va_W} {H H1 : Heap} (hP : va_P D cl ws H) (hk : ∀ q : Nat, q < H.size → H1[q]? = H[q]?) : va_P D cl ws H1 := hP.kept (fun k q hq => hk q.1 (hP k q hq).lt)
theorem num_of {v : Int32} {n : Nat} (h : 0 ≤ v ∧ v < nI n) (hn : n ≤ 100) : ∃ r, r < n ∧ v = nI r := by
  obtain ⟨r, hr, q⟩ := nI_of (Int32.not_lt.mpr h.1)
  subst q
  refine ⟨r, ?_, rfl⟩
  rcases Nat.lt_or_ge r n with g | g
  · exact g
  · exact absurd h.2 (Int32.not_lt.mpr (nI_le g hr))
theorem btw_of {v : Int32} {k : Nat} (hk : k ≤ 1000000) (h : 0 ≤ v ∧ v ≤ nI k) : ∃ r, r < k + 1 ∧ v = nI r := by
  obtain ⟨r, hr, q⟩ := nI_of (Int32.not_lt.mpr h.1)
  subst q
  refine ⟨r, ?_, rfl⟩
  rcases Nat.lt_or_ge r (k + 1) with g | g
  · exact g
  · exact absurd h.2 (Int32.not_le.mpr (nI_lt g hr))
theorem nI_lt_of {a b : Nat} (ha : a ≤ 100) (hb : b ≤ 100) (h : nI a < nI b) : a < b := (nI_ltI (by omega) (by omega)).mp h
section PUSH
variable {ct : Nat → ClassId} {AD : Nat → Nat → Nat} {L : List Nat} {n : Nat → Nat} {I I' : Nat → Nat → Int32} {J J' : Nat → Nat → Int64} {P P' : Nat → Nat → Nat} {f f' : Nat → va_E}
theorem rf_push {n k q : Nat} {a : Nat → Nat} (hn : n ≤ 100) : va_up (fun j => if j < n then some (a j) else none) (nI n).toNatClampNeg (some q) = (fun j => if j < n + 1 then some (va_up a n q j) else none) := by
  rw [nI_clamp (by omega)]
  funext j
  by_cases h : j = n
  · subst h
    simp [va_up]
  · by_cases h2 : j < n
    · simp [va_up, h, h2, Nat.lt_succ_of_lt h2]
    · have h3 : ¬ j < n + 1 := by omega
      simp [va_up, h, h2, h3]
theorem CW.push (h : CW ct AD L n I J P f) {k q : Nat} (hk : k ≤ 4) (hq : q ∉ L)
    (hold : ∀ k' i', k' ≤ 7 → live n k' i' → cellOf ct (up2 AD k (n k) q) (va_up n k (n k + 1)) I' J' P' k' i' = cellOf ct AD n I J P k' i')
    (hnew : f' q = cellOf ct (up2 AD k (n k) q) (va_up n k (n k + 1)) I' J' P' k (n k))
    (harr : f' (AD 8 k) = cellOf ct (up2 AD k (n k) q) (va_up n k (n k + 1)) I' J' P' 8 k)
    (hmain : f' (AD 9 0) = cellOf ct (up2 AD k (n k) q) (va_up n k (n k + 1)) I' J' P' 9 0)
    (hoth : ∀ a, a ≠ q → a ≠ AD 8 k → a ≠ AD 9 0 → f' a = f a) (hI : CInv (va_up n k (n k + 1)) P') :
    CW ct (up2 AD k (n k) q) (L ++ [q]) (va_up n k (n k + 1)) I' J' P' f' := by
  have hAD : ∀ k' i', live n k' i' → up2 AD k (n k) q k' i' = AD k' i' := fun k' i' hl => up2_ne _ _ _ _ (fun e => by
    obtain ⟨rfl, rfl⟩ := e
    rcases hl with ⟨_, h1⟩ | ⟨h1, _⟩ | ⟨h1, _⟩ | ⟨h1, _⟩ | ⟨h1, _⟩ <;> omega)
  have hlive : ∀ k' i', live (va_up n k (n k + 1)) k' i' → (k' = k ∧ i' = n k) ∨ live n k' i' := by
    intro k' i' hl
    have h5 : va_up n k (n k + 1) 5 = n 5 := va_up_ne _ _ (by omega)
    rcases hl with ⟨h1, h2⟩ | ⟨h1, h2⟩ | ⟨h1, h2⟩ | h2 | h2
    · by_cases e : k' = k
      · subst e
        rw [va_up_self] at h2
        by_cases e2 : i' = n k'
        · exact Or.inl ⟨rfl, e2⟩
        · exact Or.inr (Or.inl ⟨h1, by omega⟩)
      · rw [va_up_ne _ _ e] at h2
        exact Or.inr (Or.inl ⟨h1, h2⟩)
    · rw [h5] at h2; exact Or.inr (Or.inr (Or.inl ⟨h1, h2⟩))
    · rw [h5] at h2; exact Or.inr (Or.inr (Or.inr (Or.inl ⟨h1, h2⟩)))
    · exact Or.inr (Or.inr (Or.inr (Or.inr (Or.inl h2))))
    · exact Or.inr (Or.inr (Or.inr (Or.inr (Or.inr h2))))
  have hne : ∀ k' i', live n k' i' → AD k' i' ≠ q := fun k' i' hl e => hq (e ▸ (h.1 k' i' hl).1)
  refine ⟨fun k' i' hl => ?_, fun k1 i1 k2 i2 l1 l2 e => ?_, hI⟩
  · rcases hlive k' i' hl with ⟨rfl, rfl⟩ | hl0
    · rw [up2_at]
      exact ⟨List.mem_append_right _ (List.mem_singleton.mpr rfl), hnew⟩
    · rw [hAD k' i' hl0]
      refine ⟨List.mem_append_left _ (h.1 k' i' hl0).1, ?_⟩
      by_cases e8 : k' = 8 ∧ i' = k
      · obtain ⟨rfl, rfl⟩ := e8
        exact harr
      · by_cases e9 : k' = 9
        · have e0 : i' = 0 := by rcases hl0 with ⟨a, _⟩ | ⟨a, _⟩ | ⟨a, _⟩ | ⟨a, _⟩ | ⟨_, b⟩ <;> omega
          subst e9; subst e0
          exact hmain
        · rw [hoth _ (hne k' i' hl0) (h.ne hl0 (lv8 (by omega)) e8) (h.ne hl0 lv9 (by omega)), (h.1 k' i' hl0).2]
          by_cases e8b : k' = 8
          · subst e8b
            have hik : i' ≠ k := fun e => e8 ⟨rfl, e⟩
            simp only [cellOf]
            rw [va_up_ne _ _ hik]
            have : up2 AD k (n k) q i' = AD i' := funext fun j => up2_ne _ _ _ _ (by omega)
            rw [this]
          · have h7 : k' ≤ 7 := by rcases hl0 with ⟨a, _⟩ | ⟨a, _⟩ | ⟨a, _⟩ | ⟨a, _⟩ | ⟨a, _⟩ <;> omega
            exact (hold k' i' h7 hl0).symm
  · rcases hlive k1 i1 l1 with ⟨rfl, rfl⟩ | m1 <;> rcases hlive k2 i2 l2 with ⟨rfl, rfl⟩ | m2
    · exact ⟨rfl, rfl⟩
    · rw [up2_at, hAD k2 i2 m2] at e; exact absurd e.symm (hne k2 i2 m2)
    · rw [up2_at, hAD k1 i1 m1] at e; exact absurd e (hne k1 i1 m1)
    · rw [hAD k1 i1 m1, hAD k2 i2 m2] at e; exact h.2.1 k1 i1 k2 i2 m1 m2 e
end PUSH
end
